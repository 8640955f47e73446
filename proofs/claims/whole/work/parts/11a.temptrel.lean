/-! Pure: tempted alike -/
theorem tp2_cg {p p' : Nat → Nat → Bool} {s : Nat} : ∀ (c k : Nat), (∀ j, k ≤ j → j < k + c → p s j = p' s j) → tp2 p s c k = tp2 p' s c k
  | 0, _, _ => rfl
  | c + 1, k, h => by
    rw [tp2, tp2, h k (Nat.le_refl _) (by omega), tp2_cg c (k + 1) (fun j h1 h2 => h j (by omega) (by omega))]
theorem tp1_cg {p p' : Nat → Nat → Bool} {n : Nat} (h : ∀ s t, s < t → t < n → p s t = p' s t) : ∀ (c k : Nat), k + c ≤ n → tp1 p n c k = tp1 p' n c k
  | 0, _, _ => rfl
  | c + 1, k, hk => by
    rw [tp1, tp1, tp2_cg (n - (k + 1)) (k + 1) (fun j h1 h2 => h k j (by omega) (by omega)), tp1_cg h c (k + 1) (by omega)]
section TMP
variable {a : IA} {T nc ns ng s t : Nat} {lw : List Int32}
theorem tw_fTm (h : Tw a T nc ns ng) (hR : Rw ns (a 44) (a 582)) (hs : s < ns) (ht : t < ns) : fTm a T lw (nI s) (nI t) = mTempt a (a 582) lw s t := by
  have h8 := h.1.2.2.2.1
  have hm := wfM_Q hR.2.1 h8
  unfold fTm mTempt
  rw [kM (by omega), kM (by omega), hR.1.1 s (by omega), hR.1.1 t (by omega), tw_heat h hs (hm s hs), tw_heat h ht (hm t ht), tw_likes h (by omega) (by omega), tw_likes h (by omega) (by omega), tw_hind (q := 43) (p := 582) h hR hs ht]
  generalize decide (¬ a 582 s = nI t) = b1
  generalize decide (¬ a (114 + 1 + s) t ≤ mHeat a (a 582) s) = b2
  generalize decide (¬ a (114 + 1 + t) s ≤ mHeat a (a 582) t) = b3
  generalize decide (mBan a 582 lw s t = 0) = b4
  cases b1 <;> cases b2 <;> cases b3 <;> cases b4 <;> rfl
theorem tw_tempted (h : Tw a T nc ns ng) (hR : Rw ns (a 44) (a 582)) : tp1 (fun s o => fTm a T lw (nI s) (nI o)) ns ns 0 = tp1 (mTempt a (a 582) lw) ns ns 0 :=
  tp1_cg (fun s t h1 h2 => tw_fTm h hR (by omega) h2) ns 0 (by omega)
end TMP
