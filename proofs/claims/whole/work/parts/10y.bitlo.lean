/-! Pure: which bits stand -/
theorem bitsLo_bit {p : Nat → Bool} {r : Nat} (hr : r < 32) : ∀ (c i : Nat) (x : Int32), i + c ≤ 32 → (((bitsLo p c i x >>> (nI r &&& 31)) &&& 1 = 1) ↔ ((x >>> (nI r &&& 31)) &&& 1 = 1 ∨ (i ≤ r ∧ r < i + c ∧ p r = true)))
  | 0, i, x, _ => by
    rw [bitsLo]
    exact ⟨Or.inl, fun h => h.elim id (fun z => absurd z.2.1 (by omega))⟩
  | c + 1, i, x, h => by
    rw [bitsLo, bitsLo_bit hr c (i + 1) _ (by omega)]
    by_cases hp : p i = true
    · rw [if_pos hp, bit_or (by omega) hr]
      constructor
      · rintro ((z | z) | z)
        · exact Or.inl z
        · exact Or.inr ⟨by omega, by omega, by rw [z]; exact hp⟩
        · exact Or.inr ⟨by omega, by omega, z.2.2⟩
      · rintro (z | z)
        · exact Or.inl (Or.inl z)
        · by_cases e : r = i
          · exact Or.inl (Or.inr e)
          · exact Or.inr ⟨by omega, by omega, z.2.2⟩
    · rw [if_neg hp]
      constructor
      · rintro (z | z)
        · exact Or.inl z
        · exact Or.inr ⟨by omega, by omega, z.2.2⟩
      · rintro (z | z)
        · exact Or.inl z
        · by_cases e : r = i
          · rw [e] at z; exact absurd z.2.2 hp
          · exact Or.inr ⟨by omega, by omega, z.2.2⟩
section BLO
variable {a : IA} {T nc ns ng s t q p : Nat} {lw : List Int32}
theorem no_bit (r : Nat) (hr : r < 32) : ¬ (((0 : Int32) >>> (nI r &&& 31)) &&& 1 = 1) := by
  rw [bGet hr]
  intro h
  have : (0 : Int32).toBitVec = 0#32 := rfl
  rw [this, BitVec.getLsbD_zero] at h
  cases h
theorem tw_alw (h : Tw a T nc ns ng) (hR : Rw ns (a 44) (a 582)) (hs : s < ns) (ht : t < ns) (hst : s < t) : alwC (mayR a T lw ns ns) s t = mAlw a lw s t := by
  have h8 := h.1.2.2.2.1
  have hh := tw_hind (q := 43) (p := 582) (lw := lw) h hR hs ht
  unfold alwC mayR mAlw mayC mFr
  rw [if_pos hs, kM (by omega), hR.1.1 s (by omega), ← hh]
  by_cases c : a 582 s = -1
  · rw [if_pos c]
    have := bitsLo_bit (p := fun r => decide (lfMate (a 44) (nI r) = -1) && decide (lwHind a T 43 lw (nI s) (nI r) = 0)) (r := t) (by omega) (ns - (s + 1)) (s + 1) 0 (by omega)
    rw [decide_eq_decide.mpr this, decide_eq_true c]
    have hm : lfMate (a 44) (nI t) = a 582 t := (kM (by omega)).trans (hR.1.1 t (by omega))
    rw [← hm]
    rcases Bool.eq_false_or_eq_true (decide (lfMate (a 44) (nI t) = -1) && decide (lwHind a T 43 lw (nI s) (nI t) = 0)) with hb | hb
    · rw [decide_eq_true (Or.inr ⟨by omega, by omega, hb⟩), hb]; rfl
    · rw [decide_eq_false (fun z => z.elim (no_bit t (by omega)) (fun y => by have y2 := y.2.2; rw [hb] at y2; cases y2)), hb]; rfl
  · rw [if_neg c, decide_eq_false (no_bit t (by omega)), decide_eq_false c]
    rfl
end BLO
