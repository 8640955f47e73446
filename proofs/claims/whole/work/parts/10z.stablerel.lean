/-! Pure: stable alike -/
theorem allB_cg {p p' : Nat → Bool} : ∀ (c i : Nat), (∀ j, i ≤ j → j < i + c → p j = p' j) → allB p c i = allB p' c i
  | 0, _, _ => rfl
  | c + 1, i, h => by
    rw [allB, allB, h i (Nat.le_refl _) (by omega), allB_cg c (i + 1) (fun j h1 h2 => h j (by omega) (by omega))]
section STB
variable {a : IA} {T nc ns ng s t q p : Nat} {lw : List Int32} {m : Nat → Int32}
theorem tw_prf (h : Tw a T nc ns ng) (hm : wfQ ns m) (hs : s < ns) (ht : t < ns) : prfC a T m s t = decide (¬ a (114 + 1 + s) t ≤ mHeat a m s) := by
  have h8 := h.1.2.2.2.1
  unfold prfC
  rw [tw_heat h hs (hm s hs), tw_likes h (by omega) (by omega)]
theorem tw_ok (h : Tw a T nc ns ng) (hR : Rw ns (a 44) (a 582)) (hm : wfQ ns m) (hs : s < ns) (ht : t < ns) (hst : s < t) : okP a T (mayR a T lw ns ns) m s t = mOkP a lw m s t := by
  have h8 := h.1.2.2.2.1
  unfold okP mOkP
  rw [tw_alw h hR hs ht hst, tw_prf h hm hs ht, tw_prf h hm ht hs]
  unfold mAlw mTempt
  by_cases c : m s = nI t
  · have e : mHeat a m s = a (114 + 1 + s) t := by
      unfold mHeat
      rw [c, if_neg (nI_n1 (by omega)), nI_clamp (by omega)]
    rw [e, decide_eq_false (show ¬ ¬ a (114 + 1 + s) t ≤ a (114 + 1 + s) t from fun z => z (Int32.le_refl _)), decide_eq_false (show ¬ ¬ m s = nI t from fun z => z c)]
    simp only [Bool.and_false, Bool.false_and]
  · rw [decide_eq_true (show ¬ m s = nI t from c), Bool.true_and]
    simp only [Bool.and_assoc]
theorem tw_sta (h : Tw a T nc ns ng) (hR : Rw ns (a 44) (a 582)) (hm : wfQ ns m) : sfC a T ns (mayR a T lw ns ns) m = mSta2 a lw ns m := by
  unfold sfC mSta2
  refine allB_cg _ _ (fun s h1 h2 => allB_cg _ _ (fun t h3 h4 => ?_))
  exact tw_ok h hR hm (by omega) (by omega) (by omega)
end STB
