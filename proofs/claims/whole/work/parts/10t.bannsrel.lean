/-! Pure: banns alike -/
theorem evL_cg {fc fc' : Int32 → Int32} (h : ∀ w, ¬ isOp w = true → ¬ 0 ≤ w → fc w = fc' w) : ∀ (l st : List Int32), evL fc l st = evL fc' l st
  | [], _ => rfl
  | w :: c, st => by
    have e : evS fc w st = evS fc' w st := by
      unfold evS
      by_cases h1 : isOp w = true
      · rw [if_pos h1, if_pos h1]
      · rw [if_neg h1, if_neg h1]
        by_cases h2 : 0 ≤ w
        · rw [if_pos h2, if_pos h2]
        · rw [if_neg h2, if_neg h2, h w h1 h2]
    rw [evL, evL, e]
    exact evL_cg h c _
section BNR
variable {a : IA} {T nc ns ng s t q p : Nat} {w : Int32} {lw : List Int32}
theorem tw_fact (h : Tw a T nc ns ng) (hR : Rw ns (a (q + 1)) (a p)) (hs : s < ns) (ht : t < ns) (h1 : ¬ isOp w = true) (h2 : ¬ 0 ≤ w) : lwFact a T q (nI s) (nI t) w = mFc a p s t w := by
  have h8 := h.1.2.2.2.1
  have es := h.2.2.2.2.2.1 s hs
  have et := h.2.2.2.2.2.1 t ht
  have r40 : rAt (a (q + 1)) 42 40 = a p 40 := (rAt_nI (k := 40) _ (by decide) (by decide)).trans hR.1.2.2.2.2.2.1
  have n : ∀ {k : Int32}, isOp k = true → ¬ w = k := fun hk e => h1 (by rw [e]; exact hk)
  unfold lwFact mFc rcode
  rw [r40, rAt_nI _ (by decide) (by omega), rAt_nI _ (by decide) (by omega), rAt_nI _ (by decide) (by omega), rAt_nI _ (by decide) (by omega), es.2.2.1, et.2.2.1, es.2.2.2.2, et.2.2.2.2, tw_common h hs ht, tw_likes h (by omega) (by omega), tw_likes h (by omega) (by omega), kT (by omega), kT (by omega), kH (by omega), kH (by omega),
    hR.1.2.2.2.1 s (by omega), hR.1.2.2.2.1 t (by omega), hR.1.2.2.2.2.1 s (by omega), hR.1.2.2.2.2.1 t (by omega)]
  rw [if_neg h2, if_neg (n (k := -1) (by decide)), if_neg (n (k := -2) (by decide)), if_neg (n (k := -3) (by decide)), if_neg (n (k := -4) (by decide)), if_neg (n (k := -5) (by decide)), if_neg (n (k := -6) (by decide))]
  by_cases c7 : w = -7
  · subst c7; rfl
  by_cases c8 : w = -8
  · subst c8; rfl
  by_cases c9 : w = -9
  · subst c9; rfl
  by_cases c10 : w = -10
  · subst c10; rfl
  by_cases c11 : w = -11
  · subst c11; rfl
  by_cases c12 : w = -12
  · subst c12; rfl
  by_cases c13 : w = -13
  · subst c13; rfl
  by_cases c14 : w = -14
  · subst c14; rfl
  simp only [if_neg c7, if_neg c8, if_neg c9, if_neg c10, if_neg c11, if_neg c12, if_neg c13, if_neg c14]
  rfl
theorem tw_hind (h : Tw a T nc ns ng) (hR : Rw ns (a (q + 1)) (a p)) (hs : s < ns) (ht : t < ns) : lwHind a T q lw (nI s) (nI t) = mBan a p lw s t := by
  have h8 := h.1.2.2.2.1
  unfold lwHind mBan
  rw [tw_never h (by omega) (by omega)]
  have ev : lwVal (lwFact a T q (nI s) (nI t)) lw = lwVal (mFc a p s t) lw := by
    unfold lwVal
    rw [evL_cg (fun w h1 h2 => tw_fact h hR hs ht h1 h2)]
  rw [ev]
  by_cases c : s = t
  · rw [if_pos c, if_pos (by rw [c])]
  · rw [if_neg c, if_neg (show ¬ nI s = nI t from fun z => c ((nI_eq (show s < 2 ^ 31 by omega) (by omega)).mp z))]
    by_cases c2 : a (132 + 1 + s) t = 1
    · rw [if_pos c2, if_pos c2, if_pos rfl]
    · rw [if_neg c2, if_neg c2, if_neg (by decide)]
end BNR
