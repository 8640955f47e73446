/-! Pure: the judged matchings alike -/
theorem lpM_rel {χ χ' : Type} {R : χ → χ' → Prop} {g : Nat → χ → χ} {g' : Nat → χ' → χ'} : ∀ (c i : Nat) (x : χ) (y : χ'), R x y → (∀ j x y, i ≤ j → j < i + c → R x y → R (g j x) (g' j y)) → R (lpM g c i x) (lpM g' c i y)
  | 0, _, _, _, h, _ => h
  | c + 1, i, x, y, h, hg => lpM_rel c (i + 1) _ _ (hg i x y (Nat.le_refl _) (by omega) h) (fun j x y h1 h2 h3 => hg j x y (by omega) (by omega) h3)
theorem fM_rel {χ χ' : Type} {R : χ → χ' → Prop} {alw alw' : Nat → Nat → Bool} {ns n : Nat} {jd : (Nat → Int32) → χ → χ} {jd' : (Nat → Int32) → χ' → χ'} (hn : n ≤ 8)
    (hj : ∀ m m' x y, wfQ ns m → (∀ j, j < 8 → m j = m' j) → R x y → R (jd m x) (jd' m' y)) (ha : ∀ s r, s < n → r < n → s < r → alw s r = alw' s r) :
    ∀ (t s : Nat) (m m' : Nat → Int32) (x : χ) (y : χ'), s + t = n → wfQ ns m → (∀ j, j < 8 → m j = m' j) → R x y → R (fM alw n jd t s m x) (fM alw' n jd' t s m' y)
  | 0, _, m, m', x, y, _, hm, he, hr => hj m m' x y hm he hr
  | t + 1, s, m, m', x, y, hs, hm, he, hr => by
    rw [fM, fM, ← he s (by omega)]
    by_cases c : m s = -1
    · rw [if_pos c, if_pos c]
      refine lpM_rel _ _ _ _ (fM_rel hn hj ha t (s + 1) m m' x y (by omega) hm he hr) (fun r x y h1 h2 h3 => ?_)
      show R (if alw s r = true ∧ m r = -1 then _ else _) (if alw' s r = true ∧ m' r = -1 then _ else _)
      rw [ha s r (by omega) (by omega) (by omega), ← he r (by omega)]
      by_cases cc : alw' s r = true ∧ m r = -1
      · rw [if_pos cc, if_pos cc]
        refine fM_rel hn hj ha t (s + 1) _ _ x y (by omega) (wfQ_upd hm (by omega) (by omega)) (fun j hj8 => ?_) h3
        unfold upd
        rw [he j hj8]
      · rw [if_neg cc, if_neg cc]; exact h3
    · rw [if_neg c, if_neg c]
      exact fM_rel hn hj ha t (s + 1) m m' x y (by omega) hm he hr
