/-! Pure: all matchings, judged alike -/
theorem wfQ_upd {ns s r : Nat} {m : Nat → Int32} (h : wfQ ns m) (hs : s < 8) (hr : r < 8) : wfQ ns (upd (upd m s (nI r)) r (nI s)) := by
  intro k hk
  by_cases c1 : k = r
  · right; rw [c1, upd_eq]; exact ⟨s, hs, rfl⟩
  · rw [upd_ne c1]
    by_cases c2 : k = s
    · right; rw [c2, upd_eq]; exact ⟨r, hr, rfl⟩
    · rw [upd_ne c2]; exact h k hk
theorem fM_cg {χ : Type} {alw alw' : Nat → Nat → Bool} {ns n : Nat} {jd jd' : (Nat → Int32) → χ → χ} (hn : n ≤ 8) (hj : ∀ m x, wfQ ns m → jd m x = jd' m x) (ha : ∀ s r, s < n → r < n → s < r → alw s r = alw' s r) :
    ∀ (t s : Nat) (m : Nat → Int32) (x : χ), s + t = n → wfQ ns m → fM alw n jd t s m x = fM alw' n jd' t s m x
  | 0, _, m, x, _, hm => hj m x hm
  | t + 1, s, m, x, hs, hm => by
    rw [fM, fM]
    by_cases c : m s = -1
    · rw [if_pos c, if_pos c, fM_cg hn hj ha t (s + 1) m x (by omega) hm]
      refine lpM_cg _ _ _ (fun r y h1 h2 => ?_)
      show (if alw s r = true ∧ m r = -1 then _ else _) = (if alw' s r = true ∧ m r = -1 then _ else _)
      rw [ha s r (by omega) (by omega) (by omega), fM_cg hn hj ha t (s + 1) _ y (by omega) (wfQ_upd hm (by omega) (by omega))]
    · rw [if_neg c, if_neg c]
      exact fM_cg hn hj ha t (s + 1) m x (by omega) hm
