/-! Pure: the first row of a city -/
section BGN
variable {a : IA} {T nc ns ng s t k m : Nat} {w : Int32} {f g : Nat → Int32}
theorem lfBegin_v (f : Nat → Int32) : ∀ k, k ≤ 8 → ∀ j, lfBegin a T f k j = if j < k then -1 else if 24 ≤ j ∧ j < 24 + k then ctFirst a T (nI (j - 24)) else f j
  | 0, _, j => by
    rw [lfBegin, if_neg (by omega), if_neg (by omega)]
  | k + 1, hk, j => by
    have ih := lfBegin_v f k (by omega) j
    rw [lfBegin, o0, o24, rPut_nI _ (by decide) (by omega), rPut_nI _ (by decide) (by omega)]
    by_cases c1 : j = 24 + k
    · subst c1
      rw [upd_eq, if_neg (by omega), if_pos (by omega), show 24 + k - 24 = k by omega]
    · rw [upd_ne c1]
      by_cases c2 : j = k
      · subst c2
        rw [upd_eq, if_pos (by omega)]
      · rw [upd_ne c2, ih]
        by_cases c3 : j < k
        · rw [if_pos c3, if_pos (by omega)]
        · rw [if_neg c3, if_neg (show ¬ j < k + 1 by omega)]
          by_cases c4 : 24 ≤ j ∧ j < 24 + k
          · rw [if_pos c4, if_pos (by omega)]
          · rw [if_neg c4, if_neg (by omega)]
theorem rw_begin {F : Nat → Int32} (h : Tw a T nc ns ng) (hF : ∀ j, j < 42 → F j = 0) (hg : ∀ j, j < 42 → g j = if j < 8 then -1 else if 24 ≤ j ∧ j < 24 + ns then a (96 + 1 + (j - 24)) 3 else 0) : Rw ns (lfBegin a T F 8) g := by
  have h8 := h.1.2.2.2.1
  have m0 : ∀ s, s < 8 → g s = -1 := fun s hs => by rw [hg s (by omega), if_pos hs]
  have z0 : ∀ j, 8 ≤ j → j < 42 → ¬ (24 ≤ j ∧ j < 32) → g j = 0 := fun j h1 h2 h3 => by rw [hg j h2, if_neg (by omega), if_neg (by omega)]
  have fz : ∀ j, 8 ≤ j → j < 42 → ¬ (24 ≤ j ∧ j < 32) → lfBegin a T F 8 j = 0 := fun j h1 h2 h3 => by rw [lfBegin_v F 8 (Nat.le_refl _), if_neg (by omega), if_neg (by omega)]; exact hF j h2
  refine ⟨⟨fun k hk => ?_, fun k hk => ?_, fun k hk => ?_, fun k hk => ?_, fun k hk => ?_, ?_, ?_⟩, fun k hk => Or.inl (m0 k (by omega)), fun k hk hk8 => ⟨m0 k hk8, z0 _ (by omega) (by omega) (by omega), z0 _ (by omega) (by omega) (by omega), ?_⟩, fun k j hk hj he => ?_, fun k hk => ⟨0, by omega, z0 _ (by omega) (by omega) (by omega)⟩, ⟨0, by omega, z0 40 (by omega) (by omega) (by omega)⟩⟩
  · rw [m0 k hk, lfBegin_v F 8 (Nat.le_refl _), if_pos hk]
  · rw [m0 k hk, roC_m, fz _ (by omega) (by omega) (by omega)]
  · rw [fz _ (by omega) (by omega) (by omega), z0 _ (by omega) (by omega) (by omega)]
  · rw [lfBegin_v F 8 (Nat.le_refl _), if_neg (by omega), if_pos (by omega), show 24 + k - 24 = k by omega, hg _ (by omega), if_neg (by omega)]
    by_cases c : k < ns
    · rw [if_pos (by omega), show 24 + k - 24 = k by omega]; exact tw_first h c
    · rw [if_neg (by omega)]; exact tw_first0 h (by omega) hk
  · rw [fz _ (by omega) (by omega) (by omega), z0 _ (by omega) (by omega) (by omega)]
  · rw [fz 40 (by omega) (by omega) (by omega), z0 40 (by omega) (by omega) (by omega)]
  · rw [fz 41 (by omega) (by omega) (by omega), z0 41 (by omega) (by omega) (by omega)]
  · rw [hg _ (by omega), if_neg (by omega), if_neg (by omega)]
  · rw [m0 k (by omega)] at he
    exact absurd he.symm (nI_n1 (by omega))
end BGN
