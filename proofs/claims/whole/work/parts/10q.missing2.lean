/-! Pure: missing numbers alike, the whole -/
theorem two_h : ∀ H, H ≤ 20 → 1 ≤ H → 2 * nI H - 1 = nI (2 * H - 1) ∧ 2 * nI H = nI (2 * H) := by decide +kernel
theorem max_nI {x y : Nat} (hx : x ≤ 40) (hy : y ≤ 40) : (if nI x ≤ nI y then nI y else nI x) = nI (max x y) := by
  by_cases h : x ≤ y
  · rw [if_pos (nI_le h (by omega)), Nat.max_eq_right h]
  · rw [if_neg (show ¬ nI x ≤ nI y from fun z => h ((nI_leI (by omega) (show y < 2 ^ 31 by omega)).mp z)), Nat.max_eq_left (by omega)]
section MI2
variable {a : IA} {T nc ns ng s t k m : Nat} {w : Int32}
theorem tw_missing {n : Nat} (h : Tw a T nc ns ng) (hR : Rw ns (a 44) (a 582)) (hH : Hs a ns) (hs : s < ns) (hn : n ≤ 40) (hl : mLastOf a s = nI n) : fMissing a T (nI s) = mMis a s n 1 0 := by
  have h8 := h.1.2.2.2.1
  have e := h.2.2.2.2.2.1 s hs
  obtain ⟨H1, hA1, hB1, e1⟩ := hH s hs
  unfold fMissing
  rw [tw_last h hR hs, hl, kM (by omega), hR.1.1 s (by omega), rAt_nI _ (by decide) (by omega), e.2.2.1, e1]
  rcases hR.2.1 s hs with h0 | ⟨m, hm, hne, q1, q2⟩
  · rw [if_pos h0, Int32.add_zero]
    have g1 : mHow a s = nI 0 := by unfold mHow; rw [if_pos h0]; rfl
    have hl2 : mLastOf a s = nI H1 := by
      unfold mLastOf mNumOf mNumBy
      rw [if_pos h0, g1, e1]
      rfl
    rw [hl] at hl2
    obtain rfl := (nI_eq (by omega) (by omega)).mp hl2
    rw [Int32.sub_self, show (0 : Int32) = nI 0 from rfl, mis_1 (by omega) h0 hB1 e1 n 1 0 (by omega), misS_all n hB1]
  · obtain ⟨H2, hA2, hB2, e2⟩ := hH m hm
    have em := h.2.2.2.2.2.1 m hm
    have hn1 : ¬ a 582 s = -1 := by rw [q1]; exact nI_n1 (by omega)
    have hn2 : ¬ a 582 m = -1 := by rw [q2]; exact nI_n1 (by omega)
    rw [if_neg hn1, q1, rAt_nI _ (by decide) (by omega), em.2.2.1, e2, nI_add]
    have t1 := two_h H1 hB1 hA1
    have t2 := two_h H2 hB2 hA2
    have lst : mLastOf a s = if mNumOf a s ≤ mNumOf a m then mNumOf a m else mNumOf a s := by
      unfold mLastOf
      rw [if_neg hn1, q1, nI_clamp (by omega)]
    rcases (hR.2.2.2.1 s m hs hm q1).1 with ⟨z1, z2⟩ | ⟨z1, z2⟩
    · have g1 : mHow a s = nI 1 := by unfold mHow; rw [if_neg hn1, if_pos z1]; rfl
      have g2 : mHow a m = nI 2 := by unfold mHow; rw [if_neg hn2, if_neg (by rw [z2]; decide)]; rfl
      have n1 : mNumOf a s = nI (2 * H1 - 1) := by rw [← t1.1]; unfold mNumOf; rw [g1, e1]; rfl
      have n2 : mNumOf a m = nI (2 * H2) := by rw [← t2.2]; unfold mNumOf; rw [g2, e2]; rfl
      rw [n1, n2, max_nI (by omega) (by omega), hl] at lst
      obtain rfl := (nI_eq (by omega) (by omega)).mp lst
      have key := misN_12 H1 hB1 H2 hB2 hA1 hA2
      have go := mis_2 (a := a) (show s < 8 by omega) (show m < 8 by omega) q1 (show 1 ≤ 2 by omega) (show 2 ≤ 2 by omega) hB1 hB2 e1 e2 g1 g2 (max (2 * H1 - 1) (2 * H2)) 1 0 (by omega)
      rw [show (0 : Int32) = nI 0 from rfl, go, nI_sub (by omega)]
      congr 1
      omega
    · have g1 : mHow a s = nI 2 := by unfold mHow; rw [if_neg hn1, if_neg (by rw [z1]; decide)]; rfl
      have g2 : mHow a m = nI 1 := by unfold mHow; rw [if_neg hn2, if_pos z2]; rfl
      have n1 : mNumOf a s = nI (2 * H1) := by rw [← t1.2]; unfold mNumOf; rw [g1, e1]; rfl
      have n2 : mNumOf a m = nI (2 * H2 - 1) := by rw [← t2.1]; unfold mNumOf; rw [g2, e2]; rfl
      rw [n1, n2, max_nI (by omega) (by omega), hl] at lst
      obtain rfl := (nI_eq (by omega) (by omega)).mp lst
      have key := misN_21 H1 hB1 H2 hB2 hA1 hA2
      have go := mis_2 (a := a) (show s < 8 by omega) (show m < 8 by omega) q1 (show 2 ≤ 2 by omega) (show 1 ≤ 2 by omega) hB1 hB2 e1 e2 g1 g2 (max (2 * H1) (2 * H2 - 1)) 1 0 (by omega)
      rw [show (0 : Int32) = nI 0 from rfl, go, nI_sub (by omega)]
      congr 1
      omega
end MI2
