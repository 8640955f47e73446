/-! Pure: streets, houses, letters alike -/
theorem house_all : ∀ r, r ≤ 2 → ∀ H, H ≤ 20 → ∀ n, n ≤ 41 → lfHouse (nI r) (nI H) (nI n) =
    (if ¬ nI r = 0 ∧ ¬ nI n - nI n / 2 * 2 = nI r - nI r / 2 * 2 then 0 else if nI H < (if nI r = 0 then nI n else if nI r = 1 then (nI n + 1) / 2 else nI n / 2) then 0 else (if nI r = 0 then nI n else if nI r = 1 then (nI n + 1) / 2 else nI n / 2)) := by decide +kernel
section STR
variable {a : IA} {T nc ns ng s t k m : Nat} {w : Int32}
theorem roC_how : roC (a 582 s) (a 582 (8 + s)) = mHow a s := rfl
theorem mHow_n : ∃ r, r ≤ 2 ∧ mHow a s = nI r := by
  unfold mHow
  split
  · exact ⟨0, by omega, rfl⟩
  split
  · exact ⟨1, by omega, rfl⟩
  · exact ⟨2, by omega, rfl⟩
theorem tw_street (h : Tw a T nc ns ng) (hR : Rw ns (a 44) (a 582)) (hs : s < ns) : fStreet a T (nI s) w = mStrV a s w := by
  have h8 := h.1.2.2.2.1
  have e := h.2.2.2.2.2.1 s hs
  unfold fStreet mStrV
  rw [rAt_nI _ (by decide) (by omega), rAt_nI _ (by decide) (by omega), rAt_nI _ (by decide) (by omega), rAt_nI _ (by decide) (by omega), e.1, e.2.1, e.2.2.1, e.2.2.2.2, kT (by omega), kM (by omega), kR (by omega), kY (by omega), kH (by omega),
    hR.1.1 s (by omega), hR.1.2.1 s (by omega), hR.1.2.2.1 s (by omega), hR.1.2.2.2.1 s (by omega), hR.1.2.2.2.2.1 s (by omega)]
  have e6 : (if roC (a 582 s) (a 582 (8 + s)) = 1 then (1 : Int32) else 0) = if a 582 s = -1 then 0 else a 582 (8 + s) := by
    rcases hR.2.1 s hs with h0 | ⟨m, hm, hne, q1, q2⟩
    · rw [h0, roC_m]; rfl
    · have hn : ¬ a 582 s = -1 := by rw [q1]; exact nI_n1 (by omega)
      rw [if_neg hn]
      rcases (hR.2.2.2.1 s m hs hm q1).1 with ⟨z, _⟩ | ⟨z, _⟩
      · rw [z, roC_1 hn]; rfl
      · rw [z, roC_0 hn]; rfl
  rw [e6]
/-- houses 1..20 -/
def Hs (a : IA) (ns : Nat) : Prop := ∀ s, s < ns → ∃ h, 1 ≤ h ∧ h ≤ 20 ∧ a (96 + 1 + s) 2 = nI h
theorem tw_house {n : Nat} (h : Tw a T nc ns ng) (hR : Rw ns (a 44) (a 582)) (hH : Hs a ns) (hs : s < ns) (hn : n ≤ 41) : fHouse a T (nI s) (nI n) = mHouse a s (nI n) (mHow a s) := by
  have h8 := h.1.2.2.2.1
  have e := h.2.2.2.2.2.1 s hs
  obtain ⟨H, _, hH2, eH⟩ := hH s hs
  obtain ⟨r, hr, er⟩ := mHow_n (a := a) (s := s)
  unfold fHouse
  rw [kR (by omega), hR.1.2.1 s (by omega), roC_how, rAt_nI _ (by decide) (by omega), e.2.2.1, er, eH, house_all r hr H hH2 n hn]
  unfold mHouse
  rw [eH]
theorem tw_letter {n : Nat} (h : Tw a T nc ns ng) (hR : Rw ns (a 44) (a 582)) (hH : Hs a ns) (hs : s < ns) (hn : n ≤ 41) : fLetter a T (nI s) (nI n) = mLet a s (nI n) := by
  have h8 := h.1.2.2.2.1
  unfold fLetter mLet
  rw [tw_house h hR hH hs hn, kM (by omega), hR.1.1 s (by omega)]
  rcases hR.2.1 s hs with h0 | ⟨m, hm, hne, q1, q2⟩
  · rw [if_pos h0, if_pos h0]
  · rw [q1, nI_clamp (by omega), tw_house h hR hH hm hn]
theorem num_eq (r H : Int32) : lfNumber r H = if r = 1 then 2 * H - 1 else if r = 2 then 2 * H else H := rfl
theorem tw_num (h : Tw a T nc ns ng) (hR : Rw ns (a 44) (a 582)) (hs : s < ns) : fNum a T (nI s) = mNumOf a s := by
  have h8 := h.1.2.2.2.1
  have e := h.2.2.2.2.2.1 s hs
  obtain ⟨r, hr, er⟩ := mHow_n (a := a) (s := s)
  unfold fNum mNumOf mNumBy
  rw [kR (by omega), hR.1.2.1 s (by omega), roC_how, rAt_nI _ (by decide) (by omega), e.2.2.1, er, num_eq]
  have : r = 0 ∨ r = 1 ∨ r = 2 := by omega
  rcases this with rfl | rfl | rfl <;> rfl
theorem tw_last (h : Tw a T nc ns ng) (hR : Rw ns (a 44) (a 582)) (hs : s < ns) : fLast a T (nI s) = mLastOf a s := by
  have h8 := h.1.2.2.2.1
  unfold fLast mLastOf
  rw [kM (by omega), hR.1.1 s (by omega), tw_num h hR hs]
  rcases hR.2.1 s hs with h0 | ⟨m, hm, hne, q1, q2⟩
  · rw [if_pos h0, if_pos h0]
  · rw [q1, nI_clamp (by omega), tw_num h hR hm]
    unfold mx2
    rw [hi_eq]
end STR
