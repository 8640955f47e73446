/-! Pure: lots and centuries alike -/
theorem bv_dr (x : BitVec 32) : (x >>> 16) &&& 32767#32 = (x.sshiftRight 16) &&& 32767#32 := by
  apply BitVec.eq_of_getLsbD_eq
  intro i hi
  rw [BitVec.getLsbD_and, BitVec.getLsbD_and, BitVec.getLsbD_ushiftRight, BitVec.getLsbD_sshiftRight]
  by_cases h : i < 15
  · congr 1
    rw [if_pos (by omega)]
    have : decide (32 ≤ i) = false := decide_eq_false (by omega)
    rw [this]
    rfl
  · have : (32767#32).getLsbD i = false := by
      have h2 : i = 15 ∨ i = 16 ∨ i = 17 ∨ i = 18 ∨ i = 19 ∨ i = 20 ∨ i = 21 ∨ i = 22 ∨ i = 23 ∨ i = 24 ∨ i = 25 ∨ i = 26 ∨ i = 27 ∨ i = 28 ∨ i = 29 ∨ i = 30 ∨ i = 31 := by omega
      rcases h2 with rfl | rfl | rfl | rfl | rfl | rfl | rfl | rfl | rfl | rfl | rfl | rfl | rfl | rfl | rfl | rfl | rfl <;> decide
    rw [this, Bool.and_false, Bool.and_false]
theorem dr_eq (s : Int32) : dr15 s = mDr s := by
  apply Int32.toBitVec_inj.mp
  have e1 : (dr15 s).toBitVec = (s.toBitVec >>> 16) &&& 32767#32 := rfl
  have e2 : (mDr s).toBitVec = (s.toBitVec.sshiftRight 16) &&& 32767#32 := rfl
  rw [e1, e2, bv_dr]
theorem drB_eq {n : Nat} (s : Int32) (h0 : 0 < n) (hn : n < 2 ^ 31) : drB s (nI n) = mDm s (nI n) := by
  unfold drB mDm
  rw [if_neg (show ¬ nI n ≤ 0 from fun z => absurd ((nI_leI (b := 0) hn (by decide)).mp z) (by omega)), dr_eq]
section DRM
variable {ns s t k m : Nat} {f g h : Nat → Int32} {q c w : Int32} {a b : IA}
theorem rw_mQr (hR : Rw ns f g) (h8 : ns ≤ 8) (hs : s < ns) : (lfQuar f (nI s)).1 = (mQr g s).1 ∧ Rw ns (lfQuar f (nI s)).2 (mQr g s).2 := by
  unfold mQr
  rcases hR.2.1 s hs with h0 | ⟨m, hm, hne, q1, q2⟩
  · rw [if_pos h0, rw_quar0 hR (by omega) h0]
    exact ⟨rfl, hR⟩
  · have r := rw_quar hR h8 hs hm (fun z => hne z.symm) q1
    rw [if_neg (by rw [q1]; exact nI_n1 (by omega)), q1, nI_clamp (by omega)]
    by_cases c : g (32 + s) = 9 ∧ g (32 + m) = 9
    · rw [if_pos c] at r ⊢
      rw [if_pos c] at r
      exact r
    · rw [if_neg c] at r ⊢
      rw [if_neg c] at r
      exact r
theorem mQr_01 (g : Nat → Int32) (s : Nat) : (mQr g s).1 = 0 ∨ (mQr g s).1 = 1 := by
  unfold mQr
  split
  · exact Or.inl rfl
  split
  · exact Or.inl rfl
  · exact Or.inr rfl
end DRM
