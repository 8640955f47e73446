/-! bits -/
theorem and31 : ∀ j, j < 32 → (nI j &&& 31) = nI j := by decide +kernel
theorem smod32 : ∀ j, j < 32 → ((nI j).toBitVec.smod 32#32).toNat = j := by decide +kernel
theorem bGet {b : Int32} {j : Nat} (hj : j < 32) : ((b >>> (nI j &&& 31)) &&& 1 = 1) ↔ b.toBitVec.getLsbD j = true := by
  rw [and31 j hj, ← Int32.toBitVec_inj, Int32.toBitVec_and, Int32.toBitVec_shiftRight]
  show (b.toBitVec.sshiftRight' ((nI j).toBitVec.smod 32#32)) &&& 1#32 = 1#32 ↔ _
  rw [BitVec.sshiftRight_eq', smod32 j hj, BitVec.and_one_eq_setWidth_ofBool_getLsbD, BitVec.getLsbD_sshiftRight]
  have h0 : (decide (32 ≤ 0)) = false := rfl
  simp only [Nat.add_zero, hj, if_true, h0, Bool.not_false, Bool.true_and]
  cases b.toBitVec.getLsbD j <;> decide
theorem bShl : ∀ i, i < 32 → ∀ j, j < 32 → ((1 : Int32) <<< (nI i &&& 31)).toBitVec.getLsbD j = decide (j = i) := by decide +kernel
theorem bOrr {x y : Int32} {j : Nat} : (x ||| y).toBitVec.getLsbD j = (x.toBitVec.getLsbD j || y.toBitVec.getLsbD j) := by rw [Int32.toBitVec_or, BitVec.getLsbD_or]
theorem bit_or {b : Int32} {i j : Nat} (hi : i < 32) (hj : j < 32) : (((b ||| ((1 : Int32) <<< (nI i &&& 31))) >>> (nI j &&& 31)) &&& 1 = 1) ↔ ((b >>> (nI j &&& 31)) &&& 1 = 1 ∨ j = i) := by
  rw [bGet hj, bGet hj, bOrr, bShl i hi j hj, Bool.or_eq_true, decide_eq_true_eq]
