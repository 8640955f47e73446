/-! Pure: the TAPE's bytes alike -/
theorem b255 : ∀ i, i < 32 → (255#32).getLsbD i = decide (i < 8) := by decide +kernel
theorem bv_32 : ∀ y : BitVec 8, (y.signExtend 32 = 32#32 ↔ y.signExtend 32 &&& 255#32 = 32#32) := by decide +kernel
theorem bv_ss (y : BitVec 8) : (y.signExtend 32).signExtend 8 = y := by
  apply BitVec.eq_of_getLsbD_eq
  intro i hi
  rw [BitVec.getLsbD_signExtend, BitVec.getLsbD_signExtend, decide_eq_true (show i < 8 by omega), decide_eq_true (show i < 32 by omega), if_pos (show i < 32 by omega), if_pos (show i < 8 by omega)]
  rfl
theorem bv_by (x : BitVec 32) (s : Nat) (hs : s ≤ 24) : ((x >>> s).signExtend 8).signExtend 32 &&& 255#32 = (x.sshiftRight s) &&& 255#32 := by
  apply BitVec.eq_of_getLsbD_eq
  intro i hi
  rw [BitVec.getLsbD_and, BitVec.getLsbD_and, b255 i hi]
  by_cases h : i < 8
  · rw [decide_eq_true h, Bool.and_true, Bool.and_true, BitVec.getLsbD_signExtend, BitVec.getLsbD_signExtend, BitVec.getLsbD_ushiftRight, BitVec.getLsbD_sshiftRight, if_pos h, if_pos (show i < 32 by omega), if_pos (show s + i < 32 by omega), decide_eq_true (show i < 32 by omega), decide_eq_true h, decide_eq_false (show ¬ 32 ≤ i by omega)]
    rfl
  · rw [decide_eq_false h, Bool.and_false, Bool.and_false]
section FDB
variable {v : Int32}
theorem bOf_v {sh : Int32} {s : Nat} (e : (bOf v sh).toBitVec = ((((v.toBitVec >>> s).signExtend 8).signExtend 32).signExtend 8).signExtend 32) : (bOf v sh).toBitVec = ((v.toBitVec >>> s).signExtend 8).signExtend 32 := by
  rw [e, bv_ss]
theorem bOf_ok {sh : Int32} {s : Nat} {w : Int32} (hs : s ≤ 24) (e : (bOf v sh).toBitVec = ((((v.toBitVec >>> s).signExtend 8).signExtend 32).signExtend 8).signExtend 32) (ew : w.toBitVec = (v.toBitVec.sshiftRight s) &&& 255#32) :
    bOf v sh &&& 255 = w ∧ (bOf v sh = 32 ↔ w = 32) := by
  have e1 := bOf_v e
  have h1 : (bOf v sh &&& 255).toBitVec = w.toBitVec := by
    rw [Int32.toBitVec_and, e1, ew]
    exact bv_by _ s hs
  refine ⟨Int32.toBitVec_inj.mp h1, ?_⟩
  rw [← Int32.toBitVec_inj, ← Int32.toBitVec_inj, e1, ew, ← bv_by _ s hs]
  exact bv_32 _
theorem fdB_0 : ∀ q, q < 5 → fdB v (4 * q + 0) = (v >>> ((24 : Int32) &&& 31)) &&& 255 := fun q hq => by
  unfold fdB
  have : ∀ q, q < 5 → ((24 : Int32) - 8 * (nI (4 * q + 0) - nI (4 * q + 0) / 4 * 4)) &&& 31 = 24 &&& 31 := by decide +kernel
  rw [this q hq]
theorem fdB_1 : ∀ q, q < 5 → fdB v (4 * q + 1) = (v >>> ((16 : Int32) &&& 31)) &&& 255 := fun q hq => by
  unfold fdB
  have : ∀ q, q < 5 → ((24 : Int32) - 8 * (nI (4 * q + 1) - nI (4 * q + 1) / 4 * 4)) &&& 31 = 16 &&& 31 := by decide +kernel
  rw [this q hq]
theorem fdB_2 : ∀ q, q < 5 → fdB v (4 * q + 2) = (v >>> ((8 : Int32) &&& 31)) &&& 255 := fun q hq => by
  unfold fdB
  have : ∀ q, q < 5 → ((24 : Int32) - 8 * (nI (4 * q + 2) - nI (4 * q + 2) / 4 * 4)) &&& 31 = 8 &&& 31 := by decide +kernel
  rw [this q hq]
theorem fdB_3 : ∀ q, q < 5 → fdB v (4 * q + 3) = (v >>> ((0 : Int32) &&& 31)) &&& 255 := fun q hq => by
  unfold fdB
  have : ∀ q, q < 5 → ((24 : Int32) - 8 * (nI (4 * q + 3) - nI (4 * q + 3) / 4 * 4)) &&& 31 = 0 &&& 31 := by decide +kernel
  rw [this q hq]
theorem bt_0 {q : Nat} (hq : q < 5) : bOf v 24 &&& 255 = fdB v (4 * q + 0) ∧ (bOf v 24 = 32 ↔ fdB v (4 * q + 0) = 32) := by
  rw [fdB_0 q hq]
  exact bOf_ok (s := 24) (by decide) rfl rfl
theorem bt_1 {q : Nat} (hq : q < 5) : bOf v 16 &&& 255 = fdB v (4 * q + 1) ∧ (bOf v 16 = 32 ↔ fdB v (4 * q + 1) = 32) := by
  rw [fdB_1 q hq]
  exact bOf_ok (s := 16) (by decide) rfl rfl
theorem bt_2 {q : Nat} (hq : q < 5) : bOf v 8 &&& 255 = fdB v (4 * q + 2) ∧ (bOf v 8 = 32 ↔ fdB v (4 * q + 2) = 32) := by
  rw [fdB_2 q hq]
  exact bOf_ok (s := 8) (by decide) rfl rfl
theorem bt_3 {q : Nat} (hq : q < 5) : bOf v 0 &&& 255 = fdB v (4 * q + 3) ∧ (bOf v 0 = 32 ↔ fdB v (4 * q + 3) = 32) := by
  rw [fdB_3 q hq]
  exact bOf_ok (s := 0) (by decide) rfl rfl
end FDB
/-- what four bytes more do to the class's TAPE -/
def t4 (v : Int32) (k : Nat) : Int32 := if k = 0 then bOf v 24 else if k = 1 then bOf v 16 else if k = 2 then bOf v 8 else bOf v 0
section FD2
variable {a : IA} {t i q j : Nat} {v v1 v2 v3 v4 v5 : Int32}
theorem tp4_at : tp4 a t v q j = if q = 0 ∧ j = 1 then nI (t + 4) else if q = 1 ∧ t ≤ j ∧ j < t + 4 then t4 v (j - t) else a q j := by
  unfold tp4 tpB
  by_cases c0 : q = 0
  · subst c0
    by_cases c1 : j = 1
    · subst c1
      rw [u2_is rfl rfl, if_pos ⟨rfl, rfl⟩]
    · rw [if_neg (fun z => c1 z.2), if_neg (fun z => absurd z.1 (by decide))]
      simp (disch := omega) only [u2_no]
  · rw [if_neg (fun z => c0 z.1)]
    by_cases c1 : q = 1
    · subst c1
      by_cases c2 : t ≤ j ∧ j < t + 4
      · rw [if_pos ⟨rfl, c2⟩]
        unfold t4
        have : j = t ∨ j = t + 1 ∨ j = t + 2 ∨ j = t + 3 := by omega
        rcases this with rfl | rfl | rfl | rfl
        · rw [if_pos (by omega)]
          simp (disch := omega) only [u2_no, u2_is]
        · rw [if_neg (by omega), if_pos (by omega)]
          simp (disch := omega) only [u2_no, u2_is]
        · rw [if_neg (by omega), if_neg (by omega), if_pos (by omega)]
          simp (disch := omega) only [u2_no, u2_is]
        · rw [if_neg (by omega), if_neg (by omega), if_neg (by omega)]
          simp (disch := omega) only [u2_no, u2_is]
      · rw [if_neg (fun z => c2 z.2)]
        simp (disch := omega) only [u2_no]
    · rw [if_neg (fun z => c1 z.1)]
      simp (disch := omega) only [u2_no]
theorem tp20_1 (hk : i < 20) : tp20 a t v1 v2 v3 v4 v5 1 (t + i) = t4 (fdA v1 v2 v3 v4 v5 i) (i % 4) := by
  unfold tp20 fdA
  by_cases c1 : i < 4
  · rw [tp4_at, if_neg (by omega), if_neg (by omega), tp4_at, if_neg (by omega), if_neg (by omega), tp4_at, if_neg (by omega), if_neg (by omega), tp4_at, if_neg (by omega), if_neg (by omega), tp4_at, if_neg (by omega), if_pos (by omega), if_pos c1]
    congr 1
    omega
  by_cases c2 : i < 8
  · rw [tp4_at, if_neg (by omega), if_neg (by omega), tp4_at, if_neg (by omega), if_neg (by omega), tp4_at, if_neg (by omega), if_neg (by omega), tp4_at, if_neg (by omega), if_pos (by omega), if_neg c1, if_pos c2]
    congr 1
    omega
  by_cases c3 : i < 12
  · rw [tp4_at, if_neg (by omega), if_neg (by omega), tp4_at, if_neg (by omega), if_neg (by omega), tp4_at, if_neg (by omega), if_pos (by omega), if_neg c1, if_neg c2, if_pos c3]
    congr 1
    omega
  by_cases c4 : i < 16
  · rw [tp4_at, if_neg (by omega), if_neg (by omega), tp4_at, if_neg (by omega), if_pos (by omega), if_neg c1, if_neg c2, if_neg c3, if_pos c4]
    congr 1
    omega
  · rw [tp4_at, if_neg (by omega), if_pos (by omega), if_neg c1, if_neg c2, if_neg c3, if_neg c4]
    congr 1
    omega
theorem tp20_o (h : ¬ (q = 0 ∧ j = 1)) (h1 : ¬ (q = 1 ∧ t ≤ j)) : tp20 a t v1 v2 v3 v4 v5 q j = a q j := by
  unfold tp20
  rw [tp4_at, if_neg h, if_neg (by omega), tp4_at, if_neg h, if_neg (by omega), tp4_at, if_neg h, if_neg (by omega), tp4_at, if_neg h, if_neg (by omega), tp4_at, if_neg h, if_neg (by omega)]
theorem tp20_t : tp20 a t v1 v2 v3 v4 v5 0 1 = nI (t + 20) := by
  unfold tp20
  rw [tp4_at, if_pos ⟨rfl, rfl⟩]
theorem t4_ok {v : Int32} {k : Nat} (hk : k < 20) : t4 v (k % 4) &&& 255 = fdB v k ∧ (t4 v (k % 4) = 32 ↔ fdB v k = 32) := by
  unfold t4
  have hq : k / 4 < 5 := by omega
  have : k % 4 = 0 ∨ k % 4 = 1 ∨ k % 4 = 2 ∨ k % 4 = 3 := by omega
  rcases this with e | e | e | e
  · rw [e, if_pos rfl]
    have := bt_0 (v := v) hq
    rw [show 4 * (k / 4) + 0 = k by omega] at this
    exact this
  · rw [e, if_neg (by decide), if_pos rfl]
    have := bt_1 (v := v) hq
    rw [show 4 * (k / 4) + 1 = k by omega] at this
    exact this
  · rw [e, if_neg (by decide), if_neg (by decide), if_pos rfl]
    have := bt_2 (v := v) hq
    rw [show 4 * (k / 4) + 2 = k by omega] at this
    exact this
  · rw [e, if_neg (by decide), if_neg (by decide), if_neg (by decide)]
    have := bt_3 (v := v) hq
    rw [show 4 * (k / 4) + 3 = k by omega] at this
    exact this
end FD2
