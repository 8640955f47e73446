/-! texts of the program: length, a sign, a word that stands in the TAPE -/
def sLen (i : Nat) : Nat := strLen.getD i 0
def sByt (i k : Nat) : Int32 := (strByt.getD i []).getD k 0
/-- the word i stands from s to p -/
def isW (B : Nat → Int32) (s p i : Nat) : Bool := decide (p - s = sLen i) && (List.range (sLen i)).all (fun k => decide (sByt i k = B (s + k)))
theorem sLen_le : ∀ i, i < strN → sLen i < 30 := by decide +kernel
theorem sByt_ok : ∀ i, i < strN → ∀ k, k < sLen i → (((sByt i k &&& 255).toUInt32 % 65536).toInt32 = sByt i k ∧ narrow .char (.int (sByt i k)) = .int (sByt i k)) := by decide +kernel
section TX
variable {G : GE} {d C S : Nat} {a : IA} {r : RA} {B : Nat → Int32} {n p s N i : Nat} {k f x : Int32} {w : UInt32}
theorem c_coder {P : KI} (h1 : 1 ≤ w.toNat) (h2 : w.toNat ≤ strN) (hp : P 0 a r N) : Sp G d 0 0 MJ0_coder_7d493 [.float w] (a, r, N) (RI P) :=
  Sp.ofF rfl (by decide) (by intro v hv; cases List.mem_singleton.mp hv; rfl) (Nat.le_of_ble_eq_true rfl) (V_J0_coder_7d493_0 ⟨fun h => absurd h (by decide), fun _ => ⟨h1, h2, rfl, hp⟩⟩)
theorem c_isLatin1 {P : KI} (h1 : 1 ≤ w.toNat) (h2 : w.toNat ≤ strN) (hp : P 1 a r N) : Sp G d 0 0 MJ0_isLatin1_aae02 [.float w] (a, r, N) (RI P) :=
  Sp.ofF rfl (by decide) (by intro v hv; cases List.mem_singleton.mp hv; rfl) (Nat.le_of_ble_eq_true rfl) (V_J0_isLatin1_aae02_0 ⟨fun h => absurd h (by decide), fun _ => ⟨h1, h2, fun h => absurd rfl h, fun _ => ⟨bz_1, hp⟩⟩⟩)
theorem c_strLen {P : KI} (hi : i < strN) (hw : w.toNat = i + 1) (hp : P (nI (sLen i)) a r N) : Sp G (d + 1) 0 0 MJ0_length_8abf5 [.float w] (a, r, N) (RI P) := by
  refine Sp.ofF rfl (by decide) (by intro v hv; cases List.mem_singleton.mp hv; rfl) (Nat.le_of_ble_eq_true rfl) (V_J0_length_8abf5_0 ⟨i, hi, hw, fun g hg => ⟨i, hi, hg, by omega, by unfold strN at hi ⊢; omega, c_coder (by omega) (by unfold strN at hi ⊢; omega) ?_⟩⟩)
  have e : (Int32.ofNat (strLen.getD i 0)) >>> ((0 : Int32) &&& 31) = nI (sLen i) := by
    show nI (sLen i) >>> ((0 : Int32) &&& 31) = nI (sLen i)
    rw [show ((0 : Int32) &&& 31) = 0 by decide, Int32.shiftRight_zero]
  rw [e]
  exact hp
theorem c_preCheck {P : KI} {v : Value} {j m : Nat} (hv : v.category = 1) (hj : j < m) (hm : m < 2 ^ 31) (hp : P (nI j) a r N) : Sp G (d + 1) 0 0 MJ3_checkIndex_8e157 [.int (nI j), .int (nI m), v] (a, r, N) (RI P) :=
  Sp.ofF rfl (by decide) (by intro u hu; simp only [List.mem_cons, List.not_mem_nil, or_false] at hu; rcases hu with rfl | rfl | rfl; rfl; rfl; exact hv) (Nat.le_of_ble_eq_true rfl) (V_J3_checkIndex_8e157_0 ⟨fun h => absurd h (nI_pos (by omega)), fun _ => ⟨fun _ => hp, fun h => absurd (nI_lt hj hm) h⟩⟩)
theorem gF_cat : (gF G).category = 1 := by
  unfold gF
  split <;> rfl
theorem c_checkIndex {P : KN} {j m : Nat} (hj : j < m) (hm : m < 2 ^ 31) (hp : P a r N) : Sp G (d + 2) 0 0 MJ0_checkIndex_df160 [.int (nI j), .int (nI m)] (a, r, N) (RN P) :=
  Sp.ofF rfl (by decide) (by intro u hu; simp only [List.mem_cons, List.not_mem_nil, or_false] at hu; rcases hu with rfl | rfl <;> rfl) (Nat.le_of_ble_eq_true rfl) (V_J0_checkIndex_df160_0 (c_preCheck gF_cat hj hm hp))
theorem c_latCharAt {P : KI} {j : Nat} (hi : i < strN) (hw : w.toNat = 100 + i) (hj : j < sLen i) (hp : P (sByt i j) a r N) : Sp G (d + 3) 0 0 MJ1_charAt_3b067 [.float w, .int (nI j)] (a, r, N) (RI P) := by
  have hl := sLen_le i hi
  have hb := sByt_ok i hi j hj
  refine Sp.ofF rfl (by decide) (by intro u hu; simp only [List.mem_cons, List.not_mem_nil, or_false] at hu; rcases hu with rfl | rfl <;> rfl) (Nat.le_of_ble_eq_true rfl) (V_J1_charAt_3b067_0 ⟨i, hi, hw, c_checkIndex (m := sLen i) hj (by omega) ⟨i, hi, hw, vp_in_nI hj (by show sLen i < _; omega), ?_⟩⟩)
  rw [nI_clamp (by omega)]
  show narrow .char (.int (((sByt i j &&& 255).toUInt32 % 65536).toInt32)) = .int (((sByt i j &&& 255).toUInt32 % 65536).toInt32) ∧ P (((sByt i j &&& 255).toUInt32 % 65536).toInt32) a r N
  rw [hb.1]
  exact ⟨hb.2, hp⟩
theorem c_charAt {P : KI} {j : Nat} (hi : i < strN) (hw : w.toNat = i + 1) (hj : j < sLen i) (hp : P (sByt i j) a r N) : Sp G (d + 4) 0 0 MJ0_charAt_5068e [.float w, .int (nI j)] (a, r, N) (RI P) := by
  have h2 : w.toNat ≤ strN := by unfold strN at hi ⊢; omega
  exact Sp.ofF rfl (by decide) (by intro u hu; simp only [List.mem_cons, List.not_mem_nil, or_false] at hu; rcases hu with rfl | rfl <;> rfl) (Nat.le_of_ble_eq_true rfl) (V_J0_charAt_5068e_0 ⟨by omega, h2, c_isLatin1 (by omega) h2 ⟨fun h => absurd h (by decide), fun _ => ⟨i, hi, hw, fun g hg => c_latCharAt hi hg hj ⟨(sByt_ok i hi j hj).2, hp⟩⟩⟩⟩)
theorem l_wordIs {P : KI} (hr : Rk r) (hB : By a B n) (hx : TX a n p s k f) (hps : s + sLen i = p) (hpn : p ≤ n) (hi : i < strN) (hw : w.toNat = i + 1)
    (hp : P (if (List.range (sLen i)).all (fun j => decide (sByt i j = B (s + j))) then 1 else 0) a r nK) :
    ∀ (m j : Nat), j + m = sLen i → (∀ t, t < j → sByt i t = B (s + t)) → E G MX10_wordIs (d + 5) C S 20 [.ref 2, .float w, .int (nI j)] [] (a, r, nK) (RI P) := by
  have hl := sLen_le i hi
  have hn := hB.le
  have h2 : w.toNat ≤ strN := by unfold strN at hi ⊢; omega
  intro m
  induction m with
  | zero =>
    intro j hj hall
    rw [if_pos (List.all_eq_true.mpr (fun t ht => decide_eq_true (hall t (by have := List.mem_range.mp ht; omega))))] at hp
    exact V_X10_wordIs_20 ⟨by omega, h2, c_strLen hi hw ⟨fun _ => ⟨bz_1, hp⟩, fun h => absurd (nI_le (by omega) (by omega)) h⟩⟩
  | succ m ih =>
    intro j hj hall
    refine V_X10_wordIs_20 ⟨by omega, h2, c_strLen hi hw ⟨fun h => absurd h (nI_ge (by omega) (by omega)), fun _ => ⟨by omega, h2, c_charAt hi hw (by omega) ⟨rfl, by decide, rfl, by decide, ?_⟩⟩⟩⟩
    rw [hx.2.2.1, nI_add]
    have e0 : bAt B n (s + j) = B (s + j) := if_pos (by omega)
    refine c_byteAt hr hB hx (by omega) ⟨fun h => ?_, fun h => ⟨bz_0, ?_⟩⟩
    · rw [nI_1]
      exact ih (j + 1) (by omega) (fun t ht => by
        by_cases e : t = j
        · subst e; rw [h, e0]
        · exact hall t (by omega))
    · rw [e0] at h
      rw [if_neg (fun z => h (by simpa using List.all_eq_true.mp z j (List.mem_range.mpr (by omega))))] at hp
      exact hp
theorem c_wordIs {P : KI} (hr : Rk r) (hB : By a B n) (hx : TX a n p s k f) (hsp : s ≤ p) (hpn : p ≤ n) (hi : i < strN) (hw : w.toNat = i + 1) (hp : P (if isW B s p i then 1 else 0) a r nK) : Sp G (d + 5) 0 0 MX10_wordIs [.ref 2, .float w] (a, r, nK) (RI P) := by
  have hl := sLen_le i hi
  have hn := hB.le
  have h2 : w.toNat ≤ strN := by unfold strN at hi ⊢; omega
  have e : a 2 2 - a 2 3 = nI (p - s) := by
    rw [hx.2.1, hx.2.2.1]
    have : nI p = nI (p - s) + nI s := by rw [nI_add]; congr 1; omega
    rw [this]
    simp
  unfold isW at hp
  refine V_X10_wordIs_0 ⟨by omega, h2, c_strLen hi hw ⟨rfl, by decide, rfl, by decide, fun h => ?_, fun h => ⟨bz_0, ?_⟩⟩⟩
  · rw [e, nI_eq (by omega) (by omega)] at h
    rw [decide_eq_true h.symm, Bool.true_and] at hp
    exact l_wordIs hr hB hx (by omega) hpn hi hw hp (sLen i) 0 (by omega) (fun t ht => by omega)
  · rw [e, nI_eq (by omega) (by omega)] at h
    rw [decide_eq_false (fun z => h z.symm), Bool.false_and] at hp
    exact hp
end TX
