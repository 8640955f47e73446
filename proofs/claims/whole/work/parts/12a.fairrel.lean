/-! Pure: shares alike -/
theorem nft : ¬ (false = true) := by decide
theorem lpM_snoc {χ : Type} {g : Nat → χ → χ} : ∀ (n i : Nat) (x : χ), lpM g (n + 1) i x = g (i + n) (lpM g n i x)
  | 0, i, x => rfl
  | n + 1, i, x => by
    rw [lpM, lpM_snoc n (i + 1) (g i x), lpM, show i + 1 + n = i + (n + 1) by omega]
/-- how many, and which is the first -/
def cnB (c : Nat → Bool) : Nat → Nat
  | 0 => 0
  | n + 1 => if c n then cnB c n else cnB c n + 1
def fsB (c : Nat → Bool) : Nat → Nat
  | 0 => 0
  | n + 1 => if c n then fsB c n else if cnB c n = 0 then n else fsB c n
theorem cnB_le (c : Nat → Bool) : ∀ n, cnB c n ≤ n
  | 0 => Nat.le_refl _
  | n + 1 => by
    have := cnB_le c n
    unfold cnB
    split <;> omega
theorem cnB_cg {c c' : Nat → Bool} : ∀ n, (∀ k, k < n → c k = c' k) → cnB c n = cnB c' n
  | 0, _ => rfl
  | n + 1, h => by rw [cnB, cnB, h n (by omega), cnB_cg n (fun k hk => h k (by omega))]
theorem fsB_cg {c c' : Nat → Bool} : ∀ n, (∀ k, k < n → c k = c' k) → fsB c n = fsB c' n
  | 0, _ => rfl
  | n + 1, h => by rw [fsB, fsB, h n (by omega), fsB_cg n (fun k hk => h k (by omega)), cnB_cg n (fun k hk => h k (by omega))]
theorem dn_cnt {χ : Type} {R : χ → Int32 × Int32 → Prop} {c : Nat → Bool} {g : Nat → χ → χ} : ∀ (n : Nat) (x : χ) (y1 y2 : Int32), R x (y1, y2) → (∀ k x y, k < n → R x y → R (g k x) (if c k then y else (y.1 + 1, nI k))) →
    R (dnM g n x) (y1 + nI (cnB c n), if cnB c n = 0 then y2 else nI (fsB c n))
  | 0, x, y1, y2, h, _ => by
    rw [dnM, cnB, if_pos rfl, show nI 0 = 0 from rfl, Int32.add_zero]
    exact h
  | n + 1, x, y1, y2, h, hg => by
    have h1 := hg n x (y1, y2) (by omega) h
    rw [dnM]
    cases hc : c n with
    | true =>
      rw [hc, if_pos rfl] at h1
      rw [cnB, fsB, hc, if_pos rfl, if_pos rfl]
      exact dn_cnt n _ y1 y2 h1 (fun k x y hk => hg k x y (by omega))
    | false =>
      rw [hc, if_neg nft] at h1
      have h2 := dn_cnt n _ _ _ h1 (fun k x y hk => hg k x y (by omega))
      rw [cnB, fsB, hc, if_neg nft, if_neg nft, if_neg (by omega)]
      have e : y1 + 1 + nI (cnB c n) = y1 + nI (cnB c n + 1) := by
        rw [← nI_1, Int32.add_assoc, Int32.add_comm 1]
      rw [e] at h2
      have e2 : (if cnB c n = 0 then nI n else nI (fsB c n)) = nI (if cnB c n = 0 then n else fsB c n) := by split <;> rfl
      rw [← e2]
      exact h2
theorem lp_cnt {c : Nat → Bool} {z : Int32} : ∀ n, n < 2 ^ 31 → lpM (fun k (x : Int32 × Int32) => if c k then x else (x.1 + 1, if x.1 = 0 then nI k else x.2)) n 0 (0, z) = (nI (cnB c n), if cnB c n = 0 then z else nI (fsB c n))
  | 0, _ => by rw [lpM, cnB, if_pos rfl]; rfl
  | n + 1, hn => by
    have hle := cnB_le c n
    rw [lpM_snoc, lp_cnt n (by omega), cnB, fsB, Nat.zero_add]
    cases hc : c n with
    | true => rw [if_pos rfl, if_pos rfl, if_pos rfl]
    | false =>
      rw [if_neg nft, if_neg nft, if_neg nft, if_neg (show ¬ cnB c n + 1 = 0 by omega)]
      have e0 : nI (cnB c n) = 0 ↔ cnB c n = 0 := nI_eq (a := cnB c n) (b := 0) (by omega) (by decide)
      by_cases h0 : cnB c n = 0
      · rw [if_pos (e0.mpr h0), if_pos h0]
        try rw [if_pos h0]
        rw [show nI (cnB c n) + 1 = nI (cnB c n + 1) from nI_1 _]
      · rw [if_neg (fun z => h0 (e0.mp z)), if_neg h0, if_neg h0]
        rw [show nI (cnB c n) + 1 = nI (cnB c n + 1) from nI_1 _]
section FRR
variable {a : IA} {T nc ns ng s t k m : Nat} {w x : Int32}
theorem bit_01 (x : Int32) (g : Nat) (hg : g < 32) : (x >>> (nI g &&& 31)) &&& 1 = 0 ∨ (x >>> (nI g &&& 31)) &&& 1 = 1 := by
  generalize x >>> (nI g &&& 31) = y
  have : ∀ z : BitVec 32, z &&& 1#32 = 0#32 ∨ z &&& 1#32 = 1#32 := by
    intro z
    by_cases h : z.getLsbD 0 = true
    · right
      apply BitVec.eq_of_getLsbD_eq
      intro i hi
      rw [BitVec.getLsbD_and, BitVec.getLsbD_one]
      by_cases h0 : i = 0
      · subst h0; rw [h]; rfl
      · simp [h0]
    · left
      apply BitVec.eq_of_getLsbD_eq
      intro i hi
      rw [BitVec.getLsbD_and, BitVec.getLsbD_one]
      by_cases h0 : i = 0
      · subst h0; rw [Bool.eq_false_iff.mpr h]; rfl
      · simp [h0]
  rcases this y.toBitVec with h | h
  · left; exact Int32.toBitVec_inj.mp h
  · right; exact Int32.toBitVec_inj.mp h
theorem worth_eq {f : Nat → Int32} {t : Nat} (h8 : ng ≤ 8) (hf : ∀ g, g < ng → f g = a (150 + 1 + g) t) : ctWorth f x ng = mWorth a ng x t := by
  unfold ctWorth mWorth
  refine sI_congr (fun g hg => ?_)
  rw [hf g hg]
  rcases bit_01 x g (by omega) with h | h
  · rw [h, if_neg (by decide), Int32.zero_mul]
  · rw [h, if_pos rfl, Int32.one_mul]
theorem all_eq : ∀ g, g ≤ 8 → all2 g = mAllG g := by decide +kernel
theorem tw_fairX (h : Tw a T nc ns ng) : frX a T ng = lpM (mFrS a ng) (2 ^ ng) 0 (0, -1) := by
  have h8 : ng ≤ 8 := h.1.2.2.2.2.2.1
  have h256 : 2 ^ ng ≤ 2 ^ 8 := Nat.pow_le_pow_right (by decide) h8
  have w0 : ∀ x, wOne a T ng x = mWorth a ng x 0 := fun x => worth_eq h8 (fun g hg => (h.2.2.2.2.2.2.1 g hg).1)
  have w1 : ∀ x, wOth a T ng x = mWorth a ng x 1 := fun x => worth_eq h8 (fun g hg => (h.2.2.2.2.2.2.1 g hg).2)
  let c : Nat → Bool := fun k => decide (mWorth a ng (nI k) 0 < mWorth a ng (mCpl ng k) 0 ∨ ¬ mWorth a ng (nI k) 1 ≤ mWorth a ng (mCpl ng k) 1)
  have e1 : lpM (mFrS a ng) (2 ^ ng) 0 (0, -1) = lpM (fun k (x : Int32 × Int32) => if c k then x else (x.1 + 1, if x.1 = 0 then nI k else x.2)) (2 ^ ng) 0 (0, -1) := by
    refine lpM_cg _ _ _ (fun k y _ _ => ?_)
    unfold mFrS
    by_cases hc : mWorth a ng (nI k) 0 < mWorth a ng (mCpl ng k) 0 ∨ ¬ mWorth a ng (nI k) 1 ≤ mWorth a ng (mCpl ng k) 1
    · rw [if_pos hc, if_pos (show c k = true from decide_eq_true hc)]
    · rw [if_neg hc, if_neg (show ¬ c k = true from fun z => hc (of_decide_eq_true z))]
  rw [e1, lp_cnt _ (by omega)]
  have e2 := dn_cnt (R := fun x y => x = y) (c := c) (g := frS a T ng) (2 ^ ng) (0, -1) 0 (-1) rfl (fun k x y hk e => by
    subst e
    unfold frS
    rw [all_eq ng h8, show mAllG ng &&& (nI k ^^^ (-1)) = mCpl ng k from rfl, w0, w0, w1, w1]
    by_cases hc : mWorth a ng (nI k) 0 < mWorth a ng (mCpl ng k) 0 ∨ mWorth a ng (mCpl ng k) 1 < mWorth a ng (nI k) 1
    · have hc' : mWorth a ng (nI k) 0 < mWorth a ng (mCpl ng k) 0 ∨ ¬ mWorth a ng (nI k) 1 ≤ mWorth a ng (mCpl ng k) 1 := hc.imp id i_nle.mpr
      rw [if_pos hc, if_pos (show c k = true from decide_eq_true hc')]
    · have hc' : ¬ (mWorth a ng (nI k) 0 < mWorth a ng (mCpl ng k) 0 ∨ ¬ mWorth a ng (nI k) 1 ≤ mWorth a ng (mCpl ng k) 1) := fun z => hc (z.imp id i_nle.mp)
      rw [if_neg hc, if_neg (show ¬ c k = true from fun z => hc' (of_decide_eq_true z))])
  unfold frX
  rw [e2, Int32.zero_add]
theorem tw_evenX (h : Tw a T nc ns ng) : evX a T ng = lpM (mEvS a ng) (2 ^ ng) 0 0 := by
  have h8 : ng ≤ 8 := h.1.2.2.2.2.2.1
  have w0 : ∀ x, wOne a T ng x = mWorth a ng x 0 := fun x => worth_eq h8 (fun g hg => (h.2.2.2.2.2.2.1 g hg).1)
  have w1 : ∀ x, wOth a T ng x = mWorth a ng x 1 := fun x => worth_eq h8 (fun g hg => (h.2.2.2.2.2.2.1 g hg).2)
  unfold evX
  refine lpM_cg _ _ _ (fun k y _ _ => ?_)
  have ev : evV a T ng k = if mWorth a ng (mCpl ng k) 1 ≤ mWorth a ng (nI k) 0 then mWorth a ng (mCpl ng k) 1 else mWorth a ng (nI k) 0 := by
    unfold evV
    rw [all_eq ng h8, show mAllG ng &&& (nI k ^^^ (-1)) = mCpl ng k from rfl, w0, w1]
    exact lo_eq _ _
  unfold evM mEvS
  rw [ev]
  exact hi_eq _ _
end FRR
