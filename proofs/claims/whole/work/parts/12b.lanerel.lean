/-! Pure: lanes, stops, suitors alike -/
def Tl (a : IA) (T : Nat) : Prop := a T 15 = a 64 3 ∧ a T 16 = a 64 4 ∧ a T 17 = a 64 5 ∧ a T 18 = a 64 6 ∧ a T 3 = a 64 7
theorem bitsLo_snoc {p : Nat → Bool} : ∀ (n i : Nat) (x : Int32), bitsLo p (n + 1) i x = if p (i + n) then bitsLo p n i x ||| ((1 : Int32) <<< (nI (i + n) &&& 31)) else bitsLo p n i x
  | 0, i, x => rfl
  | n + 1, i, x => by
    rw [bitsLo, bitsLo_snoc n (i + 1), bitsLo, show i + 1 + n = i + (n + 1) by omega]
theorem or_bits {p : Nat → Bool} (x : Int32) : ∀ n, x ||| bitsOf p n = bitsLo p n 0 x
  | 0 => by
    rw [bitsOf, bitsLo]
    exact Int32.or_zero
  | n + 1 => by
    rw [bitsLo_snoc, Nat.zero_add, bitsOf, ← or_bits x n]
    split
    · rw [Int32.or_assoc]
    · rfl
theorem lpM_relI {χ χ' : Type} {R : Nat → χ → χ' → Prop} {g : Nat → χ → χ} {g' : Nat → χ' → χ'} : ∀ (c i : Nat) (x : χ) (y : χ'), R i x y → (∀ j x y, i ≤ j → j < i + c → R j x y → R (j + 1) (g j x) (g' j y)) → R (i + c) (lpM g c i x) (lpM g' c i y)
  | 0, _, _, _, h, _ => h
  | c + 1, i, x, y, h, hg => by
    have := lpM_relI (R := R) (g := g) (g' := g') c (i + 1) _ _ (hg i x y (Nat.le_refl _) (by omega) h) (fun j x y h1 h2 h3 => hg j x y (by omega) (by omega) h3)
    rw [show i + 1 + c = i + (c + 1) by omega] at this
    exact this
section LNR
variable {a : IA} {T nc ns ng s t k m : Nat} {w x y z : Int32}
theorem tw_lnX (h : Tl a T) : lnX a T y = mLaneX a y := by unfold lnX mLaneX; rw [h.1, h.2.2.1]
theorem tw_lnY (h : Tl a T) : lnY a T y = mLaneY a y := by unfold lnY mLaneY; rw [h.2.1, h.2.2.2.1]
theorem rw_yr (hR : Rw ns (a 44) (a 582)) : yr a = a 582 40 := (rAt_nI (k := 40) (a 44) (by decide) (by decide)).trans hR.1.2.2.2.2.2.1
theorem tw_lane (h : Tl a T) (hR : Rw ns (a 44) (a 582)) : ∀ c k, lnN a T c k = mLnN a c k
  | 0, _ => rfl
  | c + 1, k => by rw [lnN, mLnN, rw_yr hR, tw_lnX h, h.2.2.2.2, tw_lane h hR c (k + 1)]
theorem tw_stop (hw : Tw a T nc ns ng) (h : Tl a T) (hR : Rw ns (a 44) (a 582)) : stX a T nc = lpM (mStS a nc) (lnU (mLnN a 101 0) + 1) 0 0 := by
  unfold stX
  rw [tw_lane h hR]
  refine lpM_cg _ _ _ (fun k y _ _ => ?_)
  unfold stS mStS
  rw [or_bits]
  refine bitsLo_cg _ _ _ (fun c _ hc => ?_)
  have e := hw.2.2.2.2.1 c (by omega)
  show (decide (a (T + 1) c = _) && decide (a (T + 2) c = _)) = _
  rw [rw_yr hR, tw_lnX h, tw_lnY h, e.1, e.2]
theorem gn_eq : gn x y z = mGets x y z := by
  unfold gn mGets
  by_cases h1 : y ≤ x
  · rw [if_pos h1]
    by_cases h2 : x ≤ y
    · rw [if_pos h2, if_pos h2, if_pos (Int32.le_antisymm h2 h1)]
    · rw [if_neg h2, if_neg h2]
  · rw [if_neg h1, if_pos (Int32.le_of_lt (i_nle.mp h1)), if_neg (fun e => h1 (by rw [e]; exact Int32.le_refl _))]
theorem mx2_le : mx2 x y ≤ z ↔ x ≤ z ∧ y ≤ z := by
  unfold mx2
  by_cases h : x < y
  · rw [if_pos h]
    exact ⟨fun q => ⟨Int32.le_trans (Int32.le_of_lt h) q, q⟩, fun q => q.2⟩
  · rw [if_neg h]
    exact ⟨fun q => ⟨q, Int32.le_trans (i_nlt.mp h) q⟩, fun q => q.1⟩
theorem bA_le {v o : Int32} : ∀ n, bA v o n ≤ z ↔ ∀ k, k ≤ n → gn (nI k) o v ≤ z
  | 0 => by
    rw [bA]
    exact ⟨fun h k hk => (show k = 0 by omega) ▸ h, fun h => h 0 (Nat.le_refl _)⟩
  | n + 1 => by
    rw [bA, mx2_le, bA_le n]
    refine ⟨fun h k hk => ?_, fun h => ⟨fun k hk => h k (by omega), h (n + 1) (Nat.le_refl _)⟩⟩
    by_cases e : k = n + 1
    · rw [e]; exact h.2
    · exact h.1 k (by omega)
theorem allB_iff {p : Nat → Bool} : ∀ (c i : Nat), allB p c i = true ↔ ∀ j, i ≤ j → j < i + c → p j = true
  | 0, i => ⟨fun _ j h1 h2 => absurd h2 (by omega), fun _ => rfl⟩
  | c + 1, i => by
    rw [allB, Bool.and_eq_true, allB_iff c (i + 1)]
    refine ⟨fun h j h1 h2 => ?_, fun h => ⟨h i (Nat.le_refl _) (by omega), fun j h1 h2 => h j (by omega) (by omega)⟩⟩
    by_cases e : j = i
    · rw [e]; exact h.1
    · exact h.2 j (by omega) (by omega)
theorem bid_iff {n : Nat} : bA z y n ≤ gn x y z ↔ mBid x y z n = true := by
  unfold mBid
  rw [bA_le, allB_iff]
  constructor
  · intro h j _ hj
    have := h j (by omega)
    rw [gn_eq, gn_eq] at this
    exact decide_eq_true this
  · intro h k hk
    have := of_decide_eq_true (h k (by omega) (by omega))
    rw [gn_eq, gn_eq]
    exact this
/-- what both have counted so far -/
def SuR (v w : Int32) (b : Nat) (x : Ws3) (y : Int32 × Int32) : Prop := x.1 = y.1 ∧ x.2.1 = y.2 ∧ ∃ c, c ≤ b ∧ y.1 = nI c ∧
  ((c = 0 ∧ y.2 = -1 ∧ x.2.2 = 0) ∨ (0 < c ∧ ∃ p q, p ≤ 20 ∧ q ≤ 20 ∧ y.2 = nI (100 * p + q) ∧ x.2.2 = mGets (nI p) (nI q) v + mGets (nI q) (nI p) w))
theorem su_step {n one other b : Nat} {v w : Int32} {x : Ws3} {y : Int32 × Int32} (h1 : one ≤ 20) (h2 : other ≤ 20) (hb : b < 2 ^ 30) (h : SuR v w b x y) : SuR v w (b + 1) (wgh n v w one other x) (mSu2 v w n one other y) := by
  obtain ⟨e1, e2, c, hc, e3, e4⟩ := h
  unfold wgh mSu2
  by_cases hh : mBid (nI one) (nI other) v n = true ∧ mBid (nI other) (nI one) w n = true
  · have hn : ¬ (gn (nI one) (nI other) v < bA v (nI other) n ∨ ¬ bA w (nI one) n ≤ gn (nI other) (nI one) w) := by
      rintro (z | z)
      · exact i_nlt.mpr (bid_iff.mpr hh.1) z
      · exact z (bid_iff.mpr hh.2)
    rw [if_pos hh, if_neg hn]
    refine ⟨?_, ?_, c + 1, by omega, ?_, Or.inr ⟨by omega, ?_⟩⟩
    · show x.1 + 1 = y.1 + 1
      rw [e1]
    · show (if x.1 = 0 then 100 * nI one + nI other else x.2.1) = if y.1 = 0 then 100 * nI one + nI other else y.2
      rw [e1, e2]
    · show y.1 + 1 = nI (c + 1)
      rw [e3, nI_1]
    · show ∃ p q, p ≤ 20 ∧ q ≤ 20 ∧ (if y.1 = 0 then 100 * nI one + nI other else y.2) = nI (100 * p + q) ∧ (if x.1 = 0 then gn (nI one) (nI other) v + gn (nI other) (nI one) w else x.2.2) = _
      rw [e1, e3]
      rcases e4 with ⟨rfl, _, _⟩ | ⟨h0, p, q, hp, hq, f1, f2⟩
      · rw [if_pos (show nI 0 = 0 from rfl), if_pos (show nI 0 = 0 from rfl)]
        exact ⟨one, other, h1, h2, by rw [show (100 : Int32) = nI 100 from rfl, nI_mul, nI_add], by rw [gn_eq, gn_eq]⟩
      · have hc0 : ¬ nI c = 0 := fun z => by
          have := (nI_eq (a := c) (b := 0) (by omega) (by decide)).mp z
          omega
        rw [if_neg hc0, if_neg hc0]
        exact ⟨p, q, hp, hq, f1, f2⟩
  · have hn : gn (nI one) (nI other) v < bA v (nI other) n ∨ ¬ bA w (nI one) n ≤ gn (nI other) (nI one) w := by
      by_cases z : mBid (nI one) (nI other) v n = true
      · exact Or.inr (fun q => hh ⟨z, bid_iff.mp q⟩)
      · exact Or.inl (i_nle.mp (fun q => z (bid_iff.mp q)))
    rw [if_neg hh, if_pos hn]
    exact ⟨e1, e2, c, by omega, e3, e4⟩
theorem su_rel {n : Nat} {v w : Int32} (hn : n ≤ 20) : SuR v w ((n + 1) * 21) (restsX n v w) (mSuX n v w) := by
  unfold restsX mSuX
  have := lpM_relI (R := fun i x y => SuR v w (i * 21) x y) (g := fun one x => lpM (wgh n v w one) (n + 1) 0 x) (g' := fun one x => lpM (mSu2 v w n one) (n + 1) 0 x) (n + 1) 0 (0, -1, 0) (0, -1)
    ⟨rfl, rfl, 0, by omega, rfl, Or.inl ⟨rfl, rfl, rfl⟩⟩ (fun one x y _ h1 h => by
      have := lpM_relI (R := fun i x y => SuR v w (one * 21 + i) x y) (g := wgh n v w one) (g' := mSu2 v w n one) (n + 1) 0 x y h (fun other x y _ h2 h => su_step (b := one * 21 + other) (by omega) (by omega) (by omega) h)
      obtain ⟨e1, e2, c, hc, e3, e4⟩ := this
      exact ⟨e1, e2, c, by omega, e3, e4⟩)
  rw [Nat.zero_add] at this
  exact this
theorem su_eq {n : Nat} {v w : Int32} (hn : n ≤ 20) : fSu n v w z = mSuV n v w z := by
  obtain ⟨e1, e2, c, hc, e3, e4⟩ := su_rel (v := v) (w := w) hn
  unfold fSu mSuV
  by_cases z0 : z = 0
  · rw [if_pos z0, if_pos z0, e1]
  rw [if_neg z0, if_neg z0]
  by_cases z1 : z = 1
  · rw [if_pos z1, if_pos z1, e2]
  rw [if_neg z1, if_neg z1]
  rcases e4 with ⟨_, f1, f2⟩ | ⟨h0, p, q, hp, hq, f1, f2⟩
  · rw [if_pos f1, f2]
  · rw [f1, if_neg (nI_n1 (by omega)), f2, show (100 : Int32) = nI 100 from rfl, nI_mod (by omega) (by decide), nI_div (by omega) (by decide), show (100 * p + q) / 100 = p by omega, show (100 * p + q) % 100 = q by omega]
end LNR
