/-! The reference: a whole clause, tellsNothing, lays, copies -/
theorem mFa_K {a : IA} {q f : Nat} {k : Int32} : mK a (mFa a q k f) := mK_tr (mK_6 rfl) (mK_tr (mK_6 rfl) (mK_6 rfl))
theorem MT.fa {a : IA} {B : Nat → Int32} {n p q f : Nat} {k : Int32} (h : MT a B n p) (hq : q ≤ n) (hk : ¬ k = 0) : MS (mFa a q k f) B n (.inr (k, f)) := by
  exact h.ms.st (o' := .inr (k, f)) (x := nI q) (fun z hz => (by cases hz)) (fun p hp => (by cases hp)) (fun k' f' hz => (by cases hz; exact hk)) ⟨q, hq, rfl⟩
section MC4
variable {G : GE} {d C S : Nat} {a b : IA} {r : RA} {N n p i s m nc ns ng w j : Nat} {B : Nat → Int32} {x y kd : Int32} {o : Po}
theorem ct_full {ct : Int32} : ctFull ct (nI nc) (nI ns) (nI ng) = true ↔ (ct = 1 ∧ (10 : Int32) ≤ nI nc) ∨ (ct = 2 ∧ (8 : Int32) ≤ nI ns) ∨ (ct = 5 ∧ (8 : Int32) ≤ nI ng) := by
  unfold ctFull
  simp only [Bool.or_eq_true, Bool.and_eq_true, decide_eq_true_eq, or_assoc]
theorem c_mClause {P : KN} (hr : Rk r) (hT : MT a B n p) (h7 : a 60 7 = nI m) (hm : m ≤ 60) (h0 : a 63 0 = nI nc) (hnc : nc ≤ 10) (h1 : a 63 1 = nI ns) (hns : ns ≤ 8) (h2 : a 63 2 = nI ng) (hng : ng ≤ 8)
    (hy : ∀ c e, pClause B n m (nI nc) (nI ns) (nI ng) p = .inl (c, e) → MS (mAt (mDo (u2 a 60 7 (nI (m + 1))) c) e) B n (.inl e) → P (mAt (mDo (u2 a 60 7 (nI (m + 1))) c) e) r nK)
    (hf : ∀ k f, pClause B n m (nI nc) (nI ns) (nI ng) p = .inr (k, f) → ∀ a', mK a a' → MS a' B n (.inr (k, f)) → P a' r nK) :
    Sp G (d + 5) 0 0 MX12_clause [.ref 60] (a, r, nK) (RN P) := by
  have l1 := skB_le (B := B) hT.2.2.2.1
  have hct := rKind_ct (B := B) (n := n) (p := p)
  have l10 : (10 : Int32) ≤ nI nc ↔ 10 ≤ nc := nI_leI (a := 10) (by decide) (by omega)
  have l8 : (8 : Int32) ≤ nI ns ↔ 8 ≤ ns := nI_leI (a := 8) (by decide) (by omega)
  have l8' : (8 : Int32) ≤ nI ng ↔ 8 ≤ ng := nI_leI (a := 8) (by decide) (by omega)
  refine c_mClHead hr hT h7 hm h0 hnc h1 hns h2 hng (fun hk hm6 f0 f1 f2 => c_mClBody hr hT h7 hm6 h0 hnc h1 hns h2 hng hk f0 f1 f2 hy hf) (fun hk => ?_) (fun hk h3 => ?_)
  · refine hf 1 (skB B n p) ?_ _ mFa_K (hT.fa l1.2 (by decide))
    unfold pClause
    rw [if_pos]
    rcases hct with h | h | h | h | h | h | h | h <;> first | exact h.1 | exact absurd (hk.symm.trans h.2) (by decide)
  · refine hf 3 (skB B n p) ?_ _ mFa_K (hT.fa l1.2 (by decide))
    unfold pClause
    rw [if_neg, if_pos]
    · rw [ct_full, l10, l8, l8']
      rcases h3 with h3 | h3 | h3 | h3
      · left; omega
      all_goals
        right
        rcases hct with h | h | h | h | h | h | h | h <;> first | exact absurd (h3.1.symm.trans h.2) (by decide) | (rw [h.1]; simp; omega)
    · intro h0
      rcases hct with h | h | h | h | h | h | h | h <;> first | exact hk h.2 | exact absurd (h0.symm.trans h.1) (by decide)
/-- tells nothing -/
def mCl (a a' : IA) : Prop := (∀ q, q ≠ 63 → ¬ (106 ≤ q ∧ q ≤ 113) → ¬ (124 ≤ q ∧ q ≤ 131) → a' q = a q) ∧ (∀ j, j < 8 → a' 63 j = if j = 3 then 30 else if j = 5 then 1 else 0) ∧ (∀ s j, s < 8 → j < 8 → a' (105 + 1 + s) j = 5 ∧ a' (123 + 1 + s) j = 0)
theorem l_mTell2 {P : KN} (hr : Rk r) (a0 : IA) (hp : ∀ a', mCl a0 a' → P a' r nK) : ∀ (t s : Nat) (a : IA), s + t = 8 → (∀ q, q ≠ 63 → ¬ (106 ≤ q ∧ q ≤ 113) → ¬ (124 ≤ q ∧ q ≤ 131) → a q = a0 q) → (∀ j, j < 8 → a 63 j = if j = 3 then 30 else if j = 5 then 1 else 0) →
    (∀ s' j, s' < s → j < 8 → a (105 + 1 + s') j = 5 ∧ a (123 + 1 + s') j = 0) → E G MX12_tellsNothing d C S 38 [.ref 60, .int (nI s), .null] [] (a, r, nK) (RN P) := by
  intro t
  induction t with
  | zero =>
    intro s a hs h1 h2 h3
    obtain rfl : s = 8 := by omega
    exact V_X12_tellsNothing_38 ⟨fun _ => hp a ⟨h1, h2, h3⟩, fun h => absurd (by decide) h⟩
  | succ t ih =>
    intro s a hs h1 h2 h3
    refine V_X12_tellsNothing_38 ⟨fun h => absurd ((nI_leI (a := 8) (by decide) (by omega)).mp h) (by omega), fun _ => ?_⟩
    have inner : ∀ (u j : Nat) (a : IA), j + u = 8 → (∀ q, q ≠ 63 → ¬ (106 ≤ q ∧ q ≤ 113) → ¬ (124 ≤ q ∧ q ≤ 131) → a q = a0 q) → (∀ j, j < 8 → a 63 j = if j = 3 then 30 else if j = 5 then 1 else 0) →
        (∀ s' j', (s' < s ∧ j' < 8) ∨ (s' = s ∧ j' < j) → a (105 + 1 + s') j' = 5 ∧ a (123 + 1 + s') j' = 0) → E G MX12_tellsNothing d C S 46 [.ref 60, .int (nI s), .int (nI j)] [] (a, r, nK) (RN P) := by
      intro u
      induction u with
      | zero =>
        intro j a hj h1 h2 h3
        obtain rfl : j = 8 := by omega
        refine V_X12_tellsNothing_46 ⟨fun _ => ?_, fun h => absurd (by decide) h⟩
        rw [nI_1]
        exact ih (s + 1) a (by omega) h1 h2 (fun s' j' hs' hj' => h3 s' j' (by omega))
      | succ u ih2 =>
        intro j a hj h1 h2 h3
        have is : (nI s).toNatClampNeg = s := nI_clamp (by omega)
        have ij : (nI j).toNatClampNeg = j := nI_clamp (by omega)
        refine V_X12_tellsNothing_46 ⟨fun h => absurd ((nI_leI (a := 8) (by decide) (by omega)).mp h) (by omega), fun _ => ⟨rfl, by decide, 105, rf5 hr (by decide) rfl, rfl, by decide, vp_in_nI (show s < 8 by omega) (by decide), ?_⟩⟩
        rw [is, ij]
        refine row3 (tyR_readLikes s (by omega)) (by show _ < 878; omega) (vp_in_nI (show j < 8 by omega) (by decide)) (fun a2 h4 => ⟨rfl, by decide, 123, rf5 hr (by decide) rfl, rfl, by decide, vp_in_nI (show s < 8 by omega) (by decide), row3 (tyR_readNever s (by omega)) (by show _ < 878; omega) (vp_in_nI (show j < 8 by omega) (by decide)) (fun a4 h5 => ?_)⟩)
        subst h4 h5
        rw [nI_1]
        refine ih2 (j + 1) _ (by omega) (fun q h6 h7 h8 => by rw [u2_off q (by omega), u2_off q (by omega)]; exact h1 q h6 h7 h8) (fun i hi => by rw [u2_off 63 (by omega), u2_off 63 (by omega)]; exact h2 i hi) (fun s' j' h6 => ?_)
        rw [u2_at0, u2_at0, u2_at0, u2_at0]
        by_cases e : s' = s ∧ j' = j
        · rw [if_neg (by omega), if_pos (by omega), if_pos (by omega)]; exact ⟨rfl, rfl⟩
        · rw [if_neg (by omega), if_neg (by omega), if_neg (by omega), if_neg (by omega)]
          exact h3 s' j' (by omega)
    exact inner 8 0 a (by omega) h1 h2 (fun s' j' h => h3 s' j' (by omega) (by omega))
theorem l_mTell1 {P : KN} (hr : Rk r) (a0 : IA) (hp : ∀ a', mCl a0 a' → P a' r nK) : ∀ (t j : Nat) (a : IA), j + t = 8 → (∀ q, q ≠ 63 → a q = a0 q) → (∀ i, i < j → a 63 i = 0) → E G MX12_tellsNothing d C S 2 [.ref 60, .int (nI j), .null] [] (a, r, nK) (RN P) := by
  have r63 : r 60 11 = .ref 63 := rf5 hr (by decide) rfl
  intro t
  induction t with
  | zero =>
    intro j a hj h1 h2
    obtain rfl : j = 8 := by omega
    refine V_X12_tellsNothing_2 ⟨fun _ => ⟨rfl, by decide, 63, r63, rfl, by decide, vp_in_nI (show 3 < 8 by decide) (by decide), fun a2 h3 => ⟨rfl, by decide, 63, r63, rfl, by decide, vp_in_nI (show 5 < 8 by decide) (by decide), fun a4 h4 => ?_⟩⟩, fun h => absurd (by decide) h⟩
    subst h3 h4
    refine l_mTell2 hr a0 hp 8 0 _ (by omega) (fun q h3 _ _ => by rw [u2_off q h3, u2_off q h3]; exact h1 q h3) (fun i hi => ?_) (fun s' j' h => absurd h (by omega))
    rw [z3, z5, u2_at0, u2_at0]
    by_cases e5 : i = 5
    · rw [if_pos ⟨rfl, e5⟩, if_neg (by omega), if_pos e5]
    · rw [if_neg (fun e => e5 e.2)]
      by_cases e3 : i = 3
      · rw [if_pos ⟨rfl, e3⟩, if_pos e3]
      · rw [if_neg (fun e => e3 e.2), if_neg e3, if_neg e5]; exact h2 i hi
  | succ t ih =>
    intro j a hj h1 h2
    refine V_X12_tellsNothing_2 ⟨fun h => absurd ((nI_leI (a := 8) (by decide) (by omega)).mp h) (by omega), fun _ => ⟨rfl, by decide, 63, r63, rfl, by decide, vp_in_nI (show j < 8 by omega) (by decide), fun a6 h6 => ?_⟩⟩
    subst h6
    rw [nI_1, nI_clamp (by omega)]
    refine ih (j + 1) _ (by omega) (fun q h => by rw [u2_off q h]; exact h1 q h) (fun i hi => ?_)
    rw [u2_at0]
    by_cases e : i = j
    · rw [if_pos ⟨rfl, e⟩]
    · rw [if_neg (fun h => e h.2)]; exact h2 i (by omega)
theorem c_mTells {P : KN} (hr : Rk r) (hp : ∀ a', mCl a a' → P a' r nK) : Sp G d 0 0 MX12_tellsNothing [.ref 60] (a, r, nK) (RN P) :=
  V_X12_tellsNothing_0 (l_mTell1 hr a hp 8 0 a (by omega) (fun _ _ => rfl) (fun i hi => absurd hi (by omega)))
/-- one row of 42 to another -/
theorem l_mCopies {P : KN} {q1 q2 : Nat} (t1 : tyK q1 = (1, 42)) (t2 : tyK q2 = (1, 42)) (b1 : q1 < nK) (b2 : q2 < nK) (hne : q1 ≠ q2) (a : IA) (hp : P (va_up a q2 (fun j => if j < 42 then a q1 j else a q2 j)) r nK) :
    ∀ (t k : Nat), k + t = 42 → E G MX12_copies d C S 2 [.ref q1, .ref q2, .int (nI k)] [] (va_up a q2 (fun j => if j < k then a q1 j else a q2 j), r, nK) (RN P) := by
  intro t
  induction t with
  | zero =>
    intro k hk
    obtain rfl : k = 42 := by omega
    exact V_X12_copies_2 ⟨fun _ => hp, fun h => absurd (by decide) h⟩
  | succ t ih =>
    intro k hk
    refine V_X12_copies_2 ⟨fun h => absurd ((nI_leI (a := 42) (by decide) (by omega)).mp h) (by omega), fun _ => ⟨by rw [t1], b1, by rw [t1]; exact vp_in_nI (show k < 42 by omega) (by decide), by rw [t2], b2, by rw [t2]; exact vp_in_nI (show k < 42 by omega) (by decide), fun a1 h1 => ?_⟩⟩
    rw [nI_clamp (by omega), va_up_ne _ _ hne] at h1
    have e : a1 = va_up a q2 (fun j => if j < k + 1 then a q1 j else a q2 j) := by
      rw [h1]
      unfold u2
      rw [va_up_self, bx_uu]
      congr 1
      funext j
      unfold upd
      by_cases e : j = k
      · rw [if_pos e, if_pos (by omega), e]
      · rw [if_neg e]
        show (if j < k then a q1 j else a q2 j) = _
        by_cases h : j < k
        · rw [if_pos h, if_pos (by omega)]
        · rw [if_neg h, if_neg (by omega)]
    rw [e, nI_1]
    exact ih (k + 1) (by omega)
theorem c_mCopies {P : KN} {q1 q2 : Nat} (t1 : tyK q1 = (1, 42)) (t2 : tyK q2 = (1, 42)) (b1 : q1 < nK) (b2 : q2 < nK) (hne : q1 ≠ q2) (hp : P (va_up a q2 (fun j => if j < 42 then a q1 j else a q2 j)) r nK) :
    Sp G d 0 0 MX12_copies [.ref q1, .ref q2] (a, r, nK) (RN P) := by
  have h := l_mCopies (G := G) (d := d) (C := 0) (S := 0) t1 t2 b1 b2 hne a hp 42 0 (by omega)
  have e : va_up a q2 (fun j => if j < 0 then a q1 j else a q2 j) = a := by
    simp only [Nat.not_lt_zero, if_false]
    exact up_same a q2
  rw [e] at h
  exact V_X12_copies_0 h
/-- rows of rows: the first `many` -/
def mLd (a a' : IA) (q1 q2 L many : Nat) : Prop := (∀ q, ¬ (q2 + 1 ≤ q ∧ q < q2 + 1 + many) → a' q = a q) ∧ ∀ k i, k < many → i < L → a' (q2 + 1 + k) i = a (q1 + 1 + k) i
theorem c_mLays {P : KN} {q1 q2 M L many : Nat} (t1 : tyK q1 = (3, M)) (t2 : tyK q2 = (3, M)) (b1 : q1 + 1 + M < 878) (b2 : q2 + 1 + M < 878) (hL : L < 100) (hM : M < 200)
    (u1 : ∀ k, k < M → tyK (q1 + 1 + k) = (1, L)) (w1 : ∀ k, k < M → tyK (q2 + 1 + k) = (1, L)) (hne : q1 + 1 + M ≤ q2 ∨ q2 + 1 + M ≤ q1) (hm : many ≤ M)
    (hp : ∀ a', mLd a a' q1 q2 L many → P a' r nK) : Sp G d 0 0 MX12_lays [.ref q1, .ref q2, .int (nI many)] (a, r, nK) (RN P) := by
  have outer : ∀ (t k : Nat) (h : IA), k + t = many → (∀ q, ¬ (q2 + 1 ≤ q ∧ q < q2 + 1 + many) → h q = a q) → (∀ k' i, k' < k → i < L → h (q2 + 1 + k') i = a (q1 + 1 + k') i) →
      E G MX12_lays d 0 0 2 [.ref q1, .ref q2, .int (nI many), .int (nI k), .null] [] (h, r, nK) (RN P) := by
    intro t
    induction t with
    | zero =>
      intro k h hk h1 h2
      obtain rfl : k = many := by omega
      exact V_X12_lays_2 ⟨fun _ => hp h ⟨h1, h2⟩, fun e => absurd (nI_le (by omega) (by omega)) e⟩
    | succ t ih =>
      intro k h hk h1 h2
      refine V_X12_lays_2 ⟨fun e => absurd ((nI_leI (by omega) (by omega)).mp e) (by omega), fun _ => ?_⟩
      have inner : ∀ (u j : Nat) (h : IA), j + u = L → (∀ q, ¬ (q2 + 1 ≤ q ∧ q < q2 + 1 + many) → h q = a q) → (∀ k' i, (k' < k ∧ i < L) ∨ (k' = k ∧ i < j) → h (q2 + 1 + k') i = a (q1 + 1 + k') i) →
          E G MX12_lays d 0 0 10 [.ref q1, .ref q2, .int (nI many), .int (nI k), .int (nI j)] [] (h, r, nK) (RN P) := by
        intro u
        induction u with
        | zero =>
          intro j h hj h1 h2
          obtain rfl : j = L := by omega
          refine V_X12_lays_10 ⟨by rw [t2], by show q2 < 878; omega, by rw [t2]; exact vp_in_nI (show k < M by omega) (by omega), ?_⟩
          rw [nI_clamp (by omega), w1 k (by omega)]
          refine ⟨Or.inl rfl, by show _ < 878; omega, fun _ => ?_, fun e => absurd (nI_le (a := j) (b := j) (Nat.le_refl _) (by omega)) e⟩
          rw [nI_1]
          exact ih (k + 1) h (by omega) h1 (fun k' i hk' hi => h2 k' i (by omega))
        | succ u ih2 =>
          intro j h hj h1 h2
          refine V_X12_lays_10 ⟨by rw [t2], by show q2 < 878; omega, by rw [t2]; exact vp_in_nI (show k < M by omega) (by omega), ?_⟩
          rw [nI_clamp (by omega), w1 k (by omega)]
          refine ⟨Or.inl rfl, by show _ < 878; omega, fun e => absurd ((nI_leI (a := L) (b := j) (by omega) (by omega)).mp e) (by omega), fun _ => ⟨by rw [t2], by show q2 < 878; omega, by rw [t2]; exact vp_in_nI (show k < M by omega) (by omega), by rw [t1], by show q1 < 878; omega, by rw [t1]; exact vp_in_nI (show k < M by omega) (by omega), ?_⟩⟩
          rw [u1 k (by omega)]
          refine ⟨rfl, by show _ < 878; omega, vp_in_nI (show j < L by omega) (by omega), rfl, by show _ < 878; omega, vp_in_nI (show j < L by omega) (by omega), fun a1 e1 => ?_⟩
          rw [nI_clamp (by omega), h1 (q1 + 1 + k) (by omega)] at e1
          subst e1
          rw [nI_1]
          refine ih2 (j + 1) _ (by omega) (fun q hq => by rw [u2_off q (by omega)]; exact h1 q hq) (fun k' i hk' => ?_)
          rw [u2_at0]
          by_cases e : k' = k ∧ i = j
          · rw [if_pos (by omega), e.1, e.2]
          · rw [if_neg (by omega)]; exact h2 k' i (by omega)
      exact inner L 0 h (by omega) h1 (fun k' i hk' => h2 k' i (by omega) (by omega))
  exact V_X12_lays_0 (outer many 0 a (by omega) (fun _ _ => rfl) (fun k' i hk' => absurd hk' (by omega)))
end MC4
