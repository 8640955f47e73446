/-! The reference's constructor: its two methods while the last cell isn't made yet -/
section MDE
variable {G : GE} {d C S : Nat} {a b : IA} {r : RA} {N n p i s m nc ns ng w j : Nat} {B : Nat → Int32} {x y kd : Int32} {o : Po}
theorem lk_mTell2 {P : KN} (hr : Rk r) (a0 : IA) (hp : ∀ a', mCl a0 a' → P a' r 877) : ∀ (t s : Nat) (a : IA), s + t = 8 → (∀ q, q ≠ 63 → ¬ (106 ≤ q ∧ q ≤ 113) → ¬ (124 ≤ q ∧ q ≤ 131) → a q = a0 q) → (∀ j, j < 8 → a 63 j = if j = 3 then 30 else if j = 5 then 1 else 0) →
    (∀ s' j, s' < s → j < 8 → a (105 + 1 + s') j = 5 ∧ a (123 + 1 + s') j = 0) → E G MX12_tellsNothing d C S 38 [.ref 60, .int (nI s), .null] [] (a, r, 877) (RN P) := by
  intro t
  induction t with
  | zero =>
    intro s a hs h1 h2 h3
    obtain rfl : s = 8 := by omega
    exact V_X12_tellsNothing_38 ⟨fun _ => hp a ⟨h1, h2, h3⟩, fun h => absurd (by decide) h⟩
  | succ t ih =>
    intro s a hs h1 h2 h3
    refine V_X12_tellsNothing_38 ⟨fun h => absurd ((nI_leI (a := 8) (by decide) (by omega)).mp h) (by omega), fun _ => ?_⟩
    have inner : ∀ (u j : Nat) (a : IA), j + u = 8 → (∀ q, q ≠ 63 → ¬ (106 ≤ q ∧ q ≤ 113) → ¬ (124 ≤ q ∧ q ≤ 131) → a q = a0 q) → (∀ j, j < 8 → a 63 j = if j = 3 then 30 else if j = 5 then 1 else 0) →
        (∀ s' j', (s' < s ∧ j' < 8) ∨ (s' = s ∧ j' < j) → a (105 + 1 + s') j' = 5 ∧ a (123 + 1 + s') j' = 0) → E G MX12_tellsNothing d C S 46 [.ref 60, .int (nI s), .int (nI j)] [] (a, r, 877) (RN P) := by
      intro u
      induction u with
      | zero =>
        intro j a hj h1 h2 h3
        obtain rfl : j = 8 := by omega
        refine V_X12_tellsNothing_46 ⟨fun _ => ?_, fun h => absurd (by decide) h⟩
        rw [nI_1]
        exact ih (s + 1) a (by omega) h1 h2 (fun s' j' hs' hj' => h3 s' j' (by omega))
      | succ u ih2 =>
        intro j a hj h1 h2 h3
        have is : (nI s).toNatClampNeg = s := nI_clamp (by omega)
        have ij : (nI j).toNatClampNeg = j := nI_clamp (by omega)
        refine V_X12_tellsNothing_46 ⟨fun h => absurd ((nI_leI (a := 8) (by decide) (by omega)).mp h) (by omega), fun _ => ⟨rfl, by decide, 105, rf5 hr (by decide) rfl, rfl, by decide, vp_in_nI (show s < 8 by omega) (by decide), ?_⟩⟩
        rw [is, ij]
        refine row3 (tyR_readLikes s (by omega)) (by show _ < 877; omega) (vp_in_nI (show j < 8 by omega) (by decide)) (fun a2 h4 => ⟨rfl, by decide, 123, rf5 hr (by decide) rfl, rfl, by decide, vp_in_nI (show s < 8 by omega) (by decide), row3 (tyR_readNever s (by omega)) (by show _ < 877; omega) (vp_in_nI (show j < 8 by omega) (by decide)) (fun a4 h5 => ?_)⟩)
        subst h4 h5
        rw [nI_1]
        refine ih2 (j + 1) _ (by omega) (fun q h6 h7 h8 => by rw [u2_off q (by omega), u2_off q (by omega)]; exact h1 q h6 h7 h8) (fun i hi => by rw [u2_off 63 (by omega), u2_off 63 (by omega)]; exact h2 i hi) (fun s' j' h6 => ?_)
        rw [u2_at0, u2_at0, u2_at0, u2_at0]
        by_cases e : s' = s ∧ j' = j
        · rw [if_neg (by omega), if_pos (by omega), if_pos (by omega)]; exact ⟨rfl, rfl⟩
        · rw [if_neg (by omega), if_neg (by omega), if_neg (by omega), if_neg (by omega)]
          exact h3 s' j' (by omega)
    exact inner 8 0 a (by omega) h1 h2 (fun s' j' h => h3 s' j' (by omega) (by omega))
theorem lk_mTell1 {P : KN} (hr : Rk r) (a0 : IA) (hp : ∀ a', mCl a0 a' → P a' r 877) : ∀ (t j : Nat) (a : IA), j + t = 8 → (∀ q, q ≠ 63 → a q = a0 q) → (∀ i, i < j → a 63 i = 0) → E G MX12_tellsNothing d C S 2 [.ref 60, .int (nI j), .null] [] (a, r, 877) (RN P) := by
  have r63 : r 60 11 = .ref 63 := rf5 hr (by decide) rfl
  intro t
  induction t with
  | zero =>
    intro j a hj h1 h2
    obtain rfl : j = 8 := by omega
    refine V_X12_tellsNothing_2 ⟨fun _ => ⟨rfl, by decide, 63, r63, rfl, by decide, vp_in_nI (show 3 < 8 by decide) (by decide), fun a2 h3 => ⟨rfl, by decide, 63, r63, rfl, by decide, vp_in_nI (show 5 < 8 by decide) (by decide), fun a4 h4 => ?_⟩⟩, fun h => absurd (by decide) h⟩
    subst h3 h4
    refine lk_mTell2 hr a0 hp 8 0 _ (by omega) (fun q h3 _ _ => by rw [u2_off q h3, u2_off q h3]; exact h1 q h3) (fun i hi => ?_) (fun s' j' h => absurd h (by omega))
    rw [z3, z5, u2_at0, u2_at0]
    by_cases e5 : i = 5
    · rw [if_pos ⟨rfl, e5⟩, if_neg (by omega), if_pos e5]
    · rw [if_neg (fun e => e5 e.2)]
      by_cases e3 : i = 3
      · rw [if_pos ⟨rfl, e3⟩, if_pos e3]
      · rw [if_neg (fun e => e3 e.2), if_neg e3, if_neg e5]; exact h2 i hi
  | succ t ih =>
    intro j a hj h1 h2
    refine V_X12_tellsNothing_2 ⟨fun h => absurd ((nI_leI (a := 8) (by decide) (by omega)).mp h) (by omega), fun _ => ⟨rfl, by decide, 63, r63, rfl, by decide, vp_in_nI (show j < 8 by omega) (by decide), fun a6 h6 => ?_⟩⟩
    subst h6
    rw [nI_1, nI_clamp (by omega)]
    refine ih (j + 1) _ (by omega) (fun q h => by rw [u2_off q h]; exact h1 q h) (fun i hi => ?_)
    rw [u2_at0]
    by_cases e : i = j
    · rw [if_pos ⟨rfl, e⟩]
    · rw [if_neg (fun h => e h.2)]; exact h2 i (by omega)
theorem ck_mTells {P : KN} (hr : Rk r) (hp : ∀ a', mCl a a' → P a' r 877) : Sp G d 0 0 MX12_tellsNothing [.ref 60] (a, r, 877) (RN P) :=
  V_X12_tellsNothing_0 (lk_mTell1 hr a hp 8 0 a (by omega) (fun _ _ => rfl) (fun i hi => absurd hi (by omega)))
theorem ck_mLays {P : KN} {q1 q2 M L many : Nat} (t1 : tyK q1 = (3, M)) (t2 : tyK q2 = (3, M)) (b1 : q1 + 1 + M < 877) (b2 : q2 + 1 + M < 877) (hL : L < 100) (hM : M < 200)
    (u1 : ∀ k, k < M → tyK (q1 + 1 + k) = (1, L)) (w1 : ∀ k, k < M → tyK (q2 + 1 + k) = (1, L)) (hne : q1 + 1 + M ≤ q2 ∨ q2 + 1 + M ≤ q1) (hm : many ≤ M)
    (hp : ∀ a', mLd a a' q1 q2 L many → P a' r 877) : Sp G d 0 0 MX12_lays [.ref q1, .ref q2, .int (nI many)] (a, r, 877) (RN P) := by
  have outer : ∀ (t k : Nat) (h : IA), k + t = many → (∀ q, ¬ (q2 + 1 ≤ q ∧ q < q2 + 1 + many) → h q = a q) → (∀ k' i, k' < k → i < L → h (q2 + 1 + k') i = a (q1 + 1 + k') i) →
      E G MX12_lays d 0 0 2 [.ref q1, .ref q2, .int (nI many), .int (nI k), .null] [] (h, r, 877) (RN P) := by
    intro t
    induction t with
    | zero =>
      intro k h hk h1 h2
      obtain rfl : k = many := by omega
      exact V_X12_lays_2 ⟨fun _ => hp h ⟨h1, h2⟩, fun e => absurd (nI_le (by omega) (by omega)) e⟩
    | succ t ih =>
      intro k h hk h1 h2
      refine V_X12_lays_2 ⟨fun e => absurd ((nI_leI (by omega) (by omega)).mp e) (by omega), fun _ => ?_⟩
      have inner : ∀ (u j : Nat) (h : IA), j + u = L → (∀ q, ¬ (q2 + 1 ≤ q ∧ q < q2 + 1 + many) → h q = a q) → (∀ k' i, (k' < k ∧ i < L) ∨ (k' = k ∧ i < j) → h (q2 + 1 + k') i = a (q1 + 1 + k') i) →
          E G MX12_lays d 0 0 10 [.ref q1, .ref q2, .int (nI many), .int (nI k), .int (nI j)] [] (h, r, 877) (RN P) := by
        intro u
        induction u with
        | zero =>
          intro j h hj h1 h2
          obtain rfl : j = L := by omega
          refine V_X12_lays_10 ⟨by rw [t2], by show q2 < 877; omega, by rw [t2]; exact vp_in_nI (show k < M by omega) (by omega), ?_⟩
          rw [nI_clamp (by omega), w1 k (by omega)]
          refine ⟨Or.inl rfl, by show _ < 877; omega, fun _ => ?_, fun e => absurd (nI_le (a := j) (b := j) (Nat.le_refl _) (by omega)) e⟩
          rw [nI_1]
          exact ih (k + 1) h (by omega) h1 (fun k' i hk' hi => h2 k' i (by omega))
        | succ u ih2 =>
          intro j h hj h1 h2
          refine V_X12_lays_10 ⟨by rw [t2], by show q2 < 877; omega, by rw [t2]; exact vp_in_nI (show k < M by omega) (by omega), ?_⟩
          rw [nI_clamp (by omega), w1 k (by omega)]
          refine ⟨Or.inl rfl, by show _ < 877; omega, fun e => absurd ((nI_leI (a := L) (b := j) (by omega) (by omega)).mp e) (by omega), fun _ => ⟨by rw [t2], by show q2 < 877; omega, by rw [t2]; exact vp_in_nI (show k < M by omega) (by omega), by rw [t1], by show q1 < 877; omega, by rw [t1]; exact vp_in_nI (show k < M by omega) (by omega), ?_⟩⟩
          rw [u1 k (by omega)]
          refine ⟨rfl, by show _ < 877; omega, vp_in_nI (show j < L by omega) (by omega), rfl, by show _ < 877; omega, vp_in_nI (show j < L by omega) (by omega), fun a1 e1 => ?_⟩
          rw [nI_clamp (by omega), h1 (q1 + 1 + k) (by omega)] at e1
          subst e1
          rw [nI_1]
          refine ih2 (j + 1) _ (by omega) (fun q hq => by rw [u2_off q (by omega)]; exact h1 q hq) (fun k' i hk' => ?_)
          rw [u2_at0]
          by_cases e : k' = k ∧ i = j
          · rw [if_pos (by omega), e.1, e.2]
          · rw [if_neg (by omega)]; exact h2 k' i (by omega)
      exact inner L 0 h (by omega) h1 (fun k' i hk' => h2 k' i (by omega) (by omega))
  exact V_X12_lays_0 (outer many 0 a (by omega) (fun _ _ => rfl) (fun k' i hk' => absurd hk' (by omega)))
theorem lk_mStand3 {P : KN} (hr : Rk r) (hns : ns ≤ 8) : ∀ (t k : Nat) (a : IA), k + t = ns → a 64 1 = nI ns → (∀ a', (∀ q, q ≠ 60 → q ≠ 582 → a' q = a q) → (∀ j, mZ j = false → a' 60 j = a 60 j) → (∀ j, mZ j = true → a' 60 j = 0) →
      (∀ j, a' 582 j = if 24 + k ≤ j ∧ j < 24 + ns then a (96 + 1 + (j - 24)) 3 else a 582 j) → P a' r 877) → E G MX12_stands (d + 1) C S 136 [.ref 60, .int (nI k)] [] (a, r, 877) (RN P) := by
  intro t
  induction t with
  | zero =>
    intro k a hk h1 hp
    obtain rfl : k = ns := by omega
    refine V_X12_stands_136 ⟨rfl, by decide, 64, rf5 hr (by decide) rfl, rfl, by decide, vp_in_nI (show 1 < 8 by decide) (by decide), fun _ => ⟨rfl, by decide, fun a2 h2 => ⟨rfl, by decide, fun a3 h3 => ⟨rfl, by decide, fun a4 h4 => ⟨rfl, by decide, fun a5 h5 => ⟨rfl, by decide, fun a6 h6 => ?_⟩⟩⟩⟩⟩, fun h => absurd ?_ h⟩
    · subst h2 h3 h4 h5 h6
      refine hp _ (fun q h0 _ => by rw [u2_off q h0, u2_off q h0, u2_off q h0, u2_off q h0, u2_off q h0]) (fun j hj => ?_) (fun j hj => ?_) (fun j => ?_)
      · unfold mZ at hj
        simp only [Bool.or_eq_false_iff, decide_eq_false_iff_not] at hj
        rw [u2_ne (by omega), u2_ne (by omega), u2_ne (by omega), u2_ne (by omega), u2_ne (by omega)]
      · unfold mZ at hj
        simp only [Bool.or_eq_true, decide_eq_true_eq] at hj
        simp only [u2_at0, true_and]
        have : j = 23 ∨ j = 38 ∨ j = 39 ∨ j = 40 ∨ j = 41 := by omega
        rcases this with rfl | rfl | rfl | rfl | rfl <;> rfl
      · rw [if_neg (by omega), u2_off 582 (by decide), u2_off 582 (by decide), u2_off 582 (by decide), u2_off 582 (by decide), u2_off 582 (by decide)]
    · show a 64 1 ≤ nI k
      rw [h1]
      exact nI_le (Nat.le_refl _) (by omega)
  | succ t ih =>
    intro k a hk h1 hp
    refine V_X12_stands_136 ⟨rfl, by decide, 64, rf5 hr (by decide) rfl, rfl, by decide, vp_in_nI (show 1 < 8 by decide) (by decide), fun h => absurd ?_ (show ¬ ns ≤ k by omega), fun _ => ⟨rfl, by decide, 582, rf5 hr (by decide) rfl, rfl, by decide, 96, rf5 hr (by decide) rfl, rfl, by decide, vp_in_nI (show k < 8 by omega) (by decide), ?_⟩⟩
    · have h : a 64 1 ≤ nI k := h
      rw [h1] at h
      exact (nI_leI (by omega) (by omega)).mp h
    · rw [show (24 : Int32) = nI 24 from rfl, nI_add, nI_clamp (show k < 2 ^ 31 by omega), nI_clamp (show 24 + k < 2 ^ 31 by omega)]
      refine row3 (tyR_street k (by omega)) (by show _ < 877; omega) (vp_in_nI (show 3 < 4 by decide) (by decide)) ⟨rfl, by decide, vp_in_nI (show 24 + k < 42 by omega) (by decide), fun a9 h9 => ?_⟩
      rw [z3] at h9
      subst h9
      rw [nI_1]
      refine ih (k + 1) _ (by omega) (by rw [u2_off 64 (by decide)]; exact h1) (fun a' g1 g2 g3 g4 => hp a' (fun q h2 h3 => by rw [g1 q h2 h3, u2_off q h3]) (fun j hj => by rw [g2 j hj, u2_off 60 (by decide)]) g3 (fun j => ?_))
      rw [g4 j]
      by_cases e : j = 24 + k
      · subst e
        rw [if_neg (by omega), u2_eq, if_pos (by omega)]
        have : 24 + k - 24 = k := by omega
        rw [this]
      · rw [u2_ne e]
        by_cases h : 24 + (k + 1) ≤ j ∧ j < 24 + ns
        · rw [if_pos h, if_pos (by omega), u2_off _ (by omega)]
        · rw [if_neg h, if_neg (by omega)]
theorem lk_mStand2 {P : KN} (hr : Rk r) : ∀ (t k : Nat) (a : IA), k + t = 42 → (E G MX12_stands (d + 1) C S 136 [.ref 60, .int 0] [] (va_up a 582 (fun j => if k ≤ j ∧ j < 42 then (if j < 8 then -1 else 0) else a 582 j), r, 877) (RN P)) → E G MX12_stands (d + 1) C S 105 [.ref 60, .int (nI k)] [] (a, r, 877) (RN P) := by
  intro t
  induction t with
  | zero =>
    intro k a hk hp
    obtain rfl : k = 42 := by omega
    have e : va_up a 582 (fun j => if 42 ≤ j ∧ j < 42 then (if j < 8 then -1 else 0) else a 582 j) = a := by
      have : (fun j => if 42 ≤ j ∧ j < 42 then (if j < 8 then -1 else 0) else a 582 j) = a 582 := by
        funext j
        rw [if_neg (by omega)]
      rw [this]
      exact up_same a 582
    rw [e] at hp
    exact V_X12_stands_105 ⟨fun _ => hp, fun h => absurd (by decide) h⟩
  | succ t ih =>
    intro k a hk hp
    have go : ∀ (v : Int32), v = (if k < 8 then -1 else 0) → E G MX12_stands (d + 1) C S 105 [.ref 60, .int (nI k + 1)] [] (u2 a 582 k v, r, 877) (RN P) := by
      intro v hv
      rw [nI_1]
      refine ih (k + 1) _ (by omega) ?_
      have e : va_up (u2 a 582 k v) 582 (fun j => if k + 1 ≤ j ∧ j < 42 then (if j < 8 then -1 else 0) else u2 a 582 k v 582 j) = va_up a 582 (fun j => if k ≤ j ∧ j < 42 then (if j < 8 then -1 else 0) else a 582 j) := by
        unfold u2
        rw [bx_uu, va_up_self]
        congr 1
        funext j
        unfold upd
        by_cases e : j = k
        · rw [e, if_neg (by omega), if_pos rfl, if_pos (by omega), hv]
        · by_cases h : k + 1 ≤ j ∧ j < 42
          · have h2 : k ≤ j ∧ j < 42 := by omega
            rw [if_pos h, if_pos h2]
          · have h2 : ¬ (k ≤ j ∧ j < 42) := by omega
            rw [if_neg h, if_neg e, if_neg h2]
      rw [e]
      exact hp
    have l8 : (8 : Int32) ≤ nI k ↔ 8 ≤ k := nI_leI (a := 8) (by decide) (by omega)
    refine V_X12_stands_105 ⟨fun h => absurd ((nI_leI (a := 42) (by decide) (by omega)).mp h) (by omega), fun _ => ⟨rfl, by decide, 582, rf5 hr (by decide) rfl, fun h => ⟨rfl, by decide, vp_in_nI (show k < 42 by omega) (by decide), fun a2 h2 => ?_⟩, fun h => ⟨rfl, by decide, vp_in_nI (show k < 42 by omega) (by decide), fun a2 h2 => ?_⟩⟩⟩
    · rw [nI_clamp (by omega)] at h2
      subst h2
      exact go 0 (by rw [l8] at h; rw [if_neg (by omega)])
    · rw [nI_clamp (by omega)] at h2
      subst h2
      exact go (-1) (by rw [l8] at h; rw [if_pos (by omega)])
theorem lk_mStand1 {P : KN} (hr : Rk r) (hnc : nc ≤ 10) (hns : ns ≤ 8) (hng : ng ≤ 8) (a0 : IA) (h0 : a0 63 0 = nI nc) (h1 : a0 63 1 = nI ns) (h2 : a0 63 2 = nI ng) (hp : ∀ a', mStd nc ns ng a0 a' → P a' r 877) :
    ∀ (t k : Nat) (a : IA), k + t = 8 → (∀ q, q ≠ 64 → a q = a0 q) → (∀ j, j < k → a 64 j = a0 63 j) → E G MX12_stands (d + 1) C S 2 [.ref 60, .int (nI k)] [] (a, r, 877) (RN P) := by
  have r63 : r 60 11 = .ref 63 := rf5 hr (by decide) rfl
  have r64 : r 60 12 = .ref 64 := rf5 hr (by decide) rfl
  intro t
  induction t with
  | zero =>
    intro k a hk g1 g2
    obtain rfl : k = 8 := by omega
    have e0 : a 64 0 = nI nc := (g2 0 (by decide)).trans h0
    have e1 : a 64 1 = nI ns := (g2 1 (by decide)).trans h1
    have e2 : a 64 2 = nI ng := (g2 2 (by decide)).trans h2
    refine V_X12_stands_2 ⟨fun _ => ⟨rfl, by decide, 65, rf5 hr (by decide) rfl, rfl, by decide, 76, rf5 hr (by decide) rfl, rfl, by decide, 64, r64, rfl, by decide, vp_in_nI (show 0 < 8 by decide) (by decide), ?_⟩, fun h => absurd (by decide) h⟩
    rw [z0, e0]
    refine ck_mLays (M := 10) (L := 2) rfl rfl (by decide) (by decide) (by decide) (by decide) tyR_readCorner tyR_corner (by decide) hnc (fun a4 m4 => ⟨rfl, by decide, 87, rf5 hr (by decide) rfl, rfl, by decide, 96, rf5 hr (by decide) rfl, rfl, by decide, 64, r64, rfl, by decide, vp_in_nI (show 1 < 8 by decide) (by decide), ?_⟩)
    rw [z1, m4.1 64 (by omega), e1]
    refine ck_mLays (M := 8) (L := 4) rfl rfl (by decide) (by decide) (by decide) (by decide) tyR_readStreet tyR_street (by decide) hns (fun a5 m5 => ⟨rfl, by decide, 141, rf5 hr (by decide) rfl, rfl, by decide, 150, rf5 hr (by decide) rfl, rfl, by decide, 64, r64, rfl, by decide, vp_in_nI (show 2 < 8 by decide) (by decide), ?_⟩)
    rw [z2, m5.1 64 (by omega), m4.1 64 (by omega), e2]
    refine ck_mLays (M := 8) (L := 2) rfl rfl (by decide) (by decide) (by decide) (by decide) tyR_readGood tyR_good (by decide) hng (fun a6 m6 => ⟨rfl, by decide, 105, rf5 hr (by decide) rfl, rfl, by decide, 114, rf5 hr (by decide) rfl, ?_⟩)
    refine ck_mLays (M := 8) (L := 8) (many := 8) rfl rfl (by decide) (by decide) (by decide) (by decide) tyR_readLikes tyR_likes (by decide) (by decide) (fun a7 m7 => ⟨rfl, by decide, 123, rf5 hr (by decide) rfl, rfl, by decide, 132, rf5 hr (by decide) rfl, ?_⟩)
    refine ck_mLays (M := 8) (L := 8) (many := 8) rfl rfl (by decide) (by decide) (by decide) (by decide) tyR_readNever tyR_never (by decide) (by decide) (fun a8 m8 => ?_)
    refine lk_mStand2 hr 42 0 a8 (by omega) ?_
    generalize hA : va_up a8 582 (fun j => if 0 ≤ j ∧ j < 42 then (if j < 8 then -1 else 0) else a8 582 j) = A
    have A0 : ∀ q, q ≠ 582 → A q = a8 q := fun q h => by rw [← hA]; exact va_up_ne _ _ h
    have A1 : ∀ j, j < 42 → A 582 j = if j < 8 then -1 else 0 := fun j hj => by rw [← hA, va_up_self, if_pos (by omega)]
    have c8 : ∀ q, ¬ (115 ≤ q ∧ q ≤ 122) → ¬ (133 ≤ q ∧ q ≤ 140) → ¬ (151 ≤ q ∧ q ≤ 158) → ¬ (97 ≤ q ∧ q ≤ 104) → ¬ (77 ≤ q ∧ q ≤ 86) → q ≠ 64 → a8 q = a0 q := fun q q1 q2 q3 q4 q5 q6 => by
      rw [m8.1 q (by omega), m7.1 q (by omega), m6.1 q (by omega), m5.1 q (by omega), m4.1 q (by omega)]
      exact g1 q q6
    have c64 : a8 64 = a 64 := by rw [m8.1 64 (by omega), m7.1 64 (by omega), m6.1 64 (by omega), m5.1 64 (by omega), m4.1 64 (by omega)]
    have cst : ∀ k i, k < ns → i < 4 → a8 (96 + 1 + k) i = a0 (87 + 1 + k) i := fun k i hk hi => by
      rw [m8.1 _ (by omega), m7.1 _ (by omega), m6.1 _ (by omega), m5.2 k i hk hi, m4.1 _ (by omega), g1 _ (by omega)]
    refine lk_mStand3 hr hns ns 0 A (by omega) (by rw [A0 64 (by decide), c64]; exact e1) (fun a' g3 g4 g5 g6 => hp a' ⟨?_, ?_, g5, ?_, ?_, ?_, ?_, ?_, ?_, ?_⟩)
    · intro q hq hT
      have := mT_f hT
      rw [g3 q hq (by omega), A0 q (by omega)]
      exact c8 q (by omega) (by omega) (by omega) (by omega) (by omega) (by omega)
    · intro j hj
      rw [g4 j hj, A0 60 (by decide), c8 60 (by omega) (by omega) (by omega) (by omega) (by omega) (by omega)]
    · intro j hj
      rw [g3 64 (by decide) (by decide), A0 64 (by decide), c64]
      exact g2 j hj
    · intro k i hk hi
      rw [g3 _ (by omega) (by omega), A0 _ (by omega), m8.1 _ (by omega), m7.1 _ (by omega), m6.1 _ (by omega), m5.1 _ (by omega), m4.2 k i hk hi, g1 _ (by omega)]
    · intro k i hk hi
      rw [g3 _ (by omega) (by omega), A0 _ (by omega)]
      exact cst k i hk hi
    · intro k i hk hi
      rw [g3 _ (by omega) (by omega), A0 _ (by omega), m8.1 _ (by omega), m7.1 _ (by omega), m6.2 k i hk hi, m5.1 _ (by omega), m4.1 _ (by omega), g1 _ (by omega)]
    · intro k i hk hi
      rw [g3 _ (by omega) (by omega), A0 _ (by omega), m8.1 _ (by omega), m7.2 k i hk hi, m6.1 _ (by omega), m5.1 _ (by omega), m4.1 _ (by omega), g1 _ (by omega)]
    · intro k i hk hi
      rw [g3 _ (by omega) (by omega), A0 _ (by omega), m8.2 k i hk hi, m7.1 _ (by omega), m6.1 _ (by omega), m5.1 _ (by omega), m4.1 _ (by omega), g1 _ (by omega)]
    · intro j hj
      rw [g6 j, A1 j hj]
      by_cases h : 24 ≤ j ∧ j < 24 + ns
      · rw [if_pos (by omega), if_neg (by omega), if_pos h, A0 _ (by omega)]
        exact cst (j - 24) 3 (by omega) (by decide)
      · rw [if_neg (by omega), if_neg h]
  | succ t ih =>
    intro k a hk g1 g2
    refine V_X12_stands_2 ⟨fun h => absurd ((nI_leI (a := 8) (by decide) (by omega)).mp h) (by omega), fun _ => ⟨rfl, by decide, 64, r64, rfl, by decide, 63, r63, rfl, by decide, vp_in_nI (show k < 8 by omega) (by decide), rfl, by decide, vp_in_nI (show k < 8 by omega) (by decide), fun a1 e1 => ?_⟩⟩
    rw [nI_clamp (by omega), g1 63 (by decide)] at e1
    subst e1
    rw [nI_1]
    refine ih (k + 1) _ (by omega) (fun q hq => by rw [u2_off q hq]; exact g1 q hq) (fun j hj => ?_)
    by_cases e : j = k
    · subst e; rw [u2_eq]
    · rw [u2_ne e]; exact g2 j (by omega)
theorem ck_mStands {P : KN} (hr : Rk r) (hnc : nc ≤ 10) (hns : ns ≤ 8) (hng : ng ≤ 8) (h0 : a 63 0 = nI nc) (h1 : a 63 1 = nI ns) (h2 : a 63 2 = nI ng) (hp : ∀ a', mStd nc ns ng a a' → P a' r 877) :
    Sp G (d + 1) 0 0 MX12_stands [.ref 60] (a, r, 877) (RN P) :=
  V_X12_stands_0 (lk_mStand1 hr hnc hns hng a h0 h1 h2 hp 8 0 a (by omega) (fun _ _ => rfl) (fun j hj => absurd hj (by omega)))
end MDE
