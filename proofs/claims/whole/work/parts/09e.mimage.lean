/-! The reference: image, restore -/
/-- what an image holds at place p -/
def imgV (a : IA) (p : Nat) : Int32 := if p = 0 then a 60 39 else if p < 43 then a 582 (p - 1) else a (584 + 1 + (p - 43) / 42) ((p - 43) % 42)
section MIM
variable {G : GE} {d C S : Nat} {r : RA} {t k i n R p : Nat} {a : IA} {x v : Int32}
theorem c_mPut0 {P : KI} (hR : tyK R = (1, 715)) (hN : R < nK) (h60 : R ≠ 60) (hp : a 60 42 = nI p) (h7 : p < 715) (hP : P v (u2 (u2 a R p v) 60 42 (nI (p + 1))) r nK) : Sp G d 0 0 MX12_puts [.ref 60, .ref R, .int v, .int 0] (a, r, nK) (RI P) := by
  refine V_X12_puts_0 ⟨fun h => absurd rfl h, fun _ => ⟨rfl, by decide, ?_⟩⟩
  rw [hp]
  refine row3 hR hN (vp_in_nI h7 (by decide)) (fun a2 q2 => ⟨rfl, by decide, rfl, by decide, fun a3 q3 => ⟨rfl, by decide, ?_⟩⟩)
  rw [nI_clamp (by omega)] at q2
  subst q2
  rw [u2_off 60 (fun e => h60 e.symm), hp, nI_1] at q3
  subst q3
  rw [u2_eq, nI_pred, nI_clamp (by omega), u2_off R h60, u2_eq]
  exact row3 hR hN (vp_in_nI h7 (by decide)) hP
theorem c_mPut1 {P : KI} (hR : tyK R = (1, 715)) (hN : R < nK) (h60 : R ≠ 60) (hp : a 60 42 = nI p) (h7 : p < 715) (hP : P (a R p) (u2 a 60 42 (nI (p + 1))) r nK) : Sp G d 0 0 MX12_puts [.ref 60, .ref R, .int v, .int 1] (a, r, nK) (RI P) := by
  refine V_X12_puts_0 ⟨fun _ => ⟨rfl, by decide, rfl, by decide, fun a1 q1 => ⟨rfl, by decide, ?_⟩⟩, fun h => absurd h (by decide)⟩
  rw [hp, nI_1] at q1
  subst q1
  rw [u2_eq, nI_pred, nI_clamp (by omega), u2_off R h60]
  exact row3 hR hN (vp_in_nI h7 (by decide)) hP
/-- while an image is made: p places are written -/
def IgI (a h : IA) (R p : Nat) : Prop := (∀ q, q ≠ 60 → q ≠ R → h q = a q) ∧ (∀ j, j ≠ 42 → h 60 j = a 60 j) ∧ h 60 42 = nI p ∧ ∀ j, j < p → h R j = imgV a j
theorem IgI.next {h : IA} (h60 : R ≠ 60) (hg : IgI a h R p) (hv : v = imgV a p) : IgI a (u2 (u2 h R p v) 60 42 (nI (p + 1))) R (p + 1) := by
  refine ⟨fun q c1 c2 => by rw [u2_off q c1, u2_off q c2]; exact hg.1 q c1 c2, fun j c => by rw [u2_ne c, u2_off 60 (fun e => h60 e.symm)]; exact hg.2.1 j c, u2_eq, fun j hj => ?_⟩
  rw [u2_off R h60]
  by_cases e : j = p
  · rw [e, u2_eq, hv]
  · rw [u2_ne e]; exact hg.2.2.2 j (by omega)
theorem c_mPutsAll0 {P : KN} (hr : Rk r) (hR : tyK R = (1, 715)) (hN : R < nK) (h60 : R ≠ 60) (h582 : R ≠ 582) (hB : ¬ (585 ≤ R ∧ R ≤ 600)) (hp : ∀ a', (∀ q, q ≠ 60 → q ≠ R → a' q = a q) → (∀ j, j ≠ 42 → a' 60 j = a 60 j) → (∀ j, j < 715 → a' R j = imgV a j) → P a' r nK) : Sp G (d + 1) 0 0 MX12_putsAll [.ref 60, .ref R, .int 0] (a, r, nK) (RN P) := by
  have r33 : r 60 33 = .ref 582 := rf5 hr (by decide) rfl
  have r35 : r 60 35 = .ref 584 := rf5 hr (by decide) rfl
  have l53 : ∀ (u w : Nat) (h : IA), w + u = 16 → IgI a h R (43 + 42 * w) → E G MX12_putsAll (d + 1) 0 0 53 [.ref 60, .ref R, .int 0, .int (nI w), .null] [] (h, r, nK) (RN P) := by
    intro u
    induction u with
    | zero =>
      intro w h hw hg
      obtain rfl : w = 16 := by omega
      exact V_X12_putsAll_53 ⟨fun _ => hp h hg.1 hg.2.1 (fun j hj => hg.2.2.2 j (by omega)), fun e => absurd (by decide) e⟩
    | succ u ih =>
      intro w h hw hg
      refine V_X12_putsAll_53 ⟨fun e => absurd ((nI_leI (a := 16) (by decide) (by omega)).mp e) (by omega), fun _ => ?_⟩
      have inner : ∀ (m k : Nat) (h : IA), k + m = 42 → IgI a h R (43 + 42 * w + k) → E G MX12_putsAll (d + 1) 0 0 62 [.ref 60, .ref R, .int 0, .int (nI w), .int (nI k)] [] (h, r, nK) (RN P) := by
        intro m
        induction m with
        | zero =>
          intro k h hk hg
          obtain rfl : k = 42 := by omega
          refine V_X12_putsAll_62 ⟨fun _ => ?_, fun e => absurd (by decide) e⟩
          rw [nI_1]
          exact ih (w + 1) h (by omega) (by rw [show 43 + 42 * (w + 1) = 43 + 42 * w + 42 by omega]; exact hg)
        | succ m ih2 =>
          intro k h hk hg
          have ty := tyR_before w (by omega)
          have bd : 584 + 1 + w < nK := by show _ < 878; omega
          have vw : vp_in (nI w) 16 := vp_in_nI (by omega) (by decide)
          have vk : vp_in (nI k) 42 := vp_in_nI (by omega) (by decide)
          refine V_X12_putsAll_62 ⟨fun e => absurd ((nI_leI (a := 42) (by decide) (by omega)).mp e) (by omega), fun _ => ⟨rfl, by decide, 584, r35, rfl, by decide, vw, rfl, by decide, 584, r35, rfl, by decide, vw, ?_⟩⟩
          simp only [nI_clamp (show w < 2 ^ 31 by omega), nI_clamp (show k < 2 ^ 31 by omega)]
          have hv : h (584 + 1 + w) k = imgV a (43 + 42 * w + k) := by
            rw [hg.1 _ (by omega) (by omega)]
            unfold imgV
            rw [if_neg (by omega), if_neg (by omega), show (43 + 42 * w + k - 43) / 42 = w by omega, show (43 + 42 * w + k - 43) % 42 = k by omega]
          refine row3 ty bd vk ⟨rfl, by decide, c_mPut0 hR hN h60 hg.2.2.1 (by omega) (row3 ty bd vk (fun a7 q7 => ?_))⟩
          have e7 : a7 = u2 (u2 h R (43 + 42 * w + k) (h (584 + 1 + w) k)) 60 42 (nI (43 + 42 * w + k + 1)) := by
            rw [q7]
            refine u2_set ?_
            rw [u2_off _ (by omega), u2_off _ (by omega)]
          rw [e7, nI_1]
          exact ih2 (k + 1) _ (by omega) (hg.next h60 hv)
      exact inner 42 0 h (by omega) hg
  have l21 : ∀ (u k : Nat) (h : IA), k + u = 42 → IgI a h R (1 + k) → E G MX12_putsAll (d + 1) 0 0 21 [.ref 60, .ref R, .int 0, .int (nI k), .null] [] (h, r, nK) (RN P) := by
    intro u
    induction u with
    | zero =>
      intro k h hk hg
      obtain rfl : k = 42 := by omega
      exact V_X12_putsAll_21 ⟨fun _ => l53 16 0 h (by omega) hg, fun e => absurd (by decide) e⟩
    | succ u ih =>
      intro k h hk hg
      have vk : vp_in (nI k) 42 := vp_in_nI (by omega) (by decide)
      refine V_X12_putsAll_21 ⟨fun e => absurd ((nI_leI (a := 42) (by decide) (by omega)).mp e) (by omega), fun _ => ⟨rfl, by decide, 582, r33, rfl, by decide, 582, r33, rfl, by decide, vk, ?_⟩⟩
      simp only [nI_clamp (show k < 2 ^ 31 by omega)]
      have hv : h 582 k = imgV a (1 + k) := by
        rw [hg.1 _ (by omega) (fun e => h582 e.symm)]
        unfold imgV
        rw [if_neg (by omega), if_pos (by omega), show 1 + k - 1 = k by omega]
      refine ⟨rfl, by decide, c_mPut0 hR hN h60 hg.2.2.1 (by omega) ⟨rfl, by decide, vk, fun a7 q7 => ?_⟩⟩
      have e7 : a7 = u2 (u2 h R (1 + k) (h 582 k)) 60 42 (nI (1 + k + 1)) := by
        rw [q7]
        refine u2_set ?_
        rw [u2_off _ (by omega), u2_off _ (fun e => h582 e.symm)]
      rw [e7, nI_1]
      exact ih (k + 1) _ (by omega) (hg.next h60 hv)
  refine V_X12_putsAll_0 ⟨rfl, by decide, fun a1 q1 => ⟨rfl, by decide, rfl, by decide, ?_⟩⟩
  subst q1
  have e39 : u2 a 60 42 0 60 39 = a 60 39 := u2_ne (by decide)
  rw [e39]
  refine c_mPut0 (p := 0) hR hN h60 (by rw [u2_eq]; rfl) (by decide) ⟨rfl, by decide, fun a6 q6 => ?_⟩
  have e6 : a6 = u2 (u2 (u2 a 60 42 0) R 0 (a 60 39)) 60 42 (nI (0 + 1)) := by
    rw [q6]
    refine u2_set ?_
    rw [u2_ne (by decide), u2_off 60 (fun e => h60 e.symm), u2_ne (by decide)]
  rw [e6]
  have g0 : IgI a (u2 a 60 42 0) R 0 := ⟨fun q c1 _ => u2_off q c1, fun j c => u2_ne c, by rw [u2_eq]; rfl, fun j hj => absurd hj (by omega)⟩
  exact l21 42 0 _ (by omega) (g0.next h60 rfl)
theorem c_mImage {P : KI} (hr : Rk r) (hi : a 60 41 = nI i) (h3 : i ≤ 3) (h0 : i = 3 → P (-1) (u2 a 60 0 0) r nK)
    (h1 : i < 3 → ∀ a', (∀ q, q ≠ 60 → q ≠ 601 + 1 + i → a' q = a q) → (∀ j, j ≠ 0 → j ≠ 41 → j ≠ 42 → a' 60 j = a 60 j) → a' 60 0 = 0 → a' 60 41 = nI (i + 1) → (∀ j, j < 715 → a' (601 + 1 + i) j = imgV a j) → P (nI (i + 1)) a' r nK) :
    Sp G (d + 2) 0 0 MX12_image [.ref 60] (a, r, nK) (RI P) := by
  refine V_X12_image_0 ⟨rfl, by decide, fun a1 q1 => ⟨rfl, by decide, ?_⟩⟩
  subst q1
  have e41 : u2 a 60 0 0 60 41 = nI i := by rw [u2_ne (by decide)]; exact hi
  rw [e41]
  refine ⟨fun hne => ?_, fun he => h0 ((nI_eq (a := i) (b := 3) (by omega) (by decide)).mp he)⟩
  have hi3 : i < 3 := by
    rcases Nat.lt_or_ge i 3 with z | z
    · exact z
    · exact absurd (by rw [show i = 3 by omega]; rfl) hne
  refine ⟨rfl, by decide, 601, rf5 hr (by decide) rfl, rfl, by decide, rfl, by decide, vp_in_nI hi3 (by decide), rfl, by decide, ?_⟩
  rw [nI_clamp (by omega)]
  refine c_mPutsAll0 hr (tyR_kept i hi3) (by show _ < 878; omega) (by omega) (by omega) (by omega) (fun a3 g1 g2 g3 => ⟨rfl, by decide, rfl, by decide, fun a6 q6 => ⟨rfl, by decide, ?_⟩⟩)
  rw [g2 41 (by decide), e41, nI_1] at q6
  subst q6
  rw [u2_eq]
  have eI : ∀ j, imgV (u2 a 60 0 0) j = imgV a j := fun j => by
    unfold imgV
    rw [u2_ne (by decide), u2_off 582 (by decide), u2_off _ (by omega)]
  refine h1 hi3 _ (fun q c1 c2 => by rw [u2_off q c1, g1 q c1 c2, u2_off q c1]) (fun j c1 c2 c3 => by rw [u2_ne c2, g2 j c3, u2_ne c1]) (by rw [u2_ne (by decide), g2 0 (by decide), u2_eq]) u2_eq (fun j hj => by rw [u2_off _ (by omega), g3 j hj, eI])
/-- while an image is laid back: p places are read -/
def RsI (a h : IA) (R p : Nat) : Prop := (∀ q, q ≠ 60 → q ≠ 582 → ¬ (585 ≤ q ∧ q ≤ 600) → h q = a q) ∧ (∀ j, j ≠ 42 → j ≠ 39 → h 60 j = a 60 j) ∧ h 60 42 = nI p ∧ h 60 39 = a R 0 ∧ (∀ k, k < 42 → 1 + k < p → h 582 k = a R (1 + k)) ∧ ∀ w k, w < 16 → k < 42 → 43 + 42 * w + k < p → h (584 + 1 + w) k = a R (43 + 42 * w + k)
theorem c_mPutsAll1 {P : KN} (hr : Rk r) (hR : tyK R = (1, 715)) (hN : R < nK) (h60 : R ≠ 60) (h582 : R ≠ 582) (hB : ¬ (585 ≤ R ∧ R ≤ 600))
    (hp : ∀ a', (∀ q, q ≠ 60 → q ≠ 582 → ¬ (585 ≤ q ∧ q ≤ 600) → a' q = a q) → (∀ j, j ≠ 42 → j ≠ 39 → a' 60 j = a 60 j) → a' 60 39 = a R 0 → (∀ k, k < 42 → a' 582 k = a R (1 + k)) → (∀ w k, w < 16 → k < 42 → a' (584 + 1 + w) k = a R (43 + 42 * w + k)) → P a' r nK) : Sp G (d + 1) 0 0 MX12_putsAll [.ref 60, .ref R, .int 1] (a, r, nK) (RN P) := by
  have r33 : r 60 33 = .ref 582 := rf5 hr (by decide) rfl
  have r35 : r 60 35 = .ref 584 := rf5 hr (by decide) rfl
  have l53 : ∀ (u w : Nat) (h : IA), w + u = 16 → RsI a h R (43 + 42 * w) → E G MX12_putsAll (d + 1) 0 0 53 [.ref 60, .ref R, .int 1, .int (nI w), .null] [] (h, r, nK) (RN P) := by
    intro u
    induction u with
    | zero =>
      intro w h hw hg
      obtain rfl : w = 16 := by omega
      exact V_X12_putsAll_53 ⟨fun _ => hp h hg.1 hg.2.1 hg.2.2.2.1 (fun k hk => hg.2.2.2.2.1 k hk (by omega)) (fun w k hw hk => hg.2.2.2.2.2 w k hw hk (by omega)), fun e => absurd (by decide) e⟩
    | succ u ih =>
      intro w h hw hg
      refine V_X12_putsAll_53 ⟨fun e => absurd ((nI_leI (a := 16) (by decide) (by omega)).mp e) (by omega), fun _ => ?_⟩
      have inner : ∀ (m k : Nat) (h : IA), k + m = 42 → RsI a h R (43 + 42 * w + k) → E G MX12_putsAll (d + 1) 0 0 62 [.ref 60, .ref R, .int 1, .int (nI w), .int (nI k)] [] (h, r, nK) (RN P) := by
        intro m
        induction m with
        | zero =>
          intro k h hk hg
          obtain rfl : k = 42 := by omega
          refine V_X12_putsAll_62 ⟨fun _ => ?_, fun e => absurd (by decide) e⟩
          rw [nI_1]
          exact ih (w + 1) h (by omega) (by rw [show 43 + 42 * (w + 1) = 43 + 42 * w + 42 by omega]; exact hg)
        | succ m ih2 =>
          intro k h hk hg
          have ty := tyR_before w (by omega)
          have bd : 584 + 1 + w < nK := by show _ < 878; omega
          have vw : vp_in (nI w) 16 := vp_in_nI (by omega) (by decide)
          have vk : vp_in (nI k) 42 := vp_in_nI (by omega) (by decide)
          refine V_X12_putsAll_62 ⟨fun e => absurd ((nI_leI (a := 42) (by decide) (by omega)).mp e) (by omega), fun _ => ⟨rfl, by decide, 584, r35, rfl, by decide, vw, rfl, by decide, 584, r35, rfl, by decide, vw, ?_⟩⟩
          simp only [nI_clamp (show w < 2 ^ 31 by omega), nI_clamp (show k < 2 ^ 31 by omega)]
          refine row3 ty bd vk ⟨rfl, by decide, c_mPut1 hR hN h60 hg.2.2.1 (by omega) (row3 ty bd vk (fun a7 q7 => ?_))⟩
          rw [hg.1 R h60 h582 hB] at q7
          subst q7
          rw [nI_1]
          obtain ⟨g1, g2, g3, g4, g5, g6⟩ := hg
          refine ih2 (k + 1) _ (by omega) ⟨fun q c1 c2 c3 => by rw [u2_off q (by omega), u2_off q c1]; exact g1 q c1 c2 c3, fun j c1 c2 => by rw [u2_off 60 (by omega), u2_ne c1]; exact g2 j c1 c2, by rw [u2_off 60 (by omega), u2_eq]; rfl, by rw [u2_off 60 (by omega), u2_ne (by decide)]; exact g4, fun j hj _ => by rw [u2_off 582 (by omega), u2_off 582 (by decide)]; exact g5 j hj (by omega), fun w' k' hw' hk' hlt => ?_⟩
          rw [u2_at0]
          by_cases e : 584 + 1 + w' = 584 + 1 + w ∧ k' = k
          · rw [if_pos e, show w' = w by omega, e.2]
          · rw [if_neg e, u2_off _ (by omega)]
            exact g6 w' k' hw' hk' (by omega)
      exact inner 42 0 h (by omega) hg
  have l21 : ∀ (u k : Nat) (h : IA), k + u = 42 → RsI a h R (1 + k) → E G MX12_putsAll (d + 1) 0 0 21 [.ref 60, .ref R, .int 1, .int (nI k), .null] [] (h, r, nK) (RN P) := by
    intro u
    induction u with
    | zero =>
      intro k h hk hg
      obtain rfl : k = 42 := by omega
      exact V_X12_putsAll_21 ⟨fun _ => l53 16 0 h (by omega) hg, fun e => absurd (by decide) e⟩
    | succ u ih =>
      intro k h hk hg
      have vk : vp_in (nI k) 42 := vp_in_nI (by omega) (by decide)
      refine V_X12_putsAll_21 ⟨fun e => absurd ((nI_leI (a := 42) (by decide) (by omega)).mp e) (by omega), fun _ => ⟨rfl, by decide, 582, r33, rfl, by decide, 582, r33, rfl, by decide, vk, ?_⟩⟩
      simp only [nI_clamp (show k < 2 ^ 31 by omega)]
      refine ⟨rfl, by decide, c_mPut1 hR hN h60 hg.2.2.1 (by omega) ⟨rfl, by decide, vk, fun a7 q7 => ?_⟩⟩
      rw [hg.1 R h60 h582 hB] at q7
      subst q7
      rw [nI_1]
      obtain ⟨g1, g2, g3, g4, g5, g6⟩ := hg
      refine ih (k + 1) _ (by omega) ⟨fun q c1 c2 c3 => by rw [u2_off q c2, u2_off q c1]; exact g1 q c1 c2 c3, fun j c1 c2 => by rw [u2_off 60 (by decide), u2_ne c1]; exact g2 j c1 c2, by rw [u2_off 60 (by decide), u2_eq]; rfl, by rw [u2_off 60 (by decide), u2_ne (by decide)]; exact g4, fun j hj hlt => ?_, fun w' k' hw' hk' hlt => absurd hlt (by omega)⟩
      by_cases e : j = k
      · rw [e, u2_eq]
      · rw [u2_ne e, u2_off 582 (by decide)]; exact g5 j hj (by omega)
  refine V_X12_putsAll_0 ⟨rfl, by decide, fun a1 q1 => ⟨rfl, by decide, rfl, by decide, ?_⟩⟩
  subst q1
  refine c_mPut1 (p := 0) hR hN h60 (by rw [u2_eq]; rfl) (by decide) ⟨rfl, by decide, fun a6 q6 => ?_⟩
  rw [u2_off R h60] at q6
  subst q6
  exact l21 42 0 _ (by omega) ⟨fun q c1 _ _ => by rw [u2_off q c1, u2_off q c1, u2_off q c1], fun j c1 c2 => by rw [u2_ne c2, u2_ne c1, u2_ne c1], by rw [u2_ne (by decide), u2_eq], u2_eq, fun k hk hlt => absurd hlt (by omega), fun w' k' hw' hk' hlt => absurd hlt (by omega)⟩
theorem c_mRestore {P : KI} (hr : Rk r) (hi : a 60 41 = nI i) (h3 : i ≤ 3) (h0 : i = 0 → P (-1) (u2 a 60 0 0) r nK)
    (h1 : 0 < i → ∀ a', (∀ q, q ≠ 60 → q ≠ 582 → ¬ (585 ≤ q ∧ q ≤ 600) → a' q = a q) → (∀ j, j ≠ 0 → j ≠ 39 → j ≠ 40 → j ≠ 41 → j ≠ 42 → a' 60 j = a 60 j) → a' 60 0 = 0 → a' 60 40 = 0 → a' 60 41 = nI (i - 1) → a' 60 39 = a (601 + 1 + (i - 1)) 0 → (∀ k, k < 42 → a' 582 k = a (601 + 1 + (i - 1)) (1 + k)) → (∀ w k, w < 16 → k < 42 → a' (584 + 1 + w) k = a (601 + 1 + (i - 1)) (43 + 42 * w + k)) → P (nI (i - 1)) a' r nK) :
    Sp G (d + 2) 0 0 MX12_restore [.ref 60] (a, r, nK) (RI P) := by
  refine V_X12_restore_0 ⟨rfl, by decide, fun a1 q1 => ⟨rfl, by decide, ?_⟩⟩
  subst q1
  have e41 : u2 a 60 0 0 60 41 = nI i := by rw [u2_ne (by decide)]; exact hi
  rw [e41]
  refine ⟨fun hne => ⟨rfl, by decide, rfl, by decide, fun a2 q2 => ⟨rfl, by decide, 601, rf5 hr (by decide) rfl, rfl, by decide, rfl, by decide, ?_⟩⟩, fun he => h0 ((nI_eq (a := i) (b := 0) (by omega) (by decide)).mp he)⟩
  obtain ⟨i, rfl⟩ : ∃ i', i = i' + 1 := ⟨i - 1, by
    have : i ≠ 0 := fun e => hne (by rw [e]; rfl)
    omega⟩
  rw [nI_pred] at q2
  subst q2
  rw [u2_eq, nI_clamp (by omega)]
  refine ⟨vp_in_nI (show i < 3 by omega) (by decide), rfl, by decide, c_mPutsAll1 hr (tyR_kept i (by omega)) (by show _ < 878; omega) (by omega) (by omega) (by omega) (fun a4 g1 g2 g3 g4 g5 => ⟨rfl, by decide, fun a7 q7 => ⟨rfl, by decide, ?_⟩⟩)⟩
  subst q7
  have e1 : u2 a4 60 40 0 60 41 = nI i := by rw [u2_ne (by decide), g2 41 (by decide) (by decide), u2_eq]
  rw [e1]
  have ek : ∀ j, u2 (u2 a 60 0 0) 60 41 (nI i) (601 + 1 + i) j = a (601 + 1 + i) j := fun j => by rw [u2_off _ (by omega), u2_off _ (by omega)]
  refine h1 (by omega) _ (fun q c1 c2 c3 => by rw [u2_off q c1, g1 q c1 c2 c3, u2_off q c1, u2_off q c1]) (fun j c1 c2 c3 c4 c5 => by rw [u2_ne c3, g2 j c5 c2, u2_ne c4, u2_ne c1]) (by rw [u2_ne (by decide), g2 0 (by decide) (by decide), u2_ne (by decide), u2_eq]) u2_eq e1 (by rw [u2_ne (by decide), g3, ek]; rfl) (fun k hk => by rw [u2_off 582 (by decide), g4 k hk, ek]; rfl) (fun w k hw hk => by rw [u2_off _ (by omega), g5 w k hw hk, ek]; rfl)
end MIM
