/-! Calls that read a text: post, law -/
theorem mS_iff {q : Nat} : mS q = true ↔ (q = 63 ∨ (65 ≤ q ∧ q ≤ 75) ∨ (87 ≤ q ∧ q ≤ 95) ∨ (105 ≤ q ∧ q ≤ 113) ∨ (123 ≤ q ∧ q ≤ 131) ∨ (141 ≤ q ∧ q ≤ 149) ∨ (320 ≤ q ∧ q ≤ 480) ∨ (490 ≤ q ∧ q ≤ 498) ∨ (501 ≤ q ∧ q ≤ 581)) := by
  unfold mS
  simp only [Bool.or_eq_true, decide_eq_true_eq]
  omega
theorem mS_g {q : Nat} (h : ¬ (q = 63 ∨ (65 ≤ q ∧ q ≤ 75) ∨ (87 ≤ q ∧ q ≤ 95) ∨ (105 ≤ q ∧ q ≤ 113) ∨ (123 ≤ q ∧ q ≤ 131) ∨ (141 ≤ q ∧ q ≤ 149) ∨ (320 ≤ q ∧ q ≤ 480) ∨ (490 ≤ q ∧ q ≤ 498) ∨ (501 ≤ q ∧ q ≤ 581))) : mS q = false := Bool.eq_false_iff.mpr (fun z => h (mS_iff.mp z))
section TXT
variable {G : GE} {a b c A a1 a' : IA} {r r2 : RA} {T T' L L' M M' L2 L2' M2 M2' nc ns ng t wk im n m j d : Nat} {lw lw2 : List Int32} {ml ml2 : List Ln} {x f : Int32} {B : Nat → Int32} {g : Nat → Int32}
theorem x_post0 {P : KX} (h : ¬ opOK a x 100) (hp : P xIl (bump a 19) r nK) : Sp G (d + 8) 1 6 MX11_post [.ref 0, .int x] (a, r, nK) (RX P) := VX_X11_post_0 (.inr ⟨rfl, by decide, x_openText h hp⟩)
theorem x_law0 {P : KX} (h : ¬ opOK a x 150) (hp : P xIl (bump a 19) r nK) : Sp G (d + 8) 1 6 MX11_law [.ref 0, .int x] (a, r, nK) (RX P) := VX_X11_law_0 (.inr ⟨rfl, by decide, x_openText h hp⟩)
theorem x_work0 {P : KX} (h : ¬ opOK a x 150) (hp : P xIl (bump a 19) r nK) : Sp G (d + 8) 1 6 MX11_work [.ref 0, .int x] (a, r, nK) (RX P) := VX_X11_work_0 (.inr ⟨rfl, by decide, x_openText h hp⟩)
theorem x_city0 {P : KX} (h : ¬ opOK a x 600) (hp : P xIl (bump a 19) r nK) : Sp G (d + 8) 1 6 MX11_city [.ref 0, .int x] (a, r, nK) (RX P) := VX_X11_city_0 (.inr ⟨rfl, by decide, x_openText h hp⟩)
theorem op_iff {m : Int32} (h01 : a 0 1 = nI t) : opOK a x m ↔ (inT x 0 (nI t) ∧ x ≤ m) := by
  unfold opOK
  rw [h01]
  exact ⟨fun ⟨a, b, c⟩ => ⟨⟨a, b⟩, i_nlt.mp c⟩, fun ⟨⟨a, b⟩, c⟩ => ⟨a, b, i_nlt.mpr c⟩⟩
theorem mSta_q {q : Nat} (hq : q ≠ 60) : mSta A B n q = A q := by
  unfold mSta mAt
  rw [u2_off q hq, u2_off q hq, u2_off q hq, u2_off q hq, u2_off q hq, u2_off q hq, u2_off q hq, u2_off q hq, u2_off q hq]
theorem mSta_0 : mSta A B n 60 0 = 0 ∧ mSta A B n 60 1 = 0 := by
  unfold mSta mAt
  constructor
  · simp (disch := omega) only [u2_no, u2_is]
  · simp (disch := omega) only [u2_no, u2_is]
theorem mSta_j (hj : j = 3 ∨ (9 ≤ j)) : mSta A B n 60 j = A 60 j := by
  unfold mSta mAt
  simp (disch := omega) only [u2_no]
theorem mJ_g (hj : j = 0 ∨ j = 1 ∨ j = 3 ∨ j = 23 ∨ (38 ≤ j ∧ j ≤ 41)) : mJ j = false := by
  unfold mJ
  refine Bool.eq_false_iff.mpr (fun z => ?_)
  simp only [Bool.or_eq_true, decide_eq_true_eq] at z
  omega
/-- what is left of the heap behind a text -/
theorem mK_fr (h : mK (mSta A B n) a1) : (∀ q, q ≠ 60 → mS q = false → a1 q = A q) ∧ a1 60 0 = 0 ∧ a1 60 1 = 0 ∧ ∀ j, j = 3 ∨ j = 23 ∨ (38 ≤ j ∧ j ≤ 41) → a1 60 j = A 60 j :=
  ⟨fun q h1 h2 => (h.1 q h1 h2).trans (mSta_q h1), (h.2 0 (mJ_g (by omega))).trans mSta_0.1, (h.2 1 (mJ_g (by omega))).trans mSta_0.2, fun j hj => (h.2 j (mJ_g (by omega))).trans (mSta_j (by omega))⟩
theorem Iv.gen (h : Iv a r T T' L L' M M' nc ns ng t wk im lw ml) (hR : Rf r2 T T' L2 L2' M2 M2') (e : ∀ q, twC T q ∨ q = 44 ∨ (47 ≤ q ∧ q ≤ 49) ∨ q = 62 ∨ q = 582 ∨ (585 ≤ q ∧ q ≤ 604) → c q = a q) (h01 : c 0 1 = 0) (h601 : c 60 1 = 0)
    (s0 : ∀ j, j ≠ 1 → c 0 j = a 0 j) (s60 : ∀ j, 39 ≤ j → j ≤ 41 → c 60 j = a 60 j) (hf : c 2 5 = c 60 3) (hL : LwI c L2 lw2) (hP : PoI c M2 ml2) : Iv c r2 T T' L2 L2' M2 M2' nc ns ng 0 wk im lw2 ml2 := by
  obtain ⟨_, _, hW, _, _, hG, c1, c2, c3, c4, c5⟩ := h
  refine ⟨hR, ⟨by omega, h01, h601, fun i hi => absurd hi (by omega)⟩, hW.fr (fun q hq => e q (Or.inl hq)) (e 44 (by omega)) (e 582 (by omega)), hL, hP, hG.fr ?_ (e 48 (by omega)) (e 49 (by omega)) ⟨s60 39 (by decide) (by decide), s60 41 (by decide) (by decide)⟩ (fun q h1 h2 => e q (by omega)), ?_, ?_, ?_, ?_, hf⟩
  · rw [e 47 (by omega)]; exact ⟨rfl, rfl⟩
  · rw [s0 16 (by decide), s60 40 (by decide) (by decide)]; exact c1
  · rw [s0 17 (by decide), e 62 (by omega)]; exact c2
  · rw [s0 18 (by decide), e 62 (by omega)]; exact c3
  · rw [s0 19 (by decide), e 62 (by omega)]; exact c4
/-- where cells lie -/
theorem cells (h : Rf r T T' L L' M M') : (T = 3 ∧ T' = 15 ∨ T = 15 ∧ T' = 3) ∧ (L = 27 ∧ L' = 30 ∨ L = 30 ∧ L' = 27) ∧ (M = 33 ∧ M' = 36 ∨ M = 36 ∧ M' = 33) := by
  obtain ⟨_, h1, h2, h3, _, _, h6, h7, h8, _, _, h11, h12, h13, _, _⟩ := h
  unfold isCity at h1 h2
  unfold isLaw at h6 h7
  unfold isMail at h11 h12
  omega
/-- a text that both find at fault -/
theorem txt_bad (h : Iv a r T T' L L' M M' nc ns ng t wk im lw ml) (hA : ∀ q, q ≠ 0 → q ≠ 2 → ¬ (39 ≤ q ∧ q ≤ 42) → ¬ (T' ≤ q ∧ q ≤ T' + 11) → ¬ (q = L' ∨ q = L' + 1) → ¬ (M' ≤ q ∧ q ≤ M' + 2) → A q = a q) (hA0 : ∀ j, j ≠ 1 → A 0 j = a 0 j) (hA01 : A 0 1 = 0) (hA2 : A 2 5 = f)
    (h1 : ∀ q, q ≠ 60 → mS q = false → a1 q = A q) (h0 : a1 60 0 = 0) (h11 : a1 60 1 = 0) (hj : ∀ j, j = 23 ∨ (38 ≤ j ∧ j ≤ 41) → a1 60 j = A 60 j) : Iv (u2 a1 60 3 f) r T T' L L' M M' nc ns ng 0 wk im lw ml ∧ u2 a1 60 3 f 60 0 = 0 := by
  have cl := cells h.1
  have e : ∀ q, q ≠ 0 → q ≠ 2 → q ≠ 60 → mS q = false → ¬ (39 ≤ q ∧ q ≤ 42) → ¬ (T' ≤ q ∧ q ≤ T' + 11) → ¬ (q = L' ∨ q = L' + 1) → ¬ (M' ≤ q ∧ q ≤ M' + 2) → u2 a1 60 3 f q = a q := fun q k1 k2 k3 k4 k5 k6 k7 k8 => by
    rw [u2_off q k3, h1 q k3 k4]
    exact hA q k1 k2 k5 k6 k7 k8
  have e60 : ∀ j, j = 23 ∨ (38 ≤ j ∧ j ≤ 41) → u2 a1 60 3 f 60 j = a 60 j := fun j k => by
    rw [u2_no (by omega), hj j k]
    exact congrFun (hA 60 (by decide) (by decide) (by omega) (by omega) (by omega) (by omega)) j
  refine ⟨h.gen h.1 (fun q hq => ?_) ?_ ?_ (fun j hj => ?_) (fun j k1 k2 => e60 j (by omega)) ?_ (h.2.2.2.1.fr (e _ ?_ ?_ ?_ (mS_g ?_) ?_ ?_ ?_ ?_) (e _ ?_ ?_ ?_ (mS_g ?_) ?_ ?_ ?_ ?_) (e60 23 (by omega)) (fun q k1 k2 => e q (by omega) (by omega) (by omega) (mS_g (by omega)) (by omega) (by omega) (by omega) (by omega))) (h.2.2.2.2.1.fr (fun k hk => e _ ?_ ?_ ?_ (mS_g ?_) ?_ ?_ ?_ ?_) (e60 38 (by omega)) (fun q k1 k2 => e q (by omega) (by omega) (by omega) (mS_g (by omega)) (by omega) (by omega) (by omega) (by omega))), ?_⟩
  · unfold twC at hq
    exact e q (by omega) (by omega) (by omega) (mS_g (by omega)) (by omega) (by omega) (by omega) (by omega)
  · rw [u2_off 0 (by decide), h1 0 (by decide) (mS_g (by omega))]; exact hA01
  · rw [u2_no (by omega)]; exact h11
  · rw [u2_off 0 (by decide), h1 0 (by decide) (mS_g (by omega))]; exact hA0 j hj
  · rw [u2_off 2 (by decide), h1 2 (by decide) (mS_g (by omega)), u2_is rfl rfl]; exact hA2
  all_goals first
    | omega
    | skip
  rw [u2_no (by omega)]; exact h0
theorem Rf.sw7 (h : Rf r T T' L L' M M') : Rf (swp r 7 M' M) T T' L L' M' M := by
  obtain ⟨h0, h1, h2, h3, h4, h5, h6, h7, h8, h9, h10, h11, h12, h13, h14, h15⟩ := h
  exact ⟨rk_swp h0 ⟨rfl, rfl⟩, h1, h2, h3, (swp_o (by omega)).trans h4, (swp_o (by omega)).trans h5, h6, h7, h8, (swp_o (by omega)).trans h9, (swp_o (by omega)).trans h10, h12, h11, fun z => h13 z.symm, swp_1, swp_2⟩
theorem Rf.sw5 (h : Rf r T T' L L' M M') : Rf (swp r 5 L' L) T T' L' L M M' := by
  obtain ⟨h0, h1, h2, h3, h4, h5, h6, h7, h8, h9, h10, h11, h12, h13, h14, h15⟩ := h
  exact ⟨rk_swp h0 ⟨rfl, rfl⟩, h1, h2, h3, (swp_o (by omega)).trans h4, (swp_o (by omega)).trans h5, h7, h6, fun z => h8 z.symm, swp_1, swp_2, h11, h12, h13, (swp_o (by omega)).trans h14, (swp_o (by omega)).trans h15⟩
theorem Rf.sw3 (h : Rf r T T' L L' M M') : Rf (swp r 3 T' T) T' T L L' M M' := by
  obtain ⟨h0, h1, h2, h3, h4, h5, h6, h7, h8, h9, h10, h11, h12, h13, h14, h15⟩ := h
  exact ⟨rk_swp h0 ⟨rfl, rfl⟩, h2, h1, fun z => h3 z.symm, swp_1, swp_2, h6, h7, h8, (swp_o (by omega)).trans h9, (swp_o (by omega)).trans h10, h11, h12, h13, (swp_o (by omega)).trans h14, (swp_o (by omega)).trans h15⟩
theorem le_nI {N k : Nat} (hN : N < 2 ^ 31) (hk : k < 2 ^ 31) (h : nI N ≤ nI k) : N ≤ k := (nI_leI hN hk).mp h
theorem h_post (h : Iv a r T T' L L' M M' nc ns ng t wk im lw ml) : Sp G 40 1 6 ML_post [.ref 0, .int x, .ref 877] (a, r, nK) (RI (HK G MX12_post [.int x])) := by
  obtain ⟨t6, t1, t2, tb⟩ := h.2.1
  have hR := h.1
  have cl := cells hR
  by_cases hx : inT x 0 (nI t) ∧ x ≤ 100
  · have hop : opOK a x 100 := (op_iff t1).mpr hx
    obtain ⟨n, _, ln, rfl⟩ := inT_y (lo := 0) (hi := t) (by decide) (by omega) hx.1
    have n100 : n ≤ 100 := le_nI (k := 100) (by omega) (by decide) hx.2
    have hB : By a (fun i => a 61 i) n := ⟨by omega, fun i hi => tb i (by omega)⟩
    refine V_L_post_0 (d := 39) ⟨rfl, by decide, Or.inl (Sp.up (by decide) (c_post (d := 0) h.rk hR.2.2.2.2.2.2.2.2.2.2.2.1 hR.2.2.2.2.2.2.2.2.2.2.2.2.1 hR.2.2.2.2.2.2.2.2.2.2.2.2.2.1 hR.2.2.2.2.2.2.2.2.2.2.2.2.2.2.1 hR.2.2.2.2.2.2.2.2.2.2.2.2.2.2.2 hop hB (fun l hl a' g p s ho hm hg => long_ok ⟨rfl, ?_⟩) (fun k q hk a' g p s ho hg => long_ok ⟨rfl, ?_⟩)))⟩
    · have aq : ∀ q, q ≠ 0 → q ≠ 2 → ¬ (M' ≤ q ∧ q ≤ M' + 2) → va_up a' 2 g q = a q := fun q k1 k2 k3 => by
        rw [va_up_ne _ _ k2, ho q k3, u2_off q k1]
      have a0 : ∀ j, va_up a' 2 g 0 j = if j = 1 then 0 else a 0 j := fun j => by
        rw [va_up_ne _ _ (by decide), ho 0 (by omega), u2_at0]
        by_cases z : j = 1
        · rw [if_pos ⟨rfl, z⟩, if_pos z]
        · rw [if_neg (fun y => z y.2), if_neg z]
      have a2 : va_up a' 2 g 2 5 = -1 := by rw [va_up_self]; exact hg.2.2.2.2
      have aM : ∀ k, k ≤ 2 → va_up a' 2 g (M' + k) = a' (M' + k) := fun k hk => va_up_ne _ _ (by omega)
      generalize va_up a' 2 g = A at aq a0 a2 aM
      have a60 : A 60 = a 60 := aq 60 (by decide) (by decide) (by omega)
      refine Sp.up (by decide) (c_mPostF (d := 0) hR.sw7.out.1 (by rw [a60]; exact t2) t6 (fun z => absurd hx z) (fun n' B' l1 l2 e hB' => ?_))
      obtain rfl : n = n' := (nI_eq (by omega) (by omega)).mp e
      have eB : ∀ i, i < n → a 61 i = B' i := fun i hi => by rw [← hB' i hi, aq 61 (by decide) (by decide) (by omega)]
      have eP : pPost (fun i => a 61 i) n 9 [] 0 = pPost B' n 9 [] 0 := pPost_cg eB 9 [] 0
      rw [← eP]
      refine ⟨fun l' hl' b1 b2 hl8 hk hpo hld => ?_, fun k f hk' => by rw [hl] at hk'; cases hk'⟩
      rw [hl] at hl'
      cases hl'
      obtain ⟨q1, q2, q3, q4⟩ := mK_fr hk
      have dq : ∀ q, q ≠ 60 → ¬ (482 ≤ q ∧ q ≤ 489) → b2 q = b1 q := fun q k1 k2 => by rw [hld.1 q (by omega), u2_off q k1, u2_off q k1]
      have d60 : ∀ j, j ≠ 3 → j ≠ 38 → b2 60 j = b1 60 j := fun j k1 k2 => by rw [hld.1 60 (by omega), u2_no (by omega), u2_no (by omega)]
      have eq : ∀ q, q ≠ 0 → q ≠ 2 → q ≠ 60 → mS q = false → ¬ (482 ≤ q ∧ q ≤ 489) → ¬ (M' ≤ q ∧ q ≤ M' + 2) → b2 q = a q := fun q k1 k2 k3 k4 k5 k6 => (dq q k3 k5).trans ((q1 q k3 k4).trans (aq q k1 k2 k6))
      have e60 : ∀ j, j = 23 ∨ (39 ≤ j ∧ j ≤ 41) → b2 60 j = a 60 j := fun j k => (d60 j (by omega) (by omega)).trans ((q4 j (by omega)).trans (by rw [a60]))
      have e0 : ∀ j, b2 0 j = if j = 1 then 0 else a 0 j := fun j => by rw [dq 0 (by decide) (by omega), q1 0 (by decide) (mS_g (by omega))]; exact a0 j
      refine fin0 (h.gen (lw2 := lw) (ml2 := l) hR.sw7 (fun q hq => ?_) (by rw [e0, if_pos rfl]) ((d60 1 (by decide) (by decide)).trans q3) (fun j hj => by rw [e0, if_neg hj]) (fun j k1 k2 => e60 j (by omega)) ?_ (h.2.2.2.1.fr (eq _ ?_ ?_ ?_ (mS_g ?_) ?_ ?_) (eq _ ?_ ?_ ?_ (mS_g ?_) ?_ ?_) (e60 23 (by omega)) (fun q k1 k2 => eq q (by omega) (by omega) (by omega) (mS_g (by omega)) (by omega) (by omega))) ⟨?_, ⟨?_, hl8, fun i v hi => ?_⟩, pPost_ok 9 [] 0 l (Nat.zero_le _) ⟨by decide, fun v hv => absurd hv List.not_mem_nil⟩ hl⟩) ((d60 0 (by decide) (by decide)).trans q2) rfl
      · unfold twC at hq
        exact eq q (by omega) (by omega) (by omega) (mS_g (by omega)) (by omega) (by omega)
      · rw [dq 2 (by decide) (by omega), q1 2 (by decide) (mS_g (by omega)), a2, hld.1 60 (by omega), u2_no (by omega), u2_is rfl rfl]
      all_goals first
        | omega
        | skip
      · have em : ∀ k, k ≤ 2 → b2 (M' + k) = a' (M' + k) := fun k hk => by
          rw [dq _ (by omega) (by omega), q1 _ (by omega) (mS_g (by omega)), aM k hk]
        have em0 : b2 M' = a' M' := em 0 (by decide)
        exact ⟨by rw [em0]; exact hm.1, hm.2.1, fun i v hi => by rw [em 1 (by decide), em 2 (by decide)]; exact hm.2.2 i v hi⟩
      · rw [hld.1 60 (by omega), u2_is rfl rfl]
      · have hlt : i < l.length := (List.getElem?_eq_some_iff.mp hi).1
        have w := hpo i v hi
        rw [hld.2 i 0 hlt (by decide), hld.2 i 1 hlt (by decide), u2_off _ (by omega), u2_off _ (by omega)]
        exact w
    · have aq : ∀ q, q ≠ 0 → q ≠ 2 → ¬ (M' ≤ q ∧ q ≤ M' + 2) → va_up a' 2 g q = a q := fun q k1 k2 k3 => by
        rw [va_up_ne _ _ k2, ho q k3, u2_off q k1]
      have a0 : ∀ j, va_up a' 2 g 0 j = if j = 1 then 0 else a 0 j := fun j => by
        rw [va_up_ne _ _ (by decide), ho 0 (by omega), u2_at0]
        by_cases z : j = 1
        · rw [if_pos ⟨rfl, z⟩, if_pos z]
        · rw [if_neg (fun y => z y.2), if_neg z]
      have a2 : va_up a' 2 g 2 5 = nI q := by rw [va_up_self]; exact hg.2.2.2.2
      generalize va_up a' 2 g = A at aq a0 a2
      have a60 : A 60 = a 60 := aq 60 (by decide) (by decide) (by omega)
      refine Sp.up (by decide) (c_mPostF (d := 0) h.out.rk (by rw [a60]; exact t2) t6 (fun z => absurd hx z) (fun n' B' l1 l2 e hB' => ?_))
      obtain rfl : n = n' := (nI_eq (by omega) (by omega)).mp e
      have eB : ∀ i, i < n → a 61 i = B' i := fun i hi => by rw [← hB' i hi, aq 61 (by decide) (by decide) (by omega)]
      have eP : pPost (fun i => a 61 i) n 9 [] 0 = pPost B' n 9 [] 0 := pPost_cg eB 9 [] 0
      rw [← eP]
      refine ⟨fun l' hl' => (by rw [hk] at hl'; cases hl'), fun k' f' hk' b1 hkk => ?_⟩
      rw [hk] at hk'
      cases hk'
      obtain ⟨q1, q2, q3, q4⟩ := mK_fr hkk
      have fin := txt_bad (A := A) (a1 := b1) (f := nI q) h (fun p k1 k2 _ _ _ k6 => aq p k1 k2 k6) (fun j hj => by rw [a0, if_neg hj]) (by rw [a0, if_pos rfl]) a2 q1 q2 q3 (fun j hj => q4 j (by omega))
      exact fin0 fin.1 fin.2 rfl
  · have hx1 : ¬ opOK a x 100 := fun z => hx ((op_iff t1).mp z)
    refine V_L_post_0 (d := 39) ⟨rfl, by decide, Or.inr (Sp.up (by decide) (x_post0 (d := 0) hx1 (pI1 ⟨rfl, ?_⟩)))⟩
    exact Sp.up (by decide) (c_mPostF (d := 0) h.rk (by rw [bump_off (by decide)]; exact t2) t6 (fun _ => fin_bad (i := 2) h (by decide) (by decide)) (fun n B l1 l2 e _ => absurd ⟨by rw [e]; exact ⟨nI_pos (by omega), i_nlt.mpr (nI_le l1 (by omega))⟩, by rw [e]; exact nI_le (b := 100) l2 (by decide)⟩ hx))
end TXT
