/-! Calls that read a text: city -/
section CTY
variable {G : GE} {a b b' c A a1 a' : IA} {r r2 : RA} {T T' L L' M M' nc ns ng t wk im n m j d q : Nat} {lw : List Int32} {ml : List Ln} {x f : Int32} {B : Nat → Int32} {g : Nat → Int32}
theorem mT_g (h : ¬ (q = 64 ∨ (77 ≤ q ∧ q ≤ 86) ∨ (97 ≤ q ∧ q ≤ 104) ∨ (115 ≤ q ∧ q ≤ 122) ∨ (133 ≤ q ∧ q ≤ 140) ∨ (151 ≤ q ∧ q ≤ 158) ∨ q = 582)) : mT q = false := by
  unfold mT
  simp only [Bool.or_eq_false_iff, decide_eq_false_iff_not]
  omega
theorem mCl_K (h : mCl a b) : mK a b := ⟨fun q h1 h2 => by
    have h3 : ¬ mS q = true := by rw [h2]; decide
    rw [mS_iff] at h3
    exact h.1 q (by omega) (by omega) (by omega), fun j _ => congrFun (h.1 60 (by decide) (by omega) (by omega)) j⟩
theorem mDo_K2 {c : Cl} (hc : ClOK nc ns ng c) (h0 : a 63 0 = nI nc) (h1 : a 63 1 = nI ns) (h2 : a 63 2 = nI ng) (hns : ns ≤ 8) : mK a (mDo a c) := by
  rcases hc with ⟨x, y, _, _, hl, rfl⟩ | ⟨i, j, h, t, _, _, _, _, _, _, hl, rfl⟩ | ⟨s, o, v, hs, ho, _, _, rfl⟩ | ⟨s, o, hs, ho, _, rfl⟩ | ⟨v, w, _, _, hl, rfl⟩ | ⟨x, y, u, v, _, _, _, _, rfl⟩ | ⟨x, _, rfl⟩
  · rw [mDo_1 h0 (by omega)]
    exact mK_tr (mK_w (mS_r (by omega)) (by omega)) (mK_tr (mK_w (mS_r (by omega)) (by omega)) (mK_w (by decide) (by decide)))
  · rw [mDo_2 h1 (by omega)]
    exact mK_tr (mK_w (mS_r (by omega)) (by omega)) (mK_tr (mK_w (mS_r (by omega)) (by omega)) (mK_tr (mK_w (mS_r (by omega)) (by omega)) (mK_tr (mK_w (mS_r (by omega)) (by omega)) (mK_w (by decide) (by decide)))))
  · rw [mDo_3 rfl rfl (by omega) (by omega)]
    exact mK_w (mS_r (by omega)) (by omega)
  · rw [mDo_4 rfl rfl (by omega) (by omega)]
    exact mK_tr (mK_w (mS_r (by omega)) (by omega)) (mK_w (mS_r (by omega)) (by omega))
  · rw [mDo_5 h2 (by omega)]
    exact mK_tr (mK_w (mS_r (by omega)) (by omega)) (mK_tr (mK_w (mS_r (by omega)) (by omega)) (mK_w (by decide) (by decide)))
  · rw [mDo_6]
    exact mK_tr (mK_w (by decide) (by decide)) (mK_tr (mK_w (by decide) (by decide)) (mK_tr (mK_w (by decide) (by decide)) (mK_w (by decide) (by decide))))
  · rw [mDo_7]
    exact mK_w (by decide) (by decide)
theorem RdR.mk (hT : isCity T) : ∀ (l : List Cl) (b b' : IA) (nc ns ng : Nat), ClsOK l nc ns ng → RdR T b b' nc ns ng → mK b' (mAll l b')
  | [], _, _, _, _, _, _, _ => mK_rf
  | c :: l, b, b', nc, ns, ng, hl, h => mK_tr (mDo_K2 hl.1 h.1.2.2.2.1 h.1.2.2.2.2.1 h.1.2.2.2.2.2.1 h.1.2.2.2.2.2.2.2.1) (RdR.mk hT l _ _ _ _ _ hl.2 (RdR.step hT hl.1 h))
theorem ctAll_off : ∀ (l : List Cl) (a : IA), offC T a (ctAll T l a)
  | [], _ => fun _ _ => rfl
  | c :: l, a => fun q hq => (ctAll_off l (ctDo a T c) q hq).trans (ctDo_off (c := c) q hq)
theorem RdR.z (hc : mCl A a1) : RdR T (ctClear a T) a1 0 0 0 := by
  obtain ⟨h1, h2, h3⟩ := hc
  have hn := ctClear_n (a := a) (T := T)
  refine ⟨⟨hn.1, hn.2.1, hn.2.2, h2 0 (by decide), h2 1 (by decide), h2 2 (by decide), by decide, by decide, by decide⟩, fun k hk => absurd hk (by omega), fun k hk => absurd hk (by omega), fun k hk => absurd hk (by omega), fun s o hs ho => ?_, fun s o hs ho => ?_, ?_, ?_, ?_, ?_, ?_⟩
  · rw [(h3 s o hs ho).1]
    unfold ctClear ctLane ctClear3 ctClear2
    rw [u2_off _ (by omega), u2_off _ (by omega), u2_off _ (by omega), u2_off _ (by omega), va_up_ne _ _ (by omega), va_up_self, if_pos (by omega)]
  · rw [(h3 s o hs ho).2]
    have e : ctClear a T (T + 9) s = 0 := by
      unfold ctClear ctLane ctClear3
      rw [u2_off _ (by omega), u2_off _ (by omega), u2_off _ (by omega), u2_off _ (by omega), va_up_self, if_pos (by omega)]
    rw [e, bB_0]
    exact ⟨fun z => Bool.noConfusion z, fun z => absurd z (by decide)⟩
  · rw [h2 3 (by decide), if_pos rfl]
    unfold ctClear ctLane
    simp (disch := omega) only [u2_no, u2_is]
  · rw [h2 4 (by decide), if_neg (by decide), if_neg (by decide)]
    unfold ctClear ctLane
    simp (disch := omega) only [u2_no, u2_is]
  · rw [h2 5 (by decide), if_neg (by decide), if_pos rfl]
    unfold ctClear ctLane
    simp (disch := omega) only [u2_no, u2_is]
  · rw [h2 6 (by decide), if_neg (by decide), if_neg (by decide)]
    unfold ctClear ctLane
    simp (disch := omega) only [u2_is]
  · rw [h2 7 (by decide), if_neg (by decide), if_neg (by decide)]
    unfold ctClear ctLane ctClear3 ctClear2 ctClear1
    rw [u2_no (by omega), u2_no (by omega), u2_no (by omega), u2_no (by omega), va_up_ne _ _ (by omega), va_up_ne _ _ (by omega), u2_is rfl rfl]
/-- what both read stands -/
theorem RdR.tw (h : RdR T b b' nc ns ng) (e : ∀ k, k ≤ 11 → c (T + k) = b (T + k)) (s1 : ∀ j, j < 8 → c 64 j = b' 63 j) (s2 : ∀ k i, k < nc → i < 2 → c (76 + 1 + k) i = b' (65 + 1 + k) i) (s3 : ∀ k i, k < ns → i < 4 → c (96 + 1 + k) i = b' (87 + 1 + k) i)
    (s4 : ∀ k i, k < ng → i < 2 → c (150 + 1 + k) i = b' (141 + 1 + k) i) (s5 : ∀ k i, k < 8 → i < 8 → c (114 + 1 + k) i = b' (105 + 1 + k) i) (s6 : ∀ k i, k < 8 → i < 8 → c (132 + 1 + k) i = b' (123 + 1 + k) i) : Tw c T nc ns ng ∧ Tl c T ∧ Cs c nc ∧ Hs c ns := by
  obtain ⟨⟨k0, k1, k2, m0, m1, m2, hnc, hns, hng⟩, hco, hst, hgo, hli, hne, l1, l2, l3, l4, l5⟩ := h
  have eT : c T = b T := e 0 (by decide)
  refine ⟨⟨⟨(s1 0 (by decide)).trans m0, hnc, (s1 1 (by decide)).trans m1, hns, (s1 2 (by decide)).trans m2, hng, fun s hs => ?_⟩, by rw [eT]; exact k0, by rw [eT]; exact k1, by rw [eT]; exact k2, fun k hk => ?_, fun s hs => ?_, fun g hg => ?_, fun s o hs ho => ?_, fun s o hs ho => ?_⟩, ?_, fun k hk => ?_, fun s hs => ?_⟩
  · obtain ⟨i, j, x, y, hi, hj, hij, _, _, _, _, _, _, q0, q1, _⟩ := hst s hs
    exact ⟨i, j, hi, hj, hij, (s3 s 0 hs (by decide)).trans q0, (s3 s 1 hs (by decide)).trans q1⟩
  · obtain ⟨x, y, _, _, c1, c2, d1, d2⟩ := hco k hk
    rw [e 1 (by decide), e 2 (by decide), s2 k 0 hk (by decide), s2 k 1 hk (by decide), c1, c2, d1, d2]
    exact ⟨rfl, rfl⟩
  · obtain ⟨i, j, x, y, hi, hj, hij, _, _, c3, c4, c5, c6, q0, q1, q2, q3, c7⟩ := hst s hs
    obtain ⟨xi, yi, _, _, ci1, ci2, di1, di2⟩ := hco i hi
    obtain ⟨xj, yj, _, _, cj1, cj2, dj1, dj2⟩ := hco j hj
    have v0 := (s3 s 0 hs (by decide)).trans q0
    have v1 := (s3 s 1 hs (by decide)).trans q1
    refine ⟨?_, ?_, ?_, ?_, ?_⟩
    · rw [e 3 (by decide), c3, v0]
    · rw [e 4 (by decide), c4, v1]
    · rw [e 5 (by decide), c5, s3 s 2 hs (by decide), q2]
    · rw [e 6 (by decide), c6, s3 s 3 hs (by decide), q3]
    · unfold mLen
      rw [e 7 (by decide), c7, v0, v1, nI_clamp (show i < 2 ^ 31 by omega), nI_clamp (show j < 2 ^ 31 by omega), s2 i 0 hi (by decide), s2 i 1 hi (by decide), s2 j 0 hj (by decide), s2 j 1 hj (by decide), di1, di2, dj1, dj2, ci1, ci2, cj1, cj2]
  · rw [e 10 (by decide), e 11 (by decide), s4 g 0 hg (by decide), s4 g 1 hg (by decide)]
    exact hgo g hg
  · rw [e 8 (by decide), s5 s o hs ho]
    exact hli s o hs ho
  · rw [e 9 (by decide), s6 s o hs ho, bB_has (by omega)]
    exact hne s o hs ho
  · unfold Tl
    rw [eT, s1 3 (by decide), s1 4 (by decide), s1 5 (by decide), s1 6 (by decide), s1 7 (by decide)]
    exact ⟨l1, l2, l3, l4, l5⟩
  · obtain ⟨x, y, hx, hy, _, _, d1, d2⟩ := hco k hk
    exact ⟨x, y, hx, hy, (s2 k 0 hk (by decide)).trans d1, (s2 k 1 hk (by decide)).trans d2⟩
  · obtain ⟨i, j, x, y, _, _, _, h1, h2, _, _, _, _, _, _, q2, _, _⟩ := hst s hs
    exact ⟨x, h1, h2, (s3 s 2 hs (by decide)).trans q2⟩
theorem lfBegin_cg (eT : a' T = a T) (e6 : a' (T + 6) = a (T + 6)) (f : Nat → Int32) : ∀ k, lfBegin a' T f k = lfBegin a T f k
  | 0 => rfl
  | k + 1 => by
    rw [lfBegin, lfBegin, lfBegin_cg eT e6 f k, show ctFirst a' T (nI k) = ctFirst a T (nI k) by unfold ctFirst; rw [eT, e6]]
theorem ctNew_q (h0 : q ≠ 0) (h44 : q ≠ 44) (h47 : q ≠ 47) (hL : q ≠ L) (hM : q ≠ M) : ctNew a T L M q = a q := by
  unfold ctNew
  rw [u2_off q h0, va_up_ne _ _ h44, u2_off q h47, u2_off q h47, u2_off q hM, u2_off q hL]
theorem ctNew_0 (hL : L ≠ 0) (hM : M ≠ 0) : ctNew a T L M 0 j = if j = 16 then 0 else a 0 j := by
  unfold ctNew
  by_cases z : j = 16
  · rw [if_pos z, u2_is rfl z]
  · rw [if_neg z, u2_no (by omega), va_up_ne _ _ (by decide), u2_off 0 (by decide), u2_off 0 (by decide), u2_off 0 (fun e => hM e.symm), u2_off 0 (fun e => hL e.symm)]
theorem ctNew_z (hL : isLaw L) (hM : isMail M) : ctNew a T L M L 2 = 0 ∧ ctNew a T L M M 2 = 0 ∧ ctNew a T L M 47 2 = 0 ∧ ctNew a T L M 47 3 = 0 := by
  unfold isLaw at hL
  unfold isMail at hM
  unfold ctNew
  refine ⟨?_, ?_, ?_, ?_⟩
  · rw [u2_no (by omega), va_up_ne _ _ (by omega), u2_no (by omega), u2_no (by omega), u2_no (by omega), u2_is rfl rfl]
  · rw [u2_no (by omega), va_up_ne _ _ (by omega), u2_no (by omega), u2_no (by omega), u2_is rfl rfl]
  · rw [u2_no (by omega), va_up_ne _ _ (by omega), u2_no (by omega), u2_is rfl rfl]
  · rw [u2_no (by omega), va_up_ne _ _ (by omega), u2_is rfl rfl]
theorem ctNew_44 (hT : isCity T) (hL : isLaw L) (hM : isMail M) : ∃ F : Nat → Int32, (∀ j, j < 42 → F j = 0) ∧ ctNew a T L M 44 = lfBegin a T F 8 := by
  unfold isCity at hT
  unfold isLaw at hL
  unfold isMail at hM
  refine ⟨fun j => if j < 42 then 0 else u2 (u2 (u2 (u2 a L 2 0) M 2 0) 47 2 0) 47 3 0 44 j, fun j hj => if_pos hj, ?_⟩
  unfold ctNew
  rw [u2_off 44 (by decide), va_up_self]
  refine lfBegin_cg ?_ ?_ _ 8
  · rw [u2_off T (by omega), u2_off T (by omega), u2_off T (by omega), u2_off T (by omega)]
  · rw [u2_off _ (by omega), u2_off _ (by omega), u2_off _ (by omega), u2_off _ (by omega)]
theorem h_city (h : Iv a r T T' L L' M M' nc ns ng t wk im lw ml) : Sp G 40 1 6 ML_city [.ref 0, .int x, .ref 877] (a, r, nK) (RI (HK G MX12_city [.int x])) := by
  obtain ⟨t6, t1, t2, tb⟩ := h.2.1
  have hR := h.1
  have cl := cells hR
  have hT' := hR.2.2.1
  by_cases hx : inT x 0 (nI t)
  · obtain ⟨n, _, ln, rfl⟩ := inT_y (lo := 0) (hi := t) (by decide) (by omega) hx
    have hop : opOK a (nI n) 600 := (op_iff t1).mpr ⟨hx, nI_le (b := 600) (by omega) (by decide)⟩
    have hB : By a (fun i => a 61 i) n := ⟨by omega, fun i hi => tb i (by omega)⟩
    refine V_L_city_0 (d := 39) ⟨rfl, by decide, Or.inl (Sp.up (by decide) (c_city (d := 0) h.rk hR.2.1 hT' hR.2.2.2.2.1 hR.2.2.2.2.2.1 h.il h.r5 h.iM h.r7 hop hB (fun l hl g p s hg => long_ok ⟨rfl, ?_⟩) (fun k q hk a' g p s ho hg => long_ok ⟨rfl, ?_⟩)))⟩
    · have hcls : ClsOK l 0 0 0 := pCity_cl 61 0 0 0 0 0 l (Nat.zero_le _) (by decide) (by decide) (by decide) hl
      have co := ctAll_off (T := T') l (ctClear (u2 a 0 1 0) T')
      have cf := ctClear_off (a := u2 a 0 1 0) (T := T')
      have bT : ∀ k, k ≤ 11 → ctNew (va_up (ctAll T' l (ctClear (u2 a 0 1 0) T')) 2 g) T' L M (T' + k) = ctAll T' l (ctClear (u2 a 0 1 0) T') (T' + k) := fun k hk => by
        rw [ctNew_q (by omega) (by omega) (by omega) (by omega) (by omega), va_up_ne _ _ (by omega)]
      have bq : ∀ q, q ≠ 0 → q ≠ 2 → q ≠ 44 → q ≠ 47 → q ≠ L → q ≠ M → ¬ (T' ≤ q ∧ q ≤ T' + 11) → ctNew (va_up (ctAll T' l (ctClear (u2 a 0 1 0) T')) 2 g) T' L M q = a q := fun q k1 k2 k3 k4 k5 k6 k7 => by
        rw [ctNew_q k1 k3 k4 k5 k6, va_up_ne _ _ k2, co q k7, cf q k7, u2_off q k1]
      have b0 : ∀ j, ctNew (va_up (ctAll T' l (ctClear (u2 a 0 1 0) T')) 2 g) T' L M 0 j = if j = 16 then 0 else if j = 1 then 0 else a 0 j := fun j => by
        rw [ctNew_0 (by omega) (by omega)]
        by_cases z : j = 16
        · rw [if_pos z, if_pos z]
        · rw [if_neg z, if_neg z, va_up_ne _ _ (by decide), co 0 (by omega), cf 0 (by omega), u2_at0]
          by_cases y : j = 1
          · rw [if_pos ⟨rfl, y⟩, if_pos y]
          · rw [if_neg (fun w => y w.2), if_neg y]
      have b2 : ctNew (va_up (ctAll T' l (ctClear (u2 a 0 1 0) T')) 2 g) T' L M 2 5 = -1 := by
        rw [ctNew_q (by decide) (by decide) (by decide) (by omega) (by omega), va_up_self]
        exact hg.2.2.2.2
      have bz := ctNew_z (a := va_up (ctAll T' l (ctClear (u2 a 0 1 0) T')) 2 g) (T := T') h.il h.iM
      obtain ⟨F, hF, b44⟩ := ctNew_44 (a := va_up (ctAll T' l (ctClear (u2 a 0 1 0) T')) 2 g) hT' h.il h.iM
      rw [← lfBegin_cg (a := va_up (ctAll T' l (ctClear (u2 a 0 1 0) T')) 2 g) (a' := ctNew (va_up (ctAll T' l (ctClear (u2 a 0 1 0) T')) 2 g) T' L M) (ctNew_q (by omega) (by omega) (by omega) (by omega) (by omega)) (ctNew_q (by omega) (by omega) (by omega) (by omega) (by omega))] at b44
      generalize ctNew (va_up (ctAll T' l (ctClear (u2 a 0 1 0) T')) 2 g) T' L M = b at bT bq b0 b2 bz b44
      have b60 : b 60 = a 60 := bq 60 (by decide) (by decide) (by decide) (by decide) (by omega) (by omega) (by omega)
      refine Sp.up (by decide) (c_mCityF (d := 0) hR.sw3.out.1 (by rw [b60]; exact t2) t6 (fun z => absurd hx z) (fun n' B' l1 e hB' => ?_))
      obtain rfl : n = n' := (nI_eq (by omega) (by omega)).mp e
      have eB : ∀ i, i < n → a 61 i = B' i := fun i hi => by rw [← hB' i hi, bq 61 (by decide) (by decide) (by decide) (by decide) (by omega) (by omega) (by omega)]
      have eP : pCity (fun i => a 61 i) n 61 0 0 0 0 0 = pCity B' n 61 0 0 0 0 0 := pCity_cg eB 61 0 0 0 0 0
      rw [← eP]
      refine ⟨fun l' hl' nc' ns' ng' c0 c1 c2 w1 w2 w3 hcl v0 v1 v2 he hst => ?_, fun k f hk' => by rw [hl] at hk'; cases hk'⟩
      rw [hl] at hl'
      cases hl'
      have rd0 := RdR.z (a := u2 a 0 1 0) (T := T') hcl
      obtain ⟨n1, n2, n3, rd⟩ := RdR.all hT' l _ _ 0 0 0 hcls rd0
      have mk := RdR.mk hT' l _ _ 0 0 0 hcls rd0
      have y1 := rd.1
      obtain rfl : n1 = nc' := (nI_eq (by omega) (by omega)).mp (y1.2.2.2.1.symm.trans v0)
      obtain rfl : n2 = ns' := (nI_eq (by omega) (by omega)).mp (y1.2.2.2.2.1.symm.trans v1)
      obtain rfl : n3 = ng' := (nI_eq (by omega) (by omega)).mp (y1.2.2.2.2.2.1.symm.trans v2)
      have eM : ∀ q, q ≠ 60 → u2 c1 60 3 (-1) q = mAll l c0 q := fun q hq => (u2_off q hq).trans (he.1 q hq)
      obtain ⟨z1, z2, z3, z4, z5, z6, z7, z8, z9, z10⟩ := hst
      have kk : mK (mSta b B' n) (mAll l c0) := mK_tr (mCl_K hcl) mk
      obtain ⟨g1, g2, g3, g4⟩ := mK_fr kk
      have cq : ∀ q, q ≠ 0 → q ≠ 2 → q ≠ 44 → q ≠ 47 → q ≠ L → q ≠ M → ¬ (T' ≤ q ∧ q ≤ T' + 11) → q ≠ 60 → mS q = false → mT q = false → c2 q = a q := fun q k1 k2 k3 k4 k5 k6 k7 k8 k9 k10 =>
        (z1 q k8 k10).trans ((eM q k8).trans ((g1 q k8 k9).trans (bq q k1 k2 k3 k4 k5 k6 k7)))
      have cb : ∀ q, q ≠ 60 → mS q = false → mT q = false → c2 q = b q := fun q k8 k9 k10 => (z1 q k8 k10).trans ((eM q k8).trans (g1 q k8 k9))
      have hW := rd.tw (c := c2) (fun k hk => (cb (T' + k) (by omega) (mS_g (by omega)) (mT_g (by omega))).trans (bT k hk)) (fun j hj => (z4 j hj).trans (by rw [eM 63 (by decide)])) (fun k i hk hi => (z5 k i hk hi).trans (by rw [eM _ (by omega)])) (fun k i hk hi => (z6 k i hk hi).trans (by rw [eM _ (by omega)])) (fun k i hk hi => (z7 k i hk hi).trans (by rw [eM _ (by omega)])) (fun k i hk hi => (z8 k i hk hi).trans (by rw [eM _ (by omega)])) (fun k i hk hi => (z9 k i hk hi).trans (by rw [eM _ (by omega)]))
      have e44 : c2 44 = lfBegin c2 T' F 8 := by
        rw [cb 44 (by decide) (mS_g (by omega)) (mT_g (by omega)), b44]
        exact (lfBegin_cg (cb T' (by omega) (mS_g (by omega)) (mT_g (by omega))) (cb (T' + 6) (by omega) (mS_g (by omega)) (mT_g (by omega))) F 8).symm
      have hRw : Rw n2 (c2 44) (c2 582) := by
        rw [e44]
        refine rw_begin hW.1 hF (fun j hj => ?_)
        rw [z10 j hj]
        by_cases q1 : j < 8
        · rw [if_pos q1, if_pos q1]
        · rw [if_neg q1, if_neg q1]
          by_cases q2 : 24 ≤ j ∧ j < 24 + n2
          · rw [if_pos q2, if_pos q2]
            exact (z6 (j - 24) 3 (by omega) (by decide)).symm
          · rw [if_neg q2, if_neg q2]
      have c60 : ∀ j, mZ j = false → j ≠ 3 → c2 60 j = c1 60 j := fun j k1 k2 => (z2 j k1).trans (u2_no (by omega))
      have cM : ∀ k, k ≤ 2 → c2 (M + k) = b (M + k) := fun k hk => cb _ (by omega) (mS_g (by omega)) (mT_g (by omega))
      have cM0 : c2 M = b M := cM 0 (by decide)
      have cL0 : c2 L = b L := cb L (by omega) (mS_g (by omega)) (mT_g (by omega))
      have c47 : c2 47 = b 47 := cb 47 (by decide) (mS_g (by omega)) (mT_g (by omega))
      have c00 : c2 0 = b 0 := cb 0 (by decide) (mS_g (by omega)) (mT_g (by omega))
      have c62 : c2 62 = a 62 := cq 62 (by decide) (by decide) (by decide) (by decide) (by omega) (by omega) (by omega) (by decide) (mS_g (by omega)) (mT_g (by omega))
      have c22 : c2 2 = b 2 := cb 2 (by decide) (mS_g (by omega)) (mT_g (by omega))
      have s0 := h.2.2.2.2.2.2
      refine fin0 (T := T') (T' := T) (L := L) (L' := L') (M := M) (M' := M') (nc := n1) (ns := n2) (ng := n3) (t := 0) (wk := 0) (im := 0) (lw := []) (ml := []) ⟨hR.sw3, ⟨by omega, ?_, ?_, fun i hi => absurd hi (by omega)⟩, ⟨hW.1, hW.2.1, hW.2.2.1, hW.2.2.2, hRw⟩, ⟨⟨?_, fun i v hi => by simp at hi⟩, ⟨?_, fun i v hi => by simp at hi⟩, by decide, Or.inl rfl⟩, ⟨⟨?_, by decide, fun i v hi => by simp at hi⟩, ⟨?_, by decide, fun i v hi => by simp at hi⟩, by decide, fun v hv => absurd hv List.not_mem_nil⟩, ⟨?_, by decide, ?_, ?_, by decide, ?_, fun w hw => absurd hw (by omega), fun i hi => absurd hi (by omega)⟩, ?_, ?_, ?_, ?_, ?_⟩ ?_ ?_
      · rw [c00, b0]; rfl
      · rw [c60 1 (by decide) (by decide)]
        exact (he.2 1 (mJ_g (by omega))).trans g3
      · rw [cL0]; exact bz.1
      · exact z3 23 (by decide)
      · rw [cM0]; exact bz.2.1
      · exact z3 38 (by decide)
      · rw [c47]; exact bz.2.2.1
      · exact z3 39 (by decide)
      · rw [c47]; exact bz.2.2.2
      · exact z3 41 (by decide)
      · rw [c00, b0, z3 40 (by decide)]; rfl
      · rw [c00, c62, b0]; exact s0.2.1
      · rw [c00, c62, b0]; exact s0.2.2.1
      · rw [c00, c62, b0]; exact s0.2.2.2.1
      · rw [c22, b2, z2 3 (by decide), u2_is rfl rfl]
      · rw [c60 0 (by decide) (by decide)]
        exact (he.2 0 (mJ_g (by omega))).trans g2
      · exact (congrFun (bT 0 (by decide)) 1).trans y1.2.1
    · have aq : ∀ q, q ≠ 0 → q ≠ 2 → ¬ (T' ≤ q ∧ q ≤ T' + 11) → va_up a' 2 g q = a q := fun q k1 k2 k3 => by
        rw [va_up_ne _ _ k2, ho q k3, u2_off q k1]
      have a0 : ∀ j, va_up a' 2 g 0 j = if j = 1 then 0 else a 0 j := fun j => by
        rw [va_up_ne _ _ (by decide), ho 0 (by omega), u2_at0]
        by_cases z : j = 1
        · rw [if_pos ⟨rfl, z⟩, if_pos z]
        · rw [if_neg (fun y => z y.2), if_neg z]
      have a2 : va_up a' 2 g 2 5 = nI q := by rw [va_up_self]; exact hg.2.2.2.2
      generalize va_up a' 2 g = A at aq a0 a2
      have a60 : A 60 = a 60 := aq 60 (by decide) (by decide) (by omega)
      refine Sp.up (by decide) (c_mCityF (d := 0) h.out.rk (by rw [a60]; exact t2) t6 (fun z => absurd hx z) (fun n' B' l1 e hB' => ?_))
      obtain rfl : n = n' := (nI_eq (by omega) (by omega)).mp e
      have eB : ∀ i, i < n → a 61 i = B' i := fun i hi => by rw [← hB' i hi, aq 61 (by decide) (by decide) (by omega)]
      have eP : pCity (fun i => a 61 i) n 61 0 0 0 0 0 = pCity B' n 61 0 0 0 0 0 := pCity_cg eB 61 0 0 0 0 0
      rw [← eP]
      refine ⟨fun l' hl' => (by rw [hk] at hl'; cases hl'), fun k' f' hk' b0 b1 hcl hkk => ?_⟩
      rw [hk] at hk'
      cases hk'
      obtain ⟨q1, q2, q3, q4⟩ := mK_fr (mK_tr (mCl_K hcl) hkk)
      have fin := txt_bad (A := A) (a1 := b1) (f := nI q) h (fun p k1 k2 _ k5 _ _ => aq p k1 k2 k5) (fun j hj => by rw [a0, if_neg hj]) (by rw [a0, if_pos rfl]) a2 q1 q2 q3 (fun j hj => q4 j (by omega))
      exact fin0 fin.1 fin.2 rfl
  · have hx1 : ¬ opOK a x 600 := fun z => hx ((op_iff t1).mp z).1
    refine V_L_city_0 (d := 39) ⟨rfl, by decide, Or.inr (Sp.up (by decide) (x_city0 (d := 0) hx1 (pI1 ⟨rfl, ?_⟩)))⟩
    exact Sp.up (by decide) (c_mCityF (d := 0) h.rk (by rw [bump_off (by decide)]; exact t2) t6 (fun _ => fin_bad (i := 2) h (by decide) (by decide)) (fun n B l1 e _ => absurd (by rw [e]; exact ⟨nI_pos (by omega), i_nlt.mpr (nI_le l1 (by omega))⟩) hx))
end CTY
