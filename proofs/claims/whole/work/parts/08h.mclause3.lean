/-! The reference: a clause read, kind by kind -/
theorem row3 {q N k : Nat} {x : Int32} {R : Prop} (h : tyK q = (1, k)) (h1 : q < N) (h2 : vp_in x k) (h3 : R) : (tyK q).1 = 1 ∧ q < N ∧ vp_in x (tyK q).2 ∧ R := by rw [h]; exact ⟨rfl, h1, h2, h3⟩
theorem z0 : (0 : Int32).toNatClampNeg = 0 := rfl
theorem z1 : (1 : Int32).toNatClampNeg = 1 := rfl
theorem z2 : (2 : Int32).toNatClampNeg = 2 := rfl
theorem z3 : (3 : Int32).toNatClampNeg = 3 := rfl
theorem z4 : (4 : Int32).toNatClampNeg = 4 := rfl
theorem z5 : (5 : Int32).toNatClampNeg = 5 := rfl
theorem z6 : (6 : Int32).toNatClampNeg = 6 := rfl
theorem z7 : (7 : Int32).toNatClampNeg = 7 := rfl
theorem mDo_1 {a : IA} {nc : Nat} {x y z w : Int32} (h : a 63 0 = nI nc) (hn : nc < 2 ^ 31) : mDo a (1, x, y, z, w) = u2 (u2 (u2 a (65 + 1 + nc) 0 x) (65 + 1 + nc) 1 y) 63 0 (a 63 0 + 1) := by
  have e : (a 63 0).toNatClampNeg = nc := by rw [h, nI_clamp hn]
  unfold mDo
  rw [if_pos rfl, e]
theorem mDo_5 {a : IA} {ng : Nat} {x y z w : Int32} (h : a 63 2 = nI ng) (hn : ng < 2 ^ 31) : mDo a (5, x, y, z, w) = u2 (u2 (u2 a (141 + 1 + ng) 0 x) (141 + 1 + ng) 1 y) 63 2 (a 63 2 + 1) := by
  have e : (a 63 2).toNatClampNeg = ng := by rw [h, nI_clamp hn]
  unfold mDo
  rw [if_neg (by show ¬ (5 : Int32) = 1; decide), if_neg (by show ¬ (5 : Int32) = 2; decide), if_neg (by show ¬ (5 : Int32) = 3; decide), if_neg (by show ¬ (5 : Int32) = 4; decide), if_pos rfl, e]
theorem mDo_2 {a : IA} {ns : Nat} {x y z w : Int32} (h : a 63 1 = nI ns) (hn : ns < 2 ^ 31) : mDo a (2, x, y, z, w) = u2 (u2 (u2 (u2 (u2 a (87 + 1 + ns) 0 x) (87 + 1 + ns) 1 y) (87 + 1 + ns) 2 z) (87 + 1 + ns) 3 w) 63 1 (a 63 1 + 1) := by
  have e : (a 63 1).toNatClampNeg = ns := by rw [h, nI_clamp hn]
  unfold mDo
  rw [if_neg (by show ¬ (2 : Int32) = 1; decide), if_pos rfl, e]
theorem mDo_3 {a : IA} {x y z w : Int32} {i j : Nat} (hx : x = nI i) (hy : y = nI j) (hi : i < 2 ^ 31) (hj : j < 2 ^ 31) : mDo a (3, x, y, z, w) = u2 a (105 + 1 + i) j z := by
  subst hx hy
  unfold mDo
  rw [if_neg (by show ¬ (3 : Int32) = 1; decide), if_neg (by show ¬ (3 : Int32) = 2; decide), if_pos rfl]
  show u2 a (105 + 1 + (nI i).toNatClampNeg) (nI j).toNatClampNeg z = _
  rw [nI_clamp hi, nI_clamp hj]
theorem mDo_4 {a : IA} {x y z w : Int32} {i j : Nat} (hx : x = nI i) (hy : y = nI j) (hi : i < 2 ^ 31) (hj : j < 2 ^ 31) : mDo a (4, x, y, z, w) = u2 (u2 a (123 + 1 + i) j 1) (123 + 1 + j) i 1 := by
  subst hx hy
  unfold mDo
  rw [if_neg (by show ¬ (4 : Int32) = 1; decide), if_neg (by show ¬ (4 : Int32) = 2; decide), if_neg (by show ¬ (4 : Int32) = 3; decide), if_pos rfl]
  show u2 (u2 a (123 + 1 + (nI i).toNatClampNeg) (nI j).toNatClampNeg 1) (123 + 1 + (nI j).toNatClampNeg) (nI i).toNatClampNeg 1 = _
  rw [nI_clamp hi, nI_clamp hj]
theorem mDo_6 {a : IA} {x y z w : Int32} : mDo a (6, x, y, z, w) = u2 (u2 (u2 (u2 a 63 3 x) 63 4 y) 63 5 z) 63 6 w := rfl
theorem mDo_7 {a : IA} {x y z w : Int32} : mDo a (7, x, y, z, w) = u2 a 63 7 x := rfl
theorem mS_r {q : Nat} (h : (65 ≤ q ∧ q ≤ 75) ∨ (87 ≤ q ∧ q ≤ 95) ∨ (105 ≤ q ∧ q ≤ 113) ∨ (123 ≤ q ∧ q ≤ 131) ∨ (141 ≤ q ∧ q ≤ 149) ∨ (320 ≤ q ∧ q ≤ 480) ∨ (490 ≤ q ∧ q ≤ 498) ∨ (501 ≤ q ∧ q ≤ 581)) : mS q = true := by
  unfold mS
  simp only [Bool.or_eq_true, decide_eq_true_eq]
  omega
section MC3
variable {G : GE} {d C S : Nat} {a b : IA} {r : RA} {N n p i s m nc ns ng w j : Nat} {B : Nat → Int32} {x y kd : Int32} {o : Po}
theorem c_mClBody {P : KN} (hr : Rk r) (hT : MT a B n p) (h7 : a 60 7 = nI m) (hm : m < 60) (h0 : a 63 0 = nI nc) (hnc : nc ≤ 10) (h1 : a 63 1 = nI ns) (hns : ns ≤ 8) (h2 : a 63 2 = nI ng) (hng : ng ≤ 8)
    (hk : ¬ rKind B n p = -1) (f0 : ¬ (rKind B n p = 0 ∧ nc = 10)) (f1 : ¬ (rKind B n p = 1 ∧ ns = 8)) (f2 : ¬ (rKind B n p = 2 ∧ ng = 8))
    (hy : ∀ c e, pClause B n m (nI nc) (nI ns) (nI ng) p = .inl (c, e) → MS (mAt (mDo (u2 a 60 7 (nI (m + 1))) c) e) B n (.inl e) → P (mAt (mDo (u2 a 60 7 (nI (m + 1))) c) e) r nK)
    (hf : ∀ k f, pClause B n m (nI nc) (nI ns) (nI ng) p = .inr (k, f) → ∀ a', mK a a' → MS a' B n (.inr (k, f)) → P a' r nK) :
    E G MX12_clause (d + 5) 0 0 87 [.ref 60, .int (rKind B n p), .null, .null, .null, .null] [] (mAt a (skB B n p), r, nK) (RN P) := by
  have l1 := skB_le (B := B) hT.2.2.2.1
  have l2 := ltE_le (B := B) l1.2
  have hT1 := hT.at l1.2
  have hct := rKind_ct (B := B) (n := n) (p := p)
  generalize rKind B n p = kd at *
  -- the clause in fields
  have hcl : ∀ c, ctKind B (skB B n p) (ltE B n (skB B n p)) = c → ¬ c = 0 → ctFull c (nI nc) (nI ns) (nI ng) = false →
      pClause B n m (nI nc) (nI ns) (nI ng) p = sB (pFields B n c (nI nc) (nI ns) (ltE B n (skB B n p))) fun c => sB (pSign B n 59 c.2) fun e => .inl (c.1, e) := by
    intro c hc hc0 hfl
    unfold pClause
    rw [hc, if_neg hc0, if_neg (by rw [hfl]; intro h; rcases h with h | h; omega; cases h)]
  generalize hct0 : ctKind B (skB B n p) (ltE B n (skB B n p)) = ct at *
  generalize hw : ltE B n (skB B n p) = w at *
  obtain ⟨b, hb⟩ : ∃ b, b = u2 a 60 7 (nI (m + 1)) := ⟨_, rfl⟩
  rw [← hb] at hy
  have hbT : MT b B n p := by rw [hb]; exact hT.row (u2_off 61 (by decide)) (u2_ne (by decide)) (u2_ne (by decide)) (u2_ne (by decide))
  have hb63 : ∀ i, b 63 i = a 63 i := fun i => by rw [hb, u2_off 63 (by decide)]
  have hab : mK a b := by rw [hb]; exact mK_6 rfl
  have hf : ∀ k f, pClause B n m (nI nc) (nI ns) (nI ng) p = .inr (k, f) → ∀ a', mK b a' → MS a' B n (.inr (k, f)) → P a' r nK := fun k f h a' h3 h4 => hf k f h a' (mK_tr hab h3) h4
  have b0 : b 63 0 = nI nc := (hb63 0).trans h0
  have b1 : b 63 1 = nI ns := (hb63 1).trans h1
  have b2 : b 63 2 = nI ng := (hb63 2).trans h2
  have hNum : ∀ (x y : Int32) (o o' : Po), stay o o' → mSt (mSt b x o) y o' = mSt b y o' := fun x y o o' h => mSt_mSt h
  have e4 : ∀ a4, a4 = u2 (mAt (mAt a (skB B n p)) w) 60 7 (mAt (mAt a (skB B n p)) w 60 7 + 1) → a4 = mSt b 0 (.inl w) := by
    intro a4 h4
    have : mAt (mAt a (skB B n p)) w = mAt a w := u2_u2
    rw [this] at h4
    have h8 : mAt a w 60 7 = nI m := by unfold mAt; rw [u2_ne (by decide)]; exact h7
    rw [h8, nI_1] at h4
    rw [h4, hb]
    exact u2_cross2 (by decide)
  have hS4 : MS (mSt b 0 (.inl w)) B n (.inl w) := (hbT.at l2.2).ms
  have st0 : ∀ {f : Nat → Pv}, stay (.inl w) (po (sB (.inl w : Po) f)) := fun z h => by cases h
  have c63 : ∀ {h : IA} {x : Int32} {o : Po} {i : Nat}, mSt h x o 63 i = h 63 i := fun {h x o i} => by rw [mSt_off (by decide)]
  have e0 : mSt b 0 (.inl w) 63 0 = nI nc := by rw [c63]; exact b0
  have e1 : mSt b 0 (.inl w) 63 1 = nI ns := by rw [c63]; exact b1
  have e2 : mSt b 0 (.inl w) 63 2 = nI ng := by rw [c63]; exact b2
  have ic : (nI nc).toNatClampNeg = nc := nI_clamp (by omega)
  have is : (nI ns).toNatClampNeg = ns := nI_clamp (by omega)
  have ig : (nI ng).toNatClampNeg = ng := nI_clamp (by omega)
  have v0 : ∀ {k : Nat}, 0 < k → k < 2 ^ 31 → vp_in 0 k := fun h h2 => vp_in_nI h h2
  have v1 : ∀ {k : Nat}, 1 < k → k < 2 ^ 31 → vp_in 1 k := fun h h2 => vp_in_nI h h2
  have v2 : ∀ {k : Nat}, 2 < k → k < 2 ^ 31 → vp_in 2 k := fun h h2 => vp_in_nI h h2
  have v3 : ∀ {k : Nat}, 3 < k → k < 2 ^ 31 → vp_in 3 k := fun h h2 => vp_in_nI h h2
  refine V_X12_clause_87 ⟨rfl, by decide, fun _ => ⟨rfl, by decide, c_mSkip hr hT1 ?_⟩, fun h => absurd hT1.2.2.2.2 h⟩
  rw [hw]
  refine ⟨rfl, by decide, rfl, by decide, fun a4 h4 => ?_⟩
  have h4 := e4 a4 h4
  subst h4
  simp only [z0, z1, z2, z3, z4, z5, z6, z7]
  have r63 : r 60 11 = .ref 63 := rf5 hr (by decide) rfl
  refine ⟨fun k0 => ?_, fun k0 => ⟨fun k1 => ?_, fun k1 => ⟨fun k2 => ?_, fun k2 => ⟨fun k3 => ?_, fun k3 => ⟨fun k4 => ?_, fun k4 => ⟨fun k5 => ?_, fun k5 => ?_⟩⟩⟩⟩⟩⟩
  · have hlt : nc < 10 := by
      have : ¬ nc = 10 := fun e => f0 ⟨k0, e⟩
      omega
    have kc : ct = 1 := by
      rcases hct with h | h | h | h | h | h | h | h <;> first | exact h.1 | exact absurd (k0.symm.trans h.2) (by decide)
    have hcl := hcl 1 kc (by decide) (by
      unfold ctFull
      rw [decide_eq_false (p := (10 : Int32) ≤ nI nc) (fun h => absurd ((nI_leI (a := 10) (b := nc) (by decide) (by omega)).mp h) (by omega))]
      rfl)
    rw [hcl] at hy hf
    have ty := tyR_readCorner nc hlt
    have bd : 65 + 1 + nc < nK := by show _ < 878; omega
    refine ⟨rfl, by decide, 65, rf5 hr (by decide) rfl, rfl, by decide, 63, r63, rfl, by decide, v0 (k := 8) (by decide) (by decide), ?_⟩
    simp only [e0, ic]
    refine ⟨rfl, by decide, vp_in_nI (show nc < 10 by omega) (by decide), rfl, by decide, u_num hr hS4 (fun u1 x1 hv1 hS1 => row3 ty bd (v0 (by decide) (by decide)) (fun a11 h11 => ⟨rfl, by decide, ?_⟩))⟩
    rw [hNum _ _ _ _ st0] at h11 hS1
    rw [mSt_u2 (by omega)] at h11
    subst h11
    have hS1' := hS1.w (q := 65 + 1 + nc) (j := 0) (v := u1) (by omega) (by omega)
    rw [mSt_u2 (by omega)] at hS1'
    refine u_num hr hS1' (fun u2' x2 hv2 hS2 => row3 ty bd (v1 (by decide) (by decide)) (fun a16 h16 => ?_))
    rw [mSt_mSt stay_sB] at h16 hS2
    have hS2' := hS2.w (q := 65 + 1 + nc) (j := 1) (v := u2') (by omega) (by omega)
    rw [mSt_u2 (by omega)] at h16 hS2'
    subst h16
    have hd := fd1 (nc := nI nc) (ns := nI ns) hv1 hv2
    refine fin_501 (b := b) (j := 0) hr (by decide) k0 hS2' hd.1 hd.2 (fun _ _ => ?_) ?_ hy hf
    · rw [if_pos (by decide), mDo_1 b0 (by omega)]
      have : ∀ i, u2 (u2 b (65 + 1 + nc) 0 u1) (65 + 1 + nc) 1 u2' 63 i = b 63 i := fun i => by rw [u2_off 63 (by omega), u2_off 63 (by omega)]
      rw [this]
    · exact mK_tr (mK_w (mS_r (by omega)) (by omega)) (mK_w (mS_r (by omega)) (by omega))
  · have hlt : ns < 8 := by
      have : ¬ ns = 8 := fun e => f1 ⟨k1, e⟩
      omega
    have kc : ct = 2 := by
      rcases hct with h | h | h | h | h | h | h | h <;> first | exact h.1 | exact absurd (k1.symm.trans h.2) (by decide)
    have hcl := hcl 2 kc (by decide) (by
      unfold ctFull
      rw [decide_eq_false (p := (8 : Int32) ≤ nI ns) (fun h => absurd ((nI_leI (a := 8) (b := ns) (by decide) (by omega)).mp h) (by omega))]
      rfl)
    rw [hcl] at hy hf
    have ty := tyR_readStreet ns hlt
    have bd : 87 + 1 + ns < nK := by show _ < 878; omega
    refine ⟨rfl, by decide, 87, rf5 hr (by decide) rfl, rfl, by decide, 63, r63, rfl, by decide, v1 (k := 8) (by decide) (by decide), ?_⟩
    simp only [e1, is]
    refine ⟨rfl, by decide, vp_in_nI (show ns < 8 by omega) (by decide), rfl, by decide, 63, r63, rfl, by decide, v0 (k := 8) (by decide) (by decide), ?_⟩
    simp only [e0]
    refine ⟨rfl, by decide, u_num hr hS4 (fun u1 x1 hv1 hS1 => row3 ty bd (v0 (by decide) (by decide)) (fun a11 h11 => row3 ty bd (v0 (by decide) (by decide)) ⟨rfl, by decide, 63, r63, rfl, by decide, v0 (k := 8) (by decide) (by decide), rfl, by decide, ?_⟩))⟩
    rw [hNum _ _ _ _ st0] at h11 hS1
    rw [mSt_u2 (by omega)] at h11
    subst h11
    have hS1' := hS1.w (q := 87 + 1 + ns) (j := 0) (v := u1) (by omega) (by omega)
    rw [mSt_u2 (by omega)] at hS1'
    obtain ⟨o1, ho1⟩ : ∃ o1, o1 = po (sB (.inl w : Po) (pNum B n 0 (nI nc - 1))) := ⟨_, rfl⟩
    rw [← ho1] at hS1' hS1 ⊢
    have g1 : mSt (u2 b (87 + 1 + ns) 0 u1) x1 o1 (87 + 1 + ns) 0 = u1 := by rw [mSt_off (by omega), u2_eq]
    have g2 : mSt (u2 b (87 + 1 + ns) 0 u1) x1 o1 63 0 = nI nc := by rw [mSt_off (by omega), u2_off 63 (by omega)]; exact b0
    rw [g1, g2]
    refine u_other hr hS1' (fun u2' x2 hv2 hS2 => row3 ty bd (v1 (by decide) (by decide)) (fun a16 h16 => ⟨rfl, by decide, ?_⟩))
    rw [mSt_mSt stay_sB] at h16 hS2
    have hS2' := hS2.w (q := 87 + 1 + ns) (j := 1) (v := u2') (by omega) (by omega)
    rw [mSt_u2 (by omega)] at h16 hS2'
    subst h16
    obtain ⟨o2, ho2⟩ : ∃ o2, o2 = po (sB o1 (pOther B n u1 (nI nc))) := ⟨_, rfl⟩
    rw [← ho2] at hS2' ⊢
    refine u_num hr hS2' (fun u3 x3 hv3 hS3 => row3 ty bd (v2 (by decide) (by decide)) (fun a16 h16 => ⟨rfl, by decide, ?_⟩))
    rw [mSt_mSt stay_sB] at h16 hS3
    have hS3' := hS3.w (q := 87 + 1 + ns) (j := 2) (v := u3) (by omega) (by omega)
    rw [mSt_u2 (by omega)] at h16 hS3'
    subst h16
    obtain ⟨o3, ho3⟩ : ∃ o3, o3 = po (sB o2 (pNum B n 1 20)) := ⟨_, rfl⟩
    rw [← ho3] at hS3' ⊢
    refine u_num hr hS3' (fun u4 x4 hv4 hS4 => row3 ty bd (v3 (by decide) (by decide)) (fun a16 h16 => ?_))
    rw [mSt_mSt stay_sB] at h16 hS4
    have hS4' := hS4.w (q := 87 + 1 + ns) (j := 3) (v := u4) (by omega) (by omega)
    rw [mSt_u2 (by omega)] at h16 hS4'
    subst h16
    have hd := fd2 (nc := nI nc) (ns := nI ns) hv1 ho1 rfl hv2 ho2 hv3 ho3 hv4
    refine fin_501 (b := b) (j := 1) hr (by decide) k1 hS4' hd.1 hd.2 (fun _ _ => ?_) ?_ hy hf
    · rw [if_pos (by decide), mDo_2 b1 (by omega)]
      have : ∀ i, u2 (u2 (u2 (u2 b (87 + 1 + ns) 0 u1) (87 + 1 + ns) 1 u2') (87 + 1 + ns) 2 u3) (87 + 1 + ns) 3 u4 63 i = b 63 i := fun i => by rw [u2_off 63 (by omega), u2_off 63 (by omega), u2_off 63 (by omega), u2_off 63 (by omega)]
      rw [this]
    · exact mK_tr (mK_w (mS_r (by omega)) (by omega)) (mK_tr (mK_w (mS_r (by omega)) (by omega)) (mK_tr (mK_w (mS_r (by omega)) (by omega)) (mK_w (mS_r (by omega)) (by omega))))
  · have hlt : ng < 8 := by
      have : ¬ ng = 8 := fun e => f2 ⟨k2, e⟩
      omega
    have kc : ct = 5 := by
      rcases hct with h | h | h | h | h | h | h | h <;> first | exact h.1 | exact absurd (k2.symm.trans h.2) (by decide)
    have hcl := hcl 5 kc (by decide) (by
      unfold ctFull
      rw [decide_eq_false (p := (8 : Int32) ≤ nI ng) (fun h => absurd ((nI_leI (a := 8) (b := ng) (by decide) (by omega)).mp h) (by omega))]
      rfl)
    rw [hcl] at hy hf
    have ty := tyR_readGood ng hlt
    have bd : 141 + 1 + ng < nK := by show _ < 878; omega
    refine ⟨rfl, by decide, 141, rf5 hr (by decide) rfl, rfl, by decide, 63, r63, rfl, by decide, v2 (k := 8) (by decide) (by decide), ?_⟩
    simp only [e2, ig]
    refine ⟨rfl, by decide, vp_in_nI (show ng < 8 by omega) (by decide), rfl, by decide, u_num hr hS4 (fun u1 x1 hv1 hS1 => row3 ty bd (v0 (by decide) (by decide)) (fun a11 h11 => ⟨rfl, by decide, ?_⟩))⟩
    rw [hNum _ _ _ _ st0] at h11 hS1
    rw [mSt_u2 (by omega)] at h11
    subst h11
    have hS1' := hS1.w (q := 141 + 1 + ng) (j := 0) (v := u1) (by omega) (by omega)
    rw [mSt_u2 (by omega)] at hS1'
    refine u_num hr hS1' (fun u2' x2 hv2 hS2 => row3 ty bd (v1 (by decide) (by decide)) (fun a16 h16 => ?_))
    rw [mSt_mSt stay_sB] at h16 hS2
    have hS2' := hS2.w (q := 141 + 1 + ng) (j := 1) (v := u2') (by omega) (by omega)
    rw [mSt_u2 (by omega)] at h16 hS2'
    subst h16
    have hd := fd5 (nc := nI nc) (ns := nI ns) hv1 hv2
    refine fin_501 (b := b) (j := 2) hr (by decide) k2 hS2' hd.1 hd.2 (fun _ _ => ?_) ?_ hy hf
    · rw [if_pos (by decide), mDo_5 b2 (by omega)]
      have : ∀ i, u2 (u2 b (141 + 1 + ng) 0 u1) (141 + 1 + ng) 1 u2' 63 i = b 63 i := fun i => by rw [u2_off 63 (by omega), u2_off 63 (by omega)]
      rw [this]
    · exact mK_tr (mK_w (mS_r (by omega)) (by omega)) (mK_w (mS_r (by omega)) (by omega))
  · have kc : ct = 3 := by
      rcases hct with h | h | h | h | h | h | h | h <;> first | exact h.1 | exact absurd (k3.symm.trans h.2) (by decide)
    have hcl := hcl 3 kc (by decide) rfl
    rw [hcl] at hy hf
    refine ⟨rfl, by decide, 63, r63, rfl, by decide, v1 (k := 8) (by decide) (by decide), ?_⟩
    simp only [e1]
    refine ⟨rfl, by decide, u_num hr hS4 (fun u1 x1 hv1 hS1 => ⟨rfl, by decide, 63, r63, rfl, by decide, v1 (k := 8) (by decide) (by decide), rfl, by decide, ?_⟩)⟩
    rw [hNum _ _ _ _ st0] at hS1 ⊢
    obtain ⟨o1, ho1⟩ : ∃ o1, o1 = po (sB (.inl w : Po) (pNum B n 0 (nI ns - 1))) := ⟨_, rfl⟩
    rw [← ho1] at hS1 ⊢
    rw [c63, b1]
    refine u_other hr hS1 (fun u2' x2 hv2 hS2 => ⟨rfl, by decide, ?_⟩)
    rw [mSt_mSt (ho1 ▸ stay_sB)] at hS2 ⊢
    obtain ⟨o2, ho2⟩ : ∃ o2, o2 = po (sB o1 (pOther B n u1 (nI ns))) := ⟨_, rfl⟩
    rw [← ho2] at hS2 ⊢
    refine u_num hr hS2 (fun u3 x3 hv3 hS3 => ⟨rfl, by decide, ?_⟩)
    rw [mSt_mSt stay_sB] at hS3 ⊢
    have hd := fd3 (nc := nI nc) (ns := nI ns) hv1 ho1 rfl hv2 ho2 hv3
    obtain ⟨o3, ho3⟩ : ∃ o3, o3 = po (sB o2 (pNum B n 0 9)) := ⟨_, rfl⟩
    rw [← ho3] at hS3 hd ⊢
    refine ⟨fun h5 => ?_, fun h5 => ?_⟩
    · obtain ⟨z, hz⟩ := hS3.no h5
      exact fin_501 (b := b) (j := 3) hr (by decide) k3 hS3 hd.1 hd.2 (fun p h => by rw [hz] at h; cases h) mK_rf hy hf
    · obtain ⟨p3, hp3⟩ := hS3.ok h5
      obtain ⟨q2, w3, hq2, hn3, _⟩ := po_inv (ho3.symm.trans hp3)
      obtain ⟨q1, w2, hq1, hn2, hs2⟩ := po_inv (ho2.symm.trans hq2)
      obtain ⟨q0, w1, hq0, hn1, hs1⟩ := po_inv (ho1.symm.trans hq1)
      cases hq0
      have hw1 := hv1 w1 q1 hs1
      have hw2 := hv2 w2 q2 hs2
      have b1' := pNum_e l2.2 hn1
      have b2' := pOther_e b1'.2.1 hn2
      obtain ⟨i, hi, ei⟩ := nIdx (by omega) b1'.2.2.1 b1'.2.2.2
      obtain ⟨j, hj, ej⟩ := nIdx (by omega) b2'.2.2.1 b2'.2.2.2.1
      rw [ei] at hw1
      rw [ej] at hw2
      rw [hw1, hw2, nI_clamp (by omega), nI_clamp (by omega)]
      refine ⟨rfl, by decide, 105, rf5 hr (by decide) rfl, rfl, by decide, vp_in_nI (show i < 8 by omega) (by decide), row3 (tyR_readLikes i (by omega)) (by show _ < 878; omega) (vp_in_nI (show j < 8 by omega) (by decide)) (fun a68 h68 => ?_)⟩
      rw [mSt_u2 (by omega)] at h68
      subst h68
      have hS3' := hS3.w (q := 105 + 1 + i) (j := j) (v := u3) (by omega) (by omega)
      rw [mSt_u2 (by omega)] at hS3'
      refine fin_501 (b := b) (j := 3) hr (by decide) k3 hS3' hd.1 hd.2 (fun _ _ => ?_) (mK_w (mS_r (by omega)) (by omega)) hy hf
      rw [if_neg (by decide), mDo_3 hw1 hw2 (by omega) (by omega)]
  · have kc : ct = 4 := by
      rcases hct with h | h | h | h | h | h | h | h <;> first | exact h.1 | exact absurd (k4.symm.trans h.2) (by decide)
    have hcl := hcl 4 kc (by decide) rfl
    rw [hcl] at hy hf
    refine ⟨rfl, by decide, 63, r63, rfl, by decide, v1 (k := 8) (by decide) (by decide), ?_⟩
    simp only [e1]
    refine ⟨rfl, by decide, u_num hr hS4 (fun u1 x1 hv1 hS1 => ⟨rfl, by decide, 63, r63, rfl, by decide, v1 (k := 8) (by decide) (by decide), rfl, by decide, ?_⟩)⟩
    rw [hNum _ _ _ _ st0] at hS1 ⊢
    obtain ⟨o1, ho1⟩ : ∃ o1, o1 = po (sB (.inl w : Po) (pNum B n 0 (nI ns - 1))) := ⟨_, rfl⟩
    rw [← ho1] at hS1 ⊢
    rw [c63, b1]
    refine u_other hr hS1 (fun u2' x2 hv2 hS2 => ⟨rfl, by decide, ?_⟩)
    rw [mSt_mSt (ho1 ▸ stay_sB)] at hS2 ⊢
    have hd := fd4 (nc := nI nc) (ns := nI ns) hv1 ho1 rfl hv2
    obtain ⟨o2, ho2⟩ : ∃ o2, o2 = po (sB o1 (pOther B n u1 (nI ns))) := ⟨_, rfl⟩
    rw [← ho2] at hS2 hd ⊢
    refine ⟨fun h5 => ?_, fun h5 => ?_⟩
    · obtain ⟨p3, hp3⟩ := hS2.ok h5
      obtain ⟨q1, w2, hq1, hn2, hs2⟩ := po_inv (ho2.symm.trans hp3)
      obtain ⟨q0, w1, hq0, hn1, hs1⟩ := po_inv (ho1.symm.trans hq1)
      cases hq0
      have hw1 := hv1 w1 q1 hs1
      have hw2 := hv2 w2 p3 hs2
      have b1' := pNum_e l2.2 hn1
      have b2' := pOther_e b1'.2.1 hn2
      obtain ⟨i, hi, ei⟩ := nIdx (by omega) b1'.2.2.1 b1'.2.2.2
      obtain ⟨j, hj, ej⟩ := nIdx (by omega) b2'.2.2.1 b2'.2.2.2.1
      rw [ei] at hw1
      rw [ej] at hw2
      rw [hw1, hw2, nI_clamp (by omega), nI_clamp (by omega)]
      refine ⟨rfl, by decide, 123, rf5 hr (by decide) rfl, rfl, by decide, vp_in_nI (show i < 8 by omega) (by decide), row3 (tyR_readNever i (by omega)) (by show _ < 878; omega) (vp_in_nI (show j < 8 by omega) (by decide)) (fun a68 h68 => ⟨rfl, by decide, 123, rf5 hr (by decide) rfl, rfl, by decide, vp_in_nI (show j < 8 by omega) (by decide), row3 (tyR_readNever j (by omega)) (by show _ < 878; omega) (vp_in_nI (show i < 8 by omega) (by decide)) (fun a69 h69 => ?_)⟩)⟩
      rw [mSt_u2 (by omega)] at h68
      subst h68
      rw [mSt_u2 (by omega)] at h69
      subst h69
      have hS3' := (hS2.w (q := 123 + 1 + i) (j := j) (v := 1) (by omega) (by omega)).w (q := 123 + 1 + j) (j := i) (v := 1) (by omega) (by omega)
      rw [mSt_u2 (by omega), mSt_u2 (by omega)] at hS3'
      refine fin_501 (b := b) (j := 4) hr (by decide) k4 hS3' hd.1 hd.2 (fun _ _ => ?_) (mK_tr (mK_w (mS_r (by omega)) (by omega)) (mK_w (mS_r (by omega)) (by omega))) hy hf
      rw [if_neg (by decide), mDo_4 hw1 hw2 (by omega) (by omega)]
    · obtain ⟨z, hz⟩ := hS2.no h5
      exact fin_501 (b := b) (j := 4) hr (by decide) k4 hS2 hd.1 hd.2 (fun p h => by rw [hz] at h; cases h) mK_rf hy hf
  · have kc : ct = 6 := by
      rcases hct with h | h | h | h | h | h | h | h <;> first | exact h.1 | exact absurd (k5.symm.trans h.2) (by decide)
    have hcl := hcl 6 kc (by decide) rfl
    rw [hcl] at hy hf
    refine ⟨rfl, by decide, u_num hr hS4 (fun u1 x1 hv1 hS1 => ⟨rfl, by decide, ?_⟩)⟩
    rw [hNum _ _ _ _ st0] at hS1 ⊢
    obtain ⟨o1, ho1⟩ : ∃ o1, o1 = po (sB (.inl w : Po) (pNum B n 0 60)) := ⟨_, rfl⟩
    rw [← ho1] at hS1 ⊢
    refine u_num hr hS1 (fun u2' x2 hv2 hS2 => ⟨rfl, by decide, ?_⟩)
    rw [mSt_mSt (ho1 ▸ stay_sB)] at hS2 ⊢
    obtain ⟨o2, ho2⟩ : ∃ o2, o2 = po (sB o1 (pNum B n 0 60)) := ⟨_, rfl⟩
    rw [← ho2] at hS2 ⊢
    refine u_num hr hS2 (fun u3 x3 hv3 hS3 => ⟨rfl, by decide, ?_⟩)
    rw [mSt_mSt stay_sB] at hS3 ⊢
    obtain ⟨o3, ho3⟩ : ∃ o3, o3 = po (sB o2 (pNum B n 0 9)) := ⟨_, rfl⟩
    rw [← ho3] at hS3 ⊢
    refine u_num hr hS3 (fun u4 x4 hv4 hS4 => ⟨rfl, by decide, ?_⟩)
    rw [mSt_mSt stay_sB] at hS4 ⊢
    have hd := fd6 (nc := nI nc) (ns := nI ns) hv1 ho1 hv2 ho2 hv3 ho3 hv4
    obtain ⟨o4, ho4⟩ : ∃ o4, o4 = po (sB o3 (pNum B n 0 9)) := ⟨_, rfl⟩
    rw [← ho4] at hS4 hd ⊢
    refine ⟨fun h5 => ?_, fun h5 => ?_⟩
    · refine ⟨rfl, by decide, 63, r63, rfl, by decide, v3 (k := 8) (by decide) (by decide), fun a1 q1 => ⟨rfl, by decide, 63, r63, rfl, by decide, vp_in_nI (show 4 < 8 by decide) (by decide), fun a2 q2 => ⟨rfl, by decide, 63, r63, rfl, by decide, vp_in_nI (show 5 < 8 by decide) (by decide), fun a3 q3 => ⟨rfl, by decide, 63, r63, rfl, by decide, vp_in_nI (show 6 < 8 by decide) (by decide), fun a4 q4 => ?_⟩⟩⟩⟩
      subst q1 q2 q3 q4
      have hS5 := (((hS4.w (q := 63) (j := 3) (v := u1) (by omega) (by omega)).w (q := 63) (j := 4) (v := u2') (by omega) (by omega)).w (q := 63) (j := 5) (v := u3) (by omega) (by omega)).w (q := 63) (j := 6) (v := u4) (by omega) (by omega)
      rw [mSt_u2 (by omega), mSt_u2 (by omega), mSt_u2 (by omega), mSt_u2 (by omega)] at hS5 ⊢
      refine fin_501 (b := b) (j := 5) hr (by decide) k5 hS5 hd.1 hd.2 (fun _ _ => ?_) (mK_tr (mK_w (by decide) (by omega)) (mK_tr (mK_w (by decide) (by omega)) (mK_tr (mK_w (by decide) (by omega)) (mK_w (by decide) (by omega))))) hy hf
      rw [if_neg (by decide), mDo_6]
    · obtain ⟨z, hz⟩ := hS4.no h5
      exact fin_501 (b := b) (j := 5) hr (by decide) k5 hS4 hd.1 hd.2 (fun p h => by rw [hz] at h; cases h) mK_rf hy hf
  · have k6 : kd = 6 ∧ ct = 7 := by
      rcases hct with h | h | h | h | h | h | h | h <;> first | exact ⟨h.2, h.1⟩ | exact absurd h.2 hk | exact absurd h.2 k0 | exact absurd h.2 k1 | exact absurd h.2 k2 | exact absurd h.2 k3 | exact absurd h.2 k4 | exact absurd h.2 k5
    have hcl := hcl 7 k6.2 (by decide) rfl
    rw [hcl] at hy hf
    refine ⟨rfl, by decide, u_num hr hS4 (fun u1 x1 hv1 hS1 => ⟨rfl, by decide, ?_⟩)⟩
    rw [hNum _ _ _ _ st0] at hS1 ⊢
    have hd := fd7 (nc := nI nc) (ns := nI ns) hv1
    obtain ⟨o1, ho1⟩ : ∃ o1, o1 = po (sB (.inl w : Po) (pNum B n 0 60)) := ⟨_, rfl⟩
    rw [← ho1] at hS1 hd ⊢
    refine ⟨fun h5 => ?_, fun h5 => ?_⟩
    · obtain ⟨z, hz⟩ := hS1.no h5
      exact fin_501 (b := b) (j := 6) hr (by decide) k6.1 hS1 hd.1 hd.2 (fun p h => by rw [hz] at h; cases h) mK_rf hy hf
    · refine ⟨rfl, by decide, 63, r63, rfl, by decide, vp_in_nI (show 7 < 8 by decide) (by decide), fun a1 q1 => ?_⟩
      subst q1
      have hS5 := hS1.w (q := 63) (j := 7) (v := u1) (by omega) (by omega)
      rw [mSt_u2 (by omega)] at hS5 ⊢
      refine fin_501 (b := b) (j := 6) hr (by decide) k6.1 hS5 hd.1 hd.2 (fun _ _ => ?_) (mK_w (by decide) (by omega)) hy hf
      rw [if_neg (by decide), mDo_7]
end MC3
