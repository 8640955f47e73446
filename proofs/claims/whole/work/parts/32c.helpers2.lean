/-! The law's helpers: class and reference answer alike (2) -/
section HQ2
variable {G : GE} {a : IA} {r : RA} {T T' L L' M M' nc ns ng t wk im : Nat} {lw : List Int32} {ml : List Ln} {x y v w x1 x2 x3 x4 x5 x6 : Int32}
theorem inT_y {lo hi : Nat} (hl : lo < 2 ^ 31) (hh : hi < 2 ^ 31) (h : inT x (nI lo) (nI hi)) : ∃ j, lo ≤ j ∧ j ≤ hi ∧ x = nI j := by
  have h0 : ¬ x < 0 := fun z => h.1 (Int32.lt_of_lt_of_le z (nI_pos' hl))
  obtain ⟨j, hj, rfl⟩ := nI_of h0
  exact ⟨j, (nI_leI hl hj).mp (i_nlt.mp h.1), (nI_leI hj hh).mp (i_nlt.mp h.2), rfl⟩
theorem in01 : inT x 0 1 ↔ x = 0 ∨ x = 1 := by
  constructor
  · intro h
    obtain ⟨j, _, hj, rfl⟩ := inT_y (lo := 0) (hi := 1) (by decide) (by decide) h
    have : j = 0 ∨ j = 1 := by omega
    rcases this with rfl | rfl
    · exact Or.inl rfl
    · exact Or.inr rfl
  · rintro (rfl | rfl) <;> exact ⟨by decide, by decide⟩
theorem pow_in {n : Nat} (hn : n ≤ 8) : inT x 0 (nI (2 ^ n) - 1) ↔ inE x ((1 : Int32) <<< (nI n &&& 31)) := by
  have hp : 0 < 2 ^ n := Nat.pow_pos (by decide)
  have hl := pow_le hn
  rw [shl_n n hn]
  obtain ⟨k, hk⟩ : ∃ k, 2 ^ n = k + 1 := ⟨2 ^ n - 1, by omega⟩
  rw [hk, nI_pred]
  constructor
  · intro h
    obtain ⟨j, _, hj, rfl⟩ := inT_y (lo := 0) (hi := k) (by decide) (by omega) h
    exact inE_k (by omega) (by omega)
  · intro h
    obtain ⟨j, hj, rfl⟩ := inE_y (by omega) h
    exact ⟨nI_pos (by omega), i_nlt.mpr (nI_le (by omega) (by omega))⟩
theorem Rw.lo {f f' g g' : Nat → Int32} (h : Rw ns f g) (h8 : ns ≤ 8) (e : ∀ j, j < 42 → f' j = f j) (e' : ∀ j, j < 42 → g' j = g j) : Rw ns f' g' := by
  obtain ⟨⟨a1, a2, a3, a4, a5, a6, a7⟩, p1, p2, p3, p4, p5⟩ := h
  refine ⟨⟨fun k hk => ?_, fun k hk => ?_, fun k hk => ?_, fun k hk => ?_, fun k hk => ?_, ?_, ?_⟩, fun s hs => ?_, fun s hs hs8 => ?_, fun s m hs hm he => ?_, fun s hs => ?_, ?_⟩
  · rw [e _ (by omega), e' _ (by omega)]; exact a1 k hk
  · rw [e _ (by omega), e' _ (by omega), e' _ (by omega)]; exact a2 k hk
  · rw [e _ (by omega), e' _ (by omega)]; exact a3 k hk
  · rw [e _ (by omega), e' _ (by omega)]; exact a4 k hk
  · rw [e _ (by omega), e' _ (by omega)]; exact a5 k hk
  · rw [e _ (by omega), e' _ (by omega)]; exact a6
  · rw [e _ (by omega), e' _ (by omega)]; exact a7
  · rw [e' s (by omega)]
    rcases p1 s hs with q | ⟨m, hm, q1, q2, q3⟩
    · exact Or.inl q
    · exact Or.inr ⟨m, hm, q1, q2, by rw [e' m (by omega)]; exact q3⟩
  · rw [e' _ (by omega), e' _ (by omega), e' _ (by omega), e' _ (by omega)]; exact p2 s hs hs8
  · rw [e' _ (by omega)] at he
    rw [e' _ (by omega), e' _ (by omega), e' _ (by omega), e' _ (by omega)]
    exact p3 s m hs hm he
  · rw [e' _ (by omega)]; exact p4 s hs
  · rw [e' _ (by omega)]; exact p5
theorem Iv.dr (h : Iv a r T T' L L' M M' nc ns ng t wk im lw ml) {b : IA} (e : b 582 = a 582) : Rw ns (d0 a) (mD0 b) := h.rw.lo h.n8 (fun j hj => if_pos hj) (fun j hj => by show (if j < 42 then b 582 j else b 583 j) = a 582 j; rw [if_pos hj, e])
theorem Fr.wkk {a' : IA} (h : ∀ q, ¬ (606 ≤ q ∧ q ≤ 615) → ¬ (620 ≤ q ∧ q ≤ 875) → a' q = a q) : Fr L a a' := ⟨fun q _ hq => h q (fun e => hq (by unfold scS; omega)) (fun e => hq (by unfold scS; omega)), fun j _ => by rw [h 60 (by omega) (by omega)]⟩
theorem h_way (h : Iv a r T T' L L' M M' nc ns ng t wk im lw ml) : Sp G 40 1 6 ML_way [.ref 0, .int x, .int y, .ref 877] (a, r, nK) (RI (HK G MX12_way [.int x, .int y])) := by
  have n10 := h.n10
  by_cases hs : inE x (nI nc) ∧ inE y (nI nc)
  · have hs1 : inE x (a T 0) := by rw [h.cT]; exact hs.1
    have ht1 : inE y (a T 0) := by rw [h.cT]; exact hs.2
    obtain ⟨s, ls, rfl⟩ := inE_y (by omega) hs.1
    obtain ⟨o, lo, rfl⟩ := inE_y (by omega) hs.2
    refine V_L_way_0 (d := 39) ⟨rfl, by decide, Or.inl (Sp.up (by decide) (c_way (d := 0) h.rk h.ct hs1 ht1 (fun F => long_ok ⟨rfl, ?_⟩)))⟩
    have hf : Fr L a (va_up a 56 F) := Fr.up (by unfold scS; omega) (by decide)
    have h1 := h.fr hf
    refine Sp.up (by decide) (c_mWayF (d := 0) h1.out.rk h1.mc (fun z => absurd ⟨⟨s, ls, rfl⟩, o, lo, rfl⟩ z) (fun s' o' ls' lo' e1 e2 a2 ha => fin0 (h1.z.fr (Fr.qF ha)) (qF_0 ha) ?_))
    obtain rfl : s = s' := (nI_eq (by omega) (by omega)).mp e1
    obtain rfl : o = o' := (nI_eq (by omega) (by omega)).mp e2
    rw [← spread_cg ((hf.tr Fr.z).ca h.il h.ic)]
    exact tw_way h1.z.tw h1.z.cs ls lo
  · have hs1 : ¬ (inE x (a T 0) ∧ inE y (a T 0)) := by rw [h.cT]; exact hs
    have no : ¬ ((∃ s, s < nc ∧ x = nI s) ∧ ∃ t, t < nc ∧ y = nI t) := by
      rintro ⟨⟨s, ls, rfl⟩, o, lo, rfl⟩
      exact hs ⟨inE_k (by omega) ls, inE_k (by omega) lo⟩
    refine V_L_way_0 (d := 39) ⟨rfl, by decide, Or.inr (Sp.up (by decide) (x_way (d := 0) h.ct hs1 (pN1 ⟨rfl, ?_⟩)))⟩
    exact Sp.up (by decide) (c_mWayF (d := 0) h.rk h.mqb.1 (fun _ => fin_bad (i := 1) h (by decide) (by decide)) (fun s' o' ls' lo' e1 e2 _ _ => absurd ⟨⟨s', ls', e1⟩, o', lo', e2⟩ no))
theorem h_round (h : Iv a r T T' L L' M M' nc ns ng t wk im lw ml) : Sp G 40 1 6 ML_round [.ref 0, .int x, .ref 877] (a, r, nK) (RI (HK G MX12_round [.int x])) := by
  have n8 := h.n8
  have p8 := pow_le n8
  by_cases hs : inE x ((1 : Int32) <<< (nI ns &&& 31))
  · refine V_L_round_0 (d := 39) ⟨rfl, by decide, Or.inl (Sp.up (by decide) (c_round (L := L) (d := 0) h.rk h.ct hs (fun a1 ha1 => long_ok ⟨rfl, ?_⟩)))⟩
    have hf : Fr L a a1 := Fr.keep ha1 h.il
    have h1 := h.fr hf
    refine Sp.up (by decide) (c_mRoundF (d := 0) h1.out.rk h1.mc (fun z => absurd ((pow_in n8).mpr hs) z) (fun e _ => fin0 h1.z zz0 (if_pos e)) (fun str f l1 l2 e l3 l4 l5 a2 ha => fin0 (h1.z.fr (Fr.wkk ha)) (by rw [ha 60 (by omega) (by omega)]; exact zz0) ?_))
    subst e
    rw [if_neg (show ¬ nI str = 0 from fun z => by have := (nI_eq (a := str) (b := 0) (by omega) (by decide)).mp z; omega), ← wkR_cg ((hf.tr Fr.z).ca h.il h.ic)]
    exact tw_round h1.z.tw h1.z.cs l2 l3 l4
  · refine V_L_round_0 (d := 39) ⟨rfl, by decide, Or.inr (Sp.up (by decide) (x_round (d := 0) h.ct hs (pI1 ⟨rfl, ?_⟩)))⟩
    have no := fun z => hs ((pow_in n8).mp z)
    exact Sp.up (by decide) (c_mRoundF (d := 0) h.rk h.mqb.1 (fun _ => fin_bad (i := 2) h (by decide) (by decide)) (fun _ z => absurd z no) (fun str f _ l2 e _ _ _ _ _ => absurd (by rw [e, pow_in n8, shl_n ns n8]; exact inE_k (by omega) l2) no))
theorem h_reach (h : Iv a r T T' L L' M M' nc ns ng t wk im lw ml) : Sp G 40 1 6 ML_reach [.ref 0, .int x, .ref 877] (a, r, nK) (RI (HK G MX12_reach [.int x])) := by
  have n10 := h.n10
  by_cases hs : inE x (nI nc)
  · have hs1 : inE x (a T 0) := by rw [h.cT]; exact hs
    obtain ⟨s, ls, rfl⟩ := inE_y (by omega) hs
    refine V_L_reach_0 (d := 39) ⟨rfl, by decide, Or.inl (Sp.up (by decide) (c_reach (d := 0) h.rk h.ct hs1 (fun F => long_ok ⟨rfl, ?_⟩)))⟩
    have hf : Fr L a (va_up a 56 F) := Fr.up (by unfold scS; omega) (by decide)
    have h1 := h.fr hf
    refine Sp.up (by decide) (c_mReachF (d := 0) h1.out.rk h1.mc (fun z => absurd ⟨s, ls, rfl⟩ z) (fun s' ls' e1 a2 ha => fin0 (h1.z.fr (Fr.qF ha)) (qF_0 ha) ?_))
    obtain rfl : s = s' := (nI_eq (by omega) (by omega)).mp e1
    refine bitsLo_cg _ _ _ (fun o _ lo => ?_)
    have e : stp (rSpread a T nc ns (nI s) (-1) (a 56)) (nI o) = wayF (u2 (va_up a 56 F) 60 0 0) ns (-1) s o := by
      rw [← spread_cg ((hf.tr Fr.z).ca h.il h.ic)]
      exact tw_way h1.z.tw h1.z.cs ls (by omega)
    show decide (¬ stp (rSpread a T nc ns (nI s) (-1) (a 56)) (nI o) = -1) = _
    rw [e]
  · have hs1 : ¬ inE x (a T 0) := by rw [h.cT]; exact hs
    have no := inE_n (by omega) hs
    refine V_L_reach_0 (d := 39) ⟨rfl, by decide, Or.inr (Sp.up (by decide) (x_reach (d := 0) h.ct hs1 (pN1 ⟨rfl, ?_⟩)))⟩
    exact Sp.up (by decide) (c_mReachF (d := 0) h.rk h.mqb.1 (fun _ => fin_bad (i := 1) h (by decide) (by decide)) (fun s' l' e _ _ => absurd ⟨s', l', e⟩ no))
theorem h_bridges (h : Iv a r T T' L L' M M' nc ns ng t wk im lw ml) : Sp G 40 1 6 ML_bridges [.ref 0, .int x, .ref 877] (a, r, nK) (RI (HK G MX12_bridges [.int x])) := by
  by_cases hx : inT x 0 1
  · refine V_L_bridges_0 (d := 39) ⟨rfl, by decide, Or.inl (Sp.up (by decide) (c_bridges (d := 0) h.rk h.ct (in01.mp hx) (fun F => long_ok ⟨rfl, ?_⟩)))⟩
    have hf : Fr L a (va_up a 56 F) := Fr.up (by unfold scS; omega) (by decide)
    have h1 := h.fr hf
    refine Sp.up (by decide) (c_mBridgesF (d := 0) h1.out.rk h1.mc (fun z => absurd hx z) (fun _ a2 ha => fin0 (h1.z.fr (Fr.qF ha)) (qF_0 ha) ?_))
    have e1 := brX_cg ((hf.tr Fr.z).ca h.il h.ic) h1.z.tw h1.z.cs
    have e2 := tw_bridges h1.z.tw h1.z.cs
    rw [e1.1, e1.2, e2.1, e2.2]
  · refine V_L_bridges_0 (d := 39) ⟨rfl, by decide, Or.inr (Sp.up (by decide) (x_bridges (d := 0) (fun z => hx (in01.mpr z)) (pI1 ⟨rfl, ?_⟩)))⟩
    exact Sp.up (by decide) (c_mBridgesF (d := 0) h.rk h.mqb.1 (fun _ => fin_bad (i := 2) h (by decide) (by decide)) (fun z => absurd z hx))
theorem h_fair (h : Iv a r T T' L L' M M' nc ns ng t wk im lw ml) : Sp G 40 1 6 ML_fair [.ref 0, .int x, .ref 877] (a, r, nK) (RI (HK G MX12_fair [.int x])) := by
  by_cases hx : inT x 0 1
  · refine V_L_fair_0 (d := 39) ⟨rfl, by decide, Or.inl (Sp.up (by decide) (c_fair (d := 0) h.rk h.ct (in01.mp hx) (long_ok ⟨rfl, ?_⟩)))⟩
    refine Sp.up (by decide) (c_mFairF (d := 0) h.out.rk h.mc (fun z => absurd hx z) (fun _ => fin0 h.z zz0 ?_))
    rw [← frX_cg (Fr.z.ca h.il h.ic), tw_fairX h.z.tw]
  · refine V_L_fair_0 (d := 39) ⟨rfl, by decide, Or.inr (Sp.up (by decide) (x_fair (d := 0) (fun z => hx (in01.mpr z)) (pI1 ⟨rfl, ?_⟩)))⟩
    exact Sp.up (by decide) (c_mFairF (d := 0) h.rk h.mqb.1 (fun _ => fin_bad (i := 2) h (by decide) (by decide)) (fun z => absurd z hx))
theorem h_mates (h : Iv a r T T' L L' M M' nc ns ng t wk im lw ml) : Sp G 40 1 6 ML_mates [.ref 0, .int x, .int y, .ref 877] (a, r, nK) (RI (HK G MX12_mates [.int x, .int y])) := by
  have n8 := h.n8
  by_cases hs : inE x (nI ns)
  · have hs1 : inE x (a T 1) := by rw [h.sT]; exact hs
    obtain ⟨s, ls, rfl⟩ := inE_y (by omega) hs
    by_cases hy : inT y 0 3
    · refine V_L_mates_0 (d := 39) ⟨rfl, by decide, Or.inl (Sp.up (by decide) (c_mates (d := 0) h.rk h.ct h.hl h.hm hs1 hy (fun h9 => long_ok ⟨rfl, ?_⟩)))⟩
      have hf : Fr L a (va_up a (L + 2) h9) := Fr.up (Or.inl rfl) (by rcases h.il with rfl | rfl <;> decide)
      have h1 := h.fr hf
      refine Sp.up (by decide) (c_mMatesF (d := 0) h1.out.rk h1.mq h1.rp (fun z => absurd ⟨s, ls, rfl⟩ z) (fun _ z => absurd hy z) (fun s' l' e _ a2 ha => fin0 (h1.z.fr (Fr.q5 ha)) (q5_0 ha) ?_))
      obtain rfl : s = s' := (nI_eq (by omega) (by omega)).mp e
      rw [← fMates_cg ((hf.tr Fr.z).ca h.il h.ic)]
      exact tw_mates h1.z.tw h1.z.rw h1.z.hs h1.z.pb ls hy
    · refine V_L_mates_0 (d := 39) ⟨rfl, by decide, Or.inr (Sp.up (by decide) (x_mates2 (d := 0) h.ct hs1 hy (pI2 ⟨rfl, ?_⟩)))⟩
      exact Sp.up (by decide) (c_mMatesF (d := 0) h.rk h.mqb h.rpb (fun z => absurd ⟨s, ls, rfl⟩ z) (fun _ _ => fin_bad (i := 2) h (by decide) (by decide)) (fun _ _ _ z => absurd z hy))
  · have hs1 : ¬ inE x (a T 1) := by rw [h.sT]; exact hs
    have no := inE_n (by omega) hs
    refine V_L_mates_0 (d := 39) ⟨rfl, by decide, Or.inr (Sp.up (by decide) (x_mates1 (d := 0) h.ct hs1 (pN1 ⟨rfl, ?_⟩)))⟩
    exact Sp.up (by decide) (c_mMatesF (d := 0) h.rk h.mqb h.rpb (fun _ => fin_bad (i := 1) h (by decide) (by decide)) (fun z => absurd z no) (fun s' l' e _ => absurd ⟨s', l', e⟩ no))
theorem h_look (h : Iv a r T T' L L' M M' nc ns ng t wk im lw ml) : Sp G 40 1 6 ML_look [.ref 0, .int x, .int y, .ref 877] (a, r, nK) (RI (HK G MX12_look [.int x, .int y])) := by
  have n8 := h.n8
  by_cases hs : inE x (nI ns)
  · have hs1 : inE x (a T 1) := by rw [h.sT]; exact hs
    obtain ⟨s, ls, rfl⟩ := inE_y (by omega) hs
    by_cases hy : inT y 0 1
    · refine V_L_look_0 (d := 39) ⟨rfl, by decide, Or.inl (Sp.up (by decide) (c_look (d := 0) h.rk h.ct h.hl h.hm hs1 (in01.mp hy) (fun h9 => long_ok ⟨rfl, ?_⟩)))⟩
      have hf : Fr L a (va_up a (L + 2) h9) := Fr.up (Or.inl rfl) (by rcases h.il with rfl | rfl <;> decide)
      have h1 := h.fr hf
      refine Sp.up (by decide) (c_mLookF (d := 0) h1.out.rk h1.mq h1.rp (fun z => absurd ⟨s, ls, rfl⟩ z) (fun _ z => absurd hy z) (fun s' l' e _ a2 ha => fin0 (h1.z.fr (Fr.q8 ha)) (q8_0 ha) ?_))
      obtain rfl : s = s' := (nI_eq (by omega) (by omega)).mp e
      rw [← lkX_cg ((hf.tr Fr.z).ca h.il h.ic), tw_look h1.z.tw h1.z.rw h1.z.hs h1.z.pb ls]
    · refine V_L_look_0 (d := 39) ⟨rfl, by decide, Or.inr (Sp.up (by decide) (x_look2 (d := 0) h.ct hs1 (fun z => hy (in01.mpr z)) (pI2 ⟨rfl, ?_⟩)))⟩
      exact Sp.up (by decide) (c_mLookF (d := 0) h.rk h.mqb h.rpb (fun z => absurd ⟨s, ls, rfl⟩ z) (fun _ _ => fin_bad (i := 2) h (by decide) (by decide)) (fun _ _ _ z => absurd z hy))
  · have hs1 : ¬ inE x (a T 1) := by rw [h.sT]; exact hs
    have no := inE_n (by omega) hs
    refine V_L_look_0 (d := 39) ⟨rfl, by decide, Or.inr (Sp.up (by decide) (x_look1 (d := 0) h.ct hs1 (pN1 ⟨rfl, ?_⟩)))⟩
    exact Sp.up (by decide) (c_mLookF (d := 0) h.rk h.mqb h.rpb (fun _ => fin_bad (i := 1) h (by decide) (by decide)) (fun z => absurd z no) (fun s' l' e _ => absurd ⟨s', l', e⟩ no))
theorem h_right (h : Iv a r T T' L L' M M' nc ns ng t wk im lw ml) : Sp G 40 1 6 ML_right [.ref 0, .int x, .ref 877] (a, r, nK) (RI (HK G MX12_right [.int x])) := by
  have n8 := h.n8
  by_cases hs : inE x (nI ns)
  · have hs1 : inE x (a T 1) := by rw [h.sT]; exact hs
    obtain ⟨s, ls, rfl⟩ := inE_y (by omega) hs
    refine V_L_right_0 (d := 39) ⟨rfl, by decide, Or.inl (Sp.up (by decide) (c_right (d := 0) h.rk h.ct h.hm hs1 (long_ok ⟨rfl, ?_⟩)))⟩
    refine Sp.up (by decide) (c_mRightF (d := 0) h.out.rk n8 h.s1 h.rp (fun z => absurd ⟨s, ls, rfl⟩ z) (fun s' l' e => fin0 h.z zz0 ?_))
    obtain rfl : s = s' := (nI_eq (by omega) (by omega)).mp e
    have hc := Fr.z.ca (a := a) h.il h.ic
    have e := rgt_eq h.z.tw h.z.rw h.z.hs ls ml h.pb.2
    rw [hc.2, hc.1 5 (by decide)] at e
    rw [e]
  · have hs1 : ¬ inE x (a T 1) := by rw [h.sT]; exact hs
    have no := inE_n (by omega) hs
    refine V_L_right_0 (d := 39) ⟨rfl, by decide, Or.inr (Sp.up (by decide) (x_right (d := 0) h.ct hs1 (pN1 ⟨rfl, ?_⟩)))⟩
    exact Sp.up (by decide) (c_mRightF (d := 0) h.rk n8 h.mqb.1.2.2.1 h.rpb (fun _ => fin_bad (i := 1) h (by decide) (by decide)) (fun s' l' e => absurd ⟨s', l', e⟩ no))
theorem h_suitors (h : Iv a r T T' L L' M M' nc ns ng t wk im lw ml) : Sp G 40 1 6 ML_suitors [.ref 0, .int x1, .int x2, .int x3, .int x4, .ref 877] (a, r, nK) (RI (HK G MX12_suitors [.int x1, .int x2, .int x3, .int x4])) := by
  by_cases hx : inT x1 0 20 ∧ inT x2 0 40 ∧ inT x3 0 40 ∧ inT x4 0 2
  · obtain ⟨k1, k2, k3, k4⟩ := hx
    obtain ⟨n, _, ln, rfl⟩ := inT_y (lo := 0) (hi := 20) (by decide) (by decide) k1
    refine V_L_suitors_0 (d := 39) ⟨rfl, by decide, Or.inl (Sp.up (by decide) (c_suitors (L := L) (d := 0) h.rk ln k2 k3 k4 (fun a1 ha1 => long_ok ⟨rfl, ?_⟩)))⟩
    have h1 := h.fr (Fr.keep ha1 h.il)
    refine Sp.up (by decide) (c_mSuitF (d := 0) h1.out.rk (fun z => absurd ⟨k1, k2, k3, k4⟩ z) (fun n' ln' e _ _ _ => fin0 h1.z zz0 ?_))
    obtain rfl : n = n' := (nI_eq (by omega) (by omega)).mp e
    exact su_eq ln
  · refine V_L_suitors_0 (d := 39) ⟨rfl, by decide, Or.inr (Sp.up (by decide) (x_suitors (d := 0) h.rk hx (pI1 ⟨rfl, ?_⟩)))⟩
    exact Sp.up (by decide) (c_mSuitF (d := 0) h.rk (fun _ => fin_bad (i := 2) h (by decide) (by decide)) (fun n ln e z2 z3 z4 => absurd ⟨by rw [e]; exact ⟨nI_pos (by omega), i_nlt.mpr (nI_le (b := 20) ln (by decide))⟩, z2, z3, z4⟩ hx))
theorem h_gets (h : Iv a r T T' L L' M M' nc ns ng t wk im lw ml) : Sp G 40 1 6 ML_gets [.ref 0, .int x1, .int x2, .int x3, .ref 877] (a, r, nK) (RI (HK G MX12_gets [.int x1, .int x2, .int x3])) := by
  by_cases hx : inD3 x1 x2 x3
  · refine V_L_gets_0 (d := 39) ⟨rfl, by decide, Or.inl (Sp.up (by decide) (c_gets (d := 0) hx (long_ok ⟨rfl, ?_⟩)))⟩
    exact Sp.up (by decide) (c_mGetsF (d := 0) h.out.rk (fun z => absurd hx z) (fun _ _ _ => fin0 h.z zz0 gn_eq))
  · refine V_L_gets_0 (d := 39) ⟨rfl, by decide, Or.inr (Sp.up (by decide) (x_gets (d := 0) hx (pI1 ⟨rfl, ?_⟩)))⟩
    exact Sp.up (by decide) (c_mGetsF (d := 0) h.rk (fun _ => fin_bad (i := 2) h (by decide) (by decide)) (fun z1 z2 z3 => absurd ⟨z1, z2, z3⟩ hx))
theorem h_ahead (h : Iv a r T T' L L' M M' nc ns ng t wk im lw ml) : Sp G 40 1 6 ML_ahead [.ref 0, .int x1, .int x2, .ref 877] (a, r, nK) (RI (HK G MX12_ahead [.int x1, .int x2])) := by
  by_cases hx : inT x1 0 60 ∧ inT x2 0 2
  · obtain ⟨k1, k2⟩ := hx
    obtain ⟨n, _, ln, rfl⟩ := inT_y (lo := 0) (hi := 60) (by decide) (by decide) k1
    refine V_L_ahead_0 (d := 39) ⟨rfl, by decide, Or.inl (Sp.up (by decide) (c_ahead (d := 0) h.rk ln k2 (fun D => long_ok ⟨rfl, ?_⟩)))⟩
    have h1 := h.fr (Fr.up (z := D) (q := 46) (by unfold scS; omega) (by decide))
    have e582 : u2 (va_up a 46 D) 60 0 0 582 = a 582 := by rw [u2_off 582 (by decide), va_up_ne _ _ (by decide)]
    refine Sp.up (by decide) (c_mAheadF (d := 0) h1.out.rk h1.mq (fun z => absurd ⟨k1, k2⟩ z) (fun n' ln' e _ => fin0 (h1.z.fr (Fr.up (by unfold scS; omega) (by decide))) (by rw [va_up_ne _ _ (by decide)]; exact zz0) ?_))
    obtain rfl : n = n' := (nI_eq (by omega) (by omega)).mp e
    exact rw_ahead (h.dr e582) h.n8
  · refine V_L_ahead_0 (d := 39) ⟨rfl, by decide, Or.inr (Sp.up (by decide) (x_ahead (d := 0) hx (pI1 ⟨rfl, ?_⟩)))⟩
    exact Sp.up (by decide) (c_mAheadF (d := 0) h.rk h.mqb (fun _ => fin_bad (i := 2) h (by decide) (by decide)) (fun n ln e z2 => absurd ⟨by rw [e]; exact ⟨nI_pos (by omega), i_nlt.mpr (nI_le (b := 60) ln (by decide))⟩, z2⟩ hx))
theorem h_centuries (h : Iv a r T T' L L' M M' nc ns ng t wk im lw ml) : Sp G 40 1 6 ML_centuries [.ref 0, .int x1, .int x2, .int x3, .int x4, .ref 877] (a, r, nK) (RI (HK G MX12_centuries [.int x1, .int x2, .int x3, .int x4])) := by
  by_cases hx : inT x2 0 16 ∧ inT x3 1 100 ∧ inT x4 0 3
  · obtain ⟨k1, k2, k3⟩ := hx
    obtain ⟨n, l1, ln, rfl⟩ := inT_y (lo := 1) (hi := 100) (by decide) (by decide) k2
    refine V_L_centuries_0 (d := 39) ⟨rfl, by decide, Or.inl (Sp.up (by decide) (c_centuries (d := 0) h.rk h.ic h.r3 k1 l1 ln k3 (fun D => long_ok ⟨rfl, ?_⟩)))⟩
    have h1 := h.fr (Fr.up (z := D) (q := 46) (by unfold scS; omega) (by decide))
    have e582 : u2 (va_up a 46 D) 60 0 0 582 = a 582 := by rw [u2_off 582 (by decide), va_up_ne _ _ (by decide)]
    refine Sp.up (by decide) (c_mCenF (d := 0) h1.out.rk h1.mq (fun z => absurd ⟨k1, k2, k3⟩ z) (fun n' _ ln' e _ _ X eX => fin0 (h1.z.fr Fr.dh) ?_ ?_))
    · unfold dH
      rw [va_up_ne _ _ (by decide), u2_no (by omega), u2_no (by omega)]
      exact zz0
    · obtain rfl : n = n' := (nI_eq (by omega) (by omega)).mp e
      rw [h.sT, eX]
      exact rw_cenV (n := n) (sd := x1) h.n8 (by rw [e582]; exact h.rw) (rw_cen h.n8 (h.dr e582))
  · refine V_L_centuries_0 (d := 39) ⟨rfl, by decide, Or.inr (Sp.up (by decide) (x_centuries (d := 0) hx (pI1 ⟨rfl, ?_⟩)))⟩
    exact Sp.up (by decide) (c_mCenF (d := 0) h.rk h.mqb (fun _ => fin_bad (i := 2) h (by decide) (by decide)) (fun n l1 ln e z2 z3 _ _ => absurd ⟨z2, by rw [e]; exact ⟨i_nlt.mpr (nI_le (a := 1) l1 (by omega)), i_nlt.mpr (nI_le (b := 100) ln (by decide))⟩, z3⟩ hx))
theorem h_span (h : Iv a r T T' L L' M M' nc ns ng t wk im lw ml) : Sp G 40 1 6 ML_span [.ref 0, .int x1, .int x2, .int x3, .int x4, .int x5, .int x6, .ref 877] (a, r, nK) (RI (HK G MX12_span [.int x1, .int x2, .int x3, .int x4, .int x5, .int x6])) := by
  have n8 := h.n8
  by_cases hx : inT x2 1 20 ∧ inT x3 0 16 ∧ inT x4 1 100 ∧ inT x5 0 2 ∧ inE x6 (nI ns)
  · obtain ⟨k1, k2, k3, k4, k5⟩ := hx
    obtain ⟨m, m1, lm, rfl⟩ := inT_y (lo := 1) (hi := 20) (by decide) (by decide) k1
    obtain ⟨n, l1, ln, rfl⟩ := inT_y (lo := 1) (hi := 100) (by decide) (by decide) k3
    obtain ⟨s, ls, rfl⟩ := inE_y (by omega) k5
    refine V_L_span_0 (d := 39) ⟨rfl, by decide, Or.inl (Sp.up (by decide) (c_span (d := 0) h.rk h.ic h.r3 l1 ln m1 lm h.sT k2 k4 k5 (fun D => long_ok ⟨rfl, ?_⟩)))⟩
    have h1 := h.fr (Fr.up (z := D) (q := 46) (by unfold scS; omega) (by decide))
    have e582 : u2 (va_up a 46 D) 60 0 0 582 = a 582 := by rw [u2_off 582 (by decide), va_up_ne _ _ (by decide)]
    refine Sp.up (by decide) (c_mSpanF (d := 0) h1.out.rk h1.mq (fun z => absurd ⟨k1, k2, k3, k4, s, ls, rfl⟩ z) (fun m' n' s' _ lm' em _ ln' en _ _ ls' es X eX => fin0 (h1.z.fr Fr.dh) ?_ ?_))
    · unfold dH
      rw [va_up_ne _ _ (by decide), u2_no (by omega), u2_no (by omega)]
      exact zz0
    · obtain rfl : m = m' := (nI_eq (by omega) (by omega)).mp em
      obtain rfl : n = n' := (nI_eq (by omega) (by omega)).mp en
      obtain rfl : s = s' := (nI_eq (by omega) (by omega)).mp es
      rw [eX]
      exact rw_span h.n8 ls (by rw [e582]; exact h.rw) m1
  · have hx1 : ¬ (inT x2 1 20 ∧ inT x3 0 16 ∧ inT x4 1 100 ∧ inT x5 0 2 ∧ inE x6 (a T 1)) := by rw [h.sT]; exact hx
    refine V_L_span_0 (d := 39) ⟨rfl, by decide, Or.inr (Sp.up (by decide) (x_span (d := 0) h.ic h.r3 hx1 (pI1 ⟨rfl, ?_⟩)))⟩
    have no : ¬ (inT x2 1 20 ∧ inT x3 0 16 ∧ inT x4 1 100 ∧ inT x5 0 2 ∧ ∃ s, s < ns ∧ x6 = nI s) := by
      rintro ⟨z1, z2, z3, z4, s, ls, e⟩
      exact hx ⟨z1, z2, z3, z4, by rw [e]; exact inE_k (by omega) ls⟩
    exact Sp.up (by decide) (c_mSpanF (d := 0) h.rk h.mqb (fun _ => fin_bad (i := 2) h (by decide) (by decide)) (fun m n s m1 lm em l1 ln en z2 z4 ls es _ _ => absurd ⟨by rw [em]; exact ⟨i_nlt.mpr (nI_le (a := 1) m1 (by omega)), i_nlt.mpr (nI_le (b := 20) lm (by decide))⟩, z2, by rw [en]; exact ⟨i_nlt.mpr (nI_le (a := 1) l1 (by omega)), i_nlt.mpr (nI_le (b := 100) ln (by decide))⟩, z4, s, ls, es⟩ no))
end HQ2
