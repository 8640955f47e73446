/-! The law's helpers: class and reference answer alike (1) -/
section HQ1
variable {G : GE} {a : IA} {r : RA} {T T' L L' M M' nc ns ng t wk im : Nat} {lw : List Int32} {ml : List Ln} {x y v w x1 x2 x3 x4 x5 x6 : Int32}
theorem h_told (h : Iv a r T T' L L' M M' nc ns ng t wk im lw ml) : Sp G 40 1 6 ML_told [.ref 0, .int x, .ref 877] (a, r, nK) (RI (HK G MX12_told [.int x])) := by
  by_cases hx : inT x 0 9
  · refine V_L_told_0 (d := 39) ⟨rfl, by decide, Or.inl (Sp.up (by decide) (c_told (d := 0) h.rk h.ic h.iM h.r3 h.r7 hx (long_ok ⟨rfl, ?_⟩)))⟩
    refine Sp.up (by decide) (c_mToldF (d := 0) h.out.rk h.n8 h.s1 (fun z => absurd hx z) (fun _ => fin0 h.z zz0 ?_))
    rw [← tw_told (M := M) h.z.tw h.z.rw (h.z.hm.2.2.1.trans h.z.rp.1.symm) h.z.2.2.2.2.2.2.1]
    unfold fTold
    have n3 : T ≠ 60 := by rcases h.ic with rfl | rfl <;> decide
    have n4 : M ≠ 60 := by rcases h.iM with rfl | rfl <;> decide
    rw [u2_off T n3, u2_off M n4, u2_off 44 (by decide), u2_off 0 (by decide)]
  · refine V_L_told_0 (d := 39) ⟨rfl, by decide, Or.inr (Sp.up (by decide) (x_told (d := 0) hx (pI1 ⟨rfl, ?_⟩)))⟩
    exact Sp.up (by decide) (c_mToldF (d := 0) h.rk h.n8 h.mqb.1.2.2.1 (fun _ => fin_bad (i := 2) h (by decide) (by decide)) (fun z => absurd z hx))
theorem h_street (h : Iv a r T T' L L' M M' nc ns ng t wk im lw ml) : Sp G 40 1 6 ML_street [.ref 0, .int x, .int y, .ref 877] (a, r, nK) (RI (HK G MX12_street [.int x, .int y])) := by
  have n8 := h.n8
  by_cases hs : inE x (nI ns)
  · have hs1 : inE x (a T 1) := by rw [h.sT]; exact hs
    obtain ⟨s, ls, rfl⟩ := inE_y (by omega) hs
    by_cases hy : inT y 0 8
    · refine V_L_street_0 (d := 39) ⟨rfl, by decide, Or.inl (Sp.up (by decide) (c_street (d := 0) h.rk h.ic h.r3 hs1 hy (long_ok ⟨rfl, ?_⟩)))⟩
      refine Sp.up (by decide) (c_mStreetF (d := 0) h.out.rk h.mc (fun z => absurd ⟨s, ls, rfl⟩ z) (fun _ z => absurd hy z) (fun s' l' e _ => fin0 h.z zz0 ?_))
      obtain rfl : s = s' := (nI_eq (by omega) (by omega)).mp e
      rw [← street_cg (Fr.z.ca h.il h.ic)]
      exact tw_street h.z.tw h.z.rw ls
    · refine V_L_street_0 (d := 39) ⟨rfl, by decide, Or.inr (Sp.up (by decide) (x_street2 (d := 0) h.ic h.r3 hs1 hy (pI2 ⟨rfl, ?_⟩)))⟩
      exact Sp.up (by decide) (c_mStreetF (d := 0) h.rk h.mqb.1 (fun z => absurd ⟨s, ls, rfl⟩ z) (fun _ _ => fin_bad (i := 2) h (by decide) (by decide)) (fun _ _ _ z => absurd z hy))
  · have hs1 : ¬ inE x (a T 1) := by rw [h.sT]; exact hs
    have no := inE_n (by omega) hs
    refine V_L_street_0 (d := 39) ⟨rfl, by decide, Or.inr (Sp.up (by decide) (x_street1 (d := 0) h.ic h.r3 hs1 (pN1 ⟨rfl, ?_⟩)))⟩
    exact Sp.up (by decide) (c_mStreetF (d := 0) h.rk h.mqb.1 (fun _ => fin_bad (i := 1) h (by decide) (by decide)) (fun z => absurd z no) (fun s' l' e _ => absurd ⟨s', l', e⟩ no))
theorem h_likes (h : Iv a r T T' L L' M M' nc ns ng t wk im lw ml) : Sp G 40 1 6 ML_likes [.ref 0, .int x, .int y, .ref 877] (a, r, nK) (RI (HK G MX12_likes [.int x, .int y])) := by
  have n8 := h.n8
  by_cases hs : inE x (nI ns) ∧ inE y (nI ns)
  · have hs1 : inE x (a T 1) := by rw [h.sT]; exact hs.1
    have ht1 : inE y (a T 1) := by rw [h.sT]; exact hs.2
    obtain ⟨s, ls, rfl⟩ := inE_y (by omega) hs.1
    obtain ⟨o, lo, rfl⟩ := inE_y (by omega) hs.2
    by_cases hy : nI s = nI o
    · rw [← hy] at ht1 ⊢
      refine V_L_likes_0 (d := 39) ⟨rfl, by decide, Or.inr (Sp.up (by decide) (x_likes2 (d := 0) h.ic h.r3 hs1 (pI2 ⟨rfl, ?_⟩)))⟩
      exact Sp.up (by decide) (c_mLikesF (d := 0) h.rk n8 h.mqb.1.2.2.1 (fun z => absurd ⟨⟨s, ls, rfl⟩, s, ls, rfl⟩ z) (fun _ _ _ => fin_bad (i := 2) h (by decide) (by decide)) (fun _ _ _ _ _ _ z => absurd rfl z))
    · refine V_L_likes_0 (d := 39) ⟨rfl, by decide, Or.inl (Sp.up (by decide) (c_likes (d := 0) h.rk h.ic h.r3 hs1 ht1 hy (long_ok ⟨rfl, ?_⟩)))⟩
      refine Sp.up (by decide) (c_mLikesF (d := 0) h.out.rk n8 h.s1 (fun z => absurd ⟨⟨s, ls, rfl⟩, o, lo, rfl⟩ z) (fun _ _ z => absurd z hy) (fun s' o' ls' lo' e1 e2 _ => fin0 h.z zz0 ?_))
      obtain rfl : s = s' := (nI_eq (by omega) (by omega)).mp e1
      obtain rfl : o = o' := (nI_eq (by omega) (by omega)).mp e2
      rw [← liking_cg (Fr.z.ca h.il h.ic)]
      exact tw_likes h.z.tw (by omega) (by omega)
  · have hs1 : ¬ (inE x (a T 1) ∧ inE y (a T 1)) := by rw [h.sT]; exact hs
    have no : ¬ ((∃ s, s < ns ∧ x = nI s) ∧ ∃ t, t < ns ∧ y = nI t) := by
      rintro ⟨⟨s, ls, rfl⟩, o, lo, rfl⟩
      exact hs ⟨inE_k (by omega) ls, inE_k (by omega) lo⟩
    refine V_L_likes_0 (d := 39) ⟨rfl, by decide, Or.inr (Sp.up (by decide) (x_likes1 (d := 0) h.ic h.r3 hs1 (pN1 ⟨rfl, ?_⟩)))⟩
    exact Sp.up (by decide) (c_mLikesF (d := 0) h.rk n8 h.mqb.1.2.2.1 (fun _ => fin_bad (i := 1) h (by decide) (by decide)) (fun z1 z2 => absurd ⟨z1, z2⟩ no) (fun s' o' ls' lo' e1 e2 _ => absurd ⟨⟨s', ls', e1⟩, o', lo', e2⟩ no))
theorem h_banns (h : Iv a r T T' L L' M M' nc ns ng t wk im lw ml) : Sp G 40 1 6 ML_banns [.ref 0, .int x, .int y, .ref 877] (a, r, nK) (RI (HK G MX12_banns [.int x, .int y])) := by
  have n8 := h.n8
  by_cases hs : inE x (nI ns) ∧ inE y (nI ns)
  · have hs1 : inE x (a T 1) := by rw [h.sT]; exact hs.1
    have ht1 : inE y (a T 1) := by rw [h.sT]; exact hs.2
    obtain ⟨s, ls, rfl⟩ := inE_y (by omega) hs.1
    obtain ⟨o, lo, rfl⟩ := inE_y (by omega) hs.2
    refine V_L_banns_0 (d := 39) ⟨rfl, by decide, Or.inl (Sp.up (by decide) (c_banns (d := 0) h.rk h.ic h.r3 h.il h.r5 h.hl.2.2.1 h.hl.2.2.2.1 h.hl.2.2.2.2 hs1 ht1 (fun h9 => long_ok ⟨rfl, ?_⟩)))⟩
    have hf : Fr L a (va_up a (L + 2) h9) := Fr.up (Or.inl rfl) (by rcases h.il with rfl | rfl <;> decide)
    have h1 := h.fr hf
    refine Sp.up (by decide) (c_mBannsF (d := 0) h1.out.rk h1.mq (fun z => absurd ⟨⟨s, ls, rfl⟩, o, lo, rfl⟩ z) (fun s' o' ls' lo' e1 e2 a' ha => fin0 (h1.z.fr (Fr.q5 ha)) (q5_0 ha) ?_))
    obtain rfl : s = s' := (nI_eq (by omega) (by omega)).mp e1
    obtain rfl : o = o' := (nI_eq (by omega) (by omega)).mp e2
    rw [← hind_cg ((hf.tr Fr.z).ca h.il h.ic)]
    exact tw_hind (q := 43) (p := 582) h1.z.tw h1.z.rw ls lo
  · have hs1 : ¬ (inE x (a T 1) ∧ inE y (a T 1)) := by rw [h.sT]; exact hs
    have no : ¬ ((∃ s, s < ns ∧ x = nI s) ∧ ∃ t, t < ns ∧ y = nI t) := by
      rintro ⟨⟨s, ls, rfl⟩, o, lo, rfl⟩
      exact hs ⟨inE_k (by omega) ls, inE_k (by omega) lo⟩
    refine V_L_banns_0 (d := 39) ⟨rfl, by decide, Or.inr (Sp.up (by decide) (x_banns (d := 0) h.ic h.r3 hs1 (pN1 ⟨rfl, ?_⟩)))⟩
    exact Sp.up (by decide) (c_mBannsF (d := 0) h.rk h.mqb (fun _ => fin_bad (i := 1) h (by decide) (by decide)) (fun s' o' ls' lo' e1 e2 _ _ => absurd ⟨⟨s', ls', e1⟩, o', lo', e2⟩ no))
theorem h_number (h : Iv a r T T' L L' M M' nc ns ng t wk im lw ml) : Sp G 40 1 6 ML_number [.ref 0, .int x, .int y, .ref 877] (a, r, nK) (RI (HK G MX12_number [.int x, .int y])) := by
  have n8 := h.n8
  by_cases hs : inE x (nI ns)
  · have hs1 : inE x (a T 1) := by rw [h.sT]; exact hs
    obtain ⟨s, ls, rfl⟩ := inE_y (by omega) hs
    have eH : rAt (a (T + 5)) 8 (nI s) = a (96 + 1 + s) 2 := (rAt_nI _ (by decide) (by omega)).trans (h.tw.2.2.2.2.2.1 s ls).2.2.1
    by_cases hy : inT y 1 (a (96 + 1 + s) 2)
    · have hy1 : inT y 1 (rAt (a (T + 5)) 8 (nI s)) := by rw [eH]; exact hy
      refine V_L_number_0 (d := 39) ⟨rfl, by decide, Or.inl (Sp.up (by decide) (c_number (d := 0) h.rk h.ic h.r3 hs1 hy1 (long_ok ⟨rfl, ?_⟩)))⟩
      refine Sp.up (by decide) (c_mNumberF (d := 0) h.out.rk h.mc (fun z => absurd ⟨s, ls, rfl⟩ z) (fun s' ls' e z => ?_) (fun s' l' e _ => fin0 h.z zz0 ?_))
      · obtain rfl : s = s' := (nI_eq (by omega) (by omega)).mp e
        exact absurd hy z
      obtain rfl : s = s' := (nI_eq (by omega) (by omega)).mp e
      have e44 : u2 a 60 0 0 44 = a 44 := u2_off 44 (by decide)
      rw [← e44, kR (by omega), h.z.rw.1.2.1 s (by omega), roC_how]
      obtain ⟨q, hq, eq⟩ := mHow_n (a := u2 a 60 0 0) (s := s)
      rw [eq, num_eq]
      unfold mNumBy
      have : q = 0 ∨ q = 1 ∨ q = 2 := by omega
      rcases this with rfl | rfl | rfl
      · rw [if_neg (show ¬ nI 0 = 1 by decide), if_neg (show ¬ nI 0 = 2 by decide), if_pos (show nI 0 = 0 from rfl)]
      · rw [if_pos (show nI 1 = 1 from rfl), if_neg (show ¬ nI 1 = 0 by decide), if_pos (show nI 1 = 1 from rfl)]
      · rw [if_neg (show ¬ nI 2 = 1 by decide), if_pos (show nI 2 = 2 from rfl), if_neg (show ¬ nI 2 = 0 by decide), if_neg (show ¬ nI 2 = 1 by decide)]
    · have hy1 : ¬ inT y 1 (rAt (a (T + 5)) 8 (nI s)) := by rw [eH]; exact hy
      refine V_L_number_0 (d := 39) ⟨rfl, by decide, Or.inr (Sp.up (by decide) (x_number2 (d := 0) h.rk h.ic h.r3 hs1 hy1 (pX1 ⟨rfl, ?_⟩)))⟩
      refine Sp.up (by decide) (c_mNumberF (d := 0) h.rk h.mqb.1 (fun z => absurd ⟨s, ls, rfl⟩ z) (fun _ _ _ _ => fin_bad (i := 0) h (by decide) (by decide)) (fun s' ls' e z => ?_))
      obtain rfl : s = s' := (nI_eq (by omega) (by omega)).mp e
      rw [bump_off (by omega)] at z
      exact absurd z hy
  · have hs1 : ¬ inE x (a T 1) := by rw [h.sT]; exact hs
    have no := inE_n (by omega) hs
    refine V_L_number_0 (d := 39) ⟨rfl, by decide, Or.inr (Sp.up (by decide) (x_number1 (d := 0) h.ic h.r3 hs1 (pN2 ⟨rfl, ?_⟩)))⟩
    exact Sp.up (by decide) (c_mNumberF (d := 0) h.rk h.mqb.1 (fun _ => fin_bad (i := 1) h (by decide) (by decide)) (fun s' l' e _ => absurd ⟨s', l', e⟩ no) (fun s' l' e _ => absurd ⟨s', l', e⟩ no))
theorem h_letter (h : Iv a r T T' L L' M M' nc ns ng t wk im lw ml) : Sp G 40 1 6 ML_letter [.ref 0, .int x, .int y, .ref 877] (a, r, nK) (RI (HK G MX12_letter [.int x, .int y])) := by
  have n8 := h.n8
  by_cases hs : inE x (nI ns)
  · have hs1 : inE x (a T 1) := by rw [h.sT]; exact hs
    obtain ⟨s, ls, rfl⟩ := inE_y (by omega) hs
    by_cases hy : inT y 1 99
    · refine V_L_letter_0 (d := 39) ⟨rfl, by decide, Or.inl (Sp.up (by decide) (c_letter (d := 0) h.rk h.ic h.r3 hs1 hy (long_ok ⟨rfl, ?_⟩)))⟩
      refine Sp.up (by decide) (c_mLetterF (d := 0) h.out.rk n8 h.s1 h.mq.2.2.2.2.1 (fun z => absurd ⟨s, ls, rfl⟩ z) (fun _ z => absurd hy z) (fun s' l' e _ => fin0 h.z zz0 ?_))
      obtain rfl : s = s' := (nI_eq (by omega) (by omega)).mp e
      obtain ⟨j, hj, rfl⟩ := nI_of (x := y) (fun z => hy.1 (Int32.lt_of_lt_of_le z (by decide)))
      have h99 : j ≤ 99 := (nI_leI (a := j) (b := 99) hj (by decide)).mp (i_nlt.mp hy.2)
      rw [← letter_cg (Fr.z.ca h.il h.ic)]
      exact tw_letter2 h.z.tw h.z.rw h.z.hs ls h99
    · refine V_L_letter_0 (d := 39) ⟨rfl, by decide, Or.inr (Sp.up (by decide) (x_letter2 (d := 0) h.ic h.r3 hs1 hy (pI2 ⟨rfl, ?_⟩)))⟩
      exact Sp.up (by decide) (c_mLetterF (d := 0) h.rk n8 h.mqb.1.2.2.1 h.mqb.2.2.2.2.1 (fun z => absurd ⟨s, ls, rfl⟩ z) (fun _ _ => fin_bad (i := 2) h (by decide) (by decide)) (fun _ _ _ z => absurd z hy))
  · have hs1 : ¬ inE x (a T 1) := by rw [h.sT]; exact hs
    have no := inE_n (by omega) hs
    refine V_L_letter_0 (d := 39) ⟨rfl, by decide, Or.inr (Sp.up (by decide) (x_letter1 (d := 0) h.ic h.r3 hs1 (pN1 ⟨rfl, ?_⟩)))⟩
    exact Sp.up (by decide) (c_mLetterF (d := 0) h.rk n8 h.mqb.1.2.2.1 h.mqb.2.2.2.2.1 (fun _ => fin_bad (i := 1) h (by decide) (by decide)) (fun z => absurd z no) (fun s' l' e _ => absurd ⟨s', l', e⟩ no))
theorem h_last (h : Iv a r T T' L L' M M' nc ns ng t wk im lw ml) : Sp G 40 1 6 ML_last [.ref 0, .int x, .ref 877] (a, r, nK) (RI (HK G MX12_last [.int x])) := by
  have n8 := h.n8
  by_cases hs : inE x (nI ns)
  · have hs1 : inE x (a T 1) := by rw [h.sT]; exact hs
    obtain ⟨s, ls, rfl⟩ := inE_y (by omega) hs
    refine V_L_last_0 (d := 39) ⟨rfl, by decide, Or.inl (Sp.up (by decide) (c_last (d := 0) h.rk h.ic h.r3 hs1 (long_ok ⟨rfl, ?_⟩)))⟩
    refine Sp.up (by decide) (c_mLastF (d := 0) h.out.rk n8 h.s1 h.mq.2.2.2.2.1 (fun z => absurd ⟨s, ls, rfl⟩ z) (fun s' l' e => fin0 h.z zz0 ?_))
    obtain rfl : s = s' := (nI_eq (by omega) (by omega)).mp e
    rw [← last_cg (Fr.z.ca h.il h.ic)]
    exact tw_last h.z.tw h.z.rw ls
  · have hs1 : ¬ inE x (a T 1) := by rw [h.sT]; exact hs
    have no := inE_n (by omega) hs
    refine V_L_last_0 (d := 39) ⟨rfl, by decide, Or.inr (Sp.up (by decide) (x_last (d := 0) h.ic h.r3 hs1 (pN1 ⟨rfl, ?_⟩)))⟩
    exact Sp.up (by decide) (c_mLastF (d := 0) h.rk n8 h.mqb.1.2.2.1 h.mqb.2.2.2.2.1 (fun _ => fin_bad (i := 1) h (by decide) (by decide)) (fun s' l' e => absurd ⟨s', l', e⟩ no))
theorem h_missing (h : Iv a r T T' L L' M M' nc ns ng t wk im lw ml) : Sp G 40 1 6 ML_missing [.ref 0, .int x, .ref 877] (a, r, nK) (RI (HK G MX12_missing [.int x])) := by
  have n8 := h.n8
  by_cases hs : inE x (nI ns)
  · have hs1 : inE x (a T 1) := by rw [h.sT]; exact hs
    obtain ⟨s, ls, rfl⟩ := inE_y (by omega) hs
    refine V_L_missing_0 (d := 39) ⟨rfl, by decide, Or.inl (Sp.up (by decide) (c_missing (d := 0) h.rk h.ic h.r3 hs1 (long_ok ⟨rfl, ?_⟩)))⟩
    refine Sp.up (by decide) (c_mMissF (d := 0) h.out.rk h.mq (fun z => absurd ⟨s, ls, rfl⟩ z) (fun s' m l' e hm el => fin0 h.z zz0 ?_))
    obtain rfl : s = s' := (nI_eq (by omega) (by omega)).mp e
    rw [← missing_cg (Fr.z.ca h.il h.ic)]
    exact tw_missing h.z.tw h.z.rw h.z.hs ls hm el
  · have hs1 : ¬ inE x (a T 1) := by rw [h.sT]; exact hs
    have no := inE_n (by omega) hs
    refine V_L_missing_0 (d := 39) ⟨rfl, by decide, Or.inr (Sp.up (by decide) (x_missing (d := 0) h.ic h.r3 hs1 (pN1 ⟨rfl, ?_⟩)))⟩
    exact Sp.up (by decide) (c_mMissF (d := 0) h.rk h.mqb (fun _ => fin_bad (i := 1) h (by decide) (by decide)) (fun s' _ l' e _ _ => absurd ⟨s', l', e⟩ no))
theorem h_stableFor (h : Iv a r T T' L L' M M' nc ns ng t wk im lw ml) : Sp G 40 1 6 ML_stableFor [.ref 0, .int x, .ref 877] (a, r, nK) (RI (HK G MX12_stableFor [.int x])) := by
  have n8 := h.n8
  by_cases hs : inE x (nI ns)
  · have hs1 : inE x (a T 1) := by rw [h.sT]; exact hs
    obtain ⟨s, ls, rfl⟩ := inE_y (by omega) hs
    refine V_L_stableFor_0 (d := 39) ⟨rfl, by decide, Or.inl (Sp.up (by decide) (c_stableFor (d := 0) h.rk h.ct h.hl hs1 (fun a1 ha1 => long_ok ⟨rfl, ?_⟩)))⟩
    have hf : Fr L a a1 := Fr.keep ha1 h.il
    have h1 := h.fr hf
    refine Sp.up (by decide) (c_mStableForF (d := 0) h1.out.rk h1.mq (fun z => absurd ⟨s, ls, rfl⟩ z) (fun s' l' e a2 b1 b2 => fin0 (h1.z.fr (Fr.mx b1 b2)) ((b2 0 (by decide) (by decide)).trans zz0) ?_))
    obtain rfl : s = s' := (nI_eq (by omega) (by omega)).mp e
    rw [rAt_nI _ (by decide) (by omega)]
    exact (((XM_cg ((hf.tr Fr.z).ca h.il h.ic) n8).tr (tw_XM h1.z.tw h1.z.rw)).2.2 s (by omega)).1
  · have hs1 : ¬ inE x (a T 1) := by rw [h.sT]; exact hs
    have no := inE_n (by omega) hs
    refine V_L_stableFor_0 (d := 39) ⟨rfl, by decide, Or.inr (Sp.up (by decide) (x_stableFor (d := 0) h.ct hs1 (pN1 ⟨rfl, ?_⟩)))⟩
    exact Sp.up (by decide) (c_mStableForF (d := 0) h.rk h.mqb (fun _ => fin_bad (i := 1) h (by decide) (by decide)) (fun s' l' e _ _ _ => absurd ⟨s', l', e⟩ no))
theorem h_bestFor (h : Iv a r T T' L L' M M' nc ns ng t wk im lw ml) : Sp G 40 1 6 ML_bestFor [.ref 0, .int x, .ref 877] (a, r, nK) (RI (HK G MX12_bestFor [.int x])) := by
  have n8 := h.n8
  by_cases hs : inE x (nI ns)
  · have hs1 : inE x (a T 1) := by rw [h.sT]; exact hs
    obtain ⟨s, ls, rfl⟩ := inE_y (by omega) hs
    refine V_L_bestFor_0 (d := 39) ⟨rfl, by decide, Or.inl (Sp.up (by decide) (c_bestFor (d := 0) h.rk h.ct h.hl hs1 (fun a1 ha1 => long_ok ⟨rfl, ?_⟩)))⟩
    have hf : Fr L a a1 := Fr.keep ha1 h.il
    have h1 := h.fr hf
    refine Sp.up (by decide) (c_mBestForF (d := 0) h1.out.rk h1.mq (fun z => absurd ⟨s, ls, rfl⟩ z) (fun s' l' e a2 b1 b2 => fin0 (h1.z.fr (Fr.mx b1 b2)) ((b2 0 (by decide) (by decide)).trans zz0) ?_))
    obtain rfl : s = s' := (nI_eq (by omega) (by omega)).mp e
    rw [rAt_nI _ (by decide) (by omega)]
    exact (((XM_cg ((hf.tr Fr.z).ca h.il h.ic) n8).tr (tw_XM h1.z.tw h1.z.rw)).2.2 s (by omega)).2
  · have hs1 : ¬ inE x (a T 1) := by rw [h.sT]; exact hs
    have no := inE_n (by omega) hs
    refine V_L_bestFor_0 (d := 39) ⟨rfl, by decide, Or.inr (Sp.up (by decide) (x_bestFor (d := 0) h.ct hs1 (pN1 ⟨rfl, ?_⟩)))⟩
    exact Sp.up (by decide) (c_mBestForF (d := 0) h.rk h.mqb (fun _ => fin_bad (i := 1) h (by decide) (by decide)) (fun s' l' e _ _ _ => absurd ⟨s', l', e⟩ no))
end HQ1
