/-! Calls that read a text: work -/
section WRK
variable {G : GE} {a b b' c A a1 a' : IA} {r r2 : RA} {T T' L L' M M' nc ns ng t wk im wk' im' n m j d q : Nat} {lw : List Int32} {ml : List Ln} {x f : Int32} {B : Nat → Int32} {g : Nat → Int32}
theorem Iv.led0 (h : Iv a r T T' L L' M M' nc ns ng t wk im lw ml) (e : ∀ q, twC T q ∨ q = L ∨ q = L + 1 ∨ (M ≤ q ∧ q ≤ M + 2) ∨ q = 62 ∨ (160 ≤ q ∧ q ≤ 310) ∨ (482 ≤ q ∧ q ≤ 489) → c q = a q) (h01 : c 0 1 = 0) (h601 : c 60 1 = 0) (h25 : c 2 5 = c 60 3)
    (e0 : ∀ j, 17 ≤ j → j ≤ 19 → c 0 j = a 0 j) (e60 : ∀ j, j = 23 ∨ j = 38 → c 60 j = a 60 j) (h16 : c 0 16 = c 60 40) (hRw : Rw ns (c 44) (c 582)) (hLg : LgI c ns wk' im') : Iv c r T T' L L' M M' nc ns ng 0 wk' im' lw ml := by
  obtain ⟨hR, _, ⟨w1, w2, w3, w4, w5⟩, hL, hP, hG, c1, c2, c3, c4, c5⟩ := h
  have hW : WoI c T nc ns ng := by
    have h8 := w1.1.2.2.2.1
    have h10 := w1.1.2.1
    have tc : ∀ q, twC T q → c q = a q := fun q hq => e q (Or.inl hq)
    have eT : c T = a T := tc T (by unfold twC; omega)
    have e64 : c 64 = a 64 := tc 64 (by unfold twC; omega)
    refine ⟨w1.fr tc, ?_, fun k hk => ?_, fun s hs => ?_, hRw⟩
    · unfold Tl
      rw [eT, e64]
      exact w2
    · rw [tc (76 + 1 + k) (by unfold twC; omega)]; exact w3 k hk
    · rw [tc (96 + 1 + s) (by unfold twC; omega)]; exact w4 s hs
  refine ⟨hR, ⟨by omega, h01, h601, fun i hi => absurd hi (by omega)⟩, hW, hL.fr (e _ (by omega)) (e _ (by omega)) (e60 23 (by omega)) (fun q h1 h2 => e q (by omega)), hP.fr (fun k hk => e _ (by omega)) (e60 38 (by omega)) (fun q h1 h2 => e q (by omega)), hLg, h16, ?_, ?_, ?_, h25⟩
  · rw [e0 17 (by decide) (by decide), e 62 (by omega)]; exact c2
  · rw [e0 18 (by decide) (by decide), e 62 (by omega)]; exact c3
  · rw [e0 19 (by decide) (by decide), e 62 (by omega)]; exact c4
theorem h_work (h : Iv a r T T' L L' M M' nc ns ng t wk im lw ml) : Sp G 40 1 6 ML_work [.ref 0, .int x, .ref 877] (a, r, nK) (RI (HK G MX12_work [.int x])) := by
  obtain ⟨t6, t1, t2, tb⟩ := h.2.1
  have hR := h.1
  have cl := cells hR
  have n8 := h.n8
  have iT := h.ic
  obtain ⟨g1, g2, g3, g4, g5, g6, g7, g8⟩ := h.2.2.2.2.2.1
  by_cases hx : inT x 0 (nI t) ∧ x ≤ 150
  · have hop : opOK a x 150 := (op_iff t1).mpr hx
    obtain ⟨n, _, ln, rfl⟩ := inT_y (lo := 0) (hi := t) (by decide) (by omega) hx.1
    have n150 : n ≤ 150 := le_nI (k := 150) (by omega) (by decide) hx.2
    have hB : By a (fun i => a 61 i) n := ⟨by omega, fun i hi => tb i (by omega)⟩
    refine V_L_work_0 (d := 39) ⟨rfl, by decide, Or.inl (Sp.up (by decide) (c_work (t := 50) (d := 0) h.rk h.ct h.hl g1 g2 hop hB (fun l hl => pWork_ok n150 hl) (fun hk => long_ok ⟨rfl, ?_⟩) (fun hk l hl a' g p s ho hg pl' h' => long_ok ⟨rfl, ?_⟩) (fun hk c q hc a' g p s ho hg => long_ok ⟨rfl, ?_⟩)))⟩
    · have aq : ∀ q, q ≠ 0 → q ≠ 2 → opn a (nI n) q = a q := fun q k1 k2 => by rw [opn_eq, va_up_ne _ _ k2, u2_off q k1]
      have a0 : ∀ j, opn a (nI n) 0 j = if j = 1 then 0 else a 0 j := fun j => by
        rw [opn_eq, va_up_ne _ _ (by decide), u2_at0]
        by_cases z : j = 1
        · rw [if_pos ⟨rfl, z⟩, if_pos z]
        · rw [if_neg (fun y => z y.2), if_neg z]
      have a2 : opn a (nI n) 2 5 = -1 := by
        rw [opn_eq, va_up_self]
        exact (txo_ok (n := n)).2.2.2.2
      generalize opn a (nI n) = A at aq a0 a2
      have a60 : A 60 = a 60 := aq 60 (by decide) (by decide)
      have hm := h.mq.cg (a' := A) (fun q hq => aq q (by omega) (by omega))
      refine Sp.up (by decide) (c_mWorkF (d := 0) (k := wk) h.out.rk (by rw [a60]; exact t2) t6 hm.1 hm.2.1 hm.2.2.1 hm.2.2.2.1 (by rw [a60]; exact g3) g2 hm.2.2.2.2.1 (fun z => absurd hx z) (fun _ _ => ?_) (fun n' B' _ _ _ z _ => by omega))
      have cq : ∀ q, q ≠ 0 → q ≠ 2 → q ≠ 60 → u2 (u2 (u2 A 60 0 0) 60 1 0) 60 3 (-1) q = a q := fun q k1 k2 k3 => by rw [u2_off q k3, u2_off q k3, u2_off q k3, aq q k1 k2]
      have c60 : ∀ j, j ≠ 0 → j ≠ 1 → j ≠ 3 → u2 (u2 (u2 A 60 0 0) 60 1 0) 60 3 (-1) 60 j = a 60 j := fun j k1 k2 k3 => by rw [u2_no (by omega), u2_no (by omega), u2_no (by omega), a60]
      refine fin0 (h.gen hR (fun q hq => ?_) ?_ ?_ (fun j hj => ?_) (fun j k1 k2 => c60 j (by omega) (by omega) (by omega)) ?_ (h.2.2.2.1.fr (cq _ ?_ ?_ ?_) (cq _ ?_ ?_ ?_) (c60 23 (by decide) (by decide) (by decide)) (fun q k1 k2 => cq q (by omega) (by omega) (by omega))) (h.2.2.2.2.1.fr (fun k hk => cq _ ?_ ?_ ?_) (c60 38 (by decide) (by decide) (by decide)) (fun q k1 k2 => cq q (by omega) (by omega) (by omega)))) ?_ rfl
      · unfold twC at hq
        exact cq q (by omega) (by omega) (by omega)
      · rw [u2_off 0 (by decide), u2_off 0 (by decide), u2_off 0 (by decide), a0, if_pos rfl]
      · rw [u2_no (by omega), u2_is rfl rfl]
      · rw [u2_off 0 (by decide), u2_off 0 (by decide), u2_off 0 (by decide), a0, if_neg hj]
      · rw [u2_is rfl rfl, u2_off 2 (by decide), u2_off 2 (by decide), u2_off 2 (by decide), a2]
      all_goals first
        | omega
        | skip
      rw [u2_no (by omega), u2_no (by omega), u2_is rfl rfl]
    · have bq : ∀ q, q ≠ 0 → q ≠ 2 → q ≠ 47 → q ≠ 48 → ¬ (39 ≤ q ∧ q ≤ 42) → lgKeep (va_up a' 2 g) wk q = a q := fun q k1 k2 k3 k4 k5 => by
        unfold lgKeep
        rw [u2_off q k3, va_up_ne _ _ k4, va_up_ne _ _ k2, ho q k5, u2_off q k1]
      have b0 : ∀ j, lgKeep (va_up a' 2 g) wk 0 j = if j = 1 then 0 else a 0 j := fun j => by
        unfold lgKeep
        rw [u2_off 0 (by decide), va_up_ne _ _ (by decide), va_up_ne _ _ (by decide), ho 0 (by omega), u2_at0]
        by_cases z : j = 1
        · rw [if_pos ⟨rfl, z⟩, if_pos z]
        · rw [if_neg (fun y => z y.2), if_neg z]
      have b2 : lgKeep (va_up a' 2 g) wk 2 5 = -1 := by
        unfold lgKeep
        rw [u2_off 2 (by decide), va_up_ne _ _ (by decide), va_up_self]
        exact hg.2.2.2.2
      have b47 : ∀ j, lgKeep (va_up a' 2 g) wk 47 j = if j = 2 then nI (wk + 1) else a 47 j := fun j => by
        unfold lgKeep
        rw [u2_at0, va_up_ne _ _ (by decide), va_up_ne _ _ (by decide), ho 47 (by omega), u2_off 47 (by decide)]
        by_cases z : j = 2
        · rw [if_pos ⟨rfl, z⟩, if_pos z]
        · rw [if_neg (fun y => z y.2), if_neg z]
      have b48 : ∀ j, lgKeep (va_up a' 2 g) wk 48 j = if wk * 42 ≤ j ∧ j < wk * 42 + 42 then a 44 (j - wk * 42) else a 48 j := fun j => by
        unfold lgKeep
        rw [u2_off 48 (by decide), va_up_self, va_up_ne _ _ (by decide), va_up_ne _ _ (by decide), ho 44 (by omega), ho 48 (by omega), u2_off 44 (by decide), u2_off 48 (by decide)]
      generalize lgKeep (va_up a' 2 g) wk = b at bq b0 b2 b47 b48
      have hsv := pWork_V n8 200 0 [] l (fun v hv => absurd hv List.not_mem_nil) hl (Nat.zero_le _)
      obtain ⟨l50, hwf⟩ := pWork_ok n150 hl
      have hTb : Tw b T nc ns ng := h.tw.fr (fun q hq => by
        have := twC.le iT hq
        exact bq q (by omega) (by omega) (by omega) (by omega) (by omega))
      have Hq : ∀ X : Xs (Nat → Int32), (∀ q, q ≠ 0 → q ≠ 39 → q ≠ 44 → q ≠ L + 2 → u2 (HW b L pl' X.1 h') 0 16 (nI X.2.2.2) q = b q) ∧ (u2 (HW b L pl' X.1 h') 0 16 (nI X.2.2.2) 44 = X.1) ∧ ∀ j, u2 (HW b L pl' X.1 h') 0 16 (nI X.2.2.2) 0 j = if j = 16 then nI X.2.2.2 else b 0 j := fun X => by
        refine ⟨fun q k1 k2 k3 k4 => by rw [u2_off q k1, HW_ne k2 k3 k4], by rw [u2_off 44 (by decide), HW_44 h.il], fun j => ?_⟩
        rw [u2_at0, HW_ne (by decide) (by decide) (by omega)]
        by_cases z : j = 16
        · rw [if_pos ⟨rfl, z⟩, if_pos z]
        · rw [if_neg (fun y => z y.2), if_neg z]
      have hX : ∀ H : IA, (∀ q, 60 ≤ q → H q = b q) → Rw ns (exX (stpB b T lw) l 50 0 l.length (b 44, 0, 0, 0)).1 (exX (mSb H ns lw) l 50 0 l.length (H 582, 0, 0, 0)).1 ∧ (exX (stpB b T lw) l 50 0 l.length (b 44, 0, 0, 0)).2 = (exX (mSb H ns lw) l 50 0 l.length (H 582, 0, 0, 0)).2 := fun H hH => by
        refine exX_rel (R := Rw ns) (fun v hv f g hfg => ?_) 50 0 l.length 6 _ _ hwf (Nat.le_refl _) (by omega) ?_ rfl
        · have e1 := stB_rel (lw := lw) hTb iT hsv v hv f g hfg
          have e2 : mSb H ns lw g v = mSb b ns lw g v := by
            unfold mSb
            rw [mStp_cg (h := H) (a := b) hTb.1 (fun c hc => hH c (by omega)) (hsv v hv)]
          rw [e2]
          exact e1
        · show Rw ns (b 44) (H 582)
          rw [hH 582 (by decide), bq 44 (by decide) (by decide) (by decide) (by decide) (by decide), bq 582 (by decide) (by decide) (by decide) (by decide) (by decide)]
          exact h.rw
      generalize exX (stpB b T lw) l 50 0 l.length (b 44, 0, 0, 0) = X at Hq hX ⊢
      obtain ⟨Hq, H44, H0⟩ := Hq X
      generalize u2 (HW b L pl' X.1 h') 0 16 (nI X.2.2.2) = H at Hq H44 H0
      have H60 : ∀ q, 60 ≤ q → H q = b q := fun q hq => Hq q (by omega) (by omega) (by omega) (by omega)
      have hX := hX H H60
      have Ha : ∀ q, 60 ≤ q → H q = a q := fun q hq => (H60 q hq).trans (bq q (by omega) (by omega) (by omega) (by omega) (by omega))
      have h60 : H 60 = a 60 := Ha 60 (by decide)
      have hm := h.mq.cg (a' := H) Ha
      refine Sp.up (by decide) (c_mWorkF (d := 0) (k := wk) h.out.rk (by rw [h60]; exact t2) t6 hm.1 hm.2.1 hm.2.2.1 hm.2.2.2.1 (by rw [h60]; exact g3) g2 hm.2.2.2.2.1 (fun z => absurd hx z) (fun _ z => by omega) (fun n' B' l1 l2 e _ hB' => ?_))
      obtain rfl : n = n' := (nI_eq (by omega) (by omega)).mp e
      have eB : ∀ i, i < n → a 61 i = B' i := fun i hi => by rw [← hB' i hi, Ha 61 (by decide)]
      have eP : pWork (fun i => a 61 i) n (nI ns) 200 [] 0 = pWork B' n (nI ns) 200 [] 0 := pWork_cg eB (nI ns) 200 [] 0
      rw [← eP]
      refine ⟨fun l' hl' c hc => ?_, fun k f hk' => by rw [hl] at hk'; cases hk'⟩
      rw [hl] at hl'
      cases hl'
      generalize exX (mSb H ns lw) l 50 0 l.length (H 582, 0, 0, 0) = X' at hX hc
      obtain ⟨x1, x2⟩ := hX
      obtain ⟨c1, c2, c3, c4, c5, c6, c7, c8, c9⟩ := hc
      have cq : ∀ q, q ≠ 60 → q ≠ 582 → q ≠ 499 → q ≠ 500 → mS q = false → q ≠ 584 + 1 + wk → q ≠ 0 → q ≠ 2 → q ≠ 44 → q ≠ 47 → q ≠ 48 → ¬ (39 ≤ q ∧ q ≤ 42) → q ≠ L + 2 → c q = a q := fun q k1 k2 k3 k4 k5 k6 k7 k8 k9 k10 k11 k12 k13 =>
        (c1 q k1 k2 k3 k4 k5 k6).trans ((Hq q k7 (by omega) k9 k13).trans (bq q k7 k8 k10 k11 k12))
      have cH : ∀ q, q ≠ 60 → q ≠ 582 → q ≠ 499 → q ≠ 500 → mS q = false → q ≠ 584 + 1 + wk → c q = H q := c1
      have c60 : ∀ j, j = 23 ∨ j = 38 ∨ j = 41 → c 60 j = a 60 j := fun j hj => by rw [c2 j (mJ_g (by omega)) (by omega) (by omega) (by omega) (by omega) (by omega), h60]
      have d0 : ∀ j, c 0 j = if j = 16 then nI X.2.2.2 else if j = 1 then 0 else a 0 j := fun j => by rw [cH 0 (by decide) (by decide) (by decide) (by decide) (mS_g (by omega)) (by omega), H0, b0]
      have d47 : c 47 = b 47 := (cH 47 (by decide) (by decide) (by decide) (by decide) (mS_g (by omega)) (by omega)).trans (Hq 47 (by decide) (by decide) (by decide) (by omega))
      have d48 : c 48 = b 48 := (cH 48 (by decide) (by decide) (by decide) (by decide) (mS_g (by omega)) (by omega)).trans (Hq 48 (by decide) (by decide) (by decide) (by omega))
      refine fin0 (h.led0 (c := c) (wk' := wk + 1) (im' := im) (fun q hq => ?_) ?_ c4 ?_ (fun j k1 k2 => ?_) (fun j hj => c60 j (by omega)) ?_ ?_ ⟨?_, by omega, c6, ?_, g5, ?_, fun w hw => ?_, fun i hi => ?_⟩) c3 (by rw [x2])
      · unfold twC at hq
        exact cq q (by omega) (by omega) (by omega) (by omega) (mS_g (by omega)) (by omega) (by omega) (by omega) (by omega) (by omega) (by omega) (by omega) (by omega)
      · rw [d0]; rfl
      · rw [cH 2 (by decide) (by decide) (by decide) (by decide) (mS_g (by omega)) (by omega), Hq 2 (by decide) (by decide) (by decide) (by omega), b2, c5]
      · rw [d0, if_neg (by omega), if_neg (by omega)]
      · rw [d0, if_pos rfl, c7, x2]
      · rw [cH 44 (by decide) (by decide) (by decide) (by decide) (mS_g (by omega)) (by omega), H44, c8]
        exact x1
      · rw [d47, b47, if_pos rfl]
      · rw [d47, b47, if_neg (by decide)]; exact g4
      · rw [c60 41 (by omega)]; exact g6
      · by_cases z : w = wk
        · subst z
          refine h.rw.lo n8 (fun j hj => ?_) (fun j hj => ?_)
          · show c 48 (w * 42 + j) = a 44 j
            rw [d48, b48, if_pos (by omega), show w * 42 + j - w * 42 = j by omega]
          · rw [c9 j hj, Ha 582 (by decide)]
        · refine (g7 w (by omega)).lo n8 (fun j hj => ?_) (fun j hj => ?_)
          · show c 48 (w * 42 + j) = a 48 (w * 42 + j)
            rw [d48, b48, if_neg (by omega)]
          · rw [cq (584 + 1 + w) (by omega) (by omega) (by omega) (by omega) (mS_g (by omega)) (by omega) (by omega) (by omega) (by omega) (by omega) (by omega) (by omega) (by omega)]
      · unfold ImI
        rw [cq 49 (by omega) (by omega) (by omega) (by omega) (mS_g (by omega)) (by omega) (by omega) (by omega) (by omega) (by omega) (by omega) (by omega) (by omega), cq (601 + 1 + i) (by omega) (by omega) (by omega) (by omega) (mS_g (by omega)) (by omega) (by omega) (by omega) (by omega) (by omega) (by omega) (by omega) (by omega)]
        exact g8 i hi
    · have aq : ∀ q, q ≠ 0 → q ≠ 2 → ¬ (39 ≤ q ∧ q ≤ 42) → va_up a' 2 g q = a q := fun q k1 k2 k3 => by
        rw [va_up_ne _ _ k2, ho q k3, u2_off q k1]
      have a0 : ∀ j, va_up a' 2 g 0 j = if j = 1 then 0 else a 0 j := fun j => by
        rw [va_up_ne _ _ (by decide), ho 0 (by omega), u2_at0]
        by_cases z : j = 1
        · rw [if_pos ⟨rfl, z⟩, if_pos z]
        · rw [if_neg (fun y => z y.2), if_neg z]
      have a2 : va_up a' 2 g 2 5 = nI q := by rw [va_up_self]; exact hg.2.2.2.2
      generalize va_up a' 2 g = A at aq a0 a2
      have a60 : A 60 = a 60 := aq 60 (by decide) (by decide) (by omega)
      have hm := h.mq.cg (a' := A) (fun q hq => aq q (by omega) (by omega) (by omega))
      refine Sp.up (by decide) (c_mWorkF (d := 0) (k := wk) h.out.rk (by rw [a60]; exact t2) t6 hm.1 hm.2.1 hm.2.2.1 hm.2.2.2.1 (by rw [a60]; exact g3) g2 hm.2.2.2.2.1 (fun z => absurd hx z) (fun _ z => by omega) (fun n' B' l1 l2 e _ hB' => ?_))
      obtain rfl : n = n' := (nI_eq (by omega) (by omega)).mp e
      have eB : ∀ i, i < n → a 61 i = B' i := fun i hi => by rw [← hB' i hi, aq 61 (by decide) (by decide) (by omega)]
      have eP : pWork (fun i => a 61 i) n (nI ns) 200 [] 0 = pWork B' n (nI ns) 200 [] 0 := pWork_cg eB (nI ns) 200 [] 0
      rw [← eP]
      refine ⟨fun l' hl' => (by rw [hc] at hl'; cases hl'), fun k' f' hk' b1 hkk => ?_⟩
      rw [hc] at hk'
      cases hk'
      obtain ⟨q1, q2, q3, q4⟩ := mK_fr hkk
      have fin := txt_bad (A := A) (a1 := b1) (f := nI q) h (fun p k1 k2 k3 _ _ _ => aq p k1 k2 k3) (fun j hj => by rw [a0, if_neg hj]) (by rw [a0, if_pos rfl]) a2 q1 q2 q3 (fun j hj => q4 j (by omega))
      exact fin0 fin.1 fin.2 rfl
  · have hx1 : ¬ opOK a x 150 := fun z => hx ((op_iff t1).mp z)
    refine V_L_work_0 (d := 39) ⟨rfl, by decide, Or.inr (Sp.up (by decide) (x_work0 (d := 0) hx1 (pI1 ⟨rfl, ?_⟩)))⟩
    have hm := h.mqb (j := 19)
    exact Sp.up (by decide) (c_mWorkF (d := 0) (k := wk) h.rk (by rw [bump_off (by decide)]; exact t2) t6 hm.1 hm.2.1 hm.2.2.1 hm.2.2.2.1 (by rw [bump_off (by decide)]; exact g3) g2 hm.2.2.2.2.1 (fun _ => fin_bad (i := 2) h (by decide) (by decide)) (fun z => absurd z hx) (fun n B l1 l2 e _ _ => absurd ⟨by rw [e]; exact ⟨nI_pos (by omega), i_nlt.mpr (nI_le l1 (by omega))⟩, by rw [e]; exact nI_le (b := 150) l2 (by decide)⟩ hx))
end WRK
