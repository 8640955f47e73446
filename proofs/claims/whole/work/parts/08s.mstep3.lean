/-! The reference: a step read -/
section MS3
variable {G : GE} {r : RA} {B : Nat → Int32} {n : Nat} {ns : Int32}
theorem sr_step (hr : Rk r) (hn : n ≤ 150) {t : Nat} (h1 : srL G r B n ns t) : srS G r B n ns (t + 1) := by
  intro o p a l P ho hT hns hl hlp h8 ht hq D hD
  obtain ⟨D, rfl⟩ : ∃ D', D = D' + 1 := ⟨D - 1, by omega⟩
  have hT0 := hT
  obtain ⟨hB, g2, g4, hpn, h5⟩ := hT
  have hle := skB_le (B := B) hpn
  have hwe := ltE_le (B := B) hle.2
  have hT1 := hT0.at hle.2
  have hres := pSt.eq_2 B n ns 0 o l.length p t
  rw [if_pos rfl] at hres
  change pSt B n ns (t + 1) 0 o l.length p = _ at hres
  rw [hres] at hq
  have hdom := wk_dom B (skB B n p) (ltE B n (skB B n p))
  have wide : ¬ wkKind B (skB B n p) (ltE B n (skB B n p)) = 0 → skB B n p + 4 ≤ ltE B n (skB B n p) := fun z => (wk_wide z hwe.1).1
  have wide7 : wkKind B (skB B n p) (ltE B n (skB B n p)) = 7 → skB B n p + 5 ≤ ltE B n (skB B n p) := fun z => (wk_wide (by rw [z]; decide) hwe.1).2 z
  have r31 : r 60 31 = .ref 501 := rf5 hr (by decide) rfl
  have r64 : r 60 12 = .ref 64 := rf5 hr (by decide) rfl
  have hl80 : l.length < 80 := by omega
  have ty := tyR_step l.length hl80
  have bd : 501 + 1 + l.length < nK := by show _ < 878; omega
  have v1 : vp_in 1 8 := vp_in_nI (show 1 < 8 by decide) (by decide)
  have w1 : vp_in 1 4 := vp_in_nI (show 1 < 4 by decide) (by decide)
  have w2 : vp_in 2 4 := vp_in_nI (show 2 < 4 by decide) (by decide)
  have w0 : vp_in 0 4 := vp_in_nI (show 0 < 4 by decide) (by decide)
  -- the common head of 33
  have head : ∀ (h : IA), MT h B n (skB B n p) → RSt h l → ∀ (kd : Int32) (a1 a5 a6 : IA), a1 = mAt h (ltE B n (skB B n p)) → a5 = u2 a1 60 32 (a1 60 32 + 1) → a6 = u2 a5 (501 + 1 + (a1 60 32).toNatClampNeg) (0 : Int32).toNatClampNeg kd →
      a6 = mSt (u2 (u2 h 60 32 (nI (l.length + 1))) (501 + 1 + l.length) 0 kd) 0 (.inl (ltE B n (skB B n p))) := by
    intro h hM hL kd a1 a5 a6 q1 q5 q6
    have e32 : a1 60 32 = nI l.length := by rw [q1]; unfold mAt; rw [u2_ne (by decide)]; exact hL.1
    rw [e32, nI_1] at q5
    rw [e32, nI_clamp (by omega), z0] at q6
    rw [q6, q5, q1]
    show _ = mAt _ _
    unfold mAt
    rw [u2_cross2 (show (4 : Nat) ≠ 32 by decide), u2_cross (show (60 : Nat) ≠ 501 + 1 + l.length by omega)]
  generalize hkd : wkKind B (skB B n p) (ltE B n (skB B n p)) = kd at *
  generalize hw : ltE B n (skB B n p) = w at *
  refine V_X12_readsStep_0 ⟨rfl, by decide, Sp.up (d := 4) (by omega) (c_mStepH (d := 0) (p := p) (B := B) (n := n) hr hT0 ?_)⟩
  rw [hw, hkd]
  have k1 : (kd - 1 = -1) ↔ kd = 0 := by rcases hdom with rfl | rfl | rfl | rfl | rfl | rfl | rfl | rfl <;> decide
  have k6 : (kd - 1 = 6) ↔ kd = 7 := by rcases hdom with rfl | rfl | rfl | rfl | rfl | rfl | rfl | rfl <;> decide
  refine ⟨fun hk => ⟨fun h6 => ?_, fun h6 => ⟨rfl, by decide, ?_⟩⟩, fun hk => ⟨rfl, by decide, rfl, by decide, c_mWrong ⟨fun h6 => ?_, fun h6 => absurd (h6.symm.trans hk) (by decide)⟩⟩⟩
  · -- a step that is no again
    rw [k1] at hk
    rw [k6] at h6
    rw [if_neg hk, if_neg h6] at hq
    refine V_X12_readsStep_33 ⟨rfl, by decide, fun _ => ⟨rfl, by decide, Sp.up (d := 1) (by omega) (c_mSkip (d := 0) (B := B) hr hT1 ?_)⟩, fun h => absurd hT1.2.2.2.2 h⟩
    rw [hw]
    have l1 : RSt (mAt a (skB B n p)) l := hl.w60 (by decide)
    have e32 : mAt (mAt a (skB B n p)) w 60 32 = nI l.length := by unfold mAt; rw [u2_ne (by decide), u2_ne (by decide)]; exact hl.1
    have hd := head (mAt a (skB B n p)) hT1 l1 (kd - 1)
    refine ⟨rfl, by decide, 501, r31, rfl, by decide, rfl, by decide, by rw [e32]; exact vp_in_nI (show l.length < 80 by omega) (by decide), rfl, by decide, rfl, by decide, fun a5 q5 => ?_⟩
    have ei : (mAt (mAt a (skB B n p)) w 60 32).toNatClampNeg = l.length := by rw [e32, nI_clamp (by omega)]
    have hd := fun a6 => hd _ a5 a6 rfl q5
    rw [ei] at hd ⊢
    refine row3 ty bd w0 (fun a6 q6 => ?_)
    have q6 := hd a6 q6
    subst q6
    -- the heap without the text's place
    generalize hb : u2 (u2 (mAt a (skB B n p)) 60 32 (nI (l.length + 1))) (501 + 1 + l.length) 0 (kd - 1) = b
    have b0 : b (501 + 1 + l.length) 0 = kd - 1 := by rw [← hb, u2_eq]
    have b60 : ∀ j, j ≠ 4 → j ≠ 32 → b 60 j = a 60 j := fun j h4 h32 => by rw [← hb, u2_off 60 (by omega), u2_ne h32]; unfold mAt; rw [u2_ne h4]
    have b32 : b 60 32 = nI (l.length + 1) := by rw [← hb, u2_off 60 (by omega), u2_eq]
    have brow : ∀ i, i < l.length → b (501 + 1 + i) = a (501 + 1 + i) := fun i hi => by rw [← hb, u2_off _ (by omega), u2_off _ (by omega)]; unfold mAt; rw [u2_off _ (by omega)]
    have kb : mK a b := by rw [← hb]; exact mK_tr (mK_6 (j := 4) rfl) (mK_tr (mK_6 rfl) (mK_w (mS_r (by omega)) (by omega)))
    have b64 : b 64 1 = ns := by rw [kb.1 64 (by decide) rfl]; exact hns
    have hS : MS (mSt b 0 (.inl w)) B n (.inl w) := by
      have e61 : b 61 = a 61 := kb.1 61 (by decide) rfl
      have : MT b B n (skB B n p) := ⟨hB.row e61, (b60 2 (by decide) (by decide)).trans g2, by rw [← hb, u2_off 60 (by omega), u2_ne (by decide)]; exact hT1.2.2.1, hle.2, (b60 5 (by decide) (by decide)).trans h5⟩
      exact (this.at hwe.2).ms
    clear hb hd q5
    have stp : ∀ {f : Nat → Pv}, stay (.inl w : Po) (po (sB (.inl w : Po) f)) := fun z h => by cases h
    -- the end, for the three forms
    have fin : ∀ {D' : Nat} (b' : IA) (op : Po) (x u1 u2' : Int32), 2 ≤ D' → mK a b' → (∀ j, j ≠ 4 → j ≠ 32 → b' 60 j = a 60 j) → (∀ i, i < l.length → b' (501 + 1 + i) = a (501 + 1 + i)) → b' 60 32 = nI (l.length + 1) → MS (mSt b' x op) B n op →
        op = sB (sB (pFirst B n kd ns w) fun x => sB (pSecond B n kd ns x.2) fun y => .inl ((kd, x.1, y.1), y.2)) (fun y => .inl y.2) → (∀ v' e, (sB (pFirst B n kd ns w) fun x => sB (pSecond B n kd ns x.2) fun y => (.inl ((kd, x.1, y.1), y.2) : (St × Nat) ⊕ (Int32 × Nat))) = .inl (v', e) → v' = (kd, u1, u2')) →
        (∀ v' e, (sB (pFirst B n kd ns w) fun x => sB (pSecond B n kd ns x.2) fun y => (.inl ((kd, x.1, y.1), y.2) : (St × Nat) ⊕ (Int32 × Nat))) = .inl (v', e) → p ≤ e) →
        (∀ p, op = .inl p → b' (501 + 1 + l.length) 0 = kd - 1 ∧ (¬ kd = 6 → b' (501 + 1 + l.length) 1 = u1) ∧ ((kd = 1 ∨ kd = 3) → b' (501 + 1 + l.length) 2 = u2')) →
        tyK 60 = (0, 11) ∧ 60 < nK ∧ (tyK (501 + 1 + l.length)).1 = 1 ∧ 501 + 1 + l.length < nK ∧ vp_in 3 (tyK (501 + 1 + l.length)).2 ∧ ∀ a1, a1 = u2 (mSt b' x op) (501 + 1 + l.length) (3 : Int32).toNatClampNeg (mSt b' x op 60 32) → tyK 60 = (0, 11) ∧ 60 < nK ∧ Sp G D' 0 0 MX12_sign [.ref 60, .int 59] (a1, r, nK) (RN P) := by
      intro D' b' op x u1 u2' hD' c1 c2 c3 c4 c5 c6 c7 c8 c9
      refine sr_fin (a := a) (o := o) (p := p) (v := (kd, u1, u2')) (z := sB (pFirst B n kd ns w) fun x => sB (pSecond B n kd ns x.2) fun y => .inl ((kd, x.1, y.1), y.2)) hr hl80 hD' hl h8 c1 c2 c3 c4 c5 c6 c7 c8 h6 c9 ?_ hq
      rw [sB_assoc]
      congr 1
      funext x
      rw [sB_assoc]
      rfl
    have e5 : (5 ≤ kd - 1) ↔ kd = 6 := by rcases hdom with rfl | rfl | rfl | rfl | rfl | rfl | rfl | rfl <;> first | exact absurd rfl hk | exact absurd rfl h6 | decide
    have e0 : (kd - 1 = 0) ↔ kd = 1 := by rcases hdom with rfl | rfl | rfl | rfl | rfl | rfl | rfl | rfl <;> decide
    have e2 : (kd - 1 = 2) ↔ kd = 3 := by rcases hdom with rfl | rfl | rfl | rfl | rfl | rfl | rfl | rfl <;> decide
    have n6 : ¬ kd - 1 = 6 := fun h => h6 (k6.mp h)
    have wp : p ≤ w := by have := wide hk; omega
    refine ⟨fun h => ⟨fun h0 => ?_, fun h0 => absurd (e0.mp h0) (by rw [e5.mp h]; decide)⟩, fun h => ⟨rfl, by decide, 64, r64, rfl, by decide, v1, rfl, by decide, ?_⟩⟩
    · -- year
      have k6' := e5.mp h
      refine V_X12_readsStep_110 ⟨fun _ => ⟨fun _ => fin b (.inl w) 0 0 0 (by omega) kb b60 brow b32 hS ?_ ?_ ?_ (fun p _ => ⟨b0, fun h => absurd k6' h, fun h => by rw [k6'] at h; exact absurd h (by decide)⟩), fun h => absurd h n6⟩, fun h => absurd (e2.mp h) (by rw [k6']; decide)⟩
      · rw [k6']; rfl
      · intro v' e hv; rw [k6'] at hv ⊢; cases hv; rfl
      · intro v' e hv; rw [k6'] at hv; cases hv; exact wp
    · have hk6 : ¬ kd = 6 := fun z => h (e5.mpr z)
      have pf : pFirst B n kd ns w = pNum B n 0 (ns - 1) w := by unfold pFirst; rw [if_neg hk6]
      have e64 : mSt b 0 (.inl w) 64 1 = ns := by rw [mSt_off (by decide)]; exact b64
      rw [z1, e64]
      refine Sp.up (d := 2) (by omega) (u_num (d := 0) hr hS (fun u1 x1 hv1 hS1 => row3 ty bd w1 (fun a18 h18 => ?_)))
      rw [mSt_mSt stp] at h18 hS1
      have hS1' := hS1.w (q := 501 + 1 + l.length) (j := 1) (v := u1) (by omega) (by omega)
      rw [mSt_u2 (by omega)] at h18 hS1'
      subst h18
      obtain ⟨o1, ho1⟩ : ∃ o1, o1 = po (sB (.inl w : Po) (pNum B n 0 (ns - 1))) := ⟨_, rfl⟩
      rw [← ho1] at hS1' ⊢
      have ho1' : o1 = po (pNum B n 0 (ns - 1) w) := ho1
      have hv1 : ∀ v e, pNum B n 0 (ns - 1) w = .inl (v, e) → u1 = v := hv1
      have c1 : mK a (u2 b (501 + 1 + l.length) 1 u1) := mK_tr kb (mK_w (mS_r (by omega)) (by omega))
      have c2 : ∀ j, j ≠ 4 → j ≠ 32 → u2 b (501 + 1 + l.length) 1 u1 60 j = a 60 j := fun j h4 h32 => by rw [u2_off 60 (by omega)]; exact b60 j h4 h32
      have c3 : ∀ i, i < l.length → u2 b (501 + 1 + l.length) 1 u1 (501 + 1 + i) = a (501 + 1 + i) := fun i hi => by rw [u2_off _ (by omega)]; exact brow i hi
      have c4 : u2 b (501 + 1 + l.length) 1 u1 60 32 = nI (l.length + 1) := by rw [u2_off 60 (by omega)]; exact b32
      have c5 : u2 b (501 + 1 + l.length) 1 u1 (501 + 1 + l.length) 0 = kd - 1 := by rw [u2_ne (by decide)]; exact b0
      have c6 : u2 b (501 + 1 + l.length) 1 u1 (501 + 1 + l.length) 1 = u1 := u2_eq
      -- the end of a step with two numbers
      have two : ∀ (lo hi : Int32), pSecond B n kd ns = pNum B n lo hi → ∀ {D' : Nat} (u2' x2 : Int32), 2 ≤ D' → MS (mSt (u2 (u2 b (501 + 1 + l.length) 1 u1) (501 + 1 + l.length) 2 u2') x2 (po (sB o1 (pNum B n lo hi)))) B n (po (sB o1 (pNum B n lo hi))) → (∀ v e, sB o1 (pNum B n lo hi) = .inl (v, e) → u2' = v) →
          tyK 60 = (0, 11) ∧ 60 < nK ∧ (tyK (501 + 1 + l.length)).1 = 1 ∧ 501 + 1 + l.length < nK ∧ vp_in 3 (tyK (501 + 1 + l.length)).2 ∧ ∀ a1, a1 = u2 (mSt (u2 (u2 b (501 + 1 + l.length) 1 u1) (501 + 1 + l.length) 2 u2') x2 (po (sB o1 (pNum B n lo hi)))) (501 + 1 + l.length) (3 : Int32).toNatClampNeg (mSt (u2 (u2 b (501 + 1 + l.length) 1 u1) (501 + 1 + l.length) 2 u2') x2 (po (sB o1 (pNum B n lo hi))) 60 32) → tyK 60 = (0, 11) ∧ 60 < nK ∧ Sp G D' 0 0 MX12_sign [.ref 60, .int 59] (a1, r, nK) (RN P) := by
        intro lo hi hps D' u2' x2 hD' hS2 hv2
        refine fin _ _ x2 u1 u2' hD' (mK_tr c1 (mK_w (mS_r (by omega)) (by omega))) (fun j h4 h32 => by rw [u2_off 60 (by omega)]; exact c2 j h4 h32) (fun i hi => by rw [u2_off _ (by omega)]; exact c3 i hi) (by rw [u2_off 60 (by omega)]; exact c4) hS2 ?_ ?_ ?_ (fun p _ => ⟨by rw [u2_ne (by decide)]; exact c5, fun _ => by rw [u2_ne (by decide)]; exact c6, fun _ => u2_eq⟩)
        · rw [pf, hps, ho1']
          cases q1 : pNum B n 0 (ns - 1) w with
          | inr y => rfl
          | inl y =>
            show po (pNum B n lo hi y.2) = sB (sB (pNum B n lo hi y.2) fun y_1 => .inl ((kd, y.1, y_1.1), y_1.2)) fun y => .inl y.2
            cases pNum B n lo hi y.2 <;> rfl
        · intro v' e hv
          rw [pf, hps] at hv
          obtain ⟨y, q1, hv⟩ := sB_inv hv
          obtain ⟨z, q2, hv⟩ := sB_inv hv
          cases hv
          have e1 := hv1 y.1 y.2 q1
          have e2 := hv2 z.1 z.2 (by rw [ho1', q1]; exact q2)
          rw [e1, e2]
        · intro v' e hv
          rw [pf, hps] at hv
          obtain ⟨y, q1, hv⟩ := sB_inv hv
          obtain ⟨z, q2, hv⟩ := sB_inv hv
          cases hv
          have i1 := pNum_e hwe.2 q1
          have i2 := pNum_e i1.2.1 q2
          omega
      refine ⟨fun h0 => ?_, fun h0 => ⟨rfl, by decide, 64, r64, rfl, by decide, v1, rfl, by decide, ?_⟩⟩
      · have hk1 : ¬ kd = 1 := fun z => h0 (e0.mpr z)
        refine V_X12_readsStep_110 ⟨fun h2 => ⟨fun _ => ?_, fun h => absurd h n6⟩, fun h2 => ⟨rfl, by decide, ?_⟩⟩
        · have hk3 : ¬ kd = 3 := fun z => h2 (e2.mpr z)
          have ps : ∀ q, pSecond B n kd ns q = .inl (0, q) := fun q => by unfold pSecond; rw [if_neg hk1, if_neg hk3]
          refine fin _ _ x1 u1 0 (by omega) c1 c2 c3 c4 hS1' ?_ ?_ ?_ (fun p _ => ⟨c5, fun _ => c6, fun h => absurd h (by rintro (h | h); exact hk1 h; exact hk3 h)⟩)
          · rw [pf, ho1']
            cases q1 : pNum B n 0 (ns - 1) w with
            | inr y => rfl
            | inl y => rw [sB_inl, ps]; rfl
          · intro v' e hv
            rw [pf] at hv
            obtain ⟨y, q1, hv⟩ := sB_inv hv
            rw [ps] at hv
            cases hv
            rw [hv1 y.1 y.2 q1]
          · intro v' e hv
            rw [pf] at hv
            obtain ⟨y, q1, hv⟩ := sB_inv hv
            rw [ps] at hv
            cases hv
            have i1 := pNum_e hwe.2 q1
            omega
        · have k3 := e2.mp h2
          have hps : pSecond B n kd ns = pNum B n 1 9 := by funext q; unfold pSecond; rw [k3]; rfl
          refine Sp.up (d := 2) (by omega) (u_num (d := 0) hr hS1' (fun u2' x2 hv2 hS2 => row3 ty bd w2 (fun a24 h24 => ?_)))
          rw [mSt_mSt stay_sB] at h24 hS2
          have hS2' := hS2.w (q := 501 + 1 + l.length) (j := 2) (v := u2') (by omega) (by omega)
          rw [z2] at h24
          rw [mSt_u2 (by omega)] at h24 hS2'
          subst h24
          exact ⟨fun _ => two 1 9 hps u2' x2 (by omega) hS2' hv2, fun h => absurd h n6⟩
      · have hk1 := e0.mp h0
        have hps : pSecond B n kd ns = pNum B n 0 (ns - 1) := by funext q; unfold pSecond; rw [hk1]; rfl
        have e64' : mSt (u2 b (501 + 1 + l.length) 1 u1) x1 o1 64 1 = ns := by rw [mSt_off (by decide), u2_off 64 (by omega)]; exact b64
        rw [e64']
        refine Sp.up (d := 2) (by omega) (u_num (d := 0) hr hS1' (fun u2' x2 hv2 hS2 => row3 ty bd w2 (fun a24 h24 => ?_)))
        rw [mSt_mSt stay_sB] at h24 hS2
        have hS2' := hS2.w (q := 501 + 1 + l.length) (j := 2) (v := u2') (by omega) (by omega)
        rw [z2] at h24
        rw [mSt_u2 (by omega)] at h24 hS2'
        subst h24
        exact V_X12_readsStep_110 ⟨fun _ => ⟨fun _ => two 0 (ns - 1) hps u2' x2 (by omega) hS2' hv2, fun h => absurd h n6⟩, fun h => absurd (e2.mp h) (by rw [hk1]; decide)⟩
  · -- an again
    rw [k6] at h6
    subst h6
    rw [if_neg (by decide), if_pos rfl] at hq
    have h81 : mAt a (skB B n p) 60 8 = nI o := by unfold mAt; rw [u2_ne (by decide)]; exact h8
    refine Sp.up (d := 1) (by omega) (c_mOpens (d := 0) hT1.2.2.2.2 hT1.2.2.1 h81 ho (fun h6 => ⟨fun _ => ?_, fun h => absurd h (by decide)⟩) (fun h6 => ⟨fun h => absurd rfl h, fun _ => ?_⟩))
    · rw [if_neg (by omega)] at hq
      have kA : mK a (u2 (mAt a (skB B n p)) 60 8 (nI (o + 1))) := mK_tr (mK_6 rfl) (mK_6 rfl)
      have hA : MT (u2 (mAt a (skB B n p)) 60 8 (nI (o + 1))) B n (skB B n p) := hT1.row (u2_off 61 (by decide)) (u2_ne (by decide)) (u2_ne (by decide)) (u2_ne (by decide))
      have lA : RSt (u2 (mAt a (skB B n p)) 60 8 (nI (o + 1))) l := (hl.w60 (j := 4) (by decide)).w60 (by decide)
      have oA : u2 (mAt a (skB B n p)) 60 8 (nI (o + 1)) 60 8 = nI (o + 1) := u2_eq
      have hAr : ∀ i, u2 (mAt a (skB B n p)) 60 8 (nI (o + 1)) (501 + 1 + i) = a (501 + 1 + i) := fun i => by unfold mAt; rw [u2_off _ (by omega), u2_off _ (by omega)]
      generalize u2 (mAt a (skB B n p)) 60 8 (nI (o + 1)) = A at *
      have e32 : mAt A w 60 32 = nI l.length := by unfold mAt; rw [u2_ne (by decide)]; exact lA.1
      have hd := head A hA lA 6
      refine V_X12_readsStep_33 ⟨rfl, by decide, fun _ => ⟨rfl, by decide, Sp.up (d := 1) (by omega) (c_mSkip (d := 0) (B := B) hr hA ?_)⟩, fun h => absurd hA.2.2.2.2 h⟩
      rw [hw]
      refine ⟨rfl, by decide, 501, r31, rfl, by decide, rfl, by decide, by rw [e32]; exact vp_in_nI (show l.length < 80 by omega) (by decide), rfl, by decide, rfl, by decide, fun a5 q5 => ?_⟩
      have ei : (mAt A w 60 32).toNatClampNeg = l.length := by rw [e32, nI_clamp (by omega)]
      have hd := fun a6 => hd _ a5 a6 rfl q5
      rw [ei] at hd ⊢
      refine row3 ty bd w0 (fun a6 q6 => ?_)
      have q6 := hd a6 q6
      clear hd q5
      subst q6
      generalize hb : u2 (u2 A 60 32 (nI (l.length + 1))) (501 + 1 + l.length) 0 6 = b
      have b0 : b (501 + 1 + l.length) 0 = 6 := by rw [← hb, u2_eq]
      have kb : mK a b := by rw [← hb]; exact mK_tr kA (mK_tr (mK_6 rfl) (mK_w (mS_r (by omega)) (by omega)))
      have bS : MT (mSt b 0 (.inl w)) B n w := by
        have e60 : ∀ j, j ≠ 32 → b 60 j = A 60 j := fun j h => by rw [← hb, u2_off 60 (by omega), u2_ne h]
        have : MT b B n (skB B n p) := hA.row (by rw [← hb, u2_off 61 (by omega), u2_off 61 (by decide)]) (e60 2 (by decide)) (e60 4 (by decide)) (e60 5 (by decide))
        exact this.at hwe.2
      have b32 : b 60 32 = nI (l.length + 1) := by rw [← hb, u2_off 60 (by omega), u2_eq]
      have b8 : b 60 8 = nI (o + 1) := by rw [← hb, u2_off 60 (by omega), u2_ne (by decide)]; exact oA
      have brow : ∀ i, i < l.length → b (501 + 1 + i) = a (501 + 1 + i) := fun i hi => by
        rw [← hb, u2_off _ (by omega), u2_off _ (by omega)]
        exact hAr i
      clear hb
      refine ⟨fun _ => ⟨fun _ => ?_, fun h => absurd h (by decide)⟩, fun h => absurd (by decide) h⟩
      refine V_X12_readsStep_110 ⟨fun _ => ⟨fun h => absurd rfl h, fun _ => ⟨rfl, by decide, ?_⟩⟩, fun h => absurd h (by decide)⟩
      have wp := wide7 rfl
      -- a fault from here on
      have flt : ∀ (k : Int32) (f : Nat) (h : IA), mK a h → MS h B n (.inr (k, f)) → (sB (pNum B n 0 20 w) fun x => sB (pSign B n 91 x.2) fun e => sB (pSt B n ns t 1 (o + 1) (l.length + 1) e) fun y => sB (pSign B n 93 y.2) fun e2 => sB (pSign B n 59 e2) fun e3 => (.inl ((7, x.1, nI (l.length + 1 + y.1.length)) :: y.1, e3) : (List St × Nat) ⊕ (Int32 × Nat))) = .inr (k, f) →
          tyK 60 = (0, 11) ∧ 60 < nK ∧ Sp G D 0 0 MX12_blanks [.ref 60] (h, r, nK) (RN fun a13 r14 n15 => E G MX12_readsStep (D + 1) 0 0 151 [.ref 60, .null, .ref (501 + 1 + l.length)] [] (a13, r14, n15) (RN P)) := by
        intro k f h kh ms hh
        obtain ⟨q, hqn, e4⟩ := (ms.2.2.2 k f rfl).2.2.2
        refine ⟨rfl, by decide, Sp.up (d := 1) (by omega) (c_mBlanks (d := 0) hr ms.1 ms.2.1 e4 hqn ?_)⟩
        obtain ⟨D, rfl⟩ : ∃ D', D = D' + 1 := ⟨D - 1, by omega⟩
        exact sr_flt hr hl80 (by omega) (mK_tr kh (mK_6 rfl)) (ms.bl hqn) hq hh
      refine Sp.up (d := 2) (by omega) (c_mNumT (d := 0) hr bS (fun v e q1 p1 b1 => row3 ty bd w1 (fun a9 q9 => ⟨rfl, by decide, ?_⟩)) (fun k f q1 v a' ka ms => row3 ty bd w1 (fun a9 q9 => ⟨rfl, by decide, Sp.up (d := 2) (by omega) (s_mSign (d := 0) ?_ (flt k f a9 ?_ ?_ (by rw [q1]; rfl)))⟩)))
      · rw [z1] at q9
        have t9 : MT a9 B n e := by rw [q9]; exact ((bS.at b1).ms.w (by omega) (by omega)).mt
        have k9 : mK a a9 := by rw [q9]; exact mK_tr kb (mK_tr (mK_6 (j := 4) rfl) (mK_tr (mK_6 (j := 4) rfl) (mK_w (mS_r (by omega)) (by omega))))
        have l9 : RSt a9 (l ++ [(7, v, 0)]) := by
          refine RSt.app hl ?_ (fun i hi => ?_) ?_
          · rw [q9, u2_off 60 (by omega)]
            show u2 (u2 b 60 4 _) 60 4 _ 60 32 = _
            rw [u2_ne (by decide), u2_ne (by decide)]; exact b32
          · rw [q9, u2_off _ (by omega)]
            show u2 (u2 b 60 4 _) 60 4 _ _ = _
            rw [u2_off _ (by omega), u2_off _ (by omega)]; exact brow i hi
          · have e0 : a9 (501 + 1 + l.length) 0 = 6 := by
              rw [q9, u2_ne (by decide)]
              show u2 (u2 b 60 4 _) 60 4 _ _ 0 = _
              rw [u2_off _ (by omega), u2_off _ (by omega)]; exact b0
            have e1 : a9 (501 + 1 + l.length) 1 = v := by rw [q9, u2_eq]
            exact ⟨e0.trans (by show (6 : Int32) = 7 - 1; decide), fun _ => e1, fun h => absurd h (by show ¬ ((7 : Int32) = 1 ∨ (7 : Int32) = 3); decide), fun h => absurd rfl h, fun _ h => absurd rfl h⟩
        have o9 : a9 60 8 = nI (o + 1) := by
          rw [q9, u2_off 60 (by omega)]
          show u2 (u2 b 60 4 _) 60 4 _ 60 8 = _
          rw [u2_ne (by decide), u2_ne (by decide)]; exact b8
        refine Sp.up (d := 2) (by omega) (c_mSignT (d := 0) (by decide) hr t9 (fun e2 q2 p2 b2 => ⟨rfl, by decide, ?_⟩) (fun k f q2 a' ka ms => flt k f a' (mK_tr k9 ka) ms (by rw [sB_l q1, sB_r q2])))
        have tA := t9.at b2
        have l3 := skB_le (B := B) b2
        refine Sp.up (d := 1) (by omega) (c_mBlanks (d := 0) hr tA.1 tA.2.1 tA.2.2.1 tA.2.2.2.1 ?_)
        have hns9 : a9 64 1 = ns := by rw [k9.1 64 (by decide) rfl]; exact hns
        refine h1 o (skB B n e2) p a _ l [] v P (by omega) (mK_tr k9 (mK_tr (mK_6 (j := 4) rfl) (mK_6 (j := 4) rfl))) (tA.at l3.2) (skB_skB b2) (by omega) (by rw [u2_off 64 (by decide), u2_off 64 (by decide)]; exact hns9) ((l9.w60 (j := 4) (by decide)).w60 (by decide)) (by simp only [List.length_append, List.length_cons, List.length_nil]; omega) (by rw [u2_ne (by decide), u2_ne (by decide)]; exact o9) (by omega) ?_ (D + 1) (by omega)
        have eS : pSt B n ns t 1 (o + 1) (l.length + 1 + ([] : List St).length) (skB B n e2) = pSt B n ns t 1 (o + 1) (l.length + 1) e2 := by
          cases t with
          | zero => rfl
          | succ t => rw [pSt.eq_2 B n ns 1 _ _ _ t, pSt.eq_2 B n ns 1 _ _ _ t, if_neg (show ¬ (1 : Nat) = 0 by decide), if_neg (show ¬ (1 : Nat) = 0 by decide), skB_skB b2]; rfl
        unfold sgRes
        rw [eS]
        rw [sB_l q1, sB_l q2] at hq
        exact hq
      · rw [q9]; rw [u2_off 60 (by omega)]; exact ms.n5
      · rw [q9]; exact mK_tr kb (mK_tr (mK_6 (j := 4) rfl) (mK_tr ka (mK_w (mS_r (by omega)) (by omega))))
      · rw [q9]; exact ms.w (by omega) (by omega)
    · rw [if_pos h6] at hq
      exact hq.2 3 (skB B n p) rfl _ (mK_tr (mK_6 (j := 4) rfl) (mK_tr (mK_6 rfl) (mK_6 rfl))) (hT0.fa hle.2 (by decide))
  · rw [k1] at hk
    subst hk
    rw [if_pos rfl] at hq
    have e5 : mAt a (skB B n p) 60 5 = 0 := hT1.2.2.2.2
    have e4 : mAt a (skB B n p) 60 4 = nI (skB B n p) := hT1.2.2.1
    rw [mWr_0 e5, e4]
    refine V_X12_readsStep_33 ⟨rfl, by decide, fun h => absurd ?_ (show ¬ (1 : Int32) = 0 by decide), fun _ => ?_⟩
    · rw [u2_ne (by decide), u2_eq] at h; exact h
    · exact hq.2 1 (skB B n p) rfl _ mFa_K (hT0.fa hle.2 (by decide))
theorem sr_all (hr : Rk r) (hn : n ≤ 150) : ∀ t, srS G r B n ns t ∧ srL G r B n ns t
  | 0 => ⟨fun o p a l P ho hT h1 h2 h3 h4 ht => by omega, fun o p p0 a0 a l y0 times P h1 h2 h3 h4 h5 h6 h7 h8 h9 ht => by omega⟩
  | t + 1 => by
    obtain ⟨i0, i1⟩ := sr_all hr hn t
    exact ⟨sr_step hr hn i1, sr_loop hr hn i0 i1⟩
end MS3
