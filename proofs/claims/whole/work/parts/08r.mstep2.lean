/-! The reference: a step, an again -/
section MS2
variable {G : GE} {r : RA} {B : Nat → Int32} {n : Nat} {ns : Int32}
def srS (G : GE) (r : RA) (B : Nat → Int32) (n : Nat) (ns : Int32) (t : Nat) : Prop :=
  ∀ (o p : Nat) (a : IA) (l : List St) (P : KN), o ≤ 6 → MT a B n p → a 64 1 = ns → RSt a l → 5 * l.length ≤ p → a 60 8 = nI o → 2 * (n - p) + 1 ≤ t → srQ B n r a l p o (pSt B n ns t 0 o l.length p) P → ∀ D, 6 - o + 7 ≤ D → Sp G D 0 0 MX12_readsStep [.ref 60] (a, r, nK) (RN P)
def sgRes (B : Nat → Int32) (n : Nat) (ns : Int32) (t o b p : Nat) (times : Int32) (y0 : List St) : (List St × Nat) ⊕ (Int32 × Nat) :=
  sB (pSt B n ns t 1 (o + 1) b p) fun y => sB (pSign B n 93 y.2) fun e2 => sB (pSign B n 59 e2) fun e3 => .inl ((7, times, nI (b + y.1.length)) :: (y0 ++ y.1), e3)
def srL (G : GE) (r : RA) (B : Nat → Int32) (n : Nat) (ns : Int32) (t : Nat) : Prop :=
  ∀ (o p p0 : Nat) (a0 a : IA) (l y0 : List St) (times : Int32) (P : KN), o < 6 → mK a0 a → MT a B n p → skB B n p = p → p0 ≤ p → a 64 1 = ns → RSt a (l ++ (7, times, 0) :: y0) → 5 * (l ++ (7, times, 0) :: y0).length ≤ p → a 60 8 = nI (o + 1) → 2 * (n - p) + 2 ≤ t →
    srQ B n r a0 l p0 o (sgRes B n ns t o (l.length + 1 + y0.length) p times y0) P → ∀ D, 6 - o + 7 ≤ D → E G MX12_readsStep D 0 0 151 [.ref 60, .null, .ref (501 + 1 + l.length)] [] (a, r, nK) (RN P)
theorem sr_end {o p p0 : Nat} {a0 a : IA} {l y0 : List St} {times : Int32} {P : KN} {D : Nat} {res : (List St × Nat) ⊕ (Int32 × Nat)} (hr : Rk r) (hn : n ≤ 150) (hD : 2 ≤ D) (hk : mK a0 a) (hT : MT a B n p) (hp0 : p0 ≤ p) (hl : RSt a (l ++ (7, times, 0) :: y0)) (hlp : 5 * (l ++ (7, times, 0) :: y0).length ≤ p) (h8 : a 60 8 = nI (o + 1))
    (hq : srQ B n r a0 l p0 o res P) (hres : res = sB (pSign B n 93 p) fun e2 => sB (pSign B n 59 e2) fun e3 => .inl ((7, times, nI (l.length + 1 + y0.length)) :: y0, e3)) :
    tyK 60 = (0, 11) ∧ 60 < nK ∧ Sp G D 0 0 MX12_sign [.ref 60, .int 93] (a, r, nK) (RN fun a13 r14 n15 => tyK 60 = (0, 11) ∧ 60 < n15 ∧ tyK 60 = (0, 11) ∧ 60 < n15 ∧ ∀ a16, a16 = u2 a13 60 8 (a13 60 8 - 1) → tyK 60 = (0, 11) ∧ 60 < n15 ∧ (tyK (501 + 1 + l.length)).1 = 1 ∧ 501 + 1 + l.length < n15 ∧ vp_in 3 (tyK (501 + 1 + l.length)).2 ∧ ∀ a17, a17 = u2 a16 (501 + 1 + l.length) (3 : Int32).toNatClampNeg (a16 60 32) → tyK 60 = (0, 11) ∧ 60 < n15 ∧ Sp G D 0 0 MX12_sign [.ref 60, .int 59] (a17, r14, n15) (RN P)) := by
  have hpn := hT.2.2.2.1
  simp only [List.length_append, List.length_cons] at hlp
  have ty := tyR_step l.length (by omega)
  refine ⟨rfl, by decide, Sp.up (d := 2) (by omega) (c_mSignT (d := 0) (by decide) hr hT (fun e q1 p1 b1 => ⟨rfl, by decide, rfl, by decide, fun a16 g16 => ⟨rfl, by decide, row3 ty (by show _ < 878; omega) (vp_in_nI (show 3 < 4 by decide) (by decide)) (fun a17 g17 => ⟨rfl, by decide, ?_⟩)⟩⟩) (fun k f q1 a' ka ms => ⟨rfl, by decide, rfl, by decide, fun a16 g16 => ⟨rfl, by decide, row3 ty (by show _ < 878; omega) (vp_in_nI (show 3 < 4 by decide) (by decide)) (fun a17 g17 => ⟨rfl, by decide, ?_⟩)⟩⟩))⟩
  · have e8 : mAt a e 60 8 = nI (o + 1) := by unfold mAt; rw [u2_ne (by decide)]; exact h8
    rw [e8, nI_pred] at g16
    have e32 : a16 60 32 = nI (l.length + 1 + y0.length) := by
      rw [g16, u2_ne (by decide)]
      unfold mAt
      rw [u2_ne (by decide), hl.1]
      simp only [List.length_append, List.length_cons]
      congr 1
      omega
    rw [e32, z3] at g17
    have tA : MT (mAt a e) B n e := hT.at b1
    have t16 : MT a16 B n e := by rw [g16]; exact tA.row (u2_off 61 (by decide)) (u2_ne (by decide)) (u2_ne (by decide)) (u2_ne (by decide))
    have t17 : MT a17 B n e := by
      have e60 : a17 60 = a16 60 := by rw [g17, u2_off 60 (by omega)]
      exact t16.row (by rw [g17, u2_off 61 (by omega)]) (by rw [e60]) (by rw [e60]) (by rw [e60])
    have k16 : mK a0 a16 := by rw [g16]; exact mK_tr hk (mK_tr (mK_6 rfl) (mK_6 rfl))
    have k17 : mK a0 a17 := by rw [g17]; exact mK_tr k16 (mK_w (mS_r (by omega)) (by omega))
    have l16 : RSt a16 (l ++ (7, times, 0) :: y0) := by rw [g16]; exact (hl.w60 (j := 4) (by decide)).w60 (by decide)
    have l17 : RSt a17 (l ++ (7, times, nI (l.length + 1 + y0.length)) :: y0) := by rw [g17]; exact l16.patch
    have o17 : a17 60 8 = nI o := by rw [g17, u2_off 60 (by omega), g16, u2_eq]
    refine Sp.up (d := 2) (by omega) (c_mSignT (d := 0) (by decide) hr t17 (fun e3 q3 p3 b3 => ?_) (fun k f q3 a' ka ms => ?_))
    · exact hq.1 _ e3 (by rw [hres, sB_l q1, sB_l q3]) (by omega) _ (mK_tr k17 (mK_6 rfl)) (t17.at b3) (l17.w60 (by decide)) (by unfold mAt; rw [u2_ne (by decide)]; exact o17)
    · exact hq.2 k f (by rw [hres, sB_l q1, sB_r q3]) a' (mK_tr k17 ka) ms
  · have m16 : MS a16 B n (.inr (k, f)) := by rw [g16]; exact ms.row (u2_off 61 (by decide)) (u2_ne (by decide)) (u2_ne (by decide)) (u2_ne (by decide)) (u2_ne (by decide))
    have m17 : MS a17 B n (.inr (k, f)) := by rw [g17]; exact m16.w (by omega) (by omega)
    have k17 : mK a0 a17 := by rw [g17, g16]; exact mK_tr hk (mK_tr ka (mK_tr (mK_6 rfl) (mK_w (mS_r (by omega)) (by omega))))
    exact Sp.up (d := 2) (by omega) (s_mSign (d := 0) m17.n5 (hq.2 k f (by rw [hres, sB_r q1]) a17 k17 m17))
/-- a fault inside an again: ], ; and out -/
theorem MS.bl {a : IA} {z : Int32 × Nat} {q : Nat} (h : MS a B n (.inr z)) (hq : q ≤ n) : MS (u2 a 60 4 (nI (skB B n q))) B n (.inr z) := by
  refine ⟨h.1.row (u2_off 61 (by decide)), by rw [u2_ne (by decide)]; exact h.2.1, fun p e => (by cases e), fun k f e => ?_⟩
  have hz := h.2.2.2 k f e
  exact ⟨by rw [u2_ne (by decide)]; exact hz.1, hz.2.1, by rw [u2_ne (by decide)]; exact hz.2.2.1, skB B n q, (skB_le (B := B) hq).2, u2_eq⟩
theorem sr_flt {o p0 f : Nat} {c : Int32} {a0 a : IA} {l : List St} {P : KN} {D : Nat} {res : (List St × Nat) ⊕ (Int32 × Nat)} (hr : Rk r) (hk80 : l.length < 80) (hD : 1 ≤ D) (hk : mK a0 a) (ms : MS a B n (.inr (c, f))) (hq : srQ B n r a0 l p0 o res P) (hres : res = .inr (c, f)) :
    E G MX12_readsStep (D + 2) 0 0 151 [.ref 60, .null, .ref (501 + 1 + l.length)] [] (a, r, nK) (RN P) := by
  have ty := tyR_step l.length hk80
  refine V_X12_readsStep_151 ⟨rfl, by decide, fun _ => ⟨rfl, by decide, Sp.up (d := 2) (by omega) (s_mSign (d := 0) ms.n5 ⟨rfl, by decide, rfl, by decide, fun a16 g16 => ⟨rfl, by decide, row3 ty (by show _ < 878; omega) (vp_in_nI (show 3 < 4 by decide) (by decide)) (fun a17 g17 => ⟨rfl, by decide, ?_⟩)⟩⟩)⟩, fun h => absurd h ms.n5⟩
  have m16 : MS a16 B n (.inr (c, f)) := by rw [g16]; exact ms.row (u2_off 61 (by decide)) (u2_ne (by decide)) (u2_ne (by decide)) (u2_ne (by decide)) (u2_ne (by decide))
  have m17 : MS a17 B n (.inr (c, f)) := by rw [g17]; exact m16.w (by omega) (by omega)
  have k17 : mK a0 a17 := by rw [g17, g16]; exact mK_tr hk (mK_tr (mK_6 rfl) (mK_w (mS_r (by omega)) (by omega)))
  exact Sp.up (d := 2) (by omega) (s_mSign (d := 0) m17.n5 (hq.2 c f hres a17 k17 m17))
theorem sr_loop (hr : Rk r) (hn : n ≤ 150) {t : Nat} (h0 : srS G r B n ns t) (h1 : srL G r B n ns t) : srL G r B n ns (t + 1) := by
  intro o p p0 a0 a l y0 times P ho hk hT hsk hp0 hns hl hlp h8 ht hq D hD
  obtain ⟨D, rfl⟩ : ∃ D', D = D' + 1 := ⟨D - 1, by omega⟩
  have hT0 := hT
  obtain ⟨hB, g2, g4, hpn, h5⟩ := hT
  have hn6 := hB.1
  have hres := pSt.eq_2 B n ns 1 (o + 1) (l.length + 1 + y0.length) p t
  rw [if_neg (by decide)] at hres
  change pSt B n ns (t + 1) 1 (o + 1) (l.length + 1 + y0.length) p = _ at hres
  rw [hsk] at hres
  unfold sgRes at hq
  rw [hres] at hq
  refine V_X12_readsStep_151 ⟨rfl, by decide, fun h => absurd h5 h, fun _ => ⟨rfl, by decide, rfl, by decide, ?_⟩⟩
  rw [g4]
  refine c_mByteAt (B := B) (i := p) hr hB g2 (by omega) ⟨fun hb => ?_, fun hb => ⟨rfl, by decide, ?_⟩⟩
  · rw [if_pos hb, sB_inl] at hq
    exact sr_end (p := p) (p0 := p0) hr hn (by omega) hk hT0 hp0 hl hlp h8 hq (by simp)
  · rw [if_neg hb] at hq
    have hlen : (l ++ (7, times, 0) :: y0).length = l.length + 1 + y0.length := by simp only [List.length_append, List.length_cons]; omega
    refine h0 (o + 1) p a (l ++ (7, times, 0) :: y0) _ (by omega) hT0 hns hl hlp h8 (by omega) ⟨fun x e q1 p1 a2 k2 t2 l2 o2 => ⟨rfl, by decide, ?_⟩, fun c f q1 a2 k2 ms => ⟨rfl, by decide, ?_⟩⟩ D (by omega)
    · rw [hlen] at q1
      have hu := pSt_up B n ns t 0 (o + 1) _ _ x e hpn q1
      have hlt := hu.2.2.2 rfl
      have l3 := skB_le (B := B) t2.2.2.2.1
      refine Sp.up (d := 1) (by omega) (c_mBlanks (d := 0) hr t2.1 t2.2.1 t2.2.2.1 t2.2.2.2.1 ?_)
      refine h1 o (skB B n e) p0 a0 _ l (y0 ++ x) times P ho (mK_tr hk (mK_tr k2 (mK_6 rfl))) (t2.at l3.2) (skB_skB t2.2.2.2.1) (by omega) (by rw [u2_off 64 (by decide), k2.1 64 (by decide) rfl]; exact hns) (by have := l2.w60 (j := 4) (v := nI (skB B n e)) (by decide); simpa using this) (by simp only [List.length_append, List.length_cons] at hlp ⊢; omega) (by rw [u2_ne (by decide)]; exact o2) (by omega) ?_ (D + 1) (by omega)
      rw [q1, sB_inl, sB_assoc] at hq
      unfold sgRes
      simp only [sB_inl] at hq
      have e7 : l.length + 1 + (y0 ++ x).length = l.length + 1 + y0.length + x.length := by simp only [List.length_append]; omega
      have eS : pSt B n ns t 1 (o + 1) (l.length + 1 + (y0 ++ x).length) (skB B n e) = pSt B n ns t 1 (o + 1) (l.length + 1 + y0.length + x.length) e := by
        rw [e7]
        cases t with
        | zero => rfl
        | succ t => rw [pSt.eq_2 B n ns 1 _ _ _ t, pSt.eq_2 B n ns 1 _ _ _ t, if_neg (show ¬ (1 : Nat) = 0 by decide), if_neg (show ¬ (1 : Nat) = 0 by decide), skB_skB t2.2.2.2.1]
      rw [eS, e7]
      refine ⟨fun x' e' hx' => hq.1 x' e' ?_, fun c' q' hx' => hq.2 c' q' ?_⟩
      · rw [← hx']
        congr 1
        funext y
        congr 1
        funext e2
        congr 1
        funext e3
        simp only [List.length_append, List.append_assoc, Nat.add_assoc]
      · rw [← hx']
        congr 1
        funext y
        congr 1
        funext e2
        congr 1
        funext e3
        simp only [List.length_append, List.append_assoc, Nat.add_assoc]
    · rw [hlen] at q1
      rw [q1, sB_inr, sB_inr] at hq
      obtain ⟨q, hqn, e4⟩ := (ms.2.2.2 c f rfl).2.2.2
      refine Sp.up (d := 1) (by omega) (c_mBlanks (d := 0) hr ms.1 ms.2.1 e4 hqn ?_)
      obtain ⟨D, rfl⟩ : ∃ D', D = D' + 1 := ⟨D - 1, by omega⟩
      simp only [List.length_append, List.length_cons] at hlp
      exact sr_flt hr (by omega) (by omega) (mK_tr hk (mK_tr k2 (mK_6 rfl))) (ms.bl hqn) hq rfl
end MS2
