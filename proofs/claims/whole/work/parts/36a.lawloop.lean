/-! The law: its blocks and its loop -/
section LWP
variable {G : GE} {C C' S S' d : Nat} {M : MI} {pc : Nat} {L st : List Value} {h : AH} {ρ : Rs} {a : IA} {r : RA} {k v i : Int32}
theorem E.more (hC : C ≤ C') (hS : S ≤ S') (h0 : E G M d C S pc L st h ρ) : E G M d C' S' pc L st h ρ :=
  fun p e R s m args below meth c H locs cells slots ls q1 q2 q3 q4 q5 => h0 p e R s m args below meth c H locs cells slots ls q1 ⟨q2.1, q2.2.1, by have := q2.2.2.1; omega, by have := q2.2.2.2; omega⟩ q3 q4 q5
abbrev lwL (i : Int32) : List Value := [.float 0, .ref 0, .ref 60, .ref 877, .int i, .null, .null]
abbrev RT : Rs := RI (fun v _ _ _ => v = 1)
def Six (G : GE) (i : Int32) : Prop := vp_in i (gN G) ∧ vp_in (i + 1) (gN G) ∧ vp_in (i + 2) (gN G) ∧ vp_in (i + 3) (gN G) ∧ vp_in (i + 4) (gN G) ∧ vp_in (i + 5) (gN G) ∧ vp_in (i + 6) (gN G)
theorem lg_cmp_self (x : Int64) : lg_cmp x x = 0 := by
  unfold lg_cmp
  rw [if_neg (show ¬ x > x by rw [gt_iff_lt, Int64.lt_iff_toInt_lt]; omega), if_pos rfl]
abbrev KT (G : GE) (C S : Nat) (i k v : Int32) : KI := fun v12 a9 r10 n11 => ((v12 = k → ((¬ k = 0 → E G ML_law_ 41 C S 2247 (lwL i) [] (a9, r10, n11) RT) ∧ (k = 0 → ((tyK 877).1 = 4 ∧ 877 < n11 ∧ vp_in 0 (tyK 877).2 ∧ (((lg_cmp (vlong (r10 877 (0 : Int32).toNatClampNeg)) ((v : Int32).toInt64)) = 0 → E G ML_law_ 41 C S 2247 (lwL i) [] (a9, r10, n11) RT) ∧ (¬ (lg_cmp (vlong (r10 877 (0 : Int32).toNatClampNeg)) ((v : Int32).toInt64)) = 0 → (bz 0 ∧ (0 : Int32) = 1))))))) ∧ (¬ v12 = k → (bz 0 ∧ (0 : Int32) = 1)))
theorem thr (h0 : a 60 0 = k) (hv : k = 0 → r 877 0 = .long v.toInt64) (hk : E G ML_law_ 41 C S 2247 (lwL i) [] (a, r, nK) RT) : Sp G 40 0 0 MX12_thrown [.ref 60] (a, r, nK) (RI (KT G C S i k v)) := by
  refine c_mThrown ⟨fun _ => ⟨fun _ => hk, fun hz => ⟨rfl, by decide, vp_in_nI (show 0 < 1 by decide) (by decide), fun _ => hk, fun z => ?_⟩⟩, fun z => absurd h0 z⟩
  have e : r 877 (0 : Int32).toNatClampNeg = .long v.toInt64 := hv hz
  rw [e] at z
  exact absurd (lg_cmp_self _) z
theorem b_feed (hI : Inv a r) (h6 : Six G i) (hk : ∀ a r, Inv a r → E G ML_law_ 41 C S 2247 (lwL i) [] (a, r, nK) RT) : E G ML_law_ 41 (C + 1) (S + 6) 216 (lwL i) [] (a, r, nK) RT := by
  obtain ⟨T, T', L, L', M, M', nc, ns, ng, t, wk, im, lw, ml, h⟩ := hI
  obtain ⟨_, v1, v2, v3, v4, v5, v6⟩ := h6
  refine E.more (Nat.le_succ C) (Nat.le_add_right S 6) (V_L_law__216 (d := 40) ⟨v1, v2, v3, v4, v5, rfl, by decide, (p_feed h).toI (fun w a1 r1 n1 hh => ?_)⟩)
  obtain ⟨rfl, hS⟩ := hh
  refine ⟨v1, v2, v3, v4, v5, rfl, by decide, hS.toI (fun w2 a2 r2 n2 hh => ?_)⟩
  obtain ⟨rfl, rfl, hI2⟩ := hh
  exact ⟨fun _ => hk a2 r2 hI2, fun z => absurd rfl z⟩
theorem b_city (hI : Inv a r) (h6 : Six G i) (hk : ∀ a r, Inv a r → E G ML_law_ 41 C S 2247 (lwL i) [] (a, r, nK) RT) : E G ML_law_ 41 (C + 1) (S + 6) 289 (lwL i) [] (a, r, nK) RT := by
  obtain ⟨T, T', L, L', M, M', nc, ns, ng, t, wk, im, lw, ml, h⟩ := hI
  obtain ⟨_, v1, v2, v3, v4, v5, v6⟩ := h6
  refine V_L_law__289 (d := 40) ⟨v1, (h_city h).toI (fun k a1 r1 n1 hh => ?_)⟩
  obtain ⟨rfl, hS⟩ := hh
  refine ⟨v1, rfl, by decide, hS.toI (fun v a2 r2 n2 hh => ?_)⟩
  obtain ⟨rfl, hI2, h0, hv⟩ := hh
  exact ⟨rfl, by decide, thr h0 hv (hk a2 r2 hI2)⟩
theorem b_law (hI : Inv a r) (h6 : Six G i) (hk : ∀ a r, Inv a r → E G ML_law_ 41 C S 2247 (lwL i) [] (a, r, nK) RT) : E G ML_law_ 41 (C + 1) (S + 6) 345 (lwL i) [] (a, r, nK) RT := by
  obtain ⟨T, T', L, L', M, M', nc, ns, ng, t, wk, im, lw, ml, h⟩ := hI
  obtain ⟨_, v1, v2, v3, v4, v5, v6⟩ := h6
  refine V_L_law__345 (d := 40) ⟨v1, (h_law h).toI (fun k a1 r1 n1 hh => ?_)⟩
  obtain ⟨rfl, hS⟩ := hh
  refine ⟨v1, rfl, by decide, hS.toI (fun v a2 r2 n2 hh => ?_)⟩
  obtain ⟨rfl, hI2, h0, hv⟩ := hh
  exact ⟨rfl, by decide, thr h0 hv (hk a2 r2 hI2)⟩
theorem b_work (hI : Inv a r) (h6 : Six G i) (hk : ∀ a r, Inv a r → E G ML_law_ 41 C S 2247 (lwL i) [] (a, r, nK) RT) : E G ML_law_ 41 (C + 1) (S + 6) 401 (lwL i) [] (a, r, nK) RT := by
  obtain ⟨T, T', L, L', M, M', nc, ns, ng, t, wk, im, lw, ml, h⟩ := hI
  obtain ⟨_, v1, v2, v3, v4, v5, v6⟩ := h6
  refine V_L_law__401 (d := 40) ⟨v1, (h_work h).toI (fun k a1 r1 n1 hh => ?_)⟩
  obtain ⟨rfl, hS⟩ := hh
  refine ⟨v1, rfl, by decide, hS.toI (fun v a2 r2 n2 hh => ?_)⟩
  obtain ⟨rfl, hI2, h0, hv⟩ := hh
  exact ⟨rfl, by decide, thr h0 hv (hk a2 r2 hI2)⟩
theorem b_post (hI : Inv a r) (h6 : Six G i) (hk : ∀ a r, Inv a r → E G ML_law_ 41 C S 2247 (lwL i) [] (a, r, nK) RT) : E G ML_law_ 41 (C + 1) (S + 6) 457 (lwL i) [] (a, r, nK) RT := by
  obtain ⟨T, T', L, L', M, M', nc, ns, ng, t, wk, im, lw, ml, h⟩ := hI
  obtain ⟨_, v1, v2, v3, v4, v5, v6⟩ := h6
  refine V_L_law__457 (d := 40) ⟨v1, (h_post h).toI (fun k a1 r1 n1 hh => ?_)⟩
  obtain ⟨rfl, hS⟩ := hh
  refine ⟨v1, rfl, by decide, hS.toI (fun v a2 r2 n2 hh => ?_)⟩
  obtain ⟨rfl, hI2, h0, hv⟩ := hh
  exact ⟨rfl, by decide, thr h0 hv (hk a2 r2 hI2)⟩
theorem b_fault (hI : Inv a r) (h6 : Six G i) (hk : ∀ a r, Inv a r → E G ML_law_ 41 C S 2247 (lwL i) [] (a, r, nK) RT) : E G ML_law_ 41 (C + 1) (S + 6) 513 (lwL i) [] (a, r, nK) RT := by
  obtain ⟨T, T', L, L', M, M', nc, ns, ng, t, wk, im, lw, ml, h⟩ := hI
  obtain ⟨_, v1, v2, v3, v4, v5, v6⟩ := h6
  refine E.more (Nat.le_succ C) (Nat.le_add_right S 6) (V_L_law__513 (d := 40) ⟨rfl, by decide, (p_fault h).toI (fun w a1 r1 n1 hh => ?_)⟩)
  obtain ⟨rfl, hS⟩ := hh
  refine ⟨rfl, by decide, hS.toI (fun w2 a2 r2 n2 hh => ?_)⟩
  obtain ⟨rfl, rfl, hI2⟩ := hh
  exact ⟨fun _ => hk a2 r2 hI2, fun z => absurd rfl z⟩
theorem b_undo (hI : Inv a r) (h6 : Six G i) (hk : ∀ a r, Inv a r → E G ML_law_ 41 C S 2247 (lwL i) [] (a, r, nK) RT) : E G ML_law_ 41 (C + 1) (S + 6) 526 (lwL i) [] (a, r, nK) RT := by
  obtain ⟨T, T', L, L', M, M', nc, ns, ng, t, wk, im, lw, ml, h⟩ := hI
  obtain ⟨_, v1, v2, v3, v4, v5, v6⟩ := h6
  refine E.more (Nat.le_succ C) (Nat.le_add_right S 6) (V_L_law__526 (d := 40) ⟨rfl, by decide, (p_undo h).toI (fun w a1 r1 n1 hh => ?_)⟩)
  obtain ⟨rfl, hS⟩ := hh
  refine ⟨rfl, by decide, hS.toI (fun w2 a2 r2 n2 hh => ?_)⟩
  obtain ⟨rfl, rfl, hI2⟩ := hh
  exact ⟨fun _ => hk a2 r2 hI2, fun z => absurd rfl z⟩
theorem b_told (hI : Inv a r) (h6 : Six G i) (hk : ∀ a r, Inv a r → E G ML_law_ 41 C S 2247 (lwL i) [] (a, r, nK) RT) : E G ML_law_ 41 (C + 1) (S + 6) 539 (lwL i) [] (a, r, nK) RT := by
  obtain ⟨T, T', L, L', M, M', nc, ns, ng, t, wk, im, lw, ml, h⟩ := hI
  obtain ⟨_, v1, v2, v3, v4, v5, v6⟩ := h6
  refine V_L_law__539 (d := 40) ⟨v1, (h_told h).toI (fun k a1 r1 n1 hh => ?_)⟩
  obtain ⟨rfl, hS⟩ := hh
  refine ⟨v1, rfl, by decide, hS.toI (fun v a2 r2 n2 hh => ?_)⟩
  obtain ⟨rfl, hI2, h0, hv⟩ := hh
  exact ⟨rfl, by decide, thr h0 hv (hk a2 r2 hI2)⟩
theorem b_street (hI : Inv a r) (h6 : Six G i) (hk : ∀ a r, Inv a r → E G ML_law_ 41 C S 2247 (lwL i) [] (a, r, nK) RT) : E G ML_law_ 41 (C + 1) (S + 6) 595 (lwL i) [] (a, r, nK) RT := by
  obtain ⟨T, T', L, L', M, M', nc, ns, ng, t, wk, im, lw, ml, h⟩ := hI
  obtain ⟨_, v1, v2, v3, v4, v5, v6⟩ := h6
  refine V_L_law__595 (d := 40) ⟨v1, v2, (h_street h).toI (fun k a1 r1 n1 hh => ?_)⟩
  obtain ⟨rfl, hS⟩ := hh
  refine ⟨v1, v2, rfl, by decide, hS.toI (fun v a2 r2 n2 hh => ?_)⟩
  obtain ⟨rfl, hI2, h0, hv⟩ := hh
  exact ⟨rfl, by decide, thr h0 hv (hk a2 r2 hI2)⟩
theorem b_likes (hI : Inv a r) (h6 : Six G i) (hk : ∀ a r, Inv a r → E G ML_law_ 41 C S 2247 (lwL i) [] (a, r, nK) RT) : E G ML_law_ 41 (C + 1) (S + 6) 663 (lwL i) [] (a, r, nK) RT := by
  obtain ⟨T, T', L, L', M, M', nc, ns, ng, t, wk, im, lw, ml, h⟩ := hI
  obtain ⟨_, v1, v2, v3, v4, v5, v6⟩ := h6
  refine V_L_law__663 (d := 40) ⟨v1, v2, (h_likes h).toI (fun k a1 r1 n1 hh => ?_)⟩
  obtain ⟨rfl, hS⟩ := hh
  refine ⟨v1, v2, rfl, by decide, hS.toI (fun v a2 r2 n2 hh => ?_)⟩
  obtain ⟨rfl, hI2, h0, hv⟩ := hh
  exact ⟨rfl, by decide, thr h0 hv (hk a2 r2 hI2)⟩
theorem b_banns (hI : Inv a r) (h6 : Six G i) (hk : ∀ a r, Inv a r → E G ML_law_ 41 C S 2247 (lwL i) [] (a, r, nK) RT) : E G ML_law_ 41 (C + 1) (S + 6) 731 (lwL i) [] (a, r, nK) RT := by
  obtain ⟨T, T', L, L', M, M', nc, ns, ng, t, wk, im, lw, ml, h⟩ := hI
  obtain ⟨_, v1, v2, v3, v4, v5, v6⟩ := h6
  refine V_L_law__731 (d := 40) ⟨v1, v2, (h_banns h).toI (fun k a1 r1 n1 hh => ?_)⟩
  obtain ⟨rfl, hS⟩ := hh
  refine ⟨v1, v2, rfl, by decide, hS.toI (fun v a2 r2 n2 hh => ?_)⟩
  obtain ⟨rfl, hI2, h0, hv⟩ := hh
  exact ⟨rfl, by decide, thr h0 hv (hk a2 r2 hI2)⟩
theorem b_number (hI : Inv a r) (h6 : Six G i) (hk : ∀ a r, Inv a r → E G ML_law_ 41 C S 2247 (lwL i) [] (a, r, nK) RT) : E G ML_law_ 41 (C + 1) (S + 6) 799 (lwL i) [] (a, r, nK) RT := by
  obtain ⟨T, T', L, L', M, M', nc, ns, ng, t, wk, im, lw, ml, h⟩ := hI
  obtain ⟨_, v1, v2, v3, v4, v5, v6⟩ := h6
  refine V_L_law__799 (d := 40) ⟨v1, v2, (h_number h).toI (fun k a1 r1 n1 hh => ?_)⟩
  obtain ⟨rfl, hS⟩ := hh
  refine ⟨v1, v2, rfl, by decide, hS.toI (fun v a2 r2 n2 hh => ?_)⟩
  obtain ⟨rfl, hI2, h0, hv⟩ := hh
  exact ⟨rfl, by decide, thr h0 hv (hk a2 r2 hI2)⟩
theorem b_letter (hI : Inv a r) (h6 : Six G i) (hk : ∀ a r, Inv a r → E G ML_law_ 41 C S 2247 (lwL i) [] (a, r, nK) RT) : E G ML_law_ 41 (C + 1) (S + 6) 867 (lwL i) [] (a, r, nK) RT := by
  obtain ⟨T, T', L, L', M, M', nc, ns, ng, t, wk, im, lw, ml, h⟩ := hI
  obtain ⟨_, v1, v2, v3, v4, v5, v6⟩ := h6
  refine V_L_law__867 (d := 40) ⟨v1, v2, (h_letter h).toI (fun k a1 r1 n1 hh => ?_)⟩
  obtain ⟨rfl, hS⟩ := hh
  refine ⟨v1, v2, rfl, by decide, hS.toI (fun v a2 r2 n2 hh => ?_)⟩
  obtain ⟨rfl, hI2, h0, hv⟩ := hh
  exact ⟨rfl, by decide, thr h0 hv (hk a2 r2 hI2)⟩
theorem b_last (hI : Inv a r) (h6 : Six G i) (hk : ∀ a r, Inv a r → E G ML_law_ 41 C S 2247 (lwL i) [] (a, r, nK) RT) : E G ML_law_ 41 (C + 1) (S + 6) 935 (lwL i) [] (a, r, nK) RT := by
  obtain ⟨T, T', L, L', M, M', nc, ns, ng, t, wk, im, lw, ml, h⟩ := hI
  obtain ⟨_, v1, v2, v3, v4, v5, v6⟩ := h6
  refine V_L_law__935 (d := 40) ⟨v1, (h_last h).toI (fun k a1 r1 n1 hh => ?_)⟩
  obtain ⟨rfl, hS⟩ := hh
  refine ⟨v1, rfl, by decide, hS.toI (fun v a2 r2 n2 hh => ?_)⟩
  obtain ⟨rfl, hI2, h0, hv⟩ := hh
  exact ⟨rfl, by decide, thr h0 hv (hk a2 r2 hI2)⟩
theorem b_missing (hI : Inv a r) (h6 : Six G i) (hk : ∀ a r, Inv a r → E G ML_law_ 41 C S 2247 (lwL i) [] (a, r, nK) RT) : E G ML_law_ 41 (C + 1) (S + 6) 991 (lwL i) [] (a, r, nK) RT := by
  obtain ⟨T, T', L, L', M, M', nc, ns, ng, t, wk, im, lw, ml, h⟩ := hI
  obtain ⟨_, v1, v2, v3, v4, v5, v6⟩ := h6
  refine V_L_law__991 (d := 40) ⟨v1, (h_missing h).toI (fun k a1 r1 n1 hh => ?_)⟩
  obtain ⟨rfl, hS⟩ := hh
  refine ⟨v1, rfl, by decide, hS.toI (fun v a2 r2 n2 hh => ?_)⟩
  obtain ⟨rfl, hI2, h0, hv⟩ := hh
  exact ⟨rfl, by decide, thr h0 hv (hk a2 r2 hI2)⟩
theorem b_stable (hI : Inv a r) (h6 : Six G i) (hk : ∀ a r, Inv a r → E G ML_law_ 41 C S 2247 (lwL i) [] (a, r, nK) RT) : E G ML_law_ 41 (C + 1) (S + 6) 1047 (lwL i) [] (a, r, nK) RT := by
  obtain ⟨T, T', L, L', M, M', nc, ns, ng, t, wk, im, lw, ml, h⟩ := hI
  obtain ⟨_, v1, v2, v3, v4, v5, v6⟩ := h6
  refine E.more (Nat.le_succ C) (Nat.le_add_right S 6) (V_L_law__1047 (d := 40) ⟨rfl, by decide, (p_stable h).toI (fun w a1 r1 n1 hh => ?_)⟩)
  obtain ⟨rfl, hS⟩ := hh
  refine ⟨rfl, by decide, hS.toI (fun w2 a2 r2 n2 hh => ?_)⟩
  obtain ⟨rfl, rfl, hI2⟩ := hh
  exact ⟨fun _ => hk a2 r2 hI2, fun z => absurd rfl z⟩
theorem b_stableFor (hI : Inv a r) (h6 : Six G i) (hk : ∀ a r, Inv a r → E G ML_law_ 41 C S 2247 (lwL i) [] (a, r, nK) RT) : E G ML_law_ 41 (C + 1) (S + 6) 1060 (lwL i) [] (a, r, nK) RT := by
  obtain ⟨T, T', L, L', M, M', nc, ns, ng, t, wk, im, lw, ml, h⟩ := hI
  obtain ⟨_, v1, v2, v3, v4, v5, v6⟩ := h6
  refine V_L_law__1060 (d := 40) ⟨v1, (h_stableFor h).toI (fun k a1 r1 n1 hh => ?_)⟩
  obtain ⟨rfl, hS⟩ := hh
  refine ⟨v1, rfl, by decide, hS.toI (fun v a2 r2 n2 hh => ?_)⟩
  obtain ⟨rfl, hI2, h0, hv⟩ := hh
  exact ⟨rfl, by decide, thr h0 hv (hk a2 r2 hI2)⟩
theorem b_best (hI : Inv a r) (h6 : Six G i) (hk : ∀ a r, Inv a r → E G ML_law_ 41 C S 2247 (lwL i) [] (a, r, nK) RT) : E G ML_law_ 41 (C + 1) (S + 6) 1116 (lwL i) [] (a, r, nK) RT := by
  obtain ⟨T, T', L, L', M, M', nc, ns, ng, t, wk, im, lw, ml, h⟩ := hI
  obtain ⟨_, v1, v2, v3, v4, v5, v6⟩ := h6
  refine E.more (Nat.le_succ C) (Nat.le_add_right S 6) (V_L_law__1116 (d := 40) ⟨rfl, by decide, (p_best h).toI (fun w a1 r1 n1 hh => ?_)⟩)
  obtain ⟨rfl, hS⟩ := hh
  refine ⟨rfl, by decide, hS.toI (fun w2 a2 r2 n2 hh => ?_)⟩
  obtain ⟨rfl, rfl, hI2⟩ := hh
  exact ⟨fun _ => hk a2 r2 hI2, fun z => absurd rfl z⟩
theorem b_bestFor (hI : Inv a r) (h6 : Six G i) (hk : ∀ a r, Inv a r → E G ML_law_ 41 C S 2247 (lwL i) [] (a, r, nK) RT) : E G ML_law_ 41 (C + 1) (S + 6) 1129 (lwL i) [] (a, r, nK) RT := by
  obtain ⟨T, T', L, L', M, M', nc, ns, ng, t, wk, im, lw, ml, h⟩ := hI
  obtain ⟨_, v1, v2, v3, v4, v5, v6⟩ := h6
  refine V_L_law__1129 (d := 40) ⟨v1, (h_bestFor h).toI (fun k a1 r1 n1 hh => ?_)⟩
  obtain ⟨rfl, hS⟩ := hh
  refine ⟨v1, rfl, by decide, hS.toI (fun v a2 r2 n2 hh => ?_)⟩
  obtain ⟨rfl, hI2, h0, hv⟩ := hh
  exact ⟨rfl, by decide, thr h0 hv (hk a2 r2 hI2)⟩
theorem b_tempted (hI : Inv a r) (h6 : Six G i) (hk : ∀ a r, Inv a r → E G ML_law_ 41 C S 2247 (lwL i) [] (a, r, nK) RT) : E G ML_law_ 41 (C + 1) (S + 6) 1185 (lwL i) [] (a, r, nK) RT := by
  obtain ⟨T, T', L, L', M, M', nc, ns, ng, t, wk, im, lw, ml, h⟩ := hI
  obtain ⟨_, v1, v2, v3, v4, v5, v6⟩ := h6
  refine E.more (Nat.le_succ C) (Nat.le_add_right S 6) (V_L_law__1185 (d := 40) ⟨rfl, by decide, (p_tempted h).toI (fun w a1 r1 n1 hh => ?_)⟩)
  obtain ⟨rfl, hS⟩ := hh
  refine ⟨rfl, by decide, hS.toI (fun w2 a2 r2 n2 hh => ?_)⟩
  obtain ⟨rfl, rfl, hI2⟩ := hh
  exact ⟨fun _ => hk a2 r2 hI2, fun z => absurd rfl z⟩
theorem b_way (hI : Inv a r) (h6 : Six G i) (hk : ∀ a r, Inv a r → E G ML_law_ 41 C S 2247 (lwL i) [] (a, r, nK) RT) : E G ML_law_ 41 (C + 1) (S + 6) 1198 (lwL i) [] (a, r, nK) RT := by
  obtain ⟨T, T', L, L', M, M', nc, ns, ng, t, wk, im, lw, ml, h⟩ := hI
  obtain ⟨_, v1, v2, v3, v4, v5, v6⟩ := h6
  refine V_L_law__1198 (d := 40) ⟨v1, v2, (h_way h).toI (fun k a1 r1 n1 hh => ?_)⟩
  obtain ⟨rfl, hS⟩ := hh
  refine ⟨v1, v2, rfl, by decide, hS.toI (fun v a2 r2 n2 hh => ?_)⟩
  obtain ⟨rfl, hI2, h0, hv⟩ := hh
  exact ⟨rfl, by decide, thr h0 hv (hk a2 r2 hI2)⟩
theorem b_round (hI : Inv a r) (h6 : Six G i) (hk : ∀ a r, Inv a r → E G ML_law_ 41 C S 2247 (lwL i) [] (a, r, nK) RT) : E G ML_law_ 41 (C + 1) (S + 6) 1266 (lwL i) [] (a, r, nK) RT := by
  obtain ⟨T, T', L, L', M, M', nc, ns, ng, t, wk, im, lw, ml, h⟩ := hI
  obtain ⟨_, v1, v2, v3, v4, v5, v6⟩ := h6
  refine V_L_law__1266 (d := 40) ⟨v1, (h_round h).toI (fun k a1 r1 n1 hh => ?_)⟩
  obtain ⟨rfl, hS⟩ := hh
  refine ⟨v1, rfl, by decide, hS.toI (fun v a2 r2 n2 hh => ?_)⟩
  obtain ⟨rfl, hI2, h0, hv⟩ := hh
  exact ⟨rfl, by decide, thr h0 hv (hk a2 r2 hI2)⟩
theorem b_reach (hI : Inv a r) (h6 : Six G i) (hk : ∀ a r, Inv a r → E G ML_law_ 41 C S 2247 (lwL i) [] (a, r, nK) RT) : E G ML_law_ 41 (C + 1) (S + 6) 1322 (lwL i) [] (a, r, nK) RT := by
  obtain ⟨T, T', L, L', M, M', nc, ns, ng, t, wk, im, lw, ml, h⟩ := hI
  obtain ⟨_, v1, v2, v3, v4, v5, v6⟩ := h6
  refine V_L_law__1322 (d := 40) ⟨v1, (h_reach h).toI (fun k a1 r1 n1 hh => ?_)⟩
  obtain ⟨rfl, hS⟩ := hh
  refine ⟨v1, rfl, by decide, hS.toI (fun v a2 r2 n2 hh => ?_)⟩
  obtain ⟨rfl, hI2, h0, hv⟩ := hh
  exact ⟨rfl, by decide, thr h0 hv (hk a2 r2 hI2)⟩
theorem b_bridges (hI : Inv a r) (h6 : Six G i) (hk : ∀ a r, Inv a r → E G ML_law_ 41 C S 2247 (lwL i) [] (a, r, nK) RT) : E G ML_law_ 41 (C + 1) (S + 6) 1378 (lwL i) [] (a, r, nK) RT := by
  obtain ⟨T, T', L, L', M, M', nc, ns, ng, t, wk, im, lw, ml, h⟩ := hI
  obtain ⟨_, v1, v2, v3, v4, v5, v6⟩ := h6
  refine V_L_law__1378 (d := 40) ⟨v1, (h_bridges h).toI (fun k a1 r1 n1 hh => ?_)⟩
  obtain ⟨rfl, hS⟩ := hh
  refine ⟨v1, rfl, by decide, hS.toI (fun v a2 r2 n2 hh => ?_)⟩
  obtain ⟨rfl, hI2, h0, hv⟩ := hh
  exact ⟨rfl, by decide, thr h0 hv (hk a2 r2 hI2)⟩
theorem b_fair (hI : Inv a r) (h6 : Six G i) (hk : ∀ a r, Inv a r → E G ML_law_ 41 C S 2247 (lwL i) [] (a, r, nK) RT) : E G ML_law_ 41 (C + 1) (S + 6) 1434 (lwL i) [] (a, r, nK) RT := by
  obtain ⟨T, T', L, L', M, M', nc, ns, ng, t, wk, im, lw, ml, h⟩ := hI
  obtain ⟨_, v1, v2, v3, v4, v5, v6⟩ := h6
  refine V_L_law__1434 (d := 40) ⟨v1, (h_fair h).toI (fun k a1 r1 n1 hh => ?_)⟩
  obtain ⟨rfl, hS⟩ := hh
  refine ⟨v1, rfl, by decide, hS.toI (fun v a2 r2 n2 hh => ?_)⟩
  obtain ⟨rfl, hI2, h0, hv⟩ := hh
  exact ⟨rfl, by decide, thr h0 hv (hk a2 r2 hI2)⟩
theorem b_even (hI : Inv a r) (h6 : Six G i) (hk : ∀ a r, Inv a r → E G ML_law_ 41 C S 2247 (lwL i) [] (a, r, nK) RT) : E G ML_law_ 41 (C + 1) (S + 6) 1490 (lwL i) [] (a, r, nK) RT := by
  obtain ⟨T, T', L, L', M, M', nc, ns, ng, t, wk, im, lw, ml, h⟩ := hI
  obtain ⟨_, v1, v2, v3, v4, v5, v6⟩ := h6
  refine E.more (Nat.le_succ C) (Nat.le_add_right S 6) (V_L_law__1490 (d := 40) ⟨rfl, by decide, (p_even h).toI (fun w a1 r1 n1 hh => ?_)⟩)
  obtain ⟨rfl, hS⟩ := hh
  refine ⟨rfl, by decide, hS.toI (fun w2 a2 r2 n2 hh => ?_)⟩
  obtain ⟨rfl, rfl, hI2⟩ := hh
  exact ⟨fun _ => hk a2 r2 hI2, fun z => absurd rfl z⟩
theorem b_mates (hI : Inv a r) (h6 : Six G i) (hk : ∀ a r, Inv a r → E G ML_law_ 41 C S 2247 (lwL i) [] (a, r, nK) RT) : E G ML_law_ 41 (C + 1) (S + 6) 1503 (lwL i) [] (a, r, nK) RT := by
  obtain ⟨T, T', L, L', M, M', nc, ns, ng, t, wk, im, lw, ml, h⟩ := hI
  obtain ⟨_, v1, v2, v3, v4, v5, v6⟩ := h6
  refine V_L_law__1503 (d := 40) ⟨v1, v2, (h_mates h).toI (fun k a1 r1 n1 hh => ?_)⟩
  obtain ⟨rfl, hS⟩ := hh
  refine ⟨v1, v2, rfl, by decide, hS.toI (fun v a2 r2 n2 hh => ?_)⟩
  obtain ⟨rfl, hI2, h0, hv⟩ := hh
  exact ⟨rfl, by decide, thr h0 hv (hk a2 r2 hI2)⟩
theorem b_look (hI : Inv a r) (h6 : Six G i) (hk : ∀ a r, Inv a r → E G ML_law_ 41 C S 2247 (lwL i) [] (a, r, nK) RT) : E G ML_law_ 41 (C + 1) (S + 6) 1571 (lwL i) [] (a, r, nK) RT := by
  obtain ⟨T, T', L, L', M, M', nc, ns, ng, t, wk, im, lw, ml, h⟩ := hI
  obtain ⟨_, v1, v2, v3, v4, v5, v6⟩ := h6
  refine V_L_law__1571 (d := 40) ⟨v1, v2, (h_look h).toI (fun k a1 r1 n1 hh => ?_)⟩
  obtain ⟨rfl, hS⟩ := hh
  refine ⟨v1, v2, rfl, by decide, hS.toI (fun v a2 r2 n2 hh => ?_)⟩
  obtain ⟨rfl, hI2, h0, hv⟩ := hh
  exact ⟨rfl, by decide, thr h0 hv (hk a2 r2 hI2)⟩
theorem b_right (hI : Inv a r) (h6 : Six G i) (hk : ∀ a r, Inv a r → E G ML_law_ 41 C S 2247 (lwL i) [] (a, r, nK) RT) : E G ML_law_ 41 (C + 1) (S + 6) 1639 (lwL i) [] (a, r, nK) RT := by
  obtain ⟨T, T', L, L', M, M', nc, ns, ng, t, wk, im, lw, ml, h⟩ := hI
  obtain ⟨_, v1, v2, v3, v4, v5, v6⟩ := h6
  refine V_L_law__1639 (d := 40) ⟨v1, (h_right h).toI (fun k a1 r1 n1 hh => ?_)⟩
  obtain ⟨rfl, hS⟩ := hh
  refine ⟨v1, rfl, by decide, hS.toI (fun v a2 r2 n2 hh => ?_)⟩
  obtain ⟨rfl, hI2, h0, hv⟩ := hh
  exact ⟨rfl, by decide, thr h0 hv (hk a2 r2 hI2)⟩
theorem b_lane (hI : Inv a r) (h6 : Six G i) (hk : ∀ a r, Inv a r → E G ML_law_ 41 C S 2247 (lwL i) [] (a, r, nK) RT) : E G ML_law_ 41 (C + 1) (S + 6) 1695 (lwL i) [] (a, r, nK) RT := by
  obtain ⟨T, T', L, L', M, M', nc, ns, ng, t, wk, im, lw, ml, h⟩ := hI
  obtain ⟨_, v1, v2, v3, v4, v5, v6⟩ := h6
  refine E.more (Nat.le_succ C) (Nat.le_add_right S 6) (V_L_law__1695 (d := 40) ⟨rfl, by decide, (p_lane h).toI (fun w a1 r1 n1 hh => ?_)⟩)
  obtain ⟨rfl, hS⟩ := hh
  refine ⟨rfl, by decide, hS.toI (fun w2 a2 r2 n2 hh => ?_)⟩
  obtain ⟨rfl, rfl, hI2⟩ := hh
  exact ⟨fun _ => hk a2 r2 hI2, fun z => absurd rfl z⟩
theorem b_stop (hI : Inv a r) (h6 : Six G i) (hk : ∀ a r, Inv a r → E G ML_law_ 41 C S 2247 (lwL i) [] (a, r, nK) RT) : E G ML_law_ 41 (C + 1) (S + 6) 1708 (lwL i) [] (a, r, nK) RT := by
  obtain ⟨T, T', L, L', M, M', nc, ns, ng, t, wk, im, lw, ml, h⟩ := hI
  obtain ⟨_, v1, v2, v3, v4, v5, v6⟩ := h6
  refine E.more (Nat.le_succ C) (Nat.le_add_right S 6) (V_L_law__1708 (d := 40) ⟨rfl, by decide, (p_stop h).toI (fun w a1 r1 n1 hh => ?_)⟩)
  obtain ⟨rfl, hS⟩ := hh
  refine ⟨rfl, by decide, hS.toI (fun w2 a2 r2 n2 hh => ?_)⟩
  obtain ⟨rfl, rfl, hI2⟩ := hh
  exact ⟨fun _ => hk a2 r2 hI2, fun z => absurd rfl z⟩
theorem b_suitors (hI : Inv a r) (h6 : Six G i) (hk : ∀ a r, Inv a r → E G ML_law_ 41 C S 2247 (lwL i) [] (a, r, nK) RT) : E G ML_law_ 41 (C + 1) (S + 6) 1721 (lwL i) [] (a, r, nK) RT := by
  obtain ⟨T, T', L, L', M, M', nc, ns, ng, t, wk, im, lw, ml, h⟩ := hI
  obtain ⟨_, v1, v2, v3, v4, v5, v6⟩ := h6
  refine V_L_law__1721 (d := 40) ⟨v1, v2, v3, v4, (h_suitors h).toI (fun k a1 r1 n1 hh => ?_)⟩
  obtain ⟨rfl, hS⟩ := hh
  refine ⟨v1, v2, v3, v4, rfl, by decide, hS.toI (fun v a2 r2 n2 hh => ?_)⟩
  obtain ⟨rfl, hI2, h0, hv⟩ := hh
  exact ⟨rfl, by decide, thr h0 hv (hk a2 r2 hI2)⟩
theorem b_gets (hI : Inv a r) (h6 : Six G i) (hk : ∀ a r, Inv a r → E G ML_law_ 41 C S 2247 (lwL i) [] (a, r, nK) RT) : E G ML_law_ 41 (C + 1) (S + 6) 1813 (lwL i) [] (a, r, nK) RT := by
  obtain ⟨T, T', L, L', M, M', nc, ns, ng, t, wk, im, lw, ml, h⟩ := hI
  obtain ⟨_, v1, v2, v3, v4, v5, v6⟩ := h6
  refine V_L_law__1813 (d := 40) ⟨v1, v2, v3, (h_gets h).toI (fun k a1 r1 n1 hh => ?_)⟩
  obtain ⟨rfl, hS⟩ := hh
  refine ⟨v1, v2, v3, rfl, by decide, hS.toI (fun v a2 r2 n2 hh => ?_)⟩
  obtain ⟨rfl, hI2, h0, hv⟩ := hh
  exact ⟨rfl, by decide, thr h0 hv (hk a2 r2 hI2)⟩
theorem b_ahead (hI : Inv a r) (h6 : Six G i) (hk : ∀ a r, Inv a r → E G ML_law_ 41 C S 2247 (lwL i) [] (a, r, nK) RT) : E G ML_law_ 41 (C + 1) (S + 6) 1893 (lwL i) [] (a, r, nK) RT := by
  obtain ⟨T, T', L, L', M, M', nc, ns, ng, t, wk, im, lw, ml, h⟩ := hI
  obtain ⟨_, v1, v2, v3, v4, v5, v6⟩ := h6
  refine V_L_law__1893 (d := 40) ⟨v1, v2, (h_ahead h).toI (fun k a1 r1 n1 hh => ?_)⟩
  obtain ⟨rfl, hS⟩ := hh
  refine ⟨v1, v2, rfl, by decide, hS.toI (fun v a2 r2 n2 hh => ?_)⟩
  obtain ⟨rfl, hI2, h0, hv⟩ := hh
  exact ⟨rfl, by decide, thr h0 hv (hk a2 r2 hI2)⟩
theorem b_centuries (hI : Inv a r) (h6 : Six G i) (hk : ∀ a r, Inv a r → E G ML_law_ 41 C S 2247 (lwL i) [] (a, r, nK) RT) : E G ML_law_ 41 (C + 1) (S + 6) 1961 (lwL i) [] (a, r, nK) RT := by
  obtain ⟨T, T', L, L', M, M', nc, ns, ng, t, wk, im, lw, ml, h⟩ := hI
  obtain ⟨_, v1, v2, v3, v4, v5, v6⟩ := h6
  refine V_L_law__1961 (d := 40) ⟨v1, v2, v3, v4, (h_centuries h).toI (fun k a1 r1 n1 hh => ?_)⟩
  obtain ⟨rfl, hS⟩ := hh
  refine ⟨v1, v2, v3, v4, rfl, by decide, hS.toI (fun v a2 r2 n2 hh => ?_)⟩
  obtain ⟨rfl, hI2, h0, hv⟩ := hh
  exact ⟨rfl, by decide, thr h0 hv (hk a2 r2 hI2)⟩
theorem b_span (hI : Inv a r) (h6 : Six G i) (hk : ∀ a r, Inv a r → E G ML_law_ 41 C S 2247 (lwL i) [] (a, r, nK) RT) : E G ML_law_ 41 (C + 1) (S + 6) 2053 (lwL i) [] (a, r, nK) RT := by
  obtain ⟨T, T', L, L', M, M', nc, ns, ng, t, wk, im, lw, ml, h⟩ := hI
  obtain ⟨_, v1, v2, v3, v4, v5, v6⟩ := h6
  refine V_L_law__2053 (d := 40) ⟨v1, v2, v3, v4, v5, v6, (h_span h).toI (fun k a1 r1 n1 hh => ?_)⟩
  obtain ⟨rfl, hS⟩ := hh
  refine ⟨v1, v2, v3, v4, v5, v6, rfl, by decide, hS.toI (fun v a2 r2 n2 hh => ?_)⟩
  obtain ⟨rfl, hI2, h0, hv⟩ := hh
  exact ⟨rfl, by decide, thr h0 hv (hk a2 r2 hI2)⟩
theorem b_image (hI : Inv a r) (h6 : Six G i) (hk : ∀ a r, Inv a r → E G ML_law_ 41 C S 2247 (lwL i) [] (a, r, nK) RT) : E G ML_law_ 41 (C + 1) (S + 6) 2171 (lwL i) [] (a, r, nK) RT := by
  obtain ⟨T, T', L, L', M, M', nc, ns, ng, t, wk, im, lw, ml, h⟩ := hI
  obtain ⟨_, v1, v2, v3, v4, v5, v6⟩ := h6
  refine E.more (Nat.le_succ C) (Nat.le_add_right S 6) (V_L_law__2171 (d := 40) ⟨rfl, by decide, (p_image h).toI (fun w a1 r1 n1 hh => ?_)⟩)
  obtain ⟨rfl, hS⟩ := hh
  refine ⟨rfl, by decide, hS.toI (fun w2 a2 r2 n2 hh => ?_)⟩
  obtain ⟨rfl, rfl, hI2⟩ := hh
  exact ⟨fun _ => hk a2 r2 hI2, fun z => absurd rfl z⟩
theorem b_restore (hI : Inv a r) (h6 : Six G i) (hk : ∀ a r, Inv a r → E G ML_law_ 41 C S 2247 (lwL i) [] (a, r, nK) RT) : E G ML_law_ 41 (C + 1) (S + 6) 2184 (lwL i) [] (a, r, nK) RT := by
  obtain ⟨T, T', L, L', M, M', nc, ns, ng, t, wk, im, lw, ml, h⟩ := hI
  obtain ⟨_, v1, v2, v3, v4, v5, v6⟩ := h6
  refine E.more (Nat.le_succ C) (Nat.le_add_right S 6) (V_L_law__2184 (d := 40) ⟨rfl, by decide, (p_restore h).toI (fun w a1 r1 n1 hh => ?_)⟩)
  obtain ⟨rfl, hS⟩ := hh
  refine ⟨rfl, by decide, hS.toI (fun w2 a2 r2 n2 hh => ?_)⟩
  obtain ⟨rfl, rfl, hI2⟩ := hh
  exact ⟨fun _ => hk a2 r2 hI2, fun z => absurd rfl z⟩
theorem b_status (hI : Inv a r) (h6 : Six G i) (hk : ∀ a r, Inv a r → E G ML_law_ 41 C S 2247 (lwL i) [] (a, r, nK) RT) : E G ML_law_ 41 (C + 1) (S + 6) 2197 (lwL i) [] (a, r, nK) RT := by
  obtain ⟨T, T', L, L', M, M', nc, ns, ng, t, wk, im, lw, ml, h⟩ := hI
  obtain ⟨_, v1, v2, v3, v4, v5, v6⟩ := h6
  refine E.more (Nat.le_succ C) (Nat.le_add_right S 6) (V_L_law__2197 (d := 40) ⟨v1, rfl, by decide, (p_status h).toI (fun w a1 r1 n1 hh => ?_)⟩)
  obtain ⟨rfl, hS⟩ := hh
  refine ⟨v1, rfl, by decide, hS.toI (fun w2 a2 r2 n2 hh => ?_)⟩
  obtain ⟨rfl, rfl, hI2⟩ := hh
  exact ⟨fun _ => hk a2 r2 hI2, fun z => absurd rfl z⟩
theorem b_count (hI : Inv a r) (h6 : Six G i) (hk : ∀ a r, Inv a r → E G ML_law_ 41 C S 2247 (lwL i) [] (a, r, nK) RT) : E G ML_law_ 41 (C + 1) (S + 6) 2222 (lwL i) [] (a, r, nK) RT := by
  obtain ⟨T, T', L, L', M, M', nc, ns, ng, t, wk, im, lw, ml, h⟩ := hI
  obtain ⟨_, v1, v2, v3, v4, v5, v6⟩ := h6
  refine E.more (Nat.le_succ C) (Nat.le_add_right S 6) (V_L_law__2222 (d := 40) ⟨v1, rfl, by decide, (p_count h).toI (fun w a1 r1 n1 hh => ?_)⟩)
  obtain ⟨rfl, hS⟩ := hh
  refine ⟨v1, rfl, by decide, hS.toI (fun w2 a2 r2 n2 hh => ?_)⟩
  obtain ⟨rfl, rfl, hI2⟩ := hh
  exact ⟨fun _ => hk a2 r2 hI2, fun z => absurd rfl z⟩
theorem lw_lt {g k : Nat} (hg : g ≤ 3584) (hk : k ≤ 4000) : (Int32.ofNat g - 7) < nI k ↔ g < k + 7 := by
  have e7 : (7 : Int32) = nI 7 := by decide +kernel
  rw [e7, Int32.lt_iff_toInt_lt, Int32.toInt_sub, show Int32.ofNat g = nI g from rfl, nI_toInt (show g < 2 ^ 31 by omega), nI_toInt (show 7 < 2 ^ 31 by decide), nI_toInt (show k < 2 ^ 31 by omega), Int.bmod_eq_of_le (by omega) (by omega)]
  omega
theorem six_of {k : Nat} (h : 7 * k + 7 ≤ gN G) (hN : gN G ≤ 3584) : Six G (nI (7 * k)) := by
  have key : ∀ j, j < 7 → vp_in (nI (7 * k) + nI j) (gN G) := fun j hj => by
    rw [nI_add]
    exact vp_in_nI (by omega) (by omega)
  exact ⟨vp_in_nI (by omega) (by omega), key 1 (by decide), key 2 (by decide), key 3 (by decide), key 4 (by decide), key 5 (by decide), key 6 (by decide)⟩
set_option maxRecDepth 100000 in
theorem law_loop (hN : gN G ≤ 3584) : ∀ (m k : Nat) (a : IA) (r : RA), gN G < 7 * (k + m) + 7 → k ≤ 512 → Inv a r → E G ML_law_ 41 (C + m) (S + 6 * m) 23 (lwL (nI (7 * k))) [] (a, r, nK) RT := by
  intro m
  induction m with
  | zero =>
    intro k a r hm hk hI
    exact V_L_law__23 (d := 40) ⟨fun _ => ⟨rfl, rfl⟩, fun z => absurd ((lw_lt hN (by omega)).mpr (by omega)) z⟩
  | succ m ih =>
    intro k a r hm hk hI
    by_cases hx : gN G < 7 * k + 7
    · exact V_L_law__23 (d := 40) ⟨fun _ => ⟨rfl, rfl⟩, fun z => absurd ((lw_lt hN (by omega)).mpr hx) z⟩
    have six : Six G (nI (7 * k)) := six_of (by omega) hN
    have hc : ∀ a r, Inv a r → E G ML_law_ 41 (C + m) (S + 6 * m) 2247 (lwL (nI (7 * k))) [] (a, r, nK) RT := fun a r hI => V_L_law__2247 (d := 40) (by
      have e : nI (7 * k) + 7 = nI (7 * (k + 1)) := nI_add (7 * k) 7
      rw [e]
      exact ih (k + 1) a r (by omega) (by omega) hI)
    have e6 : S + 6 * (m + 1) = S + 6 * m + 6 := by omega
    rw [e6]
    refine V_L_law__23 (d := 40) (C := C + m + 1) ⟨fun z => absurd ((lw_lt hN (by omega)).mp z) hx, fun _ => ⟨six.1, ?_⟩⟩
    exact ⟨fun _ => b_feed hI six hc, fun _ => ⟨fun _ => b_city hI six hc, fun _ => ⟨fun _ => b_law hI six hc, fun _ => ⟨fun _ => b_work hI six hc, fun _ => ⟨fun _ => b_post hI six hc, fun _ => ⟨fun _ => b_fault hI six hc, fun _ => ⟨fun _ => b_undo hI six hc, fun _ => ⟨fun _ => b_told hI six hc, fun _ => ⟨fun _ => b_street hI six hc, fun _ => ⟨fun _ => b_likes hI six hc, fun _ => ⟨fun _ => b_banns hI six hc, fun _ => ⟨fun _ => b_number hI six hc, fun _ => ⟨fun _ => b_letter hI six hc, fun _ => ⟨fun _ => b_last hI six hc, fun _ => ⟨fun _ => b_missing hI six hc, fun _ => ⟨fun _ => b_stable hI six hc, fun _ => ⟨fun _ => b_stableFor hI six hc, fun _ => ⟨fun _ => b_best hI six hc, fun _ => ⟨fun _ => b_bestFor hI six hc, fun _ => ⟨fun _ => b_tempted hI six hc, fun _ => ⟨fun _ => b_way hI six hc, fun _ => ⟨fun _ => b_round hI six hc, fun _ => ⟨fun _ => b_reach hI six hc, fun _ => ⟨fun _ => b_bridges hI six hc, fun _ => ⟨fun _ => b_fair hI six hc, fun _ => ⟨fun _ => b_even hI six hc, fun _ => ⟨fun _ => b_mates hI six hc, fun _ => ⟨fun _ => b_look hI six hc, fun _ => ⟨fun _ => b_right hI six hc, fun _ => ⟨fun _ => b_lane hI six hc, fun _ => ⟨fun _ => b_stop hI six hc, fun _ => ⟨fun _ => b_suitors hI six hc, fun _ => ⟨fun _ => b_gets hI six hc, fun _ => ⟨fun _ => b_ahead hI six hc, fun _ => ⟨fun _ => b_centuries hI six hc, fun _ => ⟨fun _ => b_span hI six hc, fun _ => ⟨fun _ => b_image hI six hc, fun _ => ⟨fun _ => b_restore hI six hc, fun _ => ⟨fun _ => b_status hI six hc, fun _ => ⟨fun _ => b_count hI six hc, fun _ => (hc a r hI).more (Nat.le_succ _) (Nat.le_add_right _ 6)⟩⟩⟩⟩⟩⟩⟩⟩⟩⟩⟩⟩⟩⟩⟩⟩⟩⟩⟩⟩⟩⟩⟩⟩⟩⟩⟩⟩⟩⟩⟩⟩⟩⟩⟩⟩⟩⟩⟩⟩
end LWP
