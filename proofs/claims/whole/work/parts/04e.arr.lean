/-! arrays, new cells, returns, switches -/
section AR
variable {G : GE} {M : MI} {d C S pc : Nat} {ρ : Rs} {k : Kt} {h h' : AH} {H H' : Heap} {q ci : Nat}
def s_iaload (k : Kt) : Kt := fun L st h => pIR st (fun q i st => (tyK q).1 = 1 ∧ q < h.2.2 ∧ vp_in i (tyK q).2 ∧ k L (.int (h.1 q i.toNatClampNeg) :: st) h)
theorem e_iaload (hd : decode M.2.1 pc = .ok (.iaload, 1)) (hk : Snd G M d C S (pc + 1) ρ k) : Snd G M d C S pc ρ (s_iaload k) := fun L st h hs => by
  obtain ⟨q, i, r, rfl, hty, hq, hin, hs⟩ := pIR_spec hs
  intro p e R s m args below meth c H locs cells slots ls hC hR hl hW hS
  exact va_iald (D := gD G) (cl := vwCl) (tys := gT G) (ws := wsW G h) hC.1 hC.2.1 hC.2.2.2.2.2.2.2.2.2.1 hW.1 q 0 (by rw [wsW_at G h hq, wEl_ints (n := (tyK q).2) (Prod.ext hty rfl)]) rfl hin hd (hk _ _ _ hs p e R s m args below meth c H locs cells slots ls hC hR hl hW hS)
def s_baload (k : Kt) : Kt := fun L st h => pIR st (fun q i st => (tyK q).1 = 2 ∧ q < h.2.2 ∧ vp_in i (tyK q).2 ∧ k L (.int (h.1 q i.toNatClampNeg) :: st) h)
theorem e_baload (hd : decode M.2.1 pc = .ok (.baload, 1)) (hk : Snd G M d C S (pc + 1) ρ k) : Snd G M d C S pc ρ (s_baload k) := fun L st h hs => by
  obtain ⟨q, i, r, rfl, hty, hq, hin, hs⟩ := pIR_spec hs
  intro p e R s m args below meth c H locs cells slots ls hC hR hl hW hS
  exact va_bald (D := gD G) (cl := vwCl) (tys := gT G) (ws := wsW G h) hC.1 hC.2.1 hC.2.2.2.2.2.2.2.2.2.1 hW.1 q 1 (by rw [wsW_at G h hq, wEl_bytes (n := (tyK q).2) (Prod.ext hty rfl)]) rfl hin hd (hk _ _ _ hs p e R s m args below meth c H locs cells slots ls hC hR hl hW hS)
def s_laload (k : Kt) : Kt := fun L st h => pIR st (fun q i st => (tyK q).1 = 4 ∧ q < h.2.2 ∧ vp_in i (tyK q).2 ∧ k L (.long (vlong (h.2.1 q i.toNatClampNeg)) :: st) h)
theorem e_laload (hd : decode M.2.1 pc = .ok (.laload, 1)) (hk : Snd G M d C S (pc + 1) ρ k) : Snd G M d C S pc ρ (s_laload k) := fun L st h hs => by
  obtain ⟨q, i, r, rfl, hty, hq, hin, hs⟩ := pIR_spec hs
  intro p e R s m args below meth c H locs cells slots ls hC hR hl hW hS
  exact va_lald (D := gD G) (cl := vwCl) (tys := gT G) (ws := wsW G h) (f := fun j => vlong (h.2.1 q j)) hC.1 hC.2.1 hC.2.2.2.2.2.2.2.2.2.1 hW.1 q 3 (by rw [wsW_at G h hq, wEl_longs (n := (tyK q).2) (Prod.ext hty rfl)]) rfl hin hd (hk _ _ _ hs p e R s m args below meth c H locs cells slots ls hC hR hl hW hS)
/-- the law's own script -/
def pSI : List Value → (Int32 → List Value → Prop) → Prop
  | .int i :: .float 0 :: st, k => k i st
  | _, _ => False
theorem pSI_spec {st : List Value} {k : Int32 → List Value → Prop} (h : pSI st k) : ∃ i r, st = .int i :: .float 0 :: r ∧ k i r := by
  unfold pSI at h
  split at h
  · exact ⟨_, _, rfl, h⟩
  · exact h.elim
def s_xaload (G : GE) (k : Kt) : Kt := fun L st h => pSI st (fun i st => vp_in i (gN G) ∧ k L (.int (gX G i.toNatClampNeg) :: st) h)
theorem e_xaload (hd : decode M.2.1 pc = .ok (.iaload, 1)) (hk : Snd G M d C S (pc + 1) ρ k) : Snd G M d C S pc ρ (s_xaload G k) := fun L st h hs => by
  obtain ⟨i, r, rfl, hin, hs⟩ := pSI_spec hs
  intro p e R s m args below meth c H locs cells slots ls hC hR hl hW hS
  have hg := hC.2.2.2.2.2.2.2.2.2
  exact va_sld (A := aG G) hC.1 hC.2.1 hg.2.2.2.1 (Nat.lt_of_lt_of_le hg.2.2.2.2.1 hg.2.2.2.2.2.1) (Nat.not_le.mpr hg.2.2.2.2.1) hS hin hd (hk _ _ _ hs p e R s m args below meth c H locs cells slots ls hC hR hl hW hS)
def pS : List Value → (List Value → Prop) → Prop
  | .float 0 :: st, k => k st
  | _, _ => False
theorem pS_spec {st : List Value} {k : List Value → Prop} (h : pS st k) : ∃ r, st = .float 0 :: r ∧ k r := by
  unfold pS at h
  split at h
  · exact ⟨_, rfl, h⟩
  · exact h.elim
def s_xlen (G : GE) (k : Kt) : Kt := fun L st h => pS st (fun st => k L (.int (Int32.ofNat (gN G)) :: st) h)
theorem e_xlen (hd : decode M.2.1 pc = .ok (.arraylength, 1)) (hk : Snd G M d C S (pc + 1) ρ k) : Snd G M d C S pc ρ (s_xlen G k) := fun L st h hs => by
  obtain ⟨r, rfl, hs⟩ := pS_spec hs
  intro p e R s m args below meth c H locs cells slots ls hC hR hl hW hS
  have hg := hC.2.2.2.2.2.2.2.2.2
  exact va_slen (A := aG G) hC.1 hC.2.1 hg.2.2.2.1 (Nat.lt_of_lt_of_le hg.2.2.2.2.1 hg.2.2.2.2.2.1) (Nat.not_le.mpr hg.2.2.2.2.1) hS hd (hk _ _ _ hs p e R s m args below meth c H locs cells slots ls hC hR hl hW hS)
def s_alen (k : Kt) : Kt := fun L st h => pR st (fun q st => ((tyK q).1 = 1 ∨ (tyK q).1 = 2) ∧ q < h.2.2 ∧ k L (.int (Int32.ofNat (tyK q).2) :: st) h)
theorem e_alen (hd : decode M.2.1 pc = .ok (.arraylength, 1)) (hk : Snd G M d C S (pc + 1) ρ k) : Snd G M d C S pc ρ (s_alen k) := fun L st h hs => by
  obtain ⟨q, r, rfl, hty, hq, hs⟩ := pR_spec hs
  intro p e R s m args below meth c H locs cells slots ls hC hR hl hW hS
  rcases hty with hty | hty
  · exact va_alen (D := gD G) (cl := vwCl) (tys := gT G) (ws := wsW G h) (x := ((tyK q).2, .inl (h.1 q))) hC.1 hC.2.1 hC.2.2.2.2.2.2.2.2.2.1 hW.1 q 0 (by rw [wsW_at G h hq, wEl_ints (n := (tyK q).2) (Prod.ext hty rfl)]) rfl rfl hd (hk _ _ _ hs p e R s m args below meth c H locs cells slots ls hC hR hl hW hS)
  · exact va_alen (D := gD G) (cl := vwCl) (tys := gT G) (ws := wsW G h) (x := ((tyK q).2, .inl (h.1 q))) hC.1 hC.2.1 hC.2.2.2.2.2.2.2.2.2.1 hW.1 q 1 (by rw [wsW_at G h hq, wEl_bytes (n := (tyK q).2) (Prod.ext hty rfl)]) rfl rfl hd (hk _ _ _ hs p e R s m args below meth c H locs cells slots ls hC hR hl hW hS)
/-- a row of a grid -/
def s_aaload (k : Kt) : Kt := fun L st h => pIR st (fun q i st => (tyK q).1 = 3 ∧ q < h.2.2 ∧ vp_in i (tyK q).2 ∧ k L (.ref (q + 1 + i.toNatClampNeg) :: st) h)
theorem e_aaload (hd : decode M.2.1 pc = .ok (.aaload, 1)) (hk : Snd G M d C S (pc + 1) ρ k) : Snd G M d C S pc ρ (s_aaload k) := fun L st h hs => by
  obtain ⟨q, i, r, rfl, hty, hq, hin, hs⟩ := pIR_spec hs
  intro p e R s m args below meth c H locs cells slots ls hC hR hl hW hS
  have hat := Ws_at hW hq
  rw [wEl_grid (n := (tyK q).2) (Prod.ext hty rfl)] at hat
  have hK := hC.2.2.2.2.2.2.2.2.2.1
  have hlt : i.toNatClampNeg < (tyK q).2 := Nat.not_le.mp fun z => hin (Or.inr z)
  exact W.aald (v := .ref (gB G + (q + 1 + i.toNatClampNeg))) (ty := .array .int) hC.1 hC.2.1 hat ((hK.2 2 _ rfl).1 _ (fun j => va_rf (if j < (tyK q).2 then some (gB G + (q + 1 + j)) else none))) rfl (fun z => by cases z) (by show ¬ (i < 0 ∨ (arrV _ _ _).slots.size ≤ _); rw [arrV_size]; exact hin) (by show (arrV _ _ _).slots[_]? = _; rw [arrV_read _ _ hlt]; show some (va_rf (if i.toNatClampNeg < (tyK q).2 then _ else _)) = _; rw [if_pos hlt]; rfl) rfl rfl hd (hk _ _ _ hs p e R s m args below meth c H locs cells slots ls hC hR hl hW hS)
def s_iastore (k : Kt) : Kt := fun L st h => pRII st (fun q i x st => (tyK q).1 = 1 ∧ q < h.2.2 ∧ vp_in i (tyK q).2 ∧ ∀ a, a = u2 h.1 q i.toNatClampNeg x → k L st (a, h.2))
theorem e_iastore (hd : decode M.2.1 pc = .ok (.iastore, 1)) (hk : Snd G M d C S (pc + 1) ρ k) : Snd G M d C S pc ρ (s_iastore k) := fun L st h hs => by
  obtain ⟨q, i, x, r, rfl, hty, hq, hin, hs⟩ := pRII_spec hs
  intro p e R s m args below meth c H locs cells slots ls hC hR hl hW hS
  have hT : tyK q = (1, (tyK q).2) := Prod.ext hty rfl
  have hat := Ws_at hW hq
  rw [wEl_ints hT] at hat
  have hK := hC.2.2.2.2.2.2.2.2.2.1
  refine W.iast hC.1 hC.2.1 hat ((hK.2 0 _ rfl).1 _ (fun j => .int (h.1 q j))) (fun z => by cases z) (by show ¬ (i < 0 ∨ (arrV _ _ _).slots.size ≤ _); rw [arrV_size]; exact hin) rfl rfl hd fun H1 e1 e2 e3 => ?_
  refine hk _ _ _ (hs _ rfl) p e R s m args below meth c H1 _ cells slots ls hC hR hl (Ws_upd (q := q) hW rfl ?_ (fun k hk => u2_off k hk) (fun _ _ => rfl) e2 e3) (hS.put e2 e3 (show gB G ≤ gB G + q from Nat.le_add_right _ _))
  rw [wEl_ints hT]
  show H1[gB G + q]? = some (vp_cell _ _)
  rw [e1, vp_cell_i, vp_cell_i, arrV_store]
  congr 2
  funext j
  show updV _ _ _ j = Value.int (u2 h.1 q i.toNatClampNeg x q j)
  rw [u2_at]
  by_cases hj : j = i.toNatClampNeg
  · simp [updV, hj]
  · simp [updV, hj]
def s_bastore (k : Kt) : Kt := fun L st h => pRII st (fun q i x st => (tyK q).1 = 2 ∧ q < h.2.2 ∧ vp_in i (tyK q).2 ∧ ∀ a, a = u2 h.1 q i.toNatClampNeg (vp_nar .byte x) → k L st (a, h.2))
theorem e_bastore (hd : decode M.2.1 pc = .ok (.bastore, 1)) (hk : Snd G M d C S (pc + 1) ρ k) : Snd G M d C S pc ρ (s_bastore k) := fun L st h hs => by
  obtain ⟨q, i, x, r, rfl, hty, hq, hin, hs⟩ := pRII_spec hs
  intro p e R s m args below meth c H locs cells slots ls hC hR hl hW hS
  have hT : tyK q = (2, (tyK q).2) := Prod.ext hty rfl
  have hat := Ws_at hW hq
  rw [wEl_bytes hT] at hat
  have hK := hC.2.2.2.2.2.2.2.2.2.1
  refine W.bast hC.1 hC.2.1 hat ((hK.2 1 _ rfl).1 _ (fun j => .int (h.1 q j))) (fun z => by cases z) (by show ¬ (i < 0 ∨ (arrV _ _ _).slots.size ≤ _); rw [arrV_size]; exact hin) rfl rfl hd fun H1 e1 e2 e3 => ?_
  refine hk _ _ _ (hs _ rfl) p e R s m args below meth c H1 _ cells slots ls hC hR hl (Ws_upd (q := q) hW rfl ?_ (fun k hk => u2_off k hk) (fun _ _ => rfl) e2 e3) (hS.put e2 e3 (show gB G ≤ gB G + q from Nat.le_add_right _ _))
  rw [wEl_bytes hT]
  show H1[gB G + q]? = some (vp_cell _ _)
  rw [e1, vp_cell_i, vp_cell_i, arrV_store]
  congr 2
  funext j
  show updV _ _ _ j = Value.int (u2 h.1 q i.toNatClampNeg (vp_nar .byte x) q j)
  rw [u2_at]
  by_cases hj : j = i.toNatClampNeg
  · simp [updV, hj, vp_nar]
    try rfl
  · simp [updV, hj]
def s_lastore (k : Kt) : Kt := fun L st h => pRIL st (fun q i x st => (tyK q).1 = 4 ∧ q < h.2.2 ∧ vp_in i (tyK q).2 ∧ ∀ r, r = u2V h.2.1 q i.toNatClampNeg (.long x) → k L st (h.1, r, h.2.2))
theorem e_lastore (hd : decode M.2.1 pc = .ok (.lastore, 1)) (hk : Snd G M d C S (pc + 1) ρ k) : Snd G M d C S pc ρ (s_lastore k) := fun L st h hs => by
  obtain ⟨q, i, x, r, rfl, hty, hq, hin, hs⟩ := pRIL_spec hs
  intro p e R s m args below meth c H locs cells slots ls hC hR hl hW hS
  have hT : tyK q = (4, (tyK q).2) := Prod.ext hty rfl
  have hat := Ws_at hW hq
  rw [wEl_longs hT] at hat
  have hK := hC.2.2.2.2.2.2.2.2.2.1
  refine W.last hC.1 hC.2.1 hat ((hK.2 3 _ rfl).1 _ (fun j => .long (vlong (h.2.1 q j)))) (fun z => by cases z) (by show ¬ (i < 0 ∨ (arrV _ _ _).slots.size ≤ _); rw [arrV_size]; exact hin) rfl rfl hd fun H1 e1 e2 e3 => ?_
  refine hk _ _ _ (hs _ rfl) p e R s m args below meth c H1 _ cells slots ls hC hR hl (Ws_upd (q := q) hW rfl ?_ (fun _ _ => rfl) (fun k hk => u2V_off k hk) e2 e3) (hS.put e2 e3 (show gB G ≤ gB G + q from Nat.le_add_right _ _))
  rw [wEl_longs hT]
  show H1[gB G + q]? = some (vp_cell _ _)
  rw [e1, vp_cell_l, vp_cell_l, arrV_store]
  congr 2
  funext j
  show updV _ _ _ j = Value.long (vlong (u2V h.2.1 q i.toNatClampNeg (.long x) q j))
  rw [u2V_at]
  by_cases hj : j = i.toNatClampNeg
  · simp [updV, hj, vlong]
  · simp [updV, hj]
/-! new cells: what isn't made yet is 0 and null in the abstract heap -/
def s_new (ci : Nat) (k : Kt) : Kt := fun L st h => h.2.2 < nK ∧ tyK h.2.2 = (0, ci) ∧ (∀ j, h.1 h.2.2 j = 0) ∧ (∀ j, h.2.1 h.2.2 j = .null) ∧ k L (.ref h.2.2 :: st) (h.1, h.2.1, h.2.2 + 1)
theorem e_new {T : u_T} {N index : Nat} {Cn : String} {ty0 : Nat → FieldType} (hcl : ClK ci Cn T N ty0) (h1 : Cond.classLink M.1.cls index Cn ∈ wsG) (h2 : Cond.instantiable Cn N ∈ wsG) (h3 : Cond.initialized Cn ∈ wsG) (hd : decode M.2.1 pc = .ok (.new index, 3)) (hk : Snd G M d C S (pc + 3) ρ k) : Snd G M d (C + 1) (S + N) pc ρ (s_new ci k) := fun L st h hs => by
  obtain ⟨hlt, hty, hz1, hz2, hs⟩ := hs
  intro p e R s m args below meth c H locs cells slots ls hC hR hl hW hS
  obtain ⟨hR1, hR2, hR3, hR4⟩ := hR
  have hts := hC.2.2.2.2.2.2.1
  have hK := hC.2.2.2.2.2.2.2.2.2.1
  have hKn := hK.1 ci _ hcl.1
  have hz := hW.2.2.2 hlt
  refine W.newcK hC.1 hC.2.1 hC.2.2.2.2.2.1 (hts _ (wsM_in h1)) (hts _ (wsM_in h2)) (hts _ (wsM_in h3)) rfl hd (by omega) (by omega) hKn.2.1 hz fun H1 kC hkC e1 z1 o1 => ?_
  have o1 : ∀ a, a < H.size → H1[a]? = H[a]? := fun a ha => o1 a (by omega)
  refine hk _ _ _ hs p e R s m args below meth c H1 locs (cells + 1) (slots + N) ls hC ⟨hR1, hR2, by omega, by omega⟩ hl (Ws_new hW ?_ hlt (by omega) o1) (hS_new hS (by omega) o1)
  rw [wEl_obj hty]
  refine ⟨_, hcl.1, (u_born ty0 hts (fun w h9 => wsM_in (hcl.2.1 w h9)) hKn hkC e1 hcl.2.2.2.1).to (fun j hj => ?_)⟩
  have hj : j < N := hj
  unfold vp_V
  rw [List.getD_eq_getElem?_getD, fs_at hcl.2.2.1 hj, hcl.2.2.2.2.2 j hj]
  unfold fldV
  rw [hz1, hz2]
  rfl
def s_newI (k : Kt) : Kt := fun L st h => p1 st (fun x st => h.2.2 < nK ∧ tyK h.2.2 = (1, x.toNatClampNeg) ∧ ¬ x < 0 ∧ (∀ j, h.1 h.2.2 j = 0) ∧ k L (.ref h.2.2 :: st) (h.1, h.2.1, h.2.2 + 1))
theorem e_newI {N : Nat} (hw : Cond.arrayClass .int ∈ wsG) (hN : N * 4 ≤ 536870912) (hd : decode M.2.1 pc = .ok (.newarray .int, 2)) (hk : Snd G M d C S (pc + 2) ρ k) : Snd G M d (C + 1) (S + N) pc ρ (fun L st h => p1 st (fun x _ => x.toNatClampNeg = N) ∧ s_newI k L st h) := fun L st h hs => by
  obtain ⟨hs0, hs⟩ := hs
  obtain ⟨x, r, rfl, hlt, hty, h0, hz1, hs⟩ := p1_spec hs
  have hx : x.toNatClampNeg = N := hs0
  intro p e R s m args below meth c H locs cells slots ls hC hR hl hW hS
  obtain ⟨hR1, hR2, hR3, hR4⟩ := hR
  have hts := hC.2.2.2.2.2.2.1
  have hK := hC.2.2.2.2.2.2.2.2.2.1
  have hz := hW.2.2.2 hlt
  refine va_newaK (atype := .int) hC.1 hC.2.1 (hts _ (wsM_in hw)) rfl hd rfl h0 hx hN (by omega) (by omega) hz fun H1 cA e1 z1 o1 _ hf => ?_
  have o1 : ∀ a, a < H.size → H1[a]? = H[a]? := fun a ha => o1 a (by omega)
  refine hk _ _ _ hs p e R s m args below meth c H1 locs (cells + 1) (slots + N) ls hC ⟨hR1, hR2, by omega, by omega⟩ hl (Ws_new hW ?_ hlt (by omega) o1) (hS_new hS (by omega) o1)
  have hc : cA = gcI G := Option.some.inj (hf.symm.trans (hK.2 0 _ rfl).2)
  rw [hx] at hty
  rw [wEl_ints hty]
  show H1[gB G + h.2.2]? = some (vp_cell _ _)
  rw [e1, hc, vp_cell_i]
  congr 2
  funext j
  rw [hz1]
  rfl
def s_newB (k : Kt) : Kt := fun L st h => p1 st (fun x st => h.2.2 < nK ∧ tyK h.2.2 = (2, x.toNatClampNeg) ∧ ¬ x < 0 ∧ (∀ j, h.1 h.2.2 j = 0) ∧ k L (.ref h.2.2 :: st) (h.1, h.2.1, h.2.2 + 1))
theorem e_newB {N : Nat} (hw : Cond.arrayClass .byte ∈ wsG) (hN : N * 1 ≤ 536870912) (hd : decode M.2.1 pc = .ok (.newarray .byte, 2)) (hk : Snd G M d C S (pc + 2) ρ k) : Snd G M d (C + 1) (S + N) pc ρ (fun L st h => p1 st (fun x _ => x.toNatClampNeg = N) ∧ s_newB k L st h) := fun L st h hs => by
  obtain ⟨hs0, hs⟩ := hs
  obtain ⟨x, r, rfl, hlt, hty, h0, hz1, hs⟩ := p1_spec hs
  have hx : x.toNatClampNeg = N := hs0
  intro p e R s m args below meth c H locs cells slots ls hC hR hl hW hS
  obtain ⟨hR1, hR2, hR3, hR4⟩ := hR
  have hts := hC.2.2.2.2.2.2.1
  have hK := hC.2.2.2.2.2.2.2.2.2.1
  have hz := hW.2.2.2 hlt
  refine va_newaK (atype := .byte) hC.1 hC.2.1 (hts _ (wsM_in hw)) rfl hd rfl h0 hx hN (by omega) (by omega) hz fun H1 cA e1 z1 o1 _ hf => ?_
  have o1 : ∀ a, a < H.size → H1[a]? = H[a]? := fun a ha => o1 a (by omega)
  refine hk _ _ _ hs p e R s m args below meth c H1 locs (cells + 1) (slots + N) ls hC ⟨hR1, hR2, by omega, by omega⟩ hl (Ws_new hW ?_ hlt (by omega) o1) (hS_new hS (by omega) o1)
  have hc : cA = gcB G := Option.some.inj (hf.symm.trans (hK.2 1 _ rfl).2)
  rw [hx] at hty
  rw [wEl_bytes hty]
  show H1[gB G + h.2.2]? = some (vp_cell _ _)
  rw [e1, hc, vp_cell_i]
  congr 2
  funext j
  rw [hz1]
  rfl
def s_newL (k : Kt) : Kt := fun L st h => p1 st (fun x st => h.2.2 < nK ∧ tyK h.2.2 = (4, x.toNatClampNeg) ∧ ¬ x < 0 ∧ (∀ j, h.2.1 h.2.2 j = .null) ∧ k L (.ref h.2.2 :: st) (h.1, h.2.1, h.2.2 + 1))
theorem e_newL {N : Nat} (hw : Cond.arrayClass .long ∈ wsG) (hN : N * 8 ≤ 536870912) (hd : decode M.2.1 pc = .ok (.newarray .long, 2)) (hk : Snd G M d C S (pc + 2) ρ k) : Snd G M d (C + 1) (S + N) pc ρ (fun L st h => p1 st (fun x _ => x.toNatClampNeg = N) ∧ s_newL k L st h) := fun L st h hs => by
  obtain ⟨hs0, hs⟩ := hs
  obtain ⟨x, r, rfl, hlt, hty, h0, hz1, hs⟩ := p1_spec hs
  have hx : x.toNatClampNeg = N := hs0
  intro p e R s m args below meth c H locs cells slots ls hC hR hl hW hS
  obtain ⟨hR1, hR2, hR3, hR4⟩ := hR
  have hts := hC.2.2.2.2.2.2.1
  have hK := hC.2.2.2.2.2.2.2.2.2.1
  have hz := hW.2.2.2 hlt
  refine va_newaK (atype := .long) hC.1 hC.2.1 (hts _ (wsM_in hw)) rfl hd rfl h0 hx hN (by omega) (by omega) hz fun H1 cA e1 z1 o1 _ hf => ?_
  have o1 : ∀ a, a < H.size → H1[a]? = H[a]? := fun a ha => o1 a (by omega)
  refine hk _ _ _ hs p e R s m args below meth c H1 locs (cells + 1) (slots + N) ls hC ⟨hR1, hR2, by omega, by omega⟩ hl (Ws_new hW ?_ hlt (by omega) o1) (hS_new hS (by omega) o1)
  have hc : cA = gcL G := Option.some.inj (hf.symm.trans (hK.2 3 _ rfl).2)
  rw [hx] at hty
  rw [wEl_longs hty]
  show H1[gB G + h.2.2]? = some (vp_cell _ _)
  rw [e1, hc, vp_cell_l]
  congr 2
  funext j
  rw [hz1]
  rfl
/-- new int[n][k]: the outer array, then its rows -/
def s_grid (n m : Nat) (k : Kt) : Kt := fun L st h => p2 st (fun a b st => a.toNatClampNeg = n ∧ b.toNatClampNeg = m ∧ ¬ a < 0 ∧ ¬ b < 0 ∧ h.2.2 + 1 + n ≤ nK ∧ tyK h.2.2 = (3, n) ∧ (∀ i, i < n → tyK (h.2.2 + 1 + i) = (1, m)) ∧ (∀ i, i < n → ∀ j, h.1 (h.2.2 + 1 + i) j = 0) ∧ k L (.ref h.2.2 :: st) (h.1, h.2.1, h.2.2 + 1 + n))
theorem e_grid {n m index : Nat} (hw1 : Cond.classLink M.1.cls index ("[" ++ (FieldType.array .int).toString) ∈ wsG) (hw2 : Cond.arrayClass .int ∈ wsG) (hn4 : n * 4 ≤ 536870912) (hm4 : m * 4 ≤ 536870912) (hd : decode M.2.1 pc = .ok (.multianewarray index 2, 4)) (hk : Snd G M d C S (pc + 4) ρ k) : Snd G M d (C + (1 + n)) (S + (n + n * m)) pc ρ (s_grid n m k) := fun L st h hs => by
  obtain ⟨a, b, r, rfl, ha, hb, ha0, hb0, hle, hty, htyr, hz, hs⟩ := p2_spec hs
  intro p e R s mm args below meth c H locs cells slots ls hC hR hl hW hS
  obtain ⟨hR1, hR2, hR3, hR4⟩ := hR
  have hts := hC.2.2.2.2.2.2.1
  have hK := hC.2.2.2.2.2.2.2.2.2.1
  have hzs := hW.2.2.2 (by omega)
  intro T hT X
  obtain ⟨vm₁, cA, comp, -, fA, fC, hO, -, X', step⟩ := X.multianewarray2F hC.1 hC.2.2.2.2.2.1 (hts _ (wsM_in hw1)) (va_AOA.use hC.2.2.2.2.2.2.2.2.2.2.2.1) (hts _ (wsM_in hw2)) (g := F0 mm pc ls (.int b :: .int a :: r.map (cv G))) rfl (by rw [hC.2.1]; exact hd) rfl ha0 hb0 (by rw [ha]; exact hn4) (by rw [hb]; exact hm4) (by rw [hb]; omega) rfl rfl (by rw [ha]; omega) (by rw [ha, hb]; omega)
  rw [ha, hb] at X' step
  generalize hF : Jvm.Free.Multi.fill (T.setVm vm₁) cA comp n m (defaultValue .int) n = F at X' step
  have hTh : (T.setVm vm₁).heap = H := hT
  obtain ⟨f1, f2, -, -⟩ := Jvm.Free.Multi.fill_facts (T.setVm vm₁) cA comp n m (defaultValue .int) n
  rw [hF, hTh] at f1 f2
  have hold : ∀ x : Nat, x < H.size → F.heap[x]? = H[x]? := fun x hx => by
    have := Jvm.Free.Multi.fill_old (T.setVm vm₁) cA comp n m (defaultValue .int) (a := x) (by rw [hTh]; exact hx) n
    rw [hF, hTh] at this
    exact this
  have hrow : ∀ j : Nat, j < n → F.heap[H.size + 1 + j]? = some (Jvm.Free.Multi.innerC comp m (defaultValue .int)) := fun j hj => by
    have := Jvm.Free.Multi.fill_inner (T.setVm vm₁) cA comp n m (defaultValue .int) n j hj
    rw [hF, hTh] at this
    exact this
  have hcA : cA = gcG G := Option.some.inj (fA.symm.trans (hK.2 2 _ rfl).2)
  have hcC : comp = gcI G := Option.some.inj (fC.symm.trans (hK.2 0 _ rfl).2)
  have hWn : Ws G (h.1, h.2.1, h.2.2 + 1 + n) F.heap := by
    refine ⟨fun i x hx => ?_, hle, by show gB G + (h.2.2 + 1 + n) ≤ _; omega, fun _ => by show _ = gB G + (h.2.2 + 1 + n); omega⟩
    obtain ⟨hi, rfl⟩ := wsW_of hx
    have hi : i < h.2.2 + 1 + n := hi
    rcases Nat.lt_trichotomy i h.2.2 with e1 | e1 | e1
    · exact (Ws_at hW e1).kept (hold _ (by show gB G + i < _; omega))
    · subst e1
      rw [show wEl G (h.1, h.2.1, h.2.2 + 1 + n) h.2.2 = wEl G h h.2.2 from rfl, wEl_grid hty]
      show F.heap[gB G + h.2.2]? = some (vp_cell _ _)
      rw [← hzs, f2, hcA, vp_cell_q, vr_outer]
      congr 2
      funext j
      by_cases hj : j < n
      · rw [if_pos hj, if_pos hj, hzs]
        congr 2
        omega
      · rw [if_neg hj, if_neg hj]
    · obtain ⟨j, rfl⟩ : ∃ j, i = h.2.2 + 1 + j := ⟨i - h.2.2 - 1, by omega⟩
      have hj : j < n := by omega
      rw [show wEl G (h.1, h.2.1, h.2.2 + 1 + n) (h.2.2 + 1 + j) = wEl G h (h.2.2 + 1 + j) from rfl, wEl_ints (htyr j hj)]
      show F.heap[gB G + (h.2.2 + 1 + j)]? = some (vp_cell _ _)
      rw [show gB G + (h.2.2 + 1 + j) = H.size + 1 + j by omega, hrow j hj, hcC, vp_cell_i]
      unfold Jvm.Free.Multi.innerC
      rw [arrV_new]
      congr 2
      funext z
      rw [hz j hj]
      rfl
  have hk9 := hk _ _ _ hs p e R s mm args below meth c F.heap locs (cells + 1 + n) (slots + n + n * m) ls hC ⟨hR1, hR2, by omega, by omega⟩ hl hWn (hS_new hS (by omega) hold)
  obtain ⟨t, a1, b1⟩ := hk9 F rfl X'
  refine ⟨t, step t ?_, b1⟩
  have e9 : T.heap.size = gB G + h.2.2 := by rw [hT]; exact hzs
  rw [e9]
  exact a1
end AR
