/-! instructions on the heap -/
def u2 (f : Nat → Nat → Int32) (q j : Nat) (x : Int32) : Nat → Nat → Int32 := va_up f q (upd (f q) j x)
def u2V (f : Nat → Nat → Value) (q j : Nat) (x : Value) : Nat → Nat → Value := va_up f q (va_up (f q) j x)
theorem u2_at (f : Nat → Nat → Int32) (q j : Nat) (x : Int32) (q' j' : Nat) : u2 f q j x q' j' = if q' = q ∧ j' = j then x else f q' j' := by
  unfold u2 va_up upd
  by_cases h : q' = q
  · subst h
    by_cases h2 : j' = j <;> simp [h2]
  · simp [h]
theorem u2V_at (f : Nat → Nat → Value) (q j : Nat) (x : Value) (q' j' : Nat) : u2V f q j x q' j' = if q' = q ∧ j' = j then x else f q' j' := by
  unfold u2V va_up
  by_cases h : q' = q
  · subst h
    by_cases h2 : j' = j <;> simp [h2]
  · simp [h]
def ClK (ci : Nat) (C : String) (T : u_T) (N : Nat) (ty0 : Nat → FieldType) : Prop :=
  vwCl[ci]? = some (C, T, N) ∧ (∀ w ∈ u_ws C T N, w ∈ wsG) ∧ nfl ci = N ∧ (∀ k, k < N → parseFieldDescriptor (T k).2.2.1 = some (ty0 k)) ∧ (∀ a, a < N → ∀ b, b < N → a ≠ b → (T a).2.1 ≠ (T b).2.1) ∧ (∀ j, j < N → defaultValue (ty0 j) = if frk ci j then .null else .int 0)
section HP
variable {G : GE} {M : MI} {d C S pc : Nat} {ρ : Rs} {k : Kt} {h h' : AH} {H H' : Heap} {q ci : Nat}
theorem wEl_obj (hty : tyK q = (0, ci)) : wEl G h q = .inr (ci, (List.range (nfl ci)).map (fldV G h q ci)) := by
  unfold wEl
  rw [hty]
  rfl
theorem wEl_ints {n : Nat} (hty : tyK q = (1, n)) : wEl G h q = .inl (gcI G, n, .inl (h.1 q)) := by
  unfold wEl
  rw [hty]
  rfl
theorem wEl_bytes {n : Nat} (hty : tyK q = (2, n)) : wEl G h q = .inl (gcB G, n, .inl (h.1 q)) := by
  unfold wEl
  rw [hty]
  rfl
theorem wEl_grid {n : Nat} (hty : tyK q = (3, n)) : wEl G h q = .inl (gcG G, n, .inr (.inr (.inr (.inr (fun i => if i < n then some (gB G + (q + 1 + i)) else none))))) := by
  unfold wEl
  rw [hty]
  rfl
theorem wEl_longs {n : Nat} (hty : tyK q = (4, n)) : wEl G h q = .inl (gcL G, n, .inr (.inl (fun j => vlong (h.2.1 q j)))) := by
  unfold wEl
  rw [hty]
  rfl
theorem wEl_congr (h1 : h'.1 q = h.1 q) (h2 : h'.2.1 q = h.2.1 q) : wEl G h' q = wEl G h q := by
  unfold wEl
  have e : ∀ ci, fldV G h' q ci = fldV G h q ci := fun ci => by
    funext j
    unfold fldV
    rw [h1, h2]
  rw [e, h1, h2]
theorem Ws_at (hW : Ws G h H) (hq : q < h.2.2) : va_at (gD G) vwCl (gB G + q, wEl G h q) H := hW.1 q _ (wsW_at G h hq)
theorem Ws_upd (hW : Ws G h H) (hn : h'.2.2 = h.2.2) (hat : va_at (gD G) vwCl (gB G + q, wEl G h' q) H') (ho1 : ∀ k, k ≠ q → h'.1 k = h.1 k) (ho2 : ∀ k, k ≠ q → h'.2.1 k = h.2.1 k) (hs : H'.size = H.size) (hk : ∀ a, a ≠ gB G + q → H'[a]? = H[a]?) : Ws G h' H' := by
  refine ⟨fun i x hx => ?_, by rw [hn]; exact hW.2.1, by rw [hn, hs]; exact hW.2.2.1, fun h9 => by rw [hn] at h9 ⊢; rw [hs]; exact hW.2.2.2 h9⟩
  obtain ⟨hi, rfl⟩ := wsW_of hx
  by_cases e : i = q
  · subst e; exact hat
  · rw [wEl_congr (ho1 i e) (ho2 i e)]
    exact (Ws_at hW (by rw [← hn]; exact hi)).kept (hk _ (by omega))
theorem Ws_new (hW : Ws G h H) (hat : va_at (gD G) vwCl (gB G + h.2.2, wEl G h h.2.2) H') (hlt : h.2.2 < nK) (hs : H'.size = H.size + 1) (hk : ∀ a, a < H.size → H'[a]? = H[a]?) : Ws G (h.1, h.2.1, h.2.2 + 1) H' := by
  have hz := hW.2.2.2 hlt
  refine ⟨fun i x hx => ?_, hlt, by show gB G + (h.2.2 + 1) ≤ _; omega, fun _ => by show _ = gB G + (h.2.2 + 1); omega⟩
  obtain ⟨hi, rfl⟩ := wsW_of hx
  have hi : i < h.2.2 + 1 := hi
  by_cases e : i = h.2.2
  · subst e; exact hat
  · exact (Ws_at hW (show i < h.2.2 by omega)).kept (hk _ (by show gB G + i < _; omega))
theorem hS_new {A : Nat → Prop} {H0 : Heap} {locs : List Loc} (hS : va_S A H0 H locs) (hs : H.size ≤ H'.size) (hk : ∀ a, a < H.size → H'[a]? = H[a]?) : va_S A H0 H' locs :=
  ⟨Nat.le_trans hS.1 hs, fun x h1 h2 => (hk x (Nat.lt_of_lt_of_le h1 hS.1)).trans (hS.2.1 x h1 h2), hS.2.2⟩
/-! fields -/
def pR : List Value → (Nat → List Value → Prop) → Prop
  | .ref q :: st, k => k q st
  | _, _ => False
theorem pR_spec {st : List Value} {k : Nat → List Value → Prop} (h : pR st k) : ∃ q r, st = .ref q :: r ∧ k q r := by
  unfold pR at h
  split at h
  · exact ⟨_, _, rfl, h⟩
  · exact h.elim
def pIR : List Value → (Nat → Int32 → List Value → Prop) → Prop
  | .int x :: .ref q :: st, k => k q x st
  | _, _ => False
theorem pIR_spec {st : List Value} {k : Nat → Int32 → List Value → Prop} (h : pIR st k) : ∃ q x r, st = .int x :: .ref q :: r ∧ k q x r := by
  unfold pIR at h
  split at h
  · exact ⟨_, _, _, rfl, h⟩
  · exact h.elim
def pRR : List Value → (Nat → Nat → List Value → Prop) → Prop
  | .ref x :: .ref q :: st, k => k q x st
  | _, _ => False
theorem pRR_spec {st : List Value} {k : Nat → Nat → List Value → Prop} (h : pRR st k) : ∃ q x r, st = .ref x :: .ref q :: r ∧ k q x r := by
  unfold pRR at h
  split at h
  · exact ⟨_, _, _, rfl, h⟩
  · exact h.elim
def pRII : List Value → (Nat → Int32 → Int32 → List Value → Prop) → Prop
  | .int x :: .int i :: .ref q :: st, k => k q i x st
  | _, _ => False
theorem pRII_spec {st : List Value} {k : Nat → Int32 → Int32 → List Value → Prop} (h : pRII st k) : ∃ q i x r, st = .int x :: .int i :: .ref q :: r ∧ k q i x r := by
  unfold pRII at h
  split at h
  · exact ⟨_, _, _, _, rfl, h⟩
  · exact h.elim
def pRIL : List Value → (Nat → Int32 → Int64 → List Value → Prop) → Prop
  | .long x :: .int i :: .ref q :: st, k => k q i x st
  | _, _ => False
theorem pRIL_spec {st : List Value} {k : Nat → Int32 → Int64 → List Value → Prop} (h : pRIL st k) : ∃ q i x r, st = .long x :: .int i :: .ref q :: r ∧ k q i x r := by
  unfold pRIL at h
  split at h
  · exact ⟨_, _, _, _, rfl, h⟩
  · exact h.elim
def s_getI (ci j : Nat) (k : Kt) : Kt := fun L st h => pR st (fun q st => tyK q = (0, ci) ∧ q < h.2.2 ∧ k L (.int (h.1 q j) :: st) h)
def s_getR (ci j : Nat) (k : Kt) : Kt := fun L st h => pR st (fun q st => tyK q = (0, ci) ∧ q < h.2.2 ∧ ∃ t, h.2.1 q j = .ref t ∧ k L (.ref t :: st) h)
theorem fs_at {j N : Nat} (hN : nfl ci = N) (hj : j < N) : ((List.range (nfl ci)).map (fldV G h q ci))[j]? = some (fldV G h q ci j) := by
  rw [List.getElem?_map, List.getElem?_range (by omega)]
  rfl
theorem e_get {own : String} {T : u_T} {N j index : Nat} {Cn : String} {ty0 : Nat → FieldType} {v : Value} {L r : List Value} (hown : M.1.cls = own) (hcl : ClK ci Cn T N ty0) (hj : j < N) (hw : Cond.fieldLink own index (T j).1 (T j).2.1 (T j).2.2.1 ∈ wsG) (hd : decode M.2.1 pc = .ok (.getfield index, 3))
    (hty : tyK q = (0, ci)) (hq : q < h.2.2) (hv : cv G v = fldV G h q ci j) (hk : E G M d C S (pc + 3) L (v :: r) h ρ) : E G M d C S pc L (.ref q :: r) h ρ :=
  fun p e R s m args below meth c H locs cells slots ls hC hR hl hW hS => by
    subst hown
    exact va_get (D := gD G) (cl := vwCl) (tys := gT G) (ws := wsW G h) (C := Cn) (T := T) (N := N) (ci := ci) (Ts := wsM M) hC.1 hC.2.1 hC.2.2.2.2.2.2.1 (fun w h9 => wsM_in (hcl.2.1 w h9)) hC.2.2.2.2.2.1 hC.2.2.2.2.2.2.2.2.2.1 hW.1 q (by rw [wsW_at G h hq, wEl_obj hty]) hcl.1 j hj (hC.2.2.2.2.2.2.1 _ (wsM_in hw)) (fun _ h9 => h9) (v := cv G v) (by rw [fs_at hcl.2.2.1 hj, hv]) hd
      (hk p e R s m args below meth c H locs cells slots ls hC hR hl hW hS)
theorem e_getNx {own host : String} {T : u_T} {N j index : Nat} {Cn : String} {ty0 : Nat → FieldType} {v : Value} {L r : List Value} (hown : M.1.cls = own) (hcl : ClK ci Cn T N ty0) (hj : j < N) (hw : Cond.fieldLinkNest own index (T j).1 (T j).2.1 (T j).2.2.1 host ∈ wsN) (hd : decode M.2.1 pc = .ok (.getfield index, 3))
    (hty : tyK q = (0, ci)) (hq : q < h.2.2) (hv : cv G v = fldV G h q ci j) (hk : E G M d C S (pc + 3) L (v :: r) h ρ) : E G M d C S pc L (.ref q :: r) h ρ :=
  fun p e R s m args below meth c H locs cells slots ls hC hR hl hW hS => by
    subst hown
    exact va_getN (D := gD G) (cl := vwCl) (tys := gT G) (ws := wsW G h) (C := Cn) (T := T) (N := N) (ci := ci) (Ts := wsM M) hC.1 hC.2.1 hC.2.2.2.2.2.2.1 (fun w h9 => wsM_in (hcl.2.1 w h9)) hC.2.2.2.2.2.1 hC.2.2.2.2.2.2.2.2.2.1 hW.1 q (by rw [wsW_at G h hq, wEl_obj hty]) hcl.1 j hj (nw_use rfl (hC.2.2.2.2.2.2.2.2.2.2.1 _ hw)) (fun _ h9 => h9) (v := cv G v) (by rw [fs_at hcl.2.2.1 hj, hv]) hd
      (hk p e R s m args below meth c H locs cells slots ls hC hR hl hW hS)
theorem e_getI {own : String} {T : u_T} {N j index : Nat} {Cn : String} {ty0 : Nat → FieldType} (hown : M.1.cls = own) (hcl : ClK ci Cn T N ty0) (hj : j < N) (hf : frk ci j = false) (hw : Cond.fieldLink own index (T j).1 (T j).2.1 (T j).2.2.1 ∈ wsG) (hd : decode M.2.1 pc = .ok (.getfield index, 3)) (hk : Snd G M d C S (pc + 3) ρ k) : Snd G M d C S pc ρ (s_getI ci j k) := fun L st h hs => by
  obtain ⟨q, r, rfl, hty, hq, hs⟩ := pR_spec hs
  exact e_get hown hcl hj hw hd hty hq (by unfold fldV; rw [hf]; rfl) (hk _ _ _ hs)
theorem e_getR {own : String} {T : u_T} {N j index : Nat} {Cn : String} {ty0 : Nat → FieldType} (hown : M.1.cls = own) (hcl : ClK ci Cn T N ty0) (hj : j < N) (hf : frk ci j = true) (hw : Cond.fieldLink own index (T j).1 (T j).2.1 (T j).2.2.1 ∈ wsG) (hd : decode M.2.1 pc = .ok (.getfield index, 3)) (hk : Snd G M d C S (pc + 3) ρ k) : Snd G M d C S pc ρ (s_getR ci j k) := fun L st h hs => by
  obtain ⟨q, r, rfl, hty, hq, t, ht, hs⟩ := pR_spec hs
  exact e_get (v := .ref t) hown hcl hj hw hd hty hq (by unfold fldV; rw [hf, ht]; rfl) (hk _ _ _ hs)
theorem e_getIN {own host : String} {T : u_T} {N j index : Nat} {Cn : String} {ty0 : Nat → FieldType} (hown : M.1.cls = own) (hcl : ClK ci Cn T N ty0) (hj : j < N) (hf : frk ci j = false) (hw : Cond.fieldLinkNest own index (T j).1 (T j).2.1 (T j).2.2.1 host ∈ wsN) (hd : decode M.2.1 pc = .ok (.getfield index, 3)) (hk : Snd G M d C S (pc + 3) ρ k) : Snd G M d C S pc ρ (s_getI ci j k) := fun L st h hs => by
  obtain ⟨q, r, rfl, hty, hq, hs⟩ := pR_spec hs
  exact e_getNx hown hcl hj hw hd hty hq (by unfold fldV; rw [hf]; rfl) (hk _ _ _ hs)
theorem e_getRN {own host : String} {T : u_T} {N j index : Nat} {Cn : String} {ty0 : Nat → FieldType} (hown : M.1.cls = own) (hcl : ClK ci Cn T N ty0) (hj : j < N) (hf : frk ci j = true) (hw : Cond.fieldLinkNest own index (T j).1 (T j).2.1 (T j).2.2.1 host ∈ wsN) (hd : decode M.2.1 pc = .ok (.getfield index, 3)) (hk : Snd G M d C S (pc + 3) ρ k) : Snd G M d C S pc ρ (s_getR ci j k) := fun L st h hs => by
  obtain ⟨q, r, rfl, hty, hq, t, ht, hs⟩ := pR_spec hs
  exact e_getNx (v := .ref t) hown hcl hj hw hd hty hq (by unfold fldV; rw [hf, ht]; rfl) (hk _ _ _ hs)
def s_putI (ci j : Nat) (k : Kt) : Kt := fun L st h => pIR st (fun q x st => tyK q = (0, ci) ∧ q < h.2.2 ∧ ∀ a, a = u2 h.1 q j x → k L st (a, h.2))
def s_putR (ci j : Nat) (k : Kt) : Kt := fun L st h => pRR st (fun q x st => tyK q = (0, ci) ∧ q < h.2.2 ∧ ∀ r, r = u2V h.2.1 q j (.ref x) → k L st (h.1, r, h.2.2))
/-- a field of an object is written: the world behind it -/
theorem Ws_fld {T : u_T} {N j : Nat} {Cn : String} {ty0 : Nat → FieldType} {cell : Cell} {s : State} {args : Array Value} {f : Nat} {v : Value} (hcl : ClK ci Cn T N ty0) (hj : j < N) (hts : ∀ w ∈ wsM M, w.before args s = true) (hK : va_K (gD G) vwCl (gT G) s) (hW : Ws G h H) (hq : q < h.2.2) (hty : tyK q = (0, ci))
    (q1 : H[gB G + q]? = some cell) (q2 : cell.cls = (gD G).1 ci) (q3 : cell.vm = .none) (q4 : ∀ k, k < N → cell.slots[(gD G).2 ci k]? = some (vp_V ((List.range (nfl ci)).map (fldV G h q ci)) k)) (hsl : f = (gD G).2 ci j)
    (e1 : H'[gB G + q]? = some (cell.setSlot f v)) (e2 : H'.size = H.size) (e3 : ∀ a, a ≠ gB G + q → H'[a]? = H[a]?)
    (hn : h'.2.2 = h.2.2) (ho1 : ∀ k, k ≠ q → h'.1 k = h.1 k) (ho2 : ∀ k, k ≠ q → h'.2.1 k = h.2.1 k) (hv : fldV G h' q ci j = v) (hv2 : ∀ i, i ≠ j → fldV G h' q ci i = fldV G h q ci i) : Ws G h' H' := by
  have hap := va_apart (own := Cn) (Ts := wsM M) hts (fun w h9 => wsM_in (hcl.2.1 w h9)) ty0 hcl.2.2.2.1 hcl.2.2.2.2.1 hK hcl.1
  subst hsl
  refine Ws_upd hW hn ?_ ho1 ho2 e2 e3
  rw [wEl_obj hty]
  refine ⟨_, hcl.1, t_OB.to (V := updV (vp_V ((List.range (nfl ci)).map (fldV G h q ci))) j v) ⟨_, e1, q2, q3, t_set q4 hap hj v⟩ (fun i hi => ?_)⟩
  have hi : i < N := hi
  unfold updV vp_V
  rw [List.getD_eq_getElem?_getD, List.getD_eq_getElem?_getD, fs_at (h := h') hcl.2.2.1 hi, fs_at (h := h) hcl.2.2.1 hi]
  by_cases e : i = j
  · subst e; simp [hv]
  · simp [e, hv2 i e]
theorem e_put {own : String} {T : u_T} {N j index : Nat} {Cn : String} {ty0 : Nat → FieldType} {ty : FieldType} {v : Value} {L r : List Value} (hown : M.1.cls = own) (hcl : ClK ci Cn T N ty0) (hj : j < N) (hfin : (T j).2.2.2 = false) (hpd : parseFieldDescriptor (T j).2.2.1 = some ty) (hna : narrow ty (cv G v) = cv G v) (hfi : fits ty (cv G v) = true) (hw : Cond.fieldLink own index (T j).1 (T j).2.1 (T j).2.2.1 ∈ wsG) (hd : decode M.2.1 pc = .ok (.putfield index, 3))
    (hty : tyK q = (0, ci)) (hq : q < h.2.2) (hn : h'.2.2 = h.2.2) (ho1 : ∀ k, k ≠ q → h'.1 k = h.1 k) (ho2 : ∀ k, k ≠ q → h'.2.1 k = h.2.1 k) (hv : fldV G h' q ci j = cv G v) (hv2 : ∀ i, i ≠ j → fldV G h' q ci i = fldV G h q ci i)
    (hk : E G M d C S (pc + 3) L r h' ρ) : E G M d C S pc L (v :: .ref q :: r) h ρ :=
  fun p e R s m args below meth c H locs cells slots ls hC hR hl hW hS => by
    subst hown
    have hts := hC.2.2.2.2.2.2.1
    have hin : ∀ w ∈ u_ws Cn T N, w ∈ wsM M := fun w h9 => wsM_in (hcl.2.1 w h9)
    have hK := hC.2.2.2.2.2.2.2.2.2.1
    have hat := Ws_at hW hq
    rw [wEl_obj hty] at hat
    obtain ⟨r0, h1, cell, q1, q2, q3, q4⟩ := hat
    have hr : r0 = (Cn, T, N) := Option.some.inj (h1.symm.trans hcl.1)
    subst hr
    obtain ⟨hSl, hfc, kC, hkC, hkind⟩ := hK.1 ci _ hcl.1
    obtain ⟨cf, kf, fi, f, hi, hsl⟩ := hSl j hj
    have hlay := hts _ (hin _ (u_in_lay hj))
    unfold u_lay at hlay
    rw [if_neg (by rw [hfin]; decide)] at hlay
    have hst := (u_facts hfc hkC (u_lays hts hin hj) hi).1
    have h6 := u_store hfc hkC hkind hlay hi hpd hna hfi
    refine W.putK hC.1 hC.2.1 (f := f) ⟨hC.2.2.2.2.2.1, hts _ (wsM_in hw), ⟨_, _, _, hi⟩, hst⟩ (by rw [q2]; exact h6) q1 q3 (by rw [hsl]; exact k2_hasslot (q4 j hj)) rfl rfl hd fun H' e1 e2 e3 => ?_
    exact hk p e R s m args below meth c H' _ cells slots ls hC hR hl (Ws_fld hcl hj hts hK hW hq hty q1 q2 q3 q4 hsl e1 e2 e3 hn ho1 ho2 hv hv2) (hS.put e2 e3 (show gB G ≤ gB G + q from Nat.le_add_right _ _))
theorem e_putNx {own host : String} {T : u_T} {N j index : Nat} {Cn : String} {ty0 : Nat → FieldType} {ty : FieldType} {v : Value} {L r : List Value} (hown : M.1.cls = own) (hcl : ClK ci Cn T N ty0) (hj : j < N) (hfin : (T j).2.2.2 = false) (hpd : parseFieldDescriptor (T j).2.2.1 = some ty) (hna : narrow ty (cv G v) = cv G v) (hfi : fits ty (cv G v) = true) (hw : Cond.fieldLinkNest own index (T j).1 (T j).2.1 (T j).2.2.1 host ∈ wsN) (hd : decode M.2.1 pc = .ok (.putfield index, 3))
    (hty : tyK q = (0, ci)) (hq : q < h.2.2) (hn : h'.2.2 = h.2.2) (ho1 : ∀ k, k ≠ q → h'.1 k = h.1 k) (ho2 : ∀ k, k ≠ q → h'.2.1 k = h.2.1 k) (hv : fldV G h' q ci j = cv G v) (hv2 : ∀ i, i ≠ j → fldV G h' q ci i = fldV G h q ci i)
    (hk : E G M d C S (pc + 3) L r h' ρ) : E G M d C S pc L (v :: .ref q :: r) h ρ :=
  fun p e R s m args below meth c H locs cells slots ls hC hR hl hW hS => by
    subst hown
    have hts := hC.2.2.2.2.2.2.1
    have hin : ∀ w ∈ u_ws Cn T N, w ∈ wsM M := fun w h9 => wsM_in (hcl.2.1 w h9)
    have hK := hC.2.2.2.2.2.2.2.2.2.1
    have hat := Ws_at hW hq
    rw [wEl_obj hty] at hat
    obtain ⟨r0, h1, cell, q1, q2, q3, q4⟩ := hat
    have hr : r0 = (Cn, T, N) := Option.some.inj (h1.symm.trans hcl.1)
    subst hr
    obtain ⟨hSl, hfc, kC, hkC, hkind⟩ := hK.1 ci _ hcl.1
    obtain ⟨cf, kf, fi, f, hi, hsl⟩ := hSl j hj
    have hlay := hts _ (hin _ (u_in_lay hj))
    unfold u_lay at hlay
    rw [if_neg (by rw [hfin]; decide)] at hlay
    have hst := (u_facts hfc hkC (u_lays hts hin hj) hi).1
    have h6 := u_store hfc hkC hkind hlay hi hpd hna hfi
    refine va_WputK hC.1 hC.2.1 (f := f) hC.2.2.2.2.2.1 (nw_use rfl (hC.2.2.2.2.2.2.2.2.2.2.1 _ hw)) hi hst (by rw [q2]; exact h6) q1 q3 (by rw [hsl]; exact k2_hasslot (q4 j hj)) rfl rfl hd fun H' e1 e2 e3 => ?_
    exact hk p e R s m args below meth c H' _ cells slots ls hC hR hl (Ws_fld hcl hj hts hK hW hq hty q1 q2 q3 q4 hsl e1 e2 e3 hn ho1 ho2 hv hv2) (hS.put e2 e3 (show gB G ≤ gB G + q from Nat.le_add_right _ _))
theorem e_putF {own : String} {T : u_T} {N j index : Nat} {Cn : String} {ty0 : Nat → FieldType} {ty : FieldType} {v : Value} {L r : List Value} (hown : M.1.cls = own) (hini : M.1.name = "<init>") (hcl : ClK ci Cn T N ty0) (hj : j < N) (hfin : (T j).2.2.2 = true) (hdecl : (T j).1 = own) (hpd : parseFieldDescriptor (T j).2.2.1 = some ty) (hna : narrow ty (cv G v) = cv G v) (hfi : fits ty (cv G v) = true) (hw : Cond.fieldLink own index (T j).1 (T j).2.1 (T j).2.2.1 ∈ wsG) (hd : decode M.2.1 pc = .ok (.putfield index, 3))
    (hty : tyK q = (0, ci)) (hq : q < h.2.2) (hn : h'.2.2 = h.2.2) (ho1 : ∀ k, k ≠ q → h'.1 k = h.1 k) (ho2 : ∀ k, k ≠ q → h'.2.1 k = h.2.1 k) (hv : fldV G h' q ci j = cv G v) (hv2 : ∀ i, i ≠ j → fldV G h' q ci i = fldV G h q ci i)
    (hk : E G M d C S (pc + 3) L r h' ρ) : E G M d C S pc L (v :: .ref q :: r) h ρ :=
  fun p e R s m args below meth c H locs cells slots ls hC hR hl hW hS => by
    subst hown
    have hts := hC.2.2.2.2.2.2.1
    have hin : ∀ w ∈ u_ws Cn T N, w ∈ wsM M := fun w h9 => wsM_in (hcl.2.1 w h9)
    have hK := hC.2.2.2.2.2.2.2.2.2.1
    have hat := Ws_at hW hq
    rw [wEl_obj hty] at hat
    obtain ⟨r0, h1, cell, q1, q2, q3, q4⟩ := hat
    have hr : r0 = (Cn, T, N) := Option.some.inj (h1.symm.trans hcl.1)
    subst hr
    obtain ⟨hSl, hfc, kC, hkC, hkind⟩ := hK.1 ci _ hcl.1
    obtain ⟨cf, kf, fi, f, hi, hsl⟩ := hSl j hj
    have hlay := hts _ (hin _ (u_in_lay hj))
    unfold u_lay at hlay
    rw [if_pos hfin] at hlay
    have hst := (u_facts hfc hkC (u_lays hts hin hj) hi).1
    have hcf : m.cls = cf := by
      obtain ⟨_, _, c', _, _, _, -, -, hf', -, -, -, hown2, -⟩ := Cond.laysFinal_spec hlay
      have e1 : c' = cf := by have := hi.symm.trans hf'; simp at this; exact this.1.symm
      rw [hdecl] at hown2
      rw [← e1]; exact Option.some.inj (hC.2.2.2.2.2.1.symm.trans hown2)
    have h6 := u_fits hfc hkC hkind (Or.inr hlay) hi hpd hna hfi
    refine W.putFinK hC.1 hC.2.1 hC.2.2.2.2.2.1 (hts _ (wsM_in hw)) hi hst hcf (hC.2.2.2.2.2.2.2.1.trans hini) (by rw [q2]; exact h6) q1 q3 (by rw [hsl]; exact k2_hasslot (q4 j hj)) rfl rfl hd fun H' e1 e2 e3 => ?_
    exact hk p e R s m args below meth c H' _ cells slots ls hC hR hl (Ws_fld hcl hj hts hK hW hq hty q1 q2 q3 q4 hsl e1 e2 e3 hn ho1 ho2 hv hv2) (hS.put e2 e3 (show gB G ≤ gB G + q from Nat.le_add_right _ _))
theorem fldI {j : Nat} (hf : frk ci j = false) (x : Int32) : fldV G (u2 h.1 q j x, h.2) q ci j = cv G (.int x) := by
  have e : u2 h.1 q j x q j = x := by rw [u2_at, if_pos ⟨rfl, rfl⟩]
  simp [fldV, hf, e, cv]
theorem fldI2 {j : Nat} (x : Int32) (i : Nat) (hi : i ≠ j) : fldV G (u2 h.1 q j x, h.2) q ci i = fldV G h q ci i := by
  have e : u2 h.1 q j x q i = h.1 q i := by rw [u2_at, if_neg (fun z => hi z.2)]
  simp [fldV, e]
theorem fldR {j : Nat} (hf : frk ci j = true) (x : Nat) : fldV G (h.1, u2V h.2.1 q j (.ref x), h.2.2) q ci j = cv G (.ref x) := by
  have e : u2V h.2.1 q j (.ref x) q j = .ref x := by rw [u2V_at, if_pos ⟨rfl, rfl⟩]
  simp [fldV, hf, e]
theorem fldR2 {j : Nat} (x : Nat) (i : Nat) (hi : i ≠ j) : fldV G (h.1, u2V h.2.1 q j (.ref x), h.2.2) q ci i = fldV G h q ci i := by
  have e : u2V h.2.1 q j (.ref x) q i = h.2.1 q i := by rw [u2V_at, if_neg (fun z => hi z.2)]
  simp [fldV, e]
theorem u2_off {f : Nat → Nat → Int32} {j : Nat} {x : Int32} (k : Nat) (hk : k ≠ q) : u2 f q j x k = f k := by unfold u2; exact va_up_ne _ _ hk
theorem u2V_off {f : Nat → Nat → Value} {j : Nat} {x : Value} (k : Nat) (hk : k ≠ q) : u2V f q j x k = f k := by unfold u2V; exact va_up_ne _ _ hk
theorem e_putI {own : String} {T : u_T} {N j index : Nat} {Cn : String} {ty0 : Nat → FieldType} (hown : M.1.cls = own) (hcl : ClK ci Cn T N ty0) (hj : j < N) (hf : frk ci j = false) (hfin : (T j).2.2.2 = false) (hpd : parseFieldDescriptor (T j).2.2.1 = some .int) (hw : Cond.fieldLink own index (T j).1 (T j).2.1 (T j).2.2.1 ∈ wsG) (hd : decode M.2.1 pc = .ok (.putfield index, 3)) (hk : Snd G M d C S (pc + 3) ρ k) : Snd G M d C S pc ρ (s_putI ci j k) := fun L st h hs => by
  obtain ⟨q, x, r, rfl, hty, hq, hs⟩ := pIR_spec hs
  exact e_put (h' := (u2 h.1 q j x, h.2)) (v := .int x) hown hcl hj hfin hpd (by rfl) (by rfl) hw hd hty hq rfl (fun k hk => u2_off k hk) (fun _ _ => rfl) (fldI hf x) (fun i hi => fldI2 x i hi) (hk _ _ _ (hs _ rfl))
theorem e_putIN {own host : String} {T : u_T} {N j index : Nat} {Cn : String} {ty0 : Nat → FieldType} (hown : M.1.cls = own) (hcl : ClK ci Cn T N ty0) (hj : j < N) (hf : frk ci j = false) (hfin : (T j).2.2.2 = false) (hpd : parseFieldDescriptor (T j).2.2.1 = some .int) (hw : Cond.fieldLinkNest own index (T j).1 (T j).2.1 (T j).2.2.1 host ∈ wsN) (hd : decode M.2.1 pc = .ok (.putfield index, 3)) (hk : Snd G M d C S (pc + 3) ρ k) : Snd G M d C S pc ρ (s_putI ci j k) := fun L st h hs => by
  obtain ⟨q, x, r, rfl, hty, hq, hs⟩ := pIR_spec hs
  exact e_putNx (h' := (u2 h.1 q j x, h.2)) (v := .int x) hown hcl hj hfin hpd (by rfl) (by rfl) hw hd hty hq rfl (fun k hk => u2_off k hk) (fun _ _ => rfl) (fldI hf x) (fun i hi => fldI2 x i hi) (hk _ _ _ (hs _ rfl))
theorem e_putR {own : String} {T : u_T} {N j index : Nat} {Cn : String} {ty0 : Nat → FieldType} {ty : FieldType} (hown : M.1.cls = own) (hcl : ClK ci Cn T N ty0) (hj : j < N) (hf : frk ci j = true) (hfin : (T j).2.2.2 = false) (hpd : parseFieldDescriptor (T j).2.2.1 = some ty) (hnf : ∀ a : Nat, narrow ty (.ref a) = .ref a ∧ fits ty (.ref a) = true) (hw : Cond.fieldLink own index (T j).1 (T j).2.1 (T j).2.2.1 ∈ wsG) (hd : decode M.2.1 pc = .ok (.putfield index, 3)) (hk : Snd G M d C S (pc + 3) ρ k) : Snd G M d C S pc ρ (s_putR ci j k) := fun L st h hs => by
  obtain ⟨q, x, r, rfl, hty, hq, hs⟩ := pRR_spec hs
  exact e_put (h' := (h.1, u2V h.2.1 q j (.ref x), h.2.2)) (v := .ref x) hown hcl hj hfin hpd (hnf _).1 (hnf _).2 hw hd hty hq rfl (fun _ _ => rfl) (fun k hk => u2V_off k hk) (fldR hf x) (fun i hi => fldR2 x i hi) (hk _ _ _ (hs _ rfl))
theorem e_putRF {own : String} {T : u_T} {N j index : Nat} {Cn : String} {ty0 : Nat → FieldType} {ty : FieldType} (hown : M.1.cls = own) (hini : M.1.name = "<init>") (hcl : ClK ci Cn T N ty0) (hj : j < N) (hf : frk ci j = true) (hfin : (T j).2.2.2 = true) (hdecl : (T j).1 = own) (hpd : parseFieldDescriptor (T j).2.2.1 = some ty) (hnf : ∀ a : Nat, narrow ty (.ref a) = .ref a ∧ fits ty (.ref a) = true) (hw : Cond.fieldLink own index (T j).1 (T j).2.1 (T j).2.2.1 ∈ wsG) (hd : decode M.2.1 pc = .ok (.putfield index, 3)) (hk : Snd G M d C S (pc + 3) ρ k) : Snd G M d C S pc ρ (s_putR ci j k) := fun L st h hs => by
  obtain ⟨q, x, r, rfl, hty, hq, hs⟩ := pRR_spec hs
  exact e_putF (h' := (h.1, u2V h.2.1 q j (.ref x), h.2.2)) (v := .ref x) hown hini hcl hj hfin hdecl hpd (hnf _).1 (hnf _).2 hw hd hty hq rfl (fun _ _ => rfl) (fun k hk => u2V_off k hk) (fldR hf x) (fun i hi => fldR2 x i hi) (hk _ _ _ (hs _ rfl))
end HP
