/-! calls on objects, constructors, Math, throws, handlers -/
section CV
variable {G : GE} {M : MI} {d C S pc : Nat} {ρ : Rs} {k : Kt} {h h' : AH} {H H' : Heap} {q ci : Nat}
def lR : Value → (Nat → Prop) → Prop
  | .ref q, k => k q
  | _, _ => False
theorem lR_spec {v : Value} {k : Nat → Prop} (h : lR v k) : ∃ q, v = .ref q ∧ k q := by
  cases v <;> first | exact ⟨_, rfl, h⟩ | exact h.elim
def s_callV (G : GE) (d : Nat) (M' : MI) (n ci : Nat) (k : Kt) : Kt := fun L st h => gd (!(Nat.ble (n + 1) st.length && Nat.ble (st.drop (n + 1)).length 4)) (lR (st.getD n .null) (fun q => tyK q = (0, ci) ∧ q < h.2.2 ∧ Sp G d 0 0 M' (st.take (n + 1)).reverse h (rK M'.2.2.2.1 (fun vs h' => k L (vs ++ st.drop (n + 1)) h'))))
def s_callVX (G : GE) (d : Nat) (M' : MI) (n ci : Nat) (P : KX) : Kt := fun _ st h => gd (!(Nat.ble (n + 1) st.length && Nat.ble (st.drop (n + 1)).length 4)) (lR (st.getD n .null) (fun q => tyK q = (0, ci) ∧ q < h.2.2 ∧ Sp G d 1 6 M' (st.take (n + 1)).reverse h (RX P)))
theorem take_recv {n : Nat} {st : List Value} {v : Value} (hv : st.getD n .null = v) (hn : n + 1 ≤ st.length) : (st.take (n + 1)).reverse = v :: (st.take n).reverse ∧ st.drop n = v :: st.drop (n + 1) := by
  have hlt : n < st.length := hn
  have e : st[n] = v := by rw [← hv, List.getD_eq_getElem?_getD, List.getElem?_eq_getElem hlt]; rfl
  constructor
  · rw [List.take_succ, List.getElem?_eq_getElem hlt, e]
    simp
  · rw [List.drop_eq_getElem_cons hlt, e]
theorem st_splitV {n : Nat} {st : List Value} {v : Value} (hv : st.getD n .null = v) (hn : n + 1 ≤ st.length) : st.map (cv G) = (((st.take n).reverse).map (cv G)).reverse ++ cv G v :: (st.drop (n + 1)).map (cv G) := by
  rw [st_split (n := n) (by omega), (take_recv hv hn).2]
  rfl
theorem recv_at {s : State} {T : u_T} {N : Nat} {Cn : String} {ty0 : Nat → FieldType} (hcl : ClK ci Cn T N ty0) (hK : va_K (gD G) vwCl (gT G) s) (hW : Ws G h H) (hq : q < h.2.2) (hty : tyK q = (0, ci)) : ∃ cellB : Cell, H[gB G + q]? = some cellB ∧ cellB.vm.isStatics = false ∧ s.vm.findClass Cn = some cellB.cls := by
  have hat := Ws_at hW hq
  rw [wEl_obj hty] at hat
  obtain ⟨r0, h1, cell, q1, q2, q3, q4⟩ := hat
  exact ⟨cell, q1, by rw [q3]; rfl, by rw [q2]; exact (hK.1 ci _ hcl.1).2.1⟩
theorem rV {index n mc ms : Nat} {M' : MI} {T : u_T} {N : Nat} {ty0 : Nat → FieldType} {L st : List Value} {ρ' : Rs} (hcl : ClK ci M'.1.cls T N ty0) (hc : Cal M index M' n) (hl : Cond.methodLink M.1.cls index M'.1 ∈ wsG) (hi : Cond.instanceMethod M'.1 ∈ wsG) (hse : Cond.selects M'.1.cls M'.1 M'.1 ∈ wsG) (hd : decode M.2.1 pc = .ok (.invokevirtual index, 3)) (hn : n + 1 ≤ st.length) (hle : (st.drop (n + 1)).length ≤ 4) (hv : st.getD n .null = .ref q) (hty : tyK q = (0, ci)) (hq : q < h.2.2) (hM : Sp G d mc ms M' (st.take (n + 1)).reverse h ρ')
    {p : Program} {e : Env} {R : Room} {s : State} {m : MethodId} {args : Array Value} {below : List Frame} {meth : Method} {c : Code} {H : Heap} {locs : List Loc} {cells slots : Nat} {ls : Array Slot} (hC : Cx G M p s m args meth c) (hR : Rm (d + 1) (C + mc) (S + ms) cells slots R) (hlv : lvA G ls M.2.2.1 L) (hW : Ws G h H) (hS : va_S (aG G) s.heap H locs) :
      vx_Run p (gl G) e R s m args below meth c H locs cells slots mc ms (F0 m pc ls (st.map (cv G))) ((st.drop (n + 1)).map (cv G)) (Qn G ρ' (((st.take (n + 1)).reverse).map (cv G)).toArray) (Qx G ρ') (aG G) := by
  have hts := hC.2.2.2.2.2.2.1
  have e0 := (take_recv hv hn).1
  have hpre := sp_pre (M' := M') (as := (st.take (n + 1)).reverse) hC.2.2.2.2.2.2.2.2.2 hW hS
  unfold Sp at hM
  rw [e0] at hM hpre ⊢
  exact vx_runV (C := M'.1.cls) (b := gB G + q) (As := ((st.take n).reverse).map (cv G)) (rest := (st.drop (n + 1)).map (cv G)) ⟨hC.1, hC.2.1, hC.2.2.1, hC.2.2.2.2.2.1, hts⟩ hM ⟨cal_B hc hts hl hR.1 hR.2.1, hts _ (wsM_in hi), hts _ (wsM_in hse)⟩ ⟨Sp_blind G _ h, recv_at hcl hC.2.2.2.2.2.2.2.2.2.1 hW hq hty, hpre⟩ rfl (by simp; omega) hlv.1 (st_splitV hv hn) (lv_room (cat_le G _ hle)) hd ⟨by have := hR.2.2.1; omega, by have := hR.2.2.2; omega⟩
theorem e_callV {index n : Nat} {M' : MI} {T : u_T} {N : Nat} {ty0 : Nat → FieldType} (hcl : ClK ci M'.1.cls T N ty0) (hc : Cal M index M' n) (hl : Cond.methodLink M.1.cls index M'.1 ∈ wsG) (hi : Cond.instanceMethod M'.1 ∈ wsG) (hse : Cond.selects M'.1.cls M'.1 M'.1 ∈ wsG) (hd : decode M.2.1 pc = .ok (.invokevirtual index, 3)) (hk : Snd G M (d + 1) C S (pc + 3) ρ k) : Snd G M (d + 1) C S pc ρ (s_callV G d M' n ci k) := fun L st h hs => by
  obtain ⟨hn, hle, hrc⟩ := gdc_spec hs
  obtain ⟨q, hv, hty, hq, hM⟩ := lR_spec hrc
  exact e_run (ρ' := _) (C := C) (S := S) (mc := 0) (ms := 0) (n := n + 1) (M' := M') (d0 := d) (fun hC hR hlv hW hS => rV (C := C) (S := S) hcl hc hl hi hse hd hn hle hv hty hq hM hC hR hlv hW hS) (fun E h' hE => by obtain ⟨r, e, -⟩ := rK_spec hE; cases e) (fun r' h' hr' => by obtain ⟨r, e, hs⟩ := rK_spec hr'; cases e; exact hk _ _ _ hs)
theorem e_callVX {P : KX} {index n : Nat} {M' : MI} {T : u_T} {N : Nat} {ty0 : Nat → FieldType} (hnil : M.2.2.2.2 = []) (hcl : ClK ci M'.1.cls T N ty0) (hc : Cal M index M' n) (hl : Cond.methodLink M.1.cls index M'.1 ∈ wsG) (hi : Cond.instanceMethod M'.1 ∈ wsG) (hse : Cond.selects M'.1.cls M'.1 M'.1 ∈ wsG) (hd : decode M.2.1 pc = .ok (.invokevirtual index, 3)) : Snd G M (d + 1) (C + 1) (S + 6) pc (RX P) (s_callVX G d M' n ci P) := fun L st h hs => by
  obtain ⟨hn, hle, hrc⟩ := gdc_spec hs
  obtain ⟨q, hv, hty, hq, hM⟩ := lR_spec hrc
  exact e_run (ρ' := _) (C := C) (S := S) (mc := 1) (ms := 6) (n := n + 1) (M' := M') (d0 := d) (fun hC hR hlv hW hS => rV (C := C) (S := S) hcl hc hl hi hse hd hn hle hv hty hq hM hC hR hlv hW hS) (fun E h' hE => by exact ⟨hnil, hE⟩) (fun r' h' hr' => by obtain ⟨E', e, -⟩ := hr'; cases e)
/-- a nest mate's private method -/
theorem cal_N {index nd mc ms : Nat} {M' : MI} {host : String} {R : Room} {s : State} {args : Array Value} (hc : Cal M index M' nd) (hts : ∀ w ∈ wsM M, w.before args s = true) (hg : Gw G s) (hl : Cond.methodLinkNest M.1.cls index M'.1 host ∈ wsN) (h1 : d + 1 ≤ R.frames) (h2 : 60 * (d + 1) ≤ R.locals) :
    va_CN R s args M.1.cls index M'.1 host M'.2.1 M'.2.2.1 M'.2.2.2.1 (wsM M') (rmD d mc ms) mc ms nd := by
  obtain ⟨e0, e1, e2, e3, e4⟩ := hc
  refine va_cnB (ws' := wsG) nd hts (wsM_good e2) ?_ rfl rfl (hg.2.1 _ hl) (hts _ (wsM_in e3)) e4 ⟨h1, ?_⟩
  · unfold wsM hdM
    rw [e0]
  · show 8 + (M'.2.2.1 + 11) + 60 * d ≤ _
    omega
theorem e_callVN {index n : Nat} {M' : MI} {T : u_T} {N : Nat} {ty0 : Nat → FieldType} {host : String} (hcl : ClK ci M'.1.cls T N ty0) (hc : Cal M index M' n) (hl : Cond.methodLinkNest M.1.cls index M'.1 host ∈ wsN) (hi : Cond.instanceMethod M'.1 ∈ wsG) (hse : Cond.selects M'.1.cls M'.1 M'.1 ∈ wsG) (hd : decode M.2.1 pc = .ok (.invokevirtual index, 3)) (hk : Snd G M (d + 1) C S (pc + 3) ρ k) : Snd G M (d + 1) C S pc ρ (s_callV G d M' n ci k) := fun L st h hs => by
  obtain ⟨hn, hle, hrc⟩ := gdc_spec hs
  obtain ⟨q, hv, hty, hq, hM⟩ := lR_spec hrc
  refine e_run (ρ' := rK M'.2.2.2.1 (fun vs h' => k L (vs ++ st.drop (n + 1)) h')) (C := C) (S := S) (mc := 0) (ms := 0) (n := n + 1) (M' := M') (d0 := d) (fun {p e R s m args below meth c H locs cells slots ls} hC hR hlv hW hS => ?_) (fun E h' hE => by obtain ⟨r, e, -⟩ := rK_spec hE; cases e) (fun r' h' hr' => by obtain ⟨r, e, hs⟩ := rK_spec hr'; cases e; exact hk _ _ _ hs)
  have hts := hC.2.2.2.2.2.2.1
  have e0 := (take_recv hv hn).1
  have hpre := sp_pre (M' := M') (as := (st.take (n + 1)).reverse) hC.2.2.2.2.2.2.2.2.2 hW hS
  unfold Sp at hM
  rw [e0] at hM hpre ⊢
  exact vx_runVN (C := M'.1.cls) (b := gB G + q) (As := ((st.take n).reverse).map (cv G)) (rest := (st.drop (n + 1)).map (cv G)) ⟨hC.1, hC.2.1, hC.2.2.1, hC.2.2.2.2.2.1, hts⟩ hM ⟨cal_N hc hts hC.2.2.2.2.2.2.2.2.2 hl hR.1 hR.2.1, hts _ (wsM_in hi), hts _ (wsM_in hse)⟩ ⟨Sp_blind G _ h, recv_at hcl hC.2.2.2.2.2.2.2.2.2.1 hW hq hty, hpre⟩ rfl (by simp; omega) hlv.1 (st_splitV hv hn) (lv_room (cat_le G _ hle)) hd ⟨by have := hR.2.2.1; omega, by have := hR.2.2.2; omega⟩
/-! constructors -/
def s_callI (G : GE) (d mc ms : Nat) (M' : MI) (n : Nat) (k : Kt) : Kt := fun L st h => gd (!(Nat.ble (n + 1) st.length && Nat.ble (st.drop (n + 1)).length 4)) (lR (st.getD n .null) (fun _ => Sp G d mc ms M' (st.take (n + 1)).reverse h (RN fun a r N => k L (st.drop (n + 1)) (a, r, N))))
theorem e_callI {index n mc ms : Nat} {M' : MI} (hr : M'.2.2.2.1 = none) (hnm : M'.1.name = "<init>") (hc : Cal M index M' n) (hl : Cond.methodLink M.1.cls index M'.1 ∈ wsG) (hi : Cond.instanceMethod M'.1 ∈ wsG) (hd : decode M.2.1 pc = .ok (.invokespecial index, 3)) (hk : Snd G M (d + 1) C S (pc + 3) ρ k) : Snd G M (d + 1) (C + mc) (S + ms) pc ρ (s_callI G d mc ms M' n k) := fun L st h hs => by
  obtain ⟨hn, hle, hrc⟩ := gdc_spec hs
  obtain ⟨q, hv, hM⟩ := lR_spec hrc
  refine e_run (ρ' := RN fun a r N => k L (st.drop (n + 1)) (a, r, N)) (C := C) (S := S) (mc := mc) (ms := ms) (n := n + 1) (M' := M') (d0 := d) (fun {p e R s m args below meth c H locs cells slots ls} hC hR hlv hW hS => ?_) (fun E h' hE => by obtain ⟨e, -⟩ := hE; cases e) (fun r' h' hr' => by obtain ⟨e, hs⟩ := hr'; cases e; exact hk _ _ _ hs)
  have hts := hC.2.2.2.2.2.2.1
  have e0 := (take_recv hv hn).1
  have hpre := sp_pre (M' := M') (as := (st.take (n + 1)).reverse) hC.2.2.2.2.2.2.2.2.2 hW hS
  have hB := cal_B (mc := mc) (ms := ms) hc hts hl hR.1 hR.2.1
  rw [hr] at hB
  unfold Sp at hM
  rw [e0] at hM hpre ⊢
  exact vx_runI (b := gB G + q) (As := ((st.take n).reverse).map (cv G)) (rest := (st.drop (n + 1)).map (cv G)) ⟨hC.1, hC.2.1, hC.2.2.1, hC.2.2.2.2.2.1, hts⟩ hM ⟨hB, hnm, hts _ (wsM_in hi)⟩ ⟨Sp_blind G _ h, hpre⟩ rfl (by simp; omega) hlv.1 (st_splitV hv hn) (lv_room (cat_le G _ hle)) hd ⟨by have := hR.2.2.1; omega, by have := hR.2.2.2; omega⟩
theorem e_callIN {index n mc ms : Nat} {M' : MI} {host : String} (hr : M'.2.2.2.1 = none) (hnm : M'.1.name = "<init>") (hc : Cal M index M' n) (hl : Cond.methodLinkNest M.1.cls index M'.1 host ∈ wsN) (hi : Cond.instanceMethod M'.1 ∈ wsG) (hd : decode M.2.1 pc = .ok (.invokespecial index, 3)) (hk : Snd G M (d + 1) C S (pc + 3) ρ k) : Snd G M (d + 1) (C + mc) (S + ms) pc ρ (s_callI G d mc ms M' n k) := fun L st h hs => by
  obtain ⟨hn, hle, hrc⟩ := gdc_spec hs
  obtain ⟨q, hv, hM⟩ := lR_spec hrc
  refine e_run (ρ' := RN fun a r N => k L (st.drop (n + 1)) (a, r, N)) (C := C) (S := S) (mc := mc) (ms := ms) (n := n + 1) (M' := M') (d0 := d) (fun {p e R s m args below meth c H locs cells slots ls} hC hR hlv hW hS => ?_) (fun E h' hE => by obtain ⟨e, -⟩ := hE; cases e) (fun r' h' hr' => by obtain ⟨e, hs⟩ := hr'; cases e; exact hk _ _ _ hs)
  have hts := hC.2.2.2.2.2.2.1
  have e0 := (take_recv hv hn).1
  have hpre := sp_pre (M' := M') (as := (st.take (n + 1)).reverse) hC.2.2.2.2.2.2.2.2.2 hW hS
  have hB := cal_N (mc := mc) (ms := ms) hc hts hC.2.2.2.2.2.2.2.2.2 hl hR.1 hR.2.1
  rw [hr] at hB
  unfold Sp at hM
  rw [e0] at hM hpre ⊢
  exact vx_runIN (b := gB G + q) (As := ((st.take n).reverse).map (cv G)) (rest := (st.drop (n + 1)).map (cv G)) ⟨hC.1, hC.2.1, hC.2.2.1, hC.2.2.2.2.2.1, hts⟩ hM ⟨hB, hnm, hts _ (wsM_in hi)⟩ ⟨Sp_blind G _ h, hpre⟩ rfl (by simp; omega) hlv.1 (st_splitV hv hn) (lv_room (cat_le G _ hle)) hd ⟨by have := hR.2.2.1; omega, by have := hR.2.2.2; omega⟩
def s_objInit (k : Kt) : Kt := fun L st h => pR st (fun _ st => gd (Nat.blt 4 st.length) (k L st h))
theorem e_objInit {index : Nat} (hl : Cond.methodLink M.1.cls index Lib.objectInit ∈ wsG) (hi : Cond.instanceMethod Lib.objectInit ∈ wsG) (hc : Cond.code Lib.objectInit ⟨#[0xb1]⟩ 1 none ∈ wsG) (hd : decode M.2.1 pc = .ok (.invokespecial index, 3)) (hk : Snd G M (d + 1) C S (pc + 3) ρ k) : Snd G M (d + 1) C S pc ρ (s_objInit k) := fun L st h hs => by
  obtain ⟨q, r, rfl, hs⟩ := pR_spec hs
  obtain ⟨hle, hs⟩ := gd4_spec hs
  intro p e R s m args below meth c H locs cells slots ls hC hR hl9 hW hS
  have hts := hC.2.2.2.2.2.2.1
  have hcat := cat_le G r hle
  obtain ⟨hR1, hR2, hR3, hR4⟩ := hR
  exact W.objInit hC.1 hC.2.1 hC.2.2.2.2.2.1 (hts _ (wsM_in hl)) (hts _ (wsM_in hi)) (hts _ (wsM_in hc)) rfl (by rw [hC.2.2.1]; exact hl9.1) (a := gB G + q) (rest := r.map (cv G)) rfl hd (by omega) (by show 2 * 0 + _ + 12 ≤ _; omega) (hk _ _ _ hs p e R s m args below meth c H locs cells slots ls hC ⟨hR1, hR2, hR3, hR4⟩ hl9 hW hS)
/-! Math -/
def s_max (k : Kt) : Kt := fun L st h => p2 st (fun a b st => gd (Nat.blt 4 st.length) (k L (.int (if a < b then b else a) :: st) h))
theorem e_max {index : Nat} (hl : Cond.methodLink M.1.cls index Lib.Math.max.name ∈ wsG) (hs0 : Cond.static Lib.Math.max.name ∈ wsG) (hi : Cond.initialized "java/lang/Math" ∈ wsG) (hc : Cond.code Lib.Math.max.name Lib.Math.max.code 2 (some .int) ∈ wsG) (hd : decode M.2.1 pc = .ok (.invokestatic index, 3)) (hk : Snd G M (d + 1) C S (pc + 3) ρ k) : Snd G M (d + 1) C S pc ρ (s_max k) := fun L st h hs => by
  obtain ⟨a, b, r, rfl, hs⟩ := p2_spec hs
  obtain ⟨hle, hs⟩ := gd4_spec hs
  intro p e R s m args below meth c H locs cells slots ls hC hR hl9 hW hS
  have hts := hC.2.2.2.2.2.2.1
  have hcat := cat_le G r hle
  obtain ⟨hR1, hR2, hR3, hR4⟩ := hR
  exact va_mmax (rest := r.map (cv G)) hC.1 hC.2.1 (hC.2.2.1.trans hl9.1.symm) hC.2.2.2.2.2.1 (hts _ (wsM_in hl)) (hts _ (wsM_in hs0)) (hts _ (wsM_in hi)) (hts _ (wsM_in hc)) (by omega) (by omega) (by omega) (by omega) hd (hk _ _ _ hs p e R s m args below meth c H locs cells slots ls hC ⟨hR1, hR2, hR3, hR4⟩ hl9 hW hS)
def s_min (k : Kt) : Kt := fun L st h => p2 st (fun a b st => gd (Nat.blt 4 st.length) (k L (.int (if b < a then b else a) :: st) h))
theorem e_min {index : Nat} (hl : Cond.methodLink M.1.cls index Lib.Math.min.name ∈ wsG) (hs0 : Cond.static Lib.Math.min.name ∈ wsG) (hi : Cond.initialized "java/lang/Math" ∈ wsG) (hc : Cond.code Lib.Math.min.name Lib.Math.min.code 2 (some .int) ∈ wsG) (hd : decode M.2.1 pc = .ok (.invokestatic index, 3)) (hk : Snd G M (d + 1) C S (pc + 3) ρ k) : Snd G M (d + 1) C S pc ρ (s_min k) := fun L st h hs => by
  obtain ⟨a, b, r, rfl, hs⟩ := p2_spec hs
  obtain ⟨hle, hs⟩ := gd4_spec hs
  intro p e R s m args below meth c H locs cells slots ls hC hR hl9 hW hS
  have hts := hC.2.2.2.2.2.2.1
  have hcat := cat_le G r hle
  obtain ⟨hR1, hR2, hR3, hR4⟩ := hR
  exact va_mmin (rest := r.map (cv G)) hC.1 hC.2.1 (hC.2.2.1.trans hl9.1.symm) hC.2.2.2.2.2.1 (hts _ (wsM_in hl)) (hts _ (wsM_in hs0)) (hts _ (wsM_in hi)) (hts _ (wsM_in hc)) (by omega) (by omega) (by omega) (by omega) hd (hk _ _ _ hs p e R s m args below meth c H locs cells slots ls hC ⟨hR1, hR2, hR3, hR4⟩ hl9 hW hS)
def s_abs (k : Kt) : Kt := fun L st h => p1 st (fun a st => gd (Nat.blt 4 st.length) (k L (.int (if 0 ≤ a then a else 0 - a) :: st) h))
theorem e_abs {index : Nat} (hl : Cond.methodLink M.1.cls index Lib.Math.abs.name ∈ wsG) (hs0 : Cond.static Lib.Math.abs.name ∈ wsG) (hi : Cond.initialized "java/lang/Math" ∈ wsG) (hc : Cond.code Lib.Math.abs.name Lib.Math.abs.code 1 (some .int) ∈ wsG) (hd : decode M.2.1 pc = .ok (.invokestatic index, 3)) (hk : Snd G M (d + 1) C S (pc + 3) ρ k) : Snd G M (d + 1) C S pc ρ (s_abs k) := fun L st h hs => by
  obtain ⟨a, r, rfl, hs⟩ := p1_spec hs
  obtain ⟨hle, hs⟩ := gd4_spec hs
  intro p e R s m args below meth c H locs cells slots ls hC hR hl9 hW hS
  have hts := hC.2.2.2.2.2.2.1
  have hcat := cat_le G r hle
  obtain ⟨hR1, hR2, hR3, hR4⟩ := hR
  exact va_mabs (rest := r.map (cv G)) hC.1 hC.2.1 (hC.2.2.1.trans hl9.1.symm) hC.2.2.2.2.2.1 (hts _ (wsM_in hl)) (hts _ (wsM_in hs0)) (hts _ (wsM_in hi)) (hts _ (wsM_in hc)) (by omega) (by omega) (by omega) (by omega) hd (hk _ _ _ hs p e R s m args below meth c H locs cells slots ls hC ⟨hR1, hR2, hR3, hR4⟩ hl9 hW hS)
end CV
