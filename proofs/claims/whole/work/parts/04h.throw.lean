/-! throws and handlers -/
section TH
variable {G : GE} {M : MI} {d C S pc : Nat} {ρ : Rs} {k : Kt} {h h' : AH} {H H' : Heap} {q ci : Nat}
def s_throw (cls : String) (P : KX) : Kt := fun _ st h => gd (Nat.blt 4 st.length) (h.2.2 = nK ∧ P cls h.1 h.2.1 h.2.2)
theorem Ws_keep (hW : Ws G h H) (hn : h.2.2 = nK) (hs : H.size ≤ H'.size) (hk : ∀ a, a < H.size → H'[a]? = H[a]?) : Ws G h H' := by
  refine ⟨fun i x hx => ?_, hW.2.1, Nat.le_trans hW.2.2.1 hs, fun h9 => absurd h9 (by omega)⟩
  obtain ⟨hi, rfl⟩ := wsW_of hx
  have := hW.2.2.1
  exact (Ws_at hW hi).kept (hk _ (by show gB G + i < _; omega))
theorem e_throw {P : KX} {ik is ic sn : Nat} {cls text : String} {names : List String} (hnil : M.2.2.2.2 = []) (hn2 : names.length = 2) (hcls : Bundle.fit cls = true) (hnames : ∀ n ∈ names, Bundle.fit n = true) (hk : Cond.classLink M.1.cls ik cls ∈ wsG) (hini : Cond.initialized cls ∈ wsG) (hstr : (M.1.cls, is, text, sn) ∈ strK)
    (hat : ∀ w ∈ vx_atS M.1.cls ic cls names, w ∈ wsG ∨ w ∈ wsN) (hgood : ∀ w ∈ Cond.classLink M.1.cls ik cls :: Cond.initialized cls :: vx_atS M.1.cls ic cls names, vx_ot w = true)
    (d0 : decode M.2.1 pc = .ok (.new ik, 3)) (d3 : decode M.2.1 (pc + 3) = .ok (.dup, 1)) (d4 : decode M.2.1 (pc + 4) = .ok (.ldc_w is, 3)) (d7 : decode M.2.1 (pc + 7) = .ok (.invokespecial ic, 3)) (d10 : decode M.2.1 (pc + 10) = .ok (.athrow, 1)) : Snd G M (d + 6) (C + 1) (S + 6) pc (RX P) (s_throw cls P) := fun L st h hs => by
  obtain ⟨hle, hn, hρ⟩ := gd4_spec hs
  intro p e R s m args below meth c H locs cells slots ls hC hR hl9 hW hS
  have hts := hC.2.2.2.2.2.2.1
  have hg := hC.2.2.2.2.2.2.2.2.2
  have hcat := cat_le G st hle
  obtain ⟨hR1, hR2, hR3, hR4⟩ := hR
  refine vx_throwSW (A := aG G) (names := names) hC.1 hC.2.1 hg.2.2.2.2.2.2.1 hC.2.2.2.2.2.1 hcls hnames (hts _ (wsM_in hk)) (hts _ (wsM_in hini)) (hg.2.2.2.2.2.2.2.2.2.1 _ hstr) (fun w hw => ?_) hgood hg.2.2.2.2.2.2.2.1 hg.2.2.2.2.2.2.2.2.1 hS (hl9.1.trans hC.2.2.1.symm) d0 d3 d4 d7 d10 (fun x hx => ?_) (by omega) (by omega) (by omega) (by omega) hC.2.2.2.2.1 (fun t hvm hz hq => ?_) hS.2.2 (by omega) (by omega)
  · rcases hat w hw with h1 | h1
    · exact hts _ (wsM_in h1)
    · exact nw_use (List.mem_filter.mp h1).2 (hg.2.1 w h1)
  · rw [hC.2.2.2.2.2.2.2.2.1, hnil] at hx
    simp [tableOf] at hx
  · exact ⟨h, ⟨cls, rfl, hρ⟩, Ws_keep hW hn hz hq, Nat.le_trans hS.1 hz, fun x h1 h2 => (hq x (Nat.lt_of_lt_of_le h1 hS.1)).trans (hS.2.1 x h1 h2)⟩
/-! a call whose exceptions are caught here -/
def swE : List (String × Nat × Nat × Kt) → String → List Value → AH → Prop
  | [], _, _, _ => False
  | (c, _, j, k) :: t, e, L, h => if e = c then gd (lng L j) (k (L.set j .null) [] h) else swE t e L h
def s_callVH (G : GE) (d : Nat) (M' : MI) (n ci : Nat) (hs : List (String × Nat × Nat × Kt)) (k : Kt) : Kt := fun L st h => gd (!(Nat.ble (n + 1) st.length && Nat.ble (st.drop (n + 1)).length 4)) (lR (st.getD n .null) (fun q => tyK q = (0, ci) ∧ q < h.2.2 ∧
  (Sp G d 0 0 M' (st.take (n + 1)).reverse h (rK M'.2.2.2.1 (fun vs h' => k L (vs ++ st.drop (n + 1)) h')) ∨ Sp G d 1 6 M' (st.take (n + 1)).reverse h (RX fun E a r N => swE hs E L (a, r, N)))))
def HnOK (M : MI) (pc : Nat) (E : String) (tgt j : Nat) : Prop := ∃ (pre suf : List ExceptionTableEntry) (x : ExceptionTableEntry) (name : String), tableOf M.2.2.2.2 = pre ++ x :: suf ∧ (∀ z ∈ pre, z.catchType ≠ 0 ∧ ∃ nm : String, Cond.classLink M.1.cls z.catchType nm ∈ wsG ∧ (E, nm) ∈ ncTab) ∧ covers x pc = true ∧ x.catchType ≠ 0 ∧ Cond.classLink M.1.cls x.catchType name ∈ wsG ∧ Cond.castable E name ∈ wsN ∧ j < M.2.2.1 ∧
  ((∃ f : Fin 4, decode M.2.1 x.handlerPc = .ok (.astore_n f, 1) ∧ (f : Nat) = j ∧ tgt = x.handlerPc + 1) ∨ (decode M.2.1 x.handlerPc = .ok (.astore j, 2) ∧ tgt = x.handlerPc + 2))
theorem lvA_storeN {L : List Value} {ls' : Array Slot} {n i : Nat} {w : Value} (hi : lng L i = false) (h : lv_has ls' n ((i, w) :: (lvl G L).filter (fun q => !(q.1 == i) && !(q.1 + 1 == i && q.2.category == 2)))) : lvA G ls' n (L.set i .null) := by
  refine ⟨h.1, h.2.1, fun j x hj h0 => ?_⟩
  rw [List.getElem?_set] at hj
  by_cases e : i = j
  · subst e
    rw [if_pos rfl] at hj
    split at hj
    · cases hj; exact absurd rfl h0
    · cases hj
  · rw [if_neg e] at hj
    refine h.2.2 (j, cv G x) (List.mem_cons_of_mem _ (List.mem_filter.mpr ⟨lvl_mem.mpr ⟨x, hj, h0, rfl⟩, ?_⟩))
    have e1 : (j == i) = false := by simp; omega
    simp only [e1, Bool.not_false, Bool.true_and, Bool.not_eq_true', Bool.and_eq_false_iff, beq_eq_false_iff_ne, ne_eq]
    by_cases e2 : j + 1 = i
    · right
      subst e2
      have : (L.getD j .null).category ≠ 2 := by simpa [lng] using hi
      rw [List.getD_eq_getElem?_getD, hj] at this
      rw [cv_cat]
      exact this
    · left; exact e2
theorem swE_spec {L : List Value} {E : String} : ∀ {hs : List (String × Nat × Nat × Kt)}, swE hs E L h → ∃ t j k, (E, t, j, k) ∈ hs ∧ lng L j = false ∧ k (L.set j .null) [] h
  | [], hx => hx.elim
  | (c, t, j, k) :: tl, hx => by
    unfold swE at hx
    by_cases e : E = c
    · rw [if_pos e] at hx
      subst e
      exact ⟨t, j, k, List.mem_cons_self, (gd_spec hx).1, (gd_spec hx).2⟩
    · rw [if_neg e] at hx
      obtain ⟨t, j, k, h1, h2⟩ := swE_spec hx
      exact ⟨t, j, k, List.mem_cons_of_mem _ h1, h2⟩
theorem e_callVH {index n : Nat} {M' : MI} {T : u_T} {N : Nat} {ty0 : Nat → FieldType} {hds : List (String × Nat × Nat × Kt)} (hcl : ClK ci M'.1.cls T N ty0) (hc : Cal M index M' n) (hl : Cond.methodLink M.1.cls index M'.1 ∈ wsG) (hi : Cond.instanceMethod M'.1 ∈ wsG) (hse : Cond.selects M'.1.cls M'.1 M'.1 ∈ wsG) (hd : decode M.2.1 pc = .ok (.invokevirtual index, 3))
    (hH : ∀ c ∈ hds, HnOK M pc c.1 c.2.1 c.2.2.1 ∧ Snd G M (d + 1) C S c.2.1 ρ c.2.2.2) (hk : Snd G M (d + 1) C S (pc + 3) ρ k) : Snd G M (d + 1) (C + 1) (S + 6) pc ρ (s_callVH G d M' n ci hds k) := fun L st h hs => by
  obtain ⟨hn, hle, hrc⟩ := gdc_spec hs
  obtain ⟨q, hv, hty, hq, hs⟩ := lR_spec hrc
  rcases hs with hM | hM
  · have h0 := e_run (d := d + 1) (ρ := ρ) (ρ' := _) (C := C) (S := S) (mc := 0) (ms := 0) (n := n + 1) (M' := M') (d0 := d) (fun hC hR hlv hW hS => rV (C := C) (S := S) (L := L) hcl hc hl hi hse hd hn hle hv hty hq hM hC hR hlv hW hS) (fun E h' hE => by obtain ⟨r, e, -⟩ := rK_spec hE; cases e) (fun r' h' hr' => by obtain ⟨r, e, hs⟩ := rK_spec hr'; cases e; exact hk _ _ _ hs)
    intro p e R s m args below meth c H locs cells slots ls hC hR hl9 hW hS
    exact h0 p e R s m args below meth c H locs cells slots ls hC ⟨hR.1, hR.2.1, by have := hR.2.2.1; omega, by have := hR.2.2.2; omega⟩ hl9 hW hS
  · intro p e R s m args below meth c H locs cells slots ls hC hR hl9 hW hS
    have hts := hC.2.2.2.2.2.2.1
    have hg := hC.2.2.2.2.2.2.2.2.2
    have hr := rV (C := C) (S := S) (ρ' := _) (p := p) (e := e) (below := below) (cells := cells) (slots := slots) hcl hc hl hi hse hd hn hle hv hty hq hM hC hR hl9 hW hS
    obtain ⟨hR1, hR2, hR3, hR4⟩ := hR
    refine run_call hr hS (fun E h1 ce q9 H1 locs1 hE hW1 hS1 hce hcv hcls => ?_) (fun r h1 H1 locs1 hr1 hW1 hS1 => by obtain ⟨E', e, -⟩ := hr1; cases e)
    obtain ⟨E', e9, hs⟩ := hE
    cases e9
    obtain ⟨tgt, j, kj, hmem, hlng, hs⟩ := swE_spec hs
    obtain ⟨⟨pre, suf, x, name, hsplit, hpass, hcov, h0, hlink, hcast, hj, hast⟩, hkj⟩ := hH _ hmem
    refine vx_catch (E := E) (name := name) hC.2.2.2.2.2.1 pre x suf (by rw [hC.2.2.2.2.2.2.2.2.1]; exact hsplit) (fun z hz => Or.inr ⟨(hpass z hz).1, ?_⟩) hcov h0 (hts _ (wsM_in hlink)) (nw_use rfl (hg.2.1 _ hcast)) hce hcv hcls ?_
    · obtain ⟨nm, h1, h2⟩ := (hpass z hz).2
      exact ⟨nm, hts _ (wsM_in h1), hg.2.2.2.2.2.2.2.2.2.2.2.2.1 _ h2⟩
    · rcases hast with ⟨f, hda, hf, ht⟩ | ⟨hda, ht⟩
      · exact lv_astore_n hC.1 hC.2.1 hda hf (lvA_has hl9) hj rfl (fun ls' h9 => by
          have := hkj _ _ _ hs p e R s m args below meth c H1 locs1 (cells + 1) (slots + 6) ls' hC ⟨hR1, hR2, by omega, by omega⟩ (lvA_storeN hlng h9) hW1 hS1
          subst ht
          exact this)
      · exact lv_astore hC.1 hC.2.1 hda (lvA_has hl9) hj rfl (fun ls' h9 => by
          have := hkj _ _ _ hs p e R s m args below meth c H1 locs1 (cells + 1) (slots + 6) ls' hC ⟨hR1, hR2, by omega, by omega⟩ (lvA_storeN hlng h9) hW1 hS1
          subst ht
          exact this)
/-- a static call of a method with handlers (the law's own) -/
def CalH (M' : MI) (nd : Nat) : Prop := M'.2.2.2.2 ≠ [] ∧ M'.2.2.1 ≤ 41 ∧ hdM M' ∈ wsG ∧ Cond.initialized M'.1.cls ∈ wsG ∧ (M'.1.cls ≠ "java/lang/invoke/MethodHandle" ∧ M'.1.cls ≠ "java/lang/invoke/VarHandle" ∧ (parseMethodDescriptor M'.1.desc).map (fun d => d.parameters.length) = some nd)
def s_callC (G : GE) (d mc ms : Nat) (M' : MI) (n : Nat) (k : Kt) : Kt := fun L st h => gd (!(Nat.ble n st.length && Nat.ble (st.drop n).length 4)) (Sp G d mc ms M' (st.take n).reverse h (rK M'.2.2.2.1 (fun vs h' => k L (vs ++ st.drop n) h')))
theorem e_callSH {index nd mc ms : Nat} {M' : MI} (hc : CalH M' nd) (hl : Cond.methodLink M.1.cls index M'.1 ∈ wsG) (hst : Cond.static M'.1 ∈ wsG) (hd : decode M.2.1 pc = .ok (.invokestatic index, 3)) (hk : Snd G M (d + 1) C S (pc + 3) ρ k) : Snd G M (d + 1) (C + mc) (S + ms) pc ρ (s_callC G d mc ms M' nd k) := fun L st h hs => by
  obtain ⟨hn, hle, hM⟩ := gdc_spec hs
  refine e_run (ρ' := rK M'.2.2.2.1 (fun vs h' => k L (vs ++ st.drop nd) h')) (C := C) (S := S) (mc := mc) (ms := ms) (n := nd) (M' := M') (d0 := d) (fun {p e R s m args below meth c H locs cells slots ls} hC hR hlv hW hS => ?_) (fun E h' hE => by obtain ⟨r, e, -⟩ := rK_spec hE; cases e) (fun r' h' hr' => by obtain ⟨r, e, hs⟩ := rK_spec hr'; cases e; exact hk _ _ _ hs)
  have hts := hC.2.2.2.2.2.2.1
  obtain ⟨e0, e1, e2, e3, e4⟩ := hc
  obtain ⟨y, cc, maxL, ret, hh⟩ := M'
  have hhd : wsM (y, cc, maxL, ret, hh) = Cond.codeWith y cc maxL ret hh :: wsG := by
    unfold wsM hdM
    cases hh with
    | nil => exact absurd rfl e0
    | cons a b => rfl
  have hcw : Cond.codeWith y cc maxL ret hh ∈ wsM (y, cc, maxL, ret, hh) := by rw [hhd]; exact List.mem_cons_self
  have hgi : GoodIn (wsM M) (wsM (y, cc, maxL, ret, hh)) := wsM_good e2
  have e1 : maxL ≤ 41 := e1
  have e4 : y.cls ≠ "java/lang/invoke/MethodHandle" ∧ y.cls ≠ "java/lang/invoke/VarHandle" ∧ (parseMethodDescriptor y.desc).map (fun d => d.parameters.length) = some nd := e4
  have h2 := hR.2.1
  refine vx_runSX (hh := hh) (bytes := cc) (maxL := maxL) (ret := ret) (As := ((st.take nd).reverse).map (cv G)) (rest := (st.drop nd).map (cv G)) (n := nd) ⟨hC.1, hC.2.1, hC.2.2.1, hC.2.2.2.2.2.1, hts⟩ hM ⟨⟨rfl, rfl, hR.1, by show 8 + (maxL + 11) + 60 * d ≤ _; omega, pay_in hts hgi, hcw⟩, hts _ (hgi _ hcw).1, hts _ (wsM_in e3), ⟨e4.1, e4.2.1⟩, fun sig h9 => ?_, hts _ (wsM_in hl), hts _ (wsM_in hst)⟩ ⟨Sp_blind G _ h, sp_pre (M' := (y, cc, maxL, ret, hh)) hC.2.2.2.2.2.2.2.2.2 hW hS⟩ rfl (by simp; omega) hlv.1 (st_split hn) (lv_room (cat_le G _ hle)) hd ⟨by have := hR.2.2.1; omega, by have := hR.2.2.2; omega⟩
  have h3 := e4.2.2
  rw [h9] at h3
  exact (Option.some.inj h3).symm
end TH
