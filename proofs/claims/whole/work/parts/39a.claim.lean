/-! The claim (lw_ rows: the skeleton, turned to a start of ours) -/
def lw_P (b : Addr) (xs : List Int32) (args : Array Value) (s : State) : Prop := args = #[.ref b] ∧ s.IntsAt b xs ∧ xs.length ≤ 3584 ∧ (Jvm.Cond.and given_1 narrow_1).before args s = true
def lw_Q (_ : Array Value) (s : State) (o : Outcome) (t : State) : Prop := o = .returned (some (.int 1)) ∧ Framed s o t [] 601024 7293034
theorem lw_pre_spec {args : Array Value} {s : State} (h : (Jvm.Cond.and given_1 narrow_1).before args s = true) (hr : rest_1_c.before args s = true) : ∃ (b : Addr) (xs : List Int32), lw_P b xs args s := by
  have hs := flat_of_before _ h
  have hq := flat_of_before _ hr
  have hc : (Cond.count 1).before args s = true := hs _ (by decide +kernel)
  have harr : (Cond.arrayOf (.arg 0) .int).before args s = true := hs _ (by decide +kernel)
  have hle : (Cond.le (.length (.arg 0)) (.int 3584)).before args s = true := hs _ (by decide +kernel)
  have hlen : (Cond.isInt (.length (.arg 0))).before args s = true := hq _ (by decide +kernel)
  have hall : (Cond.all (.arg 0) (.isInt (.elem (.arg 0) (.index 0)))).before args s = true := hq _ (by decide +kernel)
  obtain ⟨b, xs, hb, hx⟩ := State.ints_of_pre rfl harr hlen hall
  have hsm : xs.length < 2 ^ 31 := hx.choose_spec.2.2.2
  have hev : (Term.length (.arg 0)).eval args s none [] s = some (.int xs.length.toInt32) := hx.length_eval hb
  have hv := Cond.le_ints hev (show (Term.int 3584).eval args s none [] s = some (.int 3584) from rfl)
  have hd : xs.length.toInt32 ≤ 3584 := by
    simpa [Cond.before, Cond.holds, hv] using hle
  have hN : xs.length ≤ 3584 := (Int32.ofNat_le_ofNat hsm (by decide)).mp (show Int32.ofNat xs.length ≤ Int32.ofNat 3584 from hd)
  exact ⟨b, xs, Cond.one_arg hc (show args[0]? = some (.ref b) from hb), hx, hN, h⟩
section CLM
theorem law_sp {G : GE} (hN : gN G ≤ 3584) : Sp G 41 (0 + 512 + 878) (0 + 6 * 512 + 13383) ML_law_ [.float 0] (a0H, mkR [], 0) RT := Sp.mk [.float 0, .null, .null, .null, .null, .null, .null] rfl rfl rfl rfl (law_start (C := 0) (S := 0) hN)
theorem lw_walk (l : Launch) (hflags : l.flags = flags0) {p : Program} {e : Env} (ha : l.admits e) (hc : FairCas e.choices) (hk : FairClock e.choices) {s : State} {m : MethodId} {args : Array Value} {below : List Frame} (hf : s.frames = .invoking m args :: below)
    (happ : (headSpec (Jvm.Cond.code x code maxLocals ret :: tables_1) room_1).appliesLoose x e.platform s = true) {b : Addr} {xs : List Int32} (hP : lw_P b xs args s) :
    ∃ n o, (∀ k, k < n → Within (stepsAlone p.tables e k s) below) ∧ (stepsAlone p.tables e n s).status = .running ∧ Ended (stepsAlone p.tables e n s) below o ∧ lw_Q args s o (stepsAlone p.tables e n s) := by
  obtain ⟨c1, c2, c3, c4, c5, c6, c7, c8⟩ := (Spec.appliesLoose_iff hf).mp happ
  obtain ⟨rfl, hx, hbd, hgv⟩ := hP
  obtain ⟨scr, harrAt, hlist, hof, hsmall⟩ := hx
  obtain ⟨hcb, hkn, -, -⟩ := State.arrayAt?_spec harrAt
  have hts0 : ∀ c ∈ (Jvm.Cond.code x code maxLocals ret :: tables_1), c.before #[Value.ref b] s = true := atoms_spec (ws := Jvm.Cond.code x code maxLocals ret :: tables_1) c8
  have hts : ∀ w ∈ lw_tbl, w.before #[Value.ref b] s = true := k2_hts_sels lw_privs (fun w hw => hts0 w (List.mem_cons_of_mem _ hw)) lw_privs_ok
  have hsz : scr.slots.size = xs.length := by rw [← Array.length_toList, hlist, List.length_map]
  have hval : ∀ j : Nat, j < xs.length → scr.slots[j]? = some (.int (xs.getD j 0)) := fun j hj => by
    rw [← Array.getElem?_toList, hlist]
    simp [hj]
  have hbl : b < s.heap.size := (Array.getElem?_eq_some_iff.mp hcb).1
  have hX : va_X b xs.length (fun j => xs.getD j 0) s s.heap := ⟨scr, hcb, hof, hkn, hsz, hval⟩
  obtain ⟨G, e1, e2, e3, e4, e5, hG⟩ := gw_start l hflags hts (flat_of_before _ hgv) hX hbl
  have M := law_sp (G := G) (by rw [e4]; exact hbd)
  have hpre : (allAtoms (wsM ML_law_)).before #[Value.ref b] s = true := atoms_intro (fun w hw => by
    rcases List.mem_cons.mp hw with rfl | hw
    · exact hts0 _ List.mem_cons_self
    · exact hts w (List.mem_filter.mp hw).1)
  have hroom : s.hasRoom e.platform (rmD 41 (0 + 512 + 878) (0 + 6 * 512 + 13383)) = true := hasRoom_up (r' := room_1) (by decide) (by decide) (by decide) (by decide) c7
  have hw0 : wsW G (a0H, mkR [], 0) = [] := rfl
  have hWs : Ws G (a0H, mkR [], 0) s.heap := ⟨fun k q h => by rw [hw0] at h; simp at h, Nat.zero_le _, by show gB G + 0 ≤ _; omega, fun _ => by show _ = gB G + 0; omega⟩
  obtain ⟨n, o, r1, r2, r3, hQ⟩ := M p e (by rw [e1]; exact ha) hc hk s m #[Value.ref b] below hf ((Spec.appliesLoose_iff hf).mpr ⟨c1, c2, c3, c4, c5, c6, hroom, hpre⟩) ⟨by show _ = #[Value.ref (gS G 0)]; rw [e3], hG, hWs⟩ trivial
  refine ⟨n, o, r1, r2, r3, ?_⟩
  rcases hQ with ⟨⟨r, h, ⟨v, hv, h1⟩, ho, _, _⟩, L, hF, hL⟩ | ⟨q, _, E, ce, L, ⟨h, ⟨v, hv, _⟩, _⟩, _⟩
  · cases hv
    subst h1
    refine ⟨ho, hF.1, hF.2.1, hF.2.2.weaken (fun y hy hlt => ?_) (by decide) (by decide)⟩
    have h9 : s.heap.size ≤ y.base := by
      rw [← e2]
      exact hL y hy
    exact absurd hlt (Nat.not_lt.mpr h9)
  · cases hv
theorem lw_comes (l : Launch) (hflags : l.flags = flags0) : Comes l x (Jvm.Cond.code x code maxLocals ret :: tables_1) room_1 (fun tb e args s => Calls_1 tb e args s ∧ rest_1 tb e args s ∧ Pre_1 tb e args s)
    (fun _ _ args s o t => lw_Q args s o t) := by
  intro p e ha hc hk s m args below hf hfit hheap happ hpre
  obtain ⟨b, xs, hP⟩ := lw_pre_spec hpre.2.2 hpre.2.1
  obtain ⟨k, o, h1, h2, h3, hQ⟩ := lw_walk l hflags ha hc hk hf ((Spec.applies_iff_loose hf).mp happ).1 hP
  exact ⟨k, o, h1, h2, h3, hQ⟩
end CLM
theorem lw_frame {s t : State} {o : Outcome} {args : Array Value} (h : Framed s o t [] 601024 7293034) :
    Framed s o t (fieldLocs frame_1_writes args s ++ arrayLocs frame_1_arrays args s ++ staticLocs frame_1_statics s) 601024 7293034 := h
theorem lw_limb (L : Cond) (hL : ∀ (args : Array Value) (s t : State), L.after args s (.returned (some (.int 1))) t = true) :
    ArmFor flags0 classFile x code maxLocals ret World_1 tables_1 room_1 Calls_1 rest_1 Pre_1
      (fun tb e a s o t => postC L tb e a s o t ∧ Framed s o t (fieldLocs frame_1_writes a s ++ arrayLocs frame_1_arrays a s ++ staticLocs frame_1_statics s) 601024 7293034) := by
  intro l hflags _ _ p e ha hc hk s m args below hf hfit hheap happ hpre
  obtain ⟨k, o, h1, h2, h3, rfl, hF⟩ := lw_comes l hflags p e ha hc hk s m args below hf hfit hheap happ hpre
  exact ⟨k, _, h1, h2, h3, hL args s _, lw_frame hF⟩
theorem i_vc : Claimed_1_1 ∧ Claimed_1_2 := ⟨lw_limb limb_1_1 (fun args s t => by simp [limb_1_1, Cond.after, Cond.holds, Cond.value]), lw_limb limb_1_2 (fun args s t => Cond.after_iff.mpr (by
  first | (rw [show limb_1_2 = Cond.eq .result (.int 1) from rfl, Cond.eq_ints (x := 1) (y := 1) rfl rfl]; simp; done) | (simp [limb_1_2, Cond.value, Term.eval]; done)))⟩
