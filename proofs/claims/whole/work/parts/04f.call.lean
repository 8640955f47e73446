/-! returns, switches, calls, throws -/
section CA
variable {G : GE} {M : MI} {d C S pc : Nat} {ρ : Rs} {k : Kt} {h h' : AH} {H H' : Heap} {q ci : Nat}
/-- results of a kind -/
def RI (P : Int32 → (Nat → Nat → Int32) → (Nat → Nat → Value) → Nat → Prop) : Rs := fun x h => ∃ v, x = .inl (some (.int v)) ∧ P v h.1 h.2.1 h.2.2
def RJ (P : Int64 → (Nat → Nat → Int32) → (Nat → Nat → Value) → Nat → Prop) : Rs := fun x h => ∃ v, x = .inl (some (.long v)) ∧ P v h.1 h.2.1 h.2.2
def RN (P : (Nat → Nat → Int32) → (Nat → Nat → Value) → Nat → Prop) : Rs := fun x h => x = .inl none ∧ P h.1 h.2.1 h.2.2
def RX (P : String → (Nat → Nat → Int32) → (Nat → Nat → Value) → Nat → Prop) : Rs := fun x h => ∃ E, x = .inr E ∧ P E h.1 h.2.1 h.2.2
def rK (t : Option FieldType) (P : List Value → AH → Prop) : Rs := match t with
  | none => RN fun a r N => P [] (a, r, N)
  | some .long => RJ fun v a r N => P [.long v] (a, r, N)
  | some _ => RI fun v a r N => P [.int v] (a, r, N)
theorem rK_spec {t : Option FieldType} {P : List Value → AH → Prop} {x : Option Value ⊕ String} {h : AH} (h0 : rK t P x h) : ∃ v, x = .inl v ∧ P v.toList h := by
  unfold rK at h0
  split at h0
  · obtain ⟨rfl, h2⟩ := h0; exact ⟨none, rfl, h2⟩
  · obtain ⟨v, rfl, h2⟩ := h0; exact ⟨some (.long v), rfl, h2⟩
  · obtain ⟨v, rfl, h2⟩ := h0; exact ⟨some (.int v), rfl, h2⟩
/-- nothing else on the stack -/
def emp (st : List Value) (p : Prop) : Prop := match st with
  | [] => p
  | _ => False
theorem emp_spec {st : List Value} {p : Prop} (h : emp st p) : st = [] ∧ p := by
  cases st
  · exact ⟨rfl, h⟩
  · exact h.elim
abbrev KI : Type := Int32 → (Nat → Nat → Int32) → (Nat → Nat → Value) → Nat → Prop
abbrev KJ : Type := Int64 → (Nat → Nat → Int32) → (Nat → Nat → Value) → Nat → Prop
abbrev KN : Type := (Nat → Nat → Int32) → (Nat → Nat → Value) → Nat → Prop
abbrev KX : Type := String → (Nat → Nat → Int32) → (Nat → Nat → Value) → Nat → Prop
theorem e_zret {ty : FieldType} {a : Int32} {L : List Value} (hr : M.2.2.2.1 = some ty) (hna : narrow ty (.int a) = .int a) (hd : decode M.2.1 pc = .ok (.ireturn, 1)) (hρ : ρ (.inl (some (.int a))) h) : E G M d C S pc L [.int a] h ρ := by
  intro p e R s m args below meth c H locs cells slots ls hC hR hl hW hS
  obtain ⟨hR1, hR2, hR3, hR4⟩ := hR
  refine W.widen (k := R.cells) (n := R.slots) (by omega) (by omega) (vx_ret (W.zret (v := a) hC.1 hC.2.1 (hC.2.2.2.1.trans hr) hna (fun t ht hw => ?_) hS.2.2 hd hC.2.2.2.2.1))
  exact ⟨some (.int a), h, hρ, rfl, by rw [ht]; exact hW, hS.F ht⟩
def s_ireturn (P : KI) : Kt := fun _ st h => p1 st (fun a st => emp st (P a h.1 h.2.1 h.2.2))
theorem e_ireturn {P : KI} (hr : M.2.2.2.1 = some .int) (hd : decode M.2.1 pc = .ok (.ireturn, 1)) : Snd G M d C S pc (RI P) (s_ireturn P) := fun L st h hs => by
  obtain ⟨a, r, rfl, hs⟩ := p1_spec hs
  obtain ⟨rfl, hs2⟩ := emp_spec hs
  exact e_zret hr rfl hd ⟨a, rfl, hs2⟩
/-- a truth value -/
def bz (a : Int32) : Prop := narrow .boolean (.int a) = .int a
def s_zreturn (P : KI) : Kt := fun _ st h => p1 st (fun a st => emp st (bz a ∧ P a h.1 h.2.1 h.2.2))
theorem e_zreturn {P : KI} (hr : M.2.2.2.1 = some .boolean) (hd : decode M.2.1 pc = .ok (.ireturn, 1)) : Snd G M d C S pc (RI P) (s_zreturn P) := fun L st h hs => by
  obtain ⟨a, r, rfl, hs⟩ := p1_spec hs
  obtain ⟨rfl, hn, hs2⟩ := emp_spec hs
  exact e_zret hr hn hd ⟨a, rfl, hs2⟩
def s_return (P : KN) : Kt := fun _ st h => emp st (P h.1 h.2.1 h.2.2)
theorem e_return {P : KN} (hr : M.2.2.2.1 = none) (hd : decode M.2.1 pc = .ok (.return_, 1)) : Snd G M d C S pc (RN P) (s_return P) := fun L st h hs => by
  obtain ⟨rfl, hs2⟩ := emp_spec hs
  intro p e R s m args below meth c H locs cells slots ls hC hR hl hW hS
  obtain ⟨hR1, hR2, hR3, hR4⟩ := hR
  refine W.widen (k := R.cells) (n := R.slots) (by omega) (by omega) (vx_ret (W.vret hC.1 hC.2.1 (hC.2.2.2.1.trans hr) (fun t ht hw => ?_) hS.2.2 hd hC.2.2.2.2.1))
  exact ⟨none, h, ⟨rfl, hs2⟩, rfl, by rw [ht]; exact hW, hS.F ht⟩
def s_lreturn (P : KJ) : Kt := fun _ st h => pL1 st (fun a st => emp st (P a h.1 h.2.1 h.2.2))
theorem e_lreturn {P : KJ} (hr : M.2.2.2.1 = some .long) (hd : decode M.2.1 pc = .ok (.lreturn, 1)) : Snd G M d C S pc (RJ P) (s_lreturn P) := fun L st h hs => by
  obtain ⟨a, r, rfl, hs⟩ := pL1_spec hs
  obtain ⟨rfl, hs2⟩ := emp_spec hs
  intro p e R s m args below meth c H locs cells slots ls hC hR hl hW hS
  obtain ⟨hR1, hR2, hR3, hR4⟩ := hR
  refine W.widen (k := R.cells) (n := R.slots) (by omega) (by omega) (vx_ret (W.lret (v := a) hC.1 hC.2.1 (hC.2.2.2.1.trans hr) (fun t ht hw => ?_) hS.2.2 hd hC.2.2.2.2.1))
  exact ⟨some (.long a), h, ⟨a, rfl, hs2⟩, rfl, by rw [ht]; exact hW, hS.F ht⟩
/-- a way on which nothing comes -/
def s_no : Kt := fun _ _ _ => False
theorem e_no : Snd G M d C S pc ρ s_no := fun _ _ _ hs => hs.elim
/-! switches: the cases in order, then the default -/
def swK : List (Int32 × Kt) → Kt → Int32 → Kt
  | [], kd, _ => kd
  | (c, k) :: t, kd, x => fun L st h => (x = c → k L st h) ∧ (¬ x = c → swK t kd x L st h)
def s_switch (cs : List (Int32 × Kt)) (kd : Kt) : Kt := fun L st h => p1 st (fun x st => swK cs kd x L st h)
theorem swK_out {kd : Kt} {x : Int32} {L st : List Value} : ∀ {cs : List (Int32 × Kt)}, (∀ c ∈ cs, ¬ x = c.1) → swK cs kd x L st h → kd L st h
  | [], _, hs => hs
  | (c, k) :: t, hx, hs => swK_out (cs := t) (fun c h => hx c (List.mem_cons_of_mem _ h)) (hs.2 (hx (c, k) List.mem_cons_self))
theorem swK_in {kd : Kt} {x : Int32} {L st : List Value} : ∀ {cs : List (Int32 × Kt)} (i : Nat) {c : Int32 × Kt}, cs[i]? = some c → x = c.1 → (∀ j c', j < i → cs[j]? = some c' → ¬ x = c'.1) → swK cs kd x L st h → c.2 L st h
  | [], i, c, hi, _, _, _ => by simp at hi
  | (c0, k0) :: t, 0, c, hi, hx, _, hs => by
    simp at hi
    subst hi
    exact hs.1 hx
  | (c0, k0) :: t, i + 1, c, hi, hx, hn, hs => swK_in (cs := t) i (by simpa using hi) hx (fun j c' hj hc' => hn (j + 1) c' (by omega) (by simpa using hc')) (hs.2 (hn 0 (c0, k0) (by omega) rfl))
/-- tableswitch: key lo + i goes to the i-th target -/
theorem e_tswitch {dflt lo hi : Int} {offs : Array Int} {len td : Nat} {cs : List (Int32 × Kt)} {kd : Kt} {tg : List Nat} (hd : decode M.2.1 pc = .ok (.tableswitch dflt lo hi offs, len)) (htd : (pc : Int) + dflt = (td : Int))
    (hlen : hi = lo + cs.length - 1) (hkeys : ∀ (i : Nat), i < cs.length → (cs.map (fun c => c.1.toInt))[i]? = some (lo + i)) (hoff : ∀ (i : Nat), i < cs.length → ∃ (o : Int) (t : Nat), offs[i]? = some o ∧ tg[i]? = some t ∧ (pc : Int) + o = (t : Int))
    (hks : ∀ (i : Nat) (c : Int32 × Kt) (t : Nat), cs[i]? = some c → tg[i]? = some t → Snd G M d C S t ρ c.2) (hkd : Snd G M d C S td ρ kd) : Snd G M d C S pc ρ (s_switch cs kd) := fun L st h hs => by
  obtain ⟨x, r, rfl, hs⟩ := p1_spec hs
  have hkey : ∀ (i : Nat) (c : Int32 × Kt), cs[i]? = some c → c.1.toInt = lo + i := fun i c hc => by
    have hi : i < cs.length := (List.getElem?_eq_some_iff.mp hc).1
    have := hkeys i hi
    rw [List.getElem?_map, hc] at this
    exact Option.some.inj this
  by_cases h1 : x.toInt < lo ∨ hi < x.toInt
  · refine e_go (fun ls hx hb _ q => lv_tableOut hx hb hd h1 htd q) (hkd _ _ _ (swK_out (fun c hc e => ?_) hs))
    obtain ⟨i, hi⟩ := List.mem_iff_getElem?.mp hc
    have hil : i < cs.length := (List.getElem?_eq_some_iff.mp hi).1
    have := hkey i c hi
    rw [← e] at this
    omega
  · have h2 : ¬ x.toInt < lo := fun z => h1 (Or.inl z)
    have h3 : ¬ hi < x.toInt := fun z => h1 (Or.inr z)
    have hil : (x.toInt - lo).toNat < cs.length := by omega
    obtain ⟨o, t, ho, ht, hot⟩ := hoff _ hil
    have hc : cs[(x.toInt - lo).toNat]? = some cs[(x.toInt - lo).toNat] := List.getElem?_eq_getElem hil
    refine e_go (fun ls hx hb _ q => lv_tableIn hx hb hd h2 h3 ho hot q) (hks _ _ _ hc ht _ _ _ (swK_in _ hc ?_ (fun j c' hj hc' e => ?_) hs))
    · have := hkey _ _ hc
      apply Int32.toInt_inj.mp
      omega
    · have := hkey _ _ hc'
      rw [← e] at this
      omega
theorem e_lswitch {dflt : Int} {ps : Array (Int × Int)} {len td : Nat} {cs : List (Int32 × Kt)} {kd : Kt} {tg : List Nat} (hd : decode M.2.1 pc = .ok (.lookupswitch dflt ps, len)) (htd : (pc : Int) + dflt = (td : Int))
    (hp : (ps.toList.zip (ps.toList.drop 1)).all (fun (a, next) => a.1 < next.1) = true)
    (hps : ps.toList = (cs.zip tg).map (fun c => (c.1.1.toInt, (c.2 : Int) - pc))) (hl2 : tg.length = cs.length)
    (hks : ∀ (i : Nat) (c : Int32 × Kt) (t : Nat), cs[i]? = some c → tg[i]? = some t → Snd G M d C S t ρ c.2) (hkd : Snd G M d C S td ρ kd) : Snd G M d C S pc ρ (s_switch cs kd) := fun L st h hs => by
  obtain ⟨x, r, rfl, hs⟩ := p1_spec hs
  have key : ∀ (cs : List (Int32 × Kt)) (tg : List Nat) (ps : List (Int × Int)), tg.length = cs.length → ps = (cs.zip tg).map (fun c => (c.1.1.toInt, (c.2 : Int) - pc)) → (∀ (i : Nat) (c : Int32 × Kt) (t : Nat), cs[i]? = some c → tg[i]? = some t → Snd G M d C S t ρ c.2) → swK cs kd x L r h →
      ∃ t : Nat, (pc : Int) + Op.lookupswitch.offset ps dflt x.toInt = (t : Int) ∧ E G M d C S t L r h ρ := by
    intro cs
    induction cs with
    | nil =>
      intro tg ps h1 h2 h3 hs
      simp at h2
      subst h2
      exact ⟨td, by first | exact htd | simpa [Op.lookupswitch.offset] using htd, hkd _ _ _ hs⟩
    | cons c cs ih =>
      intro tg ps h1 h2 h3 hs
      obtain ⟨c0, k0⟩ := c
      cases tg with
      | nil => simp at h1
      | cons t tg =>
        simp only [List.zip_cons_cons, List.map_cons] at h2
        subst h2
        by_cases e : x = c0
        · refine ⟨t, ?_, h3 0 (c0, k0) t rfl rfl _ _ _ (hs.1 e)⟩
          subst e
          simp [Op.lookupswitch.offset]
          omega
        · obtain ⟨t', ht', hE⟩ := ih tg _ (by simpa using h1) rfl (fun i c t hc ht => h3 (i + 1) c t (by simpa using hc) (by simpa using ht)) (hs.2 e)
          refine ⟨t', ?_, hE⟩
          rw [← ht']
          have : ¬ c0.toInt = x.toInt := fun z => e (Int32.toInt_inj.mp z.symm)
          simp [Op.lookupswitch.offset, this]
  obtain ⟨t, ht, hE⟩ := key cs tg ps.toList hl2 hps hks hs
  exact e_go (fun ls hx hb _ q => lv_lookup hx hb hd hp rfl ht q) hE
/-! calls -/
theorem run_call {p : Program} {e : Env} {R : Room} {s : State} {m : MethodId} {args a : Array Value} {below : List Frame} {meth : Method} {c : Code} {locs : List Loc} {cells slots mc ms : Nat} {Q : State → Prop} {ls : Array Slot} {st0 rest : List Value} {ρ' : Rs}
    (hr : vx_Run p (gl G) e R s m args below meth c H locs cells slots mc ms (F0 m pc ls st0) rest (Qn G ρ' a) (Qx G ρ') (aG G)) (hS : va_S (aG G) s.heap H locs)
    (kx : ∀ (E : String) (h1 : AH) (ce : Cell) (q9 : Addr) (H1 : Heap) (locs1 : List Loc), ρ' (.inr E) h1 → Ws G h1 H1 → va_S (aG G) s.heap H1 locs1 → H1[q9]? = some ce → ce.vm = .none → s.vm.findClass E = some ce.cls → vx_W p (gl G) e R s m args below meth c H1 locs1 (cells + mc) (slots + ms) Q (F0 m pc ls rest) q9)
    (kk : ∀ (r : Option Value) (h1 : AH) (H1 : Heap) (locs1 : List Loc), ρ' (.inl r) h1 → Ws G h1 H1 → va_S (aG G) s.heap H1 locs1 → W p (gl G) e R s m args below meth c H1 locs1 (cells + mc) (slots + ms) Q (F0 m (pc + 3) ls ((r.map (cv G)).toList ++ rest))) : W p (gl G) e R s m args below meth c H locs cells slots Q (F0 m pc ls st0) := by
  intro T hT X
  rcases hr T hT X with ⟨v, st₀, t, T', L, h0, X', hL, e1, e2, ⟨r, h9, hv, ho, hb, hF⟩, st⟩ | ⟨q, st₀, t, T', L, E, ce, h0, X', hL, e1, e2, ⟨h9, hv, hb, hF⟩, hce, hcv, hcl, st⟩
  · cases ho
    obtain ⟨k1, k2, k3⟩ := vx_keep (A1 := aG G) h0 e1 hS (fun q _ h => h) (fun q h => h) hL hF
    obtain ⟨t2, a1, b1⟩ := kk r h9 T'.heap (locs ++ L) hv (by rw [e1]; exact hb) k3 T' rfl X'
    exact ⟨t2, st t2 a1, b1⟩
  · obtain ⟨k1, k2, k3⟩ := vx_keep (A1 := aG G) h0 e1 hS (fun q _ h => h) (fun q h => h) hL hF
    obtain ⟨t2, a1, b1⟩ := kx E h9 ce q T'.heap (locs ++ L) hv (by rw [e1]; exact hb) k3 (by rw [e1]; exact hce) hcv hcl T' rfl X'
    exact ⟨t2, st.trans a1, b1⟩
/-- what a call asks: the callee's result, what goes on behind it -/
def s_call (G : GE) (d : Nat) (M' : MI) (n : Nat) (k : Kt) : Kt := fun L st h => gd (!(Nat.ble n st.length && Nat.ble (st.drop n).length 4)) (Sp G d 0 0 M' (st.take n).reverse h (rK M'.2.2.2.1 (fun vs h' => k L (vs ++ st.drop n) h')))
/-- the callee throws -/
def s_callX (G : GE) (d : Nat) (M' : MI) (n : Nat) (P : KX) : Kt := fun _ st h => gd (!(Nat.ble n st.length && Nat.ble (st.drop n).length 4)) (Sp G d 1 6 M' (st.take n).reverse h (RX P))
def Cal (M : MI) (index : Nat) (M' : MI) (nd : Nat) : Prop := M'.2.2.2.2 = [] ∧ M'.2.2.1 ≤ 41 ∧ hdM M' ∈ wsG ∧ Cond.initialized M'.1.cls ∈ wsG ∧ (M'.1.cls ≠ "java/lang/invoke/MethodHandle" ∧ M'.1.cls ≠ "java/lang/invoke/VarHandle" ∧ (parseMethodDescriptor M'.1.desc).map (fun d => d.parameters.length) = some nd)
theorem cal_B {index nd mc ms : Nat} {M' : MI} {R : Room} {s : State} {args : Array Value} (hc : Cal M index M' nd) (hts : ∀ w ∈ wsM M, w.before args s = true) (hl : Cond.methodLink M.1.cls index M'.1 ∈ wsG) (h1 : d + 1 ≤ R.frames) (h2 : 60 * (d + 1) ≤ R.locals) :
    CallB R s args M.1.cls index M'.1 M'.2.1 M'.2.2.1 M'.2.2.2.1 (wsM M') (rmD d mc ms) mc ms nd := by
  obtain ⟨e0, e1, e2, e3, e4⟩ := hc
  refine callB_of (ws' := wsG) nd hts (wsM_good e2) ?_ rfl rfl (hts _ (wsM_in e3)) (hts _ (wsM_in hl)) e4 ⟨h1, ?_⟩
  · unfold wsM hdM
    rw [e0]
  · show 8 + (M'.2.2.1 + 11) + 60 * d ≤ _
    omega
theorem cat_le (G : GE) : ∀ (l : List Value), l.length ≤ 4 → ((l.map (cv G)).map fun v => v.category).sum ≤ 8 := by
  have key : ∀ (l : List Value), ((l.map (cv G)).map fun v => v.category).sum ≤ 2 * l.length := by
    intro l
    induction l with
    | nil => simp
    | cons v l ih =>
      have := lv_cat (cv G v)
      simp only [List.map_cons, List.sum_cons, List.length_cons]
      omega
  intro l h
  have := key l
  omega
theorem st_split {n : Nat} {st : List Value} (hn : n ≤ st.length) : (st.map (cv G)) = (((st.take n).reverse).map (cv G)).reverse ++ (st.drop n).map (cv G) := by
  rw [← List.map_reverse, List.reverse_reverse, ← List.map_append, List.take_append_drop]
theorem ret_map (r : Option Value) (l : List Value) : (r.map (cv G)).toList ++ l.map (cv G) = (r.toList ++ l).map (cv G) := by
  cases r <;> simp
/-- a call, once its run is known -/
theorem e_run {d0 mc ms n : Nat} {M' : MI} {L st : List Value} {ρ' : Rs}
    (hrun : ∀ {p : Program} {e : Env} {R : Room} {s : State} {m : MethodId} {args : Array Value} {below : List Frame} {meth : Method} {c : Code} {H : Heap} {locs : List Loc} {cells slots : Nat} {ls : Array Slot}, Cx G M p s m args meth c → Rm d (C + mc) (S + ms) cells slots R → lvA G ls M.2.2.1 L → Ws G h H → va_S (aG G) s.heap H locs →
      vx_Run p (gl G) e R s m args below meth c H locs cells slots mc ms (F0 m pc ls (st.map (cv G))) ((st.drop n).map (cv G)) (Qn G ρ' (((st.take n).reverse).map (cv G)).toArray) (Qx G ρ') (aG G))
    (hX : ∀ E h', ρ' (.inr E) h' → M.2.2.2.2 = [] ∧ ρ (.inr E) h')
    (hk : ∀ r h', ρ' (.inl r) h' → E G M d C S (pc + 3) L (r.toList ++ st.drop n) h' ρ) : E G M d (C + mc) (S + ms) pc L st h ρ := by
  intro p e R s m args below meth c H locs cells slots ls hC hR hl hW hS
  have hr := hrun (p := p) (e := e) (below := below) (cells := cells) (slots := slots) hC hR hl hW hS
  obtain ⟨hR1, hR2, hR3, hR4⟩ := hR
  refine run_call hr hS (fun E h1 ce q9 H1 locs1 hE hW1 hS1 hce hcv hcl => ?_) (fun r h1 H1 locs1 hr1 hW1 hS1 => ?_)
  · obtain ⟨hnil, hE⟩ := hX E h1 hE
    refine vx_out (fun x hx => ?_) hC.2.2.2.2.1 hce hcv hcl (fun t ht _ => ⟨h1, hE, by rw [ht]; exact hW1, hS1.F ht⟩) hS1.2.2 (by omega) (by omega)
    rw [hC.2.2.2.2.2.2.2.2.1, hnil] at hx
    simp [tableOf] at hx
  · have h9 := hk r h1 hr1 p e R s m args below meth c H1 locs1 (cells + mc) (slots + ms) ls hC ⟨hR1, hR2, by omega, by omega⟩ hl hW1 hS1
    rw [← ret_map] at h9
    exact h9
theorem sp_pre {M' : MI} {as : List Value} {s : State} {locs : List Loc} (hg : Gw G s) (hW : Ws G h H) (hS : va_S (aG G) s.heap H locs) : ∀ U : State, U.heap = H → s.WarmedH U.vm → (as.map (cv G)).toArray = (as.map (cv G)).toArray ∧ Gw G U ∧ Ws G h U.heap := fun U hU hW2 => ⟨rfl, hg.next (locs := locs) (by rw [hU]; exact hS) hW2, by rw [hU]; exact hW⟩
theorem rS {index nd mc ms : Nat} {M' : MI} {L st : List Value} {ρ' : Rs} (hc : Cal M index M' nd) (hl : Cond.methodLink M.1.cls index M'.1 ∈ wsG) (hst : Cond.static M'.1 ∈ wsG) (hd : decode M.2.1 pc = .ok (.invokestatic index, 3)) (hn : nd ≤ st.length) (hle : (st.drop nd).length ≤ 4) (hM : Sp G d mc ms M' (st.take nd).reverse h ρ')
    {p : Program} {e : Env} {R : Room} {s : State} {m : MethodId} {args : Array Value} {below : List Frame} {meth : Method} {c : Code} {H : Heap} {locs : List Loc} {cells slots : Nat} {ls : Array Slot} (hC : Cx G M p s m args meth c) (hR : Rm (d + 1) (C + mc) (S + ms) cells slots R) (hlv : lvA G ls M.2.2.1 L) (hW : Ws G h H) (hS : va_S (aG G) s.heap H locs) :
      vx_Run p (gl G) e R s m args below meth c H locs cells slots mc ms (F0 m pc ls (st.map (cv G))) ((st.drop nd).map (cv G)) (Qn G ρ' (((st.take nd).reverse).map (cv G)).toArray) (Qx G ρ') (aG G) := by
  have hts := hC.2.2.2.2.2.2.1
  exact vx_runS (As := ((st.take nd).reverse).map (cv G)) (rest := (st.drop nd).map (cv G)) ⟨hC.1, hC.2.1, hC.2.2.1, hC.2.2.2.2.2.1, hts⟩ hM ⟨cal_B hc hts hl hR.1 hR.2.1, hts _ (wsM_in hst)⟩ ⟨Sp_blind G _ h, sp_pre (M' := M') hC.2.2.2.2.2.2.2.2.2 hW hS⟩ rfl (by simp; omega) hlv.1 (st_split hn) (lv_room (cat_le G _ hle)) hd ⟨by have := hR.2.2.1; omega, by have := hR.2.2.2; omega⟩
theorem e_callS {index nd : Nat} {M' : MI} (hc : Cal M index M' nd) (hl : Cond.methodLink M.1.cls index M'.1 ∈ wsG) (hst : Cond.static M'.1 ∈ wsG) (hd : decode M.2.1 pc = .ok (.invokestatic index, 3)) (hk : Snd G M (d + 1) C S (pc + 3) ρ k) : Snd G M (d + 1) C S pc ρ (s_call G d M' nd k) := fun L st h hs => by
  obtain ⟨hn, hle, hM⟩ := gdc_spec hs
  exact e_run (ρ' := _) (C := C) (S := S) (mc := 0) (ms := 0) (n := nd) (M' := M') (d0 := d) (fun hC hR hlv hW hS => rS (C := C) (S := S) hc hl hst hd hn hle hM hC hR hlv hW hS) (fun E h' hE => by obtain ⟨r, e, -⟩ := rK_spec hE; cases e) (fun r' h' hr' => by obtain ⟨r, e, hs⟩ := rK_spec hr'; cases e; exact hk _ _ _ hs)
theorem e_callSX {P : KX} {index nd : Nat} {M' : MI} (hnil : M.2.2.2.2 = []) (hc : Cal M index M' nd) (hl : Cond.methodLink M.1.cls index M'.1 ∈ wsG) (hst : Cond.static M'.1 ∈ wsG) (hd : decode M.2.1 pc = .ok (.invokestatic index, 3)) : Snd G M (d + 1) (C + 1) (S + 6) pc (RX P) (s_callX G d M' nd P) := fun L st h hs => by
  obtain ⟨hn, hle, hM⟩ := gdc_spec hs
  exact e_run (ρ' := _) (C := C) (S := S) (mc := 1) (ms := 6) (n := nd) (M' := M') (d0 := d) (fun hC hR hlv hW hS => rS (C := C) (S := S) hc hl hst hd hn hle hM hC hR hlv hW hS) (fun E h' hE => by exact ⟨hnil, hE⟩) (fun r' h' hr' => by obtain ⟨E', e, -⟩ := hr'; cases e)
end CA
