/-! what holds of the machine's tables and of the old cells, all along -/
def va_AOA (ty : FieldType) (U : State) : Prop := (Cond.arrayOver (.array ty)).before #[] U = true
theorem va_AOA.use {ty : FieldType} {A : Array Value} {U : State} (h : va_AOA ty U) : (Cond.arrayOver (.array ty)).before A U = true := h
theorem va_AOA.moved {ty : FieldType} {u U : State} (hvm : u.vm.Alike U.vm) (h : va_AOA ty u) : va_AOA ty U := Jvm.Stand.arrayOver_alikeB hvm h
/-- the texts: class, pool number, text, number -/
def strK : List (String × Nat × String × Nat) := strTab
/-- the JDK's formatter, a reference or null -/
def gF (G : GE) : Value := if gS G 98 = 0 then .null else .float 99
def Gw (G : GE) (U : State) : Prop :=
  va_K (gD G) vwCl (gT G) U ∧ (∀ w ∈ wsN, va_Nw w U) ∧ va_AOA .int U ∧ va_X (gS G 0) (gN G) (gX G) U U.heap ∧ gS G 0 < gB G ∧ gB G ≤ U.heap.size ∧ (gl G).stackTraces = false ∧
  vx_Zq Bundle.tN "UNASSIGNED_STACK" Bundle.steD (aG G) U U.heap ∧ vx_Zq Bundle.tN "SUPPRESSED_SENTINEL" Bundle.listD (aG G) U U.heap ∧
  (∀ q ∈ strK, vk_R q.1 q.2.1 q.2.2.1 (gS G (q.2.2.2 + 1)) U) ∧ vk_S strN strLen strByt (fun i => gS G (i + 1)) (fun i => gS G (100 + i)) (aG G) U U.heap ∧
  va_Z "java/lang/String" "COMPACT_STRINGS" "Z" (.int 1) (aG G) U U.heap ∧
  (∀ q ∈ ncTab, va_Nc q.1 q.2 U) ∧ va_Z "jdk/internal/util/Preconditions" "SIOOBE_FORMATTER" "Ljava/util/function/BiFunction;" (cv G (gF G)) (aG G) U U.heap
theorem Gw.next {G : GE} {s U : State} {locs : List Loc} (h : Gw G s) (hS : va_S (aG G) s.heap U.heap locs) (hW : s.WarmedH U.vm) : Gw G U := by
  obtain ⟨h1, h2, h3, h4, h5, h6, h7, h8, h9, h10, h11, h12, h13, h14⟩ := h
  have hvm := hW.alike
  have hq : ∀ a : Nat, a < s.heap.size → ¬ aG G a → U.heap[a]? = s.heap[a]? := hS.2.1
  exact ⟨va_K.moved hvm h1, fun w hw => nw_warm (List.mem_filter.mp hw).2 hW (h2 w hw), h3.moved hvm, (h4.moved hvm).kept (hS.2.1 _ (Nat.lt_of_lt_of_le h5 h6) (Nat.not_le.mpr h5)), h5, Nat.le_trans h6 hS.1, h7,
    (h8.moved hvm).kept hq, (h9.moved hvm).kept hq, fun q hq => (h10 q hq).warm hW, (h11.moved hvm).kept hq, (h12.moved hvm).kept hq, fun q hq => (h13 q hq).moved hvm, (h14.moved hvm).kept hq⟩
theorem Gw.same {G : GE} {s U : State} (h : Gw G s) (hh : U.heap = s.heap) (hv : U.vm = s.vm) : Gw G U := by
  obtain ⟨h1, h2, h3, h4, h5, h6, h7, h8, h9, h10, h11, h12, h13, h14⟩ := h
  have hvm : s.vm.Alike U.vm := by rw [hv]; exact Vm.Alike.refl _
  refine ⟨va_K.moved hvm h1, fun w hw => ?_, h3.moved hvm, by rw [hh]; exact h4.moved hvm, h5, by rw [hh]; exact h6, h7, by rw [hh]; exact h8.moved hvm, by rw [hh]; exact h9.moved hvm, fun q hq => (h10 q hq).same hv, by rw [hh]; exact h11.moved hvm, by rw [hh]; exact h12.moved hvm, fun q hq => (h13 q hq).moved hvm, by rw [hh]; exact h14.moved hvm⟩
  have h := (List.mem_filter.mp hw).2
  have h0 := h2 w hw
  revert h0
  cases w <;> first | exact fun h0 => va_Nw.same rfl hv.symm h0 | (simp [goodNw] at h; done)
/-! the judgement -/
def Cx (G : GE) (M : MI) (p : Program) (s : State) (m : MethodId) (args : Array Value) (meth : Method) (c : Code) : Prop :=
  p.tables.exec = Jvm.exec ∧ c.code = M.2.1 ∧ c.maxLocals = M.2.2.1 ∧ meth.sig.returnType = M.2.2.2.1 ∧ meth.locks = false ∧ s.vm.findClass M.1.cls = some m.cls ∧ (∀ w ∈ wsM M, w.before args s = true) ∧ meth.name = M.1.name ∧ c.exceptionTable.toList = tableOf M.2.2.2.2 ∧ Gw G s
def lvA (G : GE) (ls : Array Slot) (n : Nat) (L : List Value) : Prop := ls.size = n ∧ lv_wf ls ∧ ∀ (i : Nat) (v : Value), L[i]? = some v → v ≠ .null → ls[i]? = some (.val (cv G v))
def Rm (d C S cells slots : Nat) (R : Room) : Prop := d ≤ R.frames ∧ 60 * d ≤ R.locals ∧ cells + C ≤ R.cells ∧ slots + S ≤ R.slots
def Qn (G : GE) (ρ : Rs) : Array Value → State → Outcome → State → Prop := fun _ st o t => ∃ r h, ρ (.inl r) h ∧ o = .returned (r.map (cv G)) ∧ Ws G h t.heap ∧ va_F (aG G) st t
def Qx (G : GE) (ρ : Rs) : String → State → State → Prop := fun E st t => ∃ h, ρ (.inr E) h ∧ Ws G h t.heap ∧ va_F (aG G) st t
def E (G : GE) (M : MI) (d C S pc : Nat) (L st : List Value) (h : AH) (ρ : Rs) : Prop :=
  ∀ (p : Program) (e : Env) (R : Room) (s : State) (m : MethodId) (args : Array Value) (below : List Frame) (meth : Method) (c : Code) (H : Heap) (locs : List Loc) (cells slots : Nat) (ls : Array Slot),
    Cx G M p s m args meth c → Rm d C S cells slots R → lvA G ls M.2.2.1 L → Ws G h H → va_S (aG G) s.heap H locs →
    W p (gl G) e R s m args below meth c H locs cells slots (vx_MQ below (Qn G ρ) (Qx G ρ) args s R.cells R.slots (aG G)) (F0 m pc ls (st.map (cv G)))
def rmD (d mc ms : Nat) : Room := { frames := d, cells := mc, slots := ms, locals := 60 * d }
/-- method M, called with these arguments in this heap, ends so -/
def Sp (G : GE) (d mc ms : Nat) (M : MI) (as : List Value) (h : AH) (ρ : Rs) : Prop :=
  vx_Met (gl G) M.1 (wsM M) (rmD d mc ms) (fun a U => a = (as.map (cv G)).toArray ∧ Gw G U ∧ Ws G h U.heap) (Qn G ρ) (Qx G ρ) mc ms (aG G)
theorem Sp_blind (G : GE) (as : List Value) (h : AH) : FrameBlind (fun a U => a = (as.map (cv G)).toArray ∧ Gw G U ∧ Ws G h U.heap) := fun a U g mk q => ⟨q.1, q.2.1.same rfl rfl, q.2.2⟩
theorem lvA_entry (G : GE) (as : List Value) {n : Nat} (hc : ∀ v ∈ as, v.category = 1) (hn : as.length ≤ n) : lvA G ((lg_sl (as.map (cv G)) ++ List.replicate (n - (lg_sl (as.map (cv G))).length) Slot.unset).toArray) n (as ++ List.replicate (n - as.length) .null) := by
  have e : ∀ (l : List Value), (∀ v ∈ l, v.category = 1) → lg_sl (l.map (cv G)) = l.map (fun v => .val (cv G v)) := by
    intro l
    induction l with
    | nil => intro _; rfl
    | cons v l ih =>
      intro h
      have h1 : (cv G v).category = 1 := by rw [cv_cat]; exact h v List.mem_cons_self
      have := ih (fun w hw => h w (List.mem_cons_of_mem _ hw))
      simp [lg_sl, h1] at this ⊢
      exact this
  have e0 := e as hc
  have hlen : (lg_sl (as.map (cv G))).length = as.length := by rw [e0]; simp
  obtain ⟨h1, h2, -⟩ := lv_entry (as.map (cv G)) (n := n) (by rw [hlen]; exact hn)
  refine ⟨h1, h2, fun i v hi hv => ?_⟩
  rw [e0]
  simp only [List.length_map, List.getElem?_toArray]
  by_cases hl : i < as.length
  · rw [List.getElem?_append_left hl] at hi
    rw [List.getElem?_append_left (by simpa using hl), List.getElem?_map, hi]
    rfl
  · rw [List.getElem?_append_right (by omega)] at hi
    obtain ⟨h9, h8⟩ := List.getElem?_eq_some_iff.mp hi
    rw [List.getElem_replicate] at h8
    exact absurd h8.symm hv
/-- a method out of its body -/
theorem Sp.of {G : GE} {d mc ms : Nat} {M : MI} {as : List Value} {h : AH} {ρ : Rs} (hy : plainName M.1.cls = true) (hc : ∀ v ∈ as, v.category = 1) (hn : as.length ≤ M.2.2.1)
    (hE : E G M d mc ms 0 (as ++ List.replicate (M.2.2.1 - as.length) .null) [] h ρ) : Sp G d mc ms M as h ρ := by
  obtain ⟨y, cc, maxL, ret, hh⟩ := M
  cases hh with
  | nil =>
    refine vx_ofW (cc := cc) (maxL := maxL) (ret := ret) hy rfl ?_
    intro p e s m args below meth c s₁ B hml ht hv
    obtain ⟨rfl, hg, hw⟩ := hv
    rw [lg_entry_eq]
    exact hE p e (rmD d mc ms) s m _ below meth c s.heap [] 0 0 _ ⟨B.exec, B.bytes, hml, B.returns, B.notSynchronized, findClass_of_methodNamed B.named, atoms_spec (ws := wsM _) B.pre, (name_of_methodNamed B.named B.method).1, by
      cases he : c.exceptionTable.toList with
      | nil => rfl
      | cons x l => exact (ht x (by rw [he]; exact List.mem_cons_self)).elim, hg⟩ ⟨Nat.le_refl _, Nat.le_refl _, by show 0 + mc ≤ mc; omega, by show 0 + ms ≤ ms; omega⟩ (lvA_entry G as hc hn) hw va_S.rf
  | cons h0 hh =>
    refine vx_ofWH (cc := cc) (maxL := maxL) (ret := ret) (hh := h0 :: hh) hy rfl ?_
    intro p e s m args below meth c s₁ B hml hv
    obtain ⟨rfl, hg, hw⟩ := hv
    rw [lg_entry_eq]
    have hts := atoms_spec (ws := wsM (y, cc, maxL, ret, h0 :: hh)) B.pre
    exact hE p e (rmD d mc ms) s m _ below meth c s.heap [] 0 0 _ ⟨B.exec, B.bytes, hml, B.returns, B.notSynchronized, findClass_of_methodNamed B.named, hts, (name_of_methodNamed B.named B.method).1, vx_table (x := y) B (hts _ List.mem_cons_self), hg⟩ ⟨Nat.le_refl _, Nat.le_refl _, by show 0 + mc ≤ mc; omega, by show 0 + ms ≤ ms; omega⟩ (lvA_entry G as hc hn) hw va_S.rf
