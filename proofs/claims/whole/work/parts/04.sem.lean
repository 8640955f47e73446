/-! THE ABSTRACT MACHINE over the kit's rows: one flat heap, methods as results -/
abbrev AH : Type := (Nat → Nat → Int32) × (Nat → Nat → Value) × Nat
abbrev Rs : Type := (Option Value ⊕ String) → AH → Prop
abbrev MI : Type := MethodName × ByteArray × Nat × Option FieldType × List (Nat × Nat × Nat × Nat)
abbrev GE : Type := Launch × va_G × (ClassId × ClassId × ClassId × ClassId) × Nat × (Nat → Nat) × (Nat → Nat) × Nat × (Nat → Int32)
abbrev gl (G : GE) : Launch := G.1
abbrev gD (G : GE) : va_G := G.2.1
abbrev gcI (G : GE) : ClassId := G.2.2.1.1
abbrev gcB (G : GE) : ClassId := G.2.2.1.2.1
abbrev gcG (G : GE) : ClassId := G.2.2.1.2.2.1
abbrev gcL (G : GE) : ClassId := G.2.2.1.2.2.2
abbrev gB (G : GE) : Nat := G.2.2.2.1
abbrev gS (G : GE) : Nat → Nat := G.2.2.2.2.1
abbrev gV (G : GE) : Nat → Nat := G.2.2.2.2.2.1
abbrev gN (G : GE) : Nat := G.2.2.2.2.2.2.1
abbrev gX (G : GE) : Nat → Int32 := G.2.2.2.2.2.2.2
abbrev aG (G : GE) : Nat → Prop := fun q => gB G ≤ q
abbrev gT (G : GE) : List (ClassId × FieldType) := [(gcI G, .int), (gcB G, .byte), (gcG G, .array .int), (gcL G, .long)]
/-- an abstract value: a cell's number stands for its address; a float n for the script (0) or text n - 1 -/
def cv (G : GE) : Value → Value
  | .ref k => .ref (gB G + k)
  | .float f => .ref (gS G f.toNat)
  | v => v
theorem cv_int (G : GE) (x : Int32) : cv G (.int x) = .int x := rfl
theorem cv_ref (G : GE) (k : Nat) : cv G (.ref k) = .ref (gB G + k) := rfl
theorem cv_long (G : GE) (x : Int64) : cv G (.long x) = .long x := rfl
theorem cv_cat (G : GE) (v : Value) : (cv G v).category = v.category := by cases v <;> rfl
def vlong : Value → Int64
  | .long z => z
  | _ => 0
def fldV (G : GE) (h : AH) (k ci j : Nat) : Value := if frk ci j then cv G (h.2.1 k j) else .int (h.1 k j)
def nfl (ci : Nat) : Nat := (frL.getD ci []).length
def wEl (G : GE) (h : AH) (k : Nat) : va_E := match (tyK k).1 with
  | 0 => .inr ((tyK k).2, (List.range (nfl (tyK k).2)).map (fldV G h k (tyK k).2))
  | 1 => .inl (gcI G, (tyK k).2, .inl (h.1 k))
  | 2 => .inl (gcB G, (tyK k).2, .inl (h.1 k))
  | 3 => .inl (gcG G, (tyK k).2, .inr (.inr (.inr (.inr (fun i => if i < (tyK k).2 then some (gB G + (k + 1 + i)) else none)))))
  | _ => .inl (gcL G, (tyK k).2, .inr (.inl (fun j => vlong (h.2.1 k j))))
def wsW (G : GE) (h : AH) : va_W := (List.range h.2.2).map (fun k => (gB G + k, wEl G h k))
/-- the heap holds the abstract one -/
def Ws (G : GE) (h : AH) (H : Heap) : Prop := va_P (gD G) vwCl (wsW G h) H ∧ h.2.2 ≤ nK ∧ gB G + h.2.2 ≤ H.size ∧ (h.2.2 < nK → H.size = gB G + h.2.2)
theorem wsW_at (G : GE) (h : AH) {k : Nat} (hk : k < h.2.2) : (wsW G h)[k]? = some (gB G + k, wEl G h k) := by
  unfold wsW
  rw [List.getElem?_map, List.getElem?_range hk]
  rfl
theorem wsW_of {G : GE} {h : AH} {k : Nat} {q : Nat × va_E} (hq : (wsW G h)[k]? = some q) : k < h.2.2 ∧ q = (gB G + k, wEl G h k) := by
  have hk : k < h.2.2 := by
    have := (List.getElem?_eq_some_iff.mp hq).1
    simpa [wsW] using this
  rw [wsW_at G h hk] at hq
  exact ⟨hk, (Option.some.inj hq).symm⟩
theorem wsW_D (G : GE) (h : AH) : va_D (aG G) (wsW G h) := by
  refine ⟨fun i j p q hi hj e => ?_, fun k q hq => ?_⟩
  · obtain ⟨-, rfl⟩ := wsW_of hi
    obtain ⟨-, rfl⟩ := wsW_of hj
    have e : gB G + i = gB G + j := e
    omega
  · obtain ⟨-, rfl⟩ := wsW_of hq
    exact Nat.le_add_right _ _
/-- one cell has changed -/
theorem wsW_set (G : GE) {h h' : AH} (hn : h'.2.2 = h.2.2) {k : Nat} {e : va_E} (he : wEl G h' k = e) (ho : ∀ q, q ≠ k → wEl G h' q = wEl G h q) : (wsW G h).set k (gB G + k, e) = wsW G h' := by
  apply List.ext_getElem?
  intro i
  rw [List.getElem?_set]
  have hlen : (wsW G h).length = h.2.2 := by simp [wsW]
  by_cases hi : i < h.2.2
  · rw [wsW_at G h' (by rw [hn]; exact hi)]
    by_cases hik : k = i
    · subst hik
      rw [if_pos rfl, hlen, if_pos hi, he]
    · rw [if_neg hik, wsW_at G h hi, ho i (fun q => hik q.symm)]
  · have h1 : (wsW G h')[i]? = none := List.getElem?_eq_none (by simp [wsW]; omega)
    have h2 : (wsW G h)[i]? = none := List.getElem?_eq_none (by simp [wsW]; omega)
    rw [h1, h2, hlen]
    by_cases hik : k = i
    · rw [if_pos hik, if_neg (by omega)]
    · rw [if_neg hik]
/-! words -/
def goodNw : Cond → Bool
  | .fieldLinkNest .. => true
  | .methodLinkNest .. => true
  | .castable .. => true
  | .declares _ => true
  | _ => false
def wsG : List Cond := lw_tbl.filter goodWord
def wsN : List Cond := lw_tbl.filter goodNw
def hdM (M : MI) : Cond := match M.2.2.2.2 with
  | [] => .code M.1 M.2.1 M.2.2.1 M.2.2.2.1
  | hh => .codeWith M.1 M.2.1 M.2.2.1 M.2.2.2.1 hh
def wsM (M : MI) : List Cond := hdM M :: wsG
theorem wsG_in {w : Cond} {i : Nat} (h : lw_tbl[i]? = some w) (g : goodWord w = true) : w ∈ wsG := List.mem_filter.mpr ⟨List.mem_of_getElem? h, g⟩
theorem wsN_in {w : Cond} {i : Nat} (h : lw_tbl[i]? = some w) (g : goodNw w = true) : w ∈ wsN := List.mem_filter.mpr ⟨List.mem_of_getElem? h, g⟩
theorem wsM_in {M : MI} {w : Cond} (h : w ∈ wsG) : w ∈ wsM M := List.mem_cons_of_mem _ h
theorem wsM_good {M M' : MI} (h : hdM M' ∈ wsG) : GoodIn (wsM M) (wsM M') := fun w hw => by
  rcases List.mem_cons.mp hw with rfl | hw
  · exact ⟨wsM_in h, good_of_word (List.mem_filter.mp h).2⟩
  · exact ⟨wsM_in hw, good_of_word (List.mem_filter.mp hw).2⟩
theorem wsG_warm {w : Cond} (hw : w ∈ wsG) {args a' : Array Value} {s U : State} (hW : s.WarmedH U.vm) (h : w.before args s = true) : w.before a' U = true := word_at hW (good_of_word (List.mem_filter.mp hw).2) h
theorem nw_warm {w : Cond} (hw : goodNw w = true) {s U : State} (hW : s.WarmedH U.vm) (h : va_Nw w s) : va_Nw w U := by
  cases w <;> first | exact va_Nw.warmF hW h | exact va_Nw.warmM hW h | exact va_Nw.warmC hW h | exact va_Nw.warmD hW h | (simp [goodNw] at hw; done)
theorem nw_use {w : Cond} (hw : goodNw w = true) {A : Array Value} {U : State} (h : va_Nw w U) : w.before A U = true := by
  cases w <;> first | exact va_Nw.use rfl h | (simp [goodNw] at hw; done)
