/-! instructions as predicate transformers: what must hold ahead so that k holds behind -/
abbrev Kt : Type := List Value → List Value → AH → Prop
def Snd (G : GE) (M : MI) (d C S pc : Nat) (ρ : Rs) (k : Kt) : Prop := ∀ (L st : List Value) (h : AH), k L st h → E G M d C S pc L st h ρ
def lI : Value → (Int32 → Prop) → Prop
  | .int x, k => k x
  | _, _ => False
def lL : Value → (Int64 → Prop) → Prop
  | .long x, k => k x
  | _, _ => False
def lA : Value → (Value → Prop) → Prop
  | .ref q, k => k (.ref q)
  | .float f, k => k (.float f)
  | _, _ => False
def p1 : List Value → (Int32 → List Value → Prop) → Prop
  | .int a :: st, k => k a st
  | _, _ => False
def p2 : List Value → (Int32 → Int32 → List Value → Prop) → Prop
  | .int b :: .int a :: st, k => k a b st
  | _, _ => False
def pL1 : List Value → (Int64 → List Value → Prop) → Prop
  | .long a :: st, k => k a st
  | _, _ => False
def pL2 : List Value → (Int64 → Int64 → List Value → Prop) → Prop
  | .long b :: .long a :: st, k => k a b st
  | _, _ => False
def pA : List Value → (Value → List Value → Prop) → Prop
  | .ref q :: st, k => k (.ref q) st
  | .float f :: st, k => k (.float f) st
  | _, _ => False
def pV : List Value → (Value → List Value → Prop) → Prop
  | .ref q :: st, k => k (.ref q) st
  | .float f :: st, k => k (.float f) st
  | .int x :: st, k => k (.int x) st
  | _, _ => False
def pRI2 : List Value → (Value → Value → List Value → Prop) → Prop
  | .int i :: .ref q :: st, k => k (.int i) (.ref q) st
  | .int i :: .int q :: st, k => k (.int i) (.int q) st
  | _, _ => False
/-- a closed test that has to be false -/
def gd (b : Bool) (p : Prop) : Prop := match b with
  | false => p
  | true => False
theorem gd_spec {b : Bool} {p : Prop} (h : gd b p) : b = false ∧ p := by
  cases b
  · exact ⟨rfl, h⟩
  · exact h.elim
theorem gd4_spec {st : List Value} {p : Prop} (h : gd (Nat.blt 4 st.length) p) : st.length ≤ 4 ∧ p := by
  obtain ⟨h1, h2⟩ := gd_spec h
  refine ⟨?_, h2⟩
  rcases Nat.lt_or_ge 4 st.length with h3 | h3
  · have : Nat.blt 4 st.length = true := Nat.ble_eq_true_of_le h3
    rw [this] at h1
    cases h1
  · exact h3
theorem gdc_spec {n : Nat} {st : List Value} {p : Prop} (h : gd (!(Nat.ble n st.length && Nat.ble (st.drop n).length 4)) p) : n ≤ st.length ∧ (st.drop n).length ≤ 4 ∧ p := by
  obtain ⟨h1, h2⟩ := gd_spec h
  simp only [Bool.not_eq_false', Bool.and_eq_true] at h1
  exact ⟨Nat.le_of_ble_eq_true h1.1, Nat.le_of_ble_eq_true h1.2, h2⟩
theorem lI_spec {v : Value} {k : Int32 → Prop} (h : lI v k) : ∃ x, v = .int x ∧ k x := by
  cases v <;> first | exact ⟨_, rfl, h⟩ | exact h.elim
theorem lL_spec {v : Value} {k : Int64 → Prop} (h : lL v k) : ∃ x, v = .long x ∧ k x := by
  cases v <;> first | exact ⟨_, rfl, h⟩ | exact h.elim
theorem lA_spec {v : Value} {k : Value → Prop} (h : lA v k) : k v ∧ v.category = 1 ∧ (∀ G, ∃ a, cv G v = .ref a) := by
  cases v <;> first | exact ⟨h, rfl, fun G => ⟨_, rfl⟩⟩ | exact h.elim
theorem p1_spec {st : List Value} {k : Int32 → List Value → Prop} (h : p1 st k) : ∃ a r, st = .int a :: r ∧ k a r := by
  cases st with
  | nil => exact h.elim
  | cons v st => cases v <;> first | exact ⟨_, _, rfl, h⟩ | exact h.elim
theorem p2_spec {st : List Value} {k : Int32 → Int32 → List Value → Prop} (h : p2 st k) : ∃ a b r, st = .int b :: .int a :: r ∧ k a b r := by
  unfold p2 at h
  split at h
  · exact ⟨_, _, _, rfl, h⟩
  · exact h.elim
theorem pL1_spec {st : List Value} {k : Int64 → List Value → Prop} (h : pL1 st k) : ∃ a r, st = .long a :: r ∧ k a r := by
  unfold pL1 at h
  split at h
  · exact ⟨_, _, rfl, h⟩
  · exact h.elim
theorem pL2_spec {st : List Value} {k : Int64 → Int64 → List Value → Prop} (h : pL2 st k) : ∃ a b r, st = .long b :: .long a :: r ∧ k a b r := by
  unfold pL2 at h
  split at h
  · exact ⟨_, _, _, rfl, h⟩
  · exact h.elim
theorem pV_spec {st : List Value} {k : Value → List Value → Prop} (h : pV st k) : ∃ v r, st = v :: r ∧ v.category = 1 ∧ k v r := by
  unfold pV at h
  split at h
  · exact ⟨_, _, rfl, rfl, h⟩
  · exact ⟨_, _, rfl, rfl, h⟩
  · exact ⟨_, _, rfl, rfl, h⟩
  · exact h.elim
theorem pA_spec {st : List Value} {k : Value → List Value → Prop} (h : pA st k) : ∃ v r, st = v :: r ∧ v.category = 1 ∧ k v r ∧ (∀ G, ∃ a, cv G v = .ref a) ∧ v ≠ .null := by
  unfold pA at h
  split at h
  · exact ⟨_, _, rfl, rfl, h, fun G => ⟨_, rfl⟩, fun q => by cases q⟩
  · exact ⟨_, _, rfl, rfl, h, fun G => ⟨_, rfl⟩, fun q => by cases q⟩
  · exact h.elim
theorem pRI2_spec {st : List Value} {k : Value → Value → List Value → Prop} (h : pRI2 st k) : ∃ v w r, st = v :: w :: r ∧ v.category = 1 ∧ w.category = 1 ∧ k v w r := by
  unfold pRI2 at h
  split at h
  · exact ⟨_, _, _, rfl, rfl, rfl, h⟩
  · exact ⟨_, _, _, rfl, rfl, rfl, h⟩
  · exact h.elim
section ST
variable {G : GE} {M : MI} {d C S pc : Nat} {ρ : Rs} {k kt kf : Kt} {L st st' : List Value} {h : AH}
/-- locals forgotten -/
def msk : List Bool → List Value → List Value
  | true :: bs, v :: L => v :: msk bs L
  | false :: bs, _ :: L => .null :: msk bs L
  | _, _ => []
theorem msk_spec : ∀ {bs : List Bool} {L : List Value} {i : Nat} {v : Value}, (msk bs L)[i]? = some v → v ≠ .null → L[i]? = some v
  | [], L, i, v, h, _ => by cases L <;> simp [msk] at h
  | b :: bs, [], i, v, h, _ => by cases b <;> simp [msk] at h
  | b :: bs, w :: L, 0, v, h, h0 => by
    cases b
    · simp [msk] at h; exact absurd h.symm h0
    · simpa [msk] using h
  | b :: bs, w :: L, i + 1, v, h, h0 => by
    cases b
    · simp only [msk, List.getElem?_cons_succ] at h ⊢; exact msk_spec h h0
    · simp only [msk, List.getElem?_cons_succ] at h ⊢; exact msk_spec h h0
theorem E_forget {L' : List Value} (hL : ∀ (i : Nat) (v : Value), L'[i]? = some v → v ≠ .null → L[i]? = some v) (h0 : E G M d C S pc L' st h ρ) : E G M d C S pc L st h ρ :=
  fun p e R s m args below meth c H locs cells slots ls hC hR hl hW hS => h0 p e R s m args below meth c H locs cells slots ls hC hR ⟨hl.1, hl.2.1, fun i v hi hv => hl.2.2 i v (hL i v hi hv) hv⟩ hW hS
theorem e_msk (bs : List Bool) : Snd G M d C S pc ρ (fun L st h => E G M d C S pc (msk bs L) st h ρ) := fun _ _ _ h9 => E_forget (fun _ _ h1 h2 => msk_spec h1 h2) h9
theorem e_go {pc' : Nat} (hstep : ∀ {p : Program} {e : Env} {R : Room} {s : State} {m : MethodId} {args : Array Value} {below : List Frame} {meth : Method} {c : Code} {H : Heap} {locs : List Loc} {cells slots : Nat} {Q : State → Prop} (ls : Array Slot), p.tables.exec = Jvm.exec → c.code = M.2.1 → lvA G ls M.2.2.1 L →
      W p (gl G) e R s m args below meth c H locs cells slots Q (F0 m pc' ls (st'.map (cv G))) → W p (gl G) e R s m args below meth c H locs cells slots Q (F0 m pc ls (st.map (cv G))))
    (hk : E G M d C S pc' L st' h ρ) : E G M d C S pc L st h ρ :=
  fun p e R s m args below meth c H locs cells slots ls hC hR hl hW hS => hstep ls hC.1 hC.2.1 hl (hk p e R s m args below meth c H locs cells slots ls hC hR hl hW hS)
theorem e_br {pt pf : Nat} {P : Prop} {st' : List Value} (hstep : ∀ {p : Program} {e : Env} {R : Room} {s : State} {m : MethodId} {args : Array Value} {below : List Frame} {meth : Method} {c : Code} {H : Heap} {locs : List Loc} {cells slots : Nat} {Q : State → Prop} (ls : Array Slot), p.tables.exec = Jvm.exec → c.code = M.2.1 →
      (P → W p (gl G) e R s m args below meth c H locs cells slots Q (F0 m pt ls (st'.map (cv G)))) → (¬ P → W p (gl G) e R s m args below meth c H locs cells slots Q (F0 m pf ls (st'.map (cv G)))) → W p (gl G) e R s m args below meth c H locs cells slots Q (F0 m pc ls (st.map (cv G))))
    (hkt : P → E G M d C S pt L st' h ρ) (hkf : ¬ P → E G M d C S pf L st' h ρ) : E G M d C S pc L st h ρ :=
  fun p e R s m args below meth c H locs cells slots ls hC hR hl hW hS => hstep ls hC.1 hC.2.1 (fun q => hkt q p e R s m args below meth c H locs cells slots ls hC hR hl hW hS) (fun q => hkf q p e R s m args below meth c H locs cells slots ls hC hR hl hW hS)
theorem lvA_get {ls : Array Slot} {n i : Nat} {v : Value} (hl : lvA G ls n L) (hv : L.getD i .null = v) (h0 : v ≠ .null) : ls[i]? = some (.val (cv G v)) := by
  apply hl.2.2 i v _ h0
  rw [List.getD_eq_getElem?_getD] at hv
  cases hi : L[i]? with
  | none => rw [hi] at hv; exact absurd hv.symm h0
  | some w => rw [hi] at hv; exact congrArg some hv
/-! constants -/
def s_iconst (v : Int32) (k : Kt) : Kt := fun L st h => k L (.int v :: st) h
theorem e_iconst {n : Int} {v : Int32} (hd : decode M.2.1 pc = .ok (.iconst n, 1)) (hv : Int32.ofInt n = v) (hk : Snd G M d C S (pc + 1) ρ k) : Snd G M d C S pc ρ (s_iconst v k) := fun L st h hs => e_go (fun ls hx hb _ q => lv_iconst hx hb hd hv q) (hk _ _ _ hs)
theorem e_bipush {n : Int} {v : Int32} (hd : decode M.2.1 pc = .ok (.bipush n, 2)) (hv : (Int8.ofInt n).toInt32 = v) (hk : Snd G M d C S (pc + 2) ρ k) : Snd G M d C S pc ρ (s_iconst v k) := fun L st h hs => e_go (fun ls hx hb _ q => lv_bipush hx hb hd hv q) (hk _ _ _ hs)
theorem e_sipush {n : Int} {v : Int32} (hd : decode M.2.1 pc = .ok (.sipush n, 3)) (hv : (Int16.ofInt n).toInt32 = v) (hk : Snd G M d C S (pc + 3) ρ k) : Snd G M d C S pc ρ (s_iconst v k) := fun L st h hs => e_go (fun ls hx hb _ q => lv_sipush hx hb hd hv q) (hk _ _ _ hs)
def s_lconst (v : Int64) (k : Kt) : Kt := fun L st h => k L (.long v :: st) h
theorem e_lconst {n : Fin 2} {v : Int64} (hd : decode M.2.1 pc = .ok (.lconst n, 1)) (hv : Int64.ofNat (n : Nat) = v) (hk : Snd G M d C S (pc + 1) ρ k) : Snd G M d C S pc ρ (s_lconst v k) := fun L st h hs => e_go (fun ls hx hb _ q => lv_lconst hx hb hd hv q) (hk _ _ _ hs)
theorem e_ldc {i : Nat} {v : Int32} (hw : Cond.constant M.1.cls i v ∈ wsG) (hd : decode M.2.1 pc = .ok (.ldc i, 2)) (hk : Snd G M d C S (pc + 2) ρ k) : Snd G M d C S pc ρ (s_iconst v k) := fun L st h hs p e R s m args below meth c H locs cells slots ls hC hR hl hW hS =>
  lv_ldc hC.1 hC.2.1 hC.2.2.2.2.2.1 (hC.2.2.2.2.2.2.1 _ (wsM_in hw)) hd (hk _ _ _ hs p e R s m args below meth c H locs cells slots ls hC hR hl hW hS)
theorem e_ldcw {i : Nat} {v : Int32} (hw : Cond.constant M.1.cls i v ∈ wsG) (hd : decode M.2.1 pc = .ok (.ldc_w i, 3)) (hk : Snd G M d C S (pc + 3) ρ k) : Snd G M d C S pc ρ (s_iconst v k) := fun L st h hs p e R s m args below meth c H locs cells slots ls hC hR hl hW hS =>
  lv_ldcw hC.1 hC.2.1 hC.2.2.2.2.2.1 (hC.2.2.2.2.2.2.1 _ (wsM_in hw)) hd (hk _ _ _ hs p e R s m args below meth c H locs cells slots ls hC hR hl hW hS)
theorem e_ldc2 {i : Nat} {v : Int64} (hw : Cond.constantLong M.1.cls i v ∈ wsG) (hd : decode M.2.1 pc = .ok (.ldc2_w i, 3)) (hk : Snd G M d C S (pc + 3) ρ k) : Snd G M d C S pc ρ (s_lconst v k) := fun L st h hs p e R s m args below meth c H locs cells slots ls hC hR hl hW hS =>
  lv_ldc2 hC.1 hC.2.1 hC.2.2.2.2.2.1 (hC.2.2.2.2.2.2.1 _ (wsM_in hw)) hd (hk _ _ _ hs p e R s m args below meth c H locs cells slots ls hC hR hl hW hS)
/-! locals -/
def s_iload (i : Nat) (k : Kt) : Kt := fun L st h => lI (L.getD i .null) (fun x => k L (.int x :: st) h)
theorem e_iload_n {j : Fin 4} {i : Nat} (hd : decode M.2.1 pc = .ok (.iload_n j, 1)) (hi : (j : Nat) = i) (hk : Snd G M d C S (pc + 1) ρ k) : Snd G M d C S pc ρ (s_iload i k) := fun L st h hs => by
  obtain ⟨x, hx, hs⟩ := lI_spec hs
  exact e_go (fun ls h1 hb hl q => lv_iload_n h1 hb hd hi (lvA_get hl hx (fun z => by cases z)) q) (hk _ _ _ hs)
theorem e_iload {i : Nat} (hd : decode M.2.1 pc = .ok (.iload i, 2)) (hk : Snd G M d C S (pc + 2) ρ k) : Snd G M d C S pc ρ (s_iload i k) := fun L st h hs => by
  obtain ⟨x, hx, hs⟩ := lI_spec hs
  exact e_go (fun ls h1 hb hl q => lv_iload h1 hb hd (lvA_get hl hx (fun z => by cases z)) q) (hk _ _ _ hs)
def s_lload (i : Nat) (k : Kt) : Kt := fun L st h => lL (L.getD i .null) (fun x => k L (.long x :: st) h)
theorem e_lload_n {j : Fin 4} {i : Nat} (hd : decode M.2.1 pc = .ok (.lload_n j, 1)) (hi : (j : Nat) = i) (hk : Snd G M d C S (pc + 1) ρ k) : Snd G M d C S pc ρ (s_lload i k) := fun L st h hs => by
  obtain ⟨x, hx, hs⟩ := lL_spec hs
  exact e_go (fun ls h1 hb hl q => lv_lload_n h1 hb hd hi (lvA_get hl hx (fun z => by cases z)) q) (hk _ _ _ hs)
theorem e_lload {i : Nat} (hd : decode M.2.1 pc = .ok (.lload i, 2)) (hk : Snd G M d C S (pc + 2) ρ k) : Snd G M d C S pc ρ (s_lload i k) := fun L st h hs => by
  obtain ⟨x, hx, hs⟩ := lL_spec hs
  exact e_go (fun ls h1 hb hl q => lv_lload h1 hb hd (lvA_get hl hx (fun z => by cases z)) q) (hk _ _ _ hs)
def s_aload (i : Nat) (k : Kt) : Kt := fun L st h => lA (L.getD i .null) (fun v => k L (v :: st) h)
theorem e_aload_n {j : Fin 4} {i : Nat} (hd : decode M.2.1 pc = .ok (.aload_n j, 1)) (hi : (j : Nat) = i) (hk : Snd G M d C S (pc + 1) ρ k) : Snd G M d C S pc ρ (s_aload i k) := fun L st h hs => by
  obtain ⟨hs, -, ha⟩ := lA_spec hs
  obtain ⟨a, ha⟩ := ha G
  refine e_go (fun ls h1 hb hl q => ?_) (hk _ _ _ hs)
  have h9 : ls[i]? = some (.val (cv G (L.getD i .null))) := lvA_get hl rfl (fun z => by rw [z] at ha; cases ha)
  simp only [List.map_cons, ha] at q
  rw [ha] at h9
  exact lv_aload_n h1 hb hd hi h9 q
theorem e_aload {i : Nat} (hd : decode M.2.1 pc = .ok (.aload i, 2)) (hk : Snd G M d C S (pc + 2) ρ k) : Snd G M d C S pc ρ (s_aload i k) := fun L st h hs => by
  obtain ⟨hs, -, ha⟩ := lA_spec hs
  obtain ⟨a, ha⟩ := ha G
  refine e_go (fun ls h1 hb hl q => ?_) (hk _ _ _ hs)
  have h9 : ls[i]? = some (.val (cv G (L.getD i .null))) := lvA_get hl rfl (fun z => by rw [z] at ha; cases ha)
  simp only [List.map_cons, ha] at q
  rw [ha] at h9
  exact lv_aload h1 hb hd h9 q
def lng (L : List Value) (i : Nat) : Bool := match i with
  | 0 => false
  | j + 1 => (L.getD j .null).category == 2
def lvl (G : GE) (L : List Value) : List (Nat × Value) := (List.range L.length).filterMap (fun i => if L.getD i .null = .null then none else some (i, cv G (L.getD i .null)))
theorem lvl_mem {q : Nat × Value} : q ∈ lvl G L ↔ ∃ v, L[q.1]? = some v ∧ v ≠ .null ∧ q.2 = cv G v := by
  unfold lvl
  rw [List.mem_filterMap]
  constructor
  · rintro ⟨i, hi, hq⟩
    have hi : i < L.length := List.mem_range.mp hi
    have e : L[i]? = some (L.getD i .null) := by rw [List.getD_eq_getElem?_getD, List.getElem?_eq_getElem hi]; rfl
    by_cases h0 : L.getD i .null = .null
    · rw [if_pos h0] at hq; cases hq
    · rw [if_neg h0] at hq
      cases hq
      exact ⟨_, e, h0, rfl⟩
  · rintro ⟨v, hv, h0, hq⟩
    have hi : q.1 < L.length := (List.getElem?_eq_some_iff.mp hv).1
    have e : L.getD q.1 .null = v := by rw [List.getD_eq_getElem?_getD, hv]; rfl
    refine ⟨q.1, List.mem_range.mpr hi, ?_⟩
    rw [e, if_neg h0, ← hq]
theorem lvA_has {ls : Array Slot} {n : Nat} (hl : lvA G ls n L) : lv_has ls n (lvl G L) := ⟨hl.1, hl.2.1, fun q hq => by
  obtain ⟨v, h1, h2, h3⟩ := lvl_mem.mp hq
  rw [h3]
  exact hl.2.2 _ _ h1 h2⟩
theorem lvA_store1 {ls' : Array Slot} {n i : Nat} {v w : Value} (hw : w = cv G v) (hi : lng L i = false) (h : lv_has ls' n ((i, w) :: (lvl G L).filter (fun q => !(q.1 == i) && !(q.1 + 1 == i && q.2.category == 2)))) : lvA G ls' n (L.set i v) := by
  refine ⟨h.1, h.2.1, fun j x hj h0 => ?_⟩
  rw [List.getElem?_set] at hj
  by_cases e : i = j
  · subst e
    rw [if_pos rfl] at hj
    by_cases hl : i < L.length
    · rw [if_pos hl] at hj
      cases hj
      rw [← hw]
      exact h.2.2 (i, w) List.mem_cons_self
    · rw [if_neg hl] at hj; cases hj
  · rw [if_neg e] at hj
    refine h.2.2 (j, cv G x) (List.mem_cons_of_mem _ (List.mem_filter.mpr ⟨lvl_mem.mpr ⟨x, hj, h0, rfl⟩, ?_⟩))
    have e1 : (j == i) = false := by simp; omega
    simp only [e1, Bool.not_false, Bool.true_and, Bool.not_eq_true', Bool.and_eq_false_iff, beq_eq_false_iff_ne, ne_eq]
    by_cases e2 : j + 1 = i
    · right
      subst e2
      have : (L.getD j .null).category ≠ 2 := by simpa [lng] using hi
      rw [List.getD_eq_getElem?_getD, hj] at this
      rw [cv_cat]
      exact this
    · left; exact e2
theorem lvA_store2 {ls' : Array Slot} {n i : Nat} {v w : Value} (hw : w = cv G v) (hi : lng L i = false) (h : lv_has ls' n ((i, w) :: (lvl G L).filter (fun q => !(q.1 == i) && (!(q.1 == i + 1) && !(q.1 + 1 == i && q.2.category == 2))))) : lvA G ls' n ((L.set i v).set (i + 1) .null) := by
  refine ⟨h.1, h.2.1, fun j x hj h0 => ?_⟩
  rw [List.getElem?_set] at hj
  by_cases e3 : i + 1 = j
  · rw [if_pos e3] at hj
    split at hj
    · cases hj; exact absurd rfl h0
    · cases hj
  · rw [if_neg e3, List.getElem?_set] at hj
    by_cases e : i = j
    · subst e
      rw [if_pos rfl] at hj
      by_cases hl : i < L.length
      · rw [if_pos hl] at hj
        cases hj
        rw [← hw]
        exact h.2.2 (i, w) List.mem_cons_self
      · rw [if_neg hl] at hj; cases hj
    · rw [if_neg e] at hj
      refine h.2.2 (j, cv G x) (List.mem_cons_of_mem _ (List.mem_filter.mpr ⟨lvl_mem.mpr ⟨x, hj, h0, rfl⟩, ?_⟩))
      have e1 : (j == i) = false := by simp; omega
      have e4 : (j == i + 1) = false := by simp; omega
      simp only [e1, e4, Bool.not_false, Bool.true_and, Bool.not_eq_true', Bool.and_eq_false_iff, beq_eq_false_iff_ne, ne_eq]
      by_cases e2 : j + 1 = i
      · right
        subst e2
        have : (L.getD j .null).category ≠ 2 := by simpa [lng] using hi
        rw [List.getD_eq_getElem?_getD, hj] at this
        rw [cv_cat]
        exact this
      · left; exact e2
theorem e_st {pc' : Nat} {L' : List Value} (hstep : ∀ {p : Program} {e : Env} {R : Room} {s : State} {m : MethodId} {args : Array Value} {below : List Frame} {meth : Method} {c : Code} {H : Heap} {locs : List Loc} {cells slots : Nat} {Q : State → Prop} (ls : Array Slot), p.tables.exec = Jvm.exec → c.code = M.2.1 → lvA G ls M.2.2.1 L →
      (∀ ls', lvA G ls' M.2.2.1 L' → W p (gl G) e R s m args below meth c H locs cells slots Q (F0 m pc' ls' (st'.map (cv G)))) → W p (gl G) e R s m args below meth c H locs cells slots Q (F0 m pc ls (st.map (cv G))))
    (hk : E G M d C S pc' L' st' h ρ) : E G M d C S pc L st h ρ :=
  fun p e R s m args below meth c H locs cells slots ls hC hR hl hW hS => hstep ls hC.1 hC.2.1 hl (fun ls' hl' => hk p e R s m args below meth c H locs cells slots ls' hC hR hl' hW hS)
def s_istore (i : Nat) (k : Kt) : Kt := fun L st h => p1 st (fun x st => gd (lng L i) (k (L.set i (.int x)) st h))
theorem e_istore_n {j : Fin 4} {i : Nat} (hd : decode M.2.1 pc = .ok (.istore_n j, 1)) (hi : (j : Nat) = i) (hn : i < M.2.2.1) (hk : Snd G M d C S (pc + 1) ρ k) : Snd G M d C S pc ρ (s_istore i k) := fun L st h hs => by
  obtain ⟨x, r, rfl, hs⟩ := p1_spec hs
  obtain ⟨hg, hs⟩ := gd_spec hs
  exact e_st (fun ls h1 hb hl q => lv_istore_n h1 hb hd hi (lvA_has hl) hn rfl (fun ls' h' => q ls' (lvA_store1 (v := .int x) rfl hg h'))) (hk _ _ _ hs)
theorem e_istore {i : Nat} (hd : decode M.2.1 pc = .ok (.istore i, 2)) (hn : i < M.2.2.1) (hk : Snd G M d C S (pc + 2) ρ k) : Snd G M d C S pc ρ (s_istore i k) := fun L st h hs => by
  obtain ⟨x, r, rfl, hs⟩ := p1_spec hs
  obtain ⟨hg, hs⟩ := gd_spec hs
  exact e_st (fun ls h1 hb hl q => lv_istore h1 hb hd (lvA_has hl) hn rfl (fun ls' h' => q ls' (lvA_store1 (v := .int x) rfl hg h'))) (hk _ _ _ hs)
def s_astore (i : Nat) (k : Kt) : Kt := fun L st h => pA st (fun v st => gd (lng L i) (k (L.set i v) st h))
theorem e_astore_n {j : Fin 4} {i : Nat} (hd : decode M.2.1 pc = .ok (.astore_n j, 1)) (hi : (j : Nat) = i) (hn : i < M.2.2.1) (hk : Snd G M d C S (pc + 1) ρ k) : Snd G M d C S pc ρ (s_astore i k) := fun L st h hs => by
  obtain ⟨v, r, rfl, -, hs, ha, -⟩ := pA_spec hs
  obtain ⟨hg, hs⟩ := gd_spec hs
  obtain ⟨a, ha⟩ := ha G
  refine e_st (fun ls h1 hb hl q => ?_) (hk _ _ _ hs)
  simp only [List.map_cons, ha]
  exact lv_astore_n h1 hb hd hi (lvA_has hl) hn rfl (fun ls' h' => q ls' (lvA_store1 ha.symm hg h'))
theorem e_astore {i : Nat} (hd : decode M.2.1 pc = .ok (.astore i, 2)) (hn : i < M.2.2.1) (hk : Snd G M d C S (pc + 2) ρ k) : Snd G M d C S pc ρ (s_astore i k) := fun L st h hs => by
  obtain ⟨v, r, rfl, -, hs, ha, -⟩ := pA_spec hs
  obtain ⟨hg, hs⟩ := gd_spec hs
  obtain ⟨a, ha⟩ := ha G
  refine e_st (fun ls h1 hb hl q => ?_) (hk _ _ _ hs)
  simp only [List.map_cons, ha]
  exact lv_astore h1 hb hd (lvA_has hl) hn rfl (fun ls' h' => q ls' (lvA_store1 ha.symm hg h'))
def s_lstore (i : Nat) (k : Kt) : Kt := fun L st h => pL1 st (fun x st => gd (lng L i) (k ((L.set i (.long x)).set (i + 1) .null) st h))
theorem e_lstore_n {j : Fin 4} {i : Nat} (hd : decode M.2.1 pc = .ok (.lstore_n j, 1)) (hi : (j : Nat) = i) (hn : i + 1 < M.2.2.1) (hk : Snd G M d C S (pc + 1) ρ k) : Snd G M d C S pc ρ (s_lstore i k) := fun L st h hs => by
  obtain ⟨x, r, rfl, hs⟩ := pL1_spec hs
  obtain ⟨hg, hs⟩ := gd_spec hs
  exact e_st (fun ls h1 hb hl q => lv_lstore_n h1 hb hd hi (lvA_has hl) hn rfl (fun ls' h' => q ls' (lvA_store2 (v := .long x) rfl hg h'))) (hk _ _ _ hs)
theorem e_lstore {i : Nat} (hd : decode M.2.1 pc = .ok (.lstore i, 2)) (hn : i + 1 < M.2.2.1) (hk : Snd G M d C S (pc + 2) ρ k) : Snd G M d C S pc ρ (s_lstore i k) := fun L st h hs => by
  obtain ⟨x, r, rfl, hs⟩ := pL1_spec hs
  obtain ⟨hg, hs⟩ := gd_spec hs
  exact e_st (fun ls h1 hb hl q => lv_lstore h1 hb hd (lvA_has hl) hn rfl (fun ls' h' => q ls' (lvA_store2 (v := .long x) rfl hg h'))) (hk _ _ _ hs)
def s_iinc (i : Nat) (n : Int32) (k : Kt) : Kt := fun L st h => lI (L.getD i .null) (fun x => gd (lng L i) (k (L.set i (.int (x + n))) st h))
theorem e_iinc {i : Nat} {n : Int} {v : Int32} (hd : decode M.2.1 pc = .ok (.iinc i n, 3)) (hv : Int32.ofInt n = v) (hn : i < M.2.2.1) (hk : Snd G M d C S (pc + 3) ρ k) : Snd G M d C S pc ρ (s_iinc i v k) := fun L st h hs => by
  obtain ⟨x, hx, hs⟩ := lI_spec hs
  obtain ⟨hg, hs⟩ := gd_spec hs
  refine e_st (fun ls h1 hb hl q => ?_) (hk _ _ _ hs)
  have hli : L[i]? = some (.int x) := by
    rw [List.getD_eq_getElem?_getD] at hx
    cases hi : L[i]? with
    | none => rw [hi] at hx; cases hx
    | some w => rw [hi] at hx; exact congrArg some hx
  have hm : (i, Value.int x) ∈ lvl G L := lvl_mem.mpr ⟨.int x, hli, (fun z => by cases z), rfl⟩
  obtain ⟨kk, hkk⟩ := List.mem_iff_getElem?.mp hm
  exact lv_iinc h1 hb hd (lvA_has hl) hkk (by rw [hv]) hn rfl (fun ls' h' => q ls' (lvA_store1 (v := .int (x + v)) rfl hg h'))
def s_iadd (k : Kt) : Kt := fun L st h => p2 st (fun a b st => k L (.int (a + b) :: st) h)
theorem e_iadd (hd : decode M.2.1 pc = .ok (.iadd, 1)) (hk : Snd G M d C S (pc + 1) ρ k) : Snd G M d C S pc ρ (s_iadd k) := fun L st h hs => by
  obtain ⟨a, b, r, rfl, hs⟩ := p2_spec hs
  exact e_go (fun ls hx hb _ q => lv_iadd hx hb hd q) (hk _ _ _ hs)
def s_isub (k : Kt) : Kt := fun L st h => p2 st (fun a b st => k L (.int (a - b) :: st) h)
theorem e_isub (hd : decode M.2.1 pc = .ok (.isub, 1)) (hk : Snd G M d C S (pc + 1) ρ k) : Snd G M d C S pc ρ (s_isub k) := fun L st h hs => by
  obtain ⟨a, b, r, rfl, hs⟩ := p2_spec hs
  exact e_go (fun ls hx hb _ q => lv_isub hx hb hd q) (hk _ _ _ hs)
def s_imul (k : Kt) : Kt := fun L st h => p2 st (fun a b st => k L (.int (a * b) :: st) h)
theorem e_imul (hd : decode M.2.1 pc = .ok (.imul, 1)) (hk : Snd G M d C S (pc + 1) ρ k) : Snd G M d C S pc ρ (s_imul k) := fun L st h hs => by
  obtain ⟨a, b, r, rfl, hs⟩ := p2_spec hs
  exact e_go (fun ls hx hb _ q => lv_imul hx hb hd q) (hk _ _ _ hs)
def s_iand (k : Kt) : Kt := fun L st h => p2 st (fun a b st => k L (.int (a &&& b) :: st) h)
theorem e_iand (hd : decode M.2.1 pc = .ok (.iand, 1)) (hk : Snd G M d C S (pc + 1) ρ k) : Snd G M d C S pc ρ (s_iand k) := fun L st h hs => by
  obtain ⟨a, b, r, rfl, hs⟩ := p2_spec hs
  exact e_go (fun ls hx hb _ q => lv_iand hx hb hd q) (hk _ _ _ hs)
def s_ior (k : Kt) : Kt := fun L st h => p2 st (fun a b st => k L (.int (a ||| b) :: st) h)
theorem e_ior (hd : decode M.2.1 pc = .ok (.ior, 1)) (hk : Snd G M d C S (pc + 1) ρ k) : Snd G M d C S pc ρ (s_ior k) := fun L st h hs => by
  obtain ⟨a, b, r, rfl, hs⟩ := p2_spec hs
  exact e_go (fun ls hx hb _ q => lv_ior hx hb hd q) (hk _ _ _ hs)
def s_ixor (k : Kt) : Kt := fun L st h => p2 st (fun a b st => k L (.int (a ^^^ b) :: st) h)
theorem e_ixor (hd : decode M.2.1 pc = .ok (.ixor, 1)) (hk : Snd G M d C S (pc + 1) ρ k) : Snd G M d C S pc ρ (s_ixor k) := fun L st h hs => by
  obtain ⟨a, b, r, rfl, hs⟩ := p2_spec hs
  exact e_go (fun ls hx hb _ q => lv_ixor hx hb hd q) (hk _ _ _ hs)
def s_ishl (k : Kt) : Kt := fun L st h => p2 st (fun a b st => k L (.int (a <<< (b &&& 31)) :: st) h)
theorem e_ishl (hd : decode M.2.1 pc = .ok (.ishl, 1)) (hk : Snd G M d C S (pc + 1) ρ k) : Snd G M d C S pc ρ (s_ishl k) := fun L st h hs => by
  obtain ⟨a, b, r, rfl, hs⟩ := p2_spec hs
  exact e_go (fun ls hx hb _ q => lv_ishl hx hb hd q) (hk _ _ _ hs)
def s_ishr (k : Kt) : Kt := fun L st h => p2 st (fun a b st => k L (.int (a >>> (b &&& 31)) :: st) h)
theorem e_ishr (hd : decode M.2.1 pc = .ok (.ishr, 1)) (hk : Snd G M d C S (pc + 1) ρ k) : Snd G M d C S pc ρ (s_ishr k) := fun L st h hs => by
  obtain ⟨a, b, r, rfl, hs⟩ := p2_spec hs
  exact e_go (fun ls hx hb _ q => lv_ishr hx hb hd q) (hk _ _ _ hs)
def s_iushr (k : Kt) : Kt := fun L st h => p2 st (fun a b st => k L (.int (a.toUInt32 >>> (b.toUInt32 &&& Int32.toUInt32 31)).toInt32 :: st) h)
theorem e_iushr (hd : decode M.2.1 pc = .ok (.iushr, 1)) (hk : Snd G M d C S (pc + 1) ρ k) : Snd G M d C S pc ρ (s_iushr k) := fun L st h hs => by
  obtain ⟨a, b, r, rfl, hs⟩ := p2_spec hs
  exact e_go (fun ls hx hb _ q => lv_iushr hx hb hd rfl q) (hk _ _ _ hs)
def s_idiv (k : Kt) : Kt := fun L st h => p2 st (fun a b st => ¬ b = 0 ∧ k L (.int (a / b) :: st) h)
theorem e_idiv (hd : decode M.2.1 pc = .ok (.idiv, 1)) (hk : Snd G M d C S (pc + 1) ρ k) : Snd G M d C S pc ρ (s_idiv k) := fun L st h hs => by
  obtain ⟨a, b, r, rfl, h0, hs⟩ := p2_spec hs
  exact e_go (fun ls hx hb _ q => lv_idiv hx hb hd h0 q) (hk _ _ _ hs)
def s_irem (k : Kt) : Kt := fun L st h => p2 st (fun a b st => ¬ b = 0 ∧ k L (.int (a - a / b * b) :: st) h)
theorem e_irem (hd : decode M.2.1 pc = .ok (.irem, 1)) (hk : Snd G M d C S (pc + 1) ρ k) : Snd G M d C S pc ρ (s_irem k) := fun L st h hs => by
  obtain ⟨a, b, r, rfl, h0, hs⟩ := p2_spec hs
  exact e_go (fun ls hx hb _ q => lv_irem hx hb hd h0 q) (hk _ _ _ hs)
def s_ineg (k : Kt) : Kt := fun L st h => p1 st (fun a st => k L (.int (-a) :: st) h)
theorem e_ineg (hd : decode M.2.1 pc = .ok (.ineg, 1)) (hk : Snd G M d C S (pc + 1) ρ k) : Snd G M d C S pc ρ (s_ineg k) := fun L st h hs => by
  obtain ⟨a, r, rfl, hs⟩ := p1_spec hs
  exact e_go (fun ls hx hb _ q => lv_ineg hx hb hd q) (hk _ _ _ hs)
def s_i2l (k : Kt) : Kt := fun L st h => p1 st (fun a st => k L (.long a.toInt64 :: st) h)
theorem e_i2l (hd : decode M.2.1 pc = .ok (.i2l, 1)) (hk : Snd G M d C S (pc + 1) ρ k) : Snd G M d C S pc ρ (s_i2l k) := fun L st h hs => by
  obtain ⟨a, r, rfl, hs⟩ := p1_spec hs
  exact e_go (fun ls hx hb _ q => lv_i2l hx hb hd rfl q) (hk _ _ _ hs)
def s_i2b (k : Kt) : Kt := fun L st h => p1 st (fun a st => k L (.int a.toInt8.toInt32 :: st) h)
theorem e_i2b (hd : decode M.2.1 pc = .ok (.i2b, 1)) (hk : Snd G M d C S (pc + 1) ρ k) : Snd G M d C S pc ρ (s_i2b k) := fun L st h hs => by
  obtain ⟨a, r, rfl, hs⟩ := p1_spec hs
  exact e_go (fun ls hx hb _ q => lv_i2b hx hb hd rfl q) (hk _ _ _ hs)
def s_ladd (k : Kt) : Kt := fun L st h => pL2 st (fun a b st => k L (.long (a + b) :: st) h)
theorem e_ladd (hd : decode M.2.1 pc = .ok (.ladd, 1)) (hk : Snd G M d C S (pc + 1) ρ k) : Snd G M d C S pc ρ (s_ladd k) := fun L st h hs => by
  obtain ⟨a, b, r, rfl, hs⟩ := pL2_spec hs
  exact e_go (fun ls hx hb _ q => lv_ladd hx hb hd q) (hk _ _ _ hs)
def s_lsub (k : Kt) : Kt := fun L st h => pL2 st (fun a b st => k L (.long (a - b) :: st) h)
theorem e_lsub (hd : decode M.2.1 pc = .ok (.lsub, 1)) (hk : Snd G M d C S (pc + 1) ρ k) : Snd G M d C S pc ρ (s_lsub k) := fun L st h hs => by
  obtain ⟨a, b, r, rfl, hs⟩ := pL2_spec hs
  exact e_go (fun ls hx hb _ q => lv_lsub hx hb hd q) (hk _ _ _ hs)
def s_lmul (k : Kt) : Kt := fun L st h => pL2 st (fun a b st => k L (.long (a * b) :: st) h)
theorem e_lmul (hd : decode M.2.1 pc = .ok (.lmul, 1)) (hk : Snd G M d C S (pc + 1) ρ k) : Snd G M d C S pc ρ (s_lmul k) := fun L st h hs => by
  obtain ⟨a, b, r, rfl, hs⟩ := pL2_spec hs
  exact e_go (fun ls hx hb _ q => lv_lmul hx hb hd q) (hk _ _ _ hs)
def s_lcmp (k : Kt) : Kt := fun L st h => pL2 st (fun a b st => k L (.int (lg_cmp a b) :: st) h)
theorem e_lcmp (hd : decode M.2.1 pc = .ok (.lcmp, 1)) (hk : Snd G M d C S (pc + 1) ρ k) : Snd G M d C S pc ρ (s_lcmp k) := fun L st h hs => by
  obtain ⟨a, b, r, rfl, hs⟩ := pL2_spec hs
  exact e_go (fun ls hx hb _ q => W.lcmp hx hb hd q) (hk _ _ _ hs)
def s_dup (k : Kt) : Kt := fun L st h => pV st (fun v st => k L (v :: v :: st) h)
theorem e_dup (hd : decode M.2.1 pc = .ok (.dup, 1)) (hk : Snd G M d C S (pc + 1) ρ k) : Snd G M d C S pc ρ (s_dup k) := fun L st h hs => by
  obtain ⟨v, r, rfl, hc, hs⟩ := pV_spec hs
  exact e_go (fun ls hx hb _ q => lv_dup hx hb hd ((cv_cat G v).trans hc) q) (hk _ _ _ hs)
def s_pop (k : Kt) : Kt := fun L st h => pV st (fun _ st => k L st h)
theorem e_pop (hd : decode M.2.1 pc = .ok (.pop, 1)) (hk : Snd G M d C S (pc + 1) ρ k) : Snd G M d C S pc ρ (s_pop k) := fun L st h hs => by
  obtain ⟨v, r, rfl, hc, hs⟩ := pV_spec hs
  exact e_go (fun ls hx hb _ q => lv_pop hx hb hd ((cv_cat G v).trans hc) q) (hk _ _ _ hs)
def s_dup2 (k : Kt) : Kt := fun L st h => pRI2 st (fun v w st => k L (v :: w :: v :: w :: st) h)
theorem e_dup2 (hd : decode M.2.1 pc = .ok (.dup2, 1)) (hk : Snd G M d C S (pc + 1) ρ k) : Snd G M d C S pc ρ (s_dup2 k) := fun L st h hs => by
  obtain ⟨v, w, r, rfl, hc, hc2, hs⟩ := pRI2_spec hs
  exact e_go (fun ls hx hb _ q => lv_dup2_11 hx hb hd ((cv_cat G v).trans hc) ((cv_cat G w).trans hc2) q) (hk _ _ _ hs)
theorem e_goto {off : Int} {tgt : Nat} (hd : decode M.2.1 pc = .ok (.goto off, 3)) (ht : (pc : Int) + off = (tgt : Int)) (hk : Snd G M d C S tgt ρ k) : Snd G M d C S pc ρ k := fun L st h hs => e_go (fun ls hx hb _ q => lv_goto hx hb hd ht q) (hk _ _ _ hs)

def s_if_eq (kt kf : Kt) : Kt := fun L st h => p1 st (fun a st => (a = 0 → kt L st h) ∧ (¬ (a = 0) → kf L st h))
theorem e_if_eq {off : Int} {tgt : Nat} (hd : decode M.2.1 pc = .ok (.ifCond .eq off, 3)) (ht : (pc : Int) + off = (tgt : Int)) (hkt : Snd G M d C S tgt ρ kt) (hkf : Snd G M d C S (pc + 3) ρ kf) : Snd G M d C S pc ρ (s_if_eq kt kf) := fun L st h hs => by
  obtain ⟨a, r, rfl, h1, h2⟩ := p1_spec hs
  exact e_br (fun ls hx hb q1 q2 => lv_if_eq hx hb hd ht q1 q2) (fun q => hkt _ _ _ (h1 q)) (fun q => hkf _ _ _ (h2 q))
def s_if_lt (kt kf : Kt) : Kt := fun L st h => p1 st (fun a st => (a < 0 → kt L st h) ∧ (¬ (a < 0) → kf L st h))
theorem e_if_lt {off : Int} {tgt : Nat} (hd : decode M.2.1 pc = .ok (.ifCond .lt off, 3)) (ht : (pc : Int) + off = (tgt : Int)) (hkt : Snd G M d C S tgt ρ kt) (hkf : Snd G M d C S (pc + 3) ρ kf) : Snd G M d C S pc ρ (s_if_lt kt kf) := fun L st h hs => by
  obtain ⟨a, r, rfl, h1, h2⟩ := p1_spec hs
  exact e_br (fun ls hx hb q1 q2 => lv_if_lt hx hb hd ht q1 q2) (fun q => hkt _ _ _ (h1 q)) (fun q => hkf _ _ _ (h2 q))
def s_if_ge (kt kf : Kt) : Kt := fun L st h => p1 st (fun a st => (0 ≤ a → kt L st h) ∧ (¬ (0 ≤ a) → kf L st h))
theorem e_if_ge {off : Int} {tgt : Nat} (hd : decode M.2.1 pc = .ok (.ifCond .ge off, 3)) (ht : (pc : Int) + off = (tgt : Int)) (hkt : Snd G M d C S tgt ρ kt) (hkf : Snd G M d C S (pc + 3) ρ kf) : Snd G M d C S pc ρ (s_if_ge kt kf) := fun L st h hs => by
  obtain ⟨a, r, rfl, h1, h2⟩ := p1_spec hs
  exact e_br (fun ls hx hb q1 q2 => lv_if_ge hx hb hd ht q1 q2) (fun q => hkt _ _ _ (h1 q)) (fun q => hkf _ _ _ (h2 q))
def s_if_gt (kt kf : Kt) : Kt := fun L st h => p1 st (fun a st => (0 < a → kt L st h) ∧ (¬ (0 < a) → kf L st h))
theorem e_if_gt {off : Int} {tgt : Nat} (hd : decode M.2.1 pc = .ok (.ifCond .gt off, 3)) (ht : (pc : Int) + off = (tgt : Int)) (hkt : Snd G M d C S tgt ρ kt) (hkf : Snd G M d C S (pc + 3) ρ kf) : Snd G M d C S pc ρ (s_if_gt kt kf) := fun L st h hs => by
  obtain ⟨a, r, rfl, h1, h2⟩ := p1_spec hs
  exact e_br (fun ls hx hb q1 q2 => lv_if_gt hx hb hd ht q1 q2) (fun q => hkt _ _ _ (h1 q)) (fun q => hkf _ _ _ (h2 q))
def s_if_le (kt kf : Kt) : Kt := fun L st h => p1 st (fun a st => (a ≤ 0 → kt L st h) ∧ (¬ (a ≤ 0) → kf L st h))
theorem e_if_le {off : Int} {tgt : Nat} (hd : decode M.2.1 pc = .ok (.ifCond .le off, 3)) (ht : (pc : Int) + off = (tgt : Int)) (hkt : Snd G M d C S tgt ρ kt) (hkf : Snd G M d C S (pc + 3) ρ kf) : Snd G M d C S pc ρ (s_if_le kt kf) := fun L st h hs => by
  obtain ⟨a, r, rfl, h1, h2⟩ := p1_spec hs
  exact e_br (fun ls hx hb q1 q2 => lv_if_le hx hb hd ht q1 q2) (fun q => hkt _ _ _ (h1 q)) (fun q => hkf _ _ _ (h2 q))
def s_ic_eq (kt kf : Kt) : Kt := fun L st h => p2 st (fun a b st => (a = b → kt L st h) ∧ (¬ (a = b) → kf L st h))
theorem e_ic_eq {off : Int} {tgt : Nat} (hd : decode M.2.1 pc = .ok (.if_icmp .eq off, 3)) (ht : (pc : Int) + off = (tgt : Int)) (hkt : Snd G M d C S tgt ρ kt) (hkf : Snd G M d C S (pc + 3) ρ kf) : Snd G M d C S pc ρ (s_ic_eq kt kf) := fun L st h hs => by
  obtain ⟨a, b, r, rfl, h1, h2⟩ := p2_spec hs
  exact e_br (fun ls hx hb q1 q2 => lv_icmp_eq hx hb hd ht q1 q2) (fun q => hkt _ _ _ (h1 q)) (fun q => hkf _ _ _ (h2 q))
def s_ic_lt (kt kf : Kt) : Kt := fun L st h => p2 st (fun a b st => (a < b → kt L st h) ∧ (¬ (a < b) → kf L st h))
theorem e_ic_lt {off : Int} {tgt : Nat} (hd : decode M.2.1 pc = .ok (.if_icmp .lt off, 3)) (ht : (pc : Int) + off = (tgt : Int)) (hkt : Snd G M d C S tgt ρ kt) (hkf : Snd G M d C S (pc + 3) ρ kf) : Snd G M d C S pc ρ (s_ic_lt kt kf) := fun L st h hs => by
  obtain ⟨a, b, r, rfl, h1, h2⟩ := p2_spec hs
  exact e_br (fun ls hx hb q1 q2 => lv_icmp_lt hx hb hd ht q1 q2) (fun q => hkt _ _ _ (h1 q)) (fun q => hkf _ _ _ (h2 q))
def s_ic_ge (kt kf : Kt) : Kt := fun L st h => p2 st (fun a b st => (b ≤ a → kt L st h) ∧ (¬ (b ≤ a) → kf L st h))
theorem e_ic_ge {off : Int} {tgt : Nat} (hd : decode M.2.1 pc = .ok (.if_icmp .ge off, 3)) (ht : (pc : Int) + off = (tgt : Int)) (hkt : Snd G M d C S tgt ρ kt) (hkf : Snd G M d C S (pc + 3) ρ kf) : Snd G M d C S pc ρ (s_ic_ge kt kf) := fun L st h hs => by
  obtain ⟨a, b, r, rfl, h1, h2⟩ := p2_spec hs
  exact e_br (fun ls hx hb q1 q2 => lv_icmp_ge hx hb hd ht q1 q2) (fun q => hkt _ _ _ (h1 q)) (fun q => hkf _ _ _ (h2 q))
def s_ic_gt (kt kf : Kt) : Kt := fun L st h => p2 st (fun a b st => (b < a → kt L st h) ∧ (¬ (b < a) → kf L st h))
theorem e_ic_gt {off : Int} {tgt : Nat} (hd : decode M.2.1 pc = .ok (.if_icmp .gt off, 3)) (ht : (pc : Int) + off = (tgt : Int)) (hkt : Snd G M d C S tgt ρ kt) (hkf : Snd G M d C S (pc + 3) ρ kf) : Snd G M d C S pc ρ (s_ic_gt kt kf) := fun L st h hs => by
  obtain ⟨a, b, r, rfl, h1, h2⟩ := p2_spec hs
  exact e_br (fun ls hx hb q1 q2 => lv_icmp_gt hx hb hd ht q1 q2) (fun q => hkt _ _ _ (h1 q)) (fun q => hkf _ _ _ (h2 q))
def s_ic_le (kt kf : Kt) : Kt := fun L st h => p2 st (fun a b st => (a ≤ b → kt L st h) ∧ (¬ (a ≤ b) → kf L st h))
theorem e_ic_le {off : Int} {tgt : Nat} (hd : decode M.2.1 pc = .ok (.if_icmp .le off, 3)) (ht : (pc : Int) + off = (tgt : Int)) (hkt : Snd G M d C S tgt ρ kt) (hkf : Snd G M d C S (pc + 3) ρ kf) : Snd G M d C S pc ρ (s_ic_le kt kf) := fun L st h hs => by
  obtain ⟨a, b, r, rfl, h1, h2⟩ := p2_spec hs
  exact e_br (fun ls hx hb q1 q2 => lv_icmp_le hx hb hd ht q1 q2) (fun q => hkt _ _ _ (h1 q)) (fun q => hkf _ _ _ (h2 q))
def s_if_ne (kt kf : Kt) : Kt := fun L st h => p1 st (fun a st => (¬ a = 0 → kt L st h) ∧ (a = 0 → kf L st h))
theorem e_if_ne {off : Int} {tgt : Nat} (hd : decode M.2.1 pc = .ok (.ifCond .ne off, 3)) (ht : (pc : Int) + off = (tgt : Int)) (hkt : Snd G M d C S tgt ρ kt) (hkf : Snd G M d C S (pc + 3) ρ kf) : Snd G M d C S pc ρ (s_if_ne kt kf) := fun L st h hs => by
  obtain ⟨a, r, rfl, h1, h2⟩ := p1_spec hs
  exact e_br (P := ¬ a = 0) (fun ls hx hb q1 q2 => lv_if_ne hx hb hd ht q1 (fun z => q2 (fun y => y z))) (fun q => hkt _ _ _ (h1 q)) (fun q => hkf _ _ _ (h2 (Decidable.not_not.mp q)))
def s_ic_ne (kt kf : Kt) : Kt := fun L st h => p2 st (fun a b st => (¬ a = b → kt L st h) ∧ (a = b → kf L st h))
theorem e_ic_ne {off : Int} {tgt : Nat} (hd : decode M.2.1 pc = .ok (.if_icmp .ne off, 3)) (ht : (pc : Int) + off = (tgt : Int)) (hkt : Snd G M d C S tgt ρ kt) (hkf : Snd G M d C S (pc + 3) ρ kf) : Snd G M d C S pc ρ (s_ic_ne kt kf) := fun L st h hs => by
  obtain ⟨a, b, r, rfl, h1, h2⟩ := p2_spec hs
  exact e_br (P := ¬ a = b) (fun ls hx hb q1 q2 => lv_icmp_ne hx hb hd ht q1 (fun z => q2 (fun y => y z))) (fun q => hkt _ _ _ (h1 q)) (fun q => hkf _ _ _ (h2 (Decidable.not_not.mp q)))
end ST
