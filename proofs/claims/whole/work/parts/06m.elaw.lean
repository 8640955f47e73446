/-! Law: its value -/
def lwFact (a : IA) (T q : Nat) (she he w : Int32) : Int32 :=
  if w = -14 then rAt (a (q + 1)) 42 40 else if w = -13 then rAt (a (T + 7)) 8 she + rAt (a (T + 7)) 8 he else if w = -12 then ctCommon a T she he else if w = -11 then ctLiking a T he she
  else if w = -10 then ctLiking a T she he else if w = -9 then lfTrees (a (q + 1)) she + lfTrees (a (q + 1)) he else if w = -8 then rAt (a (T + 5)) 8 he else if w = -7 then rAt (a (T + 5)) 8 she
  else lfHoles (a (q + 1)) she + lfHoles (a (q + 1)) he
def lwJoin (w u v : Int32) : Int32 := if w = -5 then (if v < u then v else u) else if w = -4 then (if v = 0 then 0 else u / v) else if w = -3 then u * v else if w = -2 then u - v else if w = -1 then u + v else (if u < v then v else u)
/-- a word that joins two -/
def isOp (w : Int32) : Bool := decide (w ≤ -1) && decide (-6 ≤ w)
def evS (fc : Int32 → Int32) (w : Int32) (st : List Int32) : List Int32 := if isOp w then (match st with
    | v :: u :: st' => lwJoin w u v :: st'
    | _ => []) else (if 0 ≤ w then w else fc w) :: st
def evL (fc : Int32 → Int32) : List Int32 → List Int32 → List Int32
  | [], st => st
  | w :: c, st => evL fc c (evS fc w st)
/-- how many are on the stack behind a code -/
def dpS (w : Int32) (k : Nat) : Option Nat := if isOp w then (match k with
    | j + 2 => some (j + 1)
    | _ => none) else some (k + 1)
def dep : List Int32 → Nat → Option Nat
  | [], k => some k
  | w :: c, k => (dpS w k).bind (dep c)
theorem dep_app : ∀ (x y : List Int32) (k : Nat), dep (x ++ y) k = (dep x k).bind (dep y)
  | [], y, k => rfl
  | w :: x, y, k => by
    rw [List.cons_append, dep, dep]
    cases dpS w k with
    | none => rfl
    | some j => exact dep_app x y j
def lwVal (fc : Int32 → Int32) (l : List Int32) : Int32 := (evL fc l []).headD 0
def lwHind (a : IA) (T q : Nat) (l : List Int32) (she he : Int32) : Int32 := if she = he then 1 else if ctNever a T she he = 1 then 2 else if lwVal (lwFact a T q she he) l ≤ 0 then 0 else 3
theorem ctNever_01 {a : IA} {T : Nat} {s o : Int32} : ctNever a T s o = 0 ∨ ctNever a T s o = 1 := by unfold ctNever; split <;> simp
/-- the stack's cells hold the list, its top last -/
def stOK (h : Nat → Int32) (st : List Int32) : Prop := ∀ (i : Nat) (v : Int32), st.reverse[i]? = some v → h i = v
theorem stOK_push {h : Nat → Int32} {st : List Int32} (v : Int32) (hs : stOK h st) : stOK (upd h st.length v) (v :: st) := fun i w hi => by
  rw [List.reverse_cons] at hi
  unfold upd
  by_cases hj : i < st.length
  · rw [List.getElem?_append_left (by simpa using hj)] at hi
    rw [if_neg (by omega)]
    exact hs i w hi
  · rw [List.getElem?_append_right (by simpa using hj)] at hi
    have : i = st.length := by
      rcases Nat.lt_or_ge (i - st.reverse.length) 1 with z | z
      · simp at z; omega
      · rw [List.getElem?_eq_none (by simpa using z)] at hi; cases hi
    subst this
    simp at hi
    rw [if_pos rfl, hi]
theorem stOK_pop {h : Nat → Int32} {st : List Int32} {v : Int32} (hs : stOK h (v :: st)) : stOK h st := fun i w hi => hs i w (by
  rw [List.reverse_cons, List.getElem?_append_left (List.getElem?_eq_some_iff.mp hi).1]
  exact hi)
theorem stOK_top {h : Nat → Int32} {st : List Int32} {v : Int32} (hs : stOK h (v :: st)) : h st.length = v := hs _ _ (by simp)
theorem dep_cons {w : Int32} {c : List Int32} {k : Nat} (h : isOp w = false) : dep (w :: c) k = dep c (k + 1) := by
  rw [dep]
  unfold dpS
  rw [if_neg (by rw [h]; decide)]
  rfl
theorem isOp_1 {w : Int32} (h : -1 < w) : isOp w = false := by
  unfold isOp
  rw [decide_eq_false (i_nle.mpr h), Bool.false_and]
theorem isOp_6 {w : Int32} (h : w < -6) : isOp w = false := by
  unfold isOp
  rw [decide_eq_false (i_nle.mpr h), Bool.and_false]
theorem isOp_t {w : Int32} (h1 : ¬ -1 < w) (h2 : ¬ w < -6) : isOp w = true := by
  unfold isOp
  rw [decide_eq_true (i_nlt.mp h1), decide_eq_true (i_nlt.mp h2)]
  rfl
section EL
variable {G : GE} {d C S : Nat} {a : IA} {r : RA} {L T q : Nat} {she he w u v : Int32} {h : Nat → Int32} {l : List Int32}
theorem c_joined {N : Nat} {P : KI} (hp : P (lwJoin w u v) a r N) : Sp G (d + 1) 0 0 MX2_joined [.int w, .int u, .int v] (a, r, N) (RI P) := by
  unfold lwJoin at hp
  refine V_X2_joined_0 ⟨fun h1 => ?_, fun h1 => ⟨fun h2 => ⟨fun h3 => ⟨h3, ?_⟩, fun h3 => ?_⟩, fun h2 => ⟨fun h3 => ?_, fun h3 => ⟨fun h4 => ?_, fun h4 => ⟨fun h5 => ?_, fun h5 => ?_⟩⟩⟩⟩⟩
  · rw [if_pos h1] at hp; exact hp
  · rw [if_neg h1, if_pos h2, if_neg h3] at hp; exact hp
  · rw [if_neg h1, if_pos h2, if_pos h3] at hp; exact hp
  · rw [if_neg h1, if_neg h2, if_pos h3] at hp; exact hp
  · rw [if_neg h1, if_neg h2, if_neg h3, if_pos h4] at hp; exact hp
  · rw [if_neg h1, if_neg h2, if_neg h3, if_neg h4, if_pos h5] at hp; exact hp
  · rw [if_neg h1, if_neg h2, if_neg h3, if_neg h4, if_neg h5] at hp; exact hp
theorem life_o {q : Nat} (hq : isLife q) : tyK q = (0, 4) ∧ q < nK := by rcases hq with rfl | rfl <;> exact ⟨rfl, by decide⟩
theorem c_fact {P : KI} (hr : Rk r) (hT : isCity T) (hq : isLife q) (hp : P (lwFact a T q she he w) a r nK) : Sp G (d + 2) 0 0 MX2_fact [.int w, .ref T, .ref q, .int she, .int he] (a, r, nK) (RI P) := by
  obtain ⟨t0, l0⟩ := life_o hq
  unfold lwFact at hp
  refine V_X2_fact_0 ⟨fun h1 => ⟨t0, l0, c_yearNow hr hq ?_⟩, fun h1 => ⟨fun h2 => ⟨ct0 hT, ctl hT, c_lengthOf hr hT ⟨ct0 hT, ctl hT, c_lengthOf hr hT ?_⟩⟩, fun h2 => ⟨fun h3 => ⟨ct0 hT, ctl hT, c_commonCorners hr hT ?_⟩, fun h3 => ⟨fun h4 => ⟨ct0 hT, ctl hT, c_liking hr hT ?_⟩, fun h4 => ⟨fun h5 => ⟨ct0 hT, ctl hT, c_liking hr hT ?_⟩, fun h5 => ⟨fun h6 => ⟨t0, l0, c_treesOf hr hq ⟨t0, l0, c_treesOf hr hq ?_⟩⟩, fun h6 => ⟨fun h7 => ⟨ct0 hT, ctl hT, c_housesOf hr hT ?_⟩, fun h7 => ⟨fun h8 => ⟨ct0 hT, ctl hT, c_housesOf hr hT ?_⟩, fun h8 => ⟨t0, l0, c_holesOf hr hq ⟨t0, l0, c_holesOf hr hq ?_⟩⟩⟩⟩⟩⟩⟩⟩⟩⟩
  · rw [if_pos h1] at hp; exact hp
  · rw [if_neg h1, if_pos h2] at hp; exact hp
  · rw [if_neg h1, if_neg h2, if_pos h3] at hp; exact hp
  · rw [if_neg h1, if_neg h2, if_neg h3, if_pos h4] at hp; exact hp
  · rw [if_neg h1, if_neg h2, if_neg h3, if_neg h4, if_pos h5] at hp; exact hp
  · rw [if_neg h1, if_neg h2, if_neg h3, if_neg h4, if_neg h5, if_pos h6] at hp; exact hp
  · rw [if_neg h1, if_neg h2, if_neg h3, if_neg h4, if_neg h5, if_neg h6, if_pos h7] at hp; exact hp
  · rw [if_neg h1, if_neg h2, if_neg h3, if_neg h4, if_neg h5, if_neg h6, if_neg h7, if_pos h8] at hp; exact hp
  · rw [if_neg h1, if_neg h2, if_neg h3, if_neg h4, if_neg h5, if_neg h6, if_neg h7, if_neg h8] at hp; exact hp
/-- what a Law's stack doesn't touch -/
theorem sep (hL : isLaw L) (hT : isCity T) (hq : isLife q) : q + 1 ≠ L + 2 ∧ (∀ k, k ≤ 11 → T + k ≠ L + 2) := by
  refine ⟨?_, fun k hk => ?_⟩
  · rcases hL with rfl | rfl <;> rcases hq with rfl | rfl <;> decide
  · rcases hL with rfl | rfl <;> rcases hT with rfl | rfl <;> omega
theorem lwFact_up (hL : isLaw L) (hT : isCity T) (hq : isLife q) : lwFact (va_up a (L + 2) h) T q she he w = lwFact a T q she he w := by
  obtain ⟨s1, s2⟩ := sep hL hT hq
  unfold lwFact ctCommon ctLiking
  simp only [va_up_ne a h s1, va_up_ne a h (s2 7 (by decide)), va_up_ne a h (s2 3 (by decide)), va_up_ne a h (s2 4 (by decide)), va_up_ne a h (s2 8 (by decide)), va_up_ne a h (s2 5 (by decide))]
theorem ctNever_up (hL : isLaw L) (hT : isCity T) (hq : isLife q) : ctNever (va_up a (L + 2) h) T she he = ctNever a T she he := by
  obtain ⟨s1, s2⟩ := sep hL hT hq
  unfold ctNever
  rw [va_up_ne a h (s2 9 (by decide))]
theorem LwOK.up (hl : LwOK a L l) : LwOK (va_up a (L + 2) h) L l := by
  unfold LwOK
  rw [va_up_ne _ _ (show L ≠ L + 2 by omega), va_up_ne _ _ (show L + 1 ≠ L + 2 by omega)]
  exact hl
theorem l_value {P : KI} (hr : Rk r) (hL : isLaw L) (hT : isCity T) (hq : isLife q) (hl : LwOK a L l) (h150 : l.length ≤ 150) (hne : l ≠ []) (hp : ∀ h', P (lwVal (lwFact a T q she he) l) (va_up a (L + 2) h') r nK) :
    ∀ (m i : Nat) (st : List Int32) (h : Nat → Int32), i + m = l.length → st.length ≤ i → stOK h st → dep (l.drop i) st.length = some 1 → evL (lwFact a T q she he) l [] = evL (lwFact a T q she he) (l.drop i) st →
      E G MX2_value (d + 3) C S 6 [.ref L, .ref T, .ref q, .int she, .int he, .int (nI st.length), .int (nI i), .null] [] (va_up a (L + 2) h, r, nK) (RI P) := by
  obtain ⟨t0, l0, t1, l1, t2, l2, e1, e2⟩ := law_k hr hL
  have eL : ∀ h : Nat → Int32, va_up a (L + 2) h L = a L := fun h => va_up_ne _ _ (show L ≠ L + 2 by omega)
  have eL1 : ∀ h : Nat → Int32, va_up a (L + 2) h (L + 1) = a (L + 1) := fun h => va_up_ne _ _ (show L + 1 ≠ L + 2 by omega)
  have hl0 : l.length ≠ 0 := fun z => hne (List.eq_nil_of_length_eq_zero z)
  intro m
  induction m with
  | zero =>
    intro i st h hi hsi hst hdep hev
    rw [List.drop_eq_nil_of_le (by omega), dep] at hdep
    rw [List.drop_eq_nil_of_le (by omega), evL] at hev
    have hs1 : st.length = 1 := Option.some.inj hdep
    obtain ⟨v, rfl⟩ : ∃ v, st = [v] := List.length_eq_one_iff.mp hs1
    refine V_X2_value_6 ⟨t0, l0, fun _ => ⟨t0, l0, fun _ => ⟨t0, l0, _, e2, c_at t2 (by decide) l2 ?_⟩, fun h0 => ?_⟩, fun h0 => absurd (by rw [eL, hl.1]; exact nI_le (by omega) (by omega)) h0⟩
    · rw [va_up_self, show (0 : Int32) = nI 0 from rfl, rAt_nI _ (by decide) (by decide)]
      have e0 : h 0 = v := stOK_top hst
      have := hp h
      unfold lwVal at this
      rw [hev] at this
      rw [e0]
      exact this
    · rw [eL, hl.1] at h0
      exact absurd ((nI_eq (b := 0) (by omega) (by decide)).mp h0) hl0
  | succ m ih =>
    intro i st h hi hsi hst hdep hev
    have hlt : i < l.length := by omega
    have hd0 : l.drop i = l[i] :: l.drop (i + 1) := List.drop_eq_getElem_cons hlt
    have hw : a (L + 1) i = l[i] := hl.2 i _ (List.getElem?_eq_getElem hlt)
    rw [hd0] at hdep hev
    generalize l[i] = w at hw hdep hev
    have push : isOp w = false → ∀ x, (if 0 ≤ w then w else lwFact a T q she he w) = x → E G MX2_value (d + 3) C S 6 [.ref L, .ref T, .ref q, .int she, .int he, .int (nI st.length + 1), .int (nI i + 1), .null] [] (va_up (va_up a (L + 2) h) (L + 2) (rPut (va_up a (L + 2) h (L + 2)) 150 (nI st.length) x), r, nK) (RI P) := fun ho x hx => by
      rw [bx_uu, va_up_self, rPut_nI _ (by decide) (by omega), nI_1, nI_1]
      have := ih (i + 1) (x :: st) (upd h st.length x) (by omega) (by simp; omega) (stOK_push x hst) (by rw [dep_cons ho] at hdep; simpa using hdep) (by rw [hev, evL]; unfold evS; rw [if_neg (by rw [ho]; decide), hx])
      simpa using this
    refine V_X2_value_6 ⟨t0, l0, fun h0 => absurd h0 (by rw [eL, hl.1]; exact nI_ge (by omega) (by omega)), fun h0 => ⟨t0, l0, _, e1, c_at t1 (by decide) l1 ?_⟩⟩
    rw [eL1, rAt_nI _ (by decide) (by omega), hw]
    refine ⟨fun h1 => ⟨t0, l0, _, e2, fun h2 => c_fact hr hT hq (c_put t2 (by decide) l2 ?_), fun h2 => c_put t2 (by decide) l2 ?_⟩, fun h1 => ⟨fun h6 => ⟨t0, l0, _, e2, fun h2 => c_fact hr hT hq (c_put t2 (by decide) l2 ?_), fun h2 => c_put t2 (by decide) l2 ?_⟩, fun h6 => ?_⟩⟩
    · rw [lwFact_up hL hT hq]
      exact push (isOp_1 h1) _ (if_neg (i_nle.mpr h2))
    · exact push (isOp_1 h1) _ (if_pos (i_nlt.mp h2))
    · rw [lwFact_up hL hT hq]
      exact push (isOp_6 h6) _ (if_neg (i_nle.mpr h2))
    · exact push (isOp_6 h6) _ (if_pos (i_nlt.mp h2))
    · have ho := isOp_t h1 h6
      rw [dep] at hdep
      unfold dpS at hdep
      rw [if_pos ho] at hdep
      cases st with
      | nil => cases hdep
      | cons v st =>
        cases st with
        | nil => cases hdep
        | cons u st =>
          simp only [List.length_cons, Option.bind_some] at hdep
          rw [evL] at hev
          unfold evS at hev
          rw [if_pos ho] at hev
          have e5 : nI (v :: u :: st).length + -1 = nI (st.length + 1) := by
            rw [← nI_pred (st.length + 1), Int32.sub_eq_add_neg]
            simp only [List.length_cons]
          have e6 : nI (st.length + 1) - 1 = nI st.length := nI_pred _
          have hv : h (st.length + 1) = v := by simpa using stOK_top hst
          have hu : h st.length = u := stOK_top (stOK_pop hst)
          simp only [List.length_cons] at hsi
          refine ⟨t0, l0, _, e2, t0, l0, _, e2, c_at t2 (by decide) l2 ⟨t0, l0, _, e2, c_at t2 (by decide) l2 (c_joined (c_put t2 (by decide) l2 ?_))⟩⟩
          rw [e5, e6, va_up_self, rAt_nI _ (by decide) (by omega), rAt_nI _ (by decide) (by omega), hv, hu, rPut_nI _ (by decide) (by omega), bx_uu, nI_1]
          have := ih (i + 1) (lwJoin w u v :: st) (upd h st.length (lwJoin w u v)) (by omega) (by simp; omega) (stOK_push _ (stOK_pop (stOK_pop hst))) (by simpa using hdep) hev
          simpa using this
theorem c_value {P : KI} (hr : Rk r) (hL : isLaw L) (hT : isCity T) (hq : isLife q) (hl : LwOK a L l) (h150 : l.length ≤ 150) (hw : l = [] ∨ dep l 0 = some 1) (hp : ∀ h', P (lwVal (lwFact a T q she he) l) (va_up a (L + 2) h') r nK) :
    Sp G (d + 3) 0 0 MX2_value [.ref L, .ref T, .ref q, .int she, .int he] (va_up a (L + 2) h, r, nK) (RI P) := by
  obtain ⟨t0, l0, t1, l1, t2, l2, e1, e2⟩ := law_k hr hL
  rcases hw with rfl | hw
  · have e0 : va_up a (L + 2) h L 2 = 0 := by
      rw [va_up_ne _ _ (show L ≠ L + 2 by omega), hl.1]
      rfl
    exact V_X2_value_0 (V_X2_value_6 ⟨t0, l0, fun _ => ⟨t0, l0, fun h0 => absurd e0 h0, fun _ => hp h⟩, fun h0 => absurd (by rw [e0]; decide) h0⟩)
  · have hne : l ≠ [] := fun z => by subst z; cases hw
    exact V_X2_value_0 (l_value hr hL hT hq hl h150 hne hp l.length 0 [] h (by omega) (by simp) (fun i v hi => by simp at hi) (by simpa using hw) (by simp))
theorem c_hindrance {P : KI} (hr : Rk r) (hL : isLaw L) (hT : isCity T) (hq : isLife q) (hl : LwOK a L l) (h150 : l.length ≤ 150) (hw : l = [] ∨ dep l 0 = some 1) (hp : ∀ h', P (lwHind a T q l she he) (va_up a (L + 2) h') r nK) :
    Sp G (d + 4) 0 0 MX2_hindrance [.ref L, .ref T, .ref q, .int she, .int he] (va_up a (L + 2) h, r, nK) (RI P) := by
  obtain ⟨t0, l0, t1, l1, t2, l2, e1, e2⟩ := law_k hr hL
  unfold lwHind at hp
  refine V_X2_hindrance_0 ⟨fun h1 => ⟨ct0 hT, ctl hT, c_isNever hr hT ?_⟩, fun h1 => ?_⟩
  · rw [ctNever_up hL hT hq]
    refine ⟨fun h2 => ⟨t0, l0, c_value hr hL hT hq hl h150 hw (fun h' => ⟨fun h3 => ?_, fun h3 => ?_⟩)⟩, fun h2 => ?_⟩
    · have := hp h'
      rw [if_neg h1, if_neg (by rw [h2]; decide), if_pos h3] at this
      exact this
    · have := hp h'
      rw [if_neg h1, if_neg (by rw [h2]; decide), if_neg h3] at this
      exact this
    · have := hp h
      rw [if_neg h1, if_pos (ctNever_01.resolve_left h2)] at this
      exact this
  · have := hp h
    rw [if_pos h1] at this
    exact this
theorem c_lawClear {P : KN} (hr : Rk r) (hL : isLaw L) (hp : P (u2 a L 2 0) r nK) : Sp G d 0 0 MX2_clear [.ref L] (a, r, nK) (RN P) := by
  obtain ⟨t0, l0, t1, l1, t2, l2, e1, e2⟩ := law_k hr hL
  exact V_X2_clear_0 ⟨t0, l0, fun a1 h1 => by subst h1; exact hp⟩
end EL
