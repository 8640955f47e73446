/-! Pure: the class's round, all choices -/
abbrev Wx : Type := Int32 × Int32 × Nat
def wx1 (a : IA) (T : Nat) (L : Nat → Nat) (s : Nat) (x : Wx) : Wx := (x.1 ||| bt (nI s), x.2.1 ^^^ eds a T s, x.2.2 + L s)
def wx2 (L : Nat → Nat) (s : Nat) (x : Wx) : Wx := (x.1 ||| bt (nI s), x.2.1, x.2.2 + 2 * L s)
/-- the lengths that can be reached -/
def SS (a : IA) (T ns : Nat) (L : Nat → Nat) (told : Int32) : Nat → Nat → Wx → Nat → Prop
  | 0, _, x, z => x.2.1 = 0 ∧ oneP a T ns x.1 = true ∧ z = x.2.2
  | t + 1, s, x, z => (told &&& bt (nI s) = 0 ∧ SS a T ns L told t (s + 1) x z) ∨ SS a T ns L told t (s + 1) (wx1 a T L s x) z ∨ SS a T ns L told t (s + 1) (wx2 L s x) z
/-- the least of m0 and of S -/
def MnS (S : Nat → Prop) (m0 m : Nat) : Prop := m ≤ m0 ∧ (m = m0 ∨ S m) ∧ ∀ z, S z → m ≤ z
section RD2
variable {a : IA} {U V L : Nat → Nat} {T nc ns s t v : Nat} {used told : Int32} {x : Wx}
theorem MnS.two {S1 S2 : Nat → Prop} {m0 m1 m2 : Nat} (h1 : MnS S1 m0 m1) (h2 : MnS S2 m1 m2) : MnS (fun z => S1 z ∨ S2 z) m0 m2 := by
  obtain ⟨a1, a2, a3⟩ := h1
  obtain ⟨b1, b2, b3⟩ := h2
  refine ⟨by omega, ?_, fun z hz => ?_⟩
  · rcases b2 with e | e
    · rcases a2 with e' | e'
      · exact Or.inl (e.trans e')
      · rw [e]; exact Or.inr (Or.inl e')
    · exact Or.inr (Or.inr e)
  · rcases hz with q | q
    · have := a3 z q; omega
    · exact b3 z q
theorem SS.le : ∀ {t s : Nat} {x : Wx} {z : Nat}, SS a T ns L told t s x z → x.2.2 ≤ z
  | 0, _, _, _, h => by rw [h.2.2]; exact Nat.le_refl _
  | t + 1, s, x, z, h => by
    rcases h with h | h | h
    · exact SS.le h.2
    · have := SS.le h
      have e : (wx1 a T L s x).2.2 = x.2.2 + L s := rfl
      omega
    · have := SS.le h
      have e : (wx2 L s x).2.2 = x.2.2 + 2 * L s := rfl
      omega
theorem wk_min (h : GrC a T nc ns U V L) : ∀ (t s : Nat) (x : Wx) (m0 : Nat), s + t = ns → x.2.2 ≤ 240 * s → m0 ≤ 1000000 → ∃ m, wkR a T ns told t s x.1 x.2.1 (nI x.2.2) (nI m0) = nI m ∧ MnS (SS a T ns L told t s x) m0 m := by
  have h8 := h.2.1
  intro t
  induction t with
  | zero =>
    intro s x m0 hs hx hm
    rw [wkR]
    by_cases c : x.2.2 < m0
    · rw [if_pos (nI_lt c (by omega))]
      by_cases e : x.2.1 = 0 ∧ oneP a T ns x.1 = true
      · rw [if_pos e]
        exact ⟨x.2.2, rfl, by omega, Or.inr ⟨e.1, e.2, rfl⟩, fun z hz => by rw [hz.2.2]; exact Nat.le_refl _⟩
      · rw [if_neg e]
        exact ⟨m0, rfl, Nat.le_refl _, Or.inl rfl, fun z hz => absurd ⟨hz.1, hz.2.1⟩ e⟩
    · rw [if_neg (fun q => c ((nI_ltI (by omega) (by omega)).mp q))]
      exact ⟨m0, rfl, Nat.le_refl _, Or.inl rfl, fun z hz => by rw [hz.2.2]; omega⟩
  | succ t ih =>
    intro s x m0 hs hx hm
    obtain ⟨hu, hv, hne, eu, ev, el, hl⟩ := h.2.2 s (by omega)
    rw [wkR]
    by_cases c : x.2.2 < m0
    · rw [if_pos (nI_lt c (by omega)), el, show (2 : Int32) * nI (L s) = nI (2 * L s) from nI_mul 2 _, nI_add, nI_add]
      have first : ∃ m, (if told &&& bt (nI s) = 0 then wkR a T ns told t (s + 1) x.1 x.2.1 (nI x.2.2) (nI m0) else nI m0) = nI m ∧ MnS (fun z => told &&& bt (nI s) = 0 ∧ SS a T ns L told t (s + 1) x z) m0 m := by
        by_cases e : told &&& bt (nI s) = 0
        · rw [if_pos e]
          obtain ⟨m, m1, m2, m3, m4⟩ := ih (s + 1) x m0 (by omega) (by omega) hm
          exact ⟨m, m1, m2, m3.imp id (fun q => ⟨e, q⟩), fun z hz => m4 z hz.2⟩
        · rw [if_neg e]
          exact ⟨m0, rfl, Nat.le_refl _, Or.inl rfl, fun z hz => absurd hz.1 e⟩
      obtain ⟨m1, e1, k1⟩ := first
      have hm1 : m1 ≤ 1000000 := by have := k1.1; omega
      rw [e1]
      obtain ⟨m2, e2, k2⟩ := ih (s + 1) (wx1 a T L s x) m1 (by omega) (by show x.2.2 + L s ≤ _; omega) hm1
      have e2 : wkR a T ns told t (s + 1) (x.1 ||| bt (nI s)) (x.2.1 ^^^ eds a T s) (nI (x.2.2 + L s)) (nI m1) = nI m2 := e2
      have hm2 : m2 ≤ 1000000 := by have := k2.1; omega
      rw [e2]
      obtain ⟨m3, e3, k3⟩ := ih (s + 1) (wx2 L s x) m2 (by omega) (by show x.2.2 + 2 * L s ≤ _; omega) hm2
      have e3 : wkR a T ns told t (s + 1) (x.1 ||| bt (nI s)) x.2.1 (nI (x.2.2 + 2 * L s)) (nI m2) = nI m3 := e3
      rw [e3]
      obtain ⟨b1, b2, b3⟩ := (k1.two k2).two k3
      refine ⟨m3, rfl, b1, b2.imp id (fun q => ?_), fun z hz => b3 z ?_⟩
      · rcases q with (q | q) | q
        · exact Or.inl q
        · exact Or.inr (Or.inl q)
        · exact Or.inr (Or.inr q)
      · rcases hz with q | q | q
        · exact Or.inl (Or.inl q)
        · exact Or.inl (Or.inr q)
        · exact Or.inr q
    · rw [if_neg (fun q => c ((nI_ltI (by omega) (by omega)).mp q))]
      exact ⟨m0, rfl, Nat.le_refl _, Or.inl rfl, fun z hz => by have := SS.le hz; omega⟩
/-- what the counts of the first s streets give -/
def Ac (U V L : Nat → Nat) (c : Nat → Nat) (s : Nat) (x : Wx) : Prop := (∀ j, j < 32 → bB x.1 j = (decide (j < s) && decide (0 < c j))) ∧ (∀ v, v < 32 → bB x.2.1 v = cx U V c v s) ∧ x.2.2 = cL c L s
theorem Ac.k0 {t' : Nat → Nat} (h : Ac U V L t' s x) (hc : t' s = 0) : Ac U V L t' (s + 1) x := by
  obtain ⟨a1, a2, a3⟩ := h
  refine ⟨fun j hj => ?_, fun v hv => ?_, ?_⟩
  · rw [a1 j hj]
    by_cases e : j = s
    · subst e
      rw [hc, decide_eq_false (Nat.lt_irrefl _), decide_eq_false (show ¬ 0 < 0 by omega), Bool.and_false, Bool.and_false]
    · rw [decide_eq_decide.mpr (show j < s ↔ j < s + 1 by omega)]
  · rw [a2 v hv, cx, hc]
    exact (Bool.xor_false _).symm
  · rw [a3, cL, hc]; omega
theorem Ac.k1 {c : Nat → Nat} (h : GrC a T nc ns U V L) (hs : s < ns) (hx : Ac U V L c s x) (hc : c s = 1) : Ac U V L c (s + 1) (wx1 a T L s x) := by
  obtain ⟨a1, a2, a3⟩ := hx
  have h8 := h.2.1
  have hne := (h.2.2 s hs).2.2.1
  refine ⟨fun j hj => ?_, fun v hv => ?_, ?_⟩
  · show bB (x.1 ||| bt (nI s)) j = _
    rw [bB_or, a1 j hj, bB_bt _ (by omega) _ hj]
    by_cases e : j = s
    · subst e
      rw [hc, decide_eq_true rfl, decide_eq_true (show j < j + 1 by omega), Bool.or_true]; rfl
    · rw [decide_eq_false e, Bool.or_false, decide_eq_decide.mpr (show j < s ↔ j < s + 1 by omega)]
  · show bB (x.2.1 ^^^ eds a T s) v = _
    rw [bB_xor, a2 v hv, eds_b h hs hv, cx, hc]
    congr 1
    show _ = (true && eB U V s v)
    rw [Bool.true_and]
    unfold eB
    by_cases e1 : v = U s
    · rw [decide_eq_true e1, decide_eq_true e1.symm, decide_eq_false (show ¬ V s = v from fun z => hne (e1.symm.trans z.symm))]; rfl
    · rw [decide_eq_false e1, decide_eq_false (show ¬ U s = v from fun z => e1 z.symm), Bool.false_or, Bool.false_xor, decide_eq_decide.mpr (show v = V s ↔ V s = v from eq_comm)]
  · show x.2.2 + L s = _
    rw [a3, cL, hc, Nat.one_mul]
theorem Ac.k2 {c : Nat → Nat} (h : GrC a T nc ns U V L) (hs : s < ns) (hx : Ac U V L c s x) (hc : c s = 2) : Ac U V L c (s + 1) (wx2 L s x) := by
  obtain ⟨a1, a2, a3⟩ := hx
  have h8 := h.2.1
  refine ⟨fun j hj => ?_, fun v hv => ?_, ?_⟩
  · show bB (x.1 ||| bt (nI s)) j = _
    rw [bB_or, a1 j hj, bB_bt _ (by omega) _ hj]
    by_cases e : j = s
    · subst e
      rw [hc, decide_eq_true rfl, decide_eq_true (show j < j + 1 by omega), Bool.or_true]; rfl
    · rw [decide_eq_false e, Bool.or_false, decide_eq_decide.mpr (show j < s ↔ j < s + 1 by omega)]
  · show bB x.2.1 v = _
    rw [a2 v hv, cx, hc]
    exact (Bool.xor_false _).symm
  · show x.2.2 + 2 * L s = _
    rw [a3, cL, hc]
theorem Ac.cg {c d : Nat → Nat} (hx : Ac U V L c s x) (e : ∀ t, t < s → c t = d t) : Ac U V L d s x := by
  obtain ⟨a1, a2, a3⟩ := hx
  refine ⟨fun j hj => ?_, fun v hv => ?_, ?_⟩
  · rw [a1 j hj]
    by_cases q : j < s
    · rw [e j q]
    · rw [decide_eq_false q]; rfl
  · rw [a2 v hv]; exact cx_cg (fun t ht => by rw [e t ht])
  · rw [a3]; exact cL_cg e
theorem told_b (hs : s < 32) : told &&& bt (nI s) = 0 ↔ bB told s = false := by
  constructor
  · intro e
    have : bB (told &&& bt (nI s)) s = false := by rw [e]; exact bB_0
    rw [bB_and, bB_bt _ hs _ hs, decide_eq_true rfl, Bool.and_true] at this
    exact this
  · intro e
    refine bB_ext (fun j hj => ?_)
    rw [bB_and, bB_bt _ hs _ hj]
    by_cases q : j = s
    · rw [q, e]; rfl
    · rw [decide_eq_false q, Bool.and_false]
theorem SS.count (h : GrC a T nc ns U V L) : ∀ (t s : Nat) (x : Wx) (z : Nat) (c : Nat → Nat), s + t = ns → Ac U V L c s x → SS a T ns L told t s x z → ∃ (d : Nat → Nat) (y : Wx), (∀ i, i < s → d i = c i) ∧ (∀ i, s ≤ i → i < ns → bB told i = true → 0 < d i) ∧ Ac U V L d ns y ∧ y.2.1 = 0 ∧ oneP a T ns y.1 = true ∧ z = y.2.2
  | 0, s, x, z, c, hs, hx, ⟨h1, h2, h3⟩ => by
    obtain rfl : s = ns := by omega
    exact ⟨c, x, fun _ _ => rfl, fun i h1 h2 => by omega, hx, h1, h2, h3⟩
  | t + 1, s, x, z, c, hs, hx, hz => by
    have h8 := h.2.1
    have go : ∀ (k : Nat) (x' : Wx), Ac U V L (fun i => if i = s then k else c i) (s + 1) x' → SS a T ns L told t (s + 1) x' z → (bB told s = true → 0 < k) → ∃ (d : Nat → Nat) (y : Wx), (∀ i, i < s → d i = c i) ∧ (∀ i, s ≤ i → i < ns → bB told i = true → 0 < d i) ∧ Ac U V L d ns y ∧ y.2.1 = 0 ∧ oneP a T ns y.1 = true ∧ z = y.2.2 := by
      intro k x' hx' hz' hk
      obtain ⟨d, y, d1, d2, d3⟩ := SS.count h t (s + 1) x' z _ (by omega) hx' hz'
      refine ⟨d, y, fun i hi => ?_, fun i h1 h2 h3 => ?_, d3⟩
      · rw [d1 i (by omega)]; exact if_neg (by omega)
      · by_cases e : i = s
        · subst e
          rw [d1 i (by omega)]
          show 0 < if i = i then k else c i
          rw [if_pos rfl]
          exact hk h3
        · exact d2 i (by omega) h2 h3
    have ex : ∀ k, Ac U V L (fun i => if i = s then k else c i) s x := fun k => hx.cg (fun t ht => (if_neg (by omega)).symm)
    rcases hz with ⟨hz1, hz⟩ | hz | hz
    · exact go 0 x (Ac.k0 (ex 0) (if_pos rfl)) hz (fun q => by rw [(told_b (by omega)).mp hz1] at q; exact Bool.noConfusion q)
    · exact go 1 _ (Ac.k1 h (by omega) (ex 1) (if_pos rfl)) hz (fun _ => by decide)
    · exact go 2 _ (Ac.k2 h (by omega) (ex 2) (if_pos rfl)) hz (fun _ => by decide)
theorem SS.of (h : GrC a T nc ns U V L) {c : Nat → Nat} (h2 : ∀ i, i < ns → c i ≤ 2) (ht : ∀ i, i < ns → bB told i = true → 0 < c i) (hv : ∀ y, Ac U V L c ns y → y.2.1 = 0 ∧ oneP a T ns y.1 = true) : ∀ (t s : Nat) (x : Wx), s + t = ns → Ac U V L c s x → SS a T ns L told t s x (cL c L ns)
  | 0, s, x, hs, hx => by
    obtain rfl : s = ns := by omega
    exact ⟨(hv x hx).1, (hv x hx).2, hx.2.2.symm⟩
  | t + 1, s, x, hs, hx => by
    have h8 := h.2.1
    have b := h2 s (by omega)
    have : c s = 0 ∨ c s = 1 ∨ c s = 2 := by omega
    rcases this with e | e | e
    · refine Or.inl ⟨(told_b (by omega)).mpr ?_, SS.of h h2 ht hv t (s + 1) x (by omega) (Ac.k0 hx e)⟩
      by_cases q : bB told s = true
      · have := ht s (by omega) q
        omega
      · exact Bool.eq_false_iff.mpr q
    · exact Or.inr (Or.inl (SS.of h h2 ht hv t (s + 1) _ (by omega) (Ac.k1 h (by omega) hx e)))
    · exact Or.inr (Or.inr (SS.of h h2 ht hv t (s + 1) _ (by omega) (Ac.k2 h (by omega) hx e)))
/-- the closed walks along all told streets -/
def TS (U V L : Nat → Nat) (ns : Nat) (told : Int32) (home z : Nat) : Prop := ∃ w, Wl U V ns w home home ∧ (∀ s, s < ns → bB told s = true → s ∈ w) ∧ lsum L w = z
/-- the least of them, as a number; -1: there is none -/
def Rd (U V L : Nat → Nat) (ns : Nat) (told : Int32) (home : Nat) (v : Int32) : Prop := (v = -1 ∧ ∀ z, ¬ TS U V L ns told home z) ∨ ∃ m, v = nI m ∧ m < 2 ^ 30 ∧ TS U V L ns told home m ∧ ∀ z, TS U V L ns told home z → m ≤ z
theorem Rd.uniq {home : Nat} {v w : Int32} (h : Rd U V L ns told home v) (h' : Rd U V L ns told home w) : v = w := by
  rcases h with ⟨e, h⟩ | ⟨m, e, _, h1, h2⟩
  · rcases h' with ⟨e', _⟩ | ⟨m', _, _, h1', _⟩
    · rw [e, e']
    · exact absurd h1' (h _)
  · rcases h' with ⟨_, h'⟩ | ⟨m', e', _, h1', h2'⟩
    · exact absurd h1 (h' _)
    · have a1 := h2 _ h1'
      have a2 := h2' _ h1
      rw [e, e', show m = m' by omega]
theorem Ac.cn {c : Nat → Nat} {y : Wx} (h8 : ns ≤ 8) (hy : Ac U V L c ns y) : Cn1 U V ns (fun s => bB y.1 s = true) ↔ Cn1 U V ns (fun s => 0 < c s) := by
  have e : ∀ s, s < ns → (bB y.1 s = true ↔ 0 < c s) := fun s hs => by
    rw [hy.1 s (by omega), decide_eq_true hs, Bool.true_and, decide_eq_true_iff]
  constructor
  · intro h P hP s t hs ht us ut
    exact h P (fun s t hs ht us ut => hP s t hs ht ((e s hs).mp us) ((e t ht).mp ut)) s t hs ht ((e s hs).mpr us) ((e t ht).mpr ut)
  · intro h P hP s t hs ht us ut
    exact h P (fun s t hs ht us ut => hP s t hs ht ((e s hs).mpr us) ((e t ht).mpr ut)) s t hs ht ((e s hs).mp us) ((e t ht).mp ut)
theorem cx_big {c : Nat → Nat} (hv : ∀ s, s < ns → U s ≠ v ∧ V s ≠ v) : ∀ n, n ≤ ns → cx U V c v n = false
  | 0, _ => rfl
  | n + 1, hn => by
    rw [cx, cx_big hv n (by omega)]
    unfold eB
    rw [decide_eq_false (hv n (by omega)).1, decide_eq_false (hv n (by omega)).2]
    simp
theorem SS_TS {z f : Nat} (h : GrC a T nc ns U V L) (hf : f < ns) (htf : bB told f = true) (hz : SS a T ns L told ns 0 (0, 0, 0) z) : TS U V L ns told (U f) z ∧ z ≤ 1920 + 0 * z ∨ TS U V L ns told (U f) z := by
  right
  have h8 := h.2.1
  have h10 := h.1
  obtain ⟨d, y, _, d2, d3, d4, d5, d6⟩ := SS.count h ns 0 (0, 0, 0) z (fun _ => 0) (by omega) ⟨fun j _ => bB_0, fun v _ => bB_0, rfl⟩ hz
  have hp : ∀ u, cx U V d u ns = false := fun u => by
    by_cases c : u < 32
    · rw [← d3.2.1 u c, d4]; exact bB_0
    · exact cx_big (fun s hs => by have := h.2.2 s hs; omega) ns (Nat.le_refl _)
  obtain ⟨w, w1, w2⟩ := euler0 ((d3.cn h8).mp (oneP_cn h d5)) hf (d2 f (by omega) hf htf) rfl hp
  refine ⟨w, w1, fun s hs q => List.count_pos_iff.mp (by rw [← w2 s hs]; exact d2 s (by omega) hs q), ?_⟩
  rw [d6, d3.2.2, lsum_cL (Wl.lt w1)]
  exact cL_cg (fun t ht => (w2 t ht).symm)
theorem TS_SS {z f : Nat} (h : GrC a T nc ns U V L) (hz : TS U V L ns told f z) : ∃ z', z' ≤ z ∧ z' ≤ 1920 ∧ SS a T ns L told ns 0 (0, 0, 0) z' := by
  have h8 := h.2.1
  have h10 := h.1
  obtain ⟨w, w1, w2, w3⟩ := hz
  let c : Nat → Nat := fun s => if w.count s = 0 then 0 else if w.count s % 2 = 1 then 1 else 2
  have cle : ∀ s, c s ≤ w.count s := fun s => by
    show (if w.count s = 0 then 0 else if w.count s % 2 = 1 then 1 else 2) ≤ _
    split
    · omega
    split <;> omega
  have c2 : ∀ s, c s ≤ 2 := fun s => by
    show (if w.count s = 0 then 0 else if w.count s % 2 = 1 then 1 else 2) ≤ _
    split
    · omega
    split <;> omega
  have cpar : ∀ s, c s % 2 = w.count s % 2 := fun s => by
    show (if w.count s = 0 then 0 else if w.count s % 2 = 1 then 1 else 2) % 2 = _
    split
    · next e => rw [e]
    split
    · next e => rw [e]
    · omega
  have cpos : ∀ s, 0 < c s ↔ s ∈ w := fun s => by
    rw [← List.count_pos_iff]
    show 0 < (if w.count s = 0 then 0 else if w.count s % 2 = 1 then 1 else 2) ↔ _
    split
    · omega
    split <;> omega
  have hp : ∀ v, cx U V c v ns = false := fun v => by
    rw [cx_cg (d := fun t => w.count t) (fun t _ => cpar t), Wl.par w1, Bool.xor_self]
  refine ⟨cL c L ns, ?_, ?_, SS.of h (fun i _ => c2 i) (fun i hi q => (cpos i).mpr (w2 i hi q)) (fun y hy => ?_) ns 0 (0, 0, 0) (by omega) ⟨fun j _ => bB_0, fun v _ => bB_0, rfl⟩⟩
  · rw [← w3, lsum_cL (Wl.lt w1)]
    exact cL_le (fun t _ => cle t)
  · have : ∀ n, n ≤ ns → cL c L n ≤ 240 * n := by
      intro n
      induction n with
      | zero => intro _; exact Nat.le_refl _
      | succ n ih =>
        intro hn
        have i1 := ih (by omega)
        have l1 := (h.2.2 n (by omega)).2.2.2.2.2.2
        have := Nat.mul_le_mul (c2 n) l1
        rw [cL]
        omega
    have := this ns (Nat.le_refl _)
    omega
  · refine ⟨bB_ext (fun j hj => by rw [hy.2.1 j hj]; exact hp j), cn_oneP h (fun j hj q => ?_) ((hy.cn h8).mpr ?_)⟩
    · rw [hy.1 j hj, Bool.and_eq_true] at q
      exact of_decide_eq_true q.1
    · intro P hP s t hs ht us ut hPs
      exact Wl.one w1 P (fun s t hs ht => hP s t (Wl.lt w1 s hs) (Wl.lt w1 t ht) ((cpos s).mpr hs) ((cpos t).mpr ht)) s t ((cpos s).mp us) ((cpos t).mp ut) hPs
/-- the class's round is the least closed walk -/
theorem round_C {f : Nat} (h : GrC a T nc ns U V L) (hf : f < ns) (htf : bB told f = true) : Rd U V L ns told (U f) (if wkR a T ns told ns 0 0 0 0 1000000 < 1000000 then wkR a T ns told ns 0 0 0 0 1000000 else -1) := by
  obtain ⟨m, e, m1, m2, m3⟩ := wk_min (told := told) h ns 0 (0, 0, 0) 1000000 (by omega) (Nat.le_refl _) (Nat.le_refl _)
  have e : wkR a T ns told ns 0 0 0 0 1000000 = nI m := e
  rw [e]
  have low : ∀ z, TS U V L ns told (U f) z → m ≤ z ∧ m ≤ 1920 := fun z hz => by
    obtain ⟨z', a1, a2, a3⟩ := TS_SS h hz
    have := m3 z' a3
    omega
  by_cases c : m < 1000000
  · rw [if_pos (show nI m < 1000000 from nI_lt (b := 1000000) c (by decide))]
    have hS := m2.resolve_left (by omega)
    have hT : TS U V L ns told (U f) m := (SS_TS h hf htf hS).elim (fun q => q.1) id
    exact Or.inr ⟨m, rfl, by omega, hT, fun z hz => (low z hz).1⟩
  · rw [if_neg (show ¬ nI m < 1000000 from fun q => c ((nI_ltI (b := 1000000) (by omega) (by decide)).mp q))]
    exact Or.inl ⟨rfl, fun z hz => by have := (low z hz).2; omega⟩
end RD2
