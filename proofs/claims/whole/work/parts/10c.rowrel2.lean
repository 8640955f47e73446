/-! Pure: parting, quarrels, trees, repaving -/
section RW2
variable {ns s t k : Nat} {f g : Nat → Int32} {x : Int32}
theorem part_r {she he : Nat} (hE : RwE f g) (hs : s < 8) (ht : t < 8) (hst : s ≠ t) (ho : she = s ∧ he = t ∨ she = t ∧ he = s) : RwE (lfPart2 f (nI she) (nI he)) (mPart3 g s t she he) := by
  obtain ⟨h1, h2, h3, h4, h5, h6, h7⟩ := hE
  have hshe : she < 8 := by omega
  have hhe : he < 8 := by omega
  have hne : she ≠ he := by omega
  have sum : lfTrees f (nI she) + lfTrees f (nI he) = g (24 + s) + g (24 + t) := by
    rw [kT hshe, kT hhe, h4 she hshe, h4 he hhe]
    rcases ho with ⟨rfl, rfl⟩ | ⟨rfl, rfl⟩
    · rfl
    · exact Int32.add_comm _ _
  have r41 : ∀ u : Nat → Int32, rAt u 42 41 = u 41 := fun u => rAt_nI (k := 41) u (by decide) (by decide)
  have p41 : ∀ (u : Nat → Int32) (x : Int32), rPut u 42 41 x = upd u 41 x := fun u x => rPut_nI (k := 41) u (by decide) (by decide) x
  unfold lfPart2
  rw [sum, r41, p41]
  unfold lfPart3
  rw [o24, o24, rPut_nI _ (by decide) (by omega), rPut_nI _ (by decide) (by omega), kBd hshe, kBd hhe]
  unfold mPart3
  generalize g (24 + s) + g (24 + t) = T
  have cs : ∀ k, k ≠ she ∧ k ≠ he ↔ k ≠ s ∧ k ≠ t := by intro k; omega
  refine ⟨fun k hk => ?_, fun k hk => ?_, fun k hk => ?_, fun k hk => ?_, fun k hk => ?_, ?_, ?_⟩
  · by_cases e1 : k = she
    · subst e1
      rcases ho with ⟨rfl, rfl⟩ | ⟨rfl, rfl⟩ <;> simp (disch := omega) only [upd_eq, upd_ne]
    by_cases e2 : k = he
    · subst e2
      rcases ho with ⟨rfl, rfl⟩ | ⟨rfl, rfl⟩ <;> simp (disch := omega) only [upd_eq, upd_ne]
    simp (disch := omega) only [upd_ne, h1]
  · by_cases e1 : k = she
    · subst e1
      rcases ho with ⟨rfl, rfl⟩ | ⟨rfl, rfl⟩ <;> simp (disch := omega) only [upd_eq, upd_ne, roC_m]
    by_cases e2 : k = he
    · subst e2
      rcases ho with ⟨rfl, rfl⟩ | ⟨rfl, rfl⟩ <;> simp (disch := omega) only [upd_eq, upd_ne, roC_m]
    simp (disch := omega) only [upd_ne, h2]
  · by_cases e1 : k = she
    · subst e1
      rcases ho with ⟨rfl, rfl⟩ | ⟨rfl, rfl⟩ <;> simp (disch := omega) only [upd_eq, upd_ne]
    by_cases e2 : k = he
    · subst e2
      rcases ho with ⟨rfl, rfl⟩ | ⟨rfl, rfl⟩ <;> simp (disch := omega) only [upd_eq, upd_ne]
    simp (disch := omega) only [upd_ne, h3]
  · by_cases e1 : k = she
    · subst e1; simp (disch := omega) only [upd_eq, upd_ne]
    by_cases e2 : k = he
    · subst e2; simp (disch := omega) only [upd_eq, upd_ne]
    simp (disch := omega) only [upd_ne, h4]
  · simp (disch := omega) only [upd_ne, h5]
  · simp (disch := omega) only [upd_ne, h6]
  · simp (disch := omega) only [upd_eq, upd_ne, h7]
/-- whose mate is no party of this couple -/
theorem wfM_else {m : Nat} (hw : wfM ns g) (h8 : ns ≤ 8) (hs : s < ns) (ht : t < ns) (e1 : g s = nI t) (e2 : g t = nI s) (hk : k < ns) (hm : m < ns) (he : g k = nI m) (c1 : k ≠ s) (c2 : k ≠ t) : m ≠ s ∧ m ≠ t := by
  rcases hw k hk with h0 | ⟨m2, hm2, _, q1, q2⟩
  · rw [h0] at he; exact absurd he.symm (nI_n1 (by omega))
  · rw [q1] at he
    obtain rfl := (nI_eq (by omega) (by omega)).mp he
    refine ⟨fun z => ?_, fun z => ?_⟩
    · subst z; rw [e1] at q2; exact c2 ((nI_eq (by omega) (by omega)).mp q2).symm
    · subst z; rw [e2] at q2; exact c1 ((nI_eq (by omega) (by omega)).mp q2).symm
theorem part_p {she he : Nat} (hP : Pr ns g) (h8 : ns ≤ 8) (hs : s < ns) (ht : t < ns) (hst : s ≠ t) (e1 : g s = nI t) (e2 : g t = nI s) (ho : she = s ∧ he = t ∨ she = t ∧ he = s) : Pr ns (mPart3 g s t she he) := by
  obtain ⟨p1, p2, p3, p4, p5⟩ := hP
  unfold mPart3
  generalize g (24 + s) + g (24 + t) = T
  refine ⟨?_, ?_, ?_, ?_, ?_⟩
  · intro k hk
    by_cases c1 : k = s
    · left; subst c1; simp (disch := omega) only [upd_eq, upd_ne]
    by_cases c2 : k = t
    · left; subst c2; simp (disch := omega) only [upd_eq, upd_ne]
    simp (disch := omega) only [upd_ne]
    rcases p1 k hk with h0 | ⟨m, hm, hne, q1, q2⟩
    · exact Or.inl h0
    · obtain ⟨c3, c4⟩ := wfM_else p1 h8 hs ht e1 e2 hk hm q1 c1 c2
      refine Or.inr ⟨m, hm, hne, q1, ?_⟩
      simp (disch := omega) only [upd_ne]
      exact q2
  · intro k hk hk8
    simp (disch := omega) only [upd_ne]
    exact p2 k hk hk8
  · intro k m hk hm he
    by_cases c1 : k = s
    · subst c1
      simp (disch := omega) only [upd_eq, upd_ne] at he
      exact absurd he.symm (nI_n1 (by omega))
    by_cases c2 : k = t
    · subst c2
      simp (disch := omega) only [upd_eq, upd_ne] at he
      exact absurd he.symm (nI_n1 (by omega))
    simp (disch := omega) only [upd_ne] at he
    obtain ⟨c3, c4⟩ := wfM_else p1 h8 hs ht e1 e2 hk hm he c1 c2
    simp (disch := omega) only [upd_ne]
    exact p3 k m hk hm he
  · intro k hk
    simp (disch := omega) only [upd_ne]
    exact p4 k hk
  · simp (disch := omega) only [upd_ne]
    exact p5
/-- both at once -/
def Rw (ns : Nat) (f g : Nat → Int32) : Prop := RwE f g ∧ Pr ns g
theorem rw_wed (h : Rw ns f g) (h8 : ns ≤ 8) (hs : s < ns) (ht : t < ns) (hst : s ≠ t) (e1 : g s = -1) (e2 : g t = -1) : Rw ns (lfBind (lfBind f (nI s) (nI t) 1) (nI t) (nI s) 2) (mMarry g s t) :=
  ⟨wed_r h.1 (by omega) (by omega) hst, wed_p h.2 h8 hs ht hst e1 e2⟩
theorem rw_part0 (h : Rw ns f g) (hs : s < 8) (e1 : g s = -1) : lfPart f (nI s) = (0, f) := by
  unfold lfPart
  rw [kM (by omega), h.1.1 s hs, if_pos e1]
theorem rw_part (h : Rw ns f g) (h8 : ns ≤ 8) (hs : s < ns) (ht : t < ns) (hst : s ≠ t) (e1 : g s = nI t) (e2 : g t = nI s) : (lfPart f (nI s)).1 = 1 ∧ Rw ns (lfPart f (nI s)).2 (mPart g s t) := by
  have hn : ¬ g s = -1 := by rw [e1]; exact nI_n1 (by omega)
  unfold lfPart
  rw [kM (by omega), h.1.1 s (by omega), if_neg hn, kR (by omega), h.1.2.1 s (by omega)]
  refine ⟨rfl, ?_⟩
  unfold mPart
  rw [e1]
  have ro : roC (nI t) (g (8 + s)) = 1 ↔ g (8 + s) = 1 := by
    rcases (h.2.2.2.1 s t hs ht e1).1 with ⟨z, _⟩ | ⟨z, _⟩
    · rw [z, roC_1 (nI_n1 (by omega))]
    · rw [z, roC_0 (nI_n1 (by omega))]; decide
  by_cases c : g (8 + s) = 1
  · rw [if_pos (ro.mpr c), if_pos c]
    exact ⟨part_r h.1 (by omega) (by omega) hst (Or.inl ⟨rfl, rfl⟩), part_p h.2 h8 hs ht hst e1 e2 (Or.inl ⟨rfl, rfl⟩)⟩
  · rw [if_neg (fun z => c (ro.mp z)), if_neg c]
    exact ⟨part_r h.1 (by omega) (by omega) hst (Or.inr ⟨rfl, rfl⟩), part_p h.2 h8 hs ht hst e1 e2 (Or.inr ⟨rfl, rfl⟩)⟩
theorem up99 (x : Int32) : (if x < 99 then x else 99) = if x ≤ 99 then x else 99 := by
  by_cases e : x = 99
  · rw [e]; decide
  · by_cases c : x < 99
    · rw [if_pos c, if_pos (Int32.le_of_lt c)]
    · rw [if_neg c, if_neg (fun z => c (Int32.lt_iff_le_and_ne.mpr ⟨z, e⟩))]
theorem rw_put24 (h : Rw ns f g) (h8 : ns ≤ 8) (hs : s < ns) : Rw ns (upd f (24 + s) x) (upd g (24 + s) x) := by
  obtain ⟨⟨h1, h2, h3, h4, h5, h6, h7⟩, p1, p2, p3, p4, p5⟩ := h
  refine ⟨⟨fun k hk => ?_, fun k hk => ?_, fun k hk => ?_, fun k hk => ?_, fun k hk => ?_, ?_, ?_⟩, wfM_cg p1 (fun k hk => ?_), fun k hk hk8 => ?_, fun k m hk hm he => ?_, fun k hk => ?_, ?_⟩
  · simp (disch := omega) only [upd_ne, h1]
  · simp (disch := omega) only [upd_ne, h2]
  · simp (disch := omega) only [upd_ne, h3]
  · by_cases e1 : k = s
    · subst e1; simp (disch := omega) only [upd_eq]
    · simp (disch := omega) only [upd_ne, h4]
  · simp (disch := omega) only [upd_ne, h5]
  · simp (disch := omega) only [upd_ne, h6]
  · simp (disch := omega) only [upd_ne, h7]
  · simp (disch := omega) only [upd_ne]
  · simp (disch := omega) only [upd_ne]; exact p2 k hk hk8
  · simp (disch := omega) only [upd_ne] at he ⊢; exact p3 k m hk hm he
  · simp (disch := omega) only [upd_ne]; exact p4 k hk
  · simp (disch := omega) only [upd_ne]; exact p5
end RW2
