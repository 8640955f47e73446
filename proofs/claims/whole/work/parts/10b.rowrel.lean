/-! Pure: the class's row of lives and the reference's -/
def roC (m h : Int32) : Int32 := if m = -1 then 0 else if h = 1 then 1 else 2
/-- what always holds of the reference's row -/
def Pr (ns : Nat) (g : Nat → Int32) : Prop :=
  wfM ns g ∧ (∀ s, ns ≤ s → s < 8 → g s = -1 ∧ g (16 + s) = 0 ∧ g (32 + s) = 0 ∧ g (24 + s) = 0) ∧
  (∀ s m, s < ns → m < ns → g s = nI m → (g (8 + s) = 1 ∧ g (8 + m) = 0 ∨ g (8 + s) = 0 ∧ g (8 + m) = 1) ∧ g (16 + s) = g (16 + m)) ∧
  (∀ s, s < 8 → ∃ h, h ≤ 9 ∧ g (32 + s) = nI h) ∧ ∃ y, y ≤ 200 ∧ g 40 = nI y
/-- the class's row as the reference's says it -/
def RwE (f g : Nat → Int32) : Prop := (∀ k, k < 8 → f k = g k) ∧ (∀ k, k < 8 → f (8 + k) = roC (g k) (g (8 + k))) ∧ (∀ k, k < 8 → f (16 + k) = g (16 + k)) ∧ (∀ k, k < 8 → f (24 + k) = g (24 + k)) ∧ (∀ k, k < 8 → f (32 + k) = g (32 + k)) ∧ f 40 = g 40 ∧ f 41 = g 41
section RWR
variable {ns s t k : Nat} {f g : Nat → Int32} {x : Int32}
theorem kM (h : s < 42) : lfMate f (nI s) = f s := by unfold lfMate; rw [o0, rAt_nI _ (by decide) h]
theorem kR (h : s < 8) : lfRole f (nI s) = f (8 + s) := by unfold lfRole; rw [o8, rAt_nI _ (by decide) (by omega)]
theorem kY (h : s < 8) : lfYears f (nI s) = f (16 + s) := by unfold lfYears; rw [o16, rAt_nI _ (by decide) (by omega)]
theorem kT (h : s < 8) : lfTrees f (nI s) = f (24 + s) := by unfold lfTrees; rw [o24, rAt_nI _ (by decide) (by omega)]
theorem kH (h : s < 8) : lfHoles f (nI s) = f (32 + s) := by unfold lfHoles; rw [o32, rAt_nI _ (by decide) (by omega)]
theorem kBd {m p : Int32} (h : s < 8) : lfBind f (nI s) m p = upd (upd (upd f s m) (8 + s) p) (16 + s) 0 := by
  unfold lfBind
  rw [o0, o8, o16, rPut_nI _ (by decide) (by omega), rPut_nI _ (by decide) (by omega), rPut_nI _ (by decide) (by omega)]
theorem kSH (h : s < 8) : lfSetH f (nI s) x = upd f (32 + s) x := by unfold lfSetH; rw [o32, rPut_nI _ (by decide) (by omega)]
theorem roC_m {h : Int32} : roC (-1) h = 0 := rfl
theorem roC_1 {m : Int32} (h : ¬ m = -1) : roC m 1 = 1 := by unfold roC; rw [if_neg h]; rfl
theorem roC_0 {m : Int32} (h : ¬ m = -1) : roC m 0 = 2 := by unfold roC; rw [if_neg h]; rfl
theorem wed_r (hE : RwE f g) (hs : s < 8) (ht : t < 8) (hst : s ≠ t) : RwE (lfBind (lfBind f (nI s) (nI t) 1) (nI t) (nI s) 2) (mMarry g s t) := by
  obtain ⟨h1, h2, h3, h4, h5, h6, h7⟩ := hE
  rw [kBd hs, kBd ht]
  unfold mMarry
  have ns' : ∀ {i : Nat}, i < 8 → ¬ nI i = -1 := fun h => nI_n1 (by omega)
  refine ⟨fun k hk => ?_, fun k hk => ?_, fun k hk => ?_, fun k hk => ?_, fun k hk => ?_, ?_, ?_⟩
  · by_cases e1 : k = s
    · subst e1; simp (disch := omega) only [upd_eq, upd_ne]
    by_cases e2 : k = t
    · subst e2; simp (disch := omega) only [upd_eq, upd_ne]
    simp (disch := omega) only [upd_ne, h1]
  · by_cases e1 : k = s
    · subst e1; simp (disch := omega) only [upd_eq, upd_ne, roC_1 (ns' ht)]
    by_cases e2 : k = t
    · subst e2; simp (disch := omega) only [upd_eq, upd_ne, roC_0 (ns' hs)]
    simp (disch := omega) only [upd_ne, h2]
  · by_cases e1 : k = s
    · subst e1; simp (disch := omega) only [upd_eq, upd_ne]
    by_cases e2 : k = t
    · subst e2; simp (disch := omega) only [upd_eq, upd_ne]
    simp (disch := omega) only [upd_ne, h3]
  · simp (disch := omega) only [upd_ne, h4]
  · simp (disch := omega) only [upd_ne, h5]
  · simp (disch := omega) only [upd_ne, h6]
  · simp (disch := omega) only [upd_ne, h7]
theorem wed_p (hP : Pr ns g) (h8 : ns ≤ 8) (hs : s < ns) (ht : t < ns) (hst : s ≠ t) (e1 : g s = -1) (e2 : g t = -1) : Pr ns (mMarry g s t) := by
  obtain ⟨p1, p2, p3, p4, p5⟩ := hP
  refine ⟨wfM_marry p1 h8 hs ht hst e1 e2, ?_, ?_, ?_, ?_⟩
  · intro k hk hk8
    unfold mMarry
    simp (disch := omega) only [upd_ne]
    exact p2 k hk hk8
  · intro k m hk hm he
    unfold mMarry at he ⊢
    by_cases c1 : k = s
    · subst c1
      simp (disch := omega) only [upd_eq, upd_ne] at he
      obtain rfl := (nI_eq (by omega) (by omega)).mp he
      simp (disch := omega) only [upd_eq, upd_ne]
      exact ⟨Or.inl ⟨trivial, trivial⟩, trivial⟩
    by_cases c2 : k = t
    · subst c2
      simp (disch := omega) only [upd_eq, upd_ne] at he
      obtain rfl := (nI_eq (by omega) (by omega)).mp he
      simp (disch := omega) only [upd_eq, upd_ne]
      exact ⟨Or.inr ⟨trivial, trivial⟩, trivial⟩
    simp (disch := omega) only [upd_ne] at he
    have key : ∀ j, j < ns → g j = -1 → m ≠ j := by
      intro j hj hj2 z
      subst z
      rcases p1 k hk with h0 | ⟨m2, hm2, _, q1, q2⟩
      · rw [h0] at he; exact nI_n1 (by omega) he.symm
      · rw [q1] at he
        obtain rfl := (nI_eq (by omega) (by omega)).mp he
        rw [hj2] at q2; exact nI_n1 (by omega) q2.symm
    have m1 := key s hs e1
    have m2 := key t ht e2
    simp (disch := omega) only [upd_ne]
    exact p3 k m hk hm he
  · intro k hk
    unfold mMarry
    simp (disch := omega) only [upd_ne]
    exact p4 k hk
  · unfold mMarry
    simp (disch := omega) only [upd_ne]
    exact p5
end RWR
