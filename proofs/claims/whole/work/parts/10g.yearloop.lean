/-! Pure: the two ways to end a year, loop by loop -/
section YLP
variable {ns s t k m : Nat} {f g h : Nat → Int32} {x y c : Int32} {A E A' E' : Nat → Bool}
theorem Cp.flip (hC : Cp ns g k m) : Cp ns g m k := ⟨hC.2.1, hC.1, fun z => hC.2.2.1 z.symm, hC.2.2.2.2.1, hC.2.2.2.1, hC.2.2.2.2.2.1.elim (fun z => Or.inr ⟨z.2, z.1⟩) (fun z => Or.inl ⟨z.2, z.1⟩), hC.2.2.2.2.2.2.symm⟩
theorem Cp.mt (hC : Cp ns g k m) (h8 : ns ≤ 8) : mtN g k = m := by unfold mtN; rw [hC.2.2.2.1, nI_clamp (by have := hC.2.1; omega)]
theorem Cp.un (hC : Cp ns g k m) (h8 : ns ≤ 8) : ¬ g k = -1 := by rw [hC.2.2.2.1]; exact nI_n1 (by have := hC.2.1; omega)
theorem Cp.one {m2 : Nat} (h1 : Cp ns g k m) (h2 : Cp ns g k m2) (h8 : ns ≤ 8) : m = m2 := by
  have := h1.mt h8
  rw [h2.mt h8] at this
  exact this.symm
theorem Cp.sp (hC : Cp ns g k m) (h8 : ns ≤ 8) : spB g k = !decide (hA g k + hA g m < 10) := by
  unfold spB
  rw [hC.mt h8, decide_eq_false (hC.un h8)]
  rfl
theorem Cp.sps (hC : Cp ns g k m) (h8 : ns ≤ 8) : spB g m = spB g k := by
  rw [hC.sp h8, hC.flip.sp h8, Int32.add_comm]
theorem spB_m (h : spB g s = true) : ¬ g s = -1 := by
  intro z
  unfold spB at h
  rw [decide_eq_true z] at h
  cases h
theorem Pr.lt (hP : Pr ns g) (hs : s < 8) (h : ¬ g s = -1) : s < ns := by
  rcases Nat.lt_or_ge s ns with z | z
  · exact z
  · exact absurd (hP.2.1 s z hs).1 h
/-- a couple ages -/
theorem st_age2 (h8 : ns ≤ 8) (hC : Cp ns g k m) (hS : StD g A E c h) (ek : E k = false) (em : E m = false) (ak : A k = false) (am : A m = false) (hA1 : ∀ s, s < 8 → s ≠ k → s ≠ m → A' s = A s) (hAk : A' k = true) (hAm : A' m = true) :
    StD g A' E c (mJb (upd (upd h (16 + k) (h (16 + k) + 1)) (16 + m) (h (16 + k) + 1)) (h (16 + k)) k m) := by
  have nk := hC.un h8
  have nm := hC.flip.un h8
  obtain ⟨hk, hm, hne, q1, q2, q3, q4⟩ := hC
  obtain ⟨h1, h2, h3, h4, h5, h6, h7⟩ := hS
  have e16 := h3 k (by omega)
  rw [if_neg (by rw [ek]; decide), if_neg (by rw [ak]; decide)] at e16
  have k32 := h5 k (by omega)
  rw [if_neg (by rw [ak]; decide)] at k32
  have m32 := h5 m (by omega)
  rw [if_neg (by rw [am]; decide)] at m32
  have hhk : hA g k = if g (16 + k) + 1 - (g (16 + k) + 1) / 25 * 25 = 0 then 0 else g (32 + k) := by unfold hA; rw [if_neg nk]
  have hhm : hA g m = if g (16 + k) + 1 - (g (16 + k) + 1) / 25 * 25 = 0 then 0 else g (32 + m) := by unfold hA; rw [if_neg nm, ← q4]
  rw [e16]
  unfold mJb
  by_cases cj : g (16 + k) + 1 - (g (16 + k) + 1) / 25 * 25 = 0
  · rw [if_pos cj] at hhk hhm ⊢
    refine ⟨fun s hs => ?_, fun s hs => ?_, fun s hs => ?_, fun s hs => ?_, fun s hs => ?_, ?_, ?_⟩
    · rw [← h1 s hs]; simp (disch := omega) only [upd_ne]
    · rw [← h2 s hs]; simp (disch := omega) only [upd_ne]
    · by_cases c1 : s = k
      · subst c1; rw [if_neg (by rw [ek]; decide), if_pos hAk]; simp (disch := omega) only [upd_eq, upd_ne]
      by_cases c2 : s = m
      · subst c2; rw [if_neg (by rw [em]; decide), if_pos hAm, ← q4]; simp (disch := omega) only [upd_eq, upd_ne]
      rw [hA1 s hs c1 c2, ← h3 s hs]; simp (disch := omega) only [upd_ne]
    · rw [← h4 s hs]; simp (disch := omega) only [upd_ne]
    · by_cases c1 : s = k
      · subst c1; rw [if_pos hAk, hhk]; simp (disch := omega) only [upd_eq, upd_ne]
      by_cases c2 : s = m
      · subst c2; rw [if_pos hAm, hhm]; simp (disch := omega) only [upd_eq]
      rw [hA1 s hs c1 c2, ← h5 s hs]; simp (disch := omega) only [upd_ne]
    · rw [← h6]; simp (disch := omega) only [upd_ne]
    · rw [← h7]; simp (disch := omega) only [upd_ne]
  · rw [if_neg cj] at hhk hhm ⊢
    refine ⟨fun s hs => ?_, fun s hs => ?_, fun s hs => ?_, fun s hs => ?_, fun s hs => ?_, ?_, ?_⟩
    · rw [← h1 s hs]; simp (disch := omega) only [upd_ne]
    · rw [← h2 s hs]; simp (disch := omega) only [upd_ne]
    · by_cases c1 : s = k
      · subst c1; rw [if_neg (by rw [ek]; decide), if_pos hAk]; simp (disch := omega) only [upd_eq, upd_ne]
      by_cases c2 : s = m
      · subst c2; rw [if_neg (by rw [em]; decide), if_pos hAm, ← q4]; simp (disch := omega) only [upd_eq, upd_ne]
      rw [hA1 s hs c1 c2, ← h3 s hs]; simp (disch := omega) only [upd_ne]
    · rw [← h4 s hs]; simp (disch := omega) only [upd_ne]
    · by_cases c1 : s = k
      · subst c1; rw [if_pos hAk, hhk, ← k32]; simp (disch := omega) only [upd_ne]
      by_cases c2 : s = m
      · subst c2; rw [if_pos hAm, hhm, ← m32]; simp (disch := omega) only [upd_ne]
      rw [hA1 s hs c1 c2, ← h5 s hs]; simp (disch := omega) only [upd_ne]
    · rw [← h6]; simp (disch := omega) only [upd_ne]
    · rw [← h7]; simp (disch := omega) only [upd_ne]
def ldN (g : Nat → Int32) (s : Nat) : Nat := if g (8 + s) = 1 then s else mtN g s
def clE (g : Nat → Int32) (k s : Nat) : Bool := spB g s && decide (ldN g s < k)
def clA (g : Nat → Int32) (k s : Nat) : Bool := !decide (g s = -1) && decide (ldN g s < k)
def clC (g : Nat → Int32) (k : Nat) : Int32 := sI (fun s => if (spB g s && decide (g (8 + s) = 1)) = true then 1 else 0) k
theorem ldN_k (hP : Pr ns g) (h8 : ns ≤ 8) (hs : s < 8) (h0 : ¬ g s = -1) (e : ldN g s = k) : g (8 + k) = 1 ∧ (s = k ∨ Cp ns g s k) := by
  obtain ⟨m, hC⟩ := hP.cp (hP.lt hs h0) h0
  unfold ldN at e
  by_cases c1 : g (8 + s) = 1
  · rw [if_pos c1] at e
    subst e
    exact ⟨c1, Or.inl rfl⟩
  · rw [if_neg c1, hC.mt h8] at e
    subst e
    exact ⟨hC.2.2.2.2.2.1.elim (fun z => absurd z.1 c1) (fun z => z.2), Or.inr hC⟩
theorem cl_same (hP : Pr ns g) (h8 : ns ≤ 8) (hno : ∀ s, s < 8 → ¬ g s = -1 → ldN g s ≠ k) (hs : s < 8) : clE g (k + 1) s = clE g k s ∧ clA g (k + 1) s = clA g k s := by
  unfold clE clA
  by_cases h0 : g s = -1
  · rw [decide_eq_true h0]
    have : spB g s = false := by
      cases h : spB g s with
      | false => rfl
      | true => exact absurd h0 (spB_m h)
    rw [this]
    exact ⟨rfl, rfl⟩
  · have := hno s hs h0
    have e : decide (ldN g s < k + 1) = decide (ldN g s < k) := decide_eq_decide.mpr (by omega)
    rw [e]
    exact ⟨rfl, rfl⟩
theorem cl_loop (hP : Pr ns g) (h8 : ns ≤ 8) : ∀ k, k ≤ 8 → StD g (clA g k) (clE g k) (g 41 + clC g k) (mPL g k)
  | 0, _ => by
    have a0 : ∀ s, clA g 0 s = false := fun s => by unfold clA; rw [decide_eq_false (show ¬ ldN g s < 0 by omega), Bool.and_false]
    have e0 : ∀ s, clE g 0 s = false := fun s => by unfold clE; rw [decide_eq_false (show ¬ ldN g s < 0 by omega), Bool.and_false]
    refine ⟨fun s _ => ?_, fun s _ => ?_, fun s _ => ?_, fun s _ => ?_, fun s _ => ?_, rfl, ?_⟩
    · rw [e0]; rfl
    · rw [e0]; rfl
    · rw [e0, a0]; rfl
    · rw [e0]; rfl
    · rw [a0]; rfl
    · show g 41 = g 41 + 0
      rw [Int32.add_zero]
  | k + 1, hk => by
    have ih := cl_loop hP h8 k (by omega)
    have cC : clC g (k + 1) = clC g k + (if (spB g k && decide (g (8 + k) = 1)) = true then 1 else 0) := rfl
    rw [cC, mPL]
    generalize mPL g k = h at *
    have same : (∀ s, s < 8 → ¬ g s = -1 → ldN g s ≠ k) → (spB g k && decide (g (8 + k) = 1)) = false → ¬ roC (h k) (h (8 + k)) = 1 → StD g (clA g (k + 1)) (clE g (k + 1)) (g 41 + (clC g k + (if (spB g k && decide (g (8 + k) = 1)) = true then 1 else 0))) (if roC (h k) (h (8 + k)) = 1 then mPA h k (h k).toNatClampNeg else h) := by
      intro c1 c2 c3
      rw [c2, if_neg c3, if_neg (by decide), Int32.add_zero]
      exact st_cg ih (fun s hs => (cl_same hP h8 c1 hs).2) (fun s hs => (cl_same hP h8 c1 hs).1)
    by_cases h0 : g k = -1
    · have es : spB g k = false := by
        cases h : spB g k with
        | false => rfl
        | true => exact absurd h0 (spB_m h)
      refine same (fun s hs hn e => ?_) (by rw [es]; rfl) ?_
      · rcases (ldN_k hP h8 hs hn e).2 with z | z
        · rw [z] at hn; exact hn h0
        · exact z.flip.un h8 h0
      · rw [ih.1 k (by omega), h0]
        split <;> rw [roC_m] <;> decide
    · obtain ⟨m, hC⟩ := hP.cp (hP.lt (by omega) h0) h0
      by_cases c1 : g (8 + k) = 1
      · have g0 : g (8 + m) = 0 := hC.2.2.2.2.2.1.elim (fun z => z.2) (fun z => by rw [z.1] at c1; exact absurd c1 (by decide))
        have lk : ldN g k = k := by unfold ldN; rw [if_pos c1]
        have lm : ldN g m = k := by unfold ldN; rw [if_neg (by rw [g0]; decide), hC.flip.mt h8]
        have ek : clE g k k = false := by unfold clE; rw [lk, decide_eq_false (Nat.lt_irrefl k), Bool.and_false]
        have em : clE g k m = false := by unfold clE; rw [lm, decide_eq_false (Nat.lt_irrefl k), Bool.and_false]
        have ak : clA g k k = false := by unfold clA; rw [lk, decide_eq_false (Nat.lt_irrefl k), Bool.and_false]
        have am : clA g k m = false := by unfold clA; rw [lm, decide_eq_false (Nat.lt_irrefl k), Bool.and_false]
        have hk1 := ih.1 k (by omega)
        rw [ek, if_neg (by decide), hC.2.2.2.1] at hk1
        have hk8 := ih.2.1 k (by omega)
        rw [ek, if_neg (by decide), c1] at hk8
        have hm := hC.2.1
        rw [hk1, hk8, roC_1 (nI_n1 (by omega)), if_pos rfl, nI_clamp (by omega)]
        have oth : ∀ s, s < 8 → s ≠ k → s ≠ m → (¬ g s = -1 → ldN g s ≠ k) := by
          intro s hs c1 c2 hn e
          rcases (ldN_k hP h8 hs hn e).2 with z | z
          · exact c1 z
          · exact c2 (z.flip.one hC h8)
        have oth2 : ∀ s, s < 8 → s ≠ k → s ≠ m → clE g (k + 1) s = clE g k s ∧ clA g (k + 1) s = clA g k s := by
          intro s hs c1 c2
          unfold clE clA
          by_cases h0 : g s = -1
          · rw [decide_eq_true h0]
            have : spB g s = false := by
              cases h : spB g s with
              | false => rfl
              | true => exact absurd h0 (spB_m h)
            rw [this]
            exact ⟨rfl, rfl⟩
          · have := oth s hs c1 c2 h0
            have e : decide (ldN g s < k + 1) = decide (ldN g s < k) := decide_eq_decide.mpr (by omega)
            rw [e]
            exact ⟨rfl, rfl⟩
        have ak1 : clA g (k + 1) k = true := by unfold clA; rw [lk, decide_eq_true (show k < k + 1 by omega), decide_eq_false h0]; rfl
        have am1 : clA g (k + 1) m = true := by unfold clA; rw [lm, decide_eq_true (show k < k + 1 by omega), decide_eq_false (hC.flip.un h8)]; rfl
        have S2 := st_age2 h8 hC ih ek em ak am (fun s hs c1 c2 => (oth2 s hs c1 c2).2) ak1 am1
        unfold mPA mSp2
        generalize mJb (upd (upd h (16 + k) (h (16 + k) + 1)) (16 + m) (h (16 + k) + 1)) (h (16 + k)) k m = h2 at *
        have v1 := S2.2.2.2.2.1 k (by omega)
        rw [ak1, if_pos rfl] at v1
        have v2 := S2.2.2.2.2.1 m (by omega)
        rw [am1, if_pos rfl] at v2
        rw [v1, v2, decide_eq_true c1]
        have sk := hC.sp h8
        have sm := hC.sps h8
        by_cases cs : hA g k + hA g m < 10
        · rw [decide_eq_true cs] at sk
          rw [sk] at sm
          rw [if_pos cs, sk, if_neg (by decide), Int32.add_zero]
          refine st_cg S2 (fun s hs => rfl) (fun s hs => ?_)
          by_cases d1 : s = k
          · rw [d1, ek]; unfold clE; rw [sk]; rfl
          by_cases d2 : s = m
          · rw [d2, em]; unfold clE; rw [sm]; rfl
          exact (oth2 s hs d1 d2).1
        · rw [decide_eq_false cs] at sk
          rw [sk] at sm
          rw [if_neg cs, sk, if_pos (show (!false && true) = true from rfl), ← Int32.add_assoc]
          exact st_part h8 hC S2 ek em (fun s hs d1 d2 => (oth2 s hs d1 d2).1) (by unfold clE; rw [sk, lk, decide_eq_true (show k < k + 1 by omega)]; rfl) (by unfold clE; rw [sm, lm, decide_eq_true (show k < k + 1 by omega)]; rfl)
      · refine same (fun s hs hn e => c1 (ldN_k hP h8 hs hn e).1) (by rw [decide_eq_false c1, Bool.and_false]) ?_
        have z0 : g (8 + k) = 0 := hC.2.2.2.2.2.1.elim (fun z => absurd z.1 c1) (fun z => z.1)
        have hk8 : h (8 + k) = 0 := by
          rw [ih.2.1 k (by omega), z0]
          split <;> rfl
        rw [hk8]
        unfold roC
        split
        · decide
        · rw [if_neg (by decide)]; decide
end YLP
