/-! Pure: one pass over the couples = two passes over the streets -/
def mtN (g : Nat → Int32) (s : Nat) : Nat := (g s).toNatClampNeg
def hA (g : Nat → Int32) (s : Nat) : Int32 := if g s = -1 then g (32 + s) else if g (16 + s) + 1 - (g (16 + s) + 1) / 25 * 25 = 0 then 0 else g (32 + s)
def spB (g : Nat → Int32) (s : Nat) : Bool := !decide (g s = -1) && !decide (hA g s + hA g (mtN g s) < 10)
def TrB (g : Nat → Int32) (s : Nat) : Int32 := if g (8 + s) = 1 then g (24 + s) + g (24 + mtN g s) - (g (24 + s) + g (24 + mtN g s)) / 2 else (g (24 + s) + g (24 + mtN g s)) / 2
/-- aged: A; parted: E -/
def StD (g : Nat → Int32) (A E : Nat → Bool) (c : Int32) (h : Nat → Int32) : Prop :=
  (∀ s, s < 8 → h s = if E s = true then -1 else g s) ∧ (∀ s, s < 8 → h (8 + s) = if E s = true then 0 else g (8 + s)) ∧ (∀ s, s < 8 → h (16 + s) = if E s = true then 0 else if A s = true then g (16 + s) + 1 else g (16 + s)) ∧
  (∀ s, s < 8 → h (24 + s) = if E s = true then TrB g s else g (24 + s)) ∧ (∀ s, s < 8 → h (32 + s) = if A s = true then hA g s else g (32 + s)) ∧ h 40 = g 40 ∧ h 41 = c
section YST
variable {ns s t k m : Nat} {f g h : Nat → Int32} {x y c : Int32} {A E A' E' : Nat → Bool}
theorem st_cg (hS : StD g A E c h) (hA' : ∀ s, s < 8 → A' s = A s) (hE' : ∀ s, s < 8 → E' s = E s) : StD g A' E' c h := by
  obtain ⟨h1, h2, h3, h4, h5, h6, h7⟩ := hS
  exact ⟨fun s hs => by rw [hE' s hs]; exact h1 s hs, fun s hs => by rw [hE' s hs]; exact h2 s hs, fun s hs => by rw [hE' s hs, hA' s hs]; exact h3 s hs, fun s hs => by rw [hE' s hs]; exact h4 s hs, fun s hs => by rw [hA' s hs]; exact h5 s hs, h6, h7⟩
/-- a couple, as the row says it -/
def Cp (ns : Nat) (g : Nat → Int32) (k m : Nat) : Prop := k < ns ∧ m < ns ∧ k ≠ m ∧ g k = nI m ∧ g m = nI k ∧ (g (8 + k) = 1 ∧ g (8 + m) = 0 ∨ g (8 + k) = 0 ∧ g (8 + m) = 1) ∧ g (16 + k) = g (16 + m)
theorem Pr.cp (hP : Pr ns g) (hk : k < ns) (h0 : ¬ g k = -1) : ∃ m, Cp ns g k m := by
  rcases hP.1 k hk with z | ⟨m, hm, hne, q1, q2⟩
  · exact absurd z h0
  · have := hP.2.2.1 k m hk hm q1
    exact ⟨m, hk, hm, fun z => hne z.symm, q1, q2, this.1, this.2⟩
theorem st_part (h8 : ns ≤ 8) (hC : Cp ns g k m) (hS : StD g A E c h) (ek : E k = false) (em : E m = false) (hE1 : ∀ s, s < 8 → s ≠ k → s ≠ m → E' s = E s) (hEk : E' k = true) (hEm : E' m = true) : StD g A E' (c + 1) (mPart h k m) := by
  obtain ⟨hk, hm, hne, q1, q2, q3, q4⟩ := hC
  obtain ⟨h1, h2, h3, h4, h5, h6, h7⟩ := hS
  have t1 : mtN g k = m := by unfold mtN; rw [q1, nI_clamp (by omega)]
  have t2 : mtN g m = k := by unfold mtN; rw [q2, nI_clamp (by omega)]
  have k8 := h2 k (by omega)
  rw [if_neg (by rw [ek]; decide)] at k8
  have k24 := h4 k (by omega)
  rw [if_neg (by rw [ek]; decide)] at k24
  have m24 := h4 m (by omega)
  rw [if_neg (by rw [em]; decide)] at m24
  have m8 := h2 m (by omega)
  rw [if_neg (by rw [em]; decide)] at m8
  have ok : ∀ {P : Prop} {d : Decidable P} {a b : Int32}, P → @ite _ P d a b = a := fun h => if_pos h
  unfold mPart
  rw [k8]
  have fin : ∀ she he, (she = k ∧ he = m ∨ she = m ∧ he = k) → g (8 + she) = 1 → g (8 + he) = 0 → StD g A E' (c + 1) (mPart3 h k m she he) := by
    intro she he ho g1 g0
    have T1 : TrB g she = g (24 + k) + g (24 + m) - (g (24 + k) + g (24 + m)) / 2 := by
      unfold TrB
      rw [if_pos g1]
      rcases ho with ⟨rfl, rfl⟩ | ⟨rfl, rfl⟩
      · rw [t1]
      · rw [t2, Int32.add_comm (g (24 + she))]
    have T2 : TrB g he = (g (24 + k) + g (24 + m)) / 2 := by
      unfold TrB
      rw [if_neg (by rw [g0]; decide)]
      rcases ho with ⟨rfl, rfl⟩ | ⟨rfl, rfl⟩
      · rw [t2, Int32.add_comm (g (24 + he))]
      · rw [t1]
    have E8 : ∀ s, s = she ∨ s = he → E' s = true := by
      intro s hs
      rcases ho with ⟨rfl, rfl⟩ | ⟨rfl, rfl⟩ <;> rcases hs with rfl | rfl <;> assumption
    have he8 : h (8 + he) = 0 := by rcases ho with ⟨rfl, rfl⟩ | ⟨rfl, rfl⟩ <;> simp only [m8, k8, g0]
    have hsh : she < 8 := by omega
    have hhe : he < 8 := by omega
    have hne2 : she ≠ he := by omega
    unfold mPart3
    rw [k24, m24]
    generalize g (24 + k) + g (24 + m) = T at *
    refine ⟨fun s hs => ?_, fun s hs => ?_, fun s hs => ?_, fun s hs => ?_, fun s hs => ?_, ?_, ?_⟩
    · by_cases c1 : s = k
      · subst c1; rw [if_pos hEk]; simp (disch := omega) only [upd_eq, upd_ne]
      by_cases c2 : s = m
      · subst c2; rw [if_pos hEm]; simp (disch := omega) only [upd_eq, upd_ne]
      rw [hE1 s hs c1 c2, ← h1 s hs]; simp (disch := omega) only [upd_ne]
    · by_cases c1 : s = she
      · subst c1; rw [if_pos (E8 _ (Or.inl rfl))]; simp (disch := omega) only [upd_eq, upd_ne]
      by_cases c2 : s = he
      · subst c2; rw [if_pos (E8 _ (Or.inr rfl))]; simp (disch := omega) only [upd_ne]; exact he8
      rw [hE1 s hs (by omega) (by omega), ← h2 s hs]; simp (disch := omega) only [upd_ne]
    · by_cases c1 : s = k
      · subst c1; rw [if_pos hEk]; simp (disch := omega) only [upd_eq, upd_ne]
      by_cases c2 : s = m
      · subst c2; rw [if_pos hEm]; simp (disch := omega) only [upd_eq, upd_ne]
      rw [hE1 s hs c1 c2, ← h3 s hs]; simp (disch := omega) only [upd_ne]
    · by_cases c1 : s = she
      · subst c1; rw [if_pos (E8 _ (Or.inl rfl)), T1]; simp (disch := omega) only [upd_eq, upd_ne]
      by_cases c2 : s = he
      · subst c2; rw [if_pos (E8 _ (Or.inr rfl)), T2]; simp (disch := omega) only [upd_eq, upd_ne]
      rw [hE1 s hs (by omega) (by omega), ← h4 s hs]; simp (disch := omega) only [upd_ne]
    · rw [← h5 s hs]; simp (disch := omega) only [upd_ne]
    · rw [← h6]; simp (disch := omega) only [upd_ne]
    · rw [← h7]; simp (disch := omega) only [upd_eq, upd_ne]
  by_cases cc : g (8 + k) = 1
  · rw [if_pos cc]
    exact fin k m (Or.inl ⟨rfl, rfl⟩) cc (q3.elim (fun z => z.2) (fun z => by rw [z.1] at cc; exact absurd cc (by decide)))
  · rw [if_neg cc]
    exact fin m k (Or.inr ⟨rfl, rfl⟩) (q3.elim (fun z => absurd z.1 cc) (fun z => z.2)) (q3.elim (fun z => absurd z.1 cc) (fun z => z.1))
/-- one street ages -/
theorem st_age1 (hk : k < 8) (h0 : ¬ g k = -1) (hS : StD g A E c h) (ek : E k = false) (ak : A k = false) (hA1 : ∀ s, s < 8 → s ≠ k → A' s = A s) (hAk : A' k = true) : StD g A' E c (mAge k h) := by
  obtain ⟨h1, h2, h3, h4, h5, h6, h7⟩ := hS
  have e0 := h1 k hk
  rw [if_neg (by rw [ek]; decide)] at e0
  have e16 := h3 k hk
  rw [if_neg (by rw [ek]; decide), if_neg (by rw [ak]; decide)] at e16
  have e32 := h5 k hk
  rw [if_neg (by rw [ak]; decide)] at e32
  have hh : hA g k = if g (16 + k) + 1 - (g (16 + k) + 1) / 25 * 25 = 0 then 0 else g (32 + k) := by unfold hA; rw [if_neg h0]
  unfold mAge
  rw [e0, if_neg h0, e16]
  by_cases cj : g (16 + k) + 1 - (g (16 + k) + 1) / 25 * 25 = 0
  · rw [if_pos cj] at hh ⊢
    refine ⟨fun s hs => ?_, fun s hs => ?_, fun s hs => ?_, fun s hs => ?_, fun s hs => ?_, ?_, ?_⟩
    · rw [← h1 s hs]; simp (disch := omega) only [upd_ne]
    · rw [← h2 s hs]; simp (disch := omega) only [upd_ne]
    · by_cases c1 : s = k
      · subst c1; rw [if_neg (by rw [ek]; decide), if_pos hAk]; simp (disch := omega) only [upd_eq, upd_ne]
      rw [hA1 s hs c1, ← h3 s hs]; simp (disch := omega) only [upd_ne]
    · rw [← h4 s hs]; simp (disch := omega) only [upd_ne]
    · by_cases c1 : s = k
      · subst c1; rw [if_pos hAk, hh]; simp (disch := omega) only [upd_eq]
      rw [hA1 s hs c1, ← h5 s hs]; simp (disch := omega) only [upd_ne]
    · rw [← h6]; simp (disch := omega) only [upd_ne]
    · rw [← h7]; simp (disch := omega) only [upd_ne]
  · rw [if_neg cj] at hh ⊢
    refine ⟨fun s hs => ?_, fun s hs => ?_, fun s hs => ?_, fun s hs => ?_, fun s hs => ?_, ?_, ?_⟩
    · rw [← h1 s hs]; simp (disch := omega) only [upd_ne]
    · rw [← h2 s hs]; simp (disch := omega) only [upd_ne]
    · by_cases c1 : s = k
      · subst c1; rw [if_neg (by rw [ek]; decide), if_pos hAk]; simp (disch := omega) only [upd_eq]
      rw [hA1 s hs c1, ← h3 s hs]; simp (disch := omega) only [upd_ne]
    · rw [← h4 s hs]; simp (disch := omega) only [upd_ne]
    · by_cases c1 : s = k
      · subst c1; rw [if_pos hAk, hh, ← e32]; simp (disch := omega) only [upd_ne]
      rw [hA1 s hs c1, ← h5 s hs]; simp (disch := omega) only [upd_ne]
    · rw [← h6]; simp (disch := omega) only [upd_ne]
    · rw [← h7]; simp (disch := omega) only [upd_ne]
end YST
