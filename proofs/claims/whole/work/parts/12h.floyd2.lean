/-! Pure: the reference's ways, from the streets on -/
/-- the streets as both have them -/
def Gr (a : IA) (nc ns : Nat) (U V L : Nat → Nat) : Prop := nc ≤ 10 ∧ ns ≤ 8 ∧ ∀ s, s < ns → U s < nc ∧ V s < nc ∧ U s ≠ V s ∧ a (96 + 1 + s) 0 = nI (U s) ∧ a (96 + 1 + s) 1 = nI (V s) ∧ mLen a s = nI (L s) ∧ L s ≤ 120
def inA (nc : Nat) : Nat → Bool := fun v => decide (v < nc)
section FL2
variable {a : IA} {U V L : Nat → Nat} {nc ns c : Nat} {but : Int32} {F : Mat} {k p q s : Nat}
theorem Gr.st (h : Gr a nc ns U V L) (hs : s < ns) : U s < 10 ∧ V s < 10 := by
  have := h.1
  have := h.2.2 s hs
  omega
theorem FI.step (h : Gr a nc ns U V L) (hs : s < ns) (hF : FI U V L ns (fun s => ¬ nI s = but) (inA nc) s F) : FI U V L ns (fun s => ¬ nI s = but) (inA nc) (s + 1) (fE a but s F) := by
  obtain ⟨f1, f2, f3, f4⟩ := hF
  obtain ⟨hu, hv, hne, eu, ev, el, hl⟩ := h.2.2 s hs
  have hc := h.1
  have h8 := h.2.1
  unfold fE
  rw [eu, ev, el, nI_clamp (by omega), nI_clamp (by omega)]
  show FI U V L ns _ _ (s + 1) (if nI s = but ∨ (¬ F (U s) (V s) = -1 ∧ ¬ nI (L s) < F (U s) (V s)) then F else up2 (up2 F (U s) (V s) (nI (L s))) (V s) (U s) (nI (L s)))
  by_cases cb : nI s = but
  · rw [if_pos (Or.inl cb)]
    refine ⟨f1, f2, f3, fun t ht ho => ?_⟩
    by_cases e : t = s
    · subst e; exact absurd cb ho
    · exact f4 t (by omega) ho
  by_cases cc : ¬ F (U s) (V s) = -1 ∧ ¬ nI (L s) < F (U s) (V s)
  · rw [if_pos (Or.inr cc)]
    refine ⟨f1, f2, f3, fun t ht ho => ?_⟩
    by_cases e : t = s
    · subst e
      obtain ⟨m, b, e, _⟩ := (f3 _ _ (by omega) (by omega)).resolve_left cc.1
      have := cc.2
      rw [e] at this
      exact ⟨m, by
        by_cases z : m ≤ L t
        · exact z
        · exact absurd (nI_lt (show L t < m by omega) (by omega)) this, by omega, e⟩
    · exact f4 t (by omega) ho
  · rw [if_neg (fun z => z.elim cb cc)]
    have at' : ∀ p q, up2 (up2 F (U s) (V s) (nI (L s))) (V s) (U s) (nI (L s)) p q = if (p = V s ∧ q = U s) ∨ (p = U s ∧ q = V s) then nI (L s) else F p q := by
      intro p q
      rw [up2_at, up2_at]
      by_cases z1 : p = V s ∧ q = U s
      · rw [if_pos z1, if_pos (Or.inl z1)]
      · rw [if_neg z1]
        by_cases z2 : p = U s ∧ q = V s
        · rw [if_pos z2, if_pos (Or.inr z2)]
        · rw [if_neg z2, if_neg (fun z => z.elim z1 z2)]
    refine ⟨fun p hp => ?_, fun p q hp hq => ?_, fun p q hp hq => ?_, fun t ht ho => ?_⟩
    · rw [at', if_neg (by omega)]; exact f1 p hp
    · rw [at', at', f2 p q hp hq]
      by_cases z : (p = V s ∧ q = U s) ∨ (p = U s ∧ q = V s)
      · rw [if_pos z, if_pos (by omega)]
      · rw [if_neg z, if_neg (by omega)]
    · rw [at']
      by_cases z : (p = V s ∧ q = U s) ∨ (p = U s ∧ q = V s)
      · rw [if_pos z]
        refine Or.inr ⟨L s, hl, rfl, fun _ => ⟨1, Wk.one ?_ ?_ hs cb ?_⟩⟩
        · exact decide_eq_true (by omega)
        · exact decide_eq_true (by omega)
        · rcases z with z | z
          · exact Or.inr ⟨z.1.symm, z.2.symm⟩
          · exact Or.inl ⟨z.1.symm, z.2.symm⟩
      · rw [if_neg z]; exact f3 p q hp hq
    · by_cases e : t = s
      · subst e
        exact ⟨L t, Nat.le_refl _, by omega, by rw [at', if_pos (Or.inr ⟨rfl, rfl⟩)]⟩
      · obtain ⟨m, m1, m2, m3⟩ := f4 t (by omega) ho
        show ∃ m, m ≤ L t ∧ m < 2 ^ 28 ∧ up2 (up2 F (U s) (V s) (nI (L s))) (V s) (U s) (nI (L s)) (U t) (V t) = nI m
        rw [at']
        by_cases z : (U t = V s ∧ V t = U s) ∨ (U t = U s ∧ V t = V s)
        · rw [if_pos z]
          have e2 : F (U s) (V s) = nI m := by
            rcases z with z | z
            · rw [f2 (U s) (V s) (by omega) (by omega), ← z.1, ← z.2]; exact m3
            · rw [← z.1, ← z.2]; exact m3
          have lt : nI (L s) < nI m := by
            by_cases y : nI (L s) < nI m
            · exact y
            · exact absurd ⟨by rw [e2]; exact nI_n1 (by omega), by rw [e2]; exact y⟩ cc
          have := (nI_ltI (by omega) (by omega)).mp lt
          exact ⟨L s, by omega, by omega, rfl⟩
        · rw [if_neg z]; exact ⟨m, m1, m2, m3⟩
theorem FI.all (h : Gr a nc ns U V L) : FI U V L ns (fun s => ¬ nI s = but) (inA nc) ns (lpM (fE a but) ns 0 far0) := by
  have : ∀ c, c ≤ ns → FI U V L ns (fun s => ¬ nI s = but) (inA nc) c (lpM (fE a but) c 0 far0) := by
    intro c
    induction c with
    | zero =>
      intro _
      refine ⟨fun p _ => if_pos rfl, fun p q _ _ => ?_, fun p q _ _ => ?_, fun s hs => absurd hs (by omega)⟩
      · show (if p = q then (0 : Int32) else -1) = if q = p then 0 else -1
        by_cases e : p = q
        · rw [if_pos e, if_pos e.symm]
        · rw [if_neg e, if_neg (fun z => e z.symm)]
      · show (if p = q then (0 : Int32) else -1) = -1 ∨ ∃ m, m ≤ 120 ∧ (if p = q then (0 : Int32) else -1) = nI m ∧ _
        by_cases e : p = q
        · rw [if_pos e]; exact Or.inr ⟨0, by omega, rfl, fun z => absurd e z⟩
        · rw [if_neg e]; exact Or.inl rfl
    | succ c ih =>
      intro hc
      rw [lpM_snoc, Nat.zero_add]
      exact FI.step h (by omega) (ih (by omega))
  exact this ns (Nat.le_refl _)
/-- the reference's ways are the shortest -/
theorem way_D (h : Gr a nc ns U V L) (hp : p < nc) (hq : q < nc) : Ds U V L ns (fun s => ¬ nI s = but) (inA nc) p q (wayF a ns but p q) := by
  have hc := h.1
  have h8 := h.2.1
  have hUV : ∀ s, s < ns → U s < 10 ∧ V s < 10 := fun s hs => h.st hs
  have g : ∀ k, k ≤ 10 → GI U V L ns (fun s => ¬ nI s = but) (inA nc) k (lpM (fun k F => lpM (fun p F => lpM (fB k p) 10 0 F) 10 0 F) k 0 (lpM (fE a but) ns 0 far0)) := by
    intro k
    induction k with
    | zero =>
      intro _
      obtain ⟨f1, f2, f3, f4⟩ := FI.all (but := but) h
      rw [lpM]
      refine ⟨f1, fun p q hp hq => (f3 p q hp hq).imp id (fun ⟨m, z1, z2, z3⟩ => ⟨m, by omega, z2, z3⟩), fun j p q l l' hj => absurd hj (by omega), fun s hs ho => ⟨f4 s hs ho, ?_⟩⟩
      obtain ⟨m, m1, m2, m3⟩ := f4 s hs ho
      exact ⟨m, m1, m2, by rw [f2 _ _ (hUV s hs).2 (hUV s hs).1]; exact m3⟩
    | succ k ih =>
      intro hk
      rw [lpM_snoc, Nat.zero_add]
      exact GI.step (by omega) (ih (by omega)) hUV
  obtain ⟨g1, g2, g3, g4⟩ := g 10 (Nat.le_refl _)
  have e : wayF a ns but = lpM (fun k F => lpM (fun p F => lpM (fB k p) 10 0 F) 10 0 F) 10 0 (lpM (fE a but) ns 0 far0) := rfl
  rw [← e] at g1 g2 g3 g4
  have in10 : ∀ v, inA nc v = true → v < 10 := fun v hv => by have := of_decide_eq_true hv; omega
  have all : ∀ k p q l, Wk U V L ns (fun s => ¬ nI s = but) (inA nc) k p q l → Lq (wayF a ns but) p q l := by
    intro k
    induction k with
    | zero =>
      intro p q l ⟨hA, e1, e2⟩
      subst e1; subst e2
      exact ⟨0, Nat.le_refl _, by decide, g1 p (in10 p hA)⟩
    | succ k ih =>
      intro p q l ⟨hA, s, r, l', hs, ho, hst, e, hw⟩
      subst e
      have i1 := ih r q l' hw
      have i2 : Lq (wayF a ns but) p r (L s) := by
        rcases hst with z | z
        · rw [← z.1, ← z.2]; exact (g4 s hs ho).1
        · rw [← z.1, ← z.2]; exact (g4 s hs ho).2
      exact g3 r p q _ _ (in10 r hw.start) (in10 p hA) (in10 q hw.fin) i2 i1
  rcases g2 p q (by omega) (by omega) with e1 | ⟨m, b, e1, w⟩
  · refine Or.inl ⟨e1, fun l ⟨k, hw⟩ => ?_⟩
    obtain ⟨m, m1, m2, m3⟩ := all k p q l hw
    rw [e1] at m3
    exact nI_n1 (by omega) m3.symm
  · have h1024 : (2 : Nat) ^ 10 = 1024 := by decide
    refine Or.inr ⟨m, e1, by omega, ?_, fun l ⟨k, hw⟩ => ?_⟩
    · by_cases z : p = q
      · subst z
        rw [g1 p (by omega)] at e1
        have : m = 0 := ((nI_eq (a := 0) (b := m) (by decide) (by omega)).mp e1).symm
        rw [this]
        exact Wy.refl (decide_eq_true hp)
      · exact w z
    · obtain ⟨m', m1, m2, m3⟩ := all k p q l hw
      rw [e1] at m3
      have := (nI_eq (by omega) (by omega)).mp m3
      omega
end FL2
