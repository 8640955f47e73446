/-! Pure: the reference's ways are the shortest -/
/-- no more than l -/
def Lq (F : Mat) (p q l : Nat) : Prop := ∃ m, m ≤ l ∧ m < 2 ^ 28 ∧ F p q = nI m
def hM (x y z : Int32) : Int32 := if y = -1 ∨ z = -1 then x else if x = -1 then y + z else if y + z ≤ x then y + z else x
theorem Lq.mono {F : Mat} {p q l l' : Nat} (h : Lq F p q l) (hl : l ≤ l') : Lq F p q l' := by
  obtain ⟨m, h1, h2, h3⟩ := h
  exact ⟨m, by omega, h2, h3⟩
/-- what holds of the ways while they are laid -/
def FI (U V L : Nat → Nat) (ns : Nat) (ok : Nat → Prop) (A : Nat → Bool) (c : Nat) (F : Mat) : Prop :=
  (∀ p, p < 10 → F p p = 0) ∧ (∀ p q, p < 10 → q < 10 → F p q = F q p) ∧ (∀ p q, p < 10 → q < 10 → F p q = -1 ∨ ∃ m, m ≤ 120 ∧ F p q = nI m ∧ (p ≠ q → Wy U V L ns ok A p q m)) ∧
  ∀ s, s < c → ok s → Lq F (U s) (V s) (L s)
section FLY
variable {U V L : Nat → Nat} {ns c : Nat} {ok : Nat → Prop} {A : Nat → Bool} {F : Mat} {k p q : Nat}
theorem up2_at {i j : Nat} {v : Int32} : up2 F i j v p q = if p = i ∧ q = j then v else F p q := rfl
theorem up2_same {i j : Nat} : up2 F i j (F i j) = F := by
  funext p q
  rw [up2_at]
  split
  · next h => rw [h.1, h.2]
  · rfl
theorem fB_h : fB k p q F = up2 F p q (hM (F p q) (F p k) (F k q)) := by
  unfold fB hM
  split
  · rw [up2_same]
  · rfl
theorem hM_0r {x y : Int32} (h : x = -1 ∨ ∃ m, m < 2 ^ 28 ∧ x = nI m) : hM x x 0 = x := by
  unfold hM
  rcases h with h | ⟨m, hm, h⟩
  · rw [if_pos (Or.inl h)]
  · have h1 : ¬ x = -1 := by rw [h]; exact nI_n1 (by omega)
    rw [if_neg (fun z => z.elim h1 (by decide)), if_neg h1, Int32.add_zero, if_pos (Int32.le_refl _)]
theorem hM_0l {x y : Int32} (h : x = -1 ∨ ∃ m, m < 2 ^ 28 ∧ x = nI m) : hM x 0 x = x := by
  unfold hM
  rcases h with h | ⟨m, hm, h⟩
  · rw [if_pos (Or.inr h)]
  · have h1 : ¬ x = -1 := by rw [h]; exact nI_n1 (by omega)
    rw [if_neg (fun z => z.elim (by decide) h1), if_neg h1, Int32.zero_add, if_pos (Int32.le_refl _)]
/-- one corner more that ways may go through -/
theorem fB_all (hk : k < 10) (h0 : F k k = 0) (hb : ∀ p q, p < 10 → q < 10 → F p q = -1 ∨ ∃ m, m < 2 ^ 28 ∧ F p q = nI m) :
    lpM (fun p F => lpM (fB k p) 10 0 F) 10 0 F = fun i j => if i < 10 ∧ j < 10 then hM (F i j) (F i k) (F k j) else F i j := by
  let S : Nat → Nat → Mat := fun p c i j => if (i < p ∧ j < 10) ∨ (i = p ∧ j < c) then hM (F i j) (F i k) (F k j) else F i j
  have inner : ∀ p, p < 10 → ∀ c, c ≤ 10 → lpM (fB k p) c 0 (S p 0) = S p c := by
    intro p hp c
    induction c with
    | zero => intro _; rfl
    | succ c ih =>
      intro hc
      rw [lpM_snoc, ih (by omega), Nat.zero_add, fB_h]
      have e1 : S p c p c = F p c := if_neg (by omega)
      have e2 : S p c p k = F p k := by
        show (if (p < p ∧ k < 10) ∨ (p = p ∧ k < c) then hM (F p k) (F p k) (F k k) else F p k) = F p k
        split
        · rw [h0, hM_0r (y := 0) (hb p k hp hk)]
        · rfl
      have e3 : S p c k c = F k c := by
        show (if (k < p ∧ c < 10) ∨ (k = p ∧ c < c) then hM (F k c) (F k k) (F k c) else F k c) = F k c
        split
        · rw [h0, hM_0l (y := 0) (hb k c hk (by omega))]
        · rfl
      rw [e1, e2, e3]
      funext i j
      rw [up2_at]
      by_cases z : i = p ∧ j = c
      · rw [if_pos z, z.1, z.2]
        exact (if_pos (Or.inr ⟨rfl, by omega⟩)).symm
      · rw [if_neg z]
        show (if (i < p ∧ j < 10) ∨ (i = p ∧ j < c) then _ else _) = if (i < p ∧ j < 10) ∨ (i = p ∧ j < c + 1) then _ else _
        by_cases y : (i < p ∧ j < 10) ∨ (i = p ∧ j < c)
        · rw [if_pos y, if_pos (by omega)]
        · rw [if_neg y, if_neg (by omega)]
  have outer : ∀ c, c ≤ 10 → lpM (fun p F => lpM (fB k p) 10 0 F) c 0 F = S c 0 := by
    intro c
    induction c with
    | zero =>
      intro _
      funext i j
      exact (if_neg (by omega)).symm
    | succ c ih =>
      intro hc
      rw [lpM_snoc, ih (by omega), Nat.zero_add]
      show lpM (fB k c) 10 0 (S c 0) = S (c + 1) 0
      rw [inner c (by omega) 10 (Nat.le_refl _)]
      funext i j
      show (if (i < c ∧ j < 10) ∨ (i = c ∧ j < 10) then _ else _) = if (i < c + 1 ∧ j < 10) ∨ (i = c + 1 ∧ j < 0) then _ else _
      by_cases y : (i < c ∧ j < 10) ∨ (i = c ∧ j < 10)
      · rw [if_pos y, if_pos (by omega)]
      · rw [if_neg y, if_neg (by omega)]
  rw [outer 10 (Nat.le_refl _)]
  funext i j
  show (if (i < 10 ∧ j < 10) ∨ (i = 10 ∧ j < 0) then _ else _) = _
  by_cases y : i < 10 ∧ j < 10
  · rw [if_pos y, if_pos (Or.inl y)]
  · rw [if_neg y, if_neg (by omega)]
/-- what holds of the ways through the first k corners -/
def GI (U V L : Nat → Nat) (ns : Nat) (ok : Nat → Prop) (A : Nat → Bool) (k : Nat) (F : Mat) : Prop :=
  (∀ p, p < 10 → F p p = 0) ∧ (∀ p q, p < 10 → q < 10 → F p q = -1 ∨ ∃ m, m ≤ 120 * 2 ^ k ∧ F p q = nI m ∧ (p ≠ q → Wy U V L ns ok A p q m)) ∧
  (∀ j p q l l', j < k → p < 10 → q < 10 → Lq F p j l → Lq F j q l' → Lq F p q (l + l')) ∧
  ∀ s, s < ns → ok s → Lq F (U s) (V s) (L s) ∧ Lq F (V s) (U s) (L s)
theorem GI.step (hk : k < 10) (h : GI U V L ns ok A k F) (hUV : ∀ s, s < ns → U s < 10 ∧ V s < 10) : GI U V L ns ok A (k + 1) (lpM (fun p F => lpM (fB k p) 10 0 F) 10 0 F) := by
  obtain ⟨g1, g2, g3, g4⟩ := h
  have hp2 : 2 ^ k ≤ 2 ^ 9 := Nat.pow_le_pow_right (by decide) (by omega)
  have h512 : (2 : Nat) ^ 9 = 512 := by decide
  have hps : 2 ^ (k + 1) = 2 ^ k + 2 ^ k := by rw [Nat.pow_succ]; omega
  have hb : ∀ p q, p < 10 → q < 10 → F p q = -1 ∨ ∃ m, m < 2 ^ 28 ∧ F p q = nI m := fun p q hp hq => (g2 p q hp hq).imp id (fun ⟨m, h1, h2, _⟩ => ⟨m, by omega, h2⟩)
  rw [fB_all hk (g1 k hk) hb]
  -- no more than before
  have dn : ∀ p q l, p < 10 → q < 10 → Lq F p q l → Lq (fun i j => if i < 10 ∧ j < 10 then hM (F i j) (F i k) (F k j) else F i j) p q l := by
    intro p q l hp hq ⟨m, h1, h2, h3⟩
    show ∃ m, m ≤ l ∧ m < 2 ^ 28 ∧ (if p < 10 ∧ q < 10 then hM (F p q) (F p k) (F k q) else F p q) = nI m
    rw [if_pos ⟨hp, hq⟩]
    unfold hM
    by_cases c1 : F p k = -1 ∨ F k q = -1
    · rw [if_pos c1]; exact ⟨m, h1, h2, h3⟩
    rw [if_neg c1]
    obtain ⟨m1, _, e1, _⟩ := (g2 p k hp hk).resolve_left (fun z => c1 (Or.inl z))
    obtain ⟨m2, _, e2, _⟩ := (g2 k q hk hq).resolve_left (fun z => c1 (Or.inr z))
    rw [if_neg (by rw [h3]; exact nI_n1 (by omega)), e1, e2, h3, nI_add]
    by_cases c2 : m1 + m2 ≤ m
    · rw [if_pos (nI_le c2 (by omega))]; exact ⟨m1 + m2, by omega, by omega, rfl⟩
    · rw [if_neg (fun z => c2 ((nI_leI (by omega) (by omega)).mp z))]; exact ⟨m, h1, h2, rfl⟩
  have via : ∀ p q l l', p < 10 → q < 10 → Lq F p k l → Lq F k q l' → Lq (fun i j => if i < 10 ∧ j < 10 then hM (F i j) (F i k) (F k j) else F i j) p q (l + l') := by
    intro p q l l' hp hq ⟨m1, h1, h2, e1⟩ ⟨m2, h1', h2', e2⟩
    show ∃ m, m ≤ l + l' ∧ m < 2 ^ 28 ∧ (if p < 10 ∧ q < 10 then hM (F p q) (F p k) (F k q) else F p q) = nI m
    rw [if_pos ⟨hp, hq⟩]
    unfold hM
    have b1 : m1 ≤ 120 * 2 ^ k := by
      rcases g2 p k hp hk with z | ⟨m, z1, z2, _⟩
      · rw [e1] at z; exact absurd z (nI_n1 (by omega))
      · rw [e1] at z2; have := (nI_eq (by omega) (by omega)).mp z2; omega
    have b2 : m2 ≤ 120 * 2 ^ k := by
      rcases g2 k q hk hq with z | ⟨m, z1, z2, _⟩
      · rw [e2] at z; exact absurd z (nI_n1 (by omega))
      · rw [e2] at z2; have := (nI_eq (by omega) (by omega)).mp z2; omega
    rw [e1, e2, if_neg (fun z => z.elim (nI_n1 (by omega)) (nI_n1 (by omega))), nI_add]
    by_cases c0 : F p q = -1
    · rw [if_pos c0]; exact ⟨m1 + m2, by omega, by omega, rfl⟩
    rw [if_neg c0]
    obtain ⟨m, hm, e, _⟩ := (g2 p q hp hq).resolve_left c0
    rw [e]
    by_cases c2 : m1 + m2 ≤ m
    · rw [if_pos (nI_le c2 (by omega))]; exact ⟨m1 + m2, by omega, by omega, rfl⟩
    · rw [if_neg (fun z => c2 ((nI_leI (by omega) (by omega)).mp z))]; exact ⟨m, by omega, by omega, rfl⟩
  have back : ∀ p q l, p < 10 → q < 10 → Lq (fun i j => if i < 10 ∧ j < 10 then hM (F i j) (F i k) (F k j) else F i j) p q l → Lq F p q l ∨ ∃ l1 l2, l1 + l2 ≤ l ∧ Lq F p k l1 ∧ Lq F k q l2 := by
    intro p q l hp hq ⟨m, h1, h2, h3⟩
    have h3 : (if p < 10 ∧ q < 10 then hM (F p q) (F p k) (F k q) else F p q) = nI m := h3
    rw [if_pos ⟨hp, hq⟩] at h3
    unfold hM at h3
    by_cases c1 : F p k = -1 ∨ F k q = -1
    · rw [if_pos c1] at h3; exact Or.inl ⟨m, h1, h2, h3⟩
    rw [if_neg c1] at h3
    obtain ⟨m1, b1, e1, _⟩ := (g2 p k hp hk).resolve_left (fun z => c1 (Or.inl z))
    obtain ⟨m2, b2, e2, _⟩ := (g2 k q hk hq).resolve_left (fun z => c1 (Or.inr z))
    rw [e1, e2, nI_add] at h3
    have two : nI (m1 + m2) = nI m → Lq F p q l ∨ ∃ l1 l2, l1 + l2 ≤ l ∧ Lq F p k l1 ∧ Lq F k q l2 := fun z => by
      have := (nI_eq (by omega) (by omega)).mp z
      exact Or.inr ⟨m1, m2, by omega, ⟨m1, Nat.le_refl _, by omega, e1⟩, m2, Nat.le_refl _, by omega, e2⟩
    by_cases c0 : F p q = -1
    · rw [if_pos c0] at h3; exact two h3
    rw [if_neg c0] at h3
    by_cases c2 : nI (m1 + m2) ≤ F p q
    · rw [if_pos c2] at h3; exact two h3
    · rw [if_neg c2] at h3; exact Or.inl ⟨m, h1, h2, h3⟩
  refine ⟨fun p hp => ?_, fun p q hp hq => ?_, fun j p q l l' hj hp hq hA hB => ?_, fun s hs ho => ?_⟩
  · show (if p < 10 ∧ p < 10 then hM (F p p) (F p k) (F k p) else F p p) = 0
    rw [if_pos ⟨hp, hp⟩, g1 p hp]
    unfold hM
    by_cases c1 : F p k = -1 ∨ F k p = -1
    · rw [if_pos c1]
    rw [if_neg c1, if_neg (by decide)]
    obtain ⟨m1, b1, e1, _⟩ := (g2 p k hp hk).resolve_left (fun z => c1 (Or.inl z))
    obtain ⟨m2, b2, e2, _⟩ := (g2 k p hk hp).resolve_left (fun z => c1 (Or.inr z))
    rw [e1, e2, nI_add]
    by_cases c2 : nI (m1 + m2) ≤ 0
    · rw [if_pos c2]
      have := (nI_leI (a := m1 + m2) (b := 0) (by omega) (by decide)).mp c2
      rw [show m1 + m2 = 0 by omega]; rfl
    · rw [if_neg c2]
  · show (if p < 10 ∧ q < 10 then hM (F p q) (F p k) (F k q) else F p q) = -1 ∨ ∃ m, m ≤ 120 * 2 ^ (k + 1) ∧ (if p < 10 ∧ q < 10 then hM (F p q) (F p k) (F k q) else F p q) = nI m ∧ (p ≠ q → Wy U V L ns ok A p q m)
    rw [if_pos ⟨hp, hq⟩]
    have old : F p q = -1 ∨ ∃ m, m ≤ 120 * 2 ^ (k + 1) ∧ F p q = nI m ∧ (p ≠ q → Wy U V L ns ok A p q m) := (g2 p q hp hq).imp id (fun ⟨m, h1, h2, h3⟩ => ⟨m, by omega, h2, h3⟩)
    unfold hM
    by_cases c1 : F p k = -1 ∨ F k q = -1
    · rw [if_pos c1]; exact old
    rw [if_neg c1]
    obtain ⟨m1, b1, e1, w1⟩ := (g2 p k hp hk).resolve_left (fun z => c1 (Or.inl z))
    obtain ⟨m2, b2, e2, w2⟩ := (g2 k q hk hq).resolve_left (fun z => c1 (Or.inr z))
    have new : F p k + F k q = -1 ∨ ∃ m, m ≤ 120 * 2 ^ (k + 1) ∧ F p k + F k q = nI m ∧ (p ≠ q → Wy U V L ns ok A p q m) := by
      refine Or.inr ⟨m1 + m2, by omega, by rw [e1, e2, nI_add], fun hpq => ?_⟩
      by_cases a1 : p = k
      · subst a1
        rw [g1 p hp] at e1
        have : m1 = 0 := ((nI_eq (a := 0) (b := m1) (by decide) (by omega)).mp e1).symm
        rw [this, Nat.zero_add]; exact w2 hpq
      by_cases a2 : k = q
      · subst a2
        rw [g1 k hk] at e2
        have : m2 = 0 := ((nI_eq (a := 0) (b := m2) (by decide) (by omega)).mp e2).symm
        rw [this, Nat.add_zero]; exact w1 a1
      exact Wy.app (w1 a1) (w2 a2)
    by_cases c0 : F p q = -1
    · rw [if_pos c0]; exact new
    rw [if_neg c0]
    by_cases c2 : F p k + F k q ≤ F p q
    · rw [if_pos c2]; exact new
    · rw [if_neg c2]; exact old
  · by_cases e : j = k
    · subst e
      have r1 : Lq F p j l := by
        rcases back p j l hp hk hA with z | ⟨l1, l2, z1, z2, z3⟩
        · exact z
        · exact z2.mono (by omega)
      have r2 : Lq F j q l' := by
        rcases back j q l' hk hq hB with z | ⟨l1, l2, z1, z2, z3⟩
        · exact z
        · exact z3.mono (by omega)
      exact via p q l l' hp hq r1 r2
    · have hjk : j < k := by omega
      have hj10 : j < 10 := by omega
      rcases back p j l hp hj10 hA with a1 | ⟨l1, l2, a0, a1, a2⟩
      · rcases back j q l' hj10 hq hB with b1 | ⟨l1', l2', b0, b1, b2⟩
        · exact dn p q _ hp hq (g3 j p q l l' hjk hp hq a1 b1)
        · have := via p q _ _ hp hq (g3 j p k l l1' hjk hp hk a1 b1) b2
          obtain ⟨m, z1, z2, z3⟩ := this
          exact ⟨m, by omega, z2, z3⟩
      · rcases back j q l' hj10 hq hB with b1 | ⟨l1', l2', b0, b1, b2⟩
        · have := via p q _ _ hp hq a1 (g3 j k q l2 l' hjk hk hq a2 b1)
          obtain ⟨m, z1, z2, z3⟩ := this
          exact ⟨m, by omega, z2, z3⟩
        · have := via p q _ _ hp hq a1 b2
          obtain ⟨m, z1, z2, z3⟩ := this
          exact ⟨m, by omega, z2, z3⟩
  · have hu := hUV s hs
    exact ⟨dn _ _ _ hu.1 hu.2 (g4 s hs ho).1, dn _ _ _ hu.2 hu.1 (g4 s hs ho).2⟩
end FLY
