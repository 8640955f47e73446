/-! Pure: what a LAW that was read leaves on the stack -/
section DPT
variable {B : Nat → Int32} {n : Nat}
theorem dep_op {w : Int32} {c : List Int32} {k : Nat} (h : isOp w = true) : dep (w :: c) (k + 2) = dep c (k + 1) := by
  rw [dep, dpS, if_pos h]
  rfl
theorem lw_nop {w : Int32} (hw : w = -5 ∨ w = -6 ∨ w = -7 ∨ w = -8 ∨ w = -9 ∨ w = -10 ∨ w = -11 ∨ w = -12 ∨ w = -13 ∨ w = -14 ∨ w = -15) (h : ¬ (w = -5 ∨ w = -6)) : isOp w = false := by
  rcases hw with h' | h' | h' | h' | h' | h' | h' | h' | h' | h' | h'
  · exact absurd (Or.inl h') h
  · exact absurd (Or.inr h') h
  all_goals rw [h']; rfl
theorem lwWord_is {s p : Nat} : lwWord B s p = 0 ∨ (lwWord B s p = -5 ∨ lwWord B s p = -6 ∨ lwWord B s p = -7 ∨ lwWord B s p = -8 ∨ lwWord B s p = -9 ∨ lwWord B s p = -10 ∨ lwWord B s p = -11 ∨ lwWord B s p = -12 ∨ lwWord B s p = -13 ∨ lwWord B s p = -14 ∨ lwWord B s p = -15) := by
  unfold lwWord
  repeat' split
  all_goals simp
theorem num_nop {v : Int32} (h : 0 ≤ v) : isOp v = false := by
  unfold isOp
  have : ¬ v ≤ -1 := fun z => by
    have := Int32.le_trans h z
    exact absurd this (by decide)
  rw [decide_eq_false this]
  rfl
/-- 0, 2, 4 leave one more, 1 and 3 what was there -/
theorem pE_dep : ∀ (t mode o p : Nat) (x : List Int32) (e : Nat), p ≤ n → pE B n t mode o p = .inl (x, e) → (mode ≠ 1 → mode ≠ 3 → ∀ k, dep x k = some (k + 1)) ∧ (mode = 1 ∨ mode = 3 → ∀ k, dep x (k + 1) = some (k + 1))
  | 0, _, _, _, _, _, _, h => by rw [pE] at h; cases h
  | t + 1, mode, o, p, x, e, hp, h => by
    have l1 := skB_le (B := B) hp
    have l2 := ltE_le (B := B) l1.2
    rw [pE] at h
    by_cases m0 : mode = 0
    · subst m0
      rw [if_pos rfl] at h
      obtain ⟨y, hy, h⟩ := sB_inv h
      obtain ⟨z, hz, h⟩ := sB_inv h
      cases h
      have u := pE_up B n t 2 o p y.1 y.2 hp hy
      have d1 := (pE_dep t 2 o p y.1 y.2 hp hy).1 (by decide) (by decide)
      have d2 := (pE_dep t 1 o y.2 z.1 z.2 u.2.1 hz).2 (Or.inl rfl)
      exact ⟨fun _ _ k => by rw [dep_app, d1 k]; exact d2 k, fun z => absurd z (by decide)⟩
    rw [if_neg m0] at h
    by_cases m1 : mode = 1
    · subst m1
      rw [if_pos rfl] at h
      refine ⟨fun z => absurd rfl z, fun _ k => ?_⟩
      by_cases c : bAt B n (skB B n p) = 43
      · rw [if_pos c] at h
        obtain ⟨y, hy, h⟩ := sB_inv h
        obtain ⟨z, hz, h⟩ := sB_inv h
        cases h
        have hb : skB B n p + 1 ≤ n := by
          unfold bAt at c
          split at c
          · omega
          · exact absurd c (by decide)
        have u := pE_up B n t 2 o _ y.1 y.2 hb hy
        have d1 := (pE_dep t 2 o _ y.1 y.2 hb hy).1 (by decide) (by decide)
        have d2 := (pE_dep t 1 o y.2 z.1 z.2 u.2.1 hz).2 (Or.inl rfl)
        rw [dep_app, d1 (k + 1)]
        exact (dep_op (w := -1) (by decide)).trans (d2 k)
      rw [if_neg c] at h
      by_cases c : bAt B n (skB B n p) = 45
      · rw [if_pos c] at h
        obtain ⟨y, hy, h⟩ := sB_inv h
        obtain ⟨z, hz, h⟩ := sB_inv h
        cases h
        have hb : skB B n p + 1 ≤ n := by
          unfold bAt at c
          split at c
          · omega
          · exact absurd c (by decide)
        have u := pE_up B n t 2 o _ y.1 y.2 hb hy
        have d1 := (pE_dep t 2 o _ y.1 y.2 hb hy).1 (by decide) (by decide)
        have d2 := (pE_dep t 1 o y.2 z.1 z.2 u.2.1 hz).2 (Or.inl rfl)
        rw [dep_app, d1 (k + 1)]
        exact (dep_op (w := -2) (by decide)).trans (d2 k)
      rw [if_neg c] at h
      cases h
      rfl
    rw [if_neg m1] at h
    by_cases m2 : mode = 2
    · subst m2
      rw [if_pos rfl] at h
      obtain ⟨y, hy, h⟩ := sB_inv h
      obtain ⟨z, hz, h⟩ := sB_inv h
      cases h
      have u := pE_up B n t 4 o p y.1 y.2 hp hy
      have d1 := (pE_dep t 4 o p y.1 y.2 hp hy).1 (by decide) (by decide)
      have d2 := (pE_dep t 3 o y.2 z.1 z.2 u.2.1 hz).2 (Or.inr rfl)
      exact ⟨fun _ _ k => by rw [dep_app, d1 k]; exact d2 k, fun z => absurd z (by decide)⟩
    rw [if_neg m2] at h
    by_cases m3 : mode = 3
    · subst m3
      rw [if_pos rfl] at h
      refine ⟨fun _ z => absurd rfl z, fun _ k => ?_⟩
      by_cases c : bAt B n (skB B n p) = 42
      · rw [if_pos c] at h
        obtain ⟨y, hy, h⟩ := sB_inv h
        obtain ⟨z, hz, h⟩ := sB_inv h
        cases h
        have hb : skB B n p + 1 ≤ n := by
          unfold bAt at c
          split at c
          · omega
          · exact absurd c (by decide)
        have u := pE_up B n t 4 o _ y.1 y.2 hb hy
        have d1 := (pE_dep t 4 o _ y.1 y.2 hb hy).1 (by decide) (by decide)
        have d2 := (pE_dep t 3 o y.2 z.1 z.2 u.2.1 hz).2 (Or.inr rfl)
        rw [dep_app, d1 (k + 1)]
        exact (dep_op (w := -3) (by decide)).trans (d2 k)
      rw [if_neg c] at h
      by_cases c : bAt B n (skB B n p) = 47
      · rw [if_pos c] at h
        obtain ⟨y, hy, h⟩ := sB_inv h
        obtain ⟨z, hz, h⟩ := sB_inv h
        cases h
        have hb : skB B n p + 1 ≤ n := by
          unfold bAt at c
          split at c
          · omega
          · exact absurd c (by decide)
        have u := pE_up B n t 4 o _ y.1 y.2 hb hy
        have d1 := (pE_dep t 4 o _ y.1 y.2 hb hy).1 (by decide) (by decide)
        have d2 := (pE_dep t 3 o y.2 z.1 z.2 u.2.1 hz).2 (Or.inr rfl)
        rw [dep_app, d1 (k + 1)]
        exact (dep_op (w := -4) (by decide)).trans (d2 k)
      rw [if_neg c] at h
      cases h
      rfl
    rw [if_neg m3] at h
    refine ⟨fun _ _ k => ?_, fun z => absurd z (by omega)⟩
    by_cases c : isD (bAt B n (skB B n p)) = true
    · rw [if_pos c] at h
      obtain ⟨y, hy, h⟩ := sB_inv h
      cases h
      obtain ⟨_, _, b, _⟩ := pNum_e hp hy
      exact dep_cons (num_nop b)
    rw [if_neg c] at h
    by_cases c : bAt B n (skB B n p) = 40
    · rw [if_pos c] at h
      have hb : skB B n p + 1 ≤ n := by
        unfold bAt at c
        split at c
        · omega
        · exact absurd c (by decide)
      split at h
      · cases h
      obtain ⟨y, hy, h⟩ := sB_inv h
      obtain ⟨z, hz, h⟩ := sB_inv h
      cases h
      exact (pE_dep t 0 (o + 1) _ y.1 y.2 hb hy).1 (by decide) (by decide) k
    rw [if_neg c] at h
    by_cases c : lwWord B (skB B n p) (ltE B n (skB B n p)) = 0
    · rw [if_pos c] at h; cases h
    rw [if_neg c] at h
    have hw := (lwWord_is (B := B) (s := skB B n p) (p := ltE B n (skB B n p))).resolve_left c
    by_cases c2 : lwWord B (skB B n p) (ltE B n (skB B n p)) = -5 ∨ lwWord B (skB B n p) (ltE B n (skB B n p)) = -6
    · rw [if_pos c2] at h
      have ho : isOp (lwWord B (skB B n p) (ltE B n (skB B n p))) = true := by
        rcases c2 with z | z <;> rw [z] <;> rfl
      split at h
      · cases h
      obtain ⟨e1, h1, h⟩ := sB_inv h
      obtain ⟨y, hy, h⟩ := sB_inv h
      obtain ⟨e2, h2, h⟩ := sB_inv h
      obtain ⟨z, hz, h⟩ := sB_inv h
      obtain ⟨e3, h3, h⟩ := sB_inv h
      cases h
      have b1 := pSign_e l2.2 (by decide) h1
      have u := pE_up B n t 0 (o + 1) _ y.1 y.2 b1.2 hy
      have b2 := pSign_e u.2.1 (by decide) h2
      have d1 := (pE_dep t 0 (o + 1) _ y.1 y.2 b1.2 hy).1 (by decide) (by decide)
      have d2 := (pE_dep t 0 (o + 1) _ z.1 z.2 b2.2 hz).1 (by decide) (by decide)
      rw [dep_app, dep_app, d1 k]
      show ((dep z.1 (k + 1)).bind _) = _
      rw [d2 (k + 1)]
      exact dep_op ho
    · rw [if_neg c2] at h
      cases h
      exact dep_cons (lw_nop hw c2)
theorem pLaw_dep {l : List Int32} (h : pLaw B n 0 = .inl l) : l = [] ∨ dep l 0 = some 1 := by
  unfold pLaw at h
  obtain ⟨x, hx, h⟩ := sB_inv h
  split at h
  · cases h
  cases h
  exact Or.inr ((pE_dep 800 0 0 0 x.1 x.2 (Nat.zero_le _) hx).1 (by decide) (by decide) 0)
theorem pLine_ok {l : List Ln} {p e : Nat} {c : Ln} (hp : p ≤ n) (h : pLine B n l p = .inl (c, e)) : e ≤ n ∧ l.length < 8 ∧ ∃ k, 1 ≤ k ∧ k ≤ 40 ∧ c.1 = nI k := by
  unfold pLine at h
  obtain ⟨x, hx, h⟩ := sB_inv h
  split at h
  · cases h
  split at h
  · cases h
  next h8 =>
  obtain ⟨y, hy, h⟩ := sB_inv h
  obtain ⟨z, hz, h⟩ := sB_inv h
  cases h
  obtain ⟨_, b1, u1, u2⟩ := pNum_e hp hx
  obtain ⟨_, b2, _, _⟩ := pNum_e b1 hy
  obtain ⟨k, lk, ek⟩ := n_of (h := 40) (by decide) (Int32.le_trans (by decide) u1) u2
  refine ⟨(pSign_e b2 (by decide) hz).2, by omega, k, ?_, lk, ek⟩
  have u1' : nI 1 ≤ nI k := by rw [← ek]; exact u1
  exact (nI_leI (a := 1) (by decide) (by omega)).mp u1'
theorem pPost_ok : ∀ (t : Nat) (l : List Ln) (p : Nat) (l' : List Ln), p ≤ n → PlB l → pPost B n t l p = .inl l' → PlB l'
  | 0, l, p, l', _, hl, h => by
    rw [pPost] at h
    cases h
    exact hl
  | t + 1, l, p, l', hp, hl, h => by
    rw [pPost] at h
    split at h
    · obtain ⟨c, hc, h⟩ := sB_inv h
      have l1 := skB_le (B := B) hp
      obtain ⟨b1, b2, b3⟩ := pLine_ok (c := c.1) (e := c.2) l1.2 hc
      refine pPost_ok t _ c.2 l' b1 ⟨by rw [List.length_append]; show l.length + 1 ≤ 8; omega, fun v hv => ?_⟩ h
      rcases List.mem_append.mp hv with z | z
      · exact hl.2 v z
      · rw [List.mem_singleton.mp z]; exact b3
    · cases h
      exact hl
end DPT
