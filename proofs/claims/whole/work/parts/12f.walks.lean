/-! Pure: walks along streets -/
/-- a step along street s from p to r -/
def stE (U V : Nat → Nat) (s p r : Nat) : Prop := (U s = p ∧ V s = r) ∨ (V s = p ∧ U s = r)
/-- a walk of k steps from p to q, of length l, over the corners A -/
def Wk (U V L : Nat → Nat) (ns : Nat) (ok : Nat → Prop) (A : Nat → Bool) : Nat → Nat → Nat → Nat → Prop
  | 0, p, q, l => A p = true ∧ p = q ∧ l = 0
  | k + 1, p, q, l => A p = true ∧ ∃ s r l', s < ns ∧ ok s ∧ stE U V s p r ∧ l = L s + l' ∧ Wk U V L ns ok A k r q l'
def Wy (U V L : Nat → Nat) (ns : Nat) (ok : Nat → Prop) (A : Nat → Bool) (p q l : Nat) : Prop := ∃ k, Wk U V L ns ok A k p q l
def less (A : Nat → Bool) (p : Nat) : Nat → Bool := fun v => A v && !decide (v = p)
def cA (A : Nat → Bool) : Nat → Nat
  | 0 => 0
  | n + 1 => cA A n + (if A n then 1 else 0)
section WLK
variable {U V L : Nat → Nat} {ns : Nat} {ok : Nat → Prop} {A : Nat → Bool}
theorem stE.sym {s p r : Nat} (h : stE U V s p r) : stE U V s r p := h.elim (fun z => Or.inr ⟨z.2, z.1⟩) (fun z => Or.inl ⟨z.2, z.1⟩)
theorem Wk.start : ∀ {k p q l : Nat}, Wk U V L ns ok A k p q l → A p = true
  | 0, _, _, _, h => h.1
  | _ + 1, _, _, _, h => h.1
theorem Wk.fin : ∀ {k p q l : Nat}, Wk U V L ns ok A k p q l → A q = true
  | 0, _, _, _, h => by rw [← h.2.1]; exact h.1
  | _ + 1, _, _, _, ⟨_, _, _, _, _, _, _, _, h⟩ => Wk.fin h
theorem Wk.app : ∀ {k k' p r q l l' : Nat}, Wk U V L ns ok A k p r l → Wk U V L ns ok A k' r q l' → Wk U V L ns ok A (k + k') p q (l + l')
  | 0, k', p, r, q, l, l', h, h' => by
    obtain ⟨_, rfl, rfl⟩ := h
    rw [Nat.zero_add, Nat.zero_add]
    exact h'
  | k + 1, k', p, r, q, l, l', h, h' => by
    obtain ⟨hA, s, t, m, h1, h2, h3, rfl, h4⟩ := h
    rw [show k + 1 + k' = (k + k') + 1 by omega]
    exact ⟨hA, s, t, m + l', h1, h2, h3, by omega, Wk.app h4 h'⟩
theorem Wk.one {s p r : Nat} (hA : A p = true) (hA' : A r = true) (h1 : s < ns) (h2 : ok s) (h3 : stE U V s p r) : Wk U V L ns ok A 1 p r (L s) := ⟨hA, s, r, 0, h1, h2, h3, rfl, hA', rfl, rfl⟩
theorem Wk.rev : ∀ {k p q l : Nat}, Wk U V L ns ok A k p q l → Wk U V L ns ok A k q p l
  | 0, _, _, _, h => by
    obtain ⟨hA, rfl, rfl⟩ := h
    exact ⟨hA, rfl, rfl⟩
  | k + 1, p, q, l, h => by
    obtain ⟨hA, s, t, m, h1, h2, h3, rfl, h4⟩ := h
    have := Wk.app (Wk.rev h4) (Wk.one (L := L) h4.start hA h1 h2 h3.sym)
    rw [Nat.add_comm (L s) m]
    exact this
theorem Wy.app {p r q l l' : Nat} (h : Wy U V L ns ok A p r l) (h' : Wy U V L ns ok A r q l') : Wy U V L ns ok A p q (l + l') := by
  obtain ⟨k, h⟩ := h
  obtain ⟨k', h'⟩ := h'
  exact ⟨_, Wk.app h h'⟩
theorem Wy.rev {p q l : Nat} (h : Wy U V L ns ok A p q l) : Wy U V L ns ok A q p l := by
  obtain ⟨k, h⟩ := h
  exact ⟨k, h.rev⟩
theorem Wy.refl {p : Nat} (h : A p = true) : Wy U V L ns ok A p p 0 := ⟨0, h, rfl, rfl⟩
theorem Wk.mono {A' : Nat → Bool} (h : ∀ v, A v = true → A' v = true) : ∀ {k p q l : Nat}, Wk U V L ns ok A k p q l → Wk U V L ns ok A' k p q l
  | 0, _, _, _, w => ⟨h _ w.1, w.2⟩
  | _ + 1, _, _, _, ⟨hA, s, t, m, h1, h2, h3, h4, h5⟩ => ⟨h _ hA, s, t, m, h1, h2, h3, h4, Wk.mono h h5⟩
theorem less_of {p v : Nat} (h : less A p v = true) : A v = true ∧ v ≠ p := by
  unfold less at h
  rw [Bool.and_eq_true] at h
  exact ⟨h.1, fun z => by rw [decide_eq_true z] at h; exact Bool.noConfusion h.2⟩
theorem less_mk {p v : Nat} (h : A v = true) (hn : v ≠ p) : less A p v = true := by
  unfold less
  rw [h, decide_eq_false hn]
  rfl
/-- the last time that a walk is at p -/
theorem Wk.leave {p : Nat} : ∀ {k x q l : Nat}, Wk U V L ns ok A k x q l → q ≠ p → Wk U V L ns ok (less A p) k x q l ∨ ∃ s r m k', s < ns ∧ ok s ∧ stE U V s p r ∧ L s + m ≤ l ∧ Wk U V L ns ok (less A p) k' r q m
  | 0, x, q, l, ⟨h1, h2, h3⟩, hq => Or.inl ⟨less_mk h1 (by rw [h2]; exact hq), h2, h3⟩
  | k + 1, x, q, l, ⟨hA, s, r, m, h1, h2, h3, h4, h5⟩, hq => by
    rcases Wk.leave h5 hq with h | ⟨s', r', m', k', g1, g2, g3, g4, g5⟩
    · by_cases c : x = p
      · subst c
        exact Or.inr ⟨s, r, m, k, h1, h2, h3, by omega, h⟩
      · exact Or.inl ⟨less_mk hA c, s, r, m, h1, h2, h3, h4, h⟩
    · exact Or.inr ⟨s', r', m', k', g1, g2, g3, by omega, g5⟩
theorem cA_pos {p : Nat} : ∀ {n}, p < n → A p = true → 0 < cA A n
  | 0, h, _ => absurd h (by omega)
  | n + 1, h, hA => by
    rw [cA]
    by_cases c : p = n
    · rw [← c, if_pos hA]; omega
    · have := cA_pos (n := n) (by omega) hA
      omega
theorem cA_cg {A' : Nat → Bool} : ∀ {n}, (∀ v, v < n → A v = A' v) → cA A n = cA A' n
  | 0, _ => rfl
  | n + 1, h => by rw [cA, cA, h n (by omega), cA_cg (fun v hv => h v (by omega))]
theorem cA_less {p : Nat} : ∀ {n}, p < n → A p = true → cA (less A p) n + 1 = cA A n
  | 0, h, _ => absurd h (by omega)
  | n + 1, h, hA => by
    rw [cA, cA]
    by_cases c : p = n
    · subst c
      rw [if_pos hA, if_neg (fun z => (less_of z).2 rfl), cA_cg (A' := A)]
      intro v hv
      unfold less
      rw [decide_eq_false (show ¬ v = p by omega)]
      exact Bool.and_true _
    · have ih := cA_less (n := n) (by omega) hA
      have e : less A p n = A n := by
        unfold less
        rw [decide_eq_false (show ¬ n = p by omega)]
        exact Bool.and_true _
      rw [e]
      omega
/-- no walk needs more steps than there are corners -/
theorem Wk.short (N : Nat) : ∀ (n : Nat) {A : Nat → Bool} {k p q l : Nat}, (∀ v, A v = true → v < N) → cA A N = n → Wk U V L ns ok A k p q l → ∃ k' l', k' + 1 ≤ n ∧ l' ≤ l ∧ Wk U V L ns ok A k' p q l'
  | 0, A, k, p, q, l, hN, hc, h => by
    have := cA_pos (hN p h.start) h.start
    omega
  | n + 1, A, k, p, q, l, hN, hc, h => by
    by_cases c : p = q
    · subst c
      exact ⟨0, 0, by omega, Nat.zero_le _, h.start, rfl, rfl⟩
    have hl := cA_less (hN p h.start) h.start
    have hsub : ∀ v, less A p v = true → v < N := fun v hv => hN v (less_of hv).1
    rcases Wk.leave (p := p) h (fun z => c z.symm) with h' | ⟨s, r, m, k', g1, g2, g3, g4, g5⟩
    · exact absurd rfl (less_of h'.start).2
    · obtain ⟨k2, l2, b1, b2, b3⟩ := Wk.short N n hsub (by omega) g5
      exact ⟨k2 + 1, L s + l2, by omega, by omega, h.start, s, r, l2, g1, g2, g3, rfl, b3.mono (fun v hv => (less_of hv).1)⟩
/-- the least length of a way, as a number; -1: there is none -/
def Ds (U V L : Nat → Nat) (ns : Nat) (ok : Nat → Prop) (A : Nat → Bool) (p q : Nat) (v : Int32) : Prop := (v = -1 ∧ ∀ l, ¬ Wy U V L ns ok A p q l) ∨ ∃ m, v = nI m ∧ m < 1000000 ∧ Wy U V L ns ok A p q m ∧ ∀ l, Wy U V L ns ok A p q l → m ≤ l
theorem Ds.uniq {p q : Nat} {v w : Int32} (h : Ds U V L ns ok A p q v) (h' : Ds U V L ns ok A p q w) : v = w := by
  rcases h with ⟨e, h⟩ | ⟨m, e, _, h1, h2⟩
  · rcases h' with ⟨e', _⟩ | ⟨m', _, _, h1', _⟩
    · rw [e, e']
    · exact absurd h1' (h _)
  · rcases h' with ⟨_, h'⟩ | ⟨m', e', _, h1', h2'⟩
    · exact absurd h1 (h' _)
    · have a1 := h2 _ h1'
      have a2 := h2' _ h1
      rw [e, e', show m = m' by omega]
end WLK
