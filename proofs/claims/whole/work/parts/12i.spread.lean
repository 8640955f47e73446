/-! Pure: the class's ways are the shortest -/
/-- the same streets, in the class's rows -/
def GrC (a : IA) (T nc ns : Nat) (U V L : Nat → Nat) : Prop := nc ≤ 10 ∧ ns ≤ 8 ∧ ∀ s, s < ns → U s < nc ∧ V s < nc ∧ U s ≠ V s ∧ a (T + 3) s = nI (U s) ∧ a (T + 4) s = nI (V s) ∧ a (T + 7) s = nI (L s) ∧ L s ≤ 120
def Lf (f : Nat → Int32) (q l : Nat) : Prop := ∃ m, m ≤ l ∧ m ≤ 1000000 ∧ f q = nI m
/-- what has been found is a way -/
def BI (U V L : Nat → Nat) (nc ns : Nat) (ok : Nat → Prop) (p : Nat) (f : Nat → Int32) : Prop := ∀ q, q < nc → ∃ m, m ≤ 1000000 ∧ f q = nI m ∧ (m < 1000000 → Wy U V L ns ok (inA nc) q p m)
section SPR
variable {a : IA} {U V L : Nat → Nat} {T nc ns c : Nat} {but : Int32} {f f0 : Nat → Int32} {k p q s u v len l : Nat} {ok : Nat → Prop}
theorem Lf.mono {l' : Nat} (h : Lf f q l) (hl : l ≤ l') : Lf f q l' := by
  obtain ⟨m, h1, h2, h3⟩ := h
  exact ⟨m, by omega, h2, h3⟩
theorem short_v (hu : u < 10) (hv : v < 10) {m n : Nat} (h1 : m ≤ 1000000) (h2 : n ≤ 1000000) (hl : len ≤ 120) (e1 : f u = nI m) (e2 : f v = nI n) : rShort f (nI u) (nI v) (nI len) = upd f v (nI (if m + len < n then m + len else n)) := by
  unfold rShort
  rw [rAt_nI _ (by decide) hu, rAt_nI _ (by decide) hv, rPut_nI _ (by decide) hv, e1, e2, nI_add]
  by_cases c : m + len < n
  · rw [if_pos c, if_pos (nI_lt c (by omega))]
  · rw [if_neg c, if_neg (fun z => c ((nI_ltI (by omega) (by omega)).mp z))]
/-- one street, one way -/
theorem BI.short (hc : nc ≤ 10) (h : BI U V L nc ns ok p f) (hu : u < nc) (hv : v < nc) (hs : s < ns) (ho : ok s) (hst : stE U V s v u) (hl : L s ≤ 120) :
    BI U V L nc ns ok p (rShort f (nI u) (nI v) (nI (L s))) ∧ (∀ q l, q < nc → Lf f q l → Lf (rShort f (nI u) (nI v) (nI (L s))) q l) ∧ ∀ l, Lf f u l → Lf (rShort f (nI u) (nI v) (nI (L s))) v (L s + l) := by
  obtain ⟨m, m1, m2, m3⟩ := h u hu
  obtain ⟨n, n1, n2, n3⟩ := h v hv
  rw [short_v (by omega) (by omega) m1 n1 hl m2 n2]
  refine ⟨fun q hq => ?_, fun q l hq ⟨j, j1, j2, j3⟩ => ?_, fun l ⟨j, j1, j2, j3⟩ => ?_⟩
  · by_cases e : q = v
    · subst e
      rw [upd_eq]
      by_cases c : m + L s < n
      · rw [if_pos c]
        refine ⟨m + L s, by omega, rfl, fun z => ?_⟩
        obtain ⟨k, hk⟩ := m3 (by omega)
        rw [Nat.add_comm]
        exact ⟨k + 1, decide_eq_true hq, s, u, m, hs, ho, hst, rfl, hk⟩
      · rw [if_neg c]; exact ⟨n, n1, rfl, n3⟩
    · rw [upd_ne e]; exact h q hq
  · by_cases e : q = v
    · subst e
      have : n = j := (nI_eq (by omega) (by omega)).mp (n2.symm.trans j3)
      exact ⟨if m + L s < n then m + L s else n, by split <;> omega, by split <;> omega, upd_eq⟩
    · exact ⟨j, j1, j2, by rw [upd_ne e]; exact j3⟩
  · have : m = j := (nI_eq (by omega) (by omega)).mp (m2.symm.trans j3)
    exact ⟨if m + L s < n then m + L s else n, by split <;> omega, by split <;> omega, upd_eq⟩
/-- one street, both ways -/
theorem BI.edge (h : GrC a T nc ns U V L) (hf : BI U V L nc ns (fun s => ¬ nI s = but) p f) (hs : s < ns) :
    BI U V L nc ns (fun s => ¬ nI s = but) p (rEdge a T but s f) ∧ (∀ q l, q < nc → Lf f q l → Lf (rEdge a T but s f) q l) ∧ (¬ nI s = but → ∀ q r l, stE U V s q r → Lf f r l → Lf (rEdge a T but s f) q (L s + l)) := by
  obtain ⟨hu, hv, hne, eu, ev, el, hl⟩ := h.2.2 s hs
  unfold rEdge
  by_cases cb : nI s = but
  · rw [if_pos cb]
    exact ⟨hf, fun q l _ z => z, fun z => absurd cb z⟩
  rw [if_neg cb, eu, ev, el]
  obtain ⟨a1, a2, a3⟩ := BI.short (s := s) h.1 hf hu hv hs cb (Or.inr ⟨rfl, rfl⟩) hl
  obtain ⟨b1, b2, b3⟩ := BI.short (s := s) h.1 a1 hv hu hs cb (Or.inl ⟨rfl, rfl⟩) hl
  refine ⟨b1, fun q l hq z => b2 q l hq (a2 q l hq z), fun _ q r l hst z => ?_⟩
  rcases hst with ⟨rfl, rfl⟩ | ⟨rfl, rfl⟩
  · exact b3 l (a2 _ l hv z)
  · exact b2 _ _ hv (a3 l z)
/-- all streets once -/
theorem BI.pass (h : GrC a T nc ns U V L) (hf : BI U V L nc ns (fun s => ¬ nI s = but) p f) :
    BI U V L nc ns (fun s => ¬ nI s = but) p (rPass a T ns but f) ∧ (∀ q l, q < nc → Lf f q l → Lf (rPass a T ns but f) q l) ∧ (∀ s q r l, s < ns → ¬ nI s = but → stE U V s q r → Lf f r l → Lf (rPass a T ns but f) q (L s + l)) := by
  have key : ∀ c, c ≤ ns → BI U V L nc ns (fun s => ¬ nI s = but) p (lpM (rEdge a T but) c 0 f) ∧ (∀ q l, q < nc → Lf f q l → Lf (lpM (rEdge a T but) c 0 f) q l) ∧ (∀ s q r l, s < c → ¬ nI s = but → stE U V s q r → Lf f r l → Lf (lpM (rEdge a T but) c 0 f) q (L s + l)) := by
    intro c
    induction c with
    | zero => intro _; exact ⟨hf, fun q l _ z => z, fun s q r l hs => absurd hs (by omega)⟩
    | succ c ih =>
      intro hc
      obtain ⟨i1, i2, i3⟩ := ih (by omega)
      obtain ⟨e1, e2, e3⟩ := BI.edge (s := c) h i1 (by omega)
      rw [lpM_snoc, Nat.zero_add]
      have st : ∀ {s q r : Nat}, s < ns → stE U V s q r → q < nc ∧ r < nc := fun {s q r} hs z => by
        obtain ⟨hu, hv, _⟩ := h.2.2 s hs
        rcases z with ⟨rfl, rfl⟩ | ⟨rfl, rfl⟩
        · exact ⟨hu, hv⟩
        · exact ⟨hv, hu⟩
      refine ⟨e1, fun q l hq z => e2 q l hq (i2 q l hq z), fun s q r l hs ho hst z => ?_⟩
      have b := st (show s < ns by omega) hst
      by_cases e : s = c
      · subst e
        exact e3 ho q r l hst (i2 r l b.2 z)
      · exact e2 q _ b.1 (i3 s q r l (by omega) ho hst z)
  exact key ns (Nat.le_refl _)
theorem itN_snoc {χ : Type} {g : χ → χ} : ∀ (n : Nat) (x : χ), itN g (n + 1) x = g (itN g n x)
  | 0, _ => rfl
  | n + 1, x => by rw [itN, itN_snoc n (g x), itN]
/-- the class's ways are the shortest -/
theorem spread_D (h : GrC a T nc ns U V L) (hp : p < nc) (hq : q < nc) : Ds U V L ns (fun s => ¬ nI s = but) (inA nc) p q (stp (rSpread a T nc ns (nI p) but f0) (nI q)) := by
  have hc := h.1
  have h8 := h.2.1
  have key : ∀ i, BI U V L nc ns (fun s => ¬ nI s = but) p (itN (rPass a T ns but) i (rPut (fun j => if j < 10 then 1000000 else f0 j) 10 (nI p) 0)) ∧ ∀ q k l, q < nc → k ≤ i → Wk U V L ns (fun s => ¬ nI s = but) (inA nc) k q p l → Lf (itN (rPass a T ns but) i (rPut (fun j => if j < 10 then 1000000 else f0 j) 10 (nI p) 0)) q l := by
    intro i
    induction i with
    | zero =>
      rw [itN, rPut_nI _ (by decide) (by omega)]
      refine ⟨fun q hq => ?_, fun q k l hq hk hw => ?_⟩
      · by_cases e : q = p
        · subst e
          exact ⟨0, by omega, upd_eq, fun _ => Wy.refl (decide_eq_true hq)⟩
        · refine ⟨1000000, Nat.le_refl _, ?_, fun z => absurd z (Nat.lt_irrefl _)⟩
          rw [upd_ne e, if_pos (by omega)]
          rfl
      · obtain rfl : k = 0 := by omega
        obtain ⟨_, e1, e2⟩ := hw
        subst e1
        exact ⟨0, Nat.zero_le _, by omega, upd_eq⟩
    | succ i ih =>
      obtain ⟨i1, i2⟩ := ih
      rw [itN_snoc]
      obtain ⟨b1, b2, b3⟩ := BI.pass h i1
      refine ⟨b1, fun q k l hq hk hw => ?_⟩
      cases k with
      | zero => exact b2 q l hq (i2 q 0 l hq (by omega) hw)
      | succ k =>
        obtain ⟨hA, s, r, l', hs, ho, hst, e, hw'⟩ := hw
        subst e
        exact b3 s q r l' hs ho hst (i2 r k l' (of_decide_eq_true hw'.start) (by omega) hw')
  obtain ⟨k1, k2⟩ := key (nc - 1)
  have e : rSpread a T nc ns (nI p) but f0 = itN (rPass a T ns but) (nc - 1) (rPut (fun j => if j < 10 then 1000000 else f0 j) 10 (nI p) 0) := rfl
  rw [← e] at k1 k2
  obtain ⟨m, m1, m2, m3⟩ := k1 q hq
  have full : cA (inA nc) nc = nc := by
    have : ∀ n, n ≤ nc → cA (inA nc) n = n := by
      intro n
      induction n with
      | zero => intro _; rfl
      | succ n ih => intro hn; rw [cA, ih (by omega), if_pos (show inA nc n = true from decide_eq_true (show n < nc by omega))]
    exact this nc (Nat.le_refl _)
  have all : ∀ l, Wy U V L ns (fun s => ¬ nI s = but) (inA nc) p q l → m ≤ l := by
    intro l ⟨k, hw⟩
    obtain ⟨k', l', a1, a2, a3⟩ := Wk.short nc nc (fun v hv => of_decide_eq_true hv) full hw.rev
    obtain ⟨j, j1, j2, j3⟩ := k2 q k' l' hq (by omega) a3
    have : m = j := (nI_eq (by omega) (by omega)).mp (m2.symm.trans j3)
    omega
  have cut : ∀ l, Wy U V L ns (fun s => ¬ nI s = but) (inA nc) p q l → ∃ l', l' < 1000000 ∧ Wy U V L ns (fun s => ¬ nI s = but) (inA nc) p q l' := by
    intro l ⟨k, hw⟩
    obtain ⟨k', l', a1, a2, a3⟩ := Wk.short nc nc (fun v hv => of_decide_eq_true hv) full hw
    have len : ∀ k p q l, Wk U V L ns (fun s => ¬ nI s = but) (inA nc) k p q l → l ≤ 120 * k := by
      intro k
      induction k with
      | zero => intro p q l z; rw [z.2.2]; omega
      | succ k ih =>
        intro p q l ⟨_, s, r, l', hs, _, _, e, hw'⟩
        have := ih r q l' hw'
        have := (h.2.2 s hs).2.2.2.2.2.2
        omega
    have := len _ _ _ _ a3
    exact ⟨l', by omega, k', a3⟩
  unfold stp
  rw [rAt_nI _ (by decide) (by omega), m2]
  by_cases c : m < 1000000
  · rw [if_pos (show nI m < 1000000 from nI_lt (b := 1000000) c (by decide))]
    exact Or.inr ⟨m, rfl, c, (m3 c).rev, all⟩
  · rw [if_neg (show ¬ nI m < 1000000 from fun z => c ((nI_ltI (b := 1000000) (by omega) (by decide)).mp z))]
    refine Or.inl ⟨rfl, fun l hw => ?_⟩
    obtain ⟨l', z1, z2⟩ := cut l hw
    have := all l' z2
    omega
end SPR
