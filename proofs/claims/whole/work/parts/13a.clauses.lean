/-! Pure: what a clause that was read tells -/
def ClOK (nc ns ng : Nat) (c : Cl) : Prop :=
  (∃ x y, x ≤ 60 ∧ y ≤ 60 ∧ nc < 10 ∧ c = (1, nI x, nI y, 0, 0)) ∨
  (∃ i j h t, i < nc ∧ j < nc ∧ i ≠ j ∧ 1 ≤ h ∧ h ≤ 20 ∧ t ≤ 20 ∧ ns < 8 ∧ c = (2, nI i, nI j, nI h, nI t)) ∨
  (∃ s o v, s < ns ∧ o < ns ∧ s ≠ o ∧ v ≤ 9 ∧ c = (3, nI s, nI o, nI v, 0)) ∨
  (∃ s o, s < ns ∧ o < ns ∧ s ≠ o ∧ c = (4, nI s, nI o, 0, 0)) ∨
  (∃ v w, v ≤ 9 ∧ w ≤ 9 ∧ ng < 8 ∧ c = (5, nI v, nI w, 0, 0)) ∨
  (∃ x y u v, x ≤ 60 ∧ y ≤ 60 ∧ u ≤ 9 ∧ v ≤ 9 ∧ c = (6, nI x, nI y, nI u, nI v)) ∨
  ∃ x, x ≤ 60 ∧ c = (7, nI x, 0, 0, 0)
def ClsOK : List Cl → Nat → Nat → Nat → Prop
  | [], _, _, _ => True
  | c :: l, nc, ns, ng => ClOK nc ns ng c ∧ ClsOK l (cB 1 10 nc c) (cB 2 8 ns c) (cB 5 8 ng c)
section CLS
variable {B : Nat → Int32} {n m nc ns ng p e : Nat} {c : Cl} {v : Int32}
theorem n_of {h : Nat} (hh : h < 2 ^ 31) (h0 : 0 ≤ v) (h1 : v ≤ nI h) : ∃ x, x ≤ h ∧ v = nI x := by
  obtain ⟨j, hj, rfl⟩ := nI_of (i_nlt.mpr h0)
  exact ⟨j, (nI_leI hj hh).mp h1, rfl⟩
theorem pNum_n {h : Nat} (hh : h < 2 ^ 31) (hp : p ≤ n) (q : pNum B n 0 (nI h) p = .inl (v, e)) : e ≤ n ∧ ∃ x, x ≤ h ∧ v = nI x := by
  obtain ⟨_, a, b, c⟩ := pNum_e hp q
  exact ⟨a, n_of hh b c⟩
theorem pNum_i {k : Nat} (hk : k < 2 ^ 31) (hp : p ≤ n) (q : pNum B n 0 (nI k - 1) p = .inl (v, e)) : e ≤ n ∧ ∃ x, x < k ∧ v = nI x := by
  obtain ⟨_, a, b, c⟩ := pNum_e hp q
  exact ⟨a, nIdx hk b c⟩
theorem pOther_i {k i : Nat} (hk : k < 2 ^ 31) (hp : p ≤ n) (q : pOther B n (nI i) (nI k) p = .inl (v, e)) : e ≤ n ∧ ∃ x, x < k ∧ i ≠ x ∧ v = nI x := by
  obtain ⟨_, a, b, c, d⟩ := pOther_e hp q
  obtain ⟨x, hx, rfl⟩ := nIdx hk b c
  exact ⟨a, x, hx, fun z => d (by rw [z]), rfl⟩
theorem pClause_cl (hp : p ≤ n) (hnc : nc ≤ 10) (hns : ns ≤ 8) (hng : ng ≤ 8) (h : pClause B n m (nI nc) (nI ns) (nI ng) p = .inl (c, e)) : ClOK nc ns ng c := by
  have ok := pClause_ok hp hnc hns hng h
  have l1 := skB_le (B := B) hp
  have l2 := ltE_le (B := B) l1.2
  have hct := rKind_ct (B := B) (n := n) (p := p)
  unfold pClause at h
  generalize ctKind B (skB B n p) (ltE B n (skB B n p)) = ct at *
  have hk : ct = 0 ∨ ct = 1 ∨ ct = 2 ∨ ct = 3 ∨ ct = 4 ∨ ct = 5 ∨ ct = 6 ∨ ct = 7 := by
    rcases hct with h | h | h | h | h | h | h | h <;> simp [h.1]
  split at h
  · cases h
  next h0 =>
  split at h
  · cases h
  next h1 =>
  obtain ⟨v, hv, h⟩ := sB_inv h
  obtain ⟨e', he, h⟩ := sB_inv h
  cases h
  have hf : ¬ ctFull ct (nI nc) (nI ns) (nI ng) = true := fun h => h1 (Or.inr h)
  rw [ct_full] at hf
  have l10 : (10 : Int32) ≤ nI nc ↔ 10 ≤ nc := nI_leI (a := 10) (by decide) (by omega)
  have l8 : (8 : Int32) ≤ nI ns ↔ 8 ≤ ns := nI_leI (a := 8) (by decide) (by omega)
  have l8' : (8 : Int32) ≤ nI ng ↔ 8 ≤ ng := nI_leI (a := 8) (by decide) (by omega)
  rw [l10, l8, l8'] at hf
  unfold pFields at hv
  rcases hk with k | k | k | k | k | k | k | k <;> subst k
  · exact absurd rfl h0
  · rw [if_pos rfl] at hv
    obtain ⟨x, hx, hv⟩ := sB_inv hv
    obtain ⟨y, hy, hv⟩ := sB_inv hv
    obtain ⟨b1, x', lx, ex⟩ := pNum_n (h := 60) (by decide) l2.2 hx
    obtain ⟨b2, y', ly, ey⟩ := pNum_n (h := 60) (by decide) b1 hy
    cases hv
    exact Or.inl ⟨x', y', lx, ly, by
      rcases Nat.lt_or_ge nc 10 with z | z
      · exact z
      · exact absurd (Or.inl ⟨rfl, z⟩) hf, by rw [ex, ey]⟩
  · rw [if_neg (by decide), if_pos rfl] at hv
    obtain ⟨x, hx, hv⟩ := sB_inv hv
    obtain ⟨y, hy, hv⟩ := sB_inv hv
    obtain ⟨u, hu, hv⟩ := sB_inv hv
    obtain ⟨w, hw, hv⟩ := sB_inv hv
    obtain ⟨b1, x', lx, ex⟩ := pNum_i (k := nc) (by omega) l2.2 hx
    rw [ex] at hy
    obtain ⟨b2, y', ly, ne, ey⟩ := pOther_i (by omega) b1 hy
    obtain ⟨_, b3, u1, u2⟩ := pNum_e b2 hu
    obtain ⟨b4, w', lw, ew⟩ := pNum_n (h := 20) (by decide) b3 hw
    obtain ⟨u', lu, eu⟩ := n_of (h := 20) (by decide) (Int32.le_trans (by decide) u1) u2
    cases hv
    refine Or.inr (Or.inl ⟨x', y', u', w', lx, ly, ne, ?_, lu, lw, ?_, by rw [ex, ey, eu, ew]⟩)
    · rw [eu] at u1
      exact (nI_leI (a := 1) (by decide) (by omega)).mp u1
    · rcases Nat.lt_or_ge ns 8 with z | z
      · exact z
      · exact absurd (Or.inr (Or.inl ⟨rfl, z⟩)) hf
  · rw [if_neg (by decide), if_neg (by decide), if_pos rfl] at hv
    obtain ⟨x, hx, hv⟩ := sB_inv hv
    obtain ⟨y, hy, hv⟩ := sB_inv hv
    obtain ⟨u, hu, hv⟩ := sB_inv hv
    obtain ⟨b1, x', lx, ex⟩ := pNum_i (k := ns) (by omega) l2.2 hx
    rw [ex] at hy
    obtain ⟨b2, y', ly, ne, ey⟩ := pOther_i (by omega) b1 hy
    obtain ⟨b3, u', lu, eu⟩ := pNum_n (h := 9) (by decide) b2 hu
    cases hv
    exact Or.inr (Or.inr (Or.inl ⟨x', y', u', lx, ly, ne, lu, by rw [ex, ey, eu]⟩))
  · rw [if_neg (by decide), if_neg (by decide), if_neg (by decide), if_pos rfl] at hv
    obtain ⟨x, hx, hv⟩ := sB_inv hv
    obtain ⟨y, hy, hv⟩ := sB_inv hv
    obtain ⟨b1, x', lx, ex⟩ := pNum_i (k := ns) (by omega) l2.2 hx
    rw [ex] at hy
    obtain ⟨b2, y', ly, ne, ey⟩ := pOther_i (by omega) b1 hy
    cases hv
    exact Or.inr (Or.inr (Or.inr (Or.inl ⟨x', y', lx, ly, ne, by rw [ex, ey]⟩)))
  · rw [if_neg (by decide), if_neg (by decide), if_neg (by decide), if_neg (by decide), if_pos rfl] at hv
    obtain ⟨x, hx, hv⟩ := sB_inv hv
    obtain ⟨y, hy, hv⟩ := sB_inv hv
    obtain ⟨b1, x', lx, ex⟩ := pNum_n (h := 9) (by decide) l2.2 hx
    obtain ⟨b2, y', ly, ey⟩ := pNum_n (h := 9) (by decide) b1 hy
    cases hv
    exact Or.inr (Or.inr (Or.inr (Or.inr (Or.inl ⟨x', y', lx, ly, by
      rcases Nat.lt_or_ge ng 8 with z | z
      · exact z
      · exact absurd (Or.inr (Or.inr ⟨rfl, z⟩)) hf, by rw [ex, ey]⟩))))
  · rw [if_neg (by decide), if_neg (by decide), if_neg (by decide), if_neg (by decide), if_neg (by decide), if_pos rfl] at hv
    obtain ⟨x, hx, hv⟩ := sB_inv hv
    obtain ⟨y, hy, hv⟩ := sB_inv hv
    obtain ⟨u, hu, hv⟩ := sB_inv hv
    obtain ⟨w, hw, hv⟩ := sB_inv hv
    obtain ⟨b1, x', lx, ex⟩ := pNum_n (h := 60) (by decide) l2.2 hx
    obtain ⟨b2, y', ly, ey⟩ := pNum_n (h := 60) (by decide) b1 hy
    obtain ⟨b3, u', lu, eu⟩ := pNum_n (h := 9) (by decide) b2 hu
    obtain ⟨b4, w', lw, ew⟩ := pNum_n (h := 9) (by decide) b3 hw
    cases hv
    exact Or.inr (Or.inr (Or.inr (Or.inr (Or.inr (Or.inl ⟨x', y', u', w', lx, ly, lu, lw, by rw [ex, ey, eu, ew]⟩)))))
  · rw [if_neg (by decide), if_neg (by decide), if_neg (by decide), if_neg (by decide), if_neg (by decide), if_neg (by decide)] at hv
    obtain ⟨x, hx, hv⟩ := sB_inv hv
    obtain ⟨b1, x', lx, ex⟩ := pNum_n (h := 60) (by decide) l2.2 hx
    cases hv
    exact Or.inr (Or.inr (Or.inr (Or.inr (Or.inr (Or.inr ⟨x', lx, by rw [ex]⟩)))))
theorem cN_cB {i : Int32} {M x : Nat} : cN c i (nI x) = nI (cB i M x c) := by
  unfold cN cB
  split
  · exact nI_1 x
  · rfl
theorem pCity_cl : ∀ (t m nc ns ng p : Nat) (l : List Cl), p ≤ n → nc ≤ 10 → ns ≤ 8 → ng ≤ 8 → pCity B n t m (nI nc) (nI ns) (nI ng) p = .inl l → ClsOK l nc ns ng
  | 0, m, nc, ns, ng, p, l, _, _, _, _, h => by
    rw [pCity] at h
    cases h
    trivial
  | t + 1, m, nc, ns, ng, p, l, hp, hnc, hns, hng, h => by
    rw [pCity] at h
    split at h
    · obtain ⟨c, hc, h⟩ := sB_inv h
      obtain ⟨l', hl, h⟩ := sB_inv h
      cases h
      have l1 := skB_le (B := B) hp
      obtain ⟨_, b1, b2, b3, b4⟩ := pClause_ok (c := c.1) (e := c.2) l1.2 hnc hns hng hc
      rw [cN_cB (M := 10), cN_cB (M := 8), cN_cB (M := 8)] at hl
      exact ⟨pClause_cl (c := c.1) (e := c.2) l1.2 hnc hns hng hc, pCity_cl t (m + 1) _ _ _ c.2 l' b1 b2 b3 b4 hl⟩
    · cases h
      trivial
end CLS
