/-! Pure: the class's year, said by the reference's rows -/
def mJb (u : Nat → Int32) (y : Int32) (s m : Nat) : Nat → Int32 := if y + 1 - (y + 1) / 25 * 25 = 0 then upd (upd u (32 + s) 0) (32 + m) 0 else u
def mSp2 (u : Nat → Int32) (s m : Nat) : Nat → Int32 := if u (32 + s) + u (32 + m) < 10 then u else mPart u s m
def mPA (h : Nat → Int32) (s m : Nat) : Nat → Int32 := mSp2 (mJb (upd (upd h (16 + s) (h (16 + s) + 1)) (16 + m) (h (16 + s) + 1)) (h (16 + s)) s m) s m
def mPL (g : Nat → Int32) : Nat → Nat → Int32
  | 0 => g
  | k + 1 => if roC (mPL g k k) (mPL g k (8 + k)) = 1 then mPA (mPL g k) k (mPL g k k).toNatClampNeg else mPL g k
section YRL
variable {ns s t k m : Nat} {f g : Nat → Int32} {x y : Int32}
theorem rw_years (hR : Rw ns f g) (h8 : ns ≤ 8) (hs : s < ns) (hm : m < ns) (hne : s ≠ m) (e1 : g s = nI m) (e2 : g m = nI s) : Rw ns (upd (upd f (16 + s) y) (16 + m) y) (upd (upd g (16 + s) y) (16 + m) y) := by
  obtain ⟨⟨h1, h2, h3, h4, h5, h6, h7⟩, p1, p2, p3, p4, p5⟩ := hR
  refine ⟨⟨fun k hk => ?_, fun k hk => ?_, fun k hk => ?_, fun k hk => ?_, fun k hk => ?_, ?_, ?_⟩, wfM_cg p1 (fun k hk => ?_), fun k hk hk8 => ?_, fun k j hk hj he => ?_, fun k hk => ?_, ?_⟩
  · simp (disch := omega) only [upd_ne, h1]
  · simp (disch := omega) only [upd_ne, h2]
  · by_cases c1 : k = s
    · subst c1; simp (disch := omega) only [upd_eq, upd_ne]
    by_cases c2 : k = m
    · subst c2; simp (disch := omega) only [upd_eq]
    simp (disch := omega) only [upd_ne, h3]
  · simp (disch := omega) only [upd_ne, h4]
  · simp (disch := omega) only [upd_ne, h5]
  · simp (disch := omega) only [upd_ne, h6]
  · simp (disch := omega) only [upd_ne, h7]
  · simp (disch := omega) only [upd_ne]
  · simp (disch := omega) only [upd_ne]; exact p2 k hk hk8
  · simp (disch := omega) only [upd_ne] at he
    have q3 := p3 k j hk hj he
    by_cases c1 : k = s
    · subst c1
      rw [e1] at he
      obtain rfl := (nI_eq (by omega) (by omega)).mp he
      simp (disch := omega) only [upd_eq, upd_ne]
      exact ⟨q3.1, trivial⟩
    by_cases c2 : k = m
    · subst c2
      rw [e2] at he
      obtain rfl := (nI_eq (by omega) (by omega)).mp he
      simp (disch := omega) only [upd_eq, upd_ne]
      exact ⟨q3.1, trivial⟩
    obtain ⟨c3, c4⟩ := wfM_else p1 h8 hs hm e1 e2 hk hj he c1 c2
    simp (disch := omega) only [upd_ne]
    exact q3
  · simp (disch := omega) only [upd_ne]; exact p4 k hk
  · simp (disch := omega) only [upd_ne]; exact p5
theorem rw_age (hR : Rw ns f g) (h8 : ns ≤ 8) (hs : s < ns) (hm : m < ns) (hne : s ≠ m) (e1 : g s = nI m) (e2 : g m = nI s) : Rw ns (lfAge f (nI s) (nI m)) (mPA g s m) := by
  have ey : lfYears f (nI s) = g (16 + s) := by rw [kY (by omega), hR.1.2.2.1 s (by omega)]
  unfold lfAge lfYears2 mPA
  rw [ey, o16, o16, rPut_nI _ (by decide) (by omega), rPut_nI _ (by decide) (by omega)]
  have r1 := rw_years (y := g (16 + s) + 1) hR h8 hs hm hne e1 e2
  have m1 : upd (upd g (16 + s) (g (16 + s) + 1)) (16 + m) (g (16 + s) + 1) s = nI m := by simp (disch := omega) only [upd_ne]; exact e1
  have m2 : upd (upd g (16 + s) (g (16 + s) + 1)) (16 + m) (g (16 + s) + 1) m = nI s := by simp (disch := omega) only [upd_ne]; exact e2
  generalize upd (upd g (16 + s) (g (16 + s) + 1)) (16 + m) (g (16 + s) + 1) = g1 at *
  generalize upd (upd f (16 + s) (g (16 + s) + 1)) (16 + m) (g (16 + s) + 1) = f1 at *
  have r2 : Rw ns (lfJub f1 (g (16 + s)) (nI s) (nI m)) (mJb g1 (g (16 + s)) s m) ∧ mJb g1 (g (16 + s)) s m s = nI m ∧ mJb g1 (g (16 + s)) s m m = nI s := by
    unfold lfJub mJb
    rw [kSH (by omega), kSH (by omega)]
    by_cases c : g (16 + s) + 1 - (g (16 + s) + 1) / 25 * 25 = 0
    · rw [if_pos c, if_pos c]
      refine ⟨rw_put32 (h := 0) (rw_put32 (h := 0) r1 h8 hs (by omega)) h8 hm (by omega), ?_, ?_⟩
      · simp (disch := omega) only [upd_ne]; exact m1
      · simp (disch := omega) only [upd_ne]; exact m2
    · rw [if_neg c, if_neg c]
      exact ⟨r1, m1, m2⟩
  obtain ⟨r2, n1, n2⟩ := r2
  generalize mJb g1 (g (16 + s)) s m = g2 at *
  generalize lfJub f1 (g (16 + s)) (nI s) (nI m) = f2 at *
  unfold lfSplit mSp2
  rw [kH (by omega), kH (by omega), r2.1.2.2.2.2.1 s (by omega), r2.1.2.2.2.2.1 m (by omega)]
  by_cases c : g2 (32 + s) + g2 (32 + m) < 10
  · rw [if_pos c, if_pos c]; exact r2
  · rw [if_neg c, if_neg c]; exact (rw_part r2 h8 hs hm hne n1 n2).2
theorem rw_ages (hR : Rw ns f g) (h8 : ns ≤ 8) : ∀ k, k ≤ 8 → Rw ns (lfAges f k) (mPL g k)
  | 0, _ => hR
  | k + 1, hk => by
    have ih := rw_ages hR h8 k (by omega)
    rw [lfAges, mPL, kR (by omega), kM (by omega), ih.1.2.1 k (by omega), ih.1.1 k (by omega)]
    by_cases c : roC (mPL g k k) (mPL g k (8 + k)) = 1
    · rw [if_pos c, if_pos c]
      have hkn : k < ns := by
        rcases Nat.lt_or_ge k ns with z | z
        · exact z
        · rw [(ih.2.2.1 k z (by omega)).1, roC_m] at c
          exact absurd c (by decide)
      rcases ih.2.1 k hkn with h0 | ⟨m, hm, hne, q1, q2⟩
      · rw [h0, roC_m] at c
        exact absurd c (by decide)
      · rw [q1, nI_clamp (by omega)]
        exact rw_age ih h8 hkn hm (fun z => hne z.symm) q1 q2
    · rw [if_neg c, if_neg c]
      exact ih
end YRL
