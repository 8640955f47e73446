/-! Pure: futures alike -/
section SPN
variable {ns s t k m : Nat} {f g h : Nat → Int32} {q c w : Int32} {a b : IA}
theorem Rw.d0 {D E : Nat → Int32} (hR : Rw ns f g) (h8 : ns ≤ 8) : Rw ns (fun j => if j < 42 then f j else D j) (fun j => if j < 42 then g j else E j) := by
  obtain ⟨⟨h1, h2, h3, h4, h5, h6, h7⟩, hP⟩ := hR
  have e : ∀ {u v : Nat → Int32} {j : Nat}, j < 42 → (fun j => if j < 42 then u j else v j) j = u j := fun hj => if_pos hj
  have R0 : Rw ns (fun j => if j < 42 then f j else D j) g := by
    refine ⟨⟨fun k hk => ?_, fun k hk => ?_, fun k hk => ?_, fun k hk => ?_, fun k hk => ?_, ?_, ?_⟩, hP⟩
    · rw [e (by omega)]; exact h1 k hk
    · rw [e (by omega)]; exact h2 k hk
    · rw [e (by omega)]; exact h3 k hk
    · rw [e (by omega)]; exact h4 k hk
    · rw [e (by omega)]; exact h5 k hk
    · exact h6
    · exact h7
  exact R0.eqF h8 (fun k hk => e (by omega)) (fun k hk => e (by omega)) (fun k hk => e (by omega)) (fun k hk => e (by omega)) (fun k hk => e (by omega)) (e (by decide)) (e (by decide))
theorem lo_eq (x y : Int32) : (if x < y then x else y) = if x ≤ y then x else y := by
  by_cases h : x < y
  · rw [if_pos h, if_pos (Int32.le_of_lt h)]
  · rw [if_neg h]
    by_cases h2 : x ≤ y
    · rw [if_pos h2]; exact Int32.le_antisymm (Int32.not_lt.mp h) h2
    · rw [if_neg h2]
theorem hi_eq (x y : Int32) : (if x < y then y else x) = if x ≤ y then y else x := by
  by_cases h : x < y
  · rw [if_pos h, if_pos (Int32.le_of_lt h)]
  · rw [if_neg h]
    by_cases h2 : x ≤ y
    · rw [if_pos h2]; exact Int32.le_antisymm h2 (Int32.not_lt.mp h)
    · rw [if_neg h2]
theorem mCoup_n (g : Nat → Int32) : ∀ n, ∃ c, c ≤ n ∧ mCoup g n = nI c
  | 0 => ⟨0, by omega, rfl⟩
  | n + 1 => by
    obtain ⟨c, hc, e⟩ := mCoup_n g n
    unfold mCoup at e ⊢
    rw [sI, e]
    by_cases h : g n ≤ nI n
    · exact ⟨c, by omega, by rw [if_pos h, Int32.add_zero]⟩
    · exact ⟨c + 1, by omega, by rw [if_neg h, nI_1]⟩
/-- the span's state after some futures -/
def SnR (ns : Nat) (x : Sn) (y : Mn) : Prop := (x.1 = y.1 ∧ ¬ y.1 = -1 ∨ x.1 = 8 ∧ y.1 = -1) ∧ x.2.1 = y.2.1 ∧ x.2.2.1 = y.2.2.1
theorem sn_lo {x1 y1 v : Int32} {c : Nat} (hc8 : c ≤ 8) (ec : v = nI c) (r1 : x1 = y1 ∧ ¬ y1 = -1 ∨ x1 = 8 ∧ y1 = -1) :
    (if v < x1 then v else x1) = (if y1 = -1 then v else if v ≤ y1 then v else y1) ∧ ¬ (if y1 = -1 then v else if v ≤ y1 then v else y1) = -1 := by
  have hn1 : ¬ v = -1 := by rw [ec]; exact nI_n1 (by omega)
  rcases r1 with ⟨z1, z2⟩ | ⟨z1, z2⟩
  · rw [z1, if_neg z2, lo_eq]
    refine ⟨rfl, ?_⟩
    split
    · exact hn1
    · exact z2
  · rw [z2, if_pos rfl, z1]
    refine ⟨?_, hn1⟩
    by_cases hlt : v < 8
    · rw [if_pos hlt]
    · rw [if_neg hlt]
      rw [ec] at hlt ⊢
      have : c = 8 := by
        rcases Nat.lt_or_ge c 8 with z | z
        · exact absurd ((nI_ltI (b := 8) (show c < 2 ^ 31 by omega) (by decide)).mpr z) hlt
        · omega
      rw [this]; rfl
theorem sn_step {sd : Int32} {n : Nat} {x : Sn} {y : Mn} (h8 : ns ≤ 8) (hs : s < ns) (hR : Rw ns (a 44) (b 582)) (hS : SnR ns x y) :
    SnR ns (snT a (nI ns) sd q n (nI s) k x) (mSnS b ns s q sd n k y) ∧ ¬ (mSnS b ns s q sd n k y).1 = -1 := by
  obtain ⟨D', hD⟩ : ∃ D', D' = snD a (nI ns) sd q n k x.2.2.2 := ⟨_, rfl⟩
  obtain ⟨E', hE⟩ : ∃ E', E' = mCnX (dH b y.2.2.2.1 y.2.2.2.2.1 y.2.2.2.2.2) ns q (sd + nI k) n := ⟨_, rfl⟩
  obtain ⟨v, hv⟩ : ∃ v, v = mCoup E'.2.2 ns := ⟨_, rfl⟩
  have hRD : Rw ns D' E'.2.2 := by
    rw [hD, hE]
    unfold snD
    refine (rw_cen h8 ?_).2.2
    unfold mD0
    rw [dH_q (show (582 : Nat) ≠ 583 by decide) (show (582 : Nat) ≠ 60 by decide)]
    exact hR.d0 h8
  have hc : cpl D' = v := by rw [hv]; exact rw_cpl hRD h8
  obtain ⟨c, hc8, ec⟩ := mCoup_n E'.2.2 ns
  rw [← hv] at ec
  have hm : lfMate D' (nI s) = E'.2.2 s := (kM (by omega)).trans (hRD.1.1 s (by omega))
  have hn1 : ¬ v = -1 := by rw [ec]; exact nI_n1 (by omega)
  rw [snT_1 hD, mSnS_1 hE hv, hc, hm]
  clear hD hE hv hRD hc hm
  have lo := sn_lo (c := c) (by omega) ec hS.1
  unfold mSnT
  refine ⟨⟨Or.inl lo, ?_, ?_⟩, lo.2⟩
  · show (if x.2.1 < v then v else x.2.1) = if y.2.1 ≤ v then v else y.2.1
    rw [hS.2.1]
    exact hi_eq y.2.1 v
  · show (if E'.2.2 s = -1 then x.2.2.1 + 0 else x.2.2.1 + 1) = y.2.2.1 + (if E'.2.2 s = -1 then 0 else 1)
    rw [hS.2.2]
    split <;> rfl
/-- all the futures -/
theorem sn_run {sd : Int32} {n : Nat} (h8 : ns ≤ 8) (hs : s < ns) (hR : Rw ns (a 44) (b 582)) : ∀ (u k : Nat) (x : Sn) (y : Mn), SnR ns x y → (0 < u ∨ ¬ y.1 = -1) → SnR ns (lpM (snT a (nI ns) sd q n (nI s)) u k x) (lpM (mSnS b ns s q sd n) u k y) ∧ ¬ (lpM (mSnS b ns s q sd n) u k y).1 = -1 := by
  intro u
  induction u with
  | zero =>
    intro k x y h h1
    exact ⟨h, h1.elim (fun z => absurd z (by decide)) id⟩
  | succ u ih =>
    intro k x y h _
    have st := sn_step (k := k) (sd := sd) (q := q) (n := n) h8 hs hR h
    exact ih (k + 1) _ _ st.1 (Or.inr st.2)
theorem rw_span {sd : Int32} {n m : Nat} (h8 : ns ≤ 8) (hs : s < ns) (hR : Rw ns (a 44) (b 582)) (hm : 1 ≤ m) : fSn (snX a (nI ns) sd q m n (nI s)) w = mSnV (mSnX b ns s q sd m n) w := by
  have h := sn_run (q := q) (sd := sd) (n := n) h8 hs hR m 0 (8, 0, 0, a 46) (-1, 0, 0, b 60 53, b 60 52, b 583) ⟨Or.inr ⟨rfl, rfl⟩, rfl, rfl⟩ (Or.inl (by omega))
  unfold snX mSnX
  generalize lpM (snT a (nI ns) sd q n (nI s)) m 0 (8, 0, 0, a 46) = X at *
  generalize lpM (mSnS b ns s q sd n) m 0 (-1, 0, 0, b 60 53, b 60 52, b 583) = Y at *
  obtain ⟨⟨h1, h2, h3⟩, h4⟩ := h
  unfold fSn mSnV
  rw [h2, h3, h1.elim (fun z => z.1) (fun z => absurd z.2 h4)]
end SPN
