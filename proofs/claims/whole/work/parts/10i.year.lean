/-! Pure: a year ends alike -/
section YAL
variable {ns s t k m : Nat} {f g h h2 : Nat → Int32} {x y c : Int32} {A E A' E' : Nat → Bool}
theorem cl_rfE (hP : Pr ns g) (h8 : ns ≤ 8) (hs : s < 8) : rfE g ns s = clE g 8 s ∧ rfA g ns s = clA g 8 s := by
  unfold rfE clE rfA clA
  by_cases h0 : g s = -1
  · rw [spB_n h0, decide_eq_true h0]
    exact ⟨rfl, rfl⟩
  · obtain ⟨m, hC⟩ := hP.cp (hP.lt hs h0) h0
    have hm := hC.2.1
    have hs2 := hC.1
    have hl : ldN g s < 8 := by
      unfold ldN
      rw [hC.mt h8]
      split <;> omega
    rw [decide_eq_true hl, decide_eq_true hs2]
    exact ⟨rfl, rfl⟩
theorem cl_rfC (hP : Pr ns g) (h8 : ns ≤ 8) : clC g 8 = rfC g ns := by
  unfold clC rfC
  rw [sI_more h8 (fun k h1 h2 => by rw [spB_n (hP.2.1 k h1 h2).1]; rfl)]
  rw [sI_pair h8 hP.1 (P := fun s => spB g s && decide (g (8 + s) = 1)) (fun s _ hp => spB_m (by rw [Bool.and_eq_true] at hp; exact hp.1)),
    sI_pair h8 hP.1 (P := fun s => spB g s && decide (s < mtN g s)) (fun s _ hp => spB_m (by rw [Bool.and_eq_true] at hp; exact hp.1))]
  have pair : ∀ {s m : Nat}, s < ns → m < ns → (decide (g s = nI m) && spB g s) = true → Cp ns g s m := by
    intro s m hs hm h
    rw [Bool.and_eq_true, decide_eq_true_iff] at h
    obtain ⟨m2, hC⟩ := hP.cp hs (spB_m h.2)
    have e := hC.2.2.2.1
    rw [h.1] at e
    have hm2 := hC.2.1
    obtain rfl := (nI_eq (by omega) (by omega)).mp e
    exact hC
  have go := sI_turn (n := ns) (Q := fun s m => decide (g s = nI m) && spB g s) (A := fun s _ => decide (g (8 + s) = 1)) (B := fun s m => decide (s < m))
    (fun s m hs hm h => by
      have hC := pair hs hm h
      show (decide (g m = nI s) && spB g m) = true
      rw [hC.2.2.2.2.1, hC.sps h8, decide_eq_true rfl]
      rw [Bool.and_eq_true] at h
      exact h.2)
    (fun s m hs hm h => by
      have hC := pair hs hm h
      show decide (g (8 + m) = 1) = !decide (g (8 + s) = 1)
      rcases hC.2.2.2.2.2.1 with ⟨z1, z2⟩ | ⟨z1, z2⟩ <;> rw [z1, z2] <;> decide)
    (fun s m hs hm h => by
      have hC := pair hs hm h
      have hne := hC.2.2.1
      show decide (m < s) = !decide (s < m)
      by_cases z : s < m
      · rw [decide_eq_true z, decide_eq_false (by omega)]; rfl
      · rw [decide_eq_false z, decide_eq_true (by omega)]; rfl)
  refine Eq.trans (Eq.trans (sI_congr (fun s hs => sI_congr (fun m hm => ?_))) go) (sI_congr (fun s hs => sI_congr (fun m hm => ?_)))
  · show (if (decide (g s = nI m) && (spB g s && decide (g (8 + s) = 1))) = true then (1 : Int32) else 0) = if (decide (g s = nI m) && spB g s && decide (g (8 + s) = 1)) = true then 1 else 0
    rw [Bool.and_assoc]
  · show (if (decide (g s = nI m) && spB g s && decide (s < m)) = true then (1 : Int32) else 0) = if (decide (g s = nI m) && (spB g s && decide (s < mtN g s))) = true then 1 else 0
    rw [← Bool.and_assoc]
    cases hq : (decide (g s = nI m) && spB g s) with
    | false => rfl
    | true => rw [(pair hs hm hq).mt h8]
theorem Rw.eqF (hR : Rw ns f h) (h8 : ns ≤ 8) (e0 : ∀ s, s < 8 → h2 s = h s) (e1 : ∀ s, s < 8 → h2 (8 + s) = h (8 + s)) (e2 : ∀ s, s < 8 → h2 (16 + s) = h (16 + s)) (e3 : ∀ s, s < 8 → h2 (24 + s) = h (24 + s)) (e4 : ∀ s, s < 8 → h2 (32 + s) = h (32 + s)) (e5 : h2 40 = h 40) (e6 : h2 41 = h 41) : Rw ns f h2 := by
  obtain ⟨⟨h1, h2', h3, h4, h5, h6, h7⟩, p1, p2, p3, p4, p5⟩ := hR
  refine ⟨⟨fun k hk => ?_, fun k hk => ?_, fun k hk => ?_, fun k hk => ?_, fun k hk => ?_, ?_, ?_⟩, wfM_cg p1 (fun k hk => e0 k (by omega)), fun k hk hk8 => ?_, fun k j hk hj he => ?_, fun k hk => ?_, ?_⟩
  · rw [e0 k hk]; exact h1 k hk
  · rw [e0 k hk, e1 k hk]; exact h2' k hk
  · rw [e2 k hk]; exact h3 k hk
  · rw [e3 k hk]; exact h4 k hk
  · rw [e4 k hk]; exact h5 k hk
  · rw [e5]; exact h6
  · rw [e6]; exact h7
  · rw [e0 k hk8, e2 k hk8, e4 k hk8, e3 k hk8]; exact p2 k hk hk8
  · rw [e0 k (by omega)] at he
    rw [e1 k (by omega), e1 j (by omega), e2 k (by omega), e2 j (by omega)]; exact p3 k j hk hj he
  · rw [e4 k hk]; exact p4 k hk
  · rw [e5]; exact p5
theorem st_eqF {Y X : Nat → Int32} (h8 : ns ≤ 8) (hR : Rw ns f Y) (S1 : StD g A E c Y) (S5 : StD g A E c X) : Rw ns f X := by
  obtain ⟨a0, a1, a2, a3, a4, a5, a6⟩ := S1
  obtain ⟨b0, b1, b2, b3, b4, b5, b6⟩ := S5
  exact hR.eqF h8 (fun s hs => (b0 s hs).trans (a0 s hs).symm) (fun s hs => (b1 s hs).trans (a1 s hs).symm) (fun s hs => (b2 s hs).trans (a2 s hs).symm) (fun s hs => (b3 s hs).trans (a3 s hs).symm) (fun s hs => (b4 s hs).trans (a4 s hs).symm) (b5.trans a5.symm) (b6.trans a6.symm)
theorem rw_put40 {v : Nat} (hR : Rw ns f g) (h8 : ns ≤ 8) (hv : v ≤ 200) : Rw ns (upd f 40 (nI v)) (upd g 40 (nI v)) := by
  obtain ⟨⟨h1, h2', h3, h4, h5, h6, h7⟩, p1, p2, p3, p4, p5⟩ := hR
  refine ⟨⟨fun k hk => ?_, fun k hk => ?_, fun k hk => ?_, fun k hk => ?_, fun k hk => ?_, ?_, ?_⟩, wfM_cg p1 (fun k hk => ?_), fun k hk hk8 => ?_, fun k j hk hj he => ?_, fun k hk => ?_, ?_⟩
  · simp (disch := omega) only [upd_ne, h1]
  · simp (disch := omega) only [upd_ne, h2']
  · simp (disch := omega) only [upd_ne, h3]
  · simp (disch := omega) only [upd_ne, h4]
  · simp (disch := omega) only [upd_ne, h5]
  · simp (disch := omega) only [upd_eq]
  · simp (disch := omega) only [upd_ne, h7]
  · simp (disch := omega) only [upd_ne]
  · simp (disch := omega) only [upd_ne]; exact p2 k hk hk8
  · simp (disch := omega) only [upd_ne] at he ⊢; exact p3 k j hk hj he
  · simp (disch := omega) only [upd_ne]; exact p4 k hk
  · exact ⟨v, hv, upd_eq⟩
theorem rw_turn (hR : Rw ns f g) (h8 : ns ≤ 8) : (lfTurn f).1 = (mTurn ns g).1 ∧ Rw ns (lfTurn f).2 (mTurn ns g).2 := by
  obtain ⟨v, hv, ev⟩ := hR.2.2.2.2.2
  have r40 : rAt f 42 40 = nI v := by
    rw [show rAt f 42 40 = f 40 from rAt_nI (k := 40) f (by decide) (by decide), hR.1.2.2.2.2.2.1, ev]
  have p40 : ∀ (u : Nat → Int32) (x : Int32), rPut u 42 40 x = upd u 40 x := fun u x => rPut_nI (k := 40) u (by decide) (by decide) x
  unfold lfTurn mTurn
  rw [r40, ev, p40, nI_1]
  by_cases c : v = 200
  · subst c
    rw [if_neg (by decide), if_pos (by decide)]
    exact ⟨rfl, hR⟩
  · rw [if_pos (show nI v < 200 from (nI_ltI (b := 200) (show v < 2 ^ 31 by omega) (by decide)).mpr (by omega)), if_neg (show ¬ nI v = 200 from fun z => c ((nI_eq (b := 200) (show v < 2 ^ 31 by omega) (by decide)).mp z))]
    refine ⟨rfl, ?_⟩
    have R1 := rw_put40 (v := v + 1) hR h8 (by omega)
    generalize upd f 40 (nI (v + 1)) = f1 at *
    generalize upd g 40 (nI (v + 1)) = g1 at *
    have R2 := rw_ages R1 h8 8 (Nat.le_refl _)
    have S1 := cl_loop R1.2 h8 8 (Nat.le_refl _)
    have a0 : ∀ s, rfA g1 0 s = false := fun s => by unfold rfA; rw [decide_eq_false (show ¬ s < 0 by omega), Bool.and_false]
    have e0 : ∀ s, rfE g1 0 s = false := fun s => by unfold rfE; rw [decide_eq_false (show ¬ s < 0 by omega), decide_eq_false (show ¬ mtN g1 s < 0 by omega)]; exact Bool.and_false _
    have S0 : StD g1 (rfA g1 0) (fun _ => false) (g1 41) g1 := by
      refine ⟨fun s _ => ?_, fun s _ => ?_, fun s _ => ?_, fun s _ => ?_, fun s _ => ?_, rfl, rfl⟩
      · rfl
      · rfl
      · rw [a0]; rfl
      · rfl
      · rw [a0]; rfl
    have S2 := rf_ages R1.2 h8 ns 0 g1 (by omega) S0
    have S3 : StD g1 (rfA g1 ns) (rfE g1 0) (g1 41 + rfC g1 0) (lpM mAge ns 0 g1) := by
      rw [show rfC g1 0 = 0 from rfl, Int32.add_zero]
      exact st_cg S2 (fun _ _ => rfl) (fun s _ => e0 s)
    have S4 := rf_split R1.2 h8 ns 0 _ (by omega) S3
    rw [← cl_rfC R1.2 h8] at S4
    generalize lpM mSplit ns 0 (lpM mAge ns 0 g1) = X at *
    have S5 : StD g1 (clA g1 8) (clE g1 8) (g1 41 + clC g1 8) X := st_cg S4 (fun s hs => ((cl_rfE R1.2 h8 hs).2).symm) (fun s hs => ((cl_rfE R1.2 h8 hs).1).symm)
    have R3 : Rw ns (lfAges f1 8) X := st_eqF h8 R2 S1 S5
    clear S1 S4 S5 S2 S3 S0
    generalize lfAges f1 8 = Z at *
    exact R3
end YAL
