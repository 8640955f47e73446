/-! Pure: couples, holes, years counted alike; years ahead -/
section CNT
variable {ns s t k m : Nat} {f g h : Nat → Int32} {x y c w : Int32}
theorem turn_gen {Z : Nat → Bool} (hP : Pr ns g) (h8 : ns ≤ 8) (hZ : ∀ s, Z s = true → ¬ g s = -1) (hZs : ∀ s m, Cp ns g s m → Z m = Z s) :
    sI (fun s => if (Z s && decide (g (8 + s) = 1)) = true then (1 : Int32) else 0) ns = sI (fun s => if (Z s && decide (s < mtN g s)) = true then 1 else 0) ns := by
  rw [sI_pair h8 hP.1 (P := fun s => Z s && decide (g (8 + s) = 1)) (fun s _ hp => hZ s (by rw [Bool.and_eq_true] at hp; exact hp.1)),
    sI_pair h8 hP.1 (P := fun s => Z s && decide (s < mtN g s)) (fun s _ hp => hZ s (by rw [Bool.and_eq_true] at hp; exact hp.1))]
  have pair : ∀ {s m : Nat}, s < ns → m < ns → (decide (g s = nI m) && Z s) = true → Cp ns g s m := by
    intro s m hs hm h
    rw [Bool.and_eq_true, decide_eq_true_iff] at h
    obtain ⟨m2, hC⟩ := hP.cp hs (hZ s h.2)
    have e := hC.2.2.2.1
    rw [h.1] at e
    have hm2 := hC.2.1
    obtain rfl := (nI_eq (by omega) (by omega)).mp e
    exact hC
  have go := sI_turn (n := ns) (Q := fun s m => decide (g s = nI m) && Z s) (A := fun s _ => decide (g (8 + s) = 1)) (B := fun s m => decide (s < m))
    (fun s m hs hm h => by
      have hC := pair hs hm h
      show (decide (g m = nI s) && Z m) = true
      rw [hC.2.2.2.2.1, hZs s m hC, decide_eq_true rfl]
      rw [Bool.and_eq_true] at h
      exact h.2)
    (fun s m hs hm h => by
      have hC := pair hs hm h
      show decide (g (8 + m) = 1) = !decide (g (8 + s) = 1)
      rcases hC.2.2.2.2.2.1 with ⟨z1, z2⟩ | ⟨z1, z2⟩ <;> rw [z1, z2] <;> decide)
    (fun s m hs hm h => by
      have hC := pair hs hm h
      have hne := hC.2.2.1
      show decide (m < s) = !decide (s < m)
      by_cases z : s < m
      · rw [decide_eq_true z, decide_eq_false (by omega)]; rfl
      · rw [decide_eq_false z, decide_eq_true (by omega)]; rfl)
  refine Eq.trans (Eq.trans (sI_congr (fun s hs => sI_congr (fun m hm => ?_))) go) (sI_congr (fun s hs => sI_congr (fun m hm => ?_)))
  · show (if (decide (g s = nI m) && (Z s && decide (g (8 + s) = 1))) = true then (1 : Int32) else 0) = if (decide (g s = nI m) && Z s && decide (g (8 + s) = 1)) = true then 1 else 0
    rw [Bool.and_assoc]
  · show (if (decide (g s = nI m) && Z s && decide (s < m)) = true then (1 : Int32) else 0) = if (decide (g s = nI m) && (Z s && decide (s < mtN g s))) = true then 1 else 0
    rw [← Bool.and_assoc]
    cases hq : (decide (g s = nI m) && Z s) with
    | false => rfl
    | true => rw [(pair hs hm hq).mt h8]
theorem m1_le (s : Nat) (h : s < 8) : (-1 : Int32) ≤ nI s := by
  have : s = 0 ∨ s = 1 ∨ s = 2 ∨ s = 3 ∨ s = 4 ∨ s = 5 ∨ s = 6 ∨ s = 7 := by omega
  rcases this with rfl | rfl | rfl | rfl | rfl | rfl | rfl | rfl <;> decide
theorem rw_cpl (hR : Rw ns f g) (h8 : ns ≤ 8) : cpl f = mCoup g ns := by
  have hP := hR.2
  unfold cpl mCoup
  have e1 : ∀ s, s < 8 → (if lfRole f (nI s) = 1 then (1 : Int32) else 0) = if (!decide (g s = -1) && decide (g (8 + s) = 1)) = true then 1 else 0 := by
    intro s hs
    rw [kR hs, hR.1.2.1 s hs]
    by_cases h0 : g s = -1
    · rw [h0, roC_m, decide_eq_true rfl]
      rfl
    · rw [decide_eq_false h0]
      by_cases h1 : g (8 + s) = 1
      · rw [h1, roC_1 h0, decide_eq_true rfl]; rfl
      · rw [decide_eq_false h1]
        unfold roC
        rw [if_neg h0, if_neg h1]
        decide
  rw [sI_congr e1, sI_more h8 (fun k h1 h2 => by rw [(hP.2.1 k h1 h2).1, decide_eq_true rfl]; rfl)]
  rw [turn_gen (Z := fun s => !decide (g s = -1)) hP h8 (fun s h z => by rw [decide_eq_true z] at h; cases h) (fun s m hC => by
    show (!decide (g m = -1)) = !decide (g s = -1)
    rw [decide_eq_false (hC.un h8), decide_eq_false (hC.flip.un h8)])]
  refine sI_congr (fun s hs => ?_)
  by_cases h0 : g s = -1
  · rw [decide_eq_true h0, h0, if_pos (m1_le s (by omega))]; rfl
  · obtain ⟨m, hC⟩ := hP.cp hs h0
    have hm := hC.2.1
    rw [decide_eq_false h0, hC.mt h8, hC.2.2.2.1]
    by_cases ord : s < m
    · rw [decide_eq_true ord, if_neg (show ¬ nI m ≤ nI s from fun z => absurd ((nI_leI (show m < 2 ^ 31 by omega) (by omega)).mp z) (by omega))]; rfl
    · rw [decide_eq_false ord, if_pos (nI_le (by omega) (by omega))]; rfl
theorem rw_hls (hR : Rw ns f g) (h8 : ns ≤ 8) : hls f = sI (fun s => g (32 + s)) ns := by
  unfold hls
  rw [sI_congr (fun s hs => (kH hs).trans (hR.1.2.2.2.2.1 s hs))]
  exact sI_more h8 (fun k h1 h2 => (hR.2.2.1 k h1 h2).2.2.1)
theorem mI_nn {f : Nat → Int32} : ∀ n, (0 : Int32) ≤ mI f n
  | 0 => Int32.le_refl _
  | n + 1 => by
    rw [mI]
    split
    · next h => exact Int32.le_trans (mI_nn n) (Int32.le_of_lt h)
    · exact mI_nn n
theorem mI_more {f : Nat → Int32} {n m : Nat} (h : n ≤ m) (hz : ∀ k, n ≤ k → k < m → f k = 0) : mI f m = mI f n := by
  obtain ⟨u, rfl⟩ : ∃ u, m = n + u := ⟨m - n, by omega⟩
  clear h
  induction u with
  | zero => rfl
  | succ u ih =>
    rw [← Nat.add_assoc, mI, ih (fun k h1 h2 => hz k h1 (by omega)), hz (n + u) (by omega) (by omega), if_neg]
    intro z
    exact absurd (Int32.le_trans (mI_nn n) (Int32.le_of_lt z)) (fun _ => (Int32.lt_irrefl (Int32.lt_of_le_of_lt (mI_nn n) z)))
theorem mI_lp {f : Nat → Int32} : ∀ (u k : Nat), lpM (fun s v => if v ≤ f s then f s else v) u k (mI f k) = mI f (k + u)
  | 0, k => rfl
  | u + 1, k => by
    have e : (if mI f k ≤ f k then f k else mI f k) = mI f (k + 1) := by
      rw [mI]
      by_cases c : mI f k < f k
      · rw [if_pos (Int32.le_of_lt c), if_pos c]
      · rw [if_neg c]
        by_cases c2 : mI f k ≤ f k
        · rw [if_pos c2]
          exact Int32.le_antisymm (Int32.not_lt.mp c) c2
        · rw [if_neg c2]
    show lpM (fun s v => if v ≤ f s then f s else v) u (k + 1) (if mI f k ≤ f k then f k else mI f k) = _
    rw [e, mI_lp u (k + 1)]
    congr 1
    omega
theorem rw_lgy (hR : Rw ns f g) (h8 : ns ≤ 8) : lgy f = mLong g ns := by
  unfold lgy mLong
  rw [mI_congr (fun s hs => (kY hs).trans (hR.1.2.2.1 s hs)), mI_more h8 (fun k h1 h2 => (hR.2.2.1 k h1 h2).2.1)]
  have := mI_lp (f := fun s => g (16 + s)) ns 0
  rw [Nat.zero_add] at this
  exact this.symm
theorem rw_ahD (h8 : ns ≤ 8) : ∀ (n k : Nat) (f g : Nat → Int32), Rw ns f g → Rw ns (lpM (fun _ D => (lfTurn D).2) n k f) (lpM (fun _ g => (mTurn ns g).2) n k g)
  | 0, _, _, _, h => h
  | n + 1, k, f, g, h => rw_ahD h8 n (k + 1) _ _ (rw_turn h h8).2
/-- what lies ahead is the same -/
theorem rw_ahead {n : Nat} (hR : Rw ns f g) (h8 : ns ≤ 8) : fAh (ahD n f) w = mAhV (mAhD ns n g) ns w := by
  have h := rw_ahD h8 n 0 f g hR
  unfold ahD mAhD
  generalize lpM (fun _ D => (lfTurn D).2) n 0 f = F at *
  generalize lpM (fun _ g => (mTurn ns g).2) n 0 g = X at *
  unfold fAh mAhV
  rw [rw_cpl h h8, rw_hls h h8, rw_lgy h h8]
end CNT
