/-! Pure: the reference's two loops; the year -/
section YLQ
variable {ns s t k m : Nat} {f g h : Nat → Int32} {x y c : Int32} {A E A' E' : Nat → Bool}
def rfA (g : Nat → Int32) (k s : Nat) : Bool := !decide (g s = -1) && decide (s < k)
def rfE (g : Nat → Int32) (k s : Nat) : Bool := spB g s && (decide (s < k) || decide (mtN g s < k))
def rfC (g : Nat → Int32) (k : Nat) : Int32 := sI (fun s => if (spB g s && decide (s < mtN g s)) = true then 1 else 0) k
theorem spB_n (h0 : g s = -1) : spB g s = false := by
  cases h : spB g s with
  | false => rfl
  | true => exact absurd h0 (spB_m h)
theorem rf_ages (hP : Pr ns g) (h8 : ns ≤ 8) : ∀ (u k : Nat) (h : Nat → Int32), k + u = ns → StD g (rfA g k) (fun _ => false) c h → StD g (rfA g ns) (fun _ => false) c (lpM mAge u k h) := by
  intro u
  induction u with
  | zero =>
    intro k h hk hS
    obtain rfl : k = ns := by omega
    exact hS
  | succ u ih =>
    intro k h hk hS
    refine ih (k + 1) (mAge k h) (by omega) ?_
    have oth : ∀ s, s < 8 → s ≠ k → rfA g (k + 1) s = rfA g k s := by
      intro s _ hs
      unfold rfA
      rw [show decide (s < k + 1) = decide (s < k) from decide_eq_decide.mpr (by omega)]
    have ak : rfA g k k = false := by unfold rfA; rw [decide_eq_false (Nat.lt_irrefl k), Bool.and_false]
    by_cases h0 : g k = -1
    · have hk0 := hS.1 k (by omega)
      rw [if_neg (show ¬ false = true by decide), h0] at hk0
      have : mAge k h = h := by unfold mAge; rw [if_pos hk0]
      rw [this]
      refine st_cg hS (fun s hs => ?_) (fun _ _ => rfl)
      by_cases e : s = k
      · rw [e, ak]; unfold rfA; rw [decide_eq_true h0]; rfl
      · exact oth s hs e
    · exact st_age1 (by omega) h0 hS rfl ak (fun s hs c1 => oth s hs c1) (by unfold rfA; rw [decide_eq_false h0, decide_eq_true (Nat.lt_succ_self k)]; rfl)
theorem rf_split (hP : Pr ns g) (h8 : ns ≤ 8) : ∀ (u k : Nat) (h : Nat → Int32), k + u = ns → StD g (rfA g ns) (rfE g k) (g 41 + rfC g k) h → StD g (rfA g ns) (rfE g ns) (g 41 + rfC g ns) (lpM mSplit u k h) := by
  intro u
  induction u with
  | zero =>
    intro k h hk hS
    obtain rfl : k = ns := by omega
    exact hS
  | succ u ih =>
    intro k h hk hS
    refine ih (k + 1) (mSplit k h) (by omega) ?_
    have cC : rfC g (k + 1) = rfC g k + (if (spB g k && decide (k < mtN g k)) = true then 1 else 0) := rfl
    rw [cC]
    have hk0 := hS.1 k (by omega)
    -- nothing to do
    have same : (∀ s, s < 8 → spB g s = true → (s = k ∨ mtN g s = k) → rfE g k s = true) → (spB g k && decide (k < mtN g k)) = false → mSplit k h = h → StD g (rfA g ns) (rfE g (k + 1)) (g 41 + (rfC g k + (if (spB g k && decide (k < mtN g k)) = true then 1 else 0))) (mSplit k h) := by
      intro c1 c2 c3
      rw [c2, c3, if_neg (by decide), Int32.add_zero]
      refine st_cg hS (fun _ _ => rfl) (fun s hs => ?_)
      cases hb : spB g s with
      | false => unfold rfE; rw [hb]; rfl
      | true =>
        by_cases cc : s = k ∨ mtN g s = k
        · rw [c1 s hs hb cc]
          unfold rfE
          rw [hb]
          rcases cc with z | z
          · rw [decide_eq_true (show s < k + 1 by omega)]; rfl
          · rw [decide_eq_true (show mtN g s < k + 1 by omega), Bool.or_true]; rfl
        · unfold rfE
          rw [show decide (s < k + 1) = decide (s < k) from decide_eq_decide.mpr (by omega), show decide (mtN g s < k + 1) = decide (mtN g s < k) from decide_eq_decide.mpr (by omega)]
    by_cases h0 : g k = -1
    · have es := spB_n h0
      refine same (fun s hs hb cc => ?_) (by rw [es]; rfl) ?_
      · rcases cc with z | z
        · rw [z, es] at hb; cases hb
        · obtain ⟨m, hC⟩ := hP.cp (hP.lt hs (spB_m hb)) (spB_m hb)
          rw [hC.mt h8] at z
          subst z
          exact absurd h0 (hC.flip.un h8)
      · rw [h0] at hk0
        have : h k = -1 := by rw [hk0]; split <;> rfl
        unfold mSplit
        rw [if_pos this]
    · obtain ⟨m, hC⟩ := hP.cp (show k < ns by omega) h0
      have hm := hC.2.1
      have hne := hC.2.2.1
      have mk := hC.mt h8
      have mm := hC.flip.mt h8
      have sk := hC.sp h8
      have sm := hC.sps h8
      have a1 : rfA g ns k = true := by unfold rfA; rw [decide_eq_false h0, decide_eq_true (show k < ns by omega)]; rfl
      have a2 : rfA g ns m = true := by unfold rfA; rw [decide_eq_false (hC.flip.un h8), decide_eq_true (show m < ns by omega)]; rfl
      have v1 := hS.2.2.2.2.1 k (by omega)
      rw [a1, if_pos rfl] at v1
      have v2 := hS.2.2.2.2.1 m (by omega)
      rw [a2, if_pos rfl] at v2
      have who : ∀ s, s < 8 → spB g s = true → (s = k ∨ mtN g s = k) → s = k ∨ s = m := by
        intro s hs hb cc
        rcases cc with z | z
        · exact Or.inl z
        · obtain ⟨m2, hC2⟩ := hP.cp (hP.lt hs (spB_m hb)) (spB_m hb)
          rw [hC2.mt h8] at z
          subst z
          exact Or.inr (hC2.flip.one hC h8)
      rcases Bool.eq_false_or_eq_true (spB g k) with hb | hb
      rotate_left
      · rw [hb] at sm sk
        have ek : rfE g k k = false := by unfold rfE; rw [hb]; rfl
        rw [ek, if_neg (by decide), hC.2.2.2.1] at hk0
        have hlt : hA g k + hA g m < 10 := by
          by_cases cs : hA g k + hA g m < 10
          · exact cs
          · rw [decide_eq_false cs] at sk; cases sk
        refine same (fun s hs hb2 cc => ?_) (by rw [hb]; rfl) ?_
        · rcases who s hs hb2 cc with z | z
          · rw [z, hb] at hb2; cases hb2
          · rw [z, sm] at hb2; cases hb2
        · unfold mSplit
          rw [if_neg (by rw [hk0]; exact nI_n1 (by omega)), hk0, nI_clamp (by omega), v1, v2, if_pos hlt]
      · rw [hb] at sm sk
        have hge : ¬ hA g k + hA g m < 10 := by
          intro cs
          rw [decide_eq_true cs] at sk; cases sk
        by_cases ord : m < k
        · have ek : rfE g k k = true := by unfold rfE; rw [hb, mk, decide_eq_true ord, Bool.or_true]; rfl
          have em : rfE g k m = true := by unfold rfE; rw [sm, decide_eq_true ord]; rfl
          rw [ek, if_pos rfl] at hk0
          refine same (fun s hs hb2 cc => ?_) (by rw [mk, decide_eq_false (by omega), Bool.and_false]) ?_
          · rcases who s hs hb2 cc with z | z
            · rw [z]; exact ek
            · rw [z]; exact em
          · unfold mSplit
            rw [if_pos hk0]
        · have ek : rfE g k k = false := by unfold rfE; rw [hb, mk, decide_eq_false ord, decide_eq_false (Nat.lt_irrefl k)]; rfl
          have em : rfE g k m = false := by unfold rfE; rw [sm, mm, decide_eq_false ord, decide_eq_false (Nat.lt_irrefl k)]; rfl
          rw [ek, if_neg (by decide), hC.2.2.2.1] at hk0
          rw [hb, mk, decide_eq_true (show k < m by omega), if_pos (show (true && true) = true from rfl), ← Int32.add_assoc]
          unfold mSplit
          rw [if_neg (by rw [hk0]; exact nI_n1 (by omega)), hk0, nI_clamp (by omega), v1, v2, if_neg hge]
          refine st_part h8 hC hS ek em (fun s hs c1 c2 => ?_) (by unfold rfE; rw [hb, decide_eq_true (Nat.lt_succ_self k)]; rfl) (by unfold rfE; rw [sm, mm, decide_eq_true (Nat.lt_succ_self k), Bool.or_true]; rfl)
          cases hs2 : spB g s with
          | false => unfold rfE; rw [hs2]; rfl
          | true =>
            have n1 : mtN g s ≠ k := by
              intro z
              rcases who s hs hs2 (Or.inr z) with z2 | z2
              · exact c1 z2
              · exact c2 z2
            unfold rfE
            rw [show decide (s < k + 1) = decide (s < k) from decide_eq_decide.mpr (by omega), show decide (mtN g s < k + 1) = decide (mtN g s < k) from decide_eq_decide.mpr (by omega)]
end YLQ
