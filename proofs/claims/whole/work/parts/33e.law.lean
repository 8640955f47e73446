/-! Calls that read a text: law -/
section TXL
variable {G : GE} {a b c A a1 a' : IA} {r r2 : RA} {T T' L L' M M' L2 L2' M2 M2' nc ns ng t wk im n m j d : Nat} {lw lw2 : List Int32} {ml ml2 : List Ln} {x f : Int32} {B : Nat → Int32} {g : Nat → Int32}
theorem h_law (h : Iv a r T T' L L' M M' nc ns ng t wk im lw ml) : Sp G 40 1 6 ML_law [.ref 0, .int x, .ref 877] (a, r, nK) (RI (HK G MX12_law [.int x])) := by
  obtain ⟨t6, t1, t2, tb⟩ := h.2.1
  have hR := h.1
  have cl := cells hR
  by_cases hx : inT x 0 (nI t) ∧ x ≤ 150
  · have hop : opOK a x 150 := (op_iff t1).mpr hx
    obtain ⟨n, _, ln, rfl⟩ := inT_y (lo := 0) (hi := t) (by decide) (by omega) hx.1
    have n150 : n ≤ 150 := le_nI (k := 150) (by omega) (by decide) hx.2
    have hB : By a (fun i => a 61 i) n := ⟨by omega, fun i hi => tb i (by omega)⟩
    refine V_L_law_0 (d := 39) ⟨rfl, by decide, Or.inl (Sp.up (by decide) (c_law (d := 0) h.rk hR.2.2.2.2.2.2.1 hR.2.2.2.2.2.2.2.1 hR.2.2.2.2.2.2.2.2.1 hR.2.2.2.2.2.2.2.2.2.1 hR.2.2.2.2.2.2.2.2.2.2.1 hop hB (fun l hl a' g p s ho hm hl0 hg => long_ok ⟨rfl, ?_⟩) (fun k q hk a' g p s ho hg => long_ok ⟨rfl, ?_⟩)))⟩
    · have aq : ∀ q, q ≠ 0 → q ≠ 2 → ¬ (q = L' ∨ q = L' + 1) → va_up a' 2 g q = a q := fun q k1 k2 k3 => by
        rw [va_up_ne _ _ k2, ho q k3, u2_off q k1]
      have a0 : ∀ j, va_up a' 2 g 0 j = if j = 1 then 0 else a 0 j := fun j => by
        rw [va_up_ne _ _ (by decide), ho 0 (by omega), u2_at0]
        by_cases z : j = 1
        · rw [if_pos ⟨rfl, z⟩, if_pos z]
        · rw [if_neg (fun y => z y.2), if_neg z]
      have a2 : va_up a' 2 g 2 5 = -1 := by rw [va_up_self]; exact hg.2.2.2.2
      have aM : ∀ k, k ≤ 1 → va_up a' 2 g (L' + k) = a' (L' + k) := fun k hk => va_up_ne _ _ (by omega)
      generalize va_up a' 2 g = A at aq a0 a2 aM
      have a60 : A 60 = a 60 := aq 60 (by decide) (by decide) (by omega)
      refine Sp.up (by decide) (c_mLawF (d := 0) hR.sw5.out.1 (by rw [a60]; exact t2) t6 (fun z => absurd hx z) (fun n' B' l1 l2 e hB' => ?_))
      obtain rfl : n = n' := (nI_eq (by omega) (by omega)).mp e
      have eB : ∀ i, i < n → a 61 i = B' i := fun i hi => by rw [← hB' i hi, aq 61 (by decide) (by decide) (by omega)]
      have eP : pLaw (fun i => a 61 i) n 0 = pLaw B' n 0 := pLaw_cg eB 0
      rw [← eP]
      refine ⟨fun l' hl' hl8 b1 b2 hk hpo hld => ?_, fun k f hk' => by rw [hl] at hk'; cases hk'⟩
      rw [hl] at hl'
      cases hl'
      obtain ⟨q1, q2, q3, q4⟩ := mK_fr hk
      have dq : ∀ q, q ≠ 60 → ¬ (160 ≤ q ∧ q ≤ 309) → b2 q = b1 q := fun q k1 k2 => by rw [hld.1 q (by omega), u2_off q k1, u2_off q k1]
      have d60 : ∀ j, j ≠ 3 → j ≠ 23 → b2 60 j = b1 60 j := fun j k1 k2 => by rw [hld.1 60 (by omega), u2_no (by omega), u2_no (by omega)]
      have eq : ∀ q, q ≠ 0 → q ≠ 2 → q ≠ 60 → mS q = false → ¬ (160 ≤ q ∧ q ≤ 309) → ¬ (q = L' ∨ q = L' + 1) → b2 q = a q := fun q k1 k2 k3 k4 k5 k6 => (dq q k3 k5).trans ((q1 q k3 k4).trans (aq q k1 k2 k6))
      have e60 : ∀ j, 38 ≤ j ∧ j ≤ 41 → b2 60 j = a 60 j := fun j k => (d60 j (by omega) (by omega)).trans ((q4 j (by omega)).trans (by rw [a60]))
      have e0 : ∀ j, b2 0 j = if j = 1 then 0 else a 0 j := fun j => by rw [dq 0 (by decide) (by omega), q1 0 (by decide) (mS_g (by omega))]; exact a0 j
      refine fin0 (h.gen (lw2 := l) (ml2 := ml) hR.sw5 (fun q hq => ?_) (by rw [e0, if_pos rfl]) ((d60 1 (by decide) (by decide)).trans q3) (fun j hj => by rw [e0, if_neg hj]) (fun j k1 k2 => e60 j (by omega)) ?_ ⟨?_, ⟨?_, fun i v hi => ?_⟩, hl8, pLaw_dep hl⟩ (h.2.2.2.2.1.fr (fun k hk => eq _ ?_ ?_ ?_ (mS_g ?_) ?_ ?_) (e60 38 (by omega)) (fun q k1 k2 => eq q (by omega) (by omega) (by omega) (mS_g (by omega)) (by omega) (by omega)))) ((d60 0 (by decide) (by decide)).trans q2) rfl
      · unfold twC at hq
        exact eq q (by omega) (by omega) (by omega) (mS_g (by omega)) (by omega) (by omega)
      · rw [dq 2 (by decide) (by omega), q1 2 (by decide) (mS_g (by omega)), a2, hld.1 60 (by omega), u2_no (by omega), u2_is rfl rfl]
      · have em : ∀ k, k ≤ 1 → b2 (L' + k) = a' (L' + k) := fun k hk => by
          rw [dq _ (by omega) (by omega), q1 _ (by omega) (mS_g (by omega)), aM k hk]
        have em0 : b2 L' = a' L' := em 0 (by decide)
        exact ⟨by rw [em0]; exact hm.1, fun i v hi => by rw [em 1 (by decide)]; exact hm.2 i v hi⟩
      · rw [hld.1 60 (by omega), u2_is rfl rfl]
      · have hlt : i < l.length := (List.getElem?_eq_some_iff.mp hi).1
        have w := hpo.2 i v hi
        rw [hld.2 i 0 hlt (by decide), hld.2 i 1 hlt (by decide), u2_off _ (by omega), u2_off _ (by omega)]
        exact w
      all_goals omega
    · have aq : ∀ q, q ≠ 0 → q ≠ 2 → ¬ (q = L' ∨ q = L' + 1) → va_up a' 2 g q = a q := fun q k1 k2 k3 => by
        rw [va_up_ne _ _ k2, ho q k3, u2_off q k1]
      have a0 : ∀ j, va_up a' 2 g 0 j = if j = 1 then 0 else a 0 j := fun j => by
        rw [va_up_ne _ _ (by decide), ho 0 (by omega), u2_at0]
        by_cases z : j = 1
        · rw [if_pos ⟨rfl, z⟩, if_pos z]
        · rw [if_neg (fun y => z y.2), if_neg z]
      have a2 : va_up a' 2 g 2 5 = nI q := by rw [va_up_self]; exact hg.2.2.2.2
      generalize va_up a' 2 g = A at aq a0 a2
      have a60 : A 60 = a 60 := aq 60 (by decide) (by decide) (by omega)
      refine Sp.up (by decide) (c_mLawF (d := 0) h.out.rk (by rw [a60]; exact t2) t6 (fun z => absurd hx z) (fun n' B' l1 l2 e hB' => ?_))
      obtain rfl : n = n' := (nI_eq (by omega) (by omega)).mp e
      have eB : ∀ i, i < n → a 61 i = B' i := fun i hi => by rw [← hB' i hi, aq 61 (by decide) (by decide) (by omega)]
      have eP : pLaw (fun i => a 61 i) n 0 = pLaw B' n 0 := pLaw_cg eB 0
      rw [← eP]
      refine ⟨fun l' hl' => (by rw [hk] at hl'; cases hl'), fun k' f' hk' b1 hkk => ?_⟩
      rw [hk] at hk'
      cases hk'
      obtain ⟨q1, q2, q3, q4⟩ := mK_fr hkk
      have fin := txt_bad (A := A) (a1 := b1) (f := nI q) h (fun p k1 k2 _ _ k6 _ => aq p k1 k2 k6) (fun j hj => by rw [a0, if_neg hj]) (by rw [a0, if_pos rfl]) a2 q1 q2 q3 (fun j hj => q4 j (by omega))
      exact fin0 fin.1 fin.2 rfl
  · have hx1 : ¬ opOK a x 150 := fun z => hx ((op_iff t1).mp z)
    refine V_L_law_0 (d := 39) ⟨rfl, by decide, Or.inr (Sp.up (by decide) (x_law0 (d := 0) hx1 (pI1 ⟨rfl, ?_⟩)))⟩
    exact Sp.up (by decide) (c_mLawF (d := 0) h.rk (by rw [bump_off (by decide)]; exact t2) t6 (fun _ => fin_bad (i := 2) h (by decide) (by decide)) (fun n B l1 l2 e _ => absurd ⟨by rw [e]; exact ⟨nI_pos (by omega), i_nlt.mpr (nI_le l1 (by omega))⟩, by rw [e]; exact nI_le (b := 150) l2 (by decide)⟩ hx))
end TXL
