/-! The reference: a law's words and signs -/
def rcode (w : Int32) : Int32 × Int32 := if 0 ≤ w then (0, w) else if w = -1 then (2, 0) else if w = -2 then (3, 0) else if w = -3 then (4, 0) else if w = -4 then (5, 0) else if w = -5 then (6, 0) else if w = -6 then (7, 0) else if w = -7 then (1, 0) else if w = -8 then (1, 1) else if w = -9 then (1, 2) else if w = -10 then (1, 3) else if w = -11 then (1, 4) else if w = -12 then (1, 5) else if w = -13 then (1, 6) else if w = -14 then (1, 7) else (1, 8)
/-- the code that was read -/
def RdL (a : IA) (l : List Int32) : Prop := a 60 24 = nI l.length ∧ ∀ (i : Nat) (v : Int32), l[i]? = some v → a (320 + 1 + i) 0 = (rcode v).1 ∧ a (320 + 1 + i) 1 = (rcode v).2
theorem RdL.row {a a' : IA} {l : List Int32} (h : RdL a l) (h24 : a' 60 24 = a 60 24) (hr : ∀ i, i < l.length → a' (320 + 1 + i) = a (320 + 1 + i)) : RdL a' l :=
  ⟨h24.trans h.1, fun i v hi => by rw [hr i (List.getElem?_eq_some_iff.mp hi).1]; exact h.2 i v hi⟩
theorem RdL.w60 {a : IA} {l : List Int32} {j : Nat} {v : Int32} (h : RdL a l) (hj : j ≠ 24) : RdL (u2 a 60 j v) l := h.row (u2_ne (fun e => hj e.symm)) (fun i _ => u2_off _ (by omega))
theorem isWp_0 {B : Nat → Int32} {n p i : Nat} (h : ltE B n (skB B n p) = skB B n p) (hi : i < strN) : isWp B n p i = false := by
  unfold isWp
  rw [h]
  unfold isW
  have : 0 < sLen i := (by decide +kernel : ∀ i, i < strN → 0 < sLen i) i hi
  rw [decide_eq_false (by omega), Bool.false_and]
section ML1
variable {G : GE} {d C S : Nat} {a b : IA} {r : RA} {N n p i s w j o : Nat} {B : Nat → Int32} {x y z kd : Int32} {l : List Int32}
theorem c_mNotes {P : KN} (hr : Rk r) (h5 : a 60 5 = 0) (hl : RdL a l) (h160 : l.length < 160) {v : Int32} (hc : rcode v = (x, y)) (hp : ∀ a', mK a a' → (∀ j, j ≠ 24 → a' 60 j = a 60 j) → a' 61 = a 61 → RdL a' (l ++ [v]) → P a' r nK) :
    Sp G d 0 0 MX12_notes [.ref 60, .int x, .int y] (a, r, nK) (RN P) := by
  have hk : (a 60 24).toNatClampNeg = l.length := by rw [hl.1, nI_clamp (by omega)]
  have r26 : r 60 26 = .ref 320 := rf5 hr (by decide) rfl
  have hin : vp_in (nI l.length) 160 := vp_in_nI (by omega) (by decide)
  refine V_X12_notes_0 ⟨rfl, by decide, fun _ => ⟨rfl, by decide, 320, r26, rfl, by decide, rfl, by decide, by rw [hl.1]; exact hin, ?_⟩, fun h => absurd h5 h⟩
  rw [hk]
  refine row3 (tyR_readLaw _ h160) (by show _ < 878; omega) (vp_in_nI (show 0 < 2 by decide) (by decide)) (fun a2 h2 => ⟨rfl, by decide, 320, r26, rfl, by decide, ?_⟩)
  have e24 : a2 60 24 = nI l.length := by rw [h2, u2_off 60 (by omega)]; exact hl.1
  rw [e24, nI_clamp (by omega)]
  refine ⟨rfl, by decide, hin, row3 (tyR_readLaw _ h160) (by show _ < 878; omega) (vp_in_nI (show 1 < 2 by decide) (by decide)) (fun a4 h4 => ⟨rfl, by decide, rfl, by decide, fun a5 e5 => ?_⟩)⟩
  have e24' : a4 60 24 = nI l.length := by rw [h4, u2_off 60 (by omega)]; exact e24
  rw [e24', nI_1] at e5
  rw [z0] at h2
  rw [z1] at h4
  subst h2 h4 e5
  refine hp _ ?_ ?_ ?_ ⟨?_, fun i w hi => ?_⟩
  · exact mK_tr (mK_w (mS_r (by omega)) (by omega)) (mK_tr (mK_w (mS_r (by omega)) (by omega)) (mK_6 rfl))
  · intro j hj
    rw [u2_ne hj, u2_off 60 (by omega), u2_off 60 (by omega)]
  · rw [u2_off 61 (by decide), u2_off 61 (by omega), u2_off 61 (by omega)]
  · rw [u2_eq, List.length_append]; rfl
  · rw [u2_off _ (show 320 + 1 + i ≠ 60 by omega)]
    by_cases e : i = l.length
    · subst e
      simp at hi
      subst hi
      rw [u2_ne (by decide), u2_eq, u2_eq, hc]
      exact ⟨rfl, rfl⟩
    · have hi2 : i < l.length := by
        have := (List.getElem?_eq_some_iff.mp hi).1
        simp at this
        omega
      rw [u2_off _ (show 320 + 1 + i ≠ 320 + 1 + l.length by omega), u2_off _ (show 320 + 1 + i ≠ 320 + 1 + l.length by omega)]
      exact hl.2 i w (by rw [List.getElem?_append_left hi2] at hi; exact hi)
theorem s_mNotes {P : KN} (h5 : ¬ a 60 5 = 0) (hp : P a r nK) : Sp G d 0 0 MX12_notes [.ref 60, .int x, .int y] (a, r, nK) (RN P) := V_X12_notes_0 ⟨rfl, by decide, fun h => absurd h h5, fun _ => hp⟩
theorem c_mOpens {P : KI} (h5 : a 60 5 = 0) (h4 : a 60 4 = nI s) (h8 : a 60 8 = nI o) (ho : o ≤ 6) (hy : o < 6 → P 1 (u2 a 60 8 (nI (o + 1))) r nK) (hf : 6 ≤ o → P 0 (u2 (u2 a 60 5 3) 60 6 (nI s)) r nK) :
    Sp G (d + 1) 0 0 MX12_opens [.ref 60] (a, r, nK) (RI P) := by
  refine V_X12_opens_0 ⟨rfl, by decide, fun h => absurd h5 h, fun _ => ⟨rfl, by decide, fun h => ⟨rfl, by decide, fun h => absurd h5 h, fun _ => ⟨rfl, by decide, rfl, by decide, fun a2 h2 => ⟨rfl, by decide, fun h => absurd ?_ h, fun _ => ⟨bz_1, ?_⟩⟩⟩⟩, fun h => ⟨rfl, by decide, rfl, by decide, c_mWrong ⟨rfl, by decide, fun _ => ⟨bz_0, ?_⟩, fun h => absurd h ?_⟩⟩⟩⟩
  · rw [h2, u2_ne (by decide)]; exact h5
  · rw [h8, nI_1] at h2
    subst h2
    refine hy ?_
    rcases Nat.lt_or_ge o 6 with h1 | h1
    · exact h1
    · exact absurd (by rw [h8]; have : o = 6 := by omega
                       rw [this]; rfl) h
  · rw [mWr_0 h5, h4]
    rw [h8] at h
    have : o = 6 := (nI_eq (a := o) (b := 6) (by omega) (by omega)).mp h
    exact hf (by omega)
  · rw [mWr_0 h5, u2_ne (by decide), u2_eq]; decide
theorem c_mKnown {P : KI} (hr : Rk r) (hT : MT a B n p) (h16 : isWp B n p 16 = false) (h17 : isWp B n p 17 = false)
    (h0 : lwWord B (skB B n p) (ltE B n (skB B n p)) = 0 → P (-1) (mAt a (skB B n p)) r nK)
    (h1 : ∀ v, ¬ lwWord B (skB B n p) (ltE B n (skB B n p)) = 0 → ¬ lwWord B (skB B n p) (ltE B n (skB B n p)) = -5 → ¬ lwWord B (skB B n p) (ltE B n (skB B n p)) = -6 → ¬ v = -1 → rcode (lwWord B (skB B n p) (ltE B n (skB B n p))) = (1, v) → P v (mAt a (ltE B n (skB B n p))) r nK) :
    Sp G (d + 5) 0 0 MX12_knownHere [.ref 60] (a, r, nK) (RI P) := by
  have l1 := skB_le (B := B) hT.2.2.2.1
  have hT1 := hT.at l1.2
  have e3 : ∀ q, mAt (mAt a (skB B n p)) q = mAt a q := fun q => u2_u2
  have key : ∀ (i : Nat) {l0 l1 l2 l3 l4 l5 l6 : Int32} {Q : KI}, sev l0 l1 l2 l3 l4 l5 l6 = Int64.ofNat (cw i) → wOK i = true → (isWp B n p i = true → Q 1 (mAt a (ltE B n (skB B n p))) r nK) → (isWp B n p i = false → Q 0 (mAt a (skB B n p)) r nK) →
      Sp G (d + 4) 0 0 MX12_takes [.ref 60, .int l0, .int l1, .int l2, .int l3, .int l4, .int l5, .int l6] (mAt a (skB B n p), r, nK) (RI Q) := fun i _ _ _ _ _ _ _ _ hw hi hq1 hq0 => by
    refine c_mTakesW i hr hT1 hw hi (fun h => ?_) (fun h => ?_)
    · unfold isWp at h
      rw [skB_skB hT.2.2.2.1] at h ⊢
      rw [e3]
      exact hq1 h
    · unfold isWp at h
      rw [skB_skB hT.2.2.2.1] at h ⊢
      rw [e3]
      exact hq0 h
  have y1 : ∀ {A D : Prop}, D → (((1 : Int32) = 0 → A) ∧ (¬ (1 : Int32) = 0 → D)) := fun h => ⟨fun e => absurd e (by decide), fun _ => h⟩
  have n0 : ∀ {A D : Prop}, A → (((0 : Int32) = 0 → A) ∧ (¬ (0 : Int32) = 0 → D)) := fun h => ⟨fun _ => h, fun e => absurd rfl e⟩
  unfold isWp at h16 h17
  have hW : ∀ i, isWp B n p i = isW B (skB B n p) (ltE B n (skB B n p)) i := fun _ => rfl
  unfold lwWord at h0 h1
  rw [h16, h17] at h0 h1
  simp only [← hW] at h0 h1
  refine V_X12_knownHere_0 ⟨rfl, by decide, c_mTakesW 8 hr hT (by decide) (by decide) (fun g1 => y1 ?_) (fun g1 => n0 ⟨rfl, by decide, key 9 (by decide) (by decide) (fun g2 => y1 ?_) (fun g2 => n0 ⟨rfl, by decide, key 10 (by decide) (by decide) (fun g3 => y1 ?_) (fun g3 => n0 ⟨rfl, by decide, key 3 (by decide) (by decide) (fun g4 => y1 ?_) (fun g4 => n0 ⟨rfl, by decide, key 11 (by decide) (by decide) (fun g5 => y1 ?_) (fun g5 => n0 ⟨rfl, by decide, key 12 (by decide) (by decide) (fun g6 => y1 ?_) (fun g6 => n0 ⟨rfl, by decide, key 13 (by decide) (by decide) (fun g7 => y1 ?_) (fun g7 => n0 ⟨rfl, by decide, key 14 (by decide) (by decide) (fun g8 => y1 ?_) (fun g8 => n0 ⟨rfl, by decide, key 15 (by decide) (by decide) (fun g9 => y1 ?_) (fun g9 => n0 ?_)⟩)⟩)⟩)⟩)⟩)⟩)⟩)⟩)⟩
  · simp only [g1, Bool.false_eq_true, if_true, if_false] at h1
    exact h1 0 (by decide) (by decide) (by decide) (by decide) rfl
  · simp only [g1, g2, Bool.false_eq_true, if_true, if_false] at h1
    exact h1 1 (by decide) (by decide) (by decide) (by decide) rfl
  · simp only [g1, g2, g3, Bool.false_eq_true, if_true, if_false] at h1
    exact h1 2 (by decide) (by decide) (by decide) (by decide) rfl
  · simp only [g1, g2, g3, g4, Bool.false_eq_true, if_true, if_false] at h1
    exact h1 3 (by decide) (by decide) (by decide) (by decide) rfl
  · simp only [g1, g2, g3, g4, g5, Bool.false_eq_true, if_true, if_false] at h1
    exact h1 4 (by decide) (by decide) (by decide) (by decide) rfl
  · simp only [g1, g2, g3, g4, g5, g6, Bool.false_eq_true, if_true, if_false] at h1
    exact h1 5 (by decide) (by decide) (by decide) (by decide) rfl
  · simp only [g1, g2, g3, g4, g5, g6, g7, Bool.false_eq_true, if_true, if_false] at h1
    exact h1 6 (by decide) (by decide) (by decide) (by decide) rfl
  · simp only [g1, g2, g3, g4, g5, g6, g7, g8, Bool.false_eq_true, if_true, if_false] at h1
    exact h1 7 (by decide) (by decide) (by decide) (by decide) rfl
  · simp only [g1, g2, g3, g4, g5, g6, g7, g8, g9, Bool.false_eq_true, if_true, if_false] at h1
    exact h1 8 (by decide) (by decide) (by decide) (by decide) rfl
  · simp only [g1, g2, g3, g4, g5, g6, g7, g8, g9, Bool.false_eq_true, if_true, if_false] at h0
    exact h0 trivial
theorem s_mOne {P : KN} (h5 : ¬ a 60 5 = 0) (hp : P a r nK) : Sp G (d + 1) 0 0 MX12_one [.ref 60] (a, r, nK) (RN P) := V_X12_one_0 ⟨rfl, by decide, fun h => absurd h h5, fun _ => hp⟩
theorem s_mProdT {P : KN} (h5 : ¬ a 60 5 = 0) (hp : P a r nK) : E G MX12_product (d + 1) C S 4 [.ref 60, .null] [] (a, r, nK) (RN P) := V_X12_product_4 ⟨rfl, by decide, fun _ => hp, fun h => absurd h h5⟩
theorem s_mProd {P : KN} (h5 : ¬ a 60 5 = 0) (hp : P a r nK) : Sp G (d + 2) 0 0 MX12_product [.ref 60] (a, r, nK) (RN P) := V_X12_product_0 ⟨rfl, by decide, s_mOne h5 (s_mProdT h5 hp)⟩
theorem s_mSumT {P : KN} (h5 : ¬ a 60 5 = 0) (hp : P a r nK) : E G MX12_sum (d + 1) C S 4 [.ref 60, .null] [] (a, r, nK) (RN P) := V_X12_sum_4 ⟨rfl, by decide, fun _ => hp, fun h => absurd h h5⟩
theorem s_mSum {P : KN} (h5 : ¬ a 60 5 = 0) (hp : P a r nK) : Sp G (d + 3) 0 0 MX12_sum [.ref 60] (a, r, nK) (RN P) := V_X12_sum_0 ⟨rfl, by decide, s_mProd h5 (s_mSumT h5 hp)⟩
end ML1
