/-! The reference: a year's steps read -/
def RwS (f : Nat → Int32) (i : Nat) (v : St) : Prop := f 0 = v.1 - 1 ∧ (¬ v.1 = 6 → f 1 = v.2.1) ∧ ((v.1 = 1 ∨ v.1 = 3) → f 2 = v.2.2) ∧ (¬ v.1 = 7 → f 3 = nI (i + 1)) ∧ (v.1 = 7 → ¬ v.2.2 = 0 → f 3 = v.2.2)
def RSt (a : IA) (l : List St) : Prop := a 60 32 = nI l.length ∧ ∀ (i : Nat) (v : St), l[i]? = some v → RwS (a (501 + 1 + i)) i v
theorem RSt.row {a a' : IA} {l : List St} (h : RSt a l) (h32 : a' 60 32 = a 60 32) (hr : ∀ i, i < l.length → a' (501 + 1 + i) = a (501 + 1 + i)) : RSt a' l :=
  ⟨h32.trans h.1, fun i v hi => by rw [hr i (List.getElem?_eq_some_iff.mp hi).1]; exact h.2 i v hi⟩
theorem RSt.w60 {a : IA} {l : List St} {j : Nat} {v : Int32} (h : RSt a l) (hj : j ≠ 32) : RSt (u2 a 60 j v) l := h.row (u2_ne (fun e => hj e.symm)) (fun i _ => u2_off _ (by omega))
theorem RSt.st {a : IA} {l : List St} {x : Int32} {o : Po} (h : RSt a l) : RSt (mSt a x o) l := h.row (mSt_ne (by decide) (by decide) (by decide)) (fun i _ => mSt_off (by omega))
theorem RSt.app {a a' : IA} {l : List St} {v : St} (h : RSt a l) (h32 : a' 60 32 = nI (l.length + 1)) (hr : ∀ i, i < l.length → a' (501 + 1 + i) = a (501 + 1 + i)) (hv : RwS (a' (501 + 1 + l.length)) l.length v) : RSt a' (l ++ [v]) := by
  refine ⟨by rw [h32, List.length_append]; rfl, fun i w hi => ?_⟩
  by_cases e : i < l.length
  · rw [List.getElem?_append_left e] at hi
    rw [hr i e]
    exact h.2 i w hi
  · have hl := (List.getElem?_eq_some_iff.mp hi).1
    simp at hl
    have e2 : i = l.length := by omega
    subst e2
    simp at hi
    subst hi
    exact hv
theorem RSt.patch {a : IA} {l y : List St} {t : Int32} {z : Nat} (h : RSt a (l ++ (7, t, 0) :: y)) : RSt (u2 a (501 + 1 + l.length) 3 (nI z)) (l ++ (7, t, nI z) :: y) := by
  refine ⟨by rw [u2_off 60 (by omega), h.1]; simp, fun i w hi => ?_⟩
  by_cases e : i = l.length
  · subst e
    have h2 := h.2 l.length (7, t, 0) (by simp)
    simp at hi
    subst hi
    refine ⟨by rw [u2_ne (by decide)]; exact h2.1, fun _ => by rw [u2_ne (by decide)]; exact h2.2.1 (by show ¬ (7 : Int32) = 6; decide), fun h3 => absurd h3 (by show ¬ ((7 : Int32) = 1 ∨ (7 : Int32) = 3); decide), fun h3 => absurd rfl h3, fun _ _ => u2_eq⟩
  · rw [u2_off _ (show 501 + 1 + i ≠ 501 + 1 + l.length by omega)]
    refine h.2 i w ?_
    rcases Nat.lt_or_ge i l.length with h3 | h3
    · rw [List.getElem?_append_left h3] at hi ⊢; exact hi
    · rw [List.getElem?_append_right h3] at hi ⊢
      obtain ⟨j, hj⟩ : ∃ j, i - l.length = j + 1 := ⟨i - l.length - 1, by omega⟩
      rw [hj, List.getElem?_cons_succ] at hi ⊢
      exact hi
section MST
variable {G : GE} {d C S : Nat} {a b : IA} {r : RA} {N n p i s w j o k : Nat} {B : Nat → Int32} {x y z kd ns : Int32} {l : List St}
theorem c_mStepH {P : KI} (hr : Rk r) (hT : MT a B n p) (hp : P (wkKind B (skB B n p) (ltE B n (skB B n p)) - 1) (mAt a (skB B n p)) r nK) : Sp G (d + 4) 0 0 MX12_stepHere [.ref 60] (a, r, nK) (RI P) := by
  have l1 := skB_le (B := B) hT.2.2.2.1
  have hT1 := hT.at l1.2
  have e3 : mAt (mAt a (skB B n p)) (skB B n (skB B n p)) = mAt a (skB B n p) := by rw [skB_skB hT.2.2.2.1]; exact u2_u2
  have ew : ∀ i, isWp B n (skB B n p) i = isWp B n p i := fun i => by unfold isWp; rw [skB_skB hT.2.2.2.1]
  have key : ∀ (i : Nat) {l0 l1 l2 l3 l4 l5 l6 : Int32} {Q : KI}, sev l0 l1 l2 l3 l4 l5 l6 = Int64.ofNat (cw i) → wOK i = true → Q (if isWp B n p i then 1 else 0) (mAt a (skB B n p)) r nK →
      Sp G (d + 3) 0 0 MX12_isWord [.ref 60, .int l0, .int l1, .int l2, .int l3, .int l4, .int l5, .int l6] (mAt a (skB B n p), r, nK) (RI Q) := fun i _ _ _ _ _ _ _ _ hw hi hq => c_mIsWord i hr hT1 hw hi (by rw [ew, e3]; exact hq)
  have nx : ∀ {b : Bool} {A D : Prop}, (b = false → A) → (b = true → D) → ((if b then (1 : Int32) else 0) = 0 → A) ∧ (¬ (if b then (1 : Int32) else 0) = 0 → D) := fun {b} {A D} hA hD => by
    cases b with
    | false => exact ⟨fun _ => hA rfl, fun h => absurd rfl h⟩
    | true => exact ⟨fun h => absurd h (by decide), fun _ => hD rfl⟩
  have hW : ∀ i, isW B (skB B n p) (ltE B n (skB B n p)) i = isWp B n p i := fun _ => rfl
  unfold wkKind at hp
  simp only [hW] at hp
  refine V_X12_stepHere_0 ⟨rfl, by decide, c_mIsWord 18 hr hT (by decide) (by decide) (nx (fun h1 => ⟨rfl, by decide, key 19 (by decide) (by decide) (nx (fun h2 => ⟨rfl, by decide, key 20 (by decide) (by decide) (nx (fun h3 => ⟨rfl, by decide, key 21 (by decide) (by decide) (nx (fun h4 => ⟨rfl, by decide, key 22 (by decide) (by decide) (nx (fun h5 => ⟨rfl, by decide, key 14 (by decide) (by decide) (nx (fun h6 => ⟨rfl, by decide, key 23 (by decide) (by decide) (nx (fun h7 => ?_) (fun h7 => ?_))⟩) (fun h6 => ?_))⟩) (fun h5 => ?_))⟩) (fun h4 => ?_))⟩) (fun h3 => ?_))⟩) (fun h2 => ?_))⟩) (fun h1 => ?_))⟩
  · simp only [h1, h2, h3, h4, h5, h6, h7, Bool.false_eq_true, if_true, if_false] at hp; exact hp
  · simp only [h1, h2, h3, h4, h5, h6, h7, Bool.false_eq_true, if_true, if_false] at hp; exact hp
  · simp only [h1, h2, h3, h4, h5, h6, Bool.false_eq_true, if_true, if_false] at hp; exact hp
  · simp only [h1, h2, h3, h4, h5, Bool.false_eq_true, if_true, if_false] at hp; exact hp
  · simp only [h1, h2, h3, h4, Bool.false_eq_true, if_true, if_false] at hp; exact hp
  · simp only [h1, h2, h3, Bool.false_eq_true, if_true, if_false] at hp; exact hp
  · simp only [h1, h2, Bool.false_eq_true, if_true, if_false] at hp; exact hp
  · simp only [h1, if_true] at hp; exact hp
theorem wk_dom (B : Nat → Int32) (s p : Nat) : wkKind B s p = 0 ∨ wkKind B s p = 1 ∨ wkKind B s p = 2 ∨ wkKind B s p = 3 ∨ wkKind B s p = 4 ∨ wkKind B s p = 5 ∨ wkKind B s p = 6 ∨ wkKind B s p = 7 := by
  unfold wkKind
  repeat' split
  all_goals simp
def srQ (B : Nat → Int32) (n : Nat) (r : RA) (a : IA) (l : List St) (p o : Nat) (res : (List St × Nat) ⊕ (Int32 × Nat)) (P : KN) : Prop :=
  (∀ x e, res = .inl (x, e) → p ≤ e → ∀ a', mK a a' → MT a' B n e → RSt a' (l ++ x) → a' 60 8 = nI o → P a' r nK) ∧
  (∀ k f, res = .inr (k, f) → ∀ a', mK a a' → MS a' B n (.inr (k, f)) → P a' r nK)
/-- the end of a step that is no again -/
theorem sr_fin {P : KN} {D : Nat} {res : (List St × Nat) ⊕ (Int32 × Nat)} {b' : IA} {op : Po} {v : St} {z : (St × Nat) ⊕ (Int32 × Nat)} (hr : Rk r) (hk : l.length < 80) (hD : 2 ≤ D) (hl : RSt a l) (h8 : a 60 8 = nI o) (ha : mK a b') (hb : ∀ j, j ≠ 4 → j ≠ 32 → b' 60 j = a 60 j) (hbr : ∀ i, i < l.length → b' (501 + 1 + i) = a (501 + 1 + i)) (h32 : b' 60 32 = nI (l.length + 1))
    (hS : MS (mSt b' x op) B n op) (hz : op = sB z fun y => .inl y.2) (hv : ∀ v' e, z = .inl (v', e) → v' = v) (hpe : ∀ v' e, z = .inl (v', e) → p ≤ e) (h7 : ¬ v.1 = 7) (hrow : ∀ p, op = .inl p → b' (501 + 1 + l.length) 0 = v.1 - 1 ∧ (¬ v.1 = 6 → b' (501 + 1 + l.length) 1 = v.2.1) ∧ ((v.1 = 1 ∨ v.1 = 3) → b' (501 + 1 + l.length) 2 = v.2.2))
    (hres : res = sB z fun y => sB (pSign B n 59 y.2) fun e => .inl ([y.1], e)) (hq : srQ B n r a l p o res P) :
    tyK 60 = (0, 11) ∧ 60 < nK ∧ (tyK (501 + 1 + l.length)).1 = 1 ∧ 501 + 1 + l.length < nK ∧ vp_in 3 (tyK (501 + 1 + l.length)).2 ∧ ∀ a1, a1 = u2 (mSt b' x op) (501 + 1 + l.length) (3 : Int32).toNatClampNeg (mSt b' x op 60 32) → tyK 60 = (0, 11) ∧ 60 < nK ∧ Sp G D 0 0 MX12_sign [.ref 60, .int 59] (a1, r, nK) (RN P) := by
  refine ⟨rfl, by decide, row3 (tyR_step _ hk) (by show _ < 878; omega) (vp_in_nI (show 3 < 4 by decide) (by decide)) (fun a1 h1 => ⟨rfl, by decide, ?_⟩)⟩
  have e32 : mSt b' x op 60 32 = nI (l.length + 1) := by rw [mSt_ne (by decide) (by decide) (by decide)]; exact h32
  rw [e32, z3] at h1
  subst h1
  have hS1 := hS.w (q := 501 + 1 + l.length) (j := 3) (v := nI (l.length + 1)) (by omega) (by omega)
  refine Sp.up (d := 2) (by omega) (u_sign (d := 0) (o := op) (by decide) hr hS1 (fun x' hM => ?_))
  rw [mSt_u2 (by omega), mSt_mSt stay_sB2] at hM ⊢
  have kk : mK a (u2 b' (501 + 1 + l.length) 3 (nI (l.length + 1))) := mK_tr ha (mK_w (mS_r (by omega)) (by omega))
  cases hzz : z with
  | inr y =>
    have ho : op = .inr y := by rw [hz, hzz]; rfl
    rw [ho] at hM ⊢
    exact hq.2 y.1 y.2 (by rw [hres, hzz]; rfl) _ (mK_tr kk mK_st) hM
  | inl y =>
    have ho : op = .inl y.2 := by rw [hz, hzz]; rfl
    have hv1 := hv y.1 y.2 hzz
    rw [ho] at hM ⊢
    have e0 : sB (.inl y.2 : Po) (pSign B n 59) = pSign B n 59 y.2 := rfl
    rw [e0] at hM ⊢
    cases hs : pSign B n 59 y.2 with
    | inr w =>
      rw [hs] at hM
      exact hq.2 w.1 w.2 (by rw [hres, hzz, sB_inl, hs]; rfl) _ (mK_tr kk mK_st) hM
    | inl e =>
      rw [hs] at hM
      have hy2 : y.2 ≤ n := by rw [ho] at hS; exact (hS.2.2.1 _ rfl).2.1
      have he := pSign_e hy2 (by decide) hs
      have hp1 := hpe y.1 y.2 hzz
      refine hq.1 [y.1] e (by rw [hres, hzz, sB_inl, hs]; rfl) (by omega) _ (mK_tr kk mK_st) hM.mt ?_ ?_
      · rw [hv1]
        have hrw := hrow y.2 ho
        refine RSt.app hl (a' := mSt (u2 b' (501 + 1 + l.length) 3 (nI (l.length + 1))) x' (.inl e)) (by rw [mSt_ne (by decide) (by decide) (by decide), u2_off 60 (by omega)]; exact h32) (fun i hi => by rw [mSt_off (by omega), u2_off _ (by omega)]; exact hbr i hi) ?_
        rw [mSt_off (by omega)]
        exact ⟨by rw [u2_ne (by decide)]; exact hrw.1, fun h => by rw [u2_ne (by decide)]; exact hrw.2.1 h, fun h => by rw [u2_ne (by decide)]; exact hrw.2.2 h, fun _ => u2_eq, fun h => absurd h h7⟩
      · rw [mSt_ne (by decide) (by decide) (by decide), u2_off 60 (by omega), hb 8 (by decide) (by decide)]; exact h8
end MST
