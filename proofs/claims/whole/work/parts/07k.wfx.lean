/-! What WORK reads is well formed -/
theorem sB_inv {α β γ : Type} {x : α ⊕ γ} {f : α → β ⊕ γ} {y : β} (h : sB x f = .inl y) : ∃ v, x = .inl v ∧ f v = .inl y := by
  cases x with
  | inl v => exact ⟨v, rfl, h⟩
  | inr e => rw [sB_inr] at h; cases h
theorem wfX_rf (l : List St) (t b o : Nat) : wfX l t b b o := by
  cases t with
  | zero => rfl
  | succ t => exact Or.inl rfl
theorem wfX_up (l : List St) : ∀ (t s e o k : Nat), wfX l t s e o → wfX l (t + k) s e o
  | 0, s, e, o, k, h => by
    have h' : s = e := h
    subst h'
    exact wfX_rf l _ _ _
  | t + 1, s, e, o, k, h => by
    have e1 : t + 1 + k = (t + k) + 1 := by omega
    rw [e1]
    rcases h with h | ⟨h1, v, h2, h3⟩
    · exact Or.inl h
    · refine Or.inr ⟨h1, v, h2, ?_⟩
      by_cases h7 : v.1 = 7
      · rw [if_pos h7] at h3 ⊢
        obtain ⟨z, m, a1, a2, a3, a4, a5, a6, a7, a8⟩ := h3
        exact ⟨z, m, a1, a2, a3, a4, a5, a6, wfX_up l t _ _ _ k a7, wfX_up l t _ _ _ k a8⟩
      · rw [if_neg h7] at h3 ⊢
        exact wfX_up l t _ _ _ k h3
theorem wfX_app (l : List St) : ∀ (t s m e o t2 : Nat), wfX l t s m o → wfX l t2 m e o → wfX l (t + t2) s e o
  | 0, s, m, e, o, t2, h, h2 => by
    have h' : s = m := h
    subst h'
    rw [Nat.zero_add]
    exact h2
  | t + 1, s, m, e, o, t2, h, h2 => by
    have hme := wfX_le l _ _ _ _ h2
    rcases h with h | ⟨h1, v, h3, h4⟩
    · subst h
      have := wfX_up l t2 s e o (t + 1) h2
      rw [Nat.add_comm] at this
      exact this
    · have e1 : t + 1 + t2 = (t + t2) + 1 := by omega
      rw [e1]
      refine Or.inr ⟨by omega, v, h3, ?_⟩
      by_cases h7 : v.1 = 7
      · rw [if_pos h7] at h4 ⊢
        obtain ⟨z, k, a1, a2, a3, a4, a5, a6, a7, a8⟩ := h4
        exact ⟨z, k, a1, a2, a3, a4, by omega, a6, wfX_up l t _ _ _ t2 a7, wfX_app l t _ _ _ _ t2 a8 h2⟩
      · rw [if_neg h7] at h4 ⊢
        exact wfX_app l t _ _ _ _ t2 h4 h2
def Fit (l : List St) (b : Nat) (y : List St) : Prop := ∀ i, i < y.length → l[b + i]? = y[i]?
theorem Fit_l {l x y : List St} {b : Nat} (h : Fit l b (x ++ y)) : Fit l b x := fun i hi => by
  rw [h i (by rw [List.length_append]; omega), List.getElem?_append_left hi]
theorem Fit_r {l x y : List St} {b : Nat} (h : Fit l b (x ++ y)) : Fit l (b + x.length) y := fun i hi => by
  have := h (x.length + i) (by rw [List.length_append]; omega)
  rw [List.getElem?_append_right (by omega), Nat.add_sub_cancel_left] at this
  rw [Nat.add_assoc]
  exact this
theorem Fit_c {l y : List St} {v : St} {b : Nat} (h : Fit l b (v :: y)) : l[b]? = some v ∧ Fit l (b + 1) y := by
  refine ⟨by have := h 0 (by simp); simpa using this, fun i hi => ?_⟩
  have := h (i + 1) (by rw [List.length_cons]; omega)
  rw [List.getElem?_cons_succ] at this
  rw [show b + 1 + i = b + (i + 1) by omega]
  exact this
theorem pSt_wf (B : Nat → Int32) (n : Nat) (ns : Int32) : ∀ (t mode o b p : Nat) (y : List St) (e : Nat), p ≤ n → pSt B n ns t mode o b p = .inl (y, e) → o ≤ 6 → ∀ l, Fit l b y → wfX l y.length b (b + y.length) (6 - o)
  | 0, _, _, _, _, _, _, _, h, _ => by cases h
  | t + 1, mode, o, b, p, y, e, hp, h, ho => by
    intro l hf
    have ih := pSt_wf B n ns t
    have l1 := skB_le (B := B) hp
    have l2 := ltE_le (B := B) l1.2
    rw [pSt] at h
    split at h
    · split at h
      · cases h
      split at h
      · next h7 =>
        split at h
        · cases h
        next ho6 =>
        obtain ⟨x, e1, h⟩ := sB_inv h
        obtain ⟨z, e2, h⟩ := sB_inv h
        obtain ⟨w, e3, h⟩ := sB_inv h
        obtain ⟨u, e4, h⟩ := sB_inv h
        obtain ⟨v, e5, h⟩ := sB_inv h
        have i1 := pNum_le l2.2 e1
        have i2 := pSign_le i1.2.1 (by decide) e2
        have i3 := pSt_up B n ns t _ _ _ _ w.1 w.2 i2.2 e3
        cases h
        obtain ⟨f1, f2⟩ := Fit_c hf
        have hw := ih 1 (o + 1) (b + 1) z w.1 w.2 i2.2 e3 (by omega) l f2
        rw [List.length_cons]
        refine Or.inr ⟨by omega, _, f1, ?_⟩
        rw [if_pos rfl]
        obtain ⟨m, hm, em⟩ := nI_of2 (M := 20) (n := 20) (by decide) (i_nlt.mpr i1.2.2.1) i1.2.2.2
        refine ⟨b + 1 + w.1.length, m, rfl, em, hm, by omega, by omega, by omega, ?_, ?_⟩
        · rw [show 6 - o - 1 = 6 - (o + 1) by omega]
          exact hw
        · rw [show b + (w.1.length + 1) = b + 1 + w.1.length by omega]
          exact wfX_rf l _ _ _
      · next h7 =>
        obtain ⟨x, e1, h⟩ := sB_inv h
        obtain ⟨z, e2, h⟩ := sB_inv h
        obtain ⟨w, e3, h⟩ := sB_inv h
        cases h
        obtain ⟨f1, f2⟩ := Fit_c hf
        refine Or.inr ⟨by simp, _, f1, ?_⟩
        rw [if_neg h7]
        exact wfX_rf l _ _ _
    · split at h
      · cases h
        exact wfX_rf l _ _ _
      · obtain ⟨x, e1, h⟩ := sB_inv h
        obtain ⟨z, e2, h⟩ := sB_inv h
        have i1 := pSt_up B n ns t _ _ _ _ x.1 x.2 l1.2 e1
        cases h
        have w1 := ih 0 o b _ x.1 x.2 l1.2 e1 ho l (Fit_l hf)
        have w2 := ih 1 o _ _ z.1 z.2 i1.2.1 e2 ho l (Fit_r hf)
        rw [List.length_append, ← Nat.add_assoc]
        exact wfX_app l _ _ _ _ _ _ w1 w2
theorem pWork_wf (B : Nat → Int32) (n : Nat) (ns : Int32) : ∀ (t : Nat) (y : List St) (p : Nat) (z : List St), p ≤ n → (∀ l, Fit l 0 y → wfX l y.length 0 y.length 6) → 5 * y.length ≤ p → pWork B n ns t y p = .inl z → (∀ l, Fit l 0 z → wfX l z.length 0 z.length 6) ∧ 5 * z.length ≤ n
  | 0, y, p, z, hp, hw, h5, h => by
    cases h
    exact ⟨hw, by omega⟩
  | t + 1, y, p, z, hp, hw, h5, h => by
    have l1 := skB_le (B := B) hp
    rw [pWork] at h
    split at h
    · obtain ⟨x, e1, h⟩ := sB_inv h
      have i1 := pSt_up B n ns 400 _ _ _ _ x.1 x.2 l1.2 e1
      refine pWork_wf B n ns t (y ++ x.1) x.2 z i1.2.1 (fun l hf => ?_) (by rw [List.length_append]; omega) h
      have w1 := hw l (Fit_l hf)
      have f2 := Fit_r hf
      rw [Nat.zero_add] at f2
      have w2 := pSt_wf B n ns 400 0 0 y.length _ x.1 x.2 l1.2 e1 (by decide) l f2
      rw [List.length_append]
      exact wfX_app l _ _ _ _ _ _ w1 w2
    · cases h
      exact ⟨hw, by omega⟩
theorem pWork_ok {B : Nat → Int32} {n : Nat} {ns : Int32} {l : List St} (hn : n ≤ 150) (h : pWork B n ns 200 [] 0 = .inl l) : l.length ≤ 50 ∧ wfX l 50 0 l.length 6 := by
  obtain ⟨h1, h2⟩ := pWork_wf B n ns 200 [] 0 l (by omega) (fun l _ => wfX_rf l _ _ _) (by simp) h
  have h3 := wfX_up l _ _ _ _ (50 - l.length) (h1 l (fun i hi => by rw [Nat.zero_add]))
  rw [show l.length + (50 - l.length) = 50 by omega] at h3
  exact ⟨by omega, h3⟩
