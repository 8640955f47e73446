/-! Plan: reading -/
theorem plan_k {r : RA} (hr : Rk r) : tyK 39 = (0, 7) ∧ tyK 40 = (1, 50) ∧ tyK 41 = (1, 50) ∧ tyK 42 = (1, 50) ∧ r 39 0 = .ref 40 ∧ r 39 1 = .ref 41 ∧ r 39 2 = .ref 42 := ⟨rfl, rfl, rfl, rfl, hr.at (by decide), hr.at (by decide), hr.at (by decide)⟩
/-- a step: kind, two numbers; of an again the second is the place behind its own steps -/
abbrev St : Type := Int32 × Int32 × Int32
def PlOK (a : IA) (l : List St) : Prop := a 39 3 = nI l.length ∧ ∀ (i : Nat) (v : St), l[i]? = some v → a 40 i = v.1 ∧ a 41 i = v.2.1 ∧ a 42 i = v.2.2
def offP (a a' : IA) : Prop := (∀ q, ¬ (39 ≤ q ∧ q ≤ 42) → a' q = a q) ∧ ∀ j, j ≠ 3 → a' 39 j = a 39 j
theorem offP_rf {a : IA} : offP a a := ⟨fun _ _ => rfl, fun _ _ => rfl⟩
theorem offP_tr {a b c : IA} (h1 : offP a b) (h2 : offP b c) : offP a c := ⟨fun q hq => (h2.1 q hq).trans (h1.1 q hq), fun j hj => (h2.2 j hj).trans (h1.2 j hj)⟩
theorem By.offP {a a' : IA} {B : Nat → Int32} {n : Nat} (h : By a B n) (ho : offP a a') : By a' B n := ⟨h.1, fun i hi => by rw [ho.1 1 (by omega)]; exact h.2 i hi⟩
def plPut (a : IA) (v : St) : IA := u2 (ctPut (ctPut (ctPut a 40 50 (a 39 3) v.1) 41 50 (a 39 3) v.2.1) 42 50 (a 39 3) v.2.2) 39 3 (a 39 3 + 1)
theorem plPut_off {a : IA} {v : St} : offP a (plPut a v) := ⟨fun q hq => by
  unfold plPut
  rw [u2_off q (by omega), ctPut_ne (by omega), ctPut_ne (by omega), ctPut_ne (by omega)], fun j hj => by
  unfold plPut
  rw [u2_ne hj, ctPut_ne (by decide), ctPut_ne (by decide), ctPut_ne (by decide)]⟩
theorem get_app1 {α : Type} {l : List α} {x v : α} {i : Nat} (hi : (l ++ [x])[i]? = some v) : (i < l.length ∧ l[i]? = some v) ∨ (i = l.length ∧ v = x) := by
  by_cases hj : i < l.length
  · rw [List.getElem?_append_left hj] at hi
    exact Or.inl ⟨hj, hi⟩
  · rw [List.getElem?_append_right (by omega)] at hi
    have : i = l.length := by
      rcases Nat.lt_or_ge (i - l.length) 1 with z | z
      · omega
      · rw [List.getElem?_eq_none (by simpa using z)] at hi; cases hi
    subst this
    simp at hi
    exact Or.inr ⟨rfl, hi.symm⟩
theorem plPut_ok {a : IA} {l : List St} {v : St} (hl : PlOK a l) (h : l.length < 50) : PlOK (plPut a v) (l ++ [v]) := by
  obtain ⟨e, hat⟩ := hl
  refine ⟨?_, fun i w hi => ?_⟩
  · unfold plPut
    rw [u2_eq, e, nI_1]
    simp
  · have e1 : plPut a v 40 = upd (a 40) l.length v.1 := by
      unfold plPut
      rw [u2_off _ (by decide), ctPut_ne (by decide), ctPut_ne (by decide), ctPut_self, e, rPut_nI _ (by decide) h]
    have e2 : plPut a v 41 = upd (a 41) l.length v.2.1 := by
      unfold plPut
      rw [u2_off _ (by decide), ctPut_ne (by decide), ctPut_self, ctPut_ne (by decide), e, rPut_nI _ (by decide) h]
    have e3 : plPut a v 42 = upd (a 42) l.length v.2.2 := by
      unfold plPut
      rw [u2_off _ (by decide), ctPut_self, ctPut_ne (by decide), ctPut_ne (by decide), e, rPut_nI _ (by decide) h]
    rw [e1, e2, e3]
    unfold upd
    rcases get_app1 hi with ⟨h1, h2⟩ | ⟨rfl, rfl⟩
    · rw [if_neg (by omega), if_neg (by omega), if_neg (by omega)]
      exact hat i w h2
    · rw [if_pos rfl, if_pos rfl, if_pos rfl]
      exact ⟨rfl, rfl, rfl⟩
theorem plPut_up {a : IA} {g : Nat → Int32} {v : St} : plPut (va_up a 2 g) v = va_up (plPut a v) 2 g := by
  unfold plPut
  rw [up_at (by decide), up_ctPut (by decide), up_ctPut (by decide), up_ctPut (by decide), up_u2 (by decide)]
/-- an again's end is put in -/
theorem plPatch {a : IA} {l b : List St} {k x y z : Int32} (hl : PlOK a (l ++ (k, x, y) :: b)) (h : l.length < 50) : PlOK (ctPut a 42 50 (nI l.length) z) (l ++ (k, x, z) :: b) := by
  obtain ⟨e, hat⟩ := hl
  refine ⟨?_, fun i w hi => ?_⟩
  · rw [ctPut_ne (by decide), e]
    simp
  · rw [ctPut_ne (by decide), ctPut_ne (by decide), ctPut_self, rPut_nI _ (by decide) h]
    unfold upd
    by_cases hj : i < l.length
    · have h2 : (l ++ (k, x, y) :: b)[i]? = some w := by
        rw [List.getElem?_append_left hj] at hi ⊢
        exact hi
      rw [if_neg (by omega)]
      exact hat i w h2
    · by_cases hk : i = l.length
      · subst hk
        have h2 := hat l.length (k, x, y) (by simp)
        rw [List.getElem?_append_right (by omega)] at hi
        simp at hi
        subst hi
        rw [if_pos rfl]
        exact ⟨h2.1, h2.2.1, rfl⟩
      · rw [if_neg hk]
        refine hat i w ?_
        rw [List.getElem?_append_right (by omega)] at hi ⊢
        obtain ⟨j, hj2⟩ : ∃ j, i - l.length = j + 1 := ⟨i - l.length - 1, by omega⟩
        rw [hj2, List.getElem?_cons_succ] at hi ⊢
        exact hi
def wkKind (B : Nat → Int32) (s p : Nat) : Int32 := if isW B s p 18 then 1 else if isW B s p 19 then 2 else if isW B s p 20 then 3 else if isW B s p 21 then 4 else if isW B s p 22 then 5 else if isW B s p 14 then 6 else if isW B s p 23 then 7 else 0
def pFirst (B : Nat → Int32) (n : Nat) (kind ns : Int32) (p : Nat) : (Int32 × Nat) ⊕ (Int32 × Nat) := if kind = 6 then .inl (0, p) else pNum B n 0 (ns - 1) p
def pSecond (B : Nat → Int32) (n : Nat) (kind ns : Int32) (p : Nat) : (Int32 × Nat) ⊕ (Int32 × Nat) := if kind = 1 then pNum B n 0 (ns - 1) p else if kind = 3 then pNum B n 1 9 p else .inl (0, p)
/-- 0: a step; 1: the steps up to a ]; b stand ahead, o agains are open -/
def pSt (B : Nat → Int32) (n : Nat) (ns : Int32) : Nat → Nat → Nat → Nat → Nat → (List St × Nat) ⊕ (Int32 × Nat)
  | 0, _, _, _, _ => .inr (0, 0)
  | t + 1, mode, o, b, p =>
    if mode = 0 then
      if wkKind B (skB B n p) (ltE B n (skB B n p)) = 0 then .inr (1, skB B n p)
      else if wkKind B (skB B n p) (ltE B n (skB B n p)) = 7 then
        if 6 ≤ o then .inr (3, skB B n p) else sB (pNum B n 0 20 (ltE B n (skB B n p))) fun x => sB (pSign B n 91 x.2) fun e => sB (pSt B n ns t 1 (o + 1) (b + 1) e) fun y => sB (pSign B n 93 y.2) fun e2 => sB (pSign B n 59 e2) fun e3 => .inl ((7, x.1, nI (b + 1 + y.1.length)) :: y.1, e3)
      else sB (pFirst B n (wkKind B (skB B n p) (ltE B n (skB B n p))) ns (ltE B n (skB B n p))) fun x => sB (pSecond B n (wkKind B (skB B n p) (ltE B n (skB B n p))) ns x.2) fun y => sB (pSign B n 59 y.2) fun e => .inl ([(wkKind B (skB B n p) (ltE B n (skB B n p)), x.1, y.1)], e)
    else if bAt B n (skB B n p) = 93 then .inl ([], skB B n p)
    else sB (pSt B n ns t 0 o b (skB B n p)) fun x => sB (pSt B n ns t 1 o (b + x.1.length) x.2) fun y => .inl (x.1 ++ y.1, y.2)
theorem isW_len {B : Nat → Int32} {s p i : Nat} (h : isW B s p i = true) : p - s = sLen i := by
  unfold isW at h
  rw [Bool.and_eq_true] at h
  exact of_decide_eq_true h.1
theorem wk_wide {B : Nat → Int32} {s p : Nat} (hw : ¬ wkKind B s p = 0) (hsp : s ≤ p) : s + 4 ≤ p ∧ (wkKind B s p = 7 → s + 5 ≤ p) := by
  unfold wkKind at hw ⊢
  split
  · next h => have := isW_len h; have e : sLen 18 = 5 := by decide +kernel
              exact ⟨by omega, fun z => absurd z (by decide)⟩
  next h1 =>
  split
  · next h => have := isW_len h; have e : sLen 19 = 4 := by decide +kernel
              exact ⟨by omega, fun z => absurd z (by decide)⟩
  next h2 =>
  split
  · next h => have := isW_len h; have e : sLen 20 = 5 := by decide +kernel
              exact ⟨by omega, fun z => absurd z (by decide)⟩
  next h3 =>
  split
  · next h => have := isW_len h; have e : sLen 21 = 7 := by decide +kernel
              exact ⟨by omega, fun z => absurd z (by decide)⟩
  next h4 =>
  split
  · next h => have := isW_len h; have e : sLen 22 = 6 := by decide +kernel
              exact ⟨by omega, fun z => absurd z (by decide)⟩
  next h5 =>
  split
  · next h => have := isW_len h; have e : sLen 14 = 4 := by decide +kernel
              exact ⟨by omega, fun z => absurd z (by decide)⟩
  next h6 =>
  split
  · next h => have := isW_len h; have e : sLen 23 = 5 := by decide +kernel
              exact ⟨by omega, fun z => by omega⟩
  next h7 =>
  rw [if_neg h1, if_neg h2, if_neg h3, if_neg h4, if_neg h5, if_neg h6, if_neg h7] at hw
  exact absurd rfl hw
theorem pNum_le {B : Nat → Int32} {n p e : Nat} {lo hi v : Int32} (hp : p ≤ n) (h : pNum B n lo hi p = .inl (v, e)) : p < e ∧ e ≤ n ∧ lo ≤ v ∧ v ≤ hi := by
  have l1 := skB_le (B := B) hp
  have l3 := dgE_le (B := B) l1.2
  unfold pNum at h
  split at h
  · cases h
  split at h
  · next h2 => cases h; exact ⟨by omega, l3.2, h2.1, h2.2⟩
  · cases h
theorem pFirst_le {B : Nat → Int32} {n p e : Nat} {kind ns v : Int32} (hp : p ≤ n) (h : pFirst B n kind ns p = .inl (v, e)) : p ≤ e ∧ e ≤ n ∧ 0 ≤ v := by
  unfold pFirst at h
  split at h
  · cases h; exact ⟨Nat.le_refl _, hp, by decide⟩
  · have := pNum_le hp h; exact ⟨by omega, this.2.1, this.2.2.1⟩
theorem pSecond_le {B : Nat → Int32} {n p e : Nat} {kind ns v : Int32} (hp : p ≤ n) (h : pSecond B n kind ns p = .inl (v, e)) : p ≤ e ∧ e ≤ n ∧ 0 ≤ v := by
  unfold pSecond at h
  split at h
  · have := pNum_le hp h; exact ⟨by omega, this.2.1, this.2.2.1⟩
  split at h
  · have := pNum_le hp h; exact ⟨by omega, this.2.1, Int32.le_trans (by decide) this.2.2.1⟩
  · cases h; exact ⟨Nat.le_refl _, hp, by decide⟩
theorem pSt_up (B : Nat → Int32) (n : Nat) (ns : Int32) : ∀ (t mode o b p : Nat) (x : List St) (e : Nat), p ≤ n → pSt B n ns t mode o b p = .inl (x, e) → p ≤ e ∧ e ≤ n ∧ 5 * x.length ≤ e - p ∧ (mode = 0 → p < e)
  | 0, _, _, _, _, _, _, _, h => by cases h
  | t + 1, mode, o, b, p, x, e, hp, h => by
    have ih := pSt_up B n ns t
    have l1 := skB_le (B := B) hp
    have l2 := ltE_le (B := B) l1.2
    rw [pSt] at h
    split at h
    · split at h
      · cases h
      next hw =>
      have w1 := wk_wide hw l2.1
      split at h
      · next h7 =>
        have w7 := w1.2 h7
        split at h
        · cases h
        cases e1 : pNum B n 0 20 (ltE B n (skB B n p)) with
        | inr y => rw [sB_r e1] at h; cases h
        | inl y =>
          rw [sB_l e1] at h
          have i1 := pNum_le l2.2 e1
          cases e2 : pSign B n 91 y.2 with
          | inr z => rw [sB_r e2] at h; cases h
          | inl z =>
            rw [sB_l e2] at h
            have i2 := pSign_le i1.2.1 (by decide) e2
            cases e3 : pSt B n ns t 1 (o + 1) (b + 1) z with
            | inr w => rw [sB_r e3] at h; cases h
            | inl w =>
              rw [sB_l e3] at h
              have i3 := ih _ _ _ _ w.1 w.2 i2.2 e3
              cases e4 : pSign B n 93 w.2 with
              | inr u => rw [sB_r e4] at h; cases h
              | inl u =>
                rw [sB_l e4] at h
                have i4 := pSign_le i3.2.1 (by decide) e4
                cases e5 : pSign B n 59 u with
                | inr v => rw [sB_r e5] at h; cases h
                | inl v =>
                  rw [sB_l e5] at h
                  have i5 := pSign_le i4.2 (by decide) e5
                  cases h
                  simp only [List.length_cons]
                  refine ⟨?_, ?_, ?_, fun _ => ?_⟩ <;> omega
      · cases e1 : pFirst B n (wkKind B (skB B n p) (ltE B n (skB B n p))) ns (ltE B n (skB B n p)) with
        | inr y => rw [sB_r e1] at h; cases h
        | inl y =>
          rw [sB_l e1] at h
          have i1 := pFirst_le l2.2 e1
          cases e2 : pSecond B n (wkKind B (skB B n p) (ltE B n (skB B n p))) ns y.2 with
          | inr z => rw [sB_r e2] at h; cases h
          | inl z =>
            rw [sB_l e2] at h
            have i2 := pSecond_le i1.2.1 e2
            cases e3 : pSign B n 59 z.2 with
            | inr u => rw [sB_r e3] at h; cases h
            | inl u =>
              rw [sB_l e3] at h
              have i3 := pSign_le i2.2.1 (by decide) e3
              cases h
              simp only [List.length_cons, List.length_nil]
              refine ⟨?_, ?_, ?_, fun _ => ?_⟩ <;> omega
    split at h
    · cases h; exact ⟨l1.1, l1.2, by simp, fun z => by omega⟩
    · cases e1 : pSt B n ns t 0 o b (skB B n p) with
      | inr y => rw [sB_r e1] at h; cases h
      | inl y =>
        rw [sB_l e1] at h
        have i1 := ih _ _ _ _ y.1 y.2 l1.2 e1
        cases e2 : pSt B n ns t 1 o (b + y.1.length) y.2 with
        | inr z => rw [sB_r e2] at h; cases h
        | inl z =>
          rw [sB_l e2] at h
          have i2 := ih _ _ _ _ z.1 z.2 i1.2.1 e2
          cases h
          simp only [List.length_append]
          refine ⟨?_, ?_, ?_, fun z => ?_⟩ <;> omega
section PN
variable {G : GE} {r : RA} {B : Nat → Int32} {n : Nat} {k f ns : Int32}
theorem c_kindOfP {P : KI} {d p s : Nat} {a : IA} {g : Nat → Int32} (hr : Rk r) (hB : By a B n) (hx : TXr g n p s k f) (hsp : s ≤ p) (hpn : p ≤ n) (hp : P (wkKind B s p) (va_up a 2 g) r nK) : Sp G (d + 6) 0 0 MX7_kindOf [.ref 2] (va_up a 2 g, r, nK) (RI P) := by
  unfold wkKind at hp
  refine V_X7_kindOf_0 ⟨rfl, by decide, t_wordIs (i := 18) hr hB hx hsp hpn (by decide) (by decide) ⟨fun h1 => ⟨rfl, by decide, t_wordIs (i := 19) hr hB hx hsp hpn (by decide) (by decide) ⟨fun h2 => ⟨rfl, by decide, t_wordIs (i := 20) hr hB hx hsp hpn (by decide) (by decide) ⟨fun h3 => ⟨rfl, by decide, t_wordIs (i := 21) hr hB hx hsp hpn (by decide) (by decide) ⟨fun h4 => ⟨rfl, by decide, t_wordIs (i := 22) hr hB hx hsp hpn (by decide) (by decide) ⟨fun h5 => ⟨rfl, by decide, t_wordIs (i := 14) hr hB hx hsp hpn (by decide) (by decide) ⟨fun h6 => ⟨rfl, by decide, t_wordIs (i := 23) hr hB hx hsp hpn (by decide) (by decide) ⟨fun h7 => ?_, fun h7 => ?_⟩⟩, fun h6 => ?_⟩⟩, fun h5 => ?_⟩⟩, fun h4 => ?_⟩⟩, fun h3 => ?_⟩⟩, fun h2 => ?_⟩⟩, fun h1 => ?_⟩⟩
  all_goals simp only [bit0, Bool.not_eq_false] at *
  · simpa [h1, h2, h3, h4, h5, h6, h7] using hp
  · simpa [h1, h2, h3, h4, h5, h6, h7] using hp
  · simpa [h1, h2, h3, h4, h5, h6] using hp
  · simpa [h1, h2, h3, h4, h5] using hp
  · simpa [h1, h2, h3, h4] using hp
  · simpa [h1, h2, h3] using hp
  · simpa [h1, h2] using hp
  · simpa [h1] using hp
theorem c_appendP {P : KN} {d : Nat} {a : IA} {x y z : Int32} (hr : Rk r) (hp : P (plPut a (x, y, z)) r nK) : Sp G (d + 1) 0 0 MX7_append [.ref 39, .int x, .int y, .int z] (a, r, nK) (RN P) := by
  obtain ⟨t0, t1, t2, t3, e1, e2, e3⟩ := plan_k hr
  refine V_X7_append_0 ⟨t0, by decide, _, e1, t0, by decide, c_put t1 (by decide) (by decide) ⟨t0, by decide, _, e2, t0, by decide, c_put t2 (by decide) (by decide) ⟨t0, by decide, _, e3, t0, by decide, c_put t3 (by decide) (by decide) ⟨t0, by decide, t0, by decide, fun a5 h5 => ?_⟩⟩⟩⟩
  subst h5
  rw [va_up_ne _ _ (show (39 : Nat) ≠ 42 by decide), va_up_ne _ _ (show (39 : Nat) ≠ 41 by decide), va_up_ne _ _ (show (39 : Nat) ≠ 40 by decide)]
  exact hp
end PN
