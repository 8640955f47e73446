/-! Law: its grammar; reading -/
def isLaw (L : Nat) : Prop := L = 27 ∨ L = 30
theorem law_k {r : RA} {L : Nat} (hr : Rk r) (hL : isLaw L) : tyK L = (0, 2) ∧ L < nK ∧ tyK (L + 1) = (1, 150) ∧ L + 1 < nK ∧ tyK (L + 2) = (1, 150) ∧ L + 2 < nK ∧ r L 0 = .ref (L + 1) ∧ r L 1 = .ref (L + 2) := by
  rcases hL with rfl | rfl
  · exact ⟨rfl, by decide, rfl, by decide, rfl, by decide, hr.at (by decide), hr.at (by decide)⟩
  · exact ⟨rfl, by decide, rfl, by decide, rfl, by decide, hr.at (by decide), hr.at (by decide)⟩
/-- the words of a LAW: hers his trees likes liked cross length year holes least most -/
def lwWord (B : Nat → Int32) (s p : Nat) : Int32 := if isW B s p 8 then -7 else if isW B s p 9 then -8 else if isW B s p 10 then -9 else if isW B s p 3 then -10 else if isW B s p 11 then -11 else if isW B s p 12 then -12 else if isW B s p 13 then -13 else if isW B s p 14 then -14 else if isW B s p 15 then -15 else if isW B s p 16 then -5 else if isW B s p 17 then -6 else 0
/-- the grammar: 0 E, 1 what follows a T in E, 2 T, 3 what follows a U in T, 4 U; o are open -/
def pE (B : Nat → Int32) (n : Nat) : Nat → Nat → Nat → Nat → (List Int32 × Nat) ⊕ (Int32 × Nat)
  | 0, _, _, _ => .inr (0, 0)
  | t + 1, mode, o, p =>
    if mode = 0 then sB (pE B n t 2 o p) fun x => sB (pE B n t 1 o x.2) fun y => .inl (x.1 ++ y.1, y.2)
    else if mode = 1 then
      if bAt B n (skB B n p) = 43 then sB (pE B n t 2 o (skB B n p + 1)) fun x => sB (pE B n t 1 o x.2) fun y => .inl (x.1 ++ -1 :: y.1, y.2)
      else if bAt B n (skB B n p) = 45 then sB (pE B n t 2 o (skB B n p + 1)) fun x => sB (pE B n t 1 o x.2) fun y => .inl (x.1 ++ -2 :: y.1, y.2)
      else .inl ([], skB B n p)
    else if mode = 2 then sB (pE B n t 4 o p) fun x => sB (pE B n t 3 o x.2) fun y => .inl (x.1 ++ y.1, y.2)
    else if mode = 3 then
      if bAt B n (skB B n p) = 42 then sB (pE B n t 4 o (skB B n p + 1)) fun x => sB (pE B n t 3 o x.2) fun y => .inl (x.1 ++ -3 :: y.1, y.2)
      else if bAt B n (skB B n p) = 47 then sB (pE B n t 4 o (skB B n p + 1)) fun x => sB (pE B n t 3 o x.2) fun y => .inl (x.1 ++ -4 :: y.1, y.2)
      else .inl ([], skB B n p)
    else
      if isD (bAt B n (skB B n p)) = true then sB (pNum B n 0 999 p) fun x => .inl ([x.1], x.2)
      else if bAt B n (skB B n p) = 40 then
        if 6 ≤ o then .inr (3, skB B n p) else sB (pE B n t 0 (o + 1) (skB B n p + 1)) fun x => sB (pSign B n 41 x.2) fun e => .inl (x.1, e)
      else if lwWord B (skB B n p) (ltE B n (skB B n p)) = 0 then .inr (1, skB B n p)
      else if lwWord B (skB B n p) (ltE B n (skB B n p)) = -5 ∨ lwWord B (skB B n p) (ltE B n (skB B n p)) = -6 then
        if 6 ≤ o then .inr (3, skB B n p) else sB (pSign B n 91 (ltE B n (skB B n p))) fun e1 => sB (pE B n t 0 (o + 1) e1) fun x => sB (pSign B n 44 x.2) fun e2 => sB (pE B n t 0 (o + 1) e2) fun y => sB (pSign B n 93 y.2) fun e3 => .inl (x.1 ++ y.1 ++ [lwWord B (skB B n p) (ltE B n (skB B n p))], e3)
      else .inl ([lwWord B (skB B n p) (ltE B n (skB B n p))], ltE B n (skB B n p))
def offL (L : Nat) (a a' : IA) : Prop := ∀ q, ¬ (q = L ∨ q = L + 1) → a' q = a q
theorem offL_rf {L : Nat} {a : IA} : offL L a a := fun _ _ => rfl
theorem offL_tr {L : Nat} {a b c : IA} (h1 : offL L a b) (h2 : offL L b c) : offL L a c := fun q hq => (h2 q hq).trans (h1 q hq)
/-- the code that Law L holds -/
def LwOK (a : IA) (L : Nat) (l : List Int32) : Prop := a L 2 = nI l.length ∧ ∀ (i : Nat) (v : Int32), l[i]? = some v → a (L + 1) i = v
def lwPut (a : IA) (L : Nat) (x : Int32) : IA := u2 (ctPut a (L + 1) 150 (a L 2) x) L 2 (a L 2 + 1)
theorem lwPut_off {a : IA} {L : Nat} {x : Int32} : offL L a (lwPut a L x) := fun q hq => by
  unfold lwPut
  rw [u2_off q (fun e => hq (Or.inl e)), ctPut_ne (fun e => hq (Or.inr e))]
theorem lwPut_ok {a : IA} {L : Nat} {l : List Int32} {x : Int32} (hl : LwOK a L l) (h : l.length < 150) : LwOK (lwPut a L x) L (l ++ [x]) := by
  obtain ⟨e, hat⟩ := hl
  refine ⟨?_, fun i w hi => ?_⟩
  · unfold lwPut
    rw [u2_eq, e, nI_1]
    simp
  · have e1 : lwPut a L x (L + 1) = upd (a (L + 1)) l.length x := by
      unfold lwPut
      rw [u2_off _ (by omega), ctPut_self, e, rPut_nI _ (by decide) h]
    rw [e1]
    unfold upd
    by_cases hj : i < l.length
    · rw [List.getElem?_append_left hj] at hi
      rw [if_neg (by omega)]
      exact hat i w hi
    · rw [List.getElem?_append_right (by omega)] at hi
      have : i = l.length := by
        rcases Nat.lt_or_ge (i - l.length) 1 with z | z
        · omega
        · rw [List.getElem?_eq_none (by simpa using z)] at hi; cases hi
      subst this
      simp at hi
      subst hi
      rw [if_pos rfl]
section LW
variable {G : GE} {d C S : Nat} {a : IA} {r : RA} {B : Nat → Int32} {n p s L o : Nat} {k f x : Int32} {g : Nat → Int32} {l : List Int32}
theorem lawNe (hL : isLaw L) : L ≠ 2 ∧ L + 1 ≠ 2 ∧ L ≠ 1 ∧ L + 1 ≠ 1 := by rcases hL with rfl | rfl <;> decide
theorem By.offL {a a' : IA} (hL : isLaw L) (h : By a B n) (ho : offL L a a') : By a' B n := ⟨h.1, fun i hi => by rw [ho 1 (by have := lawNe hL; omega)]; exact h.2 i hi⟩
theorem lwPut_up (hL : isLaw L) : lwPut (va_up a 2 g) L x = va_up (lwPut a L x) 2 g := by
  have h := lawNe hL
  unfold lwPut
  rw [up_at h.1, up_ctPut h.2.1, up_u2 h.1]
theorem c_append {P : KI} (hr : Rk r) (hL : isLaw L) (hp : P 1 (lwPut a L x) r nK) : Sp G (d + 1) 0 0 MX2_append [.ref L, .int x] (a, r, nK) (RI P) := by
  obtain ⟨t0, l0, t1, l1, t2, l2, e1, e2⟩ := law_k hr hL
  refine V_X2_append_0 ⟨t0, l0, _, e1, t0, l0, c_put t1 (by decide) l1 ⟨t0, l0, t0, l0, fun a5 h5 => ⟨bz_1, ?_⟩⟩⟩
  subst h5
  rw [va_up_ne _ _ (show L ≠ L + 1 by omega)]
  exact hp
theorem c_wordOf {P : KI} (hr : Rk r) (hB : By a B n) (hx : TXr g n p s k f) (hsp : s ≤ p) (hpn : p ≤ n) (hp : P (lwWord B s p) (va_up a 2 g) r nK) : Sp G (d + 6) 0 0 MX2_wordOf [.ref 2] (va_up a 2 g, r, nK) (RI P) := by
  unfold lwWord at hp
  refine V_X2_wordOf_0 ⟨rfl, by decide, t_wordIs (i := 8) hr hB hx hsp hpn (by decide) (by decide) ⟨fun h1 => ⟨rfl, by decide, t_wordIs (i := 9) hr hB hx hsp hpn (by decide) (by decide) ⟨fun h2 => ⟨rfl, by decide, t_wordIs (i := 10) hr hB hx hsp hpn (by decide) (by decide) ⟨fun h3 => ⟨rfl, by decide, t_wordIs (i := 3) hr hB hx hsp hpn (by decide) (by decide) ⟨fun h4 => ⟨rfl, by decide, t_wordIs (i := 11) hr hB hx hsp hpn (by decide) (by decide) ⟨fun h5 => ⟨rfl, by decide, t_wordIs (i := 12) hr hB hx hsp hpn (by decide) (by decide) ⟨fun h6 => ⟨rfl, by decide, t_wordIs (i := 13) hr hB hx hsp hpn (by decide) (by decide) ⟨fun h7 => ⟨rfl, by decide, t_wordIs (i := 14) hr hB hx hsp hpn (by decide) (by decide) ⟨fun h8 => ⟨rfl, by decide, t_wordIs (i := 15) hr hB hx hsp hpn (by decide) (by decide) ⟨fun h9 => ⟨rfl, by decide, t_wordIs (i := 16) hr hB hx hsp hpn (by decide) (by decide) ⟨fun h10 => ⟨rfl, by decide, t_wordIs (i := 17) hr hB hx hsp hpn (by decide) (by decide) ⟨fun h11 => ?_, fun h11 => ?_⟩⟩, fun h10 => ?_⟩⟩, fun h9 => ?_⟩⟩, fun h8 => ?_⟩⟩, fun h7 => ?_⟩⟩, fun h6 => ?_⟩⟩, fun h5 => ?_⟩⟩, fun h4 => ?_⟩⟩, fun h3 => ?_⟩⟩, fun h2 => ?_⟩⟩, fun h1 => ?_⟩⟩
  all_goals simp only [bit0, Bool.not_eq_false] at *
  · simpa [h1, h2, h3, h4, h5, h6, h7, h8, h9, h10, h11] using hp
  · simpa [h1, h2, h3, h4, h5, h6, h7, h8, h9, h10, h11] using hp
  · simpa [h1, h2, h3, h4, h5, h6, h7, h8, h9, h10] using hp
  · simpa [h1, h2, h3, h4, h5, h6, h7, h8, h9] using hp
  · simpa [h1, h2, h3, h4, h5, h6, h7, h8] using hp
  · simpa [h1, h2, h3, h4, h5, h6, h7] using hp
  · simpa [h1, h2, h3, h4, h5, h6] using hp
  · simpa [h1, h2, h3, h4, h5] using hp
  · simpa [h1, h2, h3, h4] using hp
  · simpa [h1, h2, h3] using hp
  · simpa [h1, h2] using hp
  · simpa [h1] using hp
theorem c_mayOpen {P : KI} (hx : TXr g n p s k f) (ho : o ≤ 6) (hy : o < 6 → P 1 (va_up a 2 g) r nK) (hf : 6 ≤ o → ∀ g', TXr g' n p s 3 (nI s) → P 0 (va_up a 2 g') r nK) : Sp G (d + 1) 0 0 MX2_mayOpen [.ref 2, .int (nI o)] (va_up a 2 g, r, nK) (RI P) := by
  refine V_X2_mayOpen_0 ⟨fun h => ⟨bz_1, hy ((nI_ltI (b := 6) (by omega) (by decide)).mp h)⟩, fun h => ⟨rfl, by decide, t_mark hx (fun g' h2 => ⟨fun _ => ⟨bz_0, hf ?_ g' h2⟩, fun h => absurd rfl h⟩)⟩⟩
  have := mt (nI_ltI (a := o) (b := 6) (by omega) (by decide)).mpr h
  omega
def rk : Nat → Nat
  | 0 => 3
  | 2 => 2
  | _ => 1
/-- what a reader of mode m owes -/
def lwQ (B : Nat → Int32) (n : Nat) (r : RA) (L : Nat) (a : IA) (l : List Int32) (k f : Int32) (p : Nat) (res : (List Int32 × Nat) ⊕ (Int32 × Nat)) (P : KI) : Prop :=
  (∀ x e, res = .inl (x, e) → p ≤ e → e ≤ n → ∀ a' g' s', offL L a a' → LwOK a' L (l ++ x) → TXr g' n e s' k f → P 1 (va_up a' 2 g') r nK) ∧
  (∀ c q, res = .inr (c, q) → ∀ a' g' p' s', offL L a a' → TXr g' n p' s' c (nI q) → P 0 (va_up a' 2 g') r nK)
theorem pE_up (B : Nat → Int32) (n : Nat) : ∀ (t mode o p : Nat) (x : List Int32) (e : Nat), p ≤ n → pE B n t mode o p = .inl (x, e) → p ≤ e ∧ e ≤ n ∧ (mode ≠ 1 → mode ≠ 3 → p < e) ∧ x.length ≤ e - p
  | 0, _, _, _, _, _, _, h => by cases h
  | t + 1, mode, o, p, x, e, hp, h => by
    have ih := pE_up B n t
    have l1 := skB_le (B := B) hp
    have l2 := ltE_le (B := B) l1.2
    have sg : ∀ {c : Int32} {p e : Nat}, p ≤ n → c ≠ -1 → pSign B n c p = .inl e → p < e ∧ e ≤ n := fun {c p e} hp hc h => by
      have l1 := skB_le (B := B) hp
      unfold pSign at h
      split at h
      · next h3 =>
        cases h
        unfold bAt at h3
        split at h3
        · omega
        · exact absurd h3.symm hc
      · cases h
    have bb : ∀ {c : Int32}, c ≠ -1 → bAt B n (skB B n p) = c → skB B n p < n := fun {c} hc h3 => by
      unfold bAt at h3
      split at h3
      · assumption
      · exact absurd h3.symm hc
    have two : ∀ {m1 m2 : Nat} {q : Nat} {z : List Int32}, m1 ≠ 1 → m1 ≠ 3 → p ≤ q → q ≤ n → z.length ≤ q - p → (sB (pE B n t m1 o q) fun x => sB (pE B n t m2 o x.2) fun y => (.inl (x.1 ++ (z ++ y.1), y.2) : (List Int32 × Nat) ⊕ (Int32 × Nat))) = .inl (x, e) → p ≤ e ∧ e ≤ n ∧ (mode ≠ 1 → mode ≠ 3 → p < e) ∧ x.length ≤ e - p := by
      intro m1 m2 q z h1 h3 hq hqn hz h
      cases e1 : pE B n t m1 o q with
      | inr y => rw [sB_r e1] at h; cases h
      | inl y =>
        rw [sB_l e1] at h
        have i1 := ih _ _ _ y.1 y.2 hqn e1
        cases e2 : pE B n t m2 o y.2 with
        | inr w => rw [sB_r e2] at h; cases h
        | inl w =>
          rw [sB_l e2] at h
          have i2 := ih _ _ _ w.1 w.2 i1.2.1 e2
          cases h
          have := i1.2.2.1 h1 h3
          simp only [List.length_append]
          omega
    rw [pE] at h
    split at h
    · exact two (z := []) (by decide) (by decide) (Nat.le_refl _) hp (by simp) h
    split at h
    · split at h
      · next h3 => have := bb (by decide) h3; exact two (z := [-1]) (by decide) (by decide) (by omega) (by omega) (by simp; omega) h
      split at h
      · next h3 => have := bb (by decide) h3; exact two (z := [-2]) (by decide) (by decide) (by omega) (by omega) (by simp; omega) h
      · cases h; exact ⟨l1.1, l1.2, fun h1 => by omega, by simp⟩
    split at h
    · exact two (z := []) (by decide) (by decide) (Nat.le_refl _) hp (by simp) h
    split at h
    · split at h
      · next h3 => have := bb (by decide) h3; exact two (z := [-3]) (by decide) (by decide) (by omega) (by omega) (by simp; omega) h
      split at h
      · next h3 => have := bb (by decide) h3; exact two (z := [-4]) (by decide) (by decide) (by omega) (by omega) (by simp; omega) h
      · cases h; exact ⟨l1.1, l1.2, fun h1 h3 => by omega, by simp⟩
    split at h
    · cases e1 : pNum B n 0 999 p with
      | inr y => rw [sB_r e1] at h; cases h
      | inl y =>
        rw [sB_l e1] at h
        have l3 := dgE_le (B := B) l1.2
        unfold pNum at e1
        split at e1
        · cases e1
        split at e1
        · cases e1; cases h; refine ⟨?_, ?_, fun _ _ => ?_, ?_⟩ <;> simp <;> omega
        · cases e1
    split at h
    · next h3 =>
      have := bb (by decide) h3
      split at h
      · cases h
      cases e1 : pE B n t 0 (o + 1) (skB B n p + 1) with
      | inr y => rw [sB_r e1] at h; cases h
      | inl y =>
        rw [sB_l e1] at h
        have i1 := ih _ _ _ y.1 y.2 (by omega) e1
        cases e2 : pSign B n 41 y.2 with
        | inr w => rw [sB_r e2] at h; cases h
        | inl w =>
          rw [sB_l e2] at h
          have i2 := sg i1.2.1 (by decide) e2
          cases h
          refine ⟨?_, ?_, fun _ _ => ?_, ?_⟩ <;> omega
    split at h
    · cases h
    have wl : ¬ lwWord B (skB B n p) (ltE B n (skB B n p)) = 0 → skB B n p < ltE B n (skB B n p) := fun hw => by
      rcases Nat.lt_or_ge (skB B n p) (ltE B n (skB B n p)) with z | z
      · exact z
      · exfalso
        apply hw
        have e0 : ltE B n (skB B n p) = skB B n p := by omega
        have : ∀ i, i < strN → isW B (skB B n p) (skB B n p) i = false := fun i hi => by
          unfold isW
          have : 0 < sLen i := (by decide +kernel : ∀ i, i < strN → 0 < sLen i) i hi
          rw [decide_eq_false (by omega), Bool.false_and]
        unfold lwWord
        rw [e0]
        simp [this _ (show 8 < strN by decide), this _ (show 9 < strN by decide), this _ (show 10 < strN by decide), this _ (show 3 < strN by decide), this _ (show 11 < strN by decide), this _ (show 12 < strN by decide), this _ (show 13 < strN by decide), this _ (show 14 < strN by decide), this _ (show 15 < strN by decide), this _ (show 16 < strN by decide), this _ (show 17 < strN by decide)]
    split at h
    · next hw _ =>
      have w1 := wl hw
      split at h
      · cases h
      cases e0 : pSign B n 91 (ltE B n (skB B n p)) with
      | inr y => rw [sB_r e0] at h; cases h
      | inl e9 =>
        rw [sB_l e0] at h
        have i0 := sg l2.2 (by decide) e0
        cases e1 : pE B n t 0 (o + 1) e9 with
        | inr y => rw [sB_r e1] at h; cases h
        | inl y =>
          rw [sB_l e1] at h
          have i1 := ih _ _ _ y.1 y.2 i0.2 e1
          cases e2 : pSign B n 44 y.2 with
          | inr w => rw [sB_r e2] at h; cases h
          | inl w =>
            rw [sB_l e2] at h
            have i2 := sg i1.2.1 (by decide) e2
            cases e3 : pE B n t 0 (o + 1) w with
            | inr y => rw [sB_r e3] at h; cases h
            | inl z =>
              rw [sB_l e3] at h
              have i3 := ih _ _ _ z.1 z.2 i2.2 e3
              cases e4 : pSign B n 93 z.2 with
              | inr w => rw [sB_r e4] at h; cases h
              | inl u =>
                rw [sB_l e4] at h
                have i4 := sg i3.2.1 (by decide) e4
                cases h
                simp only [List.length_append, List.length_cons, List.length_nil]
                refine ⟨?_, ?_, fun _ _ => ?_, ?_⟩ <;> omega
    · next hw _ =>
      have w1 := wl hw
      cases h
      refine ⟨?_, ?_, fun _ _ => ?_, ?_⟩ <;> (try simp) <;> omega
end LW
