/-! Main: post, law, city -/
def swp (r : RA) (i X Y : Nat) : RA := u2V (u2V r 0 i (.ref X)) 0 (i + 1) (.ref Y)
theorem swp_1 {r : RA} {i X Y : Nat} : swp r i X Y 0 i = .ref X := by
  unfold swp u2V
  rw [va_up_self, va_up_ne _ _ (by omega), va_up_self, va_up_self]
theorem swp_2 {r : RA} {i X Y : Nat} : swp r i X Y 0 (i + 1) = .ref Y := by
  unfold swp u2V
  rw [va_up_self, va_up_self]
theorem swp_o {r : RA} {i X Y q j : Nat} (h : ¬ (q = 0 ∧ (j = i ∨ j = i + 1))) : swp r i X Y q j = r q j := by
  unfold swp u2V
  by_cases hq : q = 0
  · subst hq
    rw [va_up_self, va_up_ne _ _ (by omega), va_up_self, va_up_ne _ _ (by omega)]
  · rw [va_up_ne _ _ hq, va_up_ne _ _ hq]
theorem rk_swp {r : RA} {i X Y : Nat} (hr : Rk r) (hi : refC 0 i = 0 ∧ refC 0 (i + 1) = 0) : Rk (swp r i X Y) := by
  intro q j h0
  rw [swp_o (fun z => ?_)]
  · exact hr q j h0
  · obtain ⟨rfl, e | e⟩ := z
    · rw [e] at h0; exact h0 hi.1
    · rw [e] at h0; exact h0 hi.2
theorem opn_eq {a : IA} {s : Int32} : opn a s = va_up (u2 a 0 1 0) 2 (txo (a 2) s) := by
  unfold opn u2
  rw [va_up_ne _ _ (by decide), up_comm _ _ _ (show (2 : Nat) ≠ 0 by decide)]
theorem txo_ok {f : Nat → Int32} {n : Nat} : TXr (txo f (nI n)) n 0 0 0 (-1) := by
  unfold TXr txo
  refine ⟨?_, ?_, ?_, ?_, ?_⟩
  · rw [upd_ne (by decide), upd_ne (by decide), upd_ne (by decide), upd_ne (by decide), upd_eq]
  · rw [upd_ne (by decide), upd_ne (by decide), upd_ne (by decide), upd_eq]; rfl
  · rw [upd_ne (by decide), upd_ne (by decide), upd_eq]; rfl
  · rw [upd_ne (by decide), upd_eq]
  · rw [upd_eq]
theorem By_0 {a : IA} {B : Nat → Int32} {n : Nat} (h : By a B n) : By (u2 a 0 1 0) B n := ⟨h.1, fun i hi => by rw [u2_off 1 (by decide)]; exact h.2 i hi⟩
section TT
variable {G : GE} {d C S : Nat} {a : IA} {r : RA} {n T T' L L' M M' : Nat} {B : Nat → Int32}
theorem opn_n {s m : Int32} {mm : Nat} (hm : m = nI mm) (h6 : mm ≤ 600) (hn : s = nI n) (hn6 : n < 2 ^ 31) (h : opOK a s m) : n ≤ mm := by
  have := h.2.2
  rw [hm, hn] at this
  by_cases e : n ≤ mm
  · exact e
  · exact absurd (nI_lt (by omega) hn6) this
theorem c_post {P : KI} (hr : Rk r) (hM : isMail M) (hM' : isMail M') (hne : M' ≠ M) (h7 : r 0 7 = .ref M) (h8 : r 0 8 = .ref M') (h : opOK a (nI n) 100) (hB : By a B n)
    (hy : ∀ l, pPost B n 9 [] 0 = .inl l → ∀ a' g' p' s', offM M' (u2 a 0 1 0) a' → MlOK a' M' l → TXr g' n p' s' 0 (-1) → P (nI l.length) (va_up a' 2 g') (swp r 7 M' M) nK)
    (hf : ∀ c q, pPost B n 9 [] 0 = .inr (c, q) → ∀ a' g' p' s', offM M' (u2 a 0 1 0) a' → TXr g' n p' s' c (nI q) → P (c - 10) (va_up a' 2 g') r nK) : Sp G (d + 4) 0 0 MX11_post [.ref 0, .int (nI n)] (a, r, nK) (RI P) := by
  have hn := hB.1
  refine V_X11_post_0 ⟨rfl, by decide, c_openText hr h (nI_nlt (a := 600) hn (by decide)) ⟨rfl, by decide, _, h8, rfl, by decide, 2, rf5 hr (by decide) rfl, (mlT hM').1, (mlT hM').2, ?_⟩⟩
  rw [opn_eq]
  refine c_readAllM hr hM' (By_0 hB) txo_ok (by omega) (fun l e a' g' p' s' ho hl hx => ⟨fun _ => ⟨rfl, by decide, _, h7, rfl, by decide, _, h8, rfl, by decide, fun r1 e1 => ⟨rfl, by decide, fun r2 e2 => ?_⟩⟩, fun z => absurd z (by decide)⟩) (fun c q e a' g' p' s' ho hx => ⟨fun z => absurd rfl z, fun _ => ⟨rfl, by decide, 2, rf5 hr (by decide) rfl, rfl, by decide, c_answer ?_⟩⟩)
  · have er : r2 = swp r 7 M' M := by rw [e2, e1]; rfl
    rw [er]
    refine ⟨rfl, by decide, M', swp_1, (mlT hM').1, (mlT hM').2, ?_⟩
    rw [va_up_ne _ _ (by rcases hM' with rfl | rfl <;> decide), hl.1]
    exact hy l e a' g' p' s' ho hl hx
  · rw [va_up_self, hx.2.2.2.1]
    exact hf c q e a' g' p' s' ho hx
theorem c_law {P : KI} (hr : Rk r) (hL : isLaw L) (hL' : isLaw L') (hne : L' ≠ L) (h5 : r 0 5 = .ref L) (h6 : r 0 6 = .ref L') (h : opOK a (nI n) 150) (hB : By a B n)
    (hy : ∀ l, pLaw B n 0 = .inl l → ∀ a' g' p' s', offL L' (u2 a 0 1 0) a' → LwOK a' L' l → l.length ≤ 150 → TXr g' n p' s' 0 (-1) → P 1 (va_up a' 2 g') (swp r 5 L' L) nK)
    (hf : ∀ c q, pLaw B n 0 = .inr (c, q) → ∀ a' g' p' s', offL L' (u2 a 0 1 0) a' → TXr g' n p' s' c (nI q) → P (c - 10) (va_up a' 2 g') r nK) : Sp G (d + 35) 0 0 MX11_law [.ref 0, .int (nI n)] (a, r, nK) (RI P) := by
  have hn := hB.1
  have hn150 : n ≤ 150 := opn_n (mm := 150) rfl (by decide) rfl (by omega) h
  refine V_X11_law_0 ⟨rfl, by decide, c_openText hr h (nI_nlt (a := 600) hn (by decide)) ⟨rfl, by decide, _, h6, rfl, by decide, 2, rf5 hr (by decide) rfl, (lwT hL').1, (lwT hL').2, ?_⟩⟩
  rw [opn_eq]
  refine c_readAllL hr hL' hn150 (By_0 hB) txo_ok (by omega) (fun l e a' g' p' s' ho hl h150 hx => ⟨fun _ => ⟨rfl, by decide, _, h5, rfl, by decide, _, h6, rfl, by decide, fun r1 e1 => ⟨rfl, by decide, fun r2 e2 => ?_⟩⟩, fun z => absurd z (by decide)⟩) (fun c q e a' g' p' s' ho hx => ⟨fun z => absurd rfl z, fun _ => ⟨rfl, by decide, 2, rf5 hr (by decide) rfl, rfl, by decide, c_answer ?_⟩⟩)
  · have er : r2 = swp r 5 L' L := by rw [e2, e1]; rfl
    rw [er]
    exact hy l e a' g' p' s' ho hl h150 hx
  · rw [va_up_self, hx.2.2.2.1]
    exact hf c q e a' g' p' s' ho hx
/-- what a new CITY leaves: law, post and ledger empty, a new life -/
def ctNew (a : IA) (T L M : Nat) : IA :=
  let b := u2 (u2 (u2 (u2 a L 2 0) M 2 0) 47 2 0) 47 3 0
  u2 (va_up b 44 (lfBegin b T (fun j => if j < 42 then 0 else b 44 j) 8)) 0 16 0
theorem c_city {P : KI} (hr : Rk r) (hT : isCity T) (hT' : isCity T') (h3 : r 0 3 = .ref T) (h4 : r 0 4 = .ref T') (hL : isLaw L) (h5 : r 0 5 = .ref L) (hM : isMail M) (h7 : r 0 7 = .ref M) (h : opOK a (nI n) 600) (hB : By a B n)
    (hy : ∀ l, pCity B n 61 0 0 0 0 0 = .inl l → ∀ g' p' s', TXr g' n p' s' 0 (-1) → P (ctNew (va_up (ctAll T' l (ctClear (u2 a 0 1 0) T')) 2 g') T' L M T' 1) (ctNew (va_up (ctAll T' l (ctClear (u2 a 0 1 0) T')) 2 g') T' L M) (swp r 3 T' T) nK)
    (hf : ∀ c q, pCity B n 61 0 0 0 0 0 = .inr (c, q) → ∀ a' g' p' s', offC T' (u2 a 0 1 0) a' → TXr g' n p' s' c (nI q) → P (c - 10) (va_up a' 2 g') r nK) : Sp G (d + 9) 0 0 MX11_city [.ref 0, .int (nI n)] (a, r, nK) (RI P) := by
  have hn := hB.1
  have hr' : Rk (swp r 3 T' T) := rk_swp hr ⟨rfl, rfl⟩
  refine V_X11_city_0 ⟨rfl, by decide, c_openText hr h (nI_nlt (a := 600) hn (by decide)) ⟨rfl, by decide, _, h4, rfl, by decide, 2, rf5 hr (by decide) rfl, ct0 hT', ctl hT', ?_⟩⟩
  rw [opn_eq]
  refine c_readAllC hr hT' (By_0 hB) txo_ok (by omega) (fun l e g' p' s' hx => ⟨fun _ => ⟨rfl, by decide, _, h3, rfl, by decide, _, h4, rfl, by decide, fun r1 e1 => ⟨rfl, by decide, fun r2 e2 => ?_⟩⟩, fun z => absurd z (by decide)⟩) (fun c q e a' g' p' s' ho hx => ⟨fun z => absurd rfl z, fun _ => ⟨rfl, by decide, 2, rf5 hr (by decide) rfl, rfl, by decide, c_answer ?_⟩⟩)
  · have er : r2 = swp r 3 T' T := by rw [e2, e1]; rfl
    rw [er]
    have hy := hy l e g' p' s' hx
    generalize va_up (ctAll T' l (ctClear (u2 a 0 1 0) T')) 2 g' = b at hy ⊢
    refine ⟨rfl, by decide, L, by rw [swp_o (by omega)]; exact h5, (lwT hL).1, (lwT hL).2, c_lawClear hr' hL ⟨rfl, by decide, M, by rw [swp_o (by omega)]; exact h7, (mlT hM).1, (mlT hM).2, c_mailClear hr' hM ⟨rfl, by decide, 47, rf12 hr', rfl, by decide, c_ledgerClear ⟨rfl, by decide, 43, rf10 hr', rfl, by decide, T', swp_1, rfl, by decide, c_begin hr' (Or.inl rfl) hT' ⟨rfl, by decide, fun a31 h31 => ⟨rfl, by decide, T', swp_1, ct0 hT', ctl hT', ?_⟩⟩⟩⟩⟩⟩
    subst h31
    exact hy
  · rw [va_up_self, hx.2.2.2.1]
    exact hf c q e a' g' p' s' ho hx
end TT
