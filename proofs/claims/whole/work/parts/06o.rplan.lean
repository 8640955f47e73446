/-! Plan's readers -/
theorem sB_assoc {α β γ δ : Type} (x : α ⊕ γ) (f : α → β ⊕ γ) (h : β → δ ⊕ γ) : sB (sB x f) h = sB x (fun v => sB (f v) h) := by cases x <;> rfl
theorem sB_inl {α β γ : Type} (v : α) (f : α → β ⊕ γ) : sB (.inl v) f = f v := rfl
theorem sB_inr {α β γ : Type} (v : γ) (f : α → β ⊕ γ) : sB (.inr v) f = .inr v := rfl
section RP
variable {G : GE} {r : RA} {B : Nat → Int32} {n : Nat} {k f ns : Int32}
def plI (B : Nat → Int32) (n : Nat) (k f : Int32) (a : IA) (g : Nat → Int32) (l : List St) (p s : Nat) : Prop := By a B n ∧ PlOK a l ∧ 5 * l.length ≤ p ∧ TXr g n p s k f ∧ p ≤ n
def plQ (n : Nat) (r : RA) (a : IA) (l : List St) (k f : Int32) (p : Nat) (res : (List St × Nat) ⊕ (Int32 × Nat)) (P : KI) : Prop :=
  (∀ x e, res = .inl (x, e) → ∀ a' g' s', offP a a' → PlOK a' (l ++ x) → TXr g' n e s' k f → P 1 (va_up a' 2 g') r nK) ∧
  (∀ c q, res = .inr (c, q) → ∀ a' g' p' s', offP a a' → TXr g' n p' s' c (nI q) → P 0 (va_up a' 2 g') r nK)
def rdStep (G : GE) (r : RA) (B : Nat → Int32) (n : Nat) (k f ns : Int32) (t : Nat) : Prop :=
  ∀ (o p s : Nat) (a : IA) (g : Nat → Int32) (l : List St) (P : KI), o ≤ 6 → plI B n k f a g l p s → 2 * (n - p) + 1 ≤ t → plQ n r a l k f p (pSt B n ns t 0 o l.length p) P → ∀ D, 2 * (6 - o) + 8 ≤ D → Sp G D 0 0 MX7_readStep [.ref 39, .ref 2, .int ns, .int (nI o)] (va_up a 2 g, r, nK) (RI P)
/-- the steps of an again, its ], its end put in -/
def agRes (B : Nat → Int32) (n : Nat) (ns : Int32) (t o b p : Nat) (times : Int32) (y0 : List St) : (List St × Nat) ⊕ (Int32 × Nat) :=
  sB (pSt B n ns t 1 (o + 1) b p) fun y => sB (pSign B n 93 y.2) fun e2 => .inl ((7, times, nI (b + y.1.length)) :: (y0 ++ y.1), e2)
def rdLoop (G : GE) (r : RA) (B : Nat → Int32) (n : Nat) (k f ns : Int32) (t : Nat) : Prop :=
  ∀ (o p s i : Nat) (a0 a : IA) (g : Nat → Int32) (l y0 : List St) (times : Int32) (P : KI), o < 6 → offP a0 a → plI B n k f a g (l ++ (7, times, 0) :: y0) p s → i ≤ p → 2 * (n - p) + 2 ≤ t → plQ n r a0 l k f p (agRes B n ns t o (l.length + 1 + y0.length) p times y0) P →
    ∀ D, 2 * (6 - o) + 7 ≤ D → E G MX7_readAgain D 0 0 56 [.ref 39, .ref 2, .int ns, .int (nI o), .null, .int (nI l.length), .int (nI i)] [] (va_up a 2 g, r, nK) (RI P)
/-- the end of an again's steps: ] stands at p -/
theorem ag_end {o p s : Nat} {a0 a : IA} {g : Nat → Int32} {l y0 : List St} {times : Int32} {P : KI} {D : Nat} {res : (List St × Nat) ⊕ (Int32 × Nat)} (hr : Rk r) (hn : n ≤ 150) (ho : offP a0 a) (hI : plI B n k f a g (l ++ (7, times, 0) :: y0) p s) (hD : 3 ≤ D)
    (hq : plQ n r a0 l k f o res P) (hres : res = sB (pSign B n 93 p) fun e2 => .inl ((7, times, nI (l.length + 1 + y0.length)) :: y0, e2)) :
    tyK 39 = (0, 7) ∧ 39 < nK ∧ ∃ q1, r 39 2 = .ref q1 ∧ (tyK 39 = (0, 7) ∧ 39 < nK ∧ Sp G D 0 0 MX9_put [.ref q1, .int (nI l.length), .int (va_up a 2 g 39 3)] (va_up a 2 g, r, nK) (RN fun a2 r2 n2 => tyK 2 = (0, 9) ∧ 2 < n2 ∧ Sp G D 0 0 MX10_take [.ref 2, .int 93] (a2, r2, n2) (RI fun v a3 r3 n3 => bz v ∧ P v a3 r3 n3))) := by
  obtain ⟨t0, t1, t2, t3, e1, e2, e3⟩ := plan_k hr
  obtain ⟨hB, hl, hlp, hx, hpn⟩ := hI
  refine ⟨t0, by decide, _, e3, t0, by decide, Sp.up (d := 0) (by omega) (c_put t3 (by decide) (by decide) ⟨rfl, by decide, ?_⟩)⟩
  simp only [List.length_append, List.length_cons] at hlp
  have es : va_up a 2 g 39 3 = nI (l.length + 1 + y0.length) := by
    rw [up_at (by decide), hl.1]
    simp only [List.length_append, List.length_cons]
    congr 1
    omega
  rw [es]
  have e5 : va_up (va_up a 2 g) 42 (rPut (va_up a 2 g 42) 50 (nI l.length) (nI (l.length + 1 + y0.length))) = va_up (ctPut a 42 50 (nI l.length) (nI (l.length + 1 + y0.length))) 2 g := by
    rw [up_at (by decide), up_put (by decide)]
    rfl
  rw [e5]
  have ho2 : offP a (ctPut a 42 50 (nI l.length) (nI (l.length + 1 + y0.length))) := ⟨fun q hq => ctPut_ne (by omega), fun j hj => by rw [ctPut_ne (by decide)]⟩
  have hl2 := plPatch (z := nI (l.length + 1 + y0.length)) hl (by omega)
  exact Sp.up (d := 1) (by omega) (t_take (d := 0) hr (hB.offP ho2) hx hpn (fun e q1 p1 b1 g1 s1 x1 => ⟨bz_1, hq.1 _ e (by rw [hres, sB_l q1]) _ g1 s1 (offP_tr ho ho2) (by simpa using hl2) x1⟩) (fun c q q1 g1 p1 s1 x1 => ⟨bz_0, hq.2 c q (by rw [hres, sB_r q1]) _ g1 p1 s1 (offP_tr ho ho2) x1⟩))
theorem rd_loop (hr : Rk r) (hn : n ≤ 150) {t : Nat} (h0 : rdStep G r B n k f ns t) (h1 : rdLoop G r B n k f ns t) : rdLoop G r B n k f ns (t + 1) := by
  obtain ⟨t0, t1, t2, t3, e1, e2, e3⟩ := plan_k hr
  intro o p s i a0 a g l y0 times P ho hoff hI hip ht hq D hD
  obtain ⟨D, rfl⟩ : ∃ D', D = D' + 1 := ⟨D - 1, by omega⟩
  have hI0 := hI
  obtain ⟨hB, hl, hlp, hx, hpn⟩ := hI
  have hle := skB_le (B := B) hpn
  have hres := pSt.eq_2 B n ns 1 (o + 1) (l.length + 1 + y0.length) p t
  rw [if_neg (by decide)] at hres
  change pSt B n ns (t + 1) 1 (o + 1) (l.length + 1 + y0.length) p = _ at hres
  unfold agRes at hq
  rw [hres] at hq
  refine V_X7_readAgain_56 ⟨fun h => ?_, fun h => ⟨rfl, by decide, Sp.up (d := 1) (by omega) (t_sees (d := 0) hr hB hx hpn (fun g1 x1 => ⟨fun h2 => ?_, fun h2 => ⟨t0, by decide, ?_⟩⟩))⟩⟩
  · have h9 : 150 ≤ i := (nI_leI (a := 150) (by decide) (by omega)).mp h
    have e9 : skB B n p = p := run_end (by omega)
    have hb : ¬ bAt B n (skB B n p) = 93 := fun hb => by have := bAt_lt (by decide) hb; omega
    rw [if_neg hb, e9] at hq
    -- no step can stand at the end
    have hst : pSt B n ns t 0 (o + 1) (l.length + 1 + y0.length) p = .inr (1, p) ∨ t = 0 := by
      cases t with
      | zero => exact Or.inr rfl
      | succ t =>
        left
        have e8 : ltE B n p = p := run_end (by omega)
        have hw : wkKind B p p = 0 := by
          by_cases z : wkKind B p p = 0
          · exact z
          · have := wk_wide z (Nat.le_refl _); omega
        rw [pSt, if_pos rfl, e9, e8, if_pos hw]
    rcases hst with hst | rfl
    · rw [hst, sB_inr, sB_inr] at hq
      have hs : pSign B n 93 p = .inr (1, p) := by
        unfold pSign
        rw [if_neg hb, e9]
      obtain ⟨z1, z2, q1, z3, z4, z5, hput⟩ := ag_end (G := G) (o := p) (P := P) (D := D) (res := .inr (1, p)) hr hn hoff hI0 (by omega) ⟨fun x e hx => (by cases hx), hq.2⟩ (by rw [hs]; rfl)
      exact ⟨z1, z2, q1, z3, z4, z5, hput⟩
    · omega
  · have hb : bAt B n (skB B n p) = 93 := by
      by_cases z : bAt B n (skB B n p) = 93
      · exact z
      · rw [if_neg z] at h2; exact absurd rfl h2
    rw [if_pos hb, sB_inl] at hq
    obtain ⟨z1, z2, q1, z3, z4, z5, hput⟩ := ag_end (G := G) (o := p) (P := P) (D := D) (p := skB B n p) hr hn hoff ⟨hB, hl, by omega, x1, hle.2⟩ (by omega) hq (by simp)
    exact ⟨z1, z2, q1, z3, z4, z5, hput⟩
  · have hb : ¬ bAt B n (skB B n p) = 93 := fun z => by rw [if_pos z] at h2; exact absurd h2 (by decide)
    rw [if_neg hb] at hq
    rw [nI_1]
    have hlen : (l ++ (7, times, 0) :: y0).length = l.length + 1 + y0.length := by simp only [List.length_append, List.length_cons]; omega
    refine h0 (o + 1) (skB B n p) _ a g1 (l ++ (7, times, 0) :: y0) _ (by omega) ⟨hB, hl, by omega, x1, hle.2⟩ (by omega) ⟨fun x e q1 a2 g2 s2 o2 l2 x2 => ⟨fun _ => ?_, fun h => absurd h (by decide)⟩, fun c q q1 a2 g2 p2 s2 o2 x2 => ⟨fun h => absurd rfl h, fun _ => ⟨bz_0, ?_⟩⟩⟩ D (by omega)
    · rw [hlen] at q1
      have hu := pSt_up B n ns t 0 (o + 1) _ _ x e hle.2 q1
      have hlt := hu.2.2.2 rfl
      rw [nI_1]
      refine h1 o e s2 (i + 1) a0 a2 g2 l (y0 ++ x) times P ho (offP_tr hoff o2) ⟨hB.offP o2, by simpa using l2, by simp only [List.length_append, List.length_cons] at hlp ⊢; omega, x2, hu.2.1⟩ (by omega) (by omega) ?_ (D + 1) (by omega)
      rw [q1, sB_inl, sB_assoc] at hq
      unfold agRes
      simp only [sB_inl] at hq
      have e7 : l.length + 1 + (y0 ++ x).length = l.length + 1 + y0.length + x.length := by simp only [List.length_append]; omega
      rw [e7]
      refine ⟨fun x' e' hx' => hq.1 x' e' ?_, fun c' q' hx' => hq.2 c' q' ?_⟩
      · rw [← hx']
        congr 1
        funext y
        congr 1
        funext e2
        simp only [List.length_append, List.append_assoc, Nat.add_assoc]
      · rw [← hx']
        congr 1
        funext y
        congr 1
        funext e2
        simp only [List.length_append, List.append_assoc, Nat.add_assoc]
    · rw [hlen] at q1
      rw [q1, sB_inr, sB_inr] at hq
      exact hq.2 c q rfl a2 g2 p2 s2 (offP_tr hoff o2) x2
theorem c_readSecond {P : KI} {d p s : Nat} {a : IA} {g : Nat → Int32} {kind : Int32} (hr : Rk r) (hB : By a B n) (hx : TXr g n p s k f) (hpn : p ≤ n)
    (hy : ∀ v e, pSecond B n kind ns p = .inl (v, e) → ∀ g' s', TXr g' n e s' k f → P v (va_up a 2 g') r nK)
    (hf : ∀ c q, pSecond B n kind ns p = .inr (c, q) → ∀ g' p' s', TXr g' n p' s' c (nI q) → P (-1) (va_up a 2 g') r nK) : Sp G (d + 2) 0 0 MX7_readSecond [.ref 2, .int ns, .int kind] (va_up a 2 g, r, nK) (RI P) := by
  refine V_X7_readSecond_0 ⟨fun h1 => ⟨rfl, by decide, t_num hr hB hx hpn (fun v e q1 p1 b1 lo hi g1 s1 x1 => hy v e (by unfold pSecond; rw [if_pos h1]; exact q1) g1 s1 x1) (fun c q q1 g1 p1 s1 x1 => hf c q (by unfold pSecond; rw [if_pos h1]; exact q1) g1 p1 s1 x1)⟩, fun h1 => ⟨fun h3 => ⟨rfl, by decide, t_num hr hB hx hpn (fun v e q1 p1 b1 lo hi g1 s1 x1 => hy v e (by unfold pSecond; rw [if_neg h1, if_pos h3]; exact q1) g1 s1 x1) (fun c q q1 g1 p1 s1 x1 => hf c q (by unfold pSecond; rw [if_neg h1, if_pos h3]; exact q1) g1 p1 s1 x1)⟩, fun h3 => hy 0 p (by unfold pSecond; rw [if_neg h1, if_neg h3]) g s hx⟩⟩
theorem rd_step0 (hr : Rk r) (hn : n ≤ 150) {t : Nat} (h1 : rdLoop G r B n k f ns t) : rdStep G r B n k f ns (t + 1) := by
  obtain ⟨t0, t1, t2, t3, e1, e2, e3⟩ := plan_k hr
  intro o p s a g l P ho hI ht hq D hD
  obtain ⟨D, rfl⟩ : ∃ D', D = D' + 2 := ⟨D - 2, by omega⟩
  obtain ⟨hB, hl, hlp, hx, hpn⟩ := hI
  have hle := skB_le (B := B) hpn
  have hwe := ltE_le (B := B) hle.2
  have hres := pSt.eq_2 B n ns 0 o l.length p t
  rw [if_pos rfl] at hres
  change pSt B n ns (t + 1) 0 o l.length p = _ at hres
  rw [hres] at hq
  refine V_X7_readStep_0 ⟨rfl, by decide, Sp.up (d := 1) (by omega) (t_readWord (d := 0) hr hB hx hpn (fun g1 x1 => Sp.up (d := 6) (by omega) (c_kindOfP (d := 0) hr hB x1 hwe.1 hwe.2 ?_)))⟩
  generalize hk : wkKind B (skB B n p) (ltE B n (skB B n p)) = kd at *
  have l50 : l.length < 50 := by omega
  have wide : ¬ kd = 0 → skB B n p + 4 ≤ ltE B n (skB B n p) := fun z => (wk_wide (by rw [hk]; exact z) hwe.1).1
  refine ⟨fun h0 => ⟨fun h7 => ?_, fun h7 => ⟨t0, by decide, ?_⟩⟩, fun h0 => ⟨rfl, by decide, Sp.up (d := 0) (by omega) (t_mark (d := 0) x1 (fun g2 x2 => ⟨bz_0, ?_⟩))⟩⟩
  · rw [if_neg h0, if_neg h7] at hq
    have body : ∀ (v : Int32) (p2 s2 : Nat) (g2 : Nat → Int32), pFirst B n kd ns (ltE B n (skB B n p)) = .inl (v, p2) → TXr g2 n p2 s2 k f → E G MX7_readStep (D + 2) 0 0 72 [.ref 39, .ref 2, .int ns, .null, .int kd, .null, .null] [.int v] (va_up a 2 g2, r, nK) (RI P) := by
      intro v p2 s2 g2 q2 x2
      have i2 := pFirst_le hwe.2 q2
      rw [q2, sB_inl] at hq
      refine V_X7_readStep_72 ⟨fun _ => Sp.up (d := 2) (by omega) (c_readSecond (d := 0) hr hB x2 i2.2.1 (fun v2 e3 q3 g3 s3 x3 => ⟨fun _ => ⟨t0, by decide, Sp.up (d := 1) (by omega) (c_appendP (d := 0) hr ⟨rfl, by decide, ?_⟩)⟩, fun h => absurd h (nm0 (pSecond_le i2.2.1 q3).2.2)⟩) (fun c q q3 g3 p3 s3 x3 => ⟨fun h => absurd rfl h, fun _ => ⟨bz_0, ?_⟩⟩)), fun h => absurd h (nm0 i2.2.2)⟩
      · have i3 := pSecond_le i2.2.1 q3
        rw [q3, sB_inl] at hq
        rw [plPut_up]
        refine Sp.up (d := 1) (by omega) (t_take (d := 0) hr (hB.offP plPut_off) x3 i3.2.1 (fun e4 q4 p4 b4 g4 s4 x4 => ⟨bz_1, ?_⟩) (fun c q q4 g4 p4 s4 x4 => ⟨bz_0, ?_⟩))
        · exact hq.1 [(kd, v, v2)] e4 (by rw [q4]; rfl) _ g4 s4 plPut_off (plPut_ok hl l50) x4
        · exact hq.2 c q (by rw [q4]; rfl) _ g4 p4 s4 plPut_off x4
      · exact hq.2 c q (by rw [q3]; rfl) a g3 p3 s3 offP_rf x3
    refine ⟨fun h6 => ⟨rfl, by decide, Sp.up (d := 1) (by omega) (t_num (d := 0) hr hB x1 hwe.2 (fun v e q1 p1 b1 lo hi g2 s2 x2 => body v e s2 g2 (by unfold pFirst; rw [if_neg h6]; exact q1) x2) (fun c q q1 g2 p2 s2 x2 => ?_))⟩, fun h6 => body 0 _ _ g1 (by unfold pFirst; rw [if_pos h6]) x1⟩
    refine V_X7_readStep_72 ⟨fun h => absurd rfl h, fun _ => ⟨fun h => absurd rfl h, fun _ => ⟨bz_0, hq.2 c q ?_ a g2 p2 s2 offP_rf x2⟩⟩⟩
    unfold pFirst
    rw [if_neg h6, q1]
    rfl
  · rw [if_neg h0, if_pos h7] at hq
    refine V_X7_readAgain_0 ⟨fun h6 => ?_, fun h6 => ⟨rfl, by decide, Sp.up (d := 0) (by omega) (t_mark (d := 0) x1 (fun g2 x2 => ⟨bz_0, fun _ => ⟨bz_0, ?_⟩, fun h => absurd rfl h⟩))⟩⟩
    · have h6 : o < 6 := (nI_ltI (b := 6) (by omega) (by decide)).mp h6
      rw [if_neg (by omega)] at hq
      have w0 := wide h0
      refine ⟨rfl, by decide, Sp.up (d := 1) (by omega) (t_num (d := 0) hr hB x1 hwe.2 (fun v e q1 p1 b1 lo hi g2 s2 x2 => ⟨fun h => absurd h (nm0 lo), fun _ => ⟨rfl, by decide, Sp.up (d := 1) (by omega) (t_take (d := 0) hr hB x2 b1 (fun e3 q3 p3 b3 g3 s3 x3 => ⟨fun _ => ⟨t0, by decide, t0, by decide, Sp.up (d := 1) (by omega) (c_appendP (d := 0) hr ?_)⟩, fun h => absurd h (by decide)⟩) (fun c q q3 g3 p3 s3 x3 => ⟨fun h => absurd rfl h, fun _ => ⟨bz_0, fun _ => ⟨bz_0, ?_⟩, fun h => absurd rfl h⟩⟩))⟩⟩) (fun c q q1 g2 p2 s2 x2 => ⟨fun _ => ⟨bz_0, fun _ => ⟨bz_0, ?_⟩, fun h => absurd rfl h⟩, fun h => absurd rfl h⟩))⟩
      · have b3 := b3 (by decide)
        rw [q1, sB_inl] at hq
        simp only at hq
        rw [q3, sB_inl] at hq
        rw [plPut_up, up_at (show (39 : Nat) ≠ 2 by decide), hl.1]
        refine h1 o e3 s3 0 a _ g3 l [] v _ h6 plPut_off ⟨hB.offP plPut_off, plPut_ok hl l50, by simp only [List.length_append, List.length_cons, List.length_nil]; omega, x3, b3⟩ (by omega) (by omega) ⟨fun x e4 q4 a4 g4 s4 o4 l4 x4 => ⟨fun h => absurd h (by decide), fun _ => ⟨rfl, by decide, ?_⟩⟩, fun c q q4 a4 g4 p4 s4 o4 x4 => ⟨fun _ => ⟨bz_0, ?_⟩, fun h => absurd rfl h⟩⟩ (D + 1) (by omega)
        · unfold agRes at q4
          simp only [List.length_nil, List.nil_append, Nat.add_zero] at q4
          cases q5 : pSt B n ns t 1 (o + 1) (l.length + 1) e3 with
          | inr y => rw [q5, sB_inr] at q4; cases q4
          | inl y =>
            rw [q5, sB_inl] at q4 hq
            have i5 := pSt_up B n ns t 1 (o + 1) _ _ y.1 y.2 b3 q5
            cases q6 : pSign B n 93 y.2 with
            | inr z => rw [q6, sB_inr] at q4; cases q4
            | inl z =>
              rw [q6, sB_inl] at q4 hq
              have i6 := pSign_le i5.2.1 (by decide) q6
              cases q4
              refine Sp.up (d := 1) (by omega) (t_take (d := 0) hr (hB.offP o4) x4 i6.2 (fun e7 q7 p7 b7 g7 s7 x7 => ⟨fun h => absurd h (by decide), fun _ => ⟨bz_1, ?_⟩⟩) (fun c q q7 g7 p7 s7 x7 => ⟨fun _ => ⟨bz_0, ?_⟩, fun h => absurd rfl h⟩))
              · exact hq.1 _ e7 (by rw [q7]; rfl) a4 g7 s7 o4 l4 x7
              · exact hq.2 c q (by rw [q7]; rfl) a4 g7 p7 s7 o4 x7
        · unfold agRes at q4
          simp only [List.length_nil, List.nil_append, Nat.add_zero] at q4
          refine hq.2 c q ?_ a4 g4 p4 s4 o4 x4
          cases q5 : pSt B n ns t 1 (o + 1) (l.length + 1) e3 with
          | inr y => rw [q5, sB_inr] at q4; rw [sB_inr]; exact q4
          | inl y =>
            rw [q5, sB_inl] at q4
            rw [sB_inl]
            cases q6 : pSign B n 93 y.2 with
            | inr z => rw [q6, sB_inr] at q4; rw [sB_inr]; exact q4
            | inl z => rw [q6, sB_inl] at q4; cases q4
      · exact hq.2 c q (by rw [q1, sB_inl]; simp only; rw [q3]; rfl) a g3 p3 s3 offP_rf x3
      · exact hq.2 c q (by rw [q1]; rfl) a g2 p2 s2 offP_rf x2
    · have h6 : 6 ≤ o := by
        have := mt (nI_ltI (a := o) (b := 6) (by omega) (by decide)).mpr h6
        omega
      rw [if_pos h6] at hq
      exact hq.2 3 _ rfl a g2 _ _ offP_rf x2
  · rw [if_pos h0] at hq
    exact hq.2 1 _ rfl a g2 _ _ offP_rf x2
theorem rdP_all (hr : Rk r) (hn : n ≤ 150) : ∀ t, rdStep G r B n k f ns t ∧ rdLoop G r B n k f ns t
  | 0 => ⟨fun o p s a g l P ho hI ht => by omega, fun o p s i a0 a g l y0 times P ho hoff hI hip ht => by omega⟩
  | t + 1 => by
    obtain ⟨i0, i1⟩ := rdP_all hr hn t
    exact ⟨rd_step0 hr hn i1, rd_loop hr hn i0 i1⟩
end RP
