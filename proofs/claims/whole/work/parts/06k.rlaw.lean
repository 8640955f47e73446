/-! Law's readers -/
theorem skB_idem {B : Nat → Int32} {n p : Nat} (hp : p ≤ n) : skB B n (skB B n p) = skB B n p := by
  have l1 := skB_le (B := B) hp
  rcases Nat.lt_or_ge (skB B n p) n with z | z
  · exact run_stop (run_at (p := fun j => decide (B j = 32)) z)
  · exact run_end z
theorem bAt_lt {B : Nat → Int32} {n i : Nat} {c : Int32} (hc : c ≠ -1) (h : bAt B n i = c) : i < n := by
  unfold bAt at h
  split at h
  · assumption
  · exact absurd h.symm hc
section RL
variable {G : GE} {r : RA} {B : Nat → Int32} {n L : Nat} {k f : Int32}
/-- what stands ahead of a reader -/
def lwI (B : Nat → Int32) (n L : Nat) (k f : Int32) (a : IA) (g : Nat → Int32) (l : List Int32) (p s : Nat) : Prop := By a B n ∧ LwOK a L l ∧ l.length ≤ p ∧ TXr g n p s k f ∧ p ≤ n
def rdS (G : GE) (r : RA) (B : Nat → Int32) (n L : Nat) (k f : Int32) (M : MI) (t mode c b : Nat) : Prop :=
  ∀ (o p s : Nat) (a : IA) (g : Nat → Int32) (l : List Int32) (P : KI), o ≤ 6 → lwI B n L k f a g l p s → 5 * (n - p) + c ≤ t → lwQ B n r L a l k f p (pE B n t mode o p) P → ∀ D, 4 * (6 - o) + b ≤ D → Sp G D 0 0 M [.ref L, .ref 2, .int (nI o)] (va_up a 2 g, r, nK) (RI P)
def rdT (G : GE) (r : RA) (B : Nat → Int32) (n L : Nat) (k f : Int32) (M : MI) (t mode b : Nat) : Prop :=
  ∀ (o p s i : Nat) (a : IA) (g : Nat → Int32) (l : List Int32) (P : KI), o ≤ 6 → lwI B n L k f a g l p s → i ≤ p → 5 * (n - p) + 1 ≤ t → lwQ B n r L a l k f p (pE B n t mode o p) P → ∀ D, 4 * (6 - o) + b ≤ D → E G M D 0 0 13 [.ref L, .ref 2, .int (nI o), .int (nI i), .null] [] (va_up a 2 g, r, nK) (RI P)
theorem lwI_next {a a' : IA} {g g' : Nat → Int32} {l x : List Int32} {p s e s' t mode o : Nat} (hL : isLaw L) (h : lwI B n L k f a g l p s) (hr : pE B n t mode o p = .inl (x, e)) (ho : offL L a a') (hl : LwOK a' L (l ++ x)) (hx : TXr g' n e s' k f) : lwI B n L k f a' g' (l ++ x) e s' := by
  have hu := pE_up B n t mode o p x e h.2.2.2.2 hr
  have := h.2.2.1
  exact ⟨h.1.offL hL ho, hl, by simp only [List.length_append]; omega, hx, hu.2.1⟩
/-- a T, then what follows it: what the second owes, in the words of both -/
theorem lwQ_tail {a a' : IA} {l x : List Int32} {z : List Int32} {p e : Nat} {res : (List Int32 × Nat) ⊕ (Int32 × Nat)} {t m2 o : Nat} {P : KI} (ho : offL L a a') (hpe : p ≤ e)
    (hq : lwQ B n r L a l k f p res P) (hres : res = sB (pE B n t m2 o e) fun y => .inl (x ++ (z ++ y.1), y.2)) : lwQ B n r L a' (l ++ x ++ z) k f e (pE B n t m2 o e) P := by
  refine ⟨fun y e2 h1 h2 h3 a2 g2 s2 o2 l2 x2 => ?_, fun c q h1 a2 g2 p2 s2 o2 x2 => ?_⟩
  · exact hq.1 (x ++ (z ++ y)) e2 (by rw [hres, sB_l h1]) (by omega) h3 a2 g2 s2 (offL_tr ho o2) (by simpa using l2) x2
  · exact hq.2 c q (by rw [hres, sB_r h1]) a2 g2 p2 s2 (offL_tr ho o2) x2
theorem rd_sum (hr : Rk r) (hL : isLaw L) {t : Nat} (h2 : rdS G r B n L k f MX2_readProduct t 2 2 8) (h1 : rdT G r B n L k f MX2_readSum t 1 9) : rdS G r B n L k f MX2_readSum (t + 1) 0 3 9 := by
  obtain ⟨t0, l0, t1, l1, t2, l2, e1, e2⟩ := law_k hr hL
  intro o p s a g l P ho hI ht hq D hD
  obtain ⟨D, rfl⟩ : ∃ D', D = D' + 1 := ⟨D - 1, by omega⟩
  have hres : pE B n (t + 1) 0 o p = sB (pE B n t 2 o p) fun x => sB (pE B n t 1 o x.2) fun y => .inl (x.1 ++ y.1, y.2) := by rw [pE, if_pos rfl]
  refine V_X2_readSum_0 ⟨t0, l0, h2 o p s a g l _ ho hI (by omega) ⟨fun x e h3 h4 h5 a' g' s' o' l' x' => ⟨fun _ => ?_, fun h => absurd h (by decide)⟩, fun c q h3 a' g' p' s' o' x' => ⟨fun h => absurd rfl h, fun _ => ⟨bz_0, ?_⟩⟩⟩ D (by omega)⟩
  · have hu := pE_up B n t 2 o p x e hI.2.2.2.2 h3
    have hlt := hu.2.2.1 (by decide) (by decide)
    have hq' := lwQ_tail (z := []) (t := t) (m2 := 1) (o := o) o' h4 hq (by rw [hres, sB_l h3]; rfl)
    rw [List.append_nil] at hq'
    exact h1 o e s' 0 a' g' (l ++ x) P ho (lwI_next hL hI h3 o' l' x') (by omega) (by omega) hq' (D + 1) (by omega)
  · exact hq.2 c q (by rw [hres, sB_r h3]) a' g' p' s' o' x'
theorem rd_prod (hr : Rk r) (hL : isLaw L) {t : Nat} (h2 : rdS G r B n L k f MX2_readUnit t 4 1 7) (h1 : rdT G r B n L k f MX2_readProduct t 3 8) : rdS G r B n L k f MX2_readProduct (t + 1) 2 2 8 := by
  obtain ⟨t0, l0, t1, l1, t2, l2, e1, e2⟩ := law_k hr hL
  intro o p s a g l P ho hI ht hq D hD
  obtain ⟨D, rfl⟩ : ∃ D', D = D' + 1 := ⟨D - 1, by omega⟩
  have hres : pE B n (t + 1) 2 o p = sB (pE B n t 4 o p) fun x => sB (pE B n t 3 o x.2) fun y => .inl (x.1 ++ y.1, y.2) := by rw [pE, if_neg (by decide), if_neg (by decide), if_pos rfl]
  refine V_X2_readProduct_0 ⟨t0, l0, h2 o p s a g l _ ho hI (by omega) ⟨fun x e h3 h4 h5 a' g' s' o' l' x' => ⟨fun _ => ?_, fun h => absurd h (by decide)⟩, fun c q h3 a' g' p' s' o' x' => ⟨fun h => absurd rfl h, fun _ => ⟨bz_0, ?_⟩⟩⟩ D (by omega)⟩
  · have hu := pE_up B n t 4 o p x e hI.2.2.2.2 h3
    have hlt := hu.2.2.1 (by decide) (by decide)
    have hq' := lwQ_tail (z := []) (t := t) (m2 := 3) (o := o) o' h4 hq (by rw [hres, sB_l h3]; rfl)
    rw [List.append_nil] at hq'
    exact h1 o e s' 0 a' g' (l ++ x) P ho (lwI_next hL hI h3 o' l' x') (by omega) (by omega) hq' (D + 1) (by omega)
  · exact hq.2 c q (by rw [hres, sB_r h3]) a' g' p' s' o' x'
/-- a sign has been seen: it's taken, a T read, the sign's code appended, and on -/
theorem rd_step {Mn Mt : MI} {t m1 m2 b c o p s i : Nat} {a : IA} {g : Nat → Int32} {l : List Int32} {P : KI} {sg code : Int32} {D : Nat} {res : (List Int32 × Nat) ⊕ (Int32 × Nat)} (hr : Rk r) (hL : isLaw L) (hsg : sg ≠ -1) (hm : m1 ≠ 1 ∧ m1 ≠ 3) (hn : n ≤ 150) (hc : c ≤ 3) (hb1 : 1 ≤ b)
    (h2 : rdS G r B n L k f Mn t m1 c b) (h1 : rdT G r B n L k f Mt t m2 (b + 1)) (ho : o ≤ 6) (hI : lwI B n L k f a g l (skB B n p) s) (hp : p ≤ n) (hlp : l.length ≤ p) (hip : i ≤ p) (ht : 5 * (n - p) + 1 ≤ t + 1) (hD : 4 * (6 - o) + (b + 1) ≤ D + 1)
    (hb : bAt B n (skB B n p) = sg) (hq : lwQ B n r L a l k f p res P) (hres : res = sB (pE B n t m1 o (skB B n p + 1)) fun x => sB (pE B n t m2 o x.2) fun y => .inl (x.1 ++ code :: y.1, y.2)) :
    Sp G D 0 0 MX10_take [.ref 2, .int sg] (va_up a 2 g, r, nK) (RI fun _ a1 r1 n1 => tyK L = (0, 2) ∧ L < n1 ∧ Sp G D 0 0 Mn [.ref L, .ref 2, .int (nI o)] (a1, r1, n1) (RI fun v a2 r2 n2 => (¬ v = 0 → tyK L = (0, 2) ∧ L < n2 ∧ Sp G D 0 0 MX2_append [.ref L, .int code] (a2, r2, n2) (RI fun _ a3 r3 n3 => E G Mt (D + 1) 0 0 13 [.ref L, .ref 2, .int (nI o), .int (nI i + 1), .null] [] (a3, r3, n3) (RI P))) ∧ (v = 0 → (bz 0 ∧ P 0 a2 r2 n2)))) := by
  obtain ⟨t0, l0, t1, l1, t2, l2, e1, e2⟩ := law_k hr hL
  have hlt := bAt_lt hsg hb
  have hle := skB_le (B := B) hp
  refine Sp.up (d := 1) (by omega) (t_take (d := 0) hr hI.1 hI.2.2.2.1 hI.2.2.2.2 (fun e h3 h4 h5 g1 s1 x1 => ⟨t0, l0, ?_⟩) (fun c q h3 g1 p1 s1 x1 => ?_))
  · have he : e = skB B n p + 1 := by
      unfold pSign at h3
      rw [skB_idem hp, if_pos hb] at h3
      cases h3; rfl
    subst he
    refine h2 o (skB B n p + 1) s1 a g1 l _ ho ⟨hI.1, hI.2.1, by omega, x1, by omega⟩ (by omega) ⟨fun x e h6 h7 h8 a' g' s' o' l' x' => ⟨fun _ => ⟨t0, l0, ?_⟩, fun h => absurd h (by decide)⟩, fun c q h6 a' g' p' s' o' x' => ⟨fun h => absurd rfl h, fun _ => ⟨bz_0, ?_⟩⟩⟩ D (by omega)
    · have hu := pE_up B n t m1 o _ x e (by omega) h6
      have hlt2 := hu.2.2.1 hm.1 hm.2
      refine Sp.up (d := 1) (by omega) (c_append (d := 0) hr hL ?_)
      rw [lwPut_up hL, nI_1]
      have hlen : (l ++ x).length < 150 := by simp only [List.length_append]; omega
      have hok := lwPut_ok (x := code) l' hlen
      have hoff := offL_tr o' (lwPut_off (L := L) (a := a') (x := code))
      have hq' := lwQ_tail (x := x) (z := [code]) (t := t) (m2 := m2) (o := o) hoff (p := p) (e := e) (by omega) hq (by rw [hres, sB_l h6]; rfl)
      exact h1 o e s' (i + 1) (lwPut a' L code) g' (l ++ x ++ [code]) P ho ⟨hI.1.offL hL hoff, hok, by simp only [List.length_append, List.length_cons, List.length_nil]; omega, x', by omega⟩ (by omega) (by omega) hq' (D + 1) (by omega)
    · exact hq.2 c q (by rw [hres, sB_r h6]) a' g' p' s' o' x'
  · unfold pSign at h3
    rw [skB_idem hp, if_pos hb] at h3
    cases h3
theorem rd_sumT (hr : Rk r) (hL : isLaw L) (hn : n ≤ 150) {t : Nat} (h2 : rdS G r B n L k f MX2_readProduct t 2 2 8) (h1 : rdT G r B n L k f MX2_readSum t 1 9) : rdT G r B n L k f MX2_readSum (t + 1) 1 9 := by
  obtain ⟨t0, l0, t1, l1, t2, l2, e1, e2⟩ := law_k hr hL
  intro o p s i a g l P ho hI hip ht hq D hD
  obtain ⟨D, rfl⟩ : ∃ D', D = D' + 1 := ⟨D - 1, by omega⟩
  obtain ⟨hB, hl, hlp, hx, hpn⟩ := hI
  have hle := skB_le (B := B) hpn
  have hres := pE.eq_2 B n 1 o p t
  rw [if_neg (by decide), if_pos rfl] at hres
  change pE B n (t + 1) 1 o p = _ at hres
  refine V_X2_readSum_13 ⟨fun h => ⟨bz_1, ?_⟩, fun h => ⟨rfl, by decide, Sp.up (d := 1) (by omega) (t_sees (d := 0) hr hB hx hpn (fun g1 x1 => ⟨fun h3 => ⟨rfl, by decide, Sp.up (d := 1) (by omega) (t_sees (d := 0) hr hB x1 hle.2 (fun g2 x2 => ?_))⟩, fun h3 => ⟨rfl, by decide, Sp.up (d := 1) (by omega) (t_sees (d := 0) hr hB x1 hle.2 (fun g2 x2 => ?_))⟩⟩))⟩⟩
  · have h9 : 150 ≤ i := (nI_leI (a := 150) (by decide) (by omega)).mp h
    have e9 : skB B n p = p := run_end (by omega)
    have hb : ∀ c, c ≠ -1 → ¬ bAt B n (skB B n p) = c := fun c hc hb => by have := bAt_lt hc hb; omega
    rw [if_neg (hb 43 (by decide)), if_neg (hb 45 (by decide))] at hres
    exact hq.1 [] p (by rw [hres, e9]) (Nat.le_refl _) hpn a g s offL_rf (by simpa using hl) hx
  · have hb : bAt B n (skB B n p) = 43 := by
      by_cases z : bAt B n (skB B n p) = 43
      · exact z
      · rw [if_neg z] at h3; exact absurd rfl h3
    rw [if_pos hb] at hres
    rw [skB_idem hpn] at x2 ⊢
    refine ⟨fun h4 => by rw [if_pos hb] at h4; exact absurd h4 (by decide), fun _ => V_X2_readSum_53 ⟨fun h => absurd rfl h, fun _ => ⟨rfl, by decide, ?_⟩⟩⟩
    exact rd_step (c := 2) (b := 8) (m1 := 2) (m2 := 1) hr hL (by decide) (by decide) hn (by decide) (by decide) h2 h1 ho ⟨hB, hl, by omega, x2, hle.2⟩ hpn hlp hip ht hD hb hq hres
  · have hb : ¬ bAt B n (skB B n p) = 43 := fun z => by rw [if_pos z] at h3; exact absurd h3 (by decide)
    rw [if_neg hb] at hres
    rw [skB_idem hpn] at x2 ⊢
    refine ⟨fun h4 => ⟨bz_1, ?_⟩, fun h4 => ⟨rfl, by decide, Sp.up (d := 1) (by omega) (t_sees (d := 0) hr hB x2 hle.2 (fun g3 x3 => ?_))⟩⟩
    · have h5 : ¬ bAt B n (skB B n p) = 45 := fun z => by rw [if_pos z] at h4; exact absurd h4 (by decide)
      rw [if_neg h5] at hres
      exact hq.1 [] _ hres hle.1 hle.2 a g2 _ offL_rf (by simpa using hl) x2
    · have h5 : bAt B n (skB B n p) = 45 := by
        by_cases z : bAt B n (skB B n p) = 45
        · exact z
        · rw [if_neg z] at h4; exact absurd rfl h4
      rw [if_pos h5] at hres
      rw [skB_idem hpn] at x3 ⊢
      refine ⟨fun _ => V_X2_readSum_53 ⟨fun _ => ⟨rfl, by decide, ?_⟩, fun h => absurd h (by decide)⟩, fun h6 => by rw [if_neg hb] at h6; exact absurd rfl h6⟩
      exact rd_step (c := 2) (b := 8) (m1 := 2) (m2 := 1) hr hL (by decide) (by decide) hn (by decide) (by decide) h2 h1 ho ⟨hB, hl, by omega, x3, hle.2⟩ hpn hlp hip ht hD h5 hq hres
theorem rd_prodT (hr : Rk r) (hL : isLaw L) (hn : n ≤ 150) {t : Nat} (h2 : rdS G r B n L k f MX2_readUnit t 4 1 7) (h1 : rdT G r B n L k f MX2_readProduct t 3 8) : rdT G r B n L k f MX2_readProduct (t + 1) 3 8 := by
  obtain ⟨t0, l0, t1, l1, t2, l2, e1, e2⟩ := law_k hr hL
  intro o p s i a g l P ho hI hip ht hq D hD
  obtain ⟨D, rfl⟩ : ∃ D', D = D' + 1 := ⟨D - 1, by omega⟩
  obtain ⟨hB, hl, hlp, hx, hpn⟩ := hI
  have hle := skB_le (B := B) hpn
  have hres := pE.eq_2 B n 3 o p t
  rw [if_neg (by decide), if_neg (by decide), if_neg (by decide), if_pos rfl] at hres
  change pE B n (t + 1) 3 o p = _ at hres
  refine V_X2_readProduct_13 ⟨fun h => ⟨bz_1, ?_⟩, fun h => ⟨rfl, by decide, Sp.up (d := 1) (by omega) (t_sees (d := 0) hr hB hx hpn (fun g1 x1 => ⟨fun h3 => ⟨rfl, by decide, Sp.up (d := 1) (by omega) (t_sees (d := 0) hr hB x1 hle.2 (fun g2 x2 => ?_))⟩, fun h3 => ⟨rfl, by decide, Sp.up (d := 1) (by omega) (t_sees (d := 0) hr hB x1 hle.2 (fun g2 x2 => ?_))⟩⟩))⟩⟩
  · have h9 : 150 ≤ i := (nI_leI (a := 150) (by decide) (by omega)).mp h
    have e9 : skB B n p = p := run_end (by omega)
    have hb : ∀ c, c ≠ -1 → ¬ bAt B n (skB B n p) = c := fun c hc hb => by have := bAt_lt hc hb; omega
    rw [if_neg (hb 42 (by decide)), if_neg (hb 47 (by decide))] at hres
    exact hq.1 [] p (by rw [hres, e9]) (Nat.le_refl _) hpn a g s offL_rf (by simpa using hl) hx
  · have hb : bAt B n (skB B n p) = 42 := by
      by_cases z : bAt B n (skB B n p) = 42
      · exact z
      · rw [if_neg z] at h3; exact absurd rfl h3
    rw [if_pos hb] at hres
    rw [skB_idem hpn] at x2 ⊢
    refine ⟨fun h4 => by rw [if_pos hb] at h4; exact absurd h4 (by decide), fun _ => V_X2_readProduct_54 ⟨fun h => absurd rfl h, fun _ => ⟨rfl, by decide, ?_⟩⟩⟩
    exact rd_step (c := 1) (b := 7) (m1 := 4) (m2 := 3) hr hL (by decide) (by decide) hn (by decide) (by decide) h2 h1 ho ⟨hB, hl, by omega, x2, hle.2⟩ hpn hlp hip ht hD hb hq hres
  · have hb : ¬ bAt B n (skB B n p) = 42 := fun z => by rw [if_pos z] at h3; exact absurd h3 (by decide)
    rw [if_neg hb] at hres
    rw [skB_idem hpn] at x2 ⊢
    refine ⟨fun h4 => ⟨bz_1, ?_⟩, fun h4 => ⟨rfl, by decide, Sp.up (d := 1) (by omega) (t_sees (d := 0) hr hB x2 hle.2 (fun g3 x3 => ?_))⟩⟩
    · have h5 : ¬ bAt B n (skB B n p) = 47 := fun z => by rw [if_pos z] at h4; exact absurd h4 (by decide)
      rw [if_neg h5] at hres
      exact hq.1 [] _ hres hle.1 hle.2 a g2 _ offL_rf (by simpa using hl) x2
    · have h5 : bAt B n (skB B n p) = 47 := by
        by_cases z : bAt B n (skB B n p) = 47
        · exact z
        · rw [if_neg z] at h4; exact absurd rfl h4
      rw [if_pos h5] at hres
      rw [skB_idem hpn] at x3 ⊢
      refine ⟨fun _ => V_X2_readProduct_54 ⟨fun _ => ⟨rfl, by decide, ?_⟩, fun h => absurd h (by decide)⟩, fun h6 => by rw [if_neg hb] at h6; exact absurd rfl h6⟩
      exact rd_step (c := 1) (b := 7) (m1 := 4) (m2 := 3) hr hL (by decide) (by decide) hn (by decide) (by decide) h2 h1 ho ⟨hB, hl, by omega, x3, hle.2⟩ hpn hlp hip ht hD h5 hq hres
end RL
