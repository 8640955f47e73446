/-! Law's readers: a unit, a pair, the whole -/
theorem pNum_sk {B : Nat → Int32} {n p : Nat} {lo hi : Int32} (hp : p ≤ n) : pNum B n lo hi (skB B n p) = pNum B n lo hi p := by unfold pNum; rw [skB_idem hp]
theorem pSign_sk {B : Nat → Int32} {n p : Nat} {c : Int32} (hp : p ≤ n) : pSign B n c (skB B n p) = pSign B n c p := by unfold pSign; rw [skB_idem hp]
theorem pSign_le {B : Nat → Int32} {n p e : Nat} {c : Int32} (hp : p ≤ n) (hc : c ≠ -1) (h : pSign B n c p = .inl e) : p < e ∧ e ≤ n := by
  have l1 := skB_le (B := B) hp
  unfold pSign at h
  split at h
  · next h3 => have := bAt_lt hc h3; cases h; omega
  · cases h
theorem lw_wide {B : Nat → Int32} {s p : Nat} (hw : ¬ lwWord B s p = 0) (hsp : s ≤ p) : s < p := by
  rcases Nat.lt_or_ge s p with z | z
  · exact z
  · exfalso
    apply hw
    have e0 : p = s := by omega
    have : ∀ i, i < strN → isW B s s i = false := fun i hi => by
      unfold isW
      have : 0 < sLen i := (by decide +kernel : ∀ i, i < strN → 0 < sLen i) i hi
      rw [decide_eq_false (by omega), Bool.false_and]
    unfold lwWord
    rw [e0]
    simp [this _ (show 8 < strN by decide), this _ (show 9 < strN by decide), this _ (show 10 < strN by decide), this _ (show 3 < strN by decide), this _ (show 11 < strN by decide), this _ (show 12 < strN by decide), this _ (show 13 < strN by decide), this _ (show 14 < strN by decide), this _ (show 15 < strN by decide), this _ (show 16 < strN by decide), this _ (show 17 < strN by decide)]
section UL
variable {G : GE} {r : RA} {B : Nat → Int32} {n L : Nat} {k f : Int32}
theorem lwQ_app {a : IA} {g' : Nat → Int32} {l : List Int32} {p e s' : Nat} {w : Int32} {P : KI} {res : (List Int32 × Nat) ⊕ (Int32 × Nat)} (hL : isLaw L) (hl : LwOK a L l) (h150 : l.length < 150) (hpe : p ≤ e) (hen : e ≤ n) (hx : TXr g' n e s' k f) (hq : lwQ B n r L a l k f p res P) (hres : res = .inl ([w], e)) : P 1 (lwPut (va_up a 2 g') L w) r nK := by
  rw [lwPut_up hL]
  exact hq.1 [w] e hres hpe hen _ g' s' lwPut_off (lwPut_ok hl h150) hx
/-- [ E , E ] and the word behind -/
theorem rd_pair (hr : Rk r) (hL : isLaw L) (hn : n ≤ 150) {t : Nat} (h2 : rdS G r B n L k f MX2_readSum t 0 3 9) {o p s p0 : Nat} {a : IA} {g : Nat → Int32} {l : List Int32} {P : KI} {w : Int32} (ho : o ≤ 6) (hB : By a B n) (hl : LwOK a L l) (hlp : l.length ≤ p0) (hx : TXr g n p s k f) (hpn : p ≤ n) (hp0 : p0 < p) (ht : 5 * (n - p0) ≤ t)
    (hq : lwQ B n r L a l k f p0 (if 6 ≤ o then .inr (3, s) else sB (pSign B n 91 p) fun e1 => sB (pE B n t 0 (o + 1) e1) fun x => sB (pSign B n 44 x.2) fun e2 => sB (pE B n t 0 (o + 1) e2) fun y => sB (pSign B n 93 y.2) fun e3 => .inl (x.1 ++ y.1 ++ [w], e3)) P) {D : Nat} (hD : 4 * (6 - o) + 6 ≤ D) :
    Sp G D 0 0 MX2_readPair [.ref L, .ref 2, .int (nI o), .int w] (va_up a 2 g, r, nK) (RI P) := by
  obtain ⟨t0, l0, t1, l1, t2, l2, e1, e2⟩ := law_k hr hL
  obtain ⟨D, rfl⟩ : ∃ D', D = D' + 1 := ⟨D - 1, by omega⟩
  refine V_X2_readPair_0 (Sp.up (d := 1) (by omega) (c_mayOpen (d := 0) hx ho (fun h6 => ⟨fun h => absurd h (by decide), fun _ => ⟨rfl, by decide, ?_⟩⟩) (fun h6 g1 x1 => ⟨fun _ => ⟨bz_0, ?_⟩, fun h => absurd rfl h⟩)))
  · rw [if_neg (by omega)] at hq
    refine Sp.up (d := 1) (by omega) (t_take (d := 0) hr hB hx hpn (fun e q1 p1 b1 g1 s1 x1 => ⟨fun h => absurd h (by decide), fun _ => ⟨t0, l0, ?_⟩⟩) (fun c q q1 g1 p1 s1 x1 => ⟨fun _ => ⟨bz_0, hq.2 c q (by rw [sB_r q1]) a g1 p1 s1 offL_rf x1⟩, fun h => absurd rfl h⟩))
    rw [nI_1]
    have b1 := b1 (by decide)
    refine h2 (o + 1) e s1 a g1 l _ (by omega) ⟨hB, hl, by omega, x1, b1⟩ (by omega) ⟨fun x ex q2 p2 b2 a2 g2 s2 o2 l2' x2 => ⟨fun h => absurd h (by decide), fun _ => ⟨rfl, by decide, ?_⟩⟩, fun c q q2 a2 g2 p2 s2 o2 x2 => ⟨fun _ => ⟨bz_0, hq.2 c q (by rw [sB_l q1, sB_r q2]) a2 g2 p2 s2 o2 x2⟩, fun h => absurd rfl h⟩⟩ D (by omega)
    have u2 := pE_up B n t 0 (o + 1) e x ex b1 q2
    have B2 := hB.offL hL o2
    refine Sp.up (d := 1) (by omega) (t_take (d := 0) hr B2 x2 b2 (fun e3 q3 p3 b3 g3 s3 x3 => ⟨fun h => absurd h (by decide), fun _ => ⟨t0, l0, ?_⟩⟩) (fun c q q3 g3 p3 s3 x3 => ⟨fun _ => ⟨bz_0, hq.2 c q (by rw [sB_l q1, sB_l q2]; simp only; rw [sB_r q3]) a2 g3 p3 s3 o2 x3⟩, fun h => absurd rfl h⟩))
    have b3 := b3 (by decide)
    refine h2 (o + 1) e3 s3 a2 g3 (l ++ x) _ (by omega) ⟨B2, l2', by simp only [List.length_append]; omega, x3, b3⟩ (by omega) ⟨fun y ey q4 p4 b4 a4 g4 s4 o4 l4 x4 => ⟨fun h => absurd h (by decide), fun _ => ⟨rfl, by decide, ?_⟩⟩, fun c q q4 a4 g4 p4 s4 o4 x4 => ⟨fun _ => ⟨bz_0, hq.2 c q (by rw [sB_l q1, sB_l q2]; simp only; rw [sB_l q3, sB_r q4]) a4 g4 p4 s4 (offL_tr o2 o4) x4⟩, fun h => absurd rfl h⟩⟩ D (by omega)
    have u4 := pE_up B n t 0 (o + 1) e3 y ey b3 q4
    have o24 := offL_tr o2 o4
    have B4 := hB.offL hL o24
    refine Sp.up (d := 1) (by omega) (t_take (d := 0) hr B4 x4 b4 (fun e5 q5 p5 b5 g5 s5 x5 => ⟨fun h => absurd h (by decide), fun _ => ⟨t0, l0, Sp.up (d := 1) (by omega) (c_append (d := 0) hr hL ⟨fun h => absurd h (by decide), fun _ => ⟨bz_1, ?_⟩⟩)⟩⟩) (fun c q q5 g5 p5 s5 x5 => ⟨fun _ => ⟨bz_0, hq.2 c q (by rw [sB_l q1, sB_l q2]; simp only; rw [sB_l q3, sB_l q4]; simp only; rw [sB_r q5]) a4 g5 p5 s5 o24 x5⟩, fun h => absurd rfl h⟩))
    have b5 := b5 (by decide)
    rw [lwPut_up hL]
    refine hq.1 (x ++ y ++ [w]) e5 (by rw [sB_l q1, sB_l q2]; simp only; rw [sB_l q3, sB_l q4]; simp only; rw [sB_l q5]) (by omega) b5 _ g5 s5 (offL_tr o24 lwPut_off) ?_ x5
    have := lwPut_ok (x := w) l4 (by simp only [List.length_append]; omega)
    simpa using this
  · rw [if_pos h6] at hq
    exact hq.2 3 s rfl a g1 _ _ offL_rf x1
theorem rd_unit (hr : Rk r) (hL : isLaw L) (hn : n ≤ 150) {t : Nat} (h2 : rdS G r B n L k f MX2_readSum t 0 3 9) : rdS G r B n L k f MX2_readUnit (t + 1) 4 1 7 := by
  obtain ⟨t0, l0, t1, l1, t2, l2, e1, e2⟩ := law_k hr hL
  intro o p s a g l P ho hI ht hq D hD
  obtain ⟨D, rfl⟩ : ∃ D', D = D' + 1 := ⟨D - 1, by omega⟩
  obtain ⟨hB, hl, hlp, hx, hpn⟩ := hI
  have hle := skB_le (B := B) hpn
  have hwe := ltE_le (B := B) hle.2
  have hres := pE.eq_2 B n 4 o p t
  rw [if_neg (by decide), if_neg (by decide), if_neg (by decide), if_neg (by decide)] at hres
  change pE B n (t + 1) 4 o p = _ at hres
  rw [hres] at hq
  refine V_X2_readUnit_0 ⟨rfl, by decide, Sp.up (d := 1) (by omega) (t_seesDigit (d := 0) hr hB hx hpn (fun g1 x1 => ⟨fun h1 => ⟨rfl, by decide, Sp.up (d := 1) (by omega) (t_sees (d := 0) hr hB x1 hle.2 (fun g2 x2 => ?_))⟩, fun h1 => ⟨rfl, by decide, ?_⟩⟩))⟩
  · rw [bit0] at h1
    rw [if_neg (by rw [h1]; decide)] at hq
    rw [skB_idem hpn] at x2 ⊢
    refine ⟨fun h2' => ?_, fun h2' => ?_⟩
    · have hb : ¬ bAt B n (skB B n p) = 40 := fun z => by rw [if_pos z] at h2'; exact absurd h2' (by decide)
      rw [if_neg hb] at hq
      refine ⟨rfl, by decide, Sp.up (d := 1) (by omega) (t_readWord (d := 0) hr hB x2 hle.2 (fun g3 x3 => ?_))⟩
      rw [skB_idem hpn] at x3
      refine Sp.up (d := 6) (by omega) (c_wordOf (d := 0) hr hB x3 hwe.1 hwe.2 ⟨fun hw => ?_, fun hw => ⟨rfl, by decide, Sp.up (d := 0) (by omega) (t_mark (d := 0) x3 (fun g4 x4 => ⟨bz_0, ?_⟩))⟩⟩)
      · have hlt := lw_wide hw hwe.1
        rw [if_neg hw] at hq
        have pr : lwWord B (skB B n p) (ltE B n (skB B n p)) = -5 ∨ lwWord B (skB B n p) (ltE B n (skB B n p)) = -6 → Sp G D 0 0 MX2_readPair [.ref L, .ref 2, .int (nI o), .int (lwWord B (skB B n p) (ltE B n (skB B n p)))] (va_up a 2 g3, r, nK) (RI fun v a r N => bz v ∧ P v a r N) := fun h5 => by
          rw [if_pos h5] at hq
          refine rd_pair (p0 := p) (t := t) hr hL hn h2 ho hB hl (by omega) x3 hwe.2 (by omega) (by omega) ?_ (by omega)
          exact ⟨fun x e q1 q2 q3 a' g' s' o' l' x' => ⟨bz_1, hq.1 x e q1 q2 q3 a' g' s' o' l' x'⟩, fun c q q1 a' g' p' s' o' x' => ⟨bz_0, hq.2 c q q1 a' g' p' s' o' x'⟩⟩
        refine ⟨fun h5 => ⟨t0, l0, pr (Or.inl h5)⟩, fun h5 => ⟨fun h6 => ⟨t0, l0, Sp.up (d := 1) (by omega) (c_append (d := 0) hr hL ⟨bz_1, ?_⟩)⟩, fun h6 => ⟨t0, l0, pr (Or.inr h6)⟩⟩⟩
        rw [if_neg (fun z => z.elim h5 h6)] at hq
        exact lwQ_app hL hl (by omega) (by omega) hwe.2 x3 hq rfl
      · rw [if_pos hw] at hq
        exact hq.2 1 _ rfl a g4 _ _ offL_rf x4
    · have hb : bAt B n (skB B n p) = 40 := by
        by_cases z : bAt B n (skB B n p) = 40
        · exact z
        · rw [if_neg z] at h2'; exact absurd rfl h2'
      have hlt := bAt_lt (by decide) hb
      rw [if_pos hb] at hq
      refine Sp.up (d := 1) (by omega) (c_mayOpen (d := 0) x2 ho (fun h6 => ⟨fun h => absurd h (by decide), fun _ => ⟨rfl, by decide, ?_⟩⟩) (fun h6 g3 x3 => ⟨fun _ => ⟨bz_0, ?_⟩, fun h => absurd rfl h⟩))
      · rw [if_neg (by omega)] at hq
        refine Sp.up (d := 1) (by omega) (t_take (d := 0) hr hB x2 hle.2 (fun e q1 p1 b1 g3 s3 x3 => ⟨fun h => absurd h (by decide), fun _ => ⟨t0, l0, ?_⟩⟩) (fun c q q1 g3 p3 s3 x3 => ?_))
        · have he : e = skB B n p + 1 := by
            unfold pSign at q1
            rw [skB_idem hpn, if_pos hb] at q1
            cases q1; rfl
          subst he
          rw [nI_1]
          refine h2 (o + 1) (skB B n p + 1) s3 a g3 l _ (by omega) ⟨hB, hl, by omega, x3, by omega⟩ (by omega) ⟨fun x ex q2 p2 b2 a2 g4 s4 o2 l2' x4 => ⟨fun h => absurd h (by decide), fun _ => ⟨rfl, by decide, ?_⟩⟩, fun c q q2 a2 g4 p4 s4 o2 x4 => ⟨fun _ => ⟨bz_0, hq.2 c q (by rw [sB_r q2]) a2 g4 p4 s4 o2 x4⟩, fun h => absurd rfl h⟩⟩ D (by omega)
          exact Sp.up (d := 1) (by omega) (t_take (d := 0) hr (hB.offL hL o2) x4 b2 (fun e5 q5 p5 b5 g5 s5 x5 => ⟨fun h => absurd h (by decide), fun _ => ⟨bz_1, hq.1 x e5 (by rw [sB_l q2]; simp only; rw [sB_l q5]) (by omega) (b5 (by decide)) a2 g5 s5 o2 l2' x5⟩⟩) (fun c q q5 g5 p5 s5 x5 => ⟨fun _ => ⟨bz_0, hq.2 c q (by rw [sB_l q2]; simp only; rw [sB_r q5]) a2 g5 p5 s5 o2 x5⟩, fun h => absurd rfl h⟩))
        · unfold pSign at q1
          rw [skB_idem hpn, if_pos hb] at q1
          cases q1
      · rw [if_pos h6] at hq
        exact hq.2 3 _ rfl a g3 _ _ offL_rf x3
  · have h1 : isD (bAt B n (skB B n p)) = true := by
      cases z : isD (bAt B n (skB B n p)) with
      | true => rfl
      | false => exact absurd (bit0.mpr z) h1
    rw [if_pos h1] at hq
    refine Sp.up (d := 1) (by omega) (t_num (d := 0) hr hB x1 hle.2 (fun v e q1 p1 b1 lo1 hi1 g2 s2 x2 => ⟨fun h => absurd h (nm0 lo1), fun _ => ⟨t0, l0, Sp.up (d := 1) (by omega) (c_append (d := 0) hr hL ⟨fun h => absurd h (by decide), fun _ => ⟨bz_1, ?_⟩⟩)⟩⟩) (fun c q q1 g2 p2 s2 x2 => ⟨fun _ => ⟨bz_0, ?_⟩, fun h => absurd rfl h⟩))
    · rw [pNum_sk hpn] at q1
      exact lwQ_app hL hl (by omega) (by omega) b1 x2 hq (by rw [sB_l q1])
    · rw [pNum_sk hpn] at q1
      exact hq.2 c q (by rw [sB_r q1]) a g2 p2 s2 offL_rf x2
theorem rd_all (hr : Rk r) (hL : isLaw L) (hn : n ≤ 150) : ∀ t, rdS G r B n L k f MX2_readSum t 0 3 9 ∧ rdT G r B n L k f MX2_readSum t 1 9 ∧ rdS G r B n L k f MX2_readProduct t 2 2 8 ∧ rdT G r B n L k f MX2_readProduct t 3 8 ∧ rdS G r B n L k f MX2_readUnit t 4 1 7
  | 0 => ⟨fun o p s a g l P ho hI ht => by omega, fun o p s i a g l P ho hI hip ht => by omega, fun o p s a g l P ho hI ht => by omega, fun o p s i a g l P ho hI hip ht => by omega, fun o p s a g l P ho hI ht => by omega⟩
  | t + 1 => by
    obtain ⟨i0, i1, i2, i3, i4⟩ := rd_all hr hL hn t
    exact ⟨rd_sum hr hL i2 i1, rd_sumT hr hL hn i2 i1, rd_prod hr hL i4 i3, rd_prodT hr hL hn i4 i3, rd_unit hr hL hn i0⟩
/-- a LAW: E, at the end nothing more -/
def pLaw (B : Nat → Int32) (n p : Nat) : List Int32 ⊕ (Int32 × Nat) := sB (pE B n 800 0 0 p) fun x => if skB B n x.2 < n then .inr (1, skB B n x.2) else .inl x.1
theorem c_readAllL {P : KI} {p s : Nat} {a : IA} {g : Nat → Int32} (hr : Rk r) (hL : isLaw L) (hn : n ≤ 150) (hB : By a B n) (hx : TXr g n p s k f) (hpn : p ≤ n)
    (hy : ∀ l, pLaw B n p = .inl l → ∀ a' g' p' s', offL L a a' → LwOK a' L l → l.length ≤ 150 → TXr g' n p' s' k f → P 1 (va_up a' 2 g') r nK)
    (hf : ∀ c q, pLaw B n p = .inr (c, q) → ∀ a' g' p' s', offL L a a' → TXr g' n p' s' c (nI q) → P 0 (va_up a' 2 g') r nK) {d : Nat} :
    Sp G (d + 34) 0 0 MX2_readAll [.ref L, .ref 2] (va_up a 2 g, r, nK) (RI P) := by
  obtain ⟨t0, l0, t1, l1, t2, l2, e1, e2⟩ := law_k hr hL
  have hne := lawNe hL
  refine V_X2_readAll_0 ⟨t0, l0, fun a1 h1 => ⟨t0, l0, ?_⟩⟩
  subst h1
  rw [up_u2 hne.1]
  have ho : offL L a (u2 a L 2 0) := fun q hq => u2_off q (fun e => hq (Or.inl e))
  refine (rd_all (G := G) (k := k) (f := f) (B := B) hr hL hn 800).1 0 p s (u2 a L 2 0) g [] _ (by decide) ⟨hB.offL hL ho, ⟨u2_eq, fun i v h => by simp at h⟩, by simp, hx, hpn⟩ (by omega) ⟨fun x e q1 p1 b1 a2 g2 s2 o2 l2' x2 => ⟨fun h => absurd h (by decide), fun _ => ⟨rfl, by decide, ?_⟩⟩, fun c q q1 a2 g2 p2 s2 o2 x2 => ⟨fun _ => ⟨bz_0, hf c q (by unfold pLaw; rw [sB_r q1]) a2 g2 p2 s2 (offL_tr ho o2) x2⟩, fun h => absurd rfl h⟩⟩ _ (by omega)
  have hu := pE_up B n 800 0 0 p x e hpn q1
  refine t_atEnd hr ((hB.offL hL ho).offL hL o2) x2 b1 (fun g3 x3 => ⟨fun h => ⟨bz_1, ?_⟩, fun h => ⟨rfl, by decide, t_mark x3 (fun g4 x4 => ⟨fun _ => ⟨bz_0, ?_⟩, fun h => absurd rfl h⟩)⟩⟩)
  · have h5 : ¬ skB B n e < n := fun z => h (by rw [if_pos z])
    exact hy x (by unfold pLaw; rw [sB_l q1]; simp only; rw [if_neg h5]) a2 g3 _ _ (offL_tr ho o2) (by simpa using l2') (by omega) x3
  · have h5 : skB B n e < n := by
      by_cases z : skB B n e < n
      · exact z
      · rw [if_neg z] at h; exact absurd h (by decide)
    exact hf 1 _ (by unfold pLaw; rw [sB_l q1]; simp only; rw [if_pos h5]) a2 g4 _ _ (offL_tr ho o2) x4
end UL
