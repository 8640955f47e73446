/-! City: a clause, the whole text -/
def offC (T : Nat) (a a' : IA) : Prop := ∀ q, ¬ (T ≤ q ∧ q ≤ T + 11) → a' q = a q
theorem offC_rf {T : Nat} {a : IA} : offC T a a := fun _ _ => rfl
theorem offC_tr {T : Nat} {a b c : IA} (h1 : offC T a b) (h2 : offC T b c) : offC T a c := fun q hq => (h2 q hq).trans (h1 q hq)
theorem offC_u2 {T : Nat} {a : IA} {q j : Nat} {x : Int32} (h : T ≤ q ∧ q ≤ T + 11) : offC T a (u2 a q j x) := fun k hk => u2_off k (fun e => hk (e ▸ h))
theorem offC_up {T : Nat} {a : IA} {q : Nat} {v : Nat → Int32} (h : T ≤ q ∧ q ≤ T + 11) : offC T a (va_up a q v) := fun k hk => va_up_ne _ _ (fun e => hk (e ▸ h))
theorem offC_put {T : Nat} {a : IA} {q n : Nat} {p x : Int32} (h : T ≤ q ∧ q ≤ T + 11) : offC T a (ctPut a q n p x) := offC_up h
theorem ctDo_off {a : IA} {T : Nat} {c : Cl} : offC T a (ctDo a T c) := by
  unfold ctDo
  split
  · exact offC_tr (offC_put ⟨by omega, by omega⟩) (offC_tr (offC_put ⟨by omega, by omega⟩) (offC_u2 ⟨by omega, by omega⟩))
  split
  · exact offC_tr (offC_put ⟨by omega, by omega⟩) (offC_tr (offC_put ⟨by omega, by omega⟩) (offC_tr (offC_put ⟨by omega, by omega⟩) (offC_tr (offC_put ⟨by omega, by omega⟩) (offC_tr (offC_put ⟨by omega, by omega⟩) (offC_u2 ⟨by omega, by omega⟩)))))
  split
  · exact offC_put ⟨by omega, by omega⟩
  split
  · exact offC_tr (offC_put ⟨by omega, by omega⟩) (offC_put ⟨by omega, by omega⟩)
  split
  · exact offC_tr (offC_put ⟨by omega, by omega⟩) (offC_tr (offC_put ⟨by omega, by omega⟩) (offC_u2 ⟨by omega, by omega⟩))
  split
  · exact offC_tr (offC_u2 ⟨by omega, by omega⟩) (offC_tr (offC_u2 ⟨by omega, by omega⟩) (offC_tr (offC_u2 ⟨by omega, by omega⟩) (offC_u2 ⟨by omega, by omega⟩)))
  · exact offC_u2 ⟨by omega, by omega⟩
theorem ctClear_off {a : IA} {T : Nat} : offC T a (ctClear a T) := by
  unfold ctClear ctClear1 ctClear2 ctClear3 ctLane
  exact offC_tr (offC_u2 ⟨by omega, by omega⟩) (offC_tr (offC_u2 ⟨by omega, by omega⟩) (offC_tr (offC_u2 ⟨by omega, by omega⟩) (offC_tr (offC_u2 ⟨by omega, by omega⟩) (offC_tr (offC_up ⟨by omega, by omega⟩) (offC_tr (offC_up ⟨by omega, by omega⟩) (offC_tr (offC_u2 ⟨by omega, by omega⟩) (offC_tr (offC_u2 ⟨by omega, by omega⟩) (offC_tr (offC_u2 ⟨by omega, by omega⟩) (offC_u2 ⟨by omega, by omega⟩)))))))))
def cN (c : Cl) (i x : Int32) : Int32 := if c.1 = i then x + 1 else x
theorem u2_at0 {a : IA} {q q' j j' : Nat} {x : Int32} : u2 a q j x q' j' = if q' = q ∧ j' = j then x else a q' j' := u2_at _ _ _ _ _ _
theorem ctDo_n {a : IA} {T : Nat} {c : Cl} : (ctDo a T c) T 0 = cN c 1 (a T 0) ∧ (ctDo a T c) T 1 = cN c 2 (a T 1) ∧ (ctDo a T c) T 2 = cN c 5 (a T 2) := by
  have p1 : ∀ {a : IA} {k n : Nat} {p x : Int32}, k ≠ 0 → ctPut a (T + k) n p x T = a T := fun h => ctPut_ne (by omega)
  unfold ctDo cN
  by_cases h1 : c.1 = 1
  · rw [if_pos h1]
    simp only [h1, ctCorner, u2_at0, p1 (show (1 : Nat) ≠ 0 by decide), p1 (show (2 : Nat) ≠ 0 by decide)]
    simp
  by_cases h2 : c.1 = 2
  · rw [if_neg h1, if_pos h2]
    simp only [h2, ctStreet, u2_at0, p1 (show (3 : Nat) ≠ 0 by decide), p1 (show (4 : Nat) ≠ 0 by decide), p1 (show (5 : Nat) ≠ 0 by decide), p1 (show (6 : Nat) ≠ 0 by decide), p1 (show (7 : Nat) ≠ 0 by decide)]
    simp
  by_cases h5 : c.1 = 5
  · rw [if_neg h1, if_neg h2, if_neg (by rw [h5]; decide), if_neg (by rw [h5]; decide), if_pos h5]
    simp only [h5, ctGood, u2_at0, p1 (show (10 : Nat) ≠ 0 by decide), p1 (show (11 : Nat) ≠ 0 by decide)]
    simp
  rw [if_neg h1, if_neg h2, if_neg h5, if_neg h1, if_neg h2, if_neg h5]
  split
  · rw [ctLikes, p1 (show (8 : Nat) ≠ 0 by decide)]; exact ⟨rfl, rfl, rfl⟩
  split
  · rw [ctForbid, p1 (show (9 : Nat) ≠ 0 by decide), p1 (show (9 : Nat) ≠ 0 by decide)]; exact ⟨rfl, rfl, rfl⟩
  split
  · simp only [ctLane, u2_at0]; exact ⟨rfl, rfl, rfl⟩
  · simp only [u2_at0]; exact ⟨rfl, rfl, rfl⟩
theorem ctClear_n {a : IA} {T : Nat} : (ctClear a T) T 0 = 0 ∧ (ctClear a T) T 1 = 0 ∧ (ctClear a T) T 2 = 0 := by
  unfold ctClear ctClear1 ctClear2 ctClear3 ctLane
  have e8 : T ≠ T + 8 := by omega
  have e9 : T ≠ T + 9 := by omega
  simp only [u2_at0, va_up_ne _ _ e8, va_up_ne _ _ e9]
  simp
/-- the clauses of a text; m stand ahead -/
def pCity (B : Nat → Int32) (n : Nat) : Nat → Nat → Int32 → Int32 → Int32 → Nat → List Cl ⊕ (Int32 × Nat)
  | 0, _, _, _, _, _ => .inl []
  | t + 1, m, nc, ns, ng, p => if skB B n p < n then sB (pClause B n m nc ns ng (skB B n p)) fun c => sB (pCity B n t (m + 1) (cN c.1 1 nc) (cN c.1 2 ns) (cN c.1 5 ng) c.2) fun l => .inl (c.1 :: l) else .inl []
def ctAll (T : Nat) (l : List Cl) (a : IA) : IA := l.foldl (fun a c => ctDo a T c) a
section RA
variable {G : GE} {d C S : Nat} {a : IA} {r : RA} {B : Nat → Int32} {n p s T m : Nat} {k f x : Int32} {g : Nat → Int32}
theorem pFields_kind {nc ns nc' ns' kind : Int32} (h1 : kind = 2 → nc = nc') (h2 : kind = 3 ∨ kind = 4 → ns = ns') : pFields B n kind nc ns p = pFields B n kind nc' ns' p := by
  unfold pFields
  split
  · rfl
  split
  · next h => rw [h1 h]
  split
  · next h => rw [h2 (Or.inl h)]
  split
  · next h => rw [h2 (Or.inr h)]
  rfl
/-- behind the fields: the ; -/
theorem c_clauseEnd {P : KI} {q : Nat} {kind : Int32} {a2 : IA} (hr : Rk r) (hT : isCity T) (hB : By a B n) (hoff : offC T a a2) (hx : TXr g n q s k f) (hqn : q ≤ n)
    (hy : ∀ e, pSign B n 59 q = .inl e → q < e → e ≤ n → ∀ g' s', TXr g' n e s' k f → P 1 (va_up a2 2 g') r nK)
    (hf : ∀ c z, pSign B n 59 q = .inr (c, z) → ∀ g' p' s', TXr g' n p' s' c (nI z) → P 0 (va_up a2 2 g') r nK) :
    Sp G (d + 1) 0 0 MX10_take [.ref 2, .int 59] (va_up a2 2 g, r, nK) (RI fun v a r N => (v = 0 → (bz 0 ∧ P 0 a r N)) ∧ (¬ v = 0 → (bz 1 ∧ P 1 a r N))) := by
  have hB2 : By a2 B n := ⟨hB.1, fun i hi => by rw [hoff 1 (by rcases hT with rfl | rfl <;> omega)]; exact hB.2 i hi⟩
  exact t_take hr hB2 hx hqn (fun e h1 h2 h3 g' s' x' => ⟨fun h => absurd h (by decide), fun _ => ⟨bz_1, hy e h1 h2 (h3 (by decide)) g' s' x'⟩⟩) (fun c z h1 g' p' s' x' => ⟨fun _ => ⟨bz_0, hf c z h1 g' p' s' x'⟩, fun h => absurd rfl h⟩)
theorem c_readClause {P : KI} (hr : Rk r) (hT : isCity T) (hB : By a B n) (hx : TXr g n p s k f) (hpn : p ≤ n) (hm : m < 2 ^ 31)
    (hy : ∀ c e, pClause B n m (a T 0) (a T 1) (a T 2) p = .inl (c, e) → p < e → e ≤ n → ∀ g' s', TXr g' n e s' k f → P 1 (va_up (ctDo a T c) 2 g') r nK)
    (hf : ∀ c q, pClause B n m (a T 0) (a T 1) (a T 2) p = .inr (c, q) → ∀ a' g' p' s', offC T a a' → TXr g' n p' s' c (nI q) → P 0 (va_up a' 2 g') r nK) :
    Sp G (d + 7) 0 0 MX0_readClause [.ref T, .ref 2, .int (nI m)] (va_up a 2 g, r, nK) (RI P) := by
  have h0 := hT.ne0
  have l1 := skB_le (B := B) hpn
  have l2 := ltE_le (B := B) l1.2
  refine V_X0_readClause_0 ⟨rfl, by decide, t_readWord hr hB hx hpn (fun g1 x1 => c_kindOfC hr hB x1 l2.1 l2.2 ⟨fun k0 => ⟨fun h60 => ⟨rfl, by decide, t_mark x1 (fun g2 x2 => ⟨bz_0, ?_⟩)⟩, fun h60 => ⟨ct0 hT, ctl hT, c_isFull hT ?_⟩⟩, fun k0 => ⟨rfl, by decide, t_mark x1 (fun g2 x2 => ⟨bz_0, ?_⟩)⟩⟩)⟩
  · refine hf 3 (skB B n p) ?_ a g2 _ _ offC_rf x2
    have : 60 ≤ m := (nI_leI (a := 60) (by decide) hm).mp h60
    unfold pClause
    rw [if_neg k0, if_pos (Or.inl this)]
  · rw [up_at h0]
    have h60' : ¬ 60 ≤ m := fun z => h60 ((nI_leI (a := 60) (by decide) hm).mpr z)
    refine ⟨fun hnf => ?_, fun hfl => ⟨rfl, by decide, t_mark x1 (fun g2 x2 => ⟨bz_0, ?_⟩)⟩⟩
    · rw [bit0] at hnf
      have hp0 : pClause B n m (a T 0) (a T 1) (a T 2) p = sB (pFields B n (ctKind B (skB B n p) (ltE B n (skB B n p))) (a T 0) (a T 1) (ltE B n (skB B n p))) fun c => sB (pSign B n 59 c.2) fun e => .inl (c.1, e) := by
        unfold pClause
        rw [if_neg k0, if_neg (fun z => z.elim h60' (fun z => by rw [hnf] at z; cases z))]
      rw [hp0] at hy hf
      have fin : ∀ kind nc ns, pFields B n kind nc ns (ltE B n (skB B n p)) = pFields B n (ctKind B (skB B n p) (ltE B n (skB B n p))) (a T 0) (a T 1) (ltE B n (skB B n p)) →
          (∀ c e, pFields B n kind nc ns (ltE B n (skB B n p)) = .inl (c, e) → ltE B n (skB B n p) < e → e ≤ n → ∀ g' s', TXr g' n e s' k f →
            ((1 : Int32) = 0 → (bz 0 ∧ P 0 (va_up (ctDo a T c) 2 g') r nK)) ∧ (¬ (1 : Int32) = 0 → tyK 2 = (0, 9) ∧ 2 < nK ∧ Sp G (d + 6) 0 0 MX10_take [.ref 2, .int 59] (va_up (ctDo a T c) 2 g', r, nK) (RI fun v a r N => (v = 0 → (bz 0 ∧ P 0 a r N)) ∧ (¬ v = 0 → (bz 1 ∧ P 1 a r N))))) := by
        intro kind nc ns he c e h1 h2 h3 g' s' x'
        rw [← he] at hy hf
        refine ⟨fun h => absurd h (by decide), fun _ => ⟨rfl, by decide, c_clauseEnd (kind := kind) hr hT hB ctDo_off x' h3 (fun e' h4 h5 h6 g'' s'' x'' => ?_) (fun c' z h4 g'' p'' s'' x'' => ?_)⟩⟩
        · exact hy c e' (by rw [sB_l h1]; simp only; rw [sB_l h4]) (by omega) h6 g'' s'' x''
        · exact hf c' z (by rw [sB_l h1]; simp only; rw [sB_r h4]) _ g'' p'' s'' ctDo_off x''
      have bad : ∀ kind nc ns, pFields B n kind nc ns (ltE B n (skB B n p)) = pFields B n (ctKind B (skB B n p) (ltE B n (skB B n p))) (a T 0) (a T 1) (ltE B n (skB B n p)) →
          (∀ c q, pFields B n kind nc ns (ltE B n (skB B n p)) = .inr (c, q) → ∀ g' p' s', TXr g' n p' s' c (nI q) →
            ((0 : Int32) = 0 → (bz 0 ∧ P 0 (va_up a 2 g') r nK)) ∧ (¬ (0 : Int32) = 0 → tyK 2 = (0, 9) ∧ 2 < nK ∧ Sp G (d + 6) 0 0 MX10_take [.ref 2, .int 59] (va_up a 2 g', r, nK) (RI fun v a r N => (v = 0 → (bz 0 ∧ P 0 a r N)) ∧ (¬ v = 0 → (bz 1 ∧ P 1 a r N))))) := by
        intro kind nc ns he c q h1 g' p' s' x'
        rw [← he] at hf
        exact ⟨fun _ => ⟨bz_0, hf c q (by rw [sB_r h1]) a g' p' s' offC_rf x'⟩, fun h => absurd rfl h⟩
      generalize hkd : ctKind B (skB B n p) (ltE B n (skB B n p)) = kd at *
      refine ⟨fun h1 => ⟨ct0 hT, ctl hT, c_readCorner (nc := a T 0) (ns := a T 1) hr hT hB x1 l2.2 (fin 1 (a T 0) (a T 1) (by rw [h1])) (bad 1 (a T 0) (a T 1) (by rw [h1]))⟩, fun h1 => ⟨fun h2 => ⟨ct0 hT, ctl hT, c_readStreet (ns := a T 1) hr hT hB x1 l2.2 (fin 2 (a T 0) (a T 1) (by rw [h2])) (bad 2 (a T 0) (a T 1) (by rw [h2]))⟩, fun h2 => ⟨fun h3 => ⟨ct0 hT, ctl hT, c_readLikes (nc := a T 0) hr hT hB x1 l2.2 (fin 3 (a T 0) (a T 1) (by rw [h3])) (bad 3 (a T 0) (a T 1) (by rw [h3]))⟩, fun h3 => ⟨fun h4 => ⟨ct0 hT, ctl hT, c_readNever (nc := a T 0) hr hT hB x1 l2.2 (fin 4 (a T 0) (a T 1) (by rw [h4])) (bad 4 (a T 0) (a T 1) (by rw [h4]))⟩, fun h4 => ⟨fun h5 => ⟨ct0 hT, ctl hT, c_readGood (nc := a T 0) (ns := a T 1) hr hT hB x1 l2.2 (fin 5 (a T 0) (a T 1) (by rw [h5])) (bad 5 (a T 0) (a T 1) (by rw [h5]))⟩, fun h5 => ⟨fun h6 => ⟨ct0 hT, ctl hT, c_readLane (nc := a T 0) (ns := a T 1) hr hT hB x1 l2.2 (fin 6 (a T 0) (a T 1) (by rw [h6])) (bad 6 (a T 0) (a T 1) (by rw [h6]))⟩, fun h6 => ⟨ct0 hT, ctl hT, c_readRiver (nc := a T 0) (ns := a T 1) hr hT hB x1 l2.2 (fin 7 (a T 0) (a T 1) ?_) (bad 7 (a T 0) (a T 1) ?_)⟩⟩⟩⟩⟩⟩⟩
      all_goals
        unfold pFields
        rw [if_neg h1, if_neg h2, if_neg h3, if_neg h4, if_neg h5, if_neg h6]
        rfl
    · refine hf 3 (skB B n p) ?_ a g2 _ _ offC_rf x2
      have : ctFull (ctKind B (skB B n p) (ltE B n (skB B n p))) (a T 0) (a T 1) (a T 2) = true := by
        cases hq : ctFull (ctKind B (skB B n p) (ltE B n (skB B n p))) (a T 0) (a T 1) (a T 2) with
        | true => rfl
        | false => exact absurd (bit0.mpr hq) hfl
      unfold pClause
      rw [if_neg k0, if_pos (Or.inr this)]
  · refine hf 1 (skB B n p) ?_ a g2 _ _ offC_rf x2
    unfold pClause
    rw [if_pos k0]
theorem l_readAll {P : KI} (hr : Rk r) (hT : isCity T) (a0 : IA) : ∀ (t m p s : Nat) (a : IA) (g : Nat → Int32), m + t = 61 → offC T a0 a → By a B n → TXr g n p s k f → p ≤ n →
    (∀ l, pCity B n t m (a T 0) (a T 1) (a T 2) p = .inl l → ∀ g' p' s', TXr g' n p' s' k f → P 1 (va_up (ctAll T l a) 2 g') r nK) →
    (∀ c q, pCity B n t m (a T 0) (a T 1) (a T 2) p = .inr (c, q) → ∀ a' g' p' s', offC T a0 a' → TXr g' n p' s' c (nI q) → P 0 (va_up a' 2 g') r nK) →
    E G MX0_readAll (d + 8) C S 6 [.ref T, .ref 2, .int (nI m)] [] (va_up a 2 g, r, nK) (RI P) := by
  intro t
  induction t with
  | zero =>
    intro m p s a g hm ho hB hx hpn hy hf
    obtain rfl : m = 61 := by omega
    exact V_X0_readAll_6 ⟨fun _ => ⟨bz_1, hy [] rfl g p s hx⟩, fun h => absurd (by decide) h⟩
  | succ t ih =>
    intro m p s a g hm ho hB hx hpn hy hf
    have l1 := skB_le (B := B) hpn
    refine V_X0_readAll_6 ⟨fun h => absurd h (by rw [i_nlt]; exact nI_le (b := 60) (by omega) (by decide)), fun h => ⟨rfl, by decide, t_atEnd hr hB hx hpn (fun g1 x1 => ⟨fun h1 => ⟨bz_1, ?_⟩, fun h1 => ⟨ct0 hT, ctl hT, c_readClause (m := m) hr hT hB x1 l1.2 (by omega) (fun c e h2 h3 h4 g2 s2 x2 => ⟨fun _ => ?_, fun h => absurd h (by decide)⟩) (fun c q h2 a' g2 p2 s2 o2 x2 => ⟨fun h => absurd rfl h, fun _ => ⟨bz_0, ?_⟩⟩)⟩⟩)⟩⟩
    · have h5 : ¬ skB B n p < n := fun z => h1 (by rw [if_pos z])
      exact hy [] (by rw [pCity, if_neg h5]) g1 _ _ x1
    · have h5 : skB B n p < n := by
        rcases Nat.lt_or_ge (skB B n p) n with z | z
        · exact z
        · rw [if_neg (by omega)] at h1; exact absurd h1 (by decide)
      have hn := ctDo_n (a := a) (T := T) (c := c)
      rw [nI_1]
      refine ih (m + 1) e s2 (ctDo a T c) g2 (by omega) (offC_tr ho ctDo_off) ⟨hB.1, fun i hi => by rw [ctDo_off 1 (by rcases hT with rfl | rfl <;> omega)]; exact hB.2 i hi⟩ x2 h4 (fun l h6 g' p' s' x' => ?_) (fun c' q h6 a' g' p' s' o' x' => ?_)
      · rw [hn.1, hn.2.1, hn.2.2] at h6
        exact hy (c :: l) (by rw [pCity, if_pos h5, sB_l h2]; simp only; rw [sB_l h6]) g' p' s' x'
      · rw [hn.1, hn.2.1, hn.2.2] at h6
        exact hf c' q (by rw [pCity, if_pos h5, sB_l h2]; simp only; rw [sB_r h6]) a' g' p' s' o' x'
    · have h5 : skB B n p < n := by
        rcases Nat.lt_or_ge (skB B n p) n with z | z
        · exact z
        · rw [if_neg (by omega)] at h1; exact absurd h1 (by decide)
      exact hf c q (by rw [pCity, if_pos h5, sB_r h2]) a' g2 p2 s2 (offC_tr ho o2) x2
theorem c_readAllC {P : KI} (hr : Rk r) (hT : isCity T) (hB : By a B n) (hx : TXr g n p s k f) (hpn : p ≤ n)
    (hy : ∀ l, pCity B n 61 0 0 0 0 p = .inl l → ∀ g' p' s', TXr g' n p' s' k f → P 1 (va_up (ctAll T l (ctClear a T)) 2 g') r nK)
    (hf : ∀ c q, pCity B n 61 0 0 0 0 p = .inr (c, q) → ∀ a' g' p' s', offC T a a' → TXr g' n p' s' c (nI q) → P 0 (va_up a' 2 g') r nK) :
    Sp G (d + 8) 0 0 MX0_readAll [.ref T, .ref 2] (va_up a 2 g, r, nK) (RI P) := by
  refine V_X0_readAll_0 ⟨ct0 hT, ctl hT, c_clear hr hT ?_⟩
  rw [ctClear_up hT]
  have hn := ctClear_n (a := a) (T := T)
  refine l_readAll (m := 0) (t := 61) hr hT a p s (ctClear a T) g (by omega) ctClear_off ⟨hB.1, fun i hi => by rw [ctClear_off 1 (by rcases hT with rfl | rfl <;> omega)]; exact hB.2 i hi⟩ hx hpn (fun l h => ?_) (fun c q h => ?_)
  · rw [hn.1, hn.2.1, hn.2.2] at h; exact hy l h
  · rw [hn.1, hn.2.1, hn.2.2] at h; exact hf c q h
end RA
