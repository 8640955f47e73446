/-! Mail -/
def isMail (M : Nat) : Prop := M = 33 ∨ M = 36
theorem mail_k {r : RA} {M : Nat} (hr : Rk r) (hM : isMail M) : tyK M = (0, 5) ∧ M < nK ∧ tyK (M + 1) = (1, 8) ∧ M + 1 < nK ∧ tyK (M + 2) = (1, 8) ∧ M + 2 < nK ∧ r M 0 = .ref (M + 1) ∧ r M 1 = .ref (M + 2) := by
  rcases hM with rfl | rfl
  · exact ⟨rfl, by decide, rfl, by decide, rfl, by decide, hr.at (by decide), hr.at (by decide)⟩
  · exact ⟨rfl, by decide, rfl, by decide, rfl, by decide, hr.at (by decide), hr.at (by decide)⟩
abbrev Ln : Type := Int32 × Int32
/-- the lines that Mail M holds -/
def MlOK (a : IA) (M : Nat) (l : List Ln) : Prop := a M 2 = nI l.length ∧ l.length ≤ 8 ∧ ∀ (i : Nat) (v : Ln), l[i]? = some v → a (M + 1) i = v.1 ∧ a (M + 2) i = v.2
def offM (M : Nat) (a a' : IA) : Prop := ∀ q, ¬ (M ≤ q ∧ q ≤ M + 2) → a' q = a q
theorem offM_rf {M : Nat} {a : IA} : offM M a a := fun _ _ => rfl
theorem offM_tr {M : Nat} {a b c : IA} (h1 : offM M a b) (h2 : offM M b c) : offM M a c := fun q hq => (h2 q hq).trans (h1 q hq)
def mlPut (a : IA) (M : Nat) (v h : Int32) : IA := u2 (ctPut (ctPut a (M + 1) 8 (a M 2) v) (M + 2) 8 (a M 2) h) M 2 (a M 2 + 1)
theorem mlPut_off {a : IA} {M : Nat} {v h : Int32} : offM M a (mlPut a M v h) := fun q hq => by
  unfold mlPut
  rw [u2_off q (by omega), ctPut_ne (by omega), ctPut_ne (by omega)]
theorem mlPut_ok {a : IA} {M : Nat} {l : List Ln} {v h : Int32} (hl : MlOK a M l) (h8 : l.length < 8) : MlOK (mlPut a M v h) M (l ++ [(v, h)]) := by
  obtain ⟨e, hle, hat⟩ := hl
  refine ⟨?_, by simp; omega, fun i w hi => ?_⟩
  · unfold mlPut
    rw [u2_eq, e, nI_1]
    simp
  · have e1 : mlPut a M v h (M + 1) = upd (a (M + 1)) l.length v := by
      unfold mlPut
      rw [u2_off _ (by omega), ctPut_ne (by omega), ctPut_self, e, rPut_nI _ (by decide) h8]
    have e2 : mlPut a M v h (M + 2) = upd (a (M + 2)) l.length h := by
      unfold mlPut
      rw [u2_off _ (by omega), ctPut_self, ctPut_ne (by omega), e, rPut_nI _ (by decide) h8]
    rw [e1, e2]
    unfold upd
    by_cases hj : i < l.length
    · rw [List.getElem?_append_left hj] at hi
      rw [if_neg (by omega), if_neg (by omega)]
      exact hat i w hi
    · rw [List.getElem?_append_right (by omega)] at hi
      have : i = l.length := by
        rcases Nat.lt_or_ge (i - l.length) 1 with z | z
        · omega
        · rw [List.getElem?_eq_none (by simpa using z)] at hi; cases hi
      subst this
      simp at hi
      subst hi
      rw [if_pos rfl, if_pos rfl]
      exact ⟨rfl, rfl⟩
def hasN (l : List Ln) (x : Int32) : Bool := l.any (fun v => decide (v.1 = x))
def pLine (B : Nat → Int32) (n : Nat) (l : List Ln) (p : Nat) : (Ln × Nat) ⊕ (Int32 × Nat) := sB (pNum B n 1 40 p) fun x => if hasN l x.1 = true then .inr (2, skB B n p) else if 8 ≤ l.length then .inr (3, skB B n p) else sB (pNum B n 0 20 x.2) fun y => sB (pSign B n 59 y.2) fun e => .inl ((x.1, y.1), e)
def pPost (B : Nat → Int32) (n : Nat) : Nat → List Ln → Nat → List Ln ⊕ (Int32 × Nat)
  | 0, l, _ => .inl l
  | t + 1, l, p => if skB B n p < n then sB (pLine B n l (skB B n p)) fun c => pPost B n t (l ++ [c.1]) c.2 else .inl l
/-- how many lines are right, up to the first that is wrong -/
def rgt (role houses : Int32) : List Ln → Nat
  | [] => 0
  | v :: t => if lfHouse role houses v.1 = v.2 then rgt role houses t + 1 else 0
def mx2 (x y : Int32) : Int32 := if x < y then y else x
def lfWorst (houses number hers his alone : Int32) : Int32 :=
  mx2 (hers + (if lfHouse 2 houses number = lfHouse 1 houses number then his else 0) + (if lfHouse 0 houses number = lfHouse 1 houses number then alone else 0))
    (mx2 (his + (if lfHouse 1 houses number = lfHouse 2 houses number then hers else 0) + (if lfHouse 0 houses number = lfHouse 2 houses number then alone else 0))
      (alone + (if lfHouse 1 houses number = lfHouse 0 houses number then hers else 0) + (if lfHouse 2 houses number = lfHouse 0 houses number then his else 0)))
theorem nI_lt8 {n : Nat} (h : n < 2 ^ 31) : nI n < 8 ↔ n < 8 := nI_ltI (b := 8) h (by decide)
section ML
variable {G : GE} {d C S : Nat} {a : IA} {r : RA} {B : Nat → Int32} {n p s M : Nat} {k f x role houses : Int32} {g : Nat → Int32} {l : List Ln}
theorem t_numS {P : KI} {lo hi : Int32} (hr : Rk r) (hB : By a B n) (hx : TXr g n p s k f) (hpn : p ≤ n)
    (hy : ∀ v e, pNum B n lo hi p = .inl (v, e) → p < e → e ≤ n → lo ≤ v → v ≤ hi → ∀ g', TXr g' n e (skB B n p) k f → P v (va_up a 2 g') r nK)
    (hf : ∀ c q, pNum B n lo hi p = .inr (c, q) → ∀ g' p' s', TXr g' n p' s' c (nI q) → P (-1) (va_up a 2 g') r nK) : Sp G (d + 1) 0 0 MX10_readNumber [.ref 2, .int lo, .int hi] (va_up a 2 g, r, nK) (RI P) := by
  have h1 := skB_le (B := B) hpn
  have h2 := dgE_le (B := B) h1.2
  refine c_readNumber hr hB.up hx.up hpn (fun h3 h4 h5 a' h6 h7 => ?_) (fun h3 h4 a' h6 h7 => ?_) (fun h3 a' h6 h7 => ?_)
  · rw [off_up h7]
    exact hy _ _ (by unfold pNum; rw [if_neg (by omega), if_pos ⟨h4, h5⟩]) (by omega) h2.2 h4 h5 _ h6
  · rw [off_up h7]
    exact hf _ _ (by unfold pNum; rw [if_neg (by omega), if_neg h4]) _ _ _ h6
  · rw [off_up h7]
    exact hf _ _ (by unfold pNum; rw [if_pos h3]) _ _ _ h6
theorem MlOK.up {g : Nat → Int32} (hM : isMail M) (h : MlOK a M l) : MlOK (va_up a 2 g) M l := by
  have h0 : M ≠ 2 := by rcases hM with rfl | rfl <;> decide
  have h1 : M + 1 ≠ 2 := by rcases hM with rfl | rfl <;> decide
  have h2 : M + 2 ≠ 2 := by rcases hM with rfl | rfl <;> decide
  unfold MlOK
  rw [up_at h0, up_at h1, up_at h2]
  exact h
theorem MlOK.at1 (h : MlOK a M l) {i : Nat} {v : Ln} (hi : l[i]? = some v) : rAt (a (M + 1)) 8 (nI i) = v.1 ∧ rAt (a (M + 2)) 8 (nI i) = v.2 := by
  have hlt : i < l.length := (List.getElem?_eq_some_iff.mp hi).1
  have := h.2.1
  rw [rAt_nI _ (by decide) (by omega), rAt_nI _ (by decide) (by omega)]
  exact h.2.2 i v hi
theorem l_has {P : KI} (hr : Rk r) (hM : isMail M) (hl : MlOK a M l) (hp : P (if hasN l x then 1 else 0) a r nK) : ∀ (m i : Nat), i + m = l.length → (∀ j v, j < i → l[j]? = some v → ¬ v.1 = x) → E G MX5_has (d + 1) C S 2 [.ref M, .int x, .int (nI i)] [] (a, r, nK) (RI P) := by
  obtain ⟨t0, l0, t1, l1, t2, l2, e1, e2⟩ := mail_k hr hM
  have h8 := hl.2.1
  intro m
  induction m with
  | zero =>
    intro i hi hno
    refine V_X5_has_2 ⟨t0, l0, fun _ => ⟨bz_0, ?_⟩, fun h => absurd (by rw [hl.1]; exact nI_le (by omega) (by omega)) h⟩
    have : hasN l x = false := by
      unfold hasN
      rw [List.any_eq_false]
      intro v hv
      obtain ⟨j, hj⟩ := List.mem_iff_getElem?.mp hv
      simpa using hno j v (by have := (List.getElem?_eq_some_iff.mp hj).1; omega) hj
    rw [this] at hp
    exact hp
  | succ m ih =>
    intro i hi hno
    have hv : l[i]? = some l[i] := List.getElem?_eq_getElem (by omega)
    refine V_X5_has_2 ⟨t0, l0, fun h => absurd h (by rw [hl.1]; exact nI_ge (by omega) (by omega)), fun _ => ⟨t0, l0, _, e1, c_at t1 (by decide) l1 ⟨fun h1 => ?_, fun h1 => ⟨bz_1, ?_⟩⟩⟩⟩
    · rw [nI_1]
      rw [(hl.at1 hv).1] at h1
      refine ih (i + 1) (by omega) (fun j v hj hv' => ?_)
      by_cases e : j = i
      · subst e
        rw [hv] at hv'
        cases hv'
        exact h1
      · exact hno j v (by omega) hv'
    · rw [(hl.at1 hv).1] at h1
      have : hasN l x = true := List.any_eq_true.mpr ⟨l[i], List.mem_of_getElem? hv, by simpa using h1⟩
      rw [this] at hp
      exact hp
theorem c_has {P : KI} (hr : Rk r) (hM : isMail M) (hl : MlOK a M l) (hp : P (if hasN l x then 1 else 0) a r nK) : Sp G (d + 1) 0 0 MX5_has [.ref M, .int x] (a, r, nK) (RI P) :=
  V_X5_has_0 (l_has hr hM hl hp l.length 0 (by omega) (fun j v hj => by omega))
theorem rgt_drop {l : List Ln} {i : Nat} {v : Ln} (hi : l[i]? = some v) : rgt role houses (l.drop i) = if lfHouse role houses v.1 = v.2 then rgt role houses (l.drop (i + 1)) + 1 else 0 := by
  have hlt : i < l.length := (List.getElem?_eq_some_iff.mp hi).1
  have e : l[i] = v := by rw [List.getElem?_eq_getElem hlt] at hi; exact Option.some.inj hi
  rw [List.drop_eq_getElem_cons hlt, e, rgt]
theorem l_right {P : KI} (hr : Rk r) (hM : isMail M) (hl : MlOK a M l) (hp : P (nI (rgt role houses l)) a r nK) : ∀ (m i : Nat), i + m = l.length → rgt role houses l = i + rgt role houses (l.drop i) → E G MX5_rightLines (d + 2) C S 2 [.ref M, .int role, .int houses, .int (nI i)] [] (a, r, nK) (RI P) := by
  obtain ⟨t0, l0, t1, l1, t2, l2, e1, e2⟩ := mail_k hr hM
  have h8 := hl.2.1
  intro m
  induction m with
  | zero =>
    intro i hi he
    refine V_X5_rightLines_2 ⟨t0, l0, fun _ => ⟨t0, l0, ?_⟩, fun h => absurd (by rw [hl.1]; exact nI_le (by omega) (by omega)) h⟩
    rw [List.drop_eq_nil_of_le (by omega), rgt] at he
    rw [he] at hp
    rw [hl.1, show l.length = i by omega]
    exact hp
  | succ m ih =>
    intro i hi he
    have hv : l[i]? = some l[i] := List.getElem?_eq_getElem (by omega)
    rw [rgt_drop hv] at he
    refine V_X5_rightLines_2 ⟨t0, l0, fun h => absurd h (by rw [hl.1]; exact nI_ge (by omega) (by omega)), fun _ => ⟨t0, l0, _, e1, c_at t1 (by decide) l1 (c_houseOf ⟨t0, l0, _, e2, c_at t2 (by decide) l2 ?_⟩)⟩⟩
    rw [(hl.at1 hv).1, (hl.at1 hv).2]
    refine ⟨fun h1 => ?_, fun h1 => ?_⟩
    · rw [nI_1]
      rw [if_pos h1] at he
      exact ih (i + 1) (by omega) (by omega)
    · rw [if_neg h1] at he
      rw [he] at hp
      exact hp
theorem c_rightLines {P : KI} (hr : Rk r) (hM : isMail M) (hl : MlOK a M l) (hp : P (nI (rgt role houses l)) a r nK) : Sp G (d + 2) 0 0 MX5_rightLines [.ref M, .int role, .int houses] (a, r, nK) (RI P) :=
  V_X5_rightLines_0 (l_right hr hM hl hp l.length 0 (by omega) (by simp))
theorem rgt_le (role houses : Int32) : ∀ l : List Ln, rgt role houses l ≤ l.length
  | [] => Nat.le_refl _
  | v :: t => by
    unfold rgt
    have := rgt_le role houses t
    split <;> simp <;> omega
theorem c_fits {P : KI} (hr : Rk r) (hM : isMail M) (hl : MlOK a M l) (hp : P (if rgt role houses l = l.length then 1 else 0) a r nK) : Sp G (d + 3) 0 0 MX5_fits [.ref M, .int role, .int houses] (a, r, nK) (RI P) := by
  obtain ⟨t0, l0, t1, l1, t2, l2, e1, e2⟩ := mail_k hr hM
  have h8 := hl.2.1
  have hle := rgt_le role houses l
  refine V_X5_fits_0 ⟨t0, l0, c_rightLines hr hM hl ⟨t0, l0, fun h => ⟨bz_0, ?_⟩, fun h => ⟨bz_1, ?_⟩⟩⟩
  · rw [hl.1, nI_eq (by omega) (by omega)] at h
    rw [if_neg h] at hp; exact hp
  · rw [hl.1, nI_eq (by omega) (by omega)] at h
    rw [if_pos h] at hp; exact hp
theorem c_mailClear {P : KN} (hr : Rk r) (hM : isMail M) (hp : P (u2 a M 2 0) r nK) : Sp G d 0 0 MX5_clear [.ref M] (a, r, nK) (RN P) := by
  obtain ⟨t0, l0, t1, l1, t2, l2, e1, e2⟩ := mail_k hr hM
  exact V_X5_clear_0 ⟨t0, l0, fun a1 h1 => by subst h1; exact hp⟩
theorem mlNil (a : IA) (M : Nat) : MlOK (u2 a M 2 0) M [] := ⟨u2_eq, by simp, fun i v h => by simp at h⟩
theorem c_readLine {P : KI} (hr : Rk r) (hM : isMail M) (hB : By a B n) (hl : MlOK a M l) (hx : TXr g n p s k f) (hpn : p ≤ n)
    (hy : ∀ c e, pLine B n l p = .inl (c, e) → p < e → e ≤ n → ∀ a' g' s', offM M a a' → MlOK a' M (l ++ [c]) → TXr g' n e s' k f → P 1 (va_up a' 2 g') r nK)
    (hf : ∀ c q, pLine B n l p = .inr (c, q) → ∀ g' p' s', TXr g' n p' s' c (nI q) → P 0 (va_up a 2 g') r nK) : Sp G (d + 2) 0 0 MX5_readLine [.ref M, .ref 2] (va_up a 2 g, r, nK) (RI P) := by
  obtain ⟨t0, l0, t1, l1, t2, l2, e1, e2⟩ := mail_k hr hM
  have n0 : M ≠ 2 := by rcases hM with rfl | rfl <;> decide
  have n1 : M + 1 ≠ 2 := by rcases hM with rfl | rfl <;> decide
  have n2 : M + 2 ≠ 2 := by rcases hM with rfl | rfl <;> decide
  have h8 := hl.2.1
  refine V_X5_readLine_0 ⟨rfl, by decide, t_numS hr hB hx hpn (fun v1 ee1 q1 p1 b1 lo1 hi1 g1 x1 => ⟨fun _ => ⟨t0, l0, c_has hr hM (hl.up hM) ⟨fun hh => ⟨t0, l0, fun h3 => ⟨rfl, by decide, t_num hr hB x1 b1 (fun v2 ee2 q2 p2 b2 lo2 hi2 g2 s2 x2 => ⟨fun h => absurd h (nm0 lo2), fun _ => ⟨rfl, by decide, t_take hr hB x2 b2 (fun ee3 q3 p3 b3 g3 s3 x3 => ⟨fun _ => ⟨t0, l0, _, e1, t0, l0, c_put t1 (by decide) l1 ⟨t0, l0, _, e2, t0, l0, c_put t2 (by decide) l2 ⟨t0, l0, t0, l0, fun a9 h9 => ⟨bz_1, ?_⟩⟩⟩⟩, fun h => absurd h (by decide)⟩) (fun c q q3 g3 p3 s3 x3 => ⟨fun h => absurd rfl h, fun _ => ⟨bz_0, ?_⟩⟩)⟩⟩) (fun c q q2 g2 p2 s2 x2 => ⟨fun _ => ⟨bz_0, ?_⟩, fun h => absurd rfl h⟩)⟩, fun h3 => ⟨rfl, by decide, t_mark x1 (fun g2 x2 => ⟨bz_0, ?_⟩)⟩⟩, fun hh => ⟨rfl, by decide, t_mark x1 (fun g2 x2 => ⟨bz_0, ?_⟩)⟩⟩⟩, fun h => absurd h (nm1 lo1 (by decide))⟩) (fun c q q1 g1 p1 s1 x1 => ⟨fun h => absurd rfl h, fun _ => ⟨bz_0, ?_⟩⟩)⟩
  · rw [bit0] at hh
    rw [up_at n0, hl.1, nI_lt8 (by omega)] at h3
    have hy := hy (v1, v2) ee3 (by unfold pLine; rw [sB_l q1]; simp only; rw [if_neg (by rw [hh]; decide), if_neg (by omega), sB_l q2]; simp only; rw [sB_l q3]) (by omega) (b3 (by decide)) (mlPut a M v1 v2) g3 s3 mlPut_off (mlPut_ok hl h3) x3
    subst h9
    have : mlPut (va_up a 2 g3) M v1 v2 = va_up (mlPut a M v1 v2) 2 g3 := by
      unfold mlPut
      rw [up_at n0, up_ctPut n1, up_ctPut n2, up_u2 n0]
    rw [← this] at hy
    have e3 : M ≠ M + 1 := by omega
    have e4 : M ≠ M + 2 := by omega
    simp only [va_up_ne _ _ e3, va_up_ne _ _ e4]
    exact hy
  · rw [bit0] at hh
    rw [up_at n0, hl.1, nI_lt8 (by omega)] at h3
    exact hf c q (by unfold pLine; rw [sB_l q1]; simp only; rw [if_neg (by rw [hh]; decide), if_neg (by omega), sB_l q2]; simp only; rw [sB_r q3]) _ _ _ x3
  · rw [bit0] at hh
    rw [up_at n0, hl.1, nI_lt8 (by omega)] at h3
    exact hf c q (by unfold pLine; rw [sB_l q1]; simp only; rw [if_neg (by rw [hh]; decide), if_neg (by omega), sB_r q2]) _ _ _ x2
  · rw [bit0] at hh
    rw [up_at n0, hl.1, nI_lt8 (by omega)] at h3
    exact hf 3 _ (by unfold pLine; rw [sB_l q1]; simp only; rw [if_neg (by rw [hh]; decide), if_pos (by omega)]) _ _ _ x2
  · have hh' : hasN l v1 = true := by
      cases hq : hasN l v1 with
      | true => rfl
      | false => exact absurd (bit0.mpr hq) hh
    exact hf 2 _ (by unfold pLine; rw [sB_l q1]; simp only; rw [if_pos hh']) _ _ _ x2
  · exact hf c q (by unfold pLine; rw [sB_r q1]) _ _ _ x1
theorem l_readAllM {P : KI} (hr : Rk r) (hM : isMail M) (a0 : IA) : ∀ (t m p s : Nat) (a : IA) (g : Nat → Int32) (l : List Ln), l.length = m → m + t = 9 → offM M a0 a → By a B n → MlOK a M l → TXr g n p s k f → p ≤ n →
    (∀ l', pPost B n t l p = .inl l' → ∀ a' g' p' s', offM M a0 a' → MlOK a' M l' → TXr g' n p' s' k f → P 1 (va_up a' 2 g') r nK) →
    (∀ c q, pPost B n t l p = .inr (c, q) → ∀ a' g' p' s', offM M a0 a' → TXr g' n p' s' c (nI q) → P 0 (va_up a' 2 g') r nK) →
    E G MX5_readAll (d + 3) C S 7 [.ref M, .ref 2, .int (nI m)] [] (va_up a 2 g, r, nK) (RI P) := by
  obtain ⟨t0, l0, t1, l1, t2, l2, e1, e2⟩ := mail_k hr hM
  intro t
  induction t with
  | zero =>
    intro m p s a g l hlm hm ho hB hl hx hpn hy hf
    obtain rfl : m = 9 := by omega
    exact V_X5_readAll_7 ⟨fun _ => ⟨bz_1, hy l rfl a g p s ho hl hx⟩, fun h => absurd (by decide) h⟩
  | succ t ih =>
    intro m p s a g l hlm hm ho hB hl hx hpn hy hf
    have ls := skB_le (B := B) hpn
    have h5 : ∀ {b : Prop} [Decidable b], (if b then (0 : Int32) else 1) = 0 → b := fun {b} _ h => by
      by_cases z : b
      · exact z
      · rw [if_neg z] at h; exact absurd h (by decide)
    refine V_X5_readAll_7 ⟨fun h => absurd h (by rw [i_nlt]; exact nI_le (b := 8) (by omega) (by decide)), fun h => ⟨rfl, by decide, t_atEnd hr hB hx hpn (fun g1 x1 => ⟨fun h1 => ⟨bz_1, ?_⟩, fun h1 => ⟨t0, l0, c_readLine hr hM hB hl x1 ls.2 (fun c e h2 h3 h4 a2 g2 s2 o2 m2 x2 => ⟨fun _ => ?_, fun h => absurd h (by decide)⟩) (fun c q h2 g2 p2 s2 x2 => ⟨fun h => absurd rfl h, fun _ => ⟨bz_0, ?_⟩⟩)⟩⟩)⟩⟩
    · have h6 : ¬ skB B n p < n := fun z => h1 (by rw [if_pos z])
      exact hy l (by rw [pPost, if_neg h6]) a g1 _ _ ho hl x1
    · rw [nI_1]
      refine ih (m + 1) e s2 a2 g2 (l ++ [c]) (by simp; omega) (by omega) (offM_tr ho o2) ⟨hB.1, fun i hi => by rw [o2 1 (by rcases hM with rfl | rfl <;> omega)]; exact hB.2 i hi⟩ m2 x2 h4 (fun l' h6 => ?_) (fun c' q h6 => ?_)
      · exact hy l' (by rw [pPost, if_pos (h5 h1), sB_l h2]; exact h6)
      · exact hf c' q (by rw [pPost, if_pos (h5 h1), sB_l h2]; exact h6)
    · exact hf c q (by rw [pPost, if_pos (h5 h1), sB_r h2]) a g2 p2 s2 ho x2
theorem c_readAllM {P : KI} (hr : Rk r) (hM : isMail M) (hB : By a B n) (hx : TXr g n p s k f) (hpn : p ≤ n)
    (hy : ∀ l', pPost B n 9 [] p = .inl l' → ∀ a' g' p' s', offM M a a' → MlOK a' M l' → TXr g' n p' s' k f → P 1 (va_up a' 2 g') r nK)
    (hf : ∀ c q, pPost B n 9 [] p = .inr (c, q) → ∀ a' g' p' s', offM M a a' → TXr g' n p' s' c (nI q) → P 0 (va_up a' 2 g') r nK) :
    Sp G (d + 3) 0 0 MX5_readAll [.ref M, .ref 2] (va_up a 2 g, r, nK) (RI P) := by
  obtain ⟨t0, l0, t1, l1, t2, l2, e1, e2⟩ := mail_k hr hM
  have n0 : M ≠ 2 := by rcases hM with rfl | rfl <;> decide
  refine V_X5_readAll_0 ⟨t0, l0, fun a1 h1 => ?_⟩
  subst h1
  rw [up_u2 n0]
  have ho : offM M a (u2 a M 2 0) := fun q hq => u2_off q (by omega)
  exact l_readAllM (m := 0) (t := 9) (l := []) hr hM a p s (u2 a M 2 0) g rfl (by omega) ho ⟨hB.1, fun i hi => by rw [ho 1 (by rcases hM with rfl | rfl <;> omega)]; exact hB.2 i hi⟩ (mlNil a M) hx hpn hy hf
theorem c_leftAtWorst {P : KI} {y hers his alone : Int32} {N : Nat} (hp : P (lfWorst houses y hers his alone) a r N) : Sp G (d + 2) 0 0 MX5_leftAtWorst [.int houses, .int y, .int hers, .int his, .int alone] (a, r, N) (RI P) := by
  unfold lfWorst mx2 at hp
  refine V_X5_leftAtWorst_0 (c_houseOf (c_houseOf (c_houseOf ?_)))
  generalize lfHouse 1 houses y = A at *
  generalize lfHouse 2 houses y = Bb at *
  generalize lfHouse 0 houses y = Cc at *
  have hb : ∀ x y : Int32, E G MX5_leftAtWorst (d + 2) 0 0 81 [.null, .null, .int hers, .int his, .int alone, .int A, .int Bb, .int Cc, .int (hers + (if Bb = A then his else 0) + (if Cc = A then alone else 0)), .null, .null] [.int (if Cc = Bb then alone else 0), .int (his + (if A = Bb then hers else 0))] (a, r, N) (RI P) := fun _ _ => by
    refine V_X5_leftAtWorst_81 ⟨fun h1 => ⟨fun h2 => ?_, fun h2 => ?_⟩, fun h1 => ⟨fun h2 => ?_, fun h2 => ?_⟩⟩
    · rw [if_neg h1, if_neg h2] at hp; exact hp
    · rw [if_neg h1, if_pos h2] at hp; exact hp
    · rw [if_pos h1, if_neg h2] at hp; exact hp
    · rw [if_pos h1, if_pos h2] at hp; exact hp
  have hc : E G MX5_leftAtWorst (d + 2) 0 0 37 [.null, .null, .int hers, .int his, .int alone, .int A, .int Bb, .int Cc, .null, .null, .null] [.int (if Bb = A then his else 0), .int hers] (a, r, N) (RI P) := by
    have hb := hb 0 0
    refine V_X5_leftAtWorst_37 ⟨fun h1 => ⟨fun h2 => ⟨fun h3 => ?_, fun h3 => ?_⟩, fun h2 => ⟨fun h3 => ?_, fun h3 => ?_⟩⟩, fun h1 => ⟨fun h2 => ⟨fun h3 => ?_, fun h3 => ?_⟩, fun h2 => ⟨fun h3 => ?_, fun h3 => ?_⟩⟩⟩
    all_goals
      first | rw [if_neg h1] at hb | rw [if_pos h1] at hb
      first | rw [if_neg h2] at hb | rw [if_pos h2] at hb
      first | rw [if_neg h3] at hb | rw [if_pos h3] at hb
      exact hb
  exact ⟨fun h => by rw [if_neg h] at hc; exact hc, fun h => by rw [if_pos h] at hc; exact hc⟩
end ML
