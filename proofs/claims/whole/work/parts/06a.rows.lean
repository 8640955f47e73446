/-! numbers, rows, and the contracts of Rows -/
theorem bz_0 : bz 0 := rfl
theorem bz_1 : bz 1 := rfl
theorem bz_ite {c : Prop} [h : Decidable c] : bz (if c then 1 else 0) := by split <;> rfl
theorem i_nlt {x y : Int32} : ¬ x < y ↔ y ≤ x := by
  rw [Int32.lt_iff_toInt_lt, Int32.le_iff_toInt_le]
  omega
theorem i_nle {x y : Int32} : ¬ x ≤ y ↔ y < x := by
  rw [Int32.lt_iff_toInt_lt, Int32.le_iff_toInt_le]
  omega
theorem up_same {α : Type} (f : Nat → α) (k : Nat) : va_up f k (f k) = f := by
  funext j
  unfold va_up
  split
  · next h => rw [h]
  · rfl
theorem upd_same (f : Nat → Int32) (k : Nat) : upd f k (f k) = f := by
  funext j
  unfold upd
  split
  · next h => rw [h]
  · rfl
theorem up_comm {α : Type} (f : Nat → α) {k j : Nat} (v w : α) (h : k ≠ j) : va_up (va_up f k v) j w = va_up (va_up f j w) k v := by
  funext i
  unfold va_up
  by_cases h1 : i = j
  · subst h1
    rw [if_pos rfl, if_neg (fun e => h e.symm), if_pos rfl]
  · rw [if_neg h1]
    by_cases h2 : i = k
    · rw [if_pos h2, if_pos h2]
    · rw [if_neg h2, if_neg h2, if_neg h1]
/-- a row's place, looked at first -/
def rAt (f : Nat → Int32) (n : Nat) (p : Int32) : Int32 := if 0 ≤ p ∧ p < nI n then f p.toNatClampNeg else 0
def rPut (f : Nat → Int32) (n : Nat) (p x : Int32) : Nat → Int32 := if 0 ≤ p ∧ p < nI n then upd f p.toNatClampNeg x else f
theorem in_nI {p : Int32} {n : Nat} (hn : n < 2 ^ 31) (h0 : ¬ p < 0) (h1 : ¬ nI n ≤ p) : vp_in p n := by
  obtain ⟨j, hj, rfl⟩ := nI_of h0
  have : ¬ n ≤ j := fun z => h1 ((nI_leI hn hj).mpr z)
  exact vp_in_nI (by omega) hn
theorem rAt_nI (f : Nat → Int32) {n k : Nat} (hn : n < 2 ^ 31) (hk : k < n) : rAt f n (nI k) = f k := by
  unfold rAt
  rw [if_pos ⟨nI_pos' (by omega), nI_lt hk hn⟩, nI_clamp (by omega)]
theorem rPut_nI (f : Nat → Int32) {n k : Nat} (hn : n < 2 ^ 31) (hk : k < n) (x : Int32) : rPut f n (nI k) x = upd f k x := by
  unfold rPut
  rw [if_pos ⟨nI_pos' (by omega), nI_lt hk hn⟩, nI_clamp (by omega)]
/-- a sum, a maximum over a row -/
def sI (f : Nat → Int32) : Nat → Int32
  | 0 => 0
  | n + 1 => sI f n + f n
def mI (f : Nat → Int32) : Nat → Int32
  | 0 => 0
  | n + 1 => if mI f n < f n then f n else mI f n
theorem sI_congr {f g : Nat → Int32} : ∀ {n : Nat}, (∀ k, k < n → f k = g k) → sI f n = sI g n
  | 0, _ => rfl
  | n + 1, h => by unfold sI; rw [sI_congr (fun k hk => h k (by omega)), h n (by omega)]
theorem mI_congr {f g : Nat → Int32} : ∀ {n : Nat}, (∀ k, k < n → f k = g k) → mI f n = mI g n
  | 0, _ => rfl
  | n + 1, h => by unfold mI; rw [mI_congr (fun k hk => h k (by omega)), h n (by omega)]
abbrev IA : Type := Nat → Nat → Int32
abbrev RA : Type := Nat → Nat → Value
section RW
variable {G : GE} {d C S : Nat} {q q1 q2 n n1 n2 N : Nat} {a : IA} {r : RA} {p x : Int32}
theorem c_at {P : KI} (hq : tyK q = (1, n)) (hn : n < 2 ^ 31) (hN : q < N) (hp : P (rAt (a q) n p) a r N) : Sp G d 0 0 MX9_at [.ref q, .int p] (a, r, N) (RI P) := by
  unfold rAt at hp
  refine V_X9_at_0 ⟨fun h0 => ?_, fun h0 => ⟨Or.inl (by rw [hq]), hN, fun h1 => ?_, fun h1 => ?_⟩⟩
  · rw [if_neg (fun z => i_nlt.mpr z.1 h0)] at hp; exact hp
  · rw [hq] at h1
    rw [if_neg (fun z => i_nle.mpr z.2 h1)] at hp; exact hp
  · rw [hq] at h1 ⊢
    rw [if_pos ⟨i_nlt.mp h0, i_nle.mp h1⟩] at hp
    exact ⟨rfl, hN, in_nI hn h0 h1, hp⟩
theorem c_put {P : KN} (hq : tyK q = (1, n)) (hn : n < 2 ^ 31) (hN : q < N) (hp : P (va_up a q (rPut (a q) n p x)) r N) : Sp G d 0 0 MX9_put [.ref q, .int p, .int x] (a, r, N) (RN P) := by
  unfold rPut at hp
  refine V_X9_put_0 ⟨fun h0 => ?_, fun h0 => ⟨Or.inl (by rw [hq]), hN, fun h1 => ?_, fun h1 => ?_⟩⟩
  · rw [if_neg (fun z => i_nlt.mpr z.1 h0), up_same] at hp; exact hp
  · rw [hq] at h1
    rw [if_neg (fun z => i_nle.mpr z.2 h1), up_same] at hp; exact hp
  · rw [hq] at h1 ⊢
    rw [if_pos ⟨i_nlt.mp h0, i_nle.mp h1⟩] at hp
    exact ⟨rfl, hN, in_nI hn h0 h1, fun a1 e => by subst e; exact hp⟩
theorem l_fill {P : KN} (hq : tyK q = (1, n)) (hn : n < 2 ^ 31) (hN : q < N) : ∀ (m k : Nat) (a : IA), k + m = n → P (va_up a q (fun j => if k ≤ j ∧ j < n then x else a q j)) r N → E G MX9_fill d C S 2 [.ref q, .int x, .int (nI k)] [] (a, r, N) (RN P) := by
  intro m
  induction m with
  | zero =>
    intro k a hk hp
    refine V_X9_fill_2 ⟨Or.inl (by rw [hq]), hN, fun _ => ?_, fun h => absurd (by rw [hq]; exact nI_le (by omega) (by omega)) h⟩
    have e : (fun j => if k ≤ j ∧ j < n then x else a q j) = a q := by
      funext j
      rw [if_neg (by omega)]
    rw [e, up_same] at hp
    exact hp
  | succ m ih =>
    intro k a hk hp
    refine V_X9_fill_2 ⟨Or.inl (by rw [hq]), hN, fun h => absurd h (by rw [hq]; exact nI_ge (by omega) hn), fun h => ?_⟩
    rw [hq]
    refine ⟨rfl, hN, vp_in_nI (by omega) hn, fun a1 e => ?_⟩
    rw [nI_1]
    refine ih (k + 1) a1 (by omega) ?_
    subst e
    have e : va_up (u2 a q (nI k).toNatClampNeg x) q (fun j => if k + 1 ≤ j ∧ j < n then x else u2 a q (nI k).toNatClampNeg x q j) = va_up a q (fun j => if k ≤ j ∧ j < n then x else a q j) := by
      unfold u2
      rw [bx_uu, va_up_self, nI_clamp (by omega)]
      congr 1
      funext j
      unfold upd
      by_cases h1 : j = k
      · subst h1
        rw [if_neg (by omega), if_pos rfl, if_pos (by omega)]
      · rw [if_neg h1]
        by_cases h2 : k ≤ j ∧ j < n
        · rw [if_pos h2, if_pos (by omega)]
        · rw [if_neg h2, if_neg (by omega)]
    rw [e]
    exact hp
theorem c_fill {P : KN} (hq : tyK q = (1, n)) (hn : n < 2 ^ 31) (hN : q < N) (hp : P (va_up a q (fun j => if j < n then x else a q j)) r N) : Sp G d 0 0 MX9_fill [.ref q, .int x] (a, r, N) (RN P) := by
  refine V_X9_fill_0 (l_fill (n := n) hq hn hN n 0 a (by omega) ?_)
  simpa using hp
theorem l_copy {P : KN} {i1 i2 m : Nat} (h1 : tyK q1 = (1, n1)) (h2 : tyK q2 = (1, n2)) (hn1 : n1 < 2 ^ 31) (hn2 : n2 < 2 ^ 31) (hN1 : q1 < N) (hN2 : q2 < N) (hne : q1 ≠ q2) (hi1 : i1 + m ≤ n1) (hi2 : i2 + m ≤ n2) :
    ∀ (t k : Nat) (a : IA), k + t = m → P (va_up a q2 (fun j => if i2 + k ≤ j ∧ j < i2 + m then a q1 (i1 + (j - i2)) else a q2 j)) r N →
      E G MX9_copy (d + 1) C S 3 [.ref q1, .int (nI i1), .ref q2, .int (nI i2), .int (nI m), .int (nI k)] [] (a, r, N) (RN P) := by
  intro t
  induction t with
  | zero =>
    intro k a hk hp
    refine V_X9_copy_3 ⟨fun _ => ?_, fun h => absurd (nI_le (by omega) (by omega)) h⟩
    have e : (fun j => if i2 + k ≤ j ∧ j < i2 + m then a q1 (i1 + (j - i2)) else a q2 j) = a q2 := by
      funext j
      rw [if_neg (by omega)]
    rw [e, up_same] at hp
    exact hp
  | succ t ih =>
    intro k a hk hp
    refine V_X9_copy_3 ⟨fun h => absurd h (nI_ge (by omega) (by omega)), fun h => ?_⟩
    rw [nI_add, nI_add, nI_1]
    refine c_at h1 hn1 hN1 (c_put h2 hn2 hN2 (ih (k + 1) _ (by omega) ?_))
    rw [rAt_nI _ hn1 (by omega), rPut_nI _ hn2 (by omega), bx_uu, va_up_self, va_up_ne _ _ hne]
    have e : (fun j => if i2 + (k + 1) ≤ j ∧ j < i2 + m then a q1 (i1 + (j - i2)) else upd (a q2) (i2 + k) (a q1 (i1 + k)) j) = (fun j => if i2 + k ≤ j ∧ j < i2 + m then a q1 (i1 + (j - i2)) else a q2 j) := by
      funext j
      unfold upd
      by_cases h3 : j = i2 + k
      · subst h3
        rw [if_neg (by omega), if_pos rfl, if_pos (by omega)]
        congr 1
        omega
      · rw [if_neg h3]
        by_cases h4 : i2 + k ≤ j ∧ j < i2 + m
        · rw [if_pos h4, if_pos (by omega)]
        · rw [if_neg h4, if_neg (by omega)]
    rw [e]
    exact hp
theorem c_copy {P : KN} {i1 i2 m : Nat} (h1 : tyK q1 = (1, n1)) (h2 : tyK q2 = (1, n2)) (hn1 : n1 < 2 ^ 31) (hn2 : n2 < 2 ^ 31) (hN1 : q1 < N) (hN2 : q2 < N) (hne : q1 ≠ q2) (hi1 : i1 + m ≤ n1) (hi2 : i2 + m ≤ n2)
    (hp : P (va_up a q2 (fun j => if i2 ≤ j ∧ j < i2 + m then a q1 (i1 + (j - i2)) else a q2 j)) r N) : Sp G (d + 1) 0 0 MX9_copy [.ref q1, .int (nI i1), .ref q2, .int (nI i2), .int (nI m)] (a, r, N) (RN P) :=
  V_X9_copy_0 (l_copy (i1 := i1) (i2 := i2) (m := m) h1 h2 hn1 hn2 hN1 hN2 hne hi1 hi2 m 0 a (by omega) hp)
end RW
