/-! The class's constructors -/
def mkR : List (Nat × Nat × Nat) → RA
  | [] => fun _ _ => .null
  | e :: l => u2V (mkR l) e.1 e.2.1 (.ref e.2.2)
theorem mkR_at : ∀ (l : List (Nat × Nat × Nat)) (q j : Nat), mkR l q j = match l.find? (fun e => e.1 == q && e.2.1 == j) with
    | some e => .ref e.2.2
    | none => .null
  | [], _, _ => rfl
  | e :: l, q, j => by
    rw [mkR, u2V_at, List.find?_cons]
    by_cases h : q = e.1 ∧ j = e.2.1
    · rw [if_pos h, show (e.1 == q && e.2.1 == j) = true by rw [h.1, h.2]; simp]
    · rw [if_neg h, show (e.1 == q && e.2.1 == j) = false by
        rw [Bool.and_eq_false_iff]
        by_cases h1 : q = e.1
        · exact Or.inr (by simp only [beq_eq_false_iff_ne]; exact fun z => h ⟨h1, z.symm⟩)
        · exact Or.inl (by simp only [beq_eq_false_iff_ne]; exact fun z => h1 z.symm)]
      exact mkR_at l q j
theorem mkR_get {l : List (Nat × Nat × Nat)} {q j x : Nat} (h : (l.find? (fun e => e.1 == q && e.2.1 == j)).map (fun e => e.2.2) = some x) : mkR l q j = .ref x := by
  rw [mkR_at]
  cases hf : l.find? (fun e => e.1 == q && e.2.1 == j) with
  | none => rw [hf] at h; cases h
  | some e => rw [hf] at h; cases h; rfl
theorem mkR_null : ∀ (l : List (Nat × Nat × Nat)) {N q : Nat}, l.all (fun e => Nat.blt e.1 N) = true → N ≤ q → ∀ j, mkR l q j = .null
  | [], _, _, _, _, _ => rfl
  | e :: l, N, q, h, hq, j => by
    rw [List.all_cons, Bool.and_eq_true] at h
    have h1 : e.1 < N := Nat.le_of_ble_eq_true h.1
    rw [mkR, u2V_at, if_neg (fun z => by omega)]
    exact mkR_null l h.2 hq j
/-- what isn't made yet is 0 -/
def Bz (a : IA) (N : Nat) : Prop := ∀ q, N ≤ q → ∀ j, a q j = 0
section INI
variable {G : GE} {d N N' T q : Nat} {a : IA} {r : RA} {g : Nat → Int32}
theorem Bz.mono (h : Bz a N) (hN : N ≤ N') : Bz a N' := fun q hq j => h q (Nat.le_trans hN hq) j
theorem Bz.u2 {j : Nat} {x : Int32} (h : Bz a N) (hq : q < N) : Bz (u2 a q j x) N := fun p hp i => by rw [u2_off p (by omega)]; exact h p hp i
theorem Bz.up (h : Bz a N) (hq : q < N) : Bz (va_up a q g) N := fun p hp i => by rw [va_up_ne _ _ (by omega)]; exact h p hp i
theorem Bz.clear (h : Bz a N) (hT : T + 11 < N) : Bz (ctClear a T) N := fun p hp i => by rw [ctClear_off p (by omega)]; exact h p hp i
theorem c_clearN {P : KN} (hT : isCity T) (hN : T + 11 < N) (e11 : r T 11 = .ref (T + 8)) (e12 : r T 12 = .ref (T + 9)) (hp : P (ctClear a T) r N) : Sp G (d + 1) 0 0 MX0_clear [.ref T] (a, r, N) (RN P) := by
  have t0 := ct0 hT
  have l0 : T < N := by omega
  refine V_X0_clear_0 ⟨t0, l0, fun a1 g1 => ⟨t0, l0, fun a2 g2 => ⟨t0, l0, fun a3 g3 => ⟨t0, l0, fun a4 g4 => ?_⟩⟩⟩⟩
  subst g1 g2 g3 g4
  refine ⟨t0, l0, _, e11, c_fill (ctt11 hT) (by decide) (by omega) ⟨t0, l0, _, e12, c_fill (ctt12 hT) (by decide) (by omega) ⟨t0, l0, V_X0_setLane_0 ⟨t0, l0, fun a1 g1 => ⟨t0, l0, fun a2 g2 => ⟨t0, l0, fun a3 g3 => ⟨t0, l0, fun a4 g4 => ?_⟩⟩⟩⟩⟩⟩⟩
  subst g1 g2 g3 g4
  exact hp
theorem l_beginK {P : KN} {f : Nat → Int32} (e0 : r 43 0 = .ref 44) (e9 : r 3 9 = .ref 9) : ∀ (m k : Nat), k + m = 8 → P (va_up a 44 (lfBegin a 3 f 8)) r 60 → E G MX4_begin (d + 2) 0 0 10 [.ref 43, .ref 3, .int (nI k)] [] (va_up a 44 (lfBegin a 3 f k), r, 60) (RN P) := by
  intro m
  induction m with
  | zero =>
    intro k hk hp
    obtain rfl : k = 8 := by omega
    exact V_X4_begin_10 ⟨fun _ => hp, fun h => absurd (by decide) h⟩
  | succ m ih =>
    intro k hk hp
    have ih := ih (k + 1) (by omega) hp
    rw [lfBegin, ← nI_1] at ih
    have cf : ∀ {b : IA} {s : Int32} {Q : KI}, Q (ctFirst b 3 s) b r 60 → Sp G (d + 1) 0 0 MX0_firstTreesOf [.ref 3, .int s] (b, r, 60) (RI Q) := fun {b s Q} hq => by
      unfold ctFirst at hq
      refine V_X0_firstTreesOf_0 ⟨rfl, by decide, fun h => ?_, fun h => ⟨rfl, by decide, 9, e9, c_at (n := 8) rfl (by decide) (by decide) ?_⟩⟩
      · rw [if_pos h] at hq; exact hq
      · rw [if_neg h] at hq; exact hq
    refine V_X4_begin_10 ⟨fun h => absurd h (nI_ge (b := 8) (by omega) (by omega)), fun h => ⟨rfl, by decide, 44, e0, c_put (n := 42) rfl (by decide) (by decide) ⟨rfl, by decide, 44, e0, rfl, by decide, cf (c_put (n := 42) rfl (by decide) (by decide) ?_)⟩⟩⟩
    rw [ctFirst_up (T := 3) (q := 44) (by decide) (by decide), ctFirst_up (T := 3) (q := 44) (by decide) (by decide)]
    simp only [bx_uu, va_up_self]
    exact ih
theorem c_beginK {P : KN} (e0 : r 43 0 = .ref 44) (e9 : r 3 9 = .ref 9) (hp : P (va_up a 44 (lfBegin a 3 (fun j => if j < 42 then 0 else a 44 j) 8)) r 60) : Sp G (d + 2) 0 0 MX4_begin [.ref 43, .ref 3] (a, r, 60) (RN P) :=
  V_X4_begin_0 ⟨rfl, by decide, 44, e0, c_fill (n := 42) rfl (by decide) (by decide) (l_beginK (f := fun j => if j < 42 then 0 else a 44 j) e0 e9 8 0 (by omega) hp)⟩
abbrev lc_0 : List (Nat × Nat × Nat) := []
abbrev lc_1 : List (Nat × Nat × Nat) := (0, 0, 1) :: lc_0
abbrev lc_2 : List (Nat × Nat × Nat) := (2, 0, 1) :: lc_1
abbrev lc_3 : List (Nat × Nat × Nat) := (0, 2, 2) :: lc_2
abbrev lc_4 : List (Nat × Nat × Nat) := (3, 4, 4) :: lc_3
abbrev lc_5 : List (Nat × Nat × Nat) := (3, 5, 5) :: lc_4
abbrev lc_6 : List (Nat × Nat × Nat) := (3, 6, 6) :: lc_5
abbrev lc_7 : List (Nat × Nat × Nat) := (3, 7, 7) :: lc_6
abbrev lc_8 : List (Nat × Nat × Nat) := (3, 8, 8) :: lc_7
abbrev lc_9 : List (Nat × Nat × Nat) := (3, 9, 9) :: lc_8
abbrev lc_10 : List (Nat × Nat × Nat) := (3, 10, 10) :: lc_9
abbrev lc_11 : List (Nat × Nat × Nat) := (3, 11, 11) :: lc_10
abbrev lc_12 : List (Nat × Nat × Nat) := (3, 12, 12) :: lc_11
abbrev lc_13 : List (Nat × Nat × Nat) := (3, 13, 13) :: lc_12
abbrev lc_14 : List (Nat × Nat × Nat) := (3, 14, 14) :: lc_13
abbrev lc_15 : List (Nat × Nat × Nat) := (0, 3, 3) :: lc_14
abbrev lc_16 : List (Nat × Nat × Nat) := (15, 4, 16) :: lc_15
abbrev lc_17 : List (Nat × Nat × Nat) := (15, 5, 17) :: lc_16
abbrev lc_18 : List (Nat × Nat × Nat) := (15, 6, 18) :: lc_17
abbrev lc_19 : List (Nat × Nat × Nat) := (15, 7, 19) :: lc_18
abbrev lc_20 : List (Nat × Nat × Nat) := (15, 8, 20) :: lc_19
abbrev lc_21 : List (Nat × Nat × Nat) := (15, 9, 21) :: lc_20
abbrev lc_22 : List (Nat × Nat × Nat) := (15, 10, 22) :: lc_21
abbrev lc_23 : List (Nat × Nat × Nat) := (15, 11, 23) :: lc_22
abbrev lc_24 : List (Nat × Nat × Nat) := (15, 12, 24) :: lc_23
abbrev lc_25 : List (Nat × Nat × Nat) := (15, 13, 25) :: lc_24
abbrev lc_26 : List (Nat × Nat × Nat) := (15, 14, 26) :: lc_25
abbrev lc_27 : List (Nat × Nat × Nat) := (0, 4, 15) :: lc_26
abbrev lc_28 : List (Nat × Nat × Nat) := (27, 0, 28) :: lc_27
abbrev lc_29 : List (Nat × Nat × Nat) := (27, 1, 29) :: lc_28
abbrev lc_30 : List (Nat × Nat × Nat) := (0, 5, 27) :: lc_29
abbrev lc_31 : List (Nat × Nat × Nat) := (30, 0, 31) :: lc_30
abbrev lc_32 : List (Nat × Nat × Nat) := (30, 1, 32) :: lc_31
abbrev lc_33 : List (Nat × Nat × Nat) := (0, 6, 30) :: lc_32
abbrev lc_34 : List (Nat × Nat × Nat) := (33, 0, 34) :: lc_33
abbrev lc_35 : List (Nat × Nat × Nat) := (33, 1, 35) :: lc_34
abbrev lc_36 : List (Nat × Nat × Nat) := (0, 7, 33) :: lc_35
abbrev lc_37 : List (Nat × Nat × Nat) := (36, 0, 37) :: lc_36
abbrev lc_38 : List (Nat × Nat × Nat) := (36, 1, 38) :: lc_37
abbrev lc_39 : List (Nat × Nat × Nat) := (0, 8, 36) :: lc_38
abbrev lc_40 : List (Nat × Nat × Nat) := (39, 0, 40) :: lc_39
abbrev lc_41 : List (Nat × Nat × Nat) := (39, 1, 41) :: lc_40
abbrev lc_42 : List (Nat × Nat × Nat) := (39, 2, 42) :: lc_41
abbrev lc_43 : List (Nat × Nat × Nat) := (0, 9, 39) :: lc_42
abbrev lc_44 : List (Nat × Nat × Nat) := (43, 0, 44) :: lc_43
abbrev lc_45 : List (Nat × Nat × Nat) := (0, 10, 43) :: lc_44
abbrev lc_46 : List (Nat × Nat × Nat) := (45, 0, 46) :: lc_45
abbrev lc_47 : List (Nat × Nat × Nat) := (0, 11, 45) :: lc_46
abbrev lc_48 : List (Nat × Nat × Nat) := (47, 0, 48) :: lc_47
abbrev lc_49 : List (Nat × Nat × Nat) := (47, 1, 49) :: lc_48
abbrev lc_50 : List (Nat × Nat × Nat) := (0, 12, 47) :: lc_49
abbrev lc_51 : List (Nat × Nat × Nat) := (50, 0, 51) :: lc_50
abbrev lc_52 : List (Nat × Nat × Nat) := (50, 1, 52) :: lc_51
abbrev lc_53 : List (Nat × Nat × Nat) := (50, 2, 53) :: lc_52
abbrev lc_54 : List (Nat × Nat × Nat) := (50, 3, 54) :: lc_53
abbrev lc_55 : List (Nat × Nat × Nat) := (0, 13, 50) :: lc_54
abbrev lc_56 : List (Nat × Nat × Nat) := (55, 0, 56) :: lc_55
abbrev lc_57 : List (Nat × Nat × Nat) := (0, 14, 55) :: lc_56
abbrev lc_58 : List (Nat × Nat × Nat) := (57, 0, 58) :: lc_57
abbrev lc_59 : List (Nat × Nat × Nat) := (57, 1, 59) :: lc_58
abbrev lc_60 : List (Nat × Nat × Nat) := (0, 15, 57) :: lc_59
theorem i_X10_2 {P : KN} (hp : P (u2 a 2 5 (-1)) (mkR lc_2) 3) : Sp G (d + 1) 0 0 MX10_init [.ref 2, .ref 1] (a, mkR lc_1, 3) (RN P) := by
  refine V_X10_init_0 ⟨rfl, by decide, fun r1 e1 => ⟨rfl, by decide, fun a2 e2 => ?_⟩⟩
  subst e1 e2
  exact hp
theorem i_X0_3 {P : KN} (hz : Bz a 4) (hp : P (ctClear a 3) (mkR lc_14) 15) : Sp G (d + 2) 11 148 MX0_init [.ref 3] (a, mkR lc_3, 4) (RN P) := by
  refine V_X0_init_0 ⟨by decide +kernel, by decide, by decide +kernel, by decide +kernel, hz _ (by decide), rfl, by decide, fun r1 e1 => ⟨by decide +kernel, by decide, by decide +kernel, by decide +kernel, hz _ (by decide), rfl, by decide, fun r2 e2 => ⟨by decide +kernel, by decide, by decide +kernel, by decide +kernel, hz _ (by decide), rfl, by decide, fun r3 e3 => ⟨by decide +kernel, by decide, by decide +kernel, by decide +kernel, hz _ (by decide), rfl, by decide, fun r4 e4 => ⟨by decide +kernel, by decide, by decide +kernel, by decide +kernel, hz _ (by decide), rfl, by decide, fun r5 e5 => ⟨by decide +kernel, by decide, by decide +kernel, by decide +kernel, hz _ (by decide), rfl, by decide, fun r6 e6 => ⟨by decide +kernel, by decide, by decide +kernel, by decide +kernel, hz _ (by decide), rfl, by decide, fun r7 e7 => ⟨by decide +kernel, by decide, by decide +kernel, by decide +kernel, hz _ (by decide), rfl, by decide, fun r8 e8 => ⟨by decide +kernel, by decide, by decide +kernel, by decide +kernel, hz _ (by decide), rfl, by decide, fun r9 e9 => ⟨by decide +kernel, by decide, by decide +kernel, by decide +kernel, hz _ (by decide), rfl, by decide, fun r10 e10 => ⟨by decide +kernel, by decide, by decide +kernel, by decide +kernel, hz _ (by decide), rfl, by decide, fun r11 e11 => ?_⟩⟩⟩⟩⟩⟩⟩⟩⟩⟩⟩
  subst e1 e2 e3 e4 e5 e6 e7 e8 e9 e10 e11
  exact ⟨rfl, by decide, c_clearN (r := mkR lc_14) (N := 15) (Or.inl rfl) (by decide) (mkR_get (by decide +kernel)) (mkR_get (by decide +kernel)) hp⟩
theorem i_X0_15 {P : KN} (hz : Bz a 16) (hp : P (ctClear a 15) (mkR lc_26) 27) : Sp G (d + 2) 11 148 MX0_init [.ref 15] (a, mkR lc_15, 16) (RN P) := by
  refine V_X0_init_0 ⟨by decide +kernel, by decide, by decide +kernel, by decide +kernel, hz _ (by decide), rfl, by decide, fun r1 e1 => ⟨by decide +kernel, by decide, by decide +kernel, by decide +kernel, hz _ (by decide), rfl, by decide, fun r2 e2 => ⟨by decide +kernel, by decide, by decide +kernel, by decide +kernel, hz _ (by decide), rfl, by decide, fun r3 e3 => ⟨by decide +kernel, by decide, by decide +kernel, by decide +kernel, hz _ (by decide), rfl, by decide, fun r4 e4 => ⟨by decide +kernel, by decide, by decide +kernel, by decide +kernel, hz _ (by decide), rfl, by decide, fun r5 e5 => ⟨by decide +kernel, by decide, by decide +kernel, by decide +kernel, hz _ (by decide), rfl, by decide, fun r6 e6 => ⟨by decide +kernel, by decide, by decide +kernel, by decide +kernel, hz _ (by decide), rfl, by decide, fun r7 e7 => ⟨by decide +kernel, by decide, by decide +kernel, by decide +kernel, hz _ (by decide), rfl, by decide, fun r8 e8 => ⟨by decide +kernel, by decide, by decide +kernel, by decide +kernel, hz _ (by decide), rfl, by decide, fun r9 e9 => ⟨by decide +kernel, by decide, by decide +kernel, by decide +kernel, hz _ (by decide), rfl, by decide, fun r10 e10 => ⟨by decide +kernel, by decide, by decide +kernel, by decide +kernel, hz _ (by decide), rfl, by decide, fun r11 e11 => ?_⟩⟩⟩⟩⟩⟩⟩⟩⟩⟩⟩
  subst e1 e2 e3 e4 e5 e6 e7 e8 e9 e10 e11
  exact ⟨rfl, by decide, c_clearN (r := mkR lc_26) (N := 27) (Or.inr rfl) (by decide) (mkR_get (by decide +kernel)) (mkR_get (by decide +kernel)) hp⟩
theorem i_X2_27 {P : KN} (hz : Bz a 28) (hp : P a (mkR lc_29) 30) : Sp G (d + 1) 2 300 MX2_init [.ref 27] (a, mkR lc_27, 28) (RN P) := by
  refine V_X2_init_0 ⟨by decide +kernel, by decide, by decide +kernel, by decide +kernel, hz _ (by decide), rfl, by decide, fun r1 e1 => ⟨by decide +kernel, by decide, by decide +kernel, by decide +kernel, hz _ (by decide), rfl, by decide, fun r2 e2 => ?_⟩⟩
  subst e1 e2
  exact hp
theorem i_X2_30 {P : KN} (hz : Bz a 31) (hp : P a (mkR lc_32) 33) : Sp G (d + 1) 2 300 MX2_init [.ref 30] (a, mkR lc_30, 31) (RN P) := by
  refine V_X2_init_0 ⟨by decide +kernel, by decide, by decide +kernel, by decide +kernel, hz _ (by decide), rfl, by decide, fun r1 e1 => ⟨by decide +kernel, by decide, by decide +kernel, by decide +kernel, hz _ (by decide), rfl, by decide, fun r2 e2 => ?_⟩⟩
  subst e1 e2
  exact hp
theorem i_X5_33 {P : KN} (hz : Bz a 34) (hp : P a (mkR lc_35) 36) : Sp G (d + 1) 2 16 MX5_init [.ref 33] (a, mkR lc_33, 34) (RN P) := by
  refine V_X5_init_0 ⟨by decide +kernel, by decide, by decide +kernel, by decide +kernel, hz _ (by decide), rfl, by decide, fun r1 e1 => ⟨by decide +kernel, by decide, by decide +kernel, by decide +kernel, hz _ (by decide), rfl, by decide, fun r2 e2 => ?_⟩⟩
  subst e1 e2
  exact hp
theorem i_X5_36 {P : KN} (hz : Bz a 37) (hp : P a (mkR lc_38) 39) : Sp G (d + 1) 2 16 MX5_init [.ref 36] (a, mkR lc_36, 37) (RN P) := by
  refine V_X5_init_0 ⟨by decide +kernel, by decide, by decide +kernel, by decide +kernel, hz _ (by decide), rfl, by decide, fun r1 e1 => ⟨by decide +kernel, by decide, by decide +kernel, by decide +kernel, hz _ (by decide), rfl, by decide, fun r2 e2 => ?_⟩⟩
  subst e1 e2
  exact hp
theorem i_X7_39 {P : KN} (hz : Bz a 40) (hp : P a (mkR lc_42) 43) : Sp G (d + 1) 3 150 MX7_init [.ref 39] (a, mkR lc_39, 40) (RN P) := by
  refine V_X7_init_0 ⟨by decide +kernel, by decide, by decide +kernel, by decide +kernel, hz _ (by decide), rfl, by decide, fun r1 e1 => ⟨by decide +kernel, by decide, by decide +kernel, by decide +kernel, hz _ (by decide), rfl, by decide, fun r2 e2 => ⟨by decide +kernel, by decide, by decide +kernel, by decide +kernel, hz _ (by decide), rfl, by decide, fun r3 e3 => ?_⟩⟩⟩
  subst e1 e2 e3
  exact hp
theorem i_X4_43 {P : KN} (hz : Bz a 44) (hp : P a (mkR lc_44) 45) : Sp G (d + 1) 1 42 MX4_init [.ref 43] (a, mkR lc_43, 44) (RN P) := by
  refine V_X4_init_0 ⟨by decide +kernel, by decide, by decide +kernel, by decide +kernel, hz _ (by decide), rfl, by decide, fun r1 e1 => ?_⟩
  subst e1
  exact hp
theorem i_X4_45 {P : KN} (hz : Bz a 46) (hp : P a (mkR lc_46) 47) : Sp G (d + 1) 1 42 MX4_init [.ref 45] (a, mkR lc_45, 46) (RN P) := by
  refine V_X4_init_0 ⟨by decide +kernel, by decide, by decide +kernel, by decide +kernel, hz _ (by decide), rfl, by decide, fun r1 e1 => ?_⟩
  subst e1
  exact hp
theorem i_X3_47 {P : KN} (hz : Bz a 48) (hp : P a (mkR lc_49) 50) : Sp G (d + 1) 2 2817 MX3_init [.ref 47] (a, mkR lc_47, 48) (RN P) := by
  refine V_X3_init_0 ⟨by decide +kernel, by decide, by decide +kernel, by decide +kernel, hz _ (by decide), rfl, by decide, fun r1 e1 => ⟨by decide +kernel, by decide, by decide +kernel, by decide +kernel, hz _ (by decide), rfl, by decide, fun r2 e2 => ?_⟩⟩
  subst e1 e2
  exact hp
theorem i_X6_50 {P : KN} (hz : Bz a 51) (hp : P a (mkR lc_54) 55) : Sp G (d + 1) 4 32 MX6_init [.ref 50] (a, mkR lc_50, 51) (RN P) := by
  refine V_X6_init_0 ⟨by decide +kernel, by decide, by decide +kernel, by decide +kernel, hz _ (by decide), rfl, by decide, fun r1 e1 => ⟨by decide +kernel, by decide, by decide +kernel, by decide +kernel, hz _ (by decide), rfl, by decide, fun r2 e2 => ⟨by decide +kernel, by decide, by decide +kernel, by decide +kernel, hz _ (by decide), rfl, by decide, fun r3 e3 => ⟨by decide +kernel, by decide, by decide +kernel, by decide +kernel, hz _ (by decide), rfl, by decide, fun r4 e4 => ?_⟩⟩⟩⟩
  subst e1 e2 e3 e4
  exact hp
theorem i_X8_55 {P : KN} (hz : Bz a 56) (hp : P a (mkR lc_56) 57) : Sp G (d + 1) 1 10 MX8_init [.ref 55] (a, mkR lc_55, 56) (RN P) := by
  refine V_X8_init_0 ⟨by decide +kernel, by decide, by decide +kernel, by decide +kernel, hz _ (by decide), rfl, by decide, fun r1 e1 => ?_⟩
  subst e1
  exact hp
theorem i_X1_57 {P : KN} (hz : Bz a 58) (hp : P a (mkR lc_59) 60) : Sp G (d + 1) 2 42 MX1_init [.ref 57] (a, mkR lc_57, 58) (RN P) := by
  refine V_X1_init_0 ⟨by decide +kernel, by decide, by decide +kernel, by decide +kernel, hz _ (by decide), rfl, by decide, fun r1 e1 => ⟨by decide +kernel, by decide, by decide +kernel, by decide +kernel, hz _ (by decide), rfl, by decide, fun r2 e2 => ?_⟩⟩
  subst e1 e2
  exact hp
abbrev a0H : IA := fun _ _ => 0
/-- the ints behind the class's constructor -/
def aCls : IA := va_up (ctClear (ctClear (u2 a0H 2 5 (-1)) 3) 15) 44 (lfBegin (ctClear (ctClear (u2 a0H 2 5 (-1)) 3) 15) 3 (fun j => if j < 42 then 0 else (ctClear (ctClear (u2 a0H 2 5 (-1)) 3) 15) 44 j) 8)
theorem i_X11 {P : KN} (hp : P aCls (mkR lc_60) 60) : Sp G (d + 4) 59 4745 MX11_init [.ref 0] (a0H, mkR [], 1) (RN P) := by
  refine V_X11_init_0 ⟨by decide +kernel, by decide, by decide +kernel, by decide +kernel, fun _ => rfl, rfl, by decide, fun r1 e1 => ?_⟩
  subst e1
  refine ⟨by decide, by decide +kernel, fun _ => rfl, fun j => mkR_null lc_1 (N := 2) rfl (Nat.le_refl _) j, rfl, by decide, 1, mkR_get (l := lc_1) (by decide +kernel), Sp.up (by omega) (i_X10_2 (d := 0) ?_)⟩
  have hz_2 : Bz (u2 a0H 2 5 (-1)) 3 := Bz.u2 (fun _ _ _ => rfl) (by decide)
  refine ⟨rfl, by decide, fun r1 e1 => ?_⟩
  subst e1
  refine ⟨by decide, by decide +kernel, hz_2 _ (by decide), fun j => mkR_null lc_3 (N := 3) rfl (Nat.le_refl _) j, Sp.up (by omega) (i_X0_3 (d := 0) (hz_2.mono (by decide)) ?_)⟩
  have hz_3 : Bz (ctClear (u2 a0H 2 5 (-1)) 3) 15 := (hz_2.mono (by decide)).clear (by decide)
  refine ⟨rfl, by decide, fun r1 e1 => ?_⟩
  subst e1
  refine ⟨by decide, by decide +kernel, hz_3 _ (by decide), fun j => mkR_null lc_15 (N := 15) rfl (Nat.le_refl _) j, Sp.up (by omega) (i_X0_15 (d := 0) (hz_3.mono (by decide)) ?_)⟩
  have hz_4 : Bz (ctClear (ctClear (u2 a0H 2 5 (-1)) 3) 15) 27 := (hz_3.mono (by decide)).clear (by decide)
  refine ⟨rfl, by decide, fun r1 e1 => ?_⟩
  subst e1
  refine ⟨by decide, by decide +kernel, hz_4 _ (by decide), fun j => mkR_null lc_27 (N := 27) rfl (Nat.le_refl _) j, Sp.up (by omega) (i_X2_27 (d := 0) (hz_4.mono (by decide)) ?_)⟩
  refine ⟨rfl, by decide, fun r1 e1 => ?_⟩
  subst e1
  refine ⟨by decide, by decide +kernel, hz_4 _ (by decide), fun j => mkR_null lc_30 (N := 30) rfl (Nat.le_refl _) j, Sp.up (by omega) (i_X2_30 (d := 0) (hz_4.mono (by decide)) ?_)⟩
  refine ⟨rfl, by decide, fun r1 e1 => ?_⟩
  subst e1
  refine ⟨by decide, by decide +kernel, hz_4 _ (by decide), fun j => mkR_null lc_33 (N := 33) rfl (Nat.le_refl _) j, Sp.up (by omega) (i_X5_33 (d := 0) (hz_4.mono (by decide)) ?_)⟩
  refine ⟨rfl, by decide, fun r1 e1 => ?_⟩
  subst e1
  refine ⟨by decide, by decide +kernel, hz_4 _ (by decide), fun j => mkR_null lc_36 (N := 36) rfl (Nat.le_refl _) j, Sp.up (by omega) (i_X5_36 (d := 0) (hz_4.mono (by decide)) ?_)⟩
  refine ⟨rfl, by decide, fun r1 e1 => ?_⟩
  subst e1
  refine ⟨by decide, by decide +kernel, hz_4 _ (by decide), fun j => mkR_null lc_39 (N := 39) rfl (Nat.le_refl _) j, Sp.up (by omega) (i_X7_39 (d := 0) (hz_4.mono (by decide)) ?_)⟩
  refine ⟨rfl, by decide, fun r1 e1 => ?_⟩
  subst e1
  refine ⟨by decide, by decide +kernel, hz_4 _ (by decide), fun j => mkR_null lc_43 (N := 43) rfl (Nat.le_refl _) j, Sp.up (by omega) (i_X4_43 (d := 0) (hz_4.mono (by decide)) ?_)⟩
  refine ⟨rfl, by decide, fun r1 e1 => ?_⟩
  subst e1
  refine ⟨by decide, by decide +kernel, hz_4 _ (by decide), fun j => mkR_null lc_45 (N := 45) rfl (Nat.le_refl _) j, Sp.up (by omega) (i_X4_45 (d := 0) (hz_4.mono (by decide)) ?_)⟩
  refine ⟨rfl, by decide, fun r1 e1 => ?_⟩
  subst e1
  refine ⟨by decide, by decide +kernel, hz_4 _ (by decide), fun j => mkR_null lc_47 (N := 47) rfl (Nat.le_refl _) j, Sp.up (by omega) (i_X3_47 (d := 0) (hz_4.mono (by decide)) ?_)⟩
  refine ⟨rfl, by decide, fun r1 e1 => ?_⟩
  subst e1
  refine ⟨by decide, by decide +kernel, hz_4 _ (by decide), fun j => mkR_null lc_50 (N := 50) rfl (Nat.le_refl _) j, Sp.up (by omega) (i_X6_50 (d := 0) (hz_4.mono (by decide)) ?_)⟩
  refine ⟨rfl, by decide, fun r1 e1 => ?_⟩
  subst e1
  refine ⟨by decide, by decide +kernel, hz_4 _ (by decide), fun j => mkR_null lc_55 (N := 55) rfl (Nat.le_refl _) j, Sp.up (by omega) (i_X8_55 (d := 0) (hz_4.mono (by decide)) ?_)⟩
  refine ⟨rfl, by decide, fun r1 e1 => ?_⟩
  subst e1
  refine ⟨by decide, by decide +kernel, hz_4 _ (by decide), fun j => mkR_null lc_57 (N := 57) rfl (Nat.le_refl _) j, Sp.up (by omega) (i_X1_57 (d := 0) (hz_4.mono (by decide)) ?_)⟩
  refine ⟨rfl, by decide, fun r1 e1 => ?_⟩
  subst e1
  refine ⟨rfl, by decide, 43, mkR_get (l := lc_60) (by decide +kernel), rfl, by decide, 3, mkR_get (l := lc_60) (by decide +kernel), rfl, by decide, Sp.up (by omega) (c_beginK (d := 0) (r := mkR lc_60) (mkR_get (by decide +kernel)) (mkR_get (by decide +kernel)) ?_)⟩
  exact hp
end INI
