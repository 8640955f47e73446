/-! Life: one row of 42 -/
/-- refs that stay -/
def refC (q j : Nat) : Nat := match q, j with
  | 0, 0 => 1
  | 0, 2 => 2
  | 0, 9 => 39
  | 0, 10 => 43
  | 0, 11 => 45
  | 0, 12 => 47
  | 0, 13 => 50
  | 0, 14 => 55
  | 0, 15 => 57
  | 2, 0 => 1
  | 3, 4 => 4
  | 3, 5 => 5
  | 3, 6 => 6
  | 3, 7 => 7
  | 3, 8 => 8
  | 3, 9 => 9
  | 3, 10 => 10
  | 3, 11 => 11
  | 3, 12 => 12
  | 3, 13 => 13
  | 3, 14 => 14
  | 15, 4 => 16
  | 15, 5 => 17
  | 15, 6 => 18
  | 15, 7 => 19
  | 15, 8 => 20
  | 15, 9 => 21
  | 15, 10 => 22
  | 15, 11 => 23
  | 15, 12 => 24
  | 15, 13 => 25
  | 15, 14 => 26
  | 27, 0 => 28
  | 27, 1 => 29
  | 30, 0 => 31
  | 30, 1 => 32
  | 33, 0 => 34
  | 33, 1 => 35
  | 36, 0 => 37
  | 36, 1 => 38
  | 39, 0 => 40
  | 39, 1 => 41
  | 39, 2 => 42
  | 43, 0 => 44
  | 45, 0 => 46
  | 47, 0 => 48
  | 47, 1 => 49
  | 50, 0 => 51
  | 50, 1 => 52
  | 50, 2 => 53
  | 50, 3 => 54
  | 55, 0 => 56
  | 57, 0 => 58
  | 57, 1 => 59
  | 60, 9 => 61
  | 60, 10 => 62
  | 60, 11 => 63
  | 60, 12 => 64
  | 60, 13 => 65
  | 60, 14 => 76
  | 60, 15 => 87
  | 60, 16 => 96
  | 60, 17 => 105
  | 60, 18 => 114
  | 60, 19 => 123
  | 60, 20 => 132
  | 60, 21 => 141
  | 60, 22 => 150
  | 60, 25 => 159
  | 60, 26 => 320
  | 60, 27 => 481
  | 60, 28 => 490
  | 60, 29 => 499
  | 60, 30 => 500
  | 60, 31 => 501
  | 60, 33 => 582
  | 60, 34 => 583
  | 60, 35 => 584
  | 60, 36 => 601
  | 60, 37 => 605
  | 60, 45 => 616
  | 60, 46 => 617
  | 60, 47 => 618
  | 60, 50 => 619
  | 60, 51 => 876
  | _, _ => 0
def Rk (r : RA) : Prop := ∀ q j, refC q j ≠ 0 → r q j = .ref (refC q j)
theorem Rk.at {r : RA} (h : Rk r) {q j : Nat} (h0 : refC q j ≠ 0) : r q j = .ref (refC q j) := h q j h0
def isLife (q : Nat) : Prop := q = 43 ∨ q = 45
theorem life_k {r : RA} {q : Nat} (hr : Rk r) (hq : isLife q) : tyK q = (0, 4) ∧ tyK (q + 1) = (1, 42) ∧ q < nK ∧ q + 1 < nK ∧ r q 0 = .ref (q + 1) := by
  rcases hq with rfl | rfl
  · exact ⟨rfl, rfl, by decide, by decide, hr.at (by decide)⟩
  · exact ⟨rfl, rfl, by decide, by decide, hr.at (by decide)⟩
def lfMate (f : Nat → Int32) (s : Int32) : Int32 := rAt f 42 (0 + s)
def lfRole (f : Nat → Int32) (s : Int32) : Int32 := rAt f 42 (8 + s)
def lfYears (f : Nat → Int32) (s : Int32) : Int32 := rAt f 42 (16 + s)
def lfTrees (f : Nat → Int32) (s : Int32) : Int32 := rAt f 42 (24 + s)
def lfHoles (f : Nat → Int32) (s : Int32) : Int32 := rAt f 42 (32 + s)
def lfNumber (role house : Int32) : Int32 := if role = 1 then 2 * house - 1 else if role = 2 then 2 * house else house
def lfHouse (role houses number : Int32) : Int32 :=
  if role = 0 then if number ≤ houses ∧ lfNumber role number = number then number else 0
  else if (number + 1) / 2 ≤ houses ∧ lfNumber role ((number + 1) / 2) = number then (number + 1) / 2 else 0
def lfBind (f : Nat → Int32) (s m p : Int32) : Nat → Int32 := rPut (rPut (rPut f 42 (0 + s) m) 42 (8 + s) p) 42 (16 + s) 0
def lfSetH (f : Nat → Int32) (s h : Int32) : Nat → Int32 := rPut f 42 (32 + s) h
def lfWed (f : Nat → Int32) (s h : Int32) : Int32 × (Nat → Int32) := if lfMate f s = -1 ∧ lfMate f h = -1 then (1, lfBind (lfBind f s h 1) h s 2) else (0, f)
def lfPart3 (f : Nat → Int32) (she he t : Int32) : Nat → Int32 := lfBind (lfBind (rPut (rPut f 42 (24 + he) (t / 2)) 42 (24 + she) (t - t / 2)) she (-1) 0) he (-1) 0
def lfPart2 (f : Nat → Int32) (she he : Int32) : Nat → Int32 := rPut (lfPart3 f she he (lfTrees f she + lfTrees f he)) 42 41 (rAt (lfPart3 f she he (lfTrees f she + lfTrees f he)) 42 41 + 1)
def lfPart (f : Nat → Int32) (s : Int32) : Int32 × (Nat → Int32) := if lfMate f s = -1 then (0, f) else
  (1, if lfRole f s = 1 then lfPart2 f s (lfMate f s) else lfPart2 f (lfMate f s) s)
def lfPlant (f : Nat → Int32) (s n : Int32) : Int32 × (Nat → Int32) := if lfTrees f s < 99 then (1, rPut f 42 (24 + s) (if lfTrees f s + n < 99 then lfTrees f s + n else 99)) else (0, f)
def lfHole1 (f : Nat → Int32) (s : Int32) : Nat → Int32 := lfSetH f s (if lfHoles f s + 1 < 9 then lfHoles f s + 1 else 9)
def lfQuar (f : Nat → Int32) (s : Int32) : Int32 × (Nat → Int32) := if lfMate f s = -1 ∨ (¬ lfHoles f s < 9 ∧ ¬ lfHoles f (lfMate f s) < 9) then (0, f) else (1, lfHole1 (lfHole1 f s) (lfMate f s))
def lfRepave (f : Nat → Int32) (s : Int32) : Int32 × (Nat → Int32) := if lfHoles f s + (if lfMate f s = -1 then 0 else lfHoles f (lfMate f s)) = 0 then (0, f) else
  (1, if lfMate f s = -1 then lfSetH f s 0 else lfSetH (lfSetH f s 0) (lfMate f s) 0)
def lfYears2 (f : Nat → Int32) (she he : Int32) : Nat → Int32 := rPut (rPut f 42 (16 + she) (lfYears f she + 1)) 42 (16 + he) (lfYears f she + 1)
def lfJub (f : Nat → Int32) (y she he : Int32) : Nat → Int32 := if y + 1 - (y + 1) / 25 * 25 = 0 then lfSetH (lfSetH f she 0) he 0 else f
def lfSplit (f : Nat → Int32) (she he : Int32) : Nat → Int32 := if lfHoles f she + lfHoles f he < 10 then f else (lfPart f she).2
def lfAge (f : Nat → Int32) (she he : Int32) : Nat → Int32 := lfSplit (lfJub (lfYears2 f she he) (lfYears f she) she he) she he
def lfAges (f : Nat → Int32) : Nat → Nat → Int32
  | 0 => f
  | k + 1 => if lfRole (lfAges f k) (nI k) = 1 then lfAge (lfAges f k) (nI k) (lfMate (lfAges f k) (nI k)) else lfAges f k
def lfTurn (f : Nat → Int32) : Int32 × (Nat → Int32) := if rAt f 42 40 < 200 then (1, lfAges (rPut f 42 40 (rAt f 42 40 + 1)) 8) else (0, f)
section LI
variable {G : GE} {d C S : Nat} {q : Nat} {a : IA} {r : RA} {s s1 s2 s3 : Int32}
theorem c_numberOf {N : Nat} {P : KI} (hp : P (lfNumber s s1) a r N) : Sp G d 0 0 MX4_numberOf [.int s, .int s1] (a, r, N) (RI P) := by
  unfold lfNumber at hp
  refine V_X4_numberOf_0 ⟨fun h => ?_, fun h => ⟨fun h2 => ?_, fun h2 => ?_⟩⟩
  · rw [if_pos h] at hp; exact hp
  · rw [if_neg h, if_pos h2] at hp; exact hp
  · rw [if_neg h, if_neg h2] at hp; exact hp
theorem c_houseOf {N : Nat} {P : KI} (hp : P (lfHouse s s1 s2) a r N) : Sp G (d + 1) 0 0 MX4_houseOf [.int s, .int s1, .int s2] (a, r, N) (RI P) := by
  unfold lfHouse at hp
  refine V_X4_houseOf_0 ⟨fun h => ⟨by decide, fun h1 => ?_, fun h1 => c_numberOf ⟨fun h2 => ?_, fun h2 => ?_⟩⟩, fun h => ⟨fun h1 => ?_, fun h1 => c_numberOf ⟨fun h2 => ?_, fun h2 => ?_⟩⟩⟩
  · rw [if_neg h, if_neg (fun z => i_nle.mpr h1 z.1)] at hp; exact hp
  · rw [if_neg h, if_neg (fun z => h2 z.2)] at hp; exact hp
  · rw [if_neg h, if_pos ⟨i_nlt.mp h1, h2⟩] at hp; exact hp
  · rw [if_pos h, if_neg (fun z => i_nle.mpr h1 z.1)] at hp; exact hp
  · rw [if_pos h, if_neg (fun z => h2 z.2)] at hp; exact hp
  · rw [if_pos h, if_pos ⟨i_nlt.mp h1, h2⟩] at hp; exact hp
theorem c_mateOf {P : KI} (hr : Rk r) (hq : isLife q) (hp : P (lfMate (a (q + 1)) s) a r nK) : Sp G (d + 1) 0 0 MX4_mateOf [.ref q, .int s] (a, r, nK) (RI P) := by
  obtain ⟨t0, t1, l0, l1, e0⟩ := life_k hr hq
  exact V_X4_mateOf_0 ⟨t0, l0, _, e0, c_at t1 (by decide) l1 hp⟩
theorem c_roleOf {P : KI} (hr : Rk r) (hq : isLife q) (hp : P (lfRole (a (q + 1)) s) a r nK) : Sp G (d + 1) 0 0 MX4_roleOf [.ref q, .int s] (a, r, nK) (RI P) := by
  obtain ⟨t0, t1, l0, l1, e0⟩ := life_k hr hq
  exact V_X4_roleOf_0 ⟨t0, l0, _, e0, c_at t1 (by decide) l1 hp⟩
theorem c_yearsOf {P : KI} (hr : Rk r) (hq : isLife q) (hp : P (lfYears (a (q + 1)) s) a r nK) : Sp G (d + 1) 0 0 MX4_yearsOf [.ref q, .int s] (a, r, nK) (RI P) := by
  obtain ⟨t0, t1, l0, l1, e0⟩ := life_k hr hq
  exact V_X4_yearsOf_0 ⟨t0, l0, _, e0, c_at t1 (by decide) l1 hp⟩
theorem c_treesOf {P : KI} (hr : Rk r) (hq : isLife q) (hp : P (lfTrees (a (q + 1)) s) a r nK) : Sp G (d + 1) 0 0 MX4_treesOf [.ref q, .int s] (a, r, nK) (RI P) := by
  obtain ⟨t0, t1, l0, l1, e0⟩ := life_k hr hq
  exact V_X4_treesOf_0 ⟨t0, l0, _, e0, c_at t1 (by decide) l1 hp⟩
theorem c_holesOf {P : KI} (hr : Rk r) (hq : isLife q) (hp : P (lfHoles (a (q + 1)) s) a r nK) : Sp G (d + 1) 0 0 MX4_holesOf [.ref q, .int s] (a, r, nK) (RI P) := by
  obtain ⟨t0, t1, l0, l1, e0⟩ := life_k hr hq
  exact V_X4_holesOf_0 ⟨t0, l0, _, e0, c_at t1 (by decide) l1 hp⟩
theorem c_yearNow {P : KI} (hr : Rk r) (hq : isLife q) (hp : P (rAt (a (q + 1)) 42 40) a r nK) : Sp G (d + 1) 0 0 MX4_yearNow [.ref q] (a, r, nK) (RI P) := by
  obtain ⟨t0, t1, l0, l1, e0⟩ := life_k hr hq
  exact V_X4_yearNow_0 ⟨t0, l0, _, e0, c_at t1 (by decide) l1 hp⟩
theorem c_partedSoFar {P : KI} (hr : Rk r) (hq : isLife q) (hp : P (rAt (a (q + 1)) 42 41) a r nK) : Sp G (d + 1) 0 0 MX4_partedSoFar [.ref q] (a, r, nK) (RI P) := by
  obtain ⟨t0, t1, l0, l1, e0⟩ := life_k hr hq
  exact V_X4_partedSoFar_0 ⟨t0, l0, _, e0, c_at t1 (by decide) l1 hp⟩
theorem c_setHoles {P : KN} (hr : Rk r) (hq : isLife q) (hp : P (va_up a (q + 1) (lfSetH (a (q + 1)) s s1)) r nK) : Sp G (d + 1) 0 0 MX4_setHoles [.ref q, .int s, .int s1] (a, r, nK) (RN P) := by
  obtain ⟨t0, t1, l0, l1, e0⟩ := life_k hr hq
  exact V_X4_setHoles_0 ⟨t0, l0, _, e0, c_put t1 (by decide) l1 hp⟩
theorem c_bind {P : KN} (hr : Rk r) (hq : isLife q) (hp : P (va_up a (q + 1) (lfBind (a (q + 1)) s s1 s2)) r nK) : Sp G (d + 1) 0 0 MX4_bind [.ref q, .int s, .int s1, .int s2] (a, r, nK) (RN P) := by
  obtain ⟨t0, t1, l0, l1, e0⟩ := life_k hr hq
  refine V_X4_bind_0 ⟨t0, l0, _, e0, c_put t1 (by decide) l1 ⟨t0, l0, _, e0, c_put t1 (by decide) l1 ⟨t0, l0, _, e0, c_put t1 (by decide) l1 ?_⟩⟩⟩
  simp only [bx_uu, va_up_self]
  exact hp
theorem c_copyFrom {P : KN} {q' : Nat} (hr : Rk r) (hq : isLife q) (hq' : isLife q') (hne : q ≠ q') (hp : P (va_up a (q + 1) (fun j => if j < 42 then a (q' + 1) j else a (q + 1) j)) r nK) : Sp G (d + 2) 0 0 MX4_copyFrom [.ref q, .ref q'] (a, r, nK) (RN P) := by
  obtain ⟨t0, t1, l0, l1, e0⟩ := life_k hr hq
  obtain ⟨u0, u1, m0, m1, f0⟩ := life_k hr hq'
  refine V_X4_copyFrom_0 ⟨u0, m0, _, f0, t0, l0, _, e0, c_copy (i1 := 0) (i2 := 0) (m := 42) u1 t1 (by decide) (by decide) m1 l1 (by omega) (by decide) (by decide) ?_⟩
  simpa using hp
theorem c_saveTo {P : KN} {q2 n2 i2 : Nat} (hr : Rk r) (hq : isLife q) (h2 : tyK q2 = (1, n2)) (hn2 : n2 < 2 ^ 31) (hN2 : q2 < nK) (hne : q + 1 ≠ q2) (hi2 : i2 + 42 ≤ n2) (hp : P (va_up a q2 (fun j => if i2 ≤ j ∧ j < i2 + 42 then a (q + 1) (j - i2) else a q2 j)) r nK) : Sp G (d + 2) 0 0 MX4_saveTo [.ref q, .ref q2, .int (nI i2)] (a, r, nK) (RN P) := by
  obtain ⟨t0, t1, l0, l1, e0⟩ := life_k hr hq
  refine V_X4_saveTo_0 ⟨t0, l0, _, e0, c_copy (i1 := 0) (i2 := i2) (m := 42) t1 h2 (by decide) hn2 l1 hN2 hne (by decide) hi2 ?_⟩
  simpa using hp
theorem c_loadFrom {P : KN} {q2 n2 i2 : Nat} (hr : Rk r) (hq : isLife q) (h2 : tyK q2 = (1, n2)) (hn2 : n2 < 2 ^ 31) (hN2 : q2 < nK) (hne : q2 ≠ q + 1) (hi2 : i2 + 42 ≤ n2) (hp : P (va_up a (q + 1) (fun j => if j < 42 then a q2 (i2 + j) else a (q + 1) j)) r nK) : Sp G (d + 2) 0 0 MX4_loadFrom [.ref q, .ref q2, .int (nI i2)] (a, r, nK) (RN P) := by
  obtain ⟨t0, t1, l0, l1, e0⟩ := life_k hr hq
  refine V_X4_loadFrom_0 ⟨t0, l0, _, e0, c_copy (i1 := i2) (i2 := 0) (m := 42) h2 t1 hn2 (by decide) hN2 l1 hne hi2 (by decide) ?_⟩
  simpa using hp
theorem l_couples {P : KI} (hr : Rk r) (hq : isLife q) : ∀ (m k : Nat), k + m = 8 → P (sI (fun i => if lfRole (a (q + 1)) (nI i) = 1 then 1 else 0) 8) a r nK → E G MX4_couples (d + 2) C S 4 [.ref q, .int (sI (fun i => if lfRole (a (q + 1)) (nI i) = 1 then 1 else 0) k), .int (nI k)] [] (a, r, nK) (RI P) := by
  obtain ⟨t0, t1, l0, l1, e0⟩ := life_k hr hq
  intro m
  induction m with
  | zero =>
    intro k hk hp
    obtain rfl : k = 8 := by omega
    exact V_X4_couples_4 ⟨fun _ => hp, fun h => absurd (by decide) h⟩
  | succ m ih =>
    intro k hk hp
    refine V_X4_couples_4 ⟨fun h => absurd h (nI_ge (b := 8) (by omega) (by omega)), fun h => ⟨t0, l0, c_roleOf hr hq ⟨fun h1 => ?_, fun h1 => ?_⟩⟩⟩
    · have := ih (k + 1) (by omega) hp
      rw [sI, if_neg h1, ← nI_1] at this
      exact this
    · have := ih (k + 1) (by omega) hp
      rw [sI, if_pos h1, ← nI_1] at this
      exact this
theorem c_couples {P : KI} (hr : Rk r) (hq : isLife q) (hp : P (sI (fun i => if lfRole (a (q + 1)) (nI i) = 1 then 1 else 0) 8) a r nK) : Sp G (d + 2) 0 0 MX4_couples [.ref q] (a, r, nK) (RI P) := V_X4_couples_0 (l_couples hr hq 8 0 (by omega) hp)
theorem l_allTrees {P : KI} (hr : Rk r) (hq : isLife q) : ∀ (m k : Nat), k + m = 8 → P (sI (fun i => lfTrees (a (q + 1)) (nI i)) 8) a r nK → E G MX4_allTrees (d + 2) C S 4 [.ref q, .int (sI (fun i => lfTrees (a (q + 1)) (nI i)) k), .int (nI k)] [] (a, r, nK) (RI P) := by
  obtain ⟨t0, t1, l0, l1, e0⟩ := life_k hr hq
  intro m
  induction m with
  | zero =>
    intro k hk hp
    obtain rfl : k = 8 := by omega
    exact V_X4_allTrees_4 ⟨fun _ => hp, fun h => absurd (by decide) h⟩
  | succ m ih =>
    intro k hk hp
    refine V_X4_allTrees_4 ⟨fun h => absurd h (nI_ge (b := 8) (by omega) (by omega)), fun h => ⟨t0, l0, c_treesOf hr hq ?_⟩⟩
    rw [nI_1]
    exact ih (k + 1) (by omega) hp
theorem c_allTrees {P : KI} (hr : Rk r) (hq : isLife q) (hp : P (sI (fun i => lfTrees (a (q + 1)) (nI i)) 8) a r nK) : Sp G (d + 2) 0 0 MX4_allTrees [.ref q] (a, r, nK) (RI P) := V_X4_allTrees_0 (l_allTrees hr hq 8 0 (by omega) hp)
theorem l_allHoles {P : KI} (hr : Rk r) (hq : isLife q) : ∀ (m k : Nat), k + m = 8 → P (sI (fun i => lfHoles (a (q + 1)) (nI i)) 8) a r nK → E G MX4_allHoles (d + 2) C S 4 [.ref q, .int (sI (fun i => lfHoles (a (q + 1)) (nI i)) k), .int (nI k)] [] (a, r, nK) (RI P) := by
  obtain ⟨t0, t1, l0, l1, e0⟩ := life_k hr hq
  intro m
  induction m with
  | zero =>
    intro k hk hp
    obtain rfl : k = 8 := by omega
    exact V_X4_allHoles_4 ⟨fun _ => hp, fun h => absurd (by decide) h⟩
  | succ m ih =>
    intro k hk hp
    refine V_X4_allHoles_4 ⟨fun h => absurd h (nI_ge (b := 8) (by omega) (by omega)), fun h => ⟨t0, l0, c_holesOf hr hq ?_⟩⟩
    rw [nI_1]
    exact ih (k + 1) (by omega) hp
theorem c_allHoles {P : KI} (hr : Rk r) (hq : isLife q) (hp : P (sI (fun i => lfHoles (a (q + 1)) (nI i)) 8) a r nK) : Sp G (d + 2) 0 0 MX4_allHoles [.ref q] (a, r, nK) (RI P) := V_X4_allHoles_0 (l_allHoles hr hq 8 0 (by omega) hp)
theorem l_longest {P : KI} (hr : Rk r) (hq : isLife q) : ∀ (m k : Nat), k + m = 8 → P (mI (fun i => lfYears (a (q + 1)) (nI i)) 8) a r nK → E G MX4_longestYears (d + 2) C S 4 [.ref q, .int (mI (fun i => lfYears (a (q + 1)) (nI i)) k), .int (nI k)] [] (a, r, nK) (RI P) := by
  obtain ⟨t0, t1, l0, l1, e0⟩ := life_k hr hq
  intro m
  induction m with
  | zero =>
    intro k hk hp
    obtain rfl : k = 8 := by omega
    exact V_X4_longestYears_4 ⟨fun _ => hp, fun h => absurd (by decide) h⟩
  | succ m ih =>
    intro k hk hp
    refine V_X4_longestYears_4 ⟨fun h => absurd h (nI_ge (b := 8) (by omega) (by omega)), fun h => ⟨t0, l0, c_yearsOf hr hq ?_⟩⟩
    rw [nI_1]
    exact ih (k + 1) (by omega) hp
theorem c_longestYears {P : KI} (hr : Rk r) (hq : isLife q) (hp : P (mI (fun i => lfYears (a (q + 1)) (nI i)) 8) a r nK) : Sp G (d + 2) 0 0 MX4_longestYears [.ref q] (a, r, nK) (RI P) := V_X4_longestYears_0 (l_longest hr hq 8 0 (by omega) hp)
theorem c_wed {P : KI} (hr : Rk r) (hq : isLife q) (hp : P (lfWed (a (q + 1)) s s1).1 (va_up a (q + 1) (lfWed (a (q + 1)) s s1).2) r nK) : Sp G (d + 2) 0 0 MX4_wed [.ref q, .int s, .int s1] (a, r, nK) (RI P) := by
  obtain ⟨t0, t1, l0, l1, e0⟩ := life_k hr hq
  unfold lfWed at hp
  refine V_X4_wed_0 ⟨t0, l0, c_mateOf hr hq ⟨fun h1 => ⟨bz_0, ?_⟩, fun h1 => ⟨t0, l0, c_mateOf hr hq ⟨fun h2 => ⟨t0, l0, c_bind hr hq ⟨t0, l0, c_bind hr hq ⟨bz_1, ?_⟩⟩⟩, fun h2 => ⟨bz_0, ?_⟩⟩⟩⟩⟩
  · rw [if_neg (fun z => h1 z.1), up_same] at hp; exact hp
  · rw [if_pos ⟨h1, h2⟩] at hp
    simp only [bx_uu, va_up_self]
    exact hp
  · rw [if_neg (fun z => h2 z.2), up_same] at hp; exact hp
theorem l_part {P : KI} (hr : Rk r) (hq : isLife q) (hp : P 1 (va_up a (q + 1) (lfPart2 (a (q + 1)) s s1)) r nK) : E G MX4_partFrom (d + 2) C S 42 [.ref q, .null, .null, .int s, .null, .null] [.int s1] (a, r, nK) (RI P) := by
  obtain ⟨t0, t1, l0, l1, e0⟩ := life_k hr hq
  refine V_X4_partFrom_42 ⟨t0, l0, c_treesOf hr hq ⟨t0, l0, c_treesOf hr hq ⟨t0, l0, _, e0, by decide, c_put t1 (by decide) l1 ⟨t0, l0, _, e0, by decide, c_put t1 (by decide) l1 ⟨t0, l0, c_bind hr hq ⟨t0, l0, c_bind hr hq ⟨t0, l0, _, e0, t0, l0, c_partedSoFar hr hq (c_put t1 (by decide) l1 ⟨bz_1, ?_⟩)⟩⟩⟩⟩⟩⟩⟩
  simp only [bx_uu, va_up_self]
  exact hp
theorem c_partFrom {P : KI} (hr : Rk r) (hq : isLife q) (hp : P (lfPart (a (q + 1)) s).1 (va_up a (q + 1) (lfPart (a (q + 1)) s).2) r nK) : Sp G (d + 2) 0 0 MX4_partFrom [.ref q, .int s] (a, r, nK) (RI P) := by
  obtain ⟨t0, t1, l0, l1, e0⟩ := life_k hr hq
  unfold lfPart at hp
  refine V_X4_partFrom_0 ⟨t0, l0, c_mateOf hr hq ⟨fun h1 => ⟨t0, l0, c_roleOf hr hq ⟨fun h2 => ⟨t0, l0, c_roleOf hr hq ⟨fun h3 => ?_, fun h3 => absurd h3 h2⟩⟩, fun h2 => ⟨t0, l0, c_roleOf hr hq ⟨fun h3 => absurd h2 h3, fun h3 => ?_⟩⟩⟩⟩, fun h1 => ⟨bz_0, ?_⟩⟩⟩
  · rw [if_neg h1, if_neg h2] at hp
    exact l_part hr hq hp
  · rw [if_neg h1, if_pos h2] at hp
    exact l_part hr hq hp
  · rw [if_pos h1, up_same] at hp; exact hp
theorem c_plantIn {P : KI} (hr : Rk r) (hq : isLife q) (hp : P (lfPlant (a (q + 1)) s s1).1 (va_up a (q + 1) (lfPlant (a (q + 1)) s s1).2) r nK) : Sp G (d + 2) 0 0 MX4_plantIn [.ref q, .int s, .int s1] (a, r, nK) (RI P) := by
  obtain ⟨t0, t1, l0, l1, e0⟩ := life_k hr hq
  unfold lfPlant at hp
  refine V_X4_plantIn_0 ⟨t0, l0, c_treesOf hr hq ⟨fun h1 => ⟨t0, l0, _, e0, t0, l0, c_treesOf hr hq (c_put t1 (by decide) l1 ⟨bz_1, ?_⟩)⟩, fun h1 => ⟨bz_0, ?_⟩⟩⟩
  · rw [if_pos h1] at hp; exact hp
  · rw [if_neg h1, up_same] at hp; exact hp
theorem c_quarrelIn {P : KI} (hr : Rk r) (hq : isLife q) (hp : P (lfQuar (a (q + 1)) s).1 (va_up a (q + 1) (lfQuar (a (q + 1)) s).2) r nK) : Sp G (d + 2) 0 0 MX4_quarrelIn [.ref q, .int s] (a, r, nK) (RI P) := by
  obtain ⟨t0, t1, l0, l1, e0⟩ := life_k hr hq
  unfold lfQuar at hp
  have key : ¬ lfMate (a (q + 1)) s = -1 → (lfHoles (a (q + 1)) s < 9 ∨ lfHoles (a (q + 1)) (lfMate (a (q + 1)) s) < 9) → P 1 (va_up a (q + 1) (lfHole1 (lfHole1 (a (q + 1)) s) (lfMate (a (q + 1)) s))) r nK := fun h1 h2 => by
    rw [if_neg (fun z => z.elim h1 (fun z => h2.elim z.1 z.2))] at hp
    exact hp
  refine V_X4_quarrelIn_0 ⟨t0, l0, c_mateOf hr hq ⟨fun h1 => ⟨bz_0, ?_⟩, fun h1 => ⟨t0, l0, c_holesOf hr hq ⟨fun h2 => ⟨t0, l0, c_holesOf hr hq ⟨t0, l0, c_setHoles hr hq ⟨t0, l0, c_holesOf hr hq ⟨t0, l0, c_setHoles hr hq ⟨bz_1, ?_⟩⟩⟩⟩⟩, fun h2 => ⟨t0, l0, c_holesOf hr hq ⟨fun h3 => ⟨t0, l0, c_holesOf hr hq ⟨t0, l0, c_setHoles hr hq ⟨t0, l0, c_holesOf hr hq ⟨t0, l0, c_setHoles hr hq ⟨bz_1, ?_⟩⟩⟩⟩⟩, fun h3 => ⟨bz_0, ?_⟩⟩⟩⟩⟩⟩⟩
  · rw [if_pos (Or.inl h1), up_same] at hp; exact hp
  · simp only [bx_uu, va_up_self]
    exact key h1 (Or.inl h2)
  · simp only [bx_uu, va_up_self]
    exact key h1 (Or.inr h3)
  · rw [if_pos (Or.inr ⟨h2, h3⟩), up_same] at hp; exact hp
theorem c_repaveIn {P : KI} (hr : Rk r) (hq : isLife q) (hp : P (lfRepave (a (q + 1)) s).1 (va_up a (q + 1) (lfRepave (a (q + 1)) s).2) r nK) : Sp G (d + 2) 0 0 MX4_repaveIn [.ref q, .int s] (a, r, nK) (RI P) := by
  obtain ⟨t0, t1, l0, l1, e0⟩ := life_k hr hq
  unfold lfRepave at hp
  refine V_X4_repaveIn_0 ⟨t0, l0, c_mateOf hr hq ⟨t0, l0, c_holesOf hr hq ⟨fun h1 => ⟨t0, l0, c_holesOf hr hq ⟨fun h2 => ⟨t0, l0, c_setHoles hr hq ⟨fun h3 => absurd h3 h1, fun h3 => ⟨t0, l0, c_setHoles hr hq ⟨bz_1, ?_⟩⟩⟩⟩, fun h2 => ⟨bz_0, ?_⟩⟩⟩, fun h1 => ⟨fun h2 => ⟨t0, l0, c_setHoles hr hq ⟨fun h3 => ⟨bz_1, ?_⟩, fun h3 => absurd h1 h3⟩⟩, fun h2 => ⟨bz_0, ?_⟩⟩⟩⟩⟩
  · simp only [if_neg h1, if_neg h2] at hp
    simp only [bx_uu, va_up_self]
    exact hp
  · simp only [if_neg h1, if_pos h2, up_same] at hp; exact hp
  · simp only [if_pos h1, if_neg h2] at hp
    exact hp
  · simp only [if_pos h1, if_pos h2, up_same] at hp; exact hp
theorem c_age {P : KN} (hr : Rk r) (hq : isLife q) (hp : P (va_up a (q + 1) (lfAge (a (q + 1)) s s1)) r nK) : Sp G (d + 3) 0 0 MX4_age [.ref q, .int s, .int s1] (a, r, nK) (RN P) := by
  obtain ⟨t0, t1, l0, l1, e0⟩ := life_k hr hq
  unfold lfAge lfJub lfSplit lfYears2 at hp
  refine V_X4_age_0 ⟨t0, l0, c_yearsOf hr hq ⟨t0, l0, _, e0, c_put t1 (by decide) l1 ⟨t0, l0, _, e0, c_put t1 (by decide) l1 ⟨by decide, fun h1 => ⟨t0, l0, c_holesOf hr hq ⟨t0, l0, c_holesOf hr hq ⟨fun h2 => ?_, fun h2 => ⟨t0, l0, c_partFrom hr hq ?_⟩⟩⟩⟩, fun h1 => ⟨t0, l0, c_setHoles hr hq ⟨t0, l0, c_setHoles hr hq ⟨t0, l0, c_holesOf hr hq ⟨t0, l0, c_holesOf hr hq ⟨fun h2 => ?_, fun h2 => ⟨t0, l0, c_partFrom hr hq ?_⟩⟩⟩⟩⟩⟩⟩⟩⟩⟩
  all_goals simp only [bx_uu, va_up_self] at h2 ⊢
  · rw [if_neg h1, if_pos h2] at hp; exact hp
  · rw [if_neg h1, if_neg h2] at hp; exact hp
  · rw [if_pos h1, if_pos h2] at hp; exact hp
  · rw [if_pos h1, if_neg h2] at hp; exact hp
theorem l_turn {P : KI} {f : Nat → Int32} (hr : Rk r) (hq : isLife q) : ∀ (m k : Nat), k + m = 8 → P 1 (va_up a (q + 1) (lfAges f 8)) r nK → E G MX4_turnYear (d + 4) C S 29 [.ref q, .int (nI k)] [] (va_up a (q + 1) (lfAges f k), r, nK) (RI P) := by
  obtain ⟨t0, t1, l0, l1, e0⟩ := life_k hr hq
  intro m
  induction m with
  | zero =>
    intro k hk hp
    obtain rfl : k = 8 := by omega
    exact V_X4_turnYear_29 ⟨fun _ => ⟨bz_1, hp⟩, fun h => absurd (by decide) h⟩
  | succ m ih =>
    intro k hk hp
    have ih := ih (k + 1) (by omega) hp
    rw [lfAges, ← nI_1] at ih
    refine V_X4_turnYear_29 ⟨fun h => absurd h (nI_ge (b := 8) (by omega) (by omega)), fun h => ⟨t0, l0, c_roleOf hr hq ⟨fun h1 => ?_, fun h1 => ⟨t0, l0, c_mateOf hr hq ⟨t0, l0, c_age hr hq ?_⟩⟩⟩⟩⟩
    · rw [va_up_self] at h1
      rw [if_neg h1] at ih
      exact ih
    · rw [va_up_self] at h1 ⊢
      rw [if_pos h1] at ih
      rw [bx_uu]
      exact ih
theorem c_turnYear {P : KI} (hr : Rk r) (hq : isLife q) (hp : P (lfTurn (a (q + 1))).1 (va_up a (q + 1) (lfTurn (a (q + 1))).2) r nK) : Sp G (d + 4) 0 0 MX4_turnYear [.ref q] (a, r, nK) (RI P) := by
  obtain ⟨t0, t1, l0, l1, e0⟩ := life_k hr hq
  unfold lfTurn at hp
  refine V_X4_turnYear_0 ⟨t0, l0, c_yearNow hr hq ⟨fun h1 => ⟨t0, l0, _, e0, t0, l0, c_yearNow hr hq (c_put t1 (by decide) l1 ?_)⟩, fun h1 => ⟨bz_0, ?_⟩⟩⟩
  · rw [if_pos h1] at hp
    dsimp only at hp
    exact l_turn (f := rPut (a (q + 1)) 42 40 (rAt (a (q + 1)) 42 40 + 1)) hr hq 8 0 (by omega) hp
  · rw [if_neg h1, up_same] at hp; exact hp
end LI
