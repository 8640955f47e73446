/-! City -/
def isCity (T : Nat) : Prop := T = 3 ∨ T = 15
theorem ct0 {T : Nat} (hT : isCity T) : tyK T = (0, 0) := by rcases hT with rfl | rfl <;> rfl
theorem ctl {T : Nat} (hT : isCity T) : T < nK := by rcases hT with rfl | rfl <;> decide
theorem ctt4 {T : Nat} (hT : isCity T) : tyK (T + 1) = (1, 10) := by rcases hT with rfl | rfl <;> rfl
theorem ctn4 {T : Nat} (hT : isCity T) : T + 1 < nK := by rcases hT with rfl | rfl <;> decide
theorem ctr4 {r : RA} {T : Nat} (hr : Rk r) (hT : isCity T) : r T 4 = .ref (T + 1) := by rcases hT with rfl | rfl <;> exact hr.at (by decide)
theorem ca4 {G : GE} {d T : Nat} {a : IA} {r : RA} {p : Int32} {P : KI} (hT : isCity T) (hp : P (rAt (a (T + 1)) 10 p) a r nK) : Sp G d 0 0 MX9_at [.ref (T + 1), .int p] (a, r, nK) (RI P) := c_at (ctt4 hT) (by decide) (ctn4 hT) hp
theorem cp4 {G : GE} {d T : Nat} {a : IA} {r : RA} {p x : Int32} {P : KN} (hT : isCity T) (hp : P (va_up a (T + 1) (rPut (a (T + 1)) 10 p x)) r nK) : Sp G d 0 0 MX9_put [.ref (T + 1), .int p, .int x] (a, r, nK) (RN P) := c_put (ctt4 hT) (by decide) (ctn4 hT) hp
theorem ctt5 {T : Nat} (hT : isCity T) : tyK (T + 2) = (1, 10) := by rcases hT with rfl | rfl <;> rfl
theorem ctn5 {T : Nat} (hT : isCity T) : T + 2 < nK := by rcases hT with rfl | rfl <;> decide
theorem ctr5 {r : RA} {T : Nat} (hr : Rk r) (hT : isCity T) : r T 5 = .ref (T + 2) := by rcases hT with rfl | rfl <;> exact hr.at (by decide)
theorem ca5 {G : GE} {d T : Nat} {a : IA} {r : RA} {p : Int32} {P : KI} (hT : isCity T) (hp : P (rAt (a (T + 2)) 10 p) a r nK) : Sp G d 0 0 MX9_at [.ref (T + 2), .int p] (a, r, nK) (RI P) := c_at (ctt5 hT) (by decide) (ctn5 hT) hp
theorem cp5 {G : GE} {d T : Nat} {a : IA} {r : RA} {p x : Int32} {P : KN} (hT : isCity T) (hp : P (va_up a (T + 2) (rPut (a (T + 2)) 10 p x)) r nK) : Sp G d 0 0 MX9_put [.ref (T + 2), .int p, .int x] (a, r, nK) (RN P) := c_put (ctt5 hT) (by decide) (ctn5 hT) hp
theorem ctt6 {T : Nat} (hT : isCity T) : tyK (T + 3) = (1, 8) := by rcases hT with rfl | rfl <;> rfl
theorem ctn6 {T : Nat} (hT : isCity T) : T + 3 < nK := by rcases hT with rfl | rfl <;> decide
theorem ctr6 {r : RA} {T : Nat} (hr : Rk r) (hT : isCity T) : r T 6 = .ref (T + 3) := by rcases hT with rfl | rfl <;> exact hr.at (by decide)
theorem ca6 {G : GE} {d T : Nat} {a : IA} {r : RA} {p : Int32} {P : KI} (hT : isCity T) (hp : P (rAt (a (T + 3)) 8 p) a r nK) : Sp G d 0 0 MX9_at [.ref (T + 3), .int p] (a, r, nK) (RI P) := c_at (ctt6 hT) (by decide) (ctn6 hT) hp
theorem cp6 {G : GE} {d T : Nat} {a : IA} {r : RA} {p x : Int32} {P : KN} (hT : isCity T) (hp : P (va_up a (T + 3) (rPut (a (T + 3)) 8 p x)) r nK) : Sp G d 0 0 MX9_put [.ref (T + 3), .int p, .int x] (a, r, nK) (RN P) := c_put (ctt6 hT) (by decide) (ctn6 hT) hp
theorem ctt7 {T : Nat} (hT : isCity T) : tyK (T + 4) = (1, 8) := by rcases hT with rfl | rfl <;> rfl
theorem ctn7 {T : Nat} (hT : isCity T) : T + 4 < nK := by rcases hT with rfl | rfl <;> decide
theorem ctr7 {r : RA} {T : Nat} (hr : Rk r) (hT : isCity T) : r T 7 = .ref (T + 4) := by rcases hT with rfl | rfl <;> exact hr.at (by decide)
theorem ca7 {G : GE} {d T : Nat} {a : IA} {r : RA} {p : Int32} {P : KI} (hT : isCity T) (hp : P (rAt (a (T + 4)) 8 p) a r nK) : Sp G d 0 0 MX9_at [.ref (T + 4), .int p] (a, r, nK) (RI P) := c_at (ctt7 hT) (by decide) (ctn7 hT) hp
theorem cp7 {G : GE} {d T : Nat} {a : IA} {r : RA} {p x : Int32} {P : KN} (hT : isCity T) (hp : P (va_up a (T + 4) (rPut (a (T + 4)) 8 p x)) r nK) : Sp G d 0 0 MX9_put [.ref (T + 4), .int p, .int x] (a, r, nK) (RN P) := c_put (ctt7 hT) (by decide) (ctn7 hT) hp
theorem ctt8 {T : Nat} (hT : isCity T) : tyK (T + 5) = (1, 8) := by rcases hT with rfl | rfl <;> rfl
theorem ctn8 {T : Nat} (hT : isCity T) : T + 5 < nK := by rcases hT with rfl | rfl <;> decide
theorem ctr8 {r : RA} {T : Nat} (hr : Rk r) (hT : isCity T) : r T 8 = .ref (T + 5) := by rcases hT with rfl | rfl <;> exact hr.at (by decide)
theorem ca8 {G : GE} {d T : Nat} {a : IA} {r : RA} {p : Int32} {P : KI} (hT : isCity T) (hp : P (rAt (a (T + 5)) 8 p) a r nK) : Sp G d 0 0 MX9_at [.ref (T + 5), .int p] (a, r, nK) (RI P) := c_at (ctt8 hT) (by decide) (ctn8 hT) hp
theorem cp8 {G : GE} {d T : Nat} {a : IA} {r : RA} {p x : Int32} {P : KN} (hT : isCity T) (hp : P (va_up a (T + 5) (rPut (a (T + 5)) 8 p x)) r nK) : Sp G d 0 0 MX9_put [.ref (T + 5), .int p, .int x] (a, r, nK) (RN P) := c_put (ctt8 hT) (by decide) (ctn8 hT) hp
theorem ctt9 {T : Nat} (hT : isCity T) : tyK (T + 6) = (1, 8) := by rcases hT with rfl | rfl <;> rfl
theorem ctn9 {T : Nat} (hT : isCity T) : T + 6 < nK := by rcases hT with rfl | rfl <;> decide
theorem ctr9 {r : RA} {T : Nat} (hr : Rk r) (hT : isCity T) : r T 9 = .ref (T + 6) := by rcases hT with rfl | rfl <;> exact hr.at (by decide)
theorem ca9 {G : GE} {d T : Nat} {a : IA} {r : RA} {p : Int32} {P : KI} (hT : isCity T) (hp : P (rAt (a (T + 6)) 8 p) a r nK) : Sp G d 0 0 MX9_at [.ref (T + 6), .int p] (a, r, nK) (RI P) := c_at (ctt9 hT) (by decide) (ctn9 hT) hp
theorem cp9 {G : GE} {d T : Nat} {a : IA} {r : RA} {p x : Int32} {P : KN} (hT : isCity T) (hp : P (va_up a (T + 6) (rPut (a (T + 6)) 8 p x)) r nK) : Sp G d 0 0 MX9_put [.ref (T + 6), .int p, .int x] (a, r, nK) (RN P) := c_put (ctt9 hT) (by decide) (ctn9 hT) hp
theorem ctt10 {T : Nat} (hT : isCity T) : tyK (T + 7) = (1, 8) := by rcases hT with rfl | rfl <;> rfl
theorem ctn10 {T : Nat} (hT : isCity T) : T + 7 < nK := by rcases hT with rfl | rfl <;> decide
theorem ctr10 {r : RA} {T : Nat} (hr : Rk r) (hT : isCity T) : r T 10 = .ref (T + 7) := by rcases hT with rfl | rfl <;> exact hr.at (by decide)
theorem ca10 {G : GE} {d T : Nat} {a : IA} {r : RA} {p : Int32} {P : KI} (hT : isCity T) (hp : P (rAt (a (T + 7)) 8 p) a r nK) : Sp G d 0 0 MX9_at [.ref (T + 7), .int p] (a, r, nK) (RI P) := c_at (ctt10 hT) (by decide) (ctn10 hT) hp
theorem cp10 {G : GE} {d T : Nat} {a : IA} {r : RA} {p x : Int32} {P : KN} (hT : isCity T) (hp : P (va_up a (T + 7) (rPut (a (T + 7)) 8 p x)) r nK) : Sp G d 0 0 MX9_put [.ref (T + 7), .int p, .int x] (a, r, nK) (RN P) := c_put (ctt10 hT) (by decide) (ctn10 hT) hp
theorem ctt11 {T : Nat} (hT : isCity T) : tyK (T + 8) = (1, 64) := by rcases hT with rfl | rfl <;> rfl
theorem ctn11 {T : Nat} (hT : isCity T) : T + 8 < nK := by rcases hT with rfl | rfl <;> decide
theorem ctr11 {r : RA} {T : Nat} (hr : Rk r) (hT : isCity T) : r T 11 = .ref (T + 8) := by rcases hT with rfl | rfl <;> exact hr.at (by decide)
theorem ca11 {G : GE} {d T : Nat} {a : IA} {r : RA} {p : Int32} {P : KI} (hT : isCity T) (hp : P (rAt (a (T + 8)) 64 p) a r nK) : Sp G d 0 0 MX9_at [.ref (T + 8), .int p] (a, r, nK) (RI P) := c_at (ctt11 hT) (by decide) (ctn11 hT) hp
theorem cp11 {G : GE} {d T : Nat} {a : IA} {r : RA} {p x : Int32} {P : KN} (hT : isCity T) (hp : P (va_up a (T + 8) (rPut (a (T + 8)) 64 p x)) r nK) : Sp G d 0 0 MX9_put [.ref (T + 8), .int p, .int x] (a, r, nK) (RN P) := c_put (ctt11 hT) (by decide) (ctn11 hT) hp
theorem ctt12 {T : Nat} (hT : isCity T) : tyK (T + 9) = (1, 8) := by rcases hT with rfl | rfl <;> rfl
theorem ctn12 {T : Nat} (hT : isCity T) : T + 9 < nK := by rcases hT with rfl | rfl <;> decide
theorem ctr12 {r : RA} {T : Nat} (hr : Rk r) (hT : isCity T) : r T 12 = .ref (T + 9) := by rcases hT with rfl | rfl <;> exact hr.at (by decide)
theorem ca12 {G : GE} {d T : Nat} {a : IA} {r : RA} {p : Int32} {P : KI} (hT : isCity T) (hp : P (rAt (a (T + 9)) 8 p) a r nK) : Sp G d 0 0 MX9_at [.ref (T + 9), .int p] (a, r, nK) (RI P) := c_at (ctt12 hT) (by decide) (ctn12 hT) hp
theorem cp12 {G : GE} {d T : Nat} {a : IA} {r : RA} {p x : Int32} {P : KN} (hT : isCity T) (hp : P (va_up a (T + 9) (rPut (a (T + 9)) 8 p x)) r nK) : Sp G d 0 0 MX9_put [.ref (T + 9), .int p, .int x] (a, r, nK) (RN P) := c_put (ctt12 hT) (by decide) (ctn12 hT) hp
theorem ctt13 {T : Nat} (hT : isCity T) : tyK (T + 10) = (1, 8) := by rcases hT with rfl | rfl <;> rfl
theorem ctn13 {T : Nat} (hT : isCity T) : T + 10 < nK := by rcases hT with rfl | rfl <;> decide
theorem ctr13 {r : RA} {T : Nat} (hr : Rk r) (hT : isCity T) : r T 13 = .ref (T + 10) := by rcases hT with rfl | rfl <;> exact hr.at (by decide)
theorem ca13 {G : GE} {d T : Nat} {a : IA} {r : RA} {p : Int32} {P : KI} (hT : isCity T) (hp : P (rAt (a (T + 10)) 8 p) a r nK) : Sp G d 0 0 MX9_at [.ref (T + 10), .int p] (a, r, nK) (RI P) := c_at (ctt13 hT) (by decide) (ctn13 hT) hp
theorem cp13 {G : GE} {d T : Nat} {a : IA} {r : RA} {p x : Int32} {P : KN} (hT : isCity T) (hp : P (va_up a (T + 10) (rPut (a (T + 10)) 8 p x)) r nK) : Sp G d 0 0 MX9_put [.ref (T + 10), .int p, .int x] (a, r, nK) (RN P) := c_put (ctt13 hT) (by decide) (ctn13 hT) hp
theorem ctt14 {T : Nat} (hT : isCity T) : tyK (T + 11) = (1, 8) := by rcases hT with rfl | rfl <;> rfl
theorem ctn14 {T : Nat} (hT : isCity T) : T + 11 < nK := by rcases hT with rfl | rfl <;> decide
theorem ctr14 {r : RA} {T : Nat} (hr : Rk r) (hT : isCity T) : r T 14 = .ref (T + 11) := by rcases hT with rfl | rfl <;> exact hr.at (by decide)
theorem ca14 {G : GE} {d T : Nat} {a : IA} {r : RA} {p : Int32} {P : KI} (hT : isCity T) (hp : P (rAt (a (T + 11)) 8 p) a r nK) : Sp G d 0 0 MX9_at [.ref (T + 11), .int p] (a, r, nK) (RI P) := c_at (ctt14 hT) (by decide) (ctn14 hT) hp
theorem cp14 {G : GE} {d T : Nat} {a : IA} {r : RA} {p x : Int32} {P : KN} (hT : isCity T) (hp : P (va_up a (T + 11) (rPut (a (T + 11)) 8 p x)) r nK) : Sp G d 0 0 MX9_put [.ref (T + 11), .int p, .int x] (a, r, nK) (RN P) := c_put (ctt14 hT) (by decide) (ctn14 hT) hp
def iAbs (x : Int32) : Int32 := if 0 ≤ x then x else 0 - x
def ctFirst (a : IA) (T : Nat) (s : Int32) : Int32 := if a T 1 ≤ s then 0 else rAt (a (T + 6)) 8 s
def ctLiking (a : IA) (T : Nat) (s m : Int32) : Int32 := if m = -1 then 0 else rAt (a (T + 8)) 64 (s * 8 + m)
def ctNever (a : IA) (T : Nat) (s o : Int32) : Int32 := if (rAt (a (T + 9)) 8 s >>> (o &&& 31)) &&& 1 = 1 then 1 else 0
def ctCommon (a : IA) (T : Nat) (s o : Int32) : Int32 :=
  (if rAt (a (T + 3)) 8 s = rAt (a (T + 3)) 8 o ∨ rAt (a (T + 3)) 8 s = rAt (a (T + 4)) 8 o then 1 else 0) + (if rAt (a (T + 4)) 8 s = rAt (a (T + 3)) 8 o ∨ rAt (a (T + 4)) 8 s = rAt (a (T + 4)) 8 o then 1 else 0)
def ctWorth (f : Nat → Int32) (share : Int32) (n : Nat) : Int32 := sI (fun g => ((share >>> (nI g &&& 31)) &&& 1) * f g) n
/-- places told as bits -/
def bitsOf (p : Nat → Bool) : Nat → Int32
  | 0 => 0
  | n + 1 => if p n then bitsOf p n ||| ((1 : Int32) <<< (nI n &&& 31)) else bitsOf p n
theorem bitsOf_congr {p p' : Nat → Bool} : ∀ {n : Nat}, (∀ k, k < n → p k = p' k) → bitsOf p n = bitsOf p' n
  | 0, _ => rfl
  | n + 1, h => by unfold bitsOf; rw [bitsOf_congr (fun k hk => h k (by omega)), h n (by omega)]
def ctLane (a : IA) (T : Nat) (x y u v : Int32) : IA := u2 (u2 (u2 (u2 a T 15 x) T 16 y) T 17 u) T 18 v
def ctClear1 (a : IA) (T : Nat) : IA := u2 (u2 (u2 (u2 a T 0 0) T 1 0) T 2 0) T 3 0
def ctClear2 (a : IA) (T : Nat) : IA := va_up a (T + 8) (fun j => if j < 64 then 5 else a (T + 8) j)
def ctClear3 (a : IA) (T : Nat) : IA := va_up a (T + 9) (fun j => if j < 8 then 0 else a (T + 9) j)
def ctClear (a : IA) (T : Nat) : IA := ctLane (ctClear3 (ctClear2 (ctClear1 a T) T) T) T 30 0 1 0
def ctPut (a : IA) (q n : Nat) (p x : Int32) : IA := va_up a q (rPut (a q) n p x)
def ctCorner (a : IA) (T : Nat) (x y : Int32) : IA := u2 (ctPut (ctPut a (T + 1) 10 (a T 0) x) (T + 2) 10 (a T 0) y) T 0 (a T 0 + 1)
def ctGood (a : IA) (T : Nat) (x y : Int32) : IA := u2 (ctPut (ctPut a (T + 10) 8 (a T 2) x) (T + 11) 8 (a T 2) y) T 2 (a T 2 + 1)
def ctLen (a : IA) (T : Nat) (s e : Int32) : Int32 := iAbs (rAt (a (T + 1)) 10 s - rAt (a (T + 1)) 10 e) + iAbs (rAt (a (T + 2)) 10 s - rAt (a (T + 2)) 10 e)
def ctStreet (a : IA) (T : Nat) (s e h t : Int32) : IA :=
  u2 (ctPut (ctPut (ctPut (ctPut (ctPut a (T + 3) 8 (a T 1) s) (T + 4) 8 (a T 1) e) (T + 5) 8 (a T 1) h) (T + 6) 8 (a T 1) t) (T + 7) 8 (a T 1) (ctLen a T s e)) T 1 (a T 1 + 1)
def ctLikes (a : IA) (T : Nat) (s o n : Int32) : IA := ctPut a (T + 8) 64 (s * 8 + o) n
def ctForbid (a : IA) (T : Nat) (s o : Int32) : IA :=
  ctPut (ctPut a (T + 9) 8 s (rAt (a (T + 9)) 8 s ||| ((1 : Int32) <<< (o &&& 31)))) (T + 9) 8 o (rAt (ctPut a (T + 9) 8 s (rAt (a (T + 9)) 8 s ||| ((1 : Int32) <<< (o &&& 31))) (T + 9)) 8 o ||| ((1 : Int32) <<< (s &&& 31)))
theorem ctPut_ne {a : IA} {q n k : Nat} {p x : Int32} (h : k ≠ q) : ctPut a q n p x k = a k := va_up_ne _ _ h
theorem ctPut_self {a : IA} {q n : Nat} {p x : Int32} : ctPut a q n p x q = rPut (a q) n p x := va_up_self _ _ _
section CI
variable {G : GE} {d C S : Nat} {T : Nat} {a : IA} {r : RA} {s o x y u v : Int32}
theorem c_startOf {P : KI} (hr : Rk r) (hT : isCity T) (hp : P (rAt (a (T + 3)) 8 s) a r nK) : Sp G (d + 1) 0 0 MX0_startOf [.ref T, .int s] (a, r, nK) (RI P) := V_X0_startOf_0 ⟨ct0 hT, ctl hT, _, ctr6 hr hT, ca6 hT hp⟩
theorem c_endOf {P : KI} (hr : Rk r) (hT : isCity T) (hp : P (rAt (a (T + 4)) 8 s) a r nK) : Sp G (d + 1) 0 0 MX0_endOf [.ref T, .int s] (a, r, nK) (RI P) := V_X0_endOf_0 ⟨ct0 hT, ctl hT, _, ctr7 hr hT, ca7 hT hp⟩
theorem c_housesOf {P : KI} (hr : Rk r) (hT : isCity T) (hp : P (rAt (a (T + 5)) 8 s) a r nK) : Sp G (d + 1) 0 0 MX0_housesOf [.ref T, .int s] (a, r, nK) (RI P) := V_X0_housesOf_0 ⟨ct0 hT, ctl hT, _, ctr8 hr hT, ca8 hT hp⟩
theorem c_lengthOf {P : KI} (hr : Rk r) (hT : isCity T) (hp : P (rAt (a (T + 7)) 8 s) a r nK) : Sp G (d + 1) 0 0 MX0_lengthOf [.ref T, .int s] (a, r, nK) (RI P) := V_X0_lengthOf_0 ⟨ct0 hT, ctl hT, _, ctr10 hr hT, ca10 hT hp⟩
theorem c_firstTreesOf {P : KI} (hr : Rk r) (hT : isCity T) (hp : P (ctFirst a T s) a r nK) : Sp G (d + 1) 0 0 MX0_firstTreesOf [.ref T, .int s] (a, r, nK) (RI P) := by
  unfold ctFirst at hp
  refine V_X0_firstTreesOf_0 ⟨ct0 hT, ctl hT, fun h => ?_, fun h => ⟨ct0 hT, ctl hT, _, ctr9 hr hT, ca9 hT ?_⟩⟩
  · rw [if_pos h] at hp; exact hp
  · rw [if_neg h] at hp; exact hp
theorem c_liking {P : KI} (hr : Rk r) (hT : isCity T) (hp : P (ctLiking a T s o) a r nK) : Sp G (d + 1) 0 0 MX0_liking [.ref T, .int s, .int o] (a, r, nK) (RI P) := by
  unfold ctLiking at hp
  refine V_X0_liking_0 ⟨fun h => ⟨ct0 hT, ctl hT, _, ctr11 hr hT, ca11 hT ?_⟩, fun h => ?_⟩
  · rw [if_neg h] at hp; exact hp
  · rw [if_pos h] at hp; exact hp
theorem c_isNever {P : KI} (hr : Rk r) (hT : isCity T) (hp : P (ctNever a T s o) a r nK) : Sp G (d + 1) 0 0 MX0_isNever [.ref T, .int s, .int o] (a, r, nK) (RI P) := by
  unfold ctNever at hp
  refine V_X0_isNever_0 ⟨ct0 hT, ctl hT, _, ctr12 hr hT, ca12 hT ⟨fun h => ⟨bz_0, ?_⟩, fun h => ⟨bz_1, ?_⟩⟩⟩
  · rw [if_neg h] at hp; exact hp
  · rw [if_pos h] at hp; exact hp
theorem c_commonCorners {P : KI} (hr : Rk r) (hT : isCity T) (hp : P (ctCommon a T s o) a r nK) : Sp G (d + 1) 0 0 MX0_commonCorners [.ref T, .int s, .int o] (a, r, nK) (RI P) := by
  unfold ctCommon at hp
  refine V_X0_commonCorners_0 ⟨ct0 hT, ctl hT, _, ctr6 hr hT, ca6 hT ⟨ct0 hT, ctl hT, _, ctr7 hr hT, ca7 hT ⟨ct0 hT, ctl hT, _, ctr6 hr hT, ca6 hT ⟨ct0 hT, ctl hT, _, ctr7 hr hT, ca7 hT ⟨fun h1 => ⟨fun h2 => ?_, fun h2 => ⟨fun h3 => ?_, fun h3 => ?_⟩⟩, fun h1 => ⟨fun h4 => ⟨fun h2 => ?_, fun h2 => ⟨fun h3 => ?_, fun h3 => ?_⟩⟩, fun h4 => ⟨fun h2 => ?_, fun h2 => ⟨fun h3 => ?_, fun h3 => ?_⟩⟩⟩⟩⟩⟩⟩⟩
  · rw [if_pos (Or.inl h1), if_pos (Or.inl h2)] at hp; exact hp
  · rw [if_pos (Or.inl h1), if_neg (fun z => z.elim h2 h3)] at hp; exact hp
  · rw [if_pos (Or.inl h1), if_pos (Or.inr h3)] at hp; exact hp
  · rw [if_neg (fun z => z.elim h1 h4), if_pos (Or.inl h2)] at hp; exact hp
  · rw [if_neg (fun z => z.elim h1 h4), if_neg (fun z => z.elim h2 h3)] at hp; exact hp
  · rw [if_neg (fun z => z.elim h1 h4), if_pos (Or.inr h3)] at hp; exact hp
  · rw [if_pos (Or.inr h4), if_pos (Or.inl h2)] at hp; exact hp
  · rw [if_pos (Or.inr h4), if_neg (fun z => z.elim h2 h3)] at hp; exact hp
  · rw [if_pos (Or.inr h4), if_pos (Or.inr h3)] at hp; exact hp
theorem l_worth {P : KI} {q g : Nat} (hT : isCity T) (hq : tyK q = (1, 8)) (hN : q < nK) (hg : g ≤ 8) (e : a T 2 = nI g) (hp : P (ctWorth (a q) s g) a r nK) : ∀ (m k : Nat), k + m = g → E G MX0_worth (d + 1) C S 5 [.ref T, .ref q, .int s, .int (ctWorth (a q) s k), .int (nI k)] [] (a, r, nK) (RI P) := by
  intro m
  induction m with
  | zero =>
    intro k hk
    obtain rfl : k = g := by omega
    exact V_X0_worth_5 ⟨ct0 hT, ctl hT, fun _ => hp, fun h => absurd (by rw [e]; exact nI_le (Nat.le_refl _) (by omega)) h⟩
  | succ m ih =>
    intro k hk
    refine V_X0_worth_5 ⟨ct0 hT, ctl hT, fun h => absurd h (by rw [e]; exact nI_ge (by omega) (by omega)), fun h => c_at hq (by decide) hN ?_⟩
    rw [nI_1, rAt_nI _ (by decide) (by omega)]
    exact ih (k + 1) (by omega)
theorem c_worth {P : KI} {q g : Nat} (hT : isCity T) (hq : tyK q = (1, 8)) (hN : q < nK) (hg : g ≤ 8) (e : a T 2 = nI g) (hp : P (ctWorth (a q) s g) a r nK) : Sp G (d + 1) 0 0 MX0_worth [.ref T, .ref q, .int s] (a, r, nK) (RI P) := V_X0_worth_0 (l_worth hT hq hN hg e hp g 0 (by omega))
theorem c_worthToOne {P : KI} {g : Nat} (hr : Rk r) (hT : isCity T) (hg : g ≤ 8) (e : a T 2 = nI g) (hp : P (ctWorth (a (T + 10)) s g) a r nK) : Sp G (d + 2) 0 0 MX0_worthToOne [.ref T, .int s] (a, r, nK) (RI P) :=
  V_X0_worthToOne_0 ⟨ct0 hT, ctl hT, _, ctr13 hr hT, ct0 hT, ctl hT, c_worth hT (ctt13 hT) (ctn13 hT) hg e hp⟩
theorem c_worthToOther {P : KI} {g : Nat} (hr : Rk r) (hT : isCity T) (hg : g ≤ 8) (e : a T 2 = nI g) (hp : P (ctWorth (a (T + 11)) s g) a r nK) : Sp G (d + 2) 0 0 MX0_worthToOther [.ref T, .int s] (a, r, nK) (RI P) :=
  V_X0_worthToOther_0 ⟨ct0 hT, ctl hT, _, ctr14 hr hT, ct0 hT, ctl hT, c_worth hT (ctt14 hT) (ctn14 hT) hg e hp⟩
theorem c_laneX {P : KI} (hT : isCity T) (hp : P (a T 15 - a T 17 * s) a r nK) : Sp G d 0 0 MX0_laneX [.ref T, .int s] (a, r, nK) (RI P) := V_X0_laneX_0 ⟨ct0 hT, ctl hT, ct0 hT, ctl hT, hp⟩
theorem c_laneY {P : KI} (hT : isCity T) (hp : P (a T 16 + a T 18 * s) a r nK) : Sp G d 0 0 MX0_laneY [.ref T, .int s] (a, r, nK) (RI P) := V_X0_laneY_0 ⟨ct0 hT, ctl hT, ct0 hT, ctl hT, hp⟩
theorem l_cornersAt {P : KI} {g : Nat} (hr : Rk r) (hT : isCity T) (hg : g ≤ 10) (e : a T 0 = nI g) (hp : P (bitsOf (fun c => decide (a (T + 1) c = x) && decide (a (T + 2) c = y)) g) a r nK) : ∀ (m k : Nat), k + m = g → E G MX0_cornersAt (d + 1) C S 5 [.ref T, .int x, .int y, .int (bitsOf (fun c => decide (a (T + 1) c = x) && decide (a (T + 2) c = y)) k), .int (nI k)] [] (a, r, nK) (RI P) := by
  intro m
  induction m with
  | zero =>
    intro k hk
    obtain rfl : k = g := by omega
    exact V_X0_cornersAt_5 ⟨ct0 hT, ctl hT, fun _ => hp, fun h => absurd (by rw [e]; exact nI_le (Nat.le_refl _) (by omega)) h⟩
  | succ m ih =>
    intro k hk
    have ih := ih (k + 1) (by omega)
    rw [← nI_1, bitsOf] at ih
    refine V_X0_cornersAt_5 ⟨ct0 hT, ctl hT, fun h => absurd h (by rw [e]; exact nI_ge (by omega) (by omega)), fun h => ⟨ct0 hT, ctl hT, _, ctr4 hr hT, ca4 hT ?_⟩⟩
    rw [rAt_nI _ (by decide) (by omega)]
    refine ⟨fun h1 => ?_, fun h1 => ⟨ct0 hT, ctl hT, _, ctr5 hr hT, ca5 hT ?_⟩⟩
    · rw [if_neg (by simp [h1])] at ih; exact ih
    · rw [rAt_nI _ (by decide) (by omega)]
      refine ⟨fun h2 => ?_, fun h2 => ?_⟩
      · rw [if_neg (by simp [h2])] at ih; exact ih
      · rw [if_pos (by simp [h1, h2])] at ih; exact ih
theorem c_cornersAt {P : KI} {g : Nat} (hr : Rk r) (hT : isCity T) (hg : g ≤ 10) (e : a T 0 = nI g) (hp : P (bitsOf (fun c => decide (a (T + 1) c = x) && decide (a (T + 2) c = y)) g) a r nK) : Sp G (d + 1) 0 0 MX0_cornersAt [.ref T, .int x, .int y] (a, r, nK) (RI P) := V_X0_cornersAt_0 (l_cornersAt hr hT hg e hp g 0 (by omega))
theorem c_setLane {P : KN} (hT : isCity T) (hp : P (ctLane a T x y u v) r nK) : Sp G d 0 0 MX0_setLane [.ref T, .int x, .int y, .int u, .int v] (a, r, nK) (RN P) :=
  V_X0_setLane_0 ⟨ct0 hT, ctl hT, fun a1 e1 => ⟨ct0 hT, ctl hT, fun a2 e2 => ⟨ct0 hT, ctl hT, fun a3 e3 => ⟨ct0 hT, ctl hT, fun a4 e4 => by subst e1 e2 e3 e4; exact hp⟩⟩⟩⟩
theorem c_clear {P : KN} (hr : Rk r) (hT : isCity T) (hp : P (ctClear a T) r nK) : Sp G (d + 1) 0 0 MX0_clear [.ref T] (a, r, nK) (RN P) :=
  V_X0_clear_0 ⟨ct0 hT, ctl hT, fun a1 e1 => ⟨ct0 hT, ctl hT, fun a2 e2 => ⟨ct0 hT, ctl hT, fun a3 e3 => ⟨ct0 hT, ctl hT, fun a4 e4 => by
    subst e1 e2 e3 e4
    exact ⟨ct0 hT, ctl hT, _, ctr11 hr hT, c_fill (ctt11 hT) (by decide) (ctn11 hT) ⟨ct0 hT, ctl hT, _, ctr12 hr hT, c_fill (ctt12 hT) (by decide) (ctn12 hT) ⟨ct0 hT, ctl hT, c_setLane hT hp⟩⟩⟩⟩⟩⟩⟩
theorem c_addCorner {P : KN} (hr : Rk r) (hT : isCity T) (hp : P (ctCorner a T x y) r nK) : Sp G (d + 1) 0 0 MX0_addCorner [.ref T, .int x, .int y] (a, r, nK) (RN P) := by
  refine V_X0_addCorner_0 ⟨ct0 hT, ctl hT, _, ctr4 hr hT, ct0 hT, ctl hT, cp4 hT ⟨ct0 hT, ctl hT, _, ctr5 hr hT, ct0 hT, ctl hT, cp5 hT ⟨ct0 hT, ctl hT, ct0 hT, ctl hT, fun a9 e9 => ?_⟩⟩⟩
  subst e9
  simp only [va_up_ne _ _ (show T ≠ T + 1 by omega), va_up_ne _ _ (show T ≠ T + 2 by omega)]
  exact hp
theorem c_addGood {P : KN} (hr : Rk r) (hT : isCity T) (hp : P (ctGood a T x y) r nK) : Sp G (d + 1) 0 0 MX0_addGood [.ref T, .int x, .int y] (a, r, nK) (RN P) := by
  refine V_X0_addGood_0 ⟨ct0 hT, ctl hT, _, ctr13 hr hT, ct0 hT, ctl hT, cp13 hT ⟨ct0 hT, ctl hT, _, ctr14 hr hT, ct0 hT, ctl hT, cp14 hT ⟨ct0 hT, ctl hT, ct0 hT, ctl hT, fun a9 e9 => ?_⟩⟩⟩
  subst e9
  simp only [va_up_ne _ _ (show T ≠ T + 10 by omega), va_up_ne _ _ (show T ≠ T + 11 by omega)]
  exact hp
theorem c_setLiking {P : KN} (hr : Rk r) (hT : isCity T) (hp : P (ctLikes a T s o x) r nK) : Sp G (d + 1) 0 0 MX0_setLiking [.ref T, .int s, .int o, .int x] (a, r, nK) (RN P) :=
  V_X0_setLiking_0 ⟨ct0 hT, ctl hT, _, ctr11 hr hT, cp11 hT hp⟩
theorem c_forbid {P : KN} (hr : Rk r) (hT : isCity T) (hp : P (ctForbid a T s o) r nK) : Sp G (d + 1) 0 0 MX0_forbid [.ref T, .int s, .int o] (a, r, nK) (RN P) :=
  V_X0_forbid_0 ⟨ct0 hT, ctl hT, _, ctr12 hr hT, ct0 hT, ctl hT, _, ctr12 hr hT, ca12 hT (cp12 hT ⟨ct0 hT, ctl hT, _, ctr12 hr hT, ct0 hT, ctl hT, _, ctr12 hr hT, ca12 hT (cp12 hT hp)⟩)⟩
theorem c_addStreet {P : KN} (hr : Rk r) (hT : isCity T) (hp : P (ctStreet a T s o x y) r nK) : Sp G (d + 1) 0 0 MX0_addStreet [.ref T, .int s, .int o, .int x, .int y] (a, r, nK) (RN P) := by
  refine V_X0_addStreet_0 ⟨ct0 hT, ctl hT, _, ctr6 hr hT, ct0 hT, ctl hT, cp6 hT ⟨ct0 hT, ctl hT, _, ctr7 hr hT, ct0 hT, ctl hT, cp7 hT ⟨ct0 hT, ctl hT, _, ctr8 hr hT, ct0 hT, ctl hT, cp8 hT ⟨ct0 hT, ctl hT, _, ctr9 hr hT, ct0 hT, ctl hT, cp9 hT ⟨ct0 hT, ctl hT, _, ctr10 hr hT, ct0 hT, ctl hT, ct0 hT, ctl hT, _, ctr4 hr hT, ca4 hT ⟨ct0 hT, ctl hT, _, ctr4 hr hT, ca4 hT ⟨ct0 hT, ctl hT, _, ctr5 hr hT, ca5 hT ⟨ct0 hT, ctl hT, _, ctr5 hr hT, ca5 hT (cp10 hT ⟨ct0 hT, ctl hT, ct0 hT, ctl hT, fun a9 e9 => ?_⟩)⟩⟩⟩⟩⟩⟩⟩⟩
  subst e9
  simp only [va_up_ne _ _ (show T ≠ T + 3 by omega), va_up_ne _ _ (show T ≠ T + 4 by omega), va_up_ne _ _ (show T ≠ T + 5 by omega), va_up_ne _ _ (show T ≠ T + 6 by omega), va_up_ne _ _ (show T ≠ T + 7 by omega),
    va_up_ne _ _ (show T + 1 ≠ T + 3 by omega), va_up_ne _ _ (show T + 1 ≠ T + 4 by omega), va_up_ne _ _ (show T + 1 ≠ T + 5 by omega), va_up_ne _ _ (show T + 1 ≠ T + 6 by omega),
    va_up_ne _ _ (show T + 2 ≠ T + 3 by omega), va_up_ne _ _ (show T + 2 ≠ T + 4 by omega), va_up_ne _ _ (show T + 2 ≠ T + 5 by omega), va_up_ne _ _ (show T + 2 ≠ T + 6 by omega)]
  exact hp
def lfBegin (a : IA) (T : Nat) (f : Nat → Int32) : Nat → Nat → Int32
  | 0 => f
  | k + 1 => rPut (rPut (lfBegin a T f k) 42 (0 + nI k) (-1)) 42 (24 + nI k) (ctFirst a T (nI k))
theorem ctFirst_up {q : Nat} {g : Nat → Int32} (h0 : T ≠ q) (h1 : T + 6 ≠ q) : ctFirst (va_up a q g) T s = ctFirst a T s := by
  unfold ctFirst
  rw [va_up_ne _ _ h0, va_up_ne _ _ h1]
theorem l_begin {q : Nat} {P : KN} {f : Nat → Int32} (hr : Rk r) (hq : isLife q) (hT : isCity T) : ∀ (m k : Nat), k + m = 8 → P (va_up a (q + 1) (lfBegin a T f 8)) r nK → E G MX4_begin (d + 2) C S 10 [.ref q, .ref T, .int (nI k)] [] (va_up a (q + 1) (lfBegin a T f k), r, nK) (RN P) := by
  obtain ⟨t0, t1, l0, l1, e0⟩ := life_k hr hq
  have n0 : T ≠ q + 1 := by rcases hT with rfl | rfl <;> rcases hq with rfl | rfl <;> decide
  have n1 : T + 6 ≠ q + 1 := by rcases hT with rfl | rfl <;> rcases hq with rfl | rfl <;> decide
  intro m
  induction m with
  | zero =>
    intro k hk hp
    obtain rfl : k = 8 := by omega
    exact V_X4_begin_10 ⟨fun _ => hp, fun h => absurd (by decide) h⟩
  | succ m ih =>
    intro k hk hp
    have ih := ih (k + 1) (by omega) hp
    rw [lfBegin, ← nI_1] at ih
    refine V_X4_begin_10 ⟨fun h => absurd h (nI_ge (b := 8) (by omega) (by omega)), fun h => ⟨t0, l0, _, e0, c_put t1 (by decide) l1 ⟨t0, l0, _, e0, ct0 hT, ctl hT, c_firstTreesOf hr hT (c_put t1 (by decide) l1 ?_)⟩⟩⟩
    rw [ctFirst_up n0 n1, ctFirst_up n0 n1]
    simp only [bx_uu, va_up_self]
    exact ih
theorem c_begin {q : Nat} {P : KN} (hr : Rk r) (hq : isLife q) (hT : isCity T) (hp : P (va_up a (q + 1) (lfBegin a T (fun j => if j < 42 then 0 else a (q + 1) j) 8)) r nK) : Sp G (d + 2) 0 0 MX4_begin [.ref q, .ref T] (a, r, nK) (RN P) := by
  obtain ⟨t0, t1, l0, l1, e0⟩ := life_k hr hq
  exact V_X4_begin_0 ⟨t0, l0, _, e0, c_fill t1 (by decide) l1 (l_begin (f := fun j => if j < 42 then 0 else a (q + 1) j) hr hq hT 8 0 (by omega) hp)⟩
end CI
