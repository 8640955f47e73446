/-! reading: the text's meaning, and the readers of Text in these words -/
def pNum (B : Nat → Int32) (n : Nat) (lo hi : Int32) (p : Nat) : (Int32 × Nat) ⊕ (Int32 × Nat) :=
  if skB B n p = dgE B n (skB B n p) then .inr (1, skB B n p) else if lo ≤ nAt B n (skB B n p) ∧ nAt B n (skB B n p) ≤ hi then .inl (nAt B n (skB B n p), dgE B n (skB B n p)) else .inr (2, skB B n p)
def pSign (B : Nat → Int32) (n : Nat) (c : Int32) (p : Nat) : Nat ⊕ (Int32 × Nat) := if bAt B n (skB B n p) = c then .inl (skB B n p + 1) else .inr (1, skB B n p)
def pOther (B : Nat → Int32) (n : Nat) (but many : Int32) (p : Nat) : (Int32 × Nat) ⊕ (Int32 × Nat) := match pNum B n 0 (many - 1) p with
  | .inl (v, e) => if v = but then .inr (2, skB B n p) else .inl (v, e)
  | .inr x => .inr x
def TXr (g : Nat → Int32) (n p s : Nat) (k f : Int32) : Prop := g 1 = nI n ∧ g 2 = nI p ∧ g 3 = nI s ∧ g 4 = k ∧ g 5 = f
theorem TXr.up {g : Nat → Int32} {a : IA} {n p s : Nat} {k f : Int32} (h : TXr g n p s k f) : TX (va_up a 2 g) n p s k f := by
  unfold TX
  rw [va_up_self]
  exact h
theorem off_eq {q : Nat} {a a' : IA} (h : off q a a') : a' = va_up a q (a' q) := by
  funext k
  unfold va_up
  split
  · next e => rw [e]
  · next e => exact h k e
theorem By.up {a : IA} {B : Nat → Int32} {n : Nat} {g : Nat → Int32} (h : By a B n) : By (va_up a 2 g) B n := ⟨h.1, fun i hi => by rw [va_up_ne _ _ (by decide)]; exact h.2 i hi⟩
theorem off_up {a a' : IA} {g : Nat → Int32} (h : off 2 (va_up a 2 g) a') : a' = va_up a 2 (a' 2) := by
  have := off_eq h
  rw [bx_uu] at this
  exact this
theorem skB_le {B : Nat → Int32} {n p : Nat} (h : p ≤ n) : p ≤ skB B n p ∧ skB B n p ≤ n := run_le h
theorem dgE_le {B : Nat → Int32} {n p : Nat} (h : p ≤ n) : p ≤ dgE B n p ∧ dgE B n p ≤ n := run_le h
theorem ltE_le {B : Nat → Int32} {n p : Nat} (h : p ≤ n) : p ≤ ltE B n p ∧ ltE B n p ≤ n := run_le h
section TT
variable {G : GE} {d C S : Nat} {a : IA} {r : RA} {B : Nat → Int32} {n p s : Nat} {k f x : Int32} {g : Nat → Int32}
theorem t_num {P : KI} {lo hi : Int32} (hr : Rk r) (hB : By a B n) (hx : TXr g n p s k f) (hpn : p ≤ n)
    (hy : ∀ v e, pNum B n lo hi p = .inl (v, e) → p < e → e ≤ n → lo ≤ v → v ≤ hi → ∀ g' s', TXr g' n e s' k f → P v (va_up a 2 g') r nK)
    (hf : ∀ c q, pNum B n lo hi p = .inr (c, q) → ∀ g' p' s', TXr g' n p' s' c (nI q) → P (-1) (va_up a 2 g') r nK) : Sp G (d + 1) 0 0 MX10_readNumber [.ref 2, .int lo, .int hi] (va_up a 2 g, r, nK) (RI P) := by
  have h1 := skB_le (B := B) hpn
  have h2 := dgE_le (B := B) h1.2
  refine c_readNumber hr hB.up hx.up hpn (fun h3 h4 h5 a' h6 h7 => ?_) (fun h3 h4 a' h6 h7 => ?_) (fun h3 a' h6 h7 => ?_)
  · rw [off_up h7]
    exact hy _ _ (by unfold pNum; rw [if_neg (by omega), if_pos ⟨h4, h5⟩]) (by omega) h2.2 h4 h5 _ _ h6
  · rw [off_up h7]
    exact hf _ _ (by unfold pNum; rw [if_neg (by omega), if_neg h4]) _ _ _ h6
  · rw [off_up h7]
    exact hf _ _ (by unfold pNum; rw [if_pos h3]) _ _ _ h6
theorem t_take {P : KI} (hr : Rk r) (hB : By a B n) (hx : TXr g n p s k f) (hpn : p ≤ n)
    (hy : ∀ e, pSign B n x p = .inl e → p < e → (x ≠ -1 → e ≤ n) → ∀ g' s', TXr g' n e s' k f → P 1 (va_up a 2 g') r nK)
    (hf : ∀ c q, pSign B n x p = .inr (c, q) → ∀ g' p' s', TXr g' n p' s' c (nI q) → P 0 (va_up a 2 g') r nK) : Sp G (d + 1) 0 0 MX10_take [.ref 2, .int x] (va_up a 2 g, r, nK) (RI P) := by
  have h1 := skB_le (B := B) hpn
  refine c_take hr hB.up hx.up hpn (fun h3 a' h6 h7 => ?_) (fun h3 a' h6 h7 => ?_)
  · rw [off_up h7]
    refine hy _ (by unfold pSign; rw [if_pos h3]) (by omega) (fun h4 => ?_) _ _ h6
    unfold bAt at h3
    split at h3
    · omega
    · exact absurd h3.symm h4
  · rw [off_up h7]
    exact hf _ _ (by unfold pSign; rw [if_neg h3]) _ _ _ h6
theorem t_mark {P : KI} (hx : TXr g n p s k f) (hp : ∀ g', TXr g' n p s x (nI s) → P 0 (va_up a 2 g') r nK) : Sp G d 0 0 MX10_mark [.ref 2, .int x] (va_up a 2 g, r, nK) (RI P) :=
  c_mark hx.up (fun a' h1 h2 => by rw [off_up h2]; exact hp _ h1)
theorem t_atEnd {P : KI} (hr : Rk r) (hB : By a B n) (hx : TXr g n p s k f) (hpn : p ≤ n) (hp : ∀ g', TXr g' n (skB B n p) (skB B n p) k f → P (if skB B n p < n then 0 else 1) (va_up a 2 g') r nK) : Sp G (d + 1) 0 0 MX10_atEnd [.ref 2] (va_up a 2 g, r, nK) (RI P) :=
  c_atEnd hr hB.up hx.up hpn (fun a' h1 h2 => by rw [off_up h2]; exact hp _ h1)
theorem t_sees {P : KI} (hr : Rk r) (hB : By a B n) (hx : TXr g n p s k f) (hpn : p ≤ n) (hp : ∀ g', TXr g' n (skB B n p) (skB B n p) k f → P (if bAt B n (skB B n p) = x then 1 else 0) (va_up a 2 g') r nK) : Sp G (d + 1) 0 0 MX10_sees [.ref 2, .int x] (va_up a 2 g, r, nK) (RI P) :=
  c_sees hr hB.up hx.up hpn (fun a' h1 h2 => by rw [off_up h2]; exact hp _ h1)
theorem t_seesDigit {P : KI} (hr : Rk r) (hB : By a B n) (hx : TXr g n p s k f) (hpn : p ≤ n) (hp : ∀ g', TXr g' n (skB B n p) (skB B n p) k f → P (if isD (bAt B n (skB B n p)) then 1 else 0) (va_up a 2 g') r nK) : Sp G (d + 1) 0 0 MX10_seesDigit [.ref 2] (va_up a 2 g, r, nK) (RI P) :=
  c_seesDigit hr hB.up hx.up hpn (fun a' h1 h2 => by rw [off_up h2]; exact hp _ h1)
theorem t_readWord {P : KN} (hr : Rk r) (hB : By a B n) (hx : TXr g n p s k f) (hpn : p ≤ n) (hp : ∀ g', TXr g' n (ltE B n (skB B n p)) (skB B n p) k f → P (va_up a 2 g') r nK) : Sp G (d + 1) 0 0 MX10_readWord [.ref 2] (va_up a 2 g, r, nK) (RN P) :=
  c_readWord hr hB.up hx.up hpn (fun a' h1 h2 => by rw [off_up h2]; exact hp _ h1)
theorem t_wordIs {P : KI} {i : Nat} {w : UInt32} (hr : Rk r) (hB : By a B n) (hx : TXr g n p s k f) (hsp : s ≤ p) (hpn : p ≤ n) (hi : i < strN) (hw : w.toNat = i + 1) (hp : P (if isW B s p i then 1 else 0) (va_up a 2 g) r nK) : Sp G (d + 5) 0 0 MX10_wordIs [.ref 2, .float w] (va_up a 2 g, r, nK) (RI P) :=
  c_wordIs hr hB.up hx.up hsp hpn hi hw hp
end TT
/-! City's clauses -/
def ctKind (B : Nat → Int32) (s p : Nat) : Int32 := if isW B s p 1 then 1 else if isW B s p 2 then 2 else if isW B s p 3 then 3 else if isW B s p 4 then 4 else if isW B s p 5 then 5 else if isW B s p 6 then 6 else if isW B s p 7 then 7 else 0
/-- a clause: kind and four numbers -/
abbrev Cl : Type := Int32 × Int32 × Int32 × Int32 × Int32
def sB {α β γ : Type} (x : α ⊕ γ) (f : α → β ⊕ γ) : β ⊕ γ := match x with
  | .inl v => f v
  | .inr e => .inr e
theorem sB_l {α β γ : Type} {x : α ⊕ γ} {v : α} {f : α → β ⊕ γ} (h : x = .inl v) : sB x f = f v := by rw [h]; rfl
theorem sB_r {α β γ : Type} {x : α ⊕ γ} {e : γ} {f : α → β ⊕ γ} (h : x = .inr e) : sB x f = .inr e := by rw [h]; rfl
def pFields (B : Nat → Int32) (n : Nat) (kind nc ns : Int32) (p : Nat) : (Cl × Nat) ⊕ (Int32 × Nat) :=
  if kind = 1 then sB (pNum B n 0 60 p) fun x => sB (pNum B n 0 60 x.2) fun y => .inl ((1, x.1, y.1, 0, 0), y.2)
  else if kind = 2 then sB (pNum B n 0 (nc - 1) p) fun x => sB (pOther B n x.1 nc x.2) fun y => sB (pNum B n 1 20 y.2) fun u => sB (pNum B n 0 20 u.2) fun v => .inl ((2, x.1, y.1, u.1, v.1), v.2)
  else if kind = 3 then sB (pNum B n 0 (ns - 1) p) fun x => sB (pOther B n x.1 ns x.2) fun y => sB (pNum B n 0 9 y.2) fun u => .inl ((3, x.1, y.1, u.1, 0), u.2)
  else if kind = 4 then sB (pNum B n 0 (ns - 1) p) fun x => sB (pOther B n x.1 ns x.2) fun y => .inl ((4, x.1, y.1, 0, 0), y.2)
  else if kind = 5 then sB (pNum B n 0 9 p) fun x => sB (pNum B n 0 9 x.2) fun y => .inl ((5, x.1, y.1, 0, 0), y.2)
  else if kind = 6 then sB (pNum B n 0 60 p) fun x => sB (pNum B n 0 60 x.2) fun y => sB (pNum B n 0 9 y.2) fun u => sB (pNum B n 0 9 u.2) fun v => .inl ((6, x.1, y.1, u.1, v.1), v.2)
  else sB (pNum B n 0 60 p) fun x => .inl ((7, x.1, 0, 0, 0), x.2)
def ctFull (kind nc ns ng : Int32) : Bool := (decide (kind = 1) && decide (10 ≤ nc)) || (decide (kind = 2) && decide (8 ≤ ns)) || (decide (kind = 5) && decide (8 ≤ ng))
/-- a clause, m stand ahead -/
def pClause (B : Nat → Int32) (n m : Nat) (nc ns ng : Int32) (p : Nat) : (Cl × Nat) ⊕ (Int32 × Nat) :=
  if ctKind B (skB B n p) (ltE B n (skB B n p)) = 0 then .inr (1, skB B n p)
  else if 60 ≤ m ∨ ctFull (ctKind B (skB B n p) (ltE B n (skB B n p))) nc ns ng = true then .inr (3, skB B n p)
  else sB (pFields B n (ctKind B (skB B n p) (ltE B n (skB B n p))) nc ns (ltE B n (skB B n p))) fun c => sB (pSign B n 59 c.2) fun e => .inl (c.1, e)
def ctDo (a : IA) (T : Nat) (c : Cl) : IA :=
  if c.1 = 1 then ctCorner a T c.2.1 c.2.2.1
  else if c.1 = 2 then ctStreet a T c.2.1 c.2.2.1 c.2.2.2.1 c.2.2.2.2
  else if c.1 = 3 then ctLikes a T c.2.1 c.2.2.1 c.2.2.2.1
  else if c.1 = 4 then ctForbid a T c.2.1 c.2.2.1
  else if c.1 = 5 then ctGood a T c.2.1 c.2.2.1
  else if c.1 = 6 then ctLane a T c.2.1 c.2.2.1 c.2.2.2.1 c.2.2.2.2
  else u2 a T 3 c.2.1
section UP
variable {a : IA} {g : Nat → Int32} {T : Nat}
theorem up_put {q : Nat} {v : Nat → Int32} (h : q ≠ 2) : va_up (va_up a 2 g) q v = va_up (va_up a q v) 2 g := up_comm a g v (fun e => h e.symm)
theorem up_at {q : Nat} (h : q ≠ 2) : va_up a 2 g q = a q := va_up_ne _ _ h
theorem isCity.ne {T k : Nat} (hT : isCity T) : T + k ≠ 2 := by rcases hT with rfl | rfl <;> omega
theorem isCity.ne0 {T : Nat} (hT : isCity T) : T ≠ 2 := hT.ne (k := 0)
theorem up_u2 {q j : Nat} {x : Int32} (h : q ≠ 2) : u2 (va_up a 2 g) q j x = va_up (u2 a q j x) 2 g := by unfold u2; rw [up_at h, up_put h]
theorem up_ctPut {q n : Nat} {p x : Int32} (h : q ≠ 2) : ctPut (va_up a 2 g) q n p x = va_up (ctPut a q n p x) 2 g := by unfold ctPut; rw [up_at h, up_put h]
theorem ctDo_up (hT : isCity T) (c : Cl) : ctDo (va_up a 2 g) T c = va_up (ctDo a T c) 2 g := by
  have h0 := hT.ne0
  unfold ctDo
  split
  · simp only [ctCorner, up_at h0, up_ctPut hT.ne, up_u2 h0]
  split
  · simp only [ctStreet, ctLen, up_at h0, up_at (hT.ne (k := 1)), up_at (hT.ne (k := 2)), up_ctPut hT.ne, up_u2 h0]
  split
  · simp only [ctLikes, up_ctPut hT.ne]
  split
  · simp only [ctForbid, up_at (hT.ne (k := 9)), up_ctPut hT.ne]
  split
  · simp only [ctGood, up_at h0, up_ctPut hT.ne, up_u2 h0]
  split
  · simp only [ctLane, up_u2 h0]
  · simp only [up_u2 h0]
theorem ctClear_up (hT : isCity T) : ctClear (va_up a 2 g) T = va_up (ctClear a T) 2 g := by
  have h0 := hT.ne0
  simp only [ctClear, ctClear1, ctClear2, ctClear3, ctLane, up_u2 h0, up_at (hT.ne (k := 8)), up_at (hT.ne (k := 9)), up_put (hT.ne (k := 8)), up_put (hT.ne (k := 9))]
end UP
