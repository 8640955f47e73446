/-! Main: span -/
section SN
variable {G : GE} {d C S : Nat} {a : IA} {r : RA} {N T L M nc ns ng : Nat} {s w x y z sd : Int32} {D : Nat → Int32}
theorem d0_up : d0 (va_up a 46 D) = fun j => if j < 42 then a 44 j else D j := by
  funext j
  unfold d0
  rw [va_up_ne _ _ (by decide), va_up_self]
theorem d0_eq {D : Nat → Int32} : (fun j => if j < 42 then a 44 j else D j) = d0 (va_up a 46 D) := d0_up.symm
/-- one of the futures -/
def snD (a : IA) (n sd q : Int32) (yy k : Nat) (D : Nat → Int32) : Nat → Int32 := (cnX n q (sd + nI k) yy (fun j => if j < 42 then a 44 j else D j)).2.2
def snT (a : IA) (n sd q : Int32) (yy : Nat) (s : Int32) (k : Nat) (x : Sn) : Sn :=
  (if cpl (snD a n sd q yy k x.2.2.2) < x.1 then cpl (snD a n sd q yy k x.2.2.2) else x.1, if x.2.1 < cpl (snD a n sd q yy k x.2.2.2) then cpl (snD a n sd q yy k x.2.2.2) else x.2.1, if lfMate (snD a n sd q yy k x.2.2.2) s = -1 then x.2.2.1 + 0 else x.2.2.1 + 1, snD a n sd q yy k x.2.2.2)
def fSn (X : Sn) (w : Int32) : Int32 := if w = 0 then X.1 else if w = 1 then X.2.1 else X.2.2.1
theorem snT_1 {n q : Int32} {yy k : Nat} {X : Sn} {D' : Nat → Int32} (hD : D' = snD a n sd q yy k X.2.2.2) : snT a n sd q yy s k X = (if cpl D' < X.1 then cpl D' else X.1, if X.2.1 < cpl D' then cpl D' else X.2.1, if lfMate D' s = -1 then X.2.2.1 + 0 else X.2.2.1 + 1, D') := by
  rw [hD, snT]
theorem c_dCpl {P : KI} (hr : Rk r) (hp : P (cpl D) (va_up a 46 D) r nK) : Sp G (d + 2) 0 0 MX4_couples [.ref 45] (va_up a 46 D, r, nK) (RI P) := by
  refine c_couples hr q45 ?_
  rw [show va_up a 46 D (45 + 1) = D from va_up_self _ _ _]
  exact hp
theorem c_dMate {P : KI} (hr : Rk r) (hp : P (lfMate D s) (va_up a 46 D) r nK) : Sp G (d + 1) 0 0 MX4_mateOf [.ref 45, .int s] (va_up a 46 D, r, nK) (RI P) := by
  refine c_mateOf hr q45 ?_
  rw [show va_up a 46 D (45 + 1) = D from va_up_self _ _ _]
  exact hp
theorem c_dream2 {P : KI} {n : Nat} {n1 : Int32} {D D' : Nat → Int32} {k : Nat} (hr : Rk r) (hT : isCity T) (h3 : r 0 3 = .ref T) (hn : n ≤ 100) (hn1 : a T 1 = n1) (hD : D' = snD a n1 sd x n k D) (hp : ∀ v, P v (va_up a 46 D') r nK) : Sp G (d + 5) 0 0 MX11_dreamCenturies [.ref 0, .int (sd + nI k), .int x, .int (nI n)] (va_up a 46 D, r, nK) (RI P) := by
  have hT0 : va_up a 46 D T 1 = n1 := by rw [va_up_ne _ _ (by rcases hT with rfl | rfl <;> decide)]; exact hn1
  refine c_dream hr hT h3 hn ?_
  rw [hT0, d0_up, bx_uu]
  have := hp (cnX n1 x (sd + nI k) n (fun j => if j < 42 then a 44 j else D j)).1
  rw [hD, snD] at this
  exact this
theorem l_span {P : KI} {n many : Nat} {n1 : Int32} {X : Sn} (hr : Rk r) (hT : isCity T) (h3 : r 0 3 = .ref T) (hn : n ≤ 100) (hm : many ≤ 20) (hn1 : a T 1 = n1) (hp : P (fSn X w) (va_up a 46 X.2.2.2) r nK) :
    ∀ (c k : Nat) (y : Sn), k + c = many → X = lpM (snT a n1 sd x n s) c k y → E G MX11_span (d + 6) C S 86 [.ref 0, .int sd, .int (nI many), .int x, .int (nI n), .int w, .int s, .int y.1, .int y.2.1, .int y.2.2.1, .int (nI k)] [] (va_up a 46 y.2.2.2, r, nK) (RI P) := by
  intro c
  induction c with
  | zero =>
    intro k y hk he
    rw [lpM] at he
    rw [he] at hp
    unfold fSn at hp
    refine V_X11_span_86 ⟨fun _ => ⟨fun e0 => ?_, fun e0 => ⟨fun e1 => ?_, fun e1 => ?_⟩⟩, fun h => absurd (nI_le (by omega) (by omega)) h⟩
    · rw [if_pos e0] at hp; exact hp
    · rw [if_neg e0, if_pos e1] at hp; exact hp
    · rw [if_neg e0, if_neg e1] at hp; exact hp
  | succ c ih =>
    intro k y hk he
    rw [lpM] at he
    obtain ⟨D', hD⟩ : ∃ D', D' = snD a n1 sd x n k y.2.2.2 := ⟨_, rfl⟩
    rw [snT_1 hD] at he
    refine V_X11_span_86 ⟨fun h => absurd h (nI_ge (by omega) (by omega)), fun _ => ⟨rfl, by decide, c_dream2 hr hT h3 hn hn1 hD (fun v => ⟨rfl, by decide, 45, rf11 hr, rfl, by decide, c_dCpl hr ⟨rfl, by decide, 45, rf11 hr, rfl, by decide, c_dCpl hr ⟨rfl, by decide, 45, rf11 hr, rfl, by decide, c_dMate hr ⟨fun h5 => ?_, fun h5 => ?_⟩⟩⟩⟩)⟩⟩
    · rw [if_neg h5] at he
      rw [nI_1]
      exact ih (k + 1) (if cpl D' < y.1 then cpl D' else y.1, if y.2.1 < cpl D' then cpl D' else y.2.1, y.2.2.1 + 1, D') (by omega) he
    · rw [if_pos h5] at he
      rw [nI_1]
      exact ih (k + 1) (if cpl D' < y.1 then cpl D' else y.1, if y.2.1 < cpl D' then cpl D' else y.2.1, y.2.2.1 + 0, D') (by omega) he
def snX (a : IA) (n sd q : Int32) (many yy : Nat) (s : Int32) : Sn := lpM (snT a n sd q yy s) many 0 (8, 0, 0, a 46)
theorem c_span {P : KI} {n many : Nat} {n1 : Int32} (hr : Rk r) (hT : isCity T) (h3 : r 0 3 = .ref T) (hn0 : 1 ≤ n) (hn : n ≤ 100) (hm0 : 1 ≤ many) (hm : many ≤ 20) (hn1 : a T 1 = n1) (h1 : inT x 0 16) (hw : inT w 0 2) (hs : inE s n1) (hp : ∀ D, P (fSn (snX a n1 sd x many n s) w) (va_up a 46 D) r nK) : Sp G (d + 6) 0 0 MX11_span [.ref 0, .int sd, .int (nI many), .int x, .int (nI n), .int w, .int s] (a, r, nK) (RI P) := by
  have hy : inT (nI n) 1 100 := ⟨nI_nlt (b := 1) (by omega) (by omega), nI_nlt (a := 100) (by omega) (by decide)⟩
  have hl := l_span (G := G) (d := d) (C := 0) (S := 0) (X := snX a n1 sd x many n s) hr hT h3 hn hm hn1 (hp _) many 0 (8, 0, 0, a 46) (by omega) rfl
  rw [up_same] at hl
  refine V_X11_span_0 ⟨fun e => absurd e (nI_nlt (b := 1) (by omega) (by omega)), fun _ => ⟨fun e => absurd e (nI_nlt (a := 20) (by omega) (by decide)), fun _ => ⟨rfl, by decide, c_need (by decide) ⟨rfl, by decide, c_needCen h1 hy ⟨fun e => absurd e hw.1, fun _ => ⟨fun e => absurd e hw.2, fun _ => V_X11_span_44 ⟨rfl, by decide, c_need (by decide) ⟨fun e => absurd e hs.1, fun _ => ⟨rfl, by decide, _, h3, ct0 hT, ctl hT, fun e => absurd e (by rw [hn1]; exact hs.2), fun _ => ⟨rfl, by decide, c_need (by decide) hl⟩⟩⟩⟩⟩⟩⟩⟩⟩⟩
theorem x_span {P : KX} {m : Int32} (hT : isCity T) (h3 : r 0 3 = .ref T) (h : ¬ (inT m 1 20 ∧ inT x 0 16 ∧ inT y 1 100 ∧ inT w 0 2 ∧ inE s (a T 1))) (hp : P xIl (bump a 19) r nK) : Sp G (d + 9) 1 6 MX11_span [.ref 0, .int sd, .int m, .int x, .int y, .int w, .int s] (a, r, nK) (RX P) := by
  have hx : E G MX11_span (d + 9) (0 + 1) (0 + 6) 44 [.ref 0, .int sd, .int m, .int x, .int y, .int w, .int s, .null, .null, .null, .null] [.int 0, .ref 0] (a, r, nK) (RX P) := VX_X11_span_44 (.inr ⟨rfl, by decide, x_need hp⟩)
  refine VX_X11_span_0 ⟨fun _ => .inr ⟨rfl, by decide, x_need hp⟩, fun h1 => ⟨fun _ => .inr ⟨rfl, by decide, x_need hp⟩, fun h2 => .inl ⟨rfl, by decide, c_need (by decide) ?_⟩⟩⟩
  by_cases h3' : inT x 0 16 ∧ inT y 1 100
  · refine .inl ⟨rfl, by decide, c_needCen h3'.1 h3'.2 ⟨fun _ => hx, fun h4 => ⟨fun _ => hx, fun h5 => VX_X11_span_44 (.inl ⟨rfl, by decide, c_need (by decide) ⟨fun _ => .inr ⟨rfl, by decide, x_need hp⟩, fun h6 => ⟨rfl, by decide, _, h3, ct0 hT, ctl hT, fun _ => .inr ⟨rfl, by decide, x_need hp⟩, fun h7 => absurd ⟨⟨h1, h2⟩, h3'.1, h3'.2, ⟨h4, h5⟩, h6, h7⟩ h⟩⟩⟩)⟩⟩⟩
  · exact .inr ⟨rfl, by decide, x_needCen h3' hp⟩
end SN
