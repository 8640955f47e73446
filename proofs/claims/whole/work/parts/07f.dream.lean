/-! Main: ahead, centuries, span -/
def nx (s : Int32) : Int32 := s * 1103515245 + 12345
def dr15 (s : Int32) : Int32 := ((s.toUInt32 >>> (((16 : Int32)).toUInt32 &&& Int32.toUInt32 31)).toInt32) &&& 32767
def drB (s l : Int32) : Int32 := if l ≤ 0 then 0 else dr15 s - dr15 s / l * l
def cpl (f : Nat → Int32) : Int32 := sI (fun i => if lfRole f (nI i) = 1 then 1 else 0) 8
def hls (f : Nat → Int32) : Int32 := sI (fun i => lfHoles f (nI i)) 8
def lgy (f : Nat → Int32) : Int32 := mI (fun i => lfYears f (nI i)) 8
def d0 (a : IA) : Nat → Int32 := fun j => if j < 42 then a 44 j else a 46 j
def ahD (n : Nat) (D : Nat → Int32) : Nat → Int32 := lpM (fun _ D => (lfTurn D).2) n 0 D
def fAh (D : Nat → Int32) (w : Int32) : Int32 := if w = 0 then cpl D else if w = 1 then hls D else lgy D
abbrev Cn : Type := Int32 × Int32 × (Nat → Int32)
def cnT (x : Cn) (u : Int32) (Q : Int32 × (Nat → Int32)) : Cn := (if Q.1 = 0 then x.1 + 0 else x.1 + 1, u, (lfTurn Q.2).2)
def cnS (n q : Int32) (x : Cn) : Cn := if q ≤ drB (nx x.2.1) 16 ∨ n ≤ 0 then (x.1, nx x.2.1, (lfTurn x.2.2).2) else cnT x (nx (nx x.2.1)) (lfQuar x.2.2 (drB (nx (nx x.2.1)) n))
theorem cnS_1 {n q v b : Int32} {x : Cn} (hv : v = nx x.2.1) (hb : b = drB v 16) (h : q ≤ b ∨ n ≤ 0) : cnS n q x = (x.1, v, (lfTurn x.2.2).2) := by
  subst hb
  subst hv
  rw [cnS, if_pos h]
theorem cnS_2 {n q v b u c : Int32} {x : Cn} {Q : Int32 × (Nat → Int32)} (hv : v = nx x.2.1) (hb : b = drB v 16) (hu : u = nx v) (hc : c = drB u n) (hQ : Q = lfQuar x.2.2 c) (h : ¬ (q ≤ b ∨ n ≤ 0)) : cnS n q x = cnT x u Q := by
  subst hQ
  subst hc
  subst hu
  subst hb
  subst hv
  rw [cnS, if_neg h]
def cnX (n q seed : Int32) (y : Nat) (D : Nat → Int32) : Cn := lpM (fun _ => cnS n q) y 0 (0, seed, D)
def fCn (a : IA) (X : Cn) (w : Int32) : Int32 := if w = 0 then cpl X.2.2 else if w = 1 then rAt X.2.2 42 41 - rAt (a 44) 42 41 else if w = 2 then hls X.2.2 else X.1
abbrev Sn : Type := Int32 × Int32 × Int32 × (Nat → Int32)
def snS (n seed q : Int32) (y : Nat) (s : Int32) (k : Nat) (x : Sn) : Sn :=
  let D := (cnX n q (seed + nI k) y x.2.2.2).2.2
  (if cpl D < x.1 then cpl D else x.1, if x.2.1 < cpl D then cpl D else x.2.1, if lfMate D s = -1 then x.2.2.1 + 0 else x.2.2.1 + 1, D)
section DM
variable {G : GE} {d C S : Nat} {a : IA} {r : RA} {N T L M nc ns ng : Nat} {s w x y z : Int32} {D : Nat → Int32}
theorem rf11 {r : RA} (hr : Rk r) : r 0 11 = .ref 45 := hr.at (by decide)
theorem c_needCen {P : KN} (h1 : inT x 0 16) (h2 : inT y 1 100) (hp : P a r nK) : Sp G (d + 2) 0 0 MX11_needCenturies [.ref 0, .int x, .int y] (a, r, nK) (RN P) := by
  exact V_X11_needCenturies_0 ⟨fun e => absurd e h1.1, fun _ => ⟨fun e => absurd e h1.2, fun _ => ⟨rfl, by decide, c_need (by decide) ⟨fun e => absurd e h2.1, fun _ => ⟨fun e => absurd e h2.2, fun _ => ⟨rfl, by decide, c_need (by decide) hp⟩⟩⟩⟩⟩⟩
theorem x_needCen {P : KX} (h : ¬ (inT x 0 16 ∧ inT y 1 100)) (hp : P xIl (bump a 19) r nK) : Sp G (d + 7) 1 6 MX11_needCenturies [.ref 0, .int x, .int y] (a, r, nK) (RX P) := by
  exact VX_X11_needCenturies_0 ⟨fun _ => .inr ⟨rfl, by decide, x_need hp⟩, fun h1 => ⟨fun _ => .inr ⟨rfl, by decide, x_need hp⟩, fun h2 => .inl ⟨rfl, by decide, c_need (by decide) ⟨fun _ => .inr ⟨rfl, by decide, x_need hp⟩, fun h3 => ⟨fun _ => .inr ⟨rfl, by decide, x_need hp⟩, fun h4 => absurd ⟨⟨h1, h2⟩, h3, h4⟩ h⟩⟩⟩⟩⟩
theorem q45 : isLife 45 := Or.inr rfl
theorem c_dCopy {P : KN} (hr : Rk r) (hp : P (va_up a 46 (d0 a)) r nK) : Sp G (d + 2) 0 0 MX4_copyFrom [.ref 45, .ref 43] (a, r, nK) (RN P) := c_copyFrom hr q45 (Or.inl rfl) (by decide) hp
theorem l_ahead {P : KI} {n : Nat} (hr : Rk r) (hn : n ≤ 60) {D0 : Nat → Int32} (hp : P (fAh (ahD n D0) w) (va_up a 46 (ahD n D0)) r nK) :
    ∀ (c k : Nat) (D : Nat → Int32), k + c = n → ahD n D0 = lpM (fun _ D => (lfTurn D).2) c k D → E G MX11_ahead (d + 6) C S 50 [.ref 0, .int (nI n), .int w, .int (nI k)] [] (va_up a 46 D, r, nK) (RI P) := by
  intro c
  induction c with
  | zero =>
    intro k D hk he
    obtain rfl : k = n := by omega
    rw [he] at hp
    have h46 : va_up a 46 D (45 + 1) = D := va_up_self _ _ _
    unfold fAh cpl hls lgy at hp
    refine V_X11_ahead_50 ⟨fun _ => ⟨fun e0 => ⟨rfl, by decide, 45, rf11 hr, rfl, by decide, c_couples hr q45 ?_⟩, fun e0 => ⟨fun e1 => ⟨rfl, by decide, 45, rf11 hr, rfl, by decide, c_allHoles hr q45 ?_⟩, fun e1 => ⟨rfl, by decide, 45, rf11 hr, rfl, by decide, c_longestYears hr q45 ?_⟩⟩⟩, fun h => absurd (nI_le (by omega) (by omega)) h⟩
    · rw [h46]; rw [if_pos e0] at hp; exact hp
    · rw [h46]; rw [if_neg e0, if_pos e1] at hp; exact hp
    · rw [h46]; rw [if_neg e0, if_neg e1] at hp; exact hp
  | succ c ih =>
    intro k D hk he
    refine V_X11_ahead_50 ⟨fun h => absurd h (nI_ge (by omega) (by omega)), fun _ => ⟨rfl, by decide, 45, rf11 hr, rfl, by decide, c_turnYear hr q45 ?_⟩⟩
    rw [show va_up a 46 D (45 + 1) = D from va_up_self _ _ _, show (45 : Nat) + 1 = 46 from rfl, bx_uu, nI_1]
    exact ih (k + 1) _ (by omega) he
theorem c_ahead {P : KI} {n : Nat} (hr : Rk r) (hn : n ≤ 60) (hw : inT w 0 2) (hp : ∀ D, P (fAh (ahD n (d0 a)) w) (va_up a 46 D) r nK) : Sp G (d + 6) 0 0 MX11_ahead [.ref 0, .int (nI n), .int w] (a, r, nK) (RI P) := by
  refine V_X11_ahead_0 ⟨fun e => absurd e (nI_pos (by omega)), fun _ => ⟨fun e => absurd e (nI_nlt (a := 60) (b := n) (by omega) (by decide)), fun _ => ?_⟩⟩
  exact V_X11_ahead_16 ⟨rfl, by decide, c_need (by decide) ⟨fun e => absurd e hw.1, fun _ => ⟨fun e => absurd e hw.2, fun _ => ⟨rfl, by decide, c_need (by decide) ⟨rfl, by decide, 45, rf11 hr, rfl, by decide, 43, rf10 hr, rfl, by decide, c_dCopy hr (l_ahead hr hn (hp _) n 0 (d0 a) (by omega) rfl)⟩⟩⟩⟩⟩
theorem x_ahead {P : KX} {n : Int32} (h : ¬ (inT n 0 60 ∧ inT w 0 2)) (hp : P xIl (bump a 19) r nK) : Sp G (d + 8) 1 6 MX11_ahead [.ref 0, .int n, .int w] (a, r, nK) (RX P) := by
  exact VX_X11_ahead_0 ⟨fun _ => VX_X11_ahead_16 (.inr ⟨rfl, by decide, x_need hp⟩), fun h1 => ⟨fun _ => VX_X11_ahead_16 (.inr ⟨rfl, by decide, x_need hp⟩), fun h2 => VX_X11_ahead_16 (.inl ⟨rfl, by decide, c_need (by decide) ⟨fun _ => .inr ⟨rfl, by decide, x_need hp⟩, fun h3 => ⟨fun _ => .inr ⟨rfl, by decide, x_need hp⟩, fun h4 => absurd ⟨⟨h1, h2⟩, h3, h4⟩ h⟩⟩⟩)⟩⟩
theorem c_nextSeed {P : KI} {v : Int32} (hv : v = nx s) (hp : P v a r N) : Sp G d 0 0 MX11_nextSeed [.int s] (a, r, N) (RI P) := V_X11_nextSeed_0 (by rw [hv, nx] at hp; exact hp)
theorem c_drawBelow {P : KI} {v : Int32} (hv : v = drB s x) (hp : P v a r N) : Sp G d 0 0 MX11_drawBelow [.int s, .int x] (a, r, N) (RI P) := by
  rw [hv] at hp
  unfold drB at hp
  refine V_X11_drawBelow_0 ⟨fun h => ?_, fun h => ⟨fun e => h (by rw [e]; decide), ?_⟩⟩
  · rw [if_pos h] at hp; exact hp
  · rw [if_neg h] at hp; exact hp
theorem c_dQuar {P : KI} {Q : Int32 × (Nat → Int32)} {D : Nat → Int32} (hr : Rk r) (hQ : Q = lfQuar D s) (hp : P Q.1 (va_up a 46 Q.2) r nK) : Sp G (d + 2) 0 0 MX4_quarrelIn [.ref 45, .int s] (va_up a 46 D, r, nK) (RI P) := by
  refine c_quarrelIn hr q45 ?_
  rw [show va_up a 46 D (45 + 1) = D from va_up_self _ _ _, show (45 : Nat) + 1 = 46 from rfl, bx_uu, ← hQ]
  exact hp
theorem c_dTurn {P : KI} {D : Nat → Int32} (hr : Rk r) (hp : ∀ v, P v (va_up a 46 (lfTurn D).2) r nK) : Sp G (d + 4) 0 0 MX4_turnYear [.ref 45] (va_up a 46 D, r, nK) (RI P) := by
  refine c_turnYear hr q45 ?_
  rw [show va_up a 46 D (45 + 1) = D from va_up_self _ _ _, show (45 : Nat) + 1 = 46 from rfl, bx_uu]
  exact hp _
theorem l_dream {P : KI} {n : Nat} {X : Cn} (hr : Rk r) (hT : isCity T) (h3 : r 0 3 = .ref T) (hn : n ≤ 100) (hp : P X.1 (va_up a 46 X.2.2) r nK) :
    ∀ (c k : Nat) (y : Cn), k + c = n → X = lpM (fun _ => cnS (a T 1) x) c k y → E G MX11_dreamCenturies (d + 5) C S 20 [.ref 0, .null, .int x, .int (nI n), .int y.1, .int y.2.1, .int (nI k)] [] (va_up a 46 y.2.2, r, nK) (RI P) := by
  have hT0 : ∀ z, va_up a 46 z T 1 = a T 1 := fun z => by rw [va_up_ne _ _ (by rcases hT with rfl | rfl <;> decide)]
  have h46 : ∀ z, va_up a 46 z (45 + 1) = z := fun z => va_up_self _ _ _
  intro c
  induction c with
  | zero =>
    intro k y hk he
    rw [he] at hp
    exact V_X11_dreamCenturies_20 ⟨fun _ => hp, fun h => absurd (nI_le (by omega) (by omega)) h⟩
  | succ c ih =>
    intro k y hk he
    rw [lpM] at he
    obtain ⟨v, hv⟩ : ∃ v, v = nx y.2.1 := ⟨_, rfl⟩
    obtain ⟨b, hb⟩ : ∃ b, b = drB v 16 := ⟨_, rfl⟩
    obtain ⟨u, hu⟩ : ∃ u, u = nx v := ⟨_, rfl⟩
    obtain ⟨b2, hb2⟩ : ∃ b, b = drB u (a T 1) := ⟨_, rfl⟩
    obtain ⟨Q, hQ⟩ : ∃ Q, Q = lfQuar y.2.2 b2 := ⟨_, rfl⟩
    refine V_X11_dreamCenturies_20 ⟨fun h => absurd h (nI_ge (by omega) (by omega)), fun _ => c_nextSeed hv (c_drawBelow hb ⟨fun h1 => ⟨rfl, by decide, 45, rf11 hr, rfl, by decide, c_dTurn hr (fun v' => ?_)⟩, fun h1 => ⟨rfl, by decide, _, h3, ct0 hT, ctl hT, ?_⟩⟩)⟩
    · rw [nI_1]
      rw [cnS_1 hv hb (Or.inl h1)] at he
      exact ih (k + 1) (y.1, v, (lfTurn y.2.2).2) (by omega) he
    rw [hT0]
    refine ⟨fun h2 => ⟨rfl, by decide, 45, rf11 hr, rfl, by decide, c_dTurn hr (fun v' => ?_)⟩, fun h2 => c_nextSeed hu ⟨rfl, by decide, 45, rf11 hr, rfl, by decide, _, h3, ct0 hT, ctl hT, ?_⟩⟩
    · rw [nI_1]
      rw [cnS_1 hv hb (Or.inr h2)] at he
      exact ih (k + 1) (y.1, v, (lfTurn y.2.2).2) (by omega) he
    rw [hT0]
    rw [cnS_2 hv hb hu hb2 hQ (fun z => Or.elim z h1 h2), cnT] at he
    refine c_drawBelow hb2 ⟨rfl, by decide, c_dQuar hr hQ ⟨fun h5 => ⟨rfl, by decide, 45, rf11 hr, rfl, by decide, c_dTurn hr (fun v' => ?_)⟩, fun h5 => ⟨rfl, by decide, 45, rf11 hr, rfl, by decide, c_dTurn hr (fun v' => ?_)⟩⟩⟩
    · rw [nI_1]
      rw [if_pos h5] at he
      exact ih (k + 1) (y.1 + 0, u, (lfTurn Q.2).2) (by omega) he
    · rw [nI_1]
      rw [if_neg h5] at he
      exact ih (k + 1) (y.1 + 1, u, (lfTurn Q.2).2) (by omega) he
theorem c_dream {P : KI} {n : Nat} (hr : Rk r) (hT : isCity T) (h3 : r 0 3 = .ref T) (hn : n ≤ 100) (hp : P (cnX (a T 1) x s n (d0 a)).1 (va_up a 46 (cnX (a T 1) x s n (d0 a)).2.2) r nK) : Sp G (d + 5) 0 0 MX11_dreamCenturies [.ref 0, .int s, .int x, .int (nI n)] (a, r, nK) (RI P) :=
  V_X11_dreamCenturies_0 ⟨rfl, by decide, 45, rf11 hr, rfl, by decide, 43, rf10 hr, rfl, by decide, c_dCopy hr (l_dream hr hT h3 hn hp n 0 (0, s, d0 a) (by omega) rfl)⟩
theorem c_centuries {P : KI} {n : Nat} (hr : Rk r) (hT : isCity T) (h3 : r 0 3 = .ref T) (h1 : inT x 0 16) (hn1 : 1 ≤ n) (hn : n ≤ 100) (hw : inT w 0 3) (hp : ∀ D, P (fCn a (cnX (a T 1) x s n (d0 a)) w) (va_up a 46 D) r nK) : Sp G (d + 6) 0 0 MX11_centuries [.ref 0, .int s, .int x, .int (nI n), .int w] (a, r, nK) (RI P) := by
  have hy : inT (nI n) 1 100 := ⟨nI_nlt (b := 1) (by omega) (by omega), nI_nlt (a := 100) (by omega) (by decide)⟩
  refine V_X11_centuries_0 ⟨rfl, by decide, c_needCen h1 hy ⟨fun e => absurd e hw.1, fun _ => ⟨fun e => absurd e hw.2, fun _ => V_X11_centuries_23 ⟨rfl, by decide, c_need (by decide) ⟨rfl, by decide, c_dream hr hT h3 hn ?_⟩⟩⟩⟩⟩
  have hp := hp (cnX (a T 1) x s n (d0 a)).2.2
  generalize cnX (a T 1) x s n (d0 a) = X at hp ⊢
  have h46 : va_up a 46 X.2.2 (45 + 1) = X.2.2 := va_up_self _ _ _
  have h44 : va_up a 46 X.2.2 (43 + 1) = a 44 := va_up_ne _ _ (by decide)
  unfold fCn cpl hls at hp
  refine ⟨fun e0 => ⟨rfl, by decide, 45, rf11 hr, rfl, by decide, c_couples hr q45 ?_⟩, fun e0 => ⟨fun e1 => ⟨rfl, by decide, 45, rf11 hr, rfl, by decide, c_partedSoFar hr q45 ⟨rfl, by decide, 43, rf10 hr, rfl, by decide, c_partedSoFar hr (Or.inl rfl) ?_⟩⟩, fun e1 => ⟨fun e2 => ⟨rfl, by decide, 45, rf11 hr, rfl, by decide, c_allHoles hr q45 ?_⟩, fun e2 => ?_⟩⟩⟩
  · rw [h46]; rw [if_pos e0] at hp; exact hp
  · rw [h46, h44]; rw [if_neg e0, if_pos e1] at hp; exact hp
  · rw [h46]; rw [if_neg e0, if_neg e1, if_pos e2] at hp; exact hp
  · rw [if_neg e0, if_neg e1, if_neg e2] at hp; exact hp
theorem x_centuries {P : KX} (h : ¬ (inT x 0 16 ∧ inT y 1 100 ∧ inT w 0 3)) (hp : P xIl (bump a 19) r nK) : Sp G (d + 9) 1 6 MX11_centuries [.ref 0, .int s, .int x, .int y, .int w] (a, r, nK) (RX P) := by
  by_cases h1 : inT x 0 16 ∧ inT y 1 100
  · exact VX_X11_centuries_0 (.inl ⟨rfl, by decide, c_needCen h1.1 h1.2 ⟨fun _ => VX_X11_centuries_23 (.inr ⟨rfl, by decide, x_need hp⟩), fun h3 => ⟨fun _ => VX_X11_centuries_23 (.inr ⟨rfl, by decide, x_need hp⟩), fun h4 => absurd ⟨h1.1, h1.2, h3, h4⟩ h⟩⟩⟩)
  · exact VX_X11_centuries_0 (.inr ⟨rfl, by decide, x_needCen h1 hp⟩)
end DM
