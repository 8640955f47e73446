/-! Main: suitors, gets, right, mates, look -/
def MlH (a : IA) (r : RA) (M : Nat) (ml : List Ln) : Prop := isMail M ∧ r 0 7 = .ref M ∧ MlOK a M ml
def inD3 (x y z : Int32) : Prop := inT x 0 40 ∧ inT y 0 40 ∧ inT z 0 40
def bc1 (x : Int32) : Int32 := x - (((x.toUInt32 >>> (((1 : Int32)).toUInt32 &&& Int32.toUInt32 31)).toInt32) &&& 1431655765)
def bc2 (x : Int32) : Int32 := (x &&& 858993459) + ((((x.toUInt32 >>> (((2 : Int32)).toUInt32 &&& Int32.toUInt32 31)).toInt32)) &&& 858993459)
def bc3 (x : Int32) : Int32 := (x + ((x.toUInt32 >>> (((4 : Int32)).toUInt32 &&& Int32.toUInt32 31)).toInt32)) &&& 252645135
def bc4 (x : Int32) : Int32 := x + ((x.toUInt32 >>> (((8 : Int32)).toUInt32 &&& Int32.toUInt32 31)).toInt32)
def bc5 (x : Int32) : Int32 := x + ((x.toUInt32 >>> (((16 : Int32)).toUInt32 &&& Int32.toUInt32 31)).toInt32)
def bcI (x : Int32) : Int32 := bc5 (bc4 (bc3 (bc2 (bc1 x)))) &&& 63
def fRole (role s o : Int32) : Int32 := if role = 1 then s else o
/-- the bits of those whom it could marry in that role, by the POST -/
def mtB (a : IA) (T ns : Nat) (lw : List Int32) (ml : List Ln) (role s : Int32) : Int32 := if rgt role (rAt (a (T + 5)) 8 s) ml = ml.length then bitsLo (fun o => decide ((if role = 1 then lwHind a T 43 lw s (nI o) else lwHind a T 43 lw (nI o) s) = 0)) ns 0 0 else 0
def mtA (a : IA) (T : Nat) (ml : List Ln) (s : Int32) : Int32 := if rgt 0 (rAt (a (T + 5)) 8 s) ml = ml.length then 1 else 0
def lkS (hs : Int32) (ml : List Ln) (h1 h2 h3 : Int32) (k : Nat) (x : Int32 × Int32) : Int32 × Int32 := if hasN ml (nI k) then x else if x.2 < lfWorst hs (nI k) h1 h2 h3 then x else (nI k, lfWorst hs (nI k) h1 h2 h3)
section MT
variable {G : GE} {d C S : Nat} {a : IA} {r : RA} {N T L M nc ns ng : Nat} {s w x y z : Int32} {lw : List Int32} {ml : List Ln}
theorem c_bitCount {P : KI} (hp : P (bcI x) a r N) : Sp G d 0 0 MJ6_bitCount_0f7a4 [.int x] (a, r, N) (RI P) := Sp.ofF rfl (by decide) (by intro v hv; cases List.mem_singleton.mp hv; rfl) (Nat.le_of_ble_eq_true rfl) (V_J6_bitCount_0f7a4_0 hp)
theorem c_isDowry {P : KI} (h1 : inT x 0 40 → P 1 a r N) (h0 : ¬ inT x 0 40 → P 0 a r N) : Sp G d 0 0 MX11_isDowry [.int x] (a, r, N) (RI P) :=
  V_X11_isDowry_0 ⟨fun h => ⟨bz_0, h0 (fun z => z.1 h)⟩, fun h => ⟨fun h' => ⟨bz_0, h0 (fun z => z.2 h')⟩, fun h' => ⟨bz_1, h1 ⟨h, h'⟩⟩⟩⟩
theorem c_gets {P : KI} (h : inD3 x y z) (hp : P (gn x y z) a r nK) : Sp G (d + 2) 0 0 MX11_gets [.ref 0, .int x, .int y, .int z] (a, r, nK) (RI P) := by
  exact V_X11_gets_0 (c_isDowry (fun _ => ⟨fun e => absurd e (by decide), fun _ => c_isDowry (fun _ => ⟨fun e => absurd e (by decide), fun _ => c_isDowry (fun _ => ⟨fun e => absurd e (by decide), fun _ => ⟨rfl, by decide, c_need (by decide) (c_gain hp)⟩⟩) (fun n => absurd h.2.2 n)⟩) (fun n => absurd h.2.1 n)⟩) (fun n => absurd h.1 n))
theorem x_gets {P : KX} (h : ¬ inD3 x y z) (hp : P xIl (bump a 19) r nK) : Sp G (d + 8) 1 6 MX11_gets [.ref 0, .int x, .int y, .int z] (a, r, nK) (RX P) := by
  exact VX_X11_gets_0 (c_isDowry (fun h1 => ⟨fun e => absurd e (by decide), fun _ => c_isDowry (fun h2 => ⟨fun e => absurd e (by decide), fun _ => c_isDowry (fun h3 => absurd ⟨h1, h2, h3⟩ h) (fun _ => ⟨fun _ => .inr ⟨rfl, by decide, x_need hp⟩, fun e => absurd rfl e⟩)⟩) (fun _ => ⟨fun _ => .inr ⟨rfl, by decide, x_need hp⟩, fun e => absurd rfl e⟩)⟩) (fun _ => ⟨fun _ => .inr ⟨rfl, by decide, x_need hp⟩, fun e => absurd rfl e⟩))
def fSu (n : Nat) (v w what : Int32) : Int32 := if what = 0 then (restsX n v w).1 else if what = 1 then (restsX n v w).2.1 else (restsX n v w).2.2
theorem c_suitors {P : KI} {n : Nat} (hr : Rk r) (hn : n ≤ 20) (h1 : inT x 0 40) (h2 : inT y 0 40) (h3 : inT w 0 2) (hp : ∀ a', keep L a a' → P (fSu n x y w) a' r nK) : Sp G (d + 3) 0 0 MX11_suitors [.ref 0, .int (nI n), .int x, .int y, .int w] (a, r, nK) (RI P) := by
  unfold fSu at hp
  refine V_X11_suitors_0 ⟨fun e => absurd e (nI_pos (by omega)), fun _ => ⟨fun e => absurd e (nI_nlt (a := 20) (b := n) (by omega) (by decide)), fun _ => c_isDowry (fun _ => ⟨fun e => absurd e (by decide), fun _ => c_isDowry (fun _ => ⟨fun e => absurd e (by decide), fun _ => ?_⟩) (fun n => absurd h2 n)⟩) (fun n => absurd h1 n)⟩⟩
  refine V_X11_suitors_30 ⟨rfl, by decide, c_need (by decide) ⟨fun e => absurd e h3.1, fun _ => ⟨fun e => absurd e h3.2, fun _ => ⟨rfl, by decide, c_need (by decide) ⟨rfl, by decide, 57, rf5 hr (by decide) rfl, rfl, by decide, c_findRests hr hn (fun ob' f g ho => ?_)⟩⟩⟩⟩⟩
  have hk : keep L a (HD a ob' f g) := by
    unfold HD
    exact keep_up (keep_up (keep_up keep_rf (Or.inr (Or.inl ⟨by decide, by decide⟩))) (Or.inr (Or.inl ⟨by decide, by decide⟩))) (Or.inr (Or.inl ⟨by decide, by decide⟩))
  have := hp _ hk
  refine ⟨fun e0 => ⟨rfl, by decide, 57, rf5 hr (by decide) rfl, rfl, by decide, ?_⟩, fun e0 => ⟨fun e1 => ⟨rfl, by decide, 57, rf5 hr (by decide) rfl, rfl, by decide, ?_⟩, fun e1 => ⟨rfl, by decide, 57, rf5 hr (by decide) rfl, rfl, by decide, ?_⟩⟩⟩
  · rw [if_pos e0] at this
    rw [HD_57, ho.1]; exact this
  · rw [if_neg e0, if_pos e1] at this
    rw [HD_57, ho.2.1]; exact this
  · rw [if_neg e0, if_neg e1] at this
    rw [HD_57, ho.2.2]; exact this
theorem x_suitors {P : KX} {n : Int32} (hr : Rk r) (h : ¬ (inT n 0 20 ∧ inT x 0 40 ∧ inT y 0 40 ∧ inT w 0 2)) (hp : P xIl (bump a 19) r nK) : Sp G (d + 8) 1 6 MX11_suitors [.ref 0, .int n, .int x, .int y, .int w] (a, r, nK) (RX P) := by
  have hx : E G MX11_suitors (d + 8) (0 + 1) (0 + 6) 30 [.ref 0, .int n, .int x, .int y, .int w] [.int 0, .ref 0] (a, r, nK) (RX P) := VX_X11_suitors_30 (.inr ⟨rfl, by decide, x_need hp⟩)
  exact VX_X11_suitors_0 ⟨fun _ => hx, fun h1 => ⟨fun _ => hx, fun h2 => c_isDowry (fun h3 => ⟨fun e => absurd e (by decide), fun _ => c_isDowry (fun h4 => ⟨fun e => absurd e (by decide), fun _ => VX_X11_suitors_30 (.inl ⟨rfl, by decide, c_need (by decide) ⟨fun _ => .inr ⟨rfl, by decide, x_need hp⟩, fun h5 => ⟨fun _ => .inr ⟨rfl, by decide, x_need hp⟩, fun h6 => absurd ⟨⟨h1, h2⟩, h3, h4, h5, h6⟩ h⟩⟩⟩)⟩) (fun _ => ⟨fun _ => hx, fun e => absurd rfl e⟩)⟩) (fun _ => ⟨fun _ => hx, fun e => absurd rfl e⟩)⟩⟩
theorem mlT (hM : isMail M) : tyK M = (0, 5) ∧ M < nK := by rcases hM with rfl | rfl <;> exact ⟨rfl, by decide⟩
theorem c_right {P : KI} (hr : Rk r) (hc : CtH a r T nc ns ng) (hm : MlH a r M ml) (h : inE s (a T 1)) (hp : P (nI (rgt (lfRole (a 44) s) (rAt (a (T + 5)) 8 s) ml)) a r nK) : Sp G (d + 4) 0 0 MX11_right [.ref 0, .int s] (a, r, nK) (RI P) :=
  V_X11_right_0 ⟨rfl, by decide, c_needStreet hc.1 hc.2.1 h ⟨rfl, by decide, _, hm.2.1, rfl, by decide, 43, rf10 hr, rfl, by decide, c_roleOf hr (Or.inl rfl) ⟨rfl, by decide, _, hc.2.1, ct0 hc.1, ctl hc.1, c_housesOf hr hc.1 ⟨(mlT hm.1).1, (mlT hm.1).2, c_rightLines hr hm.1 hm.2.2 hp⟩⟩⟩⟩
theorem x_right {P : KX} (hc : CtH a r T nc ns ng) (h : ¬ inE s (a T 1)) (hp : P xNo (bump a 18) r nK) : Sp G (d + 8) 1 6 MX11_right [.ref 0, .int s] (a, r, nK) (RX P) :=
  VX_X11_right_0 (.inr ⟨rfl, by decide, x_needStreet hc.1 hc.2.1 h hp⟩)
theorem ml_up {h : Nat → Int32} (hL : isLaw L) (hM : isMail M) (h0 : MlOK a M ml) : MlOK (va_up a (L + 2) h) M ml := by
  obtain ⟨h1, h2, h3⟩ := h0
  have e : ∀ k, k ≤ 2 → va_up a (L + 2) h (M + k) = a (M + k) := fun k hk => va_up_ne _ _ (by rcases hL with rfl | rfl <;> rcases hM with rfl | rfl <;> omega)
  refine ⟨by rw [← h1]; exact congrFun (e 0 (by decide)) 2, h2, fun i v hv => ?_⟩
  rw [e 1 (by decide), e 2 (by decide)]
  exact h3 i v hv
theorem l_matesOf {P : KI} (hr : Rk r) (hc : CtH a r T nc ns ng) (hl : LwH a r L lw) {V : Int32} (hp : ∀ h, P V (va_up a (L + 2) h) r nK) (hw : w = 1 ∨ w = 2) :
    ∀ (c k : Nat) (x : Int32) (h : Nat → Int32), k + c = ns → V = bitsLo (fun o => decide ((if w = 1 then lwHind a T 43 lw s (nI o) else lwHind a T 43 lw (nI o) s) = 0)) c k x → E G MX11_matesOf (d + 5) C S 26 [.ref 0, .int s, .int w, .int x, .int (nI k), .null, .null] [] (va_up a (L + 2) h, r, nK) (RI P) := by
  obtain ⟨hT, h3, hn, hn10, hs, hs8, hg, hg8⟩ := hc
  obtain ⟨hL, h5, hl, h150, hlw⟩ := hl
  obtain ⟨s1, s2⟩ := sep hL hT (Or.inl rfl : isLife 43)
  have hT0 : ∀ h : Nat → Int32, va_up a (L + 2) h T 1 = nI ns := fun h => by rw [← hs, va_up_ne a h (show T ≠ L + 2 from s2 0 (by decide))]
  intro c
  induction c with
  | zero =>
    intro k x h hk hv
    have := hp h
    rw [hv] at this
    exact V_X11_matesOf_26 ⟨rfl, by decide, _, h3, ct0 hT, ctl hT, fun _ => this, fun h => absurd (by rw [hT0]; exact nI_le (by omega) (by omega)) h⟩
  | succ c ih =>
    intro k x h hk hv
    rw [bitsLo] at hv
    refine V_X11_matesOf_26 ⟨rfl, by decide, _, h3, ct0 hT, ctl hT, fun h => absurd h (by rw [hT0]; exact nI_ge (by omega) (by omega)), fun _ => ⟨fun hw2 => ?_, fun hw1 => ?_⟩⟩
    · rw [if_neg hw2] at hv
      refine V_X11_matesOf_49 ⟨fun _ => ⟨rfl, by decide, _, h5, rfl, by decide, _, h3, rfl, by decide, 43, rf10 hr, (lwT hL).1, (lwT hL).2, c_hindrance hr hL hT (Or.inl rfl) hl h150 hlw (fun h' => ⟨fun h6 => ?_, fun h6 => ?_⟩)⟩, fun e => absurd e hw2⟩
      · rw [decide_eq_false h6] at hv
        rw [nI_1]
        exact ih (k + 1) x h' (by omega) hv
      · rw [decide_eq_true h6] at hv
        rw [nI_1]
        exact ih (k + 1) _ h' (by omega) hv
    · rw [if_pos hw1] at hv
      refine V_X11_matesOf_49 ⟨fun e => absurd hw1 e, fun _ => ⟨rfl, by decide, _, h5, rfl, by decide, _, h3, rfl, by decide, 43, rf10 hr, (lwT hL).1, (lwT hL).2, c_hindrance hr hL hT (Or.inl rfl) hl h150 hlw (fun h' => ⟨fun h6 => ?_, fun h6 => ?_⟩)⟩⟩
      · rw [decide_eq_false h6] at hv
        rw [nI_1]
        exact ih (k + 1) x h' (by omega) hv
      · rw [decide_eq_true h6] at hv
        rw [nI_1]
        exact ih (k + 1) _ h' (by omega) hv
theorem c_matesOf {P : KI} {h : Nat → Int32} (hr : Rk r) (hc : CtH a r T nc ns ng) (hl : LwH a r L lw) (hm : MlH a r M ml) (hw : w = 1 ∨ w = 2) (hp : ∀ h, P (mtB a T ns lw ml w s) (va_up a (L + 2) h) r nK) : Sp G (d + 5) 0 0 MX11_matesOf [.ref 0, .int s, .int w] (va_up a (L + 2) h, r, nK) (RI P) := by
  obtain ⟨s1, s2⟩ := sep hl.1 hc.1 (Or.inl rfl : isLife 43)
  refine V_X11_matesOf_0 ⟨rfl, by decide, _, hm.2.1, rfl, by decide, _, hc.2.1, ct0 hc.1, ctl hc.1, c_housesOf hr hc.1 ⟨(mlT hm.1).1, (mlT hm.1).2, c_fits hr hm.1 (ml_up hl.1 hm.1 hm.2.2) ?_⟩⟩
  rw [va_up_ne _ _ (s2 5 (by decide))]
  unfold mtB at hp
  by_cases e : rgt w (rAt (a (T + 5)) 8 s) ml = ml.length
  · rw [if_pos e]
    refine ⟨fun _ => l_matesOf hr hc hl (fun h => ?_) hw ns 0 0 h (by omega) rfl, fun z => absurd z (by decide)⟩
    have := hp h
    rw [if_pos e] at this
    exact this
  · rw [if_neg e]
    refine ⟨fun z => absurd rfl z, fun _ => ?_⟩
    have := hp h
    rw [if_neg e] at this
    exact this
theorem c_mayBeAlone {P : KI} {h : Nat → Int32} (hr : Rk r) (hc : CtH a r T nc ns ng) (hl : LwH a r L lw) (hm : MlH a r M ml) (hp : P (mtA a T ml s) (va_up a (L + 2) h) r nK) : Sp G (d + 5) 0 0 MX11_mayBeAlone [.ref 0, .int s] (va_up a (L + 2) h, r, nK) (RI P) := by
  obtain ⟨s1, s2⟩ := sep hl.1 hc.1 (Or.inl rfl : isLife 43)
  refine V_X11_mayBeAlone_0 ⟨rfl, by decide, _, hm.2.1, rfl, by decide, _, hc.2.1, ct0 hc.1, ctl hc.1, c_housesOf hr hc.1 ⟨(mlT hm.1).1, (mlT hm.1).2, c_fits hr hm.1 (ml_up hl.1 hm.1 hm.2.2) ?_⟩⟩
  rw [va_up_ne _ _ (s2 5 (by decide))]
  unfold mtA at hp
  by_cases e : rgt 0 (rAt (a (T + 5)) 8 s) ml = ml.length
  · rw [if_pos e]
    rw [if_pos e] at hp
    exact ⟨fun z => absurd z (by decide), fun _ => hp⟩
  · rw [if_neg e]
    rw [if_neg e] at hp
    exact ⟨fun _ => hp, fun z => absurd rfl z⟩
def fMates (a : IA) (T ns : Nat) (lw : List Int32) (ml : List Ln) (s w : Int32) : Int32 := if w = 0 then bcI (mtB a T ns lw ml 1 s) + bcI (mtB a T ns lw ml 2 s) + mtA a T ml s else if w = 1 then mtB a T ns lw ml 1 s else if w = 2 then mtB a T ns lw ml 2 s else mtA a T ml s
theorem c_mates {P : KI} (hr : Rk r) (hc : CtH a r T nc ns ng) (hl : LwH a r L lw) (hm : MlH a r M ml) (hs : inE s (a T 1)) (hw : inT w 0 3) (hp : ∀ h, P (fMates a T ns lw ml s w) (va_up a (L + 2) h) r nK) : Sp G (d + 6) 0 0 MX11_mates [.ref 0, .int s, .int w] (a, r, nK) (RI P) := by
  have e0 : (a, r, nK) = (va_up a (L + 2) (a (L + 2)), r, nK) := by rw [up_same]
  refine V_X11_mates_0 ⟨rfl, by decide, c_needStreet hc.1 hc.2.1 hs ⟨fun e => absurd e hw.1, fun _ => ⟨fun e => absurd e hw.2, fun _ => ?_⟩⟩⟩
  rw [e0]
  unfold fMates at hp
  refine V_X11_mates_20 ⟨rfl, by decide, c_need (by decide) ⟨rfl, by decide, c_matesOf hr hc hl hm (Or.inl rfl) (fun h1 => ⟨rfl, by decide, c_matesOf hr hc hl hm (Or.inr rfl) (fun h2 => ⟨rfl, by decide, c_mayBeAlone hr hc hl hm ⟨fun e0 => c_bitCount (c_bitCount ?_), fun e0 => ⟨fun e1 => ?_, fun e1 => ⟨fun e2 => ?_, fun e2 => ?_⟩⟩⟩⟩)⟩)⟩⟩
  · have := hp h2
    rw [if_pos e0] at this; exact this
  · have := hp h2
    rw [if_neg e0, if_pos e1] at this; exact this
  · have := hp h2
    rw [if_neg e0, if_neg e1, if_pos e2] at this; exact this
  · have := hp h2
    rw [if_neg e0, if_neg e1, if_neg e2] at this; exact this
theorem x_mates1 {P : KX} (hc : CtH a r T nc ns ng) (h : ¬ inE s (a T 1)) (hp : P xNo (bump a 18) r nK) : Sp G (d + 8) 1 6 MX11_mates [.ref 0, .int s, .int w] (a, r, nK) (RX P) :=
  VX_X11_mates_0 (.inr ⟨rfl, by decide, x_needStreet hc.1 hc.2.1 h hp⟩)
theorem x_mates2 {P : KX} (hc : CtH a r T nc ns ng) (hs : inE s (a T 1)) (h : ¬ inT w 0 3) (hp : P xIl (bump a 19) r nK) : Sp G (d + 8) 1 6 MX11_mates [.ref 0, .int s, .int w] (a, r, nK) (RX P) :=
  VX_X11_mates_0 (.inl ⟨rfl, by decide, c_needStreet hc.1 hc.2.1 hs ⟨fun _ => VX_X11_mates_20 (.inr ⟨rfl, by decide, x_need hp⟩), fun h1 => ⟨fun _ => VX_X11_mates_20 (.inr ⟨rfl, by decide, x_need hp⟩), fun h2 => absurd ⟨h1, h2⟩ h⟩⟩⟩)
theorem l_look {P : KI} {h : Nat → Int32} {h1 h2 h3 : Int32} (hr : Rk r) (hc : CtH a r T nc ns ng) (hl : LwH a r L lw) (hm : MlH a r M ml) :
    ∀ (k : Nat) (x : Int32 × Int32), k ≤ 40 → P (if w = 0 then (dnM (fun k => lkS (rAt (a (T + 5)) 8 s) ml h1 h2 h3 (k + 1)) k x).1 else (dnM (fun k => lkS (rAt (a (T + 5)) 8 s) ml h1 h2 h3 (k + 1)) k x).2) (va_up a (L + 2) h) r nK → E G MX11_look (d + 4) C S 69 [.ref 0, .int s, .int w, .int h1, .int h2, .int h3, .int x.1, .int x.2, .int (nI k), .null] [] (va_up a (L + 2) h, r, nK) (RI P) := by
  obtain ⟨s1, s2⟩ := sep hl.1 hc.1 (Or.inl rfl : isLife 43)
  intro k
  induction k with
  | zero =>
    intro x hk hp
    refine V_X11_look_69 ⟨fun _ => ⟨fun hw => ?_, fun hw => ?_⟩, fun z => absurd (by decide) z⟩
    · rw [if_neg hw] at hp; exact hp
    · rw [if_pos hw] at hp; exact hp
  | succ k ih =>
    intro x hk hp
    refine V_X11_look_69 ⟨fun z => absurd z (nI_nlt (b := 1) (by omega) (by omega)), fun _ => ⟨rfl, by decide, _, hm.2.1, (mlT hm.1).1, (mlT hm.1).2, c_has hr hm.1 (ml_up hl.1 hm.1 hm.2.2) ?_⟩⟩
    rw [nI_m1]
    rw [dnM] at hp
    by_cases e : hasN ml (nI (k + 1)) = true
    · rw [if_pos e]
      refine ⟨fun _ => ih x (by omega) ?_, fun z => absurd z (by decide)⟩
      rw [lkS, if_pos e] at hp
      exact hp
    · rw [if_neg e]
      refine ⟨fun z => absurd rfl z, fun _ => ⟨rfl, by decide, _, hc.2.1, ct0 hc.1, ctl hc.1, c_housesOf hr hc.1 (c_leftAtWorst ?_)⟩⟩
      rw [va_up_ne _ _ (s2 5 (by decide))]
      rw [lkS, if_neg e] at hp
      generalize lfWorst (rAt (a (T + 5)) 8 s) (nI (k + 1)) h1 h2 h3 = W at hp ⊢
      refine ⟨fun h4 => ?_, fun h4 => ?_⟩
      · rw [if_pos h4] at hp; exact ih x (by omega) hp
      · rw [if_neg h4] at hp
        have := ih (nI (k + 1), W) (by omega) hp
        exact this
def lkX (a : IA) (T ns : Nat) (lw : List Int32) (ml : List Ln) (s : Int32) : Int32 × Int32 := dnM (fun k => lkS (rAt (a (T + 5)) 8 s) ml (bcI (mtB a T ns lw ml 1 s)) (bcI (mtB a T ns lw ml 2 s)) (mtA a T ml s) (k + 1)) 40 (-1, bcI (mtB a T ns lw ml 1 s) + bcI (mtB a T ns lw ml 2 s) + mtA a T ml s + 1)
theorem c_look {P : KI} (hr : Rk r) (hc : CtH a r T nc ns ng) (hl : LwH a r L lw) (hm : MlH a r M ml) (hs : inE s (a T 1)) (hw : w = 0 ∨ w = 1) (hp : ∀ h, P (if w = 0 then (lkX a T ns lw ml s).1 else (lkX a T ns lw ml s).2) (va_up a (L + 2) h) r nK) : Sp G (d + 6) 0 0 MX11_look [.ref 0, .int s, .int w] (a, r, nK) (RI P) := by
  have e0 : (a, r, nK) = (va_up a (L + 2) (a (L + 2)), r, nK) := by rw [up_same]
  have hx : E G MX11_look (d + 6) 0 0 20 [.ref 0, .int s, .int w, .null, .null, .null, .null, .null, .null, .null] [.int 1, .ref 0] (a, r, nK) (RI P) := by
    rw [e0]
    exact V_X11_look_20 ⟨rfl, by decide, c_need (by decide) ⟨rfl, by decide, c_matesOf hr hc hl hm (Or.inl rfl) (fun h1 => c_bitCount ⟨rfl, by decide, c_matesOf hr hc hl hm (Or.inr rfl) (fun h2 => c_bitCount ⟨rfl, by decide, c_mayBeAlone hr hc hl hm (l_look hr hc hl hm 40 (_, _) (by omega) (hp h2))⟩)⟩)⟩⟩
  exact V_X11_look_0 ⟨rfl, by decide, c_needStreet hc.1 hc.2.1 hs ⟨fun _ => hx, fun e0 => ⟨fun e1 => absurd hw (fun z => z.elim e0 e1), fun _ => hx⟩⟩⟩
theorem x_look1 {P : KX} (hc : CtH a r T nc ns ng) (h : ¬ inE s (a T 1)) (hp : P xNo (bump a 18) r nK) : Sp G (d + 8) 1 6 MX11_look [.ref 0, .int s, .int w] (a, r, nK) (RX P) :=
  VX_X11_look_0 (.inr ⟨rfl, by decide, x_needStreet hc.1 hc.2.1 h hp⟩)
theorem x_look2 {P : KX} (hc : CtH a r T nc ns ng) (hs : inE s (a T 1)) (h : ¬ (w = 0 ∨ w = 1)) (hp : P xIl (bump a 19) r nK) : Sp G (d + 8) 1 6 MX11_look [.ref 0, .int s, .int w] (a, r, nK) (RX P) :=
  VX_X11_look_0 (.inl ⟨rfl, by decide, c_needStreet hc.1 hc.2.1 hs ⟨fun e => absurd (Or.inl e) h, fun _ => ⟨fun _ => VX_X11_look_20 (.inr ⟨rfl, by decide, x_need hp⟩), fun e => absurd (Or.inr e) h⟩⟩⟩)
end MT
