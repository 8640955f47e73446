/-! Roads -/
theorem rds_k {r : RA} (hr : Rk r) : tyK 55 = (0, 8) ∧ tyK 56 = (1, 10) ∧ r 55 0 = .ref 56 := ⟨rfl, rfl, hr.at (by decide)⟩
def rShort (f : Nat → Int32) (u v len : Int32) : Nat → Int32 := rPut f 10 v (if rAt f 10 u + len < rAt f 10 v then rAt f 10 u + len else rAt f 10 v)
def rEdge (a : IA) (T : Nat) (closed : Int32) (s : Nat) (f : Nat → Int32) : Nat → Int32 := if nI s = closed then f else rShort (rShort f (a (T + 3) s) (a (T + 4) s) (a (T + 7) s)) (a (T + 4) s) (a (T + 3) s) (a (T + 7) s)
def rPass (a : IA) (T ns : Nat) (closed : Int32) (f : Nat → Int32) : Nat → Int32 := lpM (rEdge a T closed) ns 0 f
def itN {χ : Type} (g : χ → χ) : Nat → χ → χ
  | 0, x => x
  | k + 1, x => itN g k (g x)
def rSpread (a : IA) (T nc ns : Nat) (frm closed : Int32) (f0 : Nat → Int32) : Nat → Int32 := itN (rPass a T ns closed) (nc - 1) (rPut (fun j => if j < 10 then 1000000 else f0 j) 10 frm 0)
def bt (x : Int32) : Int32 := (1 : Int32) <<< (x &&& 31)
def eds (a : IA) (T s : Nat) : Int32 := bt (a (T + 3) s) ||| bt (a (T + 4) s)
def opS (a : IA) (T s : Nat) (x : Int32 × Int32) : Int32 × Int32 := if (x.2 >>> (nI s &&& 31)) &&& 1 = 1 ∧ (x.1 = 0 ∨ ¬ x.1 &&& eds a T s = 0) then (x.1 ||| eds a T s, x.2 &&& (bt (nI s) ^^^ (-1))) else x
def opT (a : IA) (T ns : Nat) : Nat → Int32 × Int32 → Int32 × Int32
  | 0, x => x
  | k + 1, x => if x.2 = 0 then x else opT a T ns k (lpM (opS a T) ns 0 x)
def oneP (a : IA) (T ns : Nat) (used : Int32) : Bool := decide ((opT a T ns ns (0, used)).2 = 0)
def wkR (a : IA) (T ns : Nat) (told : Int32) : Nat → Nat → Int32 → Int32 → Int32 → Int32 → Int32
  | 0, _, used, odd, len, sh => if len < sh then (if odd = 0 ∧ oneP a T ns used = true then len else sh) else sh
  | t + 1, s, used, odd, len, sh => if len < sh then
      wkR a T ns told t (s + 1) (used ||| bt (nI s)) odd (len + 2 * a (T + 7) s)
        (wkR a T ns told t (s + 1) (used ||| bt (nI s)) (odd ^^^ eds a T s) (len + a (T + 7) s) (if told &&& bt (nI s) = 0 then wkR a T ns told t (s + 1) used odd len sh else sh))
    else sh
section RO
variable {G : GE} {d C S : Nat} {a : IA} {r : RA} {T nc ns : Nat} {f ob : Nat → Int32} {closed : Int32}
theorem c_shorten {P : KN} {u v w : Int32} (hr : Rk r) (hp : P (va_up a 56 (rShort (a 56) u v w)) r nK) : Sp G (d + 1) 0 0 MX8_shorten [.ref 55, .int u, .int v, .int w] (a, r, nK) (RN P) := by
  obtain ⟨t0, t1, e1⟩ := rds_k hr
  exact V_X8_shorten_0 ⟨t0, by decide, _, e1, t0, by decide, _, e1, c_at t1 (by decide) (by decide) ⟨t0, by decide, _, e1, c_at t1 (by decide) (by decide) (c_put t1 (by decide) (by decide) hp)⟩⟩
theorem c_stepsTo {P : KI} {u : Int32} (hr : Rk r) (hp : P (if rAt (a 56) 10 u < 1000000 then rAt (a 56) 10 u else -1) a r nK) : Sp G (d + 1) 0 0 MX8_stepsTo [.ref 55, .int u] (a, r, nK) (RI P) := by
  obtain ⟨t0, t1, e1⟩ := rds_k hr
  refine V_X8_stepsTo_0 ⟨t0, by decide, _, e1, c_at t1 (by decide) (by decide) ⟨fun h => ?_, fun h => ?_⟩⟩
  · rw [if_pos h] at hp; exact hp
  · rw [if_neg h] at hp; exact hp
theorem aT56 (hT : isCity T) {z : Nat → Int32} {k : Nat} (hk : k ≤ 11) : va_up a 56 z (T + k) = a (T + k) := va_up_ne _ _ (by rcases hT with rfl | rfl <;> omega)
theorem l_pass {P : KN} {i : Nat} (hr : Rk r) (hT : isCity T) (hs : a T 1 = nI ns) (hs8 : ns ≤ 8) (hk : ∀ f', f' = rPass a T ns closed f → E G MX8_spread (d + 2) C S 21 [.ref 55, .ref T, .null, .int closed, .int (nI i + 1), .null] [] (va_up a 56 f', r, nK) (RN P)) :
    ∀ (c s : Nat) (f1 : Nat → Int32), s + c = ns → rPass a T ns closed f = lpM (rEdge a T closed) c s f1 → E G MX8_spread (d + 2) C S 33 [.ref 55, .ref T, .null, .int closed, .int (nI i), .int (nI s)] [] (va_up a 56 f1, r, nK) (RN P) := by
  obtain ⟨t0, t1, e1⟩ := rds_k hr
  have hT0 : ∀ z : Nat → Int32, va_up a 56 z T 1 = nI ns := fun z => by rw [← hs]; exact congrFun (aT56 (k := 0) hT (by decide)) 1
  intro c
  induction c with
  | zero =>
    intro s f1 h1 h2
    exact V_X8_spread_33 ⟨ct0 hT, ctl hT, fun _ => hk f1 h2.symm, fun h => absurd (by rw [hT0]; exact nI_le (by omega) (by omega)) h⟩
  | succ c ih =>
    intro s f1 h1 h2
    rw [lpM] at h2
    refine V_X8_spread_33 ⟨ct0 hT, ctl hT, fun h => absurd h (by rw [hT0]; exact nI_ge (by omega) (by omega)), fun _ => ⟨fun h3 => ?_, fun h3 => ?_⟩⟩
    · rw [nI_1]
      refine ih (s + 1) f1 (by omega) ?_
      rw [h2, rEdge, if_pos h3]
    · refine ⟨ct0 hT, ctl hT, c_startOf hr hT ⟨ct0 hT, ctl hT, c_endOf hr hT ⟨ct0 hT, ctl hT, c_lengthOf hr hT ⟨t0, by decide, c_shorten hr ⟨ct0 hT, ctl hT, c_endOf hr hT ⟨ct0 hT, ctl hT, c_startOf hr hT ⟨ct0 hT, ctl hT, c_lengthOf hr hT ⟨t0, by decide, c_shorten hr ?_⟩⟩⟩⟩⟩⟩⟩⟩
      rw [nI_1]
      simp only [bx_uu, va_up_self, aT56 hT (show 3 ≤ 11 by decide), aT56 hT (show 4 ≤ 11 by decide), aT56 hT (show 7 ≤ 11 by decide), rAt_nI _ (show 8 < 2 ^ 31 by decide) (show s < 8 by omega)]
      refine ih (s + 1) _ (by omega) ?_
      rw [h2, rEdge, if_neg h3]
theorem l_spread {P : KN} (hr : Rk r) (hT : isCity T) (hs : a T 1 = nI ns) (hs8 : ns ≤ 8) (hc : a T 0 = nI nc) (hc10 : nc ≤ 10) {V : Nat → Int32} (hp : P (va_up a 56 V) r nK) :
    ∀ (c i : Nat) (f : Nat → Int32), i + c = nc ∨ (c = 0 ∧ nc ≤ i ∧ i < 20) → V = itN (rPass a T ns closed) c f → E G MX8_spread (d + 2) C S 21 [.ref 55, .ref T, .null, .int closed, .int (nI i), .null] [] (va_up a 56 f, r, nK) (RN P) := by
  have hT0 : ∀ z : Nat → Int32, va_up a 56 z T 0 = nI nc := fun z => by rw [← hc]; exact congrFun (aT56 (k := 0) hT (by decide)) 0
  intro c
  induction c with
  | zero =>
    intro i f hi hv
    rw [hv] at hp
    exact V_X8_spread_21 ⟨ct0 hT, ctl hT, fun _ => hp, fun h => absurd (by rw [hT0]; exact nI_le (by omega) (by omega)) h⟩
  | succ c ih =>
    intro i f hi hv
    refine V_X8_spread_21 ⟨ct0 hT, ctl hT, fun h => absurd h (by rw [hT0]; exact nI_ge (by omega) (by omega)), fun _ => l_pass (f := f) (i := i) hr hT hs hs8 (fun f' hf' => ?_) ns 0 f (by omega) rfl⟩
    subst hf'
    rw [nI_1]
    exact ih (i + 1) _ (by omega) hv
theorem c_spread {P : KN} {u : Int32} (hr : Rk r) (hT : isCity T) (hs : a T 1 = nI ns) (hs8 : ns ≤ 8) (hc : a T 0 = nI nc) (hc10 : nc ≤ 10) (hp : P (va_up a 56 (rSpread a T nc ns u closed (a 56))) r nK) : Sp G (d + 2) 0 0 MX8_spread [.ref 55, .ref T, .int u, .int closed] (a, r, nK) (RN P) := by
  obtain ⟨t0, t1, e1⟩ := rds_k hr
  refine V_X8_spread_0 ⟨t0, by decide, _, e1, c_fill t1 (by decide) (by decide) ⟨t0, by decide, _, e1, c_put t1 (by decide) (by decide) ?_⟩⟩
  rw [bx_uu, va_up_self]
  exact l_spread hr hT hs hs8 hc hc10 hp (nc - 1) 1 _ (by omega) rfl
theorem l_op2 {P : KI} {i : Nat} {x : Int32 × Int32} (hr : Rk r) (hT : isCity T) (hs : a T 1 = nI ns) (hs8 : ns ≤ 8) (hk : ∀ y, y = lpM (opS a T) ns 0 x → E G MX8_isOnePiece (d + 2) C S 7 [.ref T, .null, .int y.1, .int y.2, .int (nI i + 1), .null, .null] [] (a, r, nK) (RI P)) :
    ∀ (c s : Nat) (y : Int32 × Int32), s + c = ns → lpM (opS a T) ns 0 x = lpM (opS a T) c s y → E G MX8_isOnePiece (d + 2) C S 23 [.ref T, .null, .int y.1, .int y.2, .int (nI i), .int (nI s), .null] [] (a, r, nK) (RI P) := by
  intro c
  induction c with
  | zero =>
    intro s y h1 h2
    exact V_X8_isOnePiece_23 ⟨ct0 hT, ctl hT, fun _ => hk y h2.symm, fun h => absurd (by rw [hs]; exact nI_le (by omega) (by omega)) h⟩
  | succ c ih =>
    intro s y h1 h2
    rw [lpM] at h2
    refine V_X8_isOnePiece_23 ⟨ct0 hT, ctl hT, fun h => absurd h (by rw [hs]; exact nI_ge (by omega) (by omega)), fun _ => ⟨ct0 hT, ctl hT, c_startOf hr hT ⟨ct0 hT, ctl hT, c_endOf hr hT ?_⟩⟩⟩
    rw [rAt_nI _ (by decide) (by omega), rAt_nI _ (by decide) (by omega), nI_1]
    have go : ∀ z, z = opS a T s y → E G MX8_isOnePiece (d + 2) C S 23 [.ref T, .null, .int z.1, .int z.2, .int (nI i), .int (nI (s + 1)), .null] [] (a, r, nK) (RI P) := fun z hz => ih (s + 1) z (by omega) (by rw [h2, hz])
    refine ⟨fun h3 => go y ?_, fun h3 => ⟨fun h4 => go (_, _) ?_, fun h4 => ⟨fun h5 => go y ?_, fun h5 => go (_, _) ?_⟩⟩⟩
    · unfold opS; rw [if_neg (fun z => h3 z.1)]
    · unfold opS; rw [if_pos ⟨h3, Or.inl h4⟩]; rfl
    · unfold opS; rw [if_neg (fun z => z.2.elim h4 (fun w => w h5))]
    · unfold opS; rw [if_pos ⟨h3, Or.inr h5⟩]; rfl
theorem l_op1 {P : KI} {V : Int32 × Int32} (hr : Rk r) (hT : isCity T) (hs : a T 1 = nI ns) (hs8 : ns ≤ 8) (hp : P (if decide (V.2 = 0) = true then 1 else 0) a r nK) :
    ∀ (c i : Nat) (x : Int32 × Int32), i + c = ns → V = opT a T ns c x → E G MX8_isOnePiece (d + 2) C S 7 [.ref T, .null, .int x.1, .int x.2, .int (nI i), .null, .null] [] (a, r, nK) (RI P) := by
  have fin : ∀ x : Int32 × Int32, V = x → ((¬ x.2 = 0 → (bz 0 ∧ P 0 a r nK)) ∧ (x.2 = 0 → (bz 1 ∧ P 1 a r nK))) := fun x hx => by
    subst hx
    refine ⟨fun h => ⟨bz_0, ?_⟩, fun h => ⟨bz_1, ?_⟩⟩
    · rw [decide_eq_false h] at hp; exact hp
    · rw [decide_eq_true h] at hp; exact hp
  intro c
  induction c with
  | zero =>
    intro i x hi hv
    exact V_X8_isOnePiece_7 ⟨ct0 hT, ctl hT, fun _ => fin x hv, fun h => absurd (by rw [hs]; exact nI_le (by omega) (by omega)) h⟩
  | succ c ih =>
    intro i x hi hv
    rw [opT] at hv
    refine V_X8_isOnePiece_7 ⟨ct0 hT, ctl hT, fun h => absurd h (by rw [hs]; exact nI_ge (by omega) (by omega)), fun _ => ⟨fun h => fin x (by rw [hv, if_pos h]), fun h => ?_⟩⟩
    rw [if_neg h] at hv
    refine l_op2 (x := x) (i := i) hr hT hs hs8 (fun y hy => ?_) ns 0 x (by omega) rfl
    subst hy
    rw [nI_1]
    exact ih (i + 1) _ (by omega) hv
theorem c_isOnePiece {P : KI} {used : Int32} (hr : Rk r) (hT : isCity T) (hs : a T 1 = nI ns) (hs8 : ns ≤ 8) (hp : P (if oneP a T ns used then 1 else 0) a r nK) : Sp G (d + 2) 0 0 MX8_isOnePiece [.ref T, .int used] (a, r, nK) (RI P) :=
  V_X8_isOnePiece_0 (l_op1 hr hT hs hs8 hp ns 0 (0, used) (by omega) rfl)
theorem aT55 (hT : isCity T) {z : Nat → Int32} {k : Nat} : va_up a 55 z (T + k) = a (T + k) ∨ 12 ≤ k := by
  by_cases h : k ≤ 11
  · left; exact va_up_ne _ _ (by rcases hT with rfl | rfl <;> omega)
  · right; omega
theorem aT5 (hT : isCity T) {z : Nat → Int32} {k : Nat} (h : k ≤ 11) : va_up a 55 z (T + k) = a (T + k) := va_up_ne _ _ (by rcases hT with rfl | rfl <;> omega)
theorem oneP_up (hT : isCity T) {z : Nat → Int32} : oneP (va_up a 55 z) T ns = oneP a T ns := by
  have e : opS (va_up a 55 z) T = opS a T := by
    funext s x
    unfold opS eds
    rw [aT5 hT (by decide), aT5 hT (by decide)]
  have e2 : ∀ k x, opT (va_up a 55 z) T ns k x = opT a T ns k x := by
    intro k
    induction k with
    | zero => intro x; rfl
    | succ k ih => intro x; rw [opT, opT, e]; simp only [ih]
  funext u
  unfold oneP
  rw [e2]
def wkI (G : GE) (r : RA) (a : IA) (T ns : Nat) (told : Int32) (t : Nat) : Prop :=
  ∀ (s : Nat) (used odd len : Int32) (ob : Nat → Int32) (P : KN) (D : Nat), s + t = ns → t + 3 ≤ D → (∀ ob', ob' 1 = wkR a T ns told t s used odd len (ob 1) → P (va_up a 55 ob') r nK) → Sp G D 0 0 MX8_walk [.ref 55, .ref T, .int told, .int (nI s), .int used, .int odd, .int len] (va_up a 55 ob, r, nK) (RN P)
theorem wk_all {told : Int32} (hr : Rk r) (hT : isCity T) (hs : a T 1 = nI ns) (hs8 : ns ≤ 8) : ∀ t, wkI G r a T ns told t := by
  obtain ⟨t0, t1, e1⟩ := rds_k hr
  have hT0 : ∀ z : Nat → Int32, va_up a 55 z T 1 = nI ns := fun z => by rw [← hs]; exact congrFun (aT5 (k := 0) hT (by decide)) 1
  intro t
  induction t with
  | zero =>
    intro s used odd len ob P D hst hD hp
    obtain ⟨D, rfl⟩ : ∃ D', D = D' + 1 := ⟨D - 1, by omega⟩
    rw [wkR] at hp
    refine V_X8_walk_0 ⟨t0, by decide, fun h1 => ⟨ct0 hT, ctl hT, fun h2 => absurd (by rw [hT0] at h2; exact h2) (nI_nlt (by omega) (by omega)), fun _ => ⟨fun h3 => ?_, fun h3 => Sp.up (d := 2) (by omega) (c_isOnePiece (d := 0) (ns := ns) hr hT (hT0 ob) hs8 ⟨fun h4 => ?_, fun h4 => ⟨t0, by decide, fun a5 h5 => ?_⟩⟩)⟩⟩, fun h1 => ?_⟩
    · rw [va_up_self] at h1
      exact hp ob (by rw [if_pos h1, if_neg (fun z => h3 z.1)])
    · rw [va_up_self] at h1
      rw [bit0, oneP_up hT] at h4
      exact hp ob (by rw [if_pos h1, if_neg (fun z => by rw [h4] at z; cases z.2)])
    · rw [va_up_self] at h1
      simp only [bit0, Bool.not_eq_false, oneP_up hT] at h4
      unfold u2 at h5
      rw [bx_uu, va_up_self] at h5
      subst h5
      exact hp _ (by rw [upd_eq, if_pos h1, if_pos ⟨h3, h4⟩])
    · rw [va_up_self] at h1
      exact hp ob (by rw [if_neg h1])
  | succ t ih =>
    intro s used odd len ob P D hst hD hp
    obtain ⟨D, rfl⟩ : ∃ D', D = D' + 1 := ⟨D - 1, by omega⟩
    rw [wkR] at hp
    refine V_X8_walk_0 ⟨t0, by decide, fun h1 => ⟨ct0 hT, ctl hT, fun _ => ⟨ct0 hT, ctl hT, Sp.up (d := 1) (by omega) (c_startOf (d := 0) hr hT ⟨ct0 hT, ctl hT, Sp.up (d := 1) (by omega) (c_endOf (d := 0) hr hT ⟨ct0 hT, ctl hT, Sp.up (d := 1) (by omega) (c_lengthOf (d := 0) hr hT ?_)⟩)⟩)⟩, fun h2 => absurd (by rw [hT0]; exact nI_lt (by omega) (by omega)) h2⟩, fun h1 => ?_⟩
    · rw [va_up_self] at h1
      rw [if_pos h1] at hp
      simp only [aT5 hT (show 3 ≤ 11 by decide), aT5 hT (show 4 ≤ 11 by decide), aT5 hT (show 7 ≤ 11 by decide), rAt_nI _ (show 8 < 2 ^ 31 by decide) (show s < 8 by omega)]
      have rest : ∀ ob1 : Nat → Int32, (∀ ob', ob' 1 = wkR a T ns told t (s + 1) (used ||| bt (nI s)) odd (len + 2 * a (T + 7) s) (wkR a T ns told t (s + 1) (used ||| bt (nI s)) (odd ^^^ eds a T s) (len + a (T + 7) s) (ob1 1)) → P (va_up a 55 ob') r nK) →
          E G MX8_walk (D + 1) 0 0 90 [.ref 55, .ref T, .int told, .int (nI s), .int used, .int odd, .int len, .int ((1 : Int32) <<< (nI s &&& 31)), .int (((1 : Int32) <<< (a (T + 3) s &&& 31)) ||| ((1 : Int32) <<< (a (T + 4) s &&& 31))), .int (a (T + 7) s)] [] (va_up a 55 ob1, r, nK) (RN P) := by
        intro ob1 hp1
        refine V_X8_walk_90 ⟨t0, by decide, ?_⟩
        rw [nI_1]
        refine ih (s + 1) _ _ _ ob1 _ D (by omega) (by omega) (fun ob2 h2 => ⟨t0, by decide, ?_⟩)
        exact ih (s + 1) _ _ _ ob2 _ D (by omega) (by omega) (fun ob3 h3 => hp1 ob3 (by rw [h3, h2]; rfl))
      refine ⟨fun h4 => rest ob (fun ob' h5 => hp ob' (by rw [h5, if_neg (show ¬ told &&& bt (nI s) = 0 from h4)])), fun h4 => ⟨t0, by decide, ?_⟩⟩
      rw [nI_1]
      exact ih (s + 1) _ _ _ ob _ D (by omega) (by omega) (fun ob1 h5 => rest ob1 (fun ob' h6 => hp ob' (by rw [h6, h5, if_pos (show told &&& bt (nI s) = 0 from h4)])))
    · rw [va_up_self] at h1
      exact hp ob (by rw [if_neg h1])
theorem c_shortestRound {P : KI} {told : Int32} (hr : Rk r) (hT : isCity T) (hs : a T 1 = nI ns) (hs8 : ns ≤ 8)
    (h0 : told = 0 → P 0 a r nK) (hp : ¬ told = 0 → ∀ ob, P (if wkR a T ns told ns 0 0 0 0 1000000 < 1000000 then wkR a T ns told ns 0 0 0 0 1000000 else -1) (va_up a 55 ob) r nK) : Sp G (d + 12) 0 0 MX8_shortestRound [.ref 55, .ref T, .int told] (a, r, nK) (RI P) := by
  obtain ⟨t0, t1, e1⟩ := rds_k hr
  refine V_X8_shortestRound_0 ⟨fun h => ⟨t0, by decide, fun a1 h1 => ⟨t0, by decide, ?_⟩⟩, h0⟩
  subst h1
  refine wk_all hr hT hs hs8 ns 0 0 0 0 (upd (a 55) 1 1000000) _ (d + 11) (by omega) (by omega) (fun ob' h2 => ⟨t0, by decide, ?_⟩)
  rw [upd_eq] at h2
  rw [va_up_self, h2]
  refine ⟨fun h3 => ⟨t0, by decide, ?_⟩, fun h3 => ?_⟩
  · have := hp h ob'
    rw [if_pos h3] at this
    exact this
  · have := hp h ob'
    rw [if_neg h3] at this
    exact this
end RO
