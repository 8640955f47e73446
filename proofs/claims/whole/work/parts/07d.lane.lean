/-! Main: bridges, fair, even, lane, stop -/
def all2 (g : Nat) : Int32 := ((1 : Int32) <<< (nI g &&& 31)) - 1
theorem all2_e : ∀ g, g < 9 → all2 g = nI (2 ^ g) + (-1) := by decide +kernel
theorem all2_n : ∀ g, g < 9 → all2 g = nI (2 ^ g - 1) := by decide +kernel
theorem pow8 : ∀ g, g < 9 → 0 < 2 ^ g ∧ 2 ^ g ≤ 256 := by decide +kernel
theorem nI_m1 (k : Nat) : nI (k + 1) + (-1) = nI k := by rw [← nI_pred k, Int32.sub_eq_add_neg]
theorem nI_0m : nI 0 + (-1) < 0 := by decide +kernel
def wOne (a : IA) (T ng : Nat) (s : Int32) : Int32 := ctWorth (a (T + 10)) s ng
def wOth (a : IA) (T ng : Nat) (s : Int32) : Int32 := ctWorth (a (T + 11)) s ng
def frS (a : IA) (T ng k : Nat) (x : Int32 × Int32) : Int32 × Int32 := if wOne a T ng (nI k) < wOne a T ng (all2 ng &&& (nI k ^^^ (-1))) ∨ wOth a T ng (all2 ng &&& (nI k ^^^ (-1))) < wOth a T ng (nI k) then x else (x.1 + 1, nI k)
def evV (a : IA) (T ng k : Nat) : Int32 := if wOth a T ng (all2 ng &&& (nI k ^^^ (-1))) < wOne a T ng (nI k) then wOth a T ng (all2 ng &&& (nI k ^^^ (-1))) else wOne a T ng (nI k)
def evM (a : IA) (T ng k : Nat) (x : Int32) : Int32 := if x < evV a T ng k then evV a T ng k else x
def lnX (a : IA) (T : Nat) (y : Int32) : Int32 := a T 15 - a T 17 * y
def lnY (a : IA) (T : Nat) (y : Int32) : Int32 := a T 16 + a T 18 * y
def yr (a : IA) : Int32 := rAt (a 44) 42 40
def lnN (a : IA) (T : Nat) : Nat → Nat → Nat
  | 0, k => k
  | c + 1, k => if a T 3 < lnX a T (yr a + nI k) then lnN a T c (k + 1) else k
def lnV (m : Nat) : Int32 := if m ≤ 100 then nI m else -1
def lnU (m : Nat) : Nat := if m ≤ 100 then m else 100
theorem lnN_le (a : IA) (T : Nat) : ∀ c k, k ≤ lnN a T c k ∧ lnN a T c k ≤ k + c
  | 0, k => ⟨Nat.le_refl _, Nat.le_refl _⟩
  | c + 1, k => by
    have h := lnN_le a T c (k + 1)
    rw [lnN]
    by_cases e : a T 3 < lnX a T (yr a + nI k)
    · rw [if_pos e]; omega
    · rw [if_neg e]; omega
def stS (a : IA) (T nc k : Nat) (x : Int32) : Int32 := x ||| bitsOf (fun c => decide (a (T + 1) c = lnX a T (yr a + nI k)) && decide (a (T + 2) c = lnY a T (yr a + nI k))) nc
section LN
variable {G : GE} {d C S : Nat} {a : IA} {r : RA} {N T L nc ns ng : Nat} {s w : Int32} {lw : List Int32}
theorem rSpread_up {F f0 : Nat → Int32} {u c : Int32} (hT : isCity T) : rSpread (va_up a 56 F) T nc ns u c f0 = rSpread a T nc ns u c f0 := by
  have h : ∀ k, k ≤ 11 → va_up a 56 F (T + k) = a (T + k) := fun k hk => va_up_ne _ _ (by rcases hT with rfl | rfl <;> omega)
  have e : rEdge (va_up a 56 F) T c = rEdge a T c := by
    funext s f
    unfold rEdge
    rw [h 3 (by decide), h 4 (by decide), h 7 (by decide)]
  have e2 : rPass (va_up a 56 F) T ns c = rPass a T ns c := by
    funext f
    unfold rPass
    rw [e]
  unfold rSpread
  rw [e2]
theorem l_bridges {P : KI} (hr : Rk r) (hc : CtH a r T nc ns ng) :
    ∀ (k : Nat) (x : Br), k ≤ 8 → (∀ F, P (if w = 0 then (dnM (brS a T nc ns) k x).1 else (dnM (brS a T nc ns) k x).2.1) (va_up a 56 F) r nK) → E G MX11_bridges (d + 4) C S 33 [.ref 0, .int w, .int x.1, .int x.2.1, .int (nI k + (-1))] [] (va_up a 56 x.2.2, r, nK) (RI P) := by
  obtain ⟨hT, h3, hn, hn10, hs, hs8, _, _⟩ := hc
  have h : ∀ F k, k ≤ 11 → va_up a 56 F (T + k) = a (T + k) := fun F k hk => va_up_ne _ _ (by rcases hT with rfl | rfl <;> omega)
  intro k
  induction k with
  | zero =>
    intro x hk hp
    refine V_X11_bridges_33 ⟨fun _ => ⟨fun hw => ?_, fun hw => ?_⟩, fun z => absurd nI_0m z⟩
    · have := hp x.2.2
      rw [if_neg hw] at this
      exact this
    · have := hp x.2.2
      rw [if_pos hw] at this
      exact this
  | succ k ih =>
    intro x hk hp
    rw [nI_m1]
    refine V_X11_bridges_33 ⟨fun z => absurd z (nI_pos (by omega)), fun _ => ⟨rfl, by decide, 55, rf5 hr (by decide) rfl, rfl, by decide, _, h3, rfl, by decide, _, h3, ct0 hT, ctl hT, c_startOf hr hT ⟨rfl, by decide, c_spread hr hT (by rw [← hs]; exact congrFun (h _ 0 (by decide)) 1) hs8 (by rw [← hn]; exact congrFun (h _ 0 (by decide)) 0) hn10 ⟨rfl, by decide, 55, rf5 hr (by decide) rfl, rfl, by decide, _, h3, ct0 hT, ctl hT, c_endOf hr hT ⟨rfl, by decide, c_stepsTo hr ?_⟩⟩⟩⟩⟩
    rw [va_up_self, va_up_self, bx_uu, h _ 3 (by decide), h _ 4 (by decide), rSpread_up hT]
    refine ⟨fun (h1 : ¬ stp (brF a T nc ns k x) (rAt (a (T + 4)) 8 (nI k)) = -1) => ?_, fun (h1 : stp (brF a T nc ns k x) (rAt (a (T + 4)) 8 (nI k)) = -1) => ?_⟩
    · refine ih (x.1, x.2.1, brF a T nc ns k x) (by omega) (fun F => ?_)
      have := hp F
      rw [dnM, brS, if_neg h1] at this
      exact this
    · refine ih (x.1 + 1, nI k, brF a T nc ns k x) (by omega) (fun F => ?_)
      have := hp F
      rw [dnM, brS, if_pos h1] at this
      exact this
def brX (a : IA) (T nc ns : Nat) : Br := dnM (brS a T nc ns) ns (0, -1, a 56)
theorem c_bridges {P : KI} (hr : Rk r) (hc : CtH a r T nc ns ng) (hw : w = 0 ∨ w = 1) (hp : ∀ F, P (if w = 0 then (brX a T nc ns).1 else (brX a T nc ns).2.1) (va_up a 56 F) r nK) : Sp G (d + 4) 0 0 MX11_bridges [.ref 0, .int w] (a, r, nK) (RI P) := by
  have hb := l_bridges (G := G) (d := d) (C := 0) (S := 0) hr hc ns (0, -1, a 56) hc.2.2.2.2.2.1 hp
  rw [up_same, ← Int32.sub_eq_add_neg, ← hc.2.2.2.2.1] at hb
  obtain ⟨hT, h3, hn, hn10, hs, hs8, _, _⟩ := hc
  exact V_X11_bridges_0 ⟨fun _ => ⟨rfl, by decide, c_need (by decide) ⟨rfl, by decide, _, h3, ct0 hT, ctl hT, hb⟩⟩, fun h0 => ⟨fun h1 => absurd hw (fun z => z.elim h0 h1), fun _ => ⟨rfl, by decide, c_need (by decide) ⟨rfl, by decide, _, h3, ct0 hT, ctl hT, hb⟩⟩⟩⟩
theorem x_bridges {P : KX} (hw : ¬ (w = 0 ∨ w = 1)) (hp : P xIl (bump a 19) r nK) : Sp G (d + 8) 1 6 MX11_bridges [.ref 0, .int w] (a, r, nK) (RX P) :=
  VX_X11_bridges_0 ⟨fun h => absurd (Or.inl h) hw, fun _ => ⟨fun _ => .inr ⟨rfl, by decide, x_need hp⟩, fun h => absurd (Or.inr h) hw⟩⟩
theorem l_fair {P : KI} (hr : Rk r) (hc : CtH a r T nc ns ng) :
    ∀ (k : Nat) (x : Int32 × Int32), k ≤ 256 → P (if w = 0 then (dnM (frS a T ng) k x).1 else (dnM (frS a T ng) k x).2) a r nK → E G MX11_fair (d + 4) C S 38 [.ref 0, .int w, .int (all2 ng), .int x.1, .int x.2, .int (nI k + (-1)), .null] [] (a, r, nK) (RI P) := by
  obtain ⟨hT, h3, hn, hn10, hs, hs8, hg, hg8⟩ := hc
  intro k
  induction k with
  | zero =>
    intro x hk hp
    refine V_X11_fair_38 ⟨fun _ => ⟨fun hw => ?_, fun hw => ?_⟩, fun z => absurd nI_0m z⟩
    · rw [if_neg hw] at hp
      exact hp
    · rw [if_pos hw] at hp
      exact hp
  | succ k ih =>
    intro x hk hp
    rw [nI_m1]
    refine V_X11_fair_38 ⟨fun z => absurd z (nI_pos (by omega)), fun _ => ⟨rfl, by decide, _, h3, ct0 hT, ctl hT, c_worthToOne hr hT hg8 hg ⟨rfl, by decide, _, h3, ct0 hT, ctl hT, c_worthToOne hr hT hg8 hg ⟨fun (h1 : wOne a T ng (nI k) < wOne a T ng (all2 ng &&& (nI k ^^^ (-1)))) => ?_, fun (h1 : ¬ wOne a T ng (nI k) < wOne a T ng (all2 ng &&& (nI k ^^^ (-1)))) => ⟨rfl, by decide, _, h3, ct0 hT, ctl hT, c_worthToOther hr hT hg8 hg ⟨rfl, by decide, _, h3, ct0 hT, ctl hT, c_worthToOther hr hT hg8 hg ⟨fun (h2 : wOth a T ng (all2 ng &&& (nI k ^^^ (-1))) < wOth a T ng (nI k)) => ?_, fun (h2 : ¬ wOth a T ng (all2 ng &&& (nI k ^^^ (-1))) < wOth a T ng (nI k)) => ?_⟩⟩⟩⟩⟩⟩⟩
    · rw [dnM, frS, if_pos (Or.inl h1)] at hp
      exact ih x (by omega) hp
    · rw [dnM, frS, if_pos (Or.inr h2)] at hp
      exact ih x (by omega) hp
    · rw [dnM, frS, if_neg (fun z => Or.elim z h1 h2)] at hp
      exact ih (x.1 + 1, nI k) (by omega) hp
def frX (a : IA) (T ng : Nat) : Int32 × Int32 := dnM (frS a T ng) (2 ^ ng) (0, -1)
theorem c_fair {P : KI} (hr : Rk r) (hc : CtH a r T nc ns ng) (hw : w = 0 ∨ w = 1) (hp : P (if w = 0 then (frX a T ng).1 else (frX a T ng).2) a r nK) : Sp G (d + 4) 0 0 MX11_fair [.ref 0, .int w] (a, r, nK) (RI P) := by
  have hg8 := hc.2.2.2.2.2.2.2
  have hb := l_fair (G := G) (d := d) (C := 0) (S := 0) (w := w) hr hc (2 ^ ng) (0, -1) (pow8 ng (by omega)).2 hp
  rw [← all2_e ng (by omega), all2, ← hc.2.2.2.2.2.2.1] at hb
  obtain ⟨hT, h3, hn, hn10, hs, hs8, hg, _⟩ := hc
  exact V_X11_fair_0 ⟨fun _ => ⟨rfl, by decide, c_need (by decide) ⟨rfl, by decide, _, h3, ct0 hT, ctl hT, hb⟩⟩, fun h0 => ⟨fun h1 => absurd hw (fun z => z.elim h0 h1), fun _ => ⟨rfl, by decide, c_need (by decide) ⟨rfl, by decide, _, h3, ct0 hT, ctl hT, hb⟩⟩⟩⟩
theorem x_fair {P : KX} (hw : ¬ (w = 0 ∨ w = 1)) (hp : P xIl (bump a 19) r nK) : Sp G (d + 8) 1 6 MX11_fair [.ref 0, .int w] (a, r, nK) (RX P) :=
  VX_X11_fair_0 ⟨fun h => absurd (Or.inl h) hw, fun _ => ⟨fun _ => .inr ⟨rfl, by decide, x_need hp⟩, fun h => absurd (Or.inr h) hw⟩⟩
theorem l_even {P : KI} (hr : Rk r) (hc : CtH a r T nc ns ng) {V : Int32} (hp : P V a r nK) :
    ∀ (c k : Nat) (x : Int32), k + c = 2 ^ ng → V = lpM (evM a T ng) c k x → E G MX11_even (d + 4) C S 16 [.ref 0, .int (all2 ng), .int x, .int (nI k), .null] [] (a, r, nK) (RI P) := by
  obtain ⟨hT, h3, hn, hn10, hs, hs8, hg, hg8⟩ := hc
  have hpw := pow8 ng (by omega)
  intro c
  induction c with
  | zero =>
    intro k x hk hv
    rw [hv] at hp
    exact V_X11_even_16 ⟨fun _ => hp, fun h => absurd (by rw [all2_n ng (by omega)]; exact nI_lt (by omega) (by omega)) h⟩
  | succ c ih =>
    intro k x hk hv
    refine V_X11_even_16 ⟨fun h => absurd h (by rw [all2_n ng (by omega)]; exact nI_nlt (by omega) (by omega)), fun _ => ⟨rfl, by decide, _, h3, ct0 hT, ctl hT, c_worthToOne hr hT hg8 hg ⟨rfl, by decide, _, h3, ct0 hT, ctl hT, c_worthToOther hr hT hg8 hg ?_⟩⟩⟩
    rw [nI_1]
    exact ih (k + 1) (evM a T ng k x) (by omega) hv
def evX (a : IA) (T ng : Nat) : Int32 := lpM (evM a T ng) (2 ^ ng) 0 0
theorem c_even {P : KI} (hr : Rk r) (hc : CtH a r T nc ns ng) (hp : P (evX a T ng) a r nK) : Sp G (d + 4) 0 0 MX11_even [.ref 0] (a, r, nK) (RI P) := by
  have hb := l_even (G := G) (d := d) (C := 0) (S := 0) hr hc hp (2 ^ ng) 0 0 (by omega) rfl
  rw [all2, ← hc.2.2.2.2.2.2.1] at hb
  exact V_X11_even_0 ⟨rfl, by decide, _, hc.2.1, ct0 hc.1, ctl hc.1, hb⟩
theorem l_lane {P : KI} (hr : Rk r) (hc : CtH a r T nc ns ng) {m : Nat} (hp : P (lnV m) a r nK) :
    ∀ (c k : Nat), k + c = 101 → m = lnN a T c k → E G MX11_lane (d + 4) C S 2 [.ref 0, .int (nI k)] [] (a, r, nK) (RI P) := by
  obtain ⟨hT, h3, hn, hn10, hs, hs8, hg, hg8⟩ := hc
  intro c
  induction c with
  | zero =>
    intro k hk hv
    obtain rfl : k = 101 := by omega
    rw [hv] at hp
    exact V_X11_lane_2 ⟨fun _ => hp, fun h => absurd (by decide) h⟩
  | succ c ih =>
    intro k hk hv
    rw [lnN] at hv
    refine V_X11_lane_2 ⟨fun h => absurd h (nI_nlt (a := 100) (by omega) (by decide)), fun _ => ⟨rfl, by decide, _, h3, rfl, by decide, 43, rf10 hr, rfl, by decide, c_yearNow hr (Or.inl rfl) ⟨ct0 hT, ctl hT, c_laneX hT ⟨rfl, by decide, _, h3, ct0 hT, ctl hT, fun (h1 : a T 3 < lnX a T (yr a + nI k)) => ?_, fun (h1 : ¬ a T 3 < lnX a T (yr a + nI k)) => ?_⟩⟩⟩⟩
    · rw [if_pos h1] at hv
      rw [nI_1]
      exact ih (k + 1) (by omega) hv
    · rw [if_neg h1] at hv
      rw [hv, lnV, if_pos (by omega)] at hp
      exact hp
theorem c_lane {P : KI} (hr : Rk r) (hc : CtH a r T nc ns ng) (hp : P (lnV (lnN a T 101 0)) a r nK) : Sp G (d + 4) 0 0 MX11_lane [.ref 0] (a, r, nK) (RI P) :=
  V_X11_lane_0 (l_lane hr hc hp 101 0 (by omega) rfl)
theorem l_stop {P : KI} (hr : Rk r) (hc : CtH a r T nc ns ng) {V : Int32} {u : Nat} (hu : u ≤ 100) (hp : P V a r nK) :
    ∀ (c k : Nat) (x : Int32), k + c = u + 1 → V = lpM (stS a T nc) c k x → E G MX11_stop (d + 5) C S 17 [.ref 0, .int (nI u), .int x, .int (nI k), .null] [] (a, r, nK) (RI P) := by
  obtain ⟨hT, h3, hn, hn10, hs, hs8, hg, hg8⟩ := hc
  intro c
  induction c with
  | zero =>
    intro k x hk hv
    rw [hv] at hp
    exact V_X11_stop_17 ⟨fun _ => hp, fun h => absurd (nI_lt (by omega) (by omega)) h⟩
  | succ c ih =>
    intro k x hk hv
    refine V_X11_stop_17 ⟨fun h => absurd h (nI_nlt (by omega) (by omega)), fun _ => ⟨rfl, by decide, 43, rf10 hr, rfl, by decide, c_yearNow hr (Or.inl rfl) ⟨rfl, by decide, _, h3, rfl, by decide, _, h3, ct0 hT, ctl hT, c_laneX hT ⟨rfl, by decide, _, h3, ct0 hT, ctl hT, c_laneY hT ⟨ct0 hT, ctl hT, c_cornersAt hr hT hn10 hn ?_⟩⟩⟩⟩⟩
    rw [nI_1]
    exact ih (k + 1) (stS a T nc k x) (by omega) hv
def stX (a : IA) (T nc : Nat) : Int32 := lpM (stS a T nc) (lnU (lnN a T 101 0) + 1) 0 0
theorem c_stop {P : KI} (hr : Rk r) (hc : CtH a r T nc ns ng) (hp : P (stX a T nc) a r nK) : Sp G (d + 5) 0 0 MX11_stop [.ref 0] (a, r, nK) (RI P) := by
  have hu : lnU (lnN a T 101 0) ≤ 100 := by unfold lnU; split <;> omega
  have hb := l_stop (G := G) (d := d) (C := 0) (S := 0) hr hc hu hp (lnU (lnN a T 101 0) + 1) 0 0 (by omega) rfl
  refine V_X11_stop_0 ⟨rfl, by decide, c_lane hr hc ⟨fun h => ?_, fun h => ?_⟩⟩
  · unfold lnV at h ⊢
    unfold lnU at hb
    by_cases e : lnN a T 101 0 ≤ 100
    · rw [if_pos e]; rw [if_pos e] at hb; exact hb
    · rw [if_neg e] at h; exact absurd rfl h
  · unfold lnV at h
    unfold lnU at hb
    by_cases e : lnN a T 101 0 ≤ 100
    · rw [if_pos e] at h
      exact absurd (h ▸ nI_pos (by omega) : ¬ (-1 : Int32) < 0) (by decide)
    · rw [if_neg e] at hb; exact hb
end LN
