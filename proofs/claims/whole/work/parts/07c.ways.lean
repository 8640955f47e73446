/-! Main: stable, best, tempted, way, round, reach, bridges -/
def LwH (a : IA) (r : RA) (L : Nat) (lw : List Int32) : Prop := isLaw L ∧ r 0 5 = .ref L ∧ LwOK a L lw ∧ lw.length ≤ 150 ∧ (lw = [] ∨ dep lw 0 = some 1)
def CtH (a : IA) (r : RA) (T nc ns ng : Nat) : Prop := isCity T ∧ r 0 3 = .ref T ∧ a T 0 = nI nc ∧ nc ≤ 10 ∧ a T 1 = nI ns ∧ ns ≤ 8 ∧ a T 2 = nI ng ∧ ng ≤ 8
/-- cells that a query may change -/
def scr (L c : Nat) : Prop := c = L + 2 ∨ (50 ≤ c ∧ c ≤ 59) ∨ c = 45 ∨ c = 46
def keep (L : Nat) (a a' : IA) : Prop := ∀ c, ¬ scr L c → a' c = a c
theorem keep_up {L q : Nat} {a a' : IA} {z : Nat → Int32} (h : keep L a a') (hq : scr L q) : keep L a (va_up a' q z) := by
  intro c hc
  rw [va_up_ne _ _ (fun (e : c = q) => hc (by rw [e]; exact hq))]
  exact h c hc
theorem keep_rf {L : Nat} {a : IA} : keep L a a := fun _ _ => rfl
def fTm (a : IA) (T : Nat) (lw : List Int32) (s o : Int32) : Bool := decide (¬ lfMate (a 44) s = o) && (decide (¬ ctLiking a T s o ≤ ctLiking a T s (lfMate (a 44) s)) && (decide (¬ ctLiking a T o s ≤ ctLiking a T o (lfMate (a 44) o)) && decide (lwHind a T 43 lw s o = 0)))
def tp2 (p : Nat → Nat → Bool) (s : Nat) : Nat → Nat → Option Int32
  | 0, _ => none
  | c + 1, k => if p s k then some (10 * nI s + nI k) else tp2 p s c (k + 1)
def tp1 (p : Nat → Nat → Bool) (n : Nat) : Nat → Nat → Int32
  | 0, _ => -1
  | c + 1, k => (tp2 p k (n - (k + 1)) (k + 1)).getD (tp1 p n c (k + 1))
def stp (F : Nat → Int32) (o : Int32) : Int32 := if rAt F 10 o < 1000000 then rAt F 10 o else -1
abbrev Br : Type := Int32 × Int32 × (Nat → Int32)
def brF (a : IA) (T nc ns k : Nat) (x : Br) : Nat → Int32 := rSpread a T nc ns (rAt (a (T + 3)) 8 (nI k)) (nI k) x.2.2
def brS (a : IA) (T nc ns k : Nat) (x : Br) : Br := if stp (brF a T nc ns k x) (rAt (a (T + 4)) 8 (nI k)) = -1 then (x.1 + 1, nI k, brF a T nc ns k x) else (x.1, x.2.1, brF a T nc ns k x)
def dnM {χ : Type} (g : Nat → χ → χ) : Nat → χ → χ
  | 0, x => x
  | k + 1, x => dnM g k (g k x)
section WY
variable {G : GE} {d C S : Nat} {a : IA} {r : RA} {N T L nc ns ng : Nat} {s w : Int32} {lw : List Int32}
theorem c_finds {P : KN} (hr : Rk r) (hc : CtH a r T nc ns ng) (hl : LwH a r L lw)
    (hp : ∀ a', keep L a a' → a' 50 4 = (XM a T (mayR a T lw ns ns) ns).1 → a' 50 5 = (XM a T (mayR a T lw ns ns) ns).2.1 → a' 53 = (XM a T (mayR a T lw ns ns) ns).2.2.1 → a' 54 = (XM a T (mayR a T lw ns ns) ns).2.2.2 → P a' r nK) :
    Sp G (d + 15) 0 0 MX6_findAll [.ref 50, .ref T, .ref 43, .ref L] (a, r, nK) (RN P) := by
  obtain ⟨hT, h3, _, _, hs, hs8, _, _⟩ := hc
  obtain ⟨hL, h5, hl, h150, hw⟩ := hl
  refine c_findAll hr hL hT hl h150 hw hs hs8 (fun ob' h ho => hp _ ?_ ?_ ?_ ?_ ?_)
  · unfold HM
    exact keep_up (keep_up (keep_up (keep_up (keep_up (keep_up keep_rf (Or.inr (Or.inl ⟨by decide, by decide⟩))) (Or.inl rfl)) (Or.inr (Or.inl ⟨by decide, by decide⟩))) (Or.inr (Or.inl ⟨by decide, by decide⟩))) (Or.inr (Or.inl ⟨by decide, by decide⟩))) (Or.inr (Or.inl ⟨by decide, by decide⟩))
  · unfold HM
    rw [va_up_ne _ _ (by decide), va_up_ne _ _ (by decide), va_up_ne _ _ (by decide), va_up_self]; exact ho.1
  · unfold HM
    rw [va_up_ne _ _ (by decide), va_up_ne _ _ (by decide), va_up_ne _ _ (by decide), va_up_self]; exact ho.2
  · unfold HM
    rw [va_up_ne _ _ (by decide), va_up_self]
  · unfold HM
    rw [va_up_self]
theorem lwT (hl : isLaw L) : tyK L = (0, 2) ∧ L < nK := by rcases hl with rfl | rfl <;> exact ⟨rfl, by decide⟩
theorem rf5 {r : RA} {q j k : Nat} (hr : Rk r) (h0 : refC q j ≠ 0) (e : refC q j = k) : r q j = .ref k := e ▸ hr.at h0
theorem c_stable {P : KI} (hr : Rk r) (hc : CtH a r T nc ns ng) (hl : LwH a r L lw) (hp : ∀ a', keep L a a' → P (XM a T (mayR a T lw ns ns) ns).1 a' r nK) : Sp G (d + 16) 0 0 MX11_stable [.ref 0] (a, r, nK) (RI P) := by
  refine V_X11_stable_0 ⟨rfl, by decide, 50, rf5 hr (by decide) rfl, rfl, by decide, _, hc.2.1, rfl, by decide, 43, rf10 hr, rfl, by decide, _, hl.2.1, rfl, by decide, c_finds hr hc hl (fun a' hk e1 e2 e3 e4 => ⟨rfl, by decide, 50, rf5 hr (by decide) rfl, rfl, by decide, ?_⟩)⟩
  rw [e1]; exact hp a' hk
theorem c_best {P : KI} (hr : Rk r) (hc : CtH a r T nc ns ng) (hl : LwH a r L lw) (hp : ∀ a', keep L a a' → P (XM a T (mayR a T lw ns ns) ns).2.1 a' r nK) : Sp G (d + 16) 0 0 MX11_best [.ref 0] (a, r, nK) (RI P) := by
  refine V_X11_best_0 ⟨rfl, by decide, 50, rf5 hr (by decide) rfl, rfl, by decide, _, hc.2.1, rfl, by decide, 43, rf10 hr, rfl, by decide, _, hl.2.1, rfl, by decide, c_finds hr hc hl (fun a' hk e1 e2 e3 e4 => ⟨rfl, by decide, 50, rf5 hr (by decide) rfl, rfl, by decide, ?_⟩)⟩
  rw [e2]; exact hp a' hk
theorem c_stableFor {P : KI} (hr : Rk r) (hc : CtH a r T nc ns ng) (hl : LwH a r L lw) (h : inE s (a T 1)) (hp : ∀ a', keep L a a' → P (rAt (XM a T (mayR a T lw ns ns) ns).2.2.1 8 s) a' r nK) : Sp G (d + 16) 0 0 MX11_stableFor [.ref 0, .int s] (a, r, nK) (RI P) := by
  refine V_X11_stableFor_0 ⟨rfl, by decide, c_needStreet hc.1 hc.2.1 h ⟨rfl, by decide, 50, rf5 hr (by decide) rfl, rfl, by decide, _, hc.2.1, rfl, by decide, 43, rf10 hr, rfl, by decide, _, hl.2.1, rfl, by decide, c_finds hr hc hl (fun a' hk e1 e2 e3 e4 => ⟨rfl, by decide, 50, rf5 hr (by decide) rfl, rfl, by decide, c_firstStableMate hr ?_⟩)⟩⟩
  rw [e3]; exact hp a' hk
theorem c_bestFor {P : KI} (hr : Rk r) (hc : CtH a r T nc ns ng) (hl : LwH a r L lw) (h : inE s (a T 1)) (hp : ∀ a', keep L a a' → P (rAt (XM a T (mayR a T lw ns ns) ns).2.2.2 8 s) a' r nK) : Sp G (d + 16) 0 0 MX11_bestFor [.ref 0, .int s] (a, r, nK) (RI P) := by
  refine V_X11_bestFor_0 ⟨rfl, by decide, c_needStreet hc.1 hc.2.1 h ⟨rfl, by decide, 50, rf5 hr (by decide) rfl, rfl, by decide, _, hc.2.1, rfl, by decide, 43, rf10 hr, rfl, by decide, _, hl.2.1, rfl, by decide, c_finds hr hc hl (fun a' hk e1 e2 e3 e4 => ⟨rfl, by decide, 50, rf5 hr (by decide) rfl, rfl, by decide, c_warmestMate hr ?_⟩)⟩⟩
  rw [e4]; exact hp a' hk
theorem x_stableFor {P : KX} (hc : CtH a r T nc ns ng) (h : ¬ inE s (a T 1)) (hp : P xNo (bump a 18) r nK) : Sp G (d + 8) 1 6 MX11_stableFor [.ref 0, .int s] (a, r, nK) (RX P) :=
  VX_X11_stableFor_0 (.inr ⟨rfl, by decide, x_needStreet hc.1 hc.2.1 h hp⟩)
theorem x_bestFor {P : KX} (hc : CtH a r T nc ns ng) (h : ¬ inE s (a T 1)) (hp : P xNo (bump a 18) r nK) : Sp G (d + 8) 1 6 MX11_bestFor [.ref 0, .int s] (a, r, nK) (RX P) :=
  VX_X11_bestFor_0 (.inr ⟨rfl, by decide, x_needStreet hc.1 hc.2.1 h hp⟩)
theorem c_wouldLeave {P : KI} {o : Int32} {h : Nat → Int32} (hr : Rk r) (hc : CtH a r T nc ns ng) (hl : LwH a r L lw) (hp : ∀ h', P (if fTm a T lw s o then 1 else 0) (va_up a (L + 2) h') r nK) : Sp G (d + 8) 0 0 MX11_wouldLeave [.ref 0, .int s, .int o] (va_up a (L + 2) h, r, nK) (RI P) := by
  obtain ⟨hT, h3, _, _, hs, hs8, _, _⟩ := hc
  obtain ⟨hL, h5, hl, h150, hw⟩ := hl
  obtain ⟨s1, s2⟩ := sep hL hT (Or.inl rfl : isLife 43)
  have h44 : ∀ h : Nat → Int32, va_up a (L + 2) h (43 + 1) = a 44 := fun h => va_up_ne a h s1
  have hlk : ∀ (h : Nat → Int32) (u v : Int32), ctLiking (va_up a (L + 2) h) T u v = ctLiking a T u v := fun h u v => by
    unfold ctLiking
    rw [va_up_ne _ _ (s2 8 (by decide))]
  unfold fTm at hp
  refine V_X11_wouldLeave_0 ⟨rfl, by decide, 43, rf10 hr, rfl, by decide, c_mateOf hr (Or.inl rfl) ?_⟩
  rw [h44]
  refine ⟨fun h1 => ⟨bz_0, ?_⟩, fun h1 => ⟨rfl, by decide, _, h3, ct0 hT, ctl hT, c_liking hr hT ⟨rfl, by decide, _, h3, rfl, by decide, 43, rf10 hr, rfl, by decide, c_mateOf hr (Or.inl rfl) ⟨ct0 hT, ctl hT, c_liking hr hT ?_⟩⟩⟩⟩
  · have := hp h
    rw [decide_eq_false (not_not_intro h1), Bool.false_and] at this
    exact this
  rw [h44, hlk, hlk]
  refine ⟨fun h2 => ⟨bz_0, ?_⟩, fun h2 => ⟨rfl, by decide, _, h3, ct0 hT, ctl hT, c_liking hr hT ⟨rfl, by decide, _, h3, rfl, by decide, 43, rf10 hr, rfl, by decide, c_mateOf hr (Or.inl rfl) ⟨ct0 hT, ctl hT, c_liking hr hT ?_⟩⟩⟩⟩
  · have := hp h
    rw [decide_eq_false (not_not_intro h2), Bool.false_and, Bool.and_false] at this
    exact this
  rw [h44, hlk, hlk]
  refine ⟨fun h4 => ⟨bz_0, ?_⟩, fun h4 => ⟨rfl, by decide, _, h5, rfl, by decide, _, h3, rfl, by decide, 43, rf10 hr, (lwT hL).1, (lwT hL).2, c_hindrance hr hL hT (Or.inl rfl) hl h150 hw (fun h' => ⟨fun h6 => ⟨bz_0, ?_⟩, fun h6 => ⟨bz_1, ?_⟩⟩)⟩⟩
  · have := hp h
    rw [decide_eq_false (not_not_intro h4), Bool.false_and, Bool.and_false, Bool.and_false] at this
    exact this
  · have := hp h'
    rw [decide_eq_false h6, Bool.and_false, Bool.and_false, Bool.and_false] at this
    exact this
  · have := hp h'
    rw [decide_eq_true h6, decide_eq_true h1, decide_eq_true h2, decide_eq_true h4] at this
    exact this
theorem l_tp2 {P : KI} {k : Nat} (hr : Rk r) (hc : CtH a r T nc ns ng) (hl : LwH a r L lw) (hk : k < ns) {V : Int32} (hp : ∀ h', P V (va_up a (L + 2) h') r nK)
    (hn : ∀ h, tp2 (fun s o => fTm a T lw (nI s) (nI o)) k (ns - (k + 1)) (k + 1) = none → E G MX11_tempted (d + 9) C S 2 [.ref 0, .int (nI (k + 1)), .null] [] (va_up a (L + 2) h, r, nK) (RI P)) :
    ∀ (c m : Nat) (h : Nat → Int32), m + c = ns → tp2 (fun s o => fTm a T lw (nI s) (nI o)) k (ns - (k + 1)) (k + 1) = tp2 (fun s o => fTm a T lw (nI s) (nI o)) k c m → (∀ v, tp2 (fun s o => fTm a T lw (nI s) (nI o)) k (ns - (k + 1)) (k + 1) = some v → V = v) → E G MX11_tempted (d + 9) C S 17 [.ref 0, .int (nI k), .int (nI m)] [] (va_up a (L + 2) h, r, nK) (RI P) := by
  have hc0 := hc
  have hl0 := hl
  obtain ⟨hT, h3, _, _, hs, hs8, _, _⟩ := hc
  obtain ⟨hL, h5, hl, h150, hw⟩ := hl
  obtain ⟨s1, s2⟩ := sep hL hT (Or.inl rfl : isLife 43)
  have hT0 : ∀ h : Nat → Int32, va_up a (L + 2) h T 1 = nI ns := fun h => by rw [← hs, va_up_ne a h (show T ≠ L + 2 from s2 0 (by decide))]
  intro c
  induction c with
  | zero =>
    intro m h hm he hv
    refine V_X11_tempted_17 ⟨rfl, by decide, _, h3, ct0 hT, ctl hT, fun _ => ?_, fun h => absurd (by rw [hT0]; exact nI_le (by omega) (by omega)) h⟩
    rw [nI_1]
    exact hn h (by rw [he]; rfl)
  | succ c ih =>
    intro m h hm he hv
    refine V_X11_tempted_17 ⟨rfl, by decide, _, h3, ct0 hT, ctl hT, fun h => absurd h (by rw [hT0]; exact nI_ge (by omega) (by omega)), fun _ => ⟨rfl, by decide, c_wouldLeave hr hc0 hl0 (fun h' => ?_)⟩⟩
    rw [tp2] at he
    by_cases hb : fTm a T lw (nI k) (nI m) = true
    · rw [if_pos hb]
      rw [if_pos hb] at he
      refine ⟨fun z => absurd z (by decide), fun _ => ?_⟩
      rw [← hv _ he]
      exact hp h'
    · rw [if_neg hb]
      rw [if_neg hb] at he
      refine ⟨fun _ => ?_, fun z => absurd rfl z⟩
      rw [nI_1]
      exact ih (m + 1) h' (by omega) he hv
theorem l_tp1 {P : KI} (hr : Rk r) (hc : CtH a r T nc ns ng) (hl : LwH a r L lw) {V : Int32} (hp : ∀ h', P V (va_up a (L + 2) h') r nK) :
    ∀ (c k : Nat) (h : Nat → Int32), k + c = ns → V = tp1 (fun s o => fTm a T lw (nI s) (nI o)) ns c k → E G MX11_tempted (d + 9) C S 2 [.ref 0, .int (nI k), .null] [] (va_up a (L + 2) h, r, nK) (RI P) := by
  have hc0 := hc
  have hl0 := hl
  obtain ⟨hT, h3, _, _, hs, hs8, _, _⟩ := hc
  obtain ⟨hL, h5, hl, h150, hw⟩ := hl
  obtain ⟨s1, s2⟩ := sep hL hT (Or.inl rfl : isLife 43)
  have hT0 : ∀ h : Nat → Int32, va_up a (L + 2) h T 1 = nI ns := fun h => by rw [← hs, va_up_ne a h (show T ≠ L + 2 from s2 0 (by decide))]
  intro c
  induction c with
  | zero =>
    intro k h hk hv
    have := hp h
    rw [hv] at this
    exact V_X11_tempted_2 ⟨rfl, by decide, _, h3, ct0 hT, ctl hT, fun _ => this, fun h => absurd (by rw [hT0]; exact nI_le (by omega) (by omega)) h⟩
  | succ c ih =>
    intro k h hk hv
    refine V_X11_tempted_2 ⟨rfl, by decide, _, h3, ct0 hT, ctl hT, fun h => absurd h (by rw [hT0]; exact nI_ge (by omega) (by omega)), fun _ => ?_⟩
    rw [nI_1]
    rw [tp1] at hv
    refine l_tp2 hr hc0 hl0 (by omega) hp (fun h he => ih (k + 1) h (by omega) (by rw [hv, he]; rfl)) (ns - (k + 1)) (k + 1) h (by omega) rfl (fun v hv' => by rw [hv, hv']; rfl)
theorem c_tempted {P : KI} (hr : Rk r) (hc : CtH a r T nc ns ng) (hl : LwH a r L lw) (hp : ∀ h', P (tp1 (fun s o => fTm a T lw (nI s) (nI o)) ns ns 0) (va_up a (L + 2) h') r nK) : Sp G (d + 9) 0 0 MX11_tempted [.ref 0] (a, r, nK) (RI P) := by
  have := l_tp1 (G := G) (d := d) (C := 0) (S := 0) hr hc hl hp ns 0 (a (L + 2)) (by omega) rfl
  rw [up_same] at this
  exact V_X11_tempted_0 this
theorem c_way {P : KI} (hr : Rk r) (hc : CtH a r T nc ns ng) (h1 : inE s (a T 0)) (h2 : inE w (a T 0)) (hp : ∀ F, P (stp (rSpread a T nc ns s (-1) (a 56)) w) (va_up a 56 F) r nK) : Sp G (d + 4) 0 0 MX11_way [.ref 0, .int s, .int w] (a, r, nK) (RI P) := by
  obtain ⟨hT, h3, hn, hn10, hs, hs8, _, _⟩ := hc
  refine V_X11_way_0 ⟨rfl, by decide, c_needCorner hT h3 h1 ⟨rfl, by decide, c_needCorner hT h3 h2 ⟨rfl, by decide, 55, rf5 hr (by decide) rfl, rfl, by decide, _, h3, rfl, by decide, c_spread hr hT hs hs8 hn hn10 ⟨rfl, by decide, 55, rf5 hr (by decide) rfl, rfl, by decide, c_stepsTo hr ?_⟩⟩⟩⟩
  rw [va_up_self]
  exact hp _
theorem x_way {P : KX} (hc : CtH a r T nc ns ng) (h : ¬ (inE s (a T 0) ∧ inE w (a T 0))) (hp : P xNo (bump a 18) r nK) : Sp G (d + 8) 1 6 MX11_way [.ref 0, .int s, .int w] (a, r, nK) (RX P) := by
  by_cases hs : inE s (a T 0)
  · exact VX_X11_way_0 (.inl ⟨rfl, by decide, c_needCorner hc.1 hc.2.1 hs (.inr ⟨rfl, by decide, x_needCorner hc.1 hc.2.1 (fun hw => h ⟨hs, hw⟩) hp⟩)⟩)
  · exact VX_X11_way_0 (.inr ⟨rfl, by decide, x_needCorner hc.1 hc.2.1 hs hp⟩)
theorem c_round {P : KI} (hr : Rk r) (hc : CtH a r T nc ns ng) (h : inE s ((1 : Int32) <<< (nI ns &&& 31))) (hp : ∀ a', keep L a a' → P (if s = 0 then 0 else if wkR a T ns s ns 0 0 0 0 1000000 < 1000000 then wkR a T ns s ns 0 0 0 0 1000000 else -1) a' r nK) : Sp G (d + 13) 0 0 MX11_round [.ref 0, .int s] (a, r, nK) (RI P) := by
  obtain ⟨hT, h3, hn, hn10, hs, hs8, _, _⟩ := hc
  refine V_X11_round_0 ⟨fun h' => absurd h' h.1, fun _ => ⟨rfl, by decide, _, h3, ct0 hT, ctl hT, fun h' => absurd (by rw [← hs]; exact h') h.2, fun _ => ⟨rfl, by decide, c_need (by decide) ⟨rfl, by decide, 55, rf5 hr (by decide) rfl, rfl, by decide, _, h3, rfl, by decide, c_shortestRound hr hT hs hs8 (fun h0 => ?_) (fun h0 ob => ?_)⟩⟩⟩⟩
  · have := hp a keep_rf
    rw [if_pos h0] at this
    exact this
  · have := hp (va_up a 55 ob) (keep_up keep_rf (Or.inr (Or.inl ⟨by decide, by decide⟩)))
    rw [if_neg h0] at this
    exact this
theorem x_round {P : KX} (hc : CtH a r T nc ns ng) (h : ¬ inE s ((1 : Int32) <<< (nI ns &&& 31))) (hp : P xIl (bump a 19) r nK) : Sp G (d + 8) 1 6 MX11_round [.ref 0, .int s] (a, r, nK) (RX P) := by
  obtain ⟨hT, h3, hn, hn10, hs, hs8, _, _⟩ := hc
  refine VX_X11_round_0 ⟨fun _ => .inr ⟨rfl, by decide, x_need hp⟩, fun h1 => ⟨rfl, by decide, _, h3, ct0 hT, ctl hT, fun _ => .inr ⟨rfl, by decide, x_need hp⟩, fun h2 => absurd ⟨h1, by rw [← hs]; exact h2⟩ h⟩⟩
theorem l_reach {P : KI} {F : Nat → Int32} {V : Int32} (hr : Rk r) (hc : CtH a r T nc ns ng) (hp : P V (va_up a 56 F) r nK) :
    ∀ (c k : Nat) (x : Int32), k + c = nc → V = bitsLo (fun o => decide (¬ stp F (nI o) = -1)) c k x → E G MX11_reach (d + 4) C S 22 [.ref 0, .null, .int x, .int (nI k)] [] (va_up a 56 F, r, nK) (RI P) := by
  obtain ⟨hT, h3, hn, hn10, hs, hs8, _, _⟩ := hc
  have hT0 : va_up a 56 F T 0 = nI nc := by rw [← hn, va_up_ne _ _ (by rcases hT with rfl | rfl <;> decide)]
  intro c
  induction c with
  | zero =>
    intro k x hk hv
    rw [hv] at hp
    exact V_X11_reach_22 ⟨rfl, by decide, _, h3, ct0 hT, ctl hT, fun _ => hp, fun h => absurd (by rw [hT0]; exact nI_le (by omega) (by omega)) h⟩
  | succ c ih =>
    intro k x hk hv
    rw [bitsLo] at hv
    refine V_X11_reach_22 ⟨rfl, by decide, _, h3, ct0 hT, ctl hT, fun h => absurd h (by rw [hT0]; exact nI_ge (by omega) (by omega)), fun _ => ⟨rfl, by decide, 55, rf5 hr (by decide) rfl, rfl, by decide, c_stepsTo hr ?_⟩⟩
    rw [va_up_self, nI_1]
    refine ⟨fun (h : stp F (nI k) = -1) => ?_, fun (h : ¬ stp F (nI k) = -1) => ?_⟩
    · rw [decide_eq_false (fun z => z h)] at hv
      exact ih (k + 1) x (by omega) hv
    · rw [decide_eq_true h] at hv
      exact ih (k + 1) _ (by omega) hv
theorem c_reach {P : KI} (hr : Rk r) (hc : CtH a r T nc ns ng) (h1 : inE s (a T 0)) (hp : ∀ F, P (bitsLo (fun o => decide (¬ stp (rSpread a T nc ns s (-1) (a 56)) (nI o) = -1)) nc 0 0) (va_up a 56 F) r nK) : Sp G (d + 4) 0 0 MX11_reach [.ref 0, .int s] (a, r, nK) (RI P) := by
  have hc0 := hc
  obtain ⟨hT, h3, hn, hn10, hs, hs8, _, _⟩ := hc
  exact V_X11_reach_0 ⟨rfl, by decide, c_needCorner hT h3 h1 ⟨rfl, by decide, 55, rf5 hr (by decide) rfl, rfl, by decide, _, h3, rfl, by decide, c_spread hr hT hs hs8 hn hn10 (l_reach hr hc0 (hp _) nc 0 0 (by omega) rfl)⟩⟩
theorem x_reach {P : KX} (hc : CtH a r T nc ns ng) (h : ¬ inE s (a T 0)) (hp : P xNo (bump a 18) r nK) : Sp G (d + 8) 1 6 MX11_reach [.ref 0, .int s] (a, r, nK) (RX P) :=
  VX_X11_reach_0 (.inr ⟨rfl, by decide, x_needCorner hc.1 hc.2.1 h hp⟩)
end WY
