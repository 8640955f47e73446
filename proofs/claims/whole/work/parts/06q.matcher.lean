/-! Matcher -/
theorem mtc_k {r : RA} (hr : Rk r) : tyK 50 = (0, 6) ∧ tyK 51 = (1, 8) ∧ tyK 52 = (1, 8) ∧ tyK 53 = (1, 8) ∧ tyK 54 = (1, 8) ∧ r 50 0 = .ref 51 ∧ r 50 1 = .ref 52 ∧ r 50 2 = .ref 53 ∧ r 50 3 = .ref 54 := ⟨rfl, rfl, rfl, rfl, rfl, hr.at (by decide), hr.at (by decide), hr.at (by decide), hr.at (by decide)⟩
/-- all of c places from i on -/
def allB (p : Nat → Bool) : Nat → Nat → Bool
  | 0, _ => true
  | c + 1, i => p i && allB p c (i + 1)
def bitsLo (p : Nat → Bool) : Nat → Nat → Int32 → Int32
  | 0, _, x => x
  | c + 1, i, x => bitsLo p c (i + 1) (if p i then x ||| ((1 : Int32) <<< (nI i &&& 31)) else x)
def lpM {χ : Type} (g : Nat → χ → χ) : Nat → Nat → χ → χ
  | 0, _, x => x
  | c + 1, i, x => lpM g c (i + 1) (g i x)
/-- all MATCHINGS, in the order of BEST, each judged -/
def fM {χ : Type} (alw : Nat → Nat → Bool) (n : Nat) (jd : (Nat → Int32) → χ → χ) : Nat → Nat → (Nat → Int32) → χ → χ
  | 0, _, m, x => jd m x
  | t + 1, s, m, x => if m s = -1 then lpM (fun r y => if alw s r = true ∧ m r = -1 then fM alw n jd t (s + 1) (upd (upd m s (nI r)) r (nI s)) y else y) (n - (s + 1)) (s + 1) (fM alw n jd t (s + 1) m x) else fM alw n jd t (s + 1) m x
abbrev Js : Type := Int32 × Int32 × (Nat → Int32) × (Nat → Int32)
def cpy8 (m o : Nat → Int32) : Nat → Int32 := fun j => if j < 8 then m j else o j
def jdW (w : Int32) (m : Nat → Int32) (x : Js) : Js := if w ≤ x.2.1 then x else (x.1, w, x.2.2.1, cpy8 m x.2.2.2)
def jdS (st : Bool) (m : Nat → Int32) (x : Js) : Js := if st then (x.1 + 1, x.2.1, if x.1 = 0 then cpy8 m x.2.2.1 else x.2.2.1, x.2.2.2) else x
def jdg (wf : (Nat → Int32) → Int32) (sf : (Nat → Int32) → Bool) (m : Nat → Int32) (x : Js) : Js := jdS (sf m) m (jdW (wf m) m x)
def alwC (may : Nat → Int32) (s r : Nat) : Bool := decide ((may s >>> (nI r &&& 31)) &&& 1 = 1)
def wfC (a : IA) (T n : Nat) (m : Nat → Int32) : Int32 := sI (fun s => ctLiking a T (nI s) (m s)) n
def prfC (a : IA) (T : Nat) (m : Nat → Int32) (s r : Nat) : Bool := decide (¬ ctLiking a T (nI s) (nI r) ≤ ctLiking a T (nI s) (m s))
def okP (a : IA) (T : Nat) (may m : Nat → Int32) (s r : Nat) : Bool := !(alwC may s r && prfC a T m s r && prfC a T m r s)
def sfC (a : IA) (T n : Nat) (may m : Nat → Int32) : Bool := allB (fun s => allB (okP a T may m s) (n - (s + 1)) (s + 1)) n 0
def HM (a : IA) (ob m sm wm : Nat → Int32) : IA := va_up (va_up (va_up (va_up a 50 ob) 52 m) 53 sm) 54 wm
def obJ (ob : Nat → Int32) (x : Js) : Prop := ob 4 = x.1 ∧ ob 5 = x.2.1
section MC
variable {a : IA} {ob m sm wm z : Nat → Int32}
theorem HM_50 : HM a ob m sm wm 50 = ob := by unfold HM; rw [va_up_ne _ _ (by decide), va_up_ne _ _ (by decide), va_up_ne _ _ (by decide), va_up_self]
theorem HM_52 : HM a ob m sm wm 52 = m := by unfold HM; rw [va_up_ne _ _ (by decide), va_up_ne _ _ (by decide), va_up_self]
theorem HM_53 : HM a ob m sm wm 53 = sm := by unfold HM; rw [va_up_ne _ _ (by decide), va_up_self]
theorem HM_54 : HM a ob m sm wm 54 = wm := by unfold HM; rw [va_up_self]
theorem HM_ne {q : Nat} (h0 : q ≠ 50) (h1 : q ≠ 52) (h2 : q ≠ 53) (h3 : q ≠ 54) : HM a ob m sm wm q = a q := by unfold HM; rw [va_up_ne _ _ h3, va_up_ne _ _ h2, va_up_ne _ _ h1, va_up_ne _ _ h0]
theorem HM_p50 : va_up (HM a ob m sm wm) 50 z = HM a z m sm wm := by
  unfold HM
  rw [up_comm _ _ _ (show (54 : Nat) ≠ 50 by decide), up_comm _ _ _ (show (53 : Nat) ≠ 50 by decide), up_comm _ _ _ (show (52 : Nat) ≠ 50 by decide), bx_uu]
theorem HM_p52 : va_up (HM a ob m sm wm) 52 z = HM a ob z sm wm := by
  unfold HM
  rw [up_comm _ _ _ (show (54 : Nat) ≠ 52 by decide), up_comm _ _ _ (show (53 : Nat) ≠ 52 by decide), bx_uu]
theorem HM_p53 : va_up (HM a ob m sm wm) 53 z = HM a ob m z wm := by
  unfold HM
  rw [up_comm _ _ _ (show (54 : Nat) ≠ 53 by decide), bx_uu]
theorem HM_p54 : va_up (HM a ob m sm wm) 54 z = HM a ob m sm z := by unfold HM; rw [bx_uu]
theorem HM_u (j : Nat) (x : Int32) : u2 (HM a ob m sm wm) 50 j x = HM a (upd ob j x) m sm wm := by unfold u2; rw [HM_50, HM_p50]
theorem cT {T k : Nat} (hT : isCity T) (hk : k ≤ 11) : HM a ob m sm wm (T + k) = a (T + k) := by
  have : T + k < 27 := by rcases hT with rfl | rfl <;> omega
  exact HM_ne (by omega) (by omega) (by omega) (by omega)
theorem ctLiking_HM {T : Nat} {s o : Int32} (hT : isCity T) : ctLiking (HM a ob m sm wm) T s o = ctLiking a T s o := by
  unfold ctLiking
  rw [cT hT (by decide)]
end MC
section MA
variable {G : GE} {d C S : Nat} {a : IA} {r : RA} {T n : Nat} {ob m sm wm : Nat → Int32}
theorem c_isAllowed {P : KI} {s t : Nat} (hr : Rk r) (hs : s < 8) (hp : P (if alwC (a 51) s t then 1 else 0) a r nK) : Sp G (d + 1) 0 0 MX6_isAllowed [.ref 50, .int (nI s), .int (nI t)] (a, r, nK) (RI P) := by
  obtain ⟨t0, t1, t2, t3, t4, e1, e2, e3, e4⟩ := mtc_k hr
  refine V_X6_isAllowed_0 ⟨t0, by decide, _, e1, c_at t1 (by decide) (by decide) ?_⟩
  rw [rAt_nI _ (by decide) hs]
  unfold alwC at hp
  refine ⟨fun h => ⟨bz_0, ?_⟩, fun h => ⟨bz_1, ?_⟩⟩
  · rw [decide_eq_false h] at hp; exact hp
  · rw [decide_eq_true h] at hp; exact hp
theorem c_prefers {P : KI} {s t : Nat} (hr : Rk r) (hT : isCity T) (hs : s < 8) (hp : P (if prfC a T m s t then 1 else 0) (HM a ob m sm wm) r nK) : Sp G (d + 2) 0 0 MX6_prefers [.ref 50, .ref T, .int (nI s), .int (nI t)] (HM a ob m sm wm, r, nK) (RI P) := by
  obtain ⟨t0, t1, t2, t3, t4, e1, e2, e3, e4⟩ := mtc_k hr
  refine V_X6_prefers_0 ⟨ct0 hT, ctl hT, c_liking hr hT ⟨t0, by decide, _, e2, c_at t2 (by decide) (by decide) ⟨ct0 hT, ctl hT, c_liking hr hT ?_⟩⟩⟩
  rw [HM_52, rAt_nI _ (by decide) hs, ctLiking_HM hT, ctLiking_HM hT]
  unfold prfC at hp
  refine ⟨fun h => ⟨bz_0, ?_⟩, fun h => ⟨bz_1, ?_⟩⟩
  · rw [decide_eq_false (fun z => z h)] at hp; exact hp
  · rw [decide_eq_true h] at hp; exact hp
theorem l_warmth {P : KI} (hr : Rk r) (hT : isCity T) (hn : a T 1 = nI n) (hn8 : n ≤ 8) (hp : P (wfC a T n m) (HM a ob m sm wm) r nK) : ∀ (t s : Nat), s + t = n → E G MX6_warmth (d + 2) C S 4 [.ref 50, .ref T, .int (wfC a T s m), .int (nI s)] [] (HM a ob m sm wm, r, nK) (RI P) := by
  obtain ⟨t0, t1, t2, t3, t4, e1, e2, e3, e4⟩ := mtc_k hr
  have hT0 : HM a ob m sm wm T 1 = nI n := by rw [← hn]; exact congrFun (cT (k := 0) hT (by decide)) 1
  intro t
  induction t with
  | zero =>
    intro s hs
    obtain rfl : s = n := by omega
    exact V_X6_warmth_4 ⟨ct0 hT, ctl hT, fun _ => hp, fun h => absurd (by rw [hT0]; exact nI_le (Nat.le_refl _) (by omega)) h⟩
  | succ t ih =>
    intro s hs
    refine V_X6_warmth_4 ⟨ct0 hT, ctl hT, fun h => absurd h (by rw [hT0]; exact nI_ge (by omega) (by omega)), fun h => ⟨t0, by decide, _, e2, c_at t2 (by decide) (by decide) ⟨ct0 hT, ctl hT, c_liking hr hT ?_⟩⟩⟩
    rw [HM_52, rAt_nI _ (by decide) (by omega), ctLiking_HM hT, nI_1]
    exact ih (s + 1) (by omega)
theorem c_warmth {P : KI} (hr : Rk r) (hT : isCity T) (hn : a T 1 = nI n) (hn8 : n ≤ 8) (hp : P (wfC a T n m) (HM a ob m sm wm) r nK) : Sp G (d + 2) 0 0 MX6_warmth [.ref 50, .ref T] (HM a ob m sm wm, r, nK) (RI P) := V_X6_warmth_0 (l_warmth hr hT hn hn8 hp n 0 (by omega))
theorem l_st2 {P : KI} {s : Nat} (hr : Rk r) (hT : isCity T) (hn : a T 1 = nI n) (hn8 : n ≤ 8) (hs : s < n) (hno : allB (okP a T (a 51) m s) (n - (s + 1)) (s + 1) = false → P 0 (HM a ob m sm wm) r nK) (hyes : allB (okP a T (a 51) m s) (n - (s + 1)) (s + 1) = true → E G MX6_isStable (d + 3) C S 2 [.ref 50, .ref T, .int (nI s + 1), .null] [] (HM a ob m sm wm, r, nK) (RI P)) :
    ∀ (c k : Nat), k + c = n → s < k → allB (okP a T (a 51) m s) (n - (s + 1)) (s + 1) = allB (okP a T (a 51) m s) c k → E G MX6_isStable (d + 3) C S 14 [.ref 50, .ref T, .int (nI s), .int (nI k)] [] (HM a ob m sm wm, r, nK) (RI P) := by
  obtain ⟨t0, t1, t2, t3, t4, e1, e2, e3, e4⟩ := mtc_k hr
  have hT0 : HM a ob m sm wm T 1 = nI n := by rw [← hn]; exact congrFun (cT (k := 0) hT (by decide)) 1
  intro c
  induction c with
  | zero =>
    intro k hk hsk he
    obtain rfl : k = n := by omega
    exact V_X6_isStable_14 ⟨ct0 hT, ctl hT, fun _ => hyes he, fun h => absurd (by rw [hT0]; exact nI_le (Nat.le_refl _) (by omega)) h⟩
  | succ c ih =>
    intro k hk hsk he
    have go : okP a T (a 51) m s k = true → E G MX6_isStable (d + 3) C S 14 [.ref 50, .ref T, .int (nI s), .int (nI k + 1)] [] (HM a ob m sm wm, r, nK) (RI P) := fun h => by
      rw [nI_1]
      rw [allB, h, Bool.true_and] at he
      exact ih (k + 1) (by omega) (by omega) he
    refine V_X6_isStable_14 ⟨ct0 hT, ctl hT, fun h => absurd h (by rw [hT0]; exact nI_ge (by omega) (by omega)), fun h => ⟨t0, by decide, c_isAllowed hr (by omega) ?_⟩⟩
    rw [HM_ne (by decide) (by decide) (by decide) (by decide)]
    refine ⟨fun h1 => go ?_, fun h1 => ⟨t0, by decide, c_prefers hr hT (by omega) ⟨fun h2 => go ?_, fun h2 => ⟨t0, by decide, c_prefers hr hT (by omega) ⟨fun h3 => go ?_, fun h3 => ⟨bz_0, hno ?_⟩⟩⟩⟩⟩⟩
    · rw [bit0] at h1; unfold okP; rw [h1]; rfl
    · rw [bit0] at h2; unfold okP; rw [h2]; simp
    · rw [bit0] at h3; unfold okP; rw [h3]; simp
    · simp only [bit0, Bool.not_eq_false] at h1 h2 h3
      rw [he, allB]
      unfold okP
      rw [h1, h2, h3]
      rfl
theorem l_st1 {P : KI} (hr : Rk r) (hT : isCity T) (hn : a T 1 = nI n) (hn8 : n ≤ 8) (hp : P (if sfC a T n (a 51) m then 1 else 0) (HM a ob m sm wm) r nK) :
    ∀ (c s : Nat), s + c = n → sfC a T n (a 51) m = allB (fun s => allB (okP a T (a 51) m s) (n - (s + 1)) (s + 1)) c s → E G MX6_isStable (d + 3) C S 2 [.ref 50, .ref T, .int (nI s), .null] [] (HM a ob m sm wm, r, nK) (RI P) := by
  have hT0 : HM a ob m sm wm T 1 = nI n := by rw [← hn]; exact congrFun (cT (k := 0) hT (by decide)) 1
  intro c
  induction c with
  | zero =>
    intro s hs he
    obtain rfl : s = n := by omega
    rw [he] at hp
    exact V_X6_isStable_2 ⟨ct0 hT, ctl hT, fun _ => ⟨bz_1, hp⟩, fun h => absurd (by rw [hT0]; exact nI_le (Nat.le_refl _) (by omega)) h⟩
  | succ c ih =>
    intro s hs he
    rw [allB] at he
    refine V_X6_isStable_2 ⟨ct0 hT, ctl hT, fun h => absurd h (by rw [hT0]; exact nI_ge (by omega) (by omega)), fun h => ?_⟩
    rw [nI_1]
    refine l_st2 hr hT hn hn8 (by omega) (fun h1 => ?_) (fun h1 => ?_) (n - (s + 1)) (s + 1) (by omega) (by omega) rfl
    · rw [he, h1, Bool.false_and] at hp; exact hp
    · rw [nI_1]
      rw [h1, Bool.true_and] at he
      exact ih (s + 1) (by omega) he
theorem c_isStable {P : KI} (hr : Rk r) (hT : isCity T) (hn : a T 1 = nI n) (hn8 : n ≤ 8) (hp : P (if sfC a T n (a 51) m then 1 else 0) (HM a ob m sm wm) r nK) : Sp G (d + 3) 0 0 MX6_isStable [.ref 50, .ref T] (HM a ob m sm wm, r, nK) (RI P) := V_X6_isStable_0 (l_st1 hr hT hn hn8 hp n 0 (by omega) rfl)
/-- what holds behind a judgement or a walk over MATCHINGS -/
def jQ (r : RA) (a : IA) (m : Nat → Int32) (x : Js) (P : KN) : Prop := ∀ ob', obJ ob' x → P (HM a ob' m x.2.2.1 x.2.2.2) r nK
theorem cpy8_eq (m o : Nat → Int32) : (fun j => if 0 ≤ j ∧ j < 0 + 8 then m (0 + (j - 0)) else o j) = cpy8 m o := by
  funext j
  unfold cpy8
  simp
theorem c_judge {P : KN} {x : Js} (hr : Rk r) (hT : isCity T) (hn : a T 1 = nI n) (hn8 : n ≤ 8) (hx : obJ ob x) (hp : jQ r a m (jdg (wfC a T n) (sfC a T n (a 51)) m x) P) : Sp G (d + 4) 0 0 MX6_judge [.ref 50, .ref T] (HM a ob m x.2.2.1 x.2.2.2, r, nK) (RN P) := by
  obtain ⟨t0, t1, t2, t3, t4, e1, e2, e3, e4⟩ := mtc_k hr
  have part2 : ∀ (ob : Nat → Int32) (y : Js), obJ ob y → jQ r a m (jdS (sfC a T n (a 51) m) m y) P → E G MX6_judge (d + 4) 0 0 34 [.ref 50, .ref T, .null] [] (HM a ob m y.2.2.1 y.2.2.2, r, nK) (RN P) := by
    intro ob y hy hq
    refine V_X6_judge_34 ⟨t0, by decide, c_isStable hr hT hn hn8 ⟨fun h1 => ?_, fun h1 => ⟨t0, by decide, ?_⟩⟩⟩
    · rw [bit0] at h1
      rw [h1] at hq
      simp only [jdS, Bool.false_eq_true, if_false] at hq
      exact hq ob hy
    · simp only [bit0, Bool.not_eq_false] at h1
      rw [h1] at hq
      rw [HM_50, hy.1]
      unfold jdS at hq
      rw [if_pos rfl] at hq
      refine ⟨fun h2 => ⟨t0, by decide, t0, by decide, fun a5 h5 => ?_⟩, fun h2 => ⟨t0, by decide, _, e2, t0, by decide, _, e3, c_copy (i1 := 0) (i2 := 0) (m := 8) t2 t3 (by decide) (by decide) (by decide) (by decide) (by decide) (by decide) (by decide) ⟨t0, by decide, t0, by decide, fun a5 h5 => ?_⟩⟩⟩
      · rw [HM_u] at h5
        subst h5
        rw [if_neg h2] at hq
        exact hq _ ⟨upd_eq, by rw [upd_ne (by decide)]; exact hy.2⟩
      · rw [HM_52, HM_53, cpy8_eq, HM_p53, HM_50, hy.1, HM_u] at h5
        subst h5
        rw [if_pos h2] at hq
        exact hq _ ⟨upd_eq, by rw [upd_ne (by decide)]; exact hy.2⟩
  unfold jdg jdW at hp
  refine V_X6_judge_0 ⟨t0, by decide, c_warmth hr hT hn hn8 ⟨t0, by decide, ?_⟩⟩
  rw [HM_50, hx.2]
  refine ⟨fun h1 => ?_, fun h1 => ⟨t0, by decide, fun a5 h5 => ⟨t0, by decide, _, e2, t0, by decide, _, e4, ?_⟩⟩⟩
  · rw [if_pos h1] at hp
    exact part2 ob x hx hp
  · rw [if_neg h1] at hp
    rw [HM_u] at h5
    subst h5
    refine c_copy (i1 := 0) (i2 := 0) (m := 8) t2 t4 (by decide) (by decide) (by decide) (by decide) (by decide) (by decide) (by decide) ?_
    rw [HM_52, HM_54, cpy8_eq, HM_p54]
    exact part2 _ (x.1, wfC a T n m, x.2.2.1, cpy8 m x.2.2.2) ⟨by rw [upd_ne (by decide)]; exact hx.1, upd_eq⟩ hp
theorem upd_back {m : Nat → Int32} {s k : Nat} {x y : Int32} (hs : m s = -1) (hk : m k = -1) : upd (upd (upd (upd m s x) k y) s (-1)) k (-1) = m := by
  funext j
  unfold upd
  by_cases h1 : j = k
  · rw [if_pos h1, h1, hk]
  · rw [if_neg h1]
    by_cases h2 : j = s
    · rw [if_pos h2, h2, hs]
    · rw [if_neg h2, if_neg h1, if_neg h2]
def mtI (G : GE) (r : RA) (a : IA) (T n t : Nat) : Prop :=
  ∀ (s : Nat) (m ob : Nat → Int32) (x : Js) (P : KN) (D : Nat), s + t = n → obJ ob x → t + 5 ≤ D → jQ r a m (fM (alwC (a 51)) n (jdg (wfC a T n) (sfC a T n (a 51))) t s m x) P → Sp G D 0 0 MX6_match [.ref 50, .ref T, .int (nI s)] (HM a ob m x.2.2.1 x.2.2.2, r, nK) (RN P)
theorem l_match {P : KN} {t s : Nat} {D : Nat} (hr : Rk r) (hT : isCity T) (hn : a T 1 = nI n) (hn8 : n ≤ 8) (ih : mtI G r a T n t) (hst : s + (t + 1) = n) (hms : m s = -1) (hD : t + 5 ≤ D) :
    ∀ (c k : Nat) (ob : Nat → Int32) (x : Js), k + c = n → s < k → obJ ob x → jQ r a m (lpM (fun r y => if alwC (a 51) s r = true ∧ m r = -1 then fM (alwC (a 51)) n (jdg (wfC a T n) (sfC a T n (a 51))) t (s + 1) (upd (upd m s (nI r)) r (nI s)) y else y) c k x) P →
      E G MX6_match (D + 1) 0 0 39 [.ref 50, .ref T, .int (nI s), .int (nI k)] [] (HM a ob m x.2.2.1 x.2.2.2, r, nK) (RN P) := by
  obtain ⟨t0, t1, t2, t3, t4, e1, e2, e3, e4⟩ := mtc_k hr
  have hT0 : ∀ ob m sm wm, HM a ob m sm wm T 1 = nI n := fun ob m sm wm => by rw [← hn]; exact congrFun (cT (k := 0) hT (by decide)) 1
  intro c
  induction c with
  | zero =>
    intro k ob x hk hsk hx hq
    exact V_X6_match_39 ⟨ct0 hT, ctl hT, fun _ => hq ob hx, fun h => absurd (by rw [hT0]; exact nI_le (by omega) (by omega)) h⟩
  | succ c jh =>
    intro k ob x hk hsk hx hq
    rw [lpM] at hq
    refine V_X6_match_39 ⟨ct0 hT, ctl hT, fun h => absurd h (by rw [hT0]; exact nI_ge (by omega) (by omega)), fun h => ⟨t0, by decide, Sp.up (d := 1) (by omega) (c_isAllowed (d := 0) hr (by omega) ?_)⟩⟩
    rw [HM_ne (by decide) (by decide) (by decide) (by decide), nI_1]
    refine ⟨fun h1 => ?_, fun h1 => ⟨t0, by decide, _, e2, Sp.up (d := 0) (by omega) (c_at t2 (by decide) (by decide) ?_)⟩⟩
    · rw [bit0] at h1
      rw [if_neg (fun z => by rw [h1] at z; cases z.1)] at hq
      exact jh (k + 1) ob x (by omega) (by omega) hx hq
    simp only [bit0, Bool.not_eq_false] at h1
    rw [HM_52, rAt_nI _ (by decide) (by omega)]
    refine ⟨fun h2 => ?_, fun h2 => ⟨t0, by decide, _, e2, Sp.up (d := 0) (by omega) (c_put t2 (by decide) (by decide) ⟨t0, by decide, _, e2, Sp.up (d := 0) (by omega) (c_put t2 (by decide) (by decide) ⟨t0, by decide, ?_⟩)⟩)⟩⟩
    · rw [if_neg (fun z => h2 z.2)] at hq
      exact jh (k + 1) ob x (by omega) (by omega) hx hq
    rw [if_pos ⟨h1, h2⟩] at hq
    rw [HM_52, HM_p52, HM_52, HM_p52, rPut_nI _ (by decide) (by omega), rPut_nI _ (by decide) (by omega), nI_1]
    refine ih (s + 1) _ ob x _ D (by omega) hx hD (fun ob' hx' => ⟨t0, by decide, _, e2, Sp.up (d := 0) (by omega) (c_put t2 (by decide) (by decide) ⟨t0, by decide, _, e2, Sp.up (d := 0) (by omega) (c_put t2 (by decide) (by decide) ?_)⟩)⟩)
    rw [HM_52, HM_p52, HM_52, HM_p52, rPut_nI _ (by decide) (by omega), rPut_nI _ (by decide) (by omega), upd_back hms h2]
    exact jh (k + 1) ob' _ (by omega) (by omega) hx' hq
theorem mt_all (hr : Rk r) (hT : isCity T) (hn : a T 1 = nI n) (hn8 : n ≤ 8) : ∀ t, mtI G r a T n t := by
  obtain ⟨t0, t1, t2, t3, t4, e1, e2, e3, e4⟩ := mtc_k hr
  have hT0 : ∀ ob m sm wm, HM a ob m sm wm T 1 = nI n := fun ob m sm wm => by rw [← hn]; exact congrFun (cT (k := 0) hT (by decide)) 1
  intro t
  induction t with
  | zero =>
    intro s m ob x P D hs hx hD hq
    obtain ⟨D, rfl⟩ : ∃ D', D = D' + 1 := ⟨D - 1, by omega⟩
    exact V_X6_match_0 ⟨ct0 hT, ctl hT, fun h => absurd (by rw [hT0] at h; exact h) (nI_nlt (by omega) (by omega)), fun _ => ⟨t0, by decide, Sp.up (d := 4) (by omega) (c_judge (d := 0) hr hT hn hn8 hx hq)⟩⟩
  | succ t ih =>
    intro s m ob x P D hs hx hD hq
    obtain ⟨D, rfl⟩ : ∃ D', D = D' + 1 := ⟨D - 1, by omega⟩
    rw [fM] at hq
    refine V_X6_match_0 ⟨ct0 hT, ctl hT, fun _ => ⟨t0, by decide, ?_⟩, fun h => absurd (by rw [hT0]; exact nI_lt (by omega) (by omega)) h⟩
    rw [nI_1]
    refine ih (s + 1) m ob x _ D (by omega) hx (by omega) (fun ob' hx' => ⟨t0, by decide, _, e2, Sp.up (d := 0) (by omega) (c_at t2 (by decide) (by decide) ?_)⟩)
    rw [HM_52, rAt_nI _ (by decide) (by omega)]
    refine ⟨fun h1 => ?_, fun h1 => ?_⟩
    · rw [if_pos h1] at hq
      exact l_match hr hT hn hn8 ih (by omega) h1 (by omega) (n - (s + 1)) (s + 1) ob' _ (by omega) (by omega) hx' hq
    · rw [if_neg h1] at hq
      exact hq ob' hx'
end MA
