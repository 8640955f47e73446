/-! Matcher: who may, all MATCHINGS -/
def mayC (a : IA) (T : Nat) (lw : List Int32) (n s : Nat) : Int32 := if lfMate (a 44) (nI s) = -1 then bitsLo (fun r => decide (lfMate (a 44) (nI r) = -1) && decide (lwHind a T 43 lw (nI s) (nI r) = 0)) (n - (s + 1)) (s + 1) 0 else 0
section FA
variable {G : GE} {d C S : Nat} {a : IA} {r : RA} {T L n : Nat} {lw : List Int32} {ob m sm wm h : Nat → Int32}
theorem lwHind_congr {a' : IA} {q : Nat} {u v : Int32} (h1 : a' (q + 1) = a (q + 1)) (h2 : ∀ k, k ≤ 11 → a' (T + k) = a (T + k)) : lwHind a' T q lw u v = lwHind a T q lw u v := by
  unfold lwHind ctNever lwFact ctCommon ctLiking
  simp only [h2 9 (by decide), h2 7 (by decide), h2 3 (by decide), h2 4 (by decide), h2 8 (by decide), h2 5 (by decide), h1]
theorem wfC_congr {a' : IA} (h2 : ∀ k, k ≤ 11 → a' (T + k) = a (T + k)) : wfC a' T n = wfC a T n := by
  funext m
  unfold wfC ctLiking
  rw [h2 8 (by decide)]
theorem sfC_congr {a' : IA} {may : Nat → Int32} (h2 : ∀ k, k ≤ 11 → a' (T + k) = a (T + k)) : sfC a' T n may = sfC a T n may := by
  funext m
  unfold sfC okP prfC ctLiking
  rw [h2 8 (by decide)]
theorem HM_up {q : Nat} {z : Nat → Int32} (h0 : q ≠ 50) (h1 : q ≠ 52) (h2 : q ≠ 53) (h3 : q ≠ 54) : va_up (HM a ob m sm wm) q z = HM (va_up a q z) ob m sm wm := by
  unfold HM
  rw [up_comm _ _ _ (fun e => h3 e.symm), up_comm _ _ _ (fun e => h2 e.symm), up_comm _ _ _ (fun e => h1 e.symm), up_comm _ _ _ (fun e => h0 e.symm)]
theorem l_may {P : KI} {s : Nat} (hr : Rk r) (hL : isLaw L) (hT : isCity T) (hl : LwOK a L lw) (h150 : lw.length ≤ 150) (hw : lw = [] ∨ dep lw 0 = some 1) (hn : a T 1 = nI n) (hn8 : n ≤ 8) {V : Int32} (hp : ∀ h, P V (va_up a (L + 2) h) r nK) :
    ∀ (c k : Nat) (x : Int32) (h : Nat → Int32), k + c = n → V = bitsLo (fun r => decide (lfMate (a 44) (nI r) = -1) && decide (lwHind a T 43 lw (nI s) (nI r) = 0)) c k x → E G MX6_mayMarry (d + 5) C S 19 [.ref T, .ref 43, .ref L, .int (nI s), .int x, .int (nI k)] [] (va_up a (L + 2) h, r, nK) (RI P) := by
  have q43 : isLife 43 := Or.inl rfl
  have tL : tyK L = (0, 2) ∧ L < nK := ⟨(law_k hr hL).1, (law_k hr hL).2.1⟩
  obtain ⟨s1, s2⟩ := sep hL hT q43
  have hT0 : ∀ h : Nat → Int32, va_up a (L + 2) h T 1 = nI n := fun h => by rw [← hn, va_up_ne a h (show T ≠ L + 2 from s2 0 (by decide))]
  have h44 : ∀ h : Nat → Int32, va_up a (L + 2) h (43 + 1) = a 44 := fun h => va_up_ne a h s1
  intro c
  induction c with
  | zero =>
    intro k x h hk hv
    have := hp h
    rw [hv] at this
    exact V_X6_mayMarry_19 ⟨ct0 hT, ctl hT, fun _ => this, fun h => absurd (by rw [hT0]; exact nI_le (by omega) (by omega)) h⟩
  | succ c ih =>
    intro k x h hk hv
    rw [bitsLo] at hv
    refine V_X6_mayMarry_19 ⟨ct0 hT, ctl hT, fun h => absurd h (by rw [hT0]; exact nI_ge (by omega) (by omega)), fun _ => ⟨rfl, by decide, c_mateOf hr q43 ?_⟩⟩
    rw [h44, nI_1]
    refine ⟨fun h1 => ?_, fun h1 => ⟨tL.1, tL.2, c_hindrance hr hL hT q43 hl h150 hw (fun h' => ⟨fun h2 => ?_, fun h2 => ?_⟩)⟩⟩
    · rw [decide_eq_false h1, Bool.false_and] at hv
      exact ih (k + 1) x h (by omega) hv
    · rw [decide_eq_false h2, Bool.and_false] at hv
      exact ih (k + 1) x h' (by omega) hv
    · rw [decide_eq_true h1, decide_eq_true h2] at hv
      exact ih (k + 1) _ h' (by omega) hv
theorem c_mayMarry {P : KI} {s : Nat} (hr : Rk r) (hL : isLaw L) (hT : isCity T) (hl : LwOK a L lw) (h150 : lw.length ≤ 150) (hw : lw = [] ∨ dep lw 0 = some 1) (hn : a T 1 = nI n) (hn8 : n ≤ 8) (hs : s < n) (hp : ∀ h, P (mayC a T lw n s) (va_up a (L + 2) h) r nK) :
    Sp G (d + 5) 0 0 MX6_mayMarry [.ref T, .ref 43, .ref L, .int (nI s)] (va_up a (L + 2) h, r, nK) (RI P) := by
  have q43 : isLife 43 := Or.inl rfl
  obtain ⟨s1, s2⟩ := sep hL hT q43
  refine V_X6_mayMarry_0 ⟨rfl, by decide, c_mateOf hr q43 ?_⟩
  rw [show va_up a (L + 2) h (43 + 1) = a 44 from va_up_ne a h s1, nI_1]
  refine ⟨fun h1 => ?_, fun h1 => ?_⟩
  · exact l_may hr hL hT hl h150 hw hn hn8 hp (n - (s + 1)) (s + 1) 0 h (by omega) (by unfold mayC; rw [if_pos h1])
  · have := hp h
    unfold mayC at this
    rw [if_neg h1] at this
    exact this
/-- all MATCHINGS of a city as they are judged -/
def XM (a : IA) (T : Nat) (mr : Nat → Int32) (n : Nat) : Js := fM (alwC mr) n (jdg (wfC a T n) (sfC a T n mr)) n 0 (fun j => if j < 8 then -1 else a 52 j) (0, -1, (fun j => if j < 8 then -1 else a 53 j), (fun j => if j < 8 then -1 else a 54 j))
def mayR (a : IA) (T : Nat) (lw : List Int32) (n k : Nat) : Nat → Int32 := fun j => if j < k then mayC a T lw n j else a 51 j
theorem mayR_s {k : Nat} : upd (mayR a T lw n k) k (mayC a T lw n k) = mayR a T lw n (k + 1) := by
  funext j
  unfold upd mayR
  by_cases h1 : j = k
  · subst h1; rw [if_pos rfl, if_pos (by omega)]
  · rw [if_neg h1]
    by_cases h2 : j < k
    · rw [if_pos h2, if_pos (by omega)]
    · rw [if_neg h2, if_neg (by omega)]
theorem l_findAll {P : KN} (hr : Rk r) (hL : isLaw L) (hT : isCity T) (hl : LwOK a L lw) (h150 : lw.length ≤ 150) (hw : lw = [] ∨ dep lw 0 = some 1) (hn : a T 1 = nI n) (hn8 : n ≤ 8)
    (hm : m = fun j => if j < 8 then -1 else a 52 j) (hsm : sm = fun j => if j < 8 then -1 else a 53 j) (hwm : wm = fun j => if j < 8 then -1 else a 54 j) (hob : obJ ob (0, -1, sm, wm))
    (hp : ∀ ob' h, obJ ob' (XM a T (mayR a T lw n n) n) → P (HM (va_up (va_up a 51 (mayR a T lw n n)) (L + 2) h) ob' (fun j => if j < 8 then -1 else a 52 j) (XM a T (mayR a T lw n n) n).2.2.1 (XM a T (mayR a T lw n n) n).2.2.2) r nK) :
    ∀ (c k : Nat) (h : Nat → Int32), k + c = n → E G MX6_findAll (d + 15) C S 37 [.ref 50, .ref T, .ref 43, .ref L, .int (nI k)] [] (HM (va_up (va_up a 51 (mayR a T lw n k)) (L + 2) h) ob m sm wm, r, nK) (RN P) := by
  obtain ⟨t0, t1, t2, t3, t4, e1, e2, e3, e4⟩ := mtc_k hr
  have q43 : isLife 43 := Or.inl rfl
  obtain ⟨s1, s2⟩ := sep hL hT q43
  have hT27 : ∀ k, k ≤ 11 → T + k < 27 := fun k hk => by rcases hT with rfl | rfl <;> omega
  have hL33 : L + 2 < 33 := by rcases hL with rfl | rfl <;> decide
  have base : ∀ (z h : Nat → Int32) k, k ≤ 11 → va_up (va_up a 51 z) (L + 2) h (T + k) = a (T + k) := fun z h k hk => by rw [va_up_ne _ _ (s2 k hk), va_up_ne _ _ (by have := hT27 k hk; omega)]
  have hT0 : ∀ (z h : Nat → Int32) ob m sm wm, HM (va_up (va_up a 51 z) (L + 2) h) ob m sm wm T 1 = nI n := fun z h ob m sm wm => by
    have := congrFun ((cT (a := va_up (va_up a 51 z) (L + 2) h) (ob := ob) (m := m) (sm := sm) (wm := wm) (k := 0) hT (by decide)).trans (base z h 0 (by decide))) 1
    rw [← hn]; exact this
  intro c
  induction c with
  | zero =>
    intro k h hk
    obtain rfl : k = n := by omega
    refine V_X6_findAll_37 ⟨ct0 hT, ctl hT, fun _ => ⟨t0, by decide, ?_⟩, fun h => absurd (by rw [hT0]; exact nI_le (by omega) (by omega)) h⟩
    refine mt_all (G := G) (a := va_up (va_up a 51 (mayR a T lw k k)) (L + 2) h) hr hT ?_ hn8 k 0 m ob (0, -1, sm, wm) _ (d + 14) (by omega) hob (by omega) ?_
    · rw [show T = T + 0 from rfl, base _ _ 0 (by decide)]; exact hn
    · intro ob' hx'
      have e51 : va_up (va_up a 51 (mayR a T lw k k)) (L + 2) h 51 = mayR a T lw k k := by rw [va_up_ne _ _ (by omega), va_up_self]
      rw [e51, wfC_congr (base _ _), sfC_congr (base _ _), hm, hsm, hwm] at hx' ⊢
      exact hp ob' h hx'
  | succ c ih =>
    intro k h hk
    refine V_X6_findAll_37 ⟨ct0 hT, ctl hT, fun h => absurd h (by rw [hT0]; exact nI_ge (by omega) (by omega)), fun _ => ⟨t0, by decide, _, e1, ?_⟩⟩
    have eH : HM (va_up (va_up a 51 (mayR a T lw n k)) (L + 2) h) ob m sm wm = va_up (HM (va_up a 51 (mayR a T lw n k)) ob m sm wm) (L + 2) h := (HM_up (by omega) (by omega) (by omega) (by omega)).symm
    rw [eH]
    have aT : ∀ k', k' ≤ 11 → HM (va_up a 51 (mayR a T lw n k)) ob m sm wm (T + k') = a (T + k') := fun k' hk' => by rw [cT hT hk', va_up_ne _ _ (by have := hT27 k' hk'; omega)]
    have a44 : HM (va_up a 51 (mayR a T lw n k)) ob m sm wm 44 = a 44 := by rw [HM_ne (by decide) (by decide) (by decide) (by decide), va_up_ne _ _ (by decide)]
    have hl' : LwOK (HM (va_up a 51 (mayR a T lw n k)) ob m sm wm) L lw := by
      unfold LwOK
      rw [HM_ne (by omega) (by omega) (by omega) (by omega), HM_ne (by omega) (by omega) (by omega) (by omega), va_up_ne _ _ (by omega), va_up_ne _ _ (by omega)]
      exact hl
    refine Sp.up (d := 5) (by omega) (c_mayMarry (d := 0) hr hL hT hl' h150 hw (show HM (va_up a 51 (mayR a T lw n k)) ob m sm wm T 1 = nI n by rw [← hn]; exact congrFun (aT 0 (by decide)) 1) hn8 (by omega) (fun h' => Sp.up (d := 0) (by omega) (c_put t1 (by decide) (by decide) ?_)))
    have emay : mayC (HM (va_up a 51 (mayR a T lw n k)) ob m sm wm) T lw n k = mayC a T lw n k := by
      unfold mayC
      rw [a44]
      simp only [lwHind_congr (a := a) (q := 43) (show HM (va_up a 51 (mayR a T lw n k)) ob m sm wm (43 + 1) = a (43 + 1) from a44) aT]
    rw [emay, rPut_nI _ (by decide) (by omega), nI_1]
    have e51 : va_up (HM (va_up a 51 (mayR a T lw n k)) ob m sm wm) (L + 2) h' 51 = mayR a T lw n k := by rw [va_up_ne _ _ (by omega), HM_ne (by decide) (by decide) (by decide) (by decide), va_up_self]
    rw [e51, mayR_s, up_comm _ _ _ (show L + 2 ≠ 51 by omega), HM_up (by decide) (by decide) (by decide) (by decide), bx_uu, HM_up (by omega) (by omega) (by omega) (by omega)]
    exact ih (k + 1) h' (by omega)
theorem c_findAll {P : KN} (hr : Rk r) (hL : isLaw L) (hT : isCity T) (hl : LwOK a L lw) (h150 : lw.length ≤ 150) (hw : lw = [] ∨ dep lw 0 = some 1) (hn : a T 1 = nI n) (hn8 : n ≤ 8)
    (hp : ∀ ob' h, obJ ob' (XM a T (mayR a T lw n n) n) → P (HM (va_up (va_up a 51 (mayR a T lw n n)) (L + 2) h) ob' (fun j => if j < 8 then -1 else a 52 j) (XM a T (mayR a T lw n n) n).2.2.1 (XM a T (mayR a T lw n n) n).2.2.2) r nK) :
    Sp G (d + 15) 0 0 MX6_findAll [.ref 50, .ref T, .ref 43, .ref L] (a, r, nK) (RN P) := by
  obtain ⟨t0, t1, t2, t3, t4, e1, e2, e3, e4⟩ := mtc_k hr
  have hL33 : L + 2 < 33 := by rcases hL with rfl | rfl <;> decide
  refine V_X6_findAll_0 ⟨t0, by decide, fun a1 h1 => ⟨t0, by decide, fun a2 h2 => ⟨t0, by decide, _, e2, Sp.up (d := 0) (by omega) (c_fill t2 (by decide) (by decide) ⟨t0, by decide, _, e3, Sp.up (d := 0) (by omega) (c_fill t3 (by decide) (by decide) ⟨t0, by decide, _, e4, Sp.up (d := 0) (by omega) (c_fill t4 (by decide) (by decide) ?_)⟩)⟩)⟩⟩⟩
  subst h1 h2
  have eH : va_up (va_up (va_up (u2 (u2 a 50 4 0) 50 5 (-1)) 52 (fun j => if j < 8 then -1 else u2 (u2 a 50 4 0) 50 5 (-1) 52 j)) 53 (fun j => if j < 8 then -1 else va_up (u2 (u2 a 50 4 0) 50 5 (-1)) 52 (fun j => if j < 8 then -1 else u2 (u2 a 50 4 0) 50 5 (-1) 52 j) 53 j)) 54 (fun j => if j < 8 then -1 else va_up (va_up (u2 (u2 a 50 4 0) 50 5 (-1)) 52 (fun j => if j < 8 then -1 else u2 (u2 a 50 4 0) 50 5 (-1) 52 j)) 53 (fun j => if j < 8 then -1 else va_up (u2 (u2 a 50 4 0) 50 5 (-1)) 52 (fun j => if j < 8 then -1 else u2 (u2 a 50 4 0) 50 5 (-1) 52 j) 53 j) 54 j) = HM (va_up (va_up a 51 (mayR a T lw n 0)) (L + 2) (a (L + 2))) (upd (upd (a 50) 4 0) 5 (-1)) (fun j => if j < 8 then -1 else a 52 j) (fun j => if j < 8 then -1 else a 53 j) (fun j => if j < 8 then -1 else a 54 j) := by
    have m0 : mayR a T lw n 0 = a 51 := by funext j; unfold mayR; rw [if_neg (by omega)]
    rw [m0, up_same, up_same]
    unfold HM u2
    simp only [va_up_self, bx_uu, va_up_ne _ _ (show (52 : Nat) ≠ 50 by decide), va_up_ne _ _ (show (53 : Nat) ≠ 50 by decide), va_up_ne _ _ (show (54 : Nat) ≠ 50 by decide), va_up_ne _ _ (show (53 : Nat) ≠ 52 by decide), va_up_ne _ _ (show (54 : Nat) ≠ 52 by decide), va_up_ne _ _ (show (54 : Nat) ≠ 53 by decide)]
  rw [eH]
  exact l_findAll hr hL hT hl h150 hw hn hn8 rfl rfl rfl ⟨by rw [upd_ne (by decide), upd_eq], upd_eq⟩ hp n 0 _ (by omega)
theorem c_firstStableMate {P : KI} {s : Int32} (hr : Rk r) (hp : P (rAt (a 53) 8 s) a r nK) : Sp G (d + 1) 0 0 MX6_firstStableMate [.ref 50, .int s] (a, r, nK) (RI P) := by
  obtain ⟨t0, t1, t2, t3, t4, e1, e2, e3, e4⟩ := mtc_k hr
  exact V_X6_firstStableMate_0 ⟨t0, by decide, _, e3, c_at t3 (by decide) (by decide) hp⟩
theorem c_warmestMate {P : KI} {s : Int32} (hr : Rk r) (hp : P (rAt (a 54) 8 s) a r nK) : Sp G (d + 1) 0 0 MX6_warmestMate [.ref 50, .int s] (a, r, nK) (RI P) := by
  obtain ⟨t0, t1, t2, t3, t4, e1, e2, e3, e4⟩ := mtc_k hr
  exact V_X6_warmestMate_0 ⟨t0, by decide, _, e4, c_at t4 (by decide) (by decide) hp⟩
end FA
