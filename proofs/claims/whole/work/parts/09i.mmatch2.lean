/-! The reference: the matchings -/
def mFr (a : IA) (s : Nat) : Bool := decide (a 582 s = -1)
def mAlw (a : IA) (lw : List Int32) (s t : Nat) : Bool := mFr a s && (mFr a t && decide (mBan a 582 lw s t = 0))
def mWarm (a : IA) (n : Nat) (m : Nat → Int32) : Int32 := sI (fun s => mHeat a m s) n
def mOkP (a : IA) (lw : List Int32) (m : Nat → Int32) (s t : Nat) : Bool := !(mFr a s && (mFr a t && mTempt a m lw s t))
def mSta2 (a : IA) (lw : List Int32) (n : Nat) (m : Nat → Int32) : Bool := allB (fun s => allB (mOkP a lw m s) (n - (s + 1)) (s + 1)) n 0
def mJd (a : IA) (lw : List Int32) (n : Nat) : (Nat → Int32) → Js → Js := jdg (mWarm a n) (mSta2 a lw n)
/-- the heap while matchings are tried: mates m, judged x -/
def MX (a h : IA) (m : Nat → Int32) (x : Js) : Prop := (∀ q, q ≠ 60 → q ≠ 499 → q ≠ 500 → q ≠ 616 → q ≠ 617 → q ≠ 618 → h q = a q) ∧ (∀ j, j ≠ 48 → j ≠ 49 → h 60 j = a 60 j) ∧ h 616 = m ∧ h 60 48 = x.1 ∧ h 60 49 = x.2.1 ∧ h 617 = x.2.2.1 ∧ h 618 = x.2.2.2
section MM2
variable {G : GE} {d C S : Nat} {a : IA} {r : RA} {nc ns ng s t q L : Nat} {lw : List Int32} {m : Nat → Int32} {x : Js}
theorem MX.q5 {h h' : IA} (hx : MX a h m x) (e : mQ5 h h') : MX a h' m x := by
  obtain ⟨h1, h2, h3, h4, h5, h6, h7⟩ := hx
  exact ⟨fun q c1 c2 c3 c4 c5 c6 => by rw [e q c2 c3]; exact h1 q c1 c2 c3 c4 c5 c6, fun j c1 c2 => by rw [e 60 (by decide) (by decide)]; exact h2 j c1 c2, by rw [e 616 (by decide) (by decide)]; exact h3, by rw [e 60 (by decide) (by decide)]; exact h4, by rw [e 60 (by decide) (by decide)]; exact h5, by rw [e 617 (by decide) (by decide)]; exact h6, by rw [e 618 (by decide) (by decide)]; exact h7⟩
theorem MX.mt {h : IA} (hx : MX a h m x) (i : Nat) (v : Int32) : MX a (u2 h 616 i v) (upd m i v) x := by
  obtain ⟨h1, h2, h3, h4, h5, h6, h7⟩ := hx
  refine ⟨fun q c1 c2 c3 c4 c5 c6 => by rw [u2_off q c4]; exact h1 q c1 c2 c3 c4 c5 c6, fun j c1 c2 => by rw [u2_off 60 (by decide)]; exact h2 j c1 c2, ?_, by rw [u2_off 60 (by decide)]; exact h4, by rw [u2_off 60 (by decide)]; exact h5, by rw [u2_off 617 (by decide)]; exact h6, by rw [u2_off 618 (by decide)]; exact h7⟩
  rw [← h3]
  unfold u2
  rw [va_up_self]
theorem MX.c {h : IA} (hc : MtC a nc ns ng) (hx : MX a h m x) : MtC h nc ns ng := hc.row (hx.1 64 (by decide) (by decide) (by decide) (by decide) (by decide) (by decide)) (fun s hs => by have := hc.2.2.2.1; exact hx.1 _ (by omega) (by omega) (by omega) (by omega) (by omega) (by omega))
theorem MX.l {h : IA} (hl : RLw a lw) (h150 : lw.length ≤ 150) (hx : MX a h m x) : RLw h lw := hl.row h150 (hx.2.1 23 (by decide) (by decide)) (fun q c1 c2 => hx.1 q (by omega) (by omega) (by omega) (by omega) (by omega) (by omega))
theorem MX.n {h : IA} (hx : MX a h m x) : h 582 = a 582 := hx.1 582 (by decide) (by decide) (by decide) (by decide) (by decide) (by decide)
theorem MX.w {h : IA} (hx : MX a h m x) : ∀ c, (77 ≤ c ∧ c ≤ 86) ∨ (97 ≤ c ∧ c ≤ 104) ∨ (115 ≤ c ∧ c ≤ 122) ∨ (133 ≤ c ∧ c ≤ 140) → h c = a c := fun c hc => hx.1 c (by omega) (by omega) (by omega) (by omega) (by omega) (by omega)
theorem c_mStable {P : KI} {h : IA} (hr : Rk r) (hc : MtC a nc ns ng) (hl : RLw a lw) (h150 : lw.length ≤ 150) (hd : lw = [] ∨ dep lw 0 = some 1) (hx : MX a h m x) (hw : wfQ ns m) (hp : ∀ h', MX a h' m x → P (if mSta2 a lw ns m then 1 else 0) h' r nK) : Sp G (d + 5) 0 0 MX12_isStable [.ref 60] (h, r, nK) (RI P) := by
  have h8 := hc.2.2.2.1
  have r64 : r 60 12 = .ref 64 := rf5 hr (by decide) rfl
  have v1 : vp_in 1 8 := vp_in_nI (show 1 < 8 by decide) (by decide)
  have e64 : ∀ {h : IA}, MX a h m x → h 64 1 = nI ns := fun hx => (hx.c hc).2.2.1
  have inner : ∀ (s : Nat), s < ns → (allB (mOkP a lw m s) (ns - (s + 1)) (s + 1) = true → ∀ h, MX a h m x → E G MX12_isStable (d + 5) 0 0 2 [.ref 60, .int (nI (s + 1)), .null] [] (h, r, nK) (RI P)) → (allB (mOkP a lw m s) (ns - (s + 1)) (s + 1) = false → ∀ h, MX a h m x → P 0 h r nK) →
      ∀ (u k : Nat) (h : IA), k + u = ns → s < k → MX a h m x → allB (mOkP a lw m s) u k = allB (mOkP a lw m s) (ns - (s + 1)) (s + 1) → E G MX12_isStable (d + 5) 0 0 16 [.ref 60, .int (nI s), .int (nI k)] [] (h, r, nK) (RI P) := by
    intro s hs hyes hno u
    induction u with
    | zero =>
      intro k h hk hsk hx he
      refine V_X12_isStable_16 ⟨rfl, by decide, 64, r64, rfl, by decide, v1, fun _ => ?_, fun e => absurd ?_ e⟩
      · rw [nI_1]; exact hyes he.symm h hx
      · rw [z1, e64 hx]; exact nI_le (by omega) (by omega)
    | succ u ih =>
      intro k h hk hsk hx he
      rw [allB] at he
      have go : mOkP a lw m s k = true → ∀ h', MX a h' m x → E G MX12_isStable (d + 5) 0 0 16 [.ref 60, .int (nI s), .int (nI k + 1)] [] (h', r, nK) (RI P) := by
        intro ho h' hx'
        rw [ho, Bool.true_and] at he
        rw [nI_1]
        exact ih (k + 1) h' (by omega) (by omega) hx' he
      have en := hx.n
      refine V_X12_isStable_16 ⟨rfl, by decide, 64, r64, rfl, by decide, v1, fun e => absurd ?_ (show ¬ ns ≤ k by omega), fun _ => ⟨rfl, by decide, c_mFree hr (by omega) ?_⟩⟩
      · rw [z1, e64 hx] at e; exact (nI_leI (by omega) (by omega)).mp e
      rw [en]
      by_cases f1 : a 582 s = -1
      · rw [if_pos f1]
        refine ⟨fun e => absurd e (by decide), fun _ => ⟨rfl, by decide, c_mFree hr (show k < 8 by omega) ?_⟩⟩
        rw [en]
        by_cases f2 : a 582 k = -1
        · rw [if_pos f2]
          refine ⟨fun e => absurd e (by decide), fun _ => ⟨rfl, by decide, 616, rf5 hr (by decide) rfl, rfl, by decide, c_mTempt hr (hx.c hc) (hx.l hl h150) h150 hd (L := 8) rfl (by decide) (by decide) (by decide) (by decide) (by decide) hs (show k < ns by omega) (by rw [hx.2.2.1]; exact hw) (fun h2 m2 => ?_)⟩⟩
          rw [hx.2.2.1, mTempt_cg hc hx.w hx.n hs (by omega)]
          have eo : mOkP a lw m s k = !mTempt a m lw s k := by
            unfold mOkP mFr
            rw [decide_eq_true f1, decide_eq_true f2]; rfl
          cases hb : mTempt a m lw s k with
          | false => exact ⟨fun _ => go (by rw [eo, hb]; rfl) h2 (hx.q5 m2), fun e => absurd rfl e⟩
          | true =>
            rw [eo, hb] at he
            exact ⟨fun e => absurd e (by decide), fun _ => ⟨bz_0, hno he.symm h2 (hx.q5 m2)⟩⟩
        · rw [if_neg f2]
          exact ⟨fun _ => go (by unfold mOkP mFr; rw [decide_eq_false f2]; simp) h hx, fun e => absurd rfl e⟩
      · rw [if_neg f1]
        exact ⟨fun _ => go (by unfold mOkP mFr; rw [decide_eq_false f1]; rfl) h hx, fun e => absurd rfl e⟩
  have outer : ∀ (u s : Nat) (h : IA), s + u = ns → MX a h m x → mSta2 a lw ns m = allB (fun s => allB (mOkP a lw m s) (ns - (s + 1)) (s + 1)) u s → E G MX12_isStable (d + 5) 0 0 2 [.ref 60, .int (nI s), .null] [] (h, r, nK) (RI P) := by
    intro u
    induction u with
    | zero =>
      intro s h hs hx he
      have := hp h hx
      rw [he] at this
      refine V_X12_isStable_2 ⟨rfl, by decide, 64, r64, rfl, by decide, v1, fun _ => ⟨bz_1, this⟩, fun e => absurd ?_ e⟩
      rw [z1, e64 hx]; exact nI_le (by omega) (by omega)
    | succ u ih =>
      intro s h hs hx he
      rw [allB] at he
      refine V_X12_isStable_2 ⟨rfl, by decide, 64, r64, rfl, by decide, v1, fun e => absurd ?_ (show ¬ ns ≤ s by omega), fun _ => ?_⟩
      · rw [z1, e64 hx] at e; exact (nI_leI (by omega) (by omega)).mp e
      · rw [nI_1]
        refine inner s (by omega) (fun e2 h2 m2 => ih (s + 1) h2 (by omega) m2 ?_) (fun e2 h2 m2 => ?_) (ns - (s + 1)) (s + 1) h (by omega) (by omega) hx rfl
        · rw [he, e2, Bool.true_and]
        · have := hp h2 m2
          rw [he, e2, Bool.false_and] at this
          exact this
  exact V_X12_isStable_0 (outer ns 0 h (by omega) hx rfl)
theorem cpy_n (m o : Nat → Int32) (k : Nat) : upd (fun j => if j < k then m j else o j) k (m k) = fun j => if j < k + 1 then m j else o j := by
  funext j
  unfold upd
  by_cases e : j = k
  · rw [if_pos e, if_pos (by omega), e]
  · rw [if_neg e]
    show (if j < k then m j else o j) = _
    by_cases h : j < k
    · rw [if_pos h, if_pos (by omega)]
    · rw [if_neg h, if_neg (by omega)]
/-- a whole matching is judged -/
theorem l_mJudge {P : KN} {h : IA} (hr : Rk r) (hc : MtC a nc ns ng) (hl : RLw a lw) (h150 : lw.length ≤ 150) (hd : lw = [] ∨ dep lw 0 = some 1) (hx : MX a h m x) (hw : wfQ ns m) (hp : ∀ h', MX a h' m (mJd a lw ns m x) → P h' r nK) :
    E G MX12_matches (d + 6) C S 15 [.ref 60, .null, .null, .int 0, .int 0] [] (h, r, nK) (RN P) := by
  have h8 := hc.2.2.2.1
  have r64 : r 60 12 = .ref 64 := rf5 hr (by decide) rfl
  have r45 : r 60 45 = .ref 616 := rf5 hr (by decide) rfl
  have r46 : r 60 46 = .ref 617 := rf5 hr (by decide) rfl
  have r47 : r 60 47 = .ref 618 := rf5 hr (by decide) rfl
  have v1 : vp_in 1 8 := vp_in_nI (show 1 < 8 by decide) (by decide)
  unfold mJd jdg at hp
  -- the count of the stable ones
  have last : ∀ (y : Js) (o : Nat → Int32) (h' : IA), MX a h' m (y.1, y.2.1, o, y.2.2.2) → (∀ h2, MX a h2 m (y.1 + 1, y.2.1, o, y.2.2.2) → P h2 r nK) → tyK 60 = (0, 11) ∧ 60 < nK ∧ (tyK 60 = (0, 11) ∧ 60 < nK ∧ ∀ a1, a1 = u2 h' 60 48 (h' 60 48 + 1) → P a1 r nK) := by
    intro y o h' hy hP
    refine ⟨rfl, by decide, rfl, by decide, fun a1 q1 => ?_⟩
    obtain ⟨h1, h2, h3, h4, h5, h6, h7⟩ := hy
    rw [h4] at q1
    subst q1
    exact hP _ ⟨fun q c1 c2 c3 c4 c5 c6 => by rw [u2_off q c1]; exact h1 q c1 c2 c3 c4 c5 c6, fun j c1 c2 => by rw [u2_ne c1]; exact h2 j c1 c2, by rw [u2_off 616 (by decide)]; exact h3, u2_eq, by rw [u2_ne (by decide)]; exact h5, by rw [u2_off 617 (by decide)]; exact h6, by rw [u2_off 618 (by decide)]; exact h7⟩
  have l99 : ∀ (y : Js), (∀ h2, MX a h2 m (jdS true m y) → P h2 r nK) → ∀ (u k : Nat) (h' : IA), k + u = 8 → (k = 0 ∨ y.1 = 0) → MX a h' m (y.1, y.2.1, (fun j => if j < k then m j else y.2.2.1 j), y.2.2.2) → E G MX12_matches (d + 6) C S 99 [.ref 60, .null, .null, .null, .int (nI k)] [] (h', r, nK) (RN P) := by
    intro y hP u
    induction u with
    | zero =>
      intro k h' hk hk0 hy
      obtain rfl : k = 8 := by omega
      have y0 : y.1 = 0 := hk0.resolve_left (by decide)
      refine V_X12_matches_99 ⟨fun _ => last y _ h' hy (fun h2 m2 => hP h2 ?_), fun e => absurd (by decide) e⟩
      unfold jdS cpy8
      rw [if_pos rfl, if_pos y0]
      exact m2
    | succ u ih =>
      intro k h' hk hk0 hy
      refine V_X12_matches_99 ⟨fun e => absurd ((nI_leI (a := 8) (by decide) (by omega)).mp e) (by omega), fun _ => ⟨rfl, by decide, fun hne => ?_, fun he => ⟨rfl, by decide, 617, r46, rfl, by decide, 616, r45, rfl, by decide, vp_in_nI (show k < 8 by omega) (by decide), rfl, by decide, vp_in_nI (show k < 8 by omega) (by decide), fun a5 q5 => ?_⟩⟩⟩
      · rw [hy.2.2.2.1] at hne
        have k0 : k = 0 := hk0.resolve_right hne
        subst k0
        refine last y _ h' hy (fun h2 m2 => hP h2 ?_)
        unfold jdS
        rw [if_pos rfl, if_neg hne]
        have : (fun j => if j < 0 then m j else y.2.2.1 j) = y.2.2.1 := by funext j; rw [if_neg (by omega)]
        rw [this] at m2
        exact m2
      · rw [hy.2.2.2.1] at he
        rw [nI_clamp (show k < 2 ^ 31 by omega), hy.2.2.1] at q5
        subst q5
        rw [nI_1]
        obtain ⟨h1, h2, h3, h4, h5, h6, h7⟩ := hy
        refine ih (k + 1) _ (by omega) (Or.inr he) ⟨fun q c1 c2 c3 c4 c5 c6 => by rw [u2_off q c5]; exact h1 q c1 c2 c3 c4 c5 c6, fun j c1 c2 => by rw [u2_off 60 (by decide)]; exact h2 j c1 c2, by rw [u2_off 616 (by decide)]; exact h3, by rw [u2_off 60 (by decide)]; exact h4, by rw [u2_off 60 (by decide)]; exact h5, ?_, by rw [u2_off 618 (by decide)]; exact h7⟩
        have h6 : h' 617 = fun j => if j < k then m j else y.2.2.1 j := h6
        show u2 h' 617 k (m k) 617 = fun j => if j < k + 1 then m j else y.2.2.1 j
        rw [← cpy_n]
        unfold u2
        rw [va_up_self, h6]
  have part2 : ∀ (y : Js) (h' : IA), MX a h' m y → (∀ h2, MX a h2 m (jdS (mSta2 a lw ns m) m y) → P h2 r nK) → tyK 60 = (0, 11) ∧ 60 < nK ∧ Sp G (d + 5) 0 0 MX12_isStable [.ref 60] (h', r, nK) (RI fun v4 a1 r2 n3 => (¬ v4 = 0 → E G MX12_matches (d + 6) C S 99 [.ref 60, .null, .null, .null, .int 0] [] (a1, r2, n3) (RN P)) ∧ (v4 = 0 → P a1 r2 n3)) := by
    intro y h' hy hP
    refine ⟨rfl, by decide, c_mStable hr hc hl h150 hd hy hw (fun h2 m2 => ?_)⟩
    cases hs : mSta2 a lw ns m with
    | false =>
      rw [hs] at hP
      exact ⟨fun e => absurd rfl e, fun _ => hP h2 m2⟩
    | true =>
      rw [hs] at hP
      refine ⟨fun _ => l99 y hP 8 0 h2 (by omega) (Or.inl rfl) ?_, fun e => absurd e (by decide)⟩
      have : (fun j => if j < 0 then m j else y.2.2.1 j) = y.2.2.1 := by funext j; rw [if_neg (by omega)]
      rw [this]
      exact m2
  have l61 : ∀ (w : Int32), (∀ h2, MX a h2 m (jdS (mSta2 a lw ns m) m (x.1, w, x.2.2.1, cpy8 m x.2.2.2)) → P h2 r nK) → ∀ (u k : Nat) (h' : IA), k + u = 8 → MX a h' m (x.1, w, x.2.2.1, (fun j => if j < k then m j else x.2.2.2 j)) → E G MX12_matches (d + 6) C S 61 [.ref 60, .null, .null, .null, .int (nI k)] [] (h', r, nK) (RN P) := by
    intro w hP u
    induction u with
    | zero =>
      intro k h' hk hy
      obtain rfl : k = 8 := by omega
      exact V_X12_matches_61 ⟨fun _ => part2 _ h' hy hP, fun e => absurd (by decide) e⟩
    | succ u ih =>
      intro k h' hk hy
      refine V_X12_matches_61 ⟨fun e => absurd ((nI_leI (a := 8) (by decide) (by omega)).mp e) (by omega), fun _ => ⟨rfl, by decide, 618, r47, rfl, by decide, 616, r45, rfl, by decide, vp_in_nI (show k < 8 by omega) (by decide), rfl, by decide, vp_in_nI (show k < 8 by omega) (by decide), fun a5 q5 => ?_⟩⟩
      rw [nI_clamp (show k < 2 ^ 31 by omega), hy.2.2.1] at q5
      subst q5
      rw [nI_1]
      obtain ⟨h1, h2, h3, h4, h5, h6, h7⟩ := hy
      refine ih (k + 1) _ (by omega) ⟨fun q c1 c2 c3 c4 c5 c6 => by rw [u2_off q c6]; exact h1 q c1 c2 c3 c4 c5 c6, fun j c1 c2 => by rw [u2_off 60 (by decide)]; exact h2 j c1 c2, by rw [u2_off 616 (by decide)]; exact h3, by rw [u2_off 60 (by decide)]; exact h4, by rw [u2_off 60 (by decide)]; exact h5, by rw [u2_off 617 (by decide)]; exact h6, ?_⟩
      have h7 : h' 618 = fun j => if j < k then m j else x.2.2.2 j := h7
      show u2 h' 618 k (m k) 618 = fun j => if j < k + 1 then m j else x.2.2.2 j
      rw [← cpy_n]
      unfold u2
      rw [va_up_self, h7]
  -- the warmth
  have l15 : ∀ (u k : Nat), k + u = ns → E G MX12_matches (d + 6) C S 15 [.ref 60, .null, .null, .int (sI (fun s => mHeat a m s) k), .int (nI k)] [] (h, r, nK) (RN P) := by
    intro u
    induction u with
    | zero =>
      intro k hk
      obtain rfl : k = ns := by omega
      refine V_X12_matches_15 ⟨rfl, by decide, 64, r64, rfl, by decide, v1, fun _ => ⟨rfl, by decide, fun hle => ?_, fun hle => ⟨rfl, by decide, fun a6 q6 => ?_⟩⟩, fun e => absurd ?_ e⟩
      · rw [hx.2.2.2.2.1] at hle
        have hle : mWarm a k m ≤ x.2.1 := hle
        have e : jdW (mWarm a k m) m x = x := by unfold jdW; rw [if_pos hle]
        rw [e] at hp
        exact part2 x h hx hp
      · rw [hx.2.2.2.2.1] at hle
        have hle : ¬ mWarm a k m ≤ x.2.1 := hle
        have e : jdW (mWarm a k m) m x = (x.1, mWarm a k m, x.2.2.1, cpy8 m x.2.2.2) := by unfold jdW; rw [if_neg hle]
        rw [e] at hp
        obtain ⟨h1, h2, h3, h4, h5, h6, h7⟩ := hx
        subst q6
        refine l61 (mWarm a k m) hp 8 0 _ (by omega) ⟨fun q c1 c2 c3 c4 c5 c6 => by rw [u2_off q c1]; exact h1 q c1 c2 c3 c4 c5 c6, fun j c1 c2 => by rw [u2_ne c2]; exact h2 j c1 c2, by rw [u2_off 616 (by decide)]; exact h3, by rw [u2_ne (by decide)]; exact h4, u2_eq, by rw [u2_off 617 (by decide)]; exact h6, ?_⟩
        rw [u2_off 618 (by decide), h7]
        funext j
        show x.2.2.2 j = if j < 0 then m j else x.2.2.2 j
        rw [if_neg (by omega)]
      · rw [z1, (hx.c hc).2.2.1]; exact nI_le (Nat.le_refl _) (by omega)
    | succ u ih =>
      intro k hk
      refine V_X12_matches_15 ⟨rfl, by decide, 64, r64, rfl, by decide, v1, fun e => absurd ?_ (show ¬ ns ≤ k by omega), fun _ => ⟨rfl, by decide, 616, r45, rfl, by decide, c_mHeat hr (L := 8) rfl (by decide) (by decide) (by decide) (by omega) (by rw [hx.2.2.1]; exact hw k (by omega)) ?_⟩⟩
      · rw [z1, (hx.c hc).2.2.1] at e; exact (nI_leI (by omega) (by omega)).mp e
      · rw [hx.2.2.1, mHeat_cg (by omega) (fun c hc' => hx.w c (by omega)), nI_1]
        have := ih (k + 1) (by omega)
        rw [sI] at this
        exact this
  exact l15 ns 0 (by omega)
end MM2
