/-! The reference: fair, even, lane, stop, gets, suitors -/
def mWorth (a : IA) (ng : Nat) (x : Int32) (t : Nat) : Int32 := sI (fun g => if (x >>> (nI g &&& 31)) &&& 1 = 1 then a (150 + 1 + g) t else 0) ng
def mAllG (ng : Nat) : Int32 := nI (2 ^ ng) - 1
def mCpl (ng k : Nat) : Int32 := mAllG ng &&& (nI k ^^^ (-1))
def mFrS (a : IA) (ng k : Nat) (x : Int32 × Int32) : Int32 × Int32 := if mWorth a ng (nI k) 0 < mWorth a ng (mCpl ng k) 0 ∨ ¬ mWorth a ng (nI k) 1 ≤ mWorth a ng (mCpl ng k) 1 then x else (x.1 + 1, if x.1 = 0 then nI k else x.2)
def mEvS (a : IA) (ng k : Nat) (x : Int32) : Int32 := if x ≤ (if mWorth a ng (mCpl ng k) 1 ≤ mWorth a ng (nI k) 0 then mWorth a ng (mCpl ng k) 1 else mWorth a ng (nI k) 0) then (if mWorth a ng (mCpl ng k) 1 ≤ mWorth a ng (nI k) 0 then mWorth a ng (mCpl ng k) 1 else mWorth a ng (nI k) 0) else x
def mLaneX (a : IA) (y : Int32) : Int32 := a 64 3 - a 64 5 * y
def mLaneY (a : IA) (y : Int32) : Int32 := a 64 4 + a 64 6 * y
def mLnN (a : IA) : Nat → Nat → Nat
  | 0, k => k
  | u + 1, k => if a 64 7 < mLaneX a (a 582 40 + nI k) then mLnN a u (k + 1) else k
def mStS (a : IA) (nc k : Nat) (x : Int32) : Int32 := bitsLo (fun c => decide (a (76 + 1 + c) 0 = mLaneX a (a 582 40 + nI k)) && decide (a (76 + 1 + c) 1 = mLaneY a (a 582 40 + nI k))) nc 0 x
def mGets (own other v : Int32) : Int32 := if own ≤ other then (if own = other then (v - own) / 2 else 0) else v - own
def mBid (own other v : Int32) (n : Nat) : Bool := allB (fun k => decide (mGets (nI k) other v ≤ mGets own other v)) (n + 1) 0
def mSu2 (v w : Int32) (n one other : Nat) (x : Int32 × Int32) : Int32 × Int32 := if mBid (nI one) (nI other) v n = true ∧ mBid (nI other) (nI one) w n = true then (x.1 + 1, if x.1 = 0 then 100 * nI one + nI other else x.2) else x
def mSuX (n : Nat) (v w : Int32) : Int32 × Int32 := lpM (fun one x => lpM (mSu2 v w n one) (n + 1) 0 x) (n + 1) 0 (0, -1)
def mSuV (n : Nat) (v w what : Int32) : Int32 := if what = 0 then (mSuX n v w).1 else if what = 1 then (mSuX n v w).2 else if (mSuX n v w).2 = -1 then 0 else mGets ((mSuX n v w).2 / 100) ((mSuX n v w).2 - (mSuX n v w).2 / 100 * 100) v + mGets ((mSuX n v w).2 - (mSuX n v w).2 / 100 * 100) ((mSuX n v w).2 / 100) w
theorem shl_m1 : ∀ n, n ≤ 8 → ((1 : Int32) <<< (nI n &&& 31)) - 1 = nI (2 ^ n - 1) := by decide +kernel
theorem allG_n : ∀ n, n ≤ 8 → mAllG n = nI (2 ^ n - 1) := by decide +kernel
section MFA
variable {G : GE} {d C S : Nat} {a : IA} {r : RA} {nc ns ng : Nat} {x y z w : Int32}
theorem c_mWorth {P : KI} {t : Nat} (hr : Rk r) (h2 : a 64 2 = nI ng) (h8 : ng ≤ 8) (ht : t < 2) (hp : P (mWorth a ng x t) a r nK) : Sp G (d + 1) 0 0 MX12_worthOf [.ref 60, .int x, .int (nI t)] (a, r, nK) (RI P) := by
  have r64 : r 60 12 = .ref 64 := rf5 hr (by decide) rfl
  have loop : ∀ (u k : Nat), k + u = ng → E G MX12_worthOf (d + 1) 0 0 5 [.ref 60, .int x, .int (nI t), .int (sI (fun g => if (x >>> (nI g &&& 31)) &&& 1 = 1 then a (150 + 1 + g) t else 0) k), .int (nI k)] [] (a, r, nK) (RI P) := by
    intro u
    induction u with
    | zero =>
      intro k hk
      obtain rfl : k = ng := by omega
      refine V_X12_worthOf_5 ⟨rfl, by decide, 64, r64, rfl, by decide, vp_in_nI (show 2 < 8 by decide) (by decide), fun _ => hp, fun e => absurd ?_ e⟩
      rw [z2, h2]; exact nI_le (Nat.le_refl _) (by omega)
    | succ u ih =>
      intro k hk
      have := ih (k + 1) (by omega)
      rw [sI] at this
      refine V_X12_worthOf_5 ⟨rfl, by decide, 64, r64, rfl, by decide, vp_in_nI (show 2 < 8 by decide) (by decide), fun e => absurd ?_ (show ¬ ng ≤ k by omega), fun _ => c_mHas ?_⟩
      · rw [z2, h2] at e; exact (nI_leI (by omega) (by omega)).mp e
      by_cases hb : (x >>> (nI k &&& 31)) &&& 1 = 1
      · rw [if_pos hb] at this ⊢
        refine ⟨fun e => absurd e (by decide), fun _ => ⟨rfl, by decide, 150, rf5 hr (by decide) rfl, rfl, by decide, vp_in_nI (show k < 8 by omega) (by decide), ?_⟩⟩
        rw [nI_clamp (show k < 2 ^ 31 by omega), nI_clamp (show t < 2 ^ 31 by omega), nI_1]
        exact row3 (tyR_good k (by omega)) (by show _ < 878; omega) (vp_in_nI (show t < 2 by omega) (by decide)) this
      · rw [if_neg hb] at this ⊢
        refine ⟨fun _ => ?_, fun e => absurd rfl e⟩
        rw [nI_1]; exact this
  exact V_X12_worthOf_0 (loop ng 0 (by omega))
theorem c_mFairF {P : KI} (hr : Rk r) (hc : MtC a nc ns ng) (hno : ¬ inT x 0 1 → P 0 (mBd a 1 2) r nK) (hy : inT x 0 1 → P (if x = 0 then (lpM (mFrS (u2 a 60 0 0) ng) (2 ^ ng) 0 (0, -1)).1 else (lpM (mFrS (u2 a 60 0 0) ng) (2 ^ ng) 0 (0, -1)).2) (u2 a 60 0 0) r nK) : Sp G (d + 2) 0 0 MX12_fair [.ref 60, .int x] (a, r, nK) (RI P) := by
  have hc1 := hc.z
  have n8 := hc.2.2.2.2.2.1
  have h2 := hc1.2.2.2.2.1
  have p8 := pow_le n8
  have p0 : 0 < 2 ^ ng := Nat.pow_pos (by decide)
  have r64 : r 60 12 = .ref 64 := rf5 hr (by decide) rfl
  refine V_X12_fair_0 ⟨rfl, by decide, fun a1 q1 => ?_⟩
  subst q1
  refine c_mIn (fun hin => ⟨fun _ => ⟨rfl, by decide, bad0z ⟨fun _ => ⟨rfl, by decide, 64, r64, rfl, by decide, vp_in_nI (show 2 < 8 by decide) (by decide), ?_⟩, fun h => absurd rfl h⟩⟩, fun h => absurd h (by decide)⟩) (fun hin => ⟨fun h => absurd rfl h, fun _ => ⟨rfl, by decide, bad1z (i := 2) hr (by decide) (by decide) ⟨fun h => absurd h (by decide), fun _ => hno hin⟩⟩⟩)
  have hp := hy hin
  rw [z2, h2, shl_m1 ng n8]
  generalize u2 a 60 0 0 = b at *
  have loop : ∀ (u k : Nat) (y : Int32 × Int32), k + u = 2 ^ ng → lpM (mFrS b ng) u k y = lpM (mFrS b ng) (2 ^ ng) 0 (0, -1) → E G MX12_fair (d + 2) 0 0 49 [.ref 60, .int x, .int y.1, .int y.2, .int (nI (2 ^ ng - 1)), .int (nI k)] [] (b, r, nK) (RI P) := by
    intro u
    induction u with
    | zero =>
      intro k y hk he
      have he : y = lpM (mFrS b ng) (2 ^ ng) 0 (0, -1) := he
      rw [← he] at hp
      refine V_X12_fair_49 ⟨fun _ => ⟨fun e => ?_, fun e => ?_⟩, fun e => absurd (nI_lt (by omega) (by omega)) e⟩
      · rw [if_neg e] at hp; exact hp
      · rw [if_pos e] at hp; exact hp
    | succ u ih =>
      intro k y hk he
      rw [lpM] at he
      have ec : nI (2 ^ ng - 1) &&& (nI k ^^^ (-1)) = mCpl ng k := by unfold mCpl; rw [allG_n ng n8]
      refine V_X12_fair_49 ⟨fun e => absurd ((nI_ltI (by omega) (by omega)).mp e) (by omega), fun _ => ⟨rfl, by decide, c_mWorth (t := 0) hr h2 n8 (by decide) ⟨rfl, by decide, c_mWorth (t := 0) hr h2 n8 (by decide) ?_⟩⟩⟩
      rw [ec, nI_1]
      refine ⟨fun e => ?_, fun e => ⟨rfl, by decide, c_mWorth (t := 1) hr h2 n8 (by decide) ⟨rfl, by decide, c_mWorth (t := 1) hr h2 n8 (by decide) ⟨fun e2 => ⟨fun ey => ?_, fun ey => ?_⟩, fun e2 => ?_⟩⟩⟩⟩
      · have es : mFrS b ng k y = y := by unfold mFrS; rw [if_pos (Or.inl e)]
        rw [es] at he
        exact ih (k + 1) y (by omega) he
      · have es : mFrS b ng k y = (y.1 + 1, y.2) := by unfold mFrS; rw [if_neg (fun z => z.elim e (fun z => z e2)), if_neg ey]
        rw [es] at he
        exact ih (k + 1) _ (by omega) he
      · have es : mFrS b ng k y = (y.1 + 1, nI k) := by unfold mFrS; rw [if_neg (fun z => z.elim e (fun z => z e2)), if_pos ey]
        rw [es] at he
        exact ih (k + 1) _ (by omega) he
      · have es : mFrS b ng k y = y := by unfold mFrS; rw [if_pos (Or.inr e2)]
        rw [es] at he
        exact ih (k + 1) y (by omega) he
  exact loop (2 ^ ng) 0 (0, -1) (by omega) rfl
theorem c_mEvenF {P : KI} (hr : Rk r) (hc : MtC a nc ns ng) (hp : P (lpM (mEvS (u2 a 60 0 0) ng) (2 ^ ng) 0 0) (u2 a 60 0 0) r nK) : Sp G (d + 2) 0 0 MX12_even [.ref 60] (a, r, nK) (RI P) := by
  have hc1 := hc.z
  have n8 := hc.2.2.2.2.2.1
  have h2 := hc1.2.2.2.2.1
  have p8 := pow_le n8
  have p0 : 0 < 2 ^ ng := Nat.pow_pos (by decide)
  have r64 : r 60 12 = .ref 64 := rf5 hr (by decide) rfl
  refine V_X12_even_0 ⟨rfl, by decide, fun a1 q1 => ⟨rfl, by decide, 64, r64, rfl, by decide, vp_in_nI (show 2 < 8 by decide) (by decide), ?_⟩⟩
  subst q1
  rw [z2, h2, shl_m1 ng n8]
  generalize u2 a 60 0 0 = b at *
  have loop : ∀ (u k : Nat) (y : Int32), k + u = 2 ^ ng → lpM (mEvS b ng) u k y = lpM (mEvS b ng) (2 ^ ng) 0 0 → E G MX12_even (d + 2) 0 0 20 [.ref 60, .int y, .int (nI (2 ^ ng - 1)), .int (nI k)] [] (b, r, nK) (RI P) := by
    intro u
    induction u with
    | zero =>
      intro k y hk he
      have he : y = lpM (mEvS b ng) (2 ^ ng) 0 0 := he
      rw [← he] at hp
      exact V_X12_even_20 ⟨fun _ => hp, fun e => absurd (nI_lt (by omega) (by omega)) e⟩
    | succ u ih =>
      intro k y hk he
      rw [lpM] at he
      have ec : nI (2 ^ ng - 1) &&& (nI k ^^^ (-1)) = mCpl ng k := by unfold mCpl; rw [allG_n ng n8]
      refine V_X12_even_20 ⟨fun e => absurd ((nI_ltI (by omega) (by omega)).mp e) (by omega), fun _ => ⟨rfl, by decide, c_mWorth (t := 0) hr h2 n8 (by decide) ⟨rfl, by decide, c_mWorth (t := 1) hr h2 n8 (by decide) (c_mLess (c_mMore ?_))⟩⟩⟩
      rw [ec, nI_1]
      exact ih (k + 1) _ (by omega) he
  exact loop (2 ^ ng) 0 0 (by omega) rfl
theorem c_mLaneX {P : KI} (hr : Rk r) (hp : P (mLaneX a x) a r nK) : Sp G d 0 0 MX12_laneX [.ref 60, .int x] (a, r, nK) (RI P) := by
  have r64 : r 60 12 = .ref 64 := rf5 hr (by decide) rfl
  exact V_X12_laneX_0 ⟨rfl, by decide, 64, r64, rfl, by decide, vp_in_nI (show 3 < 8 by decide) (by decide), rfl, by decide, 64, r64, rfl, by decide, vp_in_nI (show 5 < 8 by decide) (by decide), hp⟩
theorem mLnN_b : ∀ (u k : Nat), k ≤ mLnN a u k ∧ mLnN a u k ≤ k + u
  | 0, k => ⟨Nat.le_refl _, Nat.le_refl _⟩
  | u + 1, k => by
    rw [mLnN]
    split
    · have := mLnN_b u (k + 1)
      omega
    · omega
theorem c_mLaneIn {P : KI} (hr : Rk r) (hp : P (lnV (mLnN a 101 0)) a r nK) : Sp G (d + 1) 0 0 MX12_laneIn [.ref 60] (a, r, nK) (RI P) := by
  have r64 : r 60 12 = .ref 64 := rf5 hr (by decide) rfl
  have r33 : r 60 33 = .ref 582 := rf5 hr (by decide) rfl
  have loop : ∀ (u k : Nat), k + u = 101 → mLnN a u k = mLnN a 101 0 → E G MX12_laneIn (d + 1) 0 0 2 [.ref 60, .int (nI k)] [] (a, r, nK) (RI P) := by
    intro u
    induction u with
    | zero =>
      intro k hk he
      obtain rfl : k = 101 := by omega
      rw [← he] at hp
      exact V_X12_laneIn_2 ⟨fun _ => hp, fun e => absurd (by decide) e⟩
    | succ u ih =>
      intro k hk he
      rw [mLnN] at he
      refine V_X12_laneIn_2 ⟨fun e => absurd ((nI_ltI (a := 100) (by decide) (by omega)).mp e) (by omega), fun _ => ⟨rfl, by decide, 582, r33, rfl, by decide, v42 (i := 40) (by decide), rfl, by decide, c_mLaneX hr ⟨rfl, by decide, 64, r64, rfl, by decide, vp_in_nI (show 7 < 8 by decide) (by decide), fun e => ?_, fun e => ?_⟩⟩⟩
      · have e : a 64 7 < mLaneX a (a 582 40 + nI k) := e
        rw [if_pos e] at he
        rw [nI_1]; exact ih (k + 1) (by omega) he
      · have e : ¬ a 64 7 < mLaneX a (a 582 40 + nI k) := e
        rw [if_neg e] at he
        rw [← he] at hp
        unfold lnV at hp
        rw [if_pos (by omega)] at hp
        exact hp
  exact V_X12_laneIn_0 (loop 101 0 (by omega) rfl)
theorem c_mLaneF {P : KI} (hr : Rk r) (hp : P (lnV (mLnN (u2 a 60 0 0) 101 0)) (u2 a 60 0 0) r nK) : Sp G (d + 2) 0 0 MX12_lane [.ref 60] (a, r, nK) (RI P) := by
  refine V_X12_lane_0 ⟨rfl, by decide, fun a1 q1 => ⟨rfl, by decide, ?_⟩⟩
  subst q1
  exact c_mLaneIn hr hp
theorem c_mStopF {P : KI} (hr : Rk r) (hc : MtC a nc ns ng) (hp : P (lpM (mStS (u2 a 60 0 0) nc) (lnU (mLnN (u2 a 60 0 0) 101 0) + 1) 0 0) (u2 a 60 0 0) r nK) : Sp G (d + 2) 0 0 MX12_stop [.ref 60] (a, r, nK) (RI P) := by
  have hc1 := hc.z
  have n10 := hc.2.1
  have r64 : r 60 12 = .ref 64 := rf5 hr (by decide) rfl
  have r33 : r 60 33 = .ref 582 := rf5 hr (by decide) rfl
  have r14 : r 60 14 = .ref 76 := rf5 hr (by decide) rfl
  refine V_X12_stop_0 ⟨rfl, by decide, fun a1 q1 => ⟨rfl, by decide, ?_⟩⟩
  subst q1
  generalize u2 a 60 0 0 = b at *
  have hb := mLnN_b (a := b) 101 0
  have inner : ∀ (L k : Nat) (X Y : Int32), (∀ v, E G MX12_stop (d + 2) 0 0 27 [.ref 60, .int v, .int (nI L), .int (nI (k + 1)), .null, .null, .null] [] (b, r, nK) (RI P) ∨ True) → X = mLaneX b (b 582 40 + nI k) → Y = mLaneY b (b 582 40 + nI k) → ∀ (u c : Nat) (v w : Int32), c + u = nc → bitsLo (fun c => decide (b (76 + 1 + c) 0 = X) && decide (b (76 + 1 + c) 1 = Y)) u c v = w → E G MX12_stop (d + 2) 0 0 27 [.ref 60, .int w, .int (nI L), .int (nI (k + 1)), .null, .null, .null] [] (b, r, nK) (RI P) →
      E G MX12_stop (d + 2) 0 0 76 [.ref 60, .int v, .int (nI L), .int (nI k), .int X, .int Y, .int (nI c)] [] (b, r, nK) (RI P) := by
    intro L k X Y _ hX hY u
    induction u with
    | zero =>
      intro c v w hcn he hE
      have he : v = w := he
      subst he
      refine V_X12_stop_76 ⟨rfl, by decide, 64, r64, rfl, by decide, vp_in_nI (show 0 < 8 by decide) (by decide), fun _ => ?_, fun e => absurd ?_ e⟩
      · rw [nI_1]; exact hE
      · rw [z0, hc1.1]; exact nI_le (by omega) (by omega)
    | succ u ih =>
      intro c v w hcn he hE
      rw [bitsLo] at he
      have ty := tyR_corner c (by omega)
      have bd : 76 + 1 + c < nK := by show _ < 878; omega
      have vc : vp_in (nI c) 10 := vp_in_nI (by omega) (by decide)
      have w0 : vp_in 0 2 := vp_in_nI (show 0 < 2 by decide) (by decide)
      have w1 : vp_in 1 2 := vp_in_nI (show 1 < 2 by decide) (by decide)
      refine V_X12_stop_76 ⟨rfl, by decide, 64, r64, rfl, by decide, vp_in_nI (show 0 < 8 by decide) (by decide), fun e => absurd ?_ (show ¬ nc ≤ c by omega), fun _ => ⟨rfl, by decide, 76, r14, rfl, by decide, vc, ?_⟩⟩
      · rw [z0, hc1.1] at e; exact (nI_leI (by omega) (by omega)).mp e
      simp only [nI_clamp (show c < 2 ^ 31 by omega), z0, z1]
      refine row3 ty bd w0 ⟨fun e => ?_, fun e => ⟨rfl, by decide, 76, r14, rfl, by decide, vc, row3 ty bd w1 ⟨fun e2 => ?_, fun e2 => ?_⟩⟩⟩
      · rw [decide_eq_false e, Bool.false_and] at he
        rw [Int32.or_zero, nI_1]
        exact ih (c + 1) v w (by omega) he hE
      · rw [decide_eq_false e2, Bool.and_false] at he
        rw [Int32.or_zero, nI_1]
        exact ih (c + 1) v w (by omega) he hE
      · rw [decide_eq_true e, decide_eq_true e2] at he
        rw [nI_1]
        exact ih (c + 1) _ w (by omega) he hE
  have loop : ∀ (L : Nat), L ≤ 100 → P (lpM (mStS b nc) (L + 1) 0 0) b r nK → ∀ (u k : Nat) (v : Int32), k + u = L + 1 → lpM (mStS b nc) u k v = lpM (mStS b nc) (L + 1) 0 0 → E G MX12_stop (d + 2) 0 0 27 [.ref 60, .int v, .int (nI L), .int (nI k), .null, .null, .null] [] (b, r, nK) (RI P) := by
    intro L hL hP u
    induction u with
    | zero =>
      intro k v hk he
      have he : v = lpM (mStS b nc) (L + 1) 0 0 := he
      rw [← he] at hP
      exact V_X12_stop_27 ⟨fun _ => hP, fun e => absurd (nI_lt (by omega) (by omega)) e⟩
    | succ u ih =>
      intro k v hk he
      have he : lpM (mStS b nc) u (k + 1) (mStS b nc k v) = lpM (mStS b nc) (L + 1) 0 0 := he
      refine V_X12_stop_27 ⟨fun e => absurd ((nI_ltI (by omega) (by omega)).mp e) (by omega), fun _ => ⟨rfl, by decide, 582, r33, rfl, by decide, v42 (i := 40) (by decide), rfl, by decide, c_mLaneX hr ⟨rfl, by decide, 64, r64, rfl, by decide, vp_in_nI (show 4 < 8 by decide) (by decide), rfl, by decide, 64, r64, rfl, by decide, vp_in_nI (show 6 < 8 by decide) (by decide), rfl, by decide, 582, r33, rfl, by decide, v42 (i := 40) (by decide), ?_⟩⟩⟩
      exact inner L k _ _ (fun _ => Or.inr trivial) rfl rfl nc 0 v _ (by omega) rfl (ih (k + 1) _ (by omega) he)
  unfold lnU at hp
  refine c_mLaneIn hr ⟨fun hne => ⟨rfl, by decide, c_mLaneIn hr ?_⟩, fun he => ?_⟩
  · unfold lnV at hne ⊢
    by_cases h : mLnN b 101 0 ≤ 100
    · rw [if_pos h] at hp ⊢
      exact loop _ h hp _ 0 0 (by omega) rfl
    · rw [if_neg h] at hne; exact absurd rfl hne
  · unfold lnV at he
    by_cases h : mLnN b 101 0 ≤ 100
    · rw [if_pos h] at he; exact absurd he (nI_n1 (by omega))
    · rw [if_neg h] at hp
      exact loop 100 (by decide) hp _ 0 0 (by omega) rfl
theorem c_mGets {P : KI} (hp : P (mGets x y z) a r nK) : Sp G d 0 0 MX12_getsBy [.int x, .int y, .int z] (a, r, nK) (RI P) := by
  unfold mGets at hp
  refine V_X12_getsBy_0 ⟨fun h => ⟨fun h2 => ?_, fun h2 => ⟨by decide, ?_⟩⟩, fun h => ?_⟩
  · rw [if_pos h, if_neg h2] at hp; exact hp
  · rw [if_pos h, if_pos h2] at hp; exact hp
  · rw [if_neg h] at hp; exact hp
theorem c_mGetsF {P : KI} (hr : Rk r) (hno : ¬ (inT x 0 40 ∧ inT y 0 40 ∧ inT z 0 40) → P 0 (mBd a 1 2) r nK) (hy : inT x 0 40 → inT y 0 40 → inT z 0 40 → P (mGets x y z) (u2 a 60 0 0) r nK) : Sp G (d + 1) 0 0 MX12_gets [.ref 60, .int x, .int y, .int z] (a, r, nK) (RI P) := by
  refine V_X12_gets_0 ⟨rfl, by decide, fun a1 q1 => ?_⟩
  subst q1
  exact c_mIn (fun h1 => ⟨fun h => absurd h (by decide), fun _ => c_mIn (fun h2 => ⟨fun h => absurd h (by decide), fun _ => c_mIn (fun h3 => ⟨fun _ => ⟨rfl, by decide, bad0z ⟨fun _ => c_mGets (hy h1 h2 h3), fun h => absurd rfl h⟩⟩, fun h => absurd h (by decide)⟩) (fun h3 => ⟨fun h => absurd rfl h, fun _ => ⟨rfl, by decide, bad1z (i := 2) hr (by decide) (by decide) ⟨fun h => absurd h (by decide), fun _ => hno (fun z => h3 z.2.2)⟩⟩⟩)⟩) (fun h2 => ⟨fun _ => ⟨rfl, by decide, bad1z (i := 2) hr (by decide) (by decide) ⟨fun h => absurd h (by decide), fun _ => hno (fun z => h2 z.2.1)⟩⟩, fun h => absurd rfl h⟩)⟩) (fun h1 => ⟨fun _ => ⟨rfl, by decide, bad1z (i := 2) hr (by decide) (by decide) ⟨fun h => absurd h (by decide), fun _ => hno (fun z => h1 z.1)⟩⟩, fun h => absurd rfl h⟩)
theorem c_mBid {P : KI} {n : Nat} (hn : n < 100) (hp : P (if mBid x y z n then 1 else 0) a r nK) : Sp G (d + 1) 0 0 MX12_isBid [.int x, .int y, .int z, .int (nI n)] (a, r, nK) (RI P) := by
  have loop : ∀ (u k : Nat), k + u = n + 1 → allB (fun k => decide (mGets (nI k) y z ≤ mGets x y z)) u k = mBid x y z n → E G MX12_isBid (d + 1) 0 0 3 [.int x, .int y, .int z, .int (nI n), .int (nI k)] [] (a, r, nK) (RI P) := by
    intro u
    induction u with
    | zero =>
      intro k hk he
      rw [← he] at hp
      exact V_X12_isBid_3 ⟨fun _ => ⟨bz_1, hp⟩, fun e => absurd (nI_lt (by omega) (by omega)) e⟩
    | succ u ih =>
      intro k hk he
      rw [allB] at he
      refine V_X12_isBid_3 ⟨fun e => absurd ((nI_ltI (by omega) (by omega)).mp e) (by omega), fun _ => c_mGets (c_mGets ⟨fun e => ?_, fun e => ⟨bz_0, ?_⟩⟩)⟩
      · rw [decide_eq_true e, Bool.true_and] at he
        rw [nI_1]; exact ih (k + 1) (by omega) he
      · rw [decide_eq_false e, Bool.false_and] at he
        rw [← he] at hp
        exact hp
  exact V_X12_isBid_0 (loop (n + 1) 0 (by omega) rfl)
theorem c_mSuitF {P : KI} {n' : Int32} (hr : Rk r) (hno : ¬ (inT n' 0 20 ∧ inT x 0 40 ∧ inT y 0 40 ∧ inT w 0 2) → P 0 (mBd a 1 2) r nK) (hy : ∀ n, n ≤ 20 → n' = nI n → inT x 0 40 → inT y 0 40 → inT w 0 2 → P (mSuV n x y w) (u2 a 60 0 0) r nK) : Sp G (d + 2) 0 0 MX12_suitors [.ref 60, .int n', .int x, .int y, .int w] (a, r, nK) (RI P) := by
  refine V_X12_suitors_0 ⟨rfl, by decide, fun a1 q1 => ?_⟩
  subst q1
  refine c_mIn (fun h1 => ⟨fun h => absurd h (by decide), fun _ => c_mIn (fun h2 => ⟨fun h => absurd h (by decide), fun _ => c_mIn (fun h3 => ⟨fun h => absurd h (by decide), fun _ => c_mIn (fun h4 => ⟨fun _ => ⟨rfl, by decide, bad0z ⟨fun _ => ?_, fun h => absurd rfl h⟩⟩, fun h => absurd h (by decide)⟩) (fun h4 => ⟨fun h => absurd rfl h, fun _ => ⟨rfl, by decide, bad1z (i := 2) hr (by decide) (by decide) ⟨fun h => absurd h (by decide), fun _ => hno (fun z => h4 z.2.2.2)⟩⟩⟩)⟩) (fun h3 => ⟨fun _ => ⟨rfl, by decide, bad1z (i := 2) hr (by decide) (by decide) ⟨fun h => absurd h (by decide), fun _ => hno (fun z => h3 z.2.2.1)⟩⟩, fun h => absurd rfl h⟩)⟩) (fun h2 => ⟨fun _ => ⟨rfl, by decide, bad1z (i := 2) hr (by decide) (by decide) ⟨fun h => absurd h (by decide), fun _ => hno (fun z => h2 z.2.1)⟩⟩, fun h => absurd rfl h⟩)⟩) (fun h1 => ⟨fun _ => ⟨rfl, by decide, bad1z (i := 2) hr (by decide) (by decide) ⟨fun h => absurd h (by decide), fun _ => hno (fun z => h1 z.1)⟩⟩, fun h => absurd rfl h⟩)
  obtain ⟨n, hn, en⟩ := nI_of2 (M := 20) (n := 20) (by decide) h1.1 (i_nlt.mp h1.2)
  have hp := hy n hn en h2 h3 h4
  subst en
  generalize u2 a 60 0 0 = b at *
  unfold mSuV at hp
  generalize hX : mSuX n x y = X at hp
  have outer : ∀ (u one : Nat) (t : Int32 × Int32), one + u = n + 1 → lpM (fun one t => lpM (mSu2 x y n one) (n + 1) 0 t) u one t = X → E G MX12_suitors (d + 2) 0 0 70 [.null, .int (nI n), .int x, .int y, .int w, .int t.1, .int t.2, .int (nI one), .null] [] (b, r, nK) (RI P) := by
    intro u
    induction u with
    | zero =>
      intro one t ho he
      have he : t = X := he
      subst he
      refine V_X12_suitors_70 ⟨fun _ => ⟨fun e0 => ⟨fun e1 => ⟨fun e2 => ⟨by decide, by decide, c_mGets ⟨by decide, by decide, c_mGets ?_⟩⟩, fun e2 => ?_⟩, fun e1 => ?_⟩, fun e0 => ?_⟩, fun e => absurd (nI_lt (by omega) (by omega)) e⟩
      · rw [if_neg e0, if_neg e1, if_neg e2] at hp; exact hp
      · rw [if_neg e0, if_neg e1, if_pos e2] at hp; exact hp
      · rw [if_neg e0, if_pos e1] at hp; exact hp
      · rw [if_pos e0] at hp; exact hp
    | succ u ih =>
      intro one t ho he
      have he : lpM (fun one t => lpM (mSu2 x y n one) (n + 1) 0 t) u (one + 1) (lpM (mSu2 x y n one) (n + 1) 0 t) = X := he
      have inner : ∀ (v other : Nat) (t : Int32 × Int32), other + v = n + 1 → (E G MX12_suitors (d + 2) 0 0 70 [.null, .int (nI n), .int x, .int y, .int w, .int (lpM (mSu2 x y n one) v other t).1, .int (lpM (mSu2 x y n one) v other t).2, .int (nI (one + 1)), .null] [] (b, r, nK) (RI P)) → E G MX12_suitors (d + 2) 0 0 79 [.null, .int (nI n), .int x, .int y, .int w, .int t.1, .int t.2, .int (nI one), .int (nI other)] [] (b, r, nK) (RI P) := by
        intro v
        induction v with
        | zero =>
          intro other t ho hE
          refine V_X12_suitors_79 ⟨fun _ => ?_, fun e => absurd (nI_lt (by omega) (by omega)) e⟩
          rw [nI_1]; exact hE
        | succ v ih2 =>
          intro other t ho hE
          rw [lpM] at hE
          refine V_X12_suitors_79 ⟨fun e => absurd ((nI_ltI (by omega) (by omega)).mp e) (by omega), fun _ => c_mBid (by omega) ?_⟩
          rw [nI_1]
          cases hb1 : mBid (nI one) (nI other) x n with
          | false =>
            have es : mSu2 x y n one other t = t := by unfold mSu2; rw [if_neg (fun z => by rw [hb1] at z; cases z.1)]
            rw [es] at hE
            exact ⟨fun _ => ih2 (other + 1) t (by omega) hE, fun e => absurd rfl e⟩
          | true =>
            refine ⟨fun e => absurd e (by decide), fun _ => c_mBid (by omega) ?_⟩
            cases hb2 : mBid (nI other) (nI one) y n with
            | false =>
              have es : mSu2 x y n one other t = t := by unfold mSu2; rw [if_neg (fun z => by rw [hb2] at z; cases z.2)]
              rw [es] at hE
              exact ⟨fun e => absurd rfl e, fun _ => ih2 (other + 1) t (by omega) hE⟩
            | true =>
              have es : mSu2 x y n one other t = (t.1 + 1, if t.1 = 0 then 100 * nI one + nI other else t.2) := by unfold mSu2; rw [if_pos ⟨hb1, hb2⟩]
              rw [es] at hE
              refine ⟨fun _ => ⟨fun e => ?_, fun e => ?_⟩, fun e => absurd e (by decide)⟩
              · rw [if_neg e] at hE
                exact ih2 (other + 1) (t.1 + 1, t.2) (by omega) hE
              · rw [if_pos e] at hE
                exact ih2 (other + 1) (t.1 + 1, 100 * nI one + nI other) (by omega) hE
      refine V_X12_suitors_70 ⟨fun e => absurd ((nI_ltI (by omega) (by omega)).mp e) (by omega), fun _ => inner (n + 1) 0 t (by omega) (ih (one + 1) _ (by omega) he)⟩
  exact outer (n + 1) 0 (0, -1) (by omega) hX
end MFA
