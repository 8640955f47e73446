/-! The reference: lots, the centuries -/
def mDr (s : Int32) : Int32 := (s >>> (16 &&& 31)) &&& 32767
def mDm (s l : Int32) : Int32 := mDr s - mDr s / l * l
theorem mDr_n (s : Int32) : ∃ m, m < 32768 ∧ mDr s = nI m := by
  refine ⟨(mDr s).toBitVec.toNat, ?_, ?_⟩
  · have : (mDr s).toBitVec.toNat ≤ 32767 := by
      show (((s >>> (16 &&& 31)).toBitVec &&& 32767#32 : BitVec 32)).toNat ≤ 32767
      rw [BitVec.toNat_and]
      exact Nat.and_le_right
    omega
  · apply Int32.toBitVec_inj.mp
    unfold nI
    rw [Int32.toBitVec_ofNat']
    apply BitVec.eq_of_toNat_eq
    rw [BitVec.toNat_ofNat, Nat.mod_eq_of_lt (BitVec.isLt _)]
theorem nI_div {m n : Nat} (hm : m < 2 ^ 31) (hn : n < 2 ^ 31) : nI m / nI n = nI (m / n) := by
  have hd : m / n ≤ m := Nat.div_le_self _ _
  have e : ∀ {k : Nat}, k < 2 ^ 31 → (nI k).toInt = k := fun h => by unfold nI; exact Int32.toInt_ofNat_of_lt h
  apply Int32.toInt_inj.mp
  rw [Int32.toInt_div, e hm, e hn, e (by omega)]
  rw [show ((m : Int).tdiv (n : Int)) = ((m / n : Nat) : Int) from (Int.ofNat_tdiv m n).symm]
  generalize m / n = k at *
  exact Int.bmod_eq_of_le (by omega) (by omega)
theorem nI_sub {m n : Nat} (h : n ≤ m) : nI m - nI n = nI (m - n) := by
  obtain ⟨k, rfl⟩ : ∃ k, m = n + k := ⟨m - n, by omega⟩
  rw [← nI_add, show n + k - n = k by omega, Int32.add_comm, Int32.add_sub_cancel]
theorem nI_mod {m n : Nat} (hm : m < 2 ^ 31) (hn : n < 2 ^ 31) : nI m - nI m / nI n * nI n = nI (m % n) := by
  rw [nI_div hm hn, nI_mul, nI_sub (Nat.div_mul_le_self m n)]
  congr 1
  have := Nat.mod_add_div m n
  rw [Nat.mul_comm] at this
  omega
theorem mDm_n {s : Int32} {n : Nat} (h0 : 0 < n) (hn : n < 2 ^ 31) : ∃ i, i < n ∧ mDm s (nI n) = nI i := by
  obtain ⟨m, hm, e⟩ := mDr_n s
  unfold mDm
  rw [e, nI_mod (by omega) hn]
  exact ⟨m % n, Nat.mod_lt _ h0, rfl⟩
def mQr (g : Nat → Int32) (s : Nat) : Int32 × (Nat → Int32) := if g s = -1 then (0, g) else if g (32 + s) = 9 ∧ g (32 + (g s).toNatClampNeg) = 9 then (0, g) else (1, mQuar g s (g s).toNatClampNeg)
def mCnT (ns : Nat) (x : Cn) (u : Int32) (Q : Int32 × (Nat → Int32)) : Cn := (x.1 + Q.1, u, (mTurn ns Q.2).2)
def mCnS (ns : Nat) (q : Int32) (x : Cn) : Cn := if ns = 0 then (x.1, x.2.1, (mTurn ns x.2.2).2) else if q ≤ mDm (nx x.2.1) 16 then (x.1, nx x.2.1, (mTurn ns x.2.2).2) else
  mCnT ns x (nx (nx x.2.1)) (mQr x.2.2 (mDm (nx (nx x.2.1)) (nI ns)).toNatClampNeg)
theorem mCnS_0 {ns : Nat} {q : Int32} {x : Cn} (h : ns = 0) : mCnS ns q x = (x.1, x.2.1, (mTurn ns x.2.2).2) := by
  rw [mCnS, if_pos h]
theorem mCnS_1 {ns : Nat} {q v b : Int32} {x : Cn} (hv : v = nx x.2.1) (hb : b = mDm v 16) (h0 : ¬ ns = 0) (h : q ≤ b) : mCnS ns q x = (x.1, v, (mTurn ns x.2.2).2) := by
  subst hb
  subst hv
  rw [mCnS, if_neg h0, if_pos h]
theorem mCnS_2 {ns i : Nat} {q v b u c : Int32} {x : Cn} {Q : Int32 × (Nat → Int32)} (hv : v = nx x.2.1) (hb : b = mDm v 16) (hu : u = nx v) (hc : c = mDm u (nI ns)) (hi : c.toNatClampNeg = i) (hQ : Q = mQr x.2.2 i) (h0 : ¬ ns = 0) (h : ¬ q ≤ b) : mCnS ns q x = mCnT ns x u Q := by
  subst hQ
  subst hi
  subst hc
  subst hu
  subst hb
  subst hv
  rw [mCnS, if_neg h0, if_neg h]
/-- the heap of a dream: lots, quarrels, the trial row -/
def dH (a : IA) (c l : Int32) (g : Nat → Int32) : IA := va_up (u2 (u2 a 60 52 l) 60 53 c) 583 g
theorem va_swap {a : IA} {q p : Nat} {f g : Nat → Int32} (h : p ≠ q) : va_up (va_up a q g) p f = va_up (va_up a p f) q g := by
  funext i
  by_cases e : i = p
  · subst e
    rw [va_up_self, va_up_ne _ _ h, va_up_self]
  · rw [va_up_ne _ _ e]
    by_cases e2 : i = q
    · subst e2
      rw [va_up_self, va_up_self]
    · rw [va_up_ne _ _ e2, va_up_ne _ _ e2, va_up_ne _ _ e]
theorem u2_vac {a : IA} {q p j : Nat} {g : Nat → Int32} {x : Int32} (h : p ≠ q) : u2 (va_up a q g) p j x = va_up (u2 a p j x) q g := by
  unfold u2
  rw [va_up_ne _ _ h]
  exact va_swap h
theorem dH_r {a : IA} {c l : Int32} {g : Nat → Int32} : dH a c l g 583 = g := va_up_self _ _ _
theorem dH_q {a : IA} {c l : Int32} {g : Nat → Int32} {q : Nat} (h1 : q ≠ 583) (h2 : q ≠ 60) : dH a c l g q = a q := by
  unfold dH
  rw [va_up_ne _ _ h1, u2_off _ h2, u2_off _ h2]
theorem dH_l {a : IA} {c l : Int32} {g : Nat → Int32} : dH a c l g 60 52 = l := by
  unfold dH
  rw [va_up_ne _ _ (by decide), u2_ne (by decide), u2_eq]
theorem dH_c {a : IA} {c l : Int32} {g : Nat → Int32} : dH a c l g 60 53 = c := by
  unfold dH
  rw [va_up_ne _ _ (by decide), u2_eq]
theorem dH_sl {a : IA} {c l x : Int32} {g : Nat → Int32} : u2 (dH a c l g) 60 52 x = dH a c x g := by
  unfold dH
  rw [u2_vac (by decide), u2_cross2 (by decide), u2_u2]
theorem dH_sc {a : IA} {c l x : Int32} {g : Nat → Int32} : u2 (dH a c l g) 60 53 x = dH a x l g := by
  unfold dH
  rw [u2_vac (by decide), u2_u2]
theorem dH_g {a : IA} {c l : Int32} {g g' : Nat → Int32} : va_up (dH a c l g) 583 g' = dH a c l g' := by
  unfold dH
  rw [bx_uu]
section MDR
variable {G : GE} {d C S : Nat} {a : IA} {r : RA} {nc ns ng : Nat} {x y z w q c l : Int32} {g : Nat → Int32}
theorem c_mDraw {P : KI} {v b l0 n : Int32} (hn : ¬ n = 0) (hl : a 60 52 = l0) (hv : v = nx l0) (hb : b = mDm v n) (hp : P b (u2 a 60 52 v) r nK) : Sp G d 0 0 MX12_draw [.ref 60, .int n] (a, r, nK) (RI P) := by
  refine V_X12_draw_0 ⟨rfl, by decide, rfl, by decide, fun a1 q1 => ?_⟩
  rw [hl] at q1
  have q1 : a1 = u2 a 60 52 (nx l0) := q1
  rw [← hv] at q1
  subst q1
  rw [hb] at hp
  unfold mDm mDr at hp
  rw [u2_eq]
  exact ⟨rfl, by decide, hn, hp⟩
theorem tyG : tyK 583 = (1, 42) := rfl
theorem c_dhY {P : KI} {ns : Nat} (hr : Rk r) (h8 : ns ≤ 8) (h1 : a 64 1 = nI ns) (hw : wfM ns g) (hp : ∀ v, P v (dH a c l (mTurn ns g).2) r nK) : Sp G (d + 2) 0 0 MX12_yearEnds [.ref 60, .ref 583] (dH a c l g, r, nK) (RI P) := by
  refine c_mYear hr tyG (by decide) (by decide) h8 (by rw [dH_q (by decide) (by decide)]; exact h1) (by rw [dH_r]; exact hw) ?_
  rw [dH_r, dH_g]
  exact hp _
theorem mQr_w {ns s : Nat} {g : Nat → Int32} (hw : wfM ns g) (hs : s < ns) (h8 : ns ≤ 8) : wfM ns (mQr g s).2 := by
  unfold mQr
  split
  · exact hw
  split
  · exact hw
  · exact wfM_cg hw (fun i hi => by
      exact mQuar_m (by omega))
theorem c_dhQ {P : KI} {ns s : Nat} {Q : Int32 × (Nat → Int32)} (hs : s < ns) (h8 : ns ≤ 8) (hw : wfM ns g) (hQ : Q = mQr g s) (hp : P Q.1 (dH a c l Q.2) r nK) : Sp G (d + 1) 0 0 MX12_quarrels [.ref 583, .int (nI s)] (dH a c l g, r, nK) (RI P) := by
  have key : ∀ (Q0 : Int32 × (Nat → Int32)), mQr g s = Q0 → P Q0.1 (dH a c l Q0.2) r nK := fun Q0 e => by rw [← e, ← hQ]; exact hp
  unfold mQr at key
  rcases hw s hs with h0 | ⟨m, hm, hne, e1, e2⟩
  · refine c_mQuar0 tyG (by decide) (by omega) (by rw [dH_r]; exact h0) ?_
    exact key _ (by rw [if_pos h0])
  · have h0 : ¬ g s = -1 := by rw [e1]; exact nI_n1 (by omega)
    refine c_mQuar tyG (by decide) (by omega) (show m < 8 by omega) (by rw [dH_r]; exact e1) (fun h9 => ?_) (fun h9 _ => ?_) (by omega)
    · rw [dH_r] at h9
      exact key _ (by rw [if_neg h0, e1, nI_clamp (by omega), if_pos h9])
    · rw [dH_r] at h9
      rw [dH_r, dH_g]
      exact key (1, mQuar g s m) (by rw [if_neg h0, e1, nI_clamp (by omega), if_neg h9])
theorem l_mCen {P : KN} {n ns : Nat} {X : Cn} (hr : Rk r) (h8 : ns ≤ 8) (h1 : a 64 1 = nI ns) (hn : n ≤ 100) (hp : P (dH a X.1 X.2.1 X.2.2) r nK) :
    ∀ (u k : Nat) (t : Cn), k + u = n → wfM ns t.2.2 → X = lpM (fun _ => mCnS ns q) u k t → E G MX12_centuriesBy (d + 3) C S 24 [.ref 60, .null, .int q, .int (nI n), .int (nI k)] [] (dH a t.1 t.2.1 t.2.2, r, nK) (RN P) := by
  have r34 : r 60 34 = .ref 583 := rf5 hr (by decide) rfl
  have r64 : r 60 12 = .ref 64 := rf5 hr (by decide) rfl
  have e64 : ∀ c l g, dH a c l g 64 1 = nI ns := fun c l g => by rw [dH_q (by decide) (by decide)]; exact h1
  intro u
  induction u with
  | zero =>
    intro k t hk hw he
    obtain rfl : k = n := by omega
    have he : X = t := he
    subst he
    exact V_X12_centuriesBy_24 ⟨fun _ => hp, fun h => absurd (nI_le (by omega) (by omega)) h⟩
  | succ u ih =>
    intro k t hk hw he
    have he : X = lpM (fun _ => mCnS ns q) u (k + 1) (mCnS ns q t) := he
    obtain ⟨v, hv⟩ : ∃ v, v = nx t.2.1 := ⟨_, rfl⟩
    obtain ⟨b, hb⟩ : ∃ b, b = mDm v 16 := ⟨_, rfl⟩
    obtain ⟨u2', hu⟩ : ∃ u, u = nx v := ⟨_, rfl⟩
    obtain ⟨c2, hc⟩ : ∃ c, c = mDm u2' (nI ns) := ⟨_, rfl⟩
    refine V_X12_centuriesBy_24 ⟨fun h => absurd ((nI_leI (by omega) (by omega)).mp h) (by omega), fun _ => ⟨rfl, by decide, 64, r64, rfl, by decide, vp_in_nI (show 1 < 8 by decide) (by decide), ?_⟩⟩
    rw [z1, e64, nI_1]
    by_cases h0 : ns = 0
    · rw [mCnS_0 h0] at he
      refine ⟨fun _ => ⟨rfl, by decide, 583, r34, rfl, by decide, c_dhY hr h8 h1 hw (fun _ => ?_)⟩, fun h => absurd (by rw [h0]; exact Int32.le_refl _) h⟩
      exact ih (k + 1) (t.1, t.2.1, (mTurn ns t.2.2).2) (by omega) (wfM_turn hw h8) he
    refine ⟨fun h => absurd ((nI_leI (b := 0) (by omega) (by decide)).mp h) (by omega), fun _ => ⟨rfl, by decide, c_mDraw (by decide) dH_l hv hb ?_⟩⟩
    rw [dH_sl]
    refine ⟨fun h2 => ⟨rfl, by decide, 583, r34, rfl, by decide, c_dhY hr h8 h1 hw (fun _ => ?_)⟩, fun h2 => ⟨rfl, by decide, rfl, by decide, 583, r34, rfl, by decide, 64, r64, rfl, by decide, vp_in_nI (show 1 < 8 by decide) (by decide), ?_⟩⟩
    · rw [mCnS_1 hv hb h0 h2] at he
      exact ih (k + 1) (t.1, v, (mTurn ns t.2.2).2) (by omega) (wfM_turn hw h8) he
    · rw [e64]
      have hn0 : ¬ nI ns = 0 := fun e => h0 ((nI_eq (b := 0) (by omega) (by decide)).mp e)
      obtain ⟨i, hi, ei⟩ := mDm_n (s := u2') (n := ns) (by omega) (by omega)
      refine ⟨rfl, by decide, c_mDraw hn0 dH_l hu hc ?_⟩
      rw [dH_sl, hc, ei]
      obtain ⟨Q, hQ⟩ : ∃ Q, Q = mQr t.2.2 i := ⟨_, rfl⟩
      rw [mCnS_2 hv hb hu hc (by rw [hc, ei, nI_clamp (by omega)]) hQ h0 h2, mCnT] at he
      have hw2 : wfM ns Q.2 := by rw [hQ]; exact mQr_w hw hi h8
      have hq01 : Q.1 = 0 ∨ Q.1 = 1 := by
        rw [hQ]; unfold mQr
        split
        · exact Or.inl rfl
        split
        · exact Or.inl rfl
        · exact Or.inr rfl
      refine c_dhQ hi h8 hw hQ ⟨fun h5 => ⟨rfl, by decide, fun a26 q26 => ⟨rfl, by decide, 583, r34, rfl, by decide, ?_⟩⟩, fun h5 => ⟨rfl, by decide, fun a26 q26 => ⟨rfl, by decide, 583, r34, rfl, by decide, ?_⟩⟩⟩
      · rw [dH_sc, dH_c] at q26
        subst q26
        rw [h5] at he
        exact c_dhY hr h8 h1 hw2 (fun _ => ih (k + 1) (t.1 + 0, u2', (mTurn ns Q.2).2) (by omega) (wfM_turn hw2 h8) he)
      · rw [dH_sc, dH_c] at q26
        subst q26
        rw [hq01.resolve_left h5] at he
        exact c_dhY hr h8 h1 hw2 (fun _ => ih (k + 1) (t.1 + 1, u2', (mTurn ns Q.2).2) (by omega) (wfM_turn hw2 h8) he)
/-- the dream's first row: the lives, and what else the trial row had -/
def mD0 (a : IA) : Nat → Int32 := fun j => if j < 42 then a 582 j else a 583 j
def mCnX (a : IA) (ns : Nat) (q seed : Int32) (n : Nat) : Cn := lpM (fun _ => mCnS ns q) n 0 (0, seed, mD0 a)
theorem c_mCenBy {P : KN} {n ns : Nat} {X : Cn} (hr : Rk r) (h8 : ns ≤ 8) (h1 : a 64 1 = nI ns) (hn : n ≤ 100) (hw : wfM ns (a 582)) (hX : X = mCnX a ns q w n) (hp : P (dH a X.1 X.2.1 X.2.2) r nK) : Sp G (d + 4) 0 0 MX12_centuriesBy [.ref 60, .int w, .int q, .int (nI n)] (a, r, nK) (RN P) := by
  have r34 : r 60 34 = .ref 583 := rf5 hr (by decide) rfl
  have r33 : r 60 33 = .ref 582 := rf5 hr (by decide) rfl
  refine V_X12_centuriesBy_0 ⟨rfl, by decide, 582, r33, rfl, by decide, 583, r34, c_mCopies rfl rfl (by decide) (by decide) (by decide) ⟨rfl, by decide, fun a6 q6 => ⟨rfl, by decide, fun a7 q7 => ?_⟩⟩⟩
  rw [show (fun j => if j < 42 then a 582 j else a 583 j) = mD0 a from rfl, u2_vac (by decide)] at q6
  subst q6
  rw [u2_vac (by decide)] at q7
  have q7 : a7 = dH a 0 w (mD0 a) := q7
  subst q7
  exact l_mCen hr h8 h1 hn hp n 0 (0, w, mD0 a) (by omega) (wfM_cg hw (fun s hs => by show (if s < 42 then a 582 s else _) = _; rw [if_pos (by omega)])) hX
end MDR
