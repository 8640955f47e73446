/-! The reference: ahead, centuries, span -/
/-- a heap of which the trial row alone is changed -/
def mAhD (ns n : Nat) (g : Nat → Int32) : Nat → Int32 := lpM (fun _ g => (mTurn ns g).2) n 0 g
def mLong (g : Nat → Int32) (ns : Nat) : Int32 := lpM (fun s v => if v ≤ g (16 + s) then g (16 + s) else v) ns 0 0
def mAhV (g : Nat → Int32) (ns : Nat) (w : Int32) : Int32 := if w = 0 then mCoup g ns else if w = 1 then sI (fun s => g (32 + s)) ns else mLong g ns
def mCnV (a : IA) (X : Cn) (ns : Nat) (w : Int32) : Int32 := if w = 0 then mCoup X.2.2 ns else if w = 1 then X.2.2 41 - a 582 41 else if w = 2 then sI (fun s => X.2.2 (32 + s)) ns else X.1
section MAH
variable {G : GE} {d C S : Nat} {a b : IA} {r : RA} {nc ns ng : Nat} {x y z w q c l : Int32} {g : Nat → Int32}
theorem l_mLong {P : KI} (hr : Rk r) (h8 : ns ≤ 8) (h1 : a 64 1 = nI ns) (hp : P (mLong (a 583) ns) a r nK) : ∀ (u k : Nat) (v : Int32), k + u = ns → lpM (fun s v => if v ≤ a 583 (16 + s) then a 583 (16 + s) else v) u k v = mLong (a 583) ns →
    E G MX12_ahead (d + 1) C S 107 [.ref 60, .null, .null, .int v, .int (nI k)] [] (a, r, nK) (RI P) := by
  have r34 : r 60 34 = .ref 583 := rf5 hr (by decide) rfl
  have r64 : r 60 12 = .ref 64 := rf5 hr (by decide) rfl
  intro u
  induction u with
  | zero =>
    intro k v hk he
    obtain rfl : k = ns := by omega
    have he : v = mLong (a 583) k := he
    subst he
    refine V_X12_ahead_107 ⟨rfl, by decide, 64, r64, rfl, by decide, vp_in_nI (show 1 < 8 by decide) (by decide), fun _ => hp, fun h => absurd ?_ h⟩
    rw [z1, h1]; exact nI_le (Nat.le_refl _) (by omega)
  | succ u ih =>
    intro k v hk he
    refine V_X12_ahead_107 ⟨rfl, by decide, 64, r64, rfl, by decide, vp_in_nI (show 1 < 8 by decide) (by decide), fun h => absurd ?_ (show ¬ ns ≤ k by omega), fun _ => ⟨rfl, by decide, 583, r34, ?_⟩⟩
    · rw [z1, h1] at h; exact (nI_leI (by omega) (by omega)).mp h
    rw [o16, nI_clamp (show 16 + k < 2 ^ 31 by omega), nI_1]
    exact row3 tyG (by decide) (v42 (by omega)) (c_mMore (ih (k + 1) _ (by omega) he))
theorem l_mAhead {P : KI} {n : Nat} {D : Nat → Int32} (hr : Rk r) (h8 : ns ≤ 8) (h1 : a 64 1 = nI ns) (hn : n ≤ 60) (hp : P (mAhV D ns w) (va_up a 583 D) r nK) :
    ∀ (u k : Nat) (g : Nat → Int32), k + u = n → wfM ns g → lpM (fun _ g => (mTurn ns g).2) u k g = D → E G MX12_ahead (d + 3) C S 53 [.ref 60, .int (nI n), .int w, .int (nI k), .null] [] (va_up a 583 g, r, nK) (RI P) := by
  have r34 : r 60 34 = .ref 583 := rf5 hr (by decide) rfl
  have e64 : ∀ g, va_up a 583 g 64 1 = nI ns := fun g => by rw [va_up_ne _ _ (by decide)]; exact h1
  intro u
  induction u with
  | zero =>
    intro k g hk hw he
    obtain rfl : k = n := by omega
    have he : g = D := he
    subst he
    unfold mAhV at hp
    refine V_X12_ahead_53 ⟨fun _ => ⟨fun e0 => ⟨fun e1 => ?_, fun e1 => ⟨rfl, by decide, 583, r34, rfl, by decide, c_mSumOf (f := 32) hr tyG (by decide) h8 (by decide) (e64 g) ?_⟩⟩, fun e0 => ⟨rfl, by decide, 583, r34, rfl, by decide, c_mCoup hr tyG (by decide) h8 (e64 g) ?_⟩⟩, fun h => absurd (nI_le (by omega) (by omega)) h⟩
    · rw [if_neg e0, if_neg e1] at hp
      exact l_mLong hr h8 (e64 g) (by rw [va_up_self]; exact hp) ns 0 0 (by omega) (by rw [va_up_self]; rfl)
    · rw [if_neg e0, if_pos e1] at hp
      rw [va_up_self]; exact hp
    · rw [if_pos e0] at hp
      rw [va_up_self]; exact hp
  | succ u ih =>
    intro k g hk hw he
    have he : lpM (fun _ g => (mTurn ns g).2) u (k + 1) (mTurn ns g).2 = D := he
    refine V_X12_ahead_53 ⟨fun h => absurd ((nI_leI (by omega) (by omega)).mp h) (by omega), fun _ => ⟨rfl, by decide, 583, r34, rfl, by decide, c_mYear hr tyG (by decide) (by decide) h8 (e64 g) (by rw [va_up_self]; exact hw) ?_⟩⟩
    rw [va_up_self, bx_uu, nI_1]
    exact ih (k + 1) _ (by omega) (wfM_turn hw h8) he
theorem wfM_D0 (hw : wfM ns (a 582)) (h8 : ns ≤ 8) : wfM ns (mD0 a) := wfM_cg hw (fun s hs => by show (if s < 42 then a 582 s else _) = _; rw [if_pos (by omega)])
theorem c_mAheadF {P : KI} {lw : List Int32} (hr : Rk r) (hq : MqH a nc ns ng lw) (hno : ¬ (inT x 0 60 ∧ inT w 0 2) → P 0 (mBd a 1 2) r nK)
    (hy : ∀ n, n ≤ 60 → x = nI n → inT w 0 2 → P (mAhV (mAhD ns n (mD0 (u2 a 60 0 0))) ns w) (va_up (u2 a 60 0 0) 583 (mAhD ns n (mD0 (u2 a 60 0 0)))) r nK) : Sp G (d + 3) 0 0 MX12_ahead [.ref 60, .int x, .int w] (a, r, nK) (RI P) := by
  have hqz := hq.z
  have r34 : r 60 34 = .ref 583 := rf5 hr (by decide) rfl
  have r33 : r 60 33 = .ref 582 := rf5 hr (by decide) rfl
  refine V_X12_ahead_0 ⟨rfl, by decide, fun a1 q1 => ?_⟩
  subst q1
  refine c_mIn (fun h1 => ⟨fun h => absurd h (by decide), fun _ => c_mIn (fun h2 => ⟨fun _ => ⟨rfl, by decide, bad0z ⟨fun _ => ?_, fun h => absurd rfl h⟩⟩, fun h => absurd h (by decide)⟩) (fun h2 => ⟨fun h => absurd rfl h, fun _ => ⟨rfl, by decide, bad1z (i := 2) hr (by decide) (by decide) ⟨fun h => absurd h (by decide), fun _ => hno (fun z => h2 z.2)⟩⟩⟩)⟩) (fun h1 => ⟨fun _ => ⟨rfl, by decide, bad1z (i := 2) hr (by decide) (by decide) ⟨fun h => absurd h (by decide), fun _ => hno (fun z => h1 z.1)⟩⟩, fun h => absurd rfl h⟩)
  obtain ⟨n, hn, rfl⟩ := (inT_S (n := 61) (by decide)).mp h1
  have hp := hy n (by omega) rfl h2
  generalize u2 a 60 0 0 = b at *
  refine ⟨rfl, by decide, 582, r33, rfl, by decide, 583, r34, c_mCopies rfl rfl (by decide) (by decide) (by decide) ?_⟩
  exact l_mAhead hr hqz.1.2.2.2.1 hqz.1.2.2.1 (by omega) hp n 0 (mD0 b) (by omega) (wfM_D0 hqz.2.2.2.2.1 hqz.1.2.2.2.1) rfl
theorem c_mCenF {P : KI} {lw : List Int32} (hr : Rk r) (hq : MqH a nc ns ng lw) (hno : ¬ (inT y 0 16 ∧ inT z 1 100 ∧ inT w 0 3) → P 0 (mBd a 1 2) r nK)
    (hy : ∀ n, 1 ≤ n → n ≤ 100 → z = nI n → inT y 0 16 → inT w 0 3 → ∀ X, X = mCnX (u2 a 60 0 0) ns y x n → P (mCnV (u2 a 60 0 0) X ns w) (dH (u2 a 60 0 0) X.1 X.2.1 X.2.2) r nK) : Sp G (d + 5) 0 0 MX12_centuries [.ref 60, .int x, .int y, .int z, .int w] (a, r, nK) (RI P) := by
  have hqz := hq.z
  have r34 : r 60 34 = .ref 583 := rf5 hr (by decide) rfl
  have r33 : r 60 33 = .ref 582 := rf5 hr (by decide) rfl
  have bad : ¬ (inT y 0 16 ∧ inT z 1 100 ∧ inT w 0 3) → E G MX12_centuries (d + 5) 0 0 41 [.ref 60, .int x, .int y, .int z, .int w] [.int 1, .ref 60] (u2 a 60 0 0, r, nK) (RI P) := fun h =>
    V_X12_centuries_41 ⟨rfl, by decide, bad1z (i := 2) hr (by decide) (by decide) ⟨fun h => absurd h (by decide), fun _ => hno h⟩⟩
  refine V_X12_centuries_0 ⟨rfl, by decide, fun a1 q1 => ?_⟩
  subst q1
  refine c_mIn (fun h1 => ⟨fun h => absurd h (by decide), fun _ => c_mIn (fun h2 => ⟨fun h => absurd h (by decide), fun _ => c_mIn (fun h3 => ⟨fun _ => ?_, fun h => absurd h (by decide)⟩) (fun h3 => ⟨fun h => absurd rfl h, fun _ => bad (fun z => h3 z.2.2)⟩)⟩) (fun h2 => ⟨fun _ => bad (fun z => h2 z.2.1), fun h => absurd rfl h⟩)⟩) (fun h1 => ⟨fun _ => bad (fun z => h1 z.1), fun h => absurd rfl h⟩)
  obtain ⟨n, hn, rfl⟩ := (inT_S (n := 101) (by decide)).mp (show inT z 0 (nI 101 - 1) from ⟨fun h => h2.1 (Int32.lt_of_lt_of_le h (by decide)), h2.2⟩)
  have hn1 : 1 ≤ n := by
    rcases Nat.eq_zero_or_pos n with e | e
    · rw [e] at h2; exact absurd (by decide) h2.1
    · exact e
  have hp := hy n hn1 (by omega) rfl h1 h3
  refine V_X12_centuries_41 ⟨rfl, by decide, bad0z ⟨fun _ => ⟨rfl, by decide, ?_⟩, fun h => absurd rfl h⟩⟩
  generalize u2 a 60 0 0 = b at *
  have h8 := hqz.1.2.2.2.1
  obtain ⟨X, hX⟩ : ∃ X, X = mCnX b ns y x n := ⟨_, rfl⟩
  have hp := hp X hX
  have e64 : ∀ c l g, dH b c l g 64 1 = nI ns := fun c l g => by rw [dH_q (by decide) (by decide)]; exact hqz.1.2.2.1
  refine c_mCenBy hr h8 hqz.1.2.2.1 (by omega) hqz.2.2.2.2.1 hX ?_
  unfold mCnV at hp
  refine ⟨fun e0 => ⟨fun e1 => ⟨fun e2 => ⟨rfl, by decide, ?_⟩, fun e2 => ⟨rfl, by decide, 583, r34, rfl, by decide, c_mSumOf (f := 32) hr tyG (by decide) h8 (by decide) (e64 _ _ _) ?_⟩⟩, fun e1 => ⟨rfl, by decide, 583, r34, row3 tyG (by decide) (v42 (i := 41) (by decide)) ⟨rfl, by decide, 582, r33, row3 rfl (by decide) (v42 (i := 41) (by decide)) ?_⟩⟩⟩, fun e0 => ⟨rfl, by decide, 583, r34, rfl, by decide, c_mCoup hr tyG (by decide) h8 (e64 _ _ _) ?_⟩⟩
  · rw [if_neg e0, if_neg e1, if_neg e2] at hp
    rw [dH_c]; exact hp
  · rw [if_neg e0, if_neg e1, if_pos e2] at hp
    rw [dH_r]; exact hp
  · rw [if_neg e0, if_pos e1] at hp
    rw [dH_r, dH_q (by decide) (by decide)]; exact hp
  · rw [if_pos e0] at hp
    rw [dH_r]; exact hp
/-- futures -/
abbrev Mn : Type := Int32 × Int32 × Int32 × Cn
def mSnT (ns : Nat) (s : Nat) (t : Mn) (v : Int32) (D : Cn) : Mn := (if t.1 = -1 then v else if v ≤ t.1 then v else t.1, if t.2.1 ≤ v then v else t.2.1, t.2.2.1 + (if D.2.2 s = -1 then 0 else 1), D)
def mSnS (a : IA) (ns s : Nat) (q sd : Int32) (n k : Nat) (t : Mn) : Mn :=
  mSnT ns s t (mCoup (mCnX (dH a t.2.2.2.1 t.2.2.2.2.1 t.2.2.2.2.2) ns q (sd + nI k) n).2.2 ns) (mCnX (dH a t.2.2.2.1 t.2.2.2.2.1 t.2.2.2.2.2) ns q (sd + nI k) n)
theorem mSnS_1 {a : IA} {ns s n k : Nat} {q sd v : Int32} {t : Mn} {D : Cn} (hD : D = mCnX (dH a t.2.2.2.1 t.2.2.2.2.1 t.2.2.2.2.2) ns q (sd + nI k) n) (hv : v = mCoup D.2.2 ns) : mSnS a ns s q sd n k t = mSnT ns s t v D := by
  subst hv
  subst hD
  rfl
theorem dH_dH {c l c' l' : Int32} {g' : Nat → Int32} : dH (dH a c l g) c' l' g' = dH a c' l' g' := by
  show va_up (u2 (u2 (dH a c l g) 60 52 l') 60 53 c') 583 g' = _
  rw [dH_sl, dH_sc, dH_g]
def mSnV (t : Mn) (w : Int32) : Int32 := if w = 0 then t.1 else if w = 1 then t.2.1 else t.2.2.1
theorem l_mSpan {P : KI} {n m s : Nat} {X : Mn} {sd : Int32} (hr : Rk r) (h8 : ns ≤ 8) (h1 : a 64 1 = nI ns) (hw : wfM ns (a 582)) (hn : n ≤ 100) (hm : m ≤ 20) (hs : s < ns) (hp : P (mSnV X w) (dH a X.2.2.2.1 X.2.2.2.2.1 X.2.2.2.2.2) r nK) :
    ∀ (u k : Nat) (t : Mn), k + u = m → lpM (mSnS a ns s q sd n) u k t = X → E G MX12_span (d + 5) C S 83 [.ref 60, .int sd, .int (nI m), .int q, .int (nI n), .int w, .int (nI s), .int t.1, .int t.2.1, .int t.2.2.1, .int (nI k), .null] [] (dH a t.2.2.2.1 t.2.2.2.2.1 t.2.2.2.2.2, r, nK) (RI P) := by
  have r34 : r 60 34 = .ref 583 := rf5 hr (by decide) rfl
  have e64 : ∀ c l g, dH a c l g 64 1 = nI ns := fun c l g => by rw [dH_q (by decide) (by decide)]; exact h1
  have e82 : ∀ c l g, wfM ns (dH a c l g 582) := fun c l g => by rw [dH_q (by decide) (by decide)]; exact hw
  intro u
  induction u with
  | zero =>
    intro k t hk he
    obtain rfl : k = m := by omega
    have he : t = X := he
    subst he
    unfold mSnV at hp
    refine V_X12_span_83 ⟨fun _ => ⟨fun e0 => ⟨fun e1 => ?_, fun e1 => ?_⟩, fun e0 => ?_⟩, fun h => absurd (nI_le (by omega) (by omega)) h⟩
    · rw [if_neg e0, if_neg e1] at hp; exact hp
    · rw [if_neg e0, if_pos e1] at hp; exact hp
    · rw [if_pos e0] at hp; exact hp
  | succ u ih =>
    intro k t hk he
    have he : lpM (mSnS a ns s q sd n) u (k + 1) (mSnS a ns s q sd n k t) = X := he
    obtain ⟨D, hD⟩ : ∃ D, D = mCnX (dH a t.2.2.2.1 t.2.2.2.2.1 t.2.2.2.2.2) ns q (sd + nI k) n := ⟨_, rfl⟩
    obtain ⟨v, hv⟩ : ∃ v, v = mCoup D.2.2 ns := ⟨_, rfl⟩
    rw [mSnS_1 hD hv] at he
    have go := fun (f h p : Int32) (g1 : f = (if t.1 = -1 then v else if v ≤ t.1 then v else t.1)) (g2 : h = (if t.2.1 ≤ v then v else t.2.1)) (g3 : p = t.2.2.1 + (if D.2.2 s = -1 then 0 else 1)) => ih (k + 1) (f, h, p, D) (by omega) (by rw [g1, g2, g3]; exact he)
    refine V_X12_span_83 ⟨fun h => absurd ((nI_leI (by omega) (by omega)).mp h) (by omega), fun _ => ⟨rfl, by decide, c_mCenBy hr h8 (e64 _ _ _) hn (e82 _ _ _) hD ?_⟩⟩
    rw [dH_dH, nI_1]
    refine ⟨rfl, by decide, 583, r34, rfl, by decide, c_mCoup hr tyG (by decide) h8 (e64 _ _ _) ?_⟩
    rw [dH_r, ← hv]
    refine ⟨fun e1 => c_mLess (c_mMore ⟨rfl, by decide, 583, r34, c_mMate tyG (by decide) (by omega) ?_⟩), fun e1 => c_mMore ⟨rfl, by decide, 583, r34, c_mMate tyG (by decide) (by omega) ?_⟩⟩
    · rw [dH_r]
      exact ⟨fun e2 => go (if v ≤ t.1 then v else t.1) _ _ (by rw [if_neg e1]) rfl (by rw [if_pos e2]), fun e2 => go (if v ≤ t.1 then v else t.1) _ _ (by rw [if_neg e1]) rfl (by rw [if_neg e2])⟩
    · rw [dH_r]
      exact ⟨fun e2 => go _ _ _ (by rw [if_pos e1]) rfl (by rw [if_pos e2]), fun e2 => go _ _ _ (by rw [if_pos e1]) rfl (by rw [if_neg e2])⟩
theorem mCnX_583 {a a' : IA} {sd : Int32} {n : Nat} (h2 : a' 582 = a 582) (h3 : a' 583 = a 583) : mCnX a' ns q sd n = mCnX a ns q sd n := by
  have : mD0 a' = mD0 a := by unfold mD0; rw [h2, h3]
  unfold mCnX
  rw [this]
def mSnX (a : IA) (ns s : Nat) (q sd : Int32) (m n : Nat) : Mn := lpM (mSnS a ns s q sd n) m 0 (-1, 0, 0, a 60 53, a 60 52, a 583)
theorem dH_same : dH a (a 60 53) (a 60 52) (a 583) = a := by
  unfold dH
  have e1 : u2 a 60 52 (a 60 52) = a := u2_self
  rw [e1, u2_self, up_same]
theorem c_mSpanF {P : KI} {lw : List Int32} {v sd : Int32} (hr : Rk r) (hq : MqH a nc ns ng lw) (hno : ¬ (inT x 1 20 ∧ inT y 0 16 ∧ inT z 1 100 ∧ inT w 0 2 ∧ ∃ s, s < ns ∧ v = nI s) → P 0 (mBd a 1 2) r nK)
    (hy : ∀ m n s, 1 ≤ m → m ≤ 20 → x = nI m → 1 ≤ n → n ≤ 100 → z = nI n → inT y 0 16 → inT w 0 2 → s < ns → v = nI s → ∀ X, X = mSnX (u2 a 60 0 0) ns s y sd m n → P (mSnV X w) (dH (u2 a 60 0 0) X.2.2.2.1 X.2.2.2.2.1 X.2.2.2.2.2) r nK) : Sp G (d + 5) 0 0 MX12_span [.ref 60, .int sd, .int x, .int y, .int z, .int w, .int v] (a, r, nK) (RI P) := by
  have hqz := hq.z
  have h8 := hqz.1.2.2.2.1
  have bad : ∀ {Q : IA → RA → Nat → Prop}, ¬ (inT x 1 20 ∧ inT y 0 16 ∧ inT z 1 100 ∧ inT w 0 2 ∧ ∃ s, s < ns ∧ v = nI s) → Sp G (d + 4) 0 0 MX12_bad [.ref 60, .int 1, .int 1, .int 2] (u2 a 60 0 0, r, nK) (RI fun v9 a6 r7 n8 => (v9 = 0 → Q a6 r7 n8) ∧ (¬ v9 = 0 → P 0 a6 r7 n8)) := fun h =>
    bad1z (i := 2) hr (by decide) (by decide) ⟨fun h => absurd h (by decide), fun _ => hno h⟩
  refine V_X12_span_0 ⟨rfl, by decide, fun a1 q1 => ?_⟩
  subst q1
  refine c_mIn (fun h1 => ⟨fun h => absurd h (by decide), fun _ => c_mIn (fun h2 => ⟨fun h => absurd h (by decide), fun _ => c_mIn (fun h3 => ⟨fun h => absurd h (by decide), fun _ => c_mIn (fun h4 => ⟨fun h => absurd h (by decide), fun _ => ⟨rfl, by decide, ?_⟩⟩) (fun h4 => ⟨fun _ => ⟨rfl, by decide, bad (fun z => h4 z.2.2.2.1)⟩, fun h => absurd rfl h⟩)⟩) (fun h3 => ⟨fun _ => ⟨rfl, by decide, bad (fun z => h3 z.2.2.1)⟩, fun h => absurd rfl h⟩)⟩) (fun h2 => ⟨fun _ => ⟨rfl, by decide, bad (fun z => h2 z.2.1)⟩, fun h => absurd rfl h⟩)⟩) (fun h1 => ⟨fun _ => ⟨rfl, by decide, bad (fun z => h1 z.1)⟩, fun h => absurd rfl h⟩)
  refine c_mIsStr hr hqz.1.2.2.1 h8 (fun s hs e => ⟨fun _ => ⟨rfl, by decide, bad0z ⟨fun _ => ?_, fun h => absurd rfl h⟩⟩, fun h => absurd h (by decide)⟩) (fun hn => ⟨fun h => absurd rfl h, fun _ => ⟨rfl, by decide, bad (fun z => hn z.2.2.2.2)⟩⟩)
  have pos : ∀ {n : Nat} {k : Int32}, inT (nI n) 1 k → 1 ≤ n := by
    intro n k h
    rcases Nat.eq_zero_or_pos n with e | e
    · rw [e] at h; exact absurd (by decide) h.1
    · exact e
  obtain ⟨m, hm, rfl⟩ := (inT_S (n := 21) (by decide)).mp (show inT x 0 (nI 21 - 1) from ⟨fun h => h1.1 (Int32.lt_of_lt_of_le h (by decide)), h1.2⟩)
  obtain ⟨n, hn, rfl⟩ := (inT_S (n := 101) (by decide)).mp (show inT z 0 (nI 101 - 1) from ⟨fun h => h3.1 (Int32.lt_of_lt_of_le h (by decide)), h3.2⟩)
  have hp := hy m n s (pos h1) (by omega) rfl (pos h3) (by omega) rfl h2 h4 hs e
  generalize u2 a 60 0 0 = b at *
  subst e
  have := l_mSpan (G := G) (d := d) (C := 0) (S := 0) hr h8 hqz.1.2.2.1 hqz.2.2.2.2.1 (show n ≤ 100 by omega) (show m ≤ 20 by omega) hs (hp _ rfl) m 0 (-1, 0, 0, b 60 53, b 60 52, b 583) (by omega) rfl
  rw [dH_same] at this
  exact this
end MAH
