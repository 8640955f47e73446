/-! City's readers -/
theorem nm1 {lo v : Int32} (h : lo ≤ v) (h0 : (0 : Int32) ≤ lo) : ¬ v = -1 := fun e => by
  subst e
  rw [Int32.le_iff_toInt_le] at h h0
  have e1 : (0 : Int32).toInt = 0 := by decide
  have e2 : (-1 : Int32).toInt = -1 := by decide
  omega
theorem nm0 {v : Int32} (h : (0 : Int32) ≤ v) : ¬ v = -1 := nm1 h (by decide)
theorem bit0 {b : Bool} : (if b = true then (1 : Int32) else 0) = 0 ↔ b = false := by cases b <;> decide
theorem pOther_l {B : Nat → Int32} {n p e : Nat} {but many v : Int32} (h : pOther B n but many p = .inl (v, e)) : pNum B n 0 (many - 1) p = .inl (v, e) ∧ ¬ v = but := by
  unfold pOther at h
  split at h
  · next w e' hw =>
    split at h
    · cases h
    · next hne => cases h; exact ⟨hw, hne⟩
  · cases h
section RC
variable {G : GE} {d C S : Nat} {a : IA} {r : RA} {B : Nat → Int32} {n p s T : Nat} {k f x nc ns ng : Int32} {g : Nat → Int32}
theorem c_kindOfC {P : KI} (hr : Rk r) (hB : By a B n) (hx : TXr g n p s k f) (hsp : s ≤ p) (hpn : p ≤ n) (hp : P (ctKind B s p) (va_up a 2 g) r nK) : Sp G (d + 6) 0 0 MX0_kindOf [.ref 2] (va_up a 2 g, r, nK) (RI P) := by
  unfold ctKind at hp
  refine V_X0_kindOf_0 ⟨rfl, by decide, t_wordIs (i := 1) hr hB hx hsp hpn (by decide) (by decide) ⟨fun h1 => ⟨rfl, by decide, t_wordIs (i := 2) hr hB hx hsp hpn (by decide) (by decide) ⟨fun h2 => ⟨rfl, by decide, t_wordIs (i := 3) hr hB hx hsp hpn (by decide) (by decide) ⟨fun h3 => ⟨rfl, by decide, t_wordIs (i := 4) hr hB hx hsp hpn (by decide) (by decide) ⟨fun h4 => ⟨rfl, by decide, t_wordIs (i := 5) hr hB hx hsp hpn (by decide) (by decide) ⟨fun h5 => ⟨rfl, by decide, t_wordIs (i := 6) hr hB hx hsp hpn (by decide) (by decide) ⟨fun h6 => ⟨rfl, by decide, t_wordIs (i := 7) hr hB hx hsp hpn (by decide) (by decide) ⟨fun h7 => ?_, fun h7 => ?_⟩⟩, fun h6 => ?_⟩⟩, fun h5 => ?_⟩⟩, fun h4 => ?_⟩⟩, fun h3 => ?_⟩⟩, fun h2 => ?_⟩⟩, fun h1 => ?_⟩⟩
  all_goals simp only [bit0, Bool.not_eq_false] at *
  · simpa [h1, h2, h3, h4, h5, h6, h7] using hp
  · simpa [h1, h2, h3, h4, h5, h6, h7] using hp
  · simpa [h1, h2, h3, h4, h5, h6] using hp
  · simpa [h1, h2, h3, h4, h5] using hp
  · simpa [h1, h2, h3, h4] using hp
  · simpa [h1, h2, h3] using hp
  · simpa [h1, h2] using hp
  · simpa [h1] using hp
theorem l_isFull {P : KI} {h0 : ¬ (x = 1 ∧ 10 ≤ a T 0)} (hT : isCity T) (hp : P (if ctFull x (a T 0) (a T 1) (a T 2) then 1 else 0) a r nK) : E G MX0_isFull d C S 14 [.ref T, .int x] [] (a, r, nK) (RI P) := by
  unfold ctFull at hp
  have e0 : (decide (x = 1) && decide (10 ≤ a T 0)) = false := by
    cases h : (decide (x = 1) && decide (10 ≤ a T 0)) with
    | false => rfl
    | true => exact absurd (by simpa using h) h0
  rw [e0, Bool.false_or] at hp
  refine V_X0_isFull_14 ⟨fun h2 => ⟨fun h5 => ⟨bz_0, ?_⟩, fun h5 => ⟨ct0 hT, ctl hT, fun h6 => ⟨bz_0, ?_⟩, fun h6 => ⟨bz_1, ?_⟩⟩⟩, fun h2 => ⟨ct0 hT, ctl hT, fun h3 => ⟨bz_1, ?_⟩, fun h3 => ⟨fun h5 => ⟨bz_0, ?_⟩, fun h5 => absurd (h2.symm.trans h5) (by decide)⟩⟩⟩
  · simpa [h2, h5] using hp
  · have : ¬ 8 ≤ a T 2 := i_nle.mpr h6
    simpa [h2, h5, this] using hp
  · have : 8 ≤ a T 2 := i_nlt.mp h6
    simpa [h2, h5, this] using hp
  · simpa [h2, h3] using hp
  · have : ¬ (2 : Int32) = 5 := by decide
    simpa [h2, h3, this] using hp
theorem c_isFull {P : KI} (hT : isCity T) (hp : P (if ctFull x (a T 0) (a T 1) (a T 2) then 1 else 0) a r nK) : Sp G d 0 0 MX0_isFull [.ref T, .int x] (a, r, nK) (RI P) := by
  refine V_X0_isFull_0 ⟨fun h => l_isFull (h0 := fun z => h z.1) hT hp, fun h => ⟨ct0 hT, ctl hT, fun h2 => ⟨bz_1, ?_⟩, fun h2 => l_isFull (h0 := fun z => h2 z.2) hT hp⟩⟩
  simpa [ctFull, h, h2] using hp
theorem c_another {P : KI} {one many : Int32} (hr : Rk r) (hB : By a B n) (hx : TXr g n p s k f) (hpn : p ≤ n)
    (hy : ∀ v e, pOther B n one many p = .inl (v, e) → p < e → e ≤ n → 0 ≤ v → ∀ g' s', TXr g' n e s' k f → P v (va_up a 2 g') r nK)
    (hf : ∀ c q, pOther B n one many p = .inr (c, q) → ∀ g' p' s', TXr g' n p' s' c (nI q) → P (-1) (va_up a 2 g') r nK) : Sp G (d + 2) 0 0 MX0_another [.ref 2, .int one, .int many] (va_up a 2 g, r, nK) (RI P) := by
  have h1 := skB_le (B := B) hpn
  have h2 := dgE_le (B := B) h1.2
  refine V_X0_another_0 ⟨rfl, by decide, c_readNumber hr hB.up hx.up hpn (fun h3 h4 h5 a' h6 h7 => ?_) (fun h3 h4 a' h6 h7 => ?_) (fun h3 a' h6 h7 => ?_)⟩
  · have e : pNum B n 0 (many - 1) p = .inl (nAt B n (skB B n p), dgE B n (skB B n p)) := by unfold pNum; rw [if_neg (by omega), if_pos ⟨h4, h5⟩]
    rw [off_up h7]
    refine ⟨fun h8 => hy _ _ (by unfold pOther; rw [e]; simp only; rw [if_neg h8]) (by omega) h2.2 h4 _ _ h6, fun h8 => ⟨fun h9 => absurd h9 (nm0 h4), fun _ => ⟨rfl, by decide, t_mark h6 (fun g' h10 => hf _ _ (by unfold pOther; rw [e]; simp only; rw [if_pos h8]) _ _ _ h10)⟩⟩⟩
  · have e : pOther B n one many p = .inr (2, skB B n p) := by unfold pOther pNum; rw [if_neg (by omega), if_neg h4]
    rw [off_up h7]
    by_cases h8 : (-1 : Int32) = one
    · exact ⟨fun h9 => absurd h8 h9, fun _ => ⟨fun _ => hf _ _ e _ _ _ h6, fun h9 => absurd rfl h9⟩⟩
    · exact ⟨fun _ => hf _ _ e _ _ _ h6, fun h9 => absurd h9 h8⟩
  · have e : pOther B n one many p = .inr (1, skB B n p) := by unfold pOther pNum; rw [if_pos h3]
    rw [off_up h7]
    by_cases h8 : (-1 : Int32) = one
    · exact ⟨fun h9 => absurd h8 h9, fun _ => ⟨fun _ => hf _ _ e _ _ _ h6, fun h9 => absurd rfl h9⟩⟩
    · exact ⟨fun _ => hf _ _ e _ _ _ h6, fun h9 => absurd h9 h8⟩
theorem c_readCorner {P : KI} (hr : Rk r) (hT : isCity T) (hB : By a B n) (hx : TXr g n p s k f) (hpn : p ≤ n)
    (hy : ∀ c e, pFields B n 1 nc ns p = .inl (c, e) → p < e → e ≤ n → ∀ g' s', TXr g' n e s' k f → P 1 (va_up (ctDo a T c) 2 g') r nK)
    (hf : ∀ c q, pFields B n 1 nc ns p = .inr (c, q) → ∀ g' p' s', TXr g' n p' s' c (nI q) → P 0 (va_up a 2 g') r nK) : Sp G (d + 2) 0 0 MX0_readCorner [.ref T, .ref 2] (va_up a 2 g, r, nK) (RI P) := by
  refine V_X0_readCorner_0 ⟨rfl, by decide, t_num hr hB hx hpn (fun v1 e1 q1 l1 b1 lo1 hi1 g1 s1 x1 => ⟨fun _ => ⟨rfl, by decide, t_num hr hB x1 b1 (fun v2 e2 q2 l2 b2 lo2 hi2 g2 s2 x2 => ⟨fun _ => ⟨ct0 hT, ctl hT, c_addCorner hr hT ⟨bz_1, ?_⟩⟩, fun h => absurd h (nm0 lo2)⟩) (fun c q q2 g2 p2 s2 x2 => ⟨fun h => absurd rfl h, fun _ => ⟨bz_0, ?_⟩⟩)⟩, fun h => absurd h (nm0 lo1)⟩) (fun c q q1 g1 p1 s1 x1 => ⟨fun h => absurd rfl h, fun _ => ⟨fun h => absurd rfl h, fun _ => ⟨bz_0, ?_⟩⟩⟩)⟩
  · have := hy (1, v1, v2, 0, 0) e2 (by unfold pFields; rw [if_pos rfl, sB_l q1, sB_l q2]) (by omega) b2 g2 s2 x2
    rw [← ctDo_up hT] at this
    exact this
  · exact hf c q (by unfold pFields; rw [if_pos rfl, sB_l q1, sB_r q2]) _ _ _ x2
  · exact hf c q (by unfold pFields; rw [if_pos rfl, sB_r q1]) _ _ _ x1
theorem c_readGood {P : KI} (hr : Rk r) (hT : isCity T) (hB : By a B n) (hx : TXr g n p s k f) (hpn : p ≤ n)
    (hy : ∀ c e, pFields B n 5 nc ns p = .inl (c, e) → p < e → e ≤ n → ∀ g' s', TXr g' n e s' k f → P 1 (va_up (ctDo a T c) 2 g') r nK)
    (hf : ∀ c q, pFields B n 5 nc ns p = .inr (c, q) → ∀ g' p' s', TXr g' n p' s' c (nI q) → P 0 (va_up a 2 g') r nK) : Sp G (d + 2) 0 0 MX0_readGood [.ref T, .ref 2] (va_up a 2 g, r, nK) (RI P) := by
  have e5 : pFields B n 5 nc ns p = sB (pNum B n 0 9 p) fun x => sB (pNum B n 0 9 x.2) fun y => .inl ((5, x.1, y.1, 0, 0), y.2) := rfl
  rw [e5] at hy hf
  refine V_X0_readGood_0 ⟨rfl, by decide, t_num hr hB hx hpn (fun v1 e1 q1 l1 b1 lo1 hi1 g1 s1 x1 => ⟨fun _ => ⟨rfl, by decide, t_num hr hB x1 b1 (fun v2 e2 q2 l2 b2 lo2 hi2 g2 s2 x2 => ⟨fun _ => ⟨ct0 hT, ctl hT, c_addGood hr hT ⟨bz_1, ?_⟩⟩, fun h => absurd h (nm0 lo2)⟩) (fun c q q2 g2 p2 s2 x2 => ⟨fun h => absurd rfl h, fun _ => ⟨bz_0, ?_⟩⟩)⟩, fun h => absurd h (nm0 lo1)⟩) (fun c q q1 g1 p1 s1 x1 => ⟨fun h => absurd rfl h, fun _ => ⟨fun h => absurd rfl h, fun _ => ⟨bz_0, ?_⟩⟩⟩)⟩
  · have := hy (5, v1, v2, 0, 0) e2 (by rw [sB_l q1, sB_l q2]) (by omega) b2 g2 s2 x2
    rw [← ctDo_up hT] at this
    exact this
  · exact hf c q (by rw [sB_l q1, sB_r q2]) _ _ _ x2
  · exact hf c q (by rw [sB_r q1]) _ _ _ x1
theorem c_readRiver {P : KI} (hr : Rk r) (hT : isCity T) (hB : By a B n) (hx : TXr g n p s k f) (hpn : p ≤ n)
    (hy : ∀ c e, pFields B n 7 nc ns p = .inl (c, e) → p < e → e ≤ n → ∀ g' s', TXr g' n e s' k f → P 1 (va_up (ctDo a T c) 2 g') r nK)
    (hf : ∀ c q, pFields B n 7 nc ns p = .inr (c, q) → ∀ g' p' s', TXr g' n p' s' c (nI q) → P 0 (va_up a 2 g') r nK) : Sp G (d + 2) 0 0 MX0_readRiver [.ref T, .ref 2] (va_up a 2 g, r, nK) (RI P) := by
  have e5 : pFields B n 7 nc ns p = sB (pNum B n 0 60 p) fun x => .inl ((7, x.1, 0, 0, 0), x.2) := rfl
  rw [e5] at hy hf
  refine V_X0_readRiver_0 ⟨rfl, by decide, t_num hr hB hx hpn (fun v1 e1 q1 l1 b1 lo1 hi1 g1 s1 x1 => ⟨fun _ => ⟨ct0 hT, ctl hT, fun a5 h5 => ⟨bz_1, ?_⟩⟩, fun h => absurd h (nm0 lo1)⟩) (fun c q q1 g1 p1 s1 x1 => ⟨fun h => absurd rfl h, fun _ => ⟨bz_0, ?_⟩⟩)⟩
  · have := hy (7, v1, 0, 0, 0) e1 (by rw [sB_l q1]) l1 b1 g1 s1 x1
    rw [← ctDo_up hT] at this
    subst h5
    exact this
  · exact hf c q (by rw [sB_r q1]) _ _ _ x1
theorem c_readNever {P : KI} (hr : Rk r) (hT : isCity T) (hB : By a B n) (hx : TXr g n p s k f) (hpn : p ≤ n)
    (hy : ∀ c e, pFields B n 4 nc (a T 1) p = .inl (c, e) → p < e → e ≤ n → ∀ g' s', TXr g' n e s' k f → P 1 (va_up (ctDo a T c) 2 g') r nK)
    (hf : ∀ c q, pFields B n 4 nc (a T 1) p = .inr (c, q) → ∀ g' p' s', TXr g' n p' s' c (nI q) → P 0 (va_up a 2 g') r nK) : Sp G (d + 3) 0 0 MX0_readNever [.ref T, .ref 2] (va_up a 2 g, r, nK) (RI P) := by
  have e5 : pFields B n 4 nc (a T 1) p = sB (pNum B n 0 (a T 1 - 1) p) fun x => sB (pOther B n x.1 (a T 1) x.2) fun y => .inl ((4, x.1, y.1, 0, 0), y.2) := rfl
  rw [e5] at hy hf
  have h0 := hT.ne0
  refine V_X0_readNever_0 ⟨ct0 hT, ctl hT, rfl, by decide, ?_⟩
  rw [up_at h0]
  refine t_num hr hB hx hpn (fun v1 e1 q1 l1 b1 lo1 hi1 g1 s1 x1 => ⟨fun _ => ⟨ct0 hT, ctl hT, ?_⟩, fun h => absurd h (nm0 lo1)⟩) (fun c q q1 g1 p1 s1 x1 => ⟨fun h => absurd rfl h, fun _ => ⟨fun h => absurd rfl h, fun _ => ⟨bz_0, ?_⟩⟩⟩)
  · rw [up_at h0]
    refine c_another hr hB x1 b1 (fun v2 e2 q2 l2 b2 lo2 g2 s2 x2 => ⟨fun _ => ⟨ct0 hT, ctl hT, c_forbid hr hT ⟨bz_1, ?_⟩⟩, fun h => absurd h (nm0 lo2)⟩) (fun c q q2 g2 p2 s2 x2 => ⟨fun h => absurd rfl h, fun _ => ⟨bz_0, ?_⟩⟩)
    · have := hy (4, v1, v2, 0, 0) e2 (by rw [sB_l q1, sB_l q2]) (by omega) b2 g2 s2 x2
      rw [← ctDo_up hT] at this
      exact this
    · exact hf c q (by rw [sB_l q1, sB_r q2]) _ _ _ x2
  · exact hf c q (by rw [sB_r q1]) _ _ _ x1
theorem l_likes0 {P : KI} (hp : P 0 a r nK) : E G MX0_readLikes (d + 2) C S 30 [.ref T, .ref 2, .int x, .null, .null] [.int (-1)] (a, r, nK) (RI P) :=
  V_X0_readLikes_30 ⟨fun h => absurd rfl h, fun _ => ⟨fun h => absurd rfl h, fun _ => ⟨bz_0, hp⟩⟩⟩
theorem c_readLikes {P : KI} (hr : Rk r) (hT : isCity T) (hB : By a B n) (hx : TXr g n p s k f) (hpn : p ≤ n)
    (hy : ∀ c e, pFields B n 3 nc (a T 1) p = .inl (c, e) → p < e → e ≤ n → ∀ g' s', TXr g' n e s' k f → P 1 (va_up (ctDo a T c) 2 g') r nK)
    (hf : ∀ c q, pFields B n 3 nc (a T 1) p = .inr (c, q) → ∀ g' p' s', TXr g' n p' s' c (nI q) → P 0 (va_up a 2 g') r nK) : Sp G (d + 3) 0 0 MX0_readLikes [.ref T, .ref 2] (va_up a 2 g, r, nK) (RI P) := by
  have e5 : pFields B n 3 nc (a T 1) p = sB (pNum B n 0 (a T 1 - 1) p) fun x => sB (pOther B n x.1 (a T 1) x.2) fun y => sB (pNum B n 0 9 y.2) fun u => .inl ((3, x.1, y.1, u.1, 0), u.2) := rfl
  rw [e5] at hy hf
  have h0 := hT.ne0
  refine V_X0_readLikes_0 ⟨ct0 hT, ctl hT, rfl, by decide, ?_⟩
  rw [up_at h0]
  refine t_num hr hB hx hpn (fun v1 e1 q1 l1 b1 lo1 hi1 g1 s1 x1 => ⟨fun _ => ⟨ct0 hT, ctl hT, ?_⟩, fun h => absurd h (nm0 lo1)⟩) (fun c q q1 g1 p1 s1 x1 => ⟨fun h => absurd rfl h, fun _ => l_likes0 (hf c q (by rw [sB_r q1]) _ _ _ x1)⟩)
  rw [up_at h0]
  refine c_another hr hB x1 b1 (fun v2 e2 q2 l2 b2 lo2 g2 s2 x2 => V_X0_readLikes_30 ⟨fun _ => ⟨rfl, by decide, t_num hr hB x2 b2 (fun v3 e3 q3 l3 b3 lo3 hi3 g3 s3 x3 => ⟨fun _ => ⟨ct0 hT, ctl hT, c_setLiking hr hT ⟨bz_1, ?_⟩⟩, fun h => absurd h (nm0 lo3)⟩) (fun c q q3 g3 p3 s3 x3 => ⟨fun h => absurd rfl h, fun _ => ⟨bz_0, ?_⟩⟩)⟩, fun h => absurd h (nm0 lo2)⟩) (fun c q q2 g2 p2 s2 x2 => l_likes0 (hf c q (by rw [sB_l q1, sB_r q2]) _ _ _ x2))
  · have := hy (3, v1, v2, v3, 0) e3 (by rw [sB_l q1, sB_l q2, sB_l q3]) (by omega) b3 g3 s3 x3
    rw [← ctDo_up hT] at this
    exact this
  · exact hf c q (by rw [sB_l q1, sB_l q2, sB_r q3]) _ _ _ x3
theorem l_lane0 {P : KI} {y : Int32} (hp : P 0 a r nK) : E G MX0_readLane (d + 2) C S 41 [.ref T, .ref 2, .int x, .int y, .null, .null] [.int (-1)] (a, r, nK) (RI P) :=
  V_X0_readLane_41 ⟨fun h => absurd rfl h, fun _ => ⟨fun h => absurd rfl h, fun _ => ⟨bz_0, hp⟩⟩⟩
theorem c_readLane {P : KI} (hr : Rk r) (hT : isCity T) (hB : By a B n) (hx : TXr g n p s k f) (hpn : p ≤ n)
    (hy : ∀ c e, pFields B n 6 nc ns p = .inl (c, e) → p < e → e ≤ n → ∀ g' s', TXr g' n e s' k f → P 1 (va_up (ctDo a T c) 2 g') r nK)
    (hf : ∀ c q, pFields B n 6 nc ns p = .inr (c, q) → ∀ g' p' s', TXr g' n p' s' c (nI q) → P 0 (va_up a 2 g') r nK) : Sp G (d + 2) 0 0 MX0_readLane [.ref T, .ref 2] (va_up a 2 g, r, nK) (RI P) := by
  have e5 : pFields B n 6 nc ns p = sB (pNum B n 0 60 p) fun x => sB (pNum B n 0 60 x.2) fun y => sB (pNum B n 0 9 y.2) fun u => sB (pNum B n 0 9 u.2) fun v => .inl ((6, x.1, y.1, u.1, v.1), v.2) := rfl
  rw [e5] at hy hf
  refine V_X0_readLane_0 ⟨rfl, by decide, t_num hr hB hx hpn (fun v1 e1 q1 l1 b1 lo1 hi1 g1 s1 x1 => ⟨fun _ => ⟨rfl, by decide, t_num hr hB x1 b1 (fun v2 e2 q2 l2 b2 lo2 hi2 g2 s2 x2 => ⟨fun _ => ⟨rfl, by decide, t_num hr hB x2 b2 (fun v3 e3 q3 l3 b3 lo3 hi3 g3 s3 x3 => V_X0_readLane_41 ⟨fun _ => ⟨rfl, by decide, t_num hr hB x3 b3 (fun v4 e4 q4 l4 b4 lo4 hi4 g4 s4 x4 => ⟨fun _ => ⟨ct0 hT, ctl hT, c_setLane hT ⟨bz_1, ?_⟩⟩, fun h => absurd h (nm0 lo4)⟩) (fun c q q4 g4 p4 s4 x4 => ⟨fun h => absurd rfl h, fun _ => ⟨bz_0, ?_⟩⟩)⟩, fun h => absurd h (nm0 lo3)⟩) (fun c q q3 g3 p3 s3 x3 => l_lane0 (hf c q (by rw [sB_l q1, sB_l q2, sB_r q3]) _ _ _ x3))⟩, fun h => absurd h (nm0 lo2)⟩) (fun c q q2 g2 p2 s2 x2 => ⟨fun h => absurd rfl h, fun _ => l_lane0 (hf c q (by rw [sB_l q1, sB_r q2]) _ _ _ x2)⟩)⟩, fun h => absurd h (nm0 lo1)⟩) (fun c q q1 g1 p1 s1 x1 => ⟨fun h => absurd rfl h, fun _ => ⟨fun h => absurd rfl h, fun _ => l_lane0 (hf c q (by rw [sB_r q1]) _ _ _ x1)⟩⟩)⟩
  · have := hy (6, v1, v2, v3, v4) e4 (by rw [sB_l q1, sB_l q2, sB_l q3, sB_l q4]) (by omega) b4 g4 s4 x4
    rw [← ctDo_up hT] at this
    exact this
  · exact hf c q (by rw [sB_l q1, sB_l q2, sB_l q3, sB_r q4]) _ _ _ x4
theorem l_street0 {P : KI} {y : Int32} (hp : P 0 a r nK) : E G MX0_readStreet (d + 2) C S 47 [.ref T, .ref 2, .int x, .int y, .null, .null] [.int (-1)] (a, r, nK) (RI P) :=
  V_X0_readStreet_47 ⟨fun h => absurd rfl h, fun _ => ⟨fun h => absurd rfl h, fun _ => ⟨bz_0, hp⟩⟩⟩
theorem c_readStreet {P : KI} (hr : Rk r) (hT : isCity T) (hB : By a B n) (hx : TXr g n p s k f) (hpn : p ≤ n)
    (hy : ∀ c e, pFields B n 2 (a T 0) ns p = .inl (c, e) → p < e → e ≤ n → ∀ g' s', TXr g' n e s' k f → P 1 (va_up (ctDo a T c) 2 g') r nK)
    (hf : ∀ c q, pFields B n 2 (a T 0) ns p = .inr (c, q) → ∀ g' p' s', TXr g' n p' s' c (nI q) → P 0 (va_up a 2 g') r nK) : Sp G (d + 3) 0 0 MX0_readStreet [.ref T, .ref 2] (va_up a 2 g, r, nK) (RI P) := by
  have e5 : pFields B n 2 (a T 0) ns p = sB (pNum B n 0 (a T 0 - 1) p) fun x => sB (pOther B n x.1 (a T 0) x.2) fun y => sB (pNum B n 1 20 y.2) fun u => sB (pNum B n 0 20 u.2) fun v => .inl ((2, x.1, y.1, u.1, v.1), v.2) := rfl
  rw [e5] at hy hf
  have h0 := hT.ne0
  refine V_X0_readStreet_0 ⟨ct0 hT, ctl hT, rfl, by decide, ?_⟩
  rw [up_at h0]
  refine t_num hr hB hx hpn (fun v1 e1 q1 l1 b1 lo1 hi1 g1 s1 x1 => ⟨fun _ => ⟨ct0 hT, ctl hT, ?_⟩, fun h => absurd h (nm0 lo1)⟩) (fun c q q1 g1 p1 s1 x1 => ⟨fun h => absurd rfl h, fun _ => ⟨fun h => absurd rfl h, fun _ => l_street0 (hf c q (by rw [sB_r q1]) _ _ _ x1)⟩⟩)
  rw [up_at h0]
  refine c_another hr hB x1 b1 (fun v2 e2 q2 l2 b2 lo2 g2 s2 x2 => ⟨fun _ => ⟨rfl, by decide, t_num hr hB x2 b2 (fun v3 e3 q3 l3 b3 lo3 hi3 g3 s3 x3 => V_X0_readStreet_47 ⟨fun _ => ⟨rfl, by decide, t_num hr hB x3 b3 (fun v4 e4 q4 l4 b4 lo4 hi4 g4 s4 x4 => ⟨fun _ => ⟨ct0 hT, ctl hT, c_addStreet hr hT ⟨bz_1, ?_⟩⟩, fun h => absurd h (nm0 lo4)⟩) (fun c q q4 g4 p4 s4 x4 => ⟨fun h => absurd rfl h, fun _ => ⟨bz_0, ?_⟩⟩)⟩, fun h => absurd h (nm1 lo3 (by decide))⟩) (fun c q q3 g3 p3 s3 x3 => l_street0 (hf c q (by rw [sB_l q1, sB_l q2, sB_r q3]) _ _ _ x3))⟩, fun h => absurd h (nm0 lo2)⟩) (fun c q q2 g2 p2 s2 x2 => ⟨fun h => absurd rfl h, fun _ => l_street0 (hf c q (by rw [sB_l q1, sB_r q2]) _ _ _ x2)⟩)
  · have := hy (2, v1, v2, v3, v4) e4 (by rw [sB_l q1, sB_l q2, sB_l q3, sB_l q4]) (by omega) b4 g4 s4 x4
    rw [← ctDo_up hT] at this
    exact this
  · exact hf c q (by rw [sB_l q1, sB_l q2, sB_l q3, sB_r q4]) _ _ _ x4
end RC
