/-! The reference: mates, look, right -/
def RPw (a : IA) (ml : List Ln) : Prop := a 60 38 = nI ml.length ∧ ml.length ≤ 8 ∧ ∀ (i : Nat) (v : Ln), ml[i]? = some v → a (481 + 1 + i) 0 = v.1 ∧ a (481 + 1 + i) 1 = v.2
def mPosted (a : IA) (ml : List Ln) (s : Nat) (how : Int32) : Bool := ml.all (fun v => decide (mHouse a s v.1 how = v.2))
def mMates (a : IA) (lw : List Int32) (ml : List Ln) (ns s : Nat) (how : Int32) : Int32 := if mPosted a ml s how = true then (if how = 0 then 1 else bitsLo (fun t => decide ((if how = 1 then mBan a 582 lw s t else mBan a 582 lw t s) = 0)) ns 0 0) else 0
def mOnes (x : Int32) : Int32 := sI (fun k => (x >>> (nI k &&& 31)) &&& 1) 8
def mMatV (a : IA) (lw : List Int32) (ml : List Ln) (ns s : Nat) (w : Int32) : Int32 := if w = 0 then mOnes (mMates a lw ml ns s 0) + mOnes (mMates a lw ml ns s 1) + mOnes (mMates a lw ml ns s 2) else if w = 3 then mMates a lw ml ns s 0 else mMates a lw ml ns s w
def mRgt (a : IA) (s : Nat) : List Ln → Nat
  | [] => 0
  | v :: l => if mHouse a s v.1 (mHow a s) = v.2 then mRgt a s l + 1 else 0
def hN (a : IA) (s n how : Nat) : Nat := (mHouse a s (nI n) (nI how)).toNatClampNeg
def mComes (a : IA) (lw : List Int32) (ml : List Ln) (ns s n : Nat) : Nat → Int32 := lpM (fun how f => upd f (hN a s n how) (f (hN a s n how) + mOnes (mMates a lw ml ns s (nI how)))) 3 0 (fun _ => 0)
def mWorst (f : Nat → Int32) : Int32 := lpM (fun h w => if w ≤ f h then f h else w) 21 0 0
def mLkS (a : IA) (lw : List Int32) (ml : List Ln) (ns s n : Nat) (x : Int32 × Int32) : Int32 × Int32 := if hasN ml (nI n) = true ∨ (¬ x.1 = -1 ∧ ¬ mWorst (mComes a lw ml ns s n) < x.2) then x else (nI n, mWorst (mComes a lw ml ns s n))
def mLkX (a : IA) (lw : List Int32) (ml : List Ln) (ns s : Nat) : Int32 × Int32 := lpM (mLkS a lw ml ns s) 40 1 (-1, -1)
theorem mHouse_cg {a a' : IA} {s : Nat} {k how : Int32} (e : a' (96 + 1 + s) = a (96 + 1 + s)) : mHouse a' s k how = mHouse a s k how := by unfold mHouse; rw [e]
section MMT
variable {G : GE} {d C S : Nat} {a b : IA} {r : RA} {nc ns ng s : Nat} {lw : List Int32} {ml : List Ln} {x y w how : Int32}
theorem RPw.cg {a' : IA} (h : RPw a ml) (e : ∀ q, q ≠ 499 → q ≠ 500 → q ≠ 876 → a' q = a q) : RPw a' ml := by
  refine ⟨by rw [e 60 (by decide) (by decide) (by decide)]; exact h.1, h.2.1, fun i v hi => ?_⟩
  have := (List.getElem?_eq_some_iff.mp hi).1
  have := h.2.1
  rw [e _ (by omega) (by omega) (by omega)]
  exact h.2.2 i v hi
theorem c_mPosted {P : KI} (hr : Rk r) (hm : RPw a ml) (hs : s < 8) (hp : P (if mPosted a ml s how then 1 else 0) a r nK) : Sp G (d + 1) 0 0 MX12_isPosted [.ref 60, .int (nI s), .int how] (a, r, nK) (RI P) := by
  obtain ⟨h38, h8, hrow⟩ := hm
  have r27 : r 60 27 = .ref 481 := rf5 hr (by decide) rfl
  have loop : ∀ (u k : Nat), k + u = ml.length → (ml.drop k).all (fun v => decide (mHouse a s v.1 how = v.2)) = mPosted a ml s how → E G MX12_isPosted (d + 1) 0 0 2 [.ref 60, .int (nI s), .int how, .int (nI k)] [] (a, r, nK) (RI P) := by
    intro u
    induction u with
    | zero =>
      intro k hk he
      rw [List.drop_eq_nil_of_le (by omega)] at he
      rw [← he] at hp
      exact V_X12_isPosted_2 ⟨rfl, by decide, fun _ => ⟨bz_1, hp⟩, fun e => absurd (by rw [h38]; exact nI_le (by omega) (by omega)) e⟩
    | succ u ih =>
      intro k hk he
      have hkl : k < ml.length := by omega
      rw [List.drop_eq_getElem_cons hkl, List.all_cons] at he
      have hrk := hrow k _ (List.getElem?_eq_getElem hkl)
      generalize ml[k] = v at he hrk
      have vk : vp_in (nI k) 8 := vp_in_nI (by omega) (by decide)
      have ty := tyR_post k (by omega)
      have bd : 481 + 1 + k < nK := by show _ < 878; omega
      refine V_X12_isPosted_2 ⟨rfl, by decide, fun e => absurd (by rw [h38] at e; exact (nI_leI (by omega) (by omega)).mp e) (by omega), fun _ => ⟨rfl, by decide, 481, r27, rfl, by decide, vk, ?_⟩⟩
      simp only [nI_clamp (show k < 2 ^ 31 by omega), z0, z1]
      rw [hrk.1]
      refine row3 ty bd (vp_in_nI (show 0 < 2 by decide) (by decide)) ⟨rfl, by decide, c_mHouse hr hs ⟨rfl, by decide, 481, r27, rfl, by decide, vk, row3 ty bd (vp_in_nI (show 1 < 2 by decide) (by decide)) ⟨fun e => ?_, fun e => ⟨bz_0, ?_⟩⟩⟩⟩
      · rw [hrk.2] at e
        rw [decide_eq_true e, Bool.true_and] at he
        rw [nI_1]; exact ih (k + 1) (by omega) he
      · rw [hrk.2] at e
        rw [decide_eq_false e, Bool.false_and] at he
        rw [← he] at hp
        exact hp
  exact V_X12_isPosted_0 (loop ml.length 0 (by omega) rfl)
theorem c_mMatesOf {P : KI} (hr : Rk r) (hq : MqH a nc ns ng lw) (hm : RPw a ml) (hs : s < ns) (hw : how = 0 ∨ how = 1 ∨ how = 2) (hp : ∀ a', mQ5 a a' → P (mMates a lw ml ns s how) a' r nK) : Sp G (d + 4) 0 0 MX12_matesOf [.ref 60, .int (nI s), .int how] (a, r, nK) (RI P) := by
  obtain ⟨hc, hl, h150, hd, hwf, hh⟩ := hq
  have h8 := hc.2.2.2.1
  have r64 : r 60 12 = .ref 64 := rf5 hr (by decide) rfl
  have r33 : r 60 33 = .ref 582 := rf5 hr (by decide) rfl
  unfold mMates at hp
  have loop : ¬ how = 0 → (∀ a', mQ5 a a' → P (bitsLo (fun t => decide ((if how = 1 then mBan a 582 lw s t else mBan a 582 lw t s) = 0)) ns 0 0) a' r nK) → ∀ (u k : Nat) (z : Int32) (h : IA), k + u = ns → mQ5 a h → bitsLo (fun t => decide ((if how = 1 then mBan a 582 lw s t else mBan a 582 lw t s) = 0)) u k z = bitsLo (fun t => decide ((if how = 1 then mBan a 582 lw s t else mBan a 582 lw t s) = 0)) ns 0 0 →
      E G MX12_matesOf (d + 4) 0 0 22 [.ref 60, .int (nI s), .int how, .int z, .int (nI k)] [] (h, r, nK) (RI P) := by
    intro h0 hp u
    induction u with
    | zero =>
      intro k z h hk hx he
      have := hp h hx
      rw [← he] at this
      refine V_X12_matesOf_22 ⟨rfl, by decide, 64, r64, rfl, by decide, vp_in_nI (show 1 < 8 by decide) (by decide), fun _ => this, fun e => absurd ?_ e⟩
      rw [z1, (hc.q5 hx).2.2.1]; exact nI_le (by omega) (by omega)
    | succ u ih =>
      intro k z h hk hx he
      rw [bitsLo] at he
      have en : h 582 = a 582 := hx 582 (by decide) (by decide)
      have cg : ∀ i j, i < ns → j < ns → mBan h 582 lw i j = mBan a 582 lw i j := fun i j hi hj => mBan_cg hc (fun c hc' => hx c (by omega) (by omega)) en hi hj
      refine V_X12_matesOf_22 ⟨rfl, by decide, 64, r64, rfl, by decide, vp_in_nI (show 1 < 8 by decide) (by decide), fun e => absurd ?_ (show ¬ ns ≤ k by omega), fun _ => ⟨fun h1 => ⟨rfl, by decide, 582, r33, rfl, by decide, c_mBanns hr (hc.q5 hx) (hl.q5 h150 hx) h150 hd rfl (by decide) (by decide) (by decide) (show k < ns by omega) hs (fun h2 m2 => ?_)⟩, fun h1 => ⟨rfl, by decide, 582, r33, rfl, by decide, c_mBanns hr (hc.q5 hx) (hl.q5 h150 hx) h150 hd rfl (by decide) (by decide) (by decide) hs (show k < ns by omega) (fun h2 m2 => ?_)⟩⟩⟩
      · rw [z1, (hc.q5 hx).2.2.1] at e; exact (nI_leI (by omega) (by omega)).mp e
      · rw [cg k s (by omega) hs, nI_1]
        simp only [if_neg h1] at he
        refine ⟨fun e => ?_, fun e => ?_⟩
        · rw [if_neg (by rw [decide_eq_true_eq]; exact e)] at he
          rw [Int32.or_zero]
          exact ih (k + 1) z h2 (by omega) (mQ5_tr hx m2) (by simp only [if_neg h1]; exact he)
        · rw [if_pos (decide_eq_true e)] at he
          exact ih (k + 1) _ h2 (by omega) (mQ5_tr hx m2) (by simp only [if_neg h1]; exact he)
      · rw [cg s k hs (by omega), nI_1]
        simp only [if_pos h1] at he
        refine ⟨fun e => ?_, fun e => ?_⟩
        · rw [if_neg (by rw [decide_eq_true_eq]; exact e)] at he
          rw [Int32.or_zero]
          exact ih (k + 1) z h2 (by omega) (mQ5_tr hx m2) (by simp only [if_pos h1]; exact he)
        · rw [if_pos (decide_eq_true e)] at he
          exact ih (k + 1) _ h2 (by omega) (mQ5_tr hx m2) (by simp only [if_pos h1]; exact he)
  refine V_X12_matesOf_0 ⟨rfl, by decide, c_mPosted hr hm (by omega) ?_⟩
  cases hb : mPosted a ml s how with
  | false =>
    rw [hb] at hp
    exact ⟨fun e => absurd rfl e, fun _ => hp a mQ5_rf⟩
  | true =>
    rw [hb] at hp
    simp only [if_true] at hp
    refine ⟨fun _ => ⟨fun h0 => ?_, fun h0 => ?_⟩, fun e => absurd e (by decide)⟩
    · rw [if_neg h0] at hp
      exact loop h0 hp ns 0 0 a (by omega) mQ5_rf rfl
    · rw [if_pos h0] at hp
      exact hp a mQ5_rf
theorem c_mOnes {N : Nat} {P : KI} (hp : P (mOnes x) a r N) : Sp G d 0 0 MX12_ones [.int x] (a, r, N) (RI P) := by
  have loop : ∀ (u k : Nat), k + u = 8 → E G MX12_ones d 0 0 4 [.int x, .int (sI (fun k => (x >>> (nI k &&& 31)) &&& 1) k), .int (nI k)] [] (a, r, N) (RI P) := by
    intro u
    induction u with
    | zero =>
      intro k hk
      obtain rfl : k = 8 := by omega
      exact V_X12_ones_4 ⟨fun _ => hp, fun e => absurd (by decide) e⟩
    | succ u ih =>
      intro k hk
      have := ih (k + 1) (by omega)
      rw [sI] at this
      refine V_X12_ones_4 ⟨fun e => absurd ((nI_leI (a := 8) (by decide) (by omega)).mp e) (by omega), fun _ => ?_⟩
      rw [nI_1]; exact this
  exact V_X12_ones_0 (loop 8 0 (by omega))
theorem MqH.q5 {a' : IA} (h : MqH a nc ns ng lw) (e : mQ5 a a') : MqH a' nc ns ng lw := by
  obtain ⟨hc, hl, h150, hd, hwf, hh⟩ := h
  have h8 := hc.2.2.2.1
  exact ⟨hc.q5 e, hl.q5 h150 e, h150, hd, by rw [e 582 (by decide) (by decide)]; exact hwf, fun s hs => by rw [e _ (by omega) (by omega)]; exact hh s hs⟩
theorem bitsLo_cg {p p' : Nat → Bool} : ∀ (u k : Nat) (z : Int32), (∀ i, k ≤ i → i < k + u → p i = p' i) → bitsLo p u k z = bitsLo p' u k z
  | 0, _, _, _ => rfl
  | u + 1, k, z, h => by
    rw [bitsLo, bitsLo, h k (Nat.le_refl _) (by omega)]
    exact bitsLo_cg u (k + 1) _ (fun i h1 h2 => h i (by omega) (by omega))
theorem mPosted_cg {a' : IA} (e : a' (96 + 1 + s) = a (96 + 1 + s)) : mPosted a' ml s how = mPosted a ml s how := by
  unfold mPosted
  have : (fun v : Ln => decide (mHouse a' s v.1 how = v.2)) = (fun v : Ln => decide (mHouse a s v.1 how = v.2)) := by
    funext v
    rw [mHouse_cg e]
  rw [this]
theorem mMates_cg {a' : IA} (hc : MtC a nc ns ng) (e : ∀ q, q ≠ 499 → q ≠ 500 → q ≠ 876 → a' q = a q) (hs : s < ns) : mMates a' lw ml ns s how = mMates a lw ml ns s how := by
  have h8 := hc.2.2.2.1
  have cg : ∀ i j, i < ns → j < ns → mBan a' 582 lw i j = mBan a 582 lw i j := fun i j hi hj => mBan_cg hc (fun c hc' => e c (by omega) (by omega) (by omega)) (e 582 (by omega) (by omega) (by omega)) hi hj
  have e2 := bitsLo_cg (p := fun t => decide ((if how = 1 then mBan a' 582 lw s t else mBan a' 582 lw t s) = 0)) (p' := fun t => decide ((if how = 1 then mBan a 582 lw s t else mBan a 582 lw t s) = 0)) ns 0 0 (fun i _ hi => by
    have h1 := cg s i hs (by omega)
    have h2 := cg i s (by omega) hs
    show decide ((if how = 1 then mBan a' 582 lw s i else mBan a' 582 lw i s) = 0) = decide ((if how = 1 then mBan a 582 lw s i else mBan a 582 lw i s) = 0)
    rw [h1, h2])
  have e1 : mPosted a' ml s how = mPosted a ml s how := mPosted_cg (e _ (by omega) (by omega) (by omega))
  unfold mMates
  rw [e1]
  by_cases hP : mPosted a ml s how = true
  · rw [if_pos hP, if_pos hP]
    by_cases h0 : how = 0
    · rw [if_pos h0, if_pos h0]
    · rw [if_neg h0, if_neg h0]
      exact e2
  · rw [if_neg hP, if_neg hP]
theorem c_mMatesF {P : KI} (hr : Rk r) (hq : MqH a nc ns ng lw) (hm : RPw a ml) (hno : (¬ ∃ s, s < ns ∧ x = nI s) → P 0 (mBd a 1 1) r nK) (hno2 : (∃ s, s < ns ∧ x = nI s) → ¬ inT y 0 3 → P 0 (mBd a 2 2) r nK)
    (hy : ∀ s, s < ns → x = nI s → inT y 0 3 → ∀ a', mQ5 (u2 a 60 0 0) a' → P (mMatV (u2 a 60 0 0) lw ml ns s y) a' r nK) : Sp G (d + 5) 0 0 MX12_mates [.ref 60, .int x, .int y] (a, r, nK) (RI P) := by
  have hqz := hq.z
  have hmz : RPw (u2 a 60 0 0) ml := ⟨by rw [u2_ne (by decide)]; exact hm.1, hm.2.1, fun i v hi => by rw [u2_off _ (by omega)]; exact hm.2.2 i v hi⟩
  have hc := hqz.1
  have h8 := hc.2.2.2.1
  refine V_X12_mates_0 ⟨rfl, by decide, fun a1 q1 => ⟨rfl, by decide, ?_⟩⟩
  subst q1
  refine c_mIsStr hr hc.2.2.1 h8 (fun s hs e => ⟨fun _ => ⟨rfl, by decide, bad0z ⟨fun h => absurd rfl h, fun _ => c_mIn (fun hin => ⟨fun _ => V_X12_mates_42 ⟨rfl, by decide, bad0z ⟨fun _ => ?_, fun h => absurd rfl h⟩⟩, fun h => absurd h (by decide)⟩) (fun hin => ⟨fun h => absurd rfl h, fun _ => V_X12_mates_42 ⟨rfl, by decide, bad1z (i := 2) hr (by decide) (by decide) ⟨fun h => absurd h (by decide), fun _ => hno2 ⟨s, hs, e⟩ hin⟩⟩⟩)⟩⟩, fun h => absurd h (by decide)⟩) (fun hn => ⟨fun h => absurd rfl h, fun _ => ⟨rfl, by decide, bad1z (i := 1) hr (by decide) (by decide) ⟨fun _ => hno hn, fun h => absurd h (by decide)⟩⟩⟩)
  have hp := hy s hs e hin
  subst e
  generalize u2 a 60 0 0 = b at *
  unfold mMatV at hp
  have m876 : ∀ {h : IA}, mQ5 b h → ∀ q, q ≠ 499 → q ≠ 500 → q ≠ 876 → h q = b q := fun m q c1 c2 _ => m q c1 c2
  have mo : ∀ (h : IA) (how : Int32) (Q : KI), mQ5 b h → (how = 0 ∨ how = 1 ∨ how = 2) → (∀ h', mQ5 b h' → Q (mMates b lw ml ns s how) h' r nK) → Sp G (d + 4) 0 0 MX12_matesOf [.ref 60, .int (nI s), .int how] (h, r, nK) (RI Q) := by
    intro h how Q hx hw hQ
    refine c_mMatesOf hr (hqz.q5 hx) (hmz.cg (m876 hx)) hs hw (fun h' m' => ?_)
    rw [mMates_cg hc (m876 hx) hs]
    exact hQ h' (mQ5_tr hx m')
  refine ⟨fun h0 => ⟨fun h3 => ⟨rfl, by decide, mo b y _ mQ5_rf ?_ (fun h' m' => ?_)⟩, fun h3 => ⟨rfl, by decide, mo b 0 _ mQ5_rf (Or.inl rfl) (fun h' m' => ?_)⟩⟩, fun h0 => ⟨rfl, by decide, mo b 0 _ mQ5_rf (Or.inl rfl) (fun h' m' => c_mOnes ⟨rfl, by decide, mo h' 1 _ m' (Or.inr (Or.inl rfl)) (fun h2 m2 => c_mOnes ⟨rfl, by decide, mo h2 2 _ m2 (Or.inr (Or.inr rfl)) (fun h3 m3 => c_mOnes ?_)⟩)⟩)⟩⟩
  · obtain ⟨i, hi, e⟩ := nI_of2 (M := 3) (n := 3) (by decide) hin.1 (i_nlt.mp hin.2)
    subst e
    have : i = 0 ∨ i = 1 ∨ i = 2 ∨ i = 3 := by omega
    rcases this with rfl | rfl | rfl | rfl
    · exact Or.inl rfl
    · exact Or.inr (Or.inl rfl)
    · exact Or.inr (Or.inr rfl)
    · exact absurd rfl h3
  · have := hp h' m'
    rw [if_neg h0, if_neg h3] at this
    exact this
  · have := hp h' m'
    rw [if_neg h0, if_pos h3] at this
    exact this
  · have := hp h3 m3
    rw [if_pos h0] at this
    exact this
theorem c_mRightF {P : KI} (hr : Rk r) (h8 : ns ≤ 8) (h1 : a 64 1 = nI ns) (hm : RPw a ml) (hno : (¬ ∃ s, s < ns ∧ x = nI s) → P 0 (mBd a 1 1) r nK) (hy : ∀ s, s < ns → x = nI s → P (nI (mRgt (u2 a 60 0 0) s ml)) (u2 a 60 0 0) r nK) : Sp G (d + 2) 0 0 MX12_right [.ref 60, .int x] (a, r, nK) (RI P) := by
  have h1' : u2 a 60 0 0 64 1 = nI ns := by rw [u2_off 64 (by decide)]; exact h1
  have hmz : RPw (u2 a 60 0 0) ml := ⟨by rw [u2_ne (by decide)]; exact hm.1, hm.2.1, fun i v hi => by rw [u2_off _ (by omega)]; exact hm.2.2 i v hi⟩
  have r27 : r 60 27 = .ref 481 := rf5 hr (by decide) rfl
  refine V_X12_right_0 ⟨rfl, by decide, fun a1 q1 => ⟨rfl, by decide, ?_⟩⟩
  subst q1
  refine c_mIsStr hr h1' h8 (fun s hs e => ⟨fun _ => ⟨rfl, by decide, bad0z ⟨fun _ => ?_, fun h => absurd rfl h⟩⟩, fun h => absurd h (by decide)⟩) (fun hn => ⟨fun h => absurd rfl h, fun _ => ⟨rfl, by decide, bad1z (i := 1) hr (by decide) (by decide) ⟨fun h => absurd h (by decide), fun _ => hno hn⟩⟩⟩)
  have hp := hy s hs e
  subst e
  generalize u2 a 60 0 0 = b at *
  obtain ⟨h38, hm8, hrow⟩ := hmz
  have loop : ∀ (u k : Nat), k + u = ml.length → k + mRgt b s (ml.drop k) = mRgt b s ml → E G MX12_right (d + 2) 0 0 31 [.ref 60, .int (nI s), .int (nI k)] [] (b, r, nK) (RI P) := by
    intro u
    induction u with
    | zero =>
      intro k hk he
      rw [List.drop_eq_nil_of_le (by omega), mRgt, Nat.add_zero] at he
      rw [← he] at hp
      exact V_X12_right_31 ⟨rfl, by decide, fun _ => hp, fun e => absurd (by rw [h38]; exact nI_le (by omega) (by omega)) e⟩
    | succ u ih =>
      intro k hk he
      have hkl : k < ml.length := by omega
      rw [List.drop_eq_getElem_cons hkl, mRgt] at he
      have hrk := hrow k _ (List.getElem?_eq_getElem hkl)
      generalize ml[k] = v at he hrk
      have vk : vp_in (nI k) 8 := vp_in_nI (by omega) (by decide)
      have ty := tyR_post k (by omega)
      have bd : 481 + 1 + k < nK := by show _ < 878; omega
      refine V_X12_right_31 ⟨rfl, by decide, fun e => absurd (by rw [h38] at e; exact (nI_leI (by omega) (by omega)).mp e) (show ¬ ml.length ≤ k by omega), fun _ => ⟨rfl, by decide, 481, r27, rfl, by decide, vk, ?_⟩⟩
      simp only [nI_clamp (show k < 2 ^ 31 by omega), z0, z1]
      rw [hrk.1]
      refine row3 ty bd (vp_in_nI (show 0 < 2 by decide) (by decide)) ⟨rfl, by decide, c_mHow hr (by omega) ⟨rfl, by decide, c_mHouse hr (by omega) ⟨rfl, by decide, 481, r27, rfl, by decide, vk, row3 ty bd (vp_in_nI (show 1 < 2 by decide) (by decide)) ⟨fun e => ?_, fun e => ?_⟩⟩⟩⟩
      · rw [hrk.2] at e
        rw [if_neg e, Nat.add_zero] at he
        rw [← he] at hp
        exact hp
      · rw [hrk.2] at e
        rw [if_pos e] at he
        rw [nI_1]; exact ih (k + 1) (by omega) (by omega)
  exact loop ml.length 0 (by omega) (by rw [Nat.zero_add]; rfl)
end MMT
