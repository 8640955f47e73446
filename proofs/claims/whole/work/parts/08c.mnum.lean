/-! The reference: numbers, words, start and end of a text -/
/-- the reference stands at p of a text of n bytes, no fault -/
def MT (a : IA) (B : Nat → Int32) (n p : Nat) : Prop := MB a B n ∧ a 60 2 = nI n ∧ a 60 4 = nI p ∧ p ≤ n ∧ a 60 5 = 0
def mAt (a : IA) (p : Nat) : IA := u2 a 60 4 (nI p)
/-- a fault k at f, found when the reference stood at q -/
def mFa (a : IA) (q : Nat) (k : Int32) (f : Nat) : IA := u2 (u2 (u2 a 60 4 (nI q)) 60 5 k) 60 6 (nI f)
theorem MB.row {a a' : IA} {B : Nat → Int32} {n : Nat} (h : MB a B n) (e : a' 61 = a 61) : MB a' B n := ⟨h.1, fun i hi => by rw [e]; exact h.2 i hi⟩
theorem MT.row {a a' : IA} {B : Nat → Int32} {n p : Nat} (h : MT a B n p) (e : a' 61 = a 61) (e2 : a' 60 2 = a 60 2) (e4 : a' 60 4 = a 60 4) (e5 : a' 60 5 = a 60 5) : MT a' B n p :=
  ⟨h.1.row e, e2.trans h.2.1, e4.trans h.2.2.1, h.2.2.2.1, e5.trans h.2.2.2.2⟩
theorem MT.at {a : IA} {B : Nat → Int32} {n p q : Nat} (h : MT a B n p) (hq : q ≤ n) : MT (u2 a 60 4 (nI q)) B n q :=
  ⟨h.1.row (u2_off 61 (by decide)), by rw [u2_ne (by decide)]; exact h.2.1, u2_eq, hq, by rw [u2_ne (by decide)]; exact h.2.2.2.2⟩
theorem mWr_0 {a : IA} {x y : Int32} (h : a 60 5 = 0) : mWr a x y = u2 (u2 a 60 5 x) 60 6 y := if_pos h
theorem mWr_1 {a : IA} {x y : Int32} (h : ¬ a 60 5 = 0) : mWr a x y = a := if_neg h
theorem nAdd_eq (v b : Int32) : (if 10 * v + b - 48 ≤ 100000 then 10 * v + b - 48 else 100000) = nAdd v b := by
  unfold nAdd
  rw [Int32.mul_comm 10 v]
  generalize v * 10 + b - 48 = x
  by_cases h : x < 100000
  · rw [if_pos h, if_pos (Int32.le_of_lt h)]
  · rw [if_neg h]
    by_cases h2 : x ≤ 100000
    · rw [if_pos h2]
      have := Int32.lt_iff_toInt_lt (x := x) (y := 100000)
      have h3 := Int32.le_iff_toInt_le (x := x) (y := 100000)
      apply Int32.toInt_inj.mp
      have h4 : ¬ x.toInt < (100000 : Int32).toInt := fun e => h (this.mpr e)
      have h5 := h3.mp h2
      omega
    · rw [if_neg h2]
theorem skB_skB {B : Nat → Int32} {n p : Nat} (h : p ≤ n) : skB B n (skB B n p) = skB B n p := by
  have l := skB_le (B := B) h
  rcases Nat.lt_or_ge (skB B n p) n with h2 | h2
  · exact run_stop (run_at h2)
  · exact run_end h2
section MN
variable {G : GE} {d C S : Nat} {a : IA} {r : RA} {N n p i : Nat} {B : Nat → Int32} {x y z : Int32}
theorem l_mNum {P : KI} {lo hi b : Int32} (hr : Rk r) : ∀ (m p : Nat) (a : IA) (v : Int32), MB a B n → a 60 2 = nI n → a 60 4 = nI p → p + m = n →
    (inT (nVal B (dgE B n p - p) p v) lo hi → a 60 5 = 0 → P (nVal B (dgE B n p - p) p v) (mAt a (dgE B n p)) r nK) →
    (inT (nVal B (dgE B n p - p) p v) lo hi → ¬ a 60 5 = 0 → P 0 (mAt a (dgE B n p)) r nK) →
    (¬ inT (nVal B (dgE B n p - p) p v) lo hi → P 0 (mWr (mAt a (dgE B n p)) 2 b) r nK) →
    E G MX12_numberHere (d + 1) C S 44 [.ref 60, .int lo, .int hi, .int b, .int v] [] (a, r, nK) (RI P) := by
  intro m
  induction m with
  | zero =>
    intro p a v hB h2 h4 hpn hy hq hf
    have hn := hB.1
    have e : dgE B n p = p := run_end (by omega)
    have e1 : mAt a p = a := u2_set h4
    rw [e, Nat.sub_self, e1] at hy hq hf
    refine V_X12_numberHere_44 ⟨rfl, by decide, rfl, by decide, ?_⟩
    rw [h4]
    refine c_mByteAt hr hB h2 (by omega) ?_
    unfold bAt
    rw [if_neg (by omega)]
    refine c_mDigit ⟨fun _ => ?_, fun h => absurd h (by decide)⟩
    refine c_mIn (fun h => ⟨fun _ => ⟨rfl, by decide, fun h5 => hq h h5, fun h5 => hy h h5⟩, fun e => absurd e (by decide)⟩) (fun h => ⟨fun e => absurd rfl e, fun _ => ⟨rfl, by decide, c_mWrong ⟨rfl, by decide, fun _ => hf h, fun h5 => absurd h5 ?_⟩⟩⟩)
    by_cases h6 : a 60 5 = 0
    · rw [mWr_0 h6, u2_ne (by decide), u2_eq]; decide
    · rw [mWr_1 h6]; exact h6
  | succ m ih =>
    intro p a v hB h2 h4 hpn hy hq hf
    have hn := hB.1
    refine V_X12_numberHere_44 ⟨rfl, by decide, rfl, by decide, ?_⟩
    rw [h4]
    refine c_mByteAt hr hB h2 (by omega) ?_
    have e0 : bAt B n p = B p := if_pos (by omega)
    rw [e0]
    refine c_mDigit ?_
    cases hL : isD (B p) with
    | false =>
      have e : dgE B n p = p := run_stop hL
      have e1 : mAt a p = a := u2_set h4
      rw [e, Nat.sub_self, e1] at hy hq hf
      refine ⟨fun _ => ?_, fun h => absurd rfl h⟩
      refine c_mIn (fun h => ⟨fun _ => ⟨rfl, by decide, fun h5 => hq h h5, fun h5 => hy h h5⟩, fun e => absurd e (by decide)⟩) (fun h => ⟨fun e => absurd rfl e, fun _ => ⟨rfl, by decide, c_mWrong ⟨rfl, by decide, fun _ => hf h, fun h5 => absurd h5 ?_⟩⟩⟩)
      by_cases h6 : a 60 5 = 0
      · rw [mWr_0 h6, u2_ne (by decide), u2_eq]; decide
      · rw [mWr_1 h6]; exact h6
    | true =>
      have e : dgE B n p = dgE B n (p + 1) := run_go (by omega) hL
      have hle := run_le (p := fun j => isD (B j)) (n := n) (i := p + 1) (by omega)
      have hle : p + 1 ≤ dgE B n (p + 1) := hle.1
      obtain ⟨t, ht⟩ : ∃ t, dgE B n (p + 1) - p = t + 1 := ⟨dgE B n (p + 1) - p - 1, by omega⟩
      have ht2 : dgE B n (p + 1) - (p + 1) = t := by omega
      rw [e, ht, nVal, ← ht2] at hy hq hf
      refine ⟨fun h => absurd h (by decide), fun _ => ⟨rfl, by decide, rfl, by decide, ?_⟩⟩
      rw [h4]
      refine c_mByteAt hr hB h2 (by omega) ?_
      rw [e0]
      have go : ∀ (a' : IA) (w : Int32), a' = u2 a 60 4 (a 60 4 + 1) → w = nAdd v (B p) → E G MX12_numberHere (d + 1) C S 44 [.ref 60, .int lo, .int hi, .int b, .int w] [] (a', r, nK) (RI P) := by
        intro a' w h5 hw
        rw [h4, nI_1] at h5
        subst h5 hw
        have e3 : ∀ q, mAt (u2 a 60 4 (nI (p + 1))) q = mAt a q := fun q => u2_u2
        have e5 : u2 a 60 4 (nI (p + 1)) 60 5 = a 60 5 := u2_ne (by decide)
        refine ih (p + 1) _ _ (hB.row (u2_off 61 (by decide))) (by rw [u2_ne (by decide)]; exact h2) u2_eq (by omega) ?_ ?_ ?_
        · rw [e3, e5]; exact hy
        · rw [e3, e5]; exact hq
        · rw [e3]; exact hf
      have hw := nAdd_eq v (B p)
      refine ⟨fun h => ⟨rfl, by decide, rfl, by decide, fun a' h5 => go a' _ h5 ?_⟩, fun h => ⟨rfl, by decide, rfl, by decide, fun a' h5 => go a' _ h5 ?_⟩⟩
      · rw [if_pos h] at hw; exact hw
      · rw [if_neg h] at hw; exact hw
theorem c_mNum {P : KI} {lo hi : Int32} (hr : Rk r) (hT : MT a B n p)
    (hy : ∀ v e, pNum B n lo hi p = .inl (v, e) → e ≤ n → P v (mAt a e) r nK) (hf : ∀ k f q, pNum B n lo hi p = .inr (k, f) → ¬ k = 0 → q ≤ n → P 0 (mFa a q k f) r nK) : Sp G (d + 2) 0 0 MX12_numberHere [.ref 60, .int lo, .int hi] (a, r, nK) (RI P) := by
  obtain ⟨hB, h2, h4, hpn, h5⟩ := hT
  have hn := hB.1
  have l1 : p ≤ skB B n p ∧ skB B n p ≤ n := run_le hpn
  unfold pNum at hy hf
  unfold nAt at hy hf
  refine V_X12_numberHere_0 ⟨rfl, by decide, fun _ => ⟨rfl, by decide, c_mBlanks hr hB h2 h4 hpn ⟨rfl, by decide, rfl, by decide, ?_⟩⟩, fun h => absurd h5 h⟩
  generalize skB B n p = s at *
  have hB1 : MB (u2 a 60 4 (nI s)) B n := hB.row (u2_off 61 (by decide))
  have h21 : u2 a 60 4 (nI s) 60 2 = nI n := by rw [u2_ne (by decide)]; exact h2
  rw [u2_eq]
  have l2 : s ≤ dgE B n s ∧ dgE B n s ≤ n := run_le l1.2
  refine ⟨rfl, by decide, c_mByteAt (B := B) (i := s) hr hB1 h21 (by omega) (c_mDigit ?_)⟩
  cases hD : isD (bAt B n s) with
  | true =>
    have hs : s < n := by
      rcases Nat.lt_or_ge s n with h | h
      · exact h
      · unfold bAt at hD; rw [if_neg (by omega)] at hD; exact absurd hD (by decide)
    have e0 : bAt B n s = B s := if_pos hs
    rw [e0] at hD
    have e : dgE B n s = dgE B n (s + 1) := run_go hs hD
    have l3 : s + 1 ≤ dgE B n (s + 1) ∧ dgE B n (s + 1) ≤ n := run_le (by omega)
    have ne : ¬ s = dgE B n s := by omega
    rw [if_neg ne] at hy hf
    refine ⟨fun _ => ?_, fun h => absurd h (by decide)⟩
    have e3 : ∀ q, mAt (u2 a 60 4 (nI s)) q = mAt a q := fun q => u2_u2
    refine l_mNum hr (n - s) s _ 0 hB1 h21 u2_eq (by omega) (fun h _ => ?_) (fun _ h => absurd (by rw [u2_ne (by decide)]; exact h5) h) (fun h => ?_)
    · rw [e3]
      exact hy _ _ (by rw [if_pos ⟨i_nlt.mp h.1, i_nlt.mp h.2⟩]) l2.2
    · rw [e3, mWr_0 (by show u2 a 60 4 _ 60 5 = 0; rw [u2_ne (by decide)]; exact h5)]
      exact hf 2 s (dgE B n s) (by rw [if_neg (fun e => h ⟨i_nlt.mpr e.1, i_nlt.mpr e.2⟩)]) (by decide) l2.2
  | false =>
    have e : dgE B n s = s := by
      rcases Nat.lt_or_ge s n with h | h
      · exact run_stop (by rw [← show bAt B n s = B s from if_pos h]; exact hD)
      · exact run_end (by omega)
    rw [if_pos e.symm] at hf
    refine ⟨fun h => absurd rfl h, fun _ => ⟨rfl, by decide, rfl, by decide, c_mWrong ?_⟩⟩
    have e5 : u2 a 60 4 (nI s) 60 5 = 0 := by rw [u2_ne (by decide)]; exact h5
    rw [mWr_0 e5, u2_eq]
    have hg : P 0 (mFa a s 1 s) r nK := hf 1 s s rfl (by decide) l1.2
    have hh : mFa a s 1 s = u2 (u2 (u2 a 60 4 (nI s)) 60 5 1) 60 6 (nI s) := rfl
    rw [← hh]
    have f5 : mFa a s 1 s 60 5 = 1 := by unfold mFa; rw [u2_ne (by decide), u2_eq]
    have f4 : mFa a s 1 s 60 4 = nI s := by unfold mFa; rw [u2_ne (by decide), u2_ne (by decide), u2_eq]
    have f2 : mFa a s 1 s 60 2 = nI n := by unfold mFa; rw [u2_ne (by decide), u2_ne (by decide)]; exact h21
    have f6 : mFa a s 1 s 61 = a 61 := by unfold mFa; rw [u2_off 61 (by decide), u2_off 61 (by decide), u2_off 61 (by decide)]
    have e1 : mAt (mFa a s 1 s) s = mFa a s 1 s := u2_set f4
    refine l_mNum hr (n - s) s _ 0 (hB.row f6) f2 f4 (by omega) (fun _ h => absurd (f5.symm.trans h) (by decide)) (fun _ _ => ?_) (fun _ => ?_)
    · rw [e, e1]; exact hg
    · rw [e, e1, mWr_1 (by rw [f5]; decide)]; exact hg
theorem s_mNum {P : KI} {lo hi : Int32} (h5 : ¬ a 60 5 = 0) (hp : P 0 a r nK) : Sp G (d + 2) 0 0 MX12_numberHere [.ref 60, .int lo, .int hi] (a, r, nK) (RI P) :=
  V_X12_numberHere_0 ⟨rfl, by decide, fun h => absurd h h5, fun _ => hp⟩
theorem c_mOther {P : KI} {but many : Int32} (hr : Rk r) (hT : MT a B n p)
    (hy : ∀ v e, pOther B n but many p = .inl (v, e) → e ≤ n → P v (mAt a e) r nK) (hf : ∀ v k f q, pOther B n but many p = .inr (k, f) → ¬ k = 0 → q ≤ n → P v (mFa a q k f) r nK) : Sp G (d + 3) 0 0 MX12_otherHere [.ref 60, .int but, .int many] (a, r, nK) (RI P) := by
  have hT' := hT
  obtain ⟨hB, h2, h4, hpn, h5⟩ := hT
  have l1 : p ≤ skB B n p ∧ skB B n p ≤ n := run_le hpn
  unfold pOther at hy hf
  refine V_X12_otherHere_0 ⟨rfl, by decide, fun _ => ⟨rfl, by decide, c_mBlanks hr hB h2 h4 hpn ⟨rfl, by decide, rfl, by decide, ?_⟩⟩, fun h => absurd h5 h⟩
  have es : pNum B n 0 (many - 1) (skB B n p) = pNum B n 0 (many - 1) p := by
    unfold pNum
    rw [skB_skB hpn]
  rw [u2_eq]
  refine c_mNum hr (hT'.at l1.2) (fun v e he hen => ⟨rfl, by decide, fun h => absurd ?_ h, fun _ => ⟨fun h => ?_, fun h => ⟨rfl, by decide, c_mWrong ?_⟩⟩⟩) (fun k f q he hk hqn => ⟨rfl, by decide, fun _ => ?_, fun h => absurd ?_ hk⟩)
  · show u2 (u2 a 60 4 _) 60 4 _ 60 5 = 0
    rw [u2_ne (by decide), u2_ne (by decide)]; exact h5
  · rw [es] at he
    rw [he] at hy
    have e3 : mAt (u2 a 60 4 (nI (skB B n p))) e = mAt a e := u2_u2
    rw [e3]
    exact hy v e (if_neg h) hen
  · rw [es] at he
    rw [he] at hf
    have e3 : mAt (u2 a 60 4 (nI (skB B n p))) e = mAt a e := u2_u2
    rw [e3, mWr_0 (by show u2 a 60 4 _ 60 5 = 0; rw [u2_ne (by decide)]; exact h5)]
    exact hf v 2 (skB B n p) e (if_pos h) (by decide) hen
  · rw [es] at he
    rw [he] at hf
    have e3 : mFa (u2 a 60 4 (nI (skB B n p))) q k f = mFa a q k f := by unfold mFa; rw [u2_u2]
    rw [e3]
    exact hf 0 k f q rfl hk hqn
  · rw [← h]
    show _ = mFa (u2 a 60 4 _) q k f 60 5
    unfold mFa
    rw [u2_ne (by decide), u2_eq]
theorem s_mOther {P : KI} {but many : Int32} (h5 : ¬ a 60 5 = 0) (hp : P 0 a r nK) : Sp G (d + 3) 0 0 MX12_otherHere [.ref 60, .int but, .int many] (a, r, nK) (RI P) :=
  V_X12_otherHere_0 ⟨rfl, by decide, fun h => absurd h h5, fun _ => hp⟩
end MN
