/-! The reference: words as numbers to the base 27 -/
def wC (f : Nat → Nat) : Nat → Nat
  | 0 => 0
  | k + 1 => 27 * wC f k + f k
def dgW (B : Nat → Int32) (s k : Nat) : Nat := (B (s + k)).toInt.toNat - 96
def dgS (i k : Nat) : Nat := (sByt i k).toInt.toNat - 96
def cw (i : Nat) : Nat := wC (dgS i) (sLen i)
def wOK (i : Nat) : Bool := decide (i < strN) && decide (sLen i ≤ 7) && (List.range (sLen i)).all (fun k => isL (sByt i k))
theorem isL_iff {c : Int32} : isL c = true ↔ 97 ≤ c.toInt ∧ c.toInt ≤ 122 := by
  unfold isL
  rw [Bool.and_eq_true, decide_eq_true_eq, decide_eq_true_eq, Int32.le_iff_toInt_le, Int32.le_iff_toInt_le]
  exact Iff.rfl
theorem wC_lt {f : Nat → Nat} : ∀ (m : Nat), (∀ k, k < m → f k ≤ 26) → wC f m < 27 ^ m := by
  intro m
  induction m with
  | zero => intro _; exact Nat.one_pos
  | succ m ih =>
    intro h
    have h1 := ih (fun k hk => h k (by omega))
    have h2 := h m (by omega)
    show 27 * wC f m + f m < 27 ^ (m + 1)
    rw [Nat.pow_succ]
    omega
theorem wC_inj {f g : Nat → Nat} : ∀ (m l : Nat), (∀ k, k < m → 1 ≤ f k ∧ f k ≤ 26) → (∀ k, k < l → 1 ≤ g k ∧ g k ≤ 26) → wC f m = wC g l → m = l ∧ ∀ k, k < m → f k = g k := by
  intro m
  induction m with
  | zero =>
    intro l _ hg h
    cases l with
    | zero => exact ⟨rfl, fun k hk => absurd hk (by omega)⟩
    | succ l =>
      have h1 := hg l (by omega)
      have h2 : 0 = 27 * wC g l + g l := h
      omega
  | succ m ih =>
    intro l hf hg h
    have h0 := hf m (by omega)
    cases l with
    | zero =>
      have h2 : 27 * wC f m + f m = 0 := h
      omega
    | succ l =>
      have h1 := hg l (by omega)
      have h2 : 27 * wC f m + f m = 27 * wC g l + g l := h
      have h3 := ih l (fun k hk => hf k (by omega)) (fun k hk => hg k (by omega)) (by omega)
      refine ⟨by omega, fun k hk => ?_⟩
      by_cases e : k = m
      · subst e
        have h4 := h3.1
        subst h4
        omega
      · exact h3.2 k (by omega)
theorem wC_eq {f g : Nat → Nat} : ∀ (m : Nat), (∀ k, k < m → f k = g k) → wC f m = wC g m := by
  intro m
  induction m with
  | zero => intro _; rfl
  | succ m ih =>
    intro h
    show 27 * wC f m + f m = 27 * wC g m + g m
    rw [ih (fun k hk => h k (by omega)), h m (by omega)]
theorem wOK_l {i : Nat} (h : wOK i = true) : sLen i ≤ 7 ∧ ∀ k, k < sLen i → isL (sByt i k) = true := by
  unfold wOK at h
  rw [Bool.and_eq_true, Bool.and_eq_true, decide_eq_true_eq, decide_eq_true_eq, List.all_eq_true] at h
  exact ⟨h.1.2, fun k hk => h.2 k (List.mem_range.mpr hk)⟩
theorem isW_code {B : Nat → Int32} {s p i : Nat} (hl : ∀ j, s ≤ j → j < p → isL (B j) = true) (hi : wOK i = true) : isW B s p i = true ↔ p - s ≤ 7 ∧ wC (dgW B s) (p - s) = cw i := by
  have hk := wOK_l hi
  have b1 : ∀ k, k < p - s → 1 ≤ dgW B s k ∧ dgW B s k ≤ 26 := fun k h => by
    have := isL_iff.mp (hl (s + k) (by omega) (by omega))
    unfold dgW
    omega
  have b2 : ∀ k, k < sLen i → 1 ≤ dgS i k ∧ dgS i k ≤ 26 := fun k h => by
    have := isL_iff.mp (hk.2 k h)
    unfold dgS
    omega
  unfold isW
  rw [Bool.and_eq_true, decide_eq_true_eq, List.all_eq_true]
  constructor
  · intro h
    refine ⟨by omega, ?_⟩
    unfold cw
    rw [← h.1]
    refine wC_eq _ (fun k hk2 => ?_)
    have e := of_decide_eq_true (h.2 k (List.mem_range.mpr (by omega)))
    unfold dgW dgS
    rw [e]
  · intro h
    have h2 := wC_inj _ _ b1 b2 h.2
    refine ⟨h2.1, fun k hk2 => decide_eq_true ?_⟩
    have hk3 := List.mem_range.mp hk2
    have h3 := h2.2 k (by omega)
    have h4 := isL_iff.mp (hl (s + k) (by omega) (by omega))
    have h5 := isL_iff.mp (hk.2 k hk3)
    unfold dgW dgS at h3
    exact Int32.toInt_inj.mp (by omega)
theorem cw_lt {i : Nat} (hi : wOK i = true) : cw i < 2 ^ 63 := by
  have hk := wOK_l hi
  have h1 : cw i < 27 ^ sLen i := wC_lt _ (fun k h => by
    have := isL_iff.mp (hk.2 k h)
    unfold dgS
    omega)
  have h2 : 27 ^ sLen i ≤ 27 ^ 7 := Nat.pow_le_pow_right (by decide) hk.1
  have h3 : 27 ^ 7 < 2 ^ 63 := by decide
  omega
theorem ofN_inj {x y : Nat} (hx : x < 2 ^ 63) (hy : y < 2 ^ 63) (h : Int64.ofNat x = Int64.ofNat y) : x = y := by
  have h2 := congrArg Int64.toInt h
  rw [Int64.toInt_ofNat_of_lt hx, Int64.toInt_ofNat_of_lt hy] at h2
  exact Int.ofNat.inj h2
theorem ofN_m1 {x : Nat} (hx : x < 2 ^ 63) : ¬ (-1 : Int64) = Int64.ofNat x := by
  intro h
  have h2 := congrArg Int64.toInt h
  rw [Int64.toInt_ofNat_of_lt hx] at h2
  have h3 : (-1 : Int64).toInt = -1 := by decide
  omega
theorem wC_step {c : Nat} {b : Int32} (h : isL b = true) : (((27 : Int64) * Int64.ofNat c + b.toInt64) - 97) + 1 = Int64.ofNat (27 * c + (b.toInt.toNat - 96)) := by
  have h1 := isL_iff.mp h
  obtain ⟨t, ht⟩ : ∃ t : Nat, b.toInt = t := ⟨b.toInt.toNat, by omega⟩
  have e : b.toInt64 = Int64.ofNat t := by
    apply Int64.toInt_inj.mp
    rw [Int32.toInt_toInt64, Int64.toInt_ofNat_of_lt (by omega), ht]
  rw [e, ht]
  have e27 : (27 : Int64) = Int64.ofNat 27 := rfl
  have e97 : (97 : Int64) = Int64.ofNat 97 := rfl
  have e1 : (1 : Int64) = Int64.ofNat 1 := rfl
  rw [e27, e97, e1, ← Int64.ofNat_mul, ← Int64.ofNat_add, ← Int64.ofNat_sub _ _ (by omega), ← Int64.ofNat_add]
  have : 27 * c + t - 97 + 1 = 27 * c + ((t : Int).toNat - 96) := by omega
  rw [this]
def sev (a b c d e f g : Int32) : Int64 :=
  let v0 := (27 : Int64) * ((27 : Int64) * a.toInt64 + b.toInt64) + c.toInt64
  let v1 := if d = 0 then v0 else 27 * v0 + d.toInt64
  let v2 := if e = 0 then v1 else 27 * v1 + e.toInt64
  let v3 := if f = 0 then v2 else 27 * v2 + f.toInt64
  if g = 0 then v3 else 27 * v3 + g.toInt64
theorem lg_eq0 {x y : Int64} (h : lg_cmp x y = 0) : x = y := by
  unfold lg_cmp at h
  by_cases h1 : x > y
  · rw [if_pos h1] at h; exact absurd h (by decide)
  · rw [if_neg h1] at h
    by_cases h2 : x = y
    · exact h2
    · rw [if_neg h2] at h; exact absurd h (by decide)
section MW
variable {G : GE} {d C S : Nat} {a : IA} {r : RA} {N n p i s : Nat} {B : Nat → Int32} {x y z : Int32}
theorem c_mSeven {P : Int64 → IA → RA → Nat → Prop} {l0 l1 l2 l3 l4 l5 l6 : Int32} (hp : P (sev l0 l1 l2 l3 l4 l5 l6) a r N) : Sp G d 0 0 MX12_seven [.int l0, .int l1, .int l2, .int l3, .int l4, .int l5, .int l6] (a, r, N) (RJ P) := by
  have go : ∀ v2 : Int64, P (if l6 = 0 then (if l5 = 0 then v2 else 27 * v2 + l5.toInt64) else 27 * (if l5 = 0 then v2 else 27 * v2 + l5.toInt64) + l6.toInt64) a r N → E G MX12_seven d 0 0 58 [.null, .null, .null, .null, .null, .int l5, .int l6, .null, .null] [.long v2] (a, r, N) (RJ P) := by
    intro v2 h
    refine V_X12_seven_58 ⟨fun h5 => ⟨fun h6 => ?_, fun h6 => ?_⟩, fun h5 => ⟨fun h6 => ?_, fun h6 => ?_⟩⟩
    · rw [if_neg h6, if_neg h5] at h; exact h
    · rw [if_pos h6, if_neg h5] at h; exact h
    · rw [if_neg h6, if_pos h5] at h; exact h
    · rw [if_pos h6, if_pos h5] at h; exact h
  unfold sev at hp
  refine V_X12_seven_0 ⟨fun h3 => ⟨fun h4 => go _ ?_, fun h4 => go _ ?_⟩, fun h3 => ⟨fun h4 => go _ ?_, fun h4 => go _ ?_⟩⟩
  · simp only [if_neg h3, if_neg h4] at hp; exact hp
  · simp only [if_neg h3, if_pos h4] at hp; exact hp
  · simp only [if_pos h3, if_neg h4] at hp; exact hp
  · simp only [if_pos h3, if_pos h4] at hp; exact hp
theorem l_mWord {P : Int64 → IA → RA → Nat → Prop} (hr : Rk r) (hB : MB a B n) (h2 : a 60 2 = nI n) (h4 : a 60 4 = nI s) (hs : s ≤ n) (hp : P (if ltE B n s - s ≤ 7 then Int64.ofNat (wC (dgW B s) (ltE B n s - s)) else -1) a r nK) :
    ∀ (m j : Nat), s + j + m = n → ltE B n (s + j) = ltE B n s → E G MX12_wordHere (d + 1) C S 8 [.ref 60, .long (Int64.ofNat (wC (dgW B s) (if j ≤ 7 then j else 7))), .null, .int (nI j)] [] (a, r, nK) (RJ P) := by
  have hn := hB.1
  have fin : ∀ j, s + j ≤ n → ltE B n (s + j) = ltE B n s → ltE B n (s + j) = s + j → (nI j ≤ 7 → P (Int64.ofNat (wC (dgW B s) (if j ≤ 7 then j else 7))) a r nK) ∧ (¬ nI j ≤ 7 → P (-1) a r nK) := by
    intro j hj h1 h3
    have e : ltE B n s - s = j := by omega
    rw [e] at hp
    refine ⟨fun h => ?_, fun h => ?_⟩
    · have h7 : j ≤ 7 := (nI_leI (a := j) (b := 7) (by omega) (by omega)).mp h
      rw [if_pos h7] at hp ⊢; exact hp
    · have h7 : ¬ j ≤ 7 := fun e => h (nI_le (a := j) (b := 7) e (by omega))
      rw [if_neg h7] at hp; exact hp
  intro m
  induction m with
  | zero =>
    intro j hj he
    refine V_X12_wordHere_8 ⟨rfl, by decide, rfl, by decide, ?_⟩
    rw [h4, nI_add]
    refine c_mByteAt (B := B) hr hB h2 (by omega) (c_mSmall ?_)
    have e0 : bAt B n (s + j) = -1 := if_neg (by omega)
    rw [e0]
    exact ⟨fun _ => fin j (by omega) he (run_end (by omega)), fun h => absurd h (by decide)⟩
  | succ m ih =>
    intro j hj he
    refine V_X12_wordHere_8 ⟨rfl, by decide, rfl, by decide, ?_⟩
    rw [h4, nI_add]
    refine c_mByteAt (B := B) hr hB h2 (by omega) (c_mSmall ?_)
    have e0 : bAt B n (s + j) = B (s + j) := if_pos (by omega)
    rw [e0]
    cases hL : isL (B (s + j)) with
    | false => exact ⟨fun _ => fin j (by omega) he (run_stop hL), fun h => absurd rfl h⟩
    | true =>
      have e : ltE B n (s + j) = ltE B n (s + (j + 1)) := run_go (by omega) hL
      refine ⟨fun h => absurd h (by decide), fun _ => ⟨fun h7 => ?_, fun h7 => ⟨rfl, by decide, rfl, by decide, ?_⟩⟩⟩
      · have h8 : 7 ≤ j := (nI_leI (a := 7) (b := j) (by omega) (by omega)).mp h7
        have ec : (if j ≤ 7 then j else 7) = (if j + 1 ≤ 7 then j + 1 else 7) := by
          rw [if_neg (by omega : ¬ j + 1 ≤ 7)]
          split <;> omega
        rw [ec, nI_1]
        exact ih (j + 1) (by omega) (by omega)
      · have h8 : ¬ 7 ≤ j := fun e => h7 (nI_le (a := 7) (b := j) e (by omega))
        rw [h4, nI_add]
        refine c_mByteAt (B := B) hr hB h2 (by omega) ?_
        rw [e0, if_pos (by omega), wC_step hL, nI_1]
        have ec : 27 * wC (dgW B s) j + ((B (s + j)).toInt.toNat - 96) = wC (dgW B s) (if j + 1 ≤ 7 then j + 1 else 7) := by
          rw [if_pos (by omega)]
          rfl
        rw [ec]
        exact ih (j + 1) (by omega) (by omega)
theorem c_mWordHere {P : Int64 → IA → RA → Nat → Prop} (hr : Rk r) (hT : MT a B n p) (hp : P (if ltE B n (skB B n p) - skB B n p ≤ 7 then Int64.ofNat (wC (dgW B (skB B n p)) (ltE B n (skB B n p) - skB B n p)) else -1) (mAt a (skB B n p)) r nK) : Sp G (d + 2) 0 0 MX12_wordHere [.ref 60] (a, r, nK) (RJ P) := by
  have l1 := skB_le (B := B) hT.2.2.2.1
  have hT1 := hT.at l1.2
  obtain ⟨hB, h2, h4, hpn, h5⟩ := hT
  refine V_X12_wordHere_0 ⟨rfl, by decide, c_mBlanks hr hB h2 h4 hpn ?_⟩
  exact l_mWord hr hT1.1 hT1.2.1 hT1.2.2.1 l1.2 hp (n - skB B n p) 0 (by omega) rfl
/-- the word that stands at p is word i of the table -/
def isWp (B : Nat → Int32) (n p i : Nat) : Bool := isW B (skB B n p) (ltE B n (skB B n p)) i
theorem c_mIsWord {P : KI} (i : Nat) {l0 l1 l2 l3 l4 l5 l6 : Int32} (hr : Rk r) (hT : MT a B n p) (hw : sev l0 l1 l2 l3 l4 l5 l6 = Int64.ofNat (cw i)) (hi : wOK i = true)
    (hp : P (if isWp B n p i then 1 else 0) (mAt a (skB B n p)) r nK) : Sp G (d + 3) 0 0 MX12_isWord [.ref 60, .int l0, .int l1, .int l2, .int l3, .int l4, .int l5, .int l6] (a, r, nK) (RI P) := by
  have l1 := skB_le (B := B) hT.2.2.2.1
  have hc := cw_lt hi
  refine V_X12_isWord_0 ⟨rfl, by decide, fun h => absurd hT.2.2.2.2 h, fun _ => ⟨rfl, by decide, c_mWordHere hr hT (c_mSeven ?_)⟩⟩
  rw [hw]
  unfold isWp at hp
  have hl : ∀ j, skB B n p ≤ j → j < ltE B n (skB B n p) → isL (B j) = true := fun j h1 h2 => run_in h1 h2
  have hk := isW_code hl hi
  have hlc : wC (dgW B (skB B n p)) (ltE B n (skB B n p) - skB B n p) < 27 ^ (ltE B n (skB B n p) - skB B n p) := wC_lt _ (fun k h => by
    have := isL_iff.mp (hl (skB B n p + k) (by omega) (by omega))
    unfold dgW
    omega)
  generalize ltE B n (skB B n p) = e at *
  by_cases h7 : e - skB B n p ≤ 7
  · rw [if_pos h7]
    have hb : (27 : Nat) ^ (e - skB B n p) ≤ 27 ^ 7 := Nat.pow_le_pow_right (by decide) h7
    have h3 : (27 : Nat) ^ 7 < 2 ^ 63 := by decide
    by_cases hq : wC (dgW B (skB B n p)) (e - skB B n p) = cw i
    · rw [if_pos (hk.mpr ⟨h7, hq⟩)] at hp
      rw [hq]
      refine ⟨fun h => absurd ?_ h, fun _ => ⟨bz_1, hp⟩⟩
      unfold lg_cmp
      rw [if_neg (Int64.lt_irrefl), if_pos rfl]
    · rw [if_neg (fun h => hq (hk.mp h).2)] at hp
      refine ⟨fun _ => ⟨bz_0, hp⟩, fun h => absurd (ofN_inj (by omega) hc ?_) hq⟩
      exact lg_eq0 h
  · rw [if_neg h7]
    rw [if_neg (fun h => h7 (hk.mp h).1)] at hp
    exact ⟨fun _ => ⟨bz_0, hp⟩, fun h => absurd (lg_eq0 h) (ofN_m1 hc)⟩
theorem s_mIsWord {P : KI} {l0 l1 l2 l3 l4 l5 l6 : Int32} (h5 : ¬ a 60 5 = 0) (hp : P 0 a r nK) : Sp G (d + 3) 0 0 MX12_isWord [.ref 60, .int l0, .int l1, .int l2, .int l3, .int l4, .int l5, .int l6] (a, r, nK) (RI P) :=
  V_X12_isWord_0 ⟨rfl, by decide, fun _ => ⟨bz_0, hp⟩, fun h => absurd h h5⟩
theorem l_mSkip {P : KN} (hr : Rk r) : ∀ (m p : Nat) (a : IA), MB a B n → a 60 2 = nI n → a 60 4 = nI p → p + m = n → P (u2 a 60 4 (nI (ltE B n p))) r nK → E G MX12_skipWord (d + 1) C S 0 [.ref 60] [] (a, r, nK) (RN P) := by
  intro m
  induction m with
  | zero =>
    intro p a hB h2 h4 hpn hp
    have hn := hB.1
    have e : ltE B n p = p := run_end (by omega)
    rw [e, u2_set h4] at hp
    refine VE_X12_skipWord_0 ⟨rfl, by decide, rfl, by decide, ?_⟩
    rw [h4]
    refine c_mByteAt hr hB h2 (by omega) (c_mSmall ?_)
    have e0 : bAt B n p = -1 := if_neg (by omega)
    rw [e0]
    exact ⟨fun _ => hp, fun e => absurd e (by decide)⟩
  | succ m ih =>
    intro p a hB h2 h4 hpn hp
    have hn := hB.1
    refine VE_X12_skipWord_0 ⟨rfl, by decide, rfl, by decide, ?_⟩
    rw [h4]
    refine c_mByteAt hr hB h2 (by omega) (c_mSmall ?_)
    have e0 : bAt B n p = B p := if_pos (by omega)
    rw [e0]
    cases hL : isL (B p) with
    | false =>
      have e : ltE B n p = p := run_stop hL
      rw [e, u2_set h4] at hp
      exact ⟨fun _ => hp, fun h => absurd rfl h⟩
    | true =>
      refine ⟨fun h => absurd h (by decide), fun h => ⟨rfl, by decide, rfl, by decide, fun a5 h5 => ?_⟩⟩
      rw [h4, nI_1] at h5
      subst h5
      have e : ltE B n p = ltE B n (p + 1) := run_go (by omega) hL
      rw [e] at hp
      refine ih (p + 1) _ (hB.row (u2_off 61 (by decide))) (by rw [u2_ne (by decide)]; exact h2) u2_eq (by omega) ?_
      have e2 : u2 (u2 a 60 4 (nI (p + 1))) 60 4 (nI (ltE B n (p + 1))) = u2 a 60 4 (nI (ltE B n (p + 1))) := u2_u2
      rw [e2]
      exact hp
theorem c_mSkip {P : KN} (hr : Rk r) (hT : MT a B n p) (hp : P (mAt a (ltE B n p)) r nK) : Sp G (d + 1) 0 0 MX12_skipWord [.ref 60] (a, r, nK) (RN P) :=
  VI_X12_skipWord (l_mSkip hr (n - p) p a hT.1 hT.2.1 hT.2.2.1 (by have := hT.2.2.2.1; omega) hp)
theorem c_mTakesW {P : KI} (i : Nat) {l0 l1 l2 l3 l4 l5 l6 : Int32} (hr : Rk r) (hT : MT a B n p) (hw : sev l0 l1 l2 l3 l4 l5 l6 = Int64.ofNat (cw i)) (hi : wOK i = true)
    (h1 : isWp B n p i = true → P 1 (mAt a (ltE B n (skB B n p))) r nK) (h0 : isWp B n p i = false → P 0 (mAt a (skB B n p)) r nK) : Sp G (d + 4) 0 0 MX12_takes [.ref 60, .int l0, .int l1, .int l2, .int l3, .int l4, .int l5, .int l6] (a, r, nK) (RI P) := by
  have l1 := skB_le (B := B) hT.2.2.2.1
  refine V_X12_takes_0 ⟨rfl, by decide, c_mIsWord i hr hT hw hi ?_⟩
  cases h : isWp B n p i with
  | false => exact ⟨fun _ => ⟨bz_0, h0 h⟩, fun e => absurd rfl e⟩
  | true =>
    refine ⟨fun e => absurd e (by decide), fun _ => ⟨rfl, by decide, c_mSkip hr (hT.at l1.2) ⟨bz_1, ?_⟩⟩⟩
    have e3 : ∀ q, mAt (u2 a 60 4 (nI (skB B n p))) q = mAt a q := fun q => u2_u2
    show P 1 (mAt (u2 a 60 4 (nI (skB B n p))) _) r nK
    rw [e3]
    exact h1 h
theorem c_mStarts {P : KN} (hr : Rk r) (hB : MB a B n) (hp : P (mAt (u2 (u2 (u2 (u2 (u2 (u2 (u2 a 60 1 0) 60 2 (nI n)) 60 4 0) 60 5 0) 60 6 (-1)) 60 7 0) 60 8 0) (skB B n 0)) r nK) : Sp G (d + 2) 0 0 MX12_starts [.ref 60, .int (nI n)] (a, r, nK) (RN P) := by
  refine V_X12_starts_0 ⟨rfl, by decide, fun a1 h1 => ⟨rfl, by decide, fun a2 h2 => ⟨rfl, by decide, fun a3 h3 => ⟨rfl, by decide, fun a4 h4 => ⟨rfl, by decide, fun a5 h5 => ⟨rfl, by decide, fun a6 h6 => ⟨rfl, by decide, fun a7 h7 => ⟨rfl, by decide, ?_⟩⟩⟩⟩⟩⟩⟩⟩
  subst h1 h2 h3 h4 h5 h6 h7
  refine c_mBlanks (p := 0) hr (hB.row ?_) ?_ ?_ (Nat.zero_le _) hp
  · simp only [u2_off 61 (by decide : (61:Nat) ≠ 60)]
  · simp only [u2_ne (by decide : (2:Nat) ≠ 8), u2_ne (by decide : (2:Nat) ≠ 7), u2_ne (by decide : (2:Nat) ≠ 6), u2_ne (by decide : (2:Nat) ≠ 5), u2_ne (by decide : (2:Nat) ≠ 4), u2_eq]
  · simp only [u2_ne (by decide : (4:Nat) ≠ 8), u2_ne (by decide : (4:Nat) ≠ 7), u2_ne (by decide : (4:Nat) ≠ 6), u2_ne (by decide : (4:Nat) ≠ 5), u2_eq]
    rfl
theorem c_mEnds {P : KI} (hp : P (a 60 5 - 10) (u2 a 60 3 (a 60 6)) r nK) : Sp G d 0 0 MX12_ends [.ref 60] (a, r, nK) (RI P) := by
  refine V_X12_ends_0 ⟨rfl, by decide, rfl, by decide, fun a1 h1 => ⟨rfl, by decide, ?_⟩⟩
  subst h1
  rw [u2_ne (by decide)]
  exact hp
end MW
