/-! The reference: small words; its text (cell 60: 2 size, 4 at, 5 fault, 6 faultAt; bytes in 61) -/
def MB (a : IA) (B : Nat → Int32) (n : Nat) : Prop := n ≤ 600 ∧ ∀ i, i < n → a 61 i = B i
theorem u2_self {a : IA} {q j : Nat} : u2 a q j (a q j) = a := by
  unfold u2
  rw [upd_same, up_same]
theorem u2_set {a : IA} {q j : Nat} {x : Int32} (h : a q j = x) : u2 a q j x = a := by rw [← h, u2_self]
theorem upd_upd {f : Nat → Int32} {j : Nat} {x y : Int32} : upd (upd f j x) j y = upd f j y := by
  funext i
  unfold upd
  by_cases e : i = j
  · rw [if_pos e, if_pos e]
  · rw [if_neg e, if_neg e, if_neg e]
theorem u2_u2 {a : IA} {q j : Nat} {x y : Int32} : u2 (u2 a q j x) q j y = u2 a q j y := by
  unfold u2
  rw [va_up_self, bx_uu, upd_upd]
section MX
variable {G : GE} {d C S : Nat} {a : IA} {r : RA} {N n p i : Nat} {B : Nat → Int32} {x y z : Int32}
theorem c_mIn {P : KI} (h1 : inT x y z → P 1 a r N) (h0 : ¬ inT x y z → P 0 a r N) : Sp G d 0 0 MX12_in [.int x, .int y, .int z] (a, r, N) (RI P) :=
  V_X12_in_0 ⟨fun h => ⟨bz_0, h0 (fun e => e.1 h)⟩, fun h => ⟨fun h' => ⟨bz_0, h0 (fun e => e.2 h')⟩, fun h' => ⟨bz_1, h1 ⟨h, h'⟩⟩⟩⟩
theorem c_mLess {P : KI} (hp : P (if y ≤ x then y else x) a r N) : Sp G d 0 0 MX12_less [.int x, .int y] (a, r, N) (RI P) := by
  refine V_X12_less_0 ⟨fun h => ?_, fun h => ?_⟩
  · rw [if_pos h] at hp; exact hp
  · rw [if_neg h] at hp; exact hp
theorem c_mMore {P : KI} (hp : P (if x ≤ y then y else x) a r N) : Sp G d 0 0 MX12_more [.int x, .int y] (a, r, N) (RI P) := by
  refine V_X12_more_0 ⟨fun h => ?_, fun h => ?_⟩
  · rw [if_pos h] at hp; exact hp
  · rw [if_neg h] at hp; exact hp
theorem c_mAway {P : KI} (hp : P (if x ≤ y then y - x else x - y) a r N) : Sp G d 0 0 MX12_away [.int x, .int y] (a, r, N) (RI P) := by
  refine V_X12_away_0 ⟨fun h => ?_, fun h => ?_⟩
  · rw [if_pos h] at hp; exact hp
  · rw [if_neg h] at hp; exact hp
theorem c_mHas {P : KI} (hp : P (if ((x >>> (y &&& 31)) &&& 1) = 1 then 1 else 0) a r N) : Sp G d 0 0 MX12_has [.int x, .int y] (a, r, N) (RI P) := by
  refine V_X12_has_0 ⟨fun h => ⟨bz_0, ?_⟩, fun h => ⟨bz_1, ?_⟩⟩
  · rw [if_neg h] at hp; exact hp
  · rw [if_pos h] at hp; exact hp
theorem c_mDigit {P : KI} (hp : P (if isD x then 1 else 0) a r N) : Sp G d 0 0 MX12_isDigit [.int x] (a, r, N) (RI P) := by
  unfold isD at hp
  refine V_X12_isDigit_0 ⟨fun h => ⟨bz_0, ?_⟩, fun h => ⟨fun h' => ⟨bz_0, ?_⟩, fun h' => ⟨bz_1, ?_⟩⟩⟩
  · rw [decide_eq_false (fun e => i_nle.mpr h e), Bool.false_and] at hp; exact hp
  · rw [decide_eq_false (fun e => i_nle.mpr h' e), Bool.and_false] at hp; exact hp
  · rw [decide_eq_true (i_nlt.mp h), decide_eq_true (i_nlt.mp h')] at hp; exact hp
theorem c_mSmall {P : KI} (hp : P (if isL x then 1 else 0) a r N) : Sp G d 0 0 MX12_isSmall [.int x] (a, r, N) (RI P) := by
  unfold isL at hp
  refine V_X12_isSmall_0 ⟨fun h => ⟨bz_0, ?_⟩, fun h => ⟨fun h' => ⟨bz_0, ?_⟩, fun h' => ⟨bz_1, ?_⟩⟩⟩
  · rw [decide_eq_false (fun e => i_nle.mpr h e), Bool.false_and] at hp; exact hp
  · rw [decide_eq_false (fun e => i_nle.mpr h' e), Bool.and_false] at hp; exact hp
  · rw [decide_eq_true (i_nlt.mp h), decide_eq_true (i_nlt.mp h')] at hp; exact hp
theorem c_mByteAt {P : KI} (hr : Rk r) (hB : MB a B n) (h2 : a 60 2 = nI n) (hi : i < 2 ^ 31) (hp : P (bAt B n i) a r nK) : Sp G d 0 0 MX12_byteAt [.ref 60, .int (nI i)] (a, r, nK) (RI P) := by
  have hn := hB.1
  unfold bAt at hp
  refine V_X12_byteAt_0 ⟨rfl, by decide, fun h => ?_, fun h => ?_⟩
  · rw [h2, nI_ltI hi (by omega)] at h
    refine ⟨rfl, by decide, 61, rf5 hr (by decide) rfl, rfl, by decide, vp_in_nI (show i < 600 by omega) (by decide), ?_⟩
    rw [if_pos h] at hp
    rw [nI_clamp hi, hB.2 i h]
    exact hp
  · rw [h2, nI_ltI hi (by omega)] at h
    rw [if_neg h] at hp; exact hp
theorem l_mBlanks {P : KN} (hr : Rk r) : ∀ (m p : Nat) (a : IA), MB a B n → a 60 2 = nI n → a 60 4 = nI p → p + m = n → P (u2 a 60 4 (nI (skB B n p))) r nK → E G MX12_blanks (d + 1) C S 0 [.ref 60] [] (a, r, nK) (RN P) := by
  intro m
  induction m with
  | zero =>
    intro p a hB h2 h4 hpn hp
    have hn := hB.1
    have e : skB B n p = p := run_end (by omega)
    rw [e, u2_set h4] at hp
    refine VE_X12_blanks_0 ⟨rfl, by decide, rfl, by decide, ?_⟩
    rw [h4]
    refine c_mByteAt hr hB h2 (by omega) ?_
    unfold bAt
    rw [if_neg (by omega)]
    exact ⟨fun _ => hp, fun e => absurd e (by decide)⟩
  | succ m ih =>
    intro p a hB h2 h4 hpn hp
    have hn := hB.1
    refine VE_X12_blanks_0 ⟨rfl, by decide, rfl, by decide, ?_⟩
    rw [h4]
    refine c_mByteAt hr hB h2 (by omega) ?_
    unfold bAt
    rw [if_pos (by omega)]
    refine ⟨fun h => ?_, fun h => ⟨rfl, by decide, rfl, by decide, fun a5 h5 => ?_⟩⟩
    · have e : skB B n p = p := run_stop (decide_eq_false h)
      rw [e, u2_set h4] at hp
      exact hp
    · rw [h4, nI_1] at h5
      subst h5
      have e : skB B n p = skB B n (p + 1) := run_go (by omega) (decide_eq_true h)
      rw [e] at hp
      refine ih (p + 1) _ ⟨hn, fun i hi => by rw [u2_off 61 (by decide)]; exact hB.2 i hi⟩ (by rw [u2_ne (by decide)]; exact h2) u2_eq (by omega) ?_
      have e2 : u2 (u2 a 60 4 (nI (p + 1))) 60 4 (nI (skB B n (p + 1))) = u2 a 60 4 (nI (skB B n (p + 1))) := u2_u2
      rw [e2]
      exact hp
theorem c_mBlanks {P : KN} (hr : Rk r) (hB : MB a B n) (h2 : a 60 2 = nI n) (h4 : a 60 4 = nI p) (hpn : p ≤ n) (hp : P (u2 a 60 4 (nI (skB B n p))) r nK) : Sp G (d + 1) 0 0 MX12_blanks [.ref 60] (a, r, nK) (RN P) :=
  VI_X12_blanks (l_mBlanks hr (n - p) p a hB h2 h4 (by omega) hp)
end MX
