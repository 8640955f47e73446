/-! The reference: bad, wrong, sign, takesSign -/
def mWr (a : IA) (x y : Int32) : IA := if a 60 5 = 0 then u2 (u2 a 60 5 x) 60 6 y else a
section MY
variable {G : GE} {d C S : Nat} {a : IA} {r : RA} {N n p i : Nat} {B : Nat → Int32} {x y z w : Int32}
theorem c_mBad0 {P : KI} (hz : a 60 0 = 0) (hp : P 0 a r nK) : Sp G d 0 0 MX12_bad [.ref 60, .int 0, .int w, .int z] (a, r, nK) (RI P) :=
  V_X12_bad_0 ⟨fun _ => ⟨rfl, by decide, fun _ => ⟨bz_0, hp⟩, fun h => absurd hz h⟩, fun h => absurd rfl h⟩
theorem c_mBad1 {P : KI} (hr : Rk r) (hz : a 60 0 = 0) (hx : ¬ x = 0) (hw : ¬ w = 0) (hi : i < 3) (hp : P 1 (u2 (u2 a 60 0 w) 62 i (a 62 i + 1)) r nK) : Sp G d 0 0 MX12_bad [.ref 60, .int x, .int w, .int (nI i)] (a, r, nK) (RI P) := by
  have hin : vp_in (nI i) 3 := vp_in_nI hi (by decide)
  refine V_X12_bad_0 ⟨fun h => absurd h hx, fun _ => ⟨rfl, by decide, fun h => absurd hz h, fun _ => ⟨rfl, by decide, fun a1 h1 => ⟨rfl, by decide, 62, rf5 hr (by decide) rfl, rfl, by decide, hin, rfl, by decide, hin, fun a3 h3 => ?_⟩⟩⟩⟩
  subst h1
  rw [nI_clamp (by omega), u2_off 62 (by decide)] at h3
  subst h3
  refine ⟨rfl, by decide, fun h => ?_, fun h => ⟨bz_1, hp⟩⟩
  rw [u2_off 60 (by decide), u2_eq] at h
  exact absurd h hw
theorem c_mWrong {P : KN} (hp : P (mWr a x y) r nK) : Sp G d 0 0 MX12_wrong [.ref 60, .int x, .int y] (a, r, nK) (RN P) := by
  unfold mWr at hp
  refine V_X12_wrong_0 ⟨rfl, by decide, fun h => ?_, fun h => ⟨rfl, by decide, fun a1 h1 => ⟨rfl, by decide, fun a2 h2 => ?_⟩⟩⟩
  · rw [if_neg h] at hp; exact hp
  · rw [if_pos h] at hp
    subst h1 h2
    exact hp
theorem c_mThrown {P : KI} (hp : P (a 60 0) a r nK) : Sp G d 0 0 MX12_thrown [.ref 60] (a, r, nK) (RI P) := V_X12_thrown_0 ⟨rfl, by decide, hp⟩
theorem c_mMate {P : KI} {q : Nat} (hq : tyK q = (1, 42)) (hN : q < nK) (hi : i < 42) (hp : P (a q i) a r nK) : Sp G d 0 0 MX12_mateOf [.ref q, .int (nI i)] (a, r, nK) (RI P) := by
  have e : (0 : Int32) + nI i = nI i := Int32.zero_add _
  refine V_X12_mateOf_0 ⟨by rw [hq], hN, ?_, ?_⟩
  · rw [e, hq]; exact vp_in_nI hi (by decide)
  · rw [e, nI_clamp (by omega)]; exact hp
/-- the place after the blanks, if no fault stands -/
theorem c_mSign {P : KN} (hr : Rk r) (hB : MB a B n) (h2 : a 60 2 = nI n) (h4 : a 60 4 = nI p) (hpn : p ≤ n) (h5 : a 60 5 = 0)
    (hy : bAt B n (skB B n p) = x → P (u2 a 60 4 (nI (skB B n p + 1))) r nK) (hf : ¬ bAt B n (skB B n p) = x → P (mWr (u2 a 60 4 (nI (skB B n p))) 1 (nI (skB B n p))) r nK) : Sp G (d + 2) 0 0 MX12_sign [.ref 60, .int x] (a, r, nK) (RN P) := by
  have hn := hB.1
  have l1 := skB_le (B := B) hpn
  refine V_X12_sign_0 ⟨rfl, by decide, fun _ => ⟨rfl, by decide, c_mBlanks hr hB h2 h4 hpn ⟨rfl, by decide, rfl, by decide, ?_⟩⟩, fun h => absurd h5 h⟩
  rw [u2_eq]
  refine c_mByteAt (B := B) hr ⟨hn, fun i hi => by rw [u2_off 61 (by decide)]; exact hB.2 i hi⟩ (by rw [u2_ne (by decide)]; exact h2) (by omega) ⟨fun h => ⟨rfl, by decide, rfl, by decide, ?_⟩, fun h => ⟨rfl, by decide, rfl, by decide, fun a11 h11 => ?_⟩⟩
  · rw [u2_eq]
    exact c_mWrong (hf h)
  · rw [u2_eq, nI_1, u2_u2] at h11
    subst h11
    exact hy h
theorem s_mSign {P : KN} (h5 : ¬ a 60 5 = 0) (hp : P a r nK) : Sp G (d + 2) 0 0 MX12_sign [.ref 60, .int x] (a, r, nK) (RN P) := V_X12_sign_0 ⟨rfl, by decide, fun h => absurd h h5, fun _ => hp⟩
theorem c_mTakes {P : KI} (hr : Rk r) (hB : MB a B n) (h2 : a 60 2 = nI n) (h4 : a 60 4 = nI p) (hpn : p ≤ n) (h5 : a 60 5 = 0)
    (hy : bAt B n (skB B n p) = x → P 1 (u2 a 60 4 (nI (skB B n p + 1))) r nK) (hf : ¬ bAt B n (skB B n p) = x → P 0 (u2 a 60 4 (nI (skB B n p))) r nK) : Sp G (d + 2) 0 0 MX12_takesSign [.ref 60, .int x] (a, r, nK) (RI P) := by
  have hn := hB.1
  have l1 := skB_le (B := B) hpn
  refine V_X12_takesSign_0 ⟨rfl, by decide, fun _ => ⟨rfl, by decide, c_mBlanks hr hB h2 h4 hpn ⟨rfl, by decide, rfl, by decide, ?_⟩⟩, fun h => absurd h5 h⟩
  rw [u2_eq]
  refine c_mByteAt (B := B) hr ⟨hn, fun i hi => by rw [u2_off 61 (by decide)]; exact hB.2 i hi⟩ (by rw [u2_ne (by decide)]; exact h2) (by omega) ⟨fun h => ⟨fun _ => ⟨bz_0, hf h⟩, fun e => absurd rfl e⟩, fun h => ⟨fun e => absurd e (by decide), fun _ => ⟨rfl, by decide, rfl, by decide, fun a9 h9 => ?_⟩⟩⟩
  rw [u2_eq, nI_1, u2_u2] at h9
  subst h9
  exact ⟨bz_1, hy h⟩
end MY
