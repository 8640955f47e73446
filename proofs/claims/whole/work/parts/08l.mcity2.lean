/-! The reference: city, the whole method -/
/-- a refusal: what, for which reason -/
def mBd (a : IA) (w : Int32) (i : Nat) : IA := u2 (u2 a 60 0 w) 62 i (a 62 i + 1)
/-- a text begins -/
def mSta (a : IA) (B : Nat → Int32) (n : Nat) : IA := mAt (u2 (u2 (u2 (u2 (u2 (u2 (u2 (u2 a 60 0 0) 60 1 0) 60 2 (nI n)) 60 4 0) 60 5 0) 60 6 (-1)) 60 7 0) 60 8 0) (skB B n 0)
section MCF
variable {G : GE} {d C S : Nat} {a b : IA} {r : RA} {N n p i s w j : Nat} {B : Nat → Int32} {x y z kd : Int32} {o : Po}
theorem mSta_off {q : Nat} (h : q ≠ 60) : mSta a B n q = a q := by
  unfold mSta mAt
  rw [u2_off q h, u2_off q h, u2_off q h, u2_off q h, u2_off q h, u2_off q h, u2_off q h, u2_off q h, u2_off q h]
theorem mSta_ne {j : Nat} (h : ¬ j ≤ 8 ∨ j = 3) : mSta a B n 60 j = a 60 j := by
  unfold mSta mAt
  rw [u2_ne (by omega), u2_ne (by omega), u2_ne (by omega), u2_ne (by omega), u2_ne (by omega), u2_ne (by omega), u2_ne (by omega), u2_ne (by omega), u2_ne (by omega)]
theorem mSta_v : mSta a B n 60 0 = 0 ∧ mSta a B n 60 1 = 0 ∧ mSta a B n 60 2 = nI n ∧ mSta a B n 60 4 = nI (skB B n 0) ∧ mSta a B n 60 5 = 0 ∧ mSta a B n 60 6 = -1 ∧ mSta a B n 60 7 = 0 ∧ mSta a B n 60 8 = 0 := by
  unfold mSta mAt
  simp only [u2_at0]
  exact ⟨rfl, rfl, rfl, rfl, rfl, rfl, rfl, rfl⟩
theorem mSta_MT (hB : MB a B n) : MT (mSta a B n) B n (skB B n 0) := by
  have hv := mSta_v (a := a) (B := B) (n := n)
  exact ⟨hB.row (mSta_off (by decide)), hv.2.2.1, hv.2.2.2.1, (skB_le (B := B) (Nat.zero_le n)).2, hv.2.2.2.2.1⟩
theorem c_mSta {P : KN} (hr : Rk r) (hB : MB a B n) (hp : P (mSta a B n) r nK) : Sp G (d + 2) 0 0 MX12_starts [.ref 60, .int (nI n)] (u2 a 60 0 0, r, nK) (RN P) :=
  c_mStarts hr (hB.row (u2_off 61 (by decide))) hp
/-- a check that fails, first in its call -/
theorem c_mBad {P : KI} (hr : Rk r) (hw : ¬ w = 0) (hi : i < 3) (hw2 : ¬ x = 0) {wI : Int32} (hwI : ¬ wI = 0) (hp : P 1 (mBd a wI i) r nK) : Sp G d 0 0 MX12_bad [.ref 60, .int x, .int wI, .int (nI i)] (u2 a 60 0 0, r, nK) (RI P) := by
  refine c_mBad1 hr u2_eq hw2 hwI hi ?_
  have e : u2 (u2 (u2 a 60 0 0) 60 0 wI) 62 i (u2 a 60 0 0 62 i + 1) = mBd a wI i := by
    unfold mBd
    rw [u2_u2, u2_off 62 (by decide)]
  rw [e]
  exact hp
theorem c_mCityF {P : KI} (hr : Rk r) (h1 : a 60 1 = nI N) (hN : N ≤ 600)
    (hno : ¬ inT x 0 (nI N) → P 0 (mBd a 1 2) r nK)
    (hgo : ∀ n B, n ≤ N → x = nI n → (∀ i, i < n → a 61 i = B i) →
      (∀ l, pCity B n 61 0 0 0 0 0 = .inl l → ∀ nc ns ng a0 a1 a2, nc ≤ 10 → ns ≤ 8 → ng ≤ 8 → mCl (mSta a B n) a0 → (mAll l a0) 63 0 = nI nc → (mAll l a0) 63 1 = nI ns → (mAll l a0) 63 2 = nI ng → e6 (mAll l a0) a1 → mStd nc ns ng (u2 a1 60 3 (-1)) a2 → P (nI ns) a2 r nK) ∧
      (∀ k f, pCity B n 61 0 0 0 0 0 = .inr (k, f) → ∀ a0 a1, mCl (mSta a B n) a0 → mK a0 a1 → P (k - 10) (u2 a1 60 3 (nI f)) r nK)) :
    Sp G (d + 6) 0 0 MX12_city [.ref 60, .int x] (a, r, nK) (RI P) := by
  refine V_X12_city_0 ⟨rfl, by decide, fun a1 e1 => ⟨rfl, by decide, ?_⟩⟩
  subst e1
  have e1 : u2 a 60 0 0 60 1 = nI N := by rw [u2_ne (by decide)]; exact h1
  rw [e1]
  refine c_mIn (fun hin => ⟨fun _ => ⟨rfl, by decide, ?_⟩, fun h => absurd h (by decide)⟩) (fun hin => ⟨fun h => absurd rfl h, fun _ => ⟨rfl, by decide, ?_⟩⟩)
  · obtain ⟨n, hn, hx⟩ := nI_of2 (M := nI N) (n := N) (nI_toInt (by omega)) hin.1 (i_nlt.mp hin.2)
    subst hx
    have hB : MB a (fun i => a 61 i) n := ⟨by omega, fun _ _ => rfl⟩
    obtain ⟨hy, hf⟩ := hgo n (fun i => a 61 i) hn rfl (fun _ _ => rfl)
    generalize (fun i => a 61 i) = B at *
    have l1 := skB_le (B := B) (Nat.zero_le n)
    refine c_mBad0 u2_eq ⟨fun _ => ⟨rfl, by decide, c_mSta hr hB ⟨rfl, by decide, c_mTells hr (fun a0 h0 => ?_)⟩⟩, fun h => absurd rfl h⟩
    have hT := mSta_MT hB
    have hv := mSta_v (a := a) (B := B) (n := n)
    have e60 : a0 60 = mSta a B n 60 := h0.1 60 (by decide) (by omega) (by omega)
    have e61 : a0 61 = mSta a B n 61 := h0.1 61 (by decide) (by omega) (by omega)
    have eS : pCity B n 61 0 0 0 0 (skB B n 0) = pCity B n 61 0 0 0 0 0 := by
      rw [pCity, pCity, skB_skB (Nat.zero_le n)]
    refine l_mCity (B := B) (n := n) hr 61 0 0 0 0 (skB B n 0) a0 (by omega) (by omega) (hT.row e61 (by rw [e60]) (by rw [e60]) (by rw [e60])) (skB_skB (Nat.zero_le n)) (by rw [e60]; exact hv.2.2.2.2.2.2.1) (h0.2.1 0 (by decide)) (by omega) (h0.2.1 1 (by decide)) (by omega) (h0.2.1 2 (by decide)) (by omega) (fun l hl nc ns ng a1 a2 g1 g2 g3 g4 g5 g6 g7 g8 => ?_) (fun k f hl a1 g1 => ?_)
    · exact hy l (eS.symm.trans hl) nc ns ng a0 a1 a2 g1 g2 g3 h0 g4 g5 g6 g7 g8
    · exact hf k f (eS.symm.trans hl) a0 a1 h0 g1
  · refine c_mBad (w := 1) (wI := 1) (i := 2) hr (by decide) (by decide) (by decide) (by decide) ⟨fun h => absurd h (by decide), fun _ => hno hin⟩
end MCF
