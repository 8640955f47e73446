/-! Pure: missing numbers alike -/
/-- counted with Nats: house numbers k.. of which neither house has -/
def misN (r1 H1 r2 H2 : Nat) : Nat → Nat → Nat → Nat
  | 0, _, c => c
  | n + 1, k, c => misN r1 H1 r2 H2 n (k + 1) (c + if lfHouse (nI r1) (nI H1) (nI k) ≤ 0 ∧ lfHouse (nI r2) (nI H2) (nI k) ≤ 0 then 1 else 0)
/-- a single street -/
def misS (H1 : Nat) : Nat → Nat → Nat → Nat
  | 0, _, c => c
  | n + 1, k, c => misS H1 n (k + 1) (c + if lfHouse 0 (nI H1) (nI k) ≤ 0 then 1 else 0)
theorem misS_all : ∀ H, H ≤ 20 → misS H H 1 0 = 0 := by decide +kernel
theorem misN_12 : ∀ H1, H1 ≤ 20 → ∀ H2, H2 ≤ 20 → 1 ≤ H1 → 1 ≤ H2 → misN 1 H1 2 H2 (max (2 * H1 - 1) (2 * H2)) 1 0 + (H1 + H2) = max (2 * H1 - 1) (2 * H2) := by decide +kernel
theorem misN_21 : ∀ H1, H1 ≤ 20 → ∀ H2, H2 ≤ 20 → 1 ≤ H1 → 1 ≤ H2 → misN 2 H1 1 H2 (max (2 * H1) (2 * H2 - 1)) 1 0 + (H1 + H2) = max (2 * H1) (2 * H2 - 1) := by decide +kernel
section MIS
variable {a : IA} {T nc ns ng s t k m : Nat} {w : Int32}
theorem mHouse_l {r H n : Nat} (hr : r ≤ 2) (hH : H ≤ 20) (hn : n ≤ 41) (eH : a (96 + 1 + s) 2 = nI H) (er : mHow a s = nI r) : mHouse a s (nI n) (mHow a s) = lfHouse (nI r) (nI H) (nI n) := by
  rw [house_all r hr H hH n hn, er]
  unfold mHouse
  rw [eH]
theorem let_pos {r H n : Nat} (hs : s < 8) (hr : r ≤ 2) (hH : H ≤ 20) (hn : n ≤ 40) (eH : a (96 + 1 + s) 2 = nI H) : ¬ 100 * nI s + mHouse a s (nI n) (nI r) = -1 := by
  obtain ⟨j, hj, e⟩ := mHouse_b (a := a) (s := s) (n := n) (how := r) hn hH eH
  rw [e, show (100 : Int32) = nI 100 from rfl, nI_mul, nI_add]
  exact nI_n1 (by omega)
theorem let_2 {r1 r2 H1 H2 n : Nat} (hs : s < 8) (hm : m < 8) (q : a 582 s = nI m) (hr1 : r1 ≤ 2) (hr2 : r2 ≤ 2) (hH1 : H1 ≤ 20) (hH2 : H2 ≤ 20) (hn : n ≤ 40) (e1 : a (96 + 1 + s) 2 = nI H1) (e2 : a (96 + 1 + m) 2 = nI H2) (g1 : mHow a s = nI r1) (g2 : mHow a m = nI r2) :
    mLet a s (nI n) = -1 ↔ lfHouse (nI r1) (nI H1) (nI n) ≤ 0 ∧ lfHouse (nI r2) (nI H2) (nI n) ≤ 0 := by
  unfold mLet
  rw [q, nI_clamp (by omega), if_neg (nI_n1 (show m < 2 ^ 31 by omega))]
  have p1 := let_pos (a := a) (n := n) hs hr1 hH1 hn e1
  have p2 := let_pos (a := a) (n := n) hm hr2 hH2 hn e2
  rw [← g1] at p1
  rw [← g2] at p2
  have l1 := mHouse_l (a := a) (s := s) (n := n) hr1 hH1 (by omega) e1 g1
  have l2 := mHouse_l (a := a) (s := m) (n := n) hr2 hH2 (by omega) e2 g2
  rw [← l1, ← l2]
  by_cases c1 : mHouse a s (nI n) (mHow a s) ≤ 0
  · rw [if_pos c1]
    by_cases c2 : mHouse a m (nI n) (mHow a m) ≤ 0
    · rw [if_pos c2]; exact ⟨fun _ => ⟨c1, c2⟩, fun _ => rfl⟩
    · rw [if_neg c2]; exact ⟨fun z => absurd z p2, fun z => absurd z.2 c2⟩
  · rw [if_neg c1]; exact ⟨fun z => absurd z p1, fun z => absurd z.1 c1⟩
theorem mis_2 {r1 r2 H1 H2 : Nat} (hs : s < 8) (hm : m < 8) (q : a 582 s = nI m) (hr1 : r1 ≤ 2) (hr2 : r2 ≤ 2) (hH1 : H1 ≤ 20) (hH2 : H2 ≤ 20) (e1 : a (96 + 1 + s) 2 = nI H1) (e2 : a (96 + 1 + m) 2 = nI H2) (g1 : mHow a s = nI r1) (g2 : mHow a m = nI r2) :
    ∀ (n k c : Nat), k + n ≤ 41 → mMis a s n k (nI c) = nI (misN r1 H1 r2 H2 n k c)
  | 0, _, _, _ => rfl
  | n + 1, k, c, h => by
    have l := let_2 (n := k) hs hm q hr1 hr2 hH1 hH2 (by omega) e1 e2 g1 g2
    rw [mMis, misN]
    by_cases z : mLet a s (nI k) = -1
    · rw [if_pos z, if_pos (l.mp z), nI_1]
      exact mis_2 hs hm q hr1 hr2 hH1 hH2 e1 e2 g1 g2 n (k + 1) (c + 1) (by omega)
    · rw [if_neg z, if_neg (fun y => z (l.mpr y)), Int32.add_zero]
      exact mis_2 hs hm q hr1 hr2 hH1 hH2 e1 e2 g1 g2 n (k + 1) (c + 0) (by omega)
theorem mis_1 {H1 : Nat} (hs : s < 8) (q : a 582 s = -1) (hH1 : H1 ≤ 20) (e1 : a (96 + 1 + s) 2 = nI H1) : ∀ (n k c : Nat), k + n ≤ 41 → mMis a s n k (nI c) = nI (misS H1 n k c)
  | 0, _, _, _ => rfl
  | n + 1, k, c, h => by
    have g1 : mHow a s = nI 0 := by unfold mHow; rw [if_pos q]; rfl
    have p1 := let_pos (a := a) (n := k) (r := 0) hs (by omega) hH1 (by omega) e1
    rw [← g1] at p1
    have l1 := mHouse_l (a := a) (s := s) (n := k) (by omega) hH1 (by omega) e1 g1
    have l : mLet a s (nI k) = -1 ↔ lfHouse 0 (nI H1) (nI k) ≤ 0 := by
      have l1 : mHouse a s (nI k) (mHow a s) = lfHouse 0 (nI H1) (nI k) := l1
      unfold mLet
      rw [if_pos q, ← l1]
      by_cases c1 : mHouse a s (nI k) (mHow a s) ≤ 0
      · rw [if_pos c1]; exact ⟨fun _ => c1, fun _ => rfl⟩
      · rw [if_neg c1]; exact ⟨fun z => absurd z p1, fun z => absurd z c1⟩
    rw [mMis, misS]
    by_cases z : mLet a s (nI k) = -1
    · rw [if_pos z, if_pos (l.mp z), nI_1]
      exact mis_1 hs q hH1 e1 n (k + 1) (c + 1) (by omega)
    · rw [if_neg z, if_neg (fun y => z (l.mpr y)), Int32.add_zero]
      exact mis_1 hs q hH1 e1 n (k + 1) (c + 0) (by omega)
end MIS
