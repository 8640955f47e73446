/-! Pure: missing numbers alike -/
/-- counted with Nats: house numbers k.. of which neither house has -/
def misN (r1 H1 r2 H2 : Nat) : Nat → Nat → Nat → Nat
  | 0, _, c => c
  | n + 1, k, c => misN r1 H1 r2 H2 n (k + 1) (c + if lfHouse (nI r1) (nI H1) (nI k) ≤ 0 ∧ lfHouse (nI r2) (nI H2) (nI k) ≤ 0 then 1 else 0)
/-- a single street -/
def misS (H1 : Nat) : Nat → Nat → Nat → Nat
  | 0, _, c => c
  | n + 1, k, c => misS H1 n (k + 1) (c + if lfHouse 0 (nI H1) (nI k) ≤ 0 then 1 else 0)
theorem misS_all : ∀ H, H ≤ 20 → misS H H 1 0 = 0 := by decide +kernel
theorem misN_12 : ∀ H1, H1 ≤ 20 → ∀ H2, H2 ≤ 20 → 1 ≤ H1 → 1 ≤ H2 → misN 1 H1 2 H2 (max (2 * H1 - 1) (2 * H2)) 1 0 + (H1 + H2) = max (2 * H1 - 1) (2 * H2) := by decide +kernel
