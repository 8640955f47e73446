/-! Pure: bits counted alike; liking -/
theorem bc_ones : ∀ n, n < 256 → bcI (nI n) = mOnes (nI n) := by decide +kernel
section BTR
variable {a : IA} {T nc ns ng s t : Nat} {m : Nat → Int32}
theorem tw_heat (h : Tw a T nc ns ng) (hs : s < ns) (hm : m s = -1 ∨ ∃ t, t < 8 ∧ m s = nI t) : ctLiking a T (nI s) (m s) = mHeat a m s := by
  have h8 := h.1.2.2.2.1
  unfold mHeat
  rcases hm with h0 | ⟨t, ht, e⟩
  · rw [h0, if_pos rfl]
    unfold ctLiking
    rw [if_pos rfl]
  · rw [e, if_neg (nI_n1 (by omega)), nI_clamp (by omega)]
    exact tw_likes h (by omega) (by omega)
/-- how warm a matching is -/
theorem tw_warm (h : Tw a T nc ns ng) (hm : wfQ ns m) (n : Nat) (hn : n ≤ ns) : wfC a T n m = mWarm a n m := by
  unfold wfC mWarm
  refine sI_congr (fun s hs => tw_heat h (by omega) ?_)
  exact hm s (by omega)
end BTR
