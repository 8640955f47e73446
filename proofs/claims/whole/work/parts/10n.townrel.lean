/-! Pure: the class's town and the reference's -/
/-- both tell the same town -/
def Tw (a : IA) (T nc ns ng : Nat) : Prop := MtC a nc ns ng ∧ a T 0 = nI nc ∧ a T 1 = nI ns ∧ a T 2 = nI ng ∧
  (∀ k, k < nc → a (T + 1) k = a (76 + 1 + k) 0 ∧ a (T + 2) k = a (76 + 1 + k) 1) ∧
  (∀ s, s < ns → a (T + 3) s = a (96 + 1 + s) 0 ∧ a (T + 4) s = a (96 + 1 + s) 1 ∧ a (T + 5) s = a (96 + 1 + s) 2 ∧ a (T + 6) s = a (96 + 1 + s) 3 ∧ a (T + 7) s = mLen a s) ∧
  (∀ g, g < ng → a (T + 10) g = a (150 + 1 + g) 0 ∧ a (T + 11) g = a (150 + 1 + g) 1) ∧
  (∀ s o, s < 8 → o < 8 → a (T + 8) (s * 8 + o) = a (114 + 1 + s) o) ∧
  (∀ s o, s < 8 → o < 8 → ((a (T + 9) s >>> (nI o &&& 31)) &&& 1 = 1 ↔ a (132 + 1 + s) o = 1))
section TWN
variable {a : IA} {T nc ns ng s t k m : Nat} {w : Int32}
theorem iAbs_awy {i j : Nat} (hi : i < 2 ^ 30) (hj : j < 2 ^ 30) : iAbs (nI i - nI j) = awy (nI i) (nI j) := by
  have e : ∀ {k : Nat}, k < 2 ^ 31 → (nI k).toInt = k := fun h => by unfold nI; exact Int32.toInt_ofNat_of_lt h
  unfold iAbs awy
  by_cases h : i ≤ j
  · rw [if_pos (nI_le h (by omega))]
    by_cases h2 : i = j
    · subst h2
      rw [Int32.sub_self, if_pos (Int32.le_refl _)]
    · have hlt : ¬ (0 : Int32) ≤ nI i - nI j := by
        intro z
        rw [Int32.le_iff_toInt_le, Int32.toInt_sub, e (by omega), e (by omega), Int.bmod_eq_of_le (by omega) (by omega)] at z
        have z : (0 : Int) ≤ (i : Int) - j := z
        omega
      rw [if_neg hlt, Int32.zero_sub, Int32.neg_sub]
  · rw [if_neg (show ¬ nI i ≤ nI j from fun z => h ((nI_leI (by omega) (show j < 2 ^ 31 by omega)).mp z)), nI_sub (by omega), if_pos (nI_pos' (by omega))]
theorem tw_common (h : Tw a T nc ns ng) (hs : s < ns) (ht : t < ns) : ctCommon a T (nI s) (nI t) = mCross a s t := by
  have h8 := h.1.2.2.2.1
  have e1 := h.2.2.2.2.2.1 s hs
  have e2 := h.2.2.2.2.2.1 t ht
  unfold ctCommon mCross mCr1
  rw [rAt_nI _ (by decide) (by omega), rAt_nI _ (by decide) (by omega), rAt_nI _ (by decide) (by omega), rAt_nI _ (by decide) (by omega), e1.1, e1.2.1, e2.1, e2.2.1]
theorem tw_first (h : Tw a T nc ns ng) (hs : s < ns) : ctFirst a T (nI s) = a (96 + 1 + s) 3 := by
  have h8 := h.1.2.2.2.1
  unfold ctFirst
  rw [h.2.2.1, if_neg (show ¬ nI ns ≤ nI s from fun z => absurd ((nI_leI (by omega) (show s < 2 ^ 31 by omega)).mp z) (by omega)), rAt_nI _ (by decide) (by omega)]
  exact (h.2.2.2.2.2.1 s hs).2.2.2.1
theorem tw_first0 (h : Tw a T nc ns ng) (h1 : ns ≤ s) (h2 : s < 8) : ctFirst a T (nI s) = 0 := by
  have h8 := h.1.2.2.2.1
  unfold ctFirst
  rw [h.2.2.1, if_pos (nI_le h1 (by omega))]
theorem tw_likes (h : Tw a T nc ns ng) (hs : s < 8) (ht : t < 8) : ctLiking a T (nI s) (nI t) = a (114 + 1 + s) t := by
  unfold ctLiking
  rw [if_neg (nI_n1 (by omega)), show nI s * 8 + nI t = nI (s * 8 + t) by rw [show (8 : Int32) = nI 8 from rfl, nI_mul, nI_add], rAt_nI _ (by decide) (by omega)]
  exact h.2.2.2.2.2.2.2.1 s t hs ht
theorem tw_never (h : Tw a T nc ns ng) (hs : s < 8) (ht : t < 8) : ctNever a T (nI s) (nI t) = if a (132 + 1 + s) t = 1 then 1 else 0 := by
  unfold ctNever
  rw [rAt_nI _ (by decide) (by omega)]
  have := h.2.2.2.2.2.2.2.2 s t hs ht
  by_cases c : a (132 + 1 + s) t = 1
  · rw [if_pos c, if_pos (this.mpr c)]
  · rw [if_neg c, if_neg (fun z => c (this.mp z))]
end TWN
