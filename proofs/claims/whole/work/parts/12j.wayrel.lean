/-! Pure: ways, reach, bridges alike -/
/-- corners lie in 0..60 -/
def Cs (a : IA) (nc : Nat) : Prop := ∀ k, k < nc → ∃ x y, x ≤ 60 ∧ y ≤ 60 ∧ a (76 + 1 + k) 0 = nI x ∧ a (76 + 1 + k) 1 = nI y
def gUa (a : IA) (s : Nat) : Nat := (a (96 + 1 + s) 0).toNatClampNeg
def gVa (a : IA) (s : Nat) : Nat := (a (96 + 1 + s) 1).toNatClampNeg
def gLa (a : IA) (s : Nat) : Nat := (mLen a s).toNatClampNeg
section WYR
variable {a : IA} {T nc ns ng s t k m p q : Nat} {w but : Int32} {f0 : Nat → Int32}
theorem awy_n {x y : Nat} (hx : x ≤ 60) (hy : y ≤ 60) : ∃ z, z ≤ 60 ∧ awy (nI x) (nI y) = nI z := by
  unfold awy
  by_cases h : x ≤ y
  · rw [if_pos (nI_le h (by omega)), nI_sub h]; exact ⟨y - x, by omega, rfl⟩
  · rw [if_neg (fun z => h ((nI_leI (by omega) (by omega)).mp z)), nI_sub (by omega)]; exact ⟨x - y, by omega, rfl⟩
theorem gr_of (h : MtC a nc ns ng) (hC : Cs a nc) : Gr a nc ns (gUa a) (gVa a) (gLa a) := by
  obtain ⟨_, hc, _, h8, _, _, hs⟩ := h
  refine ⟨hc, h8, fun s h => ?_⟩
  obtain ⟨i, j, hi, hj, hij, e1, e2⟩ := hs s h
  obtain ⟨x, y, hx, hy, ex, ey⟩ := hC i hi
  obtain ⟨x', y', hx', hy', ex', ey'⟩ := hC j hj
  have eL : ∃ l, l ≤ 120 ∧ mLen a s = nI l := by
    unfold mLen
    rw [e1, e2, nI_clamp (by omega), nI_clamp (by omega), ex, ey, ex', ey']
    obtain ⟨z, hz, ez⟩ := awy_n hx hx'
    obtain ⟨z', hz', ez'⟩ := awy_n hy hy'
    rw [ez, ez', nI_add]
    exact ⟨z + z', by omega, rfl⟩
  obtain ⟨l, hl, el⟩ := eL
  unfold gUa gVa gLa
  rw [e1, e2, el, nI_clamp (by omega), nI_clamp (by omega), nI_clamp (by omega)]
  exact ⟨hi, hj, hij, rfl, rfl, rfl, hl⟩
theorem grC_of (h : Tw a T nc ns ng) (hC : Cs a nc) : GrC a T nc ns (gUa a) (gVa a) (gLa a) := by
  obtain ⟨hc, h8, hs⟩ := gr_of h.1 hC
  refine ⟨hc, h8, fun s h' => ?_⟩
  obtain ⟨a1, a2, a3, a4, a5, a6, a7⟩ := hs s h'
  have e := h.2.2.2.2.2.1 s h'
  exact ⟨a1, a2, a3, e.1.trans a4, e.2.1.trans a5, e.2.2.2.2.trans a6, a7⟩
theorem tw_way (h : Tw a T nc ns ng) (hC : Cs a nc) (hp : p < nc) (hq : q < nc) : stp (rSpread a T nc ns (nI p) but f0) (nI q) = wayF a ns but p q :=
  Ds.uniq (spread_D (grC_of h hC) hp hq) (way_D (gr_of h.1 hC) hp hq)
theorem tw_bridges (h : Tw a T nc ns ng) (hC : Cs a nc) : (brX a T nc ns).1 = (lpM (mBr a ns) ns 0 (0, -1)).1 ∧ (brX a T nc ns).2.1 = (lpM (mBr a ns) ns 0 (0, -1)).2 := by
  have h8 := h.1.2.2.2.1
  have gr := gr_of h.1 hC
  let c : Nat → Bool := fun k => !decide (wayF a ns (nI k) (gUa a k) (gVa a k) = -1)
  have e1 : lpM (mBr a ns) ns 0 (0, -1) = lpM (fun k (x : Int32 × Int32) => if c k then x else (x.1 + 1, if x.1 = 0 then nI k else x.2)) ns 0 (0, -1) := by
    refine lpM_cg _ _ _ (fun k y _ _ => ?_)
    show (if wayF a ns (nI k) (gUa a k) (gVa a k) = -1 then _ else y) = if (!decide (wayF a ns (nI k) (gUa a k) (gVa a k) = -1)) = true then y else _
    by_cases hc : wayF a ns (nI k) (gUa a k) (gVa a k) = -1
    · rw [if_pos hc, if_neg (show ¬ (!decide (wayF a ns (nI k) (gUa a k) (gVa a k) = -1)) = true by rw [decide_eq_true hc]; decide)]
    · rw [if_neg hc, if_pos (show (!decide (wayF a ns (nI k) (gUa a k) (gVa a k) = -1)) = true by rw [decide_eq_false hc]; rfl)]
  rw [e1, lp_cnt _ (by omega)]
  have e2 := dn_cnt (R := fun (x : Br) (y : Int32 × Int32) => x.1 = y.1 ∧ x.2.1 = y.2) (c := c) (g := brS a T nc ns) ns (0, -1, a 56) 0 (-1) ⟨rfl, rfl⟩ (fun k x y hk ⟨q1, q2⟩ => by
    obtain ⟨a1, a2, a3, a4, a5, a6, a7⟩ := gr.2.2 k hk
    have e := h.2.2.2.2.2.1 k hk
    have key : stp (brF a T nc ns k x) (rAt (a (T + 4)) 8 (nI k)) = wayF a ns (nI k) (gUa a k) (gVa a k) := by
      unfold brF
      rw [rAt_nI _ (by decide) (by omega), rAt_nI _ (by decide) (by omega), e.1, e.2.1, a4, a5]
      exact tw_way h hC a1 a2
    unfold brS
    rw [key]
    by_cases hc : wayF a ns (nI k) (gUa a k) (gVa a k) = -1
    · rw [if_pos hc, if_neg (show ¬ c k = true by show ¬ (!decide (wayF a ns (nI k) (gUa a k) (gVa a k) = -1)) = true; rw [decide_eq_true hc]; decide)]
      exact ⟨by show x.1 + 1 = y.1 + 1; rw [q1], rfl⟩
    · rw [if_neg hc, if_pos (show c k = true by show (!decide (wayF a ns (nI k) (gUa a k) (gVa a k) = -1)) = true; rw [decide_eq_false hc]; rfl)]
      exact ⟨q1, q2⟩)
  unfold brX
  rw [Int32.zero_add] at e2
  exact e2
end WYR
