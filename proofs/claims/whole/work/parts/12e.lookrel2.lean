/-! Pure: the next letter alike, put together -/
theorem dnM_cg {χ : Type} {g g' : Nat → χ → χ} : ∀ (n : Nat) (x : χ), (∀ k x, k < n → g k x = g' k x) → dnM g n x = dnM g' n x
  | 0, x, _ => by rw [dnM, dnM]
  | n + 1, x, h => by rw [dnM, dnM, h n x (by omega)]; exact dnM_cg n _ (fun k x hk => h k x (by omega))
section LKR
variable {a : IA} {T nc ns ng s t k m n r : Nat} {w x y z : Int32} {lw : List Int32} {ml : List Ln}
theorem house_b : ∀ r, r ≤ 2 → ∀ H, H ≤ 20 → ∀ n, n ≤ 41 → (lfHouse (nI r) (nI H) (nI n)).toInt.toNat < 21 ∧ lfHouse (nI r) (nI H) (nI n) = nI (lfHouse (nI r) (nI H) (nI n)).toInt.toNat := by decide +kernel
theorem hN_b (h : Tw a T nc ns ng) (hH : Hs a ns) (hs : s < ns) (hr : r ≤ 2) (hn : n ≤ 41) : hN a s n r < 21 ∧ lfHouse (nI r) (rAt (a (T + 5)) 8 (nI s)) (nI n) = nI (hN a s n r) := by
  have h8 := h.1.2.2.2.1
  have e := h.2.2.2.2.2.1 s hs
  obtain ⟨H, _, hH2, eH⟩ := hH s hs
  have b := house_b r hr H hH2 n hn
  have eh := tw_house2 h hH hs hr hn
  unfold hN
  rw [← eh, rAt_nI _ (by decide) (by omega), e.2.2.1, eH]
  generalize lfHouse (nI r) (nI H) (nI n) = v at b
  obtain ⟨b1, b2⟩ := b
  rw [b2, nI_clamp (by omega)]
  exact ⟨b1, rfl⟩
theorem comes_F {f0 : Nat → Int32} {x0 x1 x2 A B C : Nat} (h : Nat) : upd (upd (upd (fun _ => 0) x0 ((fun _ => (0 : Int32)) x0 + nI C)) x1 ((upd (fun _ => 0) x0 ((fun _ => (0 : Int32)) x0 + nI C)) x1 + nI A)) x2 (upd (upd (fun _ => 0) x0 ((fun _ => (0 : Int32)) x0 + nI C)) x1 ((upd (fun _ => 0) x0 ((fun _ => (0 : Int32)) x0 + nI C)) x1 + nI A) x2 + nI B) h = nI (wF x0 x1 x2 A B C h) := by
  have z : (0 : Int32) = nI 0 := rfl
  unfold wF upd
  by_cases h2 : h = x2
  · rw [if_pos h2, if_pos h2]
    subst h2
    by_cases h1 : h = x1
    · rw [if_pos h1, if_pos h1]
      subst h1
      by_cases h0 : h = x0
      · rw [if_pos h0, if_pos h0, z, nI_add, nI_add, nI_add, Nat.zero_add]
      · rw [if_neg h0, if_neg h0, z, nI_add, nI_add]
    · rw [if_neg h1, if_neg h1]
      by_cases h0 : h = x0
      · rw [if_pos h0, if_pos h0, z, nI_add, nI_add, Nat.zero_add, Nat.add_zero]
      · rw [if_neg h0, if_neg h0, z, nI_add]
  · rw [if_neg h2, if_neg h2]
    by_cases h1 : h = x1
    · rw [if_pos h1, if_pos h1]
      subst h1
      by_cases h0 : h = x0
      · rw [if_pos h0, if_pos h0, z, nI_add, nI_add, Nat.zero_add, Nat.add_zero]
      · rw [if_neg h0, if_neg h0, z, nI_add, Nat.add_zero]
    · rw [if_neg h1, if_neg h1]
      by_cases h0 : h = x0
      · rw [if_pos h0, if_pos h0, z, nI_add, Nat.zero_add]; rfl
      · rw [if_neg h0, if_neg h0, z]
theorem worst_eq (h : Tw a T nc ns ng) (hH : Hs a ns) (hs : s < ns) (hn : n ≤ 41) {A B C : Nat} (hA : A ≤ 8) (hB : B ≤ 8) (hC : C ≤ 8)
    (eA : mOnes (mMates a lw ml ns s 1) = nI A) (eB : mOnes (mMates a lw ml ns s 2) = nI B) (eC : mOnes (mMates a lw ml ns s 0) = nI C) :
    mWorst (mComes a lw ml ns s n) = nI (w3 (hN a s n 0) (hN a s n 1) (hN a s n 2) A B C) ∧ lfWorst (rAt (a (T + 5)) 8 (nI s)) (nI n) (nI A) (nI B) (nI C) = nI (w3 (hN a s n 0) (hN a s n 1) (hN a s n 2) A B C) := by
  have b0 := hN_b (r := 0) (n := n) h hH hs (by omega) hn
  have b1 := hN_b (r := 1) (n := n) h hH hs (by omega) hn
  have b2 := hN_b (r := 2) (n := n) h hH hs (by omega) hn
  refine ⟨?_, worst3 (by omega) (by omega) (by omega) b0.1 b1.1 b2.1 b0.2 b1.2 b2.2⟩
  have hf : ∀ j, mComes a lw ml ns s n j = nI (wF (hN a s n 0) (hN a s n 1) (hN a s n 2) A B C j) := by
    intro j
    rw [← comes_F (f0 := fun _ => 0) j, ← eA, ← eB, ← eC]
    rfl
  obtain ⟨v, hv, e, h1, h2⟩ := worst_up (f := mComes a lw ml ns s n) hf (fun j => by have := wF_le (hN a s n 0) (hN a s n 1) (hN a s n 2) A B C j; omega) 21
  unfold mWorst
  rw [e, w3_is b0.1 b1.1 b2.1 h1 h2]
theorem tw_look (h : Tw a T nc ns ng) (hR : Rw ns (a 44) (a 582)) (hH : Hs a ns) (hm : PlB ml) (hs : s < ns) : lkX a T ns lw ml (nI s) = mLkX a lw ml ns s := by
  have h8 := h.1.2.2.2.1
  have e1 := mtB_eq (lw := lw) (r := 1) h hR hH hm hs (Or.inl rfl)
  have e2 := mtB_eq (lw := lw) (r := 2) h hR hH hm hs (Or.inr rfl)
  have e0 := mtA_eq (lw := lw) h hH hm hs
  obtain ⟨A, hA, eA⟩ := ones_n (a := a) (lw := lw) (ml := ml) (s := s) (w := 1) h8
  obtain ⟨B, hB, eB⟩ := ones_n (a := a) (lw := lw) (ml := ml) (s := s) (w := 2) h8
  obtain ⟨C, hC, eC⟩ := ones_n (a := a) (lw := lw) (ml := ml) (s := s) (w := 0) h8
  unfold lkX mLkX
  rw [show mtB a T ns lw ml 1 (nI s) = mMates a lw ml ns s 1 from e1, show mtB a T ns lw ml 2 (nI s) = mMates a lw ml ns s 2 from e2, e0, ones_bc h8, ones_bc h8, ones_0, eA, eB, eC, nI_add, nI_add, nI_1]
  let bad : Nat → Bool := fun n => hasN ml (nI n)
  let W : Nat → Nat := fun n => w3 (hN a s n 0) (hN a s n 1) (hN a s n 2) A B C
  have hW : ∀ n, W n < A + B + C + 1 := fun n => by have := w3_le (hN a s n 0) (hN a s n 1) (hN a s n 2) A B C; exact Nat.lt_succ_of_le this
  have hW2 : ∀ n, W n < 1000 := fun n => by have := hW n; omega
  have d1 : dnM (fun k => lkS (rAt (a (T + 5)) 8 (nI s)) ml (nI A) (nI B) (nI C) (k + 1)) 40 (-1, nI (A + B + C + 1)) = dnM (fun k (x : Int32 × Int32) => if bad (k + 1) = true then x else if x.2 < nI (W (k + 1)) then x else (nI (k + 1), nI (W (k + 1)))) 40 (-1, nI (A + B + C + 1)) := by
    refine dnM_cg 40 _ (fun k x hk => ?_)
    have e := (worst_eq (n := k + 1) h hH hs (by omega) hA hB hC eA eB eC).2
    show lkS (rAt (a (T + 5)) 8 (nI s)) ml (nI A) (nI B) (nI C) (k + 1) x = _
    unfold lkS
    rw [e]
  have d2 : lpM (mLkS a lw ml ns s) 40 1 (-1, -1) = lpM (fun n (x : Int32 × Int32) => if bad n = true ∨ (¬ x.1 = -1 ∧ ¬ nI (W n) < x.2) then x else (nI n, nI (W n))) 40 1 (-1, -1) := by
    refine lpM_cg _ _ _ (fun n y h1 h2 => ?_)
    unfold mLkS
    rw [(worst_eq (n := n) h hH hs (by omega) hA hB hC eA eB eC).1]
  rw [d1, d2]
  have no : ¬ ∀ n, 1 ≤ n → n < 41 → bad n = true := fun z => by
    have := hasN_many 9 ml (by decide) (fun n h1 h2 => z n h1 (by omega))
    have := hm.1
    omega
  rcases look_dn (bad := bad) (W := W) (M := A + B + C + 1) hW hW2 (by omega) 40 (-1, nI (A + B + C + 1)) (Nat.le_refl _) (Or.inl ⟨rfl, fun n h1 h2 => by omega⟩) with ⟨_, z⟩ | ⟨n, h1, q1⟩
  · exact absurd z no
  rcases look_up (bad := bad) (W := W) hW2 40 (Nat.le_refl _) with ⟨_, z⟩ | ⟨n', h2, q2⟩
  · exact absurd z no
  rw [q1, q2, h1.uniq h2]
end LKR
