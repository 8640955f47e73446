/-! Pure: the next letter alike -/
theorem hasN_split {l : List Ln} {x : Int32} (h : hasN l x = true) : ∃ l1 v l2, l = l1 ++ v :: l2 ∧ v.1 = x := by
  unfold hasN at h
  obtain ⟨v, hv, e⟩ := List.any_eq_true.mp h
  obtain ⟨l1, l2, e2⟩ := List.append_of_mem hv
  exact ⟨l1, v, l2, e2, of_decide_eq_true e⟩
theorem hasN_many : ∀ (k : Nat) (l : List Ln), k < 2 ^ 31 → (∀ n, 1 ≤ n → n ≤ k → hasN l (nI n) = true) → k ≤ l.length
  | 0, _, _, _ => Nat.zero_le _
  | k + 1, l, hk, h => by
    obtain ⟨l1, v, l2, rfl, e⟩ := hasN_split (h (k + 1) (by omega) (Nat.le_refl _))
    have := hasN_many k (l1 ++ l2) (by omega) (fun n h1 h2 => by
      have q := h n h1 (by omega)
      unfold hasN at q ⊢
      rw [List.any_append, List.any_cons] at q
      rw [List.any_append]
      have : decide (v.1 = nI n) = false := decide_eq_false (fun z => by
        rw [e] at z
        have := (nI_eq (by omega) (by omega)).mp z
        omega)
      rw [this, Bool.false_or] at q
      exact q)
    rw [List.length_append] at this ⊢
    rw [List.length_cons]
    omega
/-- the least place of the least value among lo, .., hi - 1 that are not left out -/
def BestL (bad : Nat → Bool) (W : Nat → Nat) (lo hi n : Nat) : Prop := lo ≤ n ∧ n < hi ∧ bad n = false ∧ ∀ m, lo ≤ m → m < hi → bad m = false → W n ≤ W m ∧ (m < n → W n < W m)
theorem BestL.uniq {bad : Nat → Bool} {W : Nat → Nat} {lo hi n m : Nat} (h1 : BestL bad W lo hi n) (h2 : BestL bad W lo hi m) : n = m := by
  have a1 := h1.2.2.2 m h2.1 h2.2.1 h2.2.2.1
  have a2 := h2.2.2.2 n h1.1 h1.2.1 h1.2.2.1
  by_cases c : n < m
  · have := a2.2 c; omega
  by_cases c2 : m < n
  · have := a1.2 c2; omega
  omega
theorem look_dn {bad : Nat → Bool} {W : Nat → Nat} {M : Nat} (hM : ∀ n, W n < M) (hW : ∀ n, W n < 1000) (hM2 : M < 1000) : ∀ (c : Nat) (x : Int32 × Int32), c ≤ 40 →
    ((x = (-1, nI M) ∧ ∀ n, c + 1 ≤ n → n < 41 → bad n = true) ∨ ∃ n, BestL bad W (c + 1) 41 n ∧ x = (nI n, nI (W n))) →
    ((dnM (fun k (x : Int32 × Int32) => if bad (k + 1) = true then x else if x.2 < nI (W (k + 1)) then x else (nI (k + 1), nI (W (k + 1)))) c x = (-1, nI M) ∧ ∀ n, 1 ≤ n → n < 41 → bad n = true) ∨
      ∃ n, BestL bad W 1 41 n ∧ dnM (fun k (x : Int32 × Int32) => if bad (k + 1) = true then x else if x.2 < nI (W (k + 1)) then x else (nI (k + 1), nI (W (k + 1)))) c x = (nI n, nI (W n)))
  | 0, x, _, h => by rw [dnM]; exact h
  | c + 1, x, hc, h => by
    rw [dnM]
    refine look_dn hM hW hM2 c _ (by omega) ?_
    cases hb : bad (c + 1) with
    | true =>
      rw [if_pos rfl]
      rcases h with ⟨e, h⟩ | ⟨n, h, e⟩
      · exact Or.inl ⟨e, fun n h1 h2 => by
          by_cases q : n = c + 1
          · rw [q]; exact hb
          · exact h n (by omega) h2⟩
      · refine Or.inr ⟨n, ⟨by have := h.1; omega, h.2.1, h.2.2.1, fun m h1 h2 h3 => ?_⟩, e⟩
        by_cases q : m = c + 1
        · rw [q, hb] at h3; cases h3
        · exact h.2.2.2 m (by omega) h2 h3
    | false =>
      rw [if_neg nft]
      rcases h with ⟨e, h⟩ | ⟨n, h, e⟩
      · rw [e, if_neg (show ¬ nI M < nI (W (c + 1)) from fun z => by
          have := (nI_ltI (by omega) (by have := hW (c + 1); omega)).mp z
          have := hM (c + 1)
          omega)]
        refine Or.inr ⟨c + 1, ⟨Nat.le_refl _, by omega, hb, fun m h1 h2 h3 => ?_⟩, rfl⟩
        by_cases q : m = c + 1
        · rw [q]; exact ⟨Nat.le_refl _, fun z => absurd z (Nat.lt_irrefl _)⟩
        · rw [h m (by omega) h2] at h3; cases h3
      · rw [e]
        have w1 := hW (c + 1)
        have w2 := hW n
        by_cases q : W n < W (c + 1)
        · rw [if_pos (show nI (W n) < nI (W (c + 1)) from nI_lt q (by omega))]
          refine Or.inr ⟨n, ⟨by have := h.1; omega, h.2.1, h.2.2.1, fun m h1 h2 h3 => ?_⟩, rfl⟩
          by_cases z : m = c + 1
          · rw [z]; exact ⟨by omega, fun _ => q⟩
          · exact h.2.2.2 m (by omega) h2 h3
        · rw [if_neg (show ¬ nI (W n) < nI (W (c + 1)) from fun z => q ((nI_ltI (by omega) (by omega)).mp z))]
          refine Or.inr ⟨c + 1, ⟨Nat.le_refl _, by omega, hb, fun m h1 h2 h3 => ?_⟩, rfl⟩
          by_cases z : m = c + 1
          · rw [z]; exact ⟨Nat.le_refl _, fun y => absurd y (Nat.lt_irrefl _)⟩
          · have := (h.2.2.2 m (by omega) h2 h3).1
            exact ⟨by omega, fun y => by omega⟩
theorem look_up {bad : Nat → Bool} {W : Nat → Nat} (hW : ∀ n, W n < 1000) : ∀ (c : Nat), c ≤ 40 →
    ((lpM (fun n (x : Int32 × Int32) => if bad n = true ∨ (¬ x.1 = -1 ∧ ¬ nI (W n) < x.2) then x else (nI n, nI (W n))) c 1 (-1, -1) = (-1, -1) ∧ ∀ n, 1 ≤ n → n < c + 1 → bad n = true) ∨
      ∃ n, BestL bad W 1 (c + 1) n ∧ lpM (fun n (x : Int32 × Int32) => if bad n = true ∨ (¬ x.1 = -1 ∧ ¬ nI (W n) < x.2) then x else (nI n, nI (W n))) c 1 (-1, -1) = (nI n, nI (W n)))
  | 0, _ => Or.inl ⟨rfl, fun n h1 h2 => by omega⟩
  | c + 1, hc => by
    rw [lpM_snoc, Nat.add_comm 1 c]
    cases hb : bad (c + 1) with
    | true =>
      rcases look_up (bad := bad) hW c (by omega) with ⟨e, h⟩ | ⟨n, h, e⟩
      · rw [e, if_pos (Or.inl rfl)]
        exact Or.inl ⟨rfl, fun n h1 h2 => by
          by_cases q : n = c + 1
          · rw [q]; exact hb
          · exact h n h1 (by omega)⟩
      · rw [e, if_pos (Or.inl rfl)]
        refine Or.inr ⟨n, ⟨h.1, by have := h.2.1; omega, h.2.2.1, fun m h1 h2 h3 => ?_⟩, rfl⟩
        by_cases q : m = c + 1
        · rw [q, hb] at h3; cases h3
        · exact h.2.2.2 m h1 (by omega) h3
    | false =>
      have w1 := hW (c + 1)
      rcases look_up (bad := bad) hW c (by omega) with ⟨e, h⟩ | ⟨n, h, e⟩
      · rw [e, if_neg (fun z => z.elim (fun y => Bool.noConfusion y) (fun y => y.1 rfl))]
        refine Or.inr ⟨c + 1, ⟨by omega, by omega, hb, fun m h1 h2 h3 => ?_⟩, rfl⟩
        by_cases q : m = c + 1
        · rw [q]; exact ⟨Nat.le_refl _, fun z => absurd z (Nat.lt_irrefl _)⟩
        · rw [h m h1 (by omega)] at h3; cases h3
      · rw [e]
        have w2 := hW n
        have hn := h.2.1
        by_cases q : W (c + 1) < W n
        · rw [if_neg (fun z => z.elim (fun y => Bool.noConfusion y) (fun y => y.2 (nI_lt q (by omega))))]
          refine Or.inr ⟨c + 1, ⟨by omega, by omega, hb, fun m h1 h2 h3 => ?_⟩, rfl⟩
          by_cases z : m = c + 1
          · rw [z]; exact ⟨Nat.le_refl _, fun y => absurd y (Nat.lt_irrefl _)⟩
          · have := (h.2.2.2 m h1 (by omega) h3).1
            exact ⟨by omega, fun _ => by omega⟩
        · rw [if_pos (Or.inr ⟨nI_n1 (by omega), fun z => q ((nI_ltI (by omega) (by omega)).mp z)⟩)]
          refine Or.inr ⟨n, ⟨h.1, by omega, h.2.2.1, fun m h1 h2 h3 => ?_⟩, rfl⟩
          by_cases z : m = c + 1
          · rw [z]; exact ⟨by omega, fun y => by omega⟩
          · exact h.2.2.2 m h1 (by omega) h3
/-! the worst that can come -/
def wF (x0 x1 x2 A B C h : Nat) : Nat := (if h = x0 then C else 0) + (if h = x1 then A else 0) + (if h = x2 then B else 0)
theorem worst_up {f : Nat → Int32} {F : Nat → Nat} (hf : ∀ h, f h = nI (F h)) (hF : ∀ h, F h < 1000) : ∀ c, ∃ w, w < 1000 ∧ lpM (fun h w => if w ≤ f h then f h else w) c 0 0 = nI w ∧ (∀ h, h < c → F h ≤ w) ∧ (w = 0 ∨ ∃ h, h < c ∧ w = F h)
  | 0 => ⟨0, by decide, rfl, fun h hh => absurd hh (by omega), Or.inl rfl⟩
  | c + 1 => by
    obtain ⟨w, hw, e, h1, h2⟩ := worst_up hf hF c
    have hc := hF c
    rw [lpM_snoc, e, Nat.zero_add, hf c]
    by_cases q : w ≤ F c
    · rw [if_pos (nI_le q (by omega))]
      refine ⟨F c, hc, rfl, fun h hh => ?_, Or.inr ⟨c, by omega, rfl⟩⟩
      by_cases z : h = c
      · rw [z]; exact Nat.le_refl _
      · have := h1 h (by omega); omega
    · rw [if_neg (fun z => q ((nI_leI (by omega) (by omega)).mp z))]
      refine ⟨w, hw, rfl, fun h hh => ?_, h2.imp id (fun ⟨h, a, b⟩ => ⟨h, by omega, b⟩)⟩
      by_cases z : h = c
      · rw [z]; omega
      · exact h1 h (by omega)
theorem mx2_nI {x y : Nat} (hx : x < 1000) (hy : y < 1000) : mx2 (nI x) (nI y) = nI (if x < y then y else x) := by
  unfold mx2
  by_cases h : x < y
  · rw [if_pos h, if_pos (nI_lt h (by omega))]
  · rw [if_neg h, if_neg (fun z => h ((nI_ltI (by omega) (by omega)).mp z))]
theorem ite_nI {c : Prop} [Decidable c] {x : Nat} : (if c then nI x else 0) = nI (if c then x else 0) := by split <;> rfl
/-- the worst of three -/
def w3 (x0 x1 x2 A B C : Nat) : Nat := if wF x0 x1 x2 A B C x1 < (if wF x0 x1 x2 A B C x2 < wF x0 x1 x2 A B C x0 then wF x0 x1 x2 A B C x0 else wF x0 x1 x2 A B C x2) then (if wF x0 x1 x2 A B C x2 < wF x0 x1 x2 A B C x0 then wF x0 x1 x2 A B C x0 else wF x0 x1 x2 A B C x2) else wF x0 x1 x2 A B C x1
theorem wF_le (x0 x1 x2 A B C h : Nat) : wF x0 x1 x2 A B C h ≤ A + B + C := by
  unfold wF
  split <;> split <;> split <;> omega
theorem w3_le (x0 x1 x2 A B C : Nat) : w3 x0 x1 x2 A B C ≤ A + B + C := by
  have h0 := wF_le x0 x1 x2 A B C x0
  have h1 := wF_le x0 x1 x2 A B C x1
  have h2 := wF_le x0 x1 x2 A B C x2
  unfold w3
  split <;> (try split) <;> omega
theorem w3_is {x0 x1 x2 A B C w : Nat} (b0 : x0 < 21) (b1 : x1 < 21) (b2 : x2 < 21) (h1 : ∀ h, h < 21 → wF x0 x1 x2 A B C h ≤ w) (h2 : w = 0 ∨ ∃ h, h < 21 ∧ w = wF x0 x1 x2 A B C h) : w = w3 x0 x1 x2 A B C := by
  have q0 := h1 x0 b0
  have q1 := h1 x1 b1
  have q2 := h1 x2 b2
  have up : w ≤ w3 x0 x1 x2 A B C := by
    rcases h2 with rfl | ⟨h, hh, e⟩
    · exact Nat.zero_le _
    · by_cases c0 : h = x0
      · subst c0
        unfold w3
        split <;> (try split) <;> omega
      by_cases c1 : h = x1
      · subst c1
        unfold w3
        split <;> (try split) <;> omega
      by_cases c2 : h = x2
      · subst c2
        unfold w3
        split <;> (try split) <;> omega
      have : w = 0 := by
        rw [e]
        unfold wF
        rw [if_neg c0, if_neg c1, if_neg c2]
      omega
  have dn : w3 x0 x1 x2 A B C ≤ w := by
    unfold w3
    split <;> (try split) <;> omega
  omega
theorem worst3 {H n : Int32} {x0 x1 x2 A B C : Nat} (hA : A < 100) (hB : B < 100) (hC : C < 100) (b0 : x0 < 21) (b1 : x1 < 21) (b2 : x2 < 21)
    (e0 : lfHouse 0 H n = nI x0) (e1 : lfHouse 1 H n = nI x1) (e2 : lfHouse 2 H n = nI x2) : lfWorst H n (nI A) (nI B) (nI C) = nI (w3 x0 x1 x2 A B C) := by
  have q : ∀ {x y : Nat}, x < 21 → y < 21 → (nI x = nI y ↔ x = y) := fun hx hy => nI_eq (by omega) (by omega)
  unfold lfWorst
  rw [e0, e1, e2, ite_nI, ite_nI, ite_nI, ite_nI, ite_nI, ite_nI]
  simp only [nI_add, q b2 b1, q b0 b1, q b1 b2, q b0 b2, q b1 b0, q b2 b0]
  have sw : ∀ (x y z : Nat), (if x = y then z else 0) = if y = x then z else 0 := by
    intro x y z
    by_cases h : x = y
    · rw [if_pos h, if_pos h.symm]
    · rw [if_neg h, if_neg (fun e => h e.symm)]
  have f1 : A + (if x2 = x1 then B else 0) + (if x0 = x1 then C else 0) = wF x0 x1 x2 A B C x1 := by
    unfold wF
    rw [if_pos (rfl : x1 = x1), sw x2 x1 B, sw x0 x1 C]
    generalize (if x1 = x2 then B else 0) = u
    generalize (if x1 = x0 then C else 0) = v
    omega
  have f2 : B + (if x1 = x2 then A else 0) + (if x0 = x2 then C else 0) = wF x0 x1 x2 A B C x2 := by
    unfold wF
    rw [if_pos (rfl : x2 = x2), sw x1 x2 A, sw x0 x2 C]
    generalize (if x2 = x1 then A else 0) = u
    generalize (if x2 = x0 then C else 0) = v
    omega
  have f0 : C + (if x1 = x0 then A else 0) + (if x2 = x0 then B else 0) = wF x0 x1 x2 A B C x0 := by
    unfold wF
    rw [if_pos (rfl : x0 = x0), sw x1 x0 A, sw x2 x0 B]
  rw [f1, f2, f0]
  have l1 := wF_le x0 x1 x2 A B C x1
  have l2 := wF_le x0 x1 x2 A B C x2
  have l0 := wF_le x0 x1 x2 A B C x0
  rw [mx2_nI (by omega) (by omega), mx2_nI (by omega) (by split <;> omega)]
  rfl
