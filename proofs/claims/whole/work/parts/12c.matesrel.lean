/-! Pure: mates, right lines, the next letter alike -/
/-- every line's number is one -/
def PlB (ml : List Ln) : Prop := ml.length ≤ 8 ∧ ∀ v, v ∈ ml → ∃ n, 1 ≤ n ∧ n ≤ 40 ∧ v.1 = nI n
theorem or_bit : ∀ i, i < 8 → ∀ m, m < 256 → m < 2 ^ i → nI m ||| ((1 : Int32) <<< (nI i &&& 31)) = nI (m + 2 ^ i) := by decide +kernel
theorem bitsLo_nat {p : Nat → Bool} : ∀ (c i m : Nat), i + c ≤ 8 → m < 2 ^ i → ∃ n, n < 2 ^ (i + c) ∧ bitsLo p c i (nI m) = nI n
  | 0, i, m, _, hm => ⟨m, hm, rfl⟩
  | c + 1, i, m, h, hm => by
    have h256 : 2 ^ i ≤ 2 ^ 8 := Nat.pow_le_pow_right (by decide) (by omega)
    have h2 : 2 ^ (i + 1) = 2 ^ i + 2 ^ i := by rw [Nat.pow_succ]; omega
    rw [bitsLo]
    have e : i + (c + 1) = i + 1 + c := by omega
    rw [e]
    cases p i with
    | true =>
      rw [if_pos rfl, or_bit i (by omega) m (by omega) hm]
      exact bitsLo_nat c (i + 1) _ (by omega) (by omega)
    | false =>
      rw [if_neg nft]
      exact bitsLo_nat c (i + 1) _ (by omega) (by omega)
theorem bitsLo_256 {p : Nat → Bool} {n : Nat} (h : n ≤ 8) : ∃ m, m < 256 ∧ bitsLo p n 0 0 = nI m := by
  obtain ⟨m, hm, e⟩ := bitsLo_nat (p := p) n 0 0 (by omega) (by decide)
  have h256 : 2 ^ (0 + n) ≤ 2 ^ 8 := Nat.pow_le_pow_right (by decide) (by omega)
  exact ⟨m, by omega, e⟩
theorem ones_8 : ∀ n, n < 256 → (mOnes (nI n)).toInt.toNat ≤ 8 ∧ mOnes (nI n) = nI (mOnes (nI n)).toInt.toNat := by decide +kernel
section MTR
variable {a : IA} {T nc ns ng s t k m n r : Nat} {w x y z : Int32} {lw : List Int32} {ml : List Ln}
theorem tw_house2 (h : Tw a T nc ns ng) (hH : Hs a ns) (hs : s < ns) (hr : r ≤ 2) (hn : n ≤ 41) : lfHouse (nI r) (rAt (a (T + 5)) 8 (nI s)) (nI n) = mHouse a s (nI n) (nI r) := by
  have h8 := h.1.2.2.2.1
  have e := h.2.2.2.2.2.1 s hs
  obtain ⟨H, _, hH2, eH⟩ := hH s hs
  rw [rAt_nI _ (by decide) (by omega), e.2.2.1, eH, house_all r hr H hH2 n hn]
  unfold mHouse
  rw [eH]
theorem rgt_all {H role : Int32} (f : Ln → Bool) : ∀ l, (∀ v, v ∈ l → (f v = true ↔ lfHouse role H v.1 = v.2)) → (rgt role H l = l.length ↔ l.all f = true)
  | [], _ => ⟨fun _ => rfl, fun _ => rfl⟩
  | v :: l, h => by
    rw [rgt, List.all_cons, Bool.and_eq_true, List.length_cons, h v (List.mem_cons_self), ← rgt_all f l (fun u hu => h u (List.mem_cons_of_mem _ hu))]
    by_cases c : lfHouse role H v.1 = v.2
    · rw [if_pos c]
      exact ⟨fun q => ⟨c, by omega⟩, fun q => by rw [q.2]⟩
    · rw [if_neg c]
      exact ⟨fun q => by omega, fun q => absurd q.1 c⟩
theorem posted_iff (h : Tw a T nc ns ng) (hH : Hs a ns) (hs : s < ns) (hr : r ≤ 2) (hm : PlB ml) : rgt (nI r) (rAt (a (T + 5)) 8 (nI s)) ml = ml.length ↔ mPosted a ml s (nI r) = true := by
  unfold mPosted
  refine rgt_all _ ml (fun v hv => ?_)
  obtain ⟨n, _, hn, e⟩ := hm.2 v hv
  rw [e, tw_house2 h hH hs hr (by omega), decide_eq_true_iff]
theorem rgt_eq (h : Tw a T nc ns ng) (hR : Rw ns (a 44) (a 582)) (hH : Hs a ns) (hs : s < ns) : ∀ l, (∀ v, v ∈ l → ∃ n, 1 ≤ n ∧ n ≤ 40 ∧ v.1 = nI n) → rgt (lfRole (a 44) (nI s)) (rAt (a (T + 5)) 8 (nI s)) l = mRgt a s l
  | [], _ => rfl
  | v :: l, hl => by
    have h8 := h.1.2.2.2.1
    obtain ⟨n, _, hn, e⟩ := hl v (List.mem_cons_self)
    obtain ⟨r, hr, er⟩ := mHow_n (a := a) (s := s)
    rw [rgt, mRgt, rgt_eq h hR hH hs l (fun u hu => hl u (List.mem_cons_of_mem _ hu)), kR (by omega), hR.1.2.1 s (by omega), roC_how, er, e, tw_house2 h hH hs hr (by omega)]
theorem mtB_eq (h : Tw a T nc ns ng) (hR : Rw ns (a 44) (a 582)) (hH : Hs a ns) (hm : PlB ml) (hs : s < ns) (hr : r = 1 ∨ r = 2) : mtB a T ns lw ml (nI r) (nI s) = mMates a lw ml ns s (nI r) := by
  unfold mtB mMates
  have h0 : ¬ nI r = 0 := by rcases hr with rfl | rfl <;> decide
  have e : bitsLo (fun o => decide ((if nI r = 1 then lwHind a T 43 lw (nI s) (nI o) else lwHind a T 43 lw (nI o) (nI s)) = 0)) ns 0 0 = bitsLo (fun t => decide ((if nI r = 1 then mBan a 582 lw s t else mBan a 582 lw t s) = 0)) ns 0 0 := by
    refine bitsLo_cg _ _ _ (fun t _ ht => ?_)
    show decide ((if nI r = 1 then lwHind a T 43 lw (nI s) (nI t) else lwHind a T 43 lw (nI t) (nI s)) = 0) = _
    rw [tw_hind (q := 43) (p := 582) h hR hs (show t < ns by omega), tw_hind (q := 43) (p := 582) h hR (show t < ns by omega) hs]
  rw [e, if_neg h0]
  by_cases c : mPosted a ml s (nI r) = true
  · rw [if_pos c, if_pos ((posted_iff h hH hs (by omega) hm).mpr c)]
  · rw [if_neg c, if_neg (fun z => c ((posted_iff h hH hs (by omega) hm).mp z))]
theorem mtA_eq (h : Tw a T nc ns ng) (hH : Hs a ns) (hm : PlB ml) (hs : s < ns) : mtA a T ml (nI s) = mMates a lw ml ns s 0 := by
  unfold mtA mMates
  rw [if_pos rfl]
  have : rgt 0 (rAt (a (T + 5)) 8 (nI s)) ml = ml.length ↔ mPosted a ml s 0 = true := posted_iff (r := 0) h hH hs (by omega) hm
  by_cases c : mPosted a ml s 0 = true
  · rw [if_pos c, if_pos (this.mpr c)]
  · rw [if_neg c, if_neg (fun z => c (this.mp z))]
theorem mates_n (h8 : ns ≤ 8) : ∃ m, m < 256 ∧ mMates a lw ml ns s w = nI m := by
  unfold mMates
  by_cases c : mPosted a ml s w = true
  · rw [if_pos c]
    by_cases c0 : w = 0
    · rw [if_pos c0]; exact ⟨1, by decide, rfl⟩
    · rw [if_neg c0]; exact bitsLo_256 h8
  · rw [if_neg c]; exact ⟨0, by decide, rfl⟩
theorem mates0_n : ∃ m, m ≤ 1 ∧ mMates a lw ml ns s 0 = nI m := by
  unfold mMates
  by_cases c : mPosted a ml s 0 = true
  · rw [if_pos c, if_pos rfl]; exact ⟨1, by decide, rfl⟩
  · rw [if_neg c]; exact ⟨0, by decide, rfl⟩
theorem ones_n (h8 : ns ≤ 8) : ∃ m, m ≤ 8 ∧ mOnes (mMates a lw ml ns s w) = nI m := by
  obtain ⟨m, hm, e⟩ := mates_n (a := a) (lw := lw) (ml := ml) (s := s) (w := w) h8
  rw [e]
  exact ⟨_, (ones_8 m hm).1, (ones_8 m hm).2⟩
theorem ones_bc (h8 : ns ≤ 8) : bcI (mMates a lw ml ns s w) = mOnes (mMates a lw ml ns s w) := by
  obtain ⟨m, hm, e⟩ := mates_n (a := a) (lw := lw) (ml := ml) (s := s) (w := w) h8
  rw [e]
  exact bc_ones m hm
theorem ones_0 : mMates a lw ml ns s 0 = mOnes (mMates a lw ml ns s 0) := by
  obtain ⟨m, hm, e⟩ := mates0_n (a := a) (lw := lw) (ml := ml) (ns := ns) (s := s)
  rw [e]
  have : m = 0 ∨ m = 1 := by omega
  rcases this with rfl | rfl <;> decide +kernel
theorem tw_mates (h : Tw a T nc ns ng) (hR : Rw ns (a 44) (a 582)) (hH : Hs a ns) (hm : PlB ml) (hs : s < ns) (hw : inT w 0 3) : fMates a T ns lw ml (nI s) w = mMatV a lw ml ns s w := by
  have h8 := h.1.2.2.2.1
  have e1 := mtB_eq (lw := lw) (r := 1) h hR hH hm hs (Or.inl rfl)
  have e2 := mtB_eq (lw := lw) (r := 2) h hR hH hm hs (Or.inr rfl)
  have e0 := mtA_eq (lw := lw) h hH hm hs
  have h4 : w = 0 ∨ w = 1 ∨ w = 2 ∨ w = 3 := by
    obtain ⟨j, hj, rfl⟩ := nI_of hw.1
    have h3 : j ≤ 3 := (nI_leI (a := j) (b := 3) hj (by decide)).mp (i_nlt.mp hw.2)
    have : j = 0 ∨ j = 1 ∨ j = 2 ∨ j = 3 := by omega
    rcases this with rfl | rfl | rfl | rfl
    · exact Or.inl rfl
    · exact Or.inr (Or.inl rfl)
    · exact Or.inr (Or.inr (Or.inl rfl))
    · exact Or.inr (Or.inr (Or.inr rfl))
  have k1 : mtB a T ns lw ml 1 (nI s) = mMates a lw ml ns s 1 := e1
  have k2 : mtB a T ns lw ml 2 (nI s) = mMates a lw ml ns s 2 := e2
  have k3 := ones_0 (a := a) (lw := lw) (ml := ml) (ns := ns) (s := s)
  unfold fMates mMatV
  rw [k1, k2, e0, ones_bc h8, ones_bc h8]
  rcases h4 with rfl | rfl | rfl | rfl
  · rw [if_pos (rfl : (0 : Int32) = 0), if_pos (rfl : (0 : Int32) = 0), ← k3, Int32.add_comm _ (mMates a lw ml ns s 0), ← Int32.add_assoc]
  · rw [if_neg (show ¬ (1 : Int32) = 0 by decide), if_pos (rfl : (1 : Int32) = 1), if_neg (show ¬ (1 : Int32) = 0 by decide), if_neg (show ¬ (1 : Int32) = 3 by decide)]
  · rw [if_neg (show ¬ (2 : Int32) = 0 by decide), if_neg (show ¬ (2 : Int32) = 1 by decide), if_pos (rfl : (2 : Int32) = 2), if_neg (show ¬ (2 : Int32) = 0 by decide), if_neg (show ¬ (2 : Int32) = 3 by decide)]
  · rw [if_neg (show ¬ (3 : Int32) = 0 by decide), if_neg (show ¬ (3 : Int32) = 1 by decide), if_neg (show ¬ (3 : Int32) = 2 by decide), if_neg (show ¬ (3 : Int32) = 0 by decide), if_pos (rfl : (3 : Int32) = 3)]
end MTR
