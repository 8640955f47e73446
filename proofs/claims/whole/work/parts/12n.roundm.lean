/-! Pure: the reference's round is the least closed walk -/
def okA : Nat → Prop := fun s => ¬ nI s = -1
/-- what has been walked is a walk -/
def WS (U V L : Nat → Nat) (nc ns str home : Nat) (W : Mat) : Prop := ∀ x y, x < 2 ^ ns → y < 10 → W x y = -1 ∨ (y < nc ∧ ∃ m, W x y = nI m ∧ m ≤ x * 2 ^ 20 ∧ (∀ s, s < ns → x.testBit s = true → str.testBit s = true) ∧ ∃ w, Wl U V ns w home y ∧ lsum L w = m ∧ ∀ s, s < ns → x.testBit s = true → s ∈ w)
/-- one street more, from a set and a corner -/
def goOn (a : IA) (F : Mat) (L : Nat → Nat) (x c s k : Nat) (W0 W : Mat) : Prop := ∀ m f, m < 2 ^ 28 → f < 2 ^ 28 → W0 x c = nI m → F c (eN a s k) = nI f → Lq W (x ||| 2 ^ s) (eN a s (1 - k)) (m + f + L s)
section RDM
variable {a : IA} {U V L : Nat → Nat} {nc ns s t v : Nat} {str home set c k : Nat} {W W0 F : Mat}
theorem Wk.list {ok : Nat → Prop} {A : Nat → Bool} : ∀ {k p q l : Nat}, Wk U V L ns ok A k p q l → ∃ w, Wl U V ns w p q ∧ lsum L w = l
  | 0, _, _, _, h => ⟨[], h.2.1, h.2.2.symm⟩
  | k + 1, p, q, l, ⟨_, s, r, l', h1, _, h3, h4, h5⟩ => by
    obtain ⟨w, w1, w2⟩ := Wk.list h5
    exact ⟨s :: w, ⟨h1, r, h3, w1⟩, by rw [lsum, w2, h4]⟩
theorem okA_of (h8 : ns ≤ 8) (hs : s < ns) : okA s := nI_n1 (by omega)
theorem Wl.wy (h : Gr a nc ns U V L) : ∀ {w : List Nat} {p q : Nat}, Wl U V ns w p q → p < nc → Wy U V L ns okA (inA nc) p q (lsum L w)
  | [], p, q, e, hp => by
    have e : p = q := e
    subst e
    exact Wy.refl (decide_eq_true hp)
  | s :: w, p, q, ⟨hs, r, h1, h2⟩, hp => by
    obtain ⟨hu, hv, _⟩ := h.2.2 s hs
    have hr : r < nc := by
      rcases h1 with ⟨_, e⟩ | ⟨_, e⟩
      · rw [← e]; exact hv
      · rw [← e]; exact hu
    exact Wy.app ⟨1, Wk.one (decide_eq_true hp) (decide_eq_true hr) hs (okA_of h.2.1 hs) h1⟩ (Wl.wy h h2 hr)
theorem eN_0 (h : Gr a nc ns U V L) (hs : s < ns) : eN a s 0 = U s := by
  obtain ⟨hu, hv, hne, eu, ev, _⟩ := h.2.2 s hs
  have := h.1
  unfold eN
  rw [eu, nI_clamp (by omega)]
theorem eN_1 (h : Gr a nc ns U V L) (hs : s < ns) : eN a s 1 = V s := by
  obtain ⟨hu, hv, hne, eu, ev, _⟩ := h.2.2 s hs
  have := h.1
  unfold eN
  rw [ev, nI_clamp (by omega)]
theorem eN_st (h : Gr a nc ns U V L) (hs : s < ns) (hk : k < 2) : stE U V s (eN a s k) (eN a s (1 - k)) ∧ eN a s k < nc ∧ eN a s (1 - k) < nc := by
  obtain ⟨hu, hv, _⟩ := h.2.2 s hs
  have : k = 0 ∨ k = 1 := by omega
  rcases this with rfl | rfl
  · rw [eN_0 h hs, show 1 - 0 = 1 from rfl, eN_1 h hs]
    exact ⟨Or.inl ⟨rfl, rfl⟩, hu, hv⟩
  · rw [eN_1 h hs, show 1 - 1 = 0 from rfl, eN_0 h hs]
    exact ⟨Or.inr ⟨rfl, rfl⟩, hv, hu⟩
theorem or_bit' (s : Nat) (x j : Nat) : (x ||| 2 ^ s).testBit j = (x.testBit j || decide (s = j)) := by
  rw [Nat.testBit_or, Nat.testBit_two_pow]
theorem or_gt (h : set.testBit s = false) : set < set ||| 2 ^ s := by
  have h1 : set ≤ set ||| 2 ^ s := Nat.left_le_or
  have h2 : set ≠ set ||| 2 ^ s := fun e => by
    have : (set ||| 2 ^ s).testBit s = true := by rw [or_bit', decide_eq_true rfl, Bool.or_true]
    rw [← e, h] at this
    exact Bool.noConfusion this
  omega
/-- one street, one way along -/
theorem wkO_ok (h : Gr a nc ns U V L) (hF : F = wayF a ns (-1)) (hW : WS U V L nc ns str home W) (hset : set < 2 ^ ns) (hc : c < 10) (hs : s < ns) (hk : k < 2) (hb1 : str.testBit s = true) (hb2 : set.testBit s = false) (hwc : ¬ W set c = -1) :
    WS U V L nc ns str home (wkO a F set c s k W) ∧ (∀ p q l, Lq W p q l → Lq (wkO a F set c s k W) p q l) ∧ (∀ p q, p ≤ set → wkO a F set c s k W p q = W p q) ∧ goOn a F L set c s k W (wkO a F set c s k W) := by
  have h8 := h.2.1
  have h10 := h.1
  obtain ⟨hst, bu, bv⟩ := eN_st (k := k) h hs hk
  obtain ⟨hcn, m, em, bm, hsub, w, w1, w2, w3⟩ := (hW set c hset hc).resolve_left hwc
  have p8 := pow_le h8
  have hx := or_gt hb2
  have hx2 := set_lt hset hs
  have hl := (h.2.2 s hs).2.2.2.2.2.2
  have el := (h.2.2 s hs).2.2.2.2.2.1
  have D := way_D (but := -1) (p := c) (q := eN a s k) h hcn bu
  rw [← hF] at D
  unfold wkO
  rcases D with ⟨e, _⟩ | ⟨f, ef, bf, ⟨kf, hf⟩, _⟩
  · rw [if_pos e]
    exact ⟨hW, fun _ _ _ z => z, fun _ _ _ => rfl, fun m' f' _ bf' _ ef' => by rw [e] at ef'; exact absurd ef'.symm (nI_n1 (by omega))⟩
  rw [if_neg (by rw [ef]; exact nI_n1 (by omega)), em, ef, el, nI_add, nI_add]
  obtain ⟨wf, wf1, wf2⟩ := Wk.list hf
  -- the new walk
  have new : ∃ w, Wl U V ns w home (eN a s (1 - k)) ∧ lsum L w = m + f + L s ∧ ∀ t, t < ns → (set ||| 2 ^ s).testBit t = true → t ∈ w := by
    refine ⟨w ++ (wf ++ [s]), Wl.app w1 (Wl.app wf1 ⟨hs, _, hst, rfl⟩), ?_, fun t ht hb => ?_⟩
    · rw [lsum_app, lsum_app, w2, wf2]
      show m + (f + (L s + 0)) = _
      omega
    · rw [or_bit', Bool.or_eq_true] at hb
      rcases hb with z | z
      · exact List.mem_append_left _ (w3 t ht z)
      · have : s = t := of_decide_eq_true z
        rw [← this]
        exact List.mem_append_right _ (List.mem_append_right _ List.mem_cons_self)
  have sub : ∀ t, t < ns → (set ||| 2 ^ s).testBit t = true → str.testBit t = true := fun t ht hb => by
    rw [or_bit', Bool.or_eq_true] at hb
    rcases hb with z | z
    · exact hsub t ht z
    · rw [← of_decide_eq_true z]; exact hb1
  have bd : m + f + L s ≤ (set ||| 2 ^ s) * 2 ^ 20 := by
    have := Nat.mul_le_mul_right (2 ^ 20) (show set + 1 ≤ set ||| 2 ^ s from hx)
    rw [Nat.add_mul, Nat.one_mul] at this
    omega
  -- the value that is put
  have put : ∃ z, (if W (set ||| 2 ^ s) (eN a s (1 - k)) = -1 then nI (m + f + L s) else if nI (m + f + L s) ≤ W (set ||| 2 ^ s) (eN a s (1 - k)) then nI (m + f + L s) else W (set ||| 2 ^ s) (eN a s (1 - k))) = nI z ∧ z ≤ m + f + L s ∧ (z = m + f + L s ∨ W (set ||| 2 ^ s) (eN a s (1 - k)) = nI z) ∧ ∀ o, o < 2 ^ 28 → W (set ||| 2 ^ s) (eN a s (1 - k)) = nI o → z ≤ o := by
    by_cases c0 : W (set ||| 2 ^ s) (eN a s (1 - k)) = -1
    · rw [if_pos c0]
      exact ⟨_, rfl, Nat.le_refl _, Or.inl rfl, fun o ho e => by rw [c0] at e; exact absurd e.symm (nI_n1 (by omega))⟩
    rw [if_neg c0]
    obtain ⟨_, o, eo, bo, _⟩ := (hW _ (eN a s (1 - k)) hx2 (by omega)).resolve_left c0
    have bo2 : (set ||| 2 ^ s) * 2 ^ 20 ≤ 256 * 2 ^ 20 := Nat.mul_le_mul_right _ (by omega)
    rw [eo]
    by_cases c1 : m + f + L s ≤ o
    · rw [if_pos (nI_le c1 (by omega))]
      exact ⟨_, rfl, Nat.le_refl _, Or.inl rfl, fun o' ho' e => by have := (nI_eq (by omega) (by omega)).mp e; omega⟩
    · rw [if_neg (fun z => c1 ((nI_leI (by omega) (by omega)).mp z))]
      exact ⟨o, rfl, by omega, Or.inr rfl, fun o' ho' e => by have := (nI_eq (by omega) (by omega)).mp e; omega⟩
  obtain ⟨z, ez, bz, hz, mz⟩ := put
  rw [ez]
  have hx255 : set ||| 2 ^ s ≤ 255 := by omega
  have b28 : z < 2 ^ 28 := by
    have : (set ||| 2 ^ s) * 2 ^ 20 ≤ 255 * 2 ^ 20 := Nat.mul_le_mul_right _ hx255
    omega
  refine ⟨fun p q hp hq => ?_, fun p q l ⟨o, o1, o2, o3⟩ => ?_, fun p q hp => ?_, fun m' f' bm' bf' em' ef' => ?_⟩
  · rw [up2_at]
    by_cases e : p = (set ||| 2 ^ s) ∧ q = eN a s (1 - k)
    · rw [if_pos e]
      right
      rw [e.2]
      refine ⟨bv, z, rfl, by rw [e.1]; omega, by rw [e.1]; exact sub, ?_⟩
      rcases hz with hz | hz
      · rw [hz, e.1]; exact new
      · obtain ⟨_, o, eo, bo, _, w', q1, q2, q3⟩ := (hW _ (eN a s (1 - k)) hx2 (by omega)).resolve_left (by rw [hz]; exact nI_n1 (by omega))
        have bo2 : (set ||| 2 ^ s) * 2 ^ 20 ≤ 255 * 2 ^ 20 := Nat.mul_le_mul_right _ hx255
        have : z = o := (nI_eq (by omega) (by omega)).mp (hz.symm.trans eo)
        rw [this, e.1]
        exact ⟨w', q1, q2, q3⟩
    · rw [if_neg e]; exact hW p q hp hq
  · show ∃ m, m ≤ l ∧ m < 2 ^ 28 ∧ up2 W (set ||| 2 ^ s) (eN a s (1 - k)) (nI z) p q = nI m
    rw [up2_at]
    by_cases e : p = (set ||| 2 ^ s) ∧ q = eN a s (1 - k)
    · rw [if_pos e]
      rw [e.1, e.2] at o3
      have := mz o o2 o3
      exact ⟨z, by omega, b28, rfl⟩
    · rw [if_neg e]; exact ⟨o, o1, o2, o3⟩
  · rw [up2_at, if_neg (by omega)]
  · have e1 : m = m' := (nI_eq (by have : set * 2 ^ 20 ≤ 255 * 2 ^ 20 := Nat.mul_le_mul_right _ (by omega); omega) (by omega)).mp (em.symm.trans em')
    have e2 : f = f' := (nI_eq (by omega) (by omega)).mp (ef.symm.trans ef')
    exact ⟨z, by omega, b28, by rw [up2_at, if_pos ⟨rfl, rfl⟩]⟩
theorem goOn.mono {x : Nat} {W1 W2 : Mat} (h : goOn a F L x c s k W0 W1) (hm : ∀ p q l, Lq W1 p q l → Lq W2 p q l) : goOn a F L x c s k W0 W2 := fun m f h1 h2 h3 h4 => hm _ _ _ (h m f h1 h2 h3 h4)
/-- all streets from one set and corner -/
theorem wOn_ok (h : Gr a nc ns U V L) (hF : F = wayF a ns (-1)) (hW : WS U V L nc ns str home W) (hset : set < 2 ^ ns) (hc : c < 10) :
    WS U V L nc ns str home (wOn a F ns str set c W) ∧ (∀ p q l, Lq W p q l → Lq (wOn a F ns str set c W) p q l) ∧ (∀ p q, p ≤ set → wOn a F ns str set c W p q = W p q) ∧ ∀ s, s < ns → str.testBit s = true → set.testBit s = false → ∀ k, k < 2 → goOn a F L set c s k W (wOn a F ns str set c W) := by
  unfold wOn
  by_cases c0 : W set c = -1
  · rw [if_pos c0]
    exact ⟨hW, fun _ _ _ z => z, fun _ _ _ => rfl, fun s _ _ _ k _ m f b1 _ e _ => by rw [c0] at e; exact absurd e.symm (nI_n1 (by omega))⟩
  rw [if_neg c0]
  have key : ∀ j, j ≤ ns → WS U V L nc ns str home (lpM (wStr a F str set c) j 0 W) ∧ (∀ p q l, Lq W p q l → Lq (lpM (wStr a F str set c) j 0 W) p q l) ∧ (∀ p q, p ≤ set → lpM (wStr a F str set c) j 0 W p q = W p q) ∧ ∀ s, s < j → str.testBit s = true → set.testBit s = false → ∀ k, k < 2 → goOn a F L set c s k W (lpM (wStr a F str set c) j 0 W) := by
    intro j
    induction j with
    | zero => intro _; exact ⟨hW, fun _ _ _ z => z, fun _ _ _ => rfl, fun s hs => absurd hs (by omega)⟩
    | succ j ih =>
      intro hj
      obtain ⟨i1, i2, i3, i4⟩ := ih (by omega)
      rw [lpM_snoc, Nat.zero_add]
      generalize lpM (wStr a F str set c) j 0 W = X at i1 i2 i3 i4
      unfold wStr
      by_cases cb : str.testBit j = true ∧ set.testBit j = false
      · rw [if_pos cb]
        have e0 : X set c = W set c := i3 set c (Nat.le_refl _)
        obtain ⟨a1, a2, a3, a4⟩ := wkO_ok (k := 0) h hF i1 hset hc (show j < ns by omega) (by decide) cb.1 cb.2 (by rw [e0]; exact c0)
        have e1 : wkO a F set c j 0 X set c = W set c := (a3 set c (Nat.le_refl _)).trans e0
        obtain ⟨b1, b2, b3, b4⟩ := wkO_ok (k := 1) h hF a1 hset hc (show j < ns by omega) (by decide) cb.1 cb.2 (by rw [e1]; exact c0)
        refine ⟨b1, fun p q l z => b2 p q l (a2 p q l (i2 p q l z)), fun p q hp => by rw [b3 p q hp, a3 p q hp, i3 p q hp], fun s hs hs1 hs2 k hk => ?_⟩
        by_cases e : s = j
        · subst e
          have : k = 0 ∨ k = 1 := by omega
          rcases this with rfl | rfl
          · intro m f q1 q2 q3 q4
            exact b2 _ _ _ (a4 m f q1 q2 (e0.trans q3) q4)
          · intro m f q1 q2 q3 q4
            exact b4 m f q1 q2 (e1.trans q3) q4
        · exact ((i4 s (by omega) hs1 hs2 k hk).mono a2).mono b2
      · rw [if_neg cb]
        refine ⟨i1, i2, i3, fun s hs hs1 hs2 k hk => ?_⟩
        by_cases e : s = j
        · subst e; exact absurd ⟨hs1, hs2⟩ cb
        · exact i4 s (by omega) hs1 hs2 k hk
  exact key ns (Nat.le_refl _)
theorem wRow_ok (h : Gr a nc ns U V L) (hF : F = wayF a ns (-1)) (hW : WS U V L nc ns str home W) (hset : set < 2 ^ ns) :
    ∀ j, j ≤ 10 → WS U V L nc ns str home (lpM (fun c W => wOn a F ns str set c W) j 0 W) ∧ (∀ p q l, Lq W p q l → Lq (lpM (fun c W => wOn a F ns str set c W) j 0 W) p q l) ∧ (∀ p q, p ≤ set → lpM (fun c W => wOn a F ns str set c W) j 0 W p q = W p q) ∧ ∀ c, c < j → ∀ s, s < ns → str.testBit s = true → set.testBit s = false → ∀ k, k < 2 → goOn a F L set c s k W (lpM (fun c W => wOn a F ns str set c W) j 0 W) := by
  intro j
  induction j with
  | zero => intro _; exact ⟨hW, fun _ _ _ z => z, fun _ _ _ => rfl, fun s hs => absurd hs (by omega)⟩
  | succ j ih =>
    intro hj
    obtain ⟨i1, i2, i3, i4⟩ := ih (by omega)
    rw [lpM_snoc, Nat.zero_add]
    generalize lpM (fun c W => wOn a F ns str set c W) j 0 W = X at i1 i2 i3 i4
    obtain ⟨a1, a2, a3, a4⟩ := wOn_ok h hF i1 hset (show j < 10 by omega)
    refine ⟨a1, fun p q l z => a2 p q l (i2 p q l z), fun p q hp => by rw [a3 p q hp, i3 p q hp], fun c hc s hs hs1 hs2 k hk => ?_⟩
    by_cases e : c = j
    · subst e
      intro m f q1 q2 q3 q4
      exact a4 s hs hs1 hs2 k hk m f q1 q2 ((i3 set c (Nat.le_refl _)).trans q3) q4
    · exact (i4 c (by omega) s hs hs1 hs2 k hk).mono a2
/-- all sets -/
theorem wAll_ok (h : Gr a nc ns U V L) (hF : F = wayF a ns (-1)) (hh : home < nc) :
    WS U V L nc ns str home (wAll a F ns str home) ∧ Lq (wAll a F ns str home) 0 home 0 ∧ ∀ x, x < 2 ^ ns → ∀ c, c < 10 → ∀ s, s < ns → str.testBit s = true → x.testBit s = false → ∀ k, k < 2 → goOn a F L x c s k (wAll a F ns str home) (wAll a F ns str home) := by
  have h10 := h.1
  have key : ∀ j, j ≤ 2 ^ ns → WS U V L nc ns str home (lpM (fun set W => lpM (fun c W => wOn a F ns str set c W) 10 0 W) j 0 (up2 (fun _ _ => -1) 0 home 0)) ∧ Lq (lpM (fun set W => lpM (fun c W => wOn a F ns str set c W) 10 0 W) j 0 (up2 (fun _ _ => -1) 0 home 0)) 0 home 0 ∧ ∀ x, x < j → ∀ c, c < 10 → ∀ s, s < ns → str.testBit s = true → x.testBit s = false → ∀ k, k < 2 → goOn a F L x c s k (lpM (fun set W => lpM (fun c W => wOn a F ns str set c W) 10 0 W) j 0 (up2 (fun _ _ => -1) 0 home 0)) (lpM (fun set W => lpM (fun c W => wOn a F ns str set c W) 10 0 W) j 0 (up2 (fun _ _ => -1) 0 home 0)) := by
    intro j
    induction j with
    | zero =>
      intro _
      rw [lpM]
      refine ⟨fun x y hx hy => ?_, ⟨0, Nat.le_refl _, by decide, by rw [up2_at, if_pos ⟨rfl, rfl⟩]; rfl⟩, fun s hs => absurd hs (by omega)⟩
      rw [up2_at]
      by_cases e : x = 0 ∧ y = home
      · rw [if_pos e]
        right
        rw [e.2]
        refine ⟨hh, 0, rfl, Nat.zero_le _, fun s _ z => ?_, [], rfl, rfl, fun s _ z => ?_⟩
        · rw [e.1, Nat.zero_testBit] at z; exact Bool.noConfusion z
        · rw [e.1, Nat.zero_testBit] at z; exact Bool.noConfusion z
      · rw [if_neg e]; exact Or.inl rfl
    | succ j ih =>
      intro hj
      obtain ⟨i1, i2, i3⟩ := ih (by omega)
      rw [lpM_snoc, Nat.zero_add]
      generalize lpM (fun set W => lpM (fun c W => wOn a F ns str set c W) 10 0 W) j 0 (up2 (fun _ _ => -1) 0 home 0) = X at i1 i2 i3
      obtain ⟨a1, a2, a3, a4⟩ := wRow_ok h hF i1 (show j < 2 ^ ns by omega) 10 (Nat.le_refl _)
      refine ⟨a1, a2 _ _ _ i2, fun x hx c hc s hs hs1 hs2 k hk m f q1 q2 q3 q4 => ?_⟩
      rw [a3 x c (by omega)] at q3
      by_cases e : x = j
      · subst e
        exact a4 c hc s hs hs1 hs2 k hk m f q1 q2 q3 q4
      · exact a2 _ _ _ (i3 x (by omega) c hc s hs hs1 hs2 k hk m f q1 q2 q3 q4)
  exact key _ (Nat.le_refl _)
/-- every walk is met -/
theorem wAll_low (h : Gr a nc ns U V L) (hF : F = wayF a ns (-1)) (hh : home < nc) (hstr : str < 2 ^ ns) : ∀ (w : List Nat) (x c v q m f : Nat), Wl U V ns w v q → x < 2 ^ ns → c < nc → v < nc → m < 2 ^ 28 → f < 2 ^ 28 → wAll a F ns str home x c = nI m → F c v = nI f →
    ∃ x' c' m' f', x' < 2 ^ ns ∧ c' < nc ∧ m' < 2 ^ 28 ∧ f' < 2 ^ 28 ∧ wAll a F ns str home x' c' = nI m' ∧ F c' q = nI f' ∧ m' + f' ≤ m + f + lsum L w ∧ ∀ s, x'.testBit s = (x.testBit s || (str.testBit s && decide (s ∈ w)))
  | [], x, c, v, q, m, f, hw, hx, hc, hv, bm, bf, em, ef => by
    have e : v = q := hw
    subst e
    refine ⟨x, c, m, f, hx, hc, bm, bf, em, ef, Nat.le_refl _, fun s => ?_⟩
    rw [decide_eq_false List.not_mem_nil, Bool.and_false, Bool.or_false]
  | s :: w, x, c, v, q, m, f, ⟨hs, r, hst, hw⟩, hx, hc, hv, bm, bf, em, ef => by
    have h8 := h.2.1
    have h10 := h.1
    obtain ⟨hu, hv', _, _, _, _, hl⟩ := h.2.2 s hs
    have hr : r < nc := by
      rcases hst with ⟨_, e⟩ | ⟨_, e⟩
      · rw [← e]; exact hv'
      · rw [← e]; exact hu
    obtain ⟨W1, W2, W3⟩ := wAll_ok (str := str) h hF hh
    by_cases cb : str.testBit s = true ∧ x.testBit s = false
    · obtain ⟨k, hk, e1, e2⟩ : ∃ k, k < 2 ∧ eN a s k = v ∧ eN a s (1 - k) = r := by
        rcases hst with ⟨e1, e2⟩ | ⟨e1, e2⟩
        · exact ⟨0, by decide, (eN_0 h hs).trans e1, (eN_1 h hs).trans e2⟩
        · exact ⟨1, by decide, (eN_1 h hs).trans e1, (eN_0 h hs).trans e2⟩
      obtain ⟨m2, l1, b2, em2⟩ := W3 x hx c (by omega) s hs cb.1 cb.2 k hk m f bm bf em (by rw [e1]; exact ef)
      rw [e2] at em2
      have eF : F r r = nI 0 := by
        have D := way_D (but := -1) (p := r) (q := r) h hr hr
        rw [← hF] at D
        rcases D with ⟨_, z⟩ | ⟨f0, ef0, _, _, z⟩
        · exact absurd (Wy.refl (decide_eq_true hr)) (z 0)
        · have := z 0 (Wy.refl (decide_eq_true hr))
          rw [ef0, show f0 = 0 by omega]
      obtain ⟨x', c', m', f', q1, q2, q3, q4, q5, q6, q7, q8⟩ := wAll_low h hF hh hstr w (x ||| 2 ^ s) r r q m2 0 hw (set_lt hx hs) hr hr b2 (by decide) em2 eF
      refine ⟨x', c', m', f', q1, q2, q3, q4, q5, q6, ?_, fun t => ?_⟩
      · show m' + f' ≤ m + f + (L s + lsum L w)
        omega
      · rw [q8 t, or_bit']
        by_cases e : s = t
        · subst e
          rw [decide_eq_true rfl, cb.1, decide_eq_true (List.mem_cons_self)]
          simp
        · rw [decide_eq_false e, Bool.or_false]
          congr 2
          rw [decide_eq_decide, List.mem_cons]
          exact ⟨Or.inr, fun z => z.resolve_left (fun y => e y.symm)⟩
    · have D := way_D (but := -1) (p := c) (q := v) h hc hv
      have D2 := way_D (but := -1) (p := c) (q := r) h hc hr
      rw [← hF] at D D2
      have step : Wy U V L ns okA (inA nc) v r (L s) := ⟨1, Wk.one (decide_eq_true hv) (decide_eq_true hr) hs (okA_of h8 hs) hst⟩
      obtain ⟨f1, ef1, bf1, wf1, _⟩ := D.resolve_left (fun z => by rw [z.1] at ef; exact absurd ef.symm (nI_n1 (by omega)))
      have e1 : f = f1 := (nI_eq (by omega) (by omega)).mp (ef.symm.trans ef1)
      have ww := Wy.app wf1 step
      obtain ⟨f2, ef2, bf2, _, lf2⟩ := D2.resolve_left (fun z => absurd ww (z.2 _))
      have := lf2 _ ww
      obtain ⟨x', c', m', f', q1, q2, q3, q4, q5, q6, q7, q8⟩ := wAll_low h hF hh hstr w x c r q m f2 hw hx hc hr bm (by omega) em ef2
      refine ⟨x', c', m', f', q1, q2, q3, q4, q5, q6, ?_, fun t => ?_⟩
      · show m' + f' ≤ m + f + (L s + lsum L w)
        omega
      · rw [q8 t]
        by_cases e : t = s
        · subst e
          by_cases y : str.testBit t = true
          · have : x.testBit t = true := by
              by_cases y2 : x.testBit t = true
              · exact y2
              · exact absurd ⟨y, Bool.eq_false_iff.mpr y2⟩ cb
            rw [this, Bool.true_or, Bool.true_or]
          · rw [Bool.eq_false_iff.mpr y, Bool.false_and, Bool.false_and]
        · congr 2
          rw [decide_eq_decide, List.mem_cons]
          exact ⟨Or.inr, fun z => z.resolve_left e⟩
theorem best_ok {F W : Mat} (hW : ∀ c, c < 10 → W str c = -1 ∨ ∃ m, m < 2 ^ 28 ∧ W str c = nI m) (hF : ∀ c, c < 10 → F c home = -1 ∨ ∃ f, f < 2 ^ 28 ∧ F c home = nI f) : ∀ j, j ≤ 10 →
    (lpM (wBest F W str home) j 0 (-1) = -1 ∧ ∀ c, c < j → ¬ (¬ W str c = -1 ∧ ¬ F c home = -1)) ∨ ∃ z, z < 2 ^ 30 ∧ lpM (wBest F W str home) j 0 (-1) = nI z ∧ (∃ c m f, c < j ∧ m < 2 ^ 28 ∧ f < 2 ^ 28 ∧ W str c = nI m ∧ F c home = nI f ∧ z = m + f) ∧ ∀ c m f, c < j → m < 2 ^ 28 → f < 2 ^ 28 → W str c = nI m → F c home = nI f → z ≤ m + f
  | 0, _ => Or.inl ⟨rfl, fun c hc => absurd hc (by omega)⟩
  | j + 1, hj => by
    have n1 : ∀ {m : Nat}, m < 2 ^ 28 → ¬ nI m = -1 := fun h => nI_n1 (by omega)
    have inj : ∀ {m n : Nat}, m < 2 ^ 28 → n < 2 ^ 28 → nI m = nI n → m = n := fun h h' e => (nI_eq (by omega) (by omega)).mp e
    rw [lpM_snoc, Nat.zero_add]
    have ih := best_ok hW hF j (by omega)
    generalize lpM (wBest F W str home) j 0 (-1) = X at ih
    unfold wBest
    by_cases c0 : W str j = -1 ∨ F j home = -1
    · rw [if_pos c0]
      rcases ih with ⟨e, z⟩ | ⟨z, bz, ez, ⟨c, m, f, q0, q⟩, lz⟩
      · refine Or.inl ⟨e, fun c hc y => ?_⟩
        by_cases e : c = j
        · subst e; exact c0.elim y.1 y.2
        · exact z c (by omega) y
      · refine Or.inr ⟨z, bz, ez, ⟨c, m, f, by omega, q⟩, fun c m f hc bm bf em ef => ?_⟩
        by_cases e : c = j
        · subst e
          exact c0.elim (fun y => absurd (em.symm.trans y) (n1 bm)) (fun y => absurd (ef.symm.trans y) (n1 bf))
        · exact lz c m f (by omega) bm bf em ef
    rw [if_neg c0]
    obtain ⟨m, bm, em⟩ := (hW j (by omega)).resolve_left (fun y => c0 (Or.inl y))
    obtain ⟨f, bf, ef⟩ := (hF j (by omega)).resolve_left (fun y => c0 (Or.inr y))
    rw [em, ef, nI_add]
    rcases ih with ⟨e, z⟩ | ⟨z, bz, ez, ⟨c, m', f', q0, q⟩, lz⟩
    · rw [if_pos e]
      refine Or.inr ⟨m + f, by omega, rfl, ⟨j, m, f, by omega, bm, bf, em, ef, rfl⟩, fun c m' f' hc bm' bf' em' ef' => ?_⟩
      by_cases e : c = j
      · subst e
        rw [inj bm bm' (em.symm.trans em'), inj bf bf' (ef.symm.trans ef')]
        exact Nat.le_refl _
      · exact absurd ⟨by rw [em']; exact n1 bm', by rw [ef']; exact n1 bf'⟩ (z c (by omega))
    · rw [ez, if_neg (nI_n1 (by omega))]
      by_cases c1 : m + f ≤ z
      · rw [if_pos (nI_le c1 (by omega))]
        refine Or.inr ⟨m + f, by omega, rfl, ⟨j, m, f, by omega, bm, bf, em, ef, rfl⟩, fun c m' f' hc bm' bf' em' ef' => ?_⟩
        by_cases e : c = j
        · subst e
          rw [inj bm bm' (em.symm.trans em'), inj bf bf' (ef.symm.trans ef')]
          exact Nat.le_refl _
        · have := lz c m' f' (by omega) bm' bf' em' ef'
          omega
      · rw [if_neg (fun y => c1 ((nI_leI (by omega) (by omega)).mp y))]
        refine Or.inr ⟨z, bz, rfl, ⟨c, m', f', by omega, q⟩, fun c m' f' hc bm' bf' em' ef' => ?_⟩
        by_cases e : c = j
        · subst e
          rw [← inj bm bm' (em.symm.trans em'), ← inj bf bf' (ef.symm.trans ef')]
          omega
        · exact lz c m' f' (by omega) bm' bf' em' ef'
/-- the reference's round is the least closed walk -/
theorem round_M (h : Gr a nc ns U V L) (hh : home < nc) (hstr : str < 2 ^ ns) : Rd U V L ns (nI str) home (mRound a (wayF a ns (-1)) ns str home) := by
  have h8 := h.2.1
  have h10 := h.1
  have p8 := pow_le h8
  have tb : ∀ s, s < ns → (bB (nI str) s = true ↔ str.testBit s = true) := fun s hs => by
    rw [← bB_has (by omega)]
    exact set_has str (by omega) s (by omega)
  obtain ⟨W1, W2, W3⟩ := wAll_ok (str := str) (F := wayF a ns (-1)) h rfl hh
  have low := wAll_low (str := str) (F := wayF a ns (-1)) h rfl hh hstr
  have hW : ∀ c, c < 10 → wAll a (wayF a ns (-1)) ns str home str c = -1 ∨ ∃ m, m < 2 ^ 28 ∧ wAll a (wayF a ns (-1)) ns str home str c = nI m := fun c hc => by
    rcases W1 str c hstr hc with z | ⟨_, m, e, b, _⟩
    · exact Or.inl z
    · have : str * 2 ^ 20 ≤ 255 * 2 ^ 20 := Nat.mul_le_mul_right _ (by omega)
      exact Or.inr ⟨m, by omega, e⟩
  unfold mRound
  -- corners that no walk ends at may be left out
  have key := best_ok (str := str) (home := home) (F := fun p q => if p < nc then wayF a ns (-1) p q else -1) (W := wAll a (wayF a ns (-1)) ns str home) hW (fun c _ => by
    show (if c < nc then wayF a ns (-1) c home else -1) = -1 ∨ ∃ f, f < 2 ^ 28 ∧ (if c < nc then wayF a ns (-1) c home else -1) = nI f
    by_cases e : c < nc
    · rw [if_pos e]
      rcases way_D (but := -1) (p := c) (q := home) h e hh with z | ⟨f, ef, bf, _⟩
      · exact Or.inl z.1
      · exact Or.inr ⟨f, by omega, ef⟩
    · rw [if_neg e]; exact Or.inl rfl) 10 (Nat.le_refl _)
  have same : lpM (wBest (wayF a ns (-1)) (wAll a (wayF a ns (-1)) ns str home) str home) 10 0 (-1) = lpM (wBest (fun p q => if p < nc then wayF a ns (-1) p q else -1) (wAll a (wayF a ns (-1)) ns str home) str home) 10 0 (-1) := by
    refine lpM_cg _ _ _ (fun c y _ hc => ?_)
    unfold wBest
    by_cases e : c < nc
    · simp only [if_pos e]
    · have : wAll a (wayF a ns (-1)) ns str home str c = -1 := (W1 str c hstr (by omega)).elim id (fun z => absurd z.1 e)
      rw [if_pos (Or.inl this), if_pos (Or.inl this)]
  rw [same]
  have all : ∀ z, TS U V L ns (nI str) home z → ∃ c m f, c < 10 ∧ c < nc ∧ m < 2 ^ 28 ∧ f < 2 ^ 28 ∧ wAll a (wayF a ns (-1)) ns str home str c = nI m ∧ wayF a ns (-1) c home = nI f ∧ m + f ≤ z := by
    intro z ⟨w, w1, w2, w3⟩
    obtain ⟨m0, l0, b0, e0⟩ := W2
    have eF : wayF a ns (-1) home home = nI 0 := by
      rcases way_D (but := -1) (p := home) (q := home) h hh hh with ⟨_, z⟩ | ⟨f0, ef0, _, _, z⟩
      · exact absurd (Wy.refl (decide_eq_true hh)) (z 0)
      · have := z 0 (Wy.refl (decide_eq_true hh))
        rw [ef0, show f0 = 0 by omega]
    obtain ⟨x', c', m', f', q1, q2, q3, q4, q5, q6, q7, q8⟩ := low w 0 home home home m0 0 w1 (Nat.pow_pos (by decide)) hh hh b0 (by decide) e0 eF
    have ex : x' = str := by
      refine Nat.eq_of_testBit_eq (fun t => ?_)
      rw [q8 t, Nat.zero_testBit, Bool.false_or]
      by_cases e : str.testBit t = true
      · have ht : t < ns := by
          by_cases z : t < ns
          · exact z
          · have := Nat.testBit_lt_two_pow (Nat.lt_of_lt_of_le hstr (Nat.pow_le_pow_right (by decide) (show ns ≤ t by omega)))
            rw [this] at e
            exact Bool.noConfusion e
        rw [e, decide_eq_true (w2 t ht ((tb t ht).mpr e))]
        rfl
      · rw [Bool.eq_false_iff.mpr e]; rfl
    subst ex
    exact ⟨c', m', f', by omega, q2, q3, q4, q5, q6, by omega⟩
  rcases key with ⟨e, z⟩ | ⟨z, bz, ez, ⟨c, m, f, q0, q1, q2, q3, q4, q5⟩, lz⟩
  · refine Or.inl ⟨e, fun y hy => ?_⟩
    obtain ⟨c, m, f, c1, c2, bm, bf, em, ef, _⟩ := all y hy
    refine z c c1 ⟨by rw [em]; exact nI_n1 (by omega), ?_⟩
    show ¬ (if c < nc then wayF a ns (-1) c home else -1) = -1
    rw [if_pos c2, ef]
    exact nI_n1 (by omega)
  · refine Or.inr ⟨z, ez, bz, ?_, fun y hy => ?_⟩
    · obtain ⟨cn, m', em', bm', _, w, w1, w2, w3⟩ := (W1 str c hstr q0).resolve_left (by rw [q3]; exact nI_n1 (by omega))
      have e1 : m' = m := (nI_eq (by have : str * 2 ^ 20 ≤ 255 * 2 ^ 20 := Nat.mul_le_mul_right _ (by omega); omega) (by omega)).mp (em'.symm.trans q3)
      have q4 : (if c < nc then wayF a ns (-1) c home else -1) = nI f := q4
      rw [if_pos cn] at q4
      obtain ⟨f', ef', bf', ⟨kf, hf⟩, _⟩ := (way_D (but := -1) (p := c) (q := home) h cn hh).resolve_left (fun y => by rw [y.1] at q4; exact absurd q4.symm (nI_n1 (by omega)))
      have e2 : f' = f := (nI_eq (by omega) (by omega)).mp (ef'.symm.trans q4)
      obtain ⟨wf, wf1, wf2⟩ := Wk.list hf
      refine ⟨w ++ wf, Wl.app w1 wf1, fun s hs hb => List.mem_append_left _ (w3 s hs ((tb s hs).mp hb)), ?_⟩
      rw [lsum_app, w2, wf2, q5, e1, e2]
    · obtain ⟨c, m, f, c1, c2, bm, bf, em, ef, l⟩ := all y hy
      have := lz c m f c1 bm bf em (by show (if c < nc then wayF a ns (-1) c home else -1) = nI f; rw [if_pos c2]; exact ef)
      omega
end RDM
