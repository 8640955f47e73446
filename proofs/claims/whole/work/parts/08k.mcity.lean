/-! The reference: city -/
theorem pFields_c {B : Nat → Int32} {n p e : Nat} {k nc ns : Int32} {c : Cl} (hk : k = 1 ∨ k = 2 ∨ k = 3 ∨ k = 4 ∨ k = 5 ∨ k = 6 ∨ k = 7) (h : pFields B n k nc ns p = .inl (c, e)) : c.1 = k := by
  unfold pFields at h
  rcases hk with rfl | rfl | rfl | rfl | rfl | rfl | rfl
  · rw [if_pos rfl] at h
    obtain ⟨_, _, h⟩ := sB_inv h
    obtain ⟨_, _, h⟩ := sB_inv h
    cases h; rfl
  · rw [if_neg (by decide), if_pos rfl] at h
    obtain ⟨_, _, h⟩ := sB_inv h
    obtain ⟨_, _, h⟩ := sB_inv h
    obtain ⟨_, _, h⟩ := sB_inv h
    obtain ⟨_, _, h⟩ := sB_inv h
    cases h; rfl
  · rw [if_neg (by decide), if_neg (by decide), if_pos rfl] at h
    obtain ⟨_, _, h⟩ := sB_inv h
    obtain ⟨_, _, h⟩ := sB_inv h
    obtain ⟨_, _, h⟩ := sB_inv h
    cases h; rfl
  · rw [if_neg (by decide), if_neg (by decide), if_neg (by decide), if_pos rfl] at h
    obtain ⟨_, _, h⟩ := sB_inv h
    obtain ⟨_, _, h⟩ := sB_inv h
    cases h; rfl
  · rw [if_neg (by decide), if_neg (by decide), if_neg (by decide), if_neg (by decide), if_pos rfl] at h
    obtain ⟨_, _, h⟩ := sB_inv h
    obtain ⟨_, _, h⟩ := sB_inv h
    cases h; rfl
  · rw [if_neg (by decide), if_neg (by decide), if_neg (by decide), if_neg (by decide), if_neg (by decide), if_pos rfl] at h
    obtain ⟨_, _, h⟩ := sB_inv h
    obtain ⟨_, _, h⟩ := sB_inv h
    obtain ⟨_, _, h⟩ := sB_inv h
    obtain ⟨_, _, h⟩ := sB_inv h
    cases h; rfl
  · rw [if_neg (by decide), if_neg (by decide), if_neg (by decide), if_neg (by decide), if_neg (by decide), if_neg (by decide)] at h
    obtain ⟨_, _, h⟩ := sB_inv h
    cases h; rfl
theorem pFields_e {B : Nat → Int32} {n p e : Nat} {k nc ns : Int32} {c : Cl} (hp : p ≤ n) (h : pFields B n k nc ns p = .inl (c, e)) : e ≤ n := by
  unfold pFields at h
  split at h
  · obtain ⟨x, h1, h⟩ := sB_inv h
    obtain ⟨y, h2, h⟩ := sB_inv h
    cases h
    exact (pNum_e (pNum_e hp h1).2.1 h2).2.1
  split at h
  · obtain ⟨x, h1, h⟩ := sB_inv h
    obtain ⟨y, h2, h⟩ := sB_inv h
    obtain ⟨u, h3, h⟩ := sB_inv h
    obtain ⟨v, h4, h⟩ := sB_inv h
    cases h
    exact (pNum_e (pNum_e (pOther_e (pNum_e hp h1).2.1 h2).2.1 h3).2.1 h4).2.1
  split at h
  · obtain ⟨x, h1, h⟩ := sB_inv h
    obtain ⟨y, h2, h⟩ := sB_inv h
    obtain ⟨u, h3, h⟩ := sB_inv h
    cases h
    exact (pNum_e (pOther_e (pNum_e hp h1).2.1 h2).2.1 h3).2.1
  split at h
  · obtain ⟨x, h1, h⟩ := sB_inv h
    obtain ⟨y, h2, h⟩ := sB_inv h
    cases h
    exact (pOther_e (pNum_e hp h1).2.1 h2).2.1
  split at h
  · obtain ⟨x, h1, h⟩ := sB_inv h
    obtain ⟨y, h2, h⟩ := sB_inv h
    cases h
    exact (pNum_e (pNum_e hp h1).2.1 h2).2.1
  split at h
  · obtain ⟨x, h1, h⟩ := sB_inv h
    obtain ⟨y, h2, h⟩ := sB_inv h
    obtain ⟨u, h3, h⟩ := sB_inv h
    obtain ⟨v, h4, h⟩ := sB_inv h
    cases h
    exact (pNum_e (pNum_e (pNum_e (pNum_e hp h1).2.1 h2).2.1 h3).2.1 h4).2.1
  · obtain ⟨x, h1, h⟩ := sB_inv h
    cases h
    exact (pNum_e hp h1).2.1
/-- a good clause keeps the bounds -/
def cB (i : Int32) (M x : Nat) (c : Cl) : Nat := if c.1 = i then x + 1 else x
theorem cN_nI {c : Cl} {i : Int32} {M x : Nat} : cN c i (nI x) = nI (cB i M x c) := by
  unfold cN cB
  by_cases h : c.1 = i
  · rw [if_pos h, if_pos h, nI_1]
  · rw [if_neg h, if_neg h]
theorem pClause_ok {B : Nat → Int32} {n m nc ns ng p e : Nat} {c : Cl} (hp : p ≤ n) (hnc : nc ≤ 10) (hns : ns ≤ 8) (hng : ng ≤ 8) (h : pClause B n m (nI nc) (nI ns) (nI ng) p = .inl (c, e)) :
    m < 60 ∧ e ≤ n ∧ cB 1 10 nc c ≤ 10 ∧ cB 2 8 ns c ≤ 8 ∧ cB 5 8 ng c ≤ 8 := by
  have l1 := skB_le (B := B) hp
  have l2 := ltE_le (B := B) l1.2
  have hct := rKind_ct (B := B) (n := n) (p := p)
  unfold pClause at h
  generalize ctKind B (skB B n p) (ltE B n (skB B n p)) = ct at *
  have hk : ct = 0 ∨ ct = 1 ∨ ct = 2 ∨ ct = 3 ∨ ct = 4 ∨ ct = 5 ∨ ct = 6 ∨ ct = 7 := by
    rcases hct with h | h | h | h | h | h | h | h <;> simp [h.1]
  split at h
  · cases h
  next h0 =>
  split at h
  · cases h
  next h1 =>
  obtain ⟨v, hv, h⟩ := sB_inv h
  obtain ⟨e', he, h⟩ := sB_inv h
  cases h
  have hc := pFields_c (k := ct) (c := v.1) (e := v.2) (by rcases hk with h | h; exact absurd h h0; exact h) hv
  have h60 : m < 60 := by
    rcases Nat.lt_or_ge m 60 with h | h
    · exact h
    · exact absurd (Or.inl h) h1
  have hf : ¬ ctFull ct (nI nc) (nI ns) (nI ng) = true := fun h => h1 (Or.inr h)
  rw [ct_full] at hf
  have l10 : (10 : Int32) ≤ nI nc ↔ 10 ≤ nc := nI_leI (a := 10) (by decide) (by omega)
  have l8 : (8 : Int32) ≤ nI ns ↔ 8 ≤ ns := nI_leI (a := 8) (by decide) (by omega)
  have l8' : (8 : Int32) ≤ nI ng ↔ 8 ≤ ng := nI_leI (a := 8) (by decide) (by omega)
  rw [l10, l8, l8'] at hf
  have hvn : v.2 ≤ n := by
    have := pFields_e (B := B) (n := n) (k := ct) (nc := nI nc) (ns := nI ns) (c := v.1) (e := v.2) l2.2 hv
    exact this
  refine ⟨h60, ?_, ?_, ?_, ?_⟩
  · exact (pSign_e hvn (by decide) he).2
  · unfold cB
    split
    · next h => exact Nat.lt_of_not_le (fun z => hf (Or.inl ⟨hc ▸ h, z⟩))
    · exact hnc
  · unfold cB
    split
    · next h => exact Nat.lt_of_not_le (fun z => hf (Or.inr (Or.inl ⟨hc ▸ h, z⟩)))
    · exact hns
  · unfold cB
    split
    · next h => exact Nat.lt_of_not_le (fun z => hf (Or.inr (Or.inr ⟨hc ▸ h, z⟩)))
    · exact hng

def mAll (l : List Cl) (a : IA) : IA := l.foldl mDo a
/-- all the same, but slots of row 60 in which the text stands -/
def e6 (a a' : IA) : Prop := (∀ q, q ≠ 60 → a' q = a q) ∧ ∀ j, mJ j = false → a' 60 j = a 60 j
theorem e6_rf {a : IA} : e6 a a := ⟨fun _ _ => rfl, fun _ _ => rfl⟩
theorem e6_tr {a b c : IA} (h1 : e6 a b) (h2 : e6 b c) : e6 a c := ⟨fun q h => (h2.1 q h).trans (h1.1 q h), fun j h => (h2.2 j h).trans (h1.2 j h)⟩
theorem e6_u {a : IA} {j : Nat} {v : Int32} (h : mJ j = true) : e6 a (u2 a 60 j v) := ⟨fun q hq => u2_off q hq, fun i hi => u2_ne (fun e => by rw [e, h] at hi; cases hi)⟩
theorem e6_w {a a' : IA} {q j : Nat} {v : Int32} (h : e6 a a') (hq : q ≠ 60) : e6 (u2 a q j v) (u2 a' q j v) := by
  refine ⟨fun k hk => ?_, fun i hi => ?_⟩
  · funext i
    rw [u2_at0, u2_at0, h.1 k hk]
  · rw [u2_off 60 (fun e => hq e.symm), u2_off 60 (fun e => hq e.symm)]; exact h.2 i hi
theorem mDo_e6 {a a' : IA} {c : Cl} (h : e6 a a') : e6 (mDo a c) (mDo a' c) := by
  have e : ∀ j, a' 63 j = a 63 j := fun j => by rw [h.1 63 (by decide)]
  unfold mDo
  rw [e 0, e 1, e 2]
  split
  · exact e6_w (e6_w (e6_w h (by omega)) (by omega)) (by omega)
  split
  · exact e6_w (e6_w (e6_w (e6_w (e6_w h (by omega)) (by omega)) (by omega)) (by omega)) (by omega)
  split
  · exact e6_w h (by have : ∀ k : Nat, 105 + 1 + k ≠ 60 := fun k => by omega
                     exact this _)
  split
  · exact e6_w (e6_w h (by omega)) (by omega)
  split
  · exact e6_w (e6_w (e6_w h (by omega)) (by omega)) (by omega)
  split
  · exact e6_w (e6_w (e6_w (e6_w h (by omega)) (by omega)) (by omega)) (by omega)
  · exact e6_w h (by omega)
theorem mAll_e6 : ∀ (l : List Cl) (a a' : IA), e6 a a' → e6 (mAll l a) (mAll l a') := by
  intro l
  induction l with
  | nil => intro a a' h; exact h
  | cons c l ih => intro a a' h; exact ih _ _ (mDo_e6 h)
theorem mDo_n {a : IA} {c : Cl} : (mDo a c) 63 0 = cN c 1 (a 63 0) ∧ (mDo a c) 63 1 = cN c 2 (a 63 1) ∧ (mDo a c) 63 2 = cN c 5 (a 63 2) := by
  unfold mDo cN
  by_cases h1 : c.1 = 1
  · rw [if_pos h1]
    simp only [h1, u2_at0]
    have : ∀ k : Nat, 63 ≠ 65 + 1 + k := fun k => by omega
    simp [this]
  by_cases h2 : c.1 = 2
  · rw [if_neg h1, if_pos h2]
    simp only [h2, u2_at0]
    have : ∀ k : Nat, 63 ≠ 87 + 1 + k := fun k => by omega
    simp [this]
  by_cases h3 : c.1 = 3
  · rw [if_neg h1, if_neg h2, if_pos h3]
    simp only [h3, u2_at0]
    have : ∀ k : Nat, 63 ≠ 105 + 1 + k := fun k => by omega
    simp [this]
  by_cases h4 : c.1 = 4
  · rw [if_neg h1, if_neg h2, if_neg h3, if_pos h4]
    simp only [h4, u2_at0]
    have : ∀ k : Nat, 63 ≠ 123 + 1 + k := fun k => by omega
    simp [this]
  by_cases h5 : c.1 = 5
  · rw [if_neg h1, if_neg h2, if_neg h3, if_neg h4, if_pos h5]
    simp only [h5, u2_at0]
    have : ∀ k : Nat, 63 ≠ 141 + 1 + k := fun k => by omega
    simp [this]
  rw [if_neg h1, if_neg h2, if_neg h3, if_neg h4, if_neg h5, if_neg h1, if_neg h2, if_neg h5]
  split
  · simp [u2_at0]
  · simp [u2_at0]
theorem mDo_60 {a : IA} {c : Cl} : mDo a c 60 = a 60 := by
  unfold mDo
  split
  · rw [u2_off 60 (by omega), u2_off 60 (by omega), u2_off 60 (by omega)]
  split
  · rw [u2_off 60 (by omega), u2_off 60 (by omega), u2_off 60 (by omega), u2_off 60 (by omega), u2_off 60 (by omega)]
  split
  · rw [u2_off 60 (by omega)]
  split
  · rw [u2_off 60 (by omega), u2_off 60 (by omega)]
  split
  · rw [u2_off 60 (by omega), u2_off 60 (by omega), u2_off 60 (by omega)]
  split
  · rw [u2_off 60 (by omega), u2_off 60 (by omega), u2_off 60 (by omega), u2_off 60 (by omega)]
  · rw [u2_off 60 (by omega)]
theorem mDo_K {a : IA} {B : Nat → Int32} {n m nc ns ng p e : Nat} {c : Cl} (hp : p ≤ n) (h : pClause B n m (nI nc) (nI ns) (nI ng) p = .inl (c, e)) (h0 : a 63 0 = nI nc) (h1 : a 63 1 = nI ns) (h2 : a 63 2 = nI ng) (hnc : nc ≤ 10) (hns : ns ≤ 8) (hng : ng ≤ 8) : mK a (mDo a c) := by
  have hok := pClause_ok hp hnc hns hng h
  have l1 := skB_le (B := B) hp
  have l2 := ltE_le (B := B) l1.2
  have hct := rKind_ct (B := B) (n := n) (p := p)
  unfold pClause at h
  generalize ctKind B (skB B n p) (ltE B n (skB B n p)) = ct at *
  generalize ltE B n (skB B n p) = w at *
  split at h
  · cases h
  next h0' =>
  split at h
  · cases h
  obtain ⟨v, hv, h⟩ := sB_inv h
  obtain ⟨e', he, h⟩ := sB_inv h
  cases h
  obtain ⟨c, e1⟩ := v
  simp only at hok ⊢
  have hc := pFields_c (k := ct) (c := c) (e := e1) (by rcases hct with h | h | h | h | h | h | h | h <;> simp [h.1]; exact absurd h.1 h0') hv
  obtain ⟨c1, c2, c3, c4, c5⟩ := c
  simp only at hc
  subst hc
  unfold cB at hok
  rcases hct with h | h | h | h | h | h | h | h
  · exact absurd h.1 h0'
  · have hk := h.1
    subst hk
    rw [mDo_1 h0 (by omega)]
    have : nc < 10 := by have := hok.2.2.1; rw [if_pos rfl] at this; omega
    exact mK_tr (mK_w (mS_r (by omega)) (by omega)) (mK_tr (mK_w (mS_r (by omega)) (by omega)) (mK_w (by decide) (by decide)))
  · have hk := h.1
    subst hk
    rw [mDo_2 h1 (by omega)]
    have : ns < 8 := by have := hok.2.2.2.1; rw [if_pos rfl] at this; omega
    exact mK_tr (mK_w (mS_r (by omega)) (by omega)) (mK_tr (mK_w (mS_r (by omega)) (by omega)) (mK_tr (mK_w (mS_r (by omega)) (by omega)) (mK_tr (mK_w (mS_r (by omega)) (by omega)) (mK_w (by decide) (by decide)))))
  · have hk := h.1
    subst hk
    unfold pFields at hv
    rw [if_neg (by decide), if_neg (by decide), if_pos rfl] at hv
    obtain ⟨x, g1, hv⟩ := sB_inv hv
    obtain ⟨y, g2, hv⟩ := sB_inv hv
    obtain ⟨u, g3, hv⟩ := sB_inv hv
    cases hv
    have b1 := pNum_e l2.2 g1
    have b2 := pOther_e b1.2.1 g2
    obtain ⟨i, hi, ei⟩ := nIdx (by omega) b1.2.2.1 b1.2.2.2
    obtain ⟨j, hj, ej⟩ := nIdx (by omega) b2.2.2.1 b2.2.2.2.1
    rw [mDo_3 ei ej (by omega) (by omega)]
    exact mK_w (mS_r (by omega)) (by omega)
  · have hk := h.1
    subst hk
    unfold pFields at hv
    rw [if_neg (by decide), if_neg (by decide), if_neg (by decide), if_pos rfl] at hv
    obtain ⟨x, g1, hv⟩ := sB_inv hv
    obtain ⟨y, g2, hv⟩ := sB_inv hv
    cases hv
    have b1 := pNum_e l2.2 g1
    have b2 := pOther_e b1.2.1 g2
    obtain ⟨i, hi, ei⟩ := nIdx (by omega) b1.2.2.1 b1.2.2.2
    obtain ⟨j, hj, ej⟩ := nIdx (by omega) b2.2.2.1 b2.2.2.2.1
    rw [mDo_4 ei ej (by omega) (by omega)]
    exact mK_tr (mK_w (mS_r (by omega)) (by omega)) (mK_w (mS_r (by omega)) (by omega))
  · have hk := h.1
    subst hk
    rw [mDo_5 h2 (by omega)]
    have : ng < 8 := by have := hok.2.2.2.2; rw [if_pos rfl] at this; omega
    exact mK_tr (mK_w (mS_r (by omega)) (by omega)) (mK_tr (mK_w (mS_r (by omega)) (by omega)) (mK_w (by decide) (by decide)))
  · have hk := h.1
    subst hk
    rw [mDo_6]
    exact mK_tr (mK_w (by decide) (by decide)) (mK_tr (mK_w (by decide) (by decide)) (mK_tr (mK_w (by decide) (by decide)) (mK_w (by decide) (by decide))))
  · have hk := h.1
    subst hk
    rw [mDo_7]
    exact mK_w (by decide) (by decide)
section MCI
variable {G : GE} {d C S : Nat} {a b : IA} {r : RA} {N n p i s w j : Nat} {B : Nat → Int32} {x y kd : Int32} {o : Po}
theorem l_mCity {P : KI} (hr : Rk r) : ∀ (t m nc ns ng p : Nat) (a : IA), m + t = 61 → m ≤ 60 → MT a B n p → skB B n p = p → a 60 7 = nI m → a 63 0 = nI nc → nc ≤ 10 → a 63 1 = nI ns → ns ≤ 8 → a 63 2 = nI ng → ng ≤ 8 →
    (∀ l, pCity B n t m (nI nc) (nI ns) (nI ng) p = .inl l → ∀ nc' ns' ng' a1 a2, nc' ≤ 10 → ns' ≤ 8 → ng' ≤ 8 → (mAll l a) 63 0 = nI nc' → (mAll l a) 63 1 = nI ns' → (mAll l a) 63 2 = nI ng' → e6 (mAll l a) a1 → mStd nc' ns' ng' (u2 a1 60 3 (-1)) a2 → P (nI ns') a2 r nK) →
    (∀ k f, pCity B n t m (nI nc) (nI ns) (nI ng) p = .inr (k, f) → ∀ a1, mK a a1 → P (k - 10) (u2 a1 60 3 (nI f)) r nK) →
    E G MX12_city (d + 6) C S 42 [.ref 60, .null] [] (a, r, nK) (RI P) := by
  intro t
  induction t with
  | zero => intro m _ _ _ _ _ hm hm6; exact absurd hm6 (by omega)
  | succ t ih =>
    intro m nc ns ng p a hm hm6 hT hsk h7 h0 hnc h1 hns h2 hng hy hf
    obtain ⟨hB, h2n, h4, hpn, h5⟩ := hT
    have hn := hB.1
    refine V_X12_city_42 ⟨rfl, by decide, fun h => absurd h5 h, fun _ => ⟨rfl, by decide, rfl, by decide, fun hle => ?_, fun hle => ?_⟩⟩
    · rw [h2n, h4, nI_leI (by omega) (by omega)] at hle
      have hl : pCity B n (t + 1) m (nI nc) (nI ns) (nI ng) p = .inl [] := by rw [pCity, if_neg (by omega)]
      refine ⟨rfl, by decide, fun _ => ⟨rfl, by decide, fun a10 h10 => ⟨rfl, by decide, ?_⟩⟩, fun h => absurd h5 h⟩
      subst h10
      refine c_mStands hr hnc hns hng (by rw [u2_off 63 (by decide)]; exact h0) (by rw [u2_off 63 (by decide)]; exact h1) (by rw [u2_off 63 (by decide)]; exact h2) (fun a2 hs => ⟨rfl, by decide, 64, rf5 hr (by decide) rfl, rfl, by decide, vp_in_nI (show 1 < 8 by decide) (by decide), ?_⟩)
      have e1 : a2 64 1 = nI ns := by rw [hs.2.2.2.1 1 (by decide), u2_off 63 (by decide)]; exact h1
      rw [z1, e1]
      exact hy [] hl nc ns ng a a2 hnc hns hng h0 h1 h2 e6_rf hs
    · rw [h2n, h4, nI_leI (by omega) (by omega)] at hle
      have hlt : skB B n p < n := by omega
      have hp0 : pCity B n (t + 1) m (nI nc) (nI ns) (nI ng) p = sB (pClause B n m (nI nc) (nI ns) (nI ng) p) fun c => sB (pCity B n t (m + 1) (cN c.1 1 (nI nc)) (cN c.1 2 (nI ns)) (cN c.1 5 (nI ng)) c.2) fun l => .inl (c.1 :: l) := by
        rw [pCity, if_pos hlt, hsk]
      rw [hp0] at hy hf
      refine ⟨rfl, by decide, c_mClause hr ⟨hB, h2n, h4, hpn, h5⟩ h7 hm6 h0 hnc h1 hns h2 hng (fun c e hc hM => ⟨rfl, by decide, ?_⟩) (fun k f hc a1 hk hM => ⟨rfl, by decide, ?_⟩)⟩
      · have hok := pClause_ok hpn hnc hns hng hc
        have hMt := hM.mt
        have l1 := skB_le (B := B) hok.2.1
        refine c_mBlanks hr hMt.1 hMt.2.1 hMt.2.2.1 hMt.2.2.2.1 ?_
        have eA : u2 (mAt (mDo (u2 a 60 7 (nI (m + 1))) c) e) 60 4 (nI (skB B n e)) = mAt (mDo (u2 a 60 7 (nI (m + 1))) c) (skB B n e) := u2_u2
        have hT2 := hMt.at l1.2
        rw [eA] at hT2 ⊢
        have hE : e6 (mDo a c) (mAt (mDo (u2 a 60 7 (nI (m + 1))) c) (skB B n e)) := e6_tr (mDo_e6 (e6_u rfl)) (e6_u rfl)
        have hn3 := mDo_n (a := a) (c := c)
        rw [h0, h1, h2] at hn3
        rw [cN_nI (M := 10), cN_nI (M := 8), cN_nI (M := 8)] at hn3
        have c3 : ∀ i, mAt (mDo (u2 a 60 7 (nI (m + 1))) c) (skB B n e) 63 i = mDo a c 63 i := fun i => by rw [hE.1 63 (by decide)]
        have eC : ∀ t' m' p', pCity B n t' m' (cN c 1 (nI nc)) (cN c 2 (nI ns)) (cN c 5 (nI ng)) p' = pCity B n t' m' (nI (cB 1 10 nc c)) (nI (cB 2 8 ns c)) (nI (cB 5 8 ng c)) p' := fun t' m' p' => by rw [cN_nI (M := 10), cN_nI (M := 8), cN_nI (M := 8)]
        have eS : pCity B n t (m + 1) (nI (cB 1 10 nc c)) (nI (cB 2 8 ns c)) (nI (cB 5 8 ng c)) (skB B n e) = pCity B n t (m + 1) (nI (cB 1 10 nc c)) (nI (cB 2 8 ns c)) (nI (cB 5 8 ng c)) e := by
          cases t with
          | zero => rfl
          | succ t => rw [pCity, pCity, skB_skB hok.2.1]
        refine ih (m + 1) _ _ _ (skB B n e) _ (by omega) (by omega) hT2 (skB_skB hok.2.1) ?_ ((c3 0).trans hn3.1) hok.2.2.1 ((c3 1).trans hn3.2.1) hok.2.2.2.1 ((c3 2).trans hn3.2.2) hok.2.2.2.2 ?_ ?_
        · unfold mAt
          rw [u2_ne (by decide)]
          rw [mDo_60, u2_eq]
        · intro l hl nc' ns' ng' a1 a2 g1 g2 g3 g4 g5 g6 g7 g8
          rw [eS, ← eC] at hl
          have hE2 := mAll_e6 l _ _ hE
          have q3 : ∀ i, mAll l (mAt (mDo (u2 a 60 7 (nI (m + 1))) c) (skB B n e)) 63 i = mAll l (mDo a c) 63 i := fun i => by rw [hE2.1 63 (by decide)]
          exact hy (c :: l) (by rw [sB_l hc]; simp only; rw [sB_l hl]) nc' ns' ng' a1 a2 g1 g2 g3 ((q3 0).symm.trans g4) ((q3 1).symm.trans g5) ((q3 2).symm.trans g6) (e6_tr hE2 g7) g8
        · intro k f hl a1 g1
          rw [eS, ← eC] at hl
          refine hf k f (by rw [sB_l hc]; simp only; rw [sB_r hl]) a1 (mK_tr ?_ g1)
          refine mK_tr (mK_6 (j := 7) (v := nI (m + 1)) rfl) (mK_tr ?_ (mK_6 (j := 4) rfl))
          exact mDo_K hpn hc (by rw [u2_off 63 (by decide)]; exact h0) (by rw [u2_off 63 (by decide)]; exact h1) (by rw [u2_off 63 (by decide)]; exact h2) hnc hns hng
      · have hz := hM.2.2.2 k f rfl
        obtain ⟨q, hq, e4⟩ := hz.2.2.2
        refine c_mBlanks hr hM.1 hM.2.1 e4 hq ?_
        generalize skB B n q = q'
        have f5 : u2 a1 60 4 (nI q') 60 5 = k := by rw [u2_ne (by decide)]; exact hz.1
        have f6 : u2 a1 60 4 (nI q') 60 6 = nI f := by rw [u2_ne (by decide)]; exact hz.2.2.1
        refine V_X12_city_42 ⟨rfl, by decide, fun _ => ⟨rfl, by decide, fun h => absurd (f5.symm.trans h) hz.2.1, fun _ => ⟨rfl, by decide, c_mEnds ?_⟩⟩, fun h => absurd (f5.symm.trans h) hz.2.1⟩
        rw [f5, f6]
        exact hf k f (by rw [sB_r hc]) _ (mK_tr hk (mK_6 rfl))
end MCI
