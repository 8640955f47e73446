/-! The reference: the steps done -/
def mSb (a : IA) (ns : Nat) (lw : List Int32) (g : Nat → Int32) (v : St) : Bool × (Nat → Int32) := (decide (¬ (mStp a 582 ns lw g v).1 = 0), (mStp a 582 ns lw g v).2)
def GX (a h : IA) (x : Xs (Nat → Int32)) : Prop := (∀ q, q ≠ 60 → q ≠ 582 → q ≠ 499 → q ≠ 500 → h q = a q) ∧ (∀ j, j ≠ 40 → j ≠ 43 → j ≠ 44 → h 60 j = a 60 j) ∧ h 582 = x.1 ∧ h 60 43 = nI x.2.1 ∧ h 60 44 = nI x.2.2.1 ∧ h 60 40 = nI x.2.2.2
theorem mQuar_m {g : Nat → Int32} {s r i : Nat} (hi : i < 8) : mQuar g s r i = g i := by
  unfold mQuar
  rw [upd_ne (by omega), upd_ne (by omega)]
theorem lpM_inv {χ : Type} {I : χ → Prop} {g : Nat → χ → χ} : ∀ (n i : Nat) (x : χ), I x → (∀ j y, i ≤ j → j < i + n → I y → I (g j y)) → I (lpM g n i x)
  | 0, _, _, h, _ => h
  | n + 1, i, x, h, hg => lpM_inv n (i + 1) (g i x) (hg i x (Nat.le_refl _) (by omega) h) (fun j y h1 h2 h3 => hg j y (by omega) (by omega) h3)
theorem wfM_turn {ns : Nat} {g : Nat → Int32} (h : wfM ns g) (h8 : ns ≤ 8) : wfM ns (mTurn ns g).2 := by
  unfold mTurn
  split
  · exact h
  · refine lpM_inv (I := wfM ns) ns 0 _ (lpM_inv (I := wfM ns) ns 0 _ (wfM_cg h (fun s hs => upd_ne (by omega))) (fun j y _ h2 h3 => wfM_cg h3 (fun i hi => mAge_m (by omega)))) (fun j y _ h2 h3 => wfM_split h3 h8 (by omega))
theorem wfM_marry {ns s t : Nat} {g : Nat → Int32} (h : wfM ns g) (h8 : ns ≤ 8) (hs : s < ns) (ht : t < ns) (hne : s ≠ t) (e1 : g s = -1) (e2 : g t = -1) : wfM ns (mMarry g s t) := by
  have key : ∀ i, i < 8 → mMarry g s t i = if i = t then nI s else if i = s then nI t else g i := by
    intro i hi
    unfold mMarry
    rw [upd_ne (by omega), upd_ne (by omega), upd_ne (by omega), upd_ne (by omega)]
    by_cases e : i = t
    · rw [e, upd_eq, if_pos rfl]
    · rw [upd_ne e, if_neg e]
      by_cases e' : i = s
      · rw [e', upd_eq, if_pos rfl]
      · rw [upd_ne e', if_neg e']
  intro i hi
  rw [key i (by omega)]
  by_cases et : i = t
  · subst et
    rw [if_pos rfl]
    exact Or.inr ⟨s, hs, hne, rfl, by rw [key s (by omega), if_neg hne, if_pos rfl]⟩
  · rw [if_neg et]
    by_cases es : i = s
    · subst es
      rw [if_pos rfl]
      exact Or.inr ⟨t, ht, fun e => hne e.symm, rfl, by rw [key t (by omega), if_pos rfl]⟩
    · rw [if_neg es]
      rcases h i hi with h0 | ⟨k, hk, hkn, h1, h2⟩
      · exact Or.inl h0
      · refine Or.inr ⟨k, hk, hkn, h1, ?_⟩
        rw [key k (by omega), if_neg, if_neg, h2]
        · rintro rfl; rw [e1] at h2; exact nI_n1 (by omega) h2.symm
        · rintro rfl; rw [e2] at h2; exact nI_n1 (by omega) h2.symm
theorem wfM_stp {a : IA} {q ns : Nat} {lw : List Int32} {g : Nat → Int32} {v : St} (h : wfM ns g) (h8 : ns ≤ 8) (hv : stV ns v) : wfM ns (mStp a q ns lw g v).2 := by
  obtain ⟨k, x, y⟩ := v
  obtain ⟨hk, h1, h2⟩ := hv
  simp only at hk h1 h2
  unfold mStp
  simp only
  split
  · next e =>
    obtain ⟨s, hs, rfl⟩ := h1 (Or.inl e)
    obtain ⟨t, ht, rfl⟩ := h2 e
    rw [nI_clamp (by omega), nI_clamp (by omega)]
    split
    · exact h
    · next hn =>
      have n1 : g s = -1 := Classical.byContradiction fun z => hn (Or.inl z)
      have n2 : g t = -1 := Classical.byContradiction fun z => hn (Or.inr (Or.inl z))
      have n3 : mBan (va_up a q g) q lw s t = 0 := Classical.byContradiction fun z => hn (Or.inr (Or.inr z))
      refine wfM_marry h h8 hs ht (fun e => ?_) n1 n2
      unfold mBan at n3
      rw [if_pos e] at n3
      exact absurd n3 (by decide)
  split
  · next e =>
    obtain ⟨s, hs, rfl⟩ := h1 (Or.inr (Or.inl e))
    rw [nI_clamp (by omega)]
    split
    · exact h
    · next hn =>
      rcases h s hs with h0 | ⟨m, hm, hne, g1, g2⟩
      · exact absurd h0 hn
      · rw [g1, nI_clamp (by omega)]
        exact wfM_part h h8 hs hm g1 g2
  split
  · split
    · exact wfM_cg h (fun i hi => upd_ne (by omega))
    · exact h
  split
  · split
    · exact h
    · exact wfM_cg h (fun i hi => mQuar_m (by omega))
  split
  · split
    · exact wfM_cg h (fun i hi => upd_ne (by omega))
    · refine wfM_cg h (fun i hi => ?_)
      show upd (upd g _ 0) _ 0 i = g i
      rw [upd_ne (by omega), upd_ne (by omega)]
  · exact wfM_turn h h8
section MGO
variable {G : GE} {C S : Nat} {a : IA} {r : RA} {nc ns ng : Nat} {lw : List Int32} {l : List St}
def gI (ns : Nat) (x : Xs (Nat → Int32)) : Prop := wfM ns x.1 ∧ x.2.1 ≤ 200
theorem repX_inv {σ : Type} {I : Xs σ → Prop} {g : Xs σ → Xs σ} (hg : ∀ x, I x → I (g x)) : ∀ (n : Nat) (x : Xs σ), I x → I (repX g n x)
  | 0, _, h => h
  | n + 1, x, h => by
    rw [repX]
    refine repX_inv hg n _ ?_
    split
    · exact hg x h
    · exact h
theorem one_inv {v : St} {x : Xs (Nat → Int32)} (h8 : ns ≤ 8) (hv : stV ns v) (hx : gI ns x) (h2 : x.2.1 < 200) : gI ns (oneX (mSb a ns lw) v (x.1, x.2.1 + 1, x.2.2.1, x.2.2.2)) := by
  unfold oneX
  split
  · exact ⟨wfM_stp hx.1 h8 hv, by show x.2.1 + 1 ≤ 200; omega⟩
  · exact ⟨wfM_stp hx.1 h8 hv, by show x.2.1 + 1 ≤ 200; omega⟩
theorem exX_inv (h8 : ns ≤ 8) (h80 : l.length ≤ 80) (hl : ∀ v, v ∈ l → stV ns v) : ∀ (t s e o : Nat) (x : Xs (Nat → Int32)), wfX l t s e o → e ≤ l.length → gI ns x → gI ns (exX (mSb a ns lw) l t s e x)
  | 0, _, _, _, x, _, _, h => h
  | t + 1, s, e, o, x, hw, he, hx => by
    rw [exX]
    split
    · next hc =>
      rcases hw with hw | ⟨_, v, hv, hw⟩
      · omega
      have eg : l.getD s (0, 0, 0) = v := by rw [List.getD_eq_getElem?_getD, hv]; rfl
      have hmem : v ∈ l := List.mem_of_getElem? hv
      rw [eg]
      split
      · next h7 =>
        rw [if_pos h7] at hw
        obtain ⟨z, m, q1, q2, q3, q4, q5, q6, w1, w2⟩ := hw
        rw [q1, q2, nI_clamp (by omega), nI_clamp (by omega)]
        exact exX_inv h8 h80 hl t z e o _ w2 he (repX_inv (fun y hy => exX_inv h8 h80 hl t (s + 1) z (o - 1) y w1 (by omega) hy) m _ ⟨hx.1, by show x.2.1 + 1 ≤ 200; omega⟩)
      · next h7 =>
        rw [if_neg h7] at hw
        exact exX_inv h8 h80 hl t (s + 1) e o _ hw he (one_inv h8 (hl v hmem) hx hc.2)
    · exact hx

theorem GX.c {h : IA} {x : Xs (Nat → Int32)} (hc : MtC a nc ns ng) (hg : GX a h x) : MtC h nc ns ng := hc.row (hg.1 64 (by decide) (by decide) (by decide) (by decide)) (fun s hs => by have := hc.2.2.2.1; exact hg.1 _ (by omega) (by omega) (by omega) (by omega))
theorem GX.law {h : IA} {x : Xs (Nat → Int32)} (hl : RLw a lw) (h150 : lw.length ≤ 150) (hg : GX a h x) : RLw h lw := by
  refine ⟨(hg.2.1 23 (by decide) (by decide) (by decide)).trans hl.1, fun i v hi => ?_⟩
  have := (List.getElem?_eq_some_iff.mp hi).1
  rw [hg.1 _ (by omega) (by omega) (by omega) (by omega)]
  exact hl.2 i v hi
theorem mStp_cg {h : IA} {g : Nat → Int32} {v : St} (hc : MtC a nc ns ng) (hg : ∀ c, (77 ≤ c ∧ c ≤ 86) ∨ (97 ≤ c ∧ c ≤ 104) ∨ (115 ≤ c ∧ c ≤ 122) ∨ (133 ≤ c ∧ c ≤ 140) → h c = a c) (hv : stV ns v) : mStp h 582 ns lw g v = mStp a 582 ns lw g v := by
  obtain ⟨k, y, z⟩ := v
  obtain ⟨hk, h1, h2⟩ := hv
  simp only at hk h1 h2
  have h8 := hc.2.2.2.1
  unfold mStp
  simp only
  by_cases e : k = 1
  · obtain ⟨s, hs, rfl⟩ := h1 (Or.inl e)
    obtain ⟨t, ht, rfl⟩ := h2 e
    have hc2 : MtC (va_up a 582 g) nc ns ng := hc.row (va_up_ne _ _ (by decide)) (fun s hs => va_up_ne _ _ (by omega))
    rw [if_pos e, if_pos e, nI_clamp (by omega), nI_clamp (by omega), mBan_cg (a' := va_up h 582 g) hc2 (fun c c1 => by rw [va_up_ne _ _ (by omega), va_up_ne _ _ (by omega)]; exact hg c c1) (by rw [va_up_self, va_up_self]) hs ht]
  · rw [if_neg e, if_neg e]
theorem l_goes (hr : Rk r) (hc : MtC a nc ns ng) (hlw : RLw a lw) (h150 : lw.length ≤ 150) (hd : lw = [] ∨ dep lw 0 = some 1) (h80 : l.length ≤ 80) (hrs : RSt a l) (hl : ∀ v, v ∈ l → stV ns v) :
    ∀ (t s e o : Nat) (x : Xs (Nat → Int32)) (h : IA) (P : KN) (D C S : Nat), wfX l t s e o → e ≤ l.length → GX a h x → gI ns x → o + 5 ≤ D → (∀ h', GX a h' (exX (mSb a ns lw) l t s e x) → P h' r nK) →
      E G MX12_goes D C S 2 [.ref 60, .null, .int (nI e), .int (nI s), .null] [] (h, r, nK) (RN P) := by
  have h8 := hc.2.2.2.1
  intro t
  induction t with
  | zero =>
    intro s e o x h P D C S hw he hg hi hD hp
    have hse : s = e := hw
    subst hse
    obtain ⟨D, rfl⟩ : ∃ D', D = D' + 1 := ⟨D - 1, by omega⟩
    exact V_X12_goes_2 ⟨fun _ => hp h hg, fun h => absurd (nI_le (Nat.le_refl _) (by omega)) h⟩
  | succ t ih =>
    intro s e o x h P D C S hw he hg hi hD hp
    obtain ⟨D, rfl⟩ : ∃ D', D = D' + 1 := ⟨D - 1, by omega⟩
    have r31 : r 60 31 = .ref 501 := rf5 hr (by decide) rfl
    have r33 : r 60 33 = .ref 582 := rf5 hr (by decide) rfl
    rcases hw with hse | ⟨hse, v, hv, hwv⟩
    · rw [exX, if_neg (by omega)] at hp
      subst hse
      exact V_X12_goes_2 ⟨fun _ => hp h hg, fun h => absurd (nI_le (Nat.le_refl _) (by omega)) h⟩
    have hD0 : l.getD s (0, 0, 0) = v := by rw [List.getD_eq_getElem?_getD, hv]; rfl
    have hmem : v ∈ l := List.mem_of_getElem? hv
    have hvV := hl v hmem
    have hrow := hrs.2 s v hv
    have hs80 : s < 80 := by omega
    have is : (nI s).toNatClampNeg = s := nI_clamp (by omega)
    have ty := tyR_step s hs80
    have bd : 501 + 1 + s < nK := by show _ < 878; omega
    have vs : vp_in (nI s) 80 := vp_in_nI hs80 (by decide)
    have v3 : vp_in 3 4 := vp_in_nI (show 3 < 4 by decide) (by decide)
    have v0 : vp_in 0 4 := vp_in_nI (show 0 < 4 by decide) (by decide)
    have v1 : vp_in 1 4 := vp_in_nI (show 1 < 4 by decide) (by decide)
    have z43 := hg.2.2.2.1
    refine V_X12_goes_2 ⟨fun h => absurd h (nI_ge hse (by omega)), fun _ => ⟨rfl, by decide, fun h200 => ?_, fun h200 => ⟨rfl, by decide, rfl, by decide, fun a1 q1 => ⟨rfl, by decide, 501, r31, rfl, by decide, vs, ?_⟩⟩⟩⟩
    · rw [z43] at h200
      have := (nI_leI (a := 200) (by decide) (by have := hi.2; omega)).mp h200
      rw [exX, if_neg (by omega)] at hp
      exact hp h hg
    have hb2 : x.2.1 < 200 := by
      rcases Nat.lt_or_ge x.2.1 200 with z | z
      · exact z
      · exact absurd (by rw [z43]; exact nI_le z (by have := hi.2; omega)) h200
    rw [exX, if_pos ⟨hse, hb2⟩, hD0] at hp
    rw [z43, nI_1] at q1
    have g1 : GX a a1 (x.1, x.2.1 + 1, x.2.2.1, x.2.2.2) := by
      rw [q1]
      exact ⟨fun q c1 c2 c3 c4 => by rw [u2_off q c1]; exact hg.1 q c1 c2 c3 c4, fun j c1 c2 c3 => by rw [u2_ne c2]; exact hg.2.1 j c1 c2 c3, by rw [u2_off 582 (by decide)]; exact hg.2.2.1, u2_eq, by rw [u2_ne (by decide)]; exact hg.2.2.2.2.1, by rw [u2_ne (by decide)]; exact hg.2.2.2.2.2⟩
    have i1 : gI ns (x.1, x.2.1 + 1, x.2.2.1, x.2.2.2) := ⟨hi.1, by show x.2.1 + 1 ≤ 200; omega⟩
    clear q1
    have row : ∀ {h' : IA} {y : Xs (Nat → Int32)}, GX a h' y → h' (501 + 1 + s) = a (501 + 1 + s) := fun g => g.1 _ (by omega) (by omega) (by omega) (by omega)
    rw [is, z0, row g1, hrow.1]
    refine row3 ty bd v0 ⟨fun h7 => ⟨rfl, by decide, 582, r33, rfl, by decide, 501, r31, rfl, by decide, vs, rfl, by decide, ?_⟩, fun h7 => ?_⟩
    · have h7' : ¬ v.1 = 7 := fun e => h7 (by rw [e]; decide)
      rw [if_neg h7'] at hwv hp
      refine Sp.up (d := 4) (by omega) (c_mDoes (d := 0) (l := lw) (v := v) hr (g1.c hc) (g1.law hlw h150) h150 hd rfl (by decide) (by decide) (by decide) (by decide) ty bd (by rw [g1.2.2.1]; exact hi.1) hvV h7' (by rw [row g1]; exact hrow.1) (fun e => by rw [row g1]; exact hrow.2.1 e) (fun e => by rw [row g1]; exact hrow.2.2.1 e) (fun a5 m5 => ⟨rfl, by decide, ?_⟩))
      have es : mStp a1 582 ns lw (a1 582) v = mStp a 582 ns lw x.1 v := by
        rw [g1.2.2.1]
        exact mStp_cg hc (fun c hc => g1.1 c (by omega) (by omega) (by omega) (by omega)) hvV
      rw [es]
      have io := one_inv (a := a) (lw := lw) h8 hvV hi hb2
      -- the heap behind the step
      generalize hst : mStp a 582 ns lw x.1 v = stp at *
      have hsb : mSb a ns lw x.1 v = (decide (¬ stp.1 = 0), stp.2) := by unfold mSb; rw [hst]
      have g5 : ∀ q, q ≠ 60 → q ≠ 582 → q ≠ 499 → q ≠ 500 → va_up a5 582 stp.2 q = a q := fun q c1 c2 c3 c4 => by rw [va_up_ne _ _ c2, m5 q c3 c4]; exact g1.1 q c1 c2 c3 c4
      have g60 : ∀ j, va_up a5 582 stp.2 60 j = a1 60 j := fun j => by rw [va_up_ne _ _ (by decide), m5 60 (by decide) (by decide)]
      have z44 : va_up a5 582 stp.2 60 44 = nI x.2.2.1 := (g60 44).trans g1.2.2.2.2.1
      have z40' : va_up a5 582 stp.2 60 40 = nI x.2.2.2 := (g60 40).trans g1.2.2.2.2.2
      have z43' : va_up a5 582 stp.2 60 43 = nI (x.2.1 + 1) := (g60 43).trans g1.2.2.2.1
      have s82 : va_up a5 582 stp.2 582 = stp.2 := va_up_self _ _ _
      have s60 : ∀ j, j ≠ 40 → j ≠ 43 → j ≠ 44 → va_up a5 582 stp.2 60 j = a 60 j := fun j c1 c2 c3 => (g60 j).trans (g1.2.1 j c1 c2 c3)
      generalize va_up a5 582 stp.2 = A at *
      have hrow3 : A (501 + 1 + s) 3 = nI (s + 1) := by rw [g5 _ (by omega) (by omega) (by omega) (by omega)]; exact hrow.2.2.2.1 h7'
      rw [z44]
      refine ⟨fun h0 => ?_, fun h0 => ?_⟩
      · refine V_X12_goes_121 ⟨rfl, by decide, fun b1 w1 => ⟨rfl, by decide, fun _ => ⟨rfl, by decide, fun b2 w2 => ⟨rfl, by decide, 501, r31, rfl, by decide, vs, ?_⟩⟩, fun z => absurd h0 z⟩⟩
        rw [is, z3]
        refine row3 ty bd v3 ?_
        rw [Int32.add_zero] at w1
        subst w1
        rw [u2_ne (by decide), z40', nI_1] at w2
        subst w2
        rw [u2_off _ (by omega), u2_off _ (by omega), hrow3]
        have eo : oneX (mSb a ns lw) v (x.1, x.2.1 + 1, x.2.2.1, x.2.2.2) = (stp.2, x.2.1 + 1, x.2.2.1, x.2.2.2 + 1) := by
          unfold oneX
          simp only [hsb]
          rw [if_neg (by rw [decide_eq_true_eq]; exact fun z => z h0)]
        rw [eo] at hp io
        exact ih (s + 1) e o (stp.2, x.2.1 + 1, x.2.2.1, x.2.2.2 + 1) _ P (D + 1) C S hwv he ⟨fun q c1 c2 c3 c4 => by rw [u2_off q c1, u2_off q c1]; exact g5 q c1 c2 c3 c4, fun j c1 c2 c3 => by rw [u2_ne c1, u2_ne c3]; exact s60 j c1 c2 c3, by rw [u2_off 582 (by decide), u2_off 582 (by decide)]; exact s82, by rw [u2_ne (by decide), u2_ne (by decide)]; exact z43', by rw [u2_ne (by decide), u2_eq], u2_eq⟩ io hD hp
      · refine V_X12_goes_121 ⟨rfl, by decide, fun b1 w1 => ⟨rfl, by decide, fun z => absurd z h0, fun _ => ⟨rfl, by decide, fun b2 w2 => ⟨rfl, by decide, 501, r31, rfl, by decide, vs, ?_⟩⟩⟩⟩
        rw [is, z3]
        refine row3 ty bd v3 ?_
        rw [nI_1] at w1
        subst w1
        rw [u2_ne (by decide), z40', Int32.add_zero] at w2
        subst w2
        rw [u2_off _ (by omega), u2_off _ (by omega), hrow3]
        have eo : oneX (mSb a ns lw) v (x.1, x.2.1 + 1, x.2.2.1, x.2.2.2) = (stp.2, x.2.1 + 1, x.2.2.1 + 1, x.2.2.2) := by
          unfold oneX
          simp only [hsb]
          rw [if_pos (decide_eq_true h0)]
        rw [eo] at hp io
        exact ih (s + 1) e o (stp.2, x.2.1 + 1, x.2.2.1 + 1, x.2.2.2) _ P (D + 1) C S hwv he ⟨fun q c1 c2 c3 c4 => by rw [u2_off q c1, u2_off q c1]; exact g5 q c1 c2 c3 c4, fun j c1 c2 c3 => by rw [u2_ne c1, u2_ne c3]; exact s60 j c1 c2 c3, by rw [u2_off 582 (by decide), u2_off 582 (by decide)]; exact s82, by rw [u2_ne (by decide), u2_ne (by decide)]; exact z43', by rw [u2_ne (by decide), u2_eq], u2_eq⟩ io hD hp
    · have h7' : v.1 = 7 := by
        rcases hvV.1 with h | h | h | h | h | h | h <;> first | exact h | (rw [h] at h7; exact absurd h7 (by decide))
      rw [if_pos h7'] at hwv hp
      obtain ⟨z, m, q1, q2, hm, hz1, hze, ho, w1, w2⟩ := hwv
      rw [q1, q2, nI_clamp (by omega), nI_clamp (by omega)] at hp
      have r1 : a (501 + 1 + s) 1 = nI m := by rw [hrow.2.1 (by rw [h7']; decide), q2]
      have r3 : a (501 + 1 + s) 3 = nI z := by
        rw [hrow.2.2.2.2 h7' (by rw [q1]; intro e; have := (nI_eq (a := z) (b := 0) (by omega) (by decide)).mp e; omega), q1]
      have rep : ∀ (u n : Nat) (y : Xs (Nat → Int32)) (h' : IA), n + u = m → GX a h' y → gI ns y → (∀ h2, GX a h2 (repX (exX (mSb a ns lw) l t (s + 1) z) u y) → gI ns (repX (exX (mSb a ns lw) l t (s + 1) z) u y) → E G MX12_goes (D + 1) C S 2 [.ref 60, .null, .int (nI e), .int (nI z), .null] [] (h2, r, nK) (RN P)) →
          E G MX12_goes (D + 1) C S 43 [.ref 60, .null, .int (nI e), .int (nI s), .int (nI n)] [] (h', r, nK) (RN P) := by
        intro u
        induction u with
        | zero =>
          intro n y h' hn gy iy hk
          obtain rfl : n = m := by omega
          refine V_X12_goes_43 ⟨rfl, by decide, 501, r31, rfl, by decide, vs, ?_⟩
          simp only [z0, z1, z3, is]
          rw [row gy, r1]
          refine row3 ty bd v1 ⟨fun _ => ⟨rfl, by decide, 501, r31, rfl, by decide, vs, row3 ty bd v3 ?_⟩, fun h => absurd (nI_le (Nat.le_refl _) (by omega)) h⟩
          rw [row gy, r3]
          exact hk h' gy iy
        | succ u ih2 =>
          intro n y h' hn gy iy hk
          refine V_X12_goes_43 ⟨rfl, by decide, 501, r31, rfl, by decide, vs, ?_⟩
          simp only [z0, z1, z3, is]
          rw [row gy, r1]
          have y43 := gy.2.2.2.1
          refine row3 ty bd v1 ⟨fun h => absurd h (nI_ge (by omega) (by omega)), fun _ => ⟨rfl, by decide, fun h200 => ⟨rfl, by decide, 501, r31, rfl, by decide, vs, row3 ty bd v3 ?_⟩, fun h200 => ⟨rfl, by decide, 501, r31, rfl, by decide, vs, row3 ty bd v3 ⟨rfl, by decide, ?_⟩⟩⟩⟩
          · rw [y43] at h200
            have hb := (nI_leI (a := 200) (by decide) (by have := iy.2; omega)).mp h200
            rw [row gy, r3]
            have hn : ¬ y.2.1 < 200 := by omega
            have e1 : repX (exX (mSb a ns lw) l t (s + 1) z) (u + 1) y = y := repX_stop _ _ _ hn
            rw [e1] at hk
            exact hk h' gy iy
          · have hb : y.2.1 < 200 := by
              rcases Nat.lt_or_ge y.2.1 200 with z | z
              · exact z
              · exact absurd (by rw [y43]; exact nI_le z (by have := iy.2; omega)) h200
            rw [row gy, r3, nI_1, nI_1]
            rw [repX, if_pos hb] at hk
            obtain ⟨D', rfl⟩ : ∃ D', D = D' + 1 := ⟨D - 1, by omega⟩
            refine V_X12_goes_0 (ih (s + 1) z (o - 1) y h' _ (D' + 1) 0 0 w1 (by omega) gy iy (by omega) (fun h2 g2 => ?_))
            exact ih2 (n + 1) _ h2 (by omega) g2 (exX_inv h8 h80 hl t (s + 1) z (o - 1) y w1 (by omega) iy) hk
      exact rep m 0 _ a1 (by omega) g1 i1 (fun h2 g2 i2 => ih z e o _ h2 P (D + 1) C S w2 he g2 i2 hD hp)
end MGO
