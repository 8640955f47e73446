/-! The reference: all matchings -/
/-- a street that is matched with an earlier one is done -/
def dnB (m : Nat → Int32) (s : Nat) (b : Int32) : Prop := ∀ j, s ≤ j → j < 8 → ((b >>> (nI j &&& 31)) &&& 1 = 1 ↔ ¬ m j = -1)
theorem lpM_id {χ : Type} {g : Nat → χ → χ} (h : ∀ i x, g i x = x) : ∀ (n i : Nat) (x : χ), lpM g n i x = x
  | 0, _, _ => rfl
  | n + 1, i, x => by rw [lpM, h]; exact lpM_id h n (i + 1) x
section MM3
variable {G : GE} {d C S : Nat} {a : IA} {r : RA} {nc ns ng : Nat} {lw : List Int32}
def mtR (G : GE) (r : RA) (a : IA) (ns : Nat) (lw : List Int32) (t : Nat) : Prop :=
  ∀ (s : Nat) (m : Nat → Int32) (b : Int32) (h : IA) (x : Js) (P : KN) (D : Nat), s + t = ns → MX a h m x → wfQ ns m → dnB m s b → t + 7 ≤ D → (∀ h', MX a h' m (fM (mAlw a lw) ns (mJd a lw ns) t s m x) → P h' r nK) → Sp G D 0 0 MX12_matches [.ref 60, .int (nI s), .int b] (h, r, nK) (RN P)
theorem mrt_all (hr : Rk r) (hc : MtC a nc ns ng) (hl : RLw a lw) (h150 : lw.length ≤ 150) (hd : lw = [] ∨ dep lw 0 = some 1) : ∀ t, mtR G r a ns lw t := by
  have h8 := hc.2.2.2.1
  have r64 : r 60 12 = .ref 64 := rf5 hr (by decide) rfl
  have r45 : r 60 45 = .ref 616 := rf5 hr (by decide) rfl
  have r33 : r 60 33 = .ref 582 := rf5 hr (by decide) rfl
  have v1 : vp_in 1 8 := vp_in_nI (show 1 < 8 by decide) (by decide)
  have e64 : ∀ {h : IA} {m : Nat → Int32} {x : Js}, MX a h m x → h 64 1 = nI ns := fun hx => (hx.c hc).2.2.1
  intro t
  induction t with
  | zero =>
    intro s m b h x P D hs hx hw hb hD hp
    obtain ⟨D, rfl⟩ : ∃ D', D = D' + 6 := ⟨D - 6, by omega⟩
    obtain rfl : s = ns := by omega
    refine V_X12_matches_0 ⟨rfl, by decide, 64, r64, rfl, by decide, v1, fun e => absurd ?_ e, fun _ => l_mJudge hr hc hl h150 hd hx hw hp⟩
    rw [z1, e64 hx]
  | succ t ih =>
    intro s m b h x P D hs hx hw hb hD hp
    obtain ⟨D, rfl⟩ : ∃ D', D = D' + 1 := ⟨D - 1, by omega⟩
    have hsn : s < ns := by omega
    have hb1 : dnB m (s + 1) b := fun j h1 h2 => hb j (by omega) h2
    have skip : fM (mAlw a lw) ns (mJd a lw ns) (t + 1) s m x = fM (mAlw a lw) ns (mJd a lw ns) t (s + 1) m x → ∀ h, MX a h m x → tyK 60 = (0, 11) ∧ 60 < nK ∧ Sp G D 0 0 MX12_matches [.ref 60, .int (nI s + 1), .int b] (h, r, nK) (RN fun a6 r7 n8 => P a6 r7 n8) := by
      intro e h hx
      refine ⟨rfl, by decide, ?_⟩
      rw [nI_1]
      exact ih (s + 1) m b h x _ D (by omega) hx hw hb1 (by omega) (fun h' m' => hp h' (by rw [e]; exact m'))
    refine V_X12_matches_0 ⟨rfl, by decide, 64, r64, rfl, by decide, v1, fun _ => ⟨rfl, by decide, Sp.up (d := 1) (by omega) (c_mFree (d := 0) hr (by omega) ?_)⟩, fun e => absurd ?_ (show ¬ s = ns by omega)⟩
    rotate_left
    · rw [z1, e64 hx] at e; exact (nI_eq (by omega) (by omega)).mp e
    rw [hx.n]
    by_cases f1 : a 582 s = -1
    rotate_left
    · rw [if_neg f1]
      refine ⟨fun _ => skip ?_ h hx, fun e => absurd rfl e⟩
      rw [fM]
      split
      · refine lpM_id (fun i y => ?_) _ _ _
        have : mAlw a lw s i = false := by unfold mAlw mFr; rw [decide_eq_false f1]; rfl
        rw [this, if_neg (fun e => absurd e.1 (by decide))]
      · rfl
    rw [if_pos f1]
    refine ⟨fun e => absurd e (by decide), fun _ => c_mHas ?_⟩
    by_cases f2 : (b >>> (nI s &&& 31)) &&& 1 = 1
    · rw [if_pos f2]
      have ms : ¬ m s = -1 := (hb s (Nat.le_refl _) (by omega)).mp f2
      exact ⟨fun e => absurd e (by decide), fun _ => skip (by rw [fM, if_neg ms]) h hx⟩
    rw [if_neg f2]
    have ms : m s = -1 := Classical.byContradiction (fun z => f2 ((hb s (Nat.le_refl _) (by omega)).mpr z))
    rw [fM, if_pos ms] at hp
    have ums : upd m s (-1) = m := by rw [← ms]; exact upd_same m s
    refine ⟨fun _ => ⟨rfl, by decide, 616, r45, rfl, by decide, vp_in_nI (show s < 8 by omega) (by decide), fun a14 q14 => ⟨rfl, by decide, ?_⟩⟩, fun e => absurd rfl e⟩
    rw [nI_clamp (show s < 2 ^ 31 by omega)] at q14
    have hx14 := hx.mt s (-1)
    rw [ums, ← q14] at hx14
    -- the partners, one by one
    have loop : ∀ (c k : Nat) (v : Int32) (h : IA) (y : Js), k + c = ns → s < k → MX a h (upd m s v) y → (∀ h', MX a h' m (lpM (fun r y => if mAlw a lw s r = true ∧ m r = -1 then fM (mAlw a lw) ns (mJd a lw ns) t (s + 1) (upd (upd m s (nI r)) r (nI s)) y else y) c k y) → P h' r nK) →
        E G MX12_matches (D + 1) 0 0 188 [.ref 60, .int (nI s), .int b, .int (nI k), .null] [] (h, r, nK) (RN P) := by
      intro c
      induction c with
      | zero =>
        intro k v h y hk hsk hx hq
        refine V_X12_matches_188 ⟨rfl, by decide, 64, r64, rfl, by decide, v1, fun _ => ⟨rfl, by decide, 616, r45, rfl, by decide, vp_in_nI (show s < 8 by omega) (by decide), fun a3 q3 => ?_⟩, fun e => absurd ?_ e⟩
        · rw [nI_clamp (show s < 2 ^ 31 by omega)] at q3
          have h2 := hx.mt s (-1)
          rw [upd_upd, ums, ← q3] at h2
          exact hq a3 h2
        · rw [z1, e64 hx]; exact nI_le (by omega) (by omega)
      | succ c jh =>
        intro k v h y hk hsk hx hq
        rw [lpM] at hq
        have kb := hb k (by omega) (by omega)
        have go : ¬ (mAlw a lw s k = true ∧ m k = -1) → ∀ h, MX a h (upd m s v) y → E G MX12_matches (D + 1) 0 0 188 [.ref 60, .int (nI s), .int b, .int (nI k + 1), .null] [] (h, r, nK) (RN P) := by
          intro hn h hx
          rw [if_neg hn] at hq
          rw [nI_1]
          exact jh (k + 1) v h y (by omega) (by omega) hx hq
        refine V_X12_matches_188 ⟨rfl, by decide, 64, r64, rfl, by decide, v1, fun e => absurd ?_ (show ¬ ns ≤ k by omega), fun _ => ⟨rfl, by decide, Sp.up (d := 1) (by omega) (c_mFree (d := 0) hr (show k < 8 by omega) ?_)⟩⟩
        · rw [z1, e64 hx] at e; exact (nI_leI (by omega) (by omega)).mp e
        rw [hx.n]
        by_cases g1 : a 582 k = -1
        rotate_left
        · rw [if_neg g1]
          exact ⟨fun _ => go (fun z => by have := z.1; unfold mAlw mFr at this; rw [decide_eq_false g1] at this; simp at this) h hx, fun e => absurd rfl e⟩
        rw [if_pos g1]
        refine ⟨fun e => absurd e (by decide), fun _ => c_mHas ?_⟩
        by_cases g2 : (b >>> (nI k &&& 31)) &&& 1 = 1
        · rw [if_pos g2]
          exact ⟨fun _ => go (fun z => kb.mp g2 z.2) h hx, fun e => absurd e (by decide)⟩
        rw [if_neg g2]
        have mk : m k = -1 := Classical.byContradiction (fun z => g2 (kb.mpr z))
        refine ⟨fun e => absurd rfl e, fun _ => ⟨rfl, by decide, 582, r33, rfl, by decide, Sp.up (d := 3) (by omega) (c_mBanns (d := 0) hr (hx.c hc) (hx.l hl h150) h150 hd rfl (by decide) (by decide) (by decide) hsn (show k < ns by omega) (fun h2 m2 => ?_))⟩⟩
        rw [mBan_cg hc hx.w hx.n hsn (by omega)]
        have hx2 := hx.q5 m2
        refine ⟨fun hb0 => ⟨rfl, by decide, 616, r45, rfl, by decide, vp_in_nI (show s < 8 by omega) (by decide), fun a18 q18 => ⟨rfl, by decide, 616, r45, rfl, by decide, vp_in_nI (show k < 8 by omega) (by decide), fun a20 q20 => ⟨rfl, by decide, ?_⟩⟩⟩, fun hb0 => go (fun z => by have := z.1; unfold mAlw mFr at this; rw [decide_eq_false hb0] at this; simp at this) h2 hx2⟩
        rw [nI_clamp (show s < 2 ^ 31 by omega)] at q18
        rw [nI_clamp (show k < 2 ^ 31 by omega)] at q20
        have hx3 := hx2.mt s (nI k)
        rw [upd_upd, ← q18] at hx3
        have hx4 := hx3.mt k (nI s)
        rw [← q20] at hx4
        have hal : mAlw a lw s k = true := by unfold mAlw mFr; rw [decide_eq_true f1, decide_eq_true g1, decide_eq_true hb0]; rfl
        rw [if_pos ⟨hal, mk⟩] at hq
        rw [nI_1]
        refine ih (s + 1) _ _ a20 y _ D (by omega) hx4 (fun j hj => ?_) (fun j h1 h2 => ?_) (by omega) (fun h5 m5 => ⟨rfl, by decide, 616, r45, rfl, by decide, vp_in_nI (show k < 8 by omega) (by decide), fun a25 q25 => ?_⟩)
        · by_cases e1 : j = k
          · rw [e1, upd_eq]; exact Or.inr ⟨s, by omega, rfl⟩
          · rw [upd_ne e1]
            by_cases e2 : j = s
            · rw [e2, upd_eq]; exact Or.inr ⟨k, by omega, rfl⟩
            · rw [upd_ne e2]; exact hw j hj
        · rw [bit_or (show k < 32 by omega) (show j < 32 by omega)]
          by_cases e1 : j = k
          · rw [e1, upd_eq]
            exact ⟨fun _ => nI_n1 (by omega), fun _ => Or.inr rfl⟩
          · rw [upd_ne e1, upd_ne (show j ≠ s by omega)]
            rw [hb j (by omega) h2]
            exact ⟨fun h => h.resolve_right e1, Or.inl⟩
        · rw [nI_clamp (show k < 2 ^ 31 by omega)] at q25
          have h6 := m5.mt k (-1)
          have e : upd (upd (upd m s (nI k)) k (nI s)) k (-1) = upd m s (nI k) := by
            rw [upd_upd]
            have : upd m s (nI k) k = -1 := by rw [upd_ne (show k ≠ s by omega)]; exact mk
            rw [← this]
            exact upd_same _ k
          rw [e, ← q25] at h6
          rw [nI_1]
          exact jh (k + 1) (nI k) a25 _ (by omega) (by omega) h6 hq
    rw [nI_1]
    refine ih (s + 1) m b a14 x _ D (by omega) hx14 hw hb1 (by omega) (fun h2 m2 => ?_)
    exact loop (ns - (s + 1)) (s + 1) (-1) h2 _ (by omega) (by omega) (by rw [ums]; exact m2) hp
/-- all matchings, judged -/
def XR (a : IA) (lw : List Int32) (ns : Nat) : Js := fM (mAlw a lw) ns (mJd a lw ns) ns 0 (fun j => if j < 8 then -1 else a 616 j) (0, -1, (fun j => if j < 8 then -1 else a 617 j), (fun j => if j < 8 then -1 else a 618 j))
theorem c_mLaysM {P : KN} (hr : Rk r) (hc : MtC a nc ns ng) (hl : RLw a lw) (h150 : lw.length ≤ 150) (hd : lw = [] ∨ dep lw 0 = some 1) (hp : ∀ h, (∀ q, q ≠ 60 → q ≠ 499 → q ≠ 500 → q ≠ 616 → q ≠ 617 → q ≠ 618 → h q = a q) → (∀ j, j ≠ 48 → j ≠ 49 → h 60 j = a 60 j) → h 60 48 = (XR a lw ns).1 → h 60 49 = (XR a lw ns).2.1 → h 617 = (XR a lw ns).2.2.1 → h 618 = (XR a lw ns).2.2.2 → P h r nK) :
    Sp G (d + 16) 0 0 MX12_laysMatches [.ref 60] (a, r, nK) (RN P) := by
  have h8 := hc.2.2.2.1
  have loop : ∀ (u k : Nat) (h : IA), k + u = 8 → (∀ q, q ≠ 616 → q ≠ 617 → q ≠ 618 → h q = a q) → (h 616 = fun j => if j < k then -1 else a 616 j) → (h 617 = fun j => if j < k then -1 else a 617 j) → (h 618 = fun j => if j < k then -1 else a 618 j) → E G MX12_laysMatches (d + 16) 0 0 2 [.ref 60, .int (nI k)] [] (h, r, nK) (RN P) := by
    intro u
    induction u with
    | zero =>
      intro k h hk g0 g1 g2 g3
      obtain rfl : k = 8 := by omega
      refine V_X12_laysMatches_2 ⟨fun _ => ⟨rfl, by decide, fun a1 q1 => ⟨rfl, by decide, fun a2 q2 => ⟨rfl, by decide, ?_⟩⟩⟩, fun e => absurd (by decide) e⟩
      subst q1 q2
      refine mrt_all (G := G) hr hc hl h150 hd ns 0 (fun j => if j < 8 then -1 else a 616 j) 0 _ (0, -1, (fun j => if j < 8 then -1 else a 617 j), (fun j => if j < 8 then -1 else a 618 j)) _ (d + 15) (by omega) ⟨fun q c1 c2 c3 c4 c5 c6 => by rw [u2_off q c1, u2_off q c1]; exact g0 q c4 c5 c6, fun j c1 c2 => by rw [u2_ne c2, u2_ne c1, g0 60 (by decide) (by decide) (by decide)], by rw [u2_off 616 (by decide), u2_off 616 (by decide)]; exact g1, by rw [u2_ne (by decide), u2_eq], u2_eq, by rw [u2_off 617 (by decide), u2_off 617 (by decide)]; exact g2, by rw [u2_off 618 (by decide), u2_off 618 (by decide)]; exact g3⟩ (fun j hj => Or.inl (if_pos (by omega))) (fun j _ hj => ?_) (by omega) (fun h' m' => hp h' m'.1 m'.2.1 m'.2.2.2.1 m'.2.2.2.2.1 m'.2.2.2.2.2.1 m'.2.2.2.2.2.2)
      show ((0 : Int32) >>> (nI j &&& 31)) &&& 1 = 1 ↔ ¬ (if j < 8 then (-1 : Int32) else a 616 j) = -1
      rw [if_pos hj]
      have : ((0 : Int32) >>> (nI j &&& 31)) &&& 1 = 0 := by
        have : ∀ j, j < 8 → ((0 : Int32) >>> (nI j &&& 31)) &&& 1 = 0 := by decide +kernel
        exact this j hj
      rw [this]
      exact ⟨fun e => absurd e (by decide), fun e => absurd rfl e⟩
    | succ u ih =>
      intro k h hk g0 g1 g2 g3
      have vk : vp_in (nI k) 8 := vp_in_nI (by omega) (by decide)
      refine V_X12_laysMatches_2 ⟨fun e => absurd ((nI_leI (a := 8) (by decide) (by omega)).mp e) (by omega), fun _ => ⟨rfl, by decide, 616, rf5 hr (by decide) rfl, rfl, by decide, vk, fun a7 q7 => ⟨rfl, by decide, 617, rf5 hr (by decide) rfl, rfl, by decide, vk, fun a9 q9 => ⟨rfl, by decide, 618, rf5 hr (by decide) rfl, rfl, by decide, vk, fun a11 q11 => ?_⟩⟩⟩⟩
      rw [nI_clamp (show k < 2 ^ 31 by omega)] at q7 q9 q11
      subst q7 q9 q11
      have st : ∀ (o : Nat → Int32), upd (fun j => if j < k then -1 else o j) k (-1) = fun j => if j < k + 1 then -1 else o j := fun o => by
        have := cpy_n (fun _ => (-1 : Int32)) o k
        exact this
      rw [nI_1]
      refine ih (k + 1) _ (by omega) (fun q c1 c2 c3 => by rw [u2_off q c3, u2_off q c2, u2_off q c1]; exact g0 q c1 c2 c3) ?_ ?_ ?_
      · rw [u2_off 616 (by decide), u2_off 616 (by decide)]
        unfold u2
        rw [va_up_self, g1, st]
      · rw [u2_off 617 (by decide)]
        unfold u2
        rw [va_up_self, va_up_ne _ _ (show (617 : Nat) ≠ 616 by decide), g2, st]
      · unfold u2
        rw [va_up_self, va_up_ne _ _ (show (618 : Nat) ≠ 617 by decide), va_up_ne _ _ (show (618 : Nat) ≠ 616 by decide), g3, st]
  exact V_X12_laysMatches_0 (loop 8 0 a (by omega) (fun _ _ _ _ => rfl) (by funext j; rw [if_neg (by omega)]) (by funext j; rw [if_neg (by omega)]) (by funext j; rw [if_neg (by omega)]))
theorem c_mStableF {P : KI} (hr : Rk r) (hq : MqH a nc ns ng lw) (hp : ∀ h, (∀ q, q ≠ 60 → q ≠ 499 → q ≠ 500 → q ≠ 616 → q ≠ 617 → q ≠ 618 → h q = u2 a 60 0 0 q) → (∀ j, j ≠ 48 → j ≠ 49 → h 60 j = u2 a 60 0 0 60 j) → P (XR (u2 a 60 0 0) lw ns).1 h r nK) : Sp G (d + 17) 0 0 MX12_stable [.ref 60] (a, r, nK) (RI P) := by
  obtain ⟨hc, hl, h150, hd, hw, hh⟩ := hq.z
  refine V_X12_stable_0 ⟨rfl, by decide, fun a1 q1 => ⟨rfl, by decide, ?_⟩⟩
  subst q1
  refine c_mLaysM hr hc hl h150 hd (fun h g1 g2 g3 g4 g5 g6 => ⟨rfl, by decide, ?_⟩)
  rw [g3]
  exact hp h g1 g2
theorem c_mBestF {P : KI} (hr : Rk r) (hq : MqH a nc ns ng lw) (hp : ∀ h, (∀ q, q ≠ 60 → q ≠ 499 → q ≠ 500 → q ≠ 616 → q ≠ 617 → q ≠ 618 → h q = u2 a 60 0 0 q) → (∀ j, j ≠ 48 → j ≠ 49 → h 60 j = u2 a 60 0 0 60 j) → P (XR (u2 a 60 0 0) lw ns).2.1 h r nK) : Sp G (d + 17) 0 0 MX12_best [.ref 60] (a, r, nK) (RI P) := by
  obtain ⟨hc, hl, h150, hd, hw, hh⟩ := hq.z
  refine V_X12_best_0 ⟨rfl, by decide, fun a1 q1 => ⟨rfl, by decide, ?_⟩⟩
  subst q1
  refine c_mLaysM hr hc hl h150 hd (fun h g1 g2 g3 g4 g5 g6 => ⟨rfl, by decide, ?_⟩)
  rw [g4]
  exact hp h g1 g2
theorem c_mStableForF {P : KI} {x : Int32} (hr : Rk r) (hq : MqH a nc ns ng lw) (hno : (¬ ∃ s, s < ns ∧ x = nI s) → P 0 (mBd a 1 1) r nK) (hp : ∀ s, s < ns → x = nI s → ∀ h, (∀ q, q ≠ 60 → q ≠ 499 → q ≠ 500 → q ≠ 616 → q ≠ 617 → q ≠ 618 → h q = u2 a 60 0 0 q) → (∀ j, j ≠ 48 → j ≠ 49 → h 60 j = u2 a 60 0 0 60 j) → P ((XR (u2 a 60 0 0) lw ns).2.2.1 s) h r nK) : Sp G (d + 17) 0 0 MX12_stableFor [.ref 60, .int x] (a, r, nK) (RI P) := by
  obtain ⟨hc, hl, h150, hd, hw, hh⟩ := hq.z
  refine V_X12_stableFor_0 ⟨rfl, by decide, fun a1 q1 => ⟨rfl, by decide, ?_⟩⟩
  subst q1
  refine c_mIsStr hr hc.2.2.1 hc.2.2.2.1 (fun s hs e => ⟨fun _ => ⟨rfl, by decide, bad0z ⟨fun _ => ⟨rfl, by decide, ?_⟩, fun h => absurd rfl h⟩⟩, fun h => absurd h (by decide)⟩) (fun hn => ⟨fun h => absurd rfl h, fun _ => ⟨rfl, by decide, bad1z (i := 1) hr (by decide) (by decide) ⟨fun h => absurd h (by decide), fun _ => hno hn⟩⟩⟩)
  have h8 := hc.2.2.2.1
  refine c_mLaysM hr hc hl h150 hd (fun h g1 g2 g3 g4 g5 g6 => ⟨rfl, by decide, 617, rf5 hr (by decide) rfl, ?_⟩)
  have := hp s hs e h g1 g2
  subst e
  rw [nI_clamp (show s < 2 ^ 31 by omega), g5]
  exact ⟨rfl, by decide, vp_in_nI (show s < 8 by omega) (by decide), this⟩
theorem c_mBestForF {P : KI} {x : Int32} (hr : Rk r) (hq : MqH a nc ns ng lw) (hno : (¬ ∃ s, s < ns ∧ x = nI s) → P 0 (mBd a 1 1) r nK) (hp : ∀ s, s < ns → x = nI s → ∀ h, (∀ q, q ≠ 60 → q ≠ 499 → q ≠ 500 → q ≠ 616 → q ≠ 617 → q ≠ 618 → h q = u2 a 60 0 0 q) → (∀ j, j ≠ 48 → j ≠ 49 → h 60 j = u2 a 60 0 0 60 j) → P ((XR (u2 a 60 0 0) lw ns).2.2.2 s) h r nK) : Sp G (d + 17) 0 0 MX12_bestFor [.ref 60, .int x] (a, r, nK) (RI P) := by
  obtain ⟨hc, hl, h150, hd, hw, hh⟩ := hq.z
  refine V_X12_bestFor_0 ⟨rfl, by decide, fun a1 q1 => ⟨rfl, by decide, ?_⟩⟩
  subst q1
  refine c_mIsStr hr hc.2.2.1 hc.2.2.2.1 (fun s hs e => ⟨fun _ => ⟨rfl, by decide, bad0z ⟨fun _ => ⟨rfl, by decide, ?_⟩, fun h => absurd rfl h⟩⟩, fun h => absurd h (by decide)⟩) (fun hn => ⟨fun h => absurd rfl h, fun _ => ⟨rfl, by decide, bad1z (i := 1) hr (by decide) (by decide) ⟨fun h => absurd h (by decide), fun _ => hno hn⟩⟩⟩)
  have h8 := hc.2.2.2.1
  refine c_mLaysM hr hc hl h150 hd (fun h g1 g2 g3 g4 g5 g6 => ⟨rfl, by decide, 618, rf5 hr (by decide) rfl, ?_⟩)
  have := hp s hs e h g1 g2
  subst e
  rw [nI_clamp (show s < 2 ^ 31 by omega), g6]
  exact ⟨rfl, by decide, vp_in_nI (show s < 8 by omega) (by decide), this⟩
end MM3
