/-! The reference: warmth, who is tempted -/
def mHeat (a : IA) (m : Nat → Int32) (s : Nat) : Int32 := if m s = -1 then 0 else a (114 + 1 + s) (m s).toNatClampNeg
def mTempt (a : IA) (m : Nat → Int32) (lw : List Int32) (s t : Nat) : Bool := decide (¬ m s = nI t) && (decide (mBan a 582 lw s t = 0) && (decide (¬ a (114 + 1 + s) t ≤ mHeat a m s) && decide (¬ a (114 + 1 + t) s ≤ mHeat a m t)))
/-- mates are streets -/
def wfQ (ns : Nat) (m : Nat → Int32) : Prop := ∀ s, s < ns → m s = -1 ∨ ∃ t, t < 8 ∧ m s = nI t
theorem mHeat_cg {a a' : IA} {m : Nat → Int32} {s : Nat} (hs : s < 8) (e : ∀ c, (115 ≤ c ∧ c ≤ 122) → a' c = a c) : mHeat a' m s = mHeat a m s := by
  unfold mHeat
  rw [e _ (by omega)]
theorem mTempt_cg {a a' : IA} {m : Nat → Int32} {nc ns ng s t : Nat} {lw : List Int32} (hc : MtC a nc ns ng) (e : ∀ c, (77 ≤ c ∧ c ≤ 86) ∨ (97 ≤ c ∧ c ≤ 104) ∨ (115 ≤ c ∧ c ≤ 122) ∨ (133 ≤ c ∧ c ≤ 140) → a' c = a c) (hq : a' 582 = a 582) (hs : s < ns) (ht : t < ns) : mTempt a' m lw s t = mTempt a m lw s t := by
  have h8 := hc.2.2.2.1
  unfold mTempt
  rw [mBan_cg hc e hq hs ht, mHeat_cg (by omega) (fun c h => e c (by omega)), mHeat_cg (by omega) (fun c h => e c (by omega)), e _ (by omega), e (114 + 1 + t) (by omega)]
section MMA
variable {G : GE} {d C S : Nat} {a : IA} {r : RA} {nc ns ng s t q L : Nat} {lw : List Int32} {x y k : Int32}
theorem c_mHeat {P : KI} (hr : Rk r) (hq : tyK q = (1, L)) (hN : q < nK) (hL : 8 ≤ L) (hL2 : L < 100) (hs : s < 8) (hw : a q s = -1 ∨ ∃ t, t < 8 ∧ a q s = nI t) (hp : P (mHeat a (a q) s) a r nK) : Sp G d 0 0 MX12_heat [.ref 60, .ref q, .int (nI s)] (a, r, nK) (RI P) := by
  have vL : vp_in (nI s) L := vp_in_nI (by omega) (by omega)
  unfold mHeat at hp
  refine V_X12_heat_0 ⟨by rw [hq], hN, by rw [hq]; exact vL, fun hne => ⟨rfl, by decide, 114, rf5 hr (by decide) rfl, rfl, by decide, vp_in_nI (show s < 8 by omega) (by decide), by rw [hq], hN, by rw [hq]; exact vL, ?_⟩, fun he => ?_⟩
  · rw [nI_clamp (by omega)] at hne ⊢
    rw [if_neg hne] at hp
    rcases hw with h0 | ⟨t, ht, e⟩
    · exact absurd h0 hne
    · rw [e] at hp ⊢
      exact row3 (tyR_likes s hs) (by show _ < 878; omega) (vp_in_nI ht (by decide)) hp
  · rw [nI_clamp (by omega)] at he
    rw [if_pos he] at hp
    exact hp
theorem c_mTempt {P : KI} (hr : Rk r) (hc : MtC a nc ns ng) (hl : RLw a lw) (h150 : lw.length ≤ 150) (hd : lw = [] ∨ dep lw 0 = some 1) (hq : tyK q = (1, L)) (hN : q < nK) (hL : 8 ≤ L) (hL2 : L < 100) (hq9 : q ≠ 499) (hq5 : q ≠ 500) (hs : s < ns) (ht : t < ns) (hw : wfQ ns (a q)) (hp : ∀ a', mQ5 a a' → P (if mTempt a (a q) lw s t then 1 else 0) a' r nK) :
    Sp G (d + 4) 0 0 MX12_isTempted [.ref 60, .ref q, .int (nI s), .int (nI t)] (a, r, nK) (RI P) := by
  have h8 := hc.2.2.2.1
  have vL : vp_in (nI s) L := vp_in_nI (by omega) (by omega)
  have r18 : r 60 18 = .ref 114 := rf5 hr (by decide) rfl
  unfold mTempt at hp
  have is : (nI s).toNatClampNeg = s := nI_clamp (by omega)
  have it : (nI t).toNatClampNeg = t := nI_clamp (by omega)
  refine V_X12_isTempted_0 ⟨by rw [hq], hN, by rw [hq]; exact vL, fun he => ⟨bz_0, ?_⟩, fun hne => ⟨rfl, by decide, 582, rf5 hr (by decide) rfl, rfl, by decide, c_mBanns hr hc hl h150 hd rfl (by decide) (by decide) (by decide) hs ht (fun a2 m2 => ⟨fun hb => ⟨bz_0, ?_⟩, fun hb => ⟨rfl, by decide, 114, r18, rfl, by decide, vp_in_nI (show s < 8 by omega) (by decide), ?_⟩⟩)⟩⟩
  · rw [is] at he
    have := hp a mQ5_rf
    rw [decide_eq_false (not_not_intro he), Bool.false_and] at this
    exact this
  · have := hp a2 m2
    rw [decide_eq_false hb, Bool.false_and, Bool.and_false] at this
    exact this
  · rw [is] at hne ⊢
    have hb' : mBan a 582 lw s t = 0 := hb
    rw [decide_eq_true hne, decide_eq_true hb', Bool.true_and, Bool.true_and] at hp
    have e2 : ∀ c, c ≠ 499 → c ≠ 500 → a2 c = a c := m2
    have eq : a2 q = a q := e2 q hq9 hq5
    refine row3 (tyR_likes s (by omega)) (by show _ < 878; omega) (vp_in_nI (show t < 8 by omega) (by decide)) ⟨rfl, by decide, c_mHeat hr hq hN hL hL2 (by omega) (by rw [eq]; exact hw s hs) ?_⟩
    rw [it, eq, mHeat_cg (by omega) (fun c h => e2 c (by omega) (by omega)), e2 _ (by omega) (by omega)]
    refine ⟨fun h1 => ⟨bz_0, ?_⟩, fun h1 => ⟨rfl, by decide, 114, r18, rfl, by decide, vp_in_nI (show t < 8 by omega) (by decide), ?_⟩⟩
    · have := hp a2 m2
      rw [decide_eq_false (not_not_intro h1), Bool.false_and] at this
      exact this
    · rw [decide_eq_true h1, Bool.true_and] at hp
      refine row3 (tyR_likes t (by omega)) (by show _ < 878; omega) (vp_in_nI (show s < 8 by omega) (by decide)) ⟨rfl, by decide, c_mHeat hr hq hN hL hL2 (by omega) (by rw [eq]; exact hw t ht) ?_⟩
      rw [eq, mHeat_cg (by omega) (fun c h => e2 c (by omega) (by omega)), e2 _ (by omega) (by omega)]
      refine ⟨fun h2 => ⟨bz_0, ?_⟩, fun h2 => ⟨bz_1, ?_⟩⟩
      · have := hp a2 m2
        rw [decide_eq_false (not_not_intro h2)] at this
        exact this
      · have := hp a2 m2
        rw [decide_eq_true h2] at this
        exact this
theorem c_mFree {P : KI} (hr : Rk r) (hs : s < 8) (hp : P (if a 582 s = -1 then 1 else 0) a r nK) : Sp G (d + 1) 0 0 MX12_isFree [.ref 60, .int (nI s)] (a, r, nK) (RI P) := by
  refine V_X12_isFree_0 ⟨rfl, by decide, 582, rf5 hr (by decide) rfl, c_mMate rfl (by decide) (by omega) ⟨fun h => ⟨bz_0, ?_⟩, fun h => ⟨bz_1, ?_⟩⟩⟩
  · rw [if_neg h] at hp; exact hp
  · rw [if_pos h] at hp; exact hp
theorem MtC.q5 {a' : IA} (hc : MtC a nc ns ng) (h : mQ5 a a') : MtC a' nc ns ng := hc.row (h 64 (by decide) (by decide)) (fun s hs => by have := hc.2.2.2.1; exact h _ (by omega) (by omega))
theorem RLw.q5 {a' : IA} (hl : RLw a lw) (h150 : lw.length ≤ 150) (h : mQ5 a a') : RLw a' lw := hl.row h150 (by rw [h 60 (by decide) (by decide)]) (fun q c1 c2 => h q (by omega) (by omega))
theorem wfM_Q {g : Nat → Int32} (h : wfM ns g) (h8 : ns ≤ 8) : wfQ ns g := fun s hs => (h s hs).elim Or.inl (fun ⟨m, hm, _, e, _⟩ => Or.inr ⟨m, by omega, e⟩)
theorem c_mTemptedF {P : KI} (hr : Rk r) (hq : MqH a nc ns ng lw) (hp : ∀ a', mQ5 (u2 a 60 0 0) a' → P (tp1 (mTempt (u2 a 60 0 0) (u2 a 60 0 0 582) lw) ns ns 0) a' r nK) : Sp G (d + 5) 0 0 MX12_tempted [.ref 60] (a, r, nK) (RI P) := by
  obtain ⟨hc, hl, h150, hd, hw, hh⟩ := hq.z
  have h8 := hc.2.2.2.1
  have r64 : r 60 12 = .ref 64 := rf5 hr (by decide) rfl
  have r33 : r 60 33 = .ref 582 := rf5 hr (by decide) rfl
  have v1 : vp_in 1 8 := vp_in_nI (show 1 < 8 by decide) (by decide)
  refine V_X12_tempted_0 ⟨rfl, by decide, fun a1 q1 => ?_⟩
  subst q1
  generalize u2 a 60 0 0 = b at *
  have e64 : ∀ {h : IA}, mQ5 b h → h 64 1 = nI ns := fun m => (m 64 (by decide) (by decide)).symm ▸ hc.2.2.1
  have inner : ∀ (s : Nat), s < ns → (tp2 (mTempt b (b 582) lw) s (ns - (s + 1)) (s + 1) = none → ∀ h, mQ5 b h → E G MX12_tempted (d + 5) 0 0 7 [.ref 60, .int (nI (s + 1)), .null] [] (h, r, nK) (RI P)) → (∀ v, tp2 (mTempt b (b 582) lw) s (ns - (s + 1)) (s + 1) = some v → ∀ h, mQ5 b h → P v h r nK) →
      ∀ (u k : Nat) (h : IA), k + u = ns → s < k → mQ5 b h → tp2 (mTempt b (b 582) lw) s u k = tp2 (mTempt b (b 582) lw) s (ns - (s + 1)) (s + 1) → E G MX12_tempted (d + 5) 0 0 21 [.ref 60, .int (nI s), .int (nI k)] [] (h, r, nK) (RI P) := by
    intro s hs hno hyes u
    induction u with
    | zero =>
      intro k h hk hsk hm he
      refine V_X12_tempted_21 ⟨rfl, by decide, 64, r64, rfl, by decide, v1, fun _ => ?_, fun e => absurd ?_ e⟩
      · rw [nI_1]; exact hno he.symm h hm
      · rw [z1, e64 hm]; exact nI_le (by omega) (by omega)
    | succ u ih =>
      intro k h hk hsk hm he
      refine V_X12_tempted_21 ⟨rfl, by decide, 64, r64, rfl, by decide, v1, fun e => absurd ?_ (show ¬ ns ≤ k by omega), fun _ => ⟨rfl, by decide, 582, r33, rfl, by decide, c_mTempt hr (hc.q5 hm) (hl.q5 h150 hm) h150 hd (L := 42) rfl (by decide) (by decide) (by decide) (by decide) (by decide) hs (show k < ns by omega) (by rw [hm 582 (by decide) (by decide)]; exact wfM_Q hw h8) (fun h2 m2 => ?_)⟩⟩
      · rw [z1, e64 hm] at e; exact (nI_leI (by omega) (by omega)).mp e
      · rw [hm 582 (by decide) (by decide), mTempt_cg hc (fun c hc' => hm c (by omega) (by omega)) (hm 582 (by decide) (by decide)) hs (by omega)]
        rw [tp2] at he
        cases hb : mTempt b (b 582) lw s k with
        | false =>
          rw [hb] at he
          refine ⟨fun _ => ?_, fun e => absurd rfl e⟩
          rw [nI_1]
          exact ih (k + 1) h2 (by omega) (by omega) (mQ5_tr hm m2) he
        | true =>
          rw [hb] at he
          exact ⟨fun e => absurd e (by decide), fun _ => hyes _ he.symm h2 (mQ5_tr hm m2)⟩
  have outer : ∀ (u s : Nat) (h : IA), s + u = ns → mQ5 b h → (∀ a', mQ5 b a' → P (tp1 (mTempt b (b 582) lw) ns u s) a' r nK) → E G MX12_tempted (d + 5) 0 0 7 [.ref 60, .int (nI s), .null] [] (h, r, nK) (RI P) := by
    intro u
    induction u with
    | zero =>
      intro s h hs hm hp
      refine V_X12_tempted_7 ⟨rfl, by decide, 64, r64, rfl, by decide, v1, fun _ => hp h hm, fun e => absurd ?_ e⟩
      rw [z1, e64 hm]; exact nI_le (by omega) (by omega)
    | succ u ih =>
      intro s h hs hm hp
      refine V_X12_tempted_7 ⟨rfl, by decide, 64, r64, rfl, by decide, v1, fun e => absurd ?_ (show ¬ ns ≤ s by omega), fun _ => ?_⟩
      · rw [z1, e64 hm] at e; exact (nI_leI (by omega) (by omega)).mp e
      · rw [nI_1]
        rw [tp1] at hp
        refine inner s (by omega) (fun e2 h2 m2 => ih (s + 1) h2 (by omega) m2 (fun a' ha => ?_)) (fun v e2 h2 m2 => ?_) (ns - (s + 1)) (s + 1) h (by omega) (by omega) hm rfl
        · have := hp a' ha
          rw [e2] at this
          exact this
        · have := hp h2 m2
          rw [e2] at this
          exact this
  exact outer ns 0 b (by omega) mQ5_rf hp
end MMA
