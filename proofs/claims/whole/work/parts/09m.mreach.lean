/-! The reference: way, reach, bridges -/
def mBr (a : IA) (ns s : Nat) (x : Int32 × Int32) : Int32 × Int32 :=
  if wayF a ns (nI s) (a (96 + 1 + s) 0).toNatClampNeg (a (96 + 1 + s) 1).toNatClampNeg = -1 then (x.1 + 1, if x.1 = 0 then nI s else x.2) else x
/-- all but the ways -/
def mQF (a a' : IA) : Prop := ∀ q, ¬ (606 ≤ q ∧ q ≤ 615) → a' q = a q
theorem mLen_F {a a' : IA} {nc ns ng s : Nat} (hc : MtC a nc ns ng) (h : mQF a a') (hs : s < ns) : mLen a' s = mLen a s := mLen_cg hc (fun c hc' => h c (by omega)) hs
theorem lpM_cg {χ : Type} {g g' : Nat → χ → χ} : ∀ (n i : Nat) (x : χ), (∀ j y, i ≤ j → j < i + n → g j y = g' j y) → lpM g n i x = lpM g' n i x
  | 0, _, _, _ => rfl
  | n + 1, i, x, h => by
    rw [lpM, lpM, h i x (Nat.le_refl _) (by omega)]
    exact lpM_cg n (i + 1) _ (fun j y h1 h2 => h j y (by omega) (by omega))
theorem wayF_F {a a' : IA} {nc ns ng : Nat} {but : Int32} (hc : MtC a nc ns ng) (h : mQF a a') : wayF a' ns but = wayF a ns but := by
  have h8 := hc.2.2.2.1
  unfold wayF
  have : lpM (fE a' but) ns 0 far0 = lpM (fE a but) ns 0 far0 := by
    refine lpM_cg ns 0 far0 (fun s F _ hs => ?_)
    unfold fE
    rw [mLen_F hc h (by omega), h (96 + 1 + s) (by omega)]
  rw [this]
section MRE
variable {G : GE} {d C S : Nat} {a : IA} {r : RA} {nc ns ng : Nat} {lw : List Int32} {x y : Int32}
theorem MtC.z (h : MtC a nc ns ng) : MtC (u2 a 60 0 0) nc ns ng := h.row (u2_off 64 (by decide)) (fun s hs => u2_off _ (by omega))
theorem c_mWayF {P : KI} (hr : Rk r) (hc : MtC a nc ns ng) (hno : ¬ ((∃ s, s < nc ∧ x = nI s) ∧ ∃ t, t < nc ∧ y = nI t) → P 0 (mBd a 1 1) r nK)
    (hy : ∀ s t, s < nc → t < nc → x = nI s → y = nI t → ∀ a', mQF (u2 a 60 0 0) a' → P (wayF (u2 a 60 0 0) ns (-1) s t) a' r nK) : Sp G (d + 3) 0 0 MX12_way [.ref 60, .int x, .int y] (a, r, nK) (RI P) := by
  have hc1 := hc.z
  have n10 := hc.2.1
  have r37 : r 60 37 = .ref 605 := rf5 hr (by decide) rfl
  refine V_X12_way_0 ⟨rfl, by decide, fun a1 q1 => ⟨rfl, by decide, ?_⟩⟩
  subst q1
  refine c_mIsCor hr hc1.1 n10 (fun s hs e => ⟨fun h => absurd h (by decide), fun _ => ⟨rfl, by decide, c_mIsCor hr hc1.1 n10 (fun t ht et => ⟨fun _ => ⟨rfl, by decide, bad0z ⟨fun _ => ⟨rfl, by decide, c_mWays hr hc1 (fun h hx => ⟨rfl, by decide, 605, r37, ?_⟩)⟩, fun h => absurd rfl h⟩⟩, fun h => absurd h (by decide)⟩) (fun hn => ⟨fun h => absurd rfl h, fun _ => ⟨rfl, by decide, bad1z (i := 1) hr (by decide) (by decide) ⟨fun h => absurd h (by decide), fun _ => hno (fun z => hn z.2)⟩⟩⟩)⟩⟩) (fun hn => ⟨fun _ => ⟨rfl, by decide, bad1z (i := 1) hr (by decide) (by decide) ⟨fun h => absurd h (by decide), fun _ => hno (fun z => hn z.1)⟩⟩, fun h => absurd rfl h⟩)
  have hp := hy s t hs ht e et h hx.1
  subst e et
  rw [nI_clamp (show s < 2 ^ 31 by omega), nI_clamp (show t < 2 ^ 31 by omega), hx.2 s t (by omega) (by omega)]
  exact ⟨rfl, by decide, vp_in_nI (show s < 10 by omega) (by decide), row3 (tyR_far s (by omega)) (by show _ < 878; omega) (vp_in_nI (show t < 10 by omega) (by decide)) hp⟩
theorem c_mReachF {P : KI} (hr : Rk r) (hc : MtC a nc ns ng) (hno : (¬ ∃ s, s < nc ∧ x = nI s) → P 0 (mBd a 1 1) r nK)
    (hy : ∀ s, s < nc → x = nI s → ∀ a', mQF (u2 a 60 0 0) a' → P (bitsLo (fun t => decide (¬ wayF (u2 a 60 0 0) ns (-1) s t = -1)) nc 0 0) a' r nK) : Sp G (d + 3) 0 0 MX12_reach [.ref 60, .int x] (a, r, nK) (RI P) := by
  have hc1 := hc.z
  have n10 := hc.2.1
  have r37 : r 60 37 = .ref 605 := rf5 hr (by decide) rfl
  have r64 : r 60 12 = .ref 64 := rf5 hr (by decide) rfl
  refine V_X12_reach_0 ⟨rfl, by decide, fun a1 q1 => ⟨rfl, by decide, ?_⟩⟩
  subst q1
  refine c_mIsCor hr hc1.1 n10 (fun s hs e => ⟨fun _ => ⟨rfl, by decide, bad0z ⟨fun _ => ⟨rfl, by decide, c_mWays hr hc1 (fun h hx => ?_)⟩, fun h => absurd rfl h⟩⟩, fun h => absurd h (by decide)⟩) (fun hn => ⟨fun h => absurd rfl h, fun _ => ⟨rfl, by decide, bad1z (i := 1) hr (by decide) (by decide) ⟨fun h => absurd h (by decide), fun _ => hno hn⟩⟩⟩)
  have hp := hy s hs e h hx.1
  subst e
  have loop : ∀ (u k : Nat) (b : Int32), k + u = nc → P (bitsLo (fun t => decide (¬ wayF (u2 a 60 0 0) ns (-1) s t = -1)) u k b) h r nK → E G MX12_reach (d + 3) 0 0 38 [.ref 60, .int (nI s), .int b, .int (nI k)] [] (h, r, nK) (RI P) := by
    intro u
    induction u with
    | zero =>
      intro k b hk hp
      refine V_X12_reach_38 ⟨rfl, by decide, 64, r64, rfl, by decide, vp_in_nI (show 0 < 8 by decide) (by decide), fun _ => hp, fun e => absurd ?_ e⟩
      rw [z0, (hx.c hc1).1]; exact nI_le (by omega) (by omega)
    | succ u ih =>
      intro k b hk hp
      rw [bitsLo] at hp
      refine V_X12_reach_38 ⟨rfl, by decide, 64, r64, rfl, by decide, vp_in_nI (show 0 < 8 by decide) (by decide), fun e => absurd ?_ (show ¬ nc ≤ k by omega), fun _ => ⟨rfl, by decide, 605, r37, rfl, by decide, vp_in_nI (show s < 10 by omega) (by decide), ?_⟩⟩
      · rw [z0, (hx.c hc1).1] at e; exact (nI_leI (by omega) (by omega)).mp e
      · rw [nI_clamp (show s < 2 ^ 31 by omega), nI_clamp (show k < 2 ^ 31 by omega), hx.2 s k (by omega) (by omega), nI_1]
        refine row3 (tyR_far s (by omega)) (by show _ < 878; omega) (vp_in_nI (show k < 10 by omega) (by decide)) ⟨fun e => ?_, fun e => ?_⟩
        · rw [if_neg (by rw [decide_eq_true_eq]; exact not_not_intro e)] at hp
          rw [Int32.or_zero]
          exact ih (k + 1) b (by omega) hp
        · rw [if_pos (decide_eq_true e)] at hp
          exact ih (k + 1) _ (by omega) hp
  exact loop nc 0 0 (by omega) hp
theorem c_mBridgesF {P : KI} (hr : Rk r) (hc : MtC a nc ns ng) (hno : ¬ inT x 0 1 → P 0 (mBd a 1 2) r nK) (hy : inT x 0 1 → ∀ a', mQF (u2 a 60 0 0) a' → P (if x = 0 then (lpM (mBr (u2 a 60 0 0) ns) ns 0 (0, -1)).1 else (lpM (mBr (u2 a 60 0 0) ns) ns 0 (0, -1)).2) a' r nK) : Sp G (d + 3) 0 0 MX12_bridges [.ref 60, .int x] (a, r, nK) (RI P) := by
  have hc1 := hc.z
  have n8 := hc.2.2.2.1
  have r37 : r 60 37 = .ref 605 := rf5 hr (by decide) rfl
  have r64 : r 60 12 = .ref 64 := rf5 hr (by decide) rfl
  have r16 : r 60 16 = .ref 96 := rf5 hr (by decide) rfl
  refine V_X12_bridges_0 ⟨rfl, by decide, fun a1 q1 => ?_⟩
  subst q1
  have loop : inT x 0 1 → ∀ (u s : Nat) (y : Int32 × Int32) (h : IA), s + u = ns → mQF (u2 a 60 0 0) h → (∀ a', mQF (u2 a 60 0 0) a' → P (if x = 0 then (lpM (mBr (u2 a 60 0 0) ns) u s y).1 else (lpM (mBr (u2 a 60 0 0) ns) u s y).2) a' r nK) → E G MX12_bridges (d + 3) 0 0 37 [.ref 60, .int x, .int y.1, .int y.2, .int (nI s)] [] (h, r, nK) (RI P) := by
    intro _ u
    induction u with
    | zero =>
      intro s y h hs hm hp
      have hch : MtC h nc ns ng := hc1.row (hm 64 (by omega)) (fun s hs => hm _ (by omega))
      refine V_X12_bridges_37 ⟨rfl, by decide, 64, r64, rfl, by decide, vp_in_nI (show 1 < 8 by decide) (by decide), fun _ => ⟨fun e => ?_, fun e => ?_⟩, fun e => absurd ?_ e⟩
      · have := hp h hm; rw [if_neg e] at this; exact this
      · have := hp h hm; rw [if_pos e] at this; exact this
      · rw [z1, hch.2.2.1]; exact nI_le (by omega) (by omega)
    | succ u ih =>
      intro s y h hs hm hp
      have hch : MtC h nc ns ng := hc1.row (hm 64 (by omega)) (fun s hs => hm _ (by omega))
      have hsn : s < ns := by omega
      obtain ⟨i, j, hi, hj, hij, e0, e1⟩ := hc1.2.2.2.2.2.2 s hsn
      have n10 := hc.2.1
      rw [lpM] at hp
      have eB : mBr (u2 a 60 0 0) ns s y = if wayF (u2 a 60 0 0) ns (nI s) i j = -1 then (y.1 + 1, if y.1 = 0 then nI s else y.2) else y := by
        unfold mBr
        rw [e0, e1, nI_clamp (by omega), nI_clamp (by omega)]
      rw [eB] at hp
      refine V_X12_bridges_37 ⟨rfl, by decide, 64, r64, rfl, by decide, vp_in_nI (show 1 < 8 by decide) (by decide), fun e => absurd ?_ (show ¬ ns ≤ s by omega), fun _ => ⟨rfl, by decide, c_mWays hr hch (fun h2 hx => ⟨rfl, by decide, 605, r37, rfl, by decide, 96, r16, rfl, by decide, vp_in_nI (show s < 8 by omega) (by decide), ?_⟩)⟩⟩
      · rw [z1, hch.2.2.1] at e; exact (nI_leI (by omega) (by omega)).mp e
      have m2 : mQF (u2 a 60 0 0) h2 := fun q hq => (hx.1 q hq).trans (hm q hq)
      have g0 : h2 (96 + 1 + s) 0 = nI i := by rw [m2 _ (by omega)]; exact e0
      have g1 : h2 (96 + 1 + s) 1 = nI j := by rw [m2 _ (by omega)]; exact e1
      have ii : (nI i).toNatClampNeg = i := nI_clamp (by omega)
      have ij : (nI j).toNatClampNeg = j := nI_clamp (by omega)
      simp only [z0, z1, nI_clamp (show s < 2 ^ 31 by omega), g0, ii]
      refine row3 (tyR_street s (by omega)) (by show _ < 878; omega) (vp_in_nI (show 0 < 4 by decide) (by decide)) ⟨rfl, by decide, vp_in_nI (show i < 10 by omega) (by decide), rfl, by decide, 96, r16, rfl, by decide, vp_in_nI (show s < 8 by omega) (by decide), ?_⟩
      simp only [g1, ij]
      rw [hx.2 i j (by omega) (by omega), wayF_F hc1 hm, nI_1]
      refine row3 (tyR_street s (by omega)) (by show _ < 878; omega) (vp_in_nI (show 1 < 4 by decide) (by decide)) (row3 (tyR_far i (by omega)) (by show _ < 878; omega) (vp_in_nI (show j < 10 by omega) (by decide)) ⟨fun e => ⟨fun ey => ?_, fun ey => ?_⟩, fun e => ?_⟩)
      · rw [if_pos e, if_neg ey] at hp
        exact ih (s + 1) (y.1 + 1, y.2) h2 (by omega) m2 hp
      · rw [if_pos e, if_pos ey] at hp
        exact ih (s + 1) (y.1 + 1, nI s) h2 (by omega) m2 hp
      · rw [if_neg e] at hp
        exact ih (s + 1) y h2 (by omega) m2 hp
  exact c_mIn (fun hin => ⟨fun _ => ⟨rfl, by decide, bad0z ⟨fun _ => loop hin ns 0 (0, -1) _ (by omega) (fun _ _ => rfl) (hy hin), fun h => absurd rfl h⟩⟩, fun h => absurd h (by decide)⟩) (fun hin => ⟨fun h => absurd rfl h, fun _ => ⟨rfl, by decide, bad1z (i := 2) hr (by decide) (by decide) ⟨fun h => absurd h (by decide), fun _ => hno hin⟩⟩⟩)
end MRE
