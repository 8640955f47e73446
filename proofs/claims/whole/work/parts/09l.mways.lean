/-! The reference: ways between corners -/
abbrev Mat : Type := Nat → Nat → Int32
def up2 (F : Mat) (i j : Nat) (v : Int32) : Mat := fun p q => if p = i ∧ q = j then v else F p q
def far0 : Mat := fun i j => if i = j then 0 else -1
def fE (a : IA) (but : Int32) (s : Nat) (F : Mat) : Mat :=
  let i := (a (96 + 1 + s) 0).toNatClampNeg
  let j := (a (96 + 1 + s) 1).toNatClampNeg
  if nI s = but ∨ (¬ F i j = -1 ∧ ¬ mLen a s < F i j) then F else up2 (up2 F i j (mLen a s)) j i (mLen a s)
def fB (k p q : Nat) (F : Mat) : Mat := if F p k = -1 ∨ F k q = -1 then F else up2 F p q (if F p q = -1 then F p k + F k q else if F p k + F k q ≤ F p q then F p k + F k q else F p q)
def wayF (a : IA) (ns : Nat) (but : Int32) : Mat := lpM (fun k F => lpM (fun p F => lpM (fB k p) 10 0 F) 10 0 F) 10 0 (lpM (fE a but) ns 0 far0)
/-- the heap in which the ways F stand -/
def WX (a h : IA) (F : Mat) : Prop := (∀ q, ¬ (606 ≤ q ∧ q ≤ 615) → h q = a q) ∧ ∀ i j, i < 10 → j < 10 → h (605 + 1 + i) j = F i j
section MWY
variable {G : GE} {d C S : Nat} {a : IA} {r : RA} {nc ns ng : Nat} {lw : List Int32} {F : Mat} {but : Int32}
theorem WX.up {h : IA} (hx : WX a h F) {i j : Nat} (hi : i < 10) (v : Int32) : WX a (u2 h (605 + 1 + i) j v) (up2 F i j v) := by
  refine ⟨fun q hq => by rw [u2_off q (by omega)]; exact hx.1 q hq, fun p q hp hq => ?_⟩
  rw [u2_at0]
  unfold up2
  by_cases e : p = i ∧ q = j
  · rw [if_pos (by omega), if_pos e]
  · rw [if_neg (by omega), if_neg e]; exact hx.2 p q hp hq
theorem WX.c {h : IA} (hc : MtC a nc ns ng) (hx : WX a h F) : MtC h nc ns ng := hc.row (hx.1 64 (by omega)) (fun s hs => by have := hc.2.2.2.1; exact hx.1 _ (by omega))
theorem WX.len {h : IA} {s : Nat} (hc : MtC a nc ns ng) (hx : WX a h F) (hs : s < ns) : mLen h s = mLen a s := mLen_cg hc (fun c hc' => hx.1 c (by omega)) hs
theorem c_mWays {P : KN} (hr : Rk r) (hc : MtC a nc ns ng) (hp : ∀ h, WX a h (wayF a ns but) → P h r nK) : Sp G (d + 2) 0 0 MX12_laysWays [.ref 60, .int but] (a, r, nK) (RN P) := by
  have hc0 := hc
  obtain ⟨h1, h2, h3, h4, h5, h6, h7⟩ := hc
  have r37 : r 60 37 = .ref 605 := rf5 hr (by decide) rfl
  have r16 : r 60 16 = .ref 96 := rf5 hr (by decide) rfl
  have r64 : r 60 12 = .ref 64 := rf5 hr (by decide) rfl
  have v10 : ∀ {i : Nat}, i < 10 → vp_in (nI i) 10 := fun h => vp_in_nI h (by decide)
  have ic : ∀ {i : Nat}, i < 10 → (nI i).toNatClampNeg = i := fun h => nI_clamp (by omega)
  have tyF := tyR_far
  have bdF : ∀ {i : Nat}, i < 10 → 605 + 1 + i < nK := fun h => by show _ < 878; omega
  have le10 : ∀ {i : Nat}, i ≤ 10 → ((10 : Int32) ≤ nI i ↔ 10 ≤ i) := fun h => nI_leI (a := 10) (by decide) (by omega)
  -- all pairs
  have l168 : ∀ (k p : Nat), k < 10 → p < 10 → ∀ (u q : Nat) (h : IA) (F : Mat), q + u = 10 → WX a h F → (∀ h', WX a h' (lpM (fB k p) u q F) → E G MX12_laysWays (d + 2) 0 0 159 [.ref 60, .null, .int (nI k), .int (nI (p + 1)), .null, .null] [] (h', r, nK) (RN P)) → E G MX12_laysWays (d + 2) 0 0 168 [.ref 60, .null, .int (nI k), .int (nI p), .int (nI q), .null] [] (h, r, nK) (RN P) := by
    intro k p hk hpp u
    induction u with
    | zero =>
      intro q h F hq hx hP
      obtain rfl : q = 10 := by omega
      refine V_X12_laysWays_168 ⟨fun _ => ?_, fun e => absurd (by decide) e⟩
      rw [nI_1]; exact hP h hx
    | succ u ih =>
      intro q h F hq hx hP
      have hq10 : q < 10 := by omega
      rw [lpM] at hP
      have stay' : fB k p q F = F → E G MX12_laysWays (d + 2) 0 0 168 [.ref 60, .null, .int (nI k), .int (nI p), .int (nI q + 1), .null] [] (h, r, nK) (RN P) := by
        intro e
        rw [e] at hP
        rw [nI_1]; exact ih (q + 1) h F (by omega) hx hP
      refine V_X12_laysWays_168 ⟨fun e => absurd ((le10 (by omega)).mp e) (by omega), fun _ => ⟨rfl, by decide, 605, r37, rfl, by decide, v10 hpp, ?_⟩⟩
      simp only [ic hk, ic hpp, ic hq10]
      rw [hx.2 p k hpp hk]
      refine row3 (tyF p hpp) (bdF hpp) (v10 hk) ⟨fun e => stay' (by unfold fB; rw [if_pos (Or.inl e)]), fun e1 => ⟨rfl, by decide, 605, r37, rfl, by decide, v10 hk, ?_⟩⟩
      rw [hx.2 k q hk hq10]
      refine row3 (tyF k hk) (bdF hk) (v10 hq10) ⟨fun e2 => ⟨rfl, by decide, 605, r37, rfl, by decide, v10 hpp, row3 (tyF p hpp) (bdF hpp) (v10 hk) ⟨rfl, by decide, 605, r37, rfl, by decide, v10 hk, row3 (tyF k hk) (bdF hk) (v10 hq10) ⟨rfl, by decide, 605, r37, rfl, by decide, v10 hpp, rfl, by decide, 605, r37, rfl, by decide, v10 hpp, ?_⟩⟩⟩, fun e2 => stay' (by unfold fB; rw [if_pos (Or.inr e2)])⟩
      rw [hx.2 p q hpp hq10, hx.2 p k hpp hk, hx.2 k q hk hq10]
      have eB : fB k p q F = up2 F p q (if F p q = -1 then F p k + F k q else if F p k + F k q ≤ F p q then F p k + F k q else F p q) := by unfold fB; rw [if_neg (fun z => z.elim e1 e2)]
      rw [eB] at hP
      refine row3 (tyF p hpp) (bdF hpp) (v10 hq10) ⟨fun e3 => ⟨rfl, by decide, 605, r37, rfl, by decide, v10 hpp, ?_⟩, fun e3 => row3 (tyF p hpp) (bdF hpp) (v10 hq10) (fun a13 q13 => ?_)⟩
      · rw [hx.2 p q hpp hq10]
        refine row3 (tyF p hpp) (bdF hpp) (v10 hq10) (c_mLess (row3 (tyF p hpp) (bdF hpp) (v10 hq10) (fun a12 q12 => ?_)))
        subst q12
        rw [if_neg e3] at hP
        rw [nI_1]
        exact ih (q + 1) _ _ (by omega) (hx.up hpp _) hP
      · subst q13
        rw [if_pos e3] at hP
        rw [nI_1]
        exact ih (q + 1) _ _ (by omega) (hx.up hpp _) hP
  have l159 : ∀ (k : Nat), k < 10 → ∀ (u p : Nat) (h : IA) (F : Mat), p + u = 10 → WX a h F → (∀ h', WX a h' (lpM (fun p F => lpM (fB k p) 10 0 F) u p F) → E G MX12_laysWays (d + 2) 0 0 151 [.ref 60, .null, .int (nI (k + 1)), .null, .null, .null] [] (h', r, nK) (RN P)) → E G MX12_laysWays (d + 2) 0 0 159 [.ref 60, .null, .int (nI k), .int (nI p), .null, .null] [] (h, r, nK) (RN P) := by
    intro k hk u
    induction u with
    | zero =>
      intro p h F hpp hx hP
      obtain rfl : p = 10 := by omega
      refine V_X12_laysWays_159 ⟨fun _ => ?_, fun e => absurd (by decide) e⟩
      rw [nI_1]; exact hP h hx
    | succ u ih =>
      intro p h F hpp hx hP
      refine V_X12_laysWays_159 ⟨fun e => absurd ((le10 (by omega)).mp e) (by omega), fun _ => l168 k p hk (by omega) 10 0 h F (by omega) hx (fun h' hx' => ?_)⟩
      exact ih (p + 1) h' _ (by omega) hx' hP
  have l151 : ∀ (u k : Nat) (h : IA) (F : Mat), k + u = 10 → WX a h F → (∀ h', WX a h' (lpM (fun k F => lpM (fun p F => lpM (fB k p) 10 0 F) 10 0 F) u k F) → P h' r nK) → E G MX12_laysWays (d + 2) 0 0 151 [.ref 60, .null, .int (nI k), .null, .null, .null] [] (h, r, nK) (RN P) := by
    intro u
    induction u with
    | zero =>
      intro k h F hk hx hP
      obtain rfl : k = 10 := by omega
      exact V_X12_laysWays_151 ⟨fun _ => hP h hx, fun e => absurd (by decide) e⟩
    | succ u ih =>
      intro k h F hk hx hP
      refine V_X12_laysWays_151 ⟨fun e => absurd ((le10 (by omega)).mp e) (by omega), fun _ => l159 k (by omega) 10 0 h F (by omega) hx (fun h' hx' => ?_)⟩
      exact ih (k + 1) h' _ (by omega) hx' hP
  -- the streets
  have l48 : ∀ (u s : Nat) (h : IA) (F : Mat), s + u = ns → WX a h F → (∀ h', WX a h' (lpM (fun k F => lpM (fun p F => lpM (fB k p) 10 0 F) 10 0 F) 10 0 (lpM (fE a but) u s F)) → P h' r nK) → E G MX12_laysWays (d + 2) 0 0 48 [.ref 60, .int but, .int (nI s), .null, .null, .null] [] (h, r, nK) (RN P) := by
    intro u
    induction u with
    | zero =>
      intro s h F hs hx hP
      refine V_X12_laysWays_48 ⟨rfl, by decide, 64, r64, rfl, by decide, vp_in_nI (show 1 < 8 by decide) (by decide), fun _ => l151 10 0 h F (by omega) hx hP, fun e => absurd ?_ e⟩
      rw [z1, (hx.c hc0).2.2.1]; exact nI_le (by omega) (by omega)
    | succ u ih =>
      intro s h F hs hx hP
      have hsn : s < ns := by omega
      have hP : ∀ h', WX a h' (lpM (fun k F => lpM (fun p F => lpM (fB k p) 10 0 F) 10 0 F) 10 0 (lpM (fE a but) u (s + 1) (fE a but s F))) → P h' r nK := hP
      obtain ⟨i, j, hi, hj, hij, e0, e1⟩ := h7 s hsn
      have hi10 : i < 10 := by omega
      have hj10 : j < 10 := by omega
      have eE : fE a but s F = if nI s = but ∨ (¬ F i j = -1 ∧ ¬ mLen a s < F i j) then F else up2 (up2 F i j (mLen a s)) j i (mLen a s) := by
        unfold fE
        simp only
        rw [e0, e1, ic hi10, ic hj10]
      rw [eE] at hP
      have e0' : h (96 + 1 + s) 0 = nI i := by rw [hx.1 _ (by omega)]; exact e0
      have e1' : h (96 + 1 + s) 1 = nI j := by rw [hx.1 _ (by omega)]; exact e1
      have is : (nI s).toNatClampNeg = s := nI_clamp (by omega)
      have tyS := tyR_street s (by omega)
      have bdS : 96 + 1 + s < nK := by show _ < 878; omega
      have v8 : vp_in (nI s) 8 := vp_in_nI (by omega) (by decide)
      have hcx := hx.c hc0
      have stay' : (nI s = but ∨ (¬ F i j = -1 ∧ ¬ mLen a s < F i j)) → E G MX12_laysWays (d + 2) 0 0 48 [.ref 60, .int but, .int (nI s + 1), .null, .null, .null] [] (h, r, nK) (RN P) := by
        intro e
        rw [if_pos e] at hP
        rw [nI_1]; exact ih (s + 1) h F (by omega) hx hP
      have fin : ¬ (nI s = but ∨ (¬ F i j = -1 ∧ ¬ mLen a s < F i j)) → E G MX12_laysWays (d + 2) 0 0 48 [.ref 60, .int but, .int (nI s + 1), .null, .null, .null] [] (u2 (u2 h (605 + 1 + i) j (mLen a s)) (605 + 1 + j) i (mLen a s), r, nK) (RN P) := by
        intro e
        rw [if_neg e] at hP
        rw [nI_1]
        exact ih (s + 1) _ _ (by omega) ((hx.up hi10 _).up hj10 _) hP
      refine V_X12_laysWays_48 ⟨rfl, by decide, 64, r64, rfl, by decide, vp_in_nI (show 1 < 8 by decide) (by decide), fun e => absurd ?_ (show ¬ ns ≤ s by omega), fun _ => ⟨rfl, by decide, 96, r16, rfl, by decide, v8, ?_⟩⟩
      · rw [z1, hcx.2.2.1] at e; exact (nI_leI (by omega) (by omega)).mp e
      simp only [z0, z1, is, e0', ic hi10]
      refine row3 tyS bdS (vp_in_nI (show 0 < 4 by decide) (by decide)) ⟨rfl, by decide, 96, r16, rfl, by decide, v8, ?_⟩
      simp only [e1', ic hj10]
      refine row3 tyS bdS (vp_in_nI (show 1 < 4 by decide) (by decide)) ⟨fun e => stay' (Or.inl e), fun nb => ⟨rfl, by decide, 605, r37, rfl, by decide, v10 hi10, ?_⟩⟩
      rw [hx.2 i j hi10 hj10]
      refine row3 (tyF i hi10) (bdF hi10) (v10 hj10) ⟨fun em => ⟨rfl, by decide, 605, r37, rfl, by decide, v10 hi10, rfl, by decide, c_mLen hr hcx hsn (row3 (tyF i hi10) (bdF hi10) (v10 hj10) (fun a10 q10 => ⟨rfl, by decide, 605, r37, rfl, by decide, v10 hj10, rfl, by decide, ?_⟩))⟩, fun em => ⟨rfl, by decide, 605, r37, rfl, by decide, v10 hi10, row3 (tyF i hi10) (bdF hi10) (v10 hj10) ⟨rfl, by decide, c_mLen hr hcx hsn ?_⟩⟩⟩
      · rw [hx.len hc0 hsn] at q10
        have hx2 := hx.up hi10 (j := j) (mLen a s)
        rw [← q10] at hx2
        refine c_mLen hr (hx2.c hc0) hsn (row3 (tyF j hj10) (bdF hj10) (v10 hi10) (fun a16 q16 => ?_))
        rw [hx2.len hc0 hsn] at q16
        subst q16 q10
        exact fin (fun z => z.elim nb (fun z => z.1 em))
      · rw [hx.len hc0 hsn, hx.2 i j hi10 hj10]
        refine ⟨fun hlt => ⟨rfl, by decide, 605, r37, rfl, by decide, v10 hi10, rfl, by decide, c_mLen hr hcx hsn (row3 (tyF i hi10) (bdF hi10) (v10 hj10) (fun a10 q10 => ⟨rfl, by decide, 605, r37, rfl, by decide, v10 hj10, rfl, by decide, ?_⟩))⟩, fun hlt => stay' (Or.inr ⟨em, hlt⟩)⟩
        rw [hx.len hc0 hsn] at q10
        have hx2 := hx.up hi10 (j := j) (mLen a s)
        rw [← q10] at hx2
        refine c_mLen hr (hx2.c hc0) hsn (row3 (tyF j hj10) (bdF hj10) (v10 hi10) (fun a16 q16 => ?_))
        rw [hx2.len hc0 hsn] at q16
        subst q16 q10
        exact fin (fun z => z.elim nb (fun z => z.2 hlt))
  -- the start
  have l2 : ∀ (u p : Nat) (h : IA), p + u = 10 → (∀ q, ¬ (606 ≤ q ∧ q ≤ 615) → h q = a q) → (∀ i j, i < p → j < 10 → h (605 + 1 + i) j = far0 i j) → E G MX12_laysWays (d + 2) 0 0 2 [.ref 60, .int but, .int (nI p), .null, .null, .null] [] (h, r, nK) (RN P) := by
    intro u
    induction u with
    | zero =>
      intro p h hpp g1 g2
      obtain rfl : p = 10 := by omega
      exact V_X12_laysWays_2 ⟨fun _ => l48 ns 0 h far0 (by omega) ⟨g1, g2⟩ hp, fun e => absurd (by decide) e⟩
    | succ u ih =>
      intro p h hpp g1 g2
      have hp10 : p < 10 := by omega
      have inner : ∀ (m q : Nat) (h : IA), q + m = 10 → (∀ q, ¬ (606 ≤ q ∧ q ≤ 615) → h q = a q) → (∀ i j, (i < p ∧ j < 10) ∨ (i = p ∧ j < q) → h (605 + 1 + i) j = far0 i j) → E G MX12_laysWays (d + 2) 0 0 10 [.ref 60, .int but, .int (nI p), .int (nI q), .null, .null] [] (h, r, nK) (RN P) := by
        intro m
        induction m with
        | zero =>
          intro q h hq g1 g2
          obtain rfl : q = 10 := by omega
          refine V_X12_laysWays_10 ⟨fun _ => ?_, fun e => absurd (by decide) e⟩
          rw [nI_1]
          exact ih (p + 1) h (by omega) g1 (fun i j hi hj => g2 i j (by omega))
        | succ m ih2 =>
          intro q h hq g1 g2
          have hq10 : q < 10 := by omega
          have nx : ∀ v, v = far0 p q → E G MX12_laysWays (d + 2) 0 0 10 [.ref 60, .int but, .int (nI p), .int (nI q + 1), .null, .null] [] (u2 h (605 + 1 + p) q v, r, nK) (RN P) := by
            intro v hv
            rw [nI_1]
            refine ih2 (q + 1) _ (by omega) (fun c hc => by rw [u2_off c (by omega)]; exact g1 c hc) (fun i j hij => ?_)
            rw [u2_at0]
            by_cases e : i = p ∧ j = q
            · rw [if_pos (by omega), hv, e.1, e.2]
            · rw [if_neg (by omega)]; exact g2 i j (by omega)
          refine V_X12_laysWays_10 ⟨fun e => absurd ((le10 (by omega)).mp e) (by omega), fun _ => ⟨rfl, by decide, 605, r37, rfl, by decide, v10 hp10, fun hne => ?_, fun he => ?_⟩⟩
          · rw [ic hp10, ic hq10]
            refine row3 (tyF p hp10) (bdF hp10) (v10 hq10) (fun a2 q2 => ?_)
            subst q2
            exact nx (-1) (by unfold far0; rw [if_neg (fun e => hne (by rw [e]))])
          · rw [ic hp10, ic hq10]
            refine row3 (tyF p hp10) (bdF hp10) (v10 hq10) (fun a2 q2 => ?_)
            subst q2
            exact nx 0 (by unfold far0; rw [if_pos ((nI_eq (by omega) (by omega)).mp he)])
      exact V_X12_laysWays_2 ⟨fun e => absurd ((le10 (by omega)).mp e) (by omega), fun _ => inner 10 0 h (by omega) g1 (fun i j hij => g2 i j (by omega) (by omega))⟩
  exact V_X12_laysWays_0 (l2 10 0 a (by omega) (fun _ _ => rfl) (fun i j hi _ => absurd hi (by omega)))
end MWY
