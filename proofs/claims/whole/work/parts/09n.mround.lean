/-! The reference: the postman's round -/
theorem set_or : ∀ x, x < 256 → ∀ s, s < 8 → (nI x ||| ((1 : Int32) <<< (nI s &&& 31))) = nI (x ||| 2 ^ s) := by decide +kernel
theorem set_has : ∀ x, x < 256 → ∀ s, s < 8 → (((nI x >>> (nI s &&& 31)) &&& 1 = 1) ↔ x.testBit s = true) := by decide +kernel
theorem set_lt {x s ns : Nat} (hx : x < 2 ^ ns) (hs : s < ns) : x ||| 2 ^ s < 2 ^ ns := Nat.or_lt_two_pow hx (Nat.pow_lt_pow_right (by decide) hs)
theorem shl_n : ∀ n, n ≤ 8 → ((1 : Int32) <<< (nI n &&& 31)) = nI (2 ^ n) := by decide +kernel
theorem pow_le {n : Nat} (h : n ≤ 8) : 2 ^ n ≤ 256 := Nat.pow_le_pow_right (n := 2) (by decide) h
def eN (a : IA) (s k : Nat) : Nat := (a (96 + 1 + s) k).toNatClampNeg
def wkO (a : IA) (F : Mat) (set c s k : Nat) (W : Mat) : Mat :=
  if F c (eN a s k) = -1 then W else
  up2 W (set ||| 2 ^ s) (eN a s (1 - k)) (if W (set ||| 2 ^ s) (eN a s (1 - k)) = -1 then W set c + F c (eN a s k) + mLen a s else if W set c + F c (eN a s k) + mLen a s ≤ W (set ||| 2 ^ s) (eN a s (1 - k)) then W set c + F c (eN a s k) + mLen a s else W (set ||| 2 ^ s) (eN a s (1 - k)))
def wStr (a : IA) (F : Mat) (str set c s : Nat) (W : Mat) : Mat := if str.testBit s = true ∧ set.testBit s = false then wkO a F set c s 1 (wkO a F set c s 0 W) else W
def wOn (a : IA) (F : Mat) (ns str set c : Nat) (W : Mat) : Mat := if W set c = -1 then W else lpM (wStr a F str set c) ns 0 W
def wAll (a : IA) (F : Mat) (ns str home : Nat) : Mat := lpM (fun set W => lpM (fun c W => wOn a F ns str set c W) 10 0 W) (2 ^ ns) 0 (up2 (fun _ _ => -1) 0 home 0)
def wBest (F W : Mat) (str home c : Nat) (b : Int32) : Int32 := if W str c = -1 ∨ F c home = -1 then b else if b = -1 then W str c + F c home else if W str c + F c home ≤ b then W str c + F c home else b
def mRound (a : IA) (F : Mat) (ns str home : Nat) : Int32 := lpM (wBest F (wAll a F ns str home) str home) 10 0 (-1)
/-- the heap in which what was walked stands -/
def WK (a h : IA) (F W : Mat) (ns : Nat) : Prop := (∀ q, ¬ (606 ≤ q ∧ q ≤ 615) → ¬ (620 ≤ q ∧ q ≤ 875) → h q = a q) ∧ (∀ i j, i < 10 → j < 10 → h (605 + 1 + i) j = F i j) ∧ ∀ x c, x < 2 ^ ns → c < 10 → h (619 + 1 + x) c = W x c
section MRO
variable {G : GE} {d C S : Nat} {a : IA} {r : RA} {nc ns ng : Nat} {lw : List Int32} {x y : Int32} {F W : Mat}
theorem WK.up {h : IA} (hx : WK a h F W ns) {i j : Nat} (hi : i < 256) (v : Int32) : WK a (u2 h (619 + 1 + i) j v) F (up2 W i j v) ns := by
  refine ⟨fun q h1 h2 => by rw [u2_off q (by omega)]; exact hx.1 q h1 h2, fun p q hp hq => by rw [u2_off _ (by omega)]; exact hx.2.1 p q hp hq, fun p q hp hq => ?_⟩
  rw [u2_at0]
  unfold up2
  by_cases e : p = i ∧ q = j
  · rw [if_pos (by omega), if_pos e]
  · rw [if_neg (by omega), if_neg e]; exact hx.2.2 p q hp hq
theorem WK.c {h : IA} (hc : MtC a nc ns ng) (hx : WK a h F W ns) : MtC h nc ns ng := hc.row (hx.1 64 (by omega) (by omega)) (fun s hs => by have := hc.2.2.2.1; exact hx.1 _ (by omega) (by omega))
theorem WK.len {h : IA} {s : Nat} (hc : MtC a nc ns ng) (hx : WK a h F W ns) (hs : s < ns) : mLen h s = mLen a s := mLen_cg hc (fun c hc' => hx.1 c (by omega) (by omega)) hs
theorem c_mWalks {P : KN} {h : IA} {str set c : Nat} (hr : Rk r) (hc : MtC a nc ns ng) (hstr : str < 2 ^ ns) (hset : set < 2 ^ ns) (hcc : c < 10) (hx : WK a h F W ns) (hp : ∀ h', WK a h' F (lpM (wStr a F str set c) ns 0 W) ns → P h' r nK) :
    Sp G (d + 2) 0 0 MX12_walksOn [.ref 60, .int (nI str), .int (nI set), .int (nI c)] (h, r, nK) (RN P) := by
  have hc0 := hc
  obtain ⟨h1, h2, h3, h4, h5, h6, h7⟩ := hc
  have p8 := pow_le h4
  have r37 : r 60 37 = .ref 605 := rf5 hr (by decide) rfl
  have r16 : r 60 16 = .ref 96 := rf5 hr (by decide) rfl
  have r50 : r 60 50 = .ref 619 := rf5 hr (by decide) rfl
  have r64 : r 60 12 = .ref 64 := rf5 hr (by decide) rfl
  have v10 : ∀ {i : Nat}, i < 10 → vp_in (nI i) 10 := fun h => vp_in_nI h (by decide)
  have ic : ∀ {i : Nat}, i < 256 → (nI i).toNatClampNeg = i := fun h => nI_clamp (by omega)
  have vx : ∀ {i : Nat}, i < 256 → vp_in (nI i) 256 := fun h => vp_in_nI h (by decide)
  have bdF : ∀ {i : Nat}, i < 10 → 605 + 1 + i < nK := fun h => by show _ < 878; omega
  have bdW : ∀ {i : Nat}, i < 256 → 619 + 1 + i < nK := fun h => by show _ < 878; omega
  have loop : ∀ (u s : Nat) (h : IA) (W : Mat), s + u = ns → WK a h F W ns → (∀ h', WK a h' F (lpM (wStr a F str set c) u s W) ns → P h' r nK) → E G MX12_walksOn (d + 2) 0 0 3 [.ref 60, .int (nI str), .int (nI set), .int (nI c), .int (nI s), .null, .null, .null, .null, .null] [] (h, r, nK) (RN P) := by
    intro u
    induction u with
    | zero =>
      intro s h W hs hx hP
      refine V_X12_walksOn_3 ⟨rfl, by decide, 64, r64, rfl, by decide, vp_in_nI (show 1 < 8 by decide) (by decide), fun _ => hP h hx, fun e => absurd ?_ e⟩
      rw [z1, (hx.c hc0).2.2.1]; exact nI_le (by omega) (by omega)
    | succ u ih =>
      intro s h W hs hx hP
      have hsn : s < ns := by omega
      rw [lpM] at hP
      have skip : ¬ (str.testBit s = true ∧ set.testBit s = false) → E G MX12_walksOn (d + 2) 0 0 3 [.ref 60, .int (nI str), .int (nI set), .int (nI c), .int (nI s + 1), .null, .null, .null, .null, .null] [] (h, r, nK) (RN P) := by
        intro e
        unfold wStr at hP
        rw [if_neg e] at hP
        rw [nI_1]; exact ih (s + 1) h W (by omega) hx hP
      refine V_X12_walksOn_3 ⟨rfl, by decide, 64, r64, rfl, by decide, vp_in_nI (show 1 < 8 by decide) (by decide), fun e => absurd ?_ (show ¬ ns ≤ s by omega), fun _ => c_mHas ?_⟩
      · rw [z1, (hx.c hc0).2.2.1] at e; exact (nI_leI (by omega) (by omega)).mp e
      have t1 := set_has str (by omega) s (by omega)
      have t2 := set_has set (by omega) s (by omega)
      by_cases b1 : str.testBit s = true
      rotate_left
      · rw [if_neg (fun e => b1 (t1.mp e))]
        exact ⟨fun _ => skip (fun e => b1 e.1), fun e => absurd rfl e⟩
      rw [if_pos (t1.mpr b1)]
      refine ⟨fun e => absurd e (by decide), fun _ => c_mHas ?_⟩
      by_cases b2 : set.testBit s = true
      · rw [if_pos (t2.mpr b2)]
        exact ⟨fun e => absurd e (by decide), fun _ => skip (fun e => by rw [b2] at e; cases e.2)⟩
      rw [if_neg (fun e => b2 (t2.mp e))]
      refine ⟨fun _ => ?_, fun e => absurd rfl e⟩
      have b2' : set.testBit s = false := by
        cases hb : set.testBit s with
        | true => exact absurd hb b2
        | false => rfl
      have ew : wStr a F str set c s W = wkO a F set c s 1 (wkO a F set c s 0 W) := by unfold wStr; rw [if_pos ⟨b1, b2'⟩]
      rw [ew] at hP
      -- both ways through the street
      have nx : set ||| 2 ^ s < 2 ^ ns := set_lt hset hsn
      obtain ⟨i, j, hi, hj, hij, e0, e1⟩ := h7 s hsn
      have n0 : eN a s 0 = i := by unfold eN; rw [e0, nI_clamp (by omega)]
      have n1 : eN a s 1 = j := by unfold eN; rw [e1, nI_clamp (by omega)]
      have ee : ∀ k, k < 2 → eN a s k < 10 ∧ a (96 + 1 + s) k = nI (eN a s k) := fun k hk => by
        have : k = 0 ∨ k = 1 := by omega
        rcases this with rfl | rfl
        · rw [n0]; exact ⟨by omega, e0⟩
        · rw [n1]; exact ⟨by omega, e1⟩
      have is : (nI s).toNatClampNeg = s := nI_clamp (by omega)
      have tyS := tyR_street s (by omega)
      have bdS : 96 + 1 + s < nK := by show _ < 878; omega
      have v8 : vp_in (nI s) 8 := vp_in_nI (by omega) (by decide)
      have one : ∀ (k : Nat) (h : IA) (W : Mat), k < 2 → WK a h F W ns → (∀ h', WK a h' F (wkO a F set c s k W) ns → E G MX12_walksOn (d + 2) 0 0 38 [.ref 60, .int (nI str), .int (nI set), .int (nI c), .int (nI s), .int (nI (k + 1)), .null, .null, .null, .null] [] (h', r, nK) (RN P)) →
          E G MX12_walksOn (d + 2) 0 0 38 [.ref 60, .int (nI str), .int (nI set), .int (nI c), .int (nI s), .int (nI k), .null, .null, .null, .null] [] (h, r, nK) (RN P) := by
        intro k h W hk hx hP
        obtain ⟨f10, ef⟩ := ee k hk
        obtain ⟨t10, et⟩ := ee (1 - k) (by omega)
        have ef' : h (96 + 1 + s) k = nI (eN a s k) := by rw [hx.1 _ (by omega) (by omega)]; exact ef
        have et' : h (96 + 1 + s) (1 - k) = nI (eN a s (1 - k)) := by rw [hx.1 _ (by omega) (by omega)]; exact et
        have ek : (1 : Int32) - nI k = nI (1 - k) := by
          have : k = 0 ∨ k = 1 := by omega
          rcases this with rfl | rfl <;> decide
        unfold wkO at hP
        have io := set_or set (by omega) s (by omega)
        refine V_X12_walksOn_38 ⟨fun e => absurd ((nI_leI (a := 2) (by decide) (by omega)).mp e) (by omega), fun _ => ⟨rfl, by decide, 96, r16, rfl, by decide, v8, ?_⟩⟩
        simp only [is, ic (show k < 256 by omega), ic (show c < 256 by omega), ic (show set < 256 by omega), ek, ic (show 1 - k < 256 by omega), io, ic (show set ||| 2 ^ s < 256 by omega)]
        rw [ef', ic (show eN a s k < 256 by omega)]
        refine row3 tyS bdS (vp_in_nI (show k < 4 by omega) (by decide)) ⟨rfl, by decide, 96, r16, rfl, by decide, v8, ?_⟩
        rw [et', ic (show eN a s (1 - k) < 256 by omega)]
        refine row3 tyS bdS (vp_in_nI (show 1 - k < 4 by omega) (by decide)) ⟨rfl, by decide, 605, r37, rfl, by decide, v10 hcc, ?_⟩
        rw [hx.2.1 c _ hcc f10]
        refine row3 (tyR_far c hcc) (bdF hcc) (v10 f10) ⟨fun hne => ⟨rfl, by decide, 619, r50, rfl, by decide, vx (show set < 256 by omega), row3 (tyR_walked set (by omega)) (bdW (by omega)) (v10 hcc) ⟨rfl, by decide, 605, r37, rfl, by decide, v10 hcc, row3 (tyR_far c hcc) (bdF hcc) (v10 f10) ⟨rfl, by decide, c_mLen hr (hx.c hc0) hsn ⟨rfl, by decide, 619, r50, rfl, by decide, vx (show set ||| 2 ^ s < 256 by omega), rfl, by decide, 619, r50, rfl, by decide, vx (show set ||| 2 ^ s < 256 by omega), ?_⟩⟩⟩⟩, fun he => ?_⟩
        · rw [if_neg hne] at hP
          rw [hx.len hc0 hsn, hx.2.2 set c hset hcc, hx.2.1 c _ hcc f10, hx.2.2 _ _ nx t10]
          have tyN := tyR_walked (set ||| 2 ^ s) (by omega)
          have bdN : 619 + 1 + (set ||| 2 ^ s) < nK := bdW (by omega)
          refine row3 tyN bdN (v10 t10) ⟨fun g => ⟨rfl, by decide, 619, r50, rfl, by decide, vx (show set ||| 2 ^ s < 256 by omega), row3 tyN bdN (v10 t10) ?_⟩, fun g => row3 tyN bdN (v10 t10) (fun a18 q18 => ?_)⟩
          · rw [hx.2.2 _ _ nx t10]
            refine c_mLess (row3 tyN bdN (v10 t10) (fun a17 q17 => ?_))
            rw [if_neg g] at hP
            subst q17
            rw [nI_1]
            exact hP _ (hx.up (by omega) _)
          · rw [if_pos g] at hP
            subst q18
            rw [nI_1]
            exact hP _ (hx.up (by omega) _)
        · rw [if_pos he] at hP
          rw [nI_1]
          exact hP h hx
      refine one 0 h W (by omega) hx (fun h2 x2 => one 1 h2 _ (by omega) x2 (fun h3 x3 => V_X12_walksOn_38 ⟨fun _ => ?_, fun e => absurd (by decide) e⟩))
      rw [nI_1]
      exact ih (s + 1) h3 _ (by omega) x3 hP
  exact V_X12_walksOn_0 (loop ns 0 h W (by omega) hx hp)
theorem c_mRoundF {P : KI} (hr : Rk r) (hc : MtC a nc ns ng) (hno : ¬ inT x 0 (nI (2 ^ ns) - 1) → P 0 (mBd a 1 2) r nK) (h0 : x = 0 → inT x 0 (nI (2 ^ ns) - 1) → P 0 (u2 a 60 0 0) r nK)
    (hy : ∀ str f, 0 < str → str < 2 ^ ns → x = nI str → f < ns → str.testBit f = true → (∀ i, i < f → str.testBit i = false) → ∀ a', (∀ q, ¬ (606 ≤ q ∧ q ≤ 615) → ¬ (620 ≤ q ∧ q ≤ 875) → a' q = u2 a 60 0 0 q) → P (mRound (u2 a 60 0 0) (wayF (u2 a 60 0 0) ns (-1)) ns str (eN (u2 a 60 0 0) f 0)) a' r nK) :
    Sp G (d + 4) 0 0 MX12_round [.ref 60, .int x] (a, r, nK) (RI P) := by
  have hc1 := hc.z
  have n8 := hc.2.2.2.1
  have p8 := pow_le n8
  have r37 : r 60 37 = .ref 605 := rf5 hr (by decide) rfl
  have r50 : r 60 50 = .ref 619 := rf5 hr (by decide) rfl
  have r64 : r 60 12 = .ref 64 := rf5 hr (by decide) rfl
  have r16 : r 60 16 = .ref 96 := rf5 hr (by decide) rfl
  refine V_X12_round_0 ⟨rfl, by decide, fun a1 q1 => ⟨rfl, by decide, 64, r64, rfl, by decide, vp_in_nI (show 1 < 8 by decide) (by decide), ?_⟩⟩
  subst q1
  rw [z1, hc1.2.2.1, shl_n ns n8]
  refine c_mIn (fun hin => ⟨fun _ => ⟨rfl, by decide, bad0z ⟨fun _ => ⟨fun hne => ⟨rfl, by decide, c_mWays hr hc1 (fun h hx => ?_)⟩, fun he => h0 he hin⟩, fun h => absurd rfl h⟩⟩, fun h => absurd h (by decide)⟩) (fun hin => ⟨fun h => absurd rfl h, fun _ => ⟨rfl, by decide, bad1z (i := 2) hr (by decide) (by decide) ⟨fun h => absurd h (by decide), fun _ => hno hin⟩⟩⟩)
  obtain ⟨str, hstr, ex⟩ := (inT_S (by omega)).mp hin
  subst ex
  have hs0 : 0 < str := by
    rcases Nat.eq_zero_or_pos str with e | e
    · subst e; exact absurd rfl hne
    · exact e
  have hy := fun f => hy str f hs0 hstr rfl
  obtain ⟨b, hb⟩ : ∃ b, b = u2 a 60 0 0 := ⟨_, rfl⟩
  rw [← hb] at hc1 hx hy
  generalize hF : wayF b ns (-1) = F at hx hy
  -- the walk
  have v10 : ∀ {i : Nat}, i < 10 → vp_in (nI i) 10 := fun h => vp_in_nI h (by decide)
  have ic : ∀ {i : Nat}, i ≤ 256 → (nI i).toNatClampNeg = i := fun h => nI_clamp (by omega)
  have vx : ∀ {i : Nat}, i < 256 → vp_in (nI i) 256 := fun h => vp_in_nI h (by decide)
  have bdW : ∀ {i : Nat}, i < 256 → 619 + 1 + i < nK := fun h => by show _ < 878; omega
  have le10 : ∀ {i : Nat}, i ≤ 10 → ((10 : Int32) ≤ nI i ↔ 10 ≤ i) := fun h => nI_leI (a := 10) (by decide) (by omega)
  have kS : ∀ {h : IA} {W : Mat}, WK b h F W ns → h 64 1 = nI ns := fun hx => (hx.c hc1).2.2.1
  have last : ∀ (home : Nat) (W : Mat), home < 10 → (∀ h, WK b h F W ns → P (lpM (wBest F W str home) 10 0 (-1)) h r nK) → ∀ (u c : Nat) (best : Int32) (h : IA), c + u = 10 → WK b h F W ns → lpM (wBest F W str home) u c best = lpM (wBest F W str home) 10 0 (-1) → E G MX12_round (d + 4) 0 0 200 [.ref 60, .int (nI str), .null, .int (nI home), .int best, .int (nI c), .null] [] (h, r, nK) (RI P) := by
    intro home W hh hP u
    induction u with
    | zero =>
      intro c best h hcu hx he
      obtain rfl : c = 10 := by omega
      have := hP h hx
      rw [← he] at this
      exact V_X12_round_200 ⟨fun _ => this, fun e => absurd (by decide) e⟩
    | succ u ih =>
      intro c best h hcu hx he
      have hc10 : c < 10 := by omega
      rw [lpM] at he
      have tyW := tyR_walked str (by omega)
      refine V_X12_round_200 ⟨fun e => absurd ((le10 (by omega)).mp e) (by omega), fun _ => ⟨rfl, by decide, 619, r50, rfl, by decide, vx (show str < 256 by omega), ?_⟩⟩
      simp only [ic (show str ≤ 256 by omega), ic (show c ≤ 256 by omega), ic (show home ≤ 256 by omega)]
      rw [hx.2.2 str c hstr hc10, nI_1]
      refine row3 tyW (bdW (by omega)) (v10 hc10) ⟨fun e => ?_, fun e => ⟨rfl, by decide, 605, r37, rfl, by decide, v10 hc10, ?_⟩⟩
      · have eb : wBest F W str home c best = best := by unfold wBest; rw [if_pos (Or.inl e)]
        rw [eb] at he
        exact ih (c + 1) best h (by omega) hx he
      · rw [hx.2.1 c home hc10 hh]
        refine row3 (tyR_far c hc10) (by show _ < 878; omega) (v10 hh) ⟨fun e2 => ⟨rfl, by decide, 619, r50, rfl, by decide, vx (show str < 256 by omega), row3 tyW (bdW (by omega)) (v10 hc10) ⟨rfl, by decide, 605, r37, rfl, by decide, v10 hc10, ?_⟩⟩, fun e2 => ?_⟩
        · rw [hx.2.2 str c hstr hc10, hx.2.1 c home hc10 hh]
          refine row3 (tyR_far c hc10) (by show _ < 878; omega) (v10 hh) ⟨fun e3 => c_mLess ?_, fun e3 => ?_⟩
          · have eb : wBest F W str home c best = if W str c + F c home ≤ best then W str c + F c home else best := by unfold wBest; rw [if_neg (fun z => z.elim e e2), if_neg e3]
            rw [eb] at he
            exact ih (c + 1) _ h (by omega) hx he
          · have eb : wBest F W str home c best = W str c + F c home := by unfold wBest; rw [if_neg (fun z => z.elim e e2), if_pos e3]
            rw [eb] at he
            exact ih (c + 1) _ h (by omega) hx he
        · have eb : wBest F W str home c best = best := by unfold wBest; rw [if_pos (Or.inr e2)]
          rw [eb] at he
          exact ih (c + 1) best h (by omega) hx he
  have l139 : ∀ (home : Nat), home < 10 → (∀ h, WK b h F (wAll b F ns str home) ns → P (lpM (wBest F (wAll b F ns str home) str home) 10 0 (-1)) h r nK) → ∀ (u set : Nat) (W : Mat) (h : IA), set + u = 2 ^ ns → WK b h F W ns → lpM (fun set W => lpM (fun c W => wOn b F ns str set c W) 10 0 W) u set W = wAll b F ns str home → E G MX12_round (d + 4) 0 0 139 [.ref 60, .int (nI str), .null, .int (nI home), .int (-1), .int (nI set), .null] [] (h, r, nK) (RI P) := by
    intro home hh hP u
    induction u with
    | zero =>
      intro set W h hset hx he
      have he : W = wAll b F ns str home := he
      subst he
      refine V_X12_round_139 ⟨rfl, by decide, 64, r64, rfl, by decide, vp_in_nI (show 1 < 8 by decide) (by decide), fun _ => last home _ hh hP 10 0 (-1) h (by omega) hx rfl, fun e => absurd ?_ e⟩
      rw [z1, kS hx, shl_n ns n8]; exact nI_le (by omega) (by omega)
    | succ u ih =>
      intro set W h hset hx he
      have hset2 : set < 2 ^ ns := by omega
      have he : lpM (fun set W => lpM (fun c W => wOn b F ns str set c W) 10 0 W) u (set + 1) (lpM (fun c W => wOn b F ns str set c W) 10 0 W) = wAll b F ns str home := he
      have inner : ∀ (m c : Nat) (W : Mat) (h : IA), c + m = 10 → WK b h F W ns → (∀ h', WK b h' F (lpM (fun c W => wOn b F ns str set c W) m c W) ns → E G MX12_round (d + 4) 0 0 139 [.ref 60, .int (nI str), .null, .int (nI home), .int (-1), .int (nI (set + 1)), .null] [] (h', r, nK) (RI P)) → E G MX12_round (d + 4) 0 0 155 [.ref 60, .int (nI str), .null, .int (nI home), .int (-1), .int (nI set), .int (nI c)] [] (h, r, nK) (RI P) := by
        intro m
        induction m with
        | zero =>
          intro c W h hcm hx hQ
          obtain rfl : c = 10 := by omega
          refine V_X12_round_155 ⟨fun _ => ?_, fun e => absurd (by decide) e⟩
          rw [nI_1]; exact hQ h hx
        | succ m ih2 =>
          intro c W h hcm hx hQ
          have hc10 : c < 10 := by omega
          have hQ : ∀ h', WK b h' F (lpM (fun c W => wOn b F ns str set c W) m (c + 1) (wOn b F ns str set c W)) ns → E G MX12_round (d + 4) 0 0 139 [.ref 60, .int (nI str), .null, .int (nI home), .int (-1), .int (nI (set + 1)), .null] [] (h', r, nK) (RI P) := hQ
          refine V_X12_round_155 ⟨fun e => absurd ((le10 (by omega)).mp e) (by omega), fun _ => ⟨rfl, by decide, 619, r50, rfl, by decide, vx (show set < 256 by omega), ?_⟩⟩
          rw [ic (show set ≤ 256 by omega), ic (show c ≤ 256 by omega), hx.2.2 set c hset2 hc10, nI_1]
          refine row3 (tyR_walked set (by omega)) (bdW (by omega)) (v10 hc10) ⟨fun e => ?_, fun e => ⟨rfl, by decide, c_mWalks hr hc1 hstr hset2 hc10 hx (fun h' hx' => ?_)⟩⟩
          · unfold wOn at hQ
            rw [if_pos e] at hQ
            exact ih2 (c + 1) W h (by omega) hx hQ
          · unfold wOn at hQ
            rw [if_neg e] at hQ
            exact ih2 (c + 1) _ h' (by omega) hx' hQ
      refine V_X12_round_139 ⟨rfl, by decide, 64, r64, rfl, by decide, vp_in_nI (show 1 < 8 by decide) (by decide), fun e => absurd ?_ (show ¬ 2 ^ ns ≤ set by omega), fun _ => inner 10 0 W h (by omega) hx (fun h' hx' => ih (set + 1) _ h' (by omega) hx' he)⟩
      rw [z1, kS hx, shl_n ns n8] at e; exact (nI_leI (by omega) (by omega)).mp e
  have l81 : ∀ (home : Nat), home < 10 → (∀ h, WK b h F (wAll b F ns str home) ns → P (lpM (wBest F (wAll b F ns str home) str home) 10 0 (-1)) h r nK) → ∀ (u set : Nat) (h : IA), set + u = 2 ^ ns → (∀ q, ¬ (606 ≤ q ∧ q ≤ 615) → ¬ (620 ≤ q ∧ q ≤ 875) → h q = b q) → (∀ i j, i < 10 → j < 10 → h (605 + 1 + i) j = F i j) → (∀ p c, p < set → c < 10 → h (619 + 1 + p) c = -1) → E G MX12_round (d + 4) 0 0 81 [.ref 60, .int (nI str), .null, .int (nI home), .int (-1), .int (nI set), .null] [] (h, r, nK) (RI P) := by
    intro home hh hP u
    induction u with
    | zero =>
      intro set h hset g1 g2 g3
      have hc2 : MtC h nc ns ng := hc1.row (g1 64 (by omega) (by omega)) (fun s hs => g1 _ (by omega) (by omega))
      have hset' : set = 2 ^ ns := by omega
      subst hset'
      have w0 : WK b h F (fun _ _ => -1) ns := ⟨g1, g2, g3⟩
      refine V_X12_round_81 ⟨rfl, by decide, 64, r64, rfl, by decide, vp_in_nI (show 1 < 8 by decide) (by decide), fun _ => ⟨rfl, by decide, 619, r50, rfl, by decide, vx (i := 0) (by decide), ?_⟩, fun e => absurd ?_ e⟩
      · refine row3 (tyR_walked 0 (by decide)) (bdW (by decide)) (v10 hh) (fun a3 q3 => ?_)
        rw [ic (show home ≤ 256 by omega)] at q3
        have x3 : WK b a3 F (up2 (fun _ _ => -1) 0 home 0) ns := by rw [q3]; exact w0.up (i := 0) (by decide) 0
        exact l139 home hh hP (2 ^ ns) 0 _ a3 (by omega) x3 rfl
      · rw [z1, hc2.2.2.1, shl_n ns n8]; exact nI_le (by omega) (by omega)
    | succ u ih =>
      intro set h hset g1 g2 g3
      have hc2 : MtC h nc ns ng := hc1.row (g1 64 (by omega) (by omega)) (fun s hs => g1 _ (by omega) (by omega))
      have inner : ∀ (m c : Nat) (h : IA), c + m = 10 → (∀ q, ¬ (606 ≤ q ∧ q ≤ 615) → ¬ (620 ≤ q ∧ q ≤ 875) → h q = b q) → (∀ i j, i < 10 → j < 10 → h (605 + 1 + i) j = F i j) → (∀ p c', (p < set ∧ c' < 10) ∨ (p = set ∧ c' < c) → h (619 + 1 + p) c' = -1) → E G MX12_round (d + 4) 0 0 97 [.ref 60, .int (nI str), .null, .int (nI home), .int (-1), .int (nI set), .int (nI c)] [] (h, r, nK) (RI P) := by
        intro m
        induction m with
        | zero =>
          intro c h hcm g1 g2 g3
          obtain rfl : c = 10 := by omega
          refine V_X12_round_97 ⟨fun _ => ?_, fun e => absurd (by decide) e⟩
          rw [nI_1]
          exact ih (set + 1) h (by omega) g1 g2 (fun p c' hp hc' => g3 p c' (by omega))
        | succ m ih2 =>
          intro c h hcm g1 g2 g3
          refine V_X12_round_97 ⟨fun e => absurd ((le10 (by omega)).mp e) (by omega), fun _ => ⟨rfl, by decide, 619, r50, rfl, by decide, vx (show set < 256 by omega), ?_⟩⟩
          rw [ic (show set ≤ 256 by omega), ic (show c ≤ 256 by omega)]
          refine row3 (tyR_walked set (by omega)) (bdW (by omega)) (v10 (show c < 10 by omega)) (fun a2 q2 => ?_)
          subst q2
          rw [nI_1]
          refine ih2 (c + 1) _ (by omega) (fun q c1 c2 => by rw [u2_off q (by omega)]; exact g1 q c1 c2) (fun i j hi hj => by rw [u2_off _ (by omega)]; exact g2 i j hi hj) (fun p c' hpc => ?_)
          rw [u2_at0]
          by_cases e : p = set ∧ c' = c
          · rw [if_pos (by omega)]
          · rw [if_neg (by omega)]; exact g3 p c' (by omega)
      refine V_X12_round_81 ⟨rfl, by decide, 64, r64, rfl, by decide, vp_in_nI (show 1 < 8 by decide) (by decide), fun e => absurd ?_ (show ¬ 2 ^ ns ≤ set by omega), fun _ => inner 10 0 h (by omega) g1 g2 (fun p c' hpc => g3 p c' (by omega) (by omega))⟩
      rw [z1, hc2.2.2.1, shl_n ns n8] at e; exact (nI_leI (by omega) (by omega)).mp e
  -- the first street
  have l52 : ∀ (u f : Nat), f + u = ns → (∀ i, i < f → str.testBit i = false) → E G MX12_round (d + 4) 0 0 52 [.ref 60, .int (nI str), .int (nI f), .null, .null, .null, .null] [] (h, r, nK) (RI P) := by
    intro u
    induction u with
    | zero =>
      intro f hf hall
      exfalso
      have : str = 0 := by
        apply Nat.eq_of_testBit_eq
        intro i
        rw [Nat.zero_testBit]
        rcases Nat.lt_or_ge i ns with z | z
        · exact hall i (by omega)
        · exact Nat.testBit_lt_two_pow (Nat.lt_of_lt_of_le hstr (Nat.pow_le_pow_right (by decide) z))
      omega
    | succ u ih =>
      intro f hf hall
      have tb := set_has str (by omega) f (by omega)
      refine V_X12_round_52 (c_mHas ?_)
      cases hbf : str.testBit f with
      | false =>
        rw [if_neg (fun e => by rw [tb.mp e] at hbf; cases hbf)]
        refine ⟨fun e => absurd rfl e, fun _ => ?_⟩
        rw [nI_1]
        refine ih (f + 1) (by omega) (fun i hi => ?_)
        by_cases e : i = f
        · rw [e]; exact hbf
        · exact hall i (by omega)
      | true =>
        rw [if_pos (tb.mpr hbf)]
        refine ⟨fun _ => ⟨rfl, by decide, 96, r16, rfl, by decide, vp_in_nI (show f < 8 by omega) (by decide), ?_⟩, fun e => absurd e (by decide)⟩
        rw [ic (show f ≤ 256 by omega), z0]
        obtain ⟨i, j, hi, hj, hij, e0, e1⟩ := hc1.2.2.2.2.2.2 f (by omega)
        have n10 := hc.2.1
        have ei : eN b f 0 = i := by unfold eN; rw [e0, nI_clamp (by omega)]
        have hy := hy f (by omega) hbf hall
        rw [ei] at hy
        rw [hx.1 _ (by omega), e0]
        refine row3 (tyR_street f (by omega)) (by show _ < 878; omega) (vp_in_nI (show 0 < 4 by decide) (by decide)) (l81 i (by omega) (fun h' hk => hy h' hk.1) (2 ^ ns) 0 h (by omega) (fun q c1 _ => hx.1 q c1) hx.2 (fun p c hp _ => absurd hp (by omega)))
  exact l52 ns 0 (by omega) (fun i hi => absurd hi (by omega))
end MRO
