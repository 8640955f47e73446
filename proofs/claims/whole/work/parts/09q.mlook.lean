/-! The reference: look -/
theorem half_n : ∀ n, n ≤ 41 → nI n / 2 = nI (n / 2) := by decide +kernel
section MLO
variable {G : GE} {d C S : Nat} {a b : IA} {r : RA} {nc ns ng s : Nat} {lw : List Int32} {ml : List Ln} {x y w : Int32}
theorem mHouse_b {n how H : Nat} (hn : n ≤ 40) (hH : H ≤ 20) (e : a (96 + 1 + s) 2 = nI H) : ∃ j, j ≤ 20 ∧ mHouse a s (nI n) (nI how) = nI j := by
  have key : ∀ v, v ≤ 40 → ∃ j, j ≤ 20 ∧ (if a (96 + 1 + s) 2 < nI v then 0 else nI v) = nI j := by
    intro v hv
    rw [e]
    by_cases h : H < v
    · exact ⟨0, by omega, by rw [if_pos (nI_lt h (by omega))]; rfl⟩
    · exact ⟨v, by omega, by rw [if_neg (nI_nlt (by omega) (by omega))]⟩
  unfold mHouse
  split
  · exact ⟨0, by omega, rfl⟩
  · by_cases h0 : nI how = 0
    · rw [if_pos h0]; exact key n hn
    · rw [if_neg h0]
      by_cases h1 : nI how = 1
      · rw [if_pos h1, nI_1, half_n (n + 1) (by omega)]
        exact key ((n + 1) / 2) (by omega)
      · rw [if_neg h1, half_n n (by omega)]
        exact key (n / 2) (by omega)
/-- all but the stack, what is known, and comesTo -/
def mQ8 (a a' : IA) : Prop := ∀ q, q ≠ 499 → q ≠ 500 → q ≠ 876 → a' q = a q
theorem mQ8_tr {a b c : IA} (h1 : mQ8 a b) (h2 : mQ8 b c) : mQ8 a c := fun q c1 c2 c3 => (h2 q c1 c2 c3).trans (h1 q c1 c2 c3)
theorem MqH.q8 {a' : IA} (h : MqH a nc ns ng lw) (e : mQ8 a a') : MqH a' nc ns ng lw := by
  obtain ⟨hc, hl, h150, hd, hwf, hh⟩ := h
  have h8 := hc.2.2.2.1
  exact ⟨hc.row (e 64 (by decide) (by decide) (by decide)) (fun s hs => e _ (by omega) (by omega) (by omega)), hl.row h150 (by rw [e 60 (by decide) (by decide) (by decide)]) (fun q c1 c2 => e q (by omega) (by omega) (by omega)), h150, hd, by rw [e 582 (by decide) (by decide) (by decide)]; exact hwf, fun s hs => by rw [e _ (by omega) (by omega) (by omega)]; exact hh s hs⟩
theorem c_mLookF {P : KI} (hr : Rk r) (hq : MqH a nc ns ng lw) (hm : RPw a ml) (hno : (¬ ∃ s, s < ns ∧ x = nI s) → P 0 (mBd a 1 1) r nK) (hno2 : (∃ s, s < ns ∧ x = nI s) → ¬ inT y 0 1 → P 0 (mBd a 2 2) r nK)
    (hy : ∀ s, s < ns → x = nI s → inT y 0 1 → ∀ a', mQ8 (u2 a 60 0 0) a' → P (if y = 0 then (mLkX (u2 a 60 0 0) lw ml ns s).1 else (mLkX (u2 a 60 0 0) lw ml ns s).2) a' r nK) : Sp G (d + 5) 0 0 MX12_look [.ref 60, .int x, .int y] (a, r, nK) (RI P) := by
  have hqz := hq.z
  have hmz : RPw (u2 a 60 0 0) ml := ⟨by rw [u2_ne (by decide)]; exact hm.1, hm.2.1, fun i v hi => by rw [u2_off _ (by omega)]; exact hm.2.2 i v hi⟩
  have hc := hqz.1
  have h8 := hc.2.2.2.1
  have r51 : r 60 51 = .ref 876 := rf5 hr (by decide) rfl
  have r27 : r 60 27 = .ref 481 := rf5 hr (by decide) rfl
  refine V_X12_look_0 ⟨rfl, by decide, fun a1 q1 => ⟨rfl, by decide, ?_⟩⟩
  subst q1
  refine c_mIsStr hr hc.2.2.1 h8 (fun s hs e => ⟨fun _ => V_X12_look_19 ⟨rfl, by decide, bad0z ⟨fun h => absurd rfl h, fun _ => c_mIn (fun hin => ⟨fun _ => ⟨rfl, by decide, bad0z ⟨fun _ => ?_, fun h => absurd rfl h⟩⟩, fun h => absurd h (by decide)⟩) (fun hin => ⟨fun h => absurd rfl h, fun _ => ⟨rfl, by decide, bad1z (i := 2) hr (by decide) (by decide) ⟨fun h => absurd h (by decide), fun _ => hno2 ⟨s, hs, e⟩ hin⟩⟩⟩)⟩⟩, fun h => absurd h (by decide)⟩) (fun hn => ⟨fun h => absurd rfl h, fun _ => V_X12_look_19 ⟨rfl, by decide, bad1z (i := 1) hr (by decide) (by decide) ⟨fun _ => hno hn, fun h => absurd h (by decide)⟩⟩⟩)
  have hp := hy s hs e hin
  subst e
  generalize u2 a 60 0 0 = b at *
  obtain ⟨H, hH1, hH20, eH⟩ := hqz.2.2.2.2.2 s hs
  have v21 : ∀ {i : Nat}, i < 21 → vp_in (nI i) 21 := fun h => vp_in_nI h (by decide)
  generalize hX : mLkX b lw ml ns s = X at hp
  have l60 : ∀ (u n : Nat) (t : Int32 × Int32) (h : IA), n + u = 41 → mQ8 b h → lpM (mLkS b lw ml ns s) u n t = X → E G MX12_look (d + 5) 0 0 60 [.ref 60, .int (nI s), .int y, .int t.1, .int t.2, .int (nI n), .null, .null, .null] [] (h, r, nK) (RI P) := by
    intro u
    induction u with
    | zero =>
      intro n t h hn hx he
      obtain rfl : n = 41 := by omega
      have he : t = X := he
      subst he
      have := hp h hx
      refine V_X12_look_60 ⟨fun _ => ⟨fun e => ?_, fun e => ?_⟩, fun e => absurd (by decide) e⟩
      · rw [if_neg e] at this; exact this
      · rw [if_pos e] at this; exact this
    | succ u ih =>
      intro n t h hn hx he
      have hn40 : n ≤ 40 := by omega
      have he : lpM (mLkS b lw ml ns s) u (n + 1) (mLkS b lw ml ns s n t) = X := he
      -- the worst, and on
      have l186 : ∀ (isIn : Bool), isIn = hasN ml (nI n) → ∀ (v k : Nat) (z : Int32) (h : IA), k + v = 21 → mQ8 b h → h 876 = (fun j => if j < 21 then mComes b lw ml ns s n j else h 876 j) → lpM (fun h w => if w ≤ mComes b lw ml ns s n h then mComes b lw ml ns s n h else w) v k z = mWorst (mComes b lw ml ns s n) →
          E G MX12_look (d + 5) 0 0 186 [.ref 60, .int (nI s), .int y, .int t.1, .int t.2, .int (nI n), .int (if isIn then 1 else 0), .int z, .int (nI k)] [] (h, r, nK) (RI P) := by
        intro isIn hI v
        induction v with
        | zero =>
          intro k z h hk hx _ hz
          obtain rfl : k = 21 := by omega
          have hz : z = mWorst (mComes b lw ml ns s n) := hz
          subst hz
          unfold mLkS at he
          refine V_X12_look_186 ⟨fun _ => ?_, fun e => absurd (by decide) e⟩
          rw [nI_1]
          cases isIn with
          | true =>
            rw [if_pos (Or.inl hI.symm)] at he
            exact ⟨fun _ => ih (n + 1) t h (by omega) hx he, fun e => absurd e (by decide)⟩
          | false =>
            refine ⟨fun e => absurd rfl e, fun _ => ⟨fun e => ?_, fun e => ⟨fun e2 => ?_, fun e2 => ?_⟩⟩⟩
            · rw [if_neg (fun z => z.elim (fun z => by rw [← hI] at z; cases z) (fun z => z.1 e))] at he
              exact ih (n + 1) (nI n, _) h (by omega) hx he
            · rw [if_neg (fun z => z.elim (fun z => by rw [← hI] at z; cases z) (fun z => z.2 e2))] at he
              exact ih (n + 1) (nI n, _) h (by omega) hx he
            · rw [if_pos (Or.inr ⟨e, e2⟩)] at he
              exact ih (n + 1) t h (by omega) hx he
        | succ v jh =>
          intro k z h hk hx hf hz
          refine V_X12_look_186 ⟨fun e => absurd ((nI_leI (a := 21) (by decide) (by omega)).mp e) (by omega), fun _ => ⟨rfl, by decide, 876, r51, rfl, by decide, v21 (by omega), c_mMore ?_⟩⟩
          have hk' : h 876 k = mComes b lw ml ns s n k := by
            rw [hf]
            show (if k < 21 then mComes b lw ml ns s n k else _) = _
            rw [if_pos (by omega)]
          rw [nI_clamp (show k < 2 ^ 31 by omega), hk', nI_1]
          exact jh (k + 1) _ h (by omega) hx hf hz
      have l141 : ∀ (isIn : Bool), isIn = hasN ml (nI n) → ∀ (v how : Nat) (f : Nat → Int32) (h : IA), how + v = 3 → mQ8 b h → (∀ j, j < 21 → h 876 j = f j) → lpM (fun how f => upd f (hN b s n how) (f (hN b s n how) + mOnes (mMates b lw ml ns s (nI how)))) v how f = mComes b lw ml ns s n →
          E G MX12_look (d + 5) 0 0 141 [.ref 60, .int (nI s), .int y, .int t.1, .int t.2, .int (nI n), .int (if isIn then 1 else 0), .int (nI how), .null] [] (h, r, nK) (RI P) := by
        intro isIn hI v
        induction v with
        | zero =>
          intro how f h hh hx hf hz
          obtain rfl : how = 3 := by omega
          have hz : f = mComes b lw ml ns s n := hz
          subst hz
          refine V_X12_look_141 ⟨fun _ => l186 isIn hI 21 0 0 h (by omega) hx ?_ rfl, fun e => absurd (by decide) e⟩
          funext j
          by_cases hj : j < 21
          · rw [if_pos hj]; exact hf j hj
          · rw [if_neg hj]
        | succ v jh =>
          intro how f h hh hx hf hz
          obtain ⟨j, hj, ej⟩ := mHouse_b (a := b) (s := s) (n := n) (how := how) hn40 hH20 eH
          have hz : lpM (fun how f => upd f (hN b s n how) (f (hN b s n how) + mOnes (mMates b lw ml ns s (nI how)))) v (how + 1) (upd f (hN b s n how) (f (hN b s n how) + mOnes (mMates b lw ml ns s (nI how)))) = mComes b lw ml ns s n := hz
          have eN : hN b s n how = j := by unfold hN; rw [ej, nI_clamp (by omega)]
          rw [eN] at hz
          have eH' : mHouse h s (nI n) (nI how) = nI j := by rw [mHouse_cg (hx _ (by omega) (by omega) (by omega))]; exact ej
          have hhow : nI how = 0 ∨ nI how = 1 ∨ nI how = 2 := by
            have : how = 0 ∨ how = 1 ∨ how = 2 := by omega
            rcases this with rfl | rfl | rfl
            · exact Or.inl rfl
            · exact Or.inr (Or.inl rfl)
            · exact Or.inr (Or.inr rfl)
          refine V_X12_look_141 ⟨fun e => absurd ((nI_leI (a := 3) (by decide) (by omega)).mp e) (by omega), fun _ => ⟨rfl, by decide, 876, r51, rfl, by decide, c_mHouse hr (by omega) ?_⟩⟩
          rw [eH']
          refine ⟨rfl, by decide, v21 (by omega), rfl, by decide, c_mMatesOf hr (hqz.q8 hx) (hmz.cg hx) hs hhow (fun h2 m2 => c_mOnes ⟨rfl, by decide, v21 (show j < 21 by omega), fun a14 q14 => ?_⟩)⟩
          rw [nI_clamp (show j < 2 ^ 31 by omega), hf j (by omega), mMates_cg hc hx hs] at q14
          subst q14
          rw [nI_1]
          have hx2 : mQ8 b h2 := fun q c1 c2 c3 => (m2 q c1 c2).trans (hx q c1 c2 c3)
          refine jh (how + 1) _ _ (by omega) (fun q c1 c2 c3 => by rw [u2_off q c3]; exact hx2 q c1 c2 c3) (fun i hi => ?_) hz
          by_cases e : i = j
          · rw [e, u2_eq, upd_eq]
          · rw [u2_ne e, upd_ne e, m2 876 (by decide) (by decide)]; exact hf i hi
      have l117 : ∀ (isIn : Bool), isIn = hasN ml (nI n) → ∀ (v k : Nat) (h : IA), k + v = 21 → mQ8 b h → (∀ j, j < k → h 876 j = 0) → E G MX12_look (d + 5) 0 0 117 [.ref 60, .int (nI s), .int y, .int t.1, .int t.2, .int (nI n), .int (if isIn then 1 else 0), .int (nI k), .null] [] (h, r, nK) (RI P) := by
        intro isIn hI v
        induction v with
        | zero =>
          intro k h hk hx hf
          obtain rfl : k = 21 := by omega
          exact V_X12_look_117 ⟨fun _ => l141 isIn hI 3 0 (fun _ => 0) h (by omega) hx hf rfl, fun e => absurd (by decide) e⟩
        | succ v jh =>
          intro k h hk hx hf
          refine V_X12_look_117 ⟨fun e => absurd ((nI_leI (a := 21) (by decide) (by omega)).mp e) (by omega), fun _ => ⟨rfl, by decide, 876, r51, rfl, by decide, v21 (by omega), fun a2 q2 => ?_⟩⟩
          rw [nI_clamp (show k < 2 ^ 31 by omega)] at q2
          subst q2
          rw [nI_1]
          refine jh (k + 1) _ (by omega) (fun q c1 c2 c3 => by rw [u2_off q c3]; exact hx q c1 c2 c3) (fun j hj => ?_)
          by_cases e : j = k
          · rw [e, u2_eq]
          · rw [u2_ne e]; exact hf j (by omega)
      have l73 : ∀ (v k : Nat) (isIn : Bool) (h : IA), k + v = ml.length → mQ8 b h → (isIn || hasN (ml.drop k) (nI n)) = hasN ml (nI n) → E G MX12_look (d + 5) 0 0 73 [.ref 60, .int (nI s), .int y, .int t.1, .int t.2, .int (nI n), .int (if isIn then 1 else 0), .int (nI k), .null] [] (h, r, nK) (RI P) := by
        intro v
        induction v with
        | zero =>
          intro k isIn h hk hx hI
          rw [List.drop_eq_nil_of_le (by omega)] at hI
          have hI : isIn = hasN ml (nI n) := by rw [← hI]; unfold hasN; simp
          have e38 := (hmz.cg hx).1
          refine V_X12_look_73 ⟨rfl, by decide, fun _ => l117 isIn hI 21 0 h (by omega) hx (fun j hj => absurd hj (by omega)), fun e => absurd ?_ e⟩
          rw [e38]; exact nI_le (by omega) (by have := hmz.2.1; omega)
        | succ v jh =>
          intro k isIn h hk hx hI
          have hkl : k < ml.length := by omega
          have hml := hmz.2.1
          have e38 := (hmz.cg hx).1
          have hrk := (hmz.cg hx).2.2 k _ (List.getElem?_eq_getElem hkl)
          rw [List.drop_eq_getElem_cons hkl] at hI
          generalize ml[k] = z at hI hrk
          have hcons : hasN (z :: ml.drop (k + 1)) (nI n) = (decide (z.1 = nI n) || hasN (ml.drop (k + 1)) (nI n)) := by unfold hasN; rw [List.any_cons]
          rw [hcons] at hI
          refine V_X12_look_73 ⟨rfl, by decide, fun e => absurd (by rw [e38] at e; exact (nI_leI (by omega) (by omega)).mp e) (show ¬ ml.length ≤ k by omega), fun _ => ?_⟩
          rw [nI_1]
          cases isIn with
          | true =>
            refine ⟨fun _ => jh (k + 1) true h (by omega) hx ?_, fun e => absurd e (by decide)⟩
            rw [Bool.true_or] at hI ⊢
            exact hI
          | false =>
            rw [Bool.false_or] at hI
            refine ⟨fun e => absurd rfl e, fun _ => ⟨rfl, by decide, 481, r27, rfl, by decide, vp_in_nI (show k < 8 by omega) (by decide), ?_⟩⟩
            rw [nI_clamp (show k < 2 ^ 31 by omega), z0, hrk.1]
            refine row3 (tyR_post k (by omega)) (by show _ < 878; omega) (vp_in_nI (show 0 < 2 by decide) (by decide)) ⟨fun e => jh (k + 1) false h (by omega) hx ?_, fun e => jh (k + 1) true h (by omega) hx ?_⟩
            · rw [decide_eq_false e, Bool.false_or] at hI
              rw [Bool.false_or]; exact hI
            · rw [decide_eq_true e, Bool.true_or] at hI
              rw [Bool.true_or]; exact hI
      refine V_X12_look_60 ⟨fun e => absurd ((nI_ltI (a := 40) (by decide) (by omega)).mp e) (by omega), fun _ => l73 ml.length 0 false h (by omega) hx (by rw [Bool.false_or]; rfl)⟩
  exact l60 40 1 (-1, -1) b (by omega) (fun _ _ _ _ => rfl) hX
end MLO
