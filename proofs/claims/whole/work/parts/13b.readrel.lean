/-! Pure: both read the same town, clause by clause -/
def RdR (T : Nat) (b b' : IA) (nc ns ng : Nat) : Prop :=
  (b T 0 = nI nc ∧ b T 1 = nI ns ∧ b T 2 = nI ng ∧ b' 63 0 = nI nc ∧ b' 63 1 = nI ns ∧ b' 63 2 = nI ng ∧ nc ≤ 10 ∧ ns ≤ 8 ∧ ng ≤ 8) ∧
  (∀ k, k < nc → ∃ x y, x ≤ 60 ∧ y ≤ 60 ∧ b (T + 1) k = nI x ∧ b (T + 2) k = nI y ∧ b' (65 + 1 + k) 0 = nI x ∧ b' (65 + 1 + k) 1 = nI y) ∧
  (∀ s, s < ns → ∃ i j h t, i < nc ∧ j < nc ∧ i ≠ j ∧ 1 ≤ h ∧ h ≤ 20 ∧ b (T + 3) s = nI i ∧ b (T + 4) s = nI j ∧ b (T + 5) s = nI h ∧ b (T + 6) s = nI t ∧ b' (87 + 1 + s) 0 = nI i ∧ b' (87 + 1 + s) 1 = nI j ∧ b' (87 + 1 + s) 2 = nI h ∧ b' (87 + 1 + s) 3 = nI t ∧ b (T + 7) s = awy (b (T + 1) i) (b (T + 1) j) + awy (b (T + 2) i) (b (T + 2) j)) ∧
  (∀ g, g < ng → b (T + 10) g = b' (141 + 1 + g) 0 ∧ b (T + 11) g = b' (141 + 1 + g) 1) ∧
  (∀ s o, s < 8 → o < 8 → b (T + 8) (s * 8 + o) = b' (105 + 1 + s) o) ∧
  (∀ s o, s < 8 → o < 8 → (bB (b (T + 9) s) o = true ↔ b' (123 + 1 + s) o = 1)) ∧
  (b T 15 = b' 63 3 ∧ b T 16 = b' 63 4 ∧ b T 17 = b' 63 5 ∧ b T 18 = b' 63 6 ∧ b T 3 = b' 63 7)
section RDL
variable {b b' : IA} {T nc ns ng s t k m i j o h : Nat} {x y v w : Int32}
theorem u2_no {a : IA} {q j q' j' : Nat} {x : Int32} (h : ¬ (q' = q ∧ j' = j)) : u2 a q j x q' j' = a q' j' := by rw [u2_at0, if_neg h]
theorem u2_is {a : IA} {q j q' j' : Nat} {x : Int32} (h1 : q' = q) (h2 : j' = j) : u2 a q j x q' j' = x := by rw [u2_at0, if_pos ⟨h1, h2⟩]
theorem put_u {a : IA} {q n k : Nat} {x : Int32} (hn : n < 2 ^ 31) (hk : k < n) : ctPut a q n (nI k) x = u2 a q k x := by
  unfold ctPut u2
  rw [rPut_nI _ hn hk]
theorem corner_u (h0 : b T 0 = nI nc) (hnc : nc < 10) : ctCorner b T x y = u2 (u2 (u2 b (T + 1) nc x) (T + 2) nc y) T 0 (nI (nc + 1)) := by
  unfold ctCorner
  rw [h0, put_u (by decide) hnc, put_u (by decide) hnc, nI_1]
theorem good_u (h0 : b T 2 = nI ng) (hng : ng < 8) : ctGood b T x y = u2 (u2 (u2 b (T + 10) ng x) (T + 11) ng y) T 2 (nI (ng + 1)) := by
  unfold ctGood
  rw [h0, put_u (by decide) hng, put_u (by decide) hng, nI_1]
theorem street_u {H t : Int32} (h0 : b T 1 = nI ns) (hns : ns < 8) : ctStreet b T x y H t = u2 (u2 (u2 (u2 (u2 (u2 b (T + 3) ns x) (T + 4) ns y) (T + 5) ns H) (T + 6) ns t) (T + 7) ns (ctLen b T x y)) T 1 (nI (ns + 1)) := by
  unfold ctStreet
  rw [h0, put_u (by decide) hns, put_u (by decide) hns, put_u (by decide) hns, put_u (by decide) hns, put_u (by decide) hns, nI_1]
theorem likes_u (hs : s < 8) (ho : o < 8) : ctLikes b T (nI s) (nI o) v = u2 b (T + 8) (s * 8 + o) v := by
  unfold ctLikes
  rw [show nI s * 8 + nI o = nI (s * 8 + o) by rw [show (8 : Int32) = nI 8 from rfl, nI_mul, nI_add], put_u (by decide) (by omega)]
theorem forbid_u (hs : s < 8) (ho : o < 8) (hso : s ≠ o) : ctForbid b T (nI s) (nI o) = u2 (u2 b (T + 9) s (b (T + 9) s ||| bt (nI o))) (T + 9) o (b (T + 9) o ||| bt (nI s)) := by
  unfold ctForbid
  rw [put_u (by decide) hs, put_u (by decide) ho, rAt_nI _ (by decide) hs, rAt_nI _ (by decide) ho, u2_no (by omega)]
  rfl
theorem cBt {i k x' y' u' v' : Int32} {M x : Nat} : cB i M x (k, x', y', u', v') = if k = i then x + 1 else x := rfl
theorem ctDo_t {k x y u v : Int32} : ctDo b T (k, x, y, u, v) = if k = 1 then ctCorner b T x y else if k = 2 then ctStreet b T x y u v else if k = 3 then ctLikes b T x y u else if k = 4 then ctForbid b T x y else if k = 5 then ctGood b T x y else if k = 6 then ctLane b T x y u v else u2 b T 3 x := rfl
theorem mDo_t {k x y u v : Int32} : mDo b' (k, x, y, u, v) = if k = 1 then u2 (u2 (u2 b' (65 + 1 + (b' 63 0).toNatClampNeg) 0 x) (65 + 1 + (b' 63 0).toNatClampNeg) 1 y) 63 0 (b' 63 0 + 1)
  else if k = 2 then u2 (u2 (u2 (u2 (u2 b' (87 + 1 + (b' 63 1).toNatClampNeg) 0 x) (87 + 1 + (b' 63 1).toNatClampNeg) 1 y) (87 + 1 + (b' 63 1).toNatClampNeg) 2 u) (87 + 1 + (b' 63 1).toNatClampNeg) 3 v) 63 1 (b' 63 1 + 1)
  else if k = 3 then u2 b' (105 + 1 + x.toNatClampNeg) y.toNatClampNeg u
  else if k = 4 then u2 (u2 b' (123 + 1 + x.toNatClampNeg) y.toNatClampNeg 1) (123 + 1 + y.toNatClampNeg) x.toNatClampNeg 1
  else if k = 5 then u2 (u2 (u2 b' (141 + 1 + (b' 63 2).toNatClampNeg) 0 x) (141 + 1 + (b' 63 2).toNatClampNeg) 1 y) 63 2 (b' 63 2 + 1)
  else if k = 6 then u2 (u2 (u2 (u2 b' 63 3 x) 63 4 y) 63 5 u) 63 6 v
  else u2 b' 63 7 x := rfl
theorem len_awy {i j : Nat} {xi xj yi yj : Nat} (hi : i < 10) (hj : j < 10) (a1 : xi ≤ 60) (a2 : xj ≤ 60) (a3 : yi ≤ 60) (a4 : yj ≤ 60) (e1 : b (T + 1) i = nI xi) (e2 : b (T + 1) j = nI xj) (e3 : b (T + 2) i = nI yi) (e4 : b (T + 2) j = nI yj) : ctLen b T (nI i) (nI j) = awy (b (T + 1) i) (b (T + 1) j) + awy (b (T + 2) i) (b (T + 2) j) := by
  unfold ctLen
  rw [rAt_nI _ (by decide) hi, rAt_nI _ (by decide) hj, rAt_nI _ (by decide) hi, rAt_nI _ (by decide) hj, e1, e2, e3, e4, iAbs_awy (by omega) (by omega), iAbs_awy (by omega) (by omega)]
set_option maxHeartbeats 4000000 in
theorem RdR.step {c : Cl} (hT : isCity T) (hc : ClOK nc ns ng c) (hR : RdR T b b' nc ns ng) : RdR T (ctDo b T c) (mDo b' c) (cB 1 10 nc c) (cB 2 8 ns c) (cB 5 8 ng c) := by
  obtain ⟨⟨h0, h1, h2, g0, g1, g2, l0, l1, l2⟩, hC, hS, hG, hL, hN, m3, m4, m5, m6, m7⟩ := hR
  have T15 : T ≤ 15 := by rcases hT with rfl | rfl <;> omega
  have n1 : ∀ {k : Nat}, k < 100 → (nI k).toNatClampNeg = k := fun h => nI_clamp (by omega)
  rcases hc with ⟨x, y, lx, ly, hn, rfl⟩ | ⟨i, j, h, t, li, lj, ne, lh1, lh, lt, hn, rfl⟩ | ⟨s, o, v, ls, lo, ne, lv, rfl⟩ | ⟨s, o, ls, lo, ne, rfl⟩ | ⟨v, w, lv, lw, hn, rfl⟩ | ⟨x, y, u, v, lx, ly, lu, lv, rfl⟩ | ⟨x, lx, rfl⟩
  · rw [cBt, cBt, cBt, if_pos rfl, if_neg (by decide), if_neg (by decide)]
    have e1 : ctDo b T (1, nI x, nI y, 0, 0) = u2 (u2 (u2 b (T + 1) nc (nI x)) (T + 2) nc (nI y)) T 0 (nI (nc + 1)) := by
      rw [ctDo_t, if_pos rfl]
      exact corner_u h0 hn
    have e2 : mDo b' (1, nI x, nI y, 0, 0) = u2 (u2 (u2 b' (65 + 1 + nc) 0 (nI x)) (65 + 1 + nc) 1 (nI y)) 63 0 (nI (nc + 1)) := by
      rw [mDo_t, if_pos rfl, g0, n1 (by omega), nI_1]
    rw [e1, e2]
    refine ⟨⟨?_, ?_, ?_, ?_, ?_, ?_, by omega, l1, l2⟩, fun k hk => ?_, fun s hs => ?_, fun g hg => ?_, fun s o hs ho => ?_, fun s o hs ho => ?_, ?_, ?_, ?_, ?_, ?_⟩
    · exact u2_is rfl rfl
    · simp (disch := omega) only [u2_no, h1]
    · simp (disch := omega) only [u2_no, h2]
    · exact u2_is rfl rfl
    · simp (disch := omega) only [u2_no, g1]
    · simp (disch := omega) only [u2_no, g2]
    · by_cases e : k = nc
      · subst e
        exact ⟨x, y, lx, ly, by simp (disch := omega) only [u2_no, u2_is], by simp (disch := omega) only [u2_no, u2_is], by simp (disch := omega) only [u2_no, u2_is], by simp (disch := omega) only [u2_no, u2_is]⟩
      · simp (disch := omega) only [u2_no]
        exact hC k (by omega)
    · obtain ⟨i, j, h, t, a1, a2, a3⟩ := hS s hs
      refine ⟨i, j, h, t, by omega, by omega, ?_⟩
      simp (disch := omega) only [u2_no]
      exact a3
    · simp (disch := omega) only [u2_no]
      exact hG g hg
    · simp (disch := omega) only [u2_no]
      exact hL s o hs ho
    · simp (disch := omega) only [u2_no]
      exact hN s o hs ho
    · simp (disch := omega) only [u2_no]; exact m3
    · simp (disch := omega) only [u2_no]; exact m4
    · simp (disch := omega) only [u2_no]; exact m5
    · simp (disch := omega) only [u2_no]; exact m6
    · simp (disch := omega) only [u2_no]; exact m7
  · rw [cBt, cBt, cBt, if_neg (by decide), if_pos rfl, if_neg (by decide)]
    obtain ⟨xi, yi, b1, b2, b3, b4, _, _⟩ := hC i li
    obtain ⟨xj, yj, d1, d2, d3, d4, _, _⟩ := hC j lj
    have el := len_awy (T := T) (b := b) (i := i) (j := j) (by omega) (by omega) b1 d1 b2 d2 b3 d3 b4 d4
    have e1 : ctDo b T (2, nI i, nI j, nI h, nI t) = u2 (u2 (u2 (u2 (u2 (u2 b (T + 3) ns (nI i)) (T + 4) ns (nI j)) (T + 5) ns (nI h)) (T + 6) ns (nI t)) (T + 7) ns (awy (b (T + 1) i) (b (T + 1) j) + awy (b (T + 2) i) (b (T + 2) j))) T 1 (nI (ns + 1)) := by
      rw [ctDo_t, if_neg (by decide), if_pos rfl, ← el]
      exact street_u h1 hn
    have e2 : mDo b' (2, nI i, nI j, nI h, nI t) = u2 (u2 (u2 (u2 (u2 b' (87 + 1 + ns) 0 (nI i)) (87 + 1 + ns) 1 (nI j)) (87 + 1 + ns) 2 (nI h)) (87 + 1 + ns) 3 (nI t)) 63 1 (nI (ns + 1)) := by
      rw [mDo_t, if_neg (by decide), if_pos rfl, g1, n1 (by omega), nI_1]
    rw [e1, e2]
    refine ⟨⟨?_, ?_, ?_, ?_, ?_, ?_, l0, by omega, l2⟩, fun k hk => ?_, fun s hs => ?_, fun g hg => ?_, fun s o hs ho => ?_, fun s o hs ho => ?_, ?_, ?_, ?_, ?_, ?_⟩
    · simp (disch := omega) only [u2_no, h0]
    · exact u2_is rfl rfl
    · simp (disch := omega) only [u2_no, h2]
    · simp (disch := omega) only [u2_no, g0]
    · exact u2_is rfl rfl
    · simp (disch := omega) only [u2_no, g2]
    · simp (disch := omega) only [u2_no]
      exact hC k hk
    · by_cases e : s = ns
      · subst e
        exact ⟨i, j, h, t, li, lj, ne, lh1, lh, by simp (disch := omega) only [u2_no, u2_is], by simp (disch := omega) only [u2_no, u2_is], by simp (disch := omega) only [u2_no, u2_is], by simp (disch := omega) only [u2_no, u2_is], by simp (disch := omega) only [u2_no, u2_is], by simp (disch := omega) only [u2_no, u2_is], by simp (disch := omega) only [u2_no, u2_is], by simp (disch := omega) only [u2_no, u2_is], by simp (disch := omega) only [u2_no, u2_is]⟩
      · simp (disch := omega) only [u2_no]
        exact hS s (by omega)
    · simp (disch := omega) only [u2_no]
      exact hG g hg
    · simp (disch := omega) only [u2_no]
      exact hL s o hs ho
    · simp (disch := omega) only [u2_no]
      exact hN s o hs ho
    · simp (disch := omega) only [u2_no]; exact m3
    · simp (disch := omega) only [u2_no]; exact m4
    · simp (disch := omega) only [u2_no]; exact m5
    · simp (disch := omega) only [u2_no]; exact m6
    · simp (disch := omega) only [u2_no]; exact m7
  · rw [cBt, cBt, cBt, if_neg (by decide), if_neg (by decide), if_neg (by decide)]
    have e1 : ctDo b T (3, nI s, nI o, nI v, 0) = u2 b (T + 8) (s * 8 + o) (nI v) := by
      rw [ctDo_t, if_neg (by decide), if_neg (by decide), if_pos rfl]
      exact likes_u (by omega) (by omega)
    have e2 : mDo b' (3, nI s, nI o, nI v, 0) = u2 b' (105 + 1 + s) o (nI v) := by
      rw [mDo_t, if_neg (by decide), if_neg (by decide), if_pos rfl, n1 (by omega), n1 (by omega)]
    rw [e1, e2]
    refine ⟨⟨?_, ?_, ?_, ?_, ?_, ?_, l0, l1, l2⟩, fun k hk => ?_, fun s' hs => ?_, fun g hg => ?_, fun s' o' hs ho => ?_, fun s' o' hs ho => ?_, ?_, ?_, ?_, ?_, ?_⟩
    · simp (disch := omega) only [u2_no, h0]
    · simp (disch := omega) only [u2_no, h1]
    · simp (disch := omega) only [u2_no, h2]
    · simp (disch := omega) only [u2_no, g0]
    · simp (disch := omega) only [u2_no, g1]
    · simp (disch := omega) only [u2_no, g2]
    · simp (disch := omega) only [u2_no]
      exact hC k hk
    · simp (disch := omega) only [u2_no]
      exact hS s' hs
    · simp (disch := omega) only [u2_no]
      exact hG g hg
    · by_cases e : s' = s ∧ o' = o
      · obtain ⟨rfl, rfl⟩ := e
        rw [u2_is rfl rfl, u2_is rfl rfl]
      · rw [u2_no (by omega), u2_no (by omega)]
        exact hL s' o' hs ho
    · simp (disch := omega) only [u2_no]
      exact hN s' o' hs ho
    · simp (disch := omega) only [u2_no]; exact m3
    · simp (disch := omega) only [u2_no]; exact m4
    · simp (disch := omega) only [u2_no]; exact m5
    · simp (disch := omega) only [u2_no]; exact m6
    · simp (disch := omega) only [u2_no]; exact m7
  · rw [cBt, cBt, cBt, if_neg (by decide), if_neg (by decide), if_neg (by decide)]
    have e1 : ctDo b T (4, nI s, nI o, 0, 0) = u2 (u2 b (T + 9) s (b (T + 9) s ||| bt (nI o))) (T + 9) o (b (T + 9) o ||| bt (nI s)) := by
      rw [ctDo_t, if_neg (by decide), if_neg (by decide), if_neg (by decide), if_pos rfl]
      exact forbid_u (by omega) (by omega) ne
    have e2 : mDo b' (4, nI s, nI o, 0, 0) = u2 (u2 b' (123 + 1 + s) o 1) (123 + 1 + o) s 1 := by
      rw [mDo_t, if_neg (by decide), if_neg (by decide), if_neg (by decide), if_pos rfl, n1 (by omega), n1 (by omega)]
    rw [e1, e2]
    refine ⟨⟨?_, ?_, ?_, ?_, ?_, ?_, l0, l1, l2⟩, fun k hk => ?_, fun s' hs => ?_, fun g hg => ?_, fun s' o' hs ho => ?_, fun s' o' hs ho => ?_, ?_, ?_, ?_, ?_, ?_⟩
    · simp (disch := omega) only [u2_no, h0]
    · simp (disch := omega) only [u2_no, h1]
    · simp (disch := omega) only [u2_no, h2]
    · simp (disch := omega) only [u2_no, g0]
    · simp (disch := omega) only [u2_no, g1]
    · simp (disch := omega) only [u2_no, g2]
    · simp (disch := omega) only [u2_no]
      exact hC k hk
    · simp (disch := omega) only [u2_no]
      exact hS s' hs
    · simp (disch := omega) only [u2_no]
      exact hG g hg
    · simp (disch := omega) only [u2_no]
      exact hL s' o' hs ho
    · have old := hN s' o' hs ho
      by_cases c1 : s' = o
      · rw [c1] at old ⊢
        rw [u2_is rfl rfl, bB_or, bB_bt s (by omega) o' (by omega)]
        by_cases e : o' = s
        · rw [decide_eq_true e, Bool.or_true, u2_is rfl e]
          exact ⟨fun _ => rfl, fun _ => rfl⟩
        · rw [decide_eq_false e, Bool.or_false, u2_no (by omega), u2_no (by omega)]
          exact old
      · rw [u2_no (by omega)]
        by_cases c2 : s' = s
        · rw [c2] at old ⊢
          rw [u2_is rfl rfl, bB_or, bB_bt o (by omega) o' (by omega), u2_no (show ¬ (123 + 1 + s = 123 + 1 + o ∧ o' = s) by omega)]
          by_cases e : o' = o
          · rw [decide_eq_true e, Bool.or_true, u2_is rfl e]
            exact ⟨fun _ => rfl, fun _ => rfl⟩
          · rw [decide_eq_false e, Bool.or_false, u2_no (by omega)]
            exact old
        · rw [u2_no (by omega), u2_no (by omega), u2_no (by omega)]
          exact old
    · simp (disch := omega) only [u2_no]; exact m3
    · simp (disch := omega) only [u2_no]; exact m4
    · simp (disch := omega) only [u2_no]; exact m5
    · simp (disch := omega) only [u2_no]; exact m6
    · simp (disch := omega) only [u2_no]; exact m7
  · rw [cBt, cBt, cBt, if_neg (by decide), if_neg (by decide), if_pos rfl]
    have e1 : ctDo b T (5, nI v, nI w, 0, 0) = u2 (u2 (u2 b (T + 10) ng (nI v)) (T + 11) ng (nI w)) T 2 (nI (ng + 1)) := by
      rw [ctDo_t, if_neg (by decide), if_neg (by decide), if_neg (by decide), if_neg (by decide), if_pos rfl]
      exact good_u h2 hn
    have e2 : mDo b' (5, nI v, nI w, 0, 0) = u2 (u2 (u2 b' (141 + 1 + ng) 0 (nI v)) (141 + 1 + ng) 1 (nI w)) 63 2 (nI (ng + 1)) := by
      rw [mDo_t, if_neg (by decide), if_neg (by decide), if_neg (by decide), if_neg (by decide), if_pos rfl, g2, n1 (by omega), nI_1]
    rw [e1, e2]
    refine ⟨⟨?_, ?_, ?_, ?_, ?_, ?_, l0, l1, by omega⟩, fun k hk => ?_, fun s hs => ?_, fun g hg => ?_, fun s o hs ho => ?_, fun s o hs ho => ?_, ?_, ?_, ?_, ?_, ?_⟩
    · simp (disch := omega) only [u2_no, h0]
    · simp (disch := omega) only [u2_no, h1]
    · exact u2_is rfl rfl
    · simp (disch := omega) only [u2_no, g0]
    · simp (disch := omega) only [u2_no, g1]
    · exact u2_is rfl rfl
    · simp (disch := omega) only [u2_no]
      exact hC k hk
    · simp (disch := omega) only [u2_no]
      exact hS s hs
    · by_cases e : g = ng
      · subst e
        exact ⟨by simp (disch := omega) only [u2_no, u2_is], by simp (disch := omega) only [u2_no, u2_is]⟩
      · simp (disch := omega) only [u2_no]
        exact hG g (by omega)
    · simp (disch := omega) only [u2_no]
      exact hL s o hs ho
    · simp (disch := omega) only [u2_no]
      exact hN s o hs ho
    · simp (disch := omega) only [u2_no]; exact m3
    · simp (disch := omega) only [u2_no]; exact m4
    · simp (disch := omega) only [u2_no]; exact m5
    · simp (disch := omega) only [u2_no]; exact m6
    · simp (disch := omega) only [u2_no]; exact m7
  · rw [cBt, cBt, cBt, if_neg (by decide), if_neg (by decide), if_neg (by decide)]
    have e1 : ctDo b T (6, nI x, nI y, nI u, nI v) = u2 (u2 (u2 (u2 b T 15 (nI x)) T 16 (nI y)) T 17 (nI u)) T 18 (nI v) := by
      rw [ctDo_t, if_neg (by decide), if_neg (by decide), if_neg (by decide), if_neg (by decide), if_neg (by decide), if_pos rfl]
      rfl
    have e2 : mDo b' (6, nI x, nI y, nI u, nI v) = u2 (u2 (u2 (u2 b' 63 3 (nI x)) 63 4 (nI y)) 63 5 (nI u)) 63 6 (nI v) := by
      rw [mDo_t, if_neg (by decide), if_neg (by decide), if_neg (by decide), if_neg (by decide), if_neg (by decide), if_pos rfl]
    rw [e1, e2]
    refine ⟨⟨?_, ?_, ?_, ?_, ?_, ?_, l0, l1, l2⟩, fun k hk => ?_, fun s hs => ?_, fun g hg => ?_, fun s o hs ho => ?_, fun s o hs ho => ?_, ?_, ?_, ?_, ?_, ?_⟩
    · simp (disch := omega) only [u2_no, h0]
    · simp (disch := omega) only [u2_no, h1]
    · simp (disch := omega) only [u2_no, h2]
    · simp (disch := omega) only [u2_no, g0]
    · simp (disch := omega) only [u2_no, g1]
    · simp (disch := omega) only [u2_no, g2]
    · simp (disch := omega) only [u2_no]
      exact hC k hk
    · simp (disch := omega) only [u2_no]
      exact hS s hs
    · simp (disch := omega) only [u2_no]
      exact hG g hg
    · simp (disch := omega) only [u2_no]
      exact hL s o hs ho
    · simp (disch := omega) only [u2_no]
      exact hN s o hs ho
    · simp (disch := omega) only [u2_no, u2_is]
    · simp (disch := omega) only [u2_no, u2_is]
    · simp (disch := omega) only [u2_no, u2_is]
    · simp (disch := omega) only [u2_no, u2_is]
    · simp (disch := omega) only [u2_no]; exact m7
  · rw [cBt, cBt, cBt, if_neg (by decide), if_neg (by decide), if_neg (by decide)]
    have e1 : ctDo b T (7, nI x, 0, 0, 0) = u2 b T 3 (nI x) := by
      rw [ctDo_t, if_neg (by decide), if_neg (by decide), if_neg (by decide), if_neg (by decide), if_neg (by decide), if_neg (by decide)]
    have e2 : mDo b' (7, nI x, 0, 0, 0) = u2 b' 63 7 (nI x) := by
      rw [mDo_t, if_neg (by decide), if_neg (by decide), if_neg (by decide), if_neg (by decide), if_neg (by decide), if_neg (by decide)]
    rw [e1, e2]
    refine ⟨⟨?_, ?_, ?_, ?_, ?_, ?_, l0, l1, l2⟩, fun k hk => ?_, fun s hs => ?_, fun g hg => ?_, fun s o hs ho => ?_, fun s o hs ho => ?_, ?_, ?_, ?_, ?_, ?_⟩
    · simp (disch := omega) only [u2_no, h0]
    · simp (disch := omega) only [u2_no, h1]
    · simp (disch := omega) only [u2_no, h2]
    · simp (disch := omega) only [u2_no, g0]
    · simp (disch := omega) only [u2_no, g1]
    · simp (disch := omega) only [u2_no, g2]
    · simp (disch := omega) only [u2_no]
      exact hC k hk
    · simp (disch := omega) only [u2_no]
      exact hS s hs
    · simp (disch := omega) only [u2_no]
      exact hG g hg
    · simp (disch := omega) only [u2_no]
      exact hL s o hs ho
    · simp (disch := omega) only [u2_no]
      exact hN s o hs ho
    · simp (disch := omega) only [u2_no]; exact m3
    · simp (disch := omega) only [u2_no]; exact m4
    · simp (disch := omega) only [u2_no]; exact m5
    · simp (disch := omega) only [u2_no]; exact m6
    · exact (u2_is rfl rfl).trans (u2_is rfl rfl).symm
theorem RdR.all (hT : isCity T) : ∀ (l : List Cl) (b b' : IA) (nc ns ng : Nat), ClsOK l nc ns ng → RdR T b b' nc ns ng → ∃ nc' ns' ng', RdR T (ctAll T l b) (mAll l b') nc' ns' ng'
  | [], b, b', nc, ns, ng, _, h => ⟨nc, ns, ng, h⟩
  | c :: l, b, b', nc, ns, ng, hl, h => RdR.all hT l _ _ _ _ _ hl.2 (RdR.step hT hl.1 h)
end RDL
