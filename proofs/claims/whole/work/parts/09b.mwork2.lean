/-! The reference: work, the whole method -/
section MWF
variable {G : GE} {d C S : Nat} {r : RA} {N nc ns ng k : Nat} {a : IA} {lw : List Int32} {x : Int32}
theorem RLw.row {a' : IA} (hl : RLw a lw) (h150 : lw.length ≤ 150) (e23 : a' 60 23 = a 60 23) (e : ∀ q, 160 ≤ q → q ≤ 310 → a' q = a q) : RLw a' lw := by
  refine ⟨e23.trans hl.1, fun i v hi => ?_⟩
  have := (List.getElem?_eq_some_iff.mp hi).1
  rw [e _ (by omega) (by omega)]
  exact hl.2 i v hi
theorem mS_f {q : Nat} (h : q ≠ 63 ∧ ¬ (65 ≤ q ∧ q ≤ 75) ∧ ¬ (87 ≤ q ∧ q ≤ 95) ∧ ¬ (105 ≤ q ∧ q ≤ 113) ∧ ¬ (123 ≤ q ∧ q ≤ 131) ∧ ¬ (141 ≤ q ∧ q ≤ 149) ∧ ¬ (320 ≤ q ∧ q ≤ 480) ∧ ¬ (490 ≤ q ∧ q ≤ 498) ∧ ¬ (501 ≤ q ∧ q ≤ 581)) : mS q = false := by
  unfold mS
  simp only [Bool.or_eq_false_iff, decide_eq_false_iff_not]
  omega
theorem mJ_f {j : Nat} (h : ¬ (4 ≤ j ∧ j ≤ 8) ∧ j ≠ 24 ∧ j ≠ 32) : mJ j = false := by
  unfold mJ
  simp only [Bool.or_eq_false_iff, decide_eq_false_iff_not]
  omega
theorem c_mWorkF {P : KI} (hr : Rk r) (h1 : a 60 1 = nI N) (hN : N ≤ 600) (hc : MtC a nc ns ng) (hlw : RLw a lw) (h150 : lw.length ≤ 150) (hd : lw = [] ∨ dep lw 0 = some 1) (hk : a 60 39 = nI k) (hk16 : k ≤ 16) (hw : wfM ns (a 582))
    (hno : ¬ (inT x 0 (nI N) ∧ x ≤ 150) → P 0 (mBd a 1 2) r nK)
    (hfull : (inT x 0 (nI N) ∧ x ≤ 150) → k = 16 → P (-20) (u2 (u2 (u2 a 60 0 0) 60 1 0) 60 3 (-1)) r nK)
    (hgo : ∀ n B, n ≤ N → n ≤ 150 → x = nI n → k < 16 → (∀ i, i < n → a 61 i = B i) →
      (∀ l, pWork B n (nI ns) 200 [] 0 = .inl l → ∀ a2, WkR a a2 k (exX (mSb a ns lw) l 50 0 l.length (a 582, 0, 0, 0)) → P (nI (exX (mSb a ns lw) l 50 0 l.length (a 582, 0, 0, 0)).2.2.1) a2 r nK) ∧
      (∀ c f, pWork B n (nI ns) 200 [] 0 = .inr (c, f) → ∀ a1, mK (mSta a B n) a1 → P (c - 10) (u2 a1 60 3 (nI f)) r nK)) :
    Sp G (d + 22) 0 0 MX12_work [.ref 60, .int x] (a, r, nK) (RI P) := by
  have h8 := hc.2.2.2.1
  have e1 : u2 a 60 0 0 60 1 = nI N := by rw [u2_ne (by decide)]; exact h1
  have hbad : (¬ (inT x 0 (nI N) ∧ x ≤ 150)) → E G MX12_work (d + 22) 0 0 25 [.ref 60, .int x] [.ref 60] (u2 a 60 0 0, r, nK) (RI P) := by
    intro hh
    refine V_X12_work_25 ⟨rfl, by decide, c_mBad (w := 1) (wI := 1) (i := 2) hr (by decide) (by decide) (by decide) (by decide) ⟨fun h => absurd h (by decide), fun _ => hno hh⟩⟩
  refine V_X12_work_0 ⟨rfl, by decide, fun a1 g1 => ⟨rfl, by decide, ?_⟩⟩
  subst g1
  rw [e1]
  refine c_mIn (fun hin => ⟨fun h => absurd h (by decide), fun _ => ⟨fun hx => ⟨rfl, by decide, ?_⟩, fun hx => hbad (fun h => hx h.2)⟩⟩) (fun hin => ⟨fun _ => hbad (fun h => hin h.1), fun h => absurd rfl h⟩)
  have e39 : u2 a 60 0 0 60 39 = nI k := by rw [u2_ne (by decide)]; exact hk
  refine c_mBad0 u2_eq ⟨fun _ => ⟨rfl, by decide, fun hne => ⟨rfl, by decide, ?_⟩, fun he => ⟨rfl, by decide, fun a14 g14 => ⟨rfl, by decide, fun a15 g15 => ?_⟩⟩⟩, fun h => absurd rfl h⟩
  rotate_left
  · subst g14 g15
    rw [e39] at he
    exact hfull ⟨hin, hx⟩ ((nI_eq (a := k) (b := 16) (by omega) (by decide)).mp he)
  have hk16 : k < 16 := by
    rcases Nat.lt_or_ge k 16 with z | z
    · exact z
    · exact absurd (by rw [e39, show k = 16 by omega]; rfl) hne
  obtain ⟨n, hn, hxn⟩ := nI_of2 (M := nI N) (n := N) (nI_toInt (by omega)) hin.1 (i_nlt.mp hin.2)
  subst hxn
  have hn150 : n ≤ 150 := (nI_leI (a := n) (b := 150) (by omega) (by omega)).mp hx
  have hB : MB a (fun i => a 61 i) n := ⟨by omega, fun _ _ => rfl⟩
  obtain ⟨hy, hf⟩ := hgo n (fun i => a 61 i) hn hn150 rfl hk16 (fun _ _ => rfl)
  generalize (fun i => a 61 i) = B at *
  have l1 := skB_le (B := B) (Nat.zero_le n)
  refine Sp.up (d := 2) (by omega) (c_mSta (d := 0) hr hB ⟨rfl, by decide, fun a13 g13 => ?_⟩)
  have hT := mSta_MT hB
  have hv := mSta_v (a := a) (B := B) (n := n)
  have k13 : mK (mSta a B n) a13 := by rw [g13]; exact mK_6 rfl
  have hT13 : MT a13 B n (skB B n 0) := by rw [g13]; exact hT.row (u2_off 61 (by decide)) (u2_ne (by decide)) (u2_ne (by decide)) (u2_ne (by decide))
  have l13 : RSt a13 [] := ⟨by rw [g13, u2_eq]; rfl, fun i v h => by simp at h⟩
  have o13 : a13 60 8 = nI 0 := by rw [g13, u2_ne (by decide)]; exact hv.2.2.2.2.2.2.2
  have s64 : mSta a B n 64 1 = nI ns := by rw [mSta_off (by decide)]; exact hc.2.2.1
  have eS : pWork B n (nI ns) 200 [] (skB B n 0) = pWork B n (nI ns) 200 [] 0 := by
    rw [pWork, pWork, skB_skB (Nat.zero_le n)]
  rw [← eS] at hy hf
  refine l_mWork (D := d + 22) hr hn150 (by omega) (mSta a B n) s64 200 (skB B n 0) a13 [] (by omega) k13 hT13 (skB_skB (Nat.zero_le n)) l13 (by simp) o13 (fun l hl a1 p1 k1 t1 rs1 => ?_) (fun c q hl a1 k1 ms => ?_)
  · have hl0 : pWork B n (nI ns) 200 [] 0 = .inl l := eS.symm.trans hl
    obtain ⟨w50, wf⟩ := pWork_ok hn150 hl0
    have hV := pWork_V (B := B) (n := n) h8 200 0 [] l (fun v h => by simp at h) hl0 (by omega)
    have z39 : a1 60 39 = nI k := by rw [k1.2 39 rfl, mSta_ne (by omega)]; exact hk
    have r33 : r 60 33 = .ref 582 := rf5 hr (by decide) rfl
    have r35 : r 60 35 = .ref 584 := rf5 hr (by decide) rfl
    refine V_X12_work_101 ⟨rfl, by decide, fun _ => ⟨rfl, by decide, fun b1 q1 => ⟨rfl, by decide, 582, r33, rfl, by decide, 584, r35, rfl, by decide, rfl, by decide, ?_⟩⟩, fun h => absurd t1.2.2.2.2 h⟩
    have y39 : b1 60 39 = nI k := by rw [q1, u2_ne (by decide)]; exact z39
    rw [y39, nI_clamp (show k < 2 ^ 31 by omega)]
    refine ⟨vp_in_nI (show k < 16 by omega) (by decide), c_mCopies rfl (tyR_before k hk16) (by decide) (by show _ < 878; omega) (by omega) ⟨rfl, by decide, rfl, by decide, fun b2 q2 => ⟨rfl, by decide, fun b3 q3 => ⟨rfl, by decide, fun b4 q4 => ⟨rfl, by decide, fun b5 q5 => ⟨rfl, by decide, rfl, by decide, ?_⟩⟩⟩⟩⟩⟩
    -- the heap before the steps
    have y39' : va_up b1 (584 + 1 + k) (fun j => if j < 42 then b1 582 j else b1 (584 + 1 + k) j) 60 39 = nI k := by rw [va_up_ne _ _ (by omega)]; exact y39
    rw [y39', nI_1] at q2
    have S : ∀ q, q ≠ 60 → mS q = false → a1 q = a q := fun q c1 c2 => by rw [k1.1 q c1 c2, mSta_off c1]
    have B1 : ∀ q, q ≠ 60 → b5 q = va_up a1 (584 + 1 + k) (fun j => if j < 42 then a1 582 j else a1 (584 + 1 + k) j) q := fun q c1 => by
      rw [q5, q4, q3, q2, u2_off q c1, u2_off q c1, u2_off q c1, u2_off q c1]
      by_cases e : q = 584 + 1 + k
      · rw [e, va_up_self, va_up_self, q1, u2_off 582 (by decide), u2_off _ (by omega)]
      · rw [va_up_ne _ _ e, va_up_ne _ _ e, q1, u2_off q c1]
    have B2 : ∀ q, q ≠ 60 → q ≠ 584 + 1 + k → b5 q = a1 q := fun q c1 c2 => by rw [B1 q c1, va_up_ne _ _ c2]
    have b60 : ∀ j, j ≠ 3 → j ≠ 39 → j ≠ 40 → j ≠ 43 → j ≠ 44 → b5 60 j = a1 60 j := fun j c1 c2 c3 c4 c5 => by
      rw [q5, u2_ne c3, q4, u2_ne c5, q3, u2_ne c4, q2, u2_ne c2, va_up_ne _ _ (by omega), q1, u2_ne c1]
    have b3 : b5 60 3 = -1 := by rw [q5, u2_ne (by decide), q4, u2_ne (by decide), q3, u2_ne (by decide), q2, u2_ne (by decide), va_up_ne _ _ (by omega), q1, u2_eq]
    have b39 : b5 60 39 = nI (k + 1) := by rw [q5, u2_ne (by decide), q4, u2_ne (by decide), q3, u2_ne (by decide), q2, u2_eq]
    have b43 : b5 60 43 = 0 := by rw [q5, u2_ne (by decide), q4, u2_ne (by decide), q3, u2_eq]
    have b44 : b5 60 44 = 0 := by rw [q5, u2_ne (by decide), q4, u2_eq]
    have b40 : b5 60 40 = 0 := by rw [q5, u2_eq]
    have a582 : a1 582 = a 582 := S 582 (by decide) rfl
    have b582 : b5 582 = a 582 := by rw [B2 582 (by decide) (by omega), a582]
    have bB : ∀ j, j < 42 → b5 (584 + 1 + k) j = a 582 j := fun j hj => by
      rw [B1 _ (by omega), va_up_self]
      show (if j < 42 then a1 582 j else _) = _
      rw [if_pos hj, a582]
    clear q1 q2 q3 q4 q5 B1
    have mt : ∀ q, ((77 ≤ q ∧ q ≤ 86) ∨ (97 ≤ q ∧ q ≤ 104) ∨ (115 ≤ q ∧ q ≤ 122) ∨ (133 ≤ q ∧ q ≤ 140) ∨ (160 ≤ q ∧ q ≤ 310) ∨ q = 64) → b5 q = a q := fun q c => by
      rw [B2 q (by omega) (by omega), S q (by omega) (mS_f (by omega))]
    have hc5 : MtC b5 nc ns ng := hc.row (mt 64 (by omega)) (fun s hs => mt _ (by omega))
    have hl5 : RLw b5 lw := hlw.row h150 (by rw [b60 23 (by decide) (by decide) (by decide) (by decide) (by decide), k1.2 23 rfl, mSta_ne (by omega)]) (fun q c1 c2 => mt q (by omega))
    have rs5 : RSt b5 l := rs1.row (b60 32 (by decide) (by decide) (by decide) (by decide) (by decide)) (fun i hi => B2 _ (by omega) (by omega))
    have eX := exX_rel (R := Eq) (stp := mSb b5 ns lw) (stp' := mSb a ns lw) (l := l) (fun v hv x y hxy => by
      subst hxy
      have := mStp_cg (a := a) (h := b5) (lw := lw) (g := x) hc (fun c hc' => mt c (by omega)) (hV v hv)
      unfold mSb
      rw [this]
      exact ⟨rfl, rfl⟩) 50 0 l.length 6 (a 582, 0, 0, 0) (a 582, 0, 0, 0) wf (Nat.le_refl _) (by omega) rfl rfl
    have eX2 : exX (mSb b5 ns lw) l 50 0 l.length (a 582, 0, 0, 0) = exX (mSb a ns lw) l 50 0 l.length (a 582, 0, 0, 0) := Prod.ext eX.1 eX.2
    rw [rs5.1]
    refine V_X12_goes_0 (l_goes hr hc5 hl5 h150 hd (by omega) rs5 hV 50 0 l.length 6 (a 582, 0, 0, 0) b5 _ (d + 21) 0 0 wf (Nat.le_refl _) ⟨fun _ _ _ _ _ => rfl, fun _ _ _ _ => rfl, b582, b43, b44, b40⟩ ⟨hw, by show 0 ≤ 200; omega⟩ (by omega) (fun a2 g2 => ⟨rfl, by decide, ?_⟩))
    rw [eX2] at g2
    have hy := hy l hl a2
    generalize exX (mSb a ns lw) l 50 0 l.length (a 582, 0, 0, 0) = X at *
    rw [g2.2.2.2.2.1]
    refine hy ⟨fun q c1 c2 c3 c4 c5 c6 => by rw [g2.1 q c1 c2 c3 c4, B2 q c1 c6, S q c1 c5], fun j c1 c2 c3 c4 c5 c6 => ?_, ?_, ?_, ?_, ?_, g2.2.2.2.2.2, g2.2.2.1, fun j hj => ?_⟩
    · rw [g2.2.1 j c4 c5 c6, b60 j (by omega) c3 c4 c5 c6, k1.2 j c1, mSta_ne]
      unfold mJ at c1
      simp only [Bool.or_eq_false_iff, decide_eq_false_iff_not] at c1
      omega
    · rw [g2.2.1 0 (by decide) (by decide) (by decide), b60 0 (by decide) (by decide) (by decide) (by decide) (by decide), k1.2 0 rfl]; exact hv.1
    · rw [g2.2.1 1 (by decide) (by decide) (by decide), b60 1 (by decide) (by decide) (by decide) (by decide) (by decide), k1.2 1 rfl]; exact hv.2.1
    · rw [g2.2.1 3 (by decide) (by decide) (by decide)]; exact b3
    · rw [g2.2.1 39 (by decide) (by decide) (by decide)]; exact b39
    · rw [g2.1 _ (by omega) (by omega) (by omega) (by omega)]; exact bB j hj
  · have hz := ms.2.2.2 c q rfl
    refine V_X12_work_101 ⟨rfl, by decide, fun h => absurd h ms.n5, fun _ => ⟨rfl, by decide, c_mEnds ?_⟩⟩
    rw [hz.1, hz.2.2.1]
    exact hf c q hl a1 k1
end MWF
