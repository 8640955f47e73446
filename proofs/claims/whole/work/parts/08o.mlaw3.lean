/-! The reference: one, law -/
section ML3
variable {G : GE} {d C S : Nat} {r : RA} {B : Nat → Int32} {n p o : Nat} {a : IA} {c : Int32}
theorem c_mSignT {P : KN} (hc : ¬ c = -1) (hr : Rk r) (hT : MT a B n p) (hy : ∀ e, pSign B n c p = .inl e → p < e → e ≤ n → P (mAt a e) r nK) (hf : ∀ k f, pSign B n c p = .inr (k, f) → ∀ a', mK a a' → MS a' B n (.inr (k, f)) → P a' r nK) :
    Sp G (d + 2) 0 0 MX12_sign [.ref 60, .int c] (a, r, nK) (RN P) := by
  refine u_sign (o := .inl p) hc hr hT.ms (fun x hM => ?_)
  have e0 : sB (.inl p : Po) (pSign B n c) = pSign B n c p := rfl
  rw [e0] at hM ⊢
  cases hs : pSign B n c p with
  | inl e =>
    have := pSign_e hT.2.2.2.1 hc hs
    exact hy e hs this.1 this.2
  | inr z =>
    rw [hs] at hM
    exact hf z.1 z.2 hs _ mK_st hM
theorem c_mNumT {P : KI} {lo hi : Int32} (hr : Rk r) (hT : MT a B n p) (hy : ∀ v e, pNum B n lo hi p = .inl (v, e) → p < e → e ≤ n → P v (mAt a e) r nK) (hf : ∀ k f, pNum B n lo hi p = .inr (k, f) → ∀ v a', mK a a' → MS a' B n (.inr (k, f)) → P v a' r nK) :
    Sp G (d + 2) 0 0 MX12_numberHere [.ref 60, .int lo, .int hi] (a, r, nK) (RI P) := by
  refine u_num (o := .inl p) hr hT.ms (fun v x hv hM => ?_)
  have e0 : sB (.inl p : Po) (pNum B n lo hi) = pNum B n lo hi p := rfl
  rw [e0] at hM hv ⊢
  cases hs : pNum B n lo hi p with
  | inl z =>
    have := pNum_e hT.2.2.2.1 hs
    rw [hv z.1 z.2 hs]
    exact hy z.1 z.2 hs this.1 this.2.1
  | inr z =>
    rw [hs] at hM
    exact hf z.1 z.2 hs v _ mK_st hM
theorem lwW_16 (h : isWp B n p 16 = true) : lwWord B (skB B n p) (ltE B n (skB B n p)) = -5 := by
  have e : ∀ i, wOK i = true → ¬ cw 16 = cw i → isW B (skB B n p) (ltE B n (skB B n p)) i = false := fun i hi hc => by
    cases g : isW B (skB B n p) (ltE B n (skB B n p)) i with
    | false => rfl
    | true => exact absurd (isWp_code (i := 16) (j := i) (by decide) hi h g) hc
  have h' : isW B (skB B n p) (ltE B n (skB B n p)) 16 = true := h
  unfold lwWord
  simp only [e 8 (by decide) (by decide), e 9 (by decide) (by decide), e 10 (by decide) (by decide), e 3 (by decide) (by decide), e 11 (by decide) (by decide), e 12 (by decide) (by decide), e 13 (by decide) (by decide), e 14 (by decide) (by decide), e 15 (by decide) (by decide), h', Bool.false_eq_true, if_true, if_false]
theorem lwW_17 (h : isWp B n p 17 = true) : lwWord B (skB B n p) (ltE B n (skB B n p)) = -6 := by
  have e : ∀ i, wOK i = true → ¬ cw 17 = cw i → isW B (skB B n p) (ltE B n (skB B n p)) i = false := fun i hi hc => by
    cases g : isW B (skB B n p) (ltE B n (skB B n p)) i with
    | false => rfl
    | true => exact absurd (isWp_code (i := 17) (j := i) (by decide) hi h g) hc
  have h' : isW B (skB B n p) (ltE B n (skB B n p)) 17 = true := h
  unfold lwWord
  simp only [e 8 (by decide) (by decide), e 9 (by decide) (by decide), e 10 (by decide) (by decide), e 3 (by decide) (by decide), e 11 (by decide) (by decide), e 12 (by decide) (by decide), e 13 (by decide) (by decide), e 14 (by decide) (by decide), e 15 (by decide) (by decide), e 16 (by decide) (by decide), h', Bool.false_eq_true, if_true, if_false]
theorem lt_notD (h : skB B n p < ltE B n (skB B n p)) (hp : p ≤ n) : isD (bAt B n (skB B n p)) = false ∧ ¬ bAt B n (skB B n p) = 40 := by
  have l1 := skB_le (B := B) hp
  have l2 := ltE_le (B := B) l1.2
  have hl := isL_iff.mp (run_in (p := fun j => isL (B j)) (Nat.le_refl _) h)
  have e : bAt B n (skB B n p) = B (skB B n p) := if_pos (by omega)
  rw [e]
  refine ⟨?_, fun z => by rw [z] at hl; exact absurd hl.1 (by decide)⟩
  unfold isD
  rw [Bool.and_eq_false_iff]
  right
  exact decide_eq_false (fun z => by
    have := Int32.le_iff_toInt_le.mp z
    have h57 : (57 : Int32).toInt = 57 := rfl
    omega)
theorem notL_e (hp : p ≤ n) (h : isD (bAt B n (skB B n p)) = true ∨ bAt B n (skB B n p) = 40) : ltE B n (skB B n p) = skB B n p := by
  have l1 := skB_le (B := B) hp
  have l2 := ltE_le (B := B) l1.2
  rcases Nat.lt_or_ge (skB B n p) (ltE B n (skB B n p)) with h1 | h1
  · have := lt_notD h1 hp
    rcases h with h | h
    · rw [this.1] at h; cases h
    · exact absurd h this.2
  · omega
theorem mr_one (hr : Rk r) (hn : n ≤ 150) {t : Nat} (h2 : mrS G r B n MX12_sum t 0 3 8) : mrS G r B n MX12_one (t + 1) 4 1 6 := by
  intro o p a l P ho hT hl hlp h8 ht hq D hD
  obtain ⟨D, rfl⟩ : ∃ D', D = D' + 1 := ⟨D - 1, by omega⟩
  have hT0 := hT
  obtain ⟨hB, g2, g4, hpn, h5⟩ := hT
  have hle := skB_le (B := B) hpn
  have hwe := ltE_le (B := B) hle.2
  have hT1 := hT0.at hle.2
  have hres := pE.eq_2 B n 4 o p t
  rw [if_neg (by decide), if_neg (by decide), if_neg (by decide), if_neg (by decide)] at hres
  change pE B n (t + 1) 4 o p = _ at hres
  rw [hres] at hq
  have e3 : ∀ q, mAt (mAt a (skB B n p)) q = mAt a q := fun q => u2_u2
  have ew : ∀ i, isWp B n (skB B n p) i = isWp B n p i := fun i => by unfold isWp; rw [skB_skB hpn]
  have l1 : RdL (mAt a (skB B n p)) l := hl.w60 (by decide)
  have h81 : mAt a (skB B n p) 60 8 = nI o := by unfold mAt; rw [u2_ne (by decide)]; exact h8
  -- least, most
  have pair : ∀ (w s0 : Int32), ¬ s0 = -1 → rcode w = (s0, 0) → lwWord B (skB B n p) (ltE B n (skB B n p)) = w → (w = -5 ∨ w = -6) → E G MX12_one (D + 1) 0 0 58 [.ref 60, .null, .null] [.int s0] (mAt a (skB B n p), r, nK) (RN P) := by
    intro w s0 hs0 hcode hW hw
    have hw0 : ¬ lwWord B (skB B n p) (ltE B n (skB B n p)) = 0 := by rw [hW]; rcases hw with rfl | rfl <;> decide
    have hlt := lw_wide hw0 hwe.1
    have nd := lt_notD hlt hpn
    rw [if_neg (by rw [nd.1]; decide), if_neg nd.2, if_neg hw0, if_pos (by rw [hW]; exact hw), hW] at hq
    refine V_X12_one_58 ⟨fun h => absurd h hs0, fun _ => ⟨rfl, by decide, Sp.up (d := 1) (by omega) (c_mOpens (d := 0) hT1.2.2.2.2 hT1.2.2.1 h81 ho (fun h6 => ⟨fun _ => ⟨rfl, by decide, ?_⟩, fun h => absurd h (by decide)⟩) (fun h6 => ⟨fun h => absurd rfl h, fun _ => ?_⟩))⟩⟩
    · rw [if_neg (by omega)] at hq
      have kA : mK a (u2 (mAt a (skB B n p)) 60 8 (nI (o + 1))) := mK_tr (mK_6 rfl) (mK_6 rfl)
      have hA : MT (u2 (mAt a (skB B n p)) 60 8 (nI (o + 1))) B n (skB B n p) := hT1.row (u2_off 61 (by decide)) (u2_ne (by decide)) (u2_ne (by decide)) (u2_ne (by decide))
      have lA : RdL (u2 (mAt a (skB B n p)) 60 8 (nI (o + 1))) l := l1.w60 (by decide)
      have oA : u2 (mAt a (skB B n p)) 60 8 (nI (o + 1)) 60 8 = nI (o + 1) := u2_eq
      generalize u2 (mAt a (skB B n p)) 60 8 (nI (o + 1)) = A at *
      have fin : ∀ k f, (sB (pSign B n 91 (ltE B n (skB B n p))) fun e1 => sB (pE B n t 0 (o + 1) e1) fun x => sB (pSign B n 44 x.2) fun e2 => sB (pE B n t 0 (o + 1) e2) fun y => sB (pSign B n 93 y.2) fun e3 => (.inl (x.1 ++ y.1 ++ [w], e3) : (List Int32 × Nat) ⊕ (Int32 × Nat))) = .inr (k, f) →
          ∀ a', mK A a' → MS a' B n (.inr (k, f)) → ∀ a2, a2 = u2 a' 60 8 (a' 60 8 - 1) → P a2 r nK := by
        intro k f hh a' ka ms a2 e2
        subst e2
        refine hq.2 k f hh _ (mK_tr kA (mK_tr ka (mK_6 rfl))) (ms.row (u2_off 61 (by decide)) (u2_ne (by decide)) (u2_ne (by decide)) (u2_ne (by decide)) (u2_ne (by decide)))
      refine Sp.up (d := 1) (by omega) (c_mSkip (d := 0) hr hA ⟨rfl, by decide, ?_⟩)
      have hA1 : MT (mAt A (ltE B n (skB B n p))) B n (ltE B n (skB B n p)) := hA.at hwe.2
      refine Sp.up (d := 2) (by omega) (c_mSignT (d := 0) (by decide) hr hA1 (fun e1 q1 p1 b1 => ⟨rfl, by decide, ?_⟩) (fun k f q1 a' ka ms => ⟨rfl, by decide, Sp.up (d := 3) (by omega) (s_mSum (d := 0) ms.n5 ⟨rfl, by decide, Sp.up (d := 2) (by omega) (s_mSign (d := 0) ms.n5 ⟨rfl, by decide, Sp.up (d := 3) (by omega) (s_mSum (d := 0) ms.n5 ⟨rfl, by decide, Sp.up (d := 2) (by omega) (s_mSign (d := 0) ms.n5 ⟨rfl, by decide, s_mNotes ms.n5 ⟨rfl, by decide, rfl, by decide, fin k f (by rw [sB_r q1]) a' (mK_tr (mK_6 rfl) ka) ms⟩⟩)⟩)⟩)⟩)⟩))
      have eA1 : mAt (mAt A (ltE B n (skB B n p))) e1 = mAt A e1 := u2_u2
      have hA2 : MT (mAt A e1) B n e1 := hA.at b1
      rw [eA1]
      refine h2 (o + 1) e1 (mAt A e1) l _ (by omega) hA2 (lA.w60 (by decide)) (by omega) (by unfold mAt; rw [u2_ne (by decide)]; exact oA) (by omega) ⟨fun x ex q2 p2 a2 k2 t2 l2 o2 => ⟨rfl, by decide, ?_⟩, fun k f q2 a2 k2 ms => ⟨rfl, by decide, Sp.up (d := 2) (by omega) (s_mSign (d := 0) ms.n5 ⟨rfl, by decide, Sp.up (d := 3) (by omega) (s_mSum (d := 0) ms.n5 ⟨rfl, by decide, Sp.up (d := 2) (by omega) (s_mSign (d := 0) ms.n5 ⟨rfl, by decide, s_mNotes ms.n5 ⟨rfl, by decide, rfl, by decide, fin k f (by rw [sB_l q1, sB_r q2]) a2 (mK_tr (mK_6 rfl) k2) ms⟩⟩)⟩)⟩)⟩⟩ D (by omega)
      have u2' := pE_up B n t 0 (o + 1) e1 x ex b1 q2
      refine Sp.up (d := 2) (by omega) (c_mSignT (d := 0) (by decide) hr t2 (fun e3 q3 p3 b3 => ⟨rfl, by decide, ?_⟩) (fun k f q3 a' ka ms => ⟨rfl, by decide, Sp.up (d := 3) (by omega) (s_mSum (d := 0) ms.n5 ⟨rfl, by decide, Sp.up (d := 2) (by omega) (s_mSign (d := 0) ms.n5 ⟨rfl, by decide, s_mNotes ms.n5 ⟨rfl, by decide, rfl, by decide, fin k f (by rw [sB_l q1, sB_l q2]; simp only; rw [sB_r q3]) a' (mK_tr (mK_6 rfl) (mK_tr k2 ka)) ms⟩⟩)⟩)⟩))
      have k2' : mK A (mAt a2 e3) := mK_tr (mK_6 rfl) (mK_tr k2 (mK_6 rfl))
      have t3 : MT (mAt a2 e3) B n e3 := t2.at b3
      refine h2 (o + 1) e3 (mAt a2 e3) (l ++ x) _ (by omega) t3 (l2.w60 (by decide)) (by simp only [List.length_append]; omega) (by unfold mAt; rw [u2_ne (by decide)]; exact o2) (by omega) ⟨fun y ey q4 p4 a4 k4 t4 l4 o4 => ⟨rfl, by decide, ?_⟩, fun k f q4 a4 k4 ms => ⟨rfl, by decide, Sp.up (d := 2) (by omega) (s_mSign (d := 0) ms.n5 ⟨rfl, by decide, s_mNotes ms.n5 ⟨rfl, by decide, rfl, by decide, fin k f (by rw [sB_l q1, sB_l q2]; simp only; rw [sB_l q3, sB_r q4]) a4 (mK_tr k2' k4) ms⟩⟩)⟩⟩ D (by omega)
      have u4 := pE_up B n t 0 (o + 1) e3 y ey b3 q4
      refine Sp.up (d := 2) (by omega) (c_mSignT (d := 0) (by decide) hr t4 (fun e5 q5 p5 b5 => ⟨rfl, by decide, ?_⟩) (fun k f q5 a' ka ms => ⟨rfl, by decide, s_mNotes ms.n5 ⟨rfl, by decide, rfl, by decide, fin k f (by rw [sB_l q1, sB_l q2]; simp only; rw [sB_l q3, sB_l q4]; simp only; rw [sB_r q5]) a' (mK_tr k2' (mK_tr k4 ka)) ms⟩⟩))
      have t5 : MT (mAt a4 e5) B n e5 := t4.at b5
      refine c_mNotes hr t5.2.2.2.2 (l4.w60 (by decide)) (by simp only [List.length_append]; omega) hcode (fun a6 k6 j6 e6' l6 => ⟨rfl, by decide, rfl, by decide, fun a7 e7 => ?_⟩)
      have o6 : a6 60 8 = nI (o + 1) := by rw [j6 8 (by decide)]; unfold mAt; rw [u2_ne (by decide)]; exact o4
      rw [o6, nI_pred] at e7
      subst e7
      have t6 : MT a6 B n e5 := t5.row e6' (j6 2 (by decide)) (j6 4 (by decide)) (j6 5 (by decide))
      refine hq.1 (x ++ y ++ [w]) e5 (by rw [sB_l q1, sB_l q2]; simp only; rw [sB_l q3, sB_l q4]; simp only; rw [sB_l q5]) (by omega) _ (mK_tr kA (mK_tr k2' (mK_tr k4 (mK_tr (mK_6 rfl) (mK_tr k6 (mK_6 rfl)))))) (t6.row (u2_off 61 (by decide)) (u2_ne (by decide)) (u2_ne (by decide)) (u2_ne (by decide))) ?_ u2_eq
      have l7 : RdL a6 (l ++ (x ++ y ++ [w])) := by simpa using l6
      exact l7.w60 (by decide)
    · rw [if_pos h6] at hq
      exact hq.2 3 (skB B n p) rfl _ (mK_tr (mK_6 rfl) (mK_tr (mK_6 rfl) (mK_6 rfl))) (hT0.fa hle.2 (by decide))
  -- the rest
  have rest : isWp B n p 16 = false → isWp B n p 17 = false → E G MX12_one (D + 1) 0 0 58 [.ref 60, .null, .null] [.int (-1)] (mAt a (skB B n p), r, nK) (RN P) := by
    intro h16 h17
    refine V_X12_one_58 ⟨fun _ => ⟨rfl, by decide, rfl, by decide, ?_⟩, fun h => absurd rfl h⟩
    have e4 : mAt a (skB B n p) 60 4 = nI (skB B n p) := hT1.2.2.1
    rw [e4]
    have hn6 := hB.1
    refine c_mByteAt (B := B) (i := skB B n p) hr hT1.1 hT1.2.1 (by omega) ⟨fun hb => ⟨rfl, by decide, ?_⟩, fun hb => ⟨rfl, by decide, ?_⟩⟩
    · refine Sp.up (d := 5) (by omega) (c_mKnown (d := 0) (p := skB B n p) (n := n) (B := B) hr hT1 ((ew 16).trans h16) ((ew 17).trans h17) (fun hW => ⟨fun _ => ⟨rfl, by decide, ?_⟩, fun h => absurd rfl h⟩) (fun v hW w5 w6 hv hcd => ⟨fun h => absurd h hv, fun _ => ⟨rfl, by decide, ?_⟩⟩))
      · rw [skB_skB hpn] at hW ⊢
        rw [e3]
        refine Sp.up (d := 2) (by omega) (c_mNumT (d := 0) hr hT1 (fun v e q1 p1 b1 => ⟨rfl, by decide, ?_⟩) (fun k f q1 v a' ka ms => ⟨rfl, by decide, s_mNotes ms.n5 ?_⟩))
        · rw [pNum_sk hpn] at q1
          have hd : isD (bAt B n (skB B n p)) = true := by
            cases hz : isD (bAt B n (skB B n p)) with
            | true => rfl
            | false =>
              exfalso
              have : dgE B n (skB B n p) = skB B n p := by
                rcases Nat.lt_or_ge (skB B n p) n with h | h
                · exact run_stop (by rw [← show bAt B n (skB B n p) = B (skB B n p) from if_pos h]; exact hz)
                · exact run_end (by omega)
              unfold pNum at q1
              rw [if_pos this.symm] at q1
              cases q1
          rw [if_pos hd, sB_l q1] at hq
          have b2 := pNum_e hpn q1
          have t5 : MT (mAt (mAt a (skB B n p)) e) B n e := hT1.at b1
          refine c_mNotes (v := v) hr t5.2.2.2.2 (l1.w60 (by decide)) (by omega) (by unfold rcode; rw [if_pos b2.2.2.1]) (fun a6 k6 j6 e6' l6 => ?_)
          exact hq.1 [v] e rfl (by omega) a6 (mK_tr (mK_6 rfl) (mK_tr (mK_6 rfl) k6)) (t5.row e6' (j6 2 (by decide)) (j6 4 (by decide)) (j6 5 (by decide))) l6 (by rw [j6 8 (by decide)]; unfold mAt; rw [u2_ne (by decide), u2_ne (by decide)]; exact h8)
        · rw [pNum_sk hpn] at q1
          refine hq.2 k f ?_ a' (mK_tr (mK_6 rfl) ka) ms
          by_cases hd : isD (bAt B n (skB B n p)) = true
          · rw [if_pos hd, sB_r q1]
          · rw [if_neg hd, if_neg hb, if_pos hW]
            have : dgE B n (skB B n p) = skB B n p := by
              rcases Nat.lt_or_ge (skB B n p) n with h | h
              · exact run_stop (by rw [← show bAt B n (skB B n p) = B (skB B n p) from if_pos h]; cases hz : isD (bAt B n (skB B n p)) with
                  | true => exact absurd hz hd
                  | false => rfl)
              · exact run_end (by omega)
            unfold pNum at q1
            rw [if_pos this.symm] at q1
            cases q1
            rfl
      · rw [skB_skB hpn] at hW w5 w6 hcd ⊢
        rw [e3]
        have hlt := lw_wide hW hwe.1
        have nd := lt_notD hlt hpn
        rw [if_neg (by rw [nd.1]; decide), if_neg nd.2, if_neg hW, if_neg (fun z => z.elim w5 w6)] at hq
        have t5 : MT (mAt a (ltE B n (skB B n p))) B n (ltE B n (skB B n p)) := hT0.at hwe.2
        refine c_mNotes hr t5.2.2.2.2 (hl.w60 (by decide)) (by omega) hcd (fun a6 k6 j6 e6' l6 => ?_)
        exact hq.1 [_] _ rfl (by omega) a6 (mK_tr (mK_6 rfl) k6) (t5.row e6' (j6 2 (by decide)) (j6 4 (by decide)) (j6 5 (by decide))) l6 (by rw [j6 8 (by decide)]; unfold mAt; rw [u2_ne (by decide)]; exact h8)
    · have hlt := bAt_lt (by decide) hb
      have nd : ¬ isD (bAt B n (skB B n p)) = true := by rw [hb]; decide
      rw [if_neg nd, if_pos hb] at hq
      refine Sp.up (d := 1) (by omega) (c_mOpens (d := 0) hT1.2.2.2.2 hT1.2.2.1 h81 ho (fun h6 => ⟨fun _ => ⟨rfl, by decide, rfl, by decide, fun a2 e2 => ⟨rfl, by decide, ?_⟩⟩, fun h => absurd h (by decide)⟩) (fun h6 => ⟨fun h => absurd rfl h, fun _ => ?_⟩))
      · rw [if_neg (by omega)] at hq
        have e4' : u2 (mAt a (skB B n p)) 60 8 (nI (o + 1)) 60 4 = nI (skB B n p) := by rw [u2_ne (by decide)]; exact e4
        rw [e4', nI_1] at e2
        have kA : mK a a2 := by rw [e2]; exact mK_tr (mK_6 (j := 4) rfl) (mK_tr (mK_6 rfl) (mK_6 rfl))
        have hA : MT a2 B n (skB B n p + 1) := by
          rw [e2]
          exact MT.at (p := skB B n p) (hT1.row (u2_off 61 (by decide)) (u2_ne (by decide)) (u2_ne (by decide)) (u2_ne (by decide))) (by omega)
        have lA : RdL a2 l := by rw [e2]; exact (l1.w60 (by decide)).w60 (by decide)
        have oA : a2 60 8 = nI (o + 1) := by rw [e2, u2_ne (by decide), u2_eq]
        have fin : ∀ k f, (sB (pE B n t 0 (o + 1) (skB B n p + 1)) fun x => sB (pSign B n 41 x.2) fun e => (.inl (x.1, e) : (List Int32 × Nat) ⊕ (Int32 × Nat))) = .inr (k, f) →
            ∀ a', mK a2 a' → MS a' B n (.inr (k, f)) → ∀ a3, a3 = u2 a' 60 8 (a' 60 8 - 1) → P a3 r nK := by
          intro k f hh a' ka ms a3 e3
          subst e3
          exact hq.2 k f hh _ (mK_tr kA (mK_tr ka (mK_6 rfl))) (ms.row (u2_off 61 (by decide)) (u2_ne (by decide)) (u2_ne (by decide)) (u2_ne (by decide)) (u2_ne (by decide)))
        refine h2 (o + 1) (skB B n p + 1) a2 l _ (by omega) hA lA (by omega) oA (by omega) ⟨fun x ex q2 p2 a3 k2 t2 l2 o2 => ⟨rfl, by decide, ?_⟩, fun k f q2 a3 k2 ms => ⟨rfl, by decide, Sp.up (d := 2) (by omega) (s_mSign (d := 0) ms.n5 ⟨rfl, by decide, rfl, by decide, fin k f (by rw [sB_r q2]) a3 k2 ms⟩)⟩⟩ D (by omega)
        refine Sp.up (d := 2) (by omega) (c_mSignT (d := 0) (by decide) hr t2 (fun e5 q5 p5 b5 => ⟨rfl, by decide, rfl, by decide, fun a7 e7 => ?_⟩) (fun k f q5 a' ka ms => ⟨rfl, by decide, rfl, by decide, fin k f (by rw [sB_l q2]; simp only; rw [sB_r q5]) a' (mK_tr k2 ka) ms⟩))
        have o6 : mAt a3 e5 60 8 = nI (o + 1) := by unfold mAt; rw [u2_ne (by decide)]; exact o2
        rw [o6, nI_pred] at e7
        subst e7
        have t5 : MT (mAt a3 e5) B n e5 := t2.at b5
        exact hq.1 x e5 (by rw [sB_l q2]; simp only; rw [sB_l q5]) (by omega) _ (mK_tr kA (mK_tr k2 (mK_tr (mK_6 (j := 4) rfl) (mK_6 rfl)))) (t5.row (u2_off 61 (by decide)) (u2_ne (by decide)) (u2_ne (by decide)) (u2_ne (by decide))) ((l2.w60 (by decide)).w60 (by decide)) u2_eq
      · rw [if_pos h6] at hq
        exact hq.2 3 (skB B n p) rfl _ (mK_tr (mK_6 (j := 4) rfl) (mK_tr (mK_6 rfl) (mK_6 rfl))) (hT0.fa hle.2 (by decide))
  refine V_X12_one_0 ⟨rfl, by decide, fun _ => ⟨rfl, by decide, Sp.up (d := 1) (by omega) (c_mBlanks (d := 0) hr hB g2 g4 hpn ⟨rfl, by decide, Sp.up (d := 3) (by omega) (c_mIsWord (d := 0) 16 hr hT1 (by decide) (by decide) ?_)⟩)⟩, fun h => absurd h5 h⟩
  rw [ew, skB_skB hpn, show mAt (u2 a 60 4 (nI (skB B n p))) (skB B n p) = mAt a (skB B n p) from e3 _]
  cases h16 : isWp B n p 16 with
  | true => exact ⟨fun h => absurd h (by decide), fun _ => pair (-5) 6 (by decide) rfl (lwW_16 h16) (Or.inl rfl)⟩
  | false =>
    refine ⟨fun _ => ⟨rfl, by decide, Sp.up (d := 3) (by omega) (c_mIsWord (d := 0) 17 hr hT1 (by decide) (by decide) ?_)⟩, fun h => absurd rfl h⟩
    rw [ew, skB_skB hpn, show mAt (mAt a (skB B n p)) (skB B n p) = mAt a (skB B n p) from e3 _]
    cases h17 : isWp B n p 17 with
    | true => exact ⟨fun h => absurd h (by decide), fun _ => pair (-6) 7 (by decide) rfl (lwW_17 h17) (Or.inr rfl)⟩
    | false => exact ⟨fun _ => rest h16 h17, fun h => absurd rfl h⟩
theorem mr_all (hr : Rk r) (hn : n ≤ 150) : ∀ t, mrS G r B n MX12_sum t 0 3 8 ∧ mrT G r B n MX12_sum t 1 8 ∧ mrS G r B n MX12_product t 2 2 7 ∧ mrT G r B n MX12_product t 3 7 ∧ mrS G r B n MX12_one t 4 1 6
  | 0 => ⟨fun o p a l P ho hI h1 h2 h3 ht => by omega, fun o p a l P ho hI h1 h2 h3 ht => by omega, fun o p a l P ho hI h1 h2 h3 ht => by omega, fun o p a l P ho hI h1 h2 h3 ht => by omega, fun o p a l P ho hI h1 h2 h3 ht => by omega⟩
  | t + 1 => by
    obtain ⟨i0, i1, i2, i3, i4⟩ := mr_all hr hn t
    exact ⟨mr_sum hr i2 i1, mr_sumT hr hn i2 i1, mr_prod hr i4 i3, mr_prodT hr hn i4 i3, mr_one hr hn i0⟩
end ML3
