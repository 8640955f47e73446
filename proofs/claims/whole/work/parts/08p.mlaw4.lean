/-! The reference: law -/
theorem pE_sk {B : Nat → Int32} {n p o t : Nat} (hp : p ≤ n) : pE B n (t + 3) 0 o (skB B n p) = pE B n (t + 3) 0 o p := by
  have e4 : pE B n (t + 1) 4 o (skB B n p) = pE B n (t + 1) 4 o p := by
    rw [pE.eq_2 B n 4 o _ t, pE.eq_2 B n 4 o _ t]
    simp only [show ¬ (4 : Nat) = 0 by decide, show ¬ (4 : Nat) = 1 by decide, show ¬ (4 : Nat) = 2 by decide, show ¬ (4 : Nat) = 3 by decide, if_false, skB_skB hp, pNum_sk hp]
  have e2 : pE B n (t + 2) 2 o (skB B n p) = pE B n (t + 2) 2 o p := by
    rw [pE.eq_2 B n 2 o _ (t + 1), pE.eq_2 B n 2 o _ (t + 1), if_neg (by decide), if_neg (by decide), if_pos rfl, if_neg (by decide), if_neg (by decide), if_pos rfl, e4]
  rw [pE.eq_2 B n 0 o _ (t + 2), pE.eq_2 B n 0 o _ (t + 2), if_pos rfl, if_pos rfl, e2]
theorem pLaw_sk {B : Nat → Int32} {n p : Nat} (hp : p ≤ n) : pLaw B n (skB B n p) = pLaw B n p := by
  unfold pLaw
  rw [show (800 : Nat) = 797 + 3 from rfl, pE_sk hp]
section ML4
variable {G : GE} {d C S : Nat} {r : RA} {B : Nat → Int32} {n p o N : Nat} {a : IA} {c x : Int32}
theorem c_mLawF {P : KI} (hr : Rk r) (h1 : a 60 1 = nI N) (hN : N ≤ 600)
    (hno : ¬ (inT x 0 (nI N) ∧ x ≤ 150) → P 0 (mBd a 1 2) r nK)
    (hgo : ∀ n B, n ≤ N → n ≤ 150 → x = nI n → (∀ i, i < n → a 61 i = B i) →
      (∀ l, pLaw B n 0 = .inl l → l.length ≤ 150 → ∀ a1 a2, mK (mSta a B n) a1 → RdL a1 l → mLd (u2 (u2 a1 60 3 (-1)) 60 23 (nI l.length)) a2 320 159 2 l.length → P 1 a2 r nK) ∧
      (∀ k f, pLaw B n 0 = .inr (k, f) → ∀ a1, mK (mSta a B n) a1 → P (k - 10) (u2 a1 60 3 (nI f)) r nK)) :
    Sp G (d + 27) 0 0 MX12_law [.ref 60, .int x] (a, r, nK) (RI P) := by
  have bad : E G MX12_law (d + 27) 0 0 30 [.ref 60, .int x] [.int 1, .ref 60] (u2 a 60 0 0, r, nK) (RI P) ∨ True := Or.inr trivial
  have e1 : u2 a 60 0 0 60 1 = nI N := by rw [u2_ne (by decide)]; exact h1
  have hbad : (¬ (inT x 0 (nI N) ∧ x ≤ 150)) → E G MX12_law (d + 27) 0 0 30 [.ref 60, .int x] [.int 1, .ref 60] (u2 a 60 0 0, r, nK) (RI P) := by
    intro hh
    refine V_X12_law_30 ⟨rfl, by decide, c_mBad (w := 1) (wI := 1) (i := 2) hr (by decide) (by decide) (by decide) (by decide) ⟨fun h => absurd h (by decide), fun _ => hno hh⟩⟩
  refine V_X12_law_0 ⟨rfl, by decide, fun a1 g1 => ⟨rfl, by decide, ?_⟩⟩
  subst g1
  rw [e1]
  refine c_mIn (fun hin => ⟨fun h => absurd h (by decide), fun _ => ⟨fun h150 => ?_, fun h150 => hbad (fun h => h150 h.2)⟩⟩) (fun hin => ⟨fun _ => hbad (fun h => hin h.1), fun h => absurd rfl h⟩)
  obtain ⟨n, hn, hx⟩ := nI_of2 (M := nI N) (n := N) (nI_toInt (by omega)) hin.1 (i_nlt.mp hin.2)
  subst hx
  have hn150 : n ≤ 150 := (nI_leI (a := n) (b := 150) (by omega) (by omega)).mp h150
  have hB : MB a (fun i => a 61 i) n := ⟨by omega, fun _ _ => rfl⟩
  obtain ⟨hy, hf⟩ := hgo n (fun i => a 61 i) hn hn150 rfl (fun _ _ => rfl)
  generalize (fun i => a 61 i) = B at *
  have l1 := skB_le (B := B) (Nat.zero_le n)
  refine V_X12_law_30 ⟨rfl, by decide, c_mBad0 u2_eq ⟨fun _ => ⟨rfl, by decide, Sp.up (d := 2) (by omega) (c_mSta (d := 0) hr hB ⟨rfl, by decide, fun a8 g8 => ⟨rfl, by decide, ?_⟩⟩)⟩, fun h => absurd rfl h⟩⟩
  have hT := mSta_MT hB
  have hv := mSta_v (a := a) (B := B) (n := n)
  have k8 : mK (mSta a B n) a8 := by rw [g8]; exact mK_6 rfl
  have hT8 : MT a8 B n (skB B n 0) := by rw [g8]; exact hT.row (u2_off 61 (by decide)) (u2_ne (by decide)) (u2_ne (by decide)) (u2_ne (by decide))
  have l8 : RdL a8 [] := ⟨by rw [g8, u2_eq]; rfl, fun i v h => by simp at h⟩
  have o8 : a8 60 8 = nI 0 := by rw [g8, u2_ne (by decide)]; exact hv.2.2.2.2.2.2.2
  have eS := pLaw_sk (B := B) (Nat.zero_le n)
  rw [← eS] at hy hf
  unfold pLaw at hy hf
  refine (mr_all (G := G) (B := B) hr hn150 800).1 0 (skB B n 0) a8 [] _ (by omega) hT8 l8 (Nat.zero_le _) o8 (by omega) ⟨fun l e q1 p1 a1 k1 t1 rl1 _ => ⟨rfl, by decide, ?_⟩, fun k f q1 a1 k1 ms => ⟨rfl, by decide, ?_⟩⟩ (d + 26) (by omega)
  · have l2 := skB_le (B := B) t1.2.2.2.1
    have hu := pE_up B n 800 0 0 _ l e l1.2 q1
    have tS := t1.at l2.2
    rw [List.nil_append] at rl1
    refine Sp.up (d := 1) (by omega) (c_mBlanks (d := 0) hr t1.1 t1.2.1 t1.2.2.1 t1.2.2.2.1 ⟨rfl, by decide, fun h => absurd tS.2.2.2.2 h, fun _ => ⟨rfl, by decide, rfl, by decide, fun hle => ?_, fun hle => ?_⟩⟩)
    · rw [tS.2.1, tS.2.2.1, nI_leI (by omega) (by have := hT8.1.1; omega)] at hle
      refine ⟨rfl, by decide, fun _ => ⟨rfl, by decide, fun a26 g26 => ⟨rfl, by decide, rfl, by decide, fun a27 g27 => ⟨rfl, by decide, 320, rf5 hr (by decide) rfl, rfl, by decide, 159, rf5 hr (by decide) rfl, rfl, by decide, ?_⟩⟩⟩, fun h => absurd tS.2.2.2.2 h⟩
      have e24 : a26 60 24 = nI l.length := by rw [g26, u2_ne (by decide), u2_ne (by decide)]; exact rl1.1
      have e23 : a27 60 23 = nI l.length := by rw [g27, e24, u2_eq]
      rw [e23]
      have hlen : l.length ≤ 150 := by have := hu.2.2.2; omega
      refine c_mLays (M := 160) (L := 2) (q1 := 320) (q2 := 159) rfl rfl (by decide) (by decide) (by decide) (by decide) tyR_readLaw tyR_law (by decide) (by omega) (fun a2 m2 => ?_)
      have ea : a27 = u2 (u2 (u2 a1 60 4 (nI (skB B n e))) 60 3 (-1)) 60 23 (nI l.length) := by rw [g27, e24, g26]
      rw [ea] at m2
      exact hy l (by rw [sB_l q1]; simp only; rw [if_neg (by omega)]) hlen (u2 a1 60 4 (nI (skB B n e))) a2 (mK_tr k8 (mK_tr k1 (mK_6 rfl))) (rl1.w60 (by decide)) m2
    · rw [tS.2.1, tS.2.2.1, nI_leI (by omega) (by have := hT8.1.1; omega)] at hle
      refine ⟨rfl, by decide, rfl, by decide, c_mWrong ?_⟩
      rw [mWr_0 tS.2.2.2.2, tS.2.2.1]
      have f5 : u2 (u2 (u2 a1 60 4 (nI (skB B n e))) 60 5 1) 60 6 (nI (skB B n e)) 60 5 = 1 := by rw [u2_ne (by decide), u2_eq]
      have f6 : u2 (u2 (u2 a1 60 4 (nI (skB B n e))) 60 5 1) 60 6 (nI (skB B n e)) 60 6 = nI (skB B n e) := u2_eq
      refine ⟨rfl, by decide, fun h => absurd (f5.symm.trans h) (by decide), fun _ => ⟨rfl, by decide, c_mEnds ?_⟩⟩
      rw [f5, f6]
      exact hf 1 (skB B n e) (by rw [sB_l q1]; simp only; rw [if_pos (by omega)]) _ (mK_tr k8 (mK_tr k1 (mK_tr (mK_6 rfl) (mK_tr (mK_6 rfl) (mK_6 rfl)))))
  · have hz := ms.2.2.2 k f rfl
    obtain ⟨q, hq, e4⟩ := hz.2.2.2
    refine Sp.up (d := 1) (by omega) (c_mBlanks (d := 0) hr ms.1 ms.2.1 e4 hq ?_)
    generalize skB B n q = q'
    have f5 : u2 a1 60 4 (nI q') 60 5 = k := by rw [u2_ne (by decide)]; exact hz.1
    have f6 : u2 a1 60 4 (nI q') 60 6 = nI f := by rw [u2_ne (by decide)]; exact hz.2.2.1
    refine ⟨rfl, by decide, fun _ => ⟨rfl, by decide, fun h => absurd (f5.symm.trans h) hz.2.1, fun _ => ⟨rfl, by decide, c_mEnds ?_⟩⟩, fun h => absurd (f5.symm.trans h) hz.2.1⟩
    rw [f5, f6]
    exact hf k f (by rw [sB_r q1]) _ (mK_tr k8 (mK_tr k1 (mK_6 rfl)))
end ML4
