/-! The reference: a clause read -/
section MC2
variable {G : GE} {d C S : Nat} {a b : IA} {r : RA} {N n p i s m nc ns ng w j : Nat} {B : Nat → Int32} {x y kd : Int32} {o : Po}
theorem l_501a {P : KN} (hr : Rk r) (hj : j < 3) (hkd : kd = nI j) (hS : MS a B n (.inl p)) (hp : ∀ x, MS (mSt (u2 a 63 j (a 63 j + 1)) x (pSign B n 59 p)) B n (pSign B n 59 p) → P (mSt (u2 a 63 j (a 63 j + 1)) x (pSign B n 59 p)) r nK) :
    E G MX12_clause (d + 5) C S 501 [.ref 60, .int kd, .null, .null, .null, .null] [] (a, r, nK) (RN P) := by
  subst hkd
  have hi : vp_in (nI j) 8 := vp_in_nI (by omega) (by decide)
  have hc : (nI j).toNatClampNeg = j := nI_clamp (by omega)
  refine V_X12_clause_501 ⟨fun h => absurd h (by rw [show (3 : Int32) = nI 3 from rfl, nI_leI (by omega) (by omega)]; omega), fun _ => ⟨rfl, by decide, 63, rf5 hr (by decide) rfl, rfl, by decide, hi, rfl, by decide, fun h => absurd (hS.2.2.1 p rfl).2.2 h, fun _ => ⟨rfl, by decide, hi, fun a9 h9 => ⟨rfl, by decide, ?_⟩⟩⟩⟩
  rw [hc] at h9
  subst h9
  exact u_sign (o := .inl p) (by decide) hr (hS.w (by decide) (by decide)) hp
theorem l_501b {P : KN} (hr : Rk r) (hj : 3 ≤ j) (hj7 : j < 7) (hkd : kd = nI j) (hS : MS a B n (.inl p)) (hp : ∀ x, MS (mSt a x (pSign B n 59 p)) B n (pSign B n 59 p) → P (mSt a x (pSign B n 59 p)) r nK) :
    E G MX12_clause (d + 5) C S 501 [.ref 60, .int kd, .null, .null, .null, .null] [] (a, r, nK) (RN P) := by
  subst hkd
  exact V_X12_clause_501 ⟨fun _ => ⟨rfl, by decide, u_sign (o := .inl p) (by decide) hr hS hp⟩, fun h => absurd (by rw [show (3 : Int32) = nI 3 from rfl, nI_leI (by omega) (by omega)]; omega) h⟩
theorem l_501f {P : KN} {z : Int32 × Nat} (hr : Rk r) (hj7 : j < 7) (hkd : kd = nI j) (hS : MS a B n (.inr z)) (hp : ∀ a', mK a a' → MS a' B n (.inr z) → P a' r nK) :
    E G MX12_clause (d + 5) C S 501 [.ref 60, .int kd, .null, .null, .null, .null] [] (a, r, nK) (RN P) := by
  subst hkd
  have hc : (nI j).toNatClampNeg = j := nI_clamp (by omega)
  have hz := hS.2.2.2 z.1 z.2 rfl
  have h5 : ¬ a 60 5 = 0 := by rw [hz.1]; exact hz.2.1
  by_cases h3 : 3 ≤ j
  · exact V_X12_clause_501 ⟨fun _ => ⟨rfl, by decide, s_mSign h5 (hp a mK_rf hS)⟩, fun h => absurd (by rw [show (3 : Int32) = nI 3 from rfl, nI_leI (by omega) (by omega)]; omega) h⟩
  · have hi : vp_in (nI j) 8 := vp_in_nI (by omega) (by decide)
    refine V_X12_clause_501 ⟨fun h => absurd h (by rw [show (3 : Int32) = nI 3 from rfl, nI_leI (by omega) (by omega)]; omega), fun _ => ⟨rfl, by decide, 63, rf5 hr (by decide) rfl, rfl, by decide, hi, rfl, by decide, fun _ => ⟨rfl, by decide, hi, fun a9 h9 => ⟨rfl, by decide, ?_⟩⟩, fun h => absurd h h5⟩⟩
    rw [hc] at h9
    subst h9
    exact s_mSign (by rw [u2_off 60 (by decide)]; exact h5) (hp _ (mK_w (by decide) (by decide)) (hS.w (by decide) (by decide)))
theorem fin_501 {P : KN} {b' : IA} {z : (Cl × Nat) ⊕ (Int32 × Nat)} {c0 : Cl} (hr : Rk r) (hj : j < 7) (hkd : kd = nI j) (hS : MS (mSt b' x o) B n o) (hz : o = poC z) (hc : ∀ c e, z = .inl (c, e) → c = c0)
    (hd : ∀ p, o = .inl p → (if j < 3 then u2 b' 63 j (b' 63 j + 1) else b') = mDo b c0) (hk : mK b b')
    (hy : ∀ c e, (sB z fun c => sB (pSign B n 59 c.2) fun e => .inl (c.1, e)) = (.inl (c, e) : (Cl × Nat) ⊕ (Int32 × Nat)) → MS (mAt (mDo b c) e) B n (.inl e) → P (mAt (mDo b c) e) r nK)
    (hf : ∀ k f, (sB z fun c => sB (pSign B n 59 c.2) fun e => .inl (c.1, e)) = (.inr (k, f) : (Cl × Nat) ⊕ (Int32 × Nat)) → ∀ a', mK b a' → MS a' B n (.inr (k, f)) → P a' r nK) :
    E G MX12_clause (d + 5) C S 501 [.ref 60, .int kd, .null, .null, .null, .null] [] (mSt b' x o, r, nK) (RN P) := by
  have hfin := fin_cl (B := B) (n := n) hc
  rw [← hz] at hfin
  cases ho : o with
  | inr y =>
    rw [ho] at hS hfin
    exact l_501f hr hj hkd hS (fun a' h1 h2 => hf y.1 y.2 (hfin.2 y rfl) a' (mK_tr hk (mK_tr mK_st h1)) h2)
  | inl p =>
    rw [ho] at hS hfin
    have hd := hd p ho
    have e63 : ∀ i, mSt b' x (.inl p) 63 i = b' 63 i := fun i => by rw [mSt_off (by decide)]
    have key : ∀ x', MS (mSt (mDo b c0) x' (pSign B n 59 p)) B n (pSign B n 59 p) → mK b (mDo b c0) → P (mSt (mDo b c0) x' (pSign B n 59 p)) r nK := by
      intro x' hS' hk'
      cases hs : pSign B n 59 p with
      | inl e => rw [hs] at hS'; exact hy c0 e (hfin.1 e hs) hS'
      | inr y => rw [hs] at hS'; exact hf y.1 y.2 (hfin.2 y hs) _ (mK_tr hk' mK_st) hS'
    by_cases h3 : j < 3
    · rw [if_pos h3] at hd
      refine l_501a hr h3 hkd hS (fun x' hS' => ?_)
      have e : mSt (u2 (mSt b' x (.inl p)) 63 j (mSt b' x (.inl p) 63 j + 1)) x' (pSign B n 59 p) = mSt (mDo b c0) x' (pSign B n 59 p) := by
        rw [e63, mSt_u2 (by decide), mSt_mSt (fun z h => by cases h), hd]
      rw [e] at hS' ⊢
      exact key x' hS' (by rw [← hd]; exact mK_tr hk (mK_w (by decide) (by decide)))
    · rw [if_neg h3] at hd
      refine l_501b hr (by omega) hj hkd hS (fun x' hS' => ?_)
      have e : mSt (mSt b' x (.inl p)) x' (pSign B n 59 p) = mSt (mDo b c0) x' (pSign B n 59 p) := by
        rw [mSt_mSt (fun z h => by cases h), hd]
      rw [e] at hS' ⊢
      exact key x' hS' (by rw [← hd]; exact hk)
/-- the head: which clause, and whether it may stand here -/
theorem c_mClHead {P : KN} (hr : Rk r) (hT : MT a B n p) (h7 : a 60 7 = nI m) (hm : m ≤ 60) (h0 : a 63 0 = nI nc) (hnc : nc ≤ 10) (h1 : a 63 1 = nI ns) (hns : ns ≤ 8) (h2 : a 63 2 = nI ng) (hng : ng ≤ 8)
    (hgo : ¬ rKind B n p = -1 → m < 60 → ¬ (rKind B n p = 0 ∧ nc = 10) → ¬ (rKind B n p = 1 ∧ ns = 8) → ¬ (rKind B n p = 2 ∧ ng = 8) → E G MX12_clause (d + 5) 0 0 87 [.ref 60, .int (rKind B n p), .null, .null, .null, .null] [] (mAt a (skB B n p), r, nK) (RN P))
    (h1f : rKind B n p = -1 → P (mFa a (skB B n p) 1 (skB B n p)) r nK)
    (h3f : ¬ rKind B n p = -1 → (m = 60 ∨ (rKind B n p = 0 ∧ nc = 10) ∨ (rKind B n p = 1 ∧ ns = 8) ∨ (rKind B n p = 2 ∧ ng = 8)) → P (mFa a (skB B n p) 3 (skB B n p)) r nK) :
    Sp G (d + 5) 0 0 MX12_clause [.ref 60] (a, r, nK) (RN P) := by
  have l1 := skB_le (B := B) hT.2.2.2.1
  have hT1 := hT.at l1.2
  have e5 : mAt a (skB B n p) 60 5 = 0 := hT1.2.2.2.2
  have e4 : mAt a (skB B n p) 60 4 = nI (skB B n p) := hT1.2.2.1
  have e63 : ∀ i, mAt a (skB B n p) 63 i = a 63 i := fun i => by unfold mAt; rw [u2_off 63 (by decide)]
  have fa : ∀ {C S : Nat} (k : Int32), ¬ k = 0 → P (mFa a (skB B n p) k (skB B n p)) r nK → Sp G (d + 4) 0 0 MX12_wrong [.ref 60, .int k, .int (mAt a (skB B n p) 60 4)] (mAt a (skB B n p), r, nK) (RN fun a5 r6 n7 => E G MX12_clause (d + 5) C S 87 [.ref 60, .int (rKind B n p), .null, .null, .null, .null] [] (a5, r6, n7) (RN P)) := by
    intro C S k hk hP
    refine c_mWrong ?_
    rw [mWr_0 e5, e4]
    refine V_X12_clause_87 ⟨rfl, by decide, fun h => absurd ?_ hk, fun _ => hP⟩
    rw [← h, u2_ne (by decide), u2_eq]
  refine V_X12_clause_0 ⟨rfl, by decide, c_mKind hr hT ?_⟩
  generalize hkd : rKind B n p = kd at *
  refine ⟨fun hk => ⟨rfl, by decide, fun h60 => ⟨rfl, by decide, rfl, by decide, fa 3 (by decide) (h3f hk (Or.inl ?_))⟩, fun h60 => ?_⟩, fun hk => ⟨rfl, by decide, rfl, by decide, fa 1 (by decide) (h1f hk)⟩⟩
  · have h8 : a 60 7 = 60 := by rw [← h60]; unfold mAt; rw [u2_ne (by decide)]
    rw [h7] at h8
    exact (nI_eq (by omega) (by omega)).mp h8
  · have hm6 : m < 60 := by
      rcases Nat.lt_or_ge m 60 with h | h
      · exact h
      · exact absurd (by
          have : m = 60 := by omega
          subst this
          unfold mAt
          rw [u2_ne (by decide)]
          exact h7) h60
    have n10 : ∀ {x k : Nat}, x ≤ 10 → k ≤ 10 → (nI x = nI k ↔ x = k) := fun h1 h2 => nI_eq (by omega) (by omega)
    have p46 : ¬ (kd = 0 ∧ nc = 10) → E G MX12_clause (d + 5) 0 0 46 [.ref 60, .int kd, .null, .null, .null, .null] [] (mAt a (skB B n p), r, nK) (RN P) := by
      intro f0
      refine V_X12_clause_46 ⟨fun k1 => ⟨fun k2 => hgo hk hm6 f0 (fun e => k1 e.1) (fun e => k2 e.1), fun k2 => ⟨rfl, by decide, 63, rf5 hr (by decide) rfl, rfl, by decide, vp_in_nI (show 2 < 8 by decide) (by decide), fun hn => hgo hk hm6 f0 (fun e => k1 e.1) (fun e => hn ?_), fun hf => ⟨rfl, by decide, rfl, by decide, fa 3 (by decide) (h3f hk (Or.inr (Or.inr (Or.inr ⟨k2, ?_⟩))))⟩⟩⟩,
        fun k1 => ⟨rfl, by decide, 63, rf5 hr (by decide) rfl, rfl, by decide, vp_in_nI (show 1 < 8 by decide) (by decide), fun hf => ⟨rfl, by decide, rfl, by decide, fa 3 (by decide) (h3f hk (Or.inr (Or.inr (Or.inl ⟨k1, ?_⟩))))⟩, fun hn => ⟨fun k2 => hgo hk hm6 f0 (fun e => hn ?_) (fun e => k2 e.1), fun k2 => absurd (k1.symm.trans k2) (by decide)⟩⟩⟩
      · show mAt a (skB B n p) 63 2 = 8
        rw [e63, h2, e.2]; rfl
      · have hf : mAt a (skB B n p) 63 2 = 8 := hf
        rw [e63, h2] at hf
        exact (n10 (by omega) (by omega)).mp hf
      · have hf : mAt a (skB B n p) 63 1 = 8 := hf
        rw [e63, h1] at hf
        exact (n10 (by omega) (by omega)).mp hf
      · show mAt a (skB B n p) 63 1 = 8
        rw [e63, h1, e.2]; rfl
    refine ⟨fun k0 => p46 (fun e => k0 e.1), fun k0 => ⟨rfl, by decide, 63, rf5 hr (by decide) rfl, rfl, by decide, vp_in_nI (show 0 < 8 by decide) (by decide), fun hf => ⟨rfl, by decide, rfl, by decide, fa 3 (by decide) (h3f hk (Or.inr (Or.inl ⟨k0, ?_⟩)))⟩, fun hn => p46 (fun e => hn ?_)⟩⟩
    · have hf : mAt a (skB B n p) 63 0 = 10 := hf
      rw [e63, h0] at hf
      exact (n10 (by omega) (by omega)).mp hf
    · show mAt a (skB B n p) 63 0 = 10
      rw [e63, h0, e.2]; rfl
end MC2
