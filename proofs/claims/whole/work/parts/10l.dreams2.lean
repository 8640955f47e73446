/-! Pure: centuries alike -/
section DRN
variable {ns s t k m : Nat} {f g h : Nat → Int32} {q c w : Int32} {a b : IA}
def CnR (ns : Nat) (x y : Cn) : Prop := x.1 = y.1 ∧ (¬ ns = 0 → x.2.1 = y.2.1) ∧ Rw ns x.2.2 y.2.2
theorem CnR.mk {c1 c2 l1 l2 : Int32} {F X : Nat → Int32} (r1 : c1 = c2) (r2 : ¬ ns = 0 → l1 = l2) (r3 : Rw ns F X) : CnR ns (c1, l1, F) (c2, l2, X) := ⟨r1, r2, r3⟩
theorem cn_step {x y : Cn} (h8 : ns ≤ 8) (hR : CnR ns x y) : CnR ns (cnS (nI ns) q x) (mCnS ns q y) := by
  obtain ⟨r1, r2, r3⟩ := hR
  by_cases h0 : ns = 0
  · obtain ⟨v, hv⟩ : ∃ v, v = nx x.2.1 := ⟨_, rfl⟩
    obtain ⟨b, hb⟩ : ∃ b, b = drB v 16 := ⟨_, rfl⟩
    rw [mCnS_0 h0, cnS_1 hv hb (Or.inr (show nI ns ≤ 0 by rw [h0]; exact Int32.le_refl _))]
    clear hv hb
    exact CnR.mk r1 (fun z => absurd h0 z) (rw_turn r3 h8).2
  · have r2 := r2 h0
    have hn : ¬ nI ns ≤ 0 := fun z => absurd ((nI_leI (b := 0) (show ns < 2 ^ 31 by omega) (by decide)).mp z) (by omega)
    obtain ⟨v, hv⟩ : ∃ v, v = nx x.2.1 := ⟨_, rfl⟩
    have hv' : v = nx y.2.1 := by rw [← r2]; exact hv
    obtain ⟨b, hb⟩ : ∃ b, b = drB v 16 := ⟨_, rfl⟩
    have hb' : b = mDm v 16 := hb.trans (drB_eq (n := 16) v (by decide) (by decide))
    by_cases hq : q ≤ b
    · rw [mCnS_1 hv' hb' h0 hq, cnS_1 hv hb (Or.inl hq)]
      clear hv hv' hb hb' hq
      exact CnR.mk r1 (fun _ => rfl) (rw_turn r3 h8).2
    · obtain ⟨u, hu⟩ : ∃ u, u = nx v := ⟨_, rfl⟩
      obtain ⟨d, hd⟩ : ∃ d, d = drB u (nI ns) := ⟨_, rfl⟩
      have hd' : d = mDm u (nI ns) := hd.trans (drB_eq u (by omega) (by omega))
      obtain ⟨i, hi, ei⟩ := mDm_n (s := u) (n := ns) (by omega) (by omega)
      have edi : d = nI i := hd'.trans ei
      obtain ⟨Q, hQ⟩ : ∃ Q, Q = lfQuar x.2.2 d := ⟨_, rfl⟩
      obtain ⟨Q2, hQ2⟩ : ∃ Q, Q = mQr y.2.2 i := ⟨_, rfl⟩
      rw [cnS_2 hv hb hu hd hQ (fun z => z.elim hq hn), mCnS_2 hv' hb' hu hd' (by rw [edi, nI_clamp (by omega)]) hQ2 h0 hq]
      have rq := rw_mQr (s := i) r3 h8 hi
      rw [edi] at hQ
      rw [← hQ, ← hQ2] at rq
      have q01 := mQr_01 y.2.2 i
      rw [← hQ2] at q01
      clear hQ hQ2 hu hv hv' hb hb' hd hd' ei edi hq
      rw [cnT, mCnT]
      refine CnR.mk ?_ (fun _ => rfl) (rw_turn rq.2 h8).2
      rw [rq.1, r1]
      rcases q01 with z | z
      · rw [z, if_pos rfl]
      · rw [z, if_neg (by decide)]
theorem lp_rel {χ χ' : Type} {R : χ → χ' → Prop} {F : χ → χ} {H : χ' → χ'} (hs : ∀ x y, R x y → R (F x) (H y)) : ∀ (n k : Nat) (x : χ) (y : χ'), R x y → R (lpM (fun _ => F) n k x) (lpM (fun _ => H) n k y)
  | 0, _, _, _, h => h
  | n + 1, k, x, y, h => lp_rel hs n (k + 1) _ _ (hs x y h)
theorem rw_cen {n : Nat} {sd : Int32} {D : Nat → Int32} (h8 : ns ≤ 8) (hR : Rw ns D (mD0 a)) : CnR ns (cnX (nI ns) q sd n D) (mCnX a ns q sd n) := by
  unfold cnX mCnX
  exact lp_rel (fun x y h => cn_step h8 h) n 0 _ _ (CnR.mk rfl (fun _ => rfl) hR)
theorem rw_cenV {n : Nat} {sd : Int32} (h8 : ns ≤ 8) (hR : Rw ns (a 44) (b 582)) {X Y : Cn} (h : CnR ns X Y) : fCn a X w = mCnV b Y ns w := by
  unfold fCn mCnV
  have e1 : rAt X.2.2 42 41 = Y.2.2 41 := (rAt_nI (k := 41) X.2.2 (by decide) (by decide)).trans h.2.2.1.2.2.2.2.2.2
  have e2 : rAt (a 44) 42 41 = b 582 41 := (rAt_nI (k := 41) (a 44) (by decide) (by decide)).trans hR.1.2.2.2.2.2.2
  rw [rw_cpl h.2.2 h8, rw_hls h.2.2 h8, e1, e2, h.1]
end DRN
