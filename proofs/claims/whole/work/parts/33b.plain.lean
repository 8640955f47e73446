/-! Calls that nothing refuses, but those that change what is kept -/
section PLN
variable {G : GE} {a b : IA} {r : RA} {T T' L L' M M' nc ns ng t wk im : Nat} {lw : List Int32} {ml : List Ln} {x v1 v2 v3 v4 v5 : Int32}
theorem p_fault (h : Iv a r T T' L L' M M' nc ns ng t wk im lw ml) : Sp G 40 0 0 MX11_fault [.ref 0] (a, r, nK) (RI (PK G MX12_fault [])) :=
  Sp.up (by decide) (c_fault (d := 0) h.rk ⟨rfl, Sp.up (by decide) (c_mFault (d := 0) ⟨rfl, h.2.2.2.2.2.2.2.2.2.2, h.z.inv⟩)⟩)
theorem p_status (h : Iv a r T T' L L' M M' nc ns ng t wk im lw ml) : Sp G 40 0 0 MX11_status [.ref 0, .int x] (a, r, nK) (RI (PK G MX12_status [.int x])) := by
  obtain ⟨_, c2, c3, c4, _⟩ := h.2.2.2.2.2.2
  refine Sp.up (by decide) (c_status (d := 0) ⟨rfl, Sp.up (by decide) (c_mStatus (d := 0) h.rk (fun i hi e => ⟨rfl, ?_, h.z.inv⟩) (fun hx => ⟨rfl, ?_, h.z.inv⟩))⟩)
  · have : i = 0 ∨ i = 1 ∨ i = 2 := by omega
    rcases this with rfl | rfl | rfl <;> subst e
    · exact c2
    · exact c3
    · exact c4
  · unfold fSt
    rw [if_neg (fun e => hx (by rw [e]; exact ⟨by decide, by decide⟩)), if_neg (fun e => hx (by rw [e]; exact ⟨by decide, by decide⟩)), if_neg (fun e => hx (by rw [e]; exact ⟨by decide, by decide⟩))]
theorem p_count (h : Iv a r T T' L L' M M' nc ns ng t wk im lw ml) : Sp G 40 0 0 MX11_count [.ref 0, .int x] (a, r, nK) (RI (PK G MX12_count [.int x])) := by
  obtain ⟨g1, _, g3, g4, _, g6, _⟩ := h.2.2.2.2.2.1
  obtain ⟨_, t1, t2, _⟩ := h.2.1
  refine Sp.up (by decide) (c_count (d := 0) h.rk ⟨rfl, Sp.up (by decide) (c_mCount (d := 0) ⟨rfl, ?_, h.z.inv⟩)⟩)
  unfold fCo
  rw [g1, g3, g4, g6, t1, t2]
theorem p_stable (h : Iv a r T T' L L' M M' nc ns ng t wk im lw ml) : Sp G 40 0 0 MX11_stable [.ref 0] (a, r, nK) (RI (PK G MX12_stable [])) := by
  refine Sp.up (by decide) (c_stable (d := 0) h.rk h.ct h.hl (fun a1 ha1 => ⟨rfl, ?_⟩))
  have hf : Fr L a a1 := Fr.keep ha1 h.il
  have h1 := h.fr hf
  refine Sp.up (by decide) (c_mStableF (d := 0) h1.rk h1.mq (fun a2 b1 b2 => ⟨rfl, ?_, (h1.z.fr (Fr.mx b1 b2)).inv⟩))
  exact ((XM_cg ((hf.tr Fr.z).ca h.il h.ic) h.n8).tr (tw_XM h1.z.tw h1.z.rw)).1
theorem p_best (h : Iv a r T T' L L' M M' nc ns ng t wk im lw ml) : Sp G 40 0 0 MX11_best [.ref 0] (a, r, nK) (RI (PK G MX12_best [])) := by
  refine Sp.up (by decide) (c_best (d := 0) h.rk h.ct h.hl (fun a1 ha1 => ⟨rfl, ?_⟩))
  have hf : Fr L a a1 := Fr.keep ha1 h.il
  have h1 := h.fr hf
  refine Sp.up (by decide) (c_mBestF (d := 0) h1.rk h1.mq (fun a2 b1 b2 => ⟨rfl, ?_, (h1.z.fr (Fr.mx b1 b2)).inv⟩))
  exact ((XM_cg ((hf.tr Fr.z).ca h.il h.ic) h.n8).tr (tw_XM h1.z.tw h1.z.rw)).2.1
theorem p_tempted (h : Iv a r T T' L L' M M' nc ns ng t wk im lw ml) : Sp G 40 0 0 MX11_tempted [.ref 0] (a, r, nK) (RI (PK G MX12_tempted [])) := by
  refine Sp.up (by decide) (c_tempted (d := 0) h.rk h.ct h.hl (fun h9 => ⟨rfl, ?_⟩))
  have hf : Fr L a (va_up a (L + 2) h9) := Fr.up (Or.inl rfl) (by rcases h.il with rfl | rfl <;> decide)
  have h1 := h.fr hf
  have hc := (hf.tr Fr.z).ca h.il h.ic
  refine Sp.up (by decide) (c_mTemptedF (d := 0) h1.rk h1.mq (fun a2 b1 => ⟨rfl, ?_, (h1.z.fr (Fr.q5 b1)).inv⟩))
  rw [← tw_tempted h1.z.tw h1.z.rw]
  exact tp1_cg (fun s o _ _ => (fTm_cg hc).symm) ns 0 (by omega)
theorem p_even (h : Iv a r T T' L L' M M' nc ns ng t wk im lw ml) : Sp G 40 0 0 MX11_even [.ref 0] (a, r, nK) (RI (PK G MX12_even [])) := by
  refine Sp.up (by decide) (c_even (d := 0) h.rk h.ct ⟨rfl, Sp.up (by decide) (c_mEvenF (d := 0) h.rk h.mc ⟨rfl, ?_, h.z.inv⟩)⟩)
  rw [← evX_cg (Fr.z.ca h.il h.ic), tw_evenX h.z.tw]
theorem p_lane (h : Iv a r T T' L L' M M' nc ns ng t wk im lw ml) : Sp G 40 0 0 MX11_lane [.ref 0] (a, r, nK) (RI (PK G MX12_lane [])) := by
  refine Sp.up (by decide) (c_lane (d := 0) h.rk h.ct ⟨rfl, Sp.up (by decide) (c_mLaneF (d := 0) h.rk ⟨rfl, ?_, h.z.inv⟩)⟩)
  rw [← lnN_cg (Fr.z.ca h.il h.ic), tw_lane h.z.tl h.z.rw]
theorem p_stop (h : Iv a r T T' L L' M M' nc ns ng t wk im lw ml) : Sp G 40 0 0 MX11_stop [.ref 0] (a, r, nK) (RI (PK G MX12_stop [])) := by
  refine Sp.up (by decide) (c_stop (d := 0) h.rk h.ct ⟨rfl, Sp.up (by decide) (c_mStopF (d := 0) h.rk h.mc ⟨rfl, ?_, h.z.inv⟩)⟩)
  rw [← stX_cg (Fr.z.ca h.il h.ic), tw_stop h.z.tw h.z.tl h.z.rw]
theorem p_feed (h : Iv a r T T' L L' M M' nc ns ng t wk im lw ml) : Sp G 40 0 0 MX11_feed [.ref 0, .int v1, .int v2, .int v3, .int v4, .int v5] (a, r, nK) (RI (PK G MX12_feed [.int v1, .int v2, .int v3, .int v4, .int v5])) := by
  obtain ⟨t6, t1, t2, tb⟩ := h.2.1
  refine Sp.up (by decide) (c_feed (d := 0) h.rk t1 t6 (fun ht => ⟨rfl, ?_⟩) (fun ht => ⟨rfl, ?_⟩))
  · have ea : ∀ q, q ≠ 0 → q ≠ 1 → tp20 a t v1 v2 v3 v4 v5 q = a q := fun q h0 h1 => funext fun j => tp20_o (fun z => h0 z.1) (fun z => h1 z.1)
    refine Sp.up (by decide) (c_mFeed (d := 0) h.rk (by rw [ea 60 (by decide) (by decide)]; exact t2) t6 (fun _ b hb => ⟨rfl, rfl, ?_⟩) (fun z => absurd ht z))
    obtain ⟨b1, b2, b3, b4, b5, b6⟩ := hb
    have e : ∀ q, q ≠ 0 → q ≠ 1 → q ≠ 60 → q ≠ 61 → b q = a q := fun q h0 h1 h2 h3 => (b1 q h2 h3).trans (ea q h0 h1)
    have e60 : ∀ j, j ≠ 0 → j ≠ 1 → b 60 j = a 60 j := fun j h0 h1 => (b2 j h0 h1).trans (by rw [ea 60 (by decide) (by decide)])
    have e0 : ∀ j, j ≠ 1 → b 0 j = a 0 j := fun j h1 => by rw [b1 0 (by decide) (by decide)]; exact tp20_o (fun z => h1 z.2) (fun z => absurd z.1 (by decide))
    obtain ⟨hR, _, hW, hL, hP, hG, c1, c2, c3, c4, c5⟩ := h
    refine Iv.inv (T := T) (T' := T') (L := L) (L' := L') (M := M) (M' := M') (nc := nc) (ns := ns) (ng := ng) (t := t + 20) (wk := wk) (im := im) (lw := lw) (ml := ml) ⟨hR, ⟨ht, ?_, b4, fun i hi => ?_⟩, hW.fr (fun q hq => by have := twC.le hR.2.1 hq; exact e q (by omega) (by omega) (by omega) (by omega)) (e 44 (by decide) (by decide) (by decide) (by decide)) (e 582 (by decide) (by decide) (by decide) (by decide)), hL.fr (e _ ?_ ?_ ?_ ?_) (e _ ?_ ?_ ?_ ?_) (e60 _ (by decide) (by decide)) (fun q h1 h2 => e q (by omega) (by omega) (by omega) (by omega)), hP.fr (fun k hk => e _ ?_ ?_ ?_ ?_) (e60 _ (by decide) (by decide)) (fun q h1 h2 => e q (by omega) (by omega) (by omega) (by omega)), hG.fr ?_ (e _ (by decide) (by decide) (by decide) (by decide)) (e _ (by decide) (by decide) (by decide) (by decide)) ⟨e60 _ (by decide) (by decide), e60 _ (by decide) (by decide)⟩ (fun q h1 h2 => e q (by omega) (by omega) (by omega) (by omega)), ?_, ?_, ?_, ?_, ?_⟩
    · rw [b1 0 (by decide) (by decide)]; exact tp20_t
    · have e1 : ∀ j, b 1 j = tp20 a t v1 v2 v3 v4 v5 1 j := fun j => by rw [b1 1 (by decide) (by decide)]
      by_cases c : i < t
      · rw [e1, tp20_o (fun z => absurd z.1 (by decide)) (fun z => by omega), b5 i c, ea 61 (by decide) (by decide)]
        exact tb i c
      · obtain ⟨k, rfl⟩ : ∃ k, i = t + k := ⟨i - t, by omega⟩
        rw [e1, tp20_1 (by omega), b6 k (by omega)]
        exact t4_ok (by omega)
    all_goals first
      | (rcases hR.2.2.2.2.2.2.1 with rfl | rfl <;> omega)
      | (rcases hR.2.2.2.2.2.2.2.2.2.2.2.1 with rfl | rfl <;> omega)
      | skip
    · rw [e 47 (by decide) (by decide) (by decide) (by decide)]; exact ⟨rfl, rfl⟩
    · rw [e0 16 (by decide), e60 40 (by decide) (by decide)]; exact c1
    · rw [e0 17 (by decide), e 62 (by decide) (by decide) (by decide) (by decide)]; exact c2
    · rw [e0 18 (by decide), e 62 (by decide) (by decide) (by decide) (by decide)]; exact c3
    · rw [e0 19 (by decide), e 62 (by decide) (by decide) (by decide) (by decide)]; exact c4
    · rw [e 2 (by decide) (by decide) (by decide) (by decide), e60 3 (by decide) (by decide)]; exact c5
  · exact Sp.up (by decide) (c_mFeed (d := 0) h.rk t2 t6 (fun z => absurd z ht) (fun _ => ⟨rfl, rfl, h.z.inv⟩))
end PLN
