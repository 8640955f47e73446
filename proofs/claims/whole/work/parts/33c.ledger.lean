/-! Calls: undo, image, restore -/
section LGR
variable {G : GE} {a c : IA} {r : RA} {T T' L L' M M' nc ns ng t wk im wk' im' : Nat} {lw : List Int32} {ml : List Ln}
theorem Iv.led (h : Iv a r T T' L L' M M' nc ns ng t wk im lw ml) (e : ∀ q, q ≠ 0 → q ≠ 44 → q ≠ 47 → q ≠ 48 → q ≠ 49 → q ≠ 60 → q ≠ 582 → ¬ (585 ≤ q ∧ q ≤ 604) → c q = a q) (e0 : ∀ j, j ≠ 16 → c 0 j = a 0 j)
    (e60 : ∀ j, j = 1 ∨ j = 3 ∨ j = 23 ∨ j = 38 → c 60 j = a 60 j) (h16 : c 0 16 = c 60 40) (hRw : Rw ns (c 44) (c 582)) (hLg : LgI c ns wk' im') : Iv c r T T' L L' M M' nc ns ng t wk' im' lw ml := by
  obtain ⟨hR, ⟨t6, t1, t2, tb⟩, ⟨w1, w2, w3, w4, w5⟩, hL, hP, hG, c1, c2, c3, c4, c5⟩ := h
  have hW : WoI c T nc ns ng := by
    have h8 := w1.1.2.2.2.1
    have h10 := w1.1.2.1
    have tc : ∀ q, twC T q → c q = a q := fun q hq => by
      have := twC.le hR.2.1 hq
      exact e q (by omega) (by omega) (by omega) (by omega) (by omega) (by omega) (by omega) (by omega)
    have eT : c T = a T := tc T (by unfold twC; omega)
    have e64 : c 64 = a 64 := tc 64 (by unfold twC; omega)
    refine ⟨w1.fr tc, ?_, fun k hk => ?_, fun s hs => ?_, hRw⟩
    · unfold Tl
      rw [eT, e64]
      exact w2
    · rw [tc (76 + 1 + k) (by unfold twC; omega)]; exact w3 k hk
    · rw [tc (96 + 1 + s) (by unfold twC; omega)]; exact w4 s hs
  refine ⟨hR, ⟨t6, (e0 1 (by decide)).trans t1, (e60 1 (by omega)).trans t2, fun i hi => ?_⟩, hW, hL.fr (e _ ?_ ?_ ?_ ?_ ?_ ?_ ?_ ?_) (e _ ?_ ?_ ?_ ?_ ?_ ?_ ?_ ?_) (e60 _ (by omega)) (fun q h1 h2 => e q (by omega) (by omega) (by omega) (by omega) (by omega) (by omega) (by omega) (by omega)), hP.fr (fun k hk => e _ ?_ ?_ ?_ ?_ ?_ ?_ ?_ ?_) (e60 _ (by omega)) (fun q h1 h2 => e q (by omega) (by omega) (by omega) (by omega) (by omega) (by omega) (by omega) (by omega)), hLg, h16, ?_, ?_, ?_, ?_⟩
  · rw [e 1 (by decide) (by decide) (by decide) (by decide) (by decide) (by decide) (by decide) (by decide), e 61 (by decide) (by decide) (by decide) (by decide) (by decide) (by decide) (by decide) (by decide)]
    exact tb i hi
  all_goals first
    | (rcases hR.2.2.2.2.2.2.1 with rfl | rfl <;> omega)
    | (rcases hR.2.2.2.2.2.2.2.2.2.2.2.1 with rfl | rfl <;> omega)
    | skip
  · rw [e0 17 (by decide), e 62 (by decide) (by decide) (by decide) (by decide) (by decide) (by decide) (by decide) (by decide)]; exact c2
  · rw [e0 18 (by decide), e 62 (by decide) (by decide) (by decide) (by decide) (by decide) (by decide) (by decide) (by decide)]; exact c3
  · rw [e0 19 (by decide), e 62 (by decide) (by decide) (by decide) (by decide) (by decide) (by decide) (by decide) (by decide)]; exact c4
  · rw [e 2 (by decide) (by decide) (by decide) (by decide) (by decide) (by decide) (by decide) (by decide), e60 3 (by omega)]; exact c5
theorem p_undo (h : Iv a r T T' L L' M M' nc ns ng t wk im lw ml) : Sp G 40 0 0 MX11_undo [.ref 0] (a, r, nK) (RI (PK G MX12_undo [])) := by
  have n8 := h.n8
  obtain ⟨g1, g2, g3, g4, g5, g6, g7, g8⟩ := h.2.2.2.2.2.1
  refine Sp.up (by decide) (c_undo (d := 0) h.rk g1 g2 (fun hk => ⟨rfl, ?_⟩) (fun hk => ⟨rfl, ?_⟩))
  · exact Sp.up (by decide) (c_mUndo (d := 0) h.rk g3 g2 (fun _ => ⟨rfl, rfl, h.z.inv⟩) (fun z => by omega))
  obtain ⟨k, rfl⟩ : ∃ k, wk = k + 1 := ⟨wk - 1, by omega⟩
  rw [show k + 1 - 1 = k by omega]
  have b60 : ∀ q, q ≠ 0 → q ≠ 44 → q ≠ 47 → u2 (lgTake a k) 0 16 0 q = a q := fun q h0 h1 h2 => by
    unfold lgTake
    rw [u2_off q h0, va_up_ne _ _ h1, u2_off q h2]
  refine Sp.up (by decide) (c_mUndo (d := 0) h.rk (by rw [b60 60 (by decide) (by decide) (by decide)]; exact g3) g2 (fun z => by omega) (fun _ => ⟨rfl, rfl, ?_⟩))
  rw [show k + 1 - 1 = k by omega]
  have b47 : ∀ j, u2 (lgTake a k) 0 16 0 47 j = if j = 2 then nI k else a 47 j := fun j => by
    unfold lgTake
    rw [u2_off 47 (by decide), va_up_ne _ _ (by decide), u2_at0]
    by_cases z : j = 2
    · rw [if_pos ⟨rfl, z⟩, if_pos z]
    · rw [if_neg (fun y => z y.2), if_neg z]
  have b44 : ∀ j, j < 42 → u2 (lgTake a k) 0 16 0 44 j = a 48 (k * 42 + j) := fun j hj => by
    unfold lgTake
    rw [u2_off 44 (by decide), va_up_self, if_pos hj]
  have b0 : ∀ j, u2 (lgTake a k) 0 16 0 0 j = if j = 16 then 0 else a 0 j := fun j => by
    unfold lgTake
    by_cases z : j = 16
    · rw [if_pos z, u2_is rfl z]
    · rw [if_neg z, u2_no (by omega), va_up_ne _ _ (by decide), u2_no (by omega)]
  generalize u2 (lgTake a k) 0 16 0 = b at b60 b47 b44 b0
  have cq : ∀ q, q ≠ 60 → q ≠ 582 → u2 (va_up (u2 (u2 b 60 0 0) 60 39 (nI k)) 582 (fun j => if j < 42 then b (584 + 1 + k) j else b 582 j)) 60 40 0 q = b q := fun q h1 h2 => by
    rw [u2_off q h1, va_up_ne _ _ h2, u2_off q h1, u2_off q h1]
  have c60 : ∀ j, j ≠ 0 → j ≠ 39 → j ≠ 40 → u2 (va_up (u2 (u2 b 60 0 0) 60 39 (nI k)) 582 (fun j => if j < 42 then b (584 + 1 + k) j else b 582 j)) 60 40 0 60 j = b 60 j := fun j h1 h2 h3 => by
    rw [u2_no (by omega), va_up_ne _ _ (by decide), u2_no (by omega), u2_no (by omega)]
  have c39 : u2 (va_up (u2 (u2 b 60 0 0) 60 39 (nI k)) 582 (fun j => if j < 42 then b (584 + 1 + k) j else b 582 j)) 60 40 0 60 39 = nI k := by
    rw [u2_no (by omega), va_up_ne _ _ (by decide), u2_is rfl rfl]
  have c40 : u2 (va_up (u2 (u2 b 60 0 0) 60 39 (nI k)) 582 (fun j => if j < 42 then b (584 + 1 + k) j else b 582 j)) 60 40 0 60 40 = 0 := u2_is rfl rfl
  have c582 : ∀ j, j < 42 → u2 (va_up (u2 (u2 b 60 0 0) 60 39 (nI k)) 582 (fun j => if j < 42 then b (584 + 1 + k) j else b 582 j)) 60 40 0 582 j = b (584 + 1 + k) j := fun j hj => by
    rw [u2_off 582 (by decide), va_up_self, if_pos hj]
  generalize u2 (va_up (u2 (u2 b 60 0 0) 60 39 (nI k)) 582 (fun j => if j < 42 then b (584 + 1 + k) j else b 582 j)) 60 40 0 = d at cq c60 c39 c40 c582
  have dq : ∀ q, q ≠ 0 → q ≠ 44 → q ≠ 47 → q ≠ 60 → q ≠ 582 → d q = a q := fun q h1 h2 h3 h4 h5 => (cq q h4 h5).trans (b60 q h1 h2 h3)
  refine (h.led (c := d) (wk' := k) (im' := im) (fun q h1 h2 h3 _ _ h6 h7 _ => dq q h1 h2 h3 h6 h7) (fun j hj => ?_) (fun j hj => ?_) ?_ ?_ ⟨?_, by omega, c39, ?_, g5, ?_, fun w hw => ?_, fun i hi => ?_⟩).inv
  · rw [cq 0 (by decide) (by decide), b0, if_neg hj]
  · rw [c60 j (by omega) (by omega) (by omega), b60 60 (by decide) (by decide) (by decide)]
  · rw [cq 0 (by decide) (by decide), b0, if_pos rfl, c40]
  · refine (g7 k (by omega)).lo n8 (fun j hj => ?_) (fun j hj => ?_)
    · rw [cq 44 (by decide) (by decide), b44 j hj]
    · rw [c582 j hj, b60 _ (by omega) (by omega) (by omega)]
  · rw [cq 47 (by decide) (by decide), b47, if_pos rfl]
  · rw [cq 47 (by decide) (by decide), b47, if_neg (by decide)]; exact g4
  · rw [c60 41 (by decide) (by decide) (by decide), b60 60 (by decide) (by decide) (by decide)]; exact g6
  · rw [dq 48 (by decide) (by decide) (by decide) (by decide) (by decide), dq (584 + 1 + w) (by omega) (by omega) (by omega) (by omega) (by omega)]; exact g7 w (by omega)
  · unfold ImI
    rw [dq 49 (by decide) (by decide) (by decide) (by decide) (by decide), dq (601 + 1 + i) (by omega) (by omega) (by omega) (by omega) (by omega)]; exact g8 i hi
theorem p_image (h : Iv a r T T' L L' M M' nc ns ng t wk im lw ml) : Sp G 40 0 0 MX11_image [.ref 0] (a, r, nK) (RI (PK G MX12_image [])) := by
  have n8 := h.n8
  have hRw := h.rw
  obtain ⟨g1, g2, g3, g4, g5, g6, g7, g8⟩ := h.2.2.2.2.2.1
  refine Sp.up (by decide) (c_image (d := 0) h.rk g1 g2 g4 g5 (fun hi => ⟨rfl, ?_⟩) (fun hi => ⟨rfl, ?_⟩))
  · exact Sp.up (by decide) (c_mImage (d := 0) h.rk g6 g5 (fun _ => ⟨rfl, rfl, h.z.inv⟩) (fun z => by omega))
  have bq : ∀ q, q ≠ 47 → q ≠ 49 → lgImage a wk im q = a q := fun q h1 h2 => by
    unfold lgImage
    rw [u2_off q h1, va_up_ne _ _ h2]
  have b47 : ∀ j, lgImage a wk im 47 j = if j = 3 then nI (im + 1) else a 47 j := fun j => by
    unfold lgImage
    rw [u2_at0, va_up_ne _ _ (by decide)]
    by_cases z : j = 3
    · rw [if_pos ⟨rfl, z⟩, if_pos z]
    · rw [if_neg (fun y => z y.2), if_neg z]
  have b49 : ∀ j, lgImage a wk im 49 j = im3 a wk im j := fun j => by
    unfold lgImage
    rw [u2_off 49 (by decide), va_up_self]
  generalize lgImage a wk im = b at bq b47 b49
  refine Sp.up (by decide) (c_mImage (d := 0) h.rk (by rw [bq 60 (by decide) (by decide)]; exact g6) g5 (fun z => by omega) (fun _ d d1 d2 _ d4 d5 => ⟨rfl, rfl, ?_⟩))
  have dq : ∀ q, q ≠ 47 → q ≠ 49 → q ≠ 60 → q ≠ 601 + 1 + im → d q = a q := fun q h1 h2 h3 h4 => (d1 q h3 h4).trans (bq q h1 h2)
  have d49 : ∀ j, d 49 j = im3 a wk im j := fun j => by rw [d1 49 (by decide) (by omega)]; exact b49 j
  have low : ∀ j, j < im * 715 → im3 a wk im j = a 49 j := fun j hj => by
    unfold im3 im2 im1
    rw [if_neg (by omega), if_neg (by omega), upd_ne (by omega)]
  refine (h.led (c := d) (wk' := wk) (im' := im + 1) (fun q _ _ h3 _ h5 h6 _ h8 => dq q h3 h5 h6 (by omega)) (fun j hj => ?_) (fun j hj => ?_) ?_ ?_ ⟨?_, g2, ?_, ?_, by omega, d4, fun w hw => ?_, fun i hi => ?_⟩).inv
  · rw [dq 0 (by decide) (by decide) (by decide) (by omega)]
  · rw [d2 j (by omega) (by omega) (by omega), bq 60 (by decide) (by decide)]
  · rw [dq 0 (by decide) (by decide) (by decide) (by omega), d2 40 (by decide) (by decide) (by decide), bq 60 (by decide) (by decide)]; exact h.2.2.2.2.2.2.1
  · rw [dq 44 (by decide) (by decide) (by decide) (by omega), dq 582 (by decide) (by decide) (by decide) (by omega)]; exact hRw
  · rw [d1 47 (by decide) (by omega), b47, if_neg (by decide)]; exact g1
  · rw [d2 39 (by decide) (by decide) (by decide), bq 60 (by decide) (by decide)]; exact g3
  · rw [d1 47 (by decide) (by omega), b47, if_pos rfl]
  · rw [dq 48 (by decide) (by decide) (by decide) (by omega), dq (584 + 1 + w) (by omega) (by omega) (by omega) (by omega)]; exact g7 w hw
  · by_cases c : i = im
    · subst c
      refine ⟨wk, g2, ?_, ?_, ?_, fun w hw => ?_⟩
      · rw [d49]
        unfold im3 im2 im1
        rw [if_neg (by omega), if_neg (by omega), upd_eq]
      · rw [d5 0 (by omega)]
        unfold imgV
        rw [if_pos rfl, bq 60 (by decide) (by decide)]; exact g3
      · refine hRw.lo n8 (fun j hj => ?_) (fun j hj => ?_)
        · show d 49 (i * 715 + 1 + j) = a 44 j
          rw [d49]
          unfold im3 im2
          rw [if_neg (by omega), if_pos (by omega), show i * 715 + 1 + j - (i * 715 + 1) = j by omega]
        · show d (601 + 1 + i) (1 + j) = a 582 j
          rw [d5 (1 + j) (by omega)]
          unfold imgV
          rw [if_neg (by omega), if_pos (by omega), show 1 + j - 1 = j by omega, bq 582 (by decide) (by decide)]
      · refine (g7 w hw).lo n8 (fun j hj => ?_) (fun j hj => ?_)
        · show d 49 (i * 715 + 43 + w * 42 + j) = a 48 (w * 42 + j)
          rw [d49]
          unfold im3
          rw [if_pos (by omega), show i * 715 + 43 + w * 42 + j - (i * 715 + 43) = w * 42 + j by omega]
        · show d (601 + 1 + i) (43 + 42 * w + j) = a (584 + 1 + w) j
          rw [d5 (43 + 42 * w + j) (by omega)]
          unfold imgV
          rw [if_neg (by omega), if_neg (by omega), show (43 + 42 * w + j - 43) / 42 = w by omega, show (43 + 42 * w + j - 43) % 42 = j by omega, bq _ (by omega) (by omega)]
    · obtain ⟨k, k1, k2, k3, k4, k5⟩ := g8 i (by omega)
      have e602 : d (601 + 1 + i) = a (601 + 1 + i) := dq _ (by omega) (by omega) (by omega) (by omega)
      refine ⟨k, k1, ?_, by rw [e602]; exact k3, ?_, fun w hw => ?_⟩
      · rw [d49, low _ (by omega)]; exact k2
      · refine k4.lo n8 (fun j hj => ?_) (fun j hj => by rw [e602])
        show d 49 (i * 715 + 1 + j) = _
        rw [d49, low _ (by omega)]
      · refine (k5 w hw).lo n8 (fun j hj => ?_) (fun j hj => by rw [e602])
        show d 49 (i * 715 + 43 + w * 42 + j) = _
        rw [d49, low _ (by omega)]
theorem p_restore (h : Iv a r T T' L L' M M' nc ns ng t wk im lw ml) : Sp G 40 0 0 MX11_restore [.ref 0] (a, r, nK) (RI (PK G MX12_restore [])) := by
  have n8 := h.n8
  obtain ⟨g1, g2, g3, g4, g5, g6, g7, g8⟩ := h.2.2.2.2.2.1
  by_cases h0 : im = 0
  · refine Sp.up (by decide) (c_restore (k := 0) (d := 0) h.rk g4 g5 (fun z => by omega) (by omega) (fun _ => ⟨rfl, ?_⟩) (fun z => by omega))
    exact Sp.up (by decide) (c_mRestore (d := 0) h.rk g6 g5 (fun _ => ⟨rfl, rfl, h.z.inv⟩) (fun z => by omega))
  obtain ⟨i, rfl⟩ : ∃ i, im = i + 1 := ⟨im - 1, by omega⟩
  obtain ⟨k, k1, k2, k3, k4, k5⟩ := g8 i (by omega)
  refine Sp.up (by decide) (c_restore (k := k) (d := 0) h.rk g4 g5 (fun _ => by rw [show i + 1 - 1 = i by omega]; exact k2) k1 (fun z => by omega) (fun _ => ⟨rfl, ?_⟩))
  rw [show i + 1 - 1 = i by omega]
  have bq : ∀ q, q ≠ 0 → q ≠ 44 → q ≠ 47 → q ≠ 48 → u2 (lgBack a k i) 0 16 0 q = a q := fun q h1 h2 h3 h4 => by
    unfold lgBack
    rw [u2_off q h1, va_up_ne _ _ h4, va_up_ne _ _ h2, u2_off q h3, u2_off q h3]
  have b0 : ∀ j, u2 (lgBack a k i) 0 16 0 0 j = if j = 16 then 0 else a 0 j := fun j => by
    unfold lgBack
    by_cases z : j = 16
    · rw [if_pos z, u2_is rfl z]
    · rw [if_neg z, u2_no (by omega), va_up_ne _ _ (by decide), va_up_ne _ _ (by decide), u2_no (by omega), u2_no (by omega)]
  have b47 : u2 (lgBack a k i) 0 16 0 47 2 = nI k ∧ u2 (lgBack a k i) 0 16 0 47 3 = nI i := by
    unfold lgBack
    rw [u2_off 47 (by decide), va_up_ne _ _ (by decide), va_up_ne _ _ (by decide)]
    exact ⟨u2_is rfl rfl, by rw [u2_no (by omega), u2_is rfl rfl]⟩
  have b44 : ∀ j, j < 42 → u2 (lgBack a k i) 0 16 0 44 j = a 49 (i * 715 + 1 + j) := fun j hj => by
    unfold lgBack
    rw [u2_off 44 (by decide), va_up_ne _ _ (by decide), va_up_self, if_pos hj]
  have b48 : ∀ j, j < k * 42 → u2 (lgBack a k i) 0 16 0 48 j = a 49 (i * 715 + 43 + j) := fun j hj => by
    unfold lgBack
    rw [u2_off 48 (by decide), va_up_self, if_pos hj]
  generalize u2 (lgBack a k i) 0 16 0 = b at bq b0 b47 b44 b48
  refine Sp.up (by decide) (c_mRestore (d := 0) h.rk (by rw [bq 60 (by decide) (by decide) (by decide) (by decide)]; exact g6) g5 (fun z => by omega) (fun _ d d1 d2 _ d4 d5 d6 d7 d8 => ⟨rfl, ?_, ?_⟩))
  · rw [show i + 1 - 1 = i by omega]
  rw [show i + 1 - 1 = i by omega] at d5 d6 d7 d8
  have e602 : b (601 + 1 + i) = a (601 + 1 + i) := bq _ (by omega) (by omega) (by omega) (by omega)
  rw [e602] at d6 d7 d8
  have dq : ∀ q, q ≠ 0 → q ≠ 44 → q ≠ 47 → q ≠ 48 → q ≠ 60 → q ≠ 582 → ¬ (585 ≤ q ∧ q ≤ 600) → d q = a q := fun q h1 h2 h3 h4 h5 h6 h7 => (d1 q h5 h6 h7).trans (bq q h1 h2 h3 h4)
  refine (h.led (c := d) (wk' := k) (im' := i) (fun q h1 h2 h3 h4 _ h6 h7 h8 => dq q h1 h2 h3 h4 h6 h7 (by omega)) (fun j hj => ?_) (fun j hj => ?_) ?_ ?_ ⟨?_, k1, ?_, ?_, by omega, d5, fun w hw => ?_, fun i' hi => ?_⟩).inv
  · rw [d1 0 (by decide) (by decide) (by omega), b0, if_neg hj]
  · rw [d2 j (by omega) (by omega) (by omega) (by omega) (by omega), bq 60 (by decide) (by decide) (by decide) (by decide)]
  · rw [d1 0 (by decide) (by decide) (by omega), b0, if_pos rfl, d4]
  · refine k4.lo n8 (fun j hj => ?_) (fun j hj => d7 j hj)
    rw [d1 44 (by decide) (by decide) (by omega), b44 j hj]
  · rw [d1 47 (by decide) (by decide) (by omega)]; exact b47.1
  · exact d6.trans k3
  · rw [d1 47 (by decide) (by decide) (by omega)]; exact b47.2
  · refine (k5 w hw).lo n8 (fun j hj => ?_) (fun j hj => d8 w j (by omega) hj)
    show d 48 (w * 42 + j) = a 49 (i * 715 + 43 + w * 42 + j)
    rw [d1 48 (by decide) (by decide) (by omega), b48 (w * 42 + j) (by omega), show i * 715 + 43 + (w * 42 + j) = i * 715 + 43 + w * 42 + j by omega]
  · unfold ImI
    rw [dq 49 (by decide) (by decide) (by decide) (by decide) (by decide) (by decide) (by omega), dq (601 + 1 + i') (by omega) (by omega) (by omega) (by omega) (by omega) (by omega) (by omega)]; exact g8 i' (by omega)
end LGR
