/-! The law: from its entry, with nothing made yet -/
section LST
variable {G : GE} {C S : Nat} {a1 a2 : IA}
theorem aCls_q {q : Nat} (h2 : q ≠ 2) (h3 : ¬ (3 ≤ q ∧ q ≤ 26)) (h44 : q ≠ 44) : aCls q = fun _ => 0 := by
  unfold aCls
  rw [va_up_ne _ _ h44, ctClear_off q (by omega), ctClear_off q (by omega), u2_off q h2]
theorem aCls_T {k : Nat} (hk : k ≤ 11) : aCls (3 + k) = ctClear (u2 a0H 2 5 (-1)) 3 (3 + k) := by
  unfold aCls
  rw [va_up_ne _ _ (by omega), ctClear_off (T := 15) (3 + k) (by omega)]
theorem aCls_2 : aCls 2 5 = -1 := by
  unfold aCls
  rw [va_up_ne _ _ (by decide), ctClear_off (T := 15) 2 (by omega), ctClear_off (T := 3) 2 (by omega), u2_is rfl rfl]
theorem aCls_44 : ∃ F : Nat → Int32, (∀ j, j < 42 → F j = 0) ∧ aCls 44 = lfBegin aCls 3 F 8 := by
  refine ⟨fun j => if j < 42 then 0 else ctClear (ctClear (u2 a0H 2 5 (-1)) 3) 15 44 j, fun j hj => if_pos hj, ?_⟩
  rw [lfBegin_cg (a := ctClear (ctClear (u2 a0H 2 5 (-1)) 3) 15) (a' := aCls) (T := 3) (by unfold aCls; rw [va_up_ne _ _ (by decide)]) (by unfold aCls; rw [va_up_ne _ _ (by decide)])]
  unfold aCls
  rw [va_up_self]
theorem inv_0 (h1 : mCl (u2 aCls 60 3 (-1)) a1) (h2 : mStd 0 0 0 a1 a2) : Inv a2 (mkR lc_91) := by
  have k1 := mCl_K h1
  obtain ⟨z1, z2, z3, z4, z5, z6, z7, z8, z9, z10⟩ := h2
  have e : ∀ q, q ≠ 60 → mS q = false → mT q = false → a2 q = aCls q := fun q h3 h4 h5 => (z1 q h3 h5).trans ((k1.1 q h3 h4).trans (u2_off q h3))
  have e60 : ∀ j, mZ j = false → a2 60 j = u2 aCls 60 3 (-1) 60 j := fun j hj => (z2 j hj).trans (congrFun (h1.1 60 (by decide) (by omega) (by omega)) j)
  have z : ∀ q, q ≠ 60 → q ≠ 2 → ¬ (3 ≤ q ∧ q ≤ 26) → q ≠ 44 → mS q = false → mT q = false → ∀ j, a2 q j = 0 := fun q q1 q2 q3 q4 q5 q6 j => by rw [e q q1 q5 q6, aCls_q q2 q3 q4]
  have rd := RdR.z (a := u2 a0H 2 5 (-1)) (T := 3) h1
  have hW := rd.tw (c := a2) (fun k hk => (e (3 + k) (by omega) (mS_g (by omega)) (mT_g (by omega))).trans (aCls_T hk)) z4 z5 z6 z7 z8 z9
  obtain ⟨F, hF, b44⟩ := aCls_44
  have e44 : a2 44 = lfBegin a2 3 F 8 := by
    rw [e 44 (by decide) (mS_g (by omega)) (mT_g (by omega)), b44]
    exact (lfBegin_cg (e 3 (by decide) (mS_g (by omega)) (mT_g (by omega))) (e (3 + 6) (by decide) (mS_g (by omega)) (mT_g (by omega))) F 8).symm
  have hRw : Rw 0 (a2 44) (a2 582) := by
    rw [e44]
    refine rw_begin hW.1 hF (fun j hj => ?_)
    rw [z10 j hj]
    by_cases q1 : j < 8
    · rw [if_pos q1, if_pos q1]
    · rw [if_neg q1, if_neg q1, if_neg (by omega), if_neg (by omega)]
  refine ⟨3, 15, 27, 30, 33, 36, 0, 0, 0, 0, 0, 0, [], [], ⟨rk_all, Or.inl rfl, Or.inr rfl, by decide, mkR_get (by decide +kernel), mkR_get (by decide +kernel), Or.inl rfl, Or.inr rfl, by decide, mkR_get (by decide +kernel), mkR_get (by decide +kernel), Or.inl rfl, Or.inr rfl, by decide, mkR_get (by decide +kernel), mkR_get (by decide +kernel)⟩,
    ⟨by omega, ?_, ?_, fun i hi => absurd hi (by omega)⟩, ⟨hW.1, hW.2.1, hW.2.2.1, hW.2.2.2, hRw⟩, ⟨⟨?_, fun i v hi => by simp at hi⟩, ⟨?_, fun i v hi => by simp at hi⟩, by decide, Or.inl rfl⟩, ⟨⟨?_, by decide, fun i v hi => by simp at hi⟩, ⟨?_, by decide, fun i v hi => by simp at hi⟩, by decide, fun v hv => absurd hv List.not_mem_nil⟩, ⟨?_, by decide, ?_, ?_, by decide, ?_, fun w hw => absurd hw (by omega), fun i hi => absurd hi (by omega)⟩, ?_, ?_, ?_, ?_, ?_⟩
  · exact z 0 (by decide) (by decide) (by omega) (by decide) (mS_g (by omega)) (mT_g (by omega)) 1
  · rw [e60 1 (by decide), u2_no (by omega), aCls_q (by decide) (by omega) (by decide)]; rfl
  · exact z 27 (by decide) (by decide) (by omega) (by decide) (mS_g (by omega)) (mT_g (by omega)) 2
  · exact z3 23 (by decide)
  · exact z 33 (by decide) (by decide) (by omega) (by decide) (mS_g (by omega)) (mT_g (by omega)) 2
  · exact z3 38 (by decide)
  · exact z 47 (by decide) (by decide) (by omega) (by decide) (mS_g (by omega)) (mT_g (by omega)) 2
  · exact z3 39 (by decide)
  · exact z 47 (by decide) (by decide) (by omega) (by decide) (mS_g (by omega)) (mT_g (by omega)) 3
  · exact z3 41 (by decide)
  · rw [z 0 (by decide) (by decide) (by omega) (by decide) (mS_g (by omega)) (mT_g (by omega)) 16, z3 40 (by decide)]
  · rw [z 0 (by decide) (by decide) (by omega) (by decide) (mS_g (by omega)) (mT_g (by omega)), z 62 (by decide) (by decide) (by omega) (by decide) (mS_g (by omega)) (mT_g (by omega))]
  · rw [z 0 (by decide) (by decide) (by omega) (by decide) (mS_g (by omega)) (mT_g (by omega)), z 62 (by decide) (by decide) (by omega) (by decide) (mS_g (by omega)) (mT_g (by omega))]
  · rw [z 0 (by decide) (by decide) (by omega) (by decide) (mS_g (by omega)) (mT_g (by omega)), z 62 (by decide) (by decide) (by omega) (by decide) (mS_g (by omega)) (mT_g (by omega))]
  · rw [e 2 (by decide) (mS_g (by omega)) (mT_g (by omega)), aCls_2, e60 3 (by decide), u2_is rfl rfl]
theorem law_start (hN : gN G ≤ 3584) : E G ML_law_ 41 (C + 512 + 878) (S + 6 * 512 + 13383) 0 [.float 0, .null, .null, .null, .null, .null, .null] [] (a0H, mkR [], 0) RT := by
  refine V_L_law__0 (d := 40) (C := C + 512) (S := S + 6 * 512) ⟨by decide, rfl, fun _ => rfl, fun _ => rfl, Sp.up (by decide) (i_X11 (d := 0) ⟨by decide, by decide +kernel, fun j => ?_, mkR_null lc_60 (N := 60) rfl (Nat.le_refl _), Sp.up (by decide) (i_X12 (d := 0) (fun q hq j => ?_) (fun a1 a2 h1 h2 => ⟨by decide +kernel, by decide, by decide +kernel, by decide +kernel, mkR_null lc_91 (N := 877) rfl (Nat.le_refl _), ?_⟩))⟩)⟩
  · rw [aCls_q (by decide) (by omega) (by decide)]
  · rw [aCls_q (by omega) (by omega) (by omega)]
  · exact law_loop (C := C) (S := S) hN 512 0 a2 _ (by omega) (by omega) (inv_0 h1 h2)
end LST
