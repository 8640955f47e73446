theorem dL_city_0 : decode cL_city 0 = .ok (.aload_n 2, 1) := by decide +kernel
theorem dL_city_1 : decode cL_city 1 = .ok (.iconst 0, 1) := by decide +kernel
theorem dL_city_2 : decode cL_city 2 = .ok (.aload_n 0, 1) := by decide +kernel
theorem dL_city_3 : decode cL_city 3 = .ok (.iload_n 1, 1) := by decide +kernel
theorem dL_city_4 : decode cL_city 4 = .ok (.invokevirtual 7, 3) := by decide +kernel
theorem dL_city_7 : decode cL_city 7 = .ok (.i2l, 1) := by decide +kernel
theorem dL_city_8 : decode cL_city 8 = .ok (.lastore, 1) := by decide +kernel
theorem dL_city_9 : decode cL_city 9 = .ok (.goto 6, 3) := by decide +kernel
theorem dL_city_12 : decode cL_city 12 = .ok (.astore_n 3, 1) := by decide +kernel
theorem dL_city_13 : decode cL_city 13 = .ok (.iconst 1, 1) := by decide +kernel
theorem dL_city_14 : decode cL_city 14 = .ok (.ireturn, 1) := by decide +kernel
theorem dL_city_15 : decode cL_city 15 = .ok (.iconst 0, 1) := by decide +kernel
theorem dL_city_16 : decode cL_city 16 = .ok (.ireturn, 1) := by decide +kernel
theorem hn_L_city_0 : HnOK ML_city 4 "java/lang/IllegalArgumentException" 13 3 := ⟨[], [], ⟨0, 9, 12, 13⟩, "java/lang/IllegalArgumentException", rfl, (fun z hz => nomatch hz), by decide, by decide, q_706, q_721, by decide, Or.inl ⟨3, dL_city_12, rfl, rfl⟩⟩
set_option maxRecDepth 100000 in
theorem T_L_city_0 {G : GE} {d C S : Nat} {P : KI} : Snd G ML_city (d + 1) (C + 1) (S + 6) 0 (RI P) (s_aload 2 (s_iconst 0 (s_aload 0 (s_iload 1 (s_callVH G d MX11_city 1 10 [("java/lang/IllegalArgumentException", 13, 3, (s_iconst 1 (s_ireturn P)))] (s_i2l (s_lastore (s_iconst 0 (s_ireturn P))))))))) := (e_aload_n dL_city_0 rfl (e_iconst (v := 0) dL_city_1 (by decide) (e_aload_n dL_city_2 rfl (e_iload_n dL_city_3 rfl (e_callVH (hds := [("java/lang/IllegalArgumentException", 13, 3, (s_iconst 1 (s_ireturn P)))]) cl_10 cal_X11_city q_707 q_708 q_709 dL_city_4 (List.forall_mem_cons.mpr ⟨⟨hn_L_city_0, (e_iconst (v := 1) dL_city_13 (by decide) (e_ireturn rfl dL_city_14))⟩, fun _ h => nomatch h⟩) (e_i2l dL_city_7 (e_lastore dL_city_8 (e_goto (tgt := 15) dL_city_9 (by decide) (e_iconst (v := 0) dL_city_15 (by decide) (e_ireturn rfl dL_city_16))))))))))
set_option maxRecDepth 100000 in
theorem V_L_city_0 {G : GE} {d : Nat} {P : KI} {a : Nat → Nat → Int32} {r : Nat → Nat → Value} {N : Nat} {l0 : Nat} {l1 : Int32} {l2 : Nat} (hs : (tyK l0 = (0, 10) ∧ l0 < N ∧ (Sp G d 0 0 MX11_city [.ref l0, .int l1] (a, r, N) (RI fun v13 a10 r11 n12 => ((tyK l2).1 = 4 ∧ l2 < n12 ∧ vp_in 0 (tyK l2).2 ∧ ∀ r14, r14 = u2V r11 l2 (0 : Int32).toNatClampNeg (.long ((v13 : Int32).toInt64)) → P 0 a10 r14 n12)) ∨ Sp G d 1 6 MX11_city [.ref l0, .int l1] (a, r, N) (RX fun e9 a6 r7 n8 => if e9 = "java/lang/IllegalArgumentException" then P 1 a6 r7 n8 else False)))) : Sp G (d + 1) 1 6 ML_city [.ref l0, .int l1, .ref l2] (a, r, N) (RI P) := Sp.mk (mc := (0 + 1)) (ms := (0 + 6)) [.ref l0, .int l1, .ref l2, .null] rfl rfl rfl rfl (T_L_city_0 (C := 0) (S := 0) _ _ _ hs)
theorem dL_law_0 : decode cL_law 0 = .ok (.aload_n 2, 1) := by decide +kernel
theorem dL_law_1 : decode cL_law 1 = .ok (.iconst 0, 1) := by decide +kernel
theorem dL_law_2 : decode cL_law 2 = .ok (.aload_n 0, 1) := by decide +kernel
theorem dL_law_3 : decode cL_law 3 = .ok (.iload_n 1, 1) := by decide +kernel
theorem dL_law_4 : decode cL_law 4 = .ok (.invokevirtual 15, 3) := by decide +kernel
theorem dL_law_7 : decode cL_law 7 = .ok (.i2l, 1) := by decide +kernel
theorem dL_law_8 : decode cL_law 8 = .ok (.lastore, 1) := by decide +kernel
theorem dL_law_9 : decode cL_law 9 = .ok (.goto 6, 3) := by decide +kernel
theorem dL_law_12 : decode cL_law 12 = .ok (.astore_n 3, 1) := by decide +kernel
theorem dL_law_13 : decode cL_law 13 = .ok (.iconst 1, 1) := by decide +kernel
theorem dL_law_14 : decode cL_law 14 = .ok (.ireturn, 1) := by decide +kernel
theorem dL_law_15 : decode cL_law 15 = .ok (.iconst 0, 1) := by decide +kernel
theorem dL_law_16 : decode cL_law 16 = .ok (.ireturn, 1) := by decide +kernel
theorem hn_L_law_0 : HnOK ML_law 4 "java/lang/IllegalArgumentException" 13 3 := ⟨[], [], ⟨0, 9, 12, 13⟩, "java/lang/IllegalArgumentException", rfl, (fun z hz => nomatch hz), by decide, by decide, q_706, q_721, by decide, Or.inl ⟨3, dL_law_12, rfl, rfl⟩⟩
set_option maxRecDepth 100000 in
theorem T_L_law_0 {G : GE} {d C S : Nat} {P : KI} : Snd G ML_law (d + 1) (C + 1) (S + 6) 0 (RI P) (s_aload 2 (s_iconst 0 (s_aload 0 (s_iload 1 (s_callVH G d MX11_law 1 10 [("java/lang/IllegalArgumentException", 13, 3, (s_iconst 1 (s_ireturn P)))] (s_i2l (s_lastore (s_iconst 0 (s_ireturn P))))))))) := (e_aload_n dL_law_0 rfl (e_iconst (v := 0) dL_law_1 (by decide) (e_aload_n dL_law_2 rfl (e_iload_n dL_law_3 rfl (e_callVH (hds := [("java/lang/IllegalArgumentException", 13, 3, (s_iconst 1 (s_ireturn P)))]) cl_10 cal_X11_law q_975 q_976 q_977 dL_law_4 (List.forall_mem_cons.mpr ⟨⟨hn_L_law_0, (e_iconst (v := 1) dL_law_13 (by decide) (e_ireturn rfl dL_law_14))⟩, fun _ h => nomatch h⟩) (e_i2l dL_law_7 (e_lastore dL_law_8 (e_goto (tgt := 15) dL_law_9 (by decide) (e_iconst (v := 0) dL_law_15 (by decide) (e_ireturn rfl dL_law_16))))))))))
set_option maxRecDepth 100000 in
theorem V_L_law_0 {G : GE} {d : Nat} {P : KI} {a : Nat → Nat → Int32} {r : Nat → Nat → Value} {N : Nat} {l0 : Nat} {l1 : Int32} {l2 : Nat} (hs : (tyK l0 = (0, 10) ∧ l0 < N ∧ (Sp G d 0 0 MX11_law [.ref l0, .int l1] (a, r, N) (RI fun v13 a10 r11 n12 => ((tyK l2).1 = 4 ∧ l2 < n12 ∧ vp_in 0 (tyK l2).2 ∧ ∀ r14, r14 = u2V r11 l2 (0 : Int32).toNatClampNeg (.long ((v13 : Int32).toInt64)) → P 0 a10 r14 n12)) ∨ Sp G d 1 6 MX11_law [.ref l0, .int l1] (a, r, N) (RX fun e9 a6 r7 n8 => if e9 = "java/lang/IllegalArgumentException" then P 1 a6 r7 n8 else False)))) : Sp G (d + 1) 1 6 ML_law [.ref l0, .int l1, .ref l2] (a, r, N) (RI P) := Sp.mk (mc := (0 + 1)) (ms := (0 + 6)) [.ref l0, .int l1, .ref l2, .null] rfl rfl rfl rfl (T_L_law_0 (C := 0) (S := 0) _ _ _ hs)
theorem dL_work_0 : decode cL_work 0 = .ok (.aload_n 2, 1) := by decide +kernel
theorem dL_work_1 : decode cL_work 1 = .ok (.iconst 0, 1) := by decide +kernel
theorem dL_work_2 : decode cL_work 2 = .ok (.aload_n 0, 1) := by decide +kernel
theorem dL_work_3 : decode cL_work 3 = .ok (.iload_n 1, 1) := by decide +kernel
theorem dL_work_4 : decode cL_work 4 = .ok (.invokevirtual 18, 3) := by decide +kernel
theorem dL_work_7 : decode cL_work 7 = .ok (.i2l, 1) := by decide +kernel
theorem dL_work_8 : decode cL_work 8 = .ok (.lastore, 1) := by decide +kernel
theorem dL_work_9 : decode cL_work 9 = .ok (.goto 6, 3) := by decide +kernel
theorem dL_work_12 : decode cL_work 12 = .ok (.astore_n 3, 1) := by decide +kernel
theorem dL_work_13 : decode cL_work 13 = .ok (.iconst 1, 1) := by decide +kernel
theorem dL_work_14 : decode cL_work 14 = .ok (.ireturn, 1) := by decide +kernel
theorem dL_work_15 : decode cL_work 15 = .ok (.iconst 0, 1) := by decide +kernel
theorem dL_work_16 : decode cL_work 16 = .ok (.ireturn, 1) := by decide +kernel
theorem hn_L_work_0 : HnOK ML_work 4 "java/lang/IllegalArgumentException" 13 3 := ⟨[], [], ⟨0, 9, 12, 13⟩, "java/lang/IllegalArgumentException", rfl, (fun z hz => nomatch hz), by decide, by decide, q_706, q_721, by decide, Or.inl ⟨3, dL_work_12, rfl, rfl⟩⟩
set_option maxRecDepth 100000 in
theorem T_L_work_0 {G : GE} {d C S : Nat} {P : KI} : Snd G ML_work (d + 1) (C + 1) (S + 6) 0 (RI P) (s_aload 2 (s_iconst 0 (s_aload 0 (s_iload 1 (s_callVH G d MX11_work 1 10 [("java/lang/IllegalArgumentException", 13, 3, (s_iconst 1 (s_ireturn P)))] (s_i2l (s_lastore (s_iconst 0 (s_ireturn P))))))))) := (e_aload_n dL_work_0 rfl (e_iconst (v := 0) dL_work_1 (by decide) (e_aload_n dL_work_2 rfl (e_iload_n dL_work_3 rfl (e_callVH (hds := [("java/lang/IllegalArgumentException", 13, 3, (s_iconst 1 (s_ireturn P)))]) cl_10 cal_X11_work q_1037 q_1038 q_1039 dL_work_4 (List.forall_mem_cons.mpr ⟨⟨hn_L_work_0, (e_iconst (v := 1) dL_work_13 (by decide) (e_ireturn rfl dL_work_14))⟩, fun _ h => nomatch h⟩) (e_i2l dL_work_7 (e_lastore dL_work_8 (e_goto (tgt := 15) dL_work_9 (by decide) (e_iconst (v := 0) dL_work_15 (by decide) (e_ireturn rfl dL_work_16))))))))))
set_option maxRecDepth 100000 in
theorem V_L_work_0 {G : GE} {d : Nat} {P : KI} {a : Nat → Nat → Int32} {r : Nat → Nat → Value} {N : Nat} {l0 : Nat} {l1 : Int32} {l2 : Nat} (hs : (tyK l0 = (0, 10) ∧ l0 < N ∧ (Sp G d 0 0 MX11_work [.ref l0, .int l1] (a, r, N) (RI fun v13 a10 r11 n12 => ((tyK l2).1 = 4 ∧ l2 < n12 ∧ vp_in 0 (tyK l2).2 ∧ ∀ r14, r14 = u2V r11 l2 (0 : Int32).toNatClampNeg (.long ((v13 : Int32).toInt64)) → P 0 a10 r14 n12)) ∨ Sp G d 1 6 MX11_work [.ref l0, .int l1] (a, r, N) (RX fun e9 a6 r7 n8 => if e9 = "java/lang/IllegalArgumentException" then P 1 a6 r7 n8 else False)))) : Sp G (d + 1) 1 6 ML_work [.ref l0, .int l1, .ref l2] (a, r, N) (RI P) := Sp.mk (mc := (0 + 1)) (ms := (0 + 6)) [.ref l0, .int l1, .ref l2, .null] rfl rfl rfl rfl (T_L_work_0 (C := 0) (S := 0) _ _ _ hs)
theorem dL_post_0 : decode cL_post 0 = .ok (.aload_n 2, 1) := by decide +kernel
theorem dL_post_1 : decode cL_post 1 = .ok (.iconst 0, 1) := by decide +kernel
theorem dL_post_2 : decode cL_post 2 = .ok (.aload_n 0, 1) := by decide +kernel
theorem dL_post_3 : decode cL_post 3 = .ok (.iload_n 1, 1) := by decide +kernel
theorem dL_post_4 : decode cL_post 4 = .ok (.invokevirtual 21, 3) := by decide +kernel
theorem dL_post_7 : decode cL_post 7 = .ok (.i2l, 1) := by decide +kernel
theorem dL_post_8 : decode cL_post 8 = .ok (.lastore, 1) := by decide +kernel
theorem dL_post_9 : decode cL_post 9 = .ok (.goto 6, 3) := by decide +kernel
theorem dL_post_12 : decode cL_post 12 = .ok (.astore_n 3, 1) := by decide +kernel
theorem dL_post_13 : decode cL_post 13 = .ok (.iconst 1, 1) := by decide +kernel
theorem dL_post_14 : decode cL_post 14 = .ok (.ireturn, 1) := by decide +kernel
theorem dL_post_15 : decode cL_post 15 = .ok (.iconst 0, 1) := by decide +kernel
theorem dL_post_16 : decode cL_post 16 = .ok (.ireturn, 1) := by decide +kernel
theorem hn_L_post_0 : HnOK ML_post 4 "java/lang/IllegalArgumentException" 13 3 := ⟨[], [], ⟨0, 9, 12, 13⟩, "java/lang/IllegalArgumentException", rfl, (fun z hz => nomatch hz), by decide, by decide, q_706, q_721, by decide, Or.inl ⟨3, dL_post_12, rfl, rfl⟩⟩
set_option maxRecDepth 100000 in
theorem T_L_post_0 {G : GE} {d C S : Nat} {P : KI} : Snd G ML_post (d + 1) (C + 1) (S + 6) 0 (RI P) (s_aload 2 (s_iconst 0 (s_aload 0 (s_iload 1 (s_callVH G d MX11_post 1 10 [("java/lang/IllegalArgumentException", 13, 3, (s_iconst 1 (s_ireturn P)))] (s_i2l (s_lastore (s_iconst 0 (s_ireturn P))))))))) := (e_aload_n dL_post_0 rfl (e_iconst (v := 0) dL_post_1 (by decide) (e_aload_n dL_post_2 rfl (e_iload_n dL_post_3 rfl (e_callVH (hds := [("java/lang/IllegalArgumentException", 13, 3, (s_iconst 1 (s_ireturn P)))]) cl_10 cal_X11_post q_1155 q_1156 q_1157 dL_post_4 (List.forall_mem_cons.mpr ⟨⟨hn_L_post_0, (e_iconst (v := 1) dL_post_13 (by decide) (e_ireturn rfl dL_post_14))⟩, fun _ h => nomatch h⟩) (e_i2l dL_post_7 (e_lastore dL_post_8 (e_goto (tgt := 15) dL_post_9 (by decide) (e_iconst (v := 0) dL_post_15 (by decide) (e_ireturn rfl dL_post_16))))))))))
set_option maxRecDepth 100000 in
theorem V_L_post_0 {G : GE} {d : Nat} {P : KI} {a : Nat → Nat → Int32} {r : Nat → Nat → Value} {N : Nat} {l0 : Nat} {l1 : Int32} {l2 : Nat} (hs : (tyK l0 = (0, 10) ∧ l0 < N ∧ (Sp G d 0 0 MX11_post [.ref l0, .int l1] (a, r, N) (RI fun v13 a10 r11 n12 => ((tyK l2).1 = 4 ∧ l2 < n12 ∧ vp_in 0 (tyK l2).2 ∧ ∀ r14, r14 = u2V r11 l2 (0 : Int32).toNatClampNeg (.long ((v13 : Int32).toInt64)) → P 0 a10 r14 n12)) ∨ Sp G d 1 6 MX11_post [.ref l0, .int l1] (a, r, N) (RX fun e9 a6 r7 n8 => if e9 = "java/lang/IllegalArgumentException" then P 1 a6 r7 n8 else False)))) : Sp G (d + 1) 1 6 ML_post [.ref l0, .int l1, .ref l2] (a, r, N) (RI P) := Sp.mk (mc := (0 + 1)) (ms := (0 + 6)) [.ref l0, .int l1, .ref l2, .null] rfl rfl rfl rfl (T_L_post_0 (C := 0) (S := 0) _ _ _ hs)
theorem dL_told_0 : decode cL_told 0 = .ok (.aload_n 2, 1) := by decide +kernel
theorem dL_told_1 : decode cL_told 1 = .ok (.iconst 0, 1) := by decide +kernel
theorem dL_told_2 : decode cL_told 2 = .ok (.aload_n 0, 1) := by decide +kernel
theorem dL_told_3 : decode cL_told 3 = .ok (.iload_n 1, 1) := by decide +kernel
theorem dL_told_4 : decode cL_told 4 = .ok (.invokevirtual 24, 3) := by decide +kernel
theorem dL_told_7 : decode cL_told 7 = .ok (.i2l, 1) := by decide +kernel
theorem dL_told_8 : decode cL_told 8 = .ok (.lastore, 1) := by decide +kernel
theorem dL_told_9 : decode cL_told 9 = .ok (.goto 6, 3) := by decide +kernel
theorem dL_told_12 : decode cL_told 12 = .ok (.astore_n 3, 1) := by decide +kernel
theorem dL_told_13 : decode cL_told 13 = .ok (.iconst 1, 1) := by decide +kernel
theorem dL_told_14 : decode cL_told 14 = .ok (.ireturn, 1) := by decide +kernel
theorem dL_told_15 : decode cL_told 15 = .ok (.iconst 0, 1) := by decide +kernel
theorem dL_told_16 : decode cL_told 16 = .ok (.ireturn, 1) := by decide +kernel
theorem hn_L_told_0 : HnOK ML_told 4 "java/lang/IllegalArgumentException" 13 3 := ⟨[], [], ⟨0, 9, 12, 13⟩, "java/lang/IllegalArgumentException", rfl, (fun z hz => nomatch hz), by decide, by decide, q_706, q_721, by decide, Or.inl ⟨3, dL_told_12, rfl, rfl⟩⟩
set_option maxRecDepth 100000 in
theorem T_L_told_0 {G : GE} {d C S : Nat} {P : KI} : Snd G ML_told (d + 1) (C + 1) (S + 6) 0 (RI P) (s_aload 2 (s_iconst 0 (s_aload 0 (s_iload 1 (s_callVH G d MX11_told 1 10 [("java/lang/IllegalArgumentException", 13, 3, (s_iconst 1 (s_ireturn P)))] (s_i2l (s_lastore (s_iconst 0 (s_ireturn P))))))))) := (e_aload_n dL_told_0 rfl (e_iconst (v := 0) dL_told_1 (by decide) (e_aload_n dL_told_2 rfl (e_iload_n dL_told_3 rfl (e_callVH (hds := [("java/lang/IllegalArgumentException", 13, 3, (s_iconst 1 (s_ireturn P)))]) cl_10 cal_X11_told q_1180 q_1181 q_1182 dL_told_4 (List.forall_mem_cons.mpr ⟨⟨hn_L_told_0, (e_iconst (v := 1) dL_told_13 (by decide) (e_ireturn rfl dL_told_14))⟩, fun _ h => nomatch h⟩) (e_i2l dL_told_7 (e_lastore dL_told_8 (e_goto (tgt := 15) dL_told_9 (by decide) (e_iconst (v := 0) dL_told_15 (by decide) (e_ireturn rfl dL_told_16))))))))))
set_option maxRecDepth 100000 in
theorem V_L_told_0 {G : GE} {d : Nat} {P : KI} {a : Nat → Nat → Int32} {r : Nat → Nat → Value} {N : Nat} {l0 : Nat} {l1 : Int32} {l2 : Nat} (hs : (tyK l0 = (0, 10) ∧ l0 < N ∧ (Sp G d 0 0 MX11_told [.ref l0, .int l1] (a, r, N) (RI fun v13 a10 r11 n12 => ((tyK l2).1 = 4 ∧ l2 < n12 ∧ vp_in 0 (tyK l2).2 ∧ ∀ r14, r14 = u2V r11 l2 (0 : Int32).toNatClampNeg (.long ((v13 : Int32).toInt64)) → P 0 a10 r14 n12)) ∨ Sp G d 1 6 MX11_told [.ref l0, .int l1] (a, r, N) (RX fun e9 a6 r7 n8 => if e9 = "java/lang/IllegalArgumentException" then P 1 a6 r7 n8 else False)))) : Sp G (d + 1) 1 6 ML_told [.ref l0, .int l1, .ref l2] (a, r, N) (RI P) := Sp.mk (mc := (0 + 1)) (ms := (0 + 6)) [.ref l0, .int l1, .ref l2, .null] rfl rfl rfl rfl (T_L_told_0 (C := 0) (S := 0) _ _ _ hs)
theorem dL_street_0 : decode cL_street 0 = .ok (.aload_n 3, 1) := by decide +kernel
theorem dL_street_1 : decode cL_street 1 = .ok (.iconst 0, 1) := by decide +kernel
theorem dL_street_2 : decode cL_street 2 = .ok (.aload_n 0, 1) := by decide +kernel
theorem dL_street_3 : decode cL_street 3 = .ok (.iload_n 1, 1) := by decide +kernel
theorem dL_street_4 : decode cL_street 4 = .ok (.iload_n 2, 1) := by decide +kernel
theorem dL_street_5 : decode cL_street 5 = .ok (.invokevirtual 27, 3) := by decide +kernel
theorem dL_street_8 : decode cL_street 8 = .ok (.i2l, 1) := by decide +kernel
theorem dL_street_9 : decode cL_street 9 = .ok (.lastore, 1) := by decide +kernel
theorem dL_street_10 : decode cL_street 10 = .ok (.goto 11, 3) := by decide +kernel
theorem dL_street_13 : decode cL_street 13 = .ok (.astore 4, 2) := by decide +kernel
theorem dL_street_15 : decode cL_street 15 = .ok (.iconst 1, 1) := by decide +kernel
theorem dL_street_16 : decode cL_street 16 = .ok (.ireturn, 1) := by decide +kernel
theorem dL_street_17 : decode cL_street 17 = .ok (.astore 4, 2) := by decide +kernel
theorem dL_street_19 : decode cL_street 19 = .ok (.iconst 2, 1) := by decide +kernel
theorem dL_street_20 : decode cL_street 20 = .ok (.ireturn, 1) := by decide +kernel
theorem dL_street_21 : decode cL_street 21 = .ok (.iconst 0, 1) := by decide +kernel
theorem dL_street_22 : decode cL_street 22 = .ok (.ireturn, 1) := by decide +kernel
theorem hn_L_street_0 : HnOK ML_street 5 "java/util/NoSuchElementException" 15 4 := ⟨[], [⟨0, 10, 17, 13⟩], ⟨0, 10, 13, 31⟩, "java/util/NoSuchElementException", rfl, (fun z hz => nomatch hz), by decide, by decide, q_1200, q_1215, by decide, Or.inr ⟨dL_street_13, rfl⟩⟩
theorem hn_L_street_1 : HnOK ML_street 5 "java/lang/IllegalArgumentException" 19 4 := ⟨[⟨0, 10, 13, 31⟩], [], ⟨0, 10, 17, 13⟩, "java/lang/IllegalArgumentException", rfl, (fun z hz => by cases List.mem_singleton.mp hz; exact ⟨by decide, "java/util/NoSuchElementException", q_1200, by decide +kernel⟩), by decide, by decide, q_706, q_721, by decide, Or.inr ⟨dL_street_17, rfl⟩⟩
set_option maxRecDepth 100000 in
theorem T_L_street_0 {G : GE} {d C S : Nat} {P : KI} : Snd G ML_street (d + 1) (C + 1) (S + 6) 0 (RI P) (s_aload 3 (s_iconst 0 (s_aload 0 (s_iload 1 (s_iload 2 (s_callVH G d MX11_street 2 10 [("java/util/NoSuchElementException", 15, 4, (s_iconst 1 (s_ireturn P))), ("java/lang/IllegalArgumentException", 19, 4, (s_iconst 2 (s_ireturn P)))] (s_i2l (s_lastore (s_iconst 0 (s_ireturn P)))))))))) := (e_aload_n dL_street_0 rfl (e_iconst (v := 0) dL_street_1 (by decide) (e_aload_n dL_street_2 rfl (e_iload_n dL_street_3 rfl (e_iload_n dL_street_4 rfl (e_callVH (hds := [("java/util/NoSuchElementException", 15, 4, (s_iconst 1 (s_ireturn P))), ("java/lang/IllegalArgumentException", 19, 4, (s_iconst 2 (s_ireturn P)))]) cl_10 cal_X11_street q_1201 q_1202 q_1203 dL_street_5 (List.forall_mem_cons.mpr ⟨⟨hn_L_street_0, (e_iconst (v := 1) dL_street_15 (by decide) (e_ireturn rfl dL_street_16))⟩, List.forall_mem_cons.mpr ⟨⟨hn_L_street_1, (e_iconst (v := 2) dL_street_19 (by decide) (e_ireturn rfl dL_street_20))⟩, fun _ h => nomatch h⟩⟩) (e_i2l dL_street_8 (e_lastore dL_street_9 (e_goto (tgt := 21) dL_street_10 (by decide) (e_iconst (v := 0) dL_street_21 (by decide) (e_ireturn rfl dL_street_22)))))))))))
set_option maxRecDepth 100000 in
theorem V_L_street_0 {G : GE} {d : Nat} {P : KI} {a : Nat → Nat → Int32} {r : Nat → Nat → Value} {N : Nat} {l0 : Nat} {l1 : Int32} {l2 : Int32} {l3 : Nat} (hs : (tyK l0 = (0, 10) ∧ l0 < N ∧ (Sp G d 0 0 MX11_street [.ref l0, .int l1, .int l2] (a, r, N) (RI fun v13 a10 r11 n12 => ((tyK l3).1 = 4 ∧ l3 < n12 ∧ vp_in 0 (tyK l3).2 ∧ ∀ r14, r14 = u2V r11 l3 (0 : Int32).toNatClampNeg (.long ((v13 : Int32).toInt64)) → P 0 a10 r14 n12)) ∨ Sp G d 1 6 MX11_street [.ref l0, .int l1, .int l2] (a, r, N) (RX fun e9 a6 r7 n8 => if e9 = "java/util/NoSuchElementException" then P 1 a6 r7 n8 else if e9 = "java/lang/IllegalArgumentException" then P 2 a6 r7 n8 else False)))) : Sp G (d + 1) 1 6 ML_street [.ref l0, .int l1, .int l2, .ref l3] (a, r, N) (RI P) := Sp.mk (mc := (0 + 1)) (ms := (0 + 6)) [.ref l0, .int l1, .int l2, .ref l3, .null] rfl rfl rfl rfl (T_L_street_0 (C := 0) (S := 0) _ _ _ hs)
theorem dL_likes_0 : decode cL_likes 0 = .ok (.aload_n 3, 1) := by decide +kernel
theorem dL_likes_1 : decode cL_likes 1 = .ok (.iconst 0, 1) := by decide +kernel
theorem dL_likes_2 : decode cL_likes 2 = .ok (.aload_n 0, 1) := by decide +kernel
theorem dL_likes_3 : decode cL_likes 3 = .ok (.iload_n 1, 1) := by decide +kernel
theorem dL_likes_4 : decode cL_likes 4 = .ok (.iload_n 2, 1) := by decide +kernel
theorem dL_likes_5 : decode cL_likes 5 = .ok (.invokevirtual 33, 3) := by decide +kernel
theorem dL_likes_8 : decode cL_likes 8 = .ok (.i2l, 1) := by decide +kernel
theorem dL_likes_9 : decode cL_likes 9 = .ok (.lastore, 1) := by decide +kernel
theorem dL_likes_10 : decode cL_likes 10 = .ok (.goto 11, 3) := by decide +kernel
theorem dL_likes_13 : decode cL_likes 13 = .ok (.astore 4, 2) := by decide +kernel
theorem dL_likes_15 : decode cL_likes 15 = .ok (.iconst 1, 1) := by decide +kernel
theorem dL_likes_16 : decode cL_likes 16 = .ok (.ireturn, 1) := by decide +kernel
theorem dL_likes_17 : decode cL_likes 17 = .ok (.astore 4, 2) := by decide +kernel
theorem dL_likes_19 : decode cL_likes 19 = .ok (.iconst 2, 1) := by decide +kernel
theorem dL_likes_20 : decode cL_likes 20 = .ok (.ireturn, 1) := by decide +kernel
theorem dL_likes_21 : decode cL_likes 21 = .ok (.iconst 0, 1) := by decide +kernel
theorem dL_likes_22 : decode cL_likes 22 = .ok (.ireturn, 1) := by decide +kernel
theorem hn_L_likes_0 : HnOK ML_likes 5 "java/util/NoSuchElementException" 15 4 := ⟨[], [⟨0, 10, 17, 13⟩], ⟨0, 10, 13, 31⟩, "java/util/NoSuchElementException", rfl, (fun z hz => nomatch hz), by decide, by decide, q_1200, q_1215, by decide, Or.inr ⟨dL_likes_13, rfl⟩⟩
theorem hn_L_likes_1 : HnOK ML_likes 5 "java/lang/IllegalArgumentException" 19 4 := ⟨[⟨0, 10, 13, 31⟩], [], ⟨0, 10, 17, 13⟩, "java/lang/IllegalArgumentException", rfl, (fun z hz => by cases List.mem_singleton.mp hz; exact ⟨by decide, "java/util/NoSuchElementException", q_1200, by decide +kernel⟩), by decide, by decide, q_706, q_721, by decide, Or.inr ⟨dL_likes_17, rfl⟩⟩
set_option maxRecDepth 100000 in
theorem T_L_likes_0 {G : GE} {d C S : Nat} {P : KI} : Snd G ML_likes (d + 1) (C + 1) (S + 6) 0 (RI P) (s_aload 3 (s_iconst 0 (s_aload 0 (s_iload 1 (s_iload 2 (s_callVH G d MX11_likes 2 10 [("java/util/NoSuchElementException", 15, 4, (s_iconst 1 (s_ireturn P))), ("java/lang/IllegalArgumentException", 19, 4, (s_iconst 2 (s_ireturn P)))] (s_i2l (s_lastore (s_iconst 0 (s_ireturn P)))))))))) := (e_aload_n dL_likes_0 rfl (e_iconst (v := 0) dL_likes_1 (by decide) (e_aload_n dL_likes_2 rfl (e_iload_n dL_likes_3 rfl (e_iload_n dL_likes_4 rfl (e_callVH (hds := [("java/util/NoSuchElementException", 15, 4, (s_iconst 1 (s_ireturn P))), ("java/lang/IllegalArgumentException", 19, 4, (s_iconst 2 (s_ireturn P)))]) cl_10 cal_X11_likes q_1246 q_1247 q_1248 dL_likes_5 (List.forall_mem_cons.mpr ⟨⟨hn_L_likes_0, (e_iconst (v := 1) dL_likes_15 (by decide) (e_ireturn rfl dL_likes_16))⟩, List.forall_mem_cons.mpr ⟨⟨hn_L_likes_1, (e_iconst (v := 2) dL_likes_19 (by decide) (e_ireturn rfl dL_likes_20))⟩, fun _ h => nomatch h⟩⟩) (e_i2l dL_likes_8 (e_lastore dL_likes_9 (e_goto (tgt := 21) dL_likes_10 (by decide) (e_iconst (v := 0) dL_likes_21 (by decide) (e_ireturn rfl dL_likes_22)))))))))))
set_option maxRecDepth 100000 in
theorem V_L_likes_0 {G : GE} {d : Nat} {P : KI} {a : Nat → Nat → Int32} {r : Nat → Nat → Value} {N : Nat} {l0 : Nat} {l1 : Int32} {l2 : Int32} {l3 : Nat} (hs : (tyK l0 = (0, 10) ∧ l0 < N ∧ (Sp G d 0 0 MX11_likes [.ref l0, .int l1, .int l2] (a, r, N) (RI fun v13 a10 r11 n12 => ((tyK l3).1 = 4 ∧ l3 < n12 ∧ vp_in 0 (tyK l3).2 ∧ ∀ r14, r14 = u2V r11 l3 (0 : Int32).toNatClampNeg (.long ((v13 : Int32).toInt64)) → P 0 a10 r14 n12)) ∨ Sp G d 1 6 MX11_likes [.ref l0, .int l1, .int l2] (a, r, N) (RX fun e9 a6 r7 n8 => if e9 = "java/util/NoSuchElementException" then P 1 a6 r7 n8 else if e9 = "java/lang/IllegalArgumentException" then P 2 a6 r7 n8 else False)))) : Sp G (d + 1) 1 6 ML_likes [.ref l0, .int l1, .int l2, .ref l3] (a, r, N) (RI P) := Sp.mk (mc := (0 + 1)) (ms := (0 + 6)) [.ref l0, .int l1, .int l2, .ref l3, .null] rfl rfl rfl rfl (T_L_likes_0 (C := 0) (S := 0) _ _ _ hs)
theorem dL_banns_0 : decode cL_banns 0 = .ok (.aload_n 3, 1) := by decide +kernel
theorem dL_banns_1 : decode cL_banns 1 = .ok (.iconst 0, 1) := by decide +kernel
theorem dL_banns_2 : decode cL_banns 2 = .ok (.aload_n 0, 1) := by decide +kernel
theorem dL_banns_3 : decode cL_banns 3 = .ok (.iload_n 1, 1) := by decide +kernel
theorem dL_banns_4 : decode cL_banns 4 = .ok (.iload_n 2, 1) := by decide +kernel
theorem dL_banns_5 : decode cL_banns 5 = .ok (.invokevirtual 36, 3) := by decide +kernel
theorem dL_banns_8 : decode cL_banns 8 = .ok (.i2l, 1) := by decide +kernel
theorem dL_banns_9 : decode cL_banns 9 = .ok (.lastore, 1) := by decide +kernel
theorem dL_banns_10 : decode cL_banns 10 = .ok (.goto 7, 3) := by decide +kernel
theorem dL_banns_13 : decode cL_banns 13 = .ok (.astore 4, 2) := by decide +kernel
theorem dL_banns_15 : decode cL_banns 15 = .ok (.iconst 1, 1) := by decide +kernel
theorem dL_banns_16 : decode cL_banns 16 = .ok (.ireturn, 1) := by decide +kernel
theorem dL_banns_17 : decode cL_banns 17 = .ok (.iconst 0, 1) := by decide +kernel
theorem dL_banns_18 : decode cL_banns 18 = .ok (.ireturn, 1) := by decide +kernel
theorem hn_L_banns_0 : HnOK ML_banns 5 "java/util/NoSuchElementException" 15 4 := ⟨[], [], ⟨0, 10, 13, 31⟩, "java/util/NoSuchElementException", rfl, (fun z hz => nomatch hz), by decide, by decide, q_1200, q_1215, by decide, Or.inr ⟨dL_banns_13, rfl⟩⟩
set_option maxRecDepth 100000 in
theorem T_L_banns_0 {G : GE} {d C S : Nat} {P : KI} : Snd G ML_banns (d + 1) (C + 1) (S + 6) 0 (RI P) (s_aload 3 (s_iconst 0 (s_aload 0 (s_iload 1 (s_iload 2 (s_callVH G d MX11_banns 2 10 [("java/util/NoSuchElementException", 15, 4, (s_iconst 1 (s_ireturn P)))] (s_i2l (s_lastore (s_iconst 0 (s_ireturn P)))))))))) := (e_aload_n dL_banns_0 rfl (e_iconst (v := 0) dL_banns_1 (by decide) (e_aload_n dL_banns_2 rfl (e_iload_n dL_banns_3 rfl (e_iload_n dL_banns_4 rfl (e_callVH (hds := [("java/util/NoSuchElementException", 15, 4, (s_iconst 1 (s_ireturn P)))]) cl_10 cal_X11_banns q_1253 q_1254 q_1255 dL_banns_5 (List.forall_mem_cons.mpr ⟨⟨hn_L_banns_0, (e_iconst (v := 1) dL_banns_15 (by decide) (e_ireturn rfl dL_banns_16))⟩, fun _ h => nomatch h⟩) (e_i2l dL_banns_8 (e_lastore dL_banns_9 (e_goto (tgt := 17) dL_banns_10 (by decide) (e_iconst (v := 0) dL_banns_17 (by decide) (e_ireturn rfl dL_banns_18)))))))))))
set_option maxRecDepth 100000 in
theorem V_L_banns_0 {G : GE} {d : Nat} {P : KI} {a : Nat → Nat → Int32} {r : Nat → Nat → Value} {N : Nat} {l0 : Nat} {l1 : Int32} {l2 : Int32} {l3 : Nat} (hs : (tyK l0 = (0, 10) ∧ l0 < N ∧ (Sp G d 0 0 MX11_banns [.ref l0, .int l1, .int l2] (a, r, N) (RI fun v13 a10 r11 n12 => ((tyK l3).1 = 4 ∧ l3 < n12 ∧ vp_in 0 (tyK l3).2 ∧ ∀ r14, r14 = u2V r11 l3 (0 : Int32).toNatClampNeg (.long ((v13 : Int32).toInt64)) → P 0 a10 r14 n12)) ∨ Sp G d 1 6 MX11_banns [.ref l0, .int l1, .int l2] (a, r, N) (RX fun e9 a6 r7 n8 => if e9 = "java/util/NoSuchElementException" then P 1 a6 r7 n8 else False)))) : Sp G (d + 1) 1 6 ML_banns [.ref l0, .int l1, .int l2, .ref l3] (a, r, N) (RI P) := Sp.mk (mc := (0 + 1)) (ms := (0 + 6)) [.ref l0, .int l1, .int l2, .ref l3, .null] rfl rfl rfl rfl (T_L_banns_0 (C := 0) (S := 0) _ _ _ hs)
theorem dL_number_0 : decode cL_number 0 = .ok (.aload_n 3, 1) := by decide +kernel
theorem dL_number_1 : decode cL_number 1 = .ok (.iconst 0, 1) := by decide +kernel
theorem dL_number_2 : decode cL_number 2 = .ok (.aload_n 0, 1) := by decide +kernel
theorem dL_number_3 : decode cL_number 3 = .ok (.iload_n 1, 1) := by decide +kernel
theorem dL_number_4 : decode cL_number 4 = .ok (.iload_n 2, 1) := by decide +kernel
theorem dL_number_5 : decode cL_number 5 = .ok (.invokevirtual 39, 3) := by decide +kernel
theorem dL_number_8 : decode cL_number 8 = .ok (.i2l, 1) := by decide +kernel
theorem dL_number_9 : decode cL_number 9 = .ok (.lastore, 1) := by decide +kernel
theorem dL_number_10 : decode cL_number 10 = .ok (.goto 11, 3) := by decide +kernel
theorem dL_number_13 : decode cL_number 13 = .ok (.astore 4, 2) := by decide +kernel
theorem dL_number_15 : decode cL_number 15 = .ok (.iconst 1, 1) := by decide +kernel
theorem dL_number_16 : decode cL_number 16 = .ok (.ireturn, 1) := by decide +kernel
theorem dL_number_17 : decode cL_number 17 = .ok (.astore 4, 2) := by decide +kernel
theorem dL_number_19 : decode cL_number 19 = .ok (.iconst 2, 1) := by decide +kernel
theorem dL_number_20 : decode cL_number 20 = .ok (.ireturn, 1) := by decide +kernel
theorem dL_number_21 : decode cL_number 21 = .ok (.iconst 0, 1) := by decide +kernel
theorem dL_number_22 : decode cL_number 22 = .ok (.ireturn, 1) := by decide +kernel
theorem hn_L_number_0 : HnOK ML_number 5 "java/lang/IndexOutOfBoundsException" 15 4 := ⟨[], [⟨0, 10, 17, 31⟩], ⟨0, 10, 13, 42⟩, "java/lang/IndexOutOfBoundsException", rfl, (fun z hz => nomatch hz), by decide, by decide, q_1260, q_1271, by decide, Or.inr ⟨dL_number_13, rfl⟩⟩
theorem hn_L_number_1 : HnOK ML_number 5 "java/util/NoSuchElementException" 19 4 := ⟨[⟨0, 10, 13, 42⟩], [], ⟨0, 10, 17, 31⟩, "java/util/NoSuchElementException", rfl, (fun z hz => by cases List.mem_singleton.mp hz; exact ⟨by decide, "java/lang/IndexOutOfBoundsException", q_1260, by decide +kernel⟩), by decide, by decide, q_1200, q_1215, by decide, Or.inr ⟨dL_number_17, rfl⟩⟩
set_option maxRecDepth 100000 in
theorem T_L_number_0 {G : GE} {d C S : Nat} {P : KI} : Snd G ML_number (d + 1) (C + 1) (S + 6) 0 (RI P) (s_aload 3 (s_iconst 0 (s_aload 0 (s_iload 1 (s_iload 2 (s_callVH G d MX11_number 2 10 [("java/lang/IndexOutOfBoundsException", 15, 4, (s_iconst 1 (s_ireturn P))), ("java/util/NoSuchElementException", 19, 4, (s_iconst 2 (s_ireturn P)))] (s_i2l (s_lastore (s_iconst 0 (s_ireturn P)))))))))) := (e_aload_n dL_number_0 rfl (e_iconst (v := 0) dL_number_1 (by decide) (e_aload_n dL_number_2 rfl (e_iload_n dL_number_3 rfl (e_iload_n dL_number_4 rfl (e_callVH (hds := [("java/lang/IndexOutOfBoundsException", 15, 4, (s_iconst 1 (s_ireturn P))), ("java/util/NoSuchElementException", 19, 4, (s_iconst 2 (s_ireturn P)))]) cl_10 cal_X11_number q_1261 q_1262 q_1263 dL_number_5 (List.forall_mem_cons.mpr ⟨⟨hn_L_number_0, (e_iconst (v := 1) dL_number_15 (by decide) (e_ireturn rfl dL_number_16))⟩, List.forall_mem_cons.mpr ⟨⟨hn_L_number_1, (e_iconst (v := 2) dL_number_19 (by decide) (e_ireturn rfl dL_number_20))⟩, fun _ h => nomatch h⟩⟩) (e_i2l dL_number_8 (e_lastore dL_number_9 (e_goto (tgt := 21) dL_number_10 (by decide) (e_iconst (v := 0) dL_number_21 (by decide) (e_ireturn rfl dL_number_22)))))))))))
set_option maxRecDepth 100000 in
theorem V_L_number_0 {G : GE} {d : Nat} {P : KI} {a : Nat → Nat → Int32} {r : Nat → Nat → Value} {N : Nat} {l0 : Nat} {l1 : Int32} {l2 : Int32} {l3 : Nat} (hs : (tyK l0 = (0, 10) ∧ l0 < N ∧ (Sp G d 0 0 MX11_number [.ref l0, .int l1, .int l2] (a, r, N) (RI fun v13 a10 r11 n12 => ((tyK l3).1 = 4 ∧ l3 < n12 ∧ vp_in 0 (tyK l3).2 ∧ ∀ r14, r14 = u2V r11 l3 (0 : Int32).toNatClampNeg (.long ((v13 : Int32).toInt64)) → P 0 a10 r14 n12)) ∨ Sp G d 1 6 MX11_number [.ref l0, .int l1, .int l2] (a, r, N) (RX fun e9 a6 r7 n8 => if e9 = "java/lang/IndexOutOfBoundsException" then P 1 a6 r7 n8 else if e9 = "java/util/NoSuchElementException" then P 2 a6 r7 n8 else False)))) : Sp G (d + 1) 1 6 ML_number [.ref l0, .int l1, .int l2, .ref l3] (a, r, N) (RI P) := Sp.mk (mc := (0 + 1)) (ms := (0 + 6)) [.ref l0, .int l1, .int l2, .ref l3, .null] rfl rfl rfl rfl (T_L_number_0 (C := 0) (S := 0) _ _ _ hs)
theorem dL_letter_0 : decode cL_letter 0 = .ok (.aload_n 3, 1) := by decide +kernel
theorem dL_letter_1 : decode cL_letter 1 = .ok (.iconst 0, 1) := by decide +kernel
theorem dL_letter_2 : decode cL_letter 2 = .ok (.aload_n 0, 1) := by decide +kernel
theorem dL_letter_3 : decode cL_letter 3 = .ok (.iload_n 1, 1) := by decide +kernel
theorem dL_letter_4 : decode cL_letter 4 = .ok (.iload_n 2, 1) := by decide +kernel
theorem dL_letter_5 : decode cL_letter 5 = .ok (.invokevirtual 44, 3) := by decide +kernel
theorem dL_letter_8 : decode cL_letter 8 = .ok (.i2l, 1) := by decide +kernel
theorem dL_letter_9 : decode cL_letter 9 = .ok (.lastore, 1) := by decide +kernel
theorem dL_letter_10 : decode cL_letter 10 = .ok (.goto 11, 3) := by decide +kernel
theorem dL_letter_13 : decode cL_letter 13 = .ok (.astore 4, 2) := by decide +kernel
theorem dL_letter_15 : decode cL_letter 15 = .ok (.iconst 1, 1) := by decide +kernel
theorem dL_letter_16 : decode cL_letter 16 = .ok (.ireturn, 1) := by decide +kernel
theorem dL_letter_17 : decode cL_letter 17 = .ok (.astore 4, 2) := by decide +kernel
theorem dL_letter_19 : decode cL_letter 19 = .ok (.iconst 2, 1) := by decide +kernel
theorem dL_letter_20 : decode cL_letter 20 = .ok (.ireturn, 1) := by decide +kernel
theorem dL_letter_21 : decode cL_letter 21 = .ok (.iconst 0, 1) := by decide +kernel
theorem dL_letter_22 : decode cL_letter 22 = .ok (.ireturn, 1) := by decide +kernel
theorem hn_L_letter_0 : HnOK ML_letter 5 "java/util/NoSuchElementException" 15 4 := ⟨[], [⟨0, 10, 17, 13⟩], ⟨0, 10, 13, 31⟩, "java/util/NoSuchElementException", rfl, (fun z hz => nomatch hz), by decide, by decide, q_1200, q_1215, by decide, Or.inr ⟨dL_letter_13, rfl⟩⟩
theorem hn_L_letter_1 : HnOK ML_letter 5 "java/lang/IllegalArgumentException" 19 4 := ⟨[⟨0, 10, 13, 31⟩], [], ⟨0, 10, 17, 13⟩, "java/lang/IllegalArgumentException", rfl, (fun z hz => by cases List.mem_singleton.mp hz; exact ⟨by decide, "java/util/NoSuchElementException", q_1200, by decide +kernel⟩), by decide, by decide, q_706, q_721, by decide, Or.inr ⟨dL_letter_17, rfl⟩⟩
set_option maxRecDepth 100000 in
theorem T_L_letter_0 {G : GE} {d C S : Nat} {P : KI} : Snd G ML_letter (d + 1) (C + 1) (S + 6) 0 (RI P) (s_aload 3 (s_iconst 0 (s_aload 0 (s_iload 1 (s_iload 2 (s_callVH G d MX11_letter 2 10 [("java/util/NoSuchElementException", 15, 4, (s_iconst 1 (s_ireturn P))), ("java/lang/IllegalArgumentException", 19, 4, (s_iconst 2 (s_ireturn P)))] (s_i2l (s_lastore (s_iconst 0 (s_ireturn P)))))))))) := (e_aload_n dL_letter_0 rfl (e_iconst (v := 0) dL_letter_1 (by decide) (e_aload_n dL_letter_2 rfl (e_iload_n dL_letter_3 rfl (e_iload_n dL_letter_4 rfl (e_callVH (hds := [("java/util/NoSuchElementException", 15, 4, (s_iconst 1 (s_ireturn P))), ("java/lang/IllegalArgumentException", 19, 4, (s_iconst 2 (s_ireturn P)))]) cl_10 cal_X11_letter q_1291 q_1292 q_1293 dL_letter_5 (List.forall_mem_cons.mpr ⟨⟨hn_L_letter_0, (e_iconst (v := 1) dL_letter_15 (by decide) (e_ireturn rfl dL_letter_16))⟩, List.forall_mem_cons.mpr ⟨⟨hn_L_letter_1, (e_iconst (v := 2) dL_letter_19 (by decide) (e_ireturn rfl dL_letter_20))⟩, fun _ h => nomatch h⟩⟩) (e_i2l dL_letter_8 (e_lastore dL_letter_9 (e_goto (tgt := 21) dL_letter_10 (by decide) (e_iconst (v := 0) dL_letter_21 (by decide) (e_ireturn rfl dL_letter_22)))))))))))
set_option maxRecDepth 100000 in
theorem V_L_letter_0 {G : GE} {d : Nat} {P : KI} {a : Nat → Nat → Int32} {r : Nat → Nat → Value} {N : Nat} {l0 : Nat} {l1 : Int32} {l2 : Int32} {l3 : Nat} (hs : (tyK l0 = (0, 10) ∧ l0 < N ∧ (Sp G d 0 0 MX11_letter [.ref l0, .int l1, .int l2] (a, r, N) (RI fun v13 a10 r11 n12 => ((tyK l3).1 = 4 ∧ l3 < n12 ∧ vp_in 0 (tyK l3).2 ∧ ∀ r14, r14 = u2V r11 l3 (0 : Int32).toNatClampNeg (.long ((v13 : Int32).toInt64)) → P 0 a10 r14 n12)) ∨ Sp G d 1 6 MX11_letter [.ref l0, .int l1, .int l2] (a, r, N) (RX fun e9 a6 r7 n8 => if e9 = "java/util/NoSuchElementException" then P 1 a6 r7 n8 else if e9 = "java/lang/IllegalArgumentException" then P 2 a6 r7 n8 else False)))) : Sp G (d + 1) 1 6 ML_letter [.ref l0, .int l1, .int l2, .ref l3] (a, r, N) (RI P) := Sp.mk (mc := (0 + 1)) (ms := (0 + 6)) [.ref l0, .int l1, .int l2, .ref l3, .null] rfl rfl rfl rfl (T_L_letter_0 (C := 0) (S := 0) _ _ _ hs)
theorem dL_last_0 : decode cL_last 0 = .ok (.aload_n 2, 1) := by decide +kernel
theorem dL_last_1 : decode cL_last 1 = .ok (.iconst 0, 1) := by decide +kernel
theorem dL_last_2 : decode cL_last 2 = .ok (.aload_n 0, 1) := by decide +kernel
theorem dL_last_3 : decode cL_last 3 = .ok (.iload_n 1, 1) := by decide +kernel
theorem dL_last_4 : decode cL_last 4 = .ok (.invokevirtual 47, 3) := by decide +kernel
theorem dL_last_7 : decode cL_last 7 = .ok (.i2l, 1) := by decide +kernel
theorem dL_last_8 : decode cL_last 8 = .ok (.lastore, 1) := by decide +kernel
theorem dL_last_9 : decode cL_last 9 = .ok (.goto 6, 3) := by decide +kernel
theorem dL_last_12 : decode cL_last 12 = .ok (.astore_n 3, 1) := by decide +kernel
theorem dL_last_13 : decode cL_last 13 = .ok (.iconst 1, 1) := by decide +kernel
theorem dL_last_14 : decode cL_last 14 = .ok (.ireturn, 1) := by decide +kernel
theorem dL_last_15 : decode cL_last 15 = .ok (.iconst 0, 1) := by decide +kernel
theorem dL_last_16 : decode cL_last 16 = .ok (.ireturn, 1) := by decide +kernel
theorem hn_L_last_0 : HnOK ML_last 4 "java/util/NoSuchElementException" 13 3 := ⟨[], [], ⟨0, 9, 12, 31⟩, "java/util/NoSuchElementException", rfl, (fun z hz => nomatch hz), by decide, by decide, q_1200, q_1215, by decide, Or.inl ⟨3, dL_last_12, rfl, rfl⟩⟩
set_option maxRecDepth 100000 in
theorem T_L_last_0 {G : GE} {d C S : Nat} {P : KI} : Snd G ML_last (d + 1) (C + 1) (S + 6) 0 (RI P) (s_aload 2 (s_iconst 0 (s_aload 0 (s_iload 1 (s_callVH G d MX11_last 1 10 [("java/util/NoSuchElementException", 13, 3, (s_iconst 1 (s_ireturn P)))] (s_i2l (s_lastore (s_iconst 0 (s_ireturn P))))))))) := (e_aload_n dL_last_0 rfl (e_iconst (v := 0) dL_last_1 (by decide) (e_aload_n dL_last_2 rfl (e_iload_n dL_last_3 rfl (e_callVH (hds := [("java/util/NoSuchElementException", 13, 3, (s_iconst 1 (s_ireturn P)))]) cl_10 cal_X11_last q_1306 q_1307 q_1308 dL_last_4 (List.forall_mem_cons.mpr ⟨⟨hn_L_last_0, (e_iconst (v := 1) dL_last_13 (by decide) (e_ireturn rfl dL_last_14))⟩, fun _ h => nomatch h⟩) (e_i2l dL_last_7 (e_lastore dL_last_8 (e_goto (tgt := 15) dL_last_9 (by decide) (e_iconst (v := 0) dL_last_15 (by decide) (e_ireturn rfl dL_last_16))))))))))
set_option maxRecDepth 100000 in
theorem V_L_last_0 {G : GE} {d : Nat} {P : KI} {a : Nat → Nat → Int32} {r : Nat → Nat → Value} {N : Nat} {l0 : Nat} {l1 : Int32} {l2 : Nat} (hs : (tyK l0 = (0, 10) ∧ l0 < N ∧ (Sp G d 0 0 MX11_last [.ref l0, .int l1] (a, r, N) (RI fun v13 a10 r11 n12 => ((tyK l2).1 = 4 ∧ l2 < n12 ∧ vp_in 0 (tyK l2).2 ∧ ∀ r14, r14 = u2V r11 l2 (0 : Int32).toNatClampNeg (.long ((v13 : Int32).toInt64)) → P 0 a10 r14 n12)) ∨ Sp G d 1 6 MX11_last [.ref l0, .int l1] (a, r, N) (RX fun e9 a6 r7 n8 => if e9 = "java/util/NoSuchElementException" then P 1 a6 r7 n8 else False)))) : Sp G (d + 1) 1 6 ML_last [.ref l0, .int l1, .ref l2] (a, r, N) (RI P) := Sp.mk (mc := (0 + 1)) (ms := (0 + 6)) [.ref l0, .int l1, .ref l2, .null] rfl rfl rfl rfl (T_L_last_0 (C := 0) (S := 0) _ _ _ hs)
theorem dL_missing_0 : decode cL_missing 0 = .ok (.aload_n 2, 1) := by decide +kernel
theorem dL_missing_1 : decode cL_missing 1 = .ok (.iconst 0, 1) := by decide +kernel
theorem dL_missing_2 : decode cL_missing 2 = .ok (.aload_n 0, 1) := by decide +kernel
theorem dL_missing_3 : decode cL_missing 3 = .ok (.iload_n 1, 1) := by decide +kernel
theorem dL_missing_4 : decode cL_missing 4 = .ok (.invokevirtual 50, 3) := by decide +kernel
theorem dL_missing_7 : decode cL_missing 7 = .ok (.i2l, 1) := by decide +kernel
theorem dL_missing_8 : decode cL_missing 8 = .ok (.lastore, 1) := by decide +kernel
theorem dL_missing_9 : decode cL_missing 9 = .ok (.goto 6, 3) := by decide +kernel
theorem dL_missing_12 : decode cL_missing 12 = .ok (.astore_n 3, 1) := by decide +kernel
theorem dL_missing_13 : decode cL_missing 13 = .ok (.iconst 1, 1) := by decide +kernel
theorem dL_missing_14 : decode cL_missing 14 = .ok (.ireturn, 1) := by decide +kernel
theorem dL_missing_15 : decode cL_missing 15 = .ok (.iconst 0, 1) := by decide +kernel
theorem dL_missing_16 : decode cL_missing 16 = .ok (.ireturn, 1) := by decide +kernel
theorem hn_L_missing_0 : HnOK ML_missing 4 "java/util/NoSuchElementException" 13 3 := ⟨[], [], ⟨0, 9, 12, 31⟩, "java/util/NoSuchElementException", rfl, (fun z hz => nomatch hz), by decide, by decide, q_1200, q_1215, by decide, Or.inl ⟨3, dL_missing_12, rfl, rfl⟩⟩
set_option maxRecDepth 100000 in
theorem T_L_missing_0 {G : GE} {d C S : Nat} {P : KI} : Snd G ML_missing (d + 1) (C + 1) (S + 6) 0 (RI P) (s_aload 2 (s_iconst 0 (s_aload 0 (s_iload 1 (s_callVH G d MX11_missing 1 10 [("java/util/NoSuchElementException", 13, 3, (s_iconst 1 (s_ireturn P)))] (s_i2l (s_lastore (s_iconst 0 (s_ireturn P))))))))) := (e_aload_n dL_missing_0 rfl (e_iconst (v := 0) dL_missing_1 (by decide) (e_aload_n dL_missing_2 rfl (e_iload_n dL_missing_3 rfl (e_callVH (hds := [("java/util/NoSuchElementException", 13, 3, (s_iconst 1 (s_ireturn P)))]) cl_10 cal_X11_missing q_1317 q_1318 q_1319 dL_missing_4 (List.forall_mem_cons.mpr ⟨⟨hn_L_missing_0, (e_iconst (v := 1) dL_missing_13 (by decide) (e_ireturn rfl dL_missing_14))⟩, fun _ h => nomatch h⟩) (e_i2l dL_missing_7 (e_lastore dL_missing_8 (e_goto (tgt := 15) dL_missing_9 (by decide) (e_iconst (v := 0) dL_missing_15 (by decide) (e_ireturn rfl dL_missing_16))))))))))
set_option maxRecDepth 100000 in
theorem V_L_missing_0 {G : GE} {d : Nat} {P : KI} {a : Nat → Nat → Int32} {r : Nat → Nat → Value} {N : Nat} {l0 : Nat} {l1 : Int32} {l2 : Nat} (hs : (tyK l0 = (0, 10) ∧ l0 < N ∧ (Sp G d 0 0 MX11_missing [.ref l0, .int l1] (a, r, N) (RI fun v13 a10 r11 n12 => ((tyK l2).1 = 4 ∧ l2 < n12 ∧ vp_in 0 (tyK l2).2 ∧ ∀ r14, r14 = u2V r11 l2 (0 : Int32).toNatClampNeg (.long ((v13 : Int32).toInt64)) → P 0 a10 r14 n12)) ∨ Sp G d 1 6 MX11_missing [.ref l0, .int l1] (a, r, N) (RX fun e9 a6 r7 n8 => if e9 = "java/util/NoSuchElementException" then P 1 a6 r7 n8 else False)))) : Sp G (d + 1) 1 6 ML_missing [.ref l0, .int l1, .ref l2] (a, r, N) (RI P) := Sp.mk (mc := (0 + 1)) (ms := (0 + 6)) [.ref l0, .int l1, .ref l2, .null] rfl rfl rfl rfl (T_L_missing_0 (C := 0) (S := 0) _ _ _ hs)
theorem dL_stableFor_0 : decode cL_stableFor 0 = .ok (.aload_n 2, 1) := by decide +kernel
theorem dL_stableFor_1 : decode cL_stableFor 1 = .ok (.iconst 0, 1) := by decide +kernel
theorem dL_stableFor_2 : decode cL_stableFor 2 = .ok (.aload_n 0, 1) := by decide +kernel
theorem dL_stableFor_3 : decode cL_stableFor 3 = .ok (.iload_n 1, 1) := by decide +kernel
theorem dL_stableFor_4 : decode cL_stableFor 4 = .ok (.invokevirtual 53, 3) := by decide +kernel
theorem dL_stableFor_7 : decode cL_stableFor 7 = .ok (.i2l, 1) := by decide +kernel
theorem dL_stableFor_8 : decode cL_stableFor 8 = .ok (.lastore, 1) := by decide +kernel
theorem dL_stableFor_9 : decode cL_stableFor 9 = .ok (.goto 6, 3) := by decide +kernel
theorem dL_stableFor_12 : decode cL_stableFor 12 = .ok (.astore_n 3, 1) := by decide +kernel
theorem dL_stableFor_13 : decode cL_stableFor 13 = .ok (.iconst 1, 1) := by decide +kernel
theorem dL_stableFor_14 : decode cL_stableFor 14 = .ok (.ireturn, 1) := by decide +kernel
theorem dL_stableFor_15 : decode cL_stableFor 15 = .ok (.iconst 0, 1) := by decide +kernel
theorem dL_stableFor_16 : decode cL_stableFor 16 = .ok (.ireturn, 1) := by decide +kernel
theorem hn_L_stableFor_0 : HnOK ML_stableFor 4 "java/util/NoSuchElementException" 13 3 := ⟨[], [], ⟨0, 9, 12, 31⟩, "java/util/NoSuchElementException", rfl, (fun z hz => nomatch hz), by decide, by decide, q_1200, q_1215, by decide, Or.inl ⟨3, dL_stableFor_12, rfl, rfl⟩⟩
set_option maxRecDepth 100000 in
theorem T_L_stableFor_0 {G : GE} {d C S : Nat} {P : KI} : Snd G ML_stableFor (d + 1) (C + 1) (S + 6) 0 (RI P) (s_aload 2 (s_iconst 0 (s_aload 0 (s_iload 1 (s_callVH G d MX11_stableFor 1 10 [("java/util/NoSuchElementException", 13, 3, (s_iconst 1 (s_ireturn P)))] (s_i2l (s_lastore (s_iconst 0 (s_ireturn P))))))))) := (e_aload_n dL_stableFor_0 rfl (e_iconst (v := 0) dL_stableFor_1 (by decide) (e_aload_n dL_stableFor_2 rfl (e_iload_n dL_stableFor_3 rfl (e_callVH (hds := [("java/util/NoSuchElementException", 13, 3, (s_iconst 1 (s_ireturn P)))]) cl_10 cal_X11_stableFor q_1324 q_1325 q_1326 dL_stableFor_4 (List.forall_mem_cons.mpr ⟨⟨hn_L_stableFor_0, (e_iconst (v := 1) dL_stableFor_13 (by decide) (e_ireturn rfl dL_stableFor_14))⟩, fun _ h => nomatch h⟩) (e_i2l dL_stableFor_7 (e_lastore dL_stableFor_8 (e_goto (tgt := 15) dL_stableFor_9 (by decide) (e_iconst (v := 0) dL_stableFor_15 (by decide) (e_ireturn rfl dL_stableFor_16))))))))))
set_option maxRecDepth 100000 in
theorem V_L_stableFor_0 {G : GE} {d : Nat} {P : KI} {a : Nat → Nat → Int32} {r : Nat → Nat → Value} {N : Nat} {l0 : Nat} {l1 : Int32} {l2 : Nat} (hs : (tyK l0 = (0, 10) ∧ l0 < N ∧ (Sp G d 0 0 MX11_stableFor [.ref l0, .int l1] (a, r, N) (RI fun v13 a10 r11 n12 => ((tyK l2).1 = 4 ∧ l2 < n12 ∧ vp_in 0 (tyK l2).2 ∧ ∀ r14, r14 = u2V r11 l2 (0 : Int32).toNatClampNeg (.long ((v13 : Int32).toInt64)) → P 0 a10 r14 n12)) ∨ Sp G d 1 6 MX11_stableFor [.ref l0, .int l1] (a, r, N) (RX fun e9 a6 r7 n8 => if e9 = "java/util/NoSuchElementException" then P 1 a6 r7 n8 else False)))) : Sp G (d + 1) 1 6 ML_stableFor [.ref l0, .int l1, .ref l2] (a, r, N) (RI P) := Sp.mk (mc := (0 + 1)) (ms := (0 + 6)) [.ref l0, .int l1, .ref l2, .null] rfl rfl rfl rfl (T_L_stableFor_0 (C := 0) (S := 0) _ _ _ hs)
theorem dL_bestFor_0 : decode cL_bestFor 0 = .ok (.aload_n 2, 1) := by decide +kernel
theorem dL_bestFor_1 : decode cL_bestFor 1 = .ok (.iconst 0, 1) := by decide +kernel
theorem dL_bestFor_2 : decode cL_bestFor 2 = .ok (.aload_n 0, 1) := by decide +kernel
theorem dL_bestFor_3 : decode cL_bestFor 3 = .ok (.iload_n 1, 1) := by decide +kernel
theorem dL_bestFor_4 : decode cL_bestFor 4 = .ok (.invokevirtual 56, 3) := by decide +kernel
theorem dL_bestFor_7 : decode cL_bestFor 7 = .ok (.i2l, 1) := by decide +kernel
theorem dL_bestFor_8 : decode cL_bestFor 8 = .ok (.lastore, 1) := by decide +kernel
theorem dL_bestFor_9 : decode cL_bestFor 9 = .ok (.goto 6, 3) := by decide +kernel
theorem dL_bestFor_12 : decode cL_bestFor 12 = .ok (.astore_n 3, 1) := by decide +kernel
theorem dL_bestFor_13 : decode cL_bestFor 13 = .ok (.iconst 1, 1) := by decide +kernel
theorem dL_bestFor_14 : decode cL_bestFor 14 = .ok (.ireturn, 1) := by decide +kernel
theorem dL_bestFor_15 : decode cL_bestFor 15 = .ok (.iconst 0, 1) := by decide +kernel
theorem dL_bestFor_16 : decode cL_bestFor 16 = .ok (.ireturn, 1) := by decide +kernel
theorem hn_L_bestFor_0 : HnOK ML_bestFor 4 "java/util/NoSuchElementException" 13 3 := ⟨[], [], ⟨0, 9, 12, 31⟩, "java/util/NoSuchElementException", rfl, (fun z hz => nomatch hz), by decide, by decide, q_1200, q_1215, by decide, Or.inl ⟨3, dL_bestFor_12, rfl, rfl⟩⟩
set_option maxRecDepth 100000 in
theorem T_L_bestFor_0 {G : GE} {d C S : Nat} {P : KI} : Snd G ML_bestFor (d + 1) (C + 1) (S + 6) 0 (RI P) (s_aload 2 (s_iconst 0 (s_aload 0 (s_iload 1 (s_callVH G d MX11_bestFor 1 10 [("java/util/NoSuchElementException", 13, 3, (s_iconst 1 (s_ireturn P)))] (s_i2l (s_lastore (s_iconst 0 (s_ireturn P))))))))) := (e_aload_n dL_bestFor_0 rfl (e_iconst (v := 0) dL_bestFor_1 (by decide) (e_aload_n dL_bestFor_2 rfl (e_iload_n dL_bestFor_3 rfl (e_callVH (hds := [("java/util/NoSuchElementException", 13, 3, (s_iconst 1 (s_ireturn P)))]) cl_10 cal_X11_bestFor q_1335 q_1336 q_1337 dL_bestFor_4 (List.forall_mem_cons.mpr ⟨⟨hn_L_bestFor_0, (e_iconst (v := 1) dL_bestFor_13 (by decide) (e_ireturn rfl dL_bestFor_14))⟩, fun _ h => nomatch h⟩) (e_i2l dL_bestFor_7 (e_lastore dL_bestFor_8 (e_goto (tgt := 15) dL_bestFor_9 (by decide) (e_iconst (v := 0) dL_bestFor_15 (by decide) (e_ireturn rfl dL_bestFor_16))))))))))
set_option maxRecDepth 100000 in
theorem V_L_bestFor_0 {G : GE} {d : Nat} {P : KI} {a : Nat → Nat → Int32} {r : Nat → Nat → Value} {N : Nat} {l0 : Nat} {l1 : Int32} {l2 : Nat} (hs : (tyK l0 = (0, 10) ∧ l0 < N ∧ (Sp G d 0 0 MX11_bestFor [.ref l0, .int l1] (a, r, N) (RI fun v13 a10 r11 n12 => ((tyK l2).1 = 4 ∧ l2 < n12 ∧ vp_in 0 (tyK l2).2 ∧ ∀ r14, r14 = u2V r11 l2 (0 : Int32).toNatClampNeg (.long ((v13 : Int32).toInt64)) → P 0 a10 r14 n12)) ∨ Sp G d 1 6 MX11_bestFor [.ref l0, .int l1] (a, r, N) (RX fun e9 a6 r7 n8 => if e9 = "java/util/NoSuchElementException" then P 1 a6 r7 n8 else False)))) : Sp G (d + 1) 1 6 ML_bestFor [.ref l0, .int l1, .ref l2] (a, r, N) (RI P) := Sp.mk (mc := (0 + 1)) (ms := (0 + 6)) [.ref l0, .int l1, .ref l2, .null] rfl rfl rfl rfl (T_L_bestFor_0 (C := 0) (S := 0) _ _ _ hs)
theorem dL_way_0 : decode cL_way 0 = .ok (.aload_n 3, 1) := by decide +kernel
theorem dL_way_1 : decode cL_way 1 = .ok (.iconst 0, 1) := by decide +kernel
theorem dL_way_2 : decode cL_way 2 = .ok (.aload_n 0, 1) := by decide +kernel
theorem dL_way_3 : decode cL_way 3 = .ok (.iload_n 1, 1) := by decide +kernel
theorem dL_way_4 : decode cL_way 4 = .ok (.iload_n 2, 1) := by decide +kernel
theorem dL_way_5 : decode cL_way 5 = .ok (.invokevirtual 59, 3) := by decide +kernel
theorem dL_way_8 : decode cL_way 8 = .ok (.i2l, 1) := by decide +kernel
theorem dL_way_9 : decode cL_way 9 = .ok (.lastore, 1) := by decide +kernel
theorem dL_way_10 : decode cL_way 10 = .ok (.goto 7, 3) := by decide +kernel
theorem dL_way_13 : decode cL_way 13 = .ok (.astore 4, 2) := by decide +kernel
theorem dL_way_15 : decode cL_way 15 = .ok (.iconst 1, 1) := by decide +kernel
theorem dL_way_16 : decode cL_way 16 = .ok (.ireturn, 1) := by decide +kernel
theorem dL_way_17 : decode cL_way 17 = .ok (.iconst 0, 1) := by decide +kernel
theorem dL_way_18 : decode cL_way 18 = .ok (.ireturn, 1) := by decide +kernel
theorem hn_L_way_0 : HnOK ML_way 5 "java/util/NoSuchElementException" 15 4 := ⟨[], [], ⟨0, 10, 13, 31⟩, "java/util/NoSuchElementException", rfl, (fun z hz => nomatch hz), by decide, by decide, q_1200, q_1215, by decide, Or.inr ⟨dL_way_13, rfl⟩⟩
set_option maxRecDepth 100000 in
theorem T_L_way_0 {G : GE} {d C S : Nat} {P : KI} : Snd G ML_way (d + 1) (C + 1) (S + 6) 0 (RI P) (s_aload 3 (s_iconst 0 (s_aload 0 (s_iload 1 (s_iload 2 (s_callVH G d MX11_way 2 10 [("java/util/NoSuchElementException", 15, 4, (s_iconst 1 (s_ireturn P)))] (s_i2l (s_lastore (s_iconst 0 (s_ireturn P)))))))))) := (e_aload_n dL_way_0 rfl (e_iconst (v := 0) dL_way_1 (by decide) (e_aload_n dL_way_2 rfl (e_iload_n dL_way_3 rfl (e_iload_n dL_way_4 rfl (e_callVH (hds := [("java/util/NoSuchElementException", 15, 4, (s_iconst 1 (s_ireturn P)))]) cl_10 cal_X11_way q_1346 q_1347 q_1348 dL_way_5 (List.forall_mem_cons.mpr ⟨⟨hn_L_way_0, (e_iconst (v := 1) dL_way_15 (by decide) (e_ireturn rfl dL_way_16))⟩, fun _ h => nomatch h⟩) (e_i2l dL_way_8 (e_lastore dL_way_9 (e_goto (tgt := 17) dL_way_10 (by decide) (e_iconst (v := 0) dL_way_17 (by decide) (e_ireturn rfl dL_way_18)))))))))))
set_option maxRecDepth 100000 in
theorem V_L_way_0 {G : GE} {d : Nat} {P : KI} {a : Nat → Nat → Int32} {r : Nat → Nat → Value} {N : Nat} {l0 : Nat} {l1 : Int32} {l2 : Int32} {l3 : Nat} (hs : (tyK l0 = (0, 10) ∧ l0 < N ∧ (Sp G d 0 0 MX11_way [.ref l0, .int l1, .int l2] (a, r, N) (RI fun v13 a10 r11 n12 => ((tyK l3).1 = 4 ∧ l3 < n12 ∧ vp_in 0 (tyK l3).2 ∧ ∀ r14, r14 = u2V r11 l3 (0 : Int32).toNatClampNeg (.long ((v13 : Int32).toInt64)) → P 0 a10 r14 n12)) ∨ Sp G d 1 6 MX11_way [.ref l0, .int l1, .int l2] (a, r, N) (RX fun e9 a6 r7 n8 => if e9 = "java/util/NoSuchElementException" then P 1 a6 r7 n8 else False)))) : Sp G (d + 1) 1 6 ML_way [.ref l0, .int l1, .int l2, .ref l3] (a, r, N) (RI P) := Sp.mk (mc := (0 + 1)) (ms := (0 + 6)) [.ref l0, .int l1, .int l2, .ref l3, .null] rfl rfl rfl rfl (T_L_way_0 (C := 0) (S := 0) _ _ _ hs)
theorem dL_round_0 : decode cL_round 0 = .ok (.aload_n 2, 1) := by decide +kernel
theorem dL_round_1 : decode cL_round 1 = .ok (.iconst 0, 1) := by decide +kernel
theorem dL_round_2 : decode cL_round 2 = .ok (.aload_n 0, 1) := by decide +kernel
theorem dL_round_3 : decode cL_round 3 = .ok (.iload_n 1, 1) := by decide +kernel
theorem dL_round_4 : decode cL_round 4 = .ok (.invokevirtual 62, 3) := by decide +kernel
theorem dL_round_7 : decode cL_round 7 = .ok (.i2l, 1) := by decide +kernel
theorem dL_round_8 : decode cL_round 8 = .ok (.lastore, 1) := by decide +kernel
theorem dL_round_9 : decode cL_round 9 = .ok (.goto 6, 3) := by decide +kernel
theorem dL_round_12 : decode cL_round 12 = .ok (.astore_n 3, 1) := by decide +kernel
theorem dL_round_13 : decode cL_round 13 = .ok (.iconst 1, 1) := by decide +kernel
theorem dL_round_14 : decode cL_round 14 = .ok (.ireturn, 1) := by decide +kernel
theorem dL_round_15 : decode cL_round 15 = .ok (.iconst 0, 1) := by decide +kernel
theorem dL_round_16 : decode cL_round 16 = .ok (.ireturn, 1) := by decide +kernel
theorem hn_L_round_0 : HnOK ML_round 4 "java/lang/IllegalArgumentException" 13 3 := ⟨[], [], ⟨0, 9, 12, 13⟩, "java/lang/IllegalArgumentException", rfl, (fun z hz => nomatch hz), by decide, by decide, q_706, q_721, by decide, Or.inl ⟨3, dL_round_12, rfl, rfl⟩⟩
set_option maxRecDepth 100000 in
theorem T_L_round_0 {G : GE} {d C S : Nat} {P : KI} : Snd G ML_round (d + 1) (C + 1) (S + 6) 0 (RI P) (s_aload 2 (s_iconst 0 (s_aload 0 (s_iload 1 (s_callVH G d MX11_round 1 10 [("java/lang/IllegalArgumentException", 13, 3, (s_iconst 1 (s_ireturn P)))] (s_i2l (s_lastore (s_iconst 0 (s_ireturn P))))))))) := (e_aload_n dL_round_0 rfl (e_iconst (v := 0) dL_round_1 (by decide) (e_aload_n dL_round_2 rfl (e_iload_n dL_round_3 rfl (e_callVH (hds := [("java/lang/IllegalArgumentException", 13, 3, (s_iconst 1 (s_ireturn P)))]) cl_10 cal_X11_round q_1377 q_1378 q_1379 dL_round_4 (List.forall_mem_cons.mpr ⟨⟨hn_L_round_0, (e_iconst (v := 1) dL_round_13 (by decide) (e_ireturn rfl dL_round_14))⟩, fun _ h => nomatch h⟩) (e_i2l dL_round_7 (e_lastore dL_round_8 (e_goto (tgt := 15) dL_round_9 (by decide) (e_iconst (v := 0) dL_round_15 (by decide) (e_ireturn rfl dL_round_16))))))))))
set_option maxRecDepth 100000 in
theorem V_L_round_0 {G : GE} {d : Nat} {P : KI} {a : Nat → Nat → Int32} {r : Nat → Nat → Value} {N : Nat} {l0 : Nat} {l1 : Int32} {l2 : Nat} (hs : (tyK l0 = (0, 10) ∧ l0 < N ∧ (Sp G d 0 0 MX11_round [.ref l0, .int l1] (a, r, N) (RI fun v13 a10 r11 n12 => ((tyK l2).1 = 4 ∧ l2 < n12 ∧ vp_in 0 (tyK l2).2 ∧ ∀ r14, r14 = u2V r11 l2 (0 : Int32).toNatClampNeg (.long ((v13 : Int32).toInt64)) → P 0 a10 r14 n12)) ∨ Sp G d 1 6 MX11_round [.ref l0, .int l1] (a, r, N) (RX fun e9 a6 r7 n8 => if e9 = "java/lang/IllegalArgumentException" then P 1 a6 r7 n8 else False)))) : Sp G (d + 1) 1 6 ML_round [.ref l0, .int l1, .ref l2] (a, r, N) (RI P) := Sp.mk (mc := (0 + 1)) (ms := (0 + 6)) [.ref l0, .int l1, .ref l2, .null] rfl rfl rfl rfl (T_L_round_0 (C := 0) (S := 0) _ _ _ hs)
theorem dL_reach_0 : decode cL_reach 0 = .ok (.aload_n 2, 1) := by decide +kernel
theorem dL_reach_1 : decode cL_reach 1 = .ok (.iconst 0, 1) := by decide +kernel
theorem dL_reach_2 : decode cL_reach 2 = .ok (.aload_n 0, 1) := by decide +kernel
theorem dL_reach_3 : decode cL_reach 3 = .ok (.iload_n 1, 1) := by decide +kernel
theorem dL_reach_4 : decode cL_reach 4 = .ok (.invokevirtual 65, 3) := by decide +kernel
theorem dL_reach_7 : decode cL_reach 7 = .ok (.i2l, 1) := by decide +kernel
theorem dL_reach_8 : decode cL_reach 8 = .ok (.lastore, 1) := by decide +kernel
theorem dL_reach_9 : decode cL_reach 9 = .ok (.goto 6, 3) := by decide +kernel
theorem dL_reach_12 : decode cL_reach 12 = .ok (.astore_n 3, 1) := by decide +kernel
theorem dL_reach_13 : decode cL_reach 13 = .ok (.iconst 1, 1) := by decide +kernel
theorem dL_reach_14 : decode cL_reach 14 = .ok (.ireturn, 1) := by decide +kernel
theorem dL_reach_15 : decode cL_reach 15 = .ok (.iconst 0, 1) := by decide +kernel
theorem dL_reach_16 : decode cL_reach 16 = .ok (.ireturn, 1) := by decide +kernel
theorem hn_L_reach_0 : HnOK ML_reach 4 "java/util/NoSuchElementException" 13 3 := ⟨[], [], ⟨0, 9, 12, 31⟩, "java/util/NoSuchElementException", rfl, (fun z hz => nomatch hz), by decide, by decide, q_1200, q_1215, by decide, Or.inl ⟨3, dL_reach_12, rfl, rfl⟩⟩
set_option maxRecDepth 100000 in
theorem T_L_reach_0 {G : GE} {d C S : Nat} {P : KI} : Snd G ML_reach (d + 1) (C + 1) (S + 6) 0 (RI P) (s_aload 2 (s_iconst 0 (s_aload 0 (s_iload 1 (s_callVH G d MX11_reach 1 10 [("java/util/NoSuchElementException", 13, 3, (s_iconst 1 (s_ireturn P)))] (s_i2l (s_lastore (s_iconst 0 (s_ireturn P))))))))) := (e_aload_n dL_reach_0 rfl (e_iconst (v := 0) dL_reach_1 (by decide) (e_aload_n dL_reach_2 rfl (e_iload_n dL_reach_3 rfl (e_callVH (hds := [("java/util/NoSuchElementException", 13, 3, (s_iconst 1 (s_ireturn P)))]) cl_10 cal_X11_reach q_1395 q_1396 q_1397 dL_reach_4 (List.forall_mem_cons.mpr ⟨⟨hn_L_reach_0, (e_iconst (v := 1) dL_reach_13 (by decide) (e_ireturn rfl dL_reach_14))⟩, fun _ h => nomatch h⟩) (e_i2l dL_reach_7 (e_lastore dL_reach_8 (e_goto (tgt := 15) dL_reach_9 (by decide) (e_iconst (v := 0) dL_reach_15 (by decide) (e_ireturn rfl dL_reach_16))))))))))
set_option maxRecDepth 100000 in
theorem V_L_reach_0 {G : GE} {d : Nat} {P : KI} {a : Nat → Nat → Int32} {r : Nat → Nat → Value} {N : Nat} {l0 : Nat} {l1 : Int32} {l2 : Nat} (hs : (tyK l0 = (0, 10) ∧ l0 < N ∧ (Sp G d 0 0 MX11_reach [.ref l0, .int l1] (a, r, N) (RI fun v13 a10 r11 n12 => ((tyK l2).1 = 4 ∧ l2 < n12 ∧ vp_in 0 (tyK l2).2 ∧ ∀ r14, r14 = u2V r11 l2 (0 : Int32).toNatClampNeg (.long ((v13 : Int32).toInt64)) → P 0 a10 r14 n12)) ∨ Sp G d 1 6 MX11_reach [.ref l0, .int l1] (a, r, N) (RX fun e9 a6 r7 n8 => if e9 = "java/util/NoSuchElementException" then P 1 a6 r7 n8 else False)))) : Sp G (d + 1) 1 6 ML_reach [.ref l0, .int l1, .ref l2] (a, r, N) (RI P) := Sp.mk (mc := (0 + 1)) (ms := (0 + 6)) [.ref l0, .int l1, .ref l2, .null] rfl rfl rfl rfl (T_L_reach_0 (C := 0) (S := 0) _ _ _ hs)
theorem dL_bridges_0 : decode cL_bridges 0 = .ok (.aload_n 2, 1) := by decide +kernel
theorem dL_bridges_1 : decode cL_bridges 1 = .ok (.iconst 0, 1) := by decide +kernel
theorem dL_bridges_2 : decode cL_bridges 2 = .ok (.aload_n 0, 1) := by decide +kernel
theorem dL_bridges_3 : decode cL_bridges 3 = .ok (.iload_n 1, 1) := by decide +kernel
theorem dL_bridges_4 : decode cL_bridges 4 = .ok (.invokevirtual 68, 3) := by decide +kernel
theorem dL_bridges_7 : decode cL_bridges 7 = .ok (.i2l, 1) := by decide +kernel
theorem dL_bridges_8 : decode cL_bridges 8 = .ok (.lastore, 1) := by decide +kernel
theorem dL_bridges_9 : decode cL_bridges 9 = .ok (.goto 6, 3) := by decide +kernel
theorem dL_bridges_12 : decode cL_bridges 12 = .ok (.astore_n 3, 1) := by decide +kernel
theorem dL_bridges_13 : decode cL_bridges 13 = .ok (.iconst 1, 1) := by decide +kernel
theorem dL_bridges_14 : decode cL_bridges 14 = .ok (.ireturn, 1) := by decide +kernel
theorem dL_bridges_15 : decode cL_bridges 15 = .ok (.iconst 0, 1) := by decide +kernel
theorem dL_bridges_16 : decode cL_bridges 16 = .ok (.ireturn, 1) := by decide +kernel
theorem hn_L_bridges_0 : HnOK ML_bridges 4 "java/lang/IllegalArgumentException" 13 3 := ⟨[], [], ⟨0, 9, 12, 13⟩, "java/lang/IllegalArgumentException", rfl, (fun z hz => nomatch hz), by decide, by decide, q_706, q_721, by decide, Or.inl ⟨3, dL_bridges_12, rfl, rfl⟩⟩
set_option maxRecDepth 100000 in
theorem T_L_bridges_0 {G : GE} {d C S : Nat} {P : KI} : Snd G ML_bridges (d + 1) (C + 1) (S + 6) 0 (RI P) (s_aload 2 (s_iconst 0 (s_aload 0 (s_iload 1 (s_callVH G d MX11_bridges 1 10 [("java/lang/IllegalArgumentException", 13, 3, (s_iconst 1 (s_ireturn P)))] (s_i2l (s_lastore (s_iconst 0 (s_ireturn P))))))))) := (e_aload_n dL_bridges_0 rfl (e_iconst (v := 0) dL_bridges_1 (by decide) (e_aload_n dL_bridges_2 rfl (e_iload_n dL_bridges_3 rfl (e_callVH (hds := [("java/lang/IllegalArgumentException", 13, 3, (s_iconst 1 (s_ireturn P)))]) cl_10 cal_X11_bridges q_1402 q_1403 q_1404 dL_bridges_4 (List.forall_mem_cons.mpr ⟨⟨hn_L_bridges_0, (e_iconst (v := 1) dL_bridges_13 (by decide) (e_ireturn rfl dL_bridges_14))⟩, fun _ h => nomatch h⟩) (e_i2l dL_bridges_7 (e_lastore dL_bridges_8 (e_goto (tgt := 15) dL_bridges_9 (by decide) (e_iconst (v := 0) dL_bridges_15 (by decide) (e_ireturn rfl dL_bridges_16))))))))))
set_option maxRecDepth 100000 in
theorem V_L_bridges_0 {G : GE} {d : Nat} {P : KI} {a : Nat → Nat → Int32} {r : Nat → Nat → Value} {N : Nat} {l0 : Nat} {l1 : Int32} {l2 : Nat} (hs : (tyK l0 = (0, 10) ∧ l0 < N ∧ (Sp G d 0 0 MX11_bridges [.ref l0, .int l1] (a, r, N) (RI fun v13 a10 r11 n12 => ((tyK l2).1 = 4 ∧ l2 < n12 ∧ vp_in 0 (tyK l2).2 ∧ ∀ r14, r14 = u2V r11 l2 (0 : Int32).toNatClampNeg (.long ((v13 : Int32).toInt64)) → P 0 a10 r14 n12)) ∨ Sp G d 1 6 MX11_bridges [.ref l0, .int l1] (a, r, N) (RX fun e9 a6 r7 n8 => if e9 = "java/lang/IllegalArgumentException" then P 1 a6 r7 n8 else False)))) : Sp G (d + 1) 1 6 ML_bridges [.ref l0, .int l1, .ref l2] (a, r, N) (RI P) := Sp.mk (mc := (0 + 1)) (ms := (0 + 6)) [.ref l0, .int l1, .ref l2, .null] rfl rfl rfl rfl (T_L_bridges_0 (C := 0) (S := 0) _ _ _ hs)
theorem dL_fair_0 : decode cL_fair 0 = .ok (.aload_n 2, 1) := by decide +kernel
theorem dL_fair_1 : decode cL_fair 1 = .ok (.iconst 0, 1) := by decide +kernel
theorem dL_fair_2 : decode cL_fair 2 = .ok (.aload_n 0, 1) := by decide +kernel
theorem dL_fair_3 : decode cL_fair 3 = .ok (.iload_n 1, 1) := by decide +kernel
theorem dL_fair_4 : decode cL_fair 4 = .ok (.invokevirtual 71, 3) := by decide +kernel
theorem dL_fair_7 : decode cL_fair 7 = .ok (.i2l, 1) := by decide +kernel
theorem dL_fair_8 : decode cL_fair 8 = .ok (.lastore, 1) := by decide +kernel
theorem dL_fair_9 : decode cL_fair 9 = .ok (.goto 6, 3) := by decide +kernel
theorem dL_fair_12 : decode cL_fair 12 = .ok (.astore_n 3, 1) := by decide +kernel
theorem dL_fair_13 : decode cL_fair 13 = .ok (.iconst 1, 1) := by decide +kernel
theorem dL_fair_14 : decode cL_fair 14 = .ok (.ireturn, 1) := by decide +kernel
theorem dL_fair_15 : decode cL_fair 15 = .ok (.iconst 0, 1) := by decide +kernel
theorem dL_fair_16 : decode cL_fair 16 = .ok (.ireturn, 1) := by decide +kernel
theorem hn_L_fair_0 : HnOK ML_fair 4 "java/lang/IllegalArgumentException" 13 3 := ⟨[], [], ⟨0, 9, 12, 13⟩, "java/lang/IllegalArgumentException", rfl, (fun z hz => nomatch hz), by decide, by decide, q_706, q_721, by decide, Or.inl ⟨3, dL_fair_12, rfl, rfl⟩⟩
set_option maxRecDepth 100000 in
theorem T_L_fair_0 {G : GE} {d C S : Nat} {P : KI} : Snd G ML_fair (d + 1) (C + 1) (S + 6) 0 (RI P) (s_aload 2 (s_iconst 0 (s_aload 0 (s_iload 1 (s_callVH G d MX11_fair 1 10 [("java/lang/IllegalArgumentException", 13, 3, (s_iconst 1 (s_ireturn P)))] (s_i2l (s_lastore (s_iconst 0 (s_ireturn P))))))))) := (e_aload_n dL_fair_0 rfl (e_iconst (v := 0) dL_fair_1 (by decide) (e_aload_n dL_fair_2 rfl (e_iload_n dL_fair_3 rfl (e_callVH (hds := [("java/lang/IllegalArgumentException", 13, 3, (s_iconst 1 (s_ireturn P)))]) cl_10 cal_X11_fair q_1409 q_1410 q_1411 dL_fair_4 (List.forall_mem_cons.mpr ⟨⟨hn_L_fair_0, (e_iconst (v := 1) dL_fair_13 (by decide) (e_ireturn rfl dL_fair_14))⟩, fun _ h => nomatch h⟩) (e_i2l dL_fair_7 (e_lastore dL_fair_8 (e_goto (tgt := 15) dL_fair_9 (by decide) (e_iconst (v := 0) dL_fair_15 (by decide) (e_ireturn rfl dL_fair_16))))))))))
set_option maxRecDepth 100000 in
theorem V_L_fair_0 {G : GE} {d : Nat} {P : KI} {a : Nat → Nat → Int32} {r : Nat → Nat → Value} {N : Nat} {l0 : Nat} {l1 : Int32} {l2 : Nat} (hs : (tyK l0 = (0, 10) ∧ l0 < N ∧ (Sp G d 0 0 MX11_fair [.ref l0, .int l1] (a, r, N) (RI fun v13 a10 r11 n12 => ((tyK l2).1 = 4 ∧ l2 < n12 ∧ vp_in 0 (tyK l2).2 ∧ ∀ r14, r14 = u2V r11 l2 (0 : Int32).toNatClampNeg (.long ((v13 : Int32).toInt64)) → P 0 a10 r14 n12)) ∨ Sp G d 1 6 MX11_fair [.ref l0, .int l1] (a, r, N) (RX fun e9 a6 r7 n8 => if e9 = "java/lang/IllegalArgumentException" then P 1 a6 r7 n8 else False)))) : Sp G (d + 1) 1 6 ML_fair [.ref l0, .int l1, .ref l2] (a, r, N) (RI P) := Sp.mk (mc := (0 + 1)) (ms := (0 + 6)) [.ref l0, .int l1, .ref l2, .null] rfl rfl rfl rfl (T_L_fair_0 (C := 0) (S := 0) _ _ _ hs)
theorem dL_mates_0 : decode cL_mates 0 = .ok (.aload_n 3, 1) := by decide +kernel
theorem dL_mates_1 : decode cL_mates 1 = .ok (.iconst 0, 1) := by decide +kernel
theorem dL_mates_2 : decode cL_mates 2 = .ok (.aload_n 0, 1) := by decide +kernel
theorem dL_mates_3 : decode cL_mates 3 = .ok (.iload_n 1, 1) := by decide +kernel
theorem dL_mates_4 : decode cL_mates 4 = .ok (.iload_n 2, 1) := by decide +kernel
theorem dL_mates_5 : decode cL_mates 5 = .ok (.invokevirtual 74, 3) := by decide +kernel
theorem dL_mates_8 : decode cL_mates 8 = .ok (.i2l, 1) := by decide +kernel
theorem dL_mates_9 : decode cL_mates 9 = .ok (.lastore, 1) := by decide +kernel
theorem dL_mates_10 : decode cL_mates 10 = .ok (.goto 11, 3) := by decide +kernel
theorem dL_mates_13 : decode cL_mates 13 = .ok (.astore 4, 2) := by decide +kernel
theorem dL_mates_15 : decode cL_mates 15 = .ok (.iconst 1, 1) := by decide +kernel
theorem dL_mates_16 : decode cL_mates 16 = .ok (.ireturn, 1) := by decide +kernel
theorem dL_mates_17 : decode cL_mates 17 = .ok (.astore 4, 2) := by decide +kernel
theorem dL_mates_19 : decode cL_mates 19 = .ok (.iconst 2, 1) := by decide +kernel
theorem dL_mates_20 : decode cL_mates 20 = .ok (.ireturn, 1) := by decide +kernel
theorem dL_mates_21 : decode cL_mates 21 = .ok (.iconst 0, 1) := by decide +kernel
theorem dL_mates_22 : decode cL_mates 22 = .ok (.ireturn, 1) := by decide +kernel
theorem hn_L_mates_0 : HnOK ML_mates 5 "java/util/NoSuchElementException" 15 4 := ⟨[], [⟨0, 10, 17, 13⟩], ⟨0, 10, 13, 31⟩, "java/util/NoSuchElementException", rfl, (fun z hz => nomatch hz), by decide, by decide, q_1200, q_1215, by decide, Or.inr ⟨dL_mates_13, rfl⟩⟩
theorem hn_L_mates_1 : HnOK ML_mates 5 "java/lang/IllegalArgumentException" 19 4 := ⟨[⟨0, 10, 13, 31⟩], [], ⟨0, 10, 17, 13⟩, "java/lang/IllegalArgumentException", rfl, (fun z hz => by cases List.mem_singleton.mp hz; exact ⟨by decide, "java/util/NoSuchElementException", q_1200, by decide +kernel⟩), by decide, by decide, q_706, q_721, by decide, Or.inr ⟨dL_mates_17, rfl⟩⟩
set_option maxRecDepth 100000 in
theorem T_L_mates_0 {G : GE} {d C S : Nat} {P : KI} : Snd G ML_mates (d + 1) (C + 1) (S + 6) 0 (RI P) (s_aload 3 (s_iconst 0 (s_aload 0 (s_iload 1 (s_iload 2 (s_callVH G d MX11_mates 2 10 [("java/util/NoSuchElementException", 15, 4, (s_iconst 1 (s_ireturn P))), ("java/lang/IllegalArgumentException", 19, 4, (s_iconst 2 (s_ireturn P)))] (s_i2l (s_lastore (s_iconst 0 (s_ireturn P)))))))))) := (e_aload_n dL_mates_0 rfl (e_iconst (v := 0) dL_mates_1 (by decide) (e_aload_n dL_mates_2 rfl (e_iload_n dL_mates_3 rfl (e_iload_n dL_mates_4 rfl (e_callVH (hds := [("java/util/NoSuchElementException", 15, 4, (s_iconst 1 (s_ireturn P))), ("java/lang/IllegalArgumentException", 19, 4, (s_iconst 2 (s_ireturn P)))]) cl_10 cal_X11_mates q_1416 q_1417 q_1418 dL_mates_5 (List.forall_mem_cons.mpr ⟨⟨hn_L_mates_0, (e_iconst (v := 1) dL_mates_15 (by decide) (e_ireturn rfl dL_mates_16))⟩, List.forall_mem_cons.mpr ⟨⟨hn_L_mates_1, (e_iconst (v := 2) dL_mates_19 (by decide) (e_ireturn rfl dL_mates_20))⟩, fun _ h => nomatch h⟩⟩) (e_i2l dL_mates_8 (e_lastore dL_mates_9 (e_goto (tgt := 21) dL_mates_10 (by decide) (e_iconst (v := 0) dL_mates_21 (by decide) (e_ireturn rfl dL_mates_22)))))))))))
set_option maxRecDepth 100000 in
theorem V_L_mates_0 {G : GE} {d : Nat} {P : KI} {a : Nat → Nat → Int32} {r : Nat → Nat → Value} {N : Nat} {l0 : Nat} {l1 : Int32} {l2 : Int32} {l3 : Nat} (hs : (tyK l0 = (0, 10) ∧ l0 < N ∧ (Sp G d 0 0 MX11_mates [.ref l0, .int l1, .int l2] (a, r, N) (RI fun v13 a10 r11 n12 => ((tyK l3).1 = 4 ∧ l3 < n12 ∧ vp_in 0 (tyK l3).2 ∧ ∀ r14, r14 = u2V r11 l3 (0 : Int32).toNatClampNeg (.long ((v13 : Int32).toInt64)) → P 0 a10 r14 n12)) ∨ Sp G d 1 6 MX11_mates [.ref l0, .int l1, .int l2] (a, r, N) (RX fun e9 a6 r7 n8 => if e9 = "java/util/NoSuchElementException" then P 1 a6 r7 n8 else if e9 = "java/lang/IllegalArgumentException" then P 2 a6 r7 n8 else False)))) : Sp G (d + 1) 1 6 ML_mates [.ref l0, .int l1, .int l2, .ref l3] (a, r, N) (RI P) := Sp.mk (mc := (0 + 1)) (ms := (0 + 6)) [.ref l0, .int l1, .int l2, .ref l3, .null] rfl rfl rfl rfl (T_L_mates_0 (C := 0) (S := 0) _ _ _ hs)
theorem dL_look_0 : decode cL_look 0 = .ok (.aload_n 3, 1) := by decide +kernel
theorem dL_look_1 : decode cL_look 1 = .ok (.iconst 0, 1) := by decide +kernel
theorem dL_look_2 : decode cL_look 2 = .ok (.aload_n 0, 1) := by decide +kernel
theorem dL_look_3 : decode cL_look 3 = .ok (.iload_n 1, 1) := by decide +kernel
theorem dL_look_4 : decode cL_look 4 = .ok (.iload_n 2, 1) := by decide +kernel
theorem dL_look_5 : decode cL_look 5 = .ok (.invokevirtual 77, 3) := by decide +kernel
theorem dL_look_8 : decode cL_look 8 = .ok (.i2l, 1) := by decide +kernel
theorem dL_look_9 : decode cL_look 9 = .ok (.lastore, 1) := by decide +kernel
theorem dL_look_10 : decode cL_look 10 = .ok (.goto 11, 3) := by decide +kernel
theorem dL_look_13 : decode cL_look 13 = .ok (.astore 4, 2) := by decide +kernel
theorem dL_look_15 : decode cL_look 15 = .ok (.iconst 1, 1) := by decide +kernel
theorem dL_look_16 : decode cL_look 16 = .ok (.ireturn, 1) := by decide +kernel
theorem dL_look_17 : decode cL_look 17 = .ok (.astore 4, 2) := by decide +kernel
theorem dL_look_19 : decode cL_look 19 = .ok (.iconst 2, 1) := by decide +kernel
theorem dL_look_20 : decode cL_look 20 = .ok (.ireturn, 1) := by decide +kernel
theorem dL_look_21 : decode cL_look 21 = .ok (.iconst 0, 1) := by decide +kernel
theorem dL_look_22 : decode cL_look 22 = .ok (.ireturn, 1) := by decide +kernel
theorem hn_L_look_0 : HnOK ML_look 5 "java/util/NoSuchElementException" 15 4 := ⟨[], [⟨0, 10, 17, 13⟩], ⟨0, 10, 13, 31⟩, "java/util/NoSuchElementException", rfl, (fun z hz => nomatch hz), by decide, by decide, q_1200, q_1215, by decide, Or.inr ⟨dL_look_13, rfl⟩⟩
theorem hn_L_look_1 : HnOK ML_look 5 "java/lang/IllegalArgumentException" 19 4 := ⟨[⟨0, 10, 13, 31⟩], [], ⟨0, 10, 17, 13⟩, "java/lang/IllegalArgumentException", rfl, (fun z hz => by cases List.mem_singleton.mp hz; exact ⟨by decide, "java/util/NoSuchElementException", q_1200, by decide +kernel⟩), by decide, by decide, q_706, q_721, by decide, Or.inr ⟨dL_look_17, rfl⟩⟩
set_option maxRecDepth 100000 in
theorem T_L_look_0 {G : GE} {d C S : Nat} {P : KI} : Snd G ML_look (d + 1) (C + 1) (S + 6) 0 (RI P) (s_aload 3 (s_iconst 0 (s_aload 0 (s_iload 1 (s_iload 2 (s_callVH G d MX11_look 2 10 [("java/util/NoSuchElementException", 15, 4, (s_iconst 1 (s_ireturn P))), ("java/lang/IllegalArgumentException", 19, 4, (s_iconst 2 (s_ireturn P)))] (s_i2l (s_lastore (s_iconst 0 (s_ireturn P)))))))))) := (e_aload_n dL_look_0 rfl (e_iconst (v := 0) dL_look_1 (by decide) (e_aload_n dL_look_2 rfl (e_iload_n dL_look_3 rfl (e_iload_n dL_look_4 rfl (e_callVH (hds := [("java/util/NoSuchElementException", 15, 4, (s_iconst 1 (s_ireturn P))), ("java/lang/IllegalArgumentException", 19, 4, (s_iconst 2 (s_ireturn P)))]) cl_10 cal_X11_look q_1446 q_1447 q_1448 dL_look_5 (List.forall_mem_cons.mpr ⟨⟨hn_L_look_0, (e_iconst (v := 1) dL_look_15 (by decide) (e_ireturn rfl dL_look_16))⟩, List.forall_mem_cons.mpr ⟨⟨hn_L_look_1, (e_iconst (v := 2) dL_look_19 (by decide) (e_ireturn rfl dL_look_20))⟩, fun _ h => nomatch h⟩⟩) (e_i2l dL_look_8 (e_lastore dL_look_9 (e_goto (tgt := 21) dL_look_10 (by decide) (e_iconst (v := 0) dL_look_21 (by decide) (e_ireturn rfl dL_look_22)))))))))))
set_option maxRecDepth 100000 in
theorem V_L_look_0 {G : GE} {d : Nat} {P : KI} {a : Nat → Nat → Int32} {r : Nat → Nat → Value} {N : Nat} {l0 : Nat} {l1 : Int32} {l2 : Int32} {l3 : Nat} (hs : (tyK l0 = (0, 10) ∧ l0 < N ∧ (Sp G d 0 0 MX11_look [.ref l0, .int l1, .int l2] (a, r, N) (RI fun v13 a10 r11 n12 => ((tyK l3).1 = 4 ∧ l3 < n12 ∧ vp_in 0 (tyK l3).2 ∧ ∀ r14, r14 = u2V r11 l3 (0 : Int32).toNatClampNeg (.long ((v13 : Int32).toInt64)) → P 0 a10 r14 n12)) ∨ Sp G d 1 6 MX11_look [.ref l0, .int l1, .int l2] (a, r, N) (RX fun e9 a6 r7 n8 => if e9 = "java/util/NoSuchElementException" then P 1 a6 r7 n8 else if e9 = "java/lang/IllegalArgumentException" then P 2 a6 r7 n8 else False)))) : Sp G (d + 1) 1 6 ML_look [.ref l0, .int l1, .int l2, .ref l3] (a, r, N) (RI P) := Sp.mk (mc := (0 + 1)) (ms := (0 + 6)) [.ref l0, .int l1, .int l2, .ref l3, .null] rfl rfl rfl rfl (T_L_look_0 (C := 0) (S := 0) _ _ _ hs)
theorem dL_right_0 : decode cL_right 0 = .ok (.aload_n 2, 1) := by decide +kernel
theorem dL_right_1 : decode cL_right 1 = .ok (.iconst 0, 1) := by decide +kernel
theorem dL_right_2 : decode cL_right 2 = .ok (.aload_n 0, 1) := by decide +kernel
theorem dL_right_3 : decode cL_right 3 = .ok (.iload_n 1, 1) := by decide +kernel
theorem dL_right_4 : decode cL_right 4 = .ok (.invokevirtual 80, 3) := by decide +kernel
theorem dL_right_7 : decode cL_right 7 = .ok (.i2l, 1) := by decide +kernel
theorem dL_right_8 : decode cL_right 8 = .ok (.lastore, 1) := by decide +kernel
theorem dL_right_9 : decode cL_right 9 = .ok (.goto 6, 3) := by decide +kernel
theorem dL_right_12 : decode cL_right 12 = .ok (.astore_n 3, 1) := by decide +kernel
theorem dL_right_13 : decode cL_right 13 = .ok (.iconst 1, 1) := by decide +kernel
theorem dL_right_14 : decode cL_right 14 = .ok (.ireturn, 1) := by decide +kernel
theorem dL_right_15 : decode cL_right 15 = .ok (.iconst 0, 1) := by decide +kernel
theorem dL_right_16 : decode cL_right 16 = .ok (.ireturn, 1) := by decide +kernel
theorem hn_L_right_0 : HnOK ML_right 4 "java/util/NoSuchElementException" 13 3 := ⟨[], [], ⟨0, 9, 12, 31⟩, "java/util/NoSuchElementException", rfl, (fun z hz => nomatch hz), by decide, by decide, q_1200, q_1215, by decide, Or.inl ⟨3, dL_right_12, rfl, rfl⟩⟩
set_option maxRecDepth 100000 in
theorem T_L_right_0 {G : GE} {d C S : Nat} {P : KI} : Snd G ML_right (d + 1) (C + 1) (S + 6) 0 (RI P) (s_aload 2 (s_iconst 0 (s_aload 0 (s_iload 1 (s_callVH G d MX11_right 1 10 [("java/util/NoSuchElementException", 13, 3, (s_iconst 1 (s_ireturn P)))] (s_i2l (s_lastore (s_iconst 0 (s_ireturn P))))))))) := (e_aload_n dL_right_0 rfl (e_iconst (v := 0) dL_right_1 (by decide) (e_aload_n dL_right_2 rfl (e_iload_n dL_right_3 rfl (e_callVH (hds := [("java/util/NoSuchElementException", 13, 3, (s_iconst 1 (s_ireturn P)))]) cl_10 cal_X11_right q_1458 q_1459 q_1460 dL_right_4 (List.forall_mem_cons.mpr ⟨⟨hn_L_right_0, (e_iconst (v := 1) dL_right_13 (by decide) (e_ireturn rfl dL_right_14))⟩, fun _ h => nomatch h⟩) (e_i2l dL_right_7 (e_lastore dL_right_8 (e_goto (tgt := 15) dL_right_9 (by decide) (e_iconst (v := 0) dL_right_15 (by decide) (e_ireturn rfl dL_right_16))))))))))
set_option maxRecDepth 100000 in
theorem V_L_right_0 {G : GE} {d : Nat} {P : KI} {a : Nat → Nat → Int32} {r : Nat → Nat → Value} {N : Nat} {l0 : Nat} {l1 : Int32} {l2 : Nat} (hs : (tyK l0 = (0, 10) ∧ l0 < N ∧ (Sp G d 0 0 MX11_right [.ref l0, .int l1] (a, r, N) (RI fun v13 a10 r11 n12 => ((tyK l2).1 = 4 ∧ l2 < n12 ∧ vp_in 0 (tyK l2).2 ∧ ∀ r14, r14 = u2V r11 l2 (0 : Int32).toNatClampNeg (.long ((v13 : Int32).toInt64)) → P 0 a10 r14 n12)) ∨ Sp G d 1 6 MX11_right [.ref l0, .int l1] (a, r, N) (RX fun e9 a6 r7 n8 => if e9 = "java/util/NoSuchElementException" then P 1 a6 r7 n8 else False)))) : Sp G (d + 1) 1 6 ML_right [.ref l0, .int l1, .ref l2] (a, r, N) (RI P) := Sp.mk (mc := (0 + 1)) (ms := (0 + 6)) [.ref l0, .int l1, .ref l2, .null] rfl rfl rfl rfl (T_L_right_0 (C := 0) (S := 0) _ _ _ hs)
theorem dL_suitors_0 : decode cL_suitors 0 = .ok (.aload 5, 2) := by decide +kernel
theorem dL_suitors_2 : decode cL_suitors 2 = .ok (.iconst 0, 1) := by decide +kernel
theorem dL_suitors_3 : decode cL_suitors 3 = .ok (.aload_n 0, 1) := by decide +kernel
theorem dL_suitors_4 : decode cL_suitors 4 = .ok (.iload_n 1, 1) := by decide +kernel
theorem dL_suitors_5 : decode cL_suitors 5 = .ok (.iload_n 2, 1) := by decide +kernel
theorem dL_suitors_6 : decode cL_suitors 6 = .ok (.iload_n 3, 1) := by decide +kernel
theorem dL_suitors_7 : decode cL_suitors 7 = .ok (.iload 4, 2) := by decide +kernel
theorem dL_suitors_9 : decode cL_suitors 9 = .ok (.invokevirtual 83, 3) := by decide +kernel
theorem dL_suitors_12 : decode cL_suitors 12 = .ok (.i2l, 1) := by decide +kernel
theorem dL_suitors_13 : decode cL_suitors 13 = .ok (.lastore, 1) := by decide +kernel
theorem dL_suitors_14 : decode cL_suitors 14 = .ok (.goto 7, 3) := by decide +kernel
theorem dL_suitors_17 : decode cL_suitors 17 = .ok (.astore 6, 2) := by decide +kernel
theorem dL_suitors_19 : decode cL_suitors 19 = .ok (.iconst 1, 1) := by decide +kernel
theorem dL_suitors_20 : decode cL_suitors 20 = .ok (.ireturn, 1) := by decide +kernel
theorem dL_suitors_21 : decode cL_suitors 21 = .ok (.iconst 0, 1) := by decide +kernel
theorem dL_suitors_22 : decode cL_suitors 22 = .ok (.ireturn, 1) := by decide +kernel
theorem hn_L_suitors_0 : HnOK ML_suitors 9 "java/lang/IllegalArgumentException" 19 6 := ⟨[], [], ⟨0, 14, 17, 13⟩, "java/lang/IllegalArgumentException", rfl, (fun z hz => nomatch hz), by decide, by decide, q_706, q_721, by decide, Or.inr ⟨dL_suitors_17, rfl⟩⟩
set_option maxRecDepth 100000 in
theorem T_L_suitors_0 {G : GE} {d C S : Nat} {P : KI} : Snd G ML_suitors (d + 1) (C + 1) (S + 6) 0 (RI P) (s_aload 5 (s_iconst 0 (s_aload 0 (s_iload 1 (s_iload 2 (s_iload 3 (s_iload 4 (s_callVH G d MX11_suitors 4 10 [("java/lang/IllegalArgumentException", 19, 6, (s_iconst 1 (s_ireturn P)))] (s_i2l (s_lastore (s_iconst 0 (s_ireturn P)))))))))))) := (e_aload dL_suitors_0 (e_iconst (v := 0) dL_suitors_2 (by decide) (e_aload_n dL_suitors_3 rfl (e_iload_n dL_suitors_4 rfl (e_iload_n dL_suitors_5 rfl (e_iload_n dL_suitors_6 rfl (e_iload dL_suitors_7 (e_callVH (hds := [("java/lang/IllegalArgumentException", 19, 6, (s_iconst 1 (s_ireturn P)))]) cl_10 cal_X11_suitors q_1466 q_1467 q_1468 dL_suitors_9 (List.forall_mem_cons.mpr ⟨⟨hn_L_suitors_0, (e_iconst (v := 1) dL_suitors_19 (by decide) (e_ireturn rfl dL_suitors_20))⟩, fun _ h => nomatch h⟩) (e_i2l dL_suitors_12 (e_lastore dL_suitors_13 (e_goto (tgt := 21) dL_suitors_14 (by decide) (e_iconst (v := 0) dL_suitors_21 (by decide) (e_ireturn rfl dL_suitors_22)))))))))))))
set_option maxRecDepth 100000 in
theorem V_L_suitors_0 {G : GE} {d : Nat} {P : KI} {a : Nat → Nat → Int32} {r : Nat → Nat → Value} {N : Nat} {l0 : Nat} {l1 : Int32} {l2 : Int32} {l3 : Int32} {l4 : Int32} {l5 : Nat} (hs : (tyK l0 = (0, 10) ∧ l0 < N ∧ (Sp G d 0 0 MX11_suitors [.ref l0, .int l1, .int l2, .int l3, .int l4] (a, r, N) (RI fun v13 a10 r11 n12 => ((tyK l5).1 = 4 ∧ l5 < n12 ∧ vp_in 0 (tyK l5).2 ∧ ∀ r14, r14 = u2V r11 l5 (0 : Int32).toNatClampNeg (.long ((v13 : Int32).toInt64)) → P 0 a10 r14 n12)) ∨ Sp G d 1 6 MX11_suitors [.ref l0, .int l1, .int l2, .int l3, .int l4] (a, r, N) (RX fun e9 a6 r7 n8 => if e9 = "java/lang/IllegalArgumentException" then P 1 a6 r7 n8 else False)))) : Sp G (d + 1) 1 6 ML_suitors [.ref l0, .int l1, .int l2, .int l3, .int l4, .ref l5] (a, r, N) (RI P) := Sp.mk (mc := (0 + 1)) (ms := (0 + 6)) [.ref l0, .int l1, .int l2, .int l3, .int l4, .ref l5, .null] rfl rfl rfl rfl (T_L_suitors_0 (C := 0) (S := 0) _ _ _ hs)
theorem dL_gets_0 : decode cL_gets 0 = .ok (.aload 4, 2) := by decide +kernel
theorem dL_gets_2 : decode cL_gets 2 = .ok (.iconst 0, 1) := by decide +kernel
theorem dL_gets_3 : decode cL_gets 3 = .ok (.aload_n 0, 1) := by decide +kernel
theorem dL_gets_4 : decode cL_gets 4 = .ok (.iload_n 1, 1) := by decide +kernel
theorem dL_gets_5 : decode cL_gets 5 = .ok (.iload_n 2, 1) := by decide +kernel
theorem dL_gets_6 : decode cL_gets 6 = .ok (.iload_n 3, 1) := by decide +kernel
theorem dL_gets_7 : decode cL_gets 7 = .ok (.invokevirtual 87, 3) := by decide +kernel
theorem dL_gets_10 : decode cL_gets 10 = .ok (.i2l, 1) := by decide +kernel
theorem dL_gets_11 : decode cL_gets 11 = .ok (.lastore, 1) := by decide +kernel
theorem dL_gets_12 : decode cL_gets 12 = .ok (.goto 7, 3) := by decide +kernel
theorem dL_gets_15 : decode cL_gets 15 = .ok (.astore 5, 2) := by decide +kernel
theorem dL_gets_17 : decode cL_gets 17 = .ok (.iconst 1, 1) := by decide +kernel
theorem dL_gets_18 : decode cL_gets 18 = .ok (.ireturn, 1) := by decide +kernel
theorem dL_gets_19 : decode cL_gets 19 = .ok (.iconst 0, 1) := by decide +kernel
theorem dL_gets_20 : decode cL_gets 20 = .ok (.ireturn, 1) := by decide +kernel
theorem hn_L_gets_0 : HnOK ML_gets 7 "java/lang/IllegalArgumentException" 17 5 := ⟨[], [], ⟨0, 12, 15, 13⟩, "java/lang/IllegalArgumentException", rfl, (fun z hz => nomatch hz), by decide, by decide, q_706, q_721, by decide, Or.inr ⟨dL_gets_15, rfl⟩⟩
set_option maxRecDepth 100000 in
theorem T_L_gets_0 {G : GE} {d C S : Nat} {P : KI} : Snd G ML_gets (d + 1) (C + 1) (S + 6) 0 (RI P) (s_aload 4 (s_iconst 0 (s_aload 0 (s_iload 1 (s_iload 2 (s_iload 3 (s_callVH G d MX11_gets 3 10 [("java/lang/IllegalArgumentException", 17, 5, (s_iconst 1 (s_ireturn P)))] (s_i2l (s_lastore (s_iconst 0 (s_ireturn P))))))))))) := (e_aload dL_gets_0 (e_iconst (v := 0) dL_gets_2 (by decide) (e_aload_n dL_gets_3 rfl (e_iload_n dL_gets_4 rfl (e_iload_n dL_gets_5 rfl (e_iload_n dL_gets_6 rfl (e_callVH (hds := [("java/lang/IllegalArgumentException", 17, 5, (s_iconst 1 (s_ireturn P)))]) cl_10 cal_X11_gets q_1493 q_1494 q_1495 dL_gets_7 (List.forall_mem_cons.mpr ⟨⟨hn_L_gets_0, (e_iconst (v := 1) dL_gets_17 (by decide) (e_ireturn rfl dL_gets_18))⟩, fun _ h => nomatch h⟩) (e_i2l dL_gets_10 (e_lastore dL_gets_11 (e_goto (tgt := 19) dL_gets_12 (by decide) (e_iconst (v := 0) dL_gets_19 (by decide) (e_ireturn rfl dL_gets_20))))))))))))
set_option maxRecDepth 100000 in
theorem V_L_gets_0 {G : GE} {d : Nat} {P : KI} {a : Nat → Nat → Int32} {r : Nat → Nat → Value} {N : Nat} {l0 : Nat} {l1 : Int32} {l2 : Int32} {l3 : Int32} {l4 : Nat} (hs : (tyK l0 = (0, 10) ∧ l0 < N ∧ (Sp G d 0 0 MX11_gets [.ref l0, .int l1, .int l2, .int l3] (a, r, N) (RI fun v13 a10 r11 n12 => ((tyK l4).1 = 4 ∧ l4 < n12 ∧ vp_in 0 (tyK l4).2 ∧ ∀ r14, r14 = u2V r11 l4 (0 : Int32).toNatClampNeg (.long ((v13 : Int32).toInt64)) → P 0 a10 r14 n12)) ∨ Sp G d 1 6 MX11_gets [.ref l0, .int l1, .int l2, .int l3] (a, r, N) (RX fun e9 a6 r7 n8 => if e9 = "java/lang/IllegalArgumentException" then P 1 a6 r7 n8 else False)))) : Sp G (d + 1) 1 6 ML_gets [.ref l0, .int l1, .int l2, .int l3, .ref l4] (a, r, N) (RI P) := Sp.mk (mc := (0 + 1)) (ms := (0 + 6)) [.ref l0, .int l1, .int l2, .int l3, .ref l4, .null] rfl rfl rfl rfl (T_L_gets_0 (C := 0) (S := 0) _ _ _ hs)
theorem dL_ahead_0 : decode cL_ahead 0 = .ok (.aload_n 3, 1) := by decide +kernel
theorem dL_ahead_1 : decode cL_ahead 1 = .ok (.iconst 0, 1) := by decide +kernel
theorem dL_ahead_2 : decode cL_ahead 2 = .ok (.aload_n 0, 1) := by decide +kernel
theorem dL_ahead_3 : decode cL_ahead 3 = .ok (.iload_n 1, 1) := by decide +kernel
theorem dL_ahead_4 : decode cL_ahead 4 = .ok (.iload_n 2, 1) := by decide +kernel
theorem dL_ahead_5 : decode cL_ahead 5 = .ok (.invokevirtual 91, 3) := by decide +kernel
theorem dL_ahead_8 : decode cL_ahead 8 = .ok (.i2l, 1) := by decide +kernel
theorem dL_ahead_9 : decode cL_ahead 9 = .ok (.lastore, 1) := by decide +kernel
theorem dL_ahead_10 : decode cL_ahead 10 = .ok (.goto 7, 3) := by decide +kernel
theorem dL_ahead_13 : decode cL_ahead 13 = .ok (.astore 4, 2) := by decide +kernel
theorem dL_ahead_15 : decode cL_ahead 15 = .ok (.iconst 1, 1) := by decide +kernel
theorem dL_ahead_16 : decode cL_ahead 16 = .ok (.ireturn, 1) := by decide +kernel
theorem dL_ahead_17 : decode cL_ahead 17 = .ok (.iconst 0, 1) := by decide +kernel
theorem dL_ahead_18 : decode cL_ahead 18 = .ok (.ireturn, 1) := by decide +kernel
theorem hn_L_ahead_0 : HnOK ML_ahead 5 "java/lang/IllegalArgumentException" 15 4 := ⟨[], [], ⟨0, 10, 13, 13⟩, "java/lang/IllegalArgumentException", rfl, (fun z hz => nomatch hz), by decide, by decide, q_706, q_721, by decide, Or.inr ⟨dL_ahead_13, rfl⟩⟩
set_option maxRecDepth 100000 in
theorem T_L_ahead_0 {G : GE} {d C S : Nat} {P : KI} : Snd G ML_ahead (d + 1) (C + 1) (S + 6) 0 (RI P) (s_aload 3 (s_iconst 0 (s_aload 0 (s_iload 1 (s_iload 2 (s_callVH G d MX11_ahead 2 10 [("java/lang/IllegalArgumentException", 15, 4, (s_iconst 1 (s_ireturn P)))] (s_i2l (s_lastore (s_iconst 0 (s_ireturn P)))))))))) := (e_aload_n dL_ahead_0 rfl (e_iconst (v := 0) dL_ahead_1 (by decide) (e_aload_n dL_ahead_2 rfl (e_iload_n dL_ahead_3 rfl (e_iload_n dL_ahead_4 rfl (e_callVH (hds := [("java/lang/IllegalArgumentException", 15, 4, (s_iconst 1 (s_ireturn P)))]) cl_10 cal_X11_ahead q_1501 q_1502 q_1503 dL_ahead_5 (List.forall_mem_cons.mpr ⟨⟨hn_L_ahead_0, (e_iconst (v := 1) dL_ahead_15 (by decide) (e_ireturn rfl dL_ahead_16))⟩, fun _ h => nomatch h⟩) (e_i2l dL_ahead_8 (e_lastore dL_ahead_9 (e_goto (tgt := 17) dL_ahead_10 (by decide) (e_iconst (v := 0) dL_ahead_17 (by decide) (e_ireturn rfl dL_ahead_18)))))))))))
set_option maxRecDepth 100000 in
theorem V_L_ahead_0 {G : GE} {d : Nat} {P : KI} {a : Nat → Nat → Int32} {r : Nat → Nat → Value} {N : Nat} {l0 : Nat} {l1 : Int32} {l2 : Int32} {l3 : Nat} (hs : (tyK l0 = (0, 10) ∧ l0 < N ∧ (Sp G d 0 0 MX11_ahead [.ref l0, .int l1, .int l2] (a, r, N) (RI fun v13 a10 r11 n12 => ((tyK l3).1 = 4 ∧ l3 < n12 ∧ vp_in 0 (tyK l3).2 ∧ ∀ r14, r14 = u2V r11 l3 (0 : Int32).toNatClampNeg (.long ((v13 : Int32).toInt64)) → P 0 a10 r14 n12)) ∨ Sp G d 1 6 MX11_ahead [.ref l0, .int l1, .int l2] (a, r, N) (RX fun e9 a6 r7 n8 => if e9 = "java/lang/IllegalArgumentException" then P 1 a6 r7 n8 else False)))) : Sp G (d + 1) 1 6 ML_ahead [.ref l0, .int l1, .int l2, .ref l3] (a, r, N) (RI P) := Sp.mk (mc := (0 + 1)) (ms := (0 + 6)) [.ref l0, .int l1, .int l2, .ref l3, .null] rfl rfl rfl rfl (T_L_ahead_0 (C := 0) (S := 0) _ _ _ hs)
theorem dL_centuries_0 : decode cL_centuries 0 = .ok (.aload 5, 2) := by decide +kernel
theorem dL_centuries_2 : decode cL_centuries 2 = .ok (.iconst 0, 1) := by decide +kernel
theorem dL_centuries_3 : decode cL_centuries 3 = .ok (.aload_n 0, 1) := by decide +kernel
theorem dL_centuries_4 : decode cL_centuries 4 = .ok (.iload_n 1, 1) := by decide +kernel
theorem dL_centuries_5 : decode cL_centuries 5 = .ok (.iload_n 2, 1) := by decide +kernel
theorem dL_centuries_6 : decode cL_centuries 6 = .ok (.iload_n 3, 1) := by decide +kernel
theorem dL_centuries_7 : decode cL_centuries 7 = .ok (.iload 4, 2) := by decide +kernel
theorem dL_centuries_9 : decode cL_centuries 9 = .ok (.invokevirtual 94, 3) := by decide +kernel
theorem dL_centuries_12 : decode cL_centuries 12 = .ok (.i2l, 1) := by decide +kernel
theorem dL_centuries_13 : decode cL_centuries 13 = .ok (.lastore, 1) := by decide +kernel
theorem dL_centuries_14 : decode cL_centuries 14 = .ok (.goto 7, 3) := by decide +kernel
theorem dL_centuries_17 : decode cL_centuries 17 = .ok (.astore 6, 2) := by decide +kernel
theorem dL_centuries_19 : decode cL_centuries 19 = .ok (.iconst 1, 1) := by decide +kernel
theorem dL_centuries_20 : decode cL_centuries 20 = .ok (.ireturn, 1) := by decide +kernel
theorem dL_centuries_21 : decode cL_centuries 21 = .ok (.iconst 0, 1) := by decide +kernel
theorem dL_centuries_22 : decode cL_centuries 22 = .ok (.ireturn, 1) := by decide +kernel
theorem hn_L_centuries_0 : HnOK ML_centuries 9 "java/lang/IllegalArgumentException" 19 6 := ⟨[], [], ⟨0, 14, 17, 13⟩, "java/lang/IllegalArgumentException", rfl, (fun z hz => nomatch hz), by decide, by decide, q_706, q_721, by decide, Or.inr ⟨dL_centuries_17, rfl⟩⟩
set_option maxRecDepth 100000 in
theorem T_L_centuries_0 {G : GE} {d C S : Nat} {P : KI} : Snd G ML_centuries (d + 1) (C + 1) (S + 6) 0 (RI P) (s_aload 5 (s_iconst 0 (s_aload 0 (s_iload 1 (s_iload 2 (s_iload 3 (s_iload 4 (s_callVH G d MX11_centuries 4 10 [("java/lang/IllegalArgumentException", 19, 6, (s_iconst 1 (s_ireturn P)))] (s_i2l (s_lastore (s_iconst 0 (s_ireturn P)))))))))))) := (e_aload dL_centuries_0 (e_iconst (v := 0) dL_centuries_2 (by decide) (e_aload_n dL_centuries_3 rfl (e_iload_n dL_centuries_4 rfl (e_iload_n dL_centuries_5 rfl (e_iload_n dL_centuries_6 rfl (e_iload dL_centuries_7 (e_callVH (hds := [("java/lang/IllegalArgumentException", 19, 6, (s_iconst 1 (s_ireturn P)))]) cl_10 cal_X11_centuries q_1518 q_1519 q_1520 dL_centuries_9 (List.forall_mem_cons.mpr ⟨⟨hn_L_centuries_0, (e_iconst (v := 1) dL_centuries_19 (by decide) (e_ireturn rfl dL_centuries_20))⟩, fun _ h => nomatch h⟩) (e_i2l dL_centuries_12 (e_lastore dL_centuries_13 (e_goto (tgt := 21) dL_centuries_14 (by decide) (e_iconst (v := 0) dL_centuries_21 (by decide) (e_ireturn rfl dL_centuries_22)))))))))))))
set_option maxRecDepth 100000 in
theorem V_L_centuries_0 {G : GE} {d : Nat} {P : KI} {a : Nat → Nat → Int32} {r : Nat → Nat → Value} {N : Nat} {l0 : Nat} {l1 : Int32} {l2 : Int32} {l3 : Int32} {l4 : Int32} {l5 : Nat} (hs : (tyK l0 = (0, 10) ∧ l0 < N ∧ (Sp G d 0 0 MX11_centuries [.ref l0, .int l1, .int l2, .int l3, .int l4] (a, r, N) (RI fun v13 a10 r11 n12 => ((tyK l5).1 = 4 ∧ l5 < n12 ∧ vp_in 0 (tyK l5).2 ∧ ∀ r14, r14 = u2V r11 l5 (0 : Int32).toNatClampNeg (.long ((v13 : Int32).toInt64)) → P 0 a10 r14 n12)) ∨ Sp G d 1 6 MX11_centuries [.ref l0, .int l1, .int l2, .int l3, .int l4] (a, r, N) (RX fun e9 a6 r7 n8 => if e9 = "java/lang/IllegalArgumentException" then P 1 a6 r7 n8 else False)))) : Sp G (d + 1) 1 6 ML_centuries [.ref l0, .int l1, .int l2, .int l3, .int l4, .ref l5] (a, r, N) (RI P) := Sp.mk (mc := (0 + 1)) (ms := (0 + 6)) [.ref l0, .int l1, .int l2, .int l3, .int l4, .ref l5, .null] rfl rfl rfl rfl (T_L_centuries_0 (C := 0) (S := 0) _ _ _ hs)
theorem dL_span_0 : decode cL_span 0 = .ok (.aload 7, 2) := by decide +kernel
theorem dL_span_2 : decode cL_span 2 = .ok (.iconst 0, 1) := by decide +kernel
theorem dL_span_3 : decode cL_span 3 = .ok (.aload_n 0, 1) := by decide +kernel
theorem dL_span_4 : decode cL_span 4 = .ok (.iload_n 1, 1) := by decide +kernel
theorem dL_span_5 : decode cL_span 5 = .ok (.iload_n 2, 1) := by decide +kernel
theorem dL_span_6 : decode cL_span 6 = .ok (.iload_n 3, 1) := by decide +kernel
theorem dL_span_7 : decode cL_span 7 = .ok (.iload 4, 2) := by decide +kernel
theorem dL_span_9 : decode cL_span 9 = .ok (.iload 5, 2) := by decide +kernel
theorem dL_span_11 : decode cL_span 11 = .ok (.iload 6, 2) := by decide +kernel
theorem dL_span_13 : decode cL_span 13 = .ok (.invokevirtual 97, 3) := by decide +kernel
theorem dL_span_16 : decode cL_span 16 = .ok (.i2l, 1) := by decide +kernel
theorem dL_span_17 : decode cL_span 17 = .ok (.lastore, 1) := by decide +kernel
theorem dL_span_18 : decode cL_span 18 = .ok (.goto 7, 3) := by decide +kernel
theorem dL_span_21 : decode cL_span 21 = .ok (.astore 8, 2) := by decide +kernel
theorem dL_span_23 : decode cL_span 23 = .ok (.iconst 1, 1) := by decide +kernel
theorem dL_span_24 : decode cL_span 24 = .ok (.ireturn, 1) := by decide +kernel
theorem dL_span_25 : decode cL_span 25 = .ok (.iconst 0, 1) := by decide +kernel
theorem dL_span_26 : decode cL_span 26 = .ok (.ireturn, 1) := by decide +kernel
theorem hn_L_span_0 : HnOK ML_span 13 "java/lang/IllegalArgumentException" 23 8 := ⟨[], [], ⟨0, 18, 21, 13⟩, "java/lang/IllegalArgumentException", rfl, (fun z hz => nomatch hz), by decide, by decide, q_706, q_721, by decide, Or.inr ⟨dL_span_21, rfl⟩⟩
set_option maxRecDepth 100000 in
theorem T_L_span_0 {G : GE} {d C S : Nat} {P : KI} : Snd G ML_span (d + 1) (C + 1) (S + 6) 0 (RI P) (s_aload 7 (s_iconst 0 (s_aload 0 (s_iload 1 (s_iload 2 (s_iload 3 (s_iload 4 (s_iload 5 (s_iload 6 (s_callVH G d MX11_span 6 10 [("java/lang/IllegalArgumentException", 23, 8, (s_iconst 1 (s_ireturn P)))] (s_i2l (s_lastore (s_iconst 0 (s_ireturn P)))))))))))))) := (e_aload dL_span_0 (e_iconst (v := 0) dL_span_2 (by decide) (e_aload_n dL_span_3 rfl (e_iload_n dL_span_4 rfl (e_iload_n dL_span_5 rfl (e_iload_n dL_span_6 rfl (e_iload dL_span_7 (e_iload dL_span_9 (e_iload dL_span_11 (e_callVH (hds := [("java/lang/IllegalArgumentException", 23, 8, (s_iconst 1 (s_ireturn P)))]) cl_10 cal_X11_span q_1541 q_1542 q_1543 dL_span_13 (List.forall_mem_cons.mpr ⟨⟨hn_L_span_0, (e_iconst (v := 1) dL_span_23 (by decide) (e_ireturn rfl dL_span_24))⟩, fun _ h => nomatch h⟩) (e_i2l dL_span_16 (e_lastore dL_span_17 (e_goto (tgt := 25) dL_span_18 (by decide) (e_iconst (v := 0) dL_span_25 (by decide) (e_ireturn rfl dL_span_26)))))))))))))))
set_option maxRecDepth 100000 in
theorem V_L_span_0 {G : GE} {d : Nat} {P : KI} {a : Nat → Nat → Int32} {r : Nat → Nat → Value} {N : Nat} {l0 : Nat} {l1 : Int32} {l2 : Int32} {l3 : Int32} {l4 : Int32} {l5 : Int32} {l6 : Int32} {l7 : Nat} (hs : (tyK l0 = (0, 10) ∧ l0 < N ∧ (Sp G d 0 0 MX11_span [.ref l0, .int l1, .int l2, .int l3, .int l4, .int l5, .int l6] (a, r, N) (RI fun v13 a10 r11 n12 => ((tyK l7).1 = 4 ∧ l7 < n12 ∧ vp_in 0 (tyK l7).2 ∧ ∀ r14, r14 = u2V r11 l7 (0 : Int32).toNatClampNeg (.long ((v13 : Int32).toInt64)) → P 0 a10 r14 n12)) ∨ Sp G d 1 6 MX11_span [.ref l0, .int l1, .int l2, .int l3, .int l4, .int l5, .int l6] (a, r, N) (RX fun e9 a6 r7 n8 => if e9 = "java/lang/IllegalArgumentException" then P 1 a6 r7 n8 else False)))) : Sp G (d + 1) 1 6 ML_span [.ref l0, .int l1, .int l2, .int l3, .int l4, .int l5, .int l6, .ref l7] (a, r, N) (RI P) := Sp.mk (mc := (0 + 1)) (ms := (0 + 6)) [.ref l0, .int l1, .int l2, .int l3, .int l4, .int l5, .int l6, .ref l7, .null] rfl rfl rfl rfl (T_L_span_0 (C := 0) (S := 0) _ _ _ hs)
