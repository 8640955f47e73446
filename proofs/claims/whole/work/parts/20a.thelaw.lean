theorem dL_city_0 : decode cL_city 0 = .ok (.aload_n 2, 1) := by decide +kernel
theorem dL_city_1 : decode cL_city 1 = .ok (.iconst 0, 1) := by decide +kernel
theorem dL_city_2 : decode cL_city 2 = .ok (.aload_n 0, 1) := by decide +kernel
theorem dL_city_3 : decode cL_city 3 = .ok (.iload_n 1, 1) := by decide +kernel
theorem dL_city_4 : decode cL_city 4 = .ok (.invokevirtual 7, 3) := by decide +kernel
theorem dL_city_7 : decode cL_city 7 = .ok (.i2l, 1) := by decide +kernel
theorem dL_city_8 : decode cL_city 8 = .ok (.lastore, 1) := by decide +kernel
theorem dL_city_9 : decode cL_city 9 = .ok (.goto 6, 3) := by decide +kernel
theorem dL_city_12 : decode cL_city 12 = .ok (.astore_n 3, 1) := by decide +kernel
theorem dL_city_13 : decode cL_city 13 = .ok (.iconst 1, 1) := by decide +kernel
theorem dL_city_14 : decode cL_city 14 = .ok (.ireturn, 1) := by decide +kernel
theorem dL_city_15 : decode cL_city 15 = .ok (.iconst 0, 1) := by decide +kernel
theorem dL_city_16 : decode cL_city 16 = .ok (.ireturn, 1) := by decide +kernel
theorem hn_L_city_0 : HnOK ML_city 4 "java/lang/IllegalArgumentException" 13 3 := ⟨[], [], ⟨0, 9, 12, 13⟩, "java/lang/IllegalArgumentException", rfl, (fun z hz => nomatch hz), by decide, by decide, q_706, q_721, by decide, Or.inl ⟨3, dL_city_12, rfl, rfl⟩⟩
set_option maxRecDepth 100000 in
theorem T_L_city_0 {G : GE} {d C S : Nat} {P : KI} : Snd G ML_city (d + 1) (C + 1) (S + 6) 0 (RI P) (s_aload 2 (s_iconst 0 (s_aload 0 (s_iload 1 (s_callVH G d MX11_city 1 10 [("java/lang/IllegalArgumentException", 13, 3, (s_iconst 1 (s_ireturn P)))] (s_i2l (s_lastore (s_iconst 0 (s_ireturn P))))))))) := (e_aload_n dL_city_0 rfl (e_iconst (v := 0) dL_city_1 (by decide) (e_aload_n dL_city_2 rfl (e_iload_n dL_city_3 rfl (e_callVH (hds := [("java/lang/IllegalArgumentException", 13, 3, (s_iconst 1 (s_ireturn P)))]) cl_10 cal_X11_city q_707 q_708 q_709 dL_city_4 (List.forall_mem_cons.mpr ⟨⟨hn_L_city_0, (e_iconst (v := 1) dL_city_13 (by decide) (e_ireturn rfl dL_city_14))⟩, fun _ h => nomatch h⟩) (e_i2l dL_city_7 (e_lastore dL_city_8 (e_goto (tgt := 15) dL_city_9 (by decide) (e_iconst (v := 0) dL_city_15 (by decide) (e_ireturn rfl dL_city_16))))))))))
set_option maxRecDepth 100000 in
theorem V_L_city_0 {G : GE} {d : Nat} {P : KI} {a : Nat → Nat → Int32} {r : Nat → Nat → Value} {N : Nat} {l0 : Nat} {l1 : Int32} {l2 : Nat} (hs : (tyK l0 = (0, 10) ∧ l0 < N ∧ (Sp G d 0 0 MX11_city [.ref l0, .int l1] (a, r, N) (RI fun v13 a10 r11 n12 => ((tyK l2).1 = 4 ∧ l2 < n12 ∧ vp_in 0 (tyK l2).2 ∧ ∀ r14, r14 = u2V r11 l2 (0 : Int32).toNatClampNeg (.long ((v13 : Int32).toInt64)) → P 0 a10 r14 n12)) ∨ Sp G d 1 6 MX11_city [.ref l0, .int l1] (a, r, N) (RX fun e9 a6 r7 n8 => if e9 = "java/lang/IllegalArgumentException" then P 1 a6 r7 n8 else False)))) : Sp G (d + 1) 1 6 ML_city [.ref l0, .int l1, .ref l2] (a, r, N) (RI P) := Sp.mk (mc := (0 + 1)) (ms := (0 + 6)) [.ref l0, .int l1, .ref l2, .null] rfl rfl rfl rfl (T_L_city_0 (C := 0) (S := 0) _ _ _ hs)
theorem dL_law_0 : decode cL_law 0 = .ok (.aload_n 2, 1) := by decide +kernel
theorem dL_law_1 : decode cL_law 1 = .ok (.iconst 0, 1) := by decide +kernel
theorem dL_law_2 : decode cL_law 2 = .ok (.aload_n 0, 1) := by decide +kernel
theorem dL_law_3 : decode cL_law 3 = .ok (.iload_n 1, 1) := by decide +kernel
theorem dL_law_4 : decode cL_law 4 = .ok (.invokevirtual 15, 3) := by decide +kernel
theorem dL_law_7 : decode cL_law 7 = .ok (.i2l, 1) := by decide +kernel
theorem dL_law_8 : decode cL_law 8 = .ok (.lastore, 1) := by decide +kernel
theorem dL_law_9 : decode cL_law 9 = .ok (.goto 6, 3) := by decide +kernel
theorem dL_law_12 : decode cL_law 12 = .ok (.astore_n 3, 1) := by decide +kernel
theorem dL_law_13 : decode cL_law 13 = .ok (.iconst 1, 1) := by decide +kernel
theorem dL_law_14 : decode cL_law 14 = .ok (.ireturn, 1) := by decide +kernel
theorem dL_law_15 : decode cL_law 15 = .ok (.iconst 0, 1) := by decide +kernel
theorem dL_law_16 : decode cL_law 16 = .ok (.ireturn, 1) := by decide +kernel
theorem hn_L_law_0 : HnOK ML_law 4 "java/lang/IllegalArgumentException" 13 3 := ⟨[], [], ⟨0, 9, 12, 13⟩, "java/lang/IllegalArgumentException", rfl, (fun z hz => nomatch hz), by decide, by decide, q_706, q_721, by decide, Or.inl ⟨3, dL_law_12, rfl, rfl⟩⟩
set_option maxRecDepth 100000 in
theorem T_L_law_0 {G : GE} {d C S : Nat} {P : KI} : Snd G ML_law (d + 1) (C + 1) (S + 6) 0 (RI P) (s_aload 2 (s_iconst 0 (s_aload 0 (s_iload 1 (s_callVH G d MX11_law 1 10 [("java/lang/IllegalArgumentException", 13, 3, (s_iconst 1 (s_ireturn P)))] (s_i2l (s_lastore (s_iconst 0 (s_ireturn P))))))))) := (e_aload_n dL_law_0 rfl (e_iconst (v := 0) dL_law_1 (by decide) (e_aload_n dL_law_2 rfl (e_iload_n dL_law_3 rfl (e_callVH (hds := [("java/lang/IllegalArgumentException", 13, 3, (s_iconst 1 (s_ireturn P)))]) cl_10 cal_X11_law q_975 q_976 q_977 dL_law_4 (List.forall_mem_cons.mpr ⟨⟨hn_L_law_0, (e_iconst (v := 1) dL_law_13 (by decide) (e_ireturn rfl dL_law_14))⟩, fun _ h => nomatch h⟩) (e_i2l dL_law_7 (e_lastore dL_law_8 (e_goto (tgt := 15) dL_law_9 (by decide) (e_iconst (v := 0) dL_law_15 (by decide) (e_ireturn rfl dL_law_16))))))))))
set_option maxRecDepth 100000 in
theorem V_L_law_0 {G : GE} {d : Nat} {P : KI} {a : Nat → Nat → Int32} {r : Nat → Nat → Value} {N : Nat} {l0 : Nat} {l1 : Int32} {l2 : Nat} (hs : (tyK l0 = (0, 10) ∧ l0 < N ∧ (Sp G d 0 0 MX11_law [.ref l0, .int l1] (a, r, N) (RI fun v13 a10 r11 n12 => ((tyK l2).1 = 4 ∧ l2 < n12 ∧ vp_in 0 (tyK l2).2 ∧ ∀ r14, r14 = u2V r11 l2 (0 : Int32).toNatClampNeg (.long ((v13 : Int32).toInt64)) → P 0 a10 r14 n12)) ∨ Sp G d 1 6 MX11_law [.ref l0, .int l1] (a, r, N) (RX fun e9 a6 r7 n8 => if e9 = "java/lang/IllegalArgumentException" then P 1 a6 r7 n8 else False)))) : Sp G (d + 1) 1 6 ML_law [.ref l0, .int l1, .ref l2] (a, r, N) (RI P) := Sp.mk (mc := (0 + 1)) (ms := (0 + 6)) [.ref l0, .int l1, .ref l2, .null] rfl rfl rfl rfl (T_L_law_0 (C := 0) (S := 0) _ _ _ hs)
theorem dL_work_0 : decode cL_work 0 = .ok (.aload_n 2, 1) := by decide +kernel
theorem dL_work_1 : decode cL_work 1 = .ok (.iconst 0, 1) := by decide +kernel
theorem dL_work_2 : decode cL_work 2 = .ok (.aload_n 0, 1) := by decide +kernel
theorem dL_work_3 : decode cL_work 3 = .ok (.iload_n 1, 1) := by decide +kernel
theorem dL_work_4 : decode cL_work 4 = .ok (.invokevirtual 18, 3) := by decide +kernel
theorem dL_work_7 : decode cL_work 7 = .ok (.i2l, 1) := by decide +kernel
theorem dL_work_8 : decode cL_work 8 = .ok (.lastore, 1) := by decide +kernel
theorem dL_work_9 : decode cL_work 9 = .ok (.goto 6, 3) := by decide +kernel
theorem dL_work_12 : decode cL_work 12 = .ok (.astore_n 3, 1) := by decide +kernel
theorem dL_work_13 : decode cL_work 13 = .ok (.iconst 1, 1) := by decide +kernel
theorem dL_work_14 : decode cL_work 14 = .ok (.ireturn, 1) := by decide +kernel
theorem dL_work_15 : decode cL_work 15 = .ok (.iconst 0, 1) := by decide +kernel
theorem dL_work_16 : decode cL_work 16 = .ok (.ireturn, 1) := by decide +kernel
theorem hn_L_work_0 : HnOK ML_work 4 "java/lang/IllegalArgumentException" 13 3 := ⟨[], [], ⟨0, 9, 12, 13⟩, "java/lang/IllegalArgumentException", rfl, (fun z hz => nomatch hz), by decide, by decide, q_706, q_721, by decide, Or.inl ⟨3, dL_work_12, rfl, rfl⟩⟩
set_option maxRecDepth 100000 in
theorem T_L_work_0 {G : GE} {d C S : Nat} {P : KI} : Snd G ML_work (d + 1) (C + 1) (S + 6) 0 (RI P) (s_aload 2 (s_iconst 0 (s_aload 0 (s_iload 1 (s_callVH G d MX11_work 1 10 [("java/lang/IllegalArgumentException", 13, 3, (s_iconst 1 (s_ireturn P)))] (s_i2l (s_lastore (s_iconst 0 (s_ireturn P))))))))) := (e_aload_n dL_work_0 rfl (e_iconst (v := 0) dL_work_1 (by decide) (e_aload_n dL_work_2 rfl (e_iload_n dL_work_3 rfl (e_callVH (hds := [("java/lang/IllegalArgumentException", 13, 3, (s_iconst 1 (s_ireturn P)))]) cl_10 cal_X11_work q_1037 q_1038 q_1039 dL_work_4 (List.forall_mem_cons.mpr ⟨⟨hn_L_work_0, (e_iconst (v := 1) dL_work_13 (by decide) (e_ireturn rfl dL_work_14))⟩, fun _ h => nomatch h⟩) (e_i2l dL_work_7 (e_lastore dL_work_8 (e_goto (tgt := 15) dL_work_9 (by decide) (e_iconst (v := 0) dL_work_15 (by decide) (e_ireturn rfl dL_work_16))))))))))
set_option maxRecDepth 100000 in
theorem V_L_work_0 {G : GE} {d : Nat} {P : KI} {a : Nat → Nat → Int32} {r : Nat → Nat → Value} {N : Nat} {l0 : Nat} {l1 : Int32} {l2 : Nat} (hs : (tyK l0 = (0, 10) ∧ l0 < N ∧ (Sp G d 0 0 MX11_work [.ref l0, .int l1] (a, r, N) (RI fun v13 a10 r11 n12 => ((tyK l2).1 = 4 ∧ l2 < n12 ∧ vp_in 0 (tyK l2).2 ∧ ∀ r14, r14 = u2V r11 l2 (0 : Int32).toNatClampNeg (.long ((v13 : Int32).toInt64)) → P 0 a10 r14 n12)) ∨ Sp G d 1 6 MX11_work [.ref l0, .int l1] (a, r, N) (RX fun e9 a6 r7 n8 => if e9 = "java/lang/IllegalArgumentException" then P 1 a6 r7 n8 else False)))) : Sp G (d + 1) 1 6 ML_work [.ref l0, .int l1, .ref l2] (a, r, N) (RI P) := Sp.mk (mc := (0 + 1)) (ms := (0 + 6)) [.ref l0, .int l1, .ref l2, .null] rfl rfl rfl rfl (T_L_work_0 (C := 0) (S := 0) _ _ _ hs)
theorem dL_post_0 : decode cL_post 0 = .ok (.aload_n 2, 1) := by decide +kernel
theorem dL_post_1 : decode cL_post 1 = .ok (.iconst 0, 1) := by decide +kernel
theorem dL_post_2 : decode cL_post 2 = .ok (.aload_n 0, 1) := by decide +kernel
theorem dL_post_3 : decode cL_post 3 = .ok (.iload_n 1, 1) := by decide +kernel
theorem dL_post_4 : decode cL_post 4 = .ok (.invokevirtual 21, 3) := by decide +kernel
theorem dL_post_7 : decode cL_post 7 = .ok (.i2l, 1) := by decide +kernel
theorem dL_post_8 : decode cL_post 8 = .ok (.lastore, 1) := by decide +kernel
theorem dL_post_9 : decode cL_post 9 = .ok (.goto 6, 3) := by decide +kernel
theorem dL_post_12 : decode cL_post 12 = .ok (.astore_n 3, 1) := by decide +kernel
theorem dL_post_13 : decode cL_post 13 = .ok (.iconst 1, 1) := by decide +kernel
theorem dL_post_14 : decode cL_post 14 = .ok (.ireturn, 1) := by decide +kernel
theorem dL_post_15 : decode cL_post 15 = .ok (.iconst 0, 1) := by decide +kernel
theorem dL_post_16 : decode cL_post 16 = .ok (.ireturn, 1) := by decide +kernel
theorem hn_L_post_0 : HnOK ML_post 4 "java/lang/IllegalArgumentException" 13 3 := ⟨[], [], ⟨0, 9, 12, 13⟩, "java/lang/IllegalArgumentException", rfl, (fun z hz => nomatch hz), by decide, by decide, q_706, q_721, by decide, Or.inl ⟨3, dL_post_12, rfl, rfl⟩⟩
set_option maxRecDepth 100000 in
theorem T_L_post_0 {G : GE} {d C S : Nat} {P : KI} : Snd G ML_post (d + 1) (C + 1) (S + 6) 0 (RI P) (s_aload 2 (s_iconst 0 (s_aload 0 (s_iload 1 (s_callVH G d MX11_post 1 10 [("java/lang/IllegalArgumentException", 13, 3, (s_iconst 1 (s_ireturn P)))] (s_i2l (s_lastore (s_iconst 0 (s_ireturn P))))))))) := (e_aload_n dL_post_0 rfl (e_iconst (v := 0) dL_post_1 (by decide) (e_aload_n dL_post_2 rfl (e_iload_n dL_post_3 rfl (e_callVH (hds := [("java/lang/IllegalArgumentException", 13, 3, (s_iconst 1 (s_ireturn P)))]) cl_10 cal_X11_post q_1155 q_1156 q_1157 dL_post_4 (List.forall_mem_cons.mpr ⟨⟨hn_L_post_0, (e_iconst (v := 1) dL_post_13 (by decide) (e_ireturn rfl dL_post_14))⟩, fun _ h => nomatch h⟩) (e_i2l dL_post_7 (e_lastore dL_post_8 (e_goto (tgt := 15) dL_post_9 (by decide) (e_iconst (v := 0) dL_post_15 (by decide) (e_ireturn rfl dL_post_16))))))))))
set_option maxRecDepth 100000 in
theorem V_L_post_0 {G : GE} {d : Nat} {P : KI} {a : Nat → Nat → Int32} {r : Nat → Nat → Value} {N : Nat} {l0 : Nat} {l1 : Int32} {l2 : Nat} (hs : (tyK l0 = (0, 10) ∧ l0 < N ∧ (Sp G d 0 0 MX11_post [.ref l0, .int l1] (a, r, N) (RI fun v13 a10 r11 n12 => ((tyK l2).1 = 4 ∧ l2 < n12 ∧ vp_in 0 (tyK l2).2 ∧ ∀ r14, r14 = u2V r11 l2 (0 : Int32).toNatClampNeg (.long ((v13 : Int32).toInt64)) → P 0 a10 r14 n12)) ∨ Sp G d 1 6 MX11_post [.ref l0, .int l1] (a, r, N) (RX fun e9 a6 r7 n8 => if e9 = "java/lang/IllegalArgumentException" then P 1 a6 r7 n8 else False)))) : Sp G (d + 1) 1 6 ML_post [.ref l0, .int l1, .ref l2] (a, r, N) (RI P) := Sp.mk (mc := (0 + 1)) (ms := (0 + 6)) [.ref l0, .int l1, .ref l2, .null] rfl rfl rfl rfl (T_L_post_0 (C := 0) (S := 0) _ _ _ hs)
theorem dL_told_0 : decode cL_told 0 = .ok (.aload_n 2, 1) := by decide +kernel
theorem dL_told_1 : decode cL_told 1 = .ok (.iconst 0, 1) := by decide +kernel
theorem dL_told_2 : decode cL_told 2 = .ok (.aload_n 0, 1) := by decide +kernel
theorem dL_told_3 : decode cL_told 3 = .ok (.iload_n 1, 1) := by decide +kernel
theorem dL_told_4 : decode cL_told 4 = .ok (.invokevirtual 24, 3) := by decide +kernel
theorem dL_told_7 : decode cL_told 7 = .ok (.i2l, 1) := by decide +kernel
theorem dL_told_8 : decode cL_told 8 = .ok (.lastore, 1) := by decide +kernel
theorem dL_told_9 : decode cL_told 9 = .ok (.goto 6, 3) := by decide +kernel
theorem dL_told_12 : decode cL_told 12 = .ok (.astore_n 3, 1) := by decide +kernel
theorem dL_told_13 : decode cL_told 13 = .ok (.iconst 1, 1) := by decide +kernel
theorem dL_told_14 : decode cL_told 14 = .ok (.ireturn, 1) := by decide +kernel
theorem dL_told_15 : decode cL_told 15 = .ok (.iconst 0, 1) := by decide +kernel
theorem dL_told_16 : decode cL_told 16 = .ok (.ireturn, 1) := by decide +kernel
theorem hn_L_told_0 : HnOK ML_told 4 "java/lang/IllegalArgumentException" 13 3 := ⟨[], [], ⟨0, 9, 12, 13⟩, "java/lang/IllegalArgumentException", rfl, (fun z hz => nomatch hz), by decide, by decide, q_706, q_721, by decide, Or.inl ⟨3, dL_told_12, rfl, rfl⟩⟩
set_option maxRecDepth 100000 in
theorem T_L_told_0 {G : GE} {d C S : Nat} {P : KI} : Snd G ML_told (d + 1) (C + 1) (S + 6) 0 (RI P) (s_aload 2 (s_iconst 0 (s_aload 0 (s_iload 1 (s_callVH G d MX11_told 1 10 [("java/lang/IllegalArgumentException", 13, 3, (s_iconst 1 (s_ireturn P)))] (s_i2l (s_lastore (s_iconst 0 (s_ireturn P))))))))) := (e_aload_n dL_told_0 rfl (e_iconst (v := 0) dL_told_1 (by decide) (e_aload_n dL_told_2 rfl (e_iload_n dL_told_3 rfl (e_callVH (hds := [("java/lang/IllegalArgumentException", 13, 3, (s_iconst 1 (s_ireturn P)))]) cl_10 cal_X11_told q_1180 q_1181 q_1182 dL_told_4 (List.forall_mem_cons.mpr ⟨⟨hn_L_told_0, (e_iconst (v := 1) dL_told_13 (by decide) (e_ireturn rfl dL_told_14))⟩, fun _ h => nomatch h⟩) (e_i2l dL_told_7 (e_lastore dL_told_8 (e_goto (tgt := 15) dL_told_9 (by decide) (e_iconst (v := 0) dL_told_15 (by decide) (e_ireturn rfl dL_told_16))))))))))
set_option maxRecDepth 100000 in
theorem V_L_told_0 {G : GE} {d : Nat} {P : KI} {a : Nat → Nat → Int32} {r : Nat → Nat → Value} {N : Nat} {l0 : Nat} {l1 : Int32} {l2 : Nat} (hs : (tyK l0 = (0, 10) ∧ l0 < N ∧ (Sp G d 0 0 MX11_told [.ref l0, .int l1] (a, r, N) (RI fun v13 a10 r11 n12 => ((tyK l2).1 = 4 ∧ l2 < n12 ∧ vp_in 0 (tyK l2).2 ∧ ∀ r14, r14 = u2V r11 l2 (0 : Int32).toNatClampNeg (.long ((v13 : Int32).toInt64)) → P 0 a10 r14 n12)) ∨ Sp G d 1 6 MX11_told [.ref l0, .int l1] (a, r, N) (RX fun e9 a6 r7 n8 => if e9 = "java/lang/IllegalArgumentException" then P 1 a6 r7 n8 else False)))) : Sp G (d + 1) 1 6 ML_told [.ref l0, .int l1, .ref l2] (a, r, N) (RI P) := Sp.mk (mc := (0 + 1)) (ms := (0 + 6)) [.ref l0, .int l1, .ref l2, .null] rfl rfl rfl rfl (T_L_told_0 (C := 0) (S := 0) _ _ _ hs)
theorem dL_street_0 : decode cL_street 0 = .ok (.aload_n 3, 1) := by decide +kernel
theorem dL_street_1 : decode cL_street 1 = .ok (.iconst 0, 1) := by decide +kernel
theorem dL_street_2 : decode cL_street 2 = .ok (.aload_n 0, 1) := by decide +kernel
theorem dL_street_3 : decode cL_street 3 = .ok (.iload_n 1, 1) := by decide +kernel
theorem dL_street_4 : decode cL_street 4 = .ok (.iload_n 2, 1) := by decide +kernel
theorem dL_street_5 : decode cL_street 5 = .ok (.invokevirtual 27, 3) := by decide +kernel
theorem dL_street_8 : decode cL_street 8 = .ok (.i2l, 1) := by decide +kernel
theorem dL_street_9 : decode cL_street 9 = .ok (.lastore, 1) := by decide +kernel
theorem dL_street_10 : decode cL_street 10 = .ok (.goto 11, 3) := by decide +kernel
theorem dL_street_13 : decode cL_street 13 = .ok (.astore 4, 2) := by decide +kernel
theorem dL_street_15 : decode cL_street 15 = .ok (.iconst 1, 1) := by decide +kernel
theorem dL_street_16 : decode cL_street 16 = .ok (.ireturn, 1) := by decide +kernel
theorem dL_street_17 : decode cL_street 17 = .ok (.astore 4, 2) := by decide +kernel
theorem dL_street_19 : decode cL_street 19 = .ok (.iconst 2, 1) := by decide +kernel
theorem dL_street_20 : decode cL_street 20 = .ok (.ireturn, 1) := by decide +kernel
theorem dL_street_21 : decode cL_street 21 = .ok (.iconst 0, 1) := by decide +kernel
theorem dL_street_22 : decode cL_street 22 = .ok (.ireturn, 1) := by decide +kernel
theorem hn_L_street_0 : HnOK ML_street 5 "java/util/NoSuchElementException" 15 4 := ⟨[], [⟨0, 10, 17, 13⟩], ⟨0, 10, 13, 31⟩, "java/util/NoSuchElementException", rfl, (fun z hz => nomatch hz), by decide, by decide, q_1200, q_1215, by decide, Or.inr ⟨dL_street_13, rfl⟩⟩
theorem hn_L_street_1 : HnOK ML_street 5 "java/lang/IllegalArgumentException" 19 4 := ⟨[⟨0, 10, 13, 31⟩], [], ⟨0, 10, 17, 13⟩, "java/lang/IllegalArgumentException", rfl, (fun z hz => by cases List.mem_singleton.mp hz; exact ⟨by decide, "java/util/NoSuchElementException", q_1200, by decide +kernel⟩), by decide, by decide, q_706, q_721, by decide, Or.inr ⟨dL_street_17, rfl⟩⟩
set_option maxRecDepth 100000 in
theorem T_L_street_0 {G : GE} {d C S : Nat} {P : KI} : Snd G ML_street (d + 1) (C + 1) (S + 6) 0 (RI P) (s_aload 3 (s_iconst 0 (s_aload 0 (s_iload 1 (s_iload 2 (s_callVH G d MX11_street 2 10 [("java/util/NoSuchElementException", 15, 4, (s_iconst 1 (s_ireturn P))), ("java/lang/IllegalArgumentException", 19, 4, (s_iconst 2 (s_ireturn P)))] (s_i2l (s_lastore (s_iconst 0 (s_ireturn P)))))))))) := (e_aload_n dL_street_0 rfl (e_iconst (v := 0) dL_street_1 (by decide) (e_aload_n dL_street_2 rfl (e_iload_n dL_street_3 rfl (e_iload_n dL_street_4 rfl (e_callVH (hds := [("java/util/NoSuchElementException", 15, 4, (s_iconst 1 (s_ireturn P))), ("java/lang/IllegalArgumentException", 19, 4, (s_iconst 2 (s_ireturn P)))]) cl_10 cal_X11_street q_1201 q_1202 q_1203 dL_street_5 (List.forall_mem_cons.mpr ⟨⟨hn_L_street_0, (e_iconst (v := 1) dL_street_15 (by decide) (e_ireturn rfl dL_street_16))⟩, List.forall_mem_cons.mpr ⟨⟨hn_L_street_1, (e_iconst (v := 2) dL_street_19 (by decide) (e_ireturn rfl dL_street_20))⟩, fun _ h => nomatch h⟩⟩) (e_i2l dL_street_8 (e_lastore dL_street_9 (e_goto (tgt := 21) dL_street_10 (by decide) (e_iconst (v := 0) dL_street_21 (by decide) (e_ireturn rfl dL_street_22)))))))))))
set_option maxRecDepth 100000 in
theorem V_L_street_0 {G : GE} {d : Nat} {P : KI} {a : Nat → Nat → Int32} {r : Nat → Nat → Value} {N : Nat} {l0 : Nat} {l1 : Int32} {l2 : Int32} {l3 : Nat} (hs : (tyK l0 = (0, 10) ∧ l0 < N ∧ (Sp G d 0 0 MX11_street [.ref l0, .int l1, .int l2] (a, r, N) (RI fun v13 a10 r11 n12 => ((tyK l3).1 = 4 ∧ l3 < n12 ∧ vp_in 0 (tyK l3).2 ∧ ∀ r14, r14 = u2V r11 l3 (0 : Int32).toNatClampNeg (.long ((v13 : Int32).toInt64)) → P 0 a10 r14 n12)) ∨ Sp G d 1 6 MX11_street [.ref l0, .int l1, .int l2] (a, r, N) (RX fun e9 a6 r7 n8 => if e9 = "java/util/NoSuchElementException" then P 1 a6 r7 n8 else if e9 = "java/lang/IllegalArgumentException" then P 2 a6 r7 n8 else False)))) : Sp G (d + 1) 1 6 ML_street [.ref l0, .int l1, .int l2, .ref l3] (a, r, N) (RI P) := Sp.mk (mc := (0 + 1)) (ms := (0 + 6)) [.ref l0, .int l1, .int l2, .ref l3, .null] rfl rfl rfl rfl (T_L_street_0 (C := 0) (S := 0) _ _ _ hs)
theorem dL_likes_0 : decode cL_likes 0 = .ok (.aload_n 3, 1) := by decide +kernel
theorem dL_likes_1 : decode cL_likes 1 = .ok (.iconst 0, 1) := by decide +kernel
theorem dL_likes_2 : decode cL_likes 2 = .ok (.aload_n 0, 1) := by decide +kernel
theorem dL_likes_3 : decode cL_likes 3 = .ok (.iload_n 1, 1) := by decide +kernel
theorem dL_likes_4 : decode cL_likes 4 = .ok (.iload_n 2, 1) := by decide +kernel
theorem dL_likes_5 : decode cL_likes 5 = .ok (.invokevirtual 33, 3) := by decide +kernel
theorem dL_likes_8 : decode cL_likes 8 = .ok (.i2l, 1) := by decide +kernel
theorem dL_likes_9 : decode cL_likes 9 = .ok (.lastore, 1) := by decide +kernel
theorem dL_likes_10 : decode cL_likes 10 = .ok (.goto 11, 3) := by decide +kernel
theorem dL_likes_13 : decode cL_likes 13 = .ok (.astore 4, 2) := by decide +kernel
theorem dL_likes_15 : decode cL_likes 15 = .ok (.iconst 1, 1) := by decide +kernel
theorem dL_likes_16 : decode cL_likes 16 = .ok (.ireturn, 1) := by decide +kernel
theorem dL_likes_17 : decode cL_likes 17 = .ok (.astore 4, 2) := by decide +kernel
theorem dL_likes_19 : decode cL_likes 19 = .ok (.iconst 2, 1) := by decide +kernel
theorem dL_likes_20 : decode cL_likes 20 = .ok (.ireturn, 1) := by decide +kernel
theorem dL_likes_21 : decode cL_likes 21 = .ok (.iconst 0, 1) := by decide +kernel
theorem dL_likes_22 : decode cL_likes 22 = .ok (.ireturn, 1) := by decide +kernel
theorem hn_L_likes_0 : HnOK ML_likes 5 "java/util/NoSuchElementException" 15 4 := ⟨[], [⟨0, 10, 17, 13⟩], ⟨0, 10, 13, 31⟩, "java/util/NoSuchElementException", rfl, (fun z hz => nomatch hz), by decide, by decide, q_1200, q_1215, by decide, Or.inr ⟨dL_likes_13, rfl⟩⟩
theorem hn_L_likes_1 : HnOK ML_likes 5 "java/lang/IllegalArgumentException" 19 4 := ⟨[⟨0, 10, 13, 31⟩], [], ⟨0, 10, 17, 13⟩, "java/lang/IllegalArgumentException", rfl, (fun z hz => by cases List.mem_singleton.mp hz; exact ⟨by decide, "java/util/NoSuchElementException", q_1200, by decide +kernel⟩), by decide, by decide, q_706, q_721, by decide, Or.inr ⟨dL_likes_17, rfl⟩⟩
set_option maxRecDepth 100000 in
theorem T_L_likes_0 {G : GE} {d C S : Nat} {P : KI} : Snd G ML_likes (d + 1) (C + 1) (S + 6) 0 (RI P) (s_aload 3 (s_iconst 0 (s_aload 0 (s_iload 1 (s_iload 2 (s_callVH G d MX11_likes 2 10 [("java/util/NoSuchElementException", 15, 4, (s_iconst 1 (s_ireturn P))), ("java/lang/IllegalArgumentException", 19, 4, (s_iconst 2 (s_ireturn P)))] (s_i2l (s_lastore (s_iconst 0 (s_ireturn P)))))))))) := (e_aload_n dL_likes_0 rfl (e_iconst (v := 0) dL_likes_1 (by decide) (e_aload_n dL_likes_2 rfl (e_iload_n dL_likes_3 rfl (e_iload_n dL_likes_4 rfl (e_callVH (hds := [("java/util/NoSuchElementException", 15, 4, (s_iconst 1 (s_ireturn P))), ("java/lang/IllegalArgumentException", 19, 4, (s_iconst 2 (s_ireturn P)))]) cl_10 cal_X11_likes q_1246 q_1247 q_1248 dL_likes_5 (List.forall_mem_cons.mpr ⟨⟨hn_L_likes_0, (e_iconst (v := 1) dL_likes_15 (by decide) (e_ireturn rfl dL_likes_16))⟩, List.forall_mem_cons.mpr ⟨⟨hn_L_likes_1, (e_iconst (v := 2) dL_likes_19 (by decide) (e_ireturn rfl dL_likes_20))⟩, fun _ h => nomatch h⟩⟩) (e_i2l dL_likes_8 (e_lastore dL_likes_9 (e_goto (tgt := 21) dL_likes_10 (by decide) (e_iconst (v := 0) dL_likes_21 (by decide) (e_ireturn rfl dL_likes_22)))))))))))
set_option maxRecDepth 100000 in
theorem V_L_likes_0 {G : GE} {d : Nat} {P : KI} {a : Nat → Nat → Int32} {r : Nat → Nat → Value} {N : Nat} {l0 : Nat} {l1 : Int32} {l2 : Int32} {l3 : Nat} (hs : (tyK l0 = (0, 10) ∧ l0 < N ∧ (Sp G d 0 0 MX11_likes [.ref l0, .int l1, .int l2] (a, r, N) (RI fun v13 a10 r11 n12 => ((tyK l3).1 = 4 ∧ l3 < n12 ∧ vp_in 0 (tyK l3).2 ∧ ∀ r14, r14 = u2V r11 l3 (0 : Int32).toNatClampNeg (.long ((v13 : Int32).toInt64)) → P 0 a10 r14 n12)) ∨ Sp G d 1 6 MX11_likes [.ref l0, .int l1, .int l2] (a, r, N) (RX fun e9 a6 r7 n8 => if e9 = "java/util/NoSuchElementException" then P 1 a6 r7 n8 else if e9 = "java/lang/IllegalArgumentException" then P 2 a6 r7 n8 else False)))) : Sp G (d + 1) 1 6 ML_likes [.ref l0, .int l1, .int l2, .ref l3] (a, r, N) (RI P) := Sp.mk (mc := (0 + 1)) (ms := (0 + 6)) [.ref l0, .int l1, .int l2, .ref l3, .null] rfl rfl rfl rfl (T_L_likes_0 (C := 0) (S := 0) _ _ _ hs)
theorem dL_banns_0 : decode cL_banns 0 = .ok (.aload_n 3, 1) := by decide +kernel
theorem dL_banns_1 : decode cL_banns 1 = .ok (.iconst 0, 1) := by decide +kernel
theorem dL_banns_2 : decode cL_banns 2 = .ok (.aload_n 0, 1) := by decide +kernel
theorem dL_banns_3 : decode cL_banns 3 = .ok (.iload_n 1, 1) := by decide +kernel
theorem dL_banns_4 : decode cL_banns 4 = .ok (.iload_n 2, 1) := by decide +kernel
theorem dL_banns_5 : decode cL_banns 5 = .ok (.invokevirtual 36, 3) := by decide +kernel
theorem dL_banns_8 : decode cL_banns 8 = .ok (.i2l, 1) := by decide +kernel
theorem dL_banns_9 : decode cL_banns 9 = .ok (.lastore, 1) := by decide +kernel
theorem dL_banns_10 : decode cL_banns 10 = .ok (.goto 7, 3) := by decide +kernel
theorem dL_banns_13 : decode cL_banns 13 = .ok (.astore 4, 2) := by decide +kernel
theorem dL_banns_15 : decode cL_banns 15 = .ok (.iconst 1, 1) := by decide +kernel
theorem dL_banns_16 : decode cL_banns 16 = .ok (.ireturn, 1) := by decide +kernel
theorem dL_banns_17 : decode cL_banns 17 = .ok (.iconst 0, 1) := by decide +kernel
theorem dL_banns_18 : decode cL_banns 18 = .ok (.ireturn, 1) := by decide +kernel
theorem hn_L_banns_0 : HnOK ML_banns 5 "java/util/NoSuchElementException" 15 4 := ⟨[], [], ⟨0, 10, 13, 31⟩, "java/util/NoSuchElementException", rfl, (fun z hz => nomatch hz), by decide, by decide, q_1200, q_1215, by decide, Or.inr ⟨dL_banns_13, rfl⟩⟩
set_option maxRecDepth 100000 in
theorem T_L_banns_0 {G : GE} {d C S : Nat} {P : KI} : Snd G ML_banns (d + 1) (C + 1) (S + 6) 0 (RI P) (s_aload 3 (s_iconst 0 (s_aload 0 (s_iload 1 (s_iload 2 (s_callVH G d MX11_banns 2 10 [("java/util/NoSuchElementException", 15, 4, (s_iconst 1 (s_ireturn P)))] (s_i2l (s_lastore (s_iconst 0 (s_ireturn P)))))))))) := (e_aload_n dL_banns_0 rfl (e_iconst (v := 0) dL_banns_1 (by decide) (e_aload_n dL_banns_2 rfl (e_iload_n dL_banns_3 rfl (e_iload_n dL_banns_4 rfl (e_callVH (hds := [("java/util/NoSuchElementException", 15, 4, (s_iconst 1 (s_ireturn P)))]) cl_10 cal_X11_banns q_1253 q_1254 q_1255 dL_banns_5 (List.forall_mem_cons.mpr ⟨⟨hn_L_banns_0, (e_iconst (v := 1) dL_banns_15 (by decide) (e_ireturn rfl dL_banns_16))⟩, fun _ h => nomatch h⟩) (e_i2l dL_banns_8 (e_lastore dL_banns_9 (e_goto (tgt := 17) dL_banns_10 (by decide) (e_iconst (v := 0) dL_banns_17 (by decide) (e_ireturn rfl dL_banns_18)))))))))))
set_option maxRecDepth 100000 in
theorem V_L_banns_0 {G : GE} {d : Nat} {P : KI} {a : Nat → Nat → Int32} {r : Nat → Nat → Value} {N : Nat} {l0 : Nat} {l1 : Int32} {l2 : Int32} {l3 : Nat} (hs : (tyK l0 = (0, 10) ∧ l0 < N ∧ (Sp G d 0 0 MX11_banns [.ref l0, .int l1, .int l2] (a, r, N) (RI fun v13 a10 r11 n12 => ((tyK l3).1 = 4 ∧ l3 < n12 ∧ vp_in 0 (tyK l3).2 ∧ ∀ r14, r14 = u2V r11 l3 (0 : Int32).toNatClampNeg (.long ((v13 : Int32).toInt64)) → P 0 a10 r14 n12)) ∨ Sp G d 1 6 MX11_banns [.ref l0, .int l1, .int l2] (a, r, N) (RX fun e9 a6 r7 n8 => if e9 = "java/util/NoSuchElementException" then P 1 a6 r7 n8 else False)))) : Sp G (d + 1) 1 6 ML_banns [.ref l0, .int l1, .int l2, .ref l3] (a, r, N) (RI P) := Sp.mk (mc := (0 + 1)) (ms := (0 + 6)) [.ref l0, .int l1, .int l2, .ref l3, .null] rfl rfl rfl rfl (T_L_banns_0 (C := 0) (S := 0) _ _ _ hs)
theorem dL_number_0 : decode cL_number 0 = .ok (.aload_n 3, 1) := by decide +kernel
theorem dL_number_1 : decode cL_number 1 = .ok (.iconst 0, 1) := by decide +kernel
theorem dL_number_2 : decode cL_number 2 = .ok (.aload_n 0, 1) := by decide +kernel
theorem dL_number_3 : decode cL_number 3 = .ok (.iload_n 1, 1) := by decide +kernel
theorem dL_number_4 : decode cL_number 4 = .ok (.iload_n 2, 1) := by decide +kernel
theorem dL_number_5 : decode cL_number 5 = .ok (.invokevirtual 39, 3) := by decide +kernel
theorem dL_number_8 : decode cL_number 8 = .ok (.i2l, 1) := by decide +kernel
theorem dL_number_9 : decode cL_number 9 = .ok (.lastore, 1) := by decide +kernel
theorem dL_number_10 : decode cL_number 10 = .ok (.goto 11, 3) := by decide +kernel
theorem dL_number_13 : decode cL_number 13 = .ok (.astore 4, 2) := by decide +kernel
theorem dL_number_15 : decode cL_number 15 = .ok (.iconst 1, 1) := by decide +kernel
theorem dL_number_16 : decode cL_number 16 = .ok (.ireturn, 1) := by decide +kernel
theorem dL_number_17 : decode cL_number 17 = .ok (.astore 4, 2) := by decide +kernel
theorem dL_number_19 : decode cL_number 19 = .ok (.iconst 2, 1) := by decide +kernel
theorem dL_number_20 : decode cL_number 20 = .ok (.ireturn, 1) := by decide +kernel
theorem dL_number_21 : decode cL_number 21 = .ok (.iconst 0, 1) := by decide +kernel
theorem dL_number_22 : decode cL_number 22 = .ok (.ireturn, 1) := by decide +kernel
theorem hn_L_number_0 : HnOK ML_number 5 "java/lang/IndexOutOfBoundsException" 15 4 := ⟨[], [⟨0, 10, 17, 31⟩], ⟨0, 10, 13, 42⟩, "java/lang/IndexOutOfBoundsException", rfl, (fun z hz => nomatch hz), by decide, by decide, q_1260, q_1271, by decide, Or.inr ⟨dL_number_13, rfl⟩⟩
theorem hn_L_number_1 : HnOK ML_number 5 "java/util/NoSuchElementException" 19 4 := ⟨[⟨0, 10, 13, 42⟩], [], ⟨0, 10, 17, 31⟩, "java/util/NoSuchElementException", rfl, (fun z hz => by cases List.mem_singleton.mp hz; exact ⟨by decide, "java/lang/IndexOutOfBoundsException", q_1260, by decide +kernel⟩), by decide, by decide, q_1200, q_1215, by decide, Or.inr ⟨dL_number_17, rfl⟩⟩
set_option maxRecDepth 100000 in
theorem T_L_number_0 {G : GE} {d C S : Nat} {P : KI} : Snd G ML_number (d + 1) (C + 1) (S + 6) 0 (RI P) (s_aload 3 (s_iconst 0 (s_aload 0 (s_iload 1 (s_iload 2 (s_callVH G d MX11_number 2 10 [("java/lang/IndexOutOfBoundsException", 15, 4, (s_iconst 1 (s_ireturn P))), ("java/util/NoSuchElementException", 19, 4, (s_iconst 2 (s_ireturn P)))] (s_i2l (s_lastore (s_iconst 0 (s_ireturn P)))))))))) := (e_aload_n dL_number_0 rfl (e_iconst (v := 0) dL_number_1 (by decide) (e_aload_n dL_number_2 rfl (e_iload_n dL_number_3 rfl (e_iload_n dL_number_4 rfl (e_callVH (hds := [("java/lang/IndexOutOfBoundsException", 15, 4, (s_iconst 1 (s_ireturn P))), ("java/util/NoSuchElementException", 19, 4, (s_iconst 2 (s_ireturn P)))]) cl_10 cal_X11_number q_1261 q_1262 q_1263 dL_number_5 (List.forall_mem_cons.mpr ⟨⟨hn_L_number_0, (e_iconst (v := 1) dL_number_15 (by decide) (e_ireturn rfl dL_number_16))⟩, List.forall_mem_cons.mpr ⟨⟨hn_L_number_1, (e_iconst (v := 2) dL_number_19 (by decide) (e_ireturn rfl dL_number_20))⟩, fun _ h => nomatch h⟩⟩) (e_i2l dL_number_8 (e_lastore dL_number_9 (e_goto (tgt := 21) dL_number_10 (by decide) (e_iconst (v := 0) dL_number_21 (by decide) (e_ireturn rfl dL_number_22)))))))))))
set_option maxRecDepth 100000 in
theorem V_L_number_0 {G : GE} {d : Nat} {P : KI} {a : Nat → Nat → Int32} {r : Nat → Nat → Value} {N : Nat} {l0 : Nat} {l1 : Int32} {l2 : Int32} {l3 : Nat} (hs : (tyK l0 = (0, 10) ∧ l0 < N ∧ (Sp G d 0 0 MX11_number [.ref l0, .int l1, .int l2] (a, r, N) (RI fun v13 a10 r11 n12 => ((tyK l3).1 = 4 ∧ l3 < n12 ∧ vp_in 0 (tyK l3).2 ∧ ∀ r14, r14 = u2V r11 l3 (0 : Int32).toNatClampNeg (.long ((v13 : Int32).toInt64)) → P 0 a10 r14 n12)) ∨ Sp G d 1 6 MX11_number [.ref l0, .int l1, .int l2] (a, r, N) (RX fun e9 a6 r7 n8 => if e9 = "java/lang/IndexOutOfBoundsException" then P 1 a6 r7 n8 else if e9 = "java/util/NoSuchElementException" then P 2 a6 r7 n8 else False)))) : Sp G (d + 1) 1 6 ML_number [.ref l0, .int l1, .int l2, .ref l3] (a, r, N) (RI P) := Sp.mk (mc := (0 + 1)) (ms := (0 + 6)) [.ref l0, .int l1, .int l2, .ref l3, .null] rfl rfl rfl rfl (T_L_number_0 (C := 0) (S := 0) _ _ _ hs)
