theorem dL_fair_0 : decode cL_fair 0 = .ok (.aload_n 2, 1) := by decide +kernel
theorem dL_fair_1 : decode cL_fair 1 = .ok (.iconst 0, 1) := by decide +kernel
theorem dL_fair_2 : decode cL_fair 2 = .ok (.aload_n 0, 1) := by decide +kernel
theorem dL_fair_3 : decode cL_fair 3 = .ok (.iload_n 1, 1) := by decide +kernel
theorem dL_fair_4 : decode cL_fair 4 = .ok (.invokevirtual 71, 3) := by decide +kernel
theorem dL_fair_7 : decode cL_fair 7 = .ok (.i2l, 1) := by decide +kernel
theorem dL_fair_8 : decode cL_fair 8 = .ok (.lastore, 1) := by decide +kernel
theorem dL_fair_9 : decode cL_fair 9 = .ok (.goto 6, 3) := by decide +kernel
theorem dL_fair_12 : decode cL_fair 12 = .ok (.astore_n 3, 1) := by decide +kernel
theorem dL_fair_13 : decode cL_fair 13 = .ok (.iconst 1, 1) := by decide +kernel
theorem dL_fair_14 : decode cL_fair 14 = .ok (.ireturn, 1) := by decide +kernel
theorem dL_fair_15 : decode cL_fair 15 = .ok (.iconst 0, 1) := by decide +kernel
theorem dL_fair_16 : decode cL_fair 16 = .ok (.ireturn, 1) := by decide +kernel
theorem hn_L_fair_0 : HnOK ML_fair 4 "java/lang/IllegalArgumentException" 13 3 := ⟨[], [], ⟨0, 9, 12, 13⟩, "java/lang/IllegalArgumentException", rfl, (fun z hz => nomatch hz), by decide, by decide, q_706, q_721, by decide, Or.inl ⟨3, dL_fair_12, rfl, rfl⟩⟩
set_option maxRecDepth 100000 in
theorem T_L_fair_0 {G : GE} {d C S : Nat} {P : KI} : Snd G ML_fair (d + 1) (C + 1) (S + 6) 0 (RI P) (s_aload 2 (s_iconst 0 (s_aload 0 (s_iload 1 (s_callVH G d MX11_fair 1 10 [("java/lang/IllegalArgumentException", 13, 3, (s_iconst 1 (s_ireturn P)))] (s_i2l (s_lastore (s_iconst 0 (s_ireturn P))))))))) := (e_aload_n dL_fair_0 rfl (e_iconst (v := 0) dL_fair_1 (by decide) (e_aload_n dL_fair_2 rfl (e_iload_n dL_fair_3 rfl (e_callVH (hds := [("java/lang/IllegalArgumentException", 13, 3, (s_iconst 1 (s_ireturn P)))]) cl_10 cal_X11_fair q_1409 q_1410 q_1411 dL_fair_4 (List.forall_mem_cons.mpr ⟨⟨hn_L_fair_0, (e_iconst (v := 1) dL_fair_13 (by decide) (e_ireturn rfl dL_fair_14))⟩, fun _ h => nomatch h⟩) (e_i2l dL_fair_7 (e_lastore dL_fair_8 (e_goto (tgt := 15) dL_fair_9 (by decide) (e_iconst (v := 0) dL_fair_15 (by decide) (e_ireturn rfl dL_fair_16))))))))))
set_option maxRecDepth 100000 in
theorem V_L_fair_0 {G : GE} {d : Nat} {P : KI} {a : Nat → Nat → Int32} {r : Nat → Nat → Value} {N : Nat} {l0 : Nat} {l1 : Int32} {l2 : Nat} (hs : (tyK l0 = (0, 10) ∧ l0 < N ∧ (Sp G d 0 0 MX11_fair [.ref l0, .int l1] (a, r, N) (RI fun v13 a10 r11 n12 => ((tyK l2).1 = 4 ∧ l2 < n12 ∧ vp_in 0 (tyK l2).2 ∧ ∀ r14, r14 = u2V r11 l2 (0 : Int32).toNatClampNeg (.long ((v13 : Int32).toInt64)) → P 0 a10 r14 n12)) ∨ Sp G d 1 6 MX11_fair [.ref l0, .int l1] (a, r, N) (RX fun e9 a6 r7 n8 => if e9 = "java/lang/IllegalArgumentException" then P 1 a6 r7 n8 else False)))) : Sp G (d + 1) 1 6 ML_fair [.ref l0, .int l1, .ref l2] (a, r, N) (RI P) := Sp.mk (mc := (0 + 1)) (ms := (0 + 6)) [.ref l0, .int l1, .ref l2, .null] rfl rfl rfl rfl (T_L_fair_0 (C := 0) (S := 0) _ _ _ hs)
theorem dL_mates_0 : decode cL_mates 0 = .ok (.aload_n 3, 1) := by decide +kernel
theorem dL_mates_1 : decode cL_mates 1 = .ok (.iconst 0, 1) := by decide +kernel
theorem dL_mates_2 : decode cL_mates 2 = .ok (.aload_n 0, 1) := by decide +kernel
theorem dL_mates_3 : decode cL_mates 3 = .ok (.iload_n 1, 1) := by decide +kernel
theorem dL_mates_4 : decode cL_mates 4 = .ok (.iload_n 2, 1) := by decide +kernel
theorem dL_mates_5 : decode cL_mates 5 = .ok (.invokevirtual 74, 3) := by decide +kernel
theorem dL_mates_8 : decode cL_mates 8 = .ok (.i2l, 1) := by decide +kernel
theorem dL_mates_9 : decode cL_mates 9 = .ok (.lastore, 1) := by decide +kernel
theorem dL_mates_10 : decode cL_mates 10 = .ok (.goto 11, 3) := by decide +kernel
theorem dL_mates_13 : decode cL_mates 13 = .ok (.astore 4, 2) := by decide +kernel
theorem dL_mates_15 : decode cL_mates 15 = .ok (.iconst 1, 1) := by decide +kernel
theorem dL_mates_16 : decode cL_mates 16 = .ok (.ireturn, 1) := by decide +kernel
theorem dL_mates_17 : decode cL_mates 17 = .ok (.astore 4, 2) := by decide +kernel
theorem dL_mates_19 : decode cL_mates 19 = .ok (.iconst 2, 1) := by decide +kernel
theorem dL_mates_20 : decode cL_mates 20 = .ok (.ireturn, 1) := by decide +kernel
theorem dL_mates_21 : decode cL_mates 21 = .ok (.iconst 0, 1) := by decide +kernel
theorem dL_mates_22 : decode cL_mates 22 = .ok (.ireturn, 1) := by decide +kernel
theorem hn_L_mates_0 : HnOK ML_mates 5 "java/util/NoSuchElementException" 15 4 := ⟨[], [⟨0, 10, 17, 13⟩], ⟨0, 10, 13, 31⟩, "java/util/NoSuchElementException", rfl, (fun z hz => nomatch hz), by decide, by decide, q_1200, q_1215, by decide, Or.inr ⟨dL_mates_13, rfl⟩⟩
theorem hn_L_mates_1 : HnOK ML_mates 5 "java/lang/IllegalArgumentException" 19 4 := ⟨[⟨0, 10, 13, 31⟩], [], ⟨0, 10, 17, 13⟩, "java/lang/IllegalArgumentException", rfl, (fun z hz => by cases List.mem_singleton.mp hz; exact ⟨by decide, "java/util/NoSuchElementException", q_1200, by decide +kernel⟩), by decide, by decide, q_706, q_721, by decide, Or.inr ⟨dL_mates_17, rfl⟩⟩
set_option maxRecDepth 100000 in
theorem T_L_mates_0 {G : GE} {d C S : Nat} {P : KI} : Snd G ML_mates (d + 1) (C + 1) (S + 6) 0 (RI P) (s_aload 3 (s_iconst 0 (s_aload 0 (s_iload 1 (s_iload 2 (s_callVH G d MX11_mates 2 10 [("java/util/NoSuchElementException", 15, 4, (s_iconst 1 (s_ireturn P))), ("java/lang/IllegalArgumentException", 19, 4, (s_iconst 2 (s_ireturn P)))] (s_i2l (s_lastore (s_iconst 0 (s_ireturn P)))))))))) := (e_aload_n dL_mates_0 rfl (e_iconst (v := 0) dL_mates_1 (by decide) (e_aload_n dL_mates_2 rfl (e_iload_n dL_mates_3 rfl (e_iload_n dL_mates_4 rfl (e_callVH (hds := [("java/util/NoSuchElementException", 15, 4, (s_iconst 1 (s_ireturn P))), ("java/lang/IllegalArgumentException", 19, 4, (s_iconst 2 (s_ireturn P)))]) cl_10 cal_X11_mates q_1416 q_1417 q_1418 dL_mates_5 (List.forall_mem_cons.mpr ⟨⟨hn_L_mates_0, (e_iconst (v := 1) dL_mates_15 (by decide) (e_ireturn rfl dL_mates_16))⟩, List.forall_mem_cons.mpr ⟨⟨hn_L_mates_1, (e_iconst (v := 2) dL_mates_19 (by decide) (e_ireturn rfl dL_mates_20))⟩, fun _ h => nomatch h⟩⟩) (e_i2l dL_mates_8 (e_lastore dL_mates_9 (e_goto (tgt := 21) dL_mates_10 (by decide) (e_iconst (v := 0) dL_mates_21 (by decide) (e_ireturn rfl dL_mates_22)))))))))))
set_option maxRecDepth 100000 in
theorem V_L_mates_0 {G : GE} {d : Nat} {P : KI} {a : Nat → Nat → Int32} {r : Nat → Nat → Value} {N : Nat} {l0 : Nat} {l1 : Int32} {l2 : Int32} {l3 : Nat} (hs : (tyK l0 = (0, 10) ∧ l0 < N ∧ (Sp G d 0 0 MX11_mates [.ref l0, .int l1, .int l2] (a, r, N) (RI fun v13 a10 r11 n12 => ((tyK l3).1 = 4 ∧ l3 < n12 ∧ vp_in 0 (tyK l3).2 ∧ ∀ r14, r14 = u2V r11 l3 (0 : Int32).toNatClampNeg (.long ((v13 : Int32).toInt64)) → P 0 a10 r14 n12)) ∨ Sp G d 1 6 MX11_mates [.ref l0, .int l1, .int l2] (a, r, N) (RX fun e9 a6 r7 n8 => if e9 = "java/util/NoSuchElementException" then P 1 a6 r7 n8 else if e9 = "java/lang/IllegalArgumentException" then P 2 a6 r7 n8 else False)))) : Sp G (d + 1) 1 6 ML_mates [.ref l0, .int l1, .int l2, .ref l3] (a, r, N) (RI P) := Sp.mk (mc := (0 + 1)) (ms := (0 + 6)) [.ref l0, .int l1, .int l2, .ref l3, .null] rfl rfl rfl rfl (T_L_mates_0 (C := 0) (S := 0) _ _ _ hs)
theorem dL_look_0 : decode cL_look 0 = .ok (.aload_n 3, 1) := by decide +kernel
theorem dL_look_1 : decode cL_look 1 = .ok (.iconst 0, 1) := by decide +kernel
theorem dL_look_2 : decode cL_look 2 = .ok (.aload_n 0, 1) := by decide +kernel
theorem dL_look_3 : decode cL_look 3 = .ok (.iload_n 1, 1) := by decide +kernel
theorem dL_look_4 : decode cL_look 4 = .ok (.iload_n 2, 1) := by decide +kernel
theorem dL_look_5 : decode cL_look 5 = .ok (.invokevirtual 77, 3) := by decide +kernel
theorem dL_look_8 : decode cL_look 8 = .ok (.i2l, 1) := by decide +kernel
theorem dL_look_9 : decode cL_look 9 = .ok (.lastore, 1) := by decide +kernel
theorem dL_look_10 : decode cL_look 10 = .ok (.goto 11, 3) := by decide +kernel
theorem dL_look_13 : decode cL_look 13 = .ok (.astore 4, 2) := by decide +kernel
theorem dL_look_15 : decode cL_look 15 = .ok (.iconst 1, 1) := by decide +kernel
theorem dL_look_16 : decode cL_look 16 = .ok (.ireturn, 1) := by decide +kernel
theorem dL_look_17 : decode cL_look 17 = .ok (.astore 4, 2) := by decide +kernel
theorem dL_look_19 : decode cL_look 19 = .ok (.iconst 2, 1) := by decide +kernel
theorem dL_look_20 : decode cL_look 20 = .ok (.ireturn, 1) := by decide +kernel
theorem dL_look_21 : decode cL_look 21 = .ok (.iconst 0, 1) := by decide +kernel
theorem dL_look_22 : decode cL_look 22 = .ok (.ireturn, 1) := by decide +kernel
theorem hn_L_look_0 : HnOK ML_look 5 "java/util/NoSuchElementException" 15 4 := ⟨[], [⟨0, 10, 17, 13⟩], ⟨0, 10, 13, 31⟩, "java/util/NoSuchElementException", rfl, (fun z hz => nomatch hz), by decide, by decide, q_1200, q_1215, by decide, Or.inr ⟨dL_look_13, rfl⟩⟩
theorem hn_L_look_1 : HnOK ML_look 5 "java/lang/IllegalArgumentException" 19 4 := ⟨[⟨0, 10, 13, 31⟩], [], ⟨0, 10, 17, 13⟩, "java/lang/IllegalArgumentException", rfl, (fun z hz => by cases List.mem_singleton.mp hz; exact ⟨by decide, "java/util/NoSuchElementException", q_1200, by decide +kernel⟩), by decide, by decide, q_706, q_721, by decide, Or.inr ⟨dL_look_17, rfl⟩⟩
set_option maxRecDepth 100000 in
theorem T_L_look_0 {G : GE} {d C S : Nat} {P : KI} : Snd G ML_look (d + 1) (C + 1) (S + 6) 0 (RI P) (s_aload 3 (s_iconst 0 (s_aload 0 (s_iload 1 (s_iload 2 (s_callVH G d MX11_look 2 10 [("java/util/NoSuchElementException", 15, 4, (s_iconst 1 (s_ireturn P))), ("java/lang/IllegalArgumentException", 19, 4, (s_iconst 2 (s_ireturn P)))] (s_i2l (s_lastore (s_iconst 0 (s_ireturn P)))))))))) := (e_aload_n dL_look_0 rfl (e_iconst (v := 0) dL_look_1 (by decide) (e_aload_n dL_look_2 rfl (e_iload_n dL_look_3 rfl (e_iload_n dL_look_4 rfl (e_callVH (hds := [("java/util/NoSuchElementException", 15, 4, (s_iconst 1 (s_ireturn P))), ("java/lang/IllegalArgumentException", 19, 4, (s_iconst 2 (s_ireturn P)))]) cl_10 cal_X11_look q_1446 q_1447 q_1448 dL_look_5 (List.forall_mem_cons.mpr ⟨⟨hn_L_look_0, (e_iconst (v := 1) dL_look_15 (by decide) (e_ireturn rfl dL_look_16))⟩, List.forall_mem_cons.mpr ⟨⟨hn_L_look_1, (e_iconst (v := 2) dL_look_19 (by decide) (e_ireturn rfl dL_look_20))⟩, fun _ h => nomatch h⟩⟩) (e_i2l dL_look_8 (e_lastore dL_look_9 (e_goto (tgt := 21) dL_look_10 (by decide) (e_iconst (v := 0) dL_look_21 (by decide) (e_ireturn rfl dL_look_22)))))))))))
set_option maxRecDepth 100000 in
theorem V_L_look_0 {G : GE} {d : Nat} {P : KI} {a : Nat → Nat → Int32} {r : Nat → Nat → Value} {N : Nat} {l0 : Nat} {l1 : Int32} {l2 : Int32} {l3 : Nat} (hs : (tyK l0 = (0, 10) ∧ l0 < N ∧ (Sp G d 0 0 MX11_look [.ref l0, .int l1, .int l2] (a, r, N) (RI fun v13 a10 r11 n12 => ((tyK l3).1 = 4 ∧ l3 < n12 ∧ vp_in 0 (tyK l3).2 ∧ ∀ r14, r14 = u2V r11 l3 (0 : Int32).toNatClampNeg (.long ((v13 : Int32).toInt64)) → P 0 a10 r14 n12)) ∨ Sp G d 1 6 MX11_look [.ref l0, .int l1, .int l2] (a, r, N) (RX fun e9 a6 r7 n8 => if e9 = "java/util/NoSuchElementException" then P 1 a6 r7 n8 else if e9 = "java/lang/IllegalArgumentException" then P 2 a6 r7 n8 else False)))) : Sp G (d + 1) 1 6 ML_look [.ref l0, .int l1, .int l2, .ref l3] (a, r, N) (RI P) := Sp.mk (mc := (0 + 1)) (ms := (0 + 6)) [.ref l0, .int l1, .int l2, .ref l3, .null] rfl rfl rfl rfl (T_L_look_0 (C := 0) (S := 0) _ _ _ hs)
theorem dL_right_0 : decode cL_right 0 = .ok (.aload_n 2, 1) := by decide +kernel
theorem dL_right_1 : decode cL_right 1 = .ok (.iconst 0, 1) := by decide +kernel
theorem dL_right_2 : decode cL_right 2 = .ok (.aload_n 0, 1) := by decide +kernel
theorem dL_right_3 : decode cL_right 3 = .ok (.iload_n 1, 1) := by decide +kernel
theorem dL_right_4 : decode cL_right 4 = .ok (.invokevirtual 80, 3) := by decide +kernel
theorem dL_right_7 : decode cL_right 7 = .ok (.i2l, 1) := by decide +kernel
theorem dL_right_8 : decode cL_right 8 = .ok (.lastore, 1) := by decide +kernel
theorem dL_right_9 : decode cL_right 9 = .ok (.goto 6, 3) := by decide +kernel
theorem dL_right_12 : decode cL_right 12 = .ok (.astore_n 3, 1) := by decide +kernel
theorem dL_right_13 : decode cL_right 13 = .ok (.iconst 1, 1) := by decide +kernel
theorem dL_right_14 : decode cL_right 14 = .ok (.ireturn, 1) := by decide +kernel
theorem dL_right_15 : decode cL_right 15 = .ok (.iconst 0, 1) := by decide +kernel
theorem dL_right_16 : decode cL_right 16 = .ok (.ireturn, 1) := by decide +kernel
theorem hn_L_right_0 : HnOK ML_right 4 "java/util/NoSuchElementException" 13 3 := ⟨[], [], ⟨0, 9, 12, 31⟩, "java/util/NoSuchElementException", rfl, (fun z hz => nomatch hz), by decide, by decide, q_1200, q_1215, by decide, Or.inl ⟨3, dL_right_12, rfl, rfl⟩⟩
set_option maxRecDepth 100000 in
theorem T_L_right_0 {G : GE} {d C S : Nat} {P : KI} : Snd G ML_right (d + 1) (C + 1) (S + 6) 0 (RI P) (s_aload 2 (s_iconst 0 (s_aload 0 (s_iload 1 (s_callVH G d MX11_right 1 10 [("java/util/NoSuchElementException", 13, 3, (s_iconst 1 (s_ireturn P)))] (s_i2l (s_lastore (s_iconst 0 (s_ireturn P))))))))) := (e_aload_n dL_right_0 rfl (e_iconst (v := 0) dL_right_1 (by decide) (e_aload_n dL_right_2 rfl (e_iload_n dL_right_3 rfl (e_callVH (hds := [("java/util/NoSuchElementException", 13, 3, (s_iconst 1 (s_ireturn P)))]) cl_10 cal_X11_right q_1458 q_1459 q_1460 dL_right_4 (List.forall_mem_cons.mpr ⟨⟨hn_L_right_0, (e_iconst (v := 1) dL_right_13 (by decide) (e_ireturn rfl dL_right_14))⟩, fun _ h => nomatch h⟩) (e_i2l dL_right_7 (e_lastore dL_right_8 (e_goto (tgt := 15) dL_right_9 (by decide) (e_iconst (v := 0) dL_right_15 (by decide) (e_ireturn rfl dL_right_16))))))))))
set_option maxRecDepth 100000 in
theorem V_L_right_0 {G : GE} {d : Nat} {P : KI} {a : Nat → Nat → Int32} {r : Nat → Nat → Value} {N : Nat} {l0 : Nat} {l1 : Int32} {l2 : Nat} (hs : (tyK l0 = (0, 10) ∧ l0 < N ∧ (Sp G d 0 0 MX11_right [.ref l0, .int l1] (a, r, N) (RI fun v13 a10 r11 n12 => ((tyK l2).1 = 4 ∧ l2 < n12 ∧ vp_in 0 (tyK l2).2 ∧ ∀ r14, r14 = u2V r11 l2 (0 : Int32).toNatClampNeg (.long ((v13 : Int32).toInt64)) → P 0 a10 r14 n12)) ∨ Sp G d 1 6 MX11_right [.ref l0, .int l1] (a, r, N) (RX fun e9 a6 r7 n8 => if e9 = "java/util/NoSuchElementException" then P 1 a6 r7 n8 else False)))) : Sp G (d + 1) 1 6 ML_right [.ref l0, .int l1, .ref l2] (a, r, N) (RI P) := Sp.mk (mc := (0 + 1)) (ms := (0 + 6)) [.ref l0, .int l1, .ref l2, .null] rfl rfl rfl rfl (T_L_right_0 (C := 0) (S := 0) _ _ _ hs)
theorem dL_suitors_0 : decode cL_suitors 0 = .ok (.aload 5, 2) := by decide +kernel
theorem dL_suitors_2 : decode cL_suitors 2 = .ok (.iconst 0, 1) := by decide +kernel
theorem dL_suitors_3 : decode cL_suitors 3 = .ok (.aload_n 0, 1) := by decide +kernel
theorem dL_suitors_4 : decode cL_suitors 4 = .ok (.iload_n 1, 1) := by decide +kernel
theorem dL_suitors_5 : decode cL_suitors 5 = .ok (.iload_n 2, 1) := by decide +kernel
theorem dL_suitors_6 : decode cL_suitors 6 = .ok (.iload_n 3, 1) := by decide +kernel
theorem dL_suitors_7 : decode cL_suitors 7 = .ok (.iload 4, 2) := by decide +kernel
theorem dL_suitors_9 : decode cL_suitors 9 = .ok (.invokevirtual 83, 3) := by decide +kernel
theorem dL_suitors_12 : decode cL_suitors 12 = .ok (.i2l, 1) := by decide +kernel
theorem dL_suitors_13 : decode cL_suitors 13 = .ok (.lastore, 1) := by decide +kernel
theorem dL_suitors_14 : decode cL_suitors 14 = .ok (.goto 7, 3) := by decide +kernel
theorem dL_suitors_17 : decode cL_suitors 17 = .ok (.astore 6, 2) := by decide +kernel
theorem dL_suitors_19 : decode cL_suitors 19 = .ok (.iconst 1, 1) := by decide +kernel
theorem dL_suitors_20 : decode cL_suitors 20 = .ok (.ireturn, 1) := by decide +kernel
theorem dL_suitors_21 : decode cL_suitors 21 = .ok (.iconst 0, 1) := by decide +kernel
theorem dL_suitors_22 : decode cL_suitors 22 = .ok (.ireturn, 1) := by decide +kernel
theorem hn_L_suitors_0 : HnOK ML_suitors 9 "java/lang/IllegalArgumentException" 19 6 := ⟨[], [], ⟨0, 14, 17, 13⟩, "java/lang/IllegalArgumentException", rfl, (fun z hz => nomatch hz), by decide, by decide, q_706, q_721, by decide, Or.inr ⟨dL_suitors_17, rfl⟩⟩
set_option maxRecDepth 100000 in
theorem T_L_suitors_0 {G : GE} {d C S : Nat} {P : KI} : Snd G ML_suitors (d + 1) (C + 1) (S + 6) 0 (RI P) (s_aload 5 (s_iconst 0 (s_aload 0 (s_iload 1 (s_iload 2 (s_iload 3 (s_iload 4 (s_callVH G d MX11_suitors 4 10 [("java/lang/IllegalArgumentException", 19, 6, (s_iconst 1 (s_ireturn P)))] (s_i2l (s_lastore (s_iconst 0 (s_ireturn P)))))))))))) := (e_aload dL_suitors_0 (e_iconst (v := 0) dL_suitors_2 (by decide) (e_aload_n dL_suitors_3 rfl (e_iload_n dL_suitors_4 rfl (e_iload_n dL_suitors_5 rfl (e_iload_n dL_suitors_6 rfl (e_iload dL_suitors_7 (e_callVH (hds := [("java/lang/IllegalArgumentException", 19, 6, (s_iconst 1 (s_ireturn P)))]) cl_10 cal_X11_suitors q_1466 q_1467 q_1468 dL_suitors_9 (List.forall_mem_cons.mpr ⟨⟨hn_L_suitors_0, (e_iconst (v := 1) dL_suitors_19 (by decide) (e_ireturn rfl dL_suitors_20))⟩, fun _ h => nomatch h⟩) (e_i2l dL_suitors_12 (e_lastore dL_suitors_13 (e_goto (tgt := 21) dL_suitors_14 (by decide) (e_iconst (v := 0) dL_suitors_21 (by decide) (e_ireturn rfl dL_suitors_22)))))))))))))
set_option maxRecDepth 100000 in
theorem V_L_suitors_0 {G : GE} {d : Nat} {P : KI} {a : Nat → Nat → Int32} {r : Nat → Nat → Value} {N : Nat} {l0 : Nat} {l1 : Int32} {l2 : Int32} {l3 : Int32} {l4 : Int32} {l5 : Nat} (hs : (tyK l0 = (0, 10) ∧ l0 < N ∧ (Sp G d 0 0 MX11_suitors [.ref l0, .int l1, .int l2, .int l3, .int l4] (a, r, N) (RI fun v13 a10 r11 n12 => ((tyK l5).1 = 4 ∧ l5 < n12 ∧ vp_in 0 (tyK l5).2 ∧ ∀ r14, r14 = u2V r11 l5 (0 : Int32).toNatClampNeg (.long ((v13 : Int32).toInt64)) → P 0 a10 r14 n12)) ∨ Sp G d 1 6 MX11_suitors [.ref l0, .int l1, .int l2, .int l3, .int l4] (a, r, N) (RX fun e9 a6 r7 n8 => if e9 = "java/lang/IllegalArgumentException" then P 1 a6 r7 n8 else False)))) : Sp G (d + 1) 1 6 ML_suitors [.ref l0, .int l1, .int l2, .int l3, .int l4, .ref l5] (a, r, N) (RI P) := Sp.mk (mc := (0 + 1)) (ms := (0 + 6)) [.ref l0, .int l1, .int l2, .int l3, .int l4, .ref l5, .null] rfl rfl rfl rfl (T_L_suitors_0 (C := 0) (S := 0) _ _ _ hs)
theorem dL_gets_0 : decode cL_gets 0 = .ok (.aload 4, 2) := by decide +kernel
theorem dL_gets_2 : decode cL_gets 2 = .ok (.iconst 0, 1) := by decide +kernel
theorem dL_gets_3 : decode cL_gets 3 = .ok (.aload_n 0, 1) := by decide +kernel
theorem dL_gets_4 : decode cL_gets 4 = .ok (.iload_n 1, 1) := by decide +kernel
theorem dL_gets_5 : decode cL_gets 5 = .ok (.iload_n 2, 1) := by decide +kernel
theorem dL_gets_6 : decode cL_gets 6 = .ok (.iload_n 3, 1) := by decide +kernel
theorem dL_gets_7 : decode cL_gets 7 = .ok (.invokevirtual 87, 3) := by decide +kernel
theorem dL_gets_10 : decode cL_gets 10 = .ok (.i2l, 1) := by decide +kernel
theorem dL_gets_11 : decode cL_gets 11 = .ok (.lastore, 1) := by decide +kernel
theorem dL_gets_12 : decode cL_gets 12 = .ok (.goto 7, 3) := by decide +kernel
theorem dL_gets_15 : decode cL_gets 15 = .ok (.astore 5, 2) := by decide +kernel
theorem dL_gets_17 : decode cL_gets 17 = .ok (.iconst 1, 1) := by decide +kernel
theorem dL_gets_18 : decode cL_gets 18 = .ok (.ireturn, 1) := by decide +kernel
theorem dL_gets_19 : decode cL_gets 19 = .ok (.iconst 0, 1) := by decide +kernel
theorem dL_gets_20 : decode cL_gets 20 = .ok (.ireturn, 1) := by decide +kernel
theorem hn_L_gets_0 : HnOK ML_gets 7 "java/lang/IllegalArgumentException" 17 5 := ⟨[], [], ⟨0, 12, 15, 13⟩, "java/lang/IllegalArgumentException", rfl, (fun z hz => nomatch hz), by decide, by decide, q_706, q_721, by decide, Or.inr ⟨dL_gets_15, rfl⟩⟩
set_option maxRecDepth 100000 in
theorem T_L_gets_0 {G : GE} {d C S : Nat} {P : KI} : Snd G ML_gets (d + 1) (C + 1) (S + 6) 0 (RI P) (s_aload 4 (s_iconst 0 (s_aload 0 (s_iload 1 (s_iload 2 (s_iload 3 (s_callVH G d MX11_gets 3 10 [("java/lang/IllegalArgumentException", 17, 5, (s_iconst 1 (s_ireturn P)))] (s_i2l (s_lastore (s_iconst 0 (s_ireturn P))))))))))) := (e_aload dL_gets_0 (e_iconst (v := 0) dL_gets_2 (by decide) (e_aload_n dL_gets_3 rfl (e_iload_n dL_gets_4 rfl (e_iload_n dL_gets_5 rfl (e_iload_n dL_gets_6 rfl (e_callVH (hds := [("java/lang/IllegalArgumentException", 17, 5, (s_iconst 1 (s_ireturn P)))]) cl_10 cal_X11_gets q_1493 q_1494 q_1495 dL_gets_7 (List.forall_mem_cons.mpr ⟨⟨hn_L_gets_0, (e_iconst (v := 1) dL_gets_17 (by decide) (e_ireturn rfl dL_gets_18))⟩, fun _ h => nomatch h⟩) (e_i2l dL_gets_10 (e_lastore dL_gets_11 (e_goto (tgt := 19) dL_gets_12 (by decide) (e_iconst (v := 0) dL_gets_19 (by decide) (e_ireturn rfl dL_gets_20))))))))))))
set_option maxRecDepth 100000 in
theorem V_L_gets_0 {G : GE} {d : Nat} {P : KI} {a : Nat → Nat → Int32} {r : Nat → Nat → Value} {N : Nat} {l0 : Nat} {l1 : Int32} {l2 : Int32} {l3 : Int32} {l4 : Nat} (hs : (tyK l0 = (0, 10) ∧ l0 < N ∧ (Sp G d 0 0 MX11_gets [.ref l0, .int l1, .int l2, .int l3] (a, r, N) (RI fun v13 a10 r11 n12 => ((tyK l4).1 = 4 ∧ l4 < n12 ∧ vp_in 0 (tyK l4).2 ∧ ∀ r14, r14 = u2V r11 l4 (0 : Int32).toNatClampNeg (.long ((v13 : Int32).toInt64)) → P 0 a10 r14 n12)) ∨ Sp G d 1 6 MX11_gets [.ref l0, .int l1, .int l2, .int l3] (a, r, N) (RX fun e9 a6 r7 n8 => if e9 = "java/lang/IllegalArgumentException" then P 1 a6 r7 n8 else False)))) : Sp G (d + 1) 1 6 ML_gets [.ref l0, .int l1, .int l2, .int l3, .ref l4] (a, r, N) (RI P) := Sp.mk (mc := (0 + 1)) (ms := (0 + 6)) [.ref l0, .int l1, .int l2, .int l3, .ref l4, .null] rfl rfl rfl rfl (T_L_gets_0 (C := 0) (S := 0) _ _ _ hs)
theorem dL_ahead_0 : decode cL_ahead 0 = .ok (.aload_n 3, 1) := by decide +kernel
theorem dL_ahead_1 : decode cL_ahead 1 = .ok (.iconst 0, 1) := by decide +kernel
theorem dL_ahead_2 : decode cL_ahead 2 = .ok (.aload_n 0, 1) := by decide +kernel
theorem dL_ahead_3 : decode cL_ahead 3 = .ok (.iload_n 1, 1) := by decide +kernel
theorem dL_ahead_4 : decode cL_ahead 4 = .ok (.iload_n 2, 1) := by decide +kernel
theorem dL_ahead_5 : decode cL_ahead 5 = .ok (.invokevirtual 91, 3) := by decide +kernel
theorem dL_ahead_8 : decode cL_ahead 8 = .ok (.i2l, 1) := by decide +kernel
theorem dL_ahead_9 : decode cL_ahead 9 = .ok (.lastore, 1) := by decide +kernel
theorem dL_ahead_10 : decode cL_ahead 10 = .ok (.goto 7, 3) := by decide +kernel
theorem dL_ahead_13 : decode cL_ahead 13 = .ok (.astore 4, 2) := by decide +kernel
theorem dL_ahead_15 : decode cL_ahead 15 = .ok (.iconst 1, 1) := by decide +kernel
theorem dL_ahead_16 : decode cL_ahead 16 = .ok (.ireturn, 1) := by decide +kernel
theorem dL_ahead_17 : decode cL_ahead 17 = .ok (.iconst 0, 1) := by decide +kernel
theorem dL_ahead_18 : decode cL_ahead 18 = .ok (.ireturn, 1) := by decide +kernel
theorem hn_L_ahead_0 : HnOK ML_ahead 5 "java/lang/IllegalArgumentException" 15 4 := ⟨[], [], ⟨0, 10, 13, 13⟩, "java/lang/IllegalArgumentException", rfl, (fun z hz => nomatch hz), by decide, by decide, q_706, q_721, by decide, Or.inr ⟨dL_ahead_13, rfl⟩⟩
set_option maxRecDepth 100000 in
theorem T_L_ahead_0 {G : GE} {d C S : Nat} {P : KI} : Snd G ML_ahead (d + 1) (C + 1) (S + 6) 0 (RI P) (s_aload 3 (s_iconst 0 (s_aload 0 (s_iload 1 (s_iload 2 (s_callVH G d MX11_ahead 2 10 [("java/lang/IllegalArgumentException", 15, 4, (s_iconst 1 (s_ireturn P)))] (s_i2l (s_lastore (s_iconst 0 (s_ireturn P)))))))))) := (e_aload_n dL_ahead_0 rfl (e_iconst (v := 0) dL_ahead_1 (by decide) (e_aload_n dL_ahead_2 rfl (e_iload_n dL_ahead_3 rfl (e_iload_n dL_ahead_4 rfl (e_callVH (hds := [("java/lang/IllegalArgumentException", 15, 4, (s_iconst 1 (s_ireturn P)))]) cl_10 cal_X11_ahead q_1501 q_1502 q_1503 dL_ahead_5 (List.forall_mem_cons.mpr ⟨⟨hn_L_ahead_0, (e_iconst (v := 1) dL_ahead_15 (by decide) (e_ireturn rfl dL_ahead_16))⟩, fun _ h => nomatch h⟩) (e_i2l dL_ahead_8 (e_lastore dL_ahead_9 (e_goto (tgt := 17) dL_ahead_10 (by decide) (e_iconst (v := 0) dL_ahead_17 (by decide) (e_ireturn rfl dL_ahead_18)))))))))))
set_option maxRecDepth 100000 in
theorem V_L_ahead_0 {G : GE} {d : Nat} {P : KI} {a : Nat → Nat → Int32} {r : Nat → Nat → Value} {N : Nat} {l0 : Nat} {l1 : Int32} {l2 : Int32} {l3 : Nat} (hs : (tyK l0 = (0, 10) ∧ l0 < N ∧ (Sp G d 0 0 MX11_ahead [.ref l0, .int l1, .int l2] (a, r, N) (RI fun v13 a10 r11 n12 => ((tyK l3).1 = 4 ∧ l3 < n12 ∧ vp_in 0 (tyK l3).2 ∧ ∀ r14, r14 = u2V r11 l3 (0 : Int32).toNatClampNeg (.long ((v13 : Int32).toInt64)) → P 0 a10 r14 n12)) ∨ Sp G d 1 6 MX11_ahead [.ref l0, .int l1, .int l2] (a, r, N) (RX fun e9 a6 r7 n8 => if e9 = "java/lang/IllegalArgumentException" then P 1 a6 r7 n8 else False)))) : Sp G (d + 1) 1 6 ML_ahead [.ref l0, .int l1, .int l2, .ref l3] (a, r, N) (RI P) := Sp.mk (mc := (0 + 1)) (ms := (0 + 6)) [.ref l0, .int l1, .int l2, .ref l3, .null] rfl rfl rfl rfl (T_L_ahead_0 (C := 0) (S := 0) _ _ _ hs)
theorem dL_centuries_0 : decode cL_centuries 0 = .ok (.aload 5, 2) := by decide +kernel
theorem dL_centuries_2 : decode cL_centuries 2 = .ok (.iconst 0, 1) := by decide +kernel
theorem dL_centuries_3 : decode cL_centuries 3 = .ok (.aload_n 0, 1) := by decide +kernel
theorem dL_centuries_4 : decode cL_centuries 4 = .ok (.iload_n 1, 1) := by decide +kernel
theorem dL_centuries_5 : decode cL_centuries 5 = .ok (.iload_n 2, 1) := by decide +kernel
theorem dL_centuries_6 : decode cL_centuries 6 = .ok (.iload_n 3, 1) := by decide +kernel
theorem dL_centuries_7 : decode cL_centuries 7 = .ok (.iload 4, 2) := by decide +kernel
theorem dL_centuries_9 : decode cL_centuries 9 = .ok (.invokevirtual 94, 3) := by decide +kernel
theorem dL_centuries_12 : decode cL_centuries 12 = .ok (.i2l, 1) := by decide +kernel
theorem dL_centuries_13 : decode cL_centuries 13 = .ok (.lastore, 1) := by decide +kernel
theorem dL_centuries_14 : decode cL_centuries 14 = .ok (.goto 7, 3) := by decide +kernel
theorem dL_centuries_17 : decode cL_centuries 17 = .ok (.astore 6, 2) := by decide +kernel
theorem dL_centuries_19 : decode cL_centuries 19 = .ok (.iconst 1, 1) := by decide +kernel
theorem dL_centuries_20 : decode cL_centuries 20 = .ok (.ireturn, 1) := by decide +kernel
theorem dL_centuries_21 : decode cL_centuries 21 = .ok (.iconst 0, 1) := by decide +kernel
theorem dL_centuries_22 : decode cL_centuries 22 = .ok (.ireturn, 1) := by decide +kernel
theorem hn_L_centuries_0 : HnOK ML_centuries 9 "java/lang/IllegalArgumentException" 19 6 := ⟨[], [], ⟨0, 14, 17, 13⟩, "java/lang/IllegalArgumentException", rfl, (fun z hz => nomatch hz), by decide, by decide, q_706, q_721, by decide, Or.inr ⟨dL_centuries_17, rfl⟩⟩
set_option maxRecDepth 100000 in
theorem T_L_centuries_0 {G : GE} {d C S : Nat} {P : KI} : Snd G ML_centuries (d + 1) (C + 1) (S + 6) 0 (RI P) (s_aload 5 (s_iconst 0 (s_aload 0 (s_iload 1 (s_iload 2 (s_iload 3 (s_iload 4 (s_callVH G d MX11_centuries 4 10 [("java/lang/IllegalArgumentException", 19, 6, (s_iconst 1 (s_ireturn P)))] (s_i2l (s_lastore (s_iconst 0 (s_ireturn P)))))))))))) := (e_aload dL_centuries_0 (e_iconst (v := 0) dL_centuries_2 (by decide) (e_aload_n dL_centuries_3 rfl (e_iload_n dL_centuries_4 rfl (e_iload_n dL_centuries_5 rfl (e_iload_n dL_centuries_6 rfl (e_iload dL_centuries_7 (e_callVH (hds := [("java/lang/IllegalArgumentException", 19, 6, (s_iconst 1 (s_ireturn P)))]) cl_10 cal_X11_centuries q_1518 q_1519 q_1520 dL_centuries_9 (List.forall_mem_cons.mpr ⟨⟨hn_L_centuries_0, (e_iconst (v := 1) dL_centuries_19 (by decide) (e_ireturn rfl dL_centuries_20))⟩, fun _ h => nomatch h⟩) (e_i2l dL_centuries_12 (e_lastore dL_centuries_13 (e_goto (tgt := 21) dL_centuries_14 (by decide) (e_iconst (v := 0) dL_centuries_21 (by decide) (e_ireturn rfl dL_centuries_22)))))))))))))
set_option maxRecDepth 100000 in
theorem V_L_centuries_0 {G : GE} {d : Nat} {P : KI} {a : Nat → Nat → Int32} {r : Nat → Nat → Value} {N : Nat} {l0 : Nat} {l1 : Int32} {l2 : Int32} {l3 : Int32} {l4 : Int32} {l5 : Nat} (hs : (tyK l0 = (0, 10) ∧ l0 < N ∧ (Sp G d 0 0 MX11_centuries [.ref l0, .int l1, .int l2, .int l3, .int l4] (a, r, N) (RI fun v13 a10 r11 n12 => ((tyK l5).1 = 4 ∧ l5 < n12 ∧ vp_in 0 (tyK l5).2 ∧ ∀ r14, r14 = u2V r11 l5 (0 : Int32).toNatClampNeg (.long ((v13 : Int32).toInt64)) → P 0 a10 r14 n12)) ∨ Sp G d 1 6 MX11_centuries [.ref l0, .int l1, .int l2, .int l3, .int l4] (a, r, N) (RX fun e9 a6 r7 n8 => if e9 = "java/lang/IllegalArgumentException" then P 1 a6 r7 n8 else False)))) : Sp G (d + 1) 1 6 ML_centuries [.ref l0, .int l1, .int l2, .int l3, .int l4, .ref l5] (a, r, N) (RI P) := Sp.mk (mc := (0 + 1)) (ms := (0 + 6)) [.ref l0, .int l1, .int l2, .int l3, .int l4, .ref l5, .null] rfl rfl rfl rfl (T_L_centuries_0 (C := 0) (S := 0) _ _ _ hs)
theorem dL_span_0 : decode cL_span 0 = .ok (.aload 7, 2) := by decide +kernel
theorem dL_span_2 : decode cL_span 2 = .ok (.iconst 0, 1) := by decide +kernel
theorem dL_span_3 : decode cL_span 3 = .ok (.aload_n 0, 1) := by decide +kernel
theorem dL_span_4 : decode cL_span 4 = .ok (.iload_n 1, 1) := by decide +kernel
theorem dL_span_5 : decode cL_span 5 = .ok (.iload_n 2, 1) := by decide +kernel
theorem dL_span_6 : decode cL_span 6 = .ok (.iload_n 3, 1) := by decide +kernel
theorem dL_span_7 : decode cL_span 7 = .ok (.iload 4, 2) := by decide +kernel
theorem dL_span_9 : decode cL_span 9 = .ok (.iload 5, 2) := by decide +kernel
theorem dL_span_11 : decode cL_span 11 = .ok (.iload 6, 2) := by decide +kernel
theorem dL_span_13 : decode cL_span 13 = .ok (.invokevirtual 97, 3) := by decide +kernel
theorem dL_span_16 : decode cL_span 16 = .ok (.i2l, 1) := by decide +kernel
theorem dL_span_17 : decode cL_span 17 = .ok (.lastore, 1) := by decide +kernel
theorem dL_span_18 : decode cL_span 18 = .ok (.goto 7, 3) := by decide +kernel
theorem dL_span_21 : decode cL_span 21 = .ok (.astore 8, 2) := by decide +kernel
theorem dL_span_23 : decode cL_span 23 = .ok (.iconst 1, 1) := by decide +kernel
theorem dL_span_24 : decode cL_span 24 = .ok (.ireturn, 1) := by decide +kernel
theorem dL_span_25 : decode cL_span 25 = .ok (.iconst 0, 1) := by decide +kernel
theorem dL_span_26 : decode cL_span 26 = .ok (.ireturn, 1) := by decide +kernel
theorem hn_L_span_0 : HnOK ML_span 13 "java/lang/IllegalArgumentException" 23 8 := ⟨[], [], ⟨0, 18, 21, 13⟩, "java/lang/IllegalArgumentException", rfl, (fun z hz => nomatch hz), by decide, by decide, q_706, q_721, by decide, Or.inr ⟨dL_span_21, rfl⟩⟩
set_option maxRecDepth 100000 in
theorem T_L_span_0 {G : GE} {d C S : Nat} {P : KI} : Snd G ML_span (d + 1) (C + 1) (S + 6) 0 (RI P) (s_aload 7 (s_iconst 0 (s_aload 0 (s_iload 1 (s_iload 2 (s_iload 3 (s_iload 4 (s_iload 5 (s_iload 6 (s_callVH G d MX11_span 6 10 [("java/lang/IllegalArgumentException", 23, 8, (s_iconst 1 (s_ireturn P)))] (s_i2l (s_lastore (s_iconst 0 (s_ireturn P)))))))))))))) := (e_aload dL_span_0 (e_iconst (v := 0) dL_span_2 (by decide) (e_aload_n dL_span_3 rfl (e_iload_n dL_span_4 rfl (e_iload_n dL_span_5 rfl (e_iload_n dL_span_6 rfl (e_iload dL_span_7 (e_iload dL_span_9 (e_iload dL_span_11 (e_callVH (hds := [("java/lang/IllegalArgumentException", 23, 8, (s_iconst 1 (s_ireturn P)))]) cl_10 cal_X11_span q_1541 q_1542 q_1543 dL_span_13 (List.forall_mem_cons.mpr ⟨⟨hn_L_span_0, (e_iconst (v := 1) dL_span_23 (by decide) (e_ireturn rfl dL_span_24))⟩, fun _ h => nomatch h⟩) (e_i2l dL_span_16 (e_lastore dL_span_17 (e_goto (tgt := 25) dL_span_18 (by decide) (e_iconst (v := 0) dL_span_25 (by decide) (e_ireturn rfl dL_span_26)))))))))))))))
set_option maxRecDepth 100000 in
theorem V_L_span_0 {G : GE} {d : Nat} {P : KI} {a : Nat → Nat → Int32} {r : Nat → Nat → Value} {N : Nat} {l0 : Nat} {l1 : Int32} {l2 : Int32} {l3 : Int32} {l4 : Int32} {l5 : Int32} {l6 : Int32} {l7 : Nat} (hs : (tyK l0 = (0, 10) ∧ l0 < N ∧ (Sp G d 0 0 MX11_span [.ref l0, .int l1, .int l2, .int l3, .int l4, .int l5, .int l6] (a, r, N) (RI fun v13 a10 r11 n12 => ((tyK l7).1 = 4 ∧ l7 < n12 ∧ vp_in 0 (tyK l7).2 ∧ ∀ r14, r14 = u2V r11 l7 (0 : Int32).toNatClampNeg (.long ((v13 : Int32).toInt64)) → P 0 a10 r14 n12)) ∨ Sp G d 1 6 MX11_span [.ref l0, .int l1, .int l2, .int l3, .int l4, .int l5, .int l6] (a, r, N) (RX fun e9 a6 r7 n8 => if e9 = "java/lang/IllegalArgumentException" then P 1 a6 r7 n8 else False)))) : Sp G (d + 1) 1 6 ML_span [.ref l0, .int l1, .int l2, .int l3, .int l4, .int l5, .int l6, .ref l7] (a, r, N) (RI P) := Sp.mk (mc := (0 + 1)) (ms := (0 + 6)) [.ref l0, .int l1, .int l2, .int l3, .int l4, .int l5, .int l6, .ref l7, .null] rfl rfl rfl rfl (T_L_span_0 (C := 0) (S := 0) _ _ _ hs)
