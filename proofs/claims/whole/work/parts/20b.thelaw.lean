theorem dL_letter_0 : decode cL_letter 0 = .ok (.aload_n 3, 1) := by decide +kernel
theorem dL_letter_1 : decode cL_letter 1 = .ok (.iconst 0, 1) := by decide +kernel
theorem dL_letter_2 : decode cL_letter 2 = .ok (.aload_n 0, 1) := by decide +kernel
theorem dL_letter_3 : decode cL_letter 3 = .ok (.iload_n 1, 1) := by decide +kernel
theorem dL_letter_4 : decode cL_letter 4 = .ok (.iload_n 2, 1) := by decide +kernel
theorem dL_letter_5 : decode cL_letter 5 = .ok (.invokevirtual 44, 3) := by decide +kernel
theorem dL_letter_8 : decode cL_letter 8 = .ok (.i2l, 1) := by decide +kernel
theorem dL_letter_9 : decode cL_letter 9 = .ok (.lastore, 1) := by decide +kernel
theorem dL_letter_10 : decode cL_letter 10 = .ok (.goto 11, 3) := by decide +kernel
theorem dL_letter_13 : decode cL_letter 13 = .ok (.astore 4, 2) := by decide +kernel
theorem dL_letter_15 : decode cL_letter 15 = .ok (.iconst 1, 1) := by decide +kernel
theorem dL_letter_16 : decode cL_letter 16 = .ok (.ireturn, 1) := by decide +kernel
theorem dL_letter_17 : decode cL_letter 17 = .ok (.astore 4, 2) := by decide +kernel
theorem dL_letter_19 : decode cL_letter 19 = .ok (.iconst 2, 1) := by decide +kernel
theorem dL_letter_20 : decode cL_letter 20 = .ok (.ireturn, 1) := by decide +kernel
theorem dL_letter_21 : decode cL_letter 21 = .ok (.iconst 0, 1) := by decide +kernel
theorem dL_letter_22 : decode cL_letter 22 = .ok (.ireturn, 1) := by decide +kernel
theorem hn_L_letter_0 : HnOK ML_letter 5 "java/util/NoSuchElementException" 15 4 := ⟨[], [⟨0, 10, 17, 13⟩], ⟨0, 10, 13, 31⟩, "java/util/NoSuchElementException", rfl, (fun z hz => nomatch hz), by decide, by decide, q_1200, q_1215, by decide, Or.inr ⟨dL_letter_13, rfl⟩⟩
theorem hn_L_letter_1 : HnOK ML_letter 5 "java/lang/IllegalArgumentException" 19 4 := ⟨[⟨0, 10, 13, 31⟩], [], ⟨0, 10, 17, 13⟩, "java/lang/IllegalArgumentException", rfl, (fun z hz => by cases List.mem_singleton.mp hz; exact ⟨by decide, "java/util/NoSuchElementException", q_1200, by decide +kernel⟩), by decide, by decide, q_706, q_721, by decide, Or.inr ⟨dL_letter_17, rfl⟩⟩
set_option maxRecDepth 100000 in
theorem T_L_letter_0 {G : GE} {d C S : Nat} {P : KI} : Snd G ML_letter (d + 1) (C + 1) (S + 6) 0 (RI P) (s_aload 3 (s_iconst 0 (s_aload 0 (s_iload 1 (s_iload 2 (s_callVH G d MX11_letter 2 10 [("java/util/NoSuchElementException", 15, 4, (s_iconst 1 (s_ireturn P))), ("java/lang/IllegalArgumentException", 19, 4, (s_iconst 2 (s_ireturn P)))] (s_i2l (s_lastore (s_iconst 0 (s_ireturn P)))))))))) := (e_aload_n dL_letter_0 rfl (e_iconst (v := 0) dL_letter_1 (by decide) (e_aload_n dL_letter_2 rfl (e_iload_n dL_letter_3 rfl (e_iload_n dL_letter_4 rfl (e_callVH (hds := [("java/util/NoSuchElementException", 15, 4, (s_iconst 1 (s_ireturn P))), ("java/lang/IllegalArgumentException", 19, 4, (s_iconst 2 (s_ireturn P)))]) cl_10 cal_X11_letter q_1291 q_1292 q_1293 dL_letter_5 (List.forall_mem_cons.mpr ⟨⟨hn_L_letter_0, (e_iconst (v := 1) dL_letter_15 (by decide) (e_ireturn rfl dL_letter_16))⟩, List.forall_mem_cons.mpr ⟨⟨hn_L_letter_1, (e_iconst (v := 2) dL_letter_19 (by decide) (e_ireturn rfl dL_letter_20))⟩, fun _ h => nomatch h⟩⟩) (e_i2l dL_letter_8 (e_lastore dL_letter_9 (e_goto (tgt := 21) dL_letter_10 (by decide) (e_iconst (v := 0) dL_letter_21 (by decide) (e_ireturn rfl dL_letter_22)))))))))))
set_option maxRecDepth 100000 in
theorem V_L_letter_0 {G : GE} {d : Nat} {P : KI} {a : Nat → Nat → Int32} {r : Nat → Nat → Value} {N : Nat} {l0 : Nat} {l1 : Int32} {l2 : Int32} {l3 : Nat} (hs : (tyK l0 = (0, 10) ∧ l0 < N ∧ (Sp G d 0 0 MX11_letter [.ref l0, .int l1, .int l2] (a, r, N) (RI fun v13 a10 r11 n12 => ((tyK l3).1 = 4 ∧ l3 < n12 ∧ vp_in 0 (tyK l3).2 ∧ ∀ r14, r14 = u2V r11 l3 (0 : Int32).toNatClampNeg (.long ((v13 : Int32).toInt64)) → P 0 a10 r14 n12)) ∨ Sp G d 1 6 MX11_letter [.ref l0, .int l1, .int l2] (a, r, N) (RX fun e9 a6 r7 n8 => if e9 = "java/util/NoSuchElementException" then P 1 a6 r7 n8 else if e9 = "java/lang/IllegalArgumentException" then P 2 a6 r7 n8 else False)))) : Sp G (d + 1) 1 6 ML_letter [.ref l0, .int l1, .int l2, .ref l3] (a, r, N) (RI P) := Sp.mk (mc := (0 + 1)) (ms := (0 + 6)) [.ref l0, .int l1, .int l2, .ref l3, .null] rfl rfl rfl rfl (T_L_letter_0 (C := 0) (S := 0) _ _ _ hs)
theorem dL_last_0 : decode cL_last 0 = .ok (.aload_n 2, 1) := by decide +kernel
theorem dL_last_1 : decode cL_last 1 = .ok (.iconst 0, 1) := by decide +kernel
theorem dL_last_2 : decode cL_last 2 = .ok (.aload_n 0, 1) := by decide +kernel
theorem dL_last_3 : decode cL_last 3 = .ok (.iload_n 1, 1) := by decide +kernel
theorem dL_last_4 : decode cL_last 4 = .ok (.invokevirtual 47, 3) := by decide +kernel
theorem dL_last_7 : decode cL_last 7 = .ok (.i2l, 1) := by decide +kernel
theorem dL_last_8 : decode cL_last 8 = .ok (.lastore, 1) := by decide +kernel
theorem dL_last_9 : decode cL_last 9 = .ok (.goto 6, 3) := by decide +kernel
theorem dL_last_12 : decode cL_last 12 = .ok (.astore_n 3, 1) := by decide +kernel
theorem dL_last_13 : decode cL_last 13 = .ok (.iconst 1, 1) := by decide +kernel
theorem dL_last_14 : decode cL_last 14 = .ok (.ireturn, 1) := by decide +kernel
theorem dL_last_15 : decode cL_last 15 = .ok (.iconst 0, 1) := by decide +kernel
theorem dL_last_16 : decode cL_last 16 = .ok (.ireturn, 1) := by decide +kernel
theorem hn_L_last_0 : HnOK ML_last 4 "java/util/NoSuchElementException" 13 3 := ⟨[], [], ⟨0, 9, 12, 31⟩, "java/util/NoSuchElementException", rfl, (fun z hz => nomatch hz), by decide, by decide, q_1200, q_1215, by decide, Or.inl ⟨3, dL_last_12, rfl, rfl⟩⟩
set_option maxRecDepth 100000 in
theorem T_L_last_0 {G : GE} {d C S : Nat} {P : KI} : Snd G ML_last (d + 1) (C + 1) (S + 6) 0 (RI P) (s_aload 2 (s_iconst 0 (s_aload 0 (s_iload 1 (s_callVH G d MX11_last 1 10 [("java/util/NoSuchElementException", 13, 3, (s_iconst 1 (s_ireturn P)))] (s_i2l (s_lastore (s_iconst 0 (s_ireturn P))))))))) := (e_aload_n dL_last_0 rfl (e_iconst (v := 0) dL_last_1 (by decide) (e_aload_n dL_last_2 rfl (e_iload_n dL_last_3 rfl (e_callVH (hds := [("java/util/NoSuchElementException", 13, 3, (s_iconst 1 (s_ireturn P)))]) cl_10 cal_X11_last q_1306 q_1307 q_1308 dL_last_4 (List.forall_mem_cons.mpr ⟨⟨hn_L_last_0, (e_iconst (v := 1) dL_last_13 (by decide) (e_ireturn rfl dL_last_14))⟩, fun _ h => nomatch h⟩) (e_i2l dL_last_7 (e_lastore dL_last_8 (e_goto (tgt := 15) dL_last_9 (by decide) (e_iconst (v := 0) dL_last_15 (by decide) (e_ireturn rfl dL_last_16))))))))))
set_option maxRecDepth 100000 in
theorem V_L_last_0 {G : GE} {d : Nat} {P : KI} {a : Nat → Nat → Int32} {r : Nat → Nat → Value} {N : Nat} {l0 : Nat} {l1 : Int32} {l2 : Nat} (hs : (tyK l0 = (0, 10) ∧ l0 < N ∧ (Sp G d 0 0 MX11_last [.ref l0, .int l1] (a, r, N) (RI fun v13 a10 r11 n12 => ((tyK l2).1 = 4 ∧ l2 < n12 ∧ vp_in 0 (tyK l2).2 ∧ ∀ r14, r14 = u2V r11 l2 (0 : Int32).toNatClampNeg (.long ((v13 : Int32).toInt64)) → P 0 a10 r14 n12)) ∨ Sp G d 1 6 MX11_last [.ref l0, .int l1] (a, r, N) (RX fun e9 a6 r7 n8 => if e9 = "java/util/NoSuchElementException" then P 1 a6 r7 n8 else False)))) : Sp G (d + 1) 1 6 ML_last [.ref l0, .int l1, .ref l2] (a, r, N) (RI P) := Sp.mk (mc := (0 + 1)) (ms := (0 + 6)) [.ref l0, .int l1, .ref l2, .null] rfl rfl rfl rfl (T_L_last_0 (C := 0) (S := 0) _ _ _ hs)
theorem dL_missing_0 : decode cL_missing 0 = .ok (.aload_n 2, 1) := by decide +kernel
theorem dL_missing_1 : decode cL_missing 1 = .ok (.iconst 0, 1) := by decide +kernel
theorem dL_missing_2 : decode cL_missing 2 = .ok (.aload_n 0, 1) := by decide +kernel
theorem dL_missing_3 : decode cL_missing 3 = .ok (.iload_n 1, 1) := by decide +kernel
theorem dL_missing_4 : decode cL_missing 4 = .ok (.invokevirtual 50, 3) := by decide +kernel
theorem dL_missing_7 : decode cL_missing 7 = .ok (.i2l, 1) := by decide +kernel
theorem dL_missing_8 : decode cL_missing 8 = .ok (.lastore, 1) := by decide +kernel
theorem dL_missing_9 : decode cL_missing 9 = .ok (.goto 6, 3) := by decide +kernel
theorem dL_missing_12 : decode cL_missing 12 = .ok (.astore_n 3, 1) := by decide +kernel
theorem dL_missing_13 : decode cL_missing 13 = .ok (.iconst 1, 1) := by decide +kernel
theorem dL_missing_14 : decode cL_missing 14 = .ok (.ireturn, 1) := by decide +kernel
theorem dL_missing_15 : decode cL_missing 15 = .ok (.iconst 0, 1) := by decide +kernel
theorem dL_missing_16 : decode cL_missing 16 = .ok (.ireturn, 1) := by decide +kernel
theorem hn_L_missing_0 : HnOK ML_missing 4 "java/util/NoSuchElementException" 13 3 := ⟨[], [], ⟨0, 9, 12, 31⟩, "java/util/NoSuchElementException", rfl, (fun z hz => nomatch hz), by decide, by decide, q_1200, q_1215, by decide, Or.inl ⟨3, dL_missing_12, rfl, rfl⟩⟩
set_option maxRecDepth 100000 in
theorem T_L_missing_0 {G : GE} {d C S : Nat} {P : KI} : Snd G ML_missing (d + 1) (C + 1) (S + 6) 0 (RI P) (s_aload 2 (s_iconst 0 (s_aload 0 (s_iload 1 (s_callVH G d MX11_missing 1 10 [("java/util/NoSuchElementException", 13, 3, (s_iconst 1 (s_ireturn P)))] (s_i2l (s_lastore (s_iconst 0 (s_ireturn P))))))))) := (e_aload_n dL_missing_0 rfl (e_iconst (v := 0) dL_missing_1 (by decide) (e_aload_n dL_missing_2 rfl (e_iload_n dL_missing_3 rfl (e_callVH (hds := [("java/util/NoSuchElementException", 13, 3, (s_iconst 1 (s_ireturn P)))]) cl_10 cal_X11_missing q_1317 q_1318 q_1319 dL_missing_4 (List.forall_mem_cons.mpr ⟨⟨hn_L_missing_0, (e_iconst (v := 1) dL_missing_13 (by decide) (e_ireturn rfl dL_missing_14))⟩, fun _ h => nomatch h⟩) (e_i2l dL_missing_7 (e_lastore dL_missing_8 (e_goto (tgt := 15) dL_missing_9 (by decide) (e_iconst (v := 0) dL_missing_15 (by decide) (e_ireturn rfl dL_missing_16))))))))))
set_option maxRecDepth 100000 in
theorem V_L_missing_0 {G : GE} {d : Nat} {P : KI} {a : Nat → Nat → Int32} {r : Nat → Nat → Value} {N : Nat} {l0 : Nat} {l1 : Int32} {l2 : Nat} (hs : (tyK l0 = (0, 10) ∧ l0 < N ∧ (Sp G d 0 0 MX11_missing [.ref l0, .int l1] (a, r, N) (RI fun v13 a10 r11 n12 => ((tyK l2).1 = 4 ∧ l2 < n12 ∧ vp_in 0 (tyK l2).2 ∧ ∀ r14, r14 = u2V r11 l2 (0 : Int32).toNatClampNeg (.long ((v13 : Int32).toInt64)) → P 0 a10 r14 n12)) ∨ Sp G d 1 6 MX11_missing [.ref l0, .int l1] (a, r, N) (RX fun e9 a6 r7 n8 => if e9 = "java/util/NoSuchElementException" then P 1 a6 r7 n8 else False)))) : Sp G (d + 1) 1 6 ML_missing [.ref l0, .int l1, .ref l2] (a, r, N) (RI P) := Sp.mk (mc := (0 + 1)) (ms := (0 + 6)) [.ref l0, .int l1, .ref l2, .null] rfl rfl rfl rfl (T_L_missing_0 (C := 0) (S := 0) _ _ _ hs)
theorem dL_stableFor_0 : decode cL_stableFor 0 = .ok (.aload_n 2, 1) := by decide +kernel
theorem dL_stableFor_1 : decode cL_stableFor 1 = .ok (.iconst 0, 1) := by decide +kernel
theorem dL_stableFor_2 : decode cL_stableFor 2 = .ok (.aload_n 0, 1) := by decide +kernel
theorem dL_stableFor_3 : decode cL_stableFor 3 = .ok (.iload_n 1, 1) := by decide +kernel
theorem dL_stableFor_4 : decode cL_stableFor 4 = .ok (.invokevirtual 53, 3) := by decide +kernel
theorem dL_stableFor_7 : decode cL_stableFor 7 = .ok (.i2l, 1) := by decide +kernel
theorem dL_stableFor_8 : decode cL_stableFor 8 = .ok (.lastore, 1) := by decide +kernel
theorem dL_stableFor_9 : decode cL_stableFor 9 = .ok (.goto 6, 3) := by decide +kernel
theorem dL_stableFor_12 : decode cL_stableFor 12 = .ok (.astore_n 3, 1) := by decide +kernel
theorem dL_stableFor_13 : decode cL_stableFor 13 = .ok (.iconst 1, 1) := by decide +kernel
theorem dL_stableFor_14 : decode cL_stableFor 14 = .ok (.ireturn, 1) := by decide +kernel
theorem dL_stableFor_15 : decode cL_stableFor 15 = .ok (.iconst 0, 1) := by decide +kernel
theorem dL_stableFor_16 : decode cL_stableFor 16 = .ok (.ireturn, 1) := by decide +kernel
theorem hn_L_stableFor_0 : HnOK ML_stableFor 4 "java/util/NoSuchElementException" 13 3 := ⟨[], [], ⟨0, 9, 12, 31⟩, "java/util/NoSuchElementException", rfl, (fun z hz => nomatch hz), by decide, by decide, q_1200, q_1215, by decide, Or.inl ⟨3, dL_stableFor_12, rfl, rfl⟩⟩
set_option maxRecDepth 100000 in
theorem T_L_stableFor_0 {G : GE} {d C S : Nat} {P : KI} : Snd G ML_stableFor (d + 1) (C + 1) (S + 6) 0 (RI P) (s_aload 2 (s_iconst 0 (s_aload 0 (s_iload 1 (s_callVH G d MX11_stableFor 1 10 [("java/util/NoSuchElementException", 13, 3, (s_iconst 1 (s_ireturn P)))] (s_i2l (s_lastore (s_iconst 0 (s_ireturn P))))))))) := (e_aload_n dL_stableFor_0 rfl (e_iconst (v := 0) dL_stableFor_1 (by decide) (e_aload_n dL_stableFor_2 rfl (e_iload_n dL_stableFor_3 rfl (e_callVH (hds := [("java/util/NoSuchElementException", 13, 3, (s_iconst 1 (s_ireturn P)))]) cl_10 cal_X11_stableFor q_1324 q_1325 q_1326 dL_stableFor_4 (List.forall_mem_cons.mpr ⟨⟨hn_L_stableFor_0, (e_iconst (v := 1) dL_stableFor_13 (by decide) (e_ireturn rfl dL_stableFor_14))⟩, fun _ h => nomatch h⟩) (e_i2l dL_stableFor_7 (e_lastore dL_stableFor_8 (e_goto (tgt := 15) dL_stableFor_9 (by decide) (e_iconst (v := 0) dL_stableFor_15 (by decide) (e_ireturn rfl dL_stableFor_16))))))))))
set_option maxRecDepth 100000 in
theorem V_L_stableFor_0 {G : GE} {d : Nat} {P : KI} {a : Nat → Nat → Int32} {r : Nat → Nat → Value} {N : Nat} {l0 : Nat} {l1 : Int32} {l2 : Nat} (hs : (tyK l0 = (0, 10) ∧ l0 < N ∧ (Sp G d 0 0 MX11_stableFor [.ref l0, .int l1] (a, r, N) (RI fun v13 a10 r11 n12 => ((tyK l2).1 = 4 ∧ l2 < n12 ∧ vp_in 0 (tyK l2).2 ∧ ∀ r14, r14 = u2V r11 l2 (0 : Int32).toNatClampNeg (.long ((v13 : Int32).toInt64)) → P 0 a10 r14 n12)) ∨ Sp G d 1 6 MX11_stableFor [.ref l0, .int l1] (a, r, N) (RX fun e9 a6 r7 n8 => if e9 = "java/util/NoSuchElementException" then P 1 a6 r7 n8 else False)))) : Sp G (d + 1) 1 6 ML_stableFor [.ref l0, .int l1, .ref l2] (a, r, N) (RI P) := Sp.mk (mc := (0 + 1)) (ms := (0 + 6)) [.ref l0, .int l1, .ref l2, .null] rfl rfl rfl rfl (T_L_stableFor_0 (C := 0) (S := 0) _ _ _ hs)
theorem dL_bestFor_0 : decode cL_bestFor 0 = .ok (.aload_n 2, 1) := by decide +kernel
theorem dL_bestFor_1 : decode cL_bestFor 1 = .ok (.iconst 0, 1) := by decide +kernel
theorem dL_bestFor_2 : decode cL_bestFor 2 = .ok (.aload_n 0, 1) := by decide +kernel
theorem dL_bestFor_3 : decode cL_bestFor 3 = .ok (.iload_n 1, 1) := by decide +kernel
theorem dL_bestFor_4 : decode cL_bestFor 4 = .ok (.invokevirtual 56, 3) := by decide +kernel
theorem dL_bestFor_7 : decode cL_bestFor 7 = .ok (.i2l, 1) := by decide +kernel
theorem dL_bestFor_8 : decode cL_bestFor 8 = .ok (.lastore, 1) := by decide +kernel
theorem dL_bestFor_9 : decode cL_bestFor 9 = .ok (.goto 6, 3) := by decide +kernel
theorem dL_bestFor_12 : decode cL_bestFor 12 = .ok (.astore_n 3, 1) := by decide +kernel
theorem dL_bestFor_13 : decode cL_bestFor 13 = .ok (.iconst 1, 1) := by decide +kernel
theorem dL_bestFor_14 : decode cL_bestFor 14 = .ok (.ireturn, 1) := by decide +kernel
theorem dL_bestFor_15 : decode cL_bestFor 15 = .ok (.iconst 0, 1) := by decide +kernel
theorem dL_bestFor_16 : decode cL_bestFor 16 = .ok (.ireturn, 1) := by decide +kernel
theorem hn_L_bestFor_0 : HnOK ML_bestFor 4 "java/util/NoSuchElementException" 13 3 := ⟨[], [], ⟨0, 9, 12, 31⟩, "java/util/NoSuchElementException", rfl, (fun z hz => nomatch hz), by decide, by decide, q_1200, q_1215, by decide, Or.inl ⟨3, dL_bestFor_12, rfl, rfl⟩⟩
set_option maxRecDepth 100000 in
theorem T_L_bestFor_0 {G : GE} {d C S : Nat} {P : KI} : Snd G ML_bestFor (d + 1) (C + 1) (S + 6) 0 (RI P) (s_aload 2 (s_iconst 0 (s_aload 0 (s_iload 1 (s_callVH G d MX11_bestFor 1 10 [("java/util/NoSuchElementException", 13, 3, (s_iconst 1 (s_ireturn P)))] (s_i2l (s_lastore (s_iconst 0 (s_ireturn P))))))))) := (e_aload_n dL_bestFor_0 rfl (e_iconst (v := 0) dL_bestFor_1 (by decide) (e_aload_n dL_bestFor_2 rfl (e_iload_n dL_bestFor_3 rfl (e_callVH (hds := [("java/util/NoSuchElementException", 13, 3, (s_iconst 1 (s_ireturn P)))]) cl_10 cal_X11_bestFor q_1335 q_1336 q_1337 dL_bestFor_4 (List.forall_mem_cons.mpr ⟨⟨hn_L_bestFor_0, (e_iconst (v := 1) dL_bestFor_13 (by decide) (e_ireturn rfl dL_bestFor_14))⟩, fun _ h => nomatch h⟩) (e_i2l dL_bestFor_7 (e_lastore dL_bestFor_8 (e_goto (tgt := 15) dL_bestFor_9 (by decide) (e_iconst (v := 0) dL_bestFor_15 (by decide) (e_ireturn rfl dL_bestFor_16))))))))))
set_option maxRecDepth 100000 in
theorem V_L_bestFor_0 {G : GE} {d : Nat} {P : KI} {a : Nat → Nat → Int32} {r : Nat → Nat → Value} {N : Nat} {l0 : Nat} {l1 : Int32} {l2 : Nat} (hs : (tyK l0 = (0, 10) ∧ l0 < N ∧ (Sp G d 0 0 MX11_bestFor [.ref l0, .int l1] (a, r, N) (RI fun v13 a10 r11 n12 => ((tyK l2).1 = 4 ∧ l2 < n12 ∧ vp_in 0 (tyK l2).2 ∧ ∀ r14, r14 = u2V r11 l2 (0 : Int32).toNatClampNeg (.long ((v13 : Int32).toInt64)) → P 0 a10 r14 n12)) ∨ Sp G d 1 6 MX11_bestFor [.ref l0, .int l1] (a, r, N) (RX fun e9 a6 r7 n8 => if e9 = "java/util/NoSuchElementException" then P 1 a6 r7 n8 else False)))) : Sp G (d + 1) 1 6 ML_bestFor [.ref l0, .int l1, .ref l2] (a, r, N) (RI P) := Sp.mk (mc := (0 + 1)) (ms := (0 + 6)) [.ref l0, .int l1, .ref l2, .null] rfl rfl rfl rfl (T_L_bestFor_0 (C := 0) (S := 0) _ _ _ hs)
theorem dL_way_0 : decode cL_way 0 = .ok (.aload_n 3, 1) := by decide +kernel
theorem dL_way_1 : decode cL_way 1 = .ok (.iconst 0, 1) := by decide +kernel
theorem dL_way_2 : decode cL_way 2 = .ok (.aload_n 0, 1) := by decide +kernel
theorem dL_way_3 : decode cL_way 3 = .ok (.iload_n 1, 1) := by decide +kernel
theorem dL_way_4 : decode cL_way 4 = .ok (.iload_n 2, 1) := by decide +kernel
theorem dL_way_5 : decode cL_way 5 = .ok (.invokevirtual 59, 3) := by decide +kernel
theorem dL_way_8 : decode cL_way 8 = .ok (.i2l, 1) := by decide +kernel
theorem dL_way_9 : decode cL_way 9 = .ok (.lastore, 1) := by decide +kernel
theorem dL_way_10 : decode cL_way 10 = .ok (.goto 7, 3) := by decide +kernel
theorem dL_way_13 : decode cL_way 13 = .ok (.astore 4, 2) := by decide +kernel
theorem dL_way_15 : decode cL_way 15 = .ok (.iconst 1, 1) := by decide +kernel
theorem dL_way_16 : decode cL_way 16 = .ok (.ireturn, 1) := by decide +kernel
theorem dL_way_17 : decode cL_way 17 = .ok (.iconst 0, 1) := by decide +kernel
theorem dL_way_18 : decode cL_way 18 = .ok (.ireturn, 1) := by decide +kernel
theorem hn_L_way_0 : HnOK ML_way 5 "java/util/NoSuchElementException" 15 4 := ⟨[], [], ⟨0, 10, 13, 31⟩, "java/util/NoSuchElementException", rfl, (fun z hz => nomatch hz), by decide, by decide, q_1200, q_1215, by decide, Or.inr ⟨dL_way_13, rfl⟩⟩
set_option maxRecDepth 100000 in
theorem T_L_way_0 {G : GE} {d C S : Nat} {P : KI} : Snd G ML_way (d + 1) (C + 1) (S + 6) 0 (RI P) (s_aload 3 (s_iconst 0 (s_aload 0 (s_iload 1 (s_iload 2 (s_callVH G d MX11_way 2 10 [("java/util/NoSuchElementException", 15, 4, (s_iconst 1 (s_ireturn P)))] (s_i2l (s_lastore (s_iconst 0 (s_ireturn P)))))))))) := (e_aload_n dL_way_0 rfl (e_iconst (v := 0) dL_way_1 (by decide) (e_aload_n dL_way_2 rfl (e_iload_n dL_way_3 rfl (e_iload_n dL_way_4 rfl (e_callVH (hds := [("java/util/NoSuchElementException", 15, 4, (s_iconst 1 (s_ireturn P)))]) cl_10 cal_X11_way q_1346 q_1347 q_1348 dL_way_5 (List.forall_mem_cons.mpr ⟨⟨hn_L_way_0, (e_iconst (v := 1) dL_way_15 (by decide) (e_ireturn rfl dL_way_16))⟩, fun _ h => nomatch h⟩) (e_i2l dL_way_8 (e_lastore dL_way_9 (e_goto (tgt := 17) dL_way_10 (by decide) (e_iconst (v := 0) dL_way_17 (by decide) (e_ireturn rfl dL_way_18)))))))))))
set_option maxRecDepth 100000 in
theorem V_L_way_0 {G : GE} {d : Nat} {P : KI} {a : Nat → Nat → Int32} {r : Nat → Nat → Value} {N : Nat} {l0 : Nat} {l1 : Int32} {l2 : Int32} {l3 : Nat} (hs : (tyK l0 = (0, 10) ∧ l0 < N ∧ (Sp G d 0 0 MX11_way [.ref l0, .int l1, .int l2] (a, r, N) (RI fun v13 a10 r11 n12 => ((tyK l3).1 = 4 ∧ l3 < n12 ∧ vp_in 0 (tyK l3).2 ∧ ∀ r14, r14 = u2V r11 l3 (0 : Int32).toNatClampNeg (.long ((v13 : Int32).toInt64)) → P 0 a10 r14 n12)) ∨ Sp G d 1 6 MX11_way [.ref l0, .int l1, .int l2] (a, r, N) (RX fun e9 a6 r7 n8 => if e9 = "java/util/NoSuchElementException" then P 1 a6 r7 n8 else False)))) : Sp G (d + 1) 1 6 ML_way [.ref l0, .int l1, .int l2, .ref l3] (a, r, N) (RI P) := Sp.mk (mc := (0 + 1)) (ms := (0 + 6)) [.ref l0, .int l1, .int l2, .ref l3, .null] rfl rfl rfl rfl (T_L_way_0 (C := 0) (S := 0) _ _ _ hs)
theorem dL_round_0 : decode cL_round 0 = .ok (.aload_n 2, 1) := by decide +kernel
theorem dL_round_1 : decode cL_round 1 = .ok (.iconst 0, 1) := by decide +kernel
theorem dL_round_2 : decode cL_round 2 = .ok (.aload_n 0, 1) := by decide +kernel
theorem dL_round_3 : decode cL_round 3 = .ok (.iload_n 1, 1) := by decide +kernel
theorem dL_round_4 : decode cL_round 4 = .ok (.invokevirtual 62, 3) := by decide +kernel
theorem dL_round_7 : decode cL_round 7 = .ok (.i2l, 1) := by decide +kernel
theorem dL_round_8 : decode cL_round 8 = .ok (.lastore, 1) := by decide +kernel
theorem dL_round_9 : decode cL_round 9 = .ok (.goto 6, 3) := by decide +kernel
theorem dL_round_12 : decode cL_round 12 = .ok (.astore_n 3, 1) := by decide +kernel
theorem dL_round_13 : decode cL_round 13 = .ok (.iconst 1, 1) := by decide +kernel
theorem dL_round_14 : decode cL_round 14 = .ok (.ireturn, 1) := by decide +kernel
theorem dL_round_15 : decode cL_round 15 = .ok (.iconst 0, 1) := by decide +kernel
theorem dL_round_16 : decode cL_round 16 = .ok (.ireturn, 1) := by decide +kernel
theorem hn_L_round_0 : HnOK ML_round 4 "java/lang/IllegalArgumentException" 13 3 := ⟨[], [], ⟨0, 9, 12, 13⟩, "java/lang/IllegalArgumentException", rfl, (fun z hz => nomatch hz), by decide, by decide, q_706, q_721, by decide, Or.inl ⟨3, dL_round_12, rfl, rfl⟩⟩
set_option maxRecDepth 100000 in
theorem T_L_round_0 {G : GE} {d C S : Nat} {P : KI} : Snd G ML_round (d + 1) (C + 1) (S + 6) 0 (RI P) (s_aload 2 (s_iconst 0 (s_aload 0 (s_iload 1 (s_callVH G d MX11_round 1 10 [("java/lang/IllegalArgumentException", 13, 3, (s_iconst 1 (s_ireturn P)))] (s_i2l (s_lastore (s_iconst 0 (s_ireturn P))))))))) := (e_aload_n dL_round_0 rfl (e_iconst (v := 0) dL_round_1 (by decide) (e_aload_n dL_round_2 rfl (e_iload_n dL_round_3 rfl (e_callVH (hds := [("java/lang/IllegalArgumentException", 13, 3, (s_iconst 1 (s_ireturn P)))]) cl_10 cal_X11_round q_1377 q_1378 q_1379 dL_round_4 (List.forall_mem_cons.mpr ⟨⟨hn_L_round_0, (e_iconst (v := 1) dL_round_13 (by decide) (e_ireturn rfl dL_round_14))⟩, fun _ h => nomatch h⟩) (e_i2l dL_round_7 (e_lastore dL_round_8 (e_goto (tgt := 15) dL_round_9 (by decide) (e_iconst (v := 0) dL_round_15 (by decide) (e_ireturn rfl dL_round_16))))))))))
set_option maxRecDepth 100000 in
theorem V_L_round_0 {G : GE} {d : Nat} {P : KI} {a : Nat → Nat → Int32} {r : Nat → Nat → Value} {N : Nat} {l0 : Nat} {l1 : Int32} {l2 : Nat} (hs : (tyK l0 = (0, 10) ∧ l0 < N ∧ (Sp G d 0 0 MX11_round [.ref l0, .int l1] (a, r, N) (RI fun v13 a10 r11 n12 => ((tyK l2).1 = 4 ∧ l2 < n12 ∧ vp_in 0 (tyK l2).2 ∧ ∀ r14, r14 = u2V r11 l2 (0 : Int32).toNatClampNeg (.long ((v13 : Int32).toInt64)) → P 0 a10 r14 n12)) ∨ Sp G d 1 6 MX11_round [.ref l0, .int l1] (a, r, N) (RX fun e9 a6 r7 n8 => if e9 = "java/lang/IllegalArgumentException" then P 1 a6 r7 n8 else False)))) : Sp G (d + 1) 1 6 ML_round [.ref l0, .int l1, .ref l2] (a, r, N) (RI P) := Sp.mk (mc := (0 + 1)) (ms := (0 + 6)) [.ref l0, .int l1, .ref l2, .null] rfl rfl rfl rfl (T_L_round_0 (C := 0) (S := 0) _ _ _ hs)
theorem dL_reach_0 : decode cL_reach 0 = .ok (.aload_n 2, 1) := by decide +kernel
theorem dL_reach_1 : decode cL_reach 1 = .ok (.iconst 0, 1) := by decide +kernel
theorem dL_reach_2 : decode cL_reach 2 = .ok (.aload_n 0, 1) := by decide +kernel
theorem dL_reach_3 : decode cL_reach 3 = .ok (.iload_n 1, 1) := by decide +kernel
theorem dL_reach_4 : decode cL_reach 4 = .ok (.invokevirtual 65, 3) := by decide +kernel
theorem dL_reach_7 : decode cL_reach 7 = .ok (.i2l, 1) := by decide +kernel
theorem dL_reach_8 : decode cL_reach 8 = .ok (.lastore, 1) := by decide +kernel
theorem dL_reach_9 : decode cL_reach 9 = .ok (.goto 6, 3) := by decide +kernel
theorem dL_reach_12 : decode cL_reach 12 = .ok (.astore_n 3, 1) := by decide +kernel
theorem dL_reach_13 : decode cL_reach 13 = .ok (.iconst 1, 1) := by decide +kernel
theorem dL_reach_14 : decode cL_reach 14 = .ok (.ireturn, 1) := by decide +kernel
theorem dL_reach_15 : decode cL_reach 15 = .ok (.iconst 0, 1) := by decide +kernel
theorem dL_reach_16 : decode cL_reach 16 = .ok (.ireturn, 1) := by decide +kernel
theorem hn_L_reach_0 : HnOK ML_reach 4 "java/util/NoSuchElementException" 13 3 := ⟨[], [], ⟨0, 9, 12, 31⟩, "java/util/NoSuchElementException", rfl, (fun z hz => nomatch hz), by decide, by decide, q_1200, q_1215, by decide, Or.inl ⟨3, dL_reach_12, rfl, rfl⟩⟩
set_option maxRecDepth 100000 in
theorem T_L_reach_0 {G : GE} {d C S : Nat} {P : KI} : Snd G ML_reach (d + 1) (C + 1) (S + 6) 0 (RI P) (s_aload 2 (s_iconst 0 (s_aload 0 (s_iload 1 (s_callVH G d MX11_reach 1 10 [("java/util/NoSuchElementException", 13, 3, (s_iconst 1 (s_ireturn P)))] (s_i2l (s_lastore (s_iconst 0 (s_ireturn P))))))))) := (e_aload_n dL_reach_0 rfl (e_iconst (v := 0) dL_reach_1 (by decide) (e_aload_n dL_reach_2 rfl (e_iload_n dL_reach_3 rfl (e_callVH (hds := [("java/util/NoSuchElementException", 13, 3, (s_iconst 1 (s_ireturn P)))]) cl_10 cal_X11_reach q_1395 q_1396 q_1397 dL_reach_4 (List.forall_mem_cons.mpr ⟨⟨hn_L_reach_0, (e_iconst (v := 1) dL_reach_13 (by decide) (e_ireturn rfl dL_reach_14))⟩, fun _ h => nomatch h⟩) (e_i2l dL_reach_7 (e_lastore dL_reach_8 (e_goto (tgt := 15) dL_reach_9 (by decide) (e_iconst (v := 0) dL_reach_15 (by decide) (e_ireturn rfl dL_reach_16))))))))))
set_option maxRecDepth 100000 in
theorem V_L_reach_0 {G : GE} {d : Nat} {P : KI} {a : Nat → Nat → Int32} {r : Nat → Nat → Value} {N : Nat} {l0 : Nat} {l1 : Int32} {l2 : Nat} (hs : (tyK l0 = (0, 10) ∧ l0 < N ∧ (Sp G d 0 0 MX11_reach [.ref l0, .int l1] (a, r, N) (RI fun v13 a10 r11 n12 => ((tyK l2).1 = 4 ∧ l2 < n12 ∧ vp_in 0 (tyK l2).2 ∧ ∀ r14, r14 = u2V r11 l2 (0 : Int32).toNatClampNeg (.long ((v13 : Int32).toInt64)) → P 0 a10 r14 n12)) ∨ Sp G d 1 6 MX11_reach [.ref l0, .int l1] (a, r, N) (RX fun e9 a6 r7 n8 => if e9 = "java/util/NoSuchElementException" then P 1 a6 r7 n8 else False)))) : Sp G (d + 1) 1 6 ML_reach [.ref l0, .int l1, .ref l2] (a, r, N) (RI P) := Sp.mk (mc := (0 + 1)) (ms := (0 + 6)) [.ref l0, .int l1, .ref l2, .null] rfl rfl rfl rfl (T_L_reach_0 (C := 0) (S := 0) _ _ _ hs)
theorem dL_bridges_0 : decode cL_bridges 0 = .ok (.aload_n 2, 1) := by decide +kernel
theorem dL_bridges_1 : decode cL_bridges 1 = .ok (.iconst 0, 1) := by decide +kernel
theorem dL_bridges_2 : decode cL_bridges 2 = .ok (.aload_n 0, 1) := by decide +kernel
theorem dL_bridges_3 : decode cL_bridges 3 = .ok (.iload_n 1, 1) := by decide +kernel
theorem dL_bridges_4 : decode cL_bridges 4 = .ok (.invokevirtual 68, 3) := by decide +kernel
theorem dL_bridges_7 : decode cL_bridges 7 = .ok (.i2l, 1) := by decide +kernel
theorem dL_bridges_8 : decode cL_bridges 8 = .ok (.lastore, 1) := by decide +kernel
theorem dL_bridges_9 : decode cL_bridges 9 = .ok (.goto 6, 3) := by decide +kernel
theorem dL_bridges_12 : decode cL_bridges 12 = .ok (.astore_n 3, 1) := by decide +kernel
theorem dL_bridges_13 : decode cL_bridges 13 = .ok (.iconst 1, 1) := by decide +kernel
theorem dL_bridges_14 : decode cL_bridges 14 = .ok (.ireturn, 1) := by decide +kernel
theorem dL_bridges_15 : decode cL_bridges 15 = .ok (.iconst 0, 1) := by decide +kernel
theorem dL_bridges_16 : decode cL_bridges 16 = .ok (.ireturn, 1) := by decide +kernel
theorem hn_L_bridges_0 : HnOK ML_bridges 4 "java/lang/IllegalArgumentException" 13 3 := ⟨[], [], ⟨0, 9, 12, 13⟩, "java/lang/IllegalArgumentException", rfl, (fun z hz => nomatch hz), by decide, by decide, q_706, q_721, by decide, Or.inl ⟨3, dL_bridges_12, rfl, rfl⟩⟩
set_option maxRecDepth 100000 in
theorem T_L_bridges_0 {G : GE} {d C S : Nat} {P : KI} : Snd G ML_bridges (d + 1) (C + 1) (S + 6) 0 (RI P) (s_aload 2 (s_iconst 0 (s_aload 0 (s_iload 1 (s_callVH G d MX11_bridges 1 10 [("java/lang/IllegalArgumentException", 13, 3, (s_iconst 1 (s_ireturn P)))] (s_i2l (s_lastore (s_iconst 0 (s_ireturn P))))))))) := (e_aload_n dL_bridges_0 rfl (e_iconst (v := 0) dL_bridges_1 (by decide) (e_aload_n dL_bridges_2 rfl (e_iload_n dL_bridges_3 rfl (e_callVH (hds := [("java/lang/IllegalArgumentException", 13, 3, (s_iconst 1 (s_ireturn P)))]) cl_10 cal_X11_bridges q_1402 q_1403 q_1404 dL_bridges_4 (List.forall_mem_cons.mpr ⟨⟨hn_L_bridges_0, (e_iconst (v := 1) dL_bridges_13 (by decide) (e_ireturn rfl dL_bridges_14))⟩, fun _ h => nomatch h⟩) (e_i2l dL_bridges_7 (e_lastore dL_bridges_8 (e_goto (tgt := 15) dL_bridges_9 (by decide) (e_iconst (v := 0) dL_bridges_15 (by decide) (e_ireturn rfl dL_bridges_16))))))))))
set_option maxRecDepth 100000 in
theorem V_L_bridges_0 {G : GE} {d : Nat} {P : KI} {a : Nat → Nat → Int32} {r : Nat → Nat → Value} {N : Nat} {l0 : Nat} {l1 : Int32} {l2 : Nat} (hs : (tyK l0 = (0, 10) ∧ l0 < N ∧ (Sp G d 0 0 MX11_bridges [.ref l0, .int l1] (a, r, N) (RI fun v13 a10 r11 n12 => ((tyK l2).1 = 4 ∧ l2 < n12 ∧ vp_in 0 (tyK l2).2 ∧ ∀ r14, r14 = u2V r11 l2 (0 : Int32).toNatClampNeg (.long ((v13 : Int32).toInt64)) → P 0 a10 r14 n12)) ∨ Sp G d 1 6 MX11_bridges [.ref l0, .int l1] (a, r, N) (RX fun e9 a6 r7 n8 => if e9 = "java/lang/IllegalArgumentException" then P 1 a6 r7 n8 else False)))) : Sp G (d + 1) 1 6 ML_bridges [.ref l0, .int l1, .ref l2] (a, r, N) (RI P) := Sp.mk (mc := (0 + 1)) (ms := (0 + 6)) [.ref l0, .int l1, .ref l2, .null] rfl rfl rfl rfl (T_L_bridges_0 (C := 0) (S := 0) _ _ _ hs)
