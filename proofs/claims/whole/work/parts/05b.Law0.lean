theorem dX2_init_0 : decode cX2_init 0 = .ok (.aload_n 0, 1) := by decide +kernel
theorem dX2_init_1 : decode cX2_init 1 = .ok (.invokespecial 3, 3) := by decide +kernel
theorem dX2_init_4 : decode cX2_init 4 = .ok (.aload_n 0, 1) := by decide +kernel
theorem dX2_init_5 : decode cX2_init 5 = .ok (.sipush 150, 3) := by decide +kernel
theorem dX2_init_8 : decode cX2_init 8 = .ok (.newarray .int, 2) := by decide +kernel
theorem dX2_init_10 : decode cX2_init 10 = .ok (.putfield 9, 3) := by decide +kernel
theorem dX2_init_13 : decode cX2_init 13 = .ok (.aload_n 0, 1) := by decide +kernel
theorem dX2_init_14 : decode cX2_init 14 = .ok (.sipush 150, 3) := by decide +kernel
theorem dX2_init_17 : decode cX2_init 17 = .ok (.newarray .int, 2) := by decide +kernel
theorem dX2_init_19 : decode cX2_init 19 = .ok (.putfield 15, 3) := by decide +kernel
theorem dX2_init_22 : decode cX2_init 22 = .ok (.return_, 1) := by decide +kernel
set_option maxRecDepth 100000 in
theorem T_X2_init_0 {G : GE} {d C S : Nat} {P : KN} : Snd G MX2_init (d + 1) (C + 2) (S + 300) 0 (RN P) (s_aload 0 (s_objInit (s_aload 0 (s_iconst 150 (fun L st h => p1 st (fun x _ => x.toNatClampNeg = 150) ∧ s_newI (s_putR 2 0 (s_aload 0 (s_iconst 150 (fun L st h => p1 st (fun x _ => x.toNatClampNeg = 150) ∧ s_newI (s_putR 2 1 (s_return P)) L st h)))) L st h))))) := (e_aload_n dX2_init_0 rfl (e_objInit q_258 q_141 q_142 dX2_init_1 (e_aload_n dX2_init_4 rfl (e_sipush (v := 150) dX2_init_5 (by decide) (e_newI (N := 150) q_252 (by decide) dX2_init_8 (e_putRF (ty := .array .int) rfl rfl cl_2 (by decide) rfl rfl rfl (by decide +kernel) (fun _ => ⟨rfl, rfl⟩) q_259 dX2_init_10 (e_aload_n dX2_init_13 rfl (e_sipush (v := 150) dX2_init_14 (by decide) (e_newI (N := 150) q_252 (by decide) dX2_init_17 (e_putRF (ty := .array .int) rfl rfl cl_2 (by decide) rfl rfl rfl (by decide +kernel) (fun _ => ⟨rfl, rfl⟩) q_260 dX2_init_19 (e_return rfl dX2_init_22)))))))))))
set_option maxRecDepth 100000 in
theorem V_X2_init_0 {G : GE} {d : Nat} {P : KN} {a : Nat → Nat → Int32} {r : Nat → Nat → Value} {N : Nat} {l0 : Nat} (hs : ((150 : Int32).toNatClampNeg = 150 ∧ N < nK ∧ tyK N = (1, (150 : Int32).toNatClampNeg) ∧ ¬ (150 : Int32) < 0 ∧ (∀ j, a N j = 0) ∧ (tyK l0 = (0, 2) ∧ l0 < (N + 1) ∧ ∀ r1, r1 = u2V r l0 0 (.ref N) → ((150 : Int32).toNatClampNeg = 150 ∧ (N + 1) < nK ∧ tyK (N + 1) = (1, (150 : Int32).toNatClampNeg) ∧ ¬ (150 : Int32) < 0 ∧ (∀ j, a (N + 1) j = 0) ∧ (tyK l0 = (0, 2) ∧ l0 < ((N + 1) + 1) ∧ ∀ r2, r2 = u2V r1 l0 1 (.ref (N + 1)) → P a r2 ((N + 1) + 1)))))) : Sp G (d + 1) 2 300 MX2_init [.ref l0] (a, r, N) (RN P) := Sp.mk (mc := (0 + 2)) (ms := (0 + 300)) [.ref l0] rfl rfl rfl rfl (T_X2_init_0 (C := 0) (S := 0) _ _ _ hs)
theorem dX2_clear_0 : decode cX2_clear 0 = .ok (.aload_n 0, 1) := by decide +kernel
theorem dX2_clear_1 : decode cX2_clear 1 = .ok (.iconst 0, 1) := by decide +kernel
theorem dX2_clear_2 : decode cX2_clear 2 = .ok (.putfield 18, 3) := by decide +kernel
theorem dX2_clear_5 : decode cX2_clear 5 = .ok (.return_, 1) := by decide +kernel
set_option maxRecDepth 100000 in
theorem T_X2_clear_0 {G : GE} {d C S : Nat} {P : KN} : Snd G MX2_clear d C S 0 (RN P) (s_aload 0 (s_iconst 0 (s_putI 2 2 (s_return P)))) := (e_aload_n dX2_clear_0 rfl (e_iconst (v := 0) dX2_clear_1 (by decide) (e_putI rfl cl_2 (by decide) rfl rfl rfl q_261 dX2_clear_2 (e_return rfl dX2_clear_5))))
set_option maxRecDepth 100000 in
theorem V_X2_clear_0 {G : GE} {d : Nat} {P : KN} {a : Nat → Nat → Int32} {r : Nat → Nat → Value} {N : Nat} {l0 : Nat} (hs : (tyK l0 = (0, 2) ∧ l0 < N ∧ ∀ a1, a1 = u2 a l0 2 0 → P a1 r N)) : Sp G d 0 0 MX2_clear [.ref l0] (a, r, N) (RN P) := Sp.mk (mc := 0) (ms := 0) [.ref l0] rfl rfl rfl rfl (T_X2_clear_0 (C := 0) (S := 0) _ _ _ hs)
theorem dX2_readAll_0 : decode cX2_readAll 0 = .ok (.aload_n 0, 1) := by decide +kernel
theorem dX2_readAll_1 : decode cX2_readAll 1 = .ok (.iconst 0, 1) := by decide +kernel
theorem dX2_readAll_2 : decode cX2_readAll 2 = .ok (.putfield 18, 3) := by decide +kernel
theorem dX2_readAll_5 : decode cX2_readAll 5 = .ok (.aload_n 0, 1) := by decide +kernel
theorem dX2_readAll_6 : decode cX2_readAll 6 = .ok (.aload_n 1, 1) := by decide +kernel
theorem dX2_readAll_7 : decode cX2_readAll 7 = .ok (.iconst 0, 1) := by decide +kernel
theorem dX2_readAll_8 : decode cX2_readAll 8 = .ok (.invokevirtual 22, 3) := by decide +kernel
theorem dX2_readAll_11 : decode cX2_readAll 11 = .ok (.ifCond .eq 22, 3) := by decide +kernel
theorem dX2_readAll_14 : decode cX2_readAll 14 = .ok (.aload_n 1, 1) := by decide +kernel
theorem dX2_readAll_15 : decode cX2_readAll 15 = .ok (.invokevirtual 26, 3) := by decide +kernel
theorem dX2_readAll_18 : decode cX2_readAll 18 = .ok (.ifCond .ne 11, 3) := by decide +kernel
theorem dX2_readAll_21 : decode cX2_readAll 21 = .ok (.aload_n 1, 1) := by decide +kernel
theorem dX2_readAll_22 : decode cX2_readAll 22 = .ok (.iconst 1, 1) := by decide +kernel
theorem dX2_readAll_23 : decode cX2_readAll 23 = .ok (.invokevirtual 32, 3) := by decide +kernel
theorem dX2_readAll_26 : decode cX2_readAll 26 = .ok (.ifCond .eq 7, 3) := by decide +kernel
theorem dX2_readAll_29 : decode cX2_readAll 29 = .ok (.iconst 1, 1) := by decide +kernel
theorem dX2_readAll_30 : decode cX2_readAll 30 = .ok (.goto 4, 3) := by decide +kernel
theorem dX2_readAll_33 : decode cX2_readAll 33 = .ok (.iconst 0, 1) := by decide +kernel
theorem dX2_readAll_34 : decode cX2_readAll 34 = .ok (.ireturn, 1) := by decide +kernel
set_option maxRecDepth 100000 in
theorem T_X2_readAll_0 {G : GE} {d C S : Nat} {P : KI} : Snd G MX2_readAll (d + 1) C S 0 (RI P) (s_aload 0 (s_iconst 0 (s_putI 2 2 (s_aload 0 (s_aload 1 (s_iconst 0 (s_callV G d MX2_readSum 2 2 (s_if_eq (s_iconst 0 (s_zreturn P)) (s_aload 1 (s_callV G d MX10_atEnd 0 9 (s_if_ne (s_iconst 1 (s_zreturn P)) (s_aload 1 (s_iconst 1 (s_callV G d MX10_mark 1 9 (s_if_eq (s_iconst 0 (s_zreturn P)) (s_iconst 1 (s_zreturn P))))))))))))))))) := (e_aload_n dX2_readAll_0 rfl (e_iconst (v := 0) dX2_readAll_1 (by decide) (e_putI rfl cl_2 (by decide) rfl rfl rfl q_261 dX2_readAll_2 (e_aload_n dX2_readAll_5 rfl (e_aload_n dX2_readAll_6 rfl (e_iconst (v := 0) dX2_readAll_7 (by decide) (e_callV cl_2 cal_X2_readSum q_983 q_985 q_24 dX2_readAll_8 (e_if_eq (tgt := 33) dX2_readAll_11 (by decide) (e_iconst (v := 0) dX2_readAll_33 (by decide) (e_zreturn rfl dX2_readAll_34)) (e_aload_n dX2_readAll_14 rfl (e_callV cl_9 cal_X10_atEnd q_1033 q_796 q_797 dX2_readAll_15 (e_if_ne (tgt := 29) dX2_readAll_18 (by decide) (e_iconst (v := 1) dX2_readAll_29 (by decide) (e_goto (tgt := 34) dX2_readAll_30 (by decide) (e_zreturn rfl dX2_readAll_34))) (e_aload_n dX2_readAll_21 rfl (e_iconst (v := 1) dX2_readAll_22 (by decide) (e_callV cl_9 cal_X10_mark q_1011 q_881 q_882 dX2_readAll_23 (e_if_eq (tgt := 33) dX2_readAll_26 (by decide) (e_iconst (v := 0) dX2_readAll_33 (by decide) (e_zreturn rfl dX2_readAll_34)) (e_iconst (v := 1) dX2_readAll_29 (by decide) (e_goto (tgt := 34) dX2_readAll_30 (by decide) (e_zreturn rfl dX2_readAll_34))))))))))))))))))
set_option maxRecDepth 100000 in
theorem V_X2_readAll_0 {G : GE} {d : Nat} {P : KI} {a : Nat → Nat → Int32} {r : Nat → Nat → Value} {N : Nat} {l0 : Nat} {l1 : Nat} (hs : (tyK l0 = (0, 2) ∧ l0 < N ∧ ∀ a1, a1 = u2 a l0 2 0 → (tyK l0 = (0, 2) ∧ l0 < N ∧ Sp G d 0 0 MX2_readSum [.ref l0, .ref l1, .int 0] (a1, r, N) (RI fun v5 a2 r3 n4 => ((v5 = 0 → (bz 0 ∧ P 0 a2 r3 n4)) ∧ (¬ v5 = 0 → (tyK l1 = (0, 9) ∧ l1 < n4 ∧ Sp G d 0 0 MX10_atEnd [.ref l1] (a2, r3, n4) (RI fun v9 a6 r7 n8 => ((¬ v9 = 0 → (bz 1 ∧ P 1 a6 r7 n8)) ∧ (v9 = 0 → (tyK l1 = (0, 9) ∧ l1 < n8 ∧ Sp G d 0 0 MX10_mark [.ref l1, .int 1] (a6, r7, n8) (RI fun v13 a10 r11 n12 => ((v13 = 0 → (bz 0 ∧ P 0 a10 r11 n12)) ∧ (¬ v13 = 0 → (bz 1 ∧ P 1 a10 r11 n12))))))))))))))) : Sp G (d + 1) 0 0 MX2_readAll [.ref l0, .ref l1] (a, r, N) (RI P) := Sp.mk (mc := 0) (ms := 0) [.ref l0, .ref l1] rfl rfl rfl rfl (T_X2_readAll_0 (C := 0) (S := 0) _ _ _ hs)
theorem dX2_readSum_0 : decode cX2_readSum 0 = .ok (.aload_n 0, 1) := by decide +kernel
theorem dX2_readSum_1 : decode cX2_readSum 1 = .ok (.aload_n 1, 1) := by decide +kernel
theorem dX2_readSum_2 : decode cX2_readSum 2 = .ok (.iload_n 2, 1) := by decide +kernel
theorem dX2_readSum_3 : decode cX2_readSum 3 = .ok (.invokevirtual 36, 3) := by decide +kernel
theorem dX2_readSum_6 : decode cX2_readSum 6 = .ok (.ifCond .ne 5, 3) := by decide +kernel
theorem dX2_readSum_9 : decode cX2_readSum 9 = .ok (.iconst 0, 1) := by decide +kernel
theorem dX2_readSum_10 : decode cX2_readSum 10 = .ok (.ireturn, 1) := by decide +kernel
theorem dX2_readSum_11 : decode cX2_readSum 11 = .ok (.iconst 0, 1) := by decide +kernel
theorem dX2_readSum_12 : decode cX2_readSum 12 = .ok (.istore_n 3, 1) := by decide +kernel
theorem dX2_readSum_13 : decode cX2_readSum 13 = .ok (.iload_n 3, 1) := by decide +kernel
theorem dX2_readSum_14 : decode cX2_readSum 14 = .ok (.sipush 150, 3) := by decide +kernel
theorem dX2_readSum_17 : decode cX2_readSum 17 = .ok (.if_icmp .ge 80, 3) := by decide +kernel
theorem dX2_readSum_20 : decode cX2_readSum 20 = .ok (.aload_n 1, 1) := by decide +kernel
theorem dX2_readSum_21 : decode cX2_readSum 21 = .ok (.bipush 43, 2) := by decide +kernel
theorem dX2_readSum_23 : decode cX2_readSum 23 = .ok (.invokevirtual 39, 3) := by decide +kernel
theorem dX2_readSum_26 : decode cX2_readSum 26 = .ok (.ifCond .ne 12, 3) := by decide +kernel
theorem dX2_readSum_29 : decode cX2_readSum 29 = .ok (.aload_n 1, 1) := by decide +kernel
theorem dX2_readSum_30 : decode cX2_readSum 30 = .ok (.bipush 45, 2) := by decide +kernel
theorem dX2_readSum_32 : decode cX2_readSum 32 = .ok (.invokevirtual 39, 3) := by decide +kernel
theorem dX2_readSum_35 : decode cX2_readSum 35 = .ok (.ifCond .eq 62, 3) := by decide +kernel
theorem dX2_readSum_38 : decode cX2_readSum 38 = .ok (.aload_n 1, 1) := by decide +kernel
theorem dX2_readSum_39 : decode cX2_readSum 39 = .ok (.bipush 43, 2) := by decide +kernel
theorem dX2_readSum_41 : decode cX2_readSum 41 = .ok (.invokevirtual 39, 3) := by decide +kernel
theorem dX2_readSum_44 : decode cX2_readSum 44 = .ok (.ifCond .eq 7, 3) := by decide +kernel
theorem dX2_readSum_47 : decode cX2_readSum 47 = .ok (.iconst (-1), 1) := by decide +kernel
theorem dX2_readSum_48 : decode cX2_readSum 48 = .ok (.goto 5, 3) := by decide +kernel
theorem dX2_readSum_51 : decode cX2_readSum 51 = .ok (.bipush (-2), 2) := by decide +kernel
theorem dX2_readSum_53 : decode cX2_readSum 53 = .ok (.istore 4, 2) := by decide +kernel
theorem dX2_readSum_55 : decode cX2_readSum 55 = .ok (.aload_n 1, 1) := by decide +kernel
theorem dX2_readSum_56 : decode cX2_readSum 56 = .ok (.iload 4, 2) := by decide +kernel
theorem dX2_readSum_58 : decode cX2_readSum 58 = .ok (.iconst (-1), 1) := by decide +kernel
theorem dX2_readSum_59 : decode cX2_readSum 59 = .ok (.if_icmp .ne 8, 3) := by decide +kernel
theorem dX2_readSum_62 : decode cX2_readSum 62 = .ok (.bipush 43, 2) := by decide +kernel
theorem dX2_readSum_64 : decode cX2_readSum 64 = .ok (.goto 5, 3) := by decide +kernel
theorem dX2_readSum_67 : decode cX2_readSum 67 = .ok (.bipush 45, 2) := by decide +kernel
theorem dX2_readSum_69 : decode cX2_readSum 69 = .ok (.invokevirtual 43, 3) := by decide +kernel
theorem dX2_readSum_72 : decode cX2_readSum 72 = .ok (.pop, 1) := by decide +kernel
theorem dX2_readSum_73 : decode cX2_readSum 73 = .ok (.aload_n 0, 1) := by decide +kernel
theorem dX2_readSum_74 : decode cX2_readSum 74 = .ok (.aload_n 1, 1) := by decide +kernel
theorem dX2_readSum_75 : decode cX2_readSum 75 = .ok (.iload_n 2, 1) := by decide +kernel
theorem dX2_readSum_76 : decode cX2_readSum 76 = .ok (.invokevirtual 36, 3) := by decide +kernel
theorem dX2_readSum_79 : decode cX2_readSum 79 = .ok (.ifCond .ne 5, 3) := by decide +kernel
theorem dX2_readSum_82 : decode cX2_readSum 82 = .ok (.iconst 0, 1) := by decide +kernel
theorem dX2_readSum_83 : decode cX2_readSum 83 = .ok (.ireturn, 1) := by decide +kernel
theorem dX2_readSum_84 : decode cX2_readSum 84 = .ok (.aload_n 0, 1) := by decide +kernel
theorem dX2_readSum_85 : decode cX2_readSum 85 = .ok (.iload 4, 2) := by decide +kernel
theorem dX2_readSum_87 : decode cX2_readSum 87 = .ok (.invokevirtual 46, 3) := by decide +kernel
theorem dX2_readSum_90 : decode cX2_readSum 90 = .ok (.pop, 1) := by decide +kernel
theorem dX2_readSum_91 : decode cX2_readSum 91 = .ok (.iinc 3 1, 3) := by decide +kernel
theorem dX2_readSum_94 : decode cX2_readSum 94 = .ok (.goto (-81), 3) := by decide +kernel
theorem dX2_readSum_97 : decode cX2_readSum 97 = .ok (.iconst 1, 1) := by decide +kernel
theorem dX2_readSum_98 : decode cX2_readSum 98 = .ok (.ireturn, 1) := by decide +kernel
set_option maxRecDepth 100000 in
theorem T_X2_readSum_0 {G : GE} {d C S : Nat} {P : KI} : Snd G MX2_readSum (d + 1) C S 0 (RI P) (s_aload 0 (s_aload 1 (s_iload 2 (s_callV G d MX2_readProduct 2 2 (s_if_ne (s_iconst 0 (s_istore 3 (fun L st h => E G MX2_readSum (d + 1) C S 13 (msk [true, true, true, true, false] L) st h (RI P)))) (s_iconst 0 (s_zreturn P))))))) := (e_aload_n dX2_readSum_0 rfl (e_aload_n dX2_readSum_1 rfl (e_iload_n dX2_readSum_2 rfl (e_callV cl_2 cal_X2_readProduct q_987 q_989 q_25 dX2_readSum_3 (e_if_ne (tgt := 11) dX2_readSum_6 (by decide) (e_iconst (v := 0) dX2_readSum_11 (by decide) (e_istore_n dX2_readSum_12 rfl (by decide) (e_msk [true, true, true, true, false]))) (e_iconst (v := 0) dX2_readSum_9 (by decide) (e_zreturn rfl dX2_readSum_10)))))))
set_option maxRecDepth 100000 in
theorem V_X2_readSum_0 {G : GE} {d : Nat} {P : KI} {a : Nat → Nat → Int32} {r : Nat → Nat → Value} {N : Nat} {l0 : Nat} {l1 : Nat} {l2 : Int32} (hs : (tyK l0 = (0, 2) ∧ l0 < N ∧ Sp G d 0 0 MX2_readProduct [.ref l0, .ref l1, .int l2] (a, r, N) (RI fun v4 a1 r2 n3 => ((¬ v4 = 0 → E G MX2_readSum (d + 1) 0 0 13 [.ref l0, .ref l1, .int l2, .int 0, .null] [] (a1, r2, n3) (RI P)) ∧ (v4 = 0 → (bz 0 ∧ P 0 a1 r2 n3)))))) : Sp G (d + 1) 0 0 MX2_readSum [.ref l0, .ref l1, .int l2] (a, r, N) (RI P) := Sp.mk (mc := 0) (ms := 0) [.ref l0, .ref l1, .int l2, .null, .null] rfl rfl rfl rfl (T_X2_readSum_0 (C := 0) (S := 0) _ _ _ hs)
set_option maxRecDepth 100000 in
theorem T_X2_readSum_13 {G : GE} {d C S : Nat} {P : KI} : Snd G MX2_readSum (d + 1) C S 13 (RI P) (s_iload 3 (s_iconst 150 (s_ic_ge (s_iconst 1 (s_zreturn P)) (s_aload 1 (s_iconst 43 (s_callV G d MX10_sees 1 9 (s_if_ne (s_aload 1 (s_iconst 43 (s_callV G d MX10_sees 1 9 (s_if_eq (s_iconst (-2) (fun L st h => E G MX2_readSum (d + 1) C S 53 (msk [true, true, true, true, false] L) st h (RI P))) (s_iconst (-1) (fun L st h => E G MX2_readSum (d + 1) C S 53 (msk [true, true, true, true, false] L) st h (RI P))))))) (s_aload 1 (s_iconst 45 (s_callV G d MX10_sees 1 9 (s_if_eq (s_iconst 1 (s_zreturn P)) (s_aload 1 (s_iconst 43 (s_callV G d MX10_sees 1 9 (s_if_eq (s_iconst (-2) (fun L st h => E G MX2_readSum (d + 1) C S 53 (msk [true, true, true, true, false] L) st h (RI P))) (s_iconst (-1) (fun L st h => E G MX2_readSum (d + 1) C S 53 (msk [true, true, true, true, false] L) st h (RI P)))))))))))))))))) := (e_iload_n dX2_readSum_13 rfl (e_sipush (v := 150) dX2_readSum_14 (by decide) (e_ic_ge (tgt := 97) dX2_readSum_17 (by decide) (e_iconst (v := 1) dX2_readSum_97 (by decide) (e_zreturn rfl dX2_readSum_98)) (e_aload_n dX2_readSum_20 rfl (e_bipush (v := 43) dX2_readSum_21 (by decide) (e_callV cl_9 cal_X10_sees q_1004 q_1005 q_1006 dX2_readSum_23 (e_if_ne (tgt := 38) dX2_readSum_26 (by decide) (e_aload_n dX2_readSum_38 rfl (e_bipush (v := 43) dX2_readSum_39 (by decide) (e_callV cl_9 cal_X10_sees q_1004 q_1005 q_1006 dX2_readSum_41 (e_if_eq (tgt := 51) dX2_readSum_44 (by decide) (e_bipush (v := (-2)) dX2_readSum_51 (by decide) (e_msk [true, true, true, true, false])) (e_iconst (v := (-1)) dX2_readSum_47 (by decide) (e_goto (tgt := 53) dX2_readSum_48 (by decide) (e_msk [true, true, true, true, false]))))))) (e_aload_n dX2_readSum_29 rfl (e_bipush (v := 45) dX2_readSum_30 (by decide) (e_callV cl_9 cal_X10_sees q_1004 q_1005 q_1006 dX2_readSum_32 (e_if_eq (tgt := 97) dX2_readSum_35 (by decide) (e_iconst (v := 1) dX2_readSum_97 (by decide) (e_zreturn rfl dX2_readSum_98)) (e_aload_n dX2_readSum_38 rfl (e_bipush (v := 43) dX2_readSum_39 (by decide) (e_callV cl_9 cal_X10_sees q_1004 q_1005 q_1006 dX2_readSum_41 (e_if_eq (tgt := 51) dX2_readSum_44 (by decide) (e_bipush (v := (-2)) dX2_readSum_51 (by decide) (e_msk [true, true, true, true, false])) (e_iconst (v := (-1)) dX2_readSum_47 (by decide) (e_goto (tgt := 53) dX2_readSum_48 (by decide) (e_msk [true, true, true, true, false]))))))))))))))))))
set_option maxRecDepth 100000 in
theorem V_X2_readSum_13 {G : GE} {d C S : Nat} {P : KI} {a : Nat → Nat → Int32} {r : Nat → Nat → Value} {N : Nat} {l0 : Nat} {l1 : Nat} {l2 : Int32} {l3 : Int32} (hs : ((150 ≤ l3 → (bz 1 ∧ P 1 a r N)) ∧ (¬ 150 ≤ l3 → (tyK l1 = (0, 9) ∧ l1 < N ∧ Sp G d 0 0 MX10_sees [.ref l1, .int 43] (a, r, N) (RI fun v4 a1 r2 n3 => ((¬ v4 = 0 → (tyK l1 = (0, 9) ∧ l1 < n3 ∧ Sp G d 0 0 MX10_sees [.ref l1, .int 43] (a1, r2, n3) (RI fun v8 a5 r6 n7 => ((v8 = 0 → E G MX2_readSum (d + 1) C S 53 [.ref l0, .ref l1, .int l2, .int l3, .null] [.int (-2)] (a5, r6, n7) (RI P)) ∧ (¬ v8 = 0 → E G MX2_readSum (d + 1) C S 53 [.ref l0, .ref l1, .int l2, .int l3, .null] [.int (-1)] (a5, r6, n7) (RI P)))))) ∧ (v4 = 0 → (tyK l1 = (0, 9) ∧ l1 < n3 ∧ Sp G d 0 0 MX10_sees [.ref l1, .int 45] (a1, r2, n3) (RI fun v12 a9 r10 n11 => ((v12 = 0 → (bz 1 ∧ P 1 a9 r10 n11)) ∧ (¬ v12 = 0 → (tyK l1 = (0, 9) ∧ l1 < n11 ∧ Sp G d 0 0 MX10_sees [.ref l1, .int 43] (a9, r10, n11) (RI fun v16 a13 r14 n15 => ((v16 = 0 → E G MX2_readSum (d + 1) C S 53 [.ref l0, .ref l1, .int l2, .int l3, .null] [.int (-2)] (a13, r14, n15) (RI P)) ∧ (¬ v16 = 0 → E G MX2_readSum (d + 1) C S 53 [.ref l0, .ref l1, .int l2, .int l3, .null] [.int (-1)] (a13, r14, n15) (RI P)))))))))))))))) : E G MX2_readSum (d + 1) C S 13 [.ref l0, .ref l1, .int l2, .int l3, .null] [] (a, r, N) (RI P) := T_X2_readSum_13 _ _ _ hs
set_option maxRecDepth 100000 in
theorem T_X2_readSum_53 {G : GE} {d C S : Nat} {P : KI} : Snd G MX2_readSum (d + 1) C S 53 (RI P) (s_istore 4 (s_aload 1 (s_iload 4 (s_iconst (-1) (s_ic_ne (s_iconst 45 (s_callV G d MX10_take 1 9 (s_pop (s_aload 0 (s_aload 1 (s_iload 2 (s_callV G d MX2_readProduct 2 2 (s_if_ne (s_aload 0 (s_iload 4 (s_callV G d MX2_append 1 2 (s_pop (s_iinc 3 1 (fun L st h => E G MX2_readSum (d + 1) C S 13 (msk [true, true, true, true, false] L) st h (RI P))))))) (s_iconst 0 (s_zreturn P)))))))))) (s_iconst 43 (s_callV G d MX10_take 1 9 (s_pop (s_aload 0 (s_aload 1 (s_iload 2 (s_callV G d MX2_readProduct 2 2 (s_if_ne (s_aload 0 (s_iload 4 (s_callV G d MX2_append 1 2 (s_pop (s_iinc 3 1 (fun L st h => E G MX2_readSum (d + 1) C S 13 (msk [true, true, true, true, false] L) st h (RI P))))))) (s_iconst 0 (s_zreturn P))))))))))))))) := (e_istore dX2_readSum_53 (by decide) (e_aload_n dX2_readSum_55 rfl (e_iload dX2_readSum_56 (e_iconst (v := (-1)) dX2_readSum_58 (by decide) (e_ic_ne (tgt := 67) dX2_readSum_59 (by decide) (e_bipush (v := 45) dX2_readSum_67 (by decide) (e_callV cl_9 cal_X10_take q_1012 q_953 q_954 dX2_readSum_69 (e_pop dX2_readSum_72 (e_aload_n dX2_readSum_73 rfl (e_aload_n dX2_readSum_74 rfl (e_iload_n dX2_readSum_75 rfl (e_callV cl_2 cal_X2_readProduct q_987 q_989 q_25 dX2_readSum_76 (e_if_ne (tgt := 84) dX2_readSum_79 (by decide) (e_aload_n dX2_readSum_84 rfl (e_iload dX2_readSum_85 (e_callV cl_2 cal_X2_append q_1000 q_1002 q_27 dX2_readSum_87 (e_pop dX2_readSum_90 (e_iinc (v := 1) dX2_readSum_91 (by decide) (by decide) (e_goto (tgt := 13) dX2_readSum_94 (by decide) (e_msk [true, true, true, true, false]))))))) (e_iconst (v := 0) dX2_readSum_82 (by decide) (e_zreturn rfl dX2_readSum_83)))))))))) (e_bipush (v := 43) dX2_readSum_62 (by decide) (e_goto (tgt := 69) dX2_readSum_64 (by decide) (e_callV cl_9 cal_X10_take q_1012 q_953 q_954 dX2_readSum_69 (e_pop dX2_readSum_72 (e_aload_n dX2_readSum_73 rfl (e_aload_n dX2_readSum_74 rfl (e_iload_n dX2_readSum_75 rfl (e_callV cl_2 cal_X2_readProduct q_987 q_989 q_25 dX2_readSum_76 (e_if_ne (tgt := 84) dX2_readSum_79 (by decide) (e_aload_n dX2_readSum_84 rfl (e_iload dX2_readSum_85 (e_callV cl_2 cal_X2_append q_1000 q_1002 q_27 dX2_readSum_87 (e_pop dX2_readSum_90 (e_iinc (v := 1) dX2_readSum_91 (by decide) (by decide) (e_goto (tgt := 13) dX2_readSum_94 (by decide) (e_msk [true, true, true, true, false]))))))) (e_iconst (v := 0) dX2_readSum_82 (by decide) (e_zreturn rfl dX2_readSum_83))))))))))))))))
set_option maxRecDepth 100000 in
theorem V_X2_readSum_53 {G : GE} {d C S : Nat} {P : KI} {a : Nat → Nat → Int32} {r : Nat → Nat → Value} {N : Nat} {l0 : Nat} {l1 : Nat} {l2 : Int32} {l3 : Int32} {s0 : Int32} (hs : ((¬ s0 = (-1) → (tyK l1 = (0, 9) ∧ l1 < N ∧ Sp G d 0 0 MX10_take [.ref l1, .int 45] (a, r, N) (RI fun v4 a1 r2 n3 => (tyK l0 = (0, 2) ∧ l0 < n3 ∧ Sp G d 0 0 MX2_readProduct [.ref l0, .ref l1, .int l2] (a1, r2, n3) (RI fun v8 a5 r6 n7 => ((¬ v8 = 0 → (tyK l0 = (0, 2) ∧ l0 < n7 ∧ Sp G d 0 0 MX2_append [.ref l0, .int s0] (a5, r6, n7) (RI fun v12 a9 r10 n11 => E G MX2_readSum (d + 1) C S 13 [.ref l0, .ref l1, .int l2, .int (l3 + 1), .null] [] (a9, r10, n11) (RI P)))) ∧ (v8 = 0 → (bz 0 ∧ P 0 a5 r6 n7)))))))) ∧ (s0 = (-1) → (tyK l1 = (0, 9) ∧ l1 < N ∧ Sp G d 0 0 MX10_take [.ref l1, .int 43] (a, r, N) (RI fun v16 a13 r14 n15 => (tyK l0 = (0, 2) ∧ l0 < n15 ∧ Sp G d 0 0 MX2_readProduct [.ref l0, .ref l1, .int l2] (a13, r14, n15) (RI fun v20 a17 r18 n19 => ((¬ v20 = 0 → (tyK l0 = (0, 2) ∧ l0 < n19 ∧ Sp G d 0 0 MX2_append [.ref l0, .int s0] (a17, r18, n19) (RI fun v24 a21 r22 n23 => E G MX2_readSum (d + 1) C S 13 [.ref l0, .ref l1, .int l2, .int (l3 + 1), .null] [] (a21, r22, n23) (RI P)))) ∧ (v20 = 0 → (bz 0 ∧ P 0 a17 r18 n19)))))))))) : E G MX2_readSum (d + 1) C S 53 [.ref l0, .ref l1, .int l2, .int l3, .null] [.int s0] (a, r, N) (RI P) := T_X2_readSum_53 _ _ _ hs
theorem dX2_readProduct_0 : decode cX2_readProduct 0 = .ok (.aload_n 0, 1) := by decide +kernel
theorem dX2_readProduct_1 : decode cX2_readProduct 1 = .ok (.aload_n 1, 1) := by decide +kernel
theorem dX2_readProduct_2 : decode cX2_readProduct 2 = .ok (.iload_n 2, 1) := by decide +kernel
theorem dX2_readProduct_3 : decode cX2_readProduct 3 = .ok (.invokevirtual 49, 3) := by decide +kernel
theorem dX2_readProduct_6 : decode cX2_readProduct 6 = .ok (.ifCond .ne 5, 3) := by decide +kernel
theorem dX2_readProduct_9 : decode cX2_readProduct 9 = .ok (.iconst 0, 1) := by decide +kernel
theorem dX2_readProduct_10 : decode cX2_readProduct 10 = .ok (.ireturn, 1) := by decide +kernel
theorem dX2_readProduct_11 : decode cX2_readProduct 11 = .ok (.iconst 0, 1) := by decide +kernel
theorem dX2_readProduct_12 : decode cX2_readProduct 12 = .ok (.istore_n 3, 1) := by decide +kernel
theorem dX2_readProduct_13 : decode cX2_readProduct 13 = .ok (.iload_n 3, 1) := by decide +kernel
theorem dX2_readProduct_14 : decode cX2_readProduct 14 = .ok (.sipush 150, 3) := by decide +kernel
theorem dX2_readProduct_17 : decode cX2_readProduct 17 = .ok (.if_icmp .ge 82, 3) := by decide +kernel
theorem dX2_readProduct_20 : decode cX2_readProduct 20 = .ok (.aload_n 1, 1) := by decide +kernel
theorem dX2_readProduct_21 : decode cX2_readProduct 21 = .ok (.bipush 42, 2) := by decide +kernel
theorem dX2_readProduct_23 : decode cX2_readProduct 23 = .ok (.invokevirtual 39, 3) := by decide +kernel
theorem dX2_readProduct_26 : decode cX2_readProduct 26 = .ok (.ifCond .ne 12, 3) := by decide +kernel
theorem dX2_readProduct_29 : decode cX2_readProduct 29 = .ok (.aload_n 1, 1) := by decide +kernel
theorem dX2_readProduct_30 : decode cX2_readProduct 30 = .ok (.bipush 47, 2) := by decide +kernel
theorem dX2_readProduct_32 : decode cX2_readProduct 32 = .ok (.invokevirtual 39, 3) := by decide +kernel
theorem dX2_readProduct_35 : decode cX2_readProduct 35 = .ok (.ifCond .eq 64, 3) := by decide +kernel
theorem dX2_readProduct_38 : decode cX2_readProduct 38 = .ok (.aload_n 1, 1) := by decide +kernel
theorem dX2_readProduct_39 : decode cX2_readProduct 39 = .ok (.bipush 42, 2) := by decide +kernel
theorem dX2_readProduct_41 : decode cX2_readProduct 41 = .ok (.invokevirtual 39, 3) := by decide +kernel
theorem dX2_readProduct_44 : decode cX2_readProduct 44 = .ok (.ifCond .eq 8, 3) := by decide +kernel
theorem dX2_readProduct_47 : decode cX2_readProduct 47 = .ok (.bipush (-3), 2) := by decide +kernel
theorem dX2_readProduct_49 : decode cX2_readProduct 49 = .ok (.goto 5, 3) := by decide +kernel
theorem dX2_readProduct_52 : decode cX2_readProduct 52 = .ok (.bipush (-4), 2) := by decide +kernel
theorem dX2_readProduct_54 : decode cX2_readProduct 54 = .ok (.istore 4, 2) := by decide +kernel
theorem dX2_readProduct_56 : decode cX2_readProduct 56 = .ok (.aload_n 1, 1) := by decide +kernel
theorem dX2_readProduct_57 : decode cX2_readProduct 57 = .ok (.iload 4, 2) := by decide +kernel
theorem dX2_readProduct_59 : decode cX2_readProduct 59 = .ok (.bipush (-3), 2) := by decide +kernel
theorem dX2_readProduct_61 : decode cX2_readProduct 61 = .ok (.if_icmp .ne 8, 3) := by decide +kernel
theorem dX2_readProduct_64 : decode cX2_readProduct 64 = .ok (.bipush 42, 2) := by decide +kernel
theorem dX2_readProduct_66 : decode cX2_readProduct 66 = .ok (.goto 5, 3) := by decide +kernel
theorem dX2_readProduct_69 : decode cX2_readProduct 69 = .ok (.bipush 47, 2) := by decide +kernel
theorem dX2_readProduct_71 : decode cX2_readProduct 71 = .ok (.invokevirtual 43, 3) := by decide +kernel
theorem dX2_readProduct_74 : decode cX2_readProduct 74 = .ok (.pop, 1) := by decide +kernel
theorem dX2_readProduct_75 : decode cX2_readProduct 75 = .ok (.aload_n 0, 1) := by decide +kernel
theorem dX2_readProduct_76 : decode cX2_readProduct 76 = .ok (.aload_n 1, 1) := by decide +kernel
theorem dX2_readProduct_77 : decode cX2_readProduct 77 = .ok (.iload_n 2, 1) := by decide +kernel
theorem dX2_readProduct_78 : decode cX2_readProduct 78 = .ok (.invokevirtual 49, 3) := by decide +kernel
theorem dX2_readProduct_81 : decode cX2_readProduct 81 = .ok (.ifCond .ne 5, 3) := by decide +kernel
theorem dX2_readProduct_84 : decode cX2_readProduct 84 = .ok (.iconst 0, 1) := by decide +kernel
theorem dX2_readProduct_85 : decode cX2_readProduct 85 = .ok (.ireturn, 1) := by decide +kernel
theorem dX2_readProduct_86 : decode cX2_readProduct 86 = .ok (.aload_n 0, 1) := by decide +kernel
theorem dX2_readProduct_87 : decode cX2_readProduct 87 = .ok (.iload 4, 2) := by decide +kernel
theorem dX2_readProduct_89 : decode cX2_readProduct 89 = .ok (.invokevirtual 46, 3) := by decide +kernel
theorem dX2_readProduct_92 : decode cX2_readProduct 92 = .ok (.pop, 1) := by decide +kernel
theorem dX2_readProduct_93 : decode cX2_readProduct 93 = .ok (.iinc 3 1, 3) := by decide +kernel
theorem dX2_readProduct_96 : decode cX2_readProduct 96 = .ok (.goto (-83), 3) := by decide +kernel
theorem dX2_readProduct_99 : decode cX2_readProduct 99 = .ok (.iconst 1, 1) := by decide +kernel
theorem dX2_readProduct_100 : decode cX2_readProduct 100 = .ok (.ireturn, 1) := by decide +kernel
set_option maxRecDepth 100000 in
theorem T_X2_readProduct_0 {G : GE} {d C S : Nat} {P : KI} : Snd G MX2_readProduct (d + 1) C S 0 (RI P) (s_aload 0 (s_aload 1 (s_iload 2 (s_callV G d MX2_readUnit 2 2 (s_if_ne (s_iconst 0 (s_istore 3 (fun L st h => E G MX2_readProduct (d + 1) C S 13 (msk [true, true, true, true, false] L) st h (RI P)))) (s_iconst 0 (s_zreturn P))))))) := (e_aload_n dX2_readProduct_0 rfl (e_aload_n dX2_readProduct_1 rfl (e_iload_n dX2_readProduct_2 rfl (e_callV cl_2 cal_X2_readUnit q_991 q_993 q_26 dX2_readProduct_3 (e_if_ne (tgt := 11) dX2_readProduct_6 (by decide) (e_iconst (v := 0) dX2_readProduct_11 (by decide) (e_istore_n dX2_readProduct_12 rfl (by decide) (e_msk [true, true, true, true, false]))) (e_iconst (v := 0) dX2_readProduct_9 (by decide) (e_zreturn rfl dX2_readProduct_10)))))))
set_option maxRecDepth 100000 in
theorem V_X2_readProduct_0 {G : GE} {d : Nat} {P : KI} {a : Nat → Nat → Int32} {r : Nat → Nat → Value} {N : Nat} {l0 : Nat} {l1 : Nat} {l2 : Int32} (hs : (tyK l0 = (0, 2) ∧ l0 < N ∧ Sp G d 0 0 MX2_readUnit [.ref l0, .ref l1, .int l2] (a, r, N) (RI fun v4 a1 r2 n3 => ((¬ v4 = 0 → E G MX2_readProduct (d + 1) 0 0 13 [.ref l0, .ref l1, .int l2, .int 0, .null] [] (a1, r2, n3) (RI P)) ∧ (v4 = 0 → (bz 0 ∧ P 0 a1 r2 n3)))))) : Sp G (d + 1) 0 0 MX2_readProduct [.ref l0, .ref l1, .int l2] (a, r, N) (RI P) := Sp.mk (mc := 0) (ms := 0) [.ref l0, .ref l1, .int l2, .null, .null] rfl rfl rfl rfl (T_X2_readProduct_0 (C := 0) (S := 0) _ _ _ hs)
set_option maxRecDepth 100000 in
theorem T_X2_readProduct_13 {G : GE} {d C S : Nat} {P : KI} : Snd G MX2_readProduct (d + 1) C S 13 (RI P) (s_iload 3 (s_iconst 150 (s_ic_ge (s_iconst 1 (s_zreturn P)) (s_aload 1 (s_iconst 42 (s_callV G d MX10_sees 1 9 (s_if_ne (s_aload 1 (s_iconst 42 (s_callV G d MX10_sees 1 9 (s_if_eq (s_iconst (-4) (fun L st h => E G MX2_readProduct (d + 1) C S 54 (msk [true, true, true, true, false] L) st h (RI P))) (s_iconst (-3) (fun L st h => E G MX2_readProduct (d + 1) C S 54 (msk [true, true, true, true, false] L) st h (RI P))))))) (s_aload 1 (s_iconst 47 (s_callV G d MX10_sees 1 9 (s_if_eq (s_iconst 1 (s_zreturn P)) (s_aload 1 (s_iconst 42 (s_callV G d MX10_sees 1 9 (s_if_eq (s_iconst (-4) (fun L st h => E G MX2_readProduct (d + 1) C S 54 (msk [true, true, true, true, false] L) st h (RI P))) (s_iconst (-3) (fun L st h => E G MX2_readProduct (d + 1) C S 54 (msk [true, true, true, true, false] L) st h (RI P)))))))))))))))))) := (e_iload_n dX2_readProduct_13 rfl (e_sipush (v := 150) dX2_readProduct_14 (by decide) (e_ic_ge (tgt := 99) dX2_readProduct_17 (by decide) (e_iconst (v := 1) dX2_readProduct_99 (by decide) (e_zreturn rfl dX2_readProduct_100)) (e_aload_n dX2_readProduct_20 rfl (e_bipush (v := 42) dX2_readProduct_21 (by decide) (e_callV cl_9 cal_X10_sees q_1004 q_1005 q_1006 dX2_readProduct_23 (e_if_ne (tgt := 38) dX2_readProduct_26 (by decide) (e_aload_n dX2_readProduct_38 rfl (e_bipush (v := 42) dX2_readProduct_39 (by decide) (e_callV cl_9 cal_X10_sees q_1004 q_1005 q_1006 dX2_readProduct_41 (e_if_eq (tgt := 52) dX2_readProduct_44 (by decide) (e_bipush (v := (-4)) dX2_readProduct_52 (by decide) (e_msk [true, true, true, true, false])) (e_bipush (v := (-3)) dX2_readProduct_47 (by decide) (e_goto (tgt := 54) dX2_readProduct_49 (by decide) (e_msk [true, true, true, true, false]))))))) (e_aload_n dX2_readProduct_29 rfl (e_bipush (v := 47) dX2_readProduct_30 (by decide) (e_callV cl_9 cal_X10_sees q_1004 q_1005 q_1006 dX2_readProduct_32 (e_if_eq (tgt := 99) dX2_readProduct_35 (by decide) (e_iconst (v := 1) dX2_readProduct_99 (by decide) (e_zreturn rfl dX2_readProduct_100)) (e_aload_n dX2_readProduct_38 rfl (e_bipush (v := 42) dX2_readProduct_39 (by decide) (e_callV cl_9 cal_X10_sees q_1004 q_1005 q_1006 dX2_readProduct_41 (e_if_eq (tgt := 52) dX2_readProduct_44 (by decide) (e_bipush (v := (-4)) dX2_readProduct_52 (by decide) (e_msk [true, true, true, true, false])) (e_bipush (v := (-3)) dX2_readProduct_47 (by decide) (e_goto (tgt := 54) dX2_readProduct_49 (by decide) (e_msk [true, true, true, true, false]))))))))))))))))))
set_option maxRecDepth 100000 in
theorem V_X2_readProduct_13 {G : GE} {d C S : Nat} {P : KI} {a : Nat → Nat → Int32} {r : Nat → Nat → Value} {N : Nat} {l0 : Nat} {l1 : Nat} {l2 : Int32} {l3 : Int32} (hs : ((150 ≤ l3 → (bz 1 ∧ P 1 a r N)) ∧ (¬ 150 ≤ l3 → (tyK l1 = (0, 9) ∧ l1 < N ∧ Sp G d 0 0 MX10_sees [.ref l1, .int 42] (a, r, N) (RI fun v4 a1 r2 n3 => ((¬ v4 = 0 → (tyK l1 = (0, 9) ∧ l1 < n3 ∧ Sp G d 0 0 MX10_sees [.ref l1, .int 42] (a1, r2, n3) (RI fun v8 a5 r6 n7 => ((v8 = 0 → E G MX2_readProduct (d + 1) C S 54 [.ref l0, .ref l1, .int l2, .int l3, .null] [.int (-4)] (a5, r6, n7) (RI P)) ∧ (¬ v8 = 0 → E G MX2_readProduct (d + 1) C S 54 [.ref l0, .ref l1, .int l2, .int l3, .null] [.int (-3)] (a5, r6, n7) (RI P)))))) ∧ (v4 = 0 → (tyK l1 = (0, 9) ∧ l1 < n3 ∧ Sp G d 0 0 MX10_sees [.ref l1, .int 47] (a1, r2, n3) (RI fun v12 a9 r10 n11 => ((v12 = 0 → (bz 1 ∧ P 1 a9 r10 n11)) ∧ (¬ v12 = 0 → (tyK l1 = (0, 9) ∧ l1 < n11 ∧ Sp G d 0 0 MX10_sees [.ref l1, .int 42] (a9, r10, n11) (RI fun v16 a13 r14 n15 => ((v16 = 0 → E G MX2_readProduct (d + 1) C S 54 [.ref l0, .ref l1, .int l2, .int l3, .null] [.int (-4)] (a13, r14, n15) (RI P)) ∧ (¬ v16 = 0 → E G MX2_readProduct (d + 1) C S 54 [.ref l0, .ref l1, .int l2, .int l3, .null] [.int (-3)] (a13, r14, n15) (RI P)))))))))))))))) : E G MX2_readProduct (d + 1) C S 13 [.ref l0, .ref l1, .int l2, .int l3, .null] [] (a, r, N) (RI P) := T_X2_readProduct_13 _ _ _ hs
set_option maxRecDepth 100000 in
theorem T_X2_readProduct_54 {G : GE} {d C S : Nat} {P : KI} : Snd G MX2_readProduct (d + 1) C S 54 (RI P) (s_istore 4 (s_aload 1 (s_iload 4 (s_iconst (-3) (s_ic_ne (s_iconst 47 (s_callV G d MX10_take 1 9 (s_pop (s_aload 0 (s_aload 1 (s_iload 2 (s_callV G d MX2_readUnit 2 2 (s_if_ne (s_aload 0 (s_iload 4 (s_callV G d MX2_append 1 2 (s_pop (s_iinc 3 1 (fun L st h => E G MX2_readProduct (d + 1) C S 13 (msk [true, true, true, true, false] L) st h (RI P))))))) (s_iconst 0 (s_zreturn P)))))))))) (s_iconst 42 (s_callV G d MX10_take 1 9 (s_pop (s_aload 0 (s_aload 1 (s_iload 2 (s_callV G d MX2_readUnit 2 2 (s_if_ne (s_aload 0 (s_iload 4 (s_callV G d MX2_append 1 2 (s_pop (s_iinc 3 1 (fun L st h => E G MX2_readProduct (d + 1) C S 13 (msk [true, true, true, true, false] L) st h (RI P))))))) (s_iconst 0 (s_zreturn P))))))))))))))) := (e_istore dX2_readProduct_54 (by decide) (e_aload_n dX2_readProduct_56 rfl (e_iload dX2_readProduct_57 (e_bipush (v := (-3)) dX2_readProduct_59 (by decide) (e_ic_ne (tgt := 69) dX2_readProduct_61 (by decide) (e_bipush (v := 47) dX2_readProduct_69 (by decide) (e_callV cl_9 cal_X10_take q_1012 q_953 q_954 dX2_readProduct_71 (e_pop dX2_readProduct_74 (e_aload_n dX2_readProduct_75 rfl (e_aload_n dX2_readProduct_76 rfl (e_iload_n dX2_readProduct_77 rfl (e_callV cl_2 cal_X2_readUnit q_991 q_993 q_26 dX2_readProduct_78 (e_if_ne (tgt := 86) dX2_readProduct_81 (by decide) (e_aload_n dX2_readProduct_86 rfl (e_iload dX2_readProduct_87 (e_callV cl_2 cal_X2_append q_1000 q_1002 q_27 dX2_readProduct_89 (e_pop dX2_readProduct_92 (e_iinc (v := 1) dX2_readProduct_93 (by decide) (by decide) (e_goto (tgt := 13) dX2_readProduct_96 (by decide) (e_msk [true, true, true, true, false]))))))) (e_iconst (v := 0) dX2_readProduct_84 (by decide) (e_zreturn rfl dX2_readProduct_85)))))))))) (e_bipush (v := 42) dX2_readProduct_64 (by decide) (e_goto (tgt := 71) dX2_readProduct_66 (by decide) (e_callV cl_9 cal_X10_take q_1012 q_953 q_954 dX2_readProduct_71 (e_pop dX2_readProduct_74 (e_aload_n dX2_readProduct_75 rfl (e_aload_n dX2_readProduct_76 rfl (e_iload_n dX2_readProduct_77 rfl (e_callV cl_2 cal_X2_readUnit q_991 q_993 q_26 dX2_readProduct_78 (e_if_ne (tgt := 86) dX2_readProduct_81 (by decide) (e_aload_n dX2_readProduct_86 rfl (e_iload dX2_readProduct_87 (e_callV cl_2 cal_X2_append q_1000 q_1002 q_27 dX2_readProduct_89 (e_pop dX2_readProduct_92 (e_iinc (v := 1) dX2_readProduct_93 (by decide) (by decide) (e_goto (tgt := 13) dX2_readProduct_96 (by decide) (e_msk [true, true, true, true, false]))))))) (e_iconst (v := 0) dX2_readProduct_84 (by decide) (e_zreturn rfl dX2_readProduct_85))))))))))))))))
set_option maxRecDepth 100000 in
theorem V_X2_readProduct_54 {G : GE} {d C S : Nat} {P : KI} {a : Nat → Nat → Int32} {r : Nat → Nat → Value} {N : Nat} {l0 : Nat} {l1 : Nat} {l2 : Int32} {l3 : Int32} {s0 : Int32} (hs : ((¬ s0 = (-3) → (tyK l1 = (0, 9) ∧ l1 < N ∧ Sp G d 0 0 MX10_take [.ref l1, .int 47] (a, r, N) (RI fun v4 a1 r2 n3 => (tyK l0 = (0, 2) ∧ l0 < n3 ∧ Sp G d 0 0 MX2_readUnit [.ref l0, .ref l1, .int l2] (a1, r2, n3) (RI fun v8 a5 r6 n7 => ((¬ v8 = 0 → (tyK l0 = (0, 2) ∧ l0 < n7 ∧ Sp G d 0 0 MX2_append [.ref l0, .int s0] (a5, r6, n7) (RI fun v12 a9 r10 n11 => E G MX2_readProduct (d + 1) C S 13 [.ref l0, .ref l1, .int l2, .int (l3 + 1), .null] [] (a9, r10, n11) (RI P)))) ∧ (v8 = 0 → (bz 0 ∧ P 0 a5 r6 n7)))))))) ∧ (s0 = (-3) → (tyK l1 = (0, 9) ∧ l1 < N ∧ Sp G d 0 0 MX10_take [.ref l1, .int 42] (a, r, N) (RI fun v16 a13 r14 n15 => (tyK l0 = (0, 2) ∧ l0 < n15 ∧ Sp G d 0 0 MX2_readUnit [.ref l0, .ref l1, .int l2] (a13, r14, n15) (RI fun v20 a17 r18 n19 => ((¬ v20 = 0 → (tyK l0 = (0, 2) ∧ l0 < n19 ∧ Sp G d 0 0 MX2_append [.ref l0, .int s0] (a17, r18, n19) (RI fun v24 a21 r22 n23 => E G MX2_readProduct (d + 1) C S 13 [.ref l0, .ref l1, .int l2, .int (l3 + 1), .null] [] (a21, r22, n23) (RI P)))) ∧ (v20 = 0 → (bz 0 ∧ P 0 a17 r18 n19)))))))))) : E G MX2_readProduct (d + 1) C S 54 [.ref l0, .ref l1, .int l2, .int l3, .null] [.int s0] (a, r, N) (RI P) := T_X2_readProduct_54 _ _ _ hs
theorem dX2_readUnit_0 : decode cX2_readUnit 0 = .ok (.aload_n 1, 1) := by decide +kernel
theorem dX2_readUnit_1 : decode cX2_readUnit 1 = .ok (.invokevirtual 52, 3) := by decide +kernel
theorem dX2_readUnit_4 : decode cX2_readUnit 4 = .ok (.ifCond .eq 31, 3) := by decide +kernel
theorem dX2_readUnit_7 : decode cX2_readUnit 7 = .ok (.aload_n 1, 1) := by decide +kernel
theorem dX2_readUnit_8 : decode cX2_readUnit 8 = .ok (.iconst 0, 1) := by decide +kernel
theorem dX2_readUnit_9 : decode cX2_readUnit 9 = .ok (.sipush 999, 3) := by decide +kernel
theorem dX2_readUnit_12 : decode cX2_readUnit 12 = .ok (.invokevirtual 55, 3) := by decide +kernel
theorem dX2_readUnit_15 : decode cX2_readUnit 15 = .ok (.istore_n 3, 1) := by decide +kernel
theorem dX2_readUnit_16 : decode cX2_readUnit 16 = .ok (.iload_n 3, 1) := by decide +kernel
theorem dX2_readUnit_17 : decode cX2_readUnit 17 = .ok (.iconst (-1), 1) := by decide +kernel
theorem dX2_readUnit_18 : decode cX2_readUnit 18 = .ok (.if_icmp .eq 15, 3) := by decide +kernel
theorem dX2_readUnit_21 : decode cX2_readUnit 21 = .ok (.aload_n 0, 1) := by decide +kernel
theorem dX2_readUnit_22 : decode cX2_readUnit 22 = .ok (.iload_n 3, 1) := by decide +kernel
theorem dX2_readUnit_23 : decode cX2_readUnit 23 = .ok (.invokevirtual 46, 3) := by decide +kernel
theorem dX2_readUnit_26 : decode cX2_readUnit 26 = .ok (.ifCond .eq 7, 3) := by decide +kernel
theorem dX2_readUnit_29 : decode cX2_readUnit 29 = .ok (.iconst 1, 1) := by decide +kernel
theorem dX2_readUnit_30 : decode cX2_readUnit 30 = .ok (.goto 4, 3) := by decide +kernel
theorem dX2_readUnit_33 : decode cX2_readUnit 33 = .ok (.iconst 0, 1) := by decide +kernel
theorem dX2_readUnit_34 : decode cX2_readUnit 34 = .ok (.ireturn, 1) := by decide +kernel
theorem dX2_readUnit_35 : decode cX2_readUnit 35 = .ok (.aload_n 1, 1) := by decide +kernel
theorem dX2_readUnit_36 : decode cX2_readUnit 36 = .ok (.bipush 40, 2) := by decide +kernel
theorem dX2_readUnit_38 : decode cX2_readUnit 38 = .ok (.invokevirtual 39, 3) := by decide +kernel
theorem dX2_readUnit_41 : decode cX2_readUnit 41 = .ok (.ifCond .eq 46, 3) := by decide +kernel
theorem dX2_readUnit_44 : decode cX2_readUnit 44 = .ok (.aload_n 1, 1) := by decide +kernel
theorem dX2_readUnit_45 : decode cX2_readUnit 45 = .ok (.iload_n 2, 1) := by decide +kernel
theorem dX2_readUnit_46 : decode cX2_readUnit 46 = .ok (.invokestatic 59, 3) := by decide +kernel
theorem dX2_readUnit_49 : decode cX2_readUnit 49 = .ok (.ifCond .eq 36, 3) := by decide +kernel
theorem dX2_readUnit_52 : decode cX2_readUnit 52 = .ok (.aload_n 1, 1) := by decide +kernel
theorem dX2_readUnit_53 : decode cX2_readUnit 53 = .ok (.bipush 40, 2) := by decide +kernel
theorem dX2_readUnit_55 : decode cX2_readUnit 55 = .ok (.invokevirtual 43, 3) := by decide +kernel
theorem dX2_readUnit_58 : decode cX2_readUnit 58 = .ok (.ifCond .eq 27, 3) := by decide +kernel
theorem dX2_readUnit_61 : decode cX2_readUnit 61 = .ok (.aload_n 0, 1) := by decide +kernel
theorem dX2_readUnit_62 : decode cX2_readUnit 62 = .ok (.aload_n 1, 1) := by decide +kernel
theorem dX2_readUnit_63 : decode cX2_readUnit 63 = .ok (.iload_n 2, 1) := by decide +kernel
theorem dX2_readUnit_64 : decode cX2_readUnit 64 = .ok (.iconst 1, 1) := by decide +kernel
theorem dX2_readUnit_65 : decode cX2_readUnit 65 = .ok (.iadd, 1) := by decide +kernel
theorem dX2_readUnit_66 : decode cX2_readUnit 66 = .ok (.invokevirtual 22, 3) := by decide +kernel
theorem dX2_readUnit_69 : decode cX2_readUnit 69 = .ok (.ifCond .eq 16, 3) := by decide +kernel
theorem dX2_readUnit_72 : decode cX2_readUnit 72 = .ok (.aload_n 1, 1) := by decide +kernel
theorem dX2_readUnit_73 : decode cX2_readUnit 73 = .ok (.bipush 41, 2) := by decide +kernel
theorem dX2_readUnit_75 : decode cX2_readUnit 75 = .ok (.invokevirtual 43, 3) := by decide +kernel
theorem dX2_readUnit_78 : decode cX2_readUnit 78 = .ok (.ifCond .eq 7, 3) := by decide +kernel
theorem dX2_readUnit_81 : decode cX2_readUnit 81 = .ok (.iconst 1, 1) := by decide +kernel
theorem dX2_readUnit_82 : decode cX2_readUnit 82 = .ok (.goto 4, 3) := by decide +kernel
theorem dX2_readUnit_85 : decode cX2_readUnit 85 = .ok (.iconst 0, 1) := by decide +kernel
theorem dX2_readUnit_86 : decode cX2_readUnit 86 = .ok (.ireturn, 1) := by decide +kernel
theorem dX2_readUnit_87 : decode cX2_readUnit 87 = .ok (.aload_n 1, 1) := by decide +kernel
theorem dX2_readUnit_88 : decode cX2_readUnit 88 = .ok (.invokevirtual 62, 3) := by decide +kernel
theorem dX2_readUnit_91 : decode cX2_readUnit 91 = .ok (.aload_n 1, 1) := by decide +kernel
theorem dX2_readUnit_92 : decode cX2_readUnit 92 = .ok (.invokestatic 65, 3) := by decide +kernel
theorem dX2_readUnit_95 : decode cX2_readUnit 95 = .ok (.istore_n 3, 1) := by decide +kernel
theorem dX2_readUnit_96 : decode cX2_readUnit 96 = .ok (.iload_n 3, 1) := by decide +kernel
theorem dX2_readUnit_97 : decode cX2_readUnit 97 = .ok (.ifCond .ne 9, 3) := by decide +kernel
theorem dX2_readUnit_100 : decode cX2_readUnit 100 = .ok (.aload_n 1, 1) := by decide +kernel
theorem dX2_readUnit_101 : decode cX2_readUnit 101 = .ok (.iconst 1, 1) := by decide +kernel
theorem dX2_readUnit_102 : decode cX2_readUnit 102 = .ok (.invokevirtual 32, 3) := by decide +kernel
theorem dX2_readUnit_105 : decode cX2_readUnit 105 = .ok (.ireturn, 1) := by decide +kernel
theorem dX2_readUnit_106 : decode cX2_readUnit 106 = .ok (.iload_n 3, 1) := by decide +kernel
theorem dX2_readUnit_107 : decode cX2_readUnit 107 = .ok (.bipush (-5), 2) := by decide +kernel
theorem dX2_readUnit_109 : decode cX2_readUnit 109 = .ok (.if_icmp .eq 9, 3) := by decide +kernel
theorem dX2_readUnit_112 : decode cX2_readUnit 112 = .ok (.iload_n 3, 1) := by decide +kernel
theorem dX2_readUnit_113 : decode cX2_readUnit 113 = .ok (.bipush (-6), 2) := by decide +kernel
theorem dX2_readUnit_115 : decode cX2_readUnit 115 = .ok (.if_icmp .ne 13, 3) := by decide +kernel
theorem dX2_readUnit_118 : decode cX2_readUnit 118 = .ok (.aload_n 0, 1) := by decide +kernel
theorem dX2_readUnit_119 : decode cX2_readUnit 119 = .ok (.aload_n 1, 1) := by decide +kernel
theorem dX2_readUnit_120 : decode cX2_readUnit 120 = .ok (.iload_n 2, 1) := by decide +kernel
theorem dX2_readUnit_121 : decode cX2_readUnit 121 = .ok (.iload_n 3, 1) := by decide +kernel
theorem dX2_readUnit_122 : decode cX2_readUnit 122 = .ok (.invokevirtual 69, 3) := by decide +kernel
theorem dX2_readUnit_125 : decode cX2_readUnit 125 = .ok (.goto 8, 3) := by decide +kernel
theorem dX2_readUnit_128 : decode cX2_readUnit 128 = .ok (.aload_n 0, 1) := by decide +kernel
theorem dX2_readUnit_129 : decode cX2_readUnit 129 = .ok (.iload_n 3, 1) := by decide +kernel
theorem dX2_readUnit_130 : decode cX2_readUnit 130 = .ok (.invokevirtual 46, 3) := by decide +kernel
theorem dX2_readUnit_133 : decode cX2_readUnit 133 = .ok (.ireturn, 1) := by decide +kernel
set_option maxRecDepth 100000 in
theorem T_X2_readUnit_0 {G : GE} {d C S : Nat} {P : KI} : Snd G MX2_readUnit (d + 1) C S 0 (RI P) (s_aload 1 (s_callV G d MX10_seesDigit 0 9 (s_if_eq (s_aload 1 (s_iconst 40 (s_callV G d MX10_sees 1 9 (s_if_eq (s_aload 1 (s_callV G d MX10_readWord 0 9 (s_aload 1 (s_call G d MX2_wordOf 1 (s_istore 3 (s_iload 3 (s_if_ne (s_iload 3 (s_iconst (-5) (s_ic_eq (s_aload 0 (s_aload 1 (s_iload 2 (s_iload 3 (s_callV G d MX2_readPair 3 2 (s_zreturn P)))))) (s_iload 3 (s_iconst (-6) (s_ic_ne (s_aload 0 (s_iload 3 (s_callV G d MX2_append 1 2 (s_zreturn P)))) (s_aload 0 (s_aload 1 (s_iload 2 (s_iload 3 (s_callV G d MX2_readPair 3 2 (s_zreturn P)))))))))))) (s_aload 1 (s_iconst 1 (s_callV G d MX10_mark 1 9 (s_zreturn P))))))))))) (s_aload 1 (s_iload 2 (s_call G d MX2_mayOpen 2 (s_if_eq (s_iconst 0 (s_zreturn P)) (s_aload 1 (s_iconst 40 (s_callV G d MX10_take 1 9 (s_if_eq (s_iconst 0 (s_zreturn P)) (s_aload 0 (s_aload 1 (s_iload 2 (s_iconst 1 (s_iadd (s_callV G d MX2_readSum 2 2 (s_if_eq (s_iconst 0 (s_zreturn P)) (s_aload 1 (s_iconst 41 (s_callV G d MX10_take 1 9 (s_if_eq (s_iconst 0 (s_zreturn P)) (s_iconst 1 (s_zreturn P))))))))))))))))))))))))) (s_aload 1 (s_iconst 0 (s_iconst 999 (s_callV G d MX10_readNumber 2 9 (s_istore 3 (s_iload 3 (s_iconst (-1) (s_ic_eq (s_iconst 0 (s_zreturn P)) (s_aload 0 (s_iload 3 (s_callV G d MX2_append 1 2 (s_if_eq (s_iconst 0 (s_zreturn P)) (s_iconst 1 (s_zreturn P))))))))))))))))) := (e_aload_n dX2_readUnit_0 rfl (e_callV cl_9 cal_X10_seesDigit q_995 q_996 q_997 dX2_readUnit_1 (e_if_eq (tgt := 35) dX2_readUnit_4 (by decide) (e_aload_n dX2_readUnit_35 rfl (e_bipush (v := 40) dX2_readUnit_36 (by decide) (e_callV cl_9 cal_X10_sees q_1004 q_1005 q_1006 dX2_readUnit_38 (e_if_eq (tgt := 87) dX2_readUnit_41 (by decide) (e_aload_n dX2_readUnit_87 rfl (e_callV cl_9 cal_X10_readWord q_1013 q_808 q_809 dX2_readUnit_88 (e_aload_n dX2_readUnit_91 rfl (e_callS cal_X2_wordOf q_1014 q_1015 dX2_readUnit_92 (e_istore_n dX2_readUnit_95 rfl (by decide) (e_iload_n dX2_readUnit_96 rfl (e_if_ne (tgt := 106) dX2_readUnit_97 (by decide) (e_iload_n dX2_readUnit_106 rfl (e_bipush (v := (-5)) dX2_readUnit_107 (by decide) (e_ic_eq (tgt := 118) dX2_readUnit_109 (by decide) (e_aload_n dX2_readUnit_118 rfl (e_aload_n dX2_readUnit_119 rfl (e_iload_n dX2_readUnit_120 rfl (e_iload_n dX2_readUnit_121 rfl (e_callV cl_2 cal_X2_readPair q_1029 q_1031 q_28 dX2_readUnit_122 (e_goto (tgt := 133) dX2_readUnit_125 (by decide) (e_zreturn rfl dX2_readUnit_133))))))) (e_iload_n dX2_readUnit_112 rfl (e_bipush (v := (-6)) dX2_readUnit_113 (by decide) (e_ic_ne (tgt := 128) dX2_readUnit_115 (by decide) (e_aload_n dX2_readUnit_128 rfl (e_iload_n dX2_readUnit_129 rfl (e_callV cl_2 cal_X2_append q_1000 q_1002 q_27 dX2_readUnit_130 (e_zreturn rfl dX2_readUnit_133)))) (e_aload_n dX2_readUnit_118 rfl (e_aload_n dX2_readUnit_119 rfl (e_iload_n dX2_readUnit_120 rfl (e_iload_n dX2_readUnit_121 rfl (e_callV cl_2 cal_X2_readPair q_1029 q_1031 q_28 dX2_readUnit_122 (e_goto (tgt := 133) dX2_readUnit_125 (by decide) (e_zreturn rfl dX2_readUnit_133))))))))))))) (e_aload_n dX2_readUnit_100 rfl (e_iconst (v := 1) dX2_readUnit_101 (by decide) (e_callV cl_9 cal_X10_mark q_1011 q_881 q_882 dX2_readUnit_102 (e_zreturn rfl dX2_readUnit_105))))))))))) (e_aload_n dX2_readUnit_44 rfl (e_iload_n dX2_readUnit_45 rfl (e_callS cal_X2_mayOpen q_1008 q_1009 dX2_readUnit_46 (e_if_eq (tgt := 85) dX2_readUnit_49 (by decide) (e_iconst (v := 0) dX2_readUnit_85 (by decide) (e_zreturn rfl dX2_readUnit_86)) (e_aload_n dX2_readUnit_52 rfl (e_bipush (v := 40) dX2_readUnit_53 (by decide) (e_callV cl_9 cal_X10_take q_1012 q_953 q_954 dX2_readUnit_55 (e_if_eq (tgt := 85) dX2_readUnit_58 (by decide) (e_iconst (v := 0) dX2_readUnit_85 (by decide) (e_zreturn rfl dX2_readUnit_86)) (e_aload_n dX2_readUnit_61 rfl (e_aload_n dX2_readUnit_62 rfl (e_iload_n dX2_readUnit_63 rfl (e_iconst (v := 1) dX2_readUnit_64 (by decide) (e_iadd dX2_readUnit_65 (e_callV cl_2 cal_X2_readSum q_983 q_985 q_24 dX2_readUnit_66 (e_if_eq (tgt := 85) dX2_readUnit_69 (by decide) (e_iconst (v := 0) dX2_readUnit_85 (by decide) (e_zreturn rfl dX2_readUnit_86)) (e_aload_n dX2_readUnit_72 rfl (e_bipush (v := 41) dX2_readUnit_73 (by decide) (e_callV cl_9 cal_X10_take q_1012 q_953 q_954 dX2_readUnit_75 (e_if_eq (tgt := 85) dX2_readUnit_78 (by decide) (e_iconst (v := 0) dX2_readUnit_85 (by decide) (e_zreturn rfl dX2_readUnit_86)) (e_iconst (v := 1) dX2_readUnit_81 (by decide) (e_goto (tgt := 86) dX2_readUnit_82 (by decide) (e_zreturn rfl dX2_readUnit_86)))))))))))))))))))))))))) (e_aload_n dX2_readUnit_7 rfl (e_iconst (v := 0) dX2_readUnit_8 (by decide) (e_sipush (v := 999) dX2_readUnit_9 (by decide) (e_callV cl_9 cal_X10_readNumber q_999 q_893 q_894 dX2_readUnit_12 (e_istore_n dX2_readUnit_15 rfl (by decide) (e_iload_n dX2_readUnit_16 rfl (e_iconst (v := (-1)) dX2_readUnit_17 (by decide) (e_ic_eq (tgt := 33) dX2_readUnit_18 (by decide) (e_iconst (v := 0) dX2_readUnit_33 (by decide) (e_zreturn rfl dX2_readUnit_34)) (e_aload_n dX2_readUnit_21 rfl (e_iload_n dX2_readUnit_22 rfl (e_callV cl_2 cal_X2_append q_1000 q_1002 q_27 dX2_readUnit_23 (e_if_eq (tgt := 33) dX2_readUnit_26 (by decide) (e_iconst (v := 0) dX2_readUnit_33 (by decide) (e_zreturn rfl dX2_readUnit_34)) (e_iconst (v := 1) dX2_readUnit_29 (by decide) (e_goto (tgt := 34) dX2_readUnit_30 (by decide) (e_zreturn rfl dX2_readUnit_34))))))))))))))))))
set_option maxRecDepth 100000 in
theorem V_X2_readUnit_0 {G : GE} {d : Nat} {P : KI} {a : Nat → Nat → Int32} {r : Nat → Nat → Value} {N : Nat} {l0 : Nat} {l1 : Nat} {l2 : Int32} (hs : (tyK l1 = (0, 9) ∧ l1 < N ∧ Sp G d 0 0 MX10_seesDigit [.ref l1] (a, r, N) (RI fun v4 a1 r2 n3 => ((v4 = 0 → (tyK l1 = (0, 9) ∧ l1 < n3 ∧ Sp G d 0 0 MX10_sees [.ref l1, .int 40] (a1, r2, n3) (RI fun v8 a5 r6 n7 => ((v8 = 0 → (tyK l1 = (0, 9) ∧ l1 < n7 ∧ Sp G d 0 0 MX10_readWord [.ref l1] (a5, r6, n7) (RN fun a9 r10 n11 => Sp G d 0 0 MX2_wordOf [.ref l1] (a9, r10, n11) (RI fun v15 a12 r13 n14 => ((¬ v15 = 0 → ((v15 = (-5) → (tyK l0 = (0, 2) ∧ l0 < n14 ∧ Sp G d 0 0 MX2_readPair [.ref l0, .ref l1, .int l2, .int v15] (a12, r13, n14) (RI fun v19 a16 r17 n18 => (bz v19 ∧ P v19 a16 r17 n18)))) ∧ (¬ v15 = (-5) → ((¬ v15 = (-6) → (tyK l0 = (0, 2) ∧ l0 < n14 ∧ Sp G d 0 0 MX2_append [.ref l0, .int v15] (a12, r13, n14) (RI fun v23 a20 r21 n22 => (bz v23 ∧ P v23 a20 r21 n22)))) ∧ (v15 = (-6) → (tyK l0 = (0, 2) ∧ l0 < n14 ∧ Sp G d 0 0 MX2_readPair [.ref l0, .ref l1, .int l2, .int v15] (a12, r13, n14) (RI fun v27 a24 r25 n26 => (bz v27 ∧ P v27 a24 r25 n26)))))))) ∧ (v15 = 0 → (tyK l1 = (0, 9) ∧ l1 < n14 ∧ Sp G d 0 0 MX10_mark [.ref l1, .int 1] (a12, r13, n14) (RI fun v31 a28 r29 n30 => (bz v31 ∧ P v31 a28 r29 n30))))))))) ∧ (¬ v8 = 0 → Sp G d 0 0 MX2_mayOpen [.ref l1, .int l2] (a5, r6, n7) (RI fun v35 a32 r33 n34 => ((v35 = 0 → (bz 0 ∧ P 0 a32 r33 n34)) ∧ (¬ v35 = 0 → (tyK l1 = (0, 9) ∧ l1 < n34 ∧ Sp G d 0 0 MX10_take [.ref l1, .int 40] (a32, r33, n34) (RI fun v39 a36 r37 n38 => ((v39 = 0 → (bz 0 ∧ P 0 a36 r37 n38)) ∧ (¬ v39 = 0 → (tyK l0 = (0, 2) ∧ l0 < n38 ∧ Sp G d 0 0 MX2_readSum [.ref l0, .ref l1, .int (l2 + 1)] (a36, r37, n38) (RI fun v43 a40 r41 n42 => ((v43 = 0 → (bz 0 ∧ P 0 a40 r41 n42)) ∧ (¬ v43 = 0 → (tyK l1 = (0, 9) ∧ l1 < n42 ∧ Sp G d 0 0 MX10_take [.ref l1, .int 41] (a40, r41, n42) (RI fun v47 a44 r45 n46 => ((v47 = 0 → (bz 0 ∧ P 0 a44 r45 n46)) ∧ (¬ v47 = 0 → (bz 1 ∧ P 1 a44 r45 n46))))))))))))))))))))) ∧ (¬ v4 = 0 → (tyK l1 = (0, 9) ∧ l1 < n3 ∧ Sp G d 0 0 MX10_readNumber [.ref l1, .int 0, .int 999] (a1, r2, n3) (RI fun v51 a48 r49 n50 => ((v51 = (-1) → (bz 0 ∧ P 0 a48 r49 n50)) ∧ (¬ v51 = (-1) → (tyK l0 = (0, 2) ∧ l0 < n50 ∧ Sp G d 0 0 MX2_append [.ref l0, .int v51] (a48, r49, n50) (RI fun v55 a52 r53 n54 => ((v55 = 0 → (bz 0 ∧ P 0 a52 r53 n54)) ∧ (¬ v55 = 0 → (bz 1 ∧ P 1 a52 r53 n54)))))))))))))) : Sp G (d + 1) 0 0 MX2_readUnit [.ref l0, .ref l1, .int l2] (a, r, N) (RI P) := Sp.mk (mc := 0) (ms := 0) [.ref l0, .ref l1, .int l2, .null] rfl rfl rfl rfl (T_X2_readUnit_0 (C := 0) (S := 0) _ _ _ hs)
theorem dX2_readPair_0 : decode cX2_readPair 0 = .ok (.aload_n 1, 1) := by decide +kernel
theorem dX2_readPair_1 : decode cX2_readPair 1 = .ok (.iload_n 2, 1) := by decide +kernel
theorem dX2_readPair_2 : decode cX2_readPair 2 = .ok (.invokestatic 59, 3) := by decide +kernel
theorem dX2_readPair_5 : decode cX2_readPair 5 = .ok (.ifCond .eq 64, 3) := by decide +kernel
theorem dX2_readPair_8 : decode cX2_readPair 8 = .ok (.aload_n 1, 1) := by decide +kernel
theorem dX2_readPair_9 : decode cX2_readPair 9 = .ok (.bipush 91, 2) := by decide +kernel
theorem dX2_readPair_11 : decode cX2_readPair 11 = .ok (.invokevirtual 43, 3) := by decide +kernel
theorem dX2_readPair_14 : decode cX2_readPair 14 = .ok (.ifCond .eq 55, 3) := by decide +kernel
theorem dX2_readPair_17 : decode cX2_readPair 17 = .ok (.aload_n 0, 1) := by decide +kernel
theorem dX2_readPair_18 : decode cX2_readPair 18 = .ok (.aload_n 1, 1) := by decide +kernel
theorem dX2_readPair_19 : decode cX2_readPair 19 = .ok (.iload_n 2, 1) := by decide +kernel
theorem dX2_readPair_20 : decode cX2_readPair 20 = .ok (.iconst 1, 1) := by decide +kernel
theorem dX2_readPair_21 : decode cX2_readPair 21 = .ok (.iadd, 1) := by decide +kernel
theorem dX2_readPair_22 : decode cX2_readPair 22 = .ok (.invokevirtual 22, 3) := by decide +kernel
theorem dX2_readPair_25 : decode cX2_readPair 25 = .ok (.ifCond .eq 44, 3) := by decide +kernel
theorem dX2_readPair_28 : decode cX2_readPair 28 = .ok (.aload_n 1, 1) := by decide +kernel
theorem dX2_readPair_29 : decode cX2_readPair 29 = .ok (.bipush 44, 2) := by decide +kernel
theorem dX2_readPair_31 : decode cX2_readPair 31 = .ok (.invokevirtual 43, 3) := by decide +kernel
theorem dX2_readPair_34 : decode cX2_readPair 34 = .ok (.ifCond .eq 35, 3) := by decide +kernel
theorem dX2_readPair_37 : decode cX2_readPair 37 = .ok (.aload_n 0, 1) := by decide +kernel
theorem dX2_readPair_38 : decode cX2_readPair 38 = .ok (.aload_n 1, 1) := by decide +kernel
theorem dX2_readPair_39 : decode cX2_readPair 39 = .ok (.iload_n 2, 1) := by decide +kernel
theorem dX2_readPair_40 : decode cX2_readPair 40 = .ok (.iconst 1, 1) := by decide +kernel
theorem dX2_readPair_41 : decode cX2_readPair 41 = .ok (.iadd, 1) := by decide +kernel
theorem dX2_readPair_42 : decode cX2_readPair 42 = .ok (.invokevirtual 22, 3) := by decide +kernel
theorem dX2_readPair_45 : decode cX2_readPair 45 = .ok (.ifCond .eq 24, 3) := by decide +kernel
theorem dX2_readPair_48 : decode cX2_readPair 48 = .ok (.aload_n 1, 1) := by decide +kernel
theorem dX2_readPair_49 : decode cX2_readPair 49 = .ok (.bipush 93, 2) := by decide +kernel
theorem dX2_readPair_51 : decode cX2_readPair 51 = .ok (.invokevirtual 43, 3) := by decide +kernel
theorem dX2_readPair_54 : decode cX2_readPair 54 = .ok (.ifCond .eq 15, 3) := by decide +kernel
theorem dX2_readPair_57 : decode cX2_readPair 57 = .ok (.aload_n 0, 1) := by decide +kernel
theorem dX2_readPair_58 : decode cX2_readPair 58 = .ok (.iload_n 3, 1) := by decide +kernel
theorem dX2_readPair_59 : decode cX2_readPair 59 = .ok (.invokevirtual 46, 3) := by decide +kernel
theorem dX2_readPair_62 : decode cX2_readPair 62 = .ok (.ifCond .eq 7, 3) := by decide +kernel
theorem dX2_readPair_65 : decode cX2_readPair 65 = .ok (.iconst 1, 1) := by decide +kernel
theorem dX2_readPair_66 : decode cX2_readPair 66 = .ok (.goto 4, 3) := by decide +kernel
theorem dX2_readPair_69 : decode cX2_readPair 69 = .ok (.iconst 0, 1) := by decide +kernel
theorem dX2_readPair_70 : decode cX2_readPair 70 = .ok (.ireturn, 1) := by decide +kernel
set_option maxRecDepth 100000 in
theorem T_X2_readPair_0 {G : GE} {d C S : Nat} {P : KI} : Snd G MX2_readPair (d + 1) C S 0 (RI P) (s_aload 1 (s_iload 2 (s_call G d MX2_mayOpen 2 (s_if_eq (s_iconst 0 (s_zreturn P)) (s_aload 1 (s_iconst 91 (s_callV G d MX10_take 1 9 (s_if_eq (s_iconst 0 (s_zreturn P)) (s_aload 0 (s_aload 1 (s_iload 2 (s_iconst 1 (s_iadd (s_callV G d MX2_readSum 2 2 (s_if_eq (s_iconst 0 (s_zreturn P)) (s_aload 1 (s_iconst 44 (s_callV G d MX10_take 1 9 (s_if_eq (s_iconst 0 (s_zreturn P)) (s_aload 0 (s_aload 1 (s_iload 2 (s_iconst 1 (s_iadd (s_callV G d MX2_readSum 2 2 (s_if_eq (s_iconst 0 (s_zreturn P)) (s_aload 1 (s_iconst 93 (s_callV G d MX10_take 1 9 (s_if_eq (s_iconst 0 (s_zreturn P)) (s_aload 0 (s_iload 3 (s_callV G d MX2_append 1 2 (s_if_eq (s_iconst 0 (s_zreturn P)) (s_iconst 1 (s_zreturn P)))))))))))))))))))))))))))))))))))) := (e_aload_n dX2_readPair_0 rfl (e_iload_n dX2_readPair_1 rfl (e_callS cal_X2_mayOpen q_1008 q_1009 dX2_readPair_2 (e_if_eq (tgt := 69) dX2_readPair_5 (by decide) (e_iconst (v := 0) dX2_readPair_69 (by decide) (e_zreturn rfl dX2_readPair_70)) (e_aload_n dX2_readPair_8 rfl (e_bipush (v := 91) dX2_readPair_9 (by decide) (e_callV cl_9 cal_X10_take q_1012 q_953 q_954 dX2_readPair_11 (e_if_eq (tgt := 69) dX2_readPair_14 (by decide) (e_iconst (v := 0) dX2_readPair_69 (by decide) (e_zreturn rfl dX2_readPair_70)) (e_aload_n dX2_readPair_17 rfl (e_aload_n dX2_readPair_18 rfl (e_iload_n dX2_readPair_19 rfl (e_iconst (v := 1) dX2_readPair_20 (by decide) (e_iadd dX2_readPair_21 (e_callV cl_2 cal_X2_readSum q_983 q_985 q_24 dX2_readPair_22 (e_if_eq (tgt := 69) dX2_readPair_25 (by decide) (e_iconst (v := 0) dX2_readPair_69 (by decide) (e_zreturn rfl dX2_readPair_70)) (e_aload_n dX2_readPair_28 rfl (e_bipush (v := 44) dX2_readPair_29 (by decide) (e_callV cl_9 cal_X10_take q_1012 q_953 q_954 dX2_readPair_31 (e_if_eq (tgt := 69) dX2_readPair_34 (by decide) (e_iconst (v := 0) dX2_readPair_69 (by decide) (e_zreturn rfl dX2_readPair_70)) (e_aload_n dX2_readPair_37 rfl (e_aload_n dX2_readPair_38 rfl (e_iload_n dX2_readPair_39 rfl (e_iconst (v := 1) dX2_readPair_40 (by decide) (e_iadd dX2_readPair_41 (e_callV cl_2 cal_X2_readSum q_983 q_985 q_24 dX2_readPair_42 (e_if_eq (tgt := 69) dX2_readPair_45 (by decide) (e_iconst (v := 0) dX2_readPair_69 (by decide) (e_zreturn rfl dX2_readPair_70)) (e_aload_n dX2_readPair_48 rfl (e_bipush (v := 93) dX2_readPair_49 (by decide) (e_callV cl_9 cal_X10_take q_1012 q_953 q_954 dX2_readPair_51 (e_if_eq (tgt := 69) dX2_readPair_54 (by decide) (e_iconst (v := 0) dX2_readPair_69 (by decide) (e_zreturn rfl dX2_readPair_70)) (e_aload_n dX2_readPair_57 rfl (e_iload_n dX2_readPair_58 rfl (e_callV cl_2 cal_X2_append q_1000 q_1002 q_27 dX2_readPair_59 (e_if_eq (tgt := 69) dX2_readPair_62 (by decide) (e_iconst (v := 0) dX2_readPair_69 (by decide) (e_zreturn rfl dX2_readPair_70)) (e_iconst (v := 1) dX2_readPair_65 (by decide) (e_goto (tgt := 70) dX2_readPair_66 (by decide) (e_zreturn rfl dX2_readPair_70)))))))))))))))))))))))))))))))))))))
set_option maxRecDepth 100000 in
theorem V_X2_readPair_0 {G : GE} {d : Nat} {P : KI} {a : Nat → Nat → Int32} {r : Nat → Nat → Value} {N : Nat} {l0 : Nat} {l1 : Nat} {l2 : Int32} {l3 : Int32} (hs : Sp G d 0 0 MX2_mayOpen [.ref l1, .int l2] (a, r, N) (RI fun v4 a1 r2 n3 => ((v4 = 0 → (bz 0 ∧ P 0 a1 r2 n3)) ∧ (¬ v4 = 0 → (tyK l1 = (0, 9) ∧ l1 < n3 ∧ Sp G d 0 0 MX10_take [.ref l1, .int 91] (a1, r2, n3) (RI fun v8 a5 r6 n7 => ((v8 = 0 → (bz 0 ∧ P 0 a5 r6 n7)) ∧ (¬ v8 = 0 → (tyK l0 = (0, 2) ∧ l0 < n7 ∧ Sp G d 0 0 MX2_readSum [.ref l0, .ref l1, .int (l2 + 1)] (a5, r6, n7) (RI fun v12 a9 r10 n11 => ((v12 = 0 → (bz 0 ∧ P 0 a9 r10 n11)) ∧ (¬ v12 = 0 → (tyK l1 = (0, 9) ∧ l1 < n11 ∧ Sp G d 0 0 MX10_take [.ref l1, .int 44] (a9, r10, n11) (RI fun v16 a13 r14 n15 => ((v16 = 0 → (bz 0 ∧ P 0 a13 r14 n15)) ∧ (¬ v16 = 0 → (tyK l0 = (0, 2) ∧ l0 < n15 ∧ Sp G d 0 0 MX2_readSum [.ref l0, .ref l1, .int (l2 + 1)] (a13, r14, n15) (RI fun v20 a17 r18 n19 => ((v20 = 0 → (bz 0 ∧ P 0 a17 r18 n19)) ∧ (¬ v20 = 0 → (tyK l1 = (0, 9) ∧ l1 < n19 ∧ Sp G d 0 0 MX10_take [.ref l1, .int 93] (a17, r18, n19) (RI fun v24 a21 r22 n23 => ((v24 = 0 → (bz 0 ∧ P 0 a21 r22 n23)) ∧ (¬ v24 = 0 → (tyK l0 = (0, 2) ∧ l0 < n23 ∧ Sp G d 0 0 MX2_append [.ref l0, .int l3] (a21, r22, n23) (RI fun v28 a25 r26 n27 => ((v28 = 0 → (bz 0 ∧ P 0 a25 r26 n27)) ∧ (¬ v28 = 0 → (bz 1 ∧ P 1 a25 r26 n27))))))))))))))))))))))))))))) : Sp G (d + 1) 0 0 MX2_readPair [.ref l0, .ref l1, .int l2, .int l3] (a, r, N) (RI P) := Sp.mk (mc := 0) (ms := 0) [.ref l0, .ref l1, .int l2, .int l3] rfl rfl rfl rfl (T_X2_readPair_0 (C := 0) (S := 0) _ _ _ hs)
theorem dX2_mayOpen_0 : decode cX2_mayOpen 0 = .ok (.iload_n 1, 1) := by decide +kernel
theorem dX2_mayOpen_1 : decode cX2_mayOpen 1 = .ok (.bipush 6, 2) := by decide +kernel
theorem dX2_mayOpen_3 : decode cX2_mayOpen 3 = .ok (.if_icmp .lt 11, 3) := by decide +kernel
theorem dX2_mayOpen_6 : decode cX2_mayOpen 6 = .ok (.aload_n 0, 1) := by decide +kernel
theorem dX2_mayOpen_7 : decode cX2_mayOpen 7 = .ok (.iconst 3, 1) := by decide +kernel
theorem dX2_mayOpen_8 : decode cX2_mayOpen 8 = .ok (.invokevirtual 32, 3) := by decide +kernel
theorem dX2_mayOpen_11 : decode cX2_mayOpen 11 = .ok (.ifCond .eq 7, 3) := by decide +kernel
theorem dX2_mayOpen_14 : decode cX2_mayOpen 14 = .ok (.iconst 1, 1) := by decide +kernel
theorem dX2_mayOpen_15 : decode cX2_mayOpen 15 = .ok (.goto 4, 3) := by decide +kernel
theorem dX2_mayOpen_18 : decode cX2_mayOpen 18 = .ok (.iconst 0, 1) := by decide +kernel
theorem dX2_mayOpen_19 : decode cX2_mayOpen 19 = .ok (.ireturn, 1) := by decide +kernel
set_option maxRecDepth 100000 in
theorem T_X2_mayOpen_0 {G : GE} {d C S : Nat} {P : KI} : Snd G MX2_mayOpen (d + 1) C S 0 (RI P) (s_iload 1 (s_iconst 6 (s_ic_lt (s_iconst 1 (s_zreturn P)) (s_aload 0 (s_iconst 3 (s_callV G d MX10_mark 1 9 (s_if_eq (s_iconst 0 (s_zreturn P)) (s_iconst 1 (s_zreturn P))))))))) := (e_iload_n dX2_mayOpen_0 rfl (e_bipush (v := 6) dX2_mayOpen_1 (by decide) (e_ic_lt (tgt := 14) dX2_mayOpen_3 (by decide) (e_iconst (v := 1) dX2_mayOpen_14 (by decide) (e_goto (tgt := 19) dX2_mayOpen_15 (by decide) (e_zreturn rfl dX2_mayOpen_19))) (e_aload_n dX2_mayOpen_6 rfl (e_iconst (v := 3) dX2_mayOpen_7 (by decide) (e_callV cl_9 cal_X10_mark q_1011 q_881 q_882 dX2_mayOpen_8 (e_if_eq (tgt := 18) dX2_mayOpen_11 (by decide) (e_iconst (v := 0) dX2_mayOpen_18 (by decide) (e_zreturn rfl dX2_mayOpen_19)) (e_iconst (v := 1) dX2_mayOpen_14 (by decide) (e_goto (tgt := 19) dX2_mayOpen_15 (by decide) (e_zreturn rfl dX2_mayOpen_19))))))))))
set_option maxRecDepth 100000 in
theorem V_X2_mayOpen_0 {G : GE} {d : Nat} {P : KI} {a : Nat → Nat → Int32} {r : Nat → Nat → Value} {N : Nat} {l0 : Nat} {l1 : Int32} (hs : ((l1 < 6 → (bz 1 ∧ P 1 a r N)) ∧ (¬ l1 < 6 → (tyK l0 = (0, 9) ∧ l0 < N ∧ Sp G d 0 0 MX10_mark [.ref l0, .int 3] (a, r, N) (RI fun v4 a1 r2 n3 => ((v4 = 0 → (bz 0 ∧ P 0 a1 r2 n3)) ∧ (¬ v4 = 0 → (bz 1 ∧ P 1 a1 r2 n3)))))))) : Sp G (d + 1) 0 0 MX2_mayOpen [.ref l0, .int l1] (a, r, N) (RI P) := Sp.mk (mc := 0) (ms := 0) [.ref l0, .int l1] rfl rfl rfl rfl (T_X2_mayOpen_0 (C := 0) (S := 0) _ _ _ hs)
theorem dX2_wordOf_0 : decode cX2_wordOf 0 = .ok (.aload_n 0, 1) := by decide +kernel
theorem dX2_wordOf_1 : decode cX2_wordOf 1 = .ok (.ldc 73, 2) := by decide +kernel
theorem dX2_wordOf_3 : decode cX2_wordOf 3 = .ok (.invokevirtual 75, 3) := by decide +kernel
theorem dX2_wordOf_6 : decode cX2_wordOf 6 = .ok (.ifCond .eq 6, 3) := by decide +kernel
theorem dX2_wordOf_9 : decode cX2_wordOf 9 = .ok (.bipush (-7), 2) := by decide +kernel
theorem dX2_wordOf_11 : decode cX2_wordOf 11 = .ok (.ireturn, 1) := by decide +kernel
theorem dX2_wordOf_12 : decode cX2_wordOf 12 = .ok (.aload_n 0, 1) := by decide +kernel
theorem dX2_wordOf_13 : decode cX2_wordOf 13 = .ok (.ldc 79, 2) := by decide +kernel
theorem dX2_wordOf_15 : decode cX2_wordOf 15 = .ok (.invokevirtual 75, 3) := by decide +kernel
theorem dX2_wordOf_18 : decode cX2_wordOf 18 = .ok (.ifCond .eq 6, 3) := by decide +kernel
theorem dX2_wordOf_21 : decode cX2_wordOf 21 = .ok (.bipush (-8), 2) := by decide +kernel
theorem dX2_wordOf_23 : decode cX2_wordOf 23 = .ok (.ireturn, 1) := by decide +kernel
theorem dX2_wordOf_24 : decode cX2_wordOf 24 = .ok (.aload_n 0, 1) := by decide +kernel
theorem dX2_wordOf_25 : decode cX2_wordOf 25 = .ok (.ldc 81, 2) := by decide +kernel
theorem dX2_wordOf_27 : decode cX2_wordOf 27 = .ok (.invokevirtual 75, 3) := by decide +kernel
theorem dX2_wordOf_30 : decode cX2_wordOf 30 = .ok (.ifCond .eq 6, 3) := by decide +kernel
theorem dX2_wordOf_33 : decode cX2_wordOf 33 = .ok (.bipush (-9), 2) := by decide +kernel
theorem dX2_wordOf_35 : decode cX2_wordOf 35 = .ok (.ireturn, 1) := by decide +kernel
theorem dX2_wordOf_36 : decode cX2_wordOf 36 = .ok (.aload_n 0, 1) := by decide +kernel
theorem dX2_wordOf_37 : decode cX2_wordOf 37 = .ok (.ldc 83, 2) := by decide +kernel
theorem dX2_wordOf_39 : decode cX2_wordOf 39 = .ok (.invokevirtual 75, 3) := by decide +kernel
theorem dX2_wordOf_42 : decode cX2_wordOf 42 = .ok (.ifCond .eq 6, 3) := by decide +kernel
theorem dX2_wordOf_45 : decode cX2_wordOf 45 = .ok (.bipush (-10), 2) := by decide +kernel
theorem dX2_wordOf_47 : decode cX2_wordOf 47 = .ok (.ireturn, 1) := by decide +kernel
theorem dX2_wordOf_48 : decode cX2_wordOf 48 = .ok (.aload_n 0, 1) := by decide +kernel
theorem dX2_wordOf_49 : decode cX2_wordOf 49 = .ok (.ldc 85, 2) := by decide +kernel
theorem dX2_wordOf_51 : decode cX2_wordOf 51 = .ok (.invokevirtual 75, 3) := by decide +kernel
theorem dX2_wordOf_54 : decode cX2_wordOf 54 = .ok (.ifCond .eq 6, 3) := by decide +kernel
theorem dX2_wordOf_57 : decode cX2_wordOf 57 = .ok (.bipush (-11), 2) := by decide +kernel
theorem dX2_wordOf_59 : decode cX2_wordOf 59 = .ok (.ireturn, 1) := by decide +kernel
theorem dX2_wordOf_60 : decode cX2_wordOf 60 = .ok (.aload_n 0, 1) := by decide +kernel
theorem dX2_wordOf_61 : decode cX2_wordOf 61 = .ok (.ldc 87, 2) := by decide +kernel
theorem dX2_wordOf_63 : decode cX2_wordOf 63 = .ok (.invokevirtual 75, 3) := by decide +kernel
theorem dX2_wordOf_66 : decode cX2_wordOf 66 = .ok (.ifCond .eq 6, 3) := by decide +kernel
theorem dX2_wordOf_69 : decode cX2_wordOf 69 = .ok (.bipush (-12), 2) := by decide +kernel
theorem dX2_wordOf_71 : decode cX2_wordOf 71 = .ok (.ireturn, 1) := by decide +kernel
theorem dX2_wordOf_72 : decode cX2_wordOf 72 = .ok (.aload_n 0, 1) := by decide +kernel
theorem dX2_wordOf_73 : decode cX2_wordOf 73 = .ok (.ldc 89, 2) := by decide +kernel
theorem dX2_wordOf_75 : decode cX2_wordOf 75 = .ok (.invokevirtual 75, 3) := by decide +kernel
theorem dX2_wordOf_78 : decode cX2_wordOf 78 = .ok (.ifCond .eq 6, 3) := by decide +kernel
theorem dX2_wordOf_81 : decode cX2_wordOf 81 = .ok (.bipush (-13), 2) := by decide +kernel
theorem dX2_wordOf_83 : decode cX2_wordOf 83 = .ok (.ireturn, 1) := by decide +kernel
theorem dX2_wordOf_84 : decode cX2_wordOf 84 = .ok (.aload_n 0, 1) := by decide +kernel
theorem dX2_wordOf_85 : decode cX2_wordOf 85 = .ok (.ldc 91, 2) := by decide +kernel
theorem dX2_wordOf_87 : decode cX2_wordOf 87 = .ok (.invokevirtual 75, 3) := by decide +kernel
theorem dX2_wordOf_90 : decode cX2_wordOf 90 = .ok (.ifCond .eq 6, 3) := by decide +kernel
theorem dX2_wordOf_93 : decode cX2_wordOf 93 = .ok (.bipush (-14), 2) := by decide +kernel
theorem dX2_wordOf_95 : decode cX2_wordOf 95 = .ok (.ireturn, 1) := by decide +kernel
theorem dX2_wordOf_96 : decode cX2_wordOf 96 = .ok (.aload_n 0, 1) := by decide +kernel
theorem dX2_wordOf_97 : decode cX2_wordOf 97 = .ok (.ldc 93, 2) := by decide +kernel
theorem dX2_wordOf_99 : decode cX2_wordOf 99 = .ok (.invokevirtual 75, 3) := by decide +kernel
theorem dX2_wordOf_102 : decode cX2_wordOf 102 = .ok (.ifCond .eq 6, 3) := by decide +kernel
theorem dX2_wordOf_105 : decode cX2_wordOf 105 = .ok (.bipush (-15), 2) := by decide +kernel
theorem dX2_wordOf_107 : decode cX2_wordOf 107 = .ok (.ireturn, 1) := by decide +kernel
theorem dX2_wordOf_108 : decode cX2_wordOf 108 = .ok (.aload_n 0, 1) := by decide +kernel
theorem dX2_wordOf_109 : decode cX2_wordOf 109 = .ok (.ldc 95, 2) := by decide +kernel
theorem dX2_wordOf_111 : decode cX2_wordOf 111 = .ok (.invokevirtual 75, 3) := by decide +kernel
theorem dX2_wordOf_114 : decode cX2_wordOf 114 = .ok (.ifCond .eq 6, 3) := by decide +kernel
theorem dX2_wordOf_117 : decode cX2_wordOf 117 = .ok (.bipush (-5), 2) := by decide +kernel
theorem dX2_wordOf_119 : decode cX2_wordOf 119 = .ok (.ireturn, 1) := by decide +kernel
theorem dX2_wordOf_120 : decode cX2_wordOf 120 = .ok (.aload_n 0, 1) := by decide +kernel
theorem dX2_wordOf_121 : decode cX2_wordOf 121 = .ok (.ldc 97, 2) := by decide +kernel
theorem dX2_wordOf_123 : decode cX2_wordOf 123 = .ok (.invokevirtual 75, 3) := by decide +kernel
theorem dX2_wordOf_126 : decode cX2_wordOf 126 = .ok (.ifCond .eq 8, 3) := by decide +kernel
theorem dX2_wordOf_129 : decode cX2_wordOf 129 = .ok (.bipush (-6), 2) := by decide +kernel
theorem dX2_wordOf_131 : decode cX2_wordOf 131 = .ok (.goto 4, 3) := by decide +kernel
theorem dX2_wordOf_134 : decode cX2_wordOf 134 = .ok (.iconst 0, 1) := by decide +kernel
theorem dX2_wordOf_135 : decode cX2_wordOf 135 = .ok (.ireturn, 1) := by decide +kernel
set_option maxRecDepth 100000 in
theorem T_X2_wordOf_0 {G : GE} {d C S : Nat} {P : KI} : Snd G MX2_wordOf (d + 1) C S 0 (RI P) (s_aload 0 (s_ldcS 9 (s_callV G d MX10_wordIs 1 9 (s_if_eq (s_aload 0 (s_ldcS 10 (s_callV G d MX10_wordIs 1 9 (s_if_eq (s_aload 0 (s_ldcS 11 (s_callV G d MX10_wordIs 1 9 (s_if_eq (s_aload 0 (s_ldcS 4 (s_callV G d MX10_wordIs 1 9 (s_if_eq (s_aload 0 (s_ldcS 12 (s_callV G d MX10_wordIs 1 9 (s_if_eq (s_aload 0 (s_ldcS 13 (s_callV G d MX10_wordIs 1 9 (s_if_eq (s_aload 0 (s_ldcS 14 (s_callV G d MX10_wordIs 1 9 (s_if_eq (s_aload 0 (s_ldcS 15 (s_callV G d MX10_wordIs 1 9 (s_if_eq (s_aload 0 (s_ldcS 16 (s_callV G d MX10_wordIs 1 9 (s_if_eq (s_aload 0 (s_ldcS 17 (s_callV G d MX10_wordIs 1 9 (s_if_eq (s_aload 0 (s_ldcS 18 (s_callV G d MX10_wordIs 1 9 (s_if_eq (s_iconst 0 (s_ireturn P)) (s_iconst (-6) (s_ireturn P)))))) (s_iconst (-5) (s_ireturn P)))))) (s_iconst (-15) (s_ireturn P)))))) (s_iconst (-14) (s_ireturn P)))))) (s_iconst (-13) (s_ireturn P)))))) (s_iconst (-12) (s_ireturn P)))))) (s_iconst (-11) (s_ireturn P)))))) (s_iconst (-10) (s_ireturn P)))))) (s_iconst (-9) (s_ireturn P)))))) (s_iconst (-8) (s_ireturn P)))))) (s_iconst (-7) (s_ireturn P)))))) := (e_aload_n dX2_wordOf_0 rfl (e_ldcS (text := "hers") (sn := 8) (by decide +kernel) (by decide) dX2_wordOf_1 (e_callV cl_9 cal_X10_wordIs q_1018 q_823 q_824 dX2_wordOf_3 (e_if_eq (tgt := 12) dX2_wordOf_6 (by decide) (e_aload_n dX2_wordOf_12 rfl (e_ldcS (text := "his") (sn := 9) (by decide +kernel) (by decide) dX2_wordOf_13 (e_callV cl_9 cal_X10_wordIs q_1018 q_823 q_824 dX2_wordOf_15 (e_if_eq (tgt := 24) dX2_wordOf_18 (by decide) (e_aload_n dX2_wordOf_24 rfl (e_ldcS (text := "trees") (sn := 10) (by decide +kernel) (by decide) dX2_wordOf_25 (e_callV cl_9 cal_X10_wordIs q_1018 q_823 q_824 dX2_wordOf_27 (e_if_eq (tgt := 36) dX2_wordOf_30 (by decide) (e_aload_n dX2_wordOf_36 rfl (e_ldcS (text := "likes") (sn := 3) (by decide +kernel) (by decide) dX2_wordOf_37 (e_callV cl_9 cal_X10_wordIs q_1018 q_823 q_824 dX2_wordOf_39 (e_if_eq (tgt := 48) dX2_wordOf_42 (by decide) (e_aload_n dX2_wordOf_48 rfl (e_ldcS (text := "liked") (sn := 11) (by decide +kernel) (by decide) dX2_wordOf_49 (e_callV cl_9 cal_X10_wordIs q_1018 q_823 q_824 dX2_wordOf_51 (e_if_eq (tgt := 60) dX2_wordOf_54 (by decide) (e_aload_n dX2_wordOf_60 rfl (e_ldcS (text := "cross") (sn := 12) (by decide +kernel) (by decide) dX2_wordOf_61 (e_callV cl_9 cal_X10_wordIs q_1018 q_823 q_824 dX2_wordOf_63 (e_if_eq (tgt := 72) dX2_wordOf_66 (by decide) (e_aload_n dX2_wordOf_72 rfl (e_ldcS (text := "length") (sn := 13) (by decide +kernel) (by decide) dX2_wordOf_73 (e_callV cl_9 cal_X10_wordIs q_1018 q_823 q_824 dX2_wordOf_75 (e_if_eq (tgt := 84) dX2_wordOf_78 (by decide) (e_aload_n dX2_wordOf_84 rfl (e_ldcS (text := "year") (sn := 14) (by decide +kernel) (by decide) dX2_wordOf_85 (e_callV cl_9 cal_X10_wordIs q_1018 q_823 q_824 dX2_wordOf_87 (e_if_eq (tgt := 96) dX2_wordOf_90 (by decide) (e_aload_n dX2_wordOf_96 rfl (e_ldcS (text := "holes") (sn := 15) (by decide +kernel) (by decide) dX2_wordOf_97 (e_callV cl_9 cal_X10_wordIs q_1018 q_823 q_824 dX2_wordOf_99 (e_if_eq (tgt := 108) dX2_wordOf_102 (by decide) (e_aload_n dX2_wordOf_108 rfl (e_ldcS (text := "least") (sn := 16) (by decide +kernel) (by decide) dX2_wordOf_109 (e_callV cl_9 cal_X10_wordIs q_1018 q_823 q_824 dX2_wordOf_111 (e_if_eq (tgt := 120) dX2_wordOf_114 (by decide) (e_aload_n dX2_wordOf_120 rfl (e_ldcS (text := "most") (sn := 17) (by decide +kernel) (by decide) dX2_wordOf_121 (e_callV cl_9 cal_X10_wordIs q_1018 q_823 q_824 dX2_wordOf_123 (e_if_eq (tgt := 134) dX2_wordOf_126 (by decide) (e_iconst (v := 0) dX2_wordOf_134 (by decide) (e_ireturn rfl dX2_wordOf_135)) (e_bipush (v := (-6)) dX2_wordOf_129 (by decide) (e_goto (tgt := 135) dX2_wordOf_131 (by decide) (e_ireturn rfl dX2_wordOf_135))))))) (e_bipush (v := (-5)) dX2_wordOf_117 (by decide) (e_ireturn rfl dX2_wordOf_119)))))) (e_bipush (v := (-15)) dX2_wordOf_105 (by decide) (e_ireturn rfl dX2_wordOf_107)))))) (e_bipush (v := (-14)) dX2_wordOf_93 (by decide) (e_ireturn rfl dX2_wordOf_95)))))) (e_bipush (v := (-13)) dX2_wordOf_81 (by decide) (e_ireturn rfl dX2_wordOf_83)))))) (e_bipush (v := (-12)) dX2_wordOf_69 (by decide) (e_ireturn rfl dX2_wordOf_71)))))) (e_bipush (v := (-11)) dX2_wordOf_57 (by decide) (e_ireturn rfl dX2_wordOf_59)))))) (e_bipush (v := (-10)) dX2_wordOf_45 (by decide) (e_ireturn rfl dX2_wordOf_47)))))) (e_bipush (v := (-9)) dX2_wordOf_33 (by decide) (e_ireturn rfl dX2_wordOf_35)))))) (e_bipush (v := (-8)) dX2_wordOf_21 (by decide) (e_ireturn rfl dX2_wordOf_23)))))) (e_bipush (v := (-7)) dX2_wordOf_9 (by decide) (e_ireturn rfl dX2_wordOf_11))))))
set_option maxRecDepth 100000 in
theorem V_X2_wordOf_0 {G : GE} {d : Nat} {P : KI} {a : Nat → Nat → Int32} {r : Nat → Nat → Value} {N : Nat} {l0 : Nat} (hs : (tyK l0 = (0, 9) ∧ l0 < N ∧ Sp G d 0 0 MX10_wordIs [.ref l0, .float 9] (a, r, N) (RI fun v4 a1 r2 n3 => ((v4 = 0 → (tyK l0 = (0, 9) ∧ l0 < n3 ∧ Sp G d 0 0 MX10_wordIs [.ref l0, .float 10] (a1, r2, n3) (RI fun v8 a5 r6 n7 => ((v8 = 0 → (tyK l0 = (0, 9) ∧ l0 < n7 ∧ Sp G d 0 0 MX10_wordIs [.ref l0, .float 11] (a5, r6, n7) (RI fun v12 a9 r10 n11 => ((v12 = 0 → (tyK l0 = (0, 9) ∧ l0 < n11 ∧ Sp G d 0 0 MX10_wordIs [.ref l0, .float 4] (a9, r10, n11) (RI fun v16 a13 r14 n15 => ((v16 = 0 → (tyK l0 = (0, 9) ∧ l0 < n15 ∧ Sp G d 0 0 MX10_wordIs [.ref l0, .float 12] (a13, r14, n15) (RI fun v20 a17 r18 n19 => ((v20 = 0 → (tyK l0 = (0, 9) ∧ l0 < n19 ∧ Sp G d 0 0 MX10_wordIs [.ref l0, .float 13] (a17, r18, n19) (RI fun v24 a21 r22 n23 => ((v24 = 0 → (tyK l0 = (0, 9) ∧ l0 < n23 ∧ Sp G d 0 0 MX10_wordIs [.ref l0, .float 14] (a21, r22, n23) (RI fun v28 a25 r26 n27 => ((v28 = 0 → (tyK l0 = (0, 9) ∧ l0 < n27 ∧ Sp G d 0 0 MX10_wordIs [.ref l0, .float 15] (a25, r26, n27) (RI fun v32 a29 r30 n31 => ((v32 = 0 → (tyK l0 = (0, 9) ∧ l0 < n31 ∧ Sp G d 0 0 MX10_wordIs [.ref l0, .float 16] (a29, r30, n31) (RI fun v36 a33 r34 n35 => ((v36 = 0 → (tyK l0 = (0, 9) ∧ l0 < n35 ∧ Sp G d 0 0 MX10_wordIs [.ref l0, .float 17] (a33, r34, n35) (RI fun v40 a37 r38 n39 => ((v40 = 0 → (tyK l0 = (0, 9) ∧ l0 < n39 ∧ Sp G d 0 0 MX10_wordIs [.ref l0, .float 18] (a37, r38, n39) (RI fun v44 a41 r42 n43 => ((v44 = 0 → P 0 a41 r42 n43) ∧ (¬ v44 = 0 → P (-6) a41 r42 n43))))) ∧ (¬ v40 = 0 → P (-5) a37 r38 n39))))) ∧ (¬ v36 = 0 → P (-15) a33 r34 n35))))) ∧ (¬ v32 = 0 → P (-14) a29 r30 n31))))) ∧ (¬ v28 = 0 → P (-13) a25 r26 n27))))) ∧ (¬ v24 = 0 → P (-12) a21 r22 n23))))) ∧ (¬ v20 = 0 → P (-11) a17 r18 n19))))) ∧ (¬ v16 = 0 → P (-10) a13 r14 n15))))) ∧ (¬ v12 = 0 → P (-9) a9 r10 n11))))) ∧ (¬ v8 = 0 → P (-8) a5 r6 n7))))) ∧ (¬ v4 = 0 → P (-7) a1 r2 n3))))) : Sp G (d + 1) 0 0 MX2_wordOf [.ref l0] (a, r, N) (RI P) := Sp.mk (mc := 0) (ms := 0) [.ref l0] rfl rfl rfl rfl (T_X2_wordOf_0 (C := 0) (S := 0) _ _ _ hs)
theorem dX2_append_0 : decode cX2_append 0 = .ok (.aload_n 0, 1) := by decide +kernel
theorem dX2_append_1 : decode cX2_append 1 = .ok (.getfield 9, 3) := by decide +kernel
theorem dX2_append_4 : decode cX2_append 4 = .ok (.aload_n 0, 1) := by decide +kernel
theorem dX2_append_5 : decode cX2_append 5 = .ok (.getfield 18, 3) := by decide +kernel
theorem dX2_append_8 : decode cX2_append 8 = .ok (.iload_n 1, 1) := by decide +kernel
theorem dX2_append_9 : decode cX2_append 9 = .ok (.invokestatic 99, 3) := by decide +kernel
theorem dX2_append_12 : decode cX2_append 12 = .ok (.aload_n 0, 1) := by decide +kernel
theorem dX2_append_13 : decode cX2_append 13 = .ok (.dup, 1) := by decide +kernel
theorem dX2_append_14 : decode cX2_append 14 = .ok (.getfield 18, 3) := by decide +kernel
theorem dX2_append_17 : decode cX2_append 17 = .ok (.iconst 1, 1) := by decide +kernel
theorem dX2_append_18 : decode cX2_append 18 = .ok (.iadd, 1) := by decide +kernel
theorem dX2_append_19 : decode cX2_append 19 = .ok (.putfield 18, 3) := by decide +kernel
theorem dX2_append_22 : decode cX2_append 22 = .ok (.iconst 1, 1) := by decide +kernel
theorem dX2_append_23 : decode cX2_append 23 = .ok (.ireturn, 1) := by decide +kernel
set_option maxRecDepth 100000 in
theorem T_X2_append_0 {G : GE} {d C S : Nat} {P : KI} : Snd G MX2_append (d + 1) C S 0 (RI P) (s_aload 0 (s_getR 2 0 (s_aload 0 (s_getI 2 2 (s_iload 1 (s_call G d MX9_put 3 (s_aload 0 (s_dup (s_getI 2 2 (s_iconst 1 (s_iadd (s_putI 2 2 (s_iconst 1 (s_zreturn P)))))))))))))) := (e_aload_n dX2_append_0 rfl (e_getR rfl cl_2 (by decide) rfl q_259 dX2_append_1 (e_aload_n dX2_append_4 rfl (e_getI rfl cl_2 (by decide) rfl q_261 dX2_append_5 (e_iload_n dX2_append_8 rfl (e_callS cal_X9_put q_557 q_419 dX2_append_9 (e_aload_n dX2_append_12 rfl (e_dup dX2_append_13 (e_getI rfl cl_2 (by decide) rfl q_261 dX2_append_14 (e_iconst (v := 1) dX2_append_17 (by decide) (e_iadd dX2_append_18 (e_putI rfl cl_2 (by decide) rfl rfl rfl q_261 dX2_append_19 (e_iconst (v := 1) dX2_append_22 (by decide) (e_zreturn rfl dX2_append_23))))))))))))))
set_option maxRecDepth 100000 in
theorem V_X2_append_0 {G : GE} {d : Nat} {P : KI} {a : Nat → Nat → Int32} {r : Nat → Nat → Value} {N : Nat} {l0 : Nat} {l1 : Int32} (hs : (tyK l0 = (0, 2) ∧ l0 < N ∧ ∃ q1, r l0 0 = .ref q1 ∧ (tyK l0 = (0, 2) ∧ l0 < N ∧ Sp G d 0 0 MX9_put [.ref q1, .int (a l0 2), .int l1] (a, r, N) (RN fun a2 r3 n4 => (tyK l0 = (0, 2) ∧ l0 < n4 ∧ (tyK l0 = (0, 2) ∧ l0 < n4 ∧ ∀ a5, a5 = u2 a2 l0 2 ((a2 l0 2) + 1) → (bz 1 ∧ P 1 a5 r3 n4))))))) : Sp G (d + 1) 0 0 MX2_append [.ref l0, .int l1] (a, r, N) (RI P) := Sp.mk (mc := 0) (ms := 0) [.ref l0, .int l1] rfl rfl rfl rfl (T_X2_append_0 (C := 0) (S := 0) _ _ _ hs)
theorem dX2_hindrance_0 : decode cX2_hindrance 0 = .ok (.iload_n 3, 1) := by decide +kernel
theorem dX2_hindrance_1 : decode cX2_hindrance 1 = .ok (.iload 4, 2) := by decide +kernel
theorem dX2_hindrance_3 : decode cX2_hindrance 3 = .ok (.if_icmp .ne 5, 3) := by decide +kernel
theorem dX2_hindrance_6 : decode cX2_hindrance 6 = .ok (.iconst 1, 1) := by decide +kernel
theorem dX2_hindrance_7 : decode cX2_hindrance 7 = .ok (.ireturn, 1) := by decide +kernel
theorem dX2_hindrance_8 : decode cX2_hindrance 8 = .ok (.aload_n 1, 1) := by decide +kernel
theorem dX2_hindrance_9 : decode cX2_hindrance 9 = .ok (.iload_n 3, 1) := by decide +kernel
theorem dX2_hindrance_10 : decode cX2_hindrance 10 = .ok (.iload 4, 2) := by decide +kernel
theorem dX2_hindrance_12 : decode cX2_hindrance 12 = .ok (.invokevirtual 105, 3) := by decide +kernel
theorem dX2_hindrance_15 : decode cX2_hindrance 15 = .ok (.ifCond .eq 5, 3) := by decide +kernel
theorem dX2_hindrance_18 : decode cX2_hindrance 18 = .ok (.iconst 2, 1) := by decide +kernel
theorem dX2_hindrance_19 : decode cX2_hindrance 19 = .ok (.ireturn, 1) := by decide +kernel
theorem dX2_hindrance_20 : decode cX2_hindrance 20 = .ok (.aload_n 0, 1) := by decide +kernel
theorem dX2_hindrance_21 : decode cX2_hindrance 21 = .ok (.aload_n 1, 1) := by decide +kernel
theorem dX2_hindrance_22 : decode cX2_hindrance 22 = .ok (.aload_n 2, 1) := by decide +kernel
theorem dX2_hindrance_23 : decode cX2_hindrance 23 = .ok (.iload_n 3, 1) := by decide +kernel
theorem dX2_hindrance_24 : decode cX2_hindrance 24 = .ok (.iload 4, 2) := by decide +kernel
theorem dX2_hindrance_26 : decode cX2_hindrance 26 = .ok (.invokevirtual 111, 3) := by decide +kernel
theorem dX2_hindrance_29 : decode cX2_hindrance 29 = .ok (.ifCond .le 7, 3) := by decide +kernel
theorem dX2_hindrance_32 : decode cX2_hindrance 32 = .ok (.iconst 3, 1) := by decide +kernel
theorem dX2_hindrance_33 : decode cX2_hindrance 33 = .ok (.goto 4, 3) := by decide +kernel
theorem dX2_hindrance_36 : decode cX2_hindrance 36 = .ok (.iconst 0, 1) := by decide +kernel
theorem dX2_hindrance_37 : decode cX2_hindrance 37 = .ok (.ireturn, 1) := by decide +kernel
set_option maxRecDepth 100000 in
theorem T_X2_hindrance_0 {G : GE} {d C S : Nat} {P : KI} : Snd G MX2_hindrance (d + 1) C S 0 (RI P) (s_iload 3 (s_iload 4 (s_ic_ne (s_aload 1 (s_iload 3 (s_iload 4 (s_callV G d MX0_isNever 2 0 (s_if_eq (s_aload 0 (s_aload 1 (s_aload 2 (s_iload 3 (s_iload 4 (s_callV G d MX2_value 4 2 (s_if_le (s_iconst 0 (s_ireturn P)) (s_iconst 3 (s_ireturn P))))))))) (s_iconst 2 (s_ireturn P))))))) (s_iconst 1 (s_ireturn P))))) := (e_iload_n dX2_hindrance_0 rfl (e_iload dX2_hindrance_1 (e_ic_ne (tgt := 8) dX2_hindrance_3 (by decide) (e_aload_n dX2_hindrance_8 rfl (e_iload_n dX2_hindrance_9 rfl (e_iload dX2_hindrance_10 (e_callV cl_0 cal_X0_isNever q_539 q_540 q_541 dX2_hindrance_12 (e_if_eq (tgt := 20) dX2_hindrance_15 (by decide) (e_aload_n dX2_hindrance_20 rfl (e_aload_n dX2_hindrance_21 rfl (e_aload_n dX2_hindrance_22 rfl (e_iload_n dX2_hindrance_23 rfl (e_iload dX2_hindrance_24 (e_callV cl_2 cal_X2_value q_543 q_545 q_1 dX2_hindrance_26 (e_if_le (tgt := 36) dX2_hindrance_29 (by decide) (e_iconst (v := 0) dX2_hindrance_36 (by decide) (e_ireturn rfl dX2_hindrance_37)) (e_iconst (v := 3) dX2_hindrance_32 (by decide) (e_goto (tgt := 37) dX2_hindrance_33 (by decide) (e_ireturn rfl dX2_hindrance_37)))))))))) (e_iconst (v := 2) dX2_hindrance_18 (by decide) (e_ireturn rfl dX2_hindrance_19))))))) (e_iconst (v := 1) dX2_hindrance_6 (by decide) (e_ireturn rfl dX2_hindrance_7)))))
set_option maxRecDepth 100000 in
theorem V_X2_hindrance_0 {G : GE} {d : Nat} {P : KI} {a : Nat → Nat → Int32} {r : Nat → Nat → Value} {N : Nat} {l0 : Nat} {l1 : Nat} {l2 : Nat} {l3 : Int32} {l4 : Int32} (hs : ((¬ l3 = l4 → (tyK l1 = (0, 0) ∧ l1 < N ∧ Sp G d 0 0 MX0_isNever [.ref l1, .int l3, .int l4] (a, r, N) (RI fun v4 a1 r2 n3 => ((v4 = 0 → (tyK l0 = (0, 2) ∧ l0 < n3 ∧ Sp G d 0 0 MX2_value [.ref l0, .ref l1, .ref l2, .int l3, .int l4] (a1, r2, n3) (RI fun v8 a5 r6 n7 => ((v8 ≤ 0 → P 0 a5 r6 n7) ∧ (¬ v8 ≤ 0 → P 3 a5 r6 n7))))) ∧ (¬ v4 = 0 → P 2 a1 r2 n3))))) ∧ (l3 = l4 → P 1 a r N))) : Sp G (d + 1) 0 0 MX2_hindrance [.ref l0, .ref l1, .ref l2, .int l3, .int l4] (a, r, N) (RI P) := Sp.mk (mc := 0) (ms := 0) [.ref l0, .ref l1, .ref l2, .int l3, .int l4] rfl rfl rfl rfl (T_X2_hindrance_0 (C := 0) (S := 0) _ _ _ hs)
theorem dX2_value_0 : decode cX2_value 0 = .ok (.iconst 0, 1) := by decide +kernel
theorem dX2_value_1 : decode cX2_value 1 = .ok (.istore 5, 2) := by decide +kernel
theorem dX2_value_3 : decode cX2_value 3 = .ok (.iconst 0, 1) := by decide +kernel
theorem dX2_value_4 : decode cX2_value 4 = .ok (.istore 6, 2) := by decide +kernel
theorem dX2_value_6 : decode cX2_value 6 = .ok (.iload 6, 2) := by decide +kernel
theorem dX2_value_8 : decode cX2_value 8 = .ok (.aload_n 0, 1) := by decide +kernel
theorem dX2_value_9 : decode cX2_value 9 = .ok (.getfield 18, 3) := by decide +kernel
theorem dX2_value_12 : decode cX2_value 12 = .ok (.if_icmp .ge 107, 3) := by decide +kernel
theorem dX2_value_15 : decode cX2_value 15 = .ok (.aload_n 0, 1) := by decide +kernel
theorem dX2_value_16 : decode cX2_value 16 = .ok (.getfield 9, 3) := by decide +kernel
theorem dX2_value_19 : decode cX2_value 19 = .ok (.iload 6, 2) := by decide +kernel
theorem dX2_value_21 : decode cX2_value 21 = .ok (.invokestatic 115, 3) := by decide +kernel
theorem dX2_value_24 : decode cX2_value 24 = .ok (.istore 7, 2) := by decide +kernel
theorem dX2_value_26 : decode cX2_value 26 = .ok (.iload 7, 2) := by decide +kernel
theorem dX2_value_28 : decode cX2_value 28 = .ok (.iconst (-1), 1) := by decide +kernel
theorem dX2_value_29 : decode cX2_value 29 = .ok (.if_icmp .gt 52, 3) := by decide +kernel
theorem dX2_value_32 : decode cX2_value 32 = .ok (.iload 7, 2) := by decide +kernel
theorem dX2_value_34 : decode cX2_value 34 = .ok (.bipush (-6), 2) := by decide +kernel
theorem dX2_value_36 : decode cX2_value 36 = .ok (.if_icmp .lt 45, 3) := by decide +kernel
theorem dX2_value_39 : decode cX2_value 39 = .ok (.iinc 5 (-1), 3) := by decide +kernel
theorem dX2_value_42 : decode cX2_value 42 = .ok (.aload_n 0, 1) := by decide +kernel
theorem dX2_value_43 : decode cX2_value 43 = .ok (.getfield 15, 3) := by decide +kernel
theorem dX2_value_46 : decode cX2_value 46 = .ok (.iload 5, 2) := by decide +kernel
theorem dX2_value_48 : decode cX2_value 48 = .ok (.iconst 1, 1) := by decide +kernel
theorem dX2_value_49 : decode cX2_value 49 = .ok (.isub, 1) := by decide +kernel
theorem dX2_value_50 : decode cX2_value 50 = .ok (.iload 7, 2) := by decide +kernel
theorem dX2_value_52 : decode cX2_value 52 = .ok (.aload_n 0, 1) := by decide +kernel
theorem dX2_value_53 : decode cX2_value 53 = .ok (.getfield 15, 3) := by decide +kernel
theorem dX2_value_56 : decode cX2_value 56 = .ok (.iload 5, 2) := by decide +kernel
theorem dX2_value_58 : decode cX2_value 58 = .ok (.iconst 1, 1) := by decide +kernel
theorem dX2_value_59 : decode cX2_value 59 = .ok (.isub, 1) := by decide +kernel
theorem dX2_value_60 : decode cX2_value 60 = .ok (.invokestatic 115, 3) := by decide +kernel
theorem dX2_value_63 : decode cX2_value 63 = .ok (.aload_n 0, 1) := by decide +kernel
theorem dX2_value_64 : decode cX2_value 64 = .ok (.getfield 15, 3) := by decide +kernel
theorem dX2_value_67 : decode cX2_value 67 = .ok (.iload 5, 2) := by decide +kernel
theorem dX2_value_69 : decode cX2_value 69 = .ok (.invokestatic 115, 3) := by decide +kernel
theorem dX2_value_72 : decode cX2_value 72 = .ok (.invokestatic 119, 3) := by decide +kernel
theorem dX2_value_75 : decode cX2_value 75 = .ok (.invokestatic 99, 3) := by decide +kernel
theorem dX2_value_78 : decode cX2_value 78 = .ok (.goto 35, 3) := by decide +kernel
theorem dX2_value_81 : decode cX2_value 81 = .ok (.aload_n 0, 1) := by decide +kernel
theorem dX2_value_82 : decode cX2_value 82 = .ok (.getfield 15, 3) := by decide +kernel
theorem dX2_value_85 : decode cX2_value 85 = .ok (.iload 5, 2) := by decide +kernel
theorem dX2_value_87 : decode cX2_value 87 = .ok (.iload 7, 2) := by decide +kernel
theorem dX2_value_89 : decode cX2_value 89 = .ok (.ifCond .lt 8, 3) := by decide +kernel
theorem dX2_value_92 : decode cX2_value 92 = .ok (.iload 7, 2) := by decide +kernel
theorem dX2_value_94 : decode cX2_value 94 = .ok (.goto 13, 3) := by decide +kernel
theorem dX2_value_97 : decode cX2_value 97 = .ok (.iload 7, 2) := by decide +kernel
theorem dX2_value_99 : decode cX2_value 99 = .ok (.aload_n 1, 1) := by decide +kernel
theorem dX2_value_100 : decode cX2_value 100 = .ok (.aload_n 2, 1) := by decide +kernel
theorem dX2_value_101 : decode cX2_value 101 = .ok (.iload_n 3, 1) := by decide +kernel
theorem dX2_value_102 : decode cX2_value 102 = .ok (.iload 4, 2) := by decide +kernel
theorem dX2_value_104 : decode cX2_value 104 = .ok (.invokestatic 123, 3) := by decide +kernel
theorem dX2_value_107 : decode cX2_value 107 = .ok (.invokestatic 99, 3) := by decide +kernel
theorem dX2_value_110 : decode cX2_value 110 = .ok (.iinc 5 1, 3) := by decide +kernel
theorem dX2_value_113 : decode cX2_value 113 = .ok (.iinc 6 1, 3) := by decide +kernel
theorem dX2_value_116 : decode cX2_value 116 = .ok (.goto (-110), 3) := by decide +kernel
theorem dX2_value_119 : decode cX2_value 119 = .ok (.aload_n 0, 1) := by decide +kernel
theorem dX2_value_120 : decode cX2_value 120 = .ok (.getfield 18, 3) := by decide +kernel
theorem dX2_value_123 : decode cX2_value 123 = .ok (.ifCond .ne 7, 3) := by decide +kernel
theorem dX2_value_126 : decode cX2_value 126 = .ok (.iconst 0, 1) := by decide +kernel
theorem dX2_value_127 : decode cX2_value 127 = .ok (.goto 11, 3) := by decide +kernel
theorem dX2_value_130 : decode cX2_value 130 = .ok (.aload_n 0, 1) := by decide +kernel
theorem dX2_value_131 : decode cX2_value 131 = .ok (.getfield 15, 3) := by decide +kernel
theorem dX2_value_134 : decode cX2_value 134 = .ok (.iconst 0, 1) := by decide +kernel
theorem dX2_value_135 : decode cX2_value 135 = .ok (.invokestatic 115, 3) := by decide +kernel
theorem dX2_value_138 : decode cX2_value 138 = .ok (.ireturn, 1) := by decide +kernel
set_option maxRecDepth 100000 in
theorem T_X2_value_0 {G : GE} {d C S : Nat} {P : KI} : Snd G MX2_value (d + 1) C S 0 (RI P) (s_iconst 0 (s_istore 5 (s_iconst 0 (s_istore 6 (fun L st h => E G MX2_value (d + 1) C S 6 (msk [true, true, true, true, true, true, true, false] L) st h (RI P)))))) := (e_iconst (v := 0) dX2_value_0 (by decide) (e_istore dX2_value_1 (by decide) (e_iconst (v := 0) dX2_value_3 (by decide) (e_istore dX2_value_4 (by decide) (e_msk [true, true, true, true, true, true, true, false])))))
set_option maxRecDepth 100000 in
theorem V_X2_value_0 {G : GE} {d : Nat} {P : KI} {a : Nat → Nat → Int32} {r : Nat → Nat → Value} {N : Nat} {l0 : Nat} {l1 : Nat} {l2 : Nat} {l3 : Int32} {l4 : Int32} (hs : E G MX2_value (d + 1) 0 0 6 [.ref l0, .ref l1, .ref l2, .int l3, .int l4, .int 0, .int 0, .null] [] (a, r, N) (RI P)) : Sp G (d + 1) 0 0 MX2_value [.ref l0, .ref l1, .ref l2, .int l3, .int l4] (a, r, N) (RI P) := Sp.mk (mc := 0) (ms := 0) [.ref l0, .ref l1, .ref l2, .int l3, .int l4, .null, .null, .null] rfl rfl rfl rfl (T_X2_value_0 (C := 0) (S := 0) _ _ _ hs)
set_option maxRecDepth 100000 in
theorem T_X2_value_6 {G : GE} {d C S : Nat} {P : KI} : Snd G MX2_value (d + 1) C S 6 (RI P) (s_iload 6 (s_aload 0 (s_getI 2 2 (s_ic_ge (s_aload 0 (s_getI 2 2 (s_if_ne (s_aload 0 (s_getR 2 1 (s_iconst 0 (s_call G d MX9_at 2 (s_ireturn P))))) (s_iconst 0 (s_ireturn P))))) (s_aload 0 (s_getR 2 0 (s_iload 6 (s_call G d MX9_at 2 (s_istore 7 (s_iload 7 (s_iconst (-1) (s_ic_gt (s_aload 0 (s_getR 2 1 (s_iload 5 (s_iload 7 (s_if_lt (s_iload 7 (s_aload 1 (s_aload 2 (s_iload 3 (s_iload 4 (s_call G d MX2_fact 5 (s_call G d MX9_put 3 (s_iinc 5 1 (s_iinc 6 1 (fun L st h => E G MX2_value (d + 1) C S 6 (msk [true, true, true, true, true, true, true, false] L) st h (RI P))))))))))) (s_iload 7 (s_call G d MX9_put 3 (s_iinc 5 1 (s_iinc 6 1 (fun L st h => E G MX2_value (d + 1) C S 6 (msk [true, true, true, true, true, true, true, false] L) st h (RI P))))))))))) (s_iload 7 (s_iconst (-6) (s_ic_lt (s_aload 0 (s_getR 2 1 (s_iload 5 (s_iload 7 (s_if_lt (s_iload 7 (s_aload 1 (s_aload 2 (s_iload 3 (s_iload 4 (s_call G d MX2_fact 5 (s_call G d MX9_put 3 (s_iinc 5 1 (s_iinc 6 1 (fun L st h => E G MX2_value (d + 1) C S 6 (msk [true, true, true, true, true, true, true, false] L) st h (RI P))))))))))) (s_iload 7 (s_call G d MX9_put 3 (s_iinc 5 1 (s_iinc 6 1 (fun L st h => E G MX2_value (d + 1) C S 6 (msk [true, true, true, true, true, true, true, false] L) st h (RI P))))))))))) (s_iinc 5 (-1) (s_aload 0 (s_getR 2 1 (s_iload 5 (s_iconst 1 (s_isub (s_iload 7 (s_aload 0 (s_getR 2 1 (s_iload 5 (s_iconst 1 (s_isub (s_call G d MX9_at 2 (s_aload 0 (s_getR 2 1 (s_iload 5 (s_call G d MX9_at 2 (s_call G d MX2_joined 3 (s_call G d MX9_put 3 (s_iinc 6 1 (fun L st h => E G MX2_value (d + 1) C S 6 (msk [true, true, true, true, true, true, true, false] L) st h (RI P))))))))))))))))))))))))))))))))))))) := (e_iload dX2_value_6 (e_aload_n dX2_value_8 rfl (e_getI rfl cl_2 (by decide) rfl q_261 dX2_value_9 (e_ic_ge (tgt := 119) dX2_value_12 (by decide) (e_aload_n dX2_value_119 rfl (e_getI rfl cl_2 (by decide) rfl q_261 dX2_value_120 (e_if_ne (tgt := 130) dX2_value_123 (by decide) (e_aload_n dX2_value_130 rfl (e_getR rfl cl_2 (by decide) rfl q_260 dX2_value_131 (e_iconst (v := 0) dX2_value_134 (by decide) (e_callS cal_X9_at q_547 q_426 dX2_value_135 (e_ireturn rfl dX2_value_138))))) (e_iconst (v := 0) dX2_value_126 (by decide) (e_goto (tgt := 138) dX2_value_127 (by decide) (e_ireturn rfl dX2_value_138)))))) (e_aload_n dX2_value_15 rfl (e_getR rfl cl_2 (by decide) rfl q_259 dX2_value_16 (e_iload dX2_value_19 (e_callS cal_X9_at q_547 q_426 dX2_value_21 (e_istore dX2_value_24 (by decide) (e_iload dX2_value_26 (e_iconst (v := (-1)) dX2_value_28 (by decide) (e_ic_gt (tgt := 81) dX2_value_29 (by decide) (e_aload_n dX2_value_81 rfl (e_getR rfl cl_2 (by decide) rfl q_260 dX2_value_82 (e_iload dX2_value_85 (e_iload dX2_value_87 (e_if_lt (tgt := 97) dX2_value_89 (by decide) (e_iload dX2_value_97 (e_aload_n dX2_value_99 rfl (e_aload_n dX2_value_100 rfl (e_iload_n dX2_value_101 rfl (e_iload dX2_value_102 (e_callS cal_X2_fact q_558 q_559 dX2_value_104 (e_callS cal_X9_put q_557 q_419 dX2_value_107 (e_iinc (v := 1) dX2_value_110 (by decide) (by decide) (e_iinc (v := 1) dX2_value_113 (by decide) (by decide) (e_goto (tgt := 6) dX2_value_116 (by decide) (e_msk [true, true, true, true, true, true, true, false]))))))))))) (e_iload dX2_value_92 (e_goto (tgt := 107) dX2_value_94 (by decide) (e_callS cal_X9_put q_557 q_419 dX2_value_107 (e_iinc (v := 1) dX2_value_110 (by decide) (by decide) (e_iinc (v := 1) dX2_value_113 (by decide) (by decide) (e_goto (tgt := 6) dX2_value_116 (by decide) (e_msk [true, true, true, true, true, true, true, false])))))))))))) (e_iload dX2_value_32 (e_bipush (v := (-6)) dX2_value_34 (by decide) (e_ic_lt (tgt := 81) dX2_value_36 (by decide) (e_aload_n dX2_value_81 rfl (e_getR rfl cl_2 (by decide) rfl q_260 dX2_value_82 (e_iload dX2_value_85 (e_iload dX2_value_87 (e_if_lt (tgt := 97) dX2_value_89 (by decide) (e_iload dX2_value_97 (e_aload_n dX2_value_99 rfl (e_aload_n dX2_value_100 rfl (e_iload_n dX2_value_101 rfl (e_iload dX2_value_102 (e_callS cal_X2_fact q_558 q_559 dX2_value_104 (e_callS cal_X9_put q_557 q_419 dX2_value_107 (e_iinc (v := 1) dX2_value_110 (by decide) (by decide) (e_iinc (v := 1) dX2_value_113 (by decide) (by decide) (e_goto (tgt := 6) dX2_value_116 (by decide) (e_msk [true, true, true, true, true, true, true, false]))))))))))) (e_iload dX2_value_92 (e_goto (tgt := 107) dX2_value_94 (by decide) (e_callS cal_X9_put q_557 q_419 dX2_value_107 (e_iinc (v := 1) dX2_value_110 (by decide) (by decide) (e_iinc (v := 1) dX2_value_113 (by decide) (by decide) (e_goto (tgt := 6) dX2_value_116 (by decide) (e_msk [true, true, true, true, true, true, true, false])))))))))))) (e_iinc (v := (-1)) dX2_value_39 (by decide) (by decide) (e_aload_n dX2_value_42 rfl (e_getR rfl cl_2 (by decide) rfl q_260 dX2_value_43 (e_iload dX2_value_46 (e_iconst (v := 1) dX2_value_48 (by decide) (e_isub dX2_value_49 (e_iload dX2_value_50 (e_aload_n dX2_value_52 rfl (e_getR rfl cl_2 (by decide) rfl q_260 dX2_value_53 (e_iload dX2_value_56 (e_iconst (v := 1) dX2_value_58 (by decide) (e_isub dX2_value_59 (e_callS cal_X9_at q_547 q_426 dX2_value_60 (e_aload_n dX2_value_63 rfl (e_getR rfl cl_2 (by decide) rfl q_260 dX2_value_64 (e_iload dX2_value_67 (e_callS cal_X9_at q_547 q_426 dX2_value_69 (e_callS cal_X2_joined q_548 q_549 dX2_value_72 (e_callS cal_X9_put q_557 q_419 dX2_value_75 (e_goto (tgt := 113) dX2_value_78 (by decide) (e_iinc (v := 1) dX2_value_113 (by decide) (by decide) (e_goto (tgt := 6) dX2_value_116 (by decide) (e_msk [true, true, true, true, true, true, true, false]))))))))))))))))))))))))))))))))))))))
set_option maxRecDepth 100000 in
theorem V_X2_value_6 {G : GE} {d C S : Nat} {P : KI} {a : Nat → Nat → Int32} {r : Nat → Nat → Value} {N : Nat} {l0 : Nat} {l1 : Nat} {l2 : Nat} {l3 : Int32} {l4 : Int32} {l5 : Int32} {l6 : Int32} (hs : (tyK l0 = (0, 2) ∧ l0 < N ∧ (((a l0 2) ≤ l6 → (tyK l0 = (0, 2) ∧ l0 < N ∧ ((¬ (a l0 2) = 0 → (tyK l0 = (0, 2) ∧ l0 < N ∧ ∃ q1, r l0 1 = .ref q1 ∧ Sp G d 0 0 MX9_at [.ref q1, .int 0] (a, r, N) (RI fun v5 a2 r3 n4 => P v5 a2 r3 n4))) ∧ ((a l0 2) = 0 → P 0 a r N)))) ∧ (¬ (a l0 2) ≤ l6 → (tyK l0 = (0, 2) ∧ l0 < N ∧ ∃ q6, r l0 0 = .ref q6 ∧ Sp G d 0 0 MX9_at [.ref q6, .int l6] (a, r, N) (RI fun v10 a7 r8 n9 => (((-1) < v10 → (tyK l0 = (0, 2) ∧ l0 < n9 ∧ ∃ q11, r8 l0 1 = .ref q11 ∧ ((v10 < 0 → Sp G d 0 0 MX2_fact [.int v10, .ref l1, .ref l2, .int l3, .int l4] (a7, r8, n9) (RI fun v15 a12 r13 n14 => Sp G d 0 0 MX9_put [.ref q11, .int l5, .int v15] (a12, r13, n14) (RN fun a16 r17 n18 => E G MX2_value (d + 1) C S 6 [.ref l0, .ref l1, .ref l2, .int l3, .int l4, .int (l5 + 1), .int (l6 + 1), .null] [] (a16, r17, n18) (RI P)))) ∧ (¬ v10 < 0 → Sp G d 0 0 MX9_put [.ref q11, .int l5, .int v10] (a7, r8, n9) (RN fun a19 r20 n21 => E G MX2_value (d + 1) C S 6 [.ref l0, .ref l1, .ref l2, .int l3, .int l4, .int (l5 + 1), .int (l6 + 1), .null] [] (a19, r20, n21) (RI P)))))) ∧ (¬ (-1) < v10 → ((v10 < (-6) → (tyK l0 = (0, 2) ∧ l0 < n9 ∧ ∃ q22, r8 l0 1 = .ref q22 ∧ ((v10 < 0 → Sp G d 0 0 MX2_fact [.int v10, .ref l1, .ref l2, .int l3, .int l4] (a7, r8, n9) (RI fun v26 a23 r24 n25 => Sp G d 0 0 MX9_put [.ref q22, .int l5, .int v26] (a23, r24, n25) (RN fun a27 r28 n29 => E G MX2_value (d + 1) C S 6 [.ref l0, .ref l1, .ref l2, .int l3, .int l4, .int (l5 + 1), .int (l6 + 1), .null] [] (a27, r28, n29) (RI P)))) ∧ (¬ v10 < 0 → Sp G d 0 0 MX9_put [.ref q22, .int l5, .int v10] (a7, r8, n9) (RN fun a30 r31 n32 => E G MX2_value (d + 1) C S 6 [.ref l0, .ref l1, .ref l2, .int l3, .int l4, .int (l5 + 1), .int (l6 + 1), .null] [] (a30, r31, n32) (RI P)))))) ∧ (¬ v10 < (-6) → (tyK l0 = (0, 2) ∧ l0 < n9 ∧ ∃ q33, r8 l0 1 = .ref q33 ∧ (tyK l0 = (0, 2) ∧ l0 < n9 ∧ ∃ q34, r8 l0 1 = .ref q34 ∧ Sp G d 0 0 MX9_at [.ref q34, .int ((l5 + (-1)) - 1)] (a7, r8, n9) (RI fun v38 a35 r36 n37 => (tyK l0 = (0, 2) ∧ l0 < n37 ∧ ∃ q39, r36 l0 1 = .ref q39 ∧ Sp G d 0 0 MX9_at [.ref q39, .int (l5 + (-1))] (a35, r36, n37) (RI fun v43 a40 r41 n42 => Sp G d 0 0 MX2_joined [.int v10, .int v38, .int v43] (a40, r41, n42) (RI fun v47 a44 r45 n46 => Sp G d 0 0 MX9_put [.ref q33, .int ((l5 + (-1)) - 1), .int v47] (a44, r45, n46) (RN fun a48 r49 n50 => E G MX2_value (d + 1) C S 6 [.ref l0, .ref l1, .ref l2, .int l3, .int l4, .int (l5 + (-1)), .int (l6 + 1), .null] [] (a48, r49, n50) (RI P)))))))))))))))))) : E G MX2_value (d + 1) C S 6 [.ref l0, .ref l1, .ref l2, .int l3, .int l4, .int l5, .int l6, .null] [] (a, r, N) (RI P) := T_X2_value_6 _ _ _ hs
theorem dX2_joined_0 : decode cX2_joined 0 = .ok (.iload_n 0, 1) := by decide +kernel
theorem dX2_joined_1 : decode cX2_joined 1 = .ok (.tableswitch 65 (-5) (-1) #[59, 47, 43, 39, 35], 35) := by decide +kernel
theorem dX2_joined_36 : decode cX2_joined 36 = .ok (.iload_n 1, 1) := by decide +kernel
theorem dX2_joined_37 : decode cX2_joined 37 = .ok (.iload_n 2, 1) := by decide +kernel
theorem dX2_joined_38 : decode cX2_joined 38 = .ok (.iadd, 1) := by decide +kernel
theorem dX2_joined_39 : decode cX2_joined 39 = .ok (.ireturn, 1) := by decide +kernel
theorem dX2_joined_40 : decode cX2_joined 40 = .ok (.iload_n 1, 1) := by decide +kernel
theorem dX2_joined_41 : decode cX2_joined 41 = .ok (.iload_n 2, 1) := by decide +kernel
theorem dX2_joined_42 : decode cX2_joined 42 = .ok (.isub, 1) := by decide +kernel
theorem dX2_joined_43 : decode cX2_joined 43 = .ok (.ireturn, 1) := by decide +kernel
theorem dX2_joined_44 : decode cX2_joined 44 = .ok (.iload_n 1, 1) := by decide +kernel
theorem dX2_joined_45 : decode cX2_joined 45 = .ok (.iload_n 2, 1) := by decide +kernel
theorem dX2_joined_46 : decode cX2_joined 46 = .ok (.imul, 1) := by decide +kernel
theorem dX2_joined_47 : decode cX2_joined 47 = .ok (.ireturn, 1) := by decide +kernel
theorem dX2_joined_48 : decode cX2_joined 48 = .ok (.iload_n 2, 1) := by decide +kernel
theorem dX2_joined_49 : decode cX2_joined 49 = .ok (.ifCond .ne 7, 3) := by decide +kernel
theorem dX2_joined_52 : decode cX2_joined 52 = .ok (.iconst 0, 1) := by decide +kernel
theorem dX2_joined_53 : decode cX2_joined 53 = .ok (.goto 6, 3) := by decide +kernel
theorem dX2_joined_56 : decode cX2_joined 56 = .ok (.iload_n 1, 1) := by decide +kernel
theorem dX2_joined_57 : decode cX2_joined 57 = .ok (.iload_n 2, 1) := by decide +kernel
theorem dX2_joined_58 : decode cX2_joined 58 = .ok (.idiv, 1) := by decide +kernel
theorem dX2_joined_59 : decode cX2_joined 59 = .ok (.ireturn, 1) := by decide +kernel
theorem dX2_joined_60 : decode cX2_joined 60 = .ok (.iload_n 1, 1) := by decide +kernel
theorem dX2_joined_61 : decode cX2_joined 61 = .ok (.iload_n 2, 1) := by decide +kernel
theorem dX2_joined_62 : decode cX2_joined 62 = .ok (.invokestatic 127, 3) := by decide +kernel
theorem dX2_joined_65 : decode cX2_joined 65 = .ok (.ireturn, 1) := by decide +kernel
theorem dX2_joined_66 : decode cX2_joined 66 = .ok (.iload_n 1, 1) := by decide +kernel
theorem dX2_joined_67 : decode cX2_joined 67 = .ok (.iload_n 2, 1) := by decide +kernel
theorem dX2_joined_68 : decode cX2_joined 68 = .ok (.invokestatic 132, 3) := by decide +kernel
theorem dX2_joined_71 : decode cX2_joined 71 = .ok (.ireturn, 1) := by decide +kernel
set_option maxRecDepth 100000 in
theorem T_X2_joined_0 {G : GE} {d C S : Nat} {P : KI} : Snd G MX2_joined (d + 1) C S 0 (RI P) (s_iload 0 (s_switch [((-5), (s_iload 1 (s_iload 2 (s_min (s_ireturn P))))), ((-4), (s_iload 2 (s_if_ne (s_iload 1 (s_iload 2 (s_idiv (s_ireturn P)))) (s_iconst 0 (s_ireturn P))))), ((-3), (s_iload 1 (s_iload 2 (s_imul (s_ireturn P))))), ((-2), (s_iload 1 (s_iload 2 (s_isub (s_ireturn P))))), ((-1), (s_iload 1 (s_iload 2 (s_iadd (s_ireturn P)))))] (s_iload 1 (s_iload 2 (s_max (s_ireturn P)))))) := (e_iload_n dX2_joined_0 rfl (e_tsw (tg := [60, 48, 44, 40, 36]) (td := 66) [(-5), (-4), (-3), (-2), (-1)] rfl dX2_joined_1 (by decide) (by decide) (by decide +kernel) (by decide +kernel) (swc (t0 := 60) (e_iload_n dX2_joined_60 rfl (e_iload_n dX2_joined_61 rfl (e_min q_551 q_552 q_127 q_553 dX2_joined_62 (e_ireturn rfl dX2_joined_65)))) (swc (t0 := 48) (e_iload_n dX2_joined_48 rfl (e_if_ne (tgt := 56) dX2_joined_49 (by decide) (e_iload_n dX2_joined_56 rfl (e_iload_n dX2_joined_57 rfl (e_idiv dX2_joined_58 (e_ireturn rfl dX2_joined_59)))) (e_iconst (v := 0) dX2_joined_52 (by decide) (e_goto (tgt := 59) dX2_joined_53 (by decide) (e_ireturn rfl dX2_joined_59))))) (swc (t0 := 44) (e_iload_n dX2_joined_44 rfl (e_iload_n dX2_joined_45 rfl (e_imul dX2_joined_46 (e_ireturn rfl dX2_joined_47)))) (swc (t0 := 40) (e_iload_n dX2_joined_40 rfl (e_iload_n dX2_joined_41 rfl (e_isub dX2_joined_42 (e_ireturn rfl dX2_joined_43)))) (swc (t0 := 36) (e_iload_n dX2_joined_36 rfl (e_iload_n dX2_joined_37 rfl (e_iadd dX2_joined_38 (e_ireturn rfl dX2_joined_39)))) swn))))) (e_iload_n dX2_joined_66 rfl (e_iload_n dX2_joined_67 rfl (e_max q_554 q_555 q_127 q_556 dX2_joined_68 (e_ireturn rfl dX2_joined_71))))))
set_option maxRecDepth 100000 in
theorem V_X2_joined_0 {G : GE} {d : Nat} {P : KI} {a : Nat → Nat → Int32} {r : Nat → Nat → Value} {N : Nat} {l0 : Int32} {l1 : Int32} {l2 : Int32} (hs : ((l0 = (-5) → P (if l2 < (l1 : Int32) then l2 else l1) a r N) ∧ (¬ l0 = (-5) → ((l0 = (-4) → ((¬ l2 = 0 → (¬ (l2 : Int32) = 0 ∧ P ((l1 : Int32) / (l2 : Int32)) a r N)) ∧ (l2 = 0 → P 0 a r N))) ∧ (¬ l0 = (-4) → ((l0 = (-3) → P (l1 * l2) a r N) ∧ (¬ l0 = (-3) → ((l0 = (-2) → P (l1 - l2) a r N) ∧ (¬ l0 = (-2) → ((l0 = (-1) → P (l1 + l2) a r N) ∧ (¬ l0 = (-1) → P (if (l1 : Int32) < l2 then l2 else l1) a r N))))))))))) : Sp G (d + 1) 0 0 MX2_joined [.int l0, .int l1, .int l2] (a, r, N) (RI P) := Sp.mk (mc := 0) (ms := 0) [.int l0, .int l1, .int l2] rfl rfl rfl rfl (T_X2_joined_0 (C := 0) (S := 0) _ _ _ hs)
theorem dX2_fact_0 : decode cX2_fact 0 = .ok (.iload_n 0, 1) := by decide +kernel
theorem dX2_fact_1 : decode cX2_fact 1 = .ok (.tableswitch 115 (-14) (-7) #[110, 97, 89, 81, 73, 60, 53, 47], 47) := by decide +kernel
theorem dX2_fact_48 : decode cX2_fact 48 = .ok (.aload_n 1, 1) := by decide +kernel
theorem dX2_fact_49 : decode cX2_fact 49 = .ok (.iload_n 3, 1) := by decide +kernel
theorem dX2_fact_50 : decode cX2_fact 50 = .ok (.invokevirtual 135, 3) := by decide +kernel
theorem dX2_fact_53 : decode cX2_fact 53 = .ok (.ireturn, 1) := by decide +kernel
theorem dX2_fact_54 : decode cX2_fact 54 = .ok (.aload_n 1, 1) := by decide +kernel
theorem dX2_fact_55 : decode cX2_fact 55 = .ok (.iload 4, 2) := by decide +kernel
theorem dX2_fact_57 : decode cX2_fact 57 = .ok (.invokevirtual 135, 3) := by decide +kernel
theorem dX2_fact_60 : decode cX2_fact 60 = .ok (.ireturn, 1) := by decide +kernel
theorem dX2_fact_61 : decode cX2_fact 61 = .ok (.aload_n 2, 1) := by decide +kernel
theorem dX2_fact_62 : decode cX2_fact 62 = .ok (.iload_n 3, 1) := by decide +kernel
theorem dX2_fact_63 : decode cX2_fact 63 = .ok (.invokevirtual 139, 3) := by decide +kernel
theorem dX2_fact_66 : decode cX2_fact 66 = .ok (.aload_n 2, 1) := by decide +kernel
theorem dX2_fact_67 : decode cX2_fact 67 = .ok (.iload 4, 2) := by decide +kernel
theorem dX2_fact_69 : decode cX2_fact 69 = .ok (.invokevirtual 139, 3) := by decide +kernel
theorem dX2_fact_72 : decode cX2_fact 72 = .ok (.iadd, 1) := by decide +kernel
theorem dX2_fact_73 : decode cX2_fact 73 = .ok (.ireturn, 1) := by decide +kernel
theorem dX2_fact_74 : decode cX2_fact 74 = .ok (.aload_n 1, 1) := by decide +kernel
theorem dX2_fact_75 : decode cX2_fact 75 = .ok (.iload_n 3, 1) := by decide +kernel
theorem dX2_fact_76 : decode cX2_fact 76 = .ok (.iload 4, 2) := by decide +kernel
theorem dX2_fact_78 : decode cX2_fact 78 = .ok (.invokevirtual 144, 3) := by decide +kernel
theorem dX2_fact_81 : decode cX2_fact 81 = .ok (.ireturn, 1) := by decide +kernel
theorem dX2_fact_82 : decode cX2_fact 82 = .ok (.aload_n 1, 1) := by decide +kernel
theorem dX2_fact_83 : decode cX2_fact 83 = .ok (.iload 4, 2) := by decide +kernel
theorem dX2_fact_85 : decode cX2_fact 85 = .ok (.iload_n 3, 1) := by decide +kernel
theorem dX2_fact_86 : decode cX2_fact 86 = .ok (.invokevirtual 144, 3) := by decide +kernel
theorem dX2_fact_89 : decode cX2_fact 89 = .ok (.ireturn, 1) := by decide +kernel
theorem dX2_fact_90 : decode cX2_fact 90 = .ok (.aload_n 1, 1) := by decide +kernel
theorem dX2_fact_91 : decode cX2_fact 91 = .ok (.iload_n 3, 1) := by decide +kernel
theorem dX2_fact_92 : decode cX2_fact 92 = .ok (.iload 4, 2) := by decide +kernel
theorem dX2_fact_94 : decode cX2_fact 94 = .ok (.invokevirtual 147, 3) := by decide +kernel
theorem dX2_fact_97 : decode cX2_fact 97 = .ok (.ireturn, 1) := by decide +kernel
theorem dX2_fact_98 : decode cX2_fact 98 = .ok (.aload_n 1, 1) := by decide +kernel
theorem dX2_fact_99 : decode cX2_fact 99 = .ok (.iload_n 3, 1) := by decide +kernel
theorem dX2_fact_100 : decode cX2_fact 100 = .ok (.invokevirtual 150, 3) := by decide +kernel
theorem dX2_fact_103 : decode cX2_fact 103 = .ok (.aload_n 1, 1) := by decide +kernel
theorem dX2_fact_104 : decode cX2_fact 104 = .ok (.iload 4, 2) := by decide +kernel
theorem dX2_fact_106 : decode cX2_fact 106 = .ok (.invokevirtual 150, 3) := by decide +kernel
theorem dX2_fact_109 : decode cX2_fact 109 = .ok (.iadd, 1) := by decide +kernel
theorem dX2_fact_110 : decode cX2_fact 110 = .ok (.ireturn, 1) := by decide +kernel
theorem dX2_fact_111 : decode cX2_fact 111 = .ok (.aload_n 2, 1) := by decide +kernel
theorem dX2_fact_112 : decode cX2_fact 112 = .ok (.invokevirtual 153, 3) := by decide +kernel
theorem dX2_fact_115 : decode cX2_fact 115 = .ok (.ireturn, 1) := by decide +kernel
theorem dX2_fact_116 : decode cX2_fact 116 = .ok (.aload_n 2, 1) := by decide +kernel
theorem dX2_fact_117 : decode cX2_fact 117 = .ok (.iload_n 3, 1) := by decide +kernel
theorem dX2_fact_118 : decode cX2_fact 118 = .ok (.invokevirtual 157, 3) := by decide +kernel
theorem dX2_fact_121 : decode cX2_fact 121 = .ok (.aload_n 2, 1) := by decide +kernel
theorem dX2_fact_122 : decode cX2_fact 122 = .ok (.iload 4, 2) := by decide +kernel
theorem dX2_fact_124 : decode cX2_fact 124 = .ok (.invokevirtual 157, 3) := by decide +kernel
theorem dX2_fact_127 : decode cX2_fact 127 = .ok (.iadd, 1) := by decide +kernel
theorem dX2_fact_128 : decode cX2_fact 128 = .ok (.ireturn, 1) := by decide +kernel
set_option maxRecDepth 100000 in
theorem T_X2_fact_0 {G : GE} {d C S : Nat} {P : KI} : Snd G MX2_fact (d + 1) C S 0 (RI P) (s_iload 0 (s_switch [((-14), (s_aload 2 (s_callV G d MX4_yearNow 0 4 (s_ireturn P)))), ((-13), (s_aload 1 (s_iload 3 (s_callV G d MX0_lengthOf 1 0 (s_aload 1 (s_iload 4 (s_callV G d MX0_lengthOf 1 0 (s_iadd (s_ireturn P))))))))), ((-12), (s_aload 1 (s_iload 3 (s_iload 4 (s_callV G d MX0_commonCorners 2 0 (s_ireturn P)))))), ((-11), (s_aload 1 (s_iload 4 (s_iload 3 (s_callV G d MX0_liking 2 0 (s_ireturn P)))))), ((-10), (s_aload 1 (s_iload 3 (s_iload 4 (s_callV G d MX0_liking 2 0 (s_ireturn P)))))), ((-9), (s_aload 2 (s_iload 3 (s_callV G d MX4_treesOf 1 4 (s_aload 2 (s_iload 4 (s_callV G d MX4_treesOf 1 4 (s_iadd (s_ireturn P))))))))), ((-8), (s_aload 1 (s_iload 4 (s_callV G d MX0_housesOf 1 0 (s_ireturn P))))), ((-7), (s_aload 1 (s_iload 3 (s_callV G d MX0_housesOf 1 0 (s_ireturn P)))))] (s_aload 2 (s_iload 3 (s_callV G d MX4_holesOf 1 4 (s_aload 2 (s_iload 4 (s_callV G d MX4_holesOf 1 4 (s_iadd (s_ireturn P)))))))))) := (e_iload_n dX2_fact_0 rfl (e_tsw (tg := [111, 98, 90, 82, 74, 61, 54, 48]) (td := 116) [(-14), (-13), (-12), (-11), (-10), (-9), (-8), (-7)] rfl dX2_fact_1 (by decide) (by decide) (by decide +kernel) (by decide +kernel) (swc (t0 := 111) (e_aload_n dX2_fact_111 rfl (e_callV cl_4 cal_X4_yearNow q_581 q_582 q_583 dX2_fact_112 (e_ireturn rfl dX2_fact_115))) (swc (t0 := 98) (e_aload_n dX2_fact_98 rfl (e_iload_n dX2_fact_99 rfl (e_callV cl_0 cal_X0_lengthOf q_577 q_578 q_579 dX2_fact_100 (e_aload_n dX2_fact_103 rfl (e_iload dX2_fact_104 (e_callV cl_0 cal_X0_lengthOf q_577 q_578 q_579 dX2_fact_106 (e_iadd dX2_fact_109 (e_ireturn rfl dX2_fact_110)))))))) (swc (t0 := 90) (e_aload_n dX2_fact_90 rfl (e_iload_n dX2_fact_91 rfl (e_iload dX2_fact_92 (e_callV cl_0 cal_X0_commonCorners q_573 q_574 q_575 dX2_fact_94 (e_ireturn rfl dX2_fact_97))))) (swc (t0 := 82) (e_aload_n dX2_fact_82 rfl (e_iload dX2_fact_83 (e_iload_n dX2_fact_85 rfl (e_callV cl_0 cal_X0_liking q_569 q_570 q_571 dX2_fact_86 (e_ireturn rfl dX2_fact_89))))) (swc (t0 := 74) (e_aload_n dX2_fact_74 rfl (e_iload_n dX2_fact_75 rfl (e_iload dX2_fact_76 (e_callV cl_0 cal_X0_liking q_569 q_570 q_571 dX2_fact_78 (e_ireturn rfl dX2_fact_81))))) (swc (t0 := 61) (e_aload_n dX2_fact_61 rfl (e_iload_n dX2_fact_62 rfl (e_callV cl_4 cal_X4_treesOf q_565 q_566 q_567 dX2_fact_63 (e_aload_n dX2_fact_66 rfl (e_iload dX2_fact_67 (e_callV cl_4 cal_X4_treesOf q_565 q_566 q_567 dX2_fact_69 (e_iadd dX2_fact_72 (e_ireturn rfl dX2_fact_73)))))))) (swc (t0 := 54) (e_aload_n dX2_fact_54 rfl (e_iload dX2_fact_55 (e_callV cl_0 cal_X0_housesOf q_561 q_562 q_563 dX2_fact_57 (e_ireturn rfl dX2_fact_60)))) (swc (t0 := 48) (e_aload_n dX2_fact_48 rfl (e_iload_n dX2_fact_49 rfl (e_callV cl_0 cal_X0_housesOf q_561 q_562 q_563 dX2_fact_50 (e_ireturn rfl dX2_fact_53)))) swn)))))))) (e_aload_n dX2_fact_116 rfl (e_iload_n dX2_fact_117 rfl (e_callV cl_4 cal_X4_holesOf q_585 q_586 q_587 dX2_fact_118 (e_aload_n dX2_fact_121 rfl (e_iload dX2_fact_122 (e_callV cl_4 cal_X4_holesOf q_585 q_586 q_587 dX2_fact_124 (e_iadd dX2_fact_127 (e_ireturn rfl dX2_fact_128))))))))))
set_option maxRecDepth 100000 in
theorem V_X2_fact_0 {G : GE} {d : Nat} {P : KI} {a : Nat → Nat → Int32} {r : Nat → Nat → Value} {N : Nat} {l0 : Int32} {l1 : Nat} {l2 : Nat} {l3 : Int32} {l4 : Int32} (hs : ((l0 = (-14) → (tyK l2 = (0, 4) ∧ l2 < N ∧ Sp G d 0 0 MX4_yearNow [.ref l2] (a, r, N) (RI fun v4 a1 r2 n3 => P v4 a1 r2 n3))) ∧ (¬ l0 = (-14) → ((l0 = (-13) → (tyK l1 = (0, 0) ∧ l1 < N ∧ Sp G d 0 0 MX0_lengthOf [.ref l1, .int l3] (a, r, N) (RI fun v8 a5 r6 n7 => (tyK l1 = (0, 0) ∧ l1 < n7 ∧ Sp G d 0 0 MX0_lengthOf [.ref l1, .int l4] (a5, r6, n7) (RI fun v12 a9 r10 n11 => P (v8 + v12) a9 r10 n11))))) ∧ (¬ l0 = (-13) → ((l0 = (-12) → (tyK l1 = (0, 0) ∧ l1 < N ∧ Sp G d 0 0 MX0_commonCorners [.ref l1, .int l3, .int l4] (a, r, N) (RI fun v16 a13 r14 n15 => P v16 a13 r14 n15))) ∧ (¬ l0 = (-12) → ((l0 = (-11) → (tyK l1 = (0, 0) ∧ l1 < N ∧ Sp G d 0 0 MX0_liking [.ref l1, .int l4, .int l3] (a, r, N) (RI fun v20 a17 r18 n19 => P v20 a17 r18 n19))) ∧ (¬ l0 = (-11) → ((l0 = (-10) → (tyK l1 = (0, 0) ∧ l1 < N ∧ Sp G d 0 0 MX0_liking [.ref l1, .int l3, .int l4] (a, r, N) (RI fun v24 a21 r22 n23 => P v24 a21 r22 n23))) ∧ (¬ l0 = (-10) → ((l0 = (-9) → (tyK l2 = (0, 4) ∧ l2 < N ∧ Sp G d 0 0 MX4_treesOf [.ref l2, .int l3] (a, r, N) (RI fun v28 a25 r26 n27 => (tyK l2 = (0, 4) ∧ l2 < n27 ∧ Sp G d 0 0 MX4_treesOf [.ref l2, .int l4] (a25, r26, n27) (RI fun v32 a29 r30 n31 => P (v28 + v32) a29 r30 n31))))) ∧ (¬ l0 = (-9) → ((l0 = (-8) → (tyK l1 = (0, 0) ∧ l1 < N ∧ Sp G d 0 0 MX0_housesOf [.ref l1, .int l4] (a, r, N) (RI fun v36 a33 r34 n35 => P v36 a33 r34 n35))) ∧ (¬ l0 = (-8) → ((l0 = (-7) → (tyK l1 = (0, 0) ∧ l1 < N ∧ Sp G d 0 0 MX0_housesOf [.ref l1, .int l3] (a, r, N) (RI fun v40 a37 r38 n39 => P v40 a37 r38 n39))) ∧ (¬ l0 = (-7) → (tyK l2 = (0, 4) ∧ l2 < N ∧ Sp G d 0 0 MX4_holesOf [.ref l2, .int l3] (a, r, N) (RI fun v44 a41 r42 n43 => (tyK l2 = (0, 4) ∧ l2 < n43 ∧ Sp G d 0 0 MX4_holesOf [.ref l2, .int l4] (a41, r42, n43) (RI fun v48 a45 r46 n47 => P (v44 + v48) a45 r46 n47))))))))))))))))))))) : Sp G (d + 1) 0 0 MX2_fact [.int l0, .ref l1, .ref l2, .int l3, .int l4] (a, r, N) (RI P) := Sp.mk (mc := 0) (ms := 0) [.int l0, .ref l1, .ref l2, .int l3, .int l4] rfl rfl rfl rfl (T_X2_fact_0 (C := 0) (S := 0) _ _ _ hs)
