theorem dX5_init_0 : decode cX5_init 0 = .ok (.aload_n 0, 1) := by decide +kernel
theorem dX5_init_1 : decode cX5_init 1 = .ok (.invokespecial 3, 3) := by decide +kernel
theorem dX5_init_4 : decode cX5_init 4 = .ok (.aload_n 0, 1) := by decide +kernel
theorem dX5_init_5 : decode cX5_init 5 = .ok (.bipush 8, 2) := by decide +kernel
theorem dX5_init_7 : decode cX5_init 7 = .ok (.newarray .int, 2) := by decide +kernel
theorem dX5_init_9 : decode cX5_init 9 = .ok (.putfield 11, 3) := by decide +kernel
theorem dX5_init_12 : decode cX5_init 12 = .ok (.aload_n 0, 1) := by decide +kernel
theorem dX5_init_13 : decode cX5_init 13 = .ok (.bipush 8, 2) := by decide +kernel
theorem dX5_init_15 : decode cX5_init 15 = .ok (.newarray .int, 2) := by decide +kernel
theorem dX5_init_17 : decode cX5_init 17 = .ok (.putfield 15, 3) := by decide +kernel
theorem dX5_init_20 : decode cX5_init 20 = .ok (.return_, 1) := by decide +kernel
set_option maxRecDepth 100000 in
theorem T_X5_init_0 {G : GE} {d C S : Nat} {ρ : Rs} : Snd G MX5_init (d + 1) (C + 2) (S + 16) 0 ρ (s_aload 0 (s_objInit (s_aload 0 (s_iconst 8 (fun L st h => p1 st (fun x _ => x.toNatClampNeg = 8) ∧ s_newI (s_putR 5 0 (s_aload 0 (s_iconst 8 (fun L st h => p1 st (fun x _ => x.toNatClampNeg = 8) ∧ s_newI (s_putR 5 1 (s_return ρ)) L st h)))) L st h))))) := (e_aload_n dX5_init_0 rfl (e_objInit q_274 q_141 q_142 dX5_init_1 (e_aload_n dX5_init_4 rfl (e_bipush (v := 8) dX5_init_5 (by decide) (e_newI (N := 8) q_252 (by decide) dX5_init_7 (e_putRF (ty := .array .int) rfl rfl cl_5 (by decide) rfl rfl rfl (by decide +kernel) (fun _ => ⟨rfl, rfl⟩) q_275 dX5_init_9 (e_aload_n dX5_init_12 rfl (e_bipush (v := 8) dX5_init_13 (by decide) (e_newI (N := 8) q_252 (by decide) dX5_init_15 (e_putRF (ty := .array .int) rfl rfl cl_5 (by decide) rfl rfl rfl (by decide +kernel) (fun _ => ⟨rfl, rfl⟩) q_276 dX5_init_17 (e_return rfl dX5_init_20)))))))))))
theorem dX5_clear_0 : decode cX5_clear 0 = .ok (.aload_n 0, 1) := by decide +kernel
theorem dX5_clear_1 : decode cX5_clear 1 = .ok (.iconst 0, 1) := by decide +kernel
theorem dX5_clear_2 : decode cX5_clear 2 = .ok (.putfield 18, 3) := by decide +kernel
theorem dX5_clear_5 : decode cX5_clear 5 = .ok (.return_, 1) := by decide +kernel
set_option maxRecDepth 100000 in
theorem T_X5_clear_0 {G : GE} {d C S : Nat} {ρ : Rs} : Snd G MX5_clear d C S 0 ρ (s_aload 0 (s_iconst 0 (s_putI 5 2 (s_return ρ)))) := (e_aload_n dX5_clear_0 rfl (e_iconst (v := 0) dX5_clear_1 (by decide) (e_putI rfl cl_5 (by decide) rfl rfl rfl q_277 dX5_clear_2 (e_return rfl dX5_clear_5))))
theorem dX5_readAll_0 : decode cX5_readAll 0 = .ok (.aload_n 0, 1) := by decide +kernel
theorem dX5_readAll_1 : decode cX5_readAll 1 = .ok (.iconst 0, 1) := by decide +kernel
theorem dX5_readAll_2 : decode cX5_readAll 2 = .ok (.putfield 18, 3) := by decide +kernel
theorem dX5_readAll_5 : decode cX5_readAll 5 = .ok (.iconst 0, 1) := by decide +kernel
theorem dX5_readAll_6 : decode cX5_readAll 6 = .ok (.istore_n 2, 1) := by decide +kernel
theorem dX5_readAll_7 : decode cX5_readAll 7 = .ok (.iload_n 2, 1) := by decide +kernel
theorem dX5_readAll_8 : decode cX5_readAll 8 = .ok (.bipush 8, 2) := by decide +kernel
theorem dX5_readAll_10 : decode cX5_readAll 10 = .ok (.if_icmp .gt 26, 3) := by decide +kernel
theorem dX5_readAll_13 : decode cX5_readAll 13 = .ok (.aload_n 1, 1) := by decide +kernel
theorem dX5_readAll_14 : decode cX5_readAll 14 = .ok (.invokevirtual 22, 3) := by decide +kernel
theorem dX5_readAll_17 : decode cX5_readAll 17 = .ok (.ifCond .ne 19, 3) := by decide +kernel
theorem dX5_readAll_20 : decode cX5_readAll 20 = .ok (.aload_n 0, 1) := by decide +kernel
theorem dX5_readAll_21 : decode cX5_readAll 21 = .ok (.aload_n 1, 1) := by decide +kernel
theorem dX5_readAll_22 : decode cX5_readAll 22 = .ok (.invokevirtual 28, 3) := by decide +kernel
theorem dX5_readAll_25 : decode cX5_readAll 25 = .ok (.ifCond .ne 5, 3) := by decide +kernel
theorem dX5_readAll_28 : decode cX5_readAll 28 = .ok (.iconst 0, 1) := by decide +kernel
theorem dX5_readAll_29 : decode cX5_readAll 29 = .ok (.ireturn, 1) := by decide +kernel
theorem dX5_readAll_30 : decode cX5_readAll 30 = .ok (.iinc 2 1, 3) := by decide +kernel
theorem dX5_readAll_33 : decode cX5_readAll 33 = .ok (.goto (-26), 3) := by decide +kernel
theorem dX5_readAll_36 : decode cX5_readAll 36 = .ok (.iconst 1, 1) := by decide +kernel
theorem dX5_readAll_37 : decode cX5_readAll 37 = .ok (.ireturn, 1) := by decide +kernel
set_option maxRecDepth 100000 in
theorem T_X5_readAll_0 {G : GE} {d C S : Nat} {ρ : Rs} : Snd G MX5_readAll (d + 1) C S 0 ρ (s_aload 0 (s_iconst 0 (s_putI 5 2 (s_iconst 0 (s_istore 2 (fun L st h => E G MX5_readAll (d + 1) C S 7 L st h ρ)))))) := (e_aload_n dX5_readAll_0 rfl (e_iconst (v := 0) dX5_readAll_1 (by decide) (e_putI rfl cl_5 (by decide) rfl rfl rfl q_277 dX5_readAll_2 (e_iconst (v := 0) dX5_readAll_5 (by decide) (e_istore_n dX5_readAll_6 rfl (by decide) (fun _ _ _ h9 => h9))))))
set_option maxRecDepth 100000 in
theorem T_X5_readAll_7 {G : GE} {d C S : Nat} {ρ : Rs} : Snd G MX5_readAll (d + 1) C S 7 ρ (s_iload 2 (s_iconst 8 (s_ic_gt (s_iconst 1 (s_zreturn ρ)) (s_aload 1 (s_callV G d MX10_atEnd 0 9 (s_if_ne (s_iconst 1 (s_zreturn ρ)) (s_aload 0 (s_aload 1 (s_callV G d MX5_readLine 1 5 (s_if_ne (s_iinc 2 1 (fun L st h => E G MX5_readAll (d + 1) C S 7 L st h ρ)) (s_iconst 0 (s_zreturn ρ)))))))))))) := (e_iload_n dX5_readAll_7 rfl (e_bipush (v := 8) dX5_readAll_8 (by decide) (e_ic_gt (tgt := 36) dX5_readAll_10 (by decide) (e_iconst (v := 1) dX5_readAll_36 (by decide) (e_zreturn rfl dX5_readAll_37)) (e_aload_n dX5_readAll_13 rfl (e_callV cl_9 cal_X10_atEnd q_1163 q_796 q_797 dX5_readAll_14 (e_if_ne (tgt := 36) dX5_readAll_17 (by decide) (e_iconst (v := 1) dX5_readAll_36 (by decide) (e_zreturn rfl dX5_readAll_37)) (e_aload_n dX5_readAll_20 rfl (e_aload_n dX5_readAll_21 rfl (e_callV cl_5 cal_X5_readLine q_1164 q_1166 q_37 dX5_readAll_22 (e_if_ne (tgt := 30) dX5_readAll_25 (by decide) (e_iinc (v := 1) dX5_readAll_30 (by decide) (by decide) (e_goto (tgt := 7) dX5_readAll_33 (by decide) (fun _ _ _ h9 => h9))) (e_iconst (v := 0) dX5_readAll_28 (by decide) (e_zreturn rfl dX5_readAll_29))))))))))))
theorem dX5_readLine_0 : decode cX5_readLine 0 = .ok (.aload_n 1, 1) := by decide +kernel
theorem dX5_readLine_1 : decode cX5_readLine 1 = .ok (.iconst 1, 1) := by decide +kernel
theorem dX5_readLine_2 : decode cX5_readLine 2 = .ok (.bipush 40, 2) := by decide +kernel
theorem dX5_readLine_4 : decode cX5_readLine 4 = .ok (.invokevirtual 32, 3) := by decide +kernel
theorem dX5_readLine_7 : decode cX5_readLine 7 = .ok (.istore_n 2, 1) := by decide +kernel
theorem dX5_readLine_8 : decode cX5_readLine 8 = .ok (.iload_n 2, 1) := by decide +kernel
theorem dX5_readLine_9 : decode cX5_readLine 9 = .ok (.iconst (-1), 1) := by decide +kernel
theorem dX5_readLine_10 : decode cX5_readLine 10 = .ok (.if_icmp .ne 5, 3) := by decide +kernel
theorem dX5_readLine_13 : decode cX5_readLine 13 = .ok (.iconst 0, 1) := by decide +kernel
theorem dX5_readLine_14 : decode cX5_readLine 14 = .ok (.ireturn, 1) := by decide +kernel
theorem dX5_readLine_15 : decode cX5_readLine 15 = .ok (.aload_n 0, 1) := by decide +kernel
theorem dX5_readLine_16 : decode cX5_readLine 16 = .ok (.iload_n 2, 1) := by decide +kernel
theorem dX5_readLine_17 : decode cX5_readLine 17 = .ok (.invokevirtual 36, 3) := by decide +kernel
theorem dX5_readLine_20 : decode cX5_readLine 20 = .ok (.ifCond .eq 9, 3) := by decide +kernel
theorem dX5_readLine_23 : decode cX5_readLine 23 = .ok (.aload_n 1, 1) := by decide +kernel
theorem dX5_readLine_24 : decode cX5_readLine 24 = .ok (.iconst 2, 1) := by decide +kernel
theorem dX5_readLine_25 : decode cX5_readLine 25 = .ok (.invokevirtual 40, 3) := by decide +kernel
theorem dX5_readLine_28 : decode cX5_readLine 28 = .ok (.ireturn, 1) := by decide +kernel
theorem dX5_readLine_29 : decode cX5_readLine 29 = .ok (.aload_n 0, 1) := by decide +kernel
theorem dX5_readLine_30 : decode cX5_readLine 30 = .ok (.getfield 18, 3) := by decide +kernel
theorem dX5_readLine_33 : decode cX5_readLine 33 = .ok (.bipush 8, 2) := by decide +kernel
theorem dX5_readLine_35 : decode cX5_readLine 35 = .ok (.if_icmp .lt 9, 3) := by decide +kernel
theorem dX5_readLine_38 : decode cX5_readLine 38 = .ok (.aload_n 1, 1) := by decide +kernel
theorem dX5_readLine_39 : decode cX5_readLine 39 = .ok (.iconst 3, 1) := by decide +kernel
theorem dX5_readLine_40 : decode cX5_readLine 40 = .ok (.invokevirtual 40, 3) := by decide +kernel
theorem dX5_readLine_43 : decode cX5_readLine 43 = .ok (.ireturn, 1) := by decide +kernel
theorem dX5_readLine_44 : decode cX5_readLine 44 = .ok (.aload_n 1, 1) := by decide +kernel
theorem dX5_readLine_45 : decode cX5_readLine 45 = .ok (.iconst 0, 1) := by decide +kernel
theorem dX5_readLine_46 : decode cX5_readLine 46 = .ok (.bipush 20, 2) := by decide +kernel
theorem dX5_readLine_48 : decode cX5_readLine 48 = .ok (.invokevirtual 32, 3) := by decide +kernel
theorem dX5_readLine_51 : decode cX5_readLine 51 = .ok (.istore_n 3, 1) := by decide +kernel
theorem dX5_readLine_52 : decode cX5_readLine 52 = .ok (.iload_n 3, 1) := by decide +kernel
theorem dX5_readLine_53 : decode cX5_readLine 53 = .ok (.iconst (-1), 1) := by decide +kernel
theorem dX5_readLine_54 : decode cX5_readLine 54 = .ok (.if_icmp .eq 12, 3) := by decide +kernel
theorem dX5_readLine_57 : decode cX5_readLine 57 = .ok (.aload_n 1, 1) := by decide +kernel
theorem dX5_readLine_58 : decode cX5_readLine 58 = .ok (.bipush 59, 2) := by decide +kernel
theorem dX5_readLine_60 : decode cX5_readLine 60 = .ok (.invokevirtual 43, 3) := by decide +kernel
theorem dX5_readLine_63 : decode cX5_readLine 63 = .ok (.ifCond .ne 5, 3) := by decide +kernel
theorem dX5_readLine_66 : decode cX5_readLine 66 = .ok (.iconst 0, 1) := by decide +kernel
theorem dX5_readLine_67 : decode cX5_readLine 67 = .ok (.ireturn, 1) := by decide +kernel
theorem dX5_readLine_68 : decode cX5_readLine 68 = .ok (.aload_n 0, 1) := by decide +kernel
theorem dX5_readLine_69 : decode cX5_readLine 69 = .ok (.getfield 11, 3) := by decide +kernel
theorem dX5_readLine_72 : decode cX5_readLine 72 = .ok (.aload_n 0, 1) := by decide +kernel
theorem dX5_readLine_73 : decode cX5_readLine 73 = .ok (.getfield 18, 3) := by decide +kernel
theorem dX5_readLine_76 : decode cX5_readLine 76 = .ok (.iload_n 2, 1) := by decide +kernel
theorem dX5_readLine_77 : decode cX5_readLine 77 = .ok (.invokestatic 47, 3) := by decide +kernel
theorem dX5_readLine_80 : decode cX5_readLine 80 = .ok (.aload_n 0, 1) := by decide +kernel
theorem dX5_readLine_81 : decode cX5_readLine 81 = .ok (.getfield 15, 3) := by decide +kernel
theorem dX5_readLine_84 : decode cX5_readLine 84 = .ok (.aload_n 0, 1) := by decide +kernel
theorem dX5_readLine_85 : decode cX5_readLine 85 = .ok (.getfield 18, 3) := by decide +kernel
theorem dX5_readLine_88 : decode cX5_readLine 88 = .ok (.iload_n 3, 1) := by decide +kernel
theorem dX5_readLine_89 : decode cX5_readLine 89 = .ok (.invokestatic 47, 3) := by decide +kernel
theorem dX5_readLine_92 : decode cX5_readLine 92 = .ok (.aload_n 0, 1) := by decide +kernel
theorem dX5_readLine_93 : decode cX5_readLine 93 = .ok (.dup, 1) := by decide +kernel
theorem dX5_readLine_94 : decode cX5_readLine 94 = .ok (.getfield 18, 3) := by decide +kernel
theorem dX5_readLine_97 : decode cX5_readLine 97 = .ok (.iconst 1, 1) := by decide +kernel
theorem dX5_readLine_98 : decode cX5_readLine 98 = .ok (.iadd, 1) := by decide +kernel
theorem dX5_readLine_99 : decode cX5_readLine 99 = .ok (.putfield 18, 3) := by decide +kernel
theorem dX5_readLine_102 : decode cX5_readLine 102 = .ok (.iconst 1, 1) := by decide +kernel
theorem dX5_readLine_103 : decode cX5_readLine 103 = .ok (.ireturn, 1) := by decide +kernel
set_option maxRecDepth 100000 in
theorem T_X5_readLine_0 {G : GE} {d C S : Nat} {ρ : Rs} : Snd G MX5_readLine (d + 1) C S 0 ρ (s_aload 1 (s_iconst 1 (s_iconst 40 (s_callV G d MX10_readNumber 2 9 (s_istore 2 (s_iload 2 (s_iconst (-1) (s_ic_ne (s_aload 0 (s_iload 2 (s_callV G d MX5_has 1 5 (s_if_eq (s_aload 0 (s_getI 5 2 (s_iconst 8 (s_ic_lt (s_aload 1 (s_iconst 0 (s_iconst 20 (s_callV G d MX10_readNumber 2 9 (s_istore 3 (s_iload 3 (s_iconst (-1) (s_ic_eq (s_iconst 0 (s_zreturn ρ)) (s_aload 1 (s_iconst 59 (s_callV G d MX10_take 1 9 (s_if_ne (s_aload 0 (s_getR 5 0 (s_aload 0 (s_getI 5 2 (s_iload 2 (s_call G d MX9_put 3 (s_aload 0 (s_getR 5 1 (s_aload 0 (s_getI 5 2 (s_iload 3 (s_call G d MX9_put 3 (s_aload 0 (s_dup (s_getI 5 2 (s_iconst 1 (s_iadd (s_putI 5 2 (s_iconst 1 (s_zreturn ρ)))))))))))))))))))) (s_iconst 0 (s_zreturn ρ)))))))))))))) (s_aload 1 (s_iconst 3 (s_callV G d MX10_mark 1 9 (s_zreturn ρ)))))))) (s_aload 1 (s_iconst 2 (s_callV G d MX10_mark 1 9 (s_zreturn ρ)))))))) (s_iconst 0 (s_zreturn ρ)))))))))) := (e_aload_n dX5_readLine_0 rfl (e_iconst (v := 1) dX5_readLine_1 (by decide) (e_bipush (v := 40) dX5_readLine_2 (by decide) (e_callV cl_9 cal_X10_readNumber q_1168 q_893 q_894 dX5_readLine_4 (e_istore_n dX5_readLine_7 rfl (by decide) (e_iload_n dX5_readLine_8 rfl (e_iconst (v := (-1)) dX5_readLine_9 (by decide) (e_ic_ne (tgt := 15) dX5_readLine_10 (by decide) (e_aload_n dX5_readLine_15 rfl (e_iload_n dX5_readLine_16 rfl (e_callV cl_5 cal_X5_has q_1169 q_1170 q_1171 dX5_readLine_17 (e_if_eq (tgt := 29) dX5_readLine_20 (by decide) (e_aload_n dX5_readLine_29 rfl (e_getI rfl cl_5 (by decide) rfl q_277 dX5_readLine_30 (e_bipush (v := 8) dX5_readLine_33 (by decide) (e_ic_lt (tgt := 44) dX5_readLine_35 (by decide) (e_aload_n dX5_readLine_44 rfl (e_iconst (v := 0) dX5_readLine_45 (by decide) (e_bipush (v := 20) dX5_readLine_46 (by decide) (e_callV cl_9 cal_X10_readNumber q_1168 q_893 q_894 dX5_readLine_48 (e_istore_n dX5_readLine_51 rfl (by decide) (e_iload_n dX5_readLine_52 rfl (e_iconst (v := (-1)) dX5_readLine_53 (by decide) (e_ic_eq (tgt := 66) dX5_readLine_54 (by decide) (e_iconst (v := 0) dX5_readLine_66 (by decide) (e_zreturn rfl dX5_readLine_67)) (e_aload_n dX5_readLine_57 rfl (e_bipush (v := 59) dX5_readLine_58 (by decide) (e_callV cl_9 cal_X10_take q_1175 q_953 q_954 dX5_readLine_60 (e_if_ne (tgt := 68) dX5_readLine_63 (by decide) (e_aload_n dX5_readLine_68 rfl (e_getR rfl cl_5 (by decide) rfl q_275 dX5_readLine_69 (e_aload_n dX5_readLine_72 rfl (e_getI rfl cl_5 (by decide) rfl q_277 dX5_readLine_73 (e_iload_n dX5_readLine_76 rfl (e_callS cal_X9_put q_1176 q_419 dX5_readLine_77 (e_aload_n dX5_readLine_80 rfl (e_getR rfl cl_5 (by decide) rfl q_276 dX5_readLine_81 (e_aload_n dX5_readLine_84 rfl (e_getI rfl cl_5 (by decide) rfl q_277 dX5_readLine_85 (e_iload_n dX5_readLine_88 rfl (e_callS cal_X9_put q_1176 q_419 dX5_readLine_89 (e_aload_n dX5_readLine_92 rfl (e_dup dX5_readLine_93 (e_getI rfl cl_5 (by decide) rfl q_277 dX5_readLine_94 (e_iconst (v := 1) dX5_readLine_97 (by decide) (e_iadd dX5_readLine_98 (e_putI rfl cl_5 (by decide) rfl rfl rfl q_277 dX5_readLine_99 (e_iconst (v := 1) dX5_readLine_102 (by decide) (e_zreturn rfl dX5_readLine_103)))))))))))))))))))) (e_iconst (v := 0) dX5_readLine_66 (by decide) (e_zreturn rfl dX5_readLine_67)))))))))))))) (e_aload_n dX5_readLine_38 rfl (e_iconst (v := 3) dX5_readLine_39 (by decide) (e_callV cl_9 cal_X10_mark q_1174 q_881 q_882 dX5_readLine_40 (e_zreturn rfl dX5_readLine_43)))))))) (e_aload_n dX5_readLine_23 rfl (e_iconst (v := 2) dX5_readLine_24 (by decide) (e_callV cl_9 cal_X10_mark q_1174 q_881 q_882 dX5_readLine_25 (e_zreturn rfl dX5_readLine_28)))))))) (e_iconst (v := 0) dX5_readLine_13 (by decide) (e_zreturn rfl dX5_readLine_14))))))))))
theorem dX5_has_0 : decode cX5_has 0 = .ok (.iconst 0, 1) := by decide +kernel
theorem dX5_has_1 : decode cX5_has 1 = .ok (.istore_n 2, 1) := by decide +kernel
theorem dX5_has_2 : decode cX5_has 2 = .ok (.iload_n 2, 1) := by decide +kernel
theorem dX5_has_3 : decode cX5_has 3 = .ok (.aload_n 0, 1) := by decide +kernel
theorem dX5_has_4 : decode cX5_has 4 = .ok (.getfield 18, 3) := by decide +kernel
theorem dX5_has_7 : decode cX5_has 7 = .ok (.if_icmp .ge 23, 3) := by decide +kernel
theorem dX5_has_10 : decode cX5_has 10 = .ok (.aload_n 0, 1) := by decide +kernel
theorem dX5_has_11 : decode cX5_has 11 = .ok (.getfield 11, 3) := by decide +kernel
theorem dX5_has_14 : decode cX5_has 14 = .ok (.iload_n 2, 1) := by decide +kernel
theorem dX5_has_15 : decode cX5_has 15 = .ok (.invokestatic 53, 3) := by decide +kernel
theorem dX5_has_18 : decode cX5_has 18 = .ok (.iload_n 1, 1) := by decide +kernel
theorem dX5_has_19 : decode cX5_has 19 = .ok (.if_icmp .ne 5, 3) := by decide +kernel
theorem dX5_has_22 : decode cX5_has 22 = .ok (.iconst 1, 1) := by decide +kernel
theorem dX5_has_23 : decode cX5_has 23 = .ok (.ireturn, 1) := by decide +kernel
theorem dX5_has_24 : decode cX5_has 24 = .ok (.iinc 2 1, 3) := by decide +kernel
theorem dX5_has_27 : decode cX5_has 27 = .ok (.goto (-25), 3) := by decide +kernel
theorem dX5_has_30 : decode cX5_has 30 = .ok (.iconst 0, 1) := by decide +kernel
theorem dX5_has_31 : decode cX5_has 31 = .ok (.ireturn, 1) := by decide +kernel
set_option maxRecDepth 100000 in
theorem T_X5_has_0 {G : GE} {d C S : Nat} {ρ : Rs} : Snd G MX5_has (d + 1) C S 0 ρ (s_iconst 0 (s_istore 2 (fun L st h => E G MX5_has (d + 1) C S 2 L st h ρ))) := (e_iconst (v := 0) dX5_has_0 (by decide) (e_istore_n dX5_has_1 rfl (by decide) (fun _ _ _ h9 => h9)))
set_option maxRecDepth 100000 in
theorem T_X5_has_2 {G : GE} {d C S : Nat} {ρ : Rs} : Snd G MX5_has (d + 1) C S 2 ρ (s_iload 2 (s_aload 0 (s_getI 5 2 (s_ic_ge (s_iconst 0 (s_zreturn ρ)) (s_aload 0 (s_getR 5 0 (s_iload 2 (s_call G d MX9_at 2 (s_iload 1 (s_ic_ne (s_iinc 2 1 (fun L st h => E G MX5_has (d + 1) C S 2 L st h ρ)) (s_iconst 1 (s_zreturn ρ)))))))))))) := (e_iload_n dX5_has_2 rfl (e_aload_n dX5_has_3 rfl (e_getI rfl cl_5 (by decide) rfl q_277 dX5_has_4 (e_ic_ge (tgt := 30) dX5_has_7 (by decide) (e_iconst (v := 0) dX5_has_30 (by decide) (e_zreturn rfl dX5_has_31)) (e_aload_n dX5_has_10 rfl (e_getR rfl cl_5 (by decide) rfl q_275 dX5_has_11 (e_iload_n dX5_has_14 rfl (e_callS cal_X9_at q_1173 q_426 dX5_has_15 (e_iload_n dX5_has_18 rfl (e_ic_ne (tgt := 24) dX5_has_19 (by decide) (e_iinc (v := 1) dX5_has_24 (by decide) (by decide) (e_goto (tgt := 2) dX5_has_27 (by decide) (fun _ _ _ h9 => h9))) (e_iconst (v := 1) dX5_has_22 (by decide) (e_zreturn rfl dX5_has_23))))))))))))
theorem dX5_fits_0 : decode cX5_fits 0 = .ok (.aload_n 0, 1) := by decide +kernel
theorem dX5_fits_1 : decode cX5_fits 1 = .ok (.iload_n 1, 1) := by decide +kernel
theorem dX5_fits_2 : decode cX5_fits 2 = .ok (.iload_n 2, 1) := by decide +kernel
theorem dX5_fits_3 : decode cX5_fits 3 = .ok (.invokevirtual 57, 3) := by decide +kernel
theorem dX5_fits_6 : decode cX5_fits 6 = .ok (.aload_n 0, 1) := by decide +kernel
theorem dX5_fits_7 : decode cX5_fits 7 = .ok (.getfield 18, 3) := by decide +kernel
theorem dX5_fits_10 : decode cX5_fits 10 = .ok (.if_icmp .ne 7, 3) := by decide +kernel
theorem dX5_fits_13 : decode cX5_fits 13 = .ok (.iconst 1, 1) := by decide +kernel
theorem dX5_fits_14 : decode cX5_fits 14 = .ok (.goto 4, 3) := by decide +kernel
theorem dX5_fits_17 : decode cX5_fits 17 = .ok (.iconst 0, 1) := by decide +kernel
theorem dX5_fits_18 : decode cX5_fits 18 = .ok (.ireturn, 1) := by decide +kernel
set_option maxRecDepth 100000 in
theorem T_X5_fits_0 {G : GE} {d C S : Nat} {ρ : Rs} : Snd G MX5_fits (d + 1) C S 0 ρ (s_aload 0 (s_iload 1 (s_iload 2 (s_callV G d MX5_rightLines 2 5 (s_aload 0 (s_getI 5 2 (s_ic_ne (s_iconst 0 (s_zreturn ρ)) (s_iconst 1 (s_zreturn ρ))))))))) := (e_aload_n dX5_fits_0 rfl (e_iload_n dX5_fits_1 rfl (e_iload_n dX5_fits_2 rfl (e_callV cl_5 cal_X5_rightLines q_1428 q_1429 q_1430 dX5_fits_3 (e_aload_n dX5_fits_6 rfl (e_getI rfl cl_5 (by decide) rfl q_277 dX5_fits_7 (e_ic_ne (tgt := 17) dX5_fits_10 (by decide) (e_iconst (v := 0) dX5_fits_17 (by decide) (e_zreturn rfl dX5_fits_18)) (e_iconst (v := 1) dX5_fits_13 (by decide) (e_goto (tgt := 18) dX5_fits_14 (by decide) (e_zreturn rfl dX5_fits_18))))))))))
theorem dX5_rightLines_0 : decode cX5_rightLines 0 = .ok (.iconst 0, 1) := by decide +kernel
theorem dX5_rightLines_1 : decode cX5_rightLines 1 = .ok (.istore_n 3, 1) := by decide +kernel
theorem dX5_rightLines_2 : decode cX5_rightLines 2 = .ok (.iload_n 3, 1) := by decide +kernel
theorem dX5_rightLines_3 : decode cX5_rightLines 3 = .ok (.aload_n 0, 1) := by decide +kernel
theorem dX5_rightLines_4 : decode cX5_rightLines 4 = .ok (.getfield 18, 3) := by decide +kernel
theorem dX5_rightLines_7 : decode cX5_rightLines 7 = .ok (.if_icmp .ge 35, 3) := by decide +kernel
theorem dX5_rightLines_10 : decode cX5_rightLines 10 = .ok (.iload_n 1, 1) := by decide +kernel
theorem dX5_rightLines_11 : decode cX5_rightLines 11 = .ok (.iload_n 2, 1) := by decide +kernel
theorem dX5_rightLines_12 : decode cX5_rightLines 12 = .ok (.aload_n 0, 1) := by decide +kernel
theorem dX5_rightLines_13 : decode cX5_rightLines 13 = .ok (.getfield 11, 3) := by decide +kernel
theorem dX5_rightLines_16 : decode cX5_rightLines 16 = .ok (.iload_n 3, 1) := by decide +kernel
theorem dX5_rightLines_17 : decode cX5_rightLines 17 = .ok (.invokestatic 53, 3) := by decide +kernel
theorem dX5_rightLines_20 : decode cX5_rightLines 20 = .ok (.invokestatic 60, 3) := by decide +kernel
theorem dX5_rightLines_23 : decode cX5_rightLines 23 = .ok (.aload_n 0, 1) := by decide +kernel
theorem dX5_rightLines_24 : decode cX5_rightLines 24 = .ok (.getfield 15, 3) := by decide +kernel
theorem dX5_rightLines_27 : decode cX5_rightLines 27 = .ok (.iload_n 3, 1) := by decide +kernel
theorem dX5_rightLines_28 : decode cX5_rightLines 28 = .ok (.invokestatic 53, 3) := by decide +kernel
theorem dX5_rightLines_31 : decode cX5_rightLines 31 = .ok (.if_icmp .eq 5, 3) := by decide +kernel
theorem dX5_rightLines_34 : decode cX5_rightLines 34 = .ok (.iload_n 3, 1) := by decide +kernel
theorem dX5_rightLines_35 : decode cX5_rightLines 35 = .ok (.ireturn, 1) := by decide +kernel
theorem dX5_rightLines_36 : decode cX5_rightLines 36 = .ok (.iinc 3 1, 3) := by decide +kernel
theorem dX5_rightLines_39 : decode cX5_rightLines 39 = .ok (.goto (-37), 3) := by decide +kernel
theorem dX5_rightLines_42 : decode cX5_rightLines 42 = .ok (.aload_n 0, 1) := by decide +kernel
theorem dX5_rightLines_43 : decode cX5_rightLines 43 = .ok (.getfield 18, 3) := by decide +kernel
theorem dX5_rightLines_46 : decode cX5_rightLines 46 = .ok (.ireturn, 1) := by decide +kernel
set_option maxRecDepth 100000 in
theorem T_X5_rightLines_0 {G : GE} {d C S : Nat} {ρ : Rs} : Snd G MX5_rightLines (d + 1) C S 0 ρ (s_iconst 0 (s_istore 3 (fun L st h => E G MX5_rightLines (d + 1) C S 2 L st h ρ))) := (e_iconst (v := 0) dX5_rightLines_0 (by decide) (e_istore_n dX5_rightLines_1 rfl (by decide) (fun _ _ _ h9 => h9)))
set_option maxRecDepth 100000 in
theorem T_X5_rightLines_2 {G : GE} {d C S : Nat} {ρ : Rs} : Snd G MX5_rightLines (d + 1) C S 2 ρ (s_iload 3 (s_aload 0 (s_getI 5 2 (s_ic_ge (s_aload 0 (s_getI 5 2 (s_ireturn ρ))) (s_iload 1 (s_iload 2 (s_aload 0 (s_getR 5 0 (s_iload 3 (s_call G d MX9_at 2 (s_call G d MX4_houseOf 3 (s_aload 0 (s_getR 5 1 (s_iload 3 (s_call G d MX9_at 2 (s_ic_eq (s_iinc 3 1 (fun L st h => E G MX5_rightLines (d + 1) C S 2 L st h ρ)) (s_iload 3 (s_ireturn ρ)))))))))))))))))) := (e_iload_n dX5_rightLines_2 rfl (e_aload_n dX5_rightLines_3 rfl (e_getI rfl cl_5 (by decide) rfl q_277 dX5_rightLines_4 (e_ic_ge (tgt := 42) dX5_rightLines_7 (by decide) (e_aload_n dX5_rightLines_42 rfl (e_getI rfl cl_5 (by decide) rfl q_277 dX5_rightLines_43 (e_ireturn rfl dX5_rightLines_46))) (e_iload_n dX5_rightLines_10 rfl (e_iload_n dX5_rightLines_11 rfl (e_aload_n dX5_rightLines_12 rfl (e_getR rfl cl_5 (by decide) rfl q_275 dX5_rightLines_13 (e_iload_n dX5_rightLines_16 rfl (e_callS cal_X9_at q_1173 q_426 dX5_rightLines_17 (e_callS cal_X4_houseOf q_1432 q_1300 dX5_rightLines_20 (e_aload_n dX5_rightLines_23 rfl (e_getR rfl cl_5 (by decide) rfl q_276 dX5_rightLines_24 (e_iload_n dX5_rightLines_27 rfl (e_callS cal_X9_at q_1173 q_426 dX5_rightLines_28 (e_ic_eq (tgt := 36) dX5_rightLines_31 (by decide) (e_iinc (v := 1) dX5_rightLines_36 (by decide) (by decide) (e_goto (tgt := 2) dX5_rightLines_39 (by decide) (fun _ _ _ h9 => h9))) (e_iload_n dX5_rightLines_34 rfl (e_ireturn rfl dX5_rightLines_35))))))))))))))))))
theorem dX5_leftAtWorst_0 : decode cX5_leftAtWorst 0 = .ok (.iconst 1, 1) := by decide +kernel
theorem dX5_leftAtWorst_1 : decode cX5_leftAtWorst 1 = .ok (.iload_n 0, 1) := by decide +kernel
theorem dX5_leftAtWorst_2 : decode cX5_leftAtWorst 2 = .ok (.iload_n 1, 1) := by decide +kernel
theorem dX5_leftAtWorst_3 : decode cX5_leftAtWorst 3 = .ok (.invokestatic 60, 3) := by decide +kernel
theorem dX5_leftAtWorst_6 : decode cX5_leftAtWorst 6 = .ok (.istore 5, 2) := by decide +kernel
theorem dX5_leftAtWorst_8 : decode cX5_leftAtWorst 8 = .ok (.iconst 2, 1) := by decide +kernel
theorem dX5_leftAtWorst_9 : decode cX5_leftAtWorst 9 = .ok (.iload_n 0, 1) := by decide +kernel
theorem dX5_leftAtWorst_10 : decode cX5_leftAtWorst 10 = .ok (.iload_n 1, 1) := by decide +kernel
theorem dX5_leftAtWorst_11 : decode cX5_leftAtWorst 11 = .ok (.invokestatic 60, 3) := by decide +kernel
theorem dX5_leftAtWorst_14 : decode cX5_leftAtWorst 14 = .ok (.istore 6, 2) := by decide +kernel
theorem dX5_leftAtWorst_16 : decode cX5_leftAtWorst 16 = .ok (.iconst 0, 1) := by decide +kernel
theorem dX5_leftAtWorst_17 : decode cX5_leftAtWorst 17 = .ok (.iload_n 0, 1) := by decide +kernel
theorem dX5_leftAtWorst_18 : decode cX5_leftAtWorst 18 = .ok (.iload_n 1, 1) := by decide +kernel
theorem dX5_leftAtWorst_19 : decode cX5_leftAtWorst 19 = .ok (.invokestatic 60, 3) := by decide +kernel
theorem dX5_leftAtWorst_22 : decode cX5_leftAtWorst 22 = .ok (.istore 7, 2) := by decide +kernel
theorem dX5_leftAtWorst_24 : decode cX5_leftAtWorst 24 = .ok (.iload_n 2, 1) := by decide +kernel
theorem dX5_leftAtWorst_25 : decode cX5_leftAtWorst 25 = .ok (.iload 6, 2) := by decide +kernel
theorem dX5_leftAtWorst_27 : decode cX5_leftAtWorst 27 = .ok (.iload 5, 2) := by decide +kernel
theorem dX5_leftAtWorst_29 : decode cX5_leftAtWorst 29 = .ok (.if_icmp .ne 7, 3) := by decide +kernel
theorem dX5_leftAtWorst_32 : decode cX5_leftAtWorst 32 = .ok (.iload_n 3, 1) := by decide +kernel
theorem dX5_leftAtWorst_33 : decode cX5_leftAtWorst 33 = .ok (.goto 4, 3) := by decide +kernel
theorem dX5_leftAtWorst_36 : decode cX5_leftAtWorst 36 = .ok (.iconst 0, 1) := by decide +kernel
theorem dX5_leftAtWorst_37 : decode cX5_leftAtWorst 37 = .ok (.iadd, 1) := by decide +kernel
theorem dX5_leftAtWorst_38 : decode cX5_leftAtWorst 38 = .ok (.iload 7, 2) := by decide +kernel
theorem dX5_leftAtWorst_40 : decode cX5_leftAtWorst 40 = .ok (.iload 5, 2) := by decide +kernel
theorem dX5_leftAtWorst_42 : decode cX5_leftAtWorst 42 = .ok (.if_icmp .ne 8, 3) := by decide +kernel
theorem dX5_leftAtWorst_45 : decode cX5_leftAtWorst 45 = .ok (.iload 4, 2) := by decide +kernel
theorem dX5_leftAtWorst_47 : decode cX5_leftAtWorst 47 = .ok (.goto 4, 3) := by decide +kernel
theorem dX5_leftAtWorst_50 : decode cX5_leftAtWorst 50 = .ok (.iconst 0, 1) := by decide +kernel
theorem dX5_leftAtWorst_51 : decode cX5_leftAtWorst 51 = .ok (.iadd, 1) := by decide +kernel
theorem dX5_leftAtWorst_52 : decode cX5_leftAtWorst 52 = .ok (.istore 8, 2) := by decide +kernel
theorem dX5_leftAtWorst_54 : decode cX5_leftAtWorst 54 = .ok (.iload_n 3, 1) := by decide +kernel
theorem dX5_leftAtWorst_55 : decode cX5_leftAtWorst 55 = .ok (.iload 5, 2) := by decide +kernel
theorem dX5_leftAtWorst_57 : decode cX5_leftAtWorst 57 = .ok (.iload 6, 2) := by decide +kernel
theorem dX5_leftAtWorst_59 : decode cX5_leftAtWorst 59 = .ok (.if_icmp .ne 7, 3) := by decide +kernel
theorem dX5_leftAtWorst_62 : decode cX5_leftAtWorst 62 = .ok (.iload_n 2, 1) := by decide +kernel
theorem dX5_leftAtWorst_63 : decode cX5_leftAtWorst 63 = .ok (.goto 4, 3) := by decide +kernel
theorem dX5_leftAtWorst_66 : decode cX5_leftAtWorst 66 = .ok (.iconst 0, 1) := by decide +kernel
theorem dX5_leftAtWorst_67 : decode cX5_leftAtWorst 67 = .ok (.iadd, 1) := by decide +kernel
theorem dX5_leftAtWorst_68 : decode cX5_leftAtWorst 68 = .ok (.iload 7, 2) := by decide +kernel
theorem dX5_leftAtWorst_70 : decode cX5_leftAtWorst 70 = .ok (.iload 6, 2) := by decide +kernel
theorem dX5_leftAtWorst_72 : decode cX5_leftAtWorst 72 = .ok (.if_icmp .ne 8, 3) := by decide +kernel
theorem dX5_leftAtWorst_75 : decode cX5_leftAtWorst 75 = .ok (.iload 4, 2) := by decide +kernel
theorem dX5_leftAtWorst_77 : decode cX5_leftAtWorst 77 = .ok (.goto 4, 3) := by decide +kernel
theorem dX5_leftAtWorst_80 : decode cX5_leftAtWorst 80 = .ok (.iconst 0, 1) := by decide +kernel
theorem dX5_leftAtWorst_81 : decode cX5_leftAtWorst 81 = .ok (.iadd, 1) := by decide +kernel
theorem dX5_leftAtWorst_82 : decode cX5_leftAtWorst 82 = .ok (.istore 9, 2) := by decide +kernel
theorem dX5_leftAtWorst_84 : decode cX5_leftAtWorst 84 = .ok (.iload 4, 2) := by decide +kernel
theorem dX5_leftAtWorst_86 : decode cX5_leftAtWorst 86 = .ok (.iload 5, 2) := by decide +kernel
theorem dX5_leftAtWorst_88 : decode cX5_leftAtWorst 88 = .ok (.iload 7, 2) := by decide +kernel
theorem dX5_leftAtWorst_90 : decode cX5_leftAtWorst 90 = .ok (.if_icmp .ne 7, 3) := by decide +kernel
theorem dX5_leftAtWorst_93 : decode cX5_leftAtWorst 93 = .ok (.iload_n 2, 1) := by decide +kernel
theorem dX5_leftAtWorst_94 : decode cX5_leftAtWorst 94 = .ok (.goto 4, 3) := by decide +kernel
theorem dX5_leftAtWorst_97 : decode cX5_leftAtWorst 97 = .ok (.iconst 0, 1) := by decide +kernel
theorem dX5_leftAtWorst_98 : decode cX5_leftAtWorst 98 = .ok (.iadd, 1) := by decide +kernel
theorem dX5_leftAtWorst_99 : decode cX5_leftAtWorst 99 = .ok (.iload 6, 2) := by decide +kernel
theorem dX5_leftAtWorst_101 : decode cX5_leftAtWorst 101 = .ok (.iload 7, 2) := by decide +kernel
theorem dX5_leftAtWorst_103 : decode cX5_leftAtWorst 103 = .ok (.if_icmp .ne 7, 3) := by decide +kernel
theorem dX5_leftAtWorst_106 : decode cX5_leftAtWorst 106 = .ok (.iload_n 3, 1) := by decide +kernel
theorem dX5_leftAtWorst_107 : decode cX5_leftAtWorst 107 = .ok (.goto 4, 3) := by decide +kernel
theorem dX5_leftAtWorst_110 : decode cX5_leftAtWorst 110 = .ok (.iconst 0, 1) := by decide +kernel
theorem dX5_leftAtWorst_111 : decode cX5_leftAtWorst 111 = .ok (.iadd, 1) := by decide +kernel
theorem dX5_leftAtWorst_112 : decode cX5_leftAtWorst 112 = .ok (.istore 10, 2) := by decide +kernel
theorem dX5_leftAtWorst_114 : decode cX5_leftAtWorst 114 = .ok (.iload 8, 2) := by decide +kernel
theorem dX5_leftAtWorst_116 : decode cX5_leftAtWorst 116 = .ok (.iload 9, 2) := by decide +kernel
theorem dX5_leftAtWorst_118 : decode cX5_leftAtWorst 118 = .ok (.iload 10, 2) := by decide +kernel
theorem dX5_leftAtWorst_120 : decode cX5_leftAtWorst 120 = .ok (.invokestatic 66, 3) := by decide +kernel
theorem dX5_leftAtWorst_123 : decode cX5_leftAtWorst 123 = .ok (.invokestatic 66, 3) := by decide +kernel
theorem dX5_leftAtWorst_126 : decode cX5_leftAtWorst 126 = .ok (.ireturn, 1) := by decide +kernel
set_option maxRecDepth 100000 in
theorem T_X5_leftAtWorst_0 {G : GE} {d C S : Nat} {ρ : Rs} : Snd G MX5_leftAtWorst (d + 1) C S 0 ρ (s_iconst 1 (s_iload 0 (s_iload 1 (s_call G d MX4_houseOf 3 (s_istore 5 (s_iconst 2 (s_iload 0 (s_iload 1 (s_call G d MX4_houseOf 3 (s_istore 6 (s_iconst 0 (s_iload 0 (s_iload 1 (s_call G d MX4_houseOf 3 (s_istore 7 (s_iload 2 (s_iload 6 (s_iload 5 (s_ic_ne (s_iconst 0 (fun L st h => E G MX5_leftAtWorst (d + 1) C S 37 L st h ρ)) (s_iload 3 (fun L st h => E G MX5_leftAtWorst (d + 1) C S 37 L st h ρ))))))))))))))))))))) := (e_iconst (v := 1) dX5_leftAtWorst_0 (by decide) (e_iload_n dX5_leftAtWorst_1 rfl (e_iload_n dX5_leftAtWorst_2 rfl (e_callS cal_X4_houseOf q_1432 q_1300 dX5_leftAtWorst_3 (e_istore dX5_leftAtWorst_6 (by decide) (e_iconst (v := 2) dX5_leftAtWorst_8 (by decide) (e_iload_n dX5_leftAtWorst_9 rfl (e_iload_n dX5_leftAtWorst_10 rfl (e_callS cal_X4_houseOf q_1432 q_1300 dX5_leftAtWorst_11 (e_istore dX5_leftAtWorst_14 (by decide) (e_iconst (v := 0) dX5_leftAtWorst_16 (by decide) (e_iload_n dX5_leftAtWorst_17 rfl (e_iload_n dX5_leftAtWorst_18 rfl (e_callS cal_X4_houseOf q_1432 q_1300 dX5_leftAtWorst_19 (e_istore dX5_leftAtWorst_22 (by decide) (e_iload_n dX5_leftAtWorst_24 rfl (e_iload dX5_leftAtWorst_25 (e_iload dX5_leftAtWorst_27 (e_ic_ne (tgt := 36) dX5_leftAtWorst_29 (by decide) (e_iconst (v := 0) dX5_leftAtWorst_36 (by decide) (fun _ _ _ h9 => h9)) (e_iload_n dX5_leftAtWorst_32 rfl (e_goto (tgt := 37) dX5_leftAtWorst_33 (by decide) (fun _ _ _ h9 => h9))))))))))))))))))))))
set_option maxRecDepth 100000 in
theorem T_X5_leftAtWorst_37 {G : GE} {d C S : Nat} {ρ : Rs} : Snd G MX5_leftAtWorst (d + 1) C S 37 ρ (s_iadd (s_iload 7 (s_iload 5 (s_ic_ne (s_iconst 0 (s_iadd (s_istore 8 (s_iload 3 (s_iload 5 (s_iload 6 (s_ic_ne (s_iconst 0 (s_iadd (s_iload 7 (s_iload 6 (s_ic_ne (s_iconst 0 (fun L st h => E G MX5_leftAtWorst (d + 1) C S 81 L st h ρ)) (s_iload 4 (fun L st h => E G MX5_leftAtWorst (d + 1) C S 81 L st h ρ))))))) (s_iload 2 (s_iadd (s_iload 7 (s_iload 6 (s_ic_ne (s_iconst 0 (fun L st h => E G MX5_leftAtWorst (d + 1) C S 81 L st h ρ)) (s_iload 4 (fun L st h => E G MX5_leftAtWorst (d + 1) C S 81 L st h ρ)))))))))))))) (s_iload 4 (s_iadd (s_istore 8 (s_iload 3 (s_iload 5 (s_iload 6 (s_ic_ne (s_iconst 0 (s_iadd (s_iload 7 (s_iload 6 (s_ic_ne (s_iconst 0 (fun L st h => E G MX5_leftAtWorst (d + 1) C S 81 L st h ρ)) (s_iload 4 (fun L st h => E G MX5_leftAtWorst (d + 1) C S 81 L st h ρ))))))) (s_iload 2 (s_iadd (s_iload 7 (s_iload 6 (s_ic_ne (s_iconst 0 (fun L st h => E G MX5_leftAtWorst (d + 1) C S 81 L st h ρ)) (s_iload 4 (fun L st h => E G MX5_leftAtWorst (d + 1) C S 81 L st h ρ)))))))))))))))))) := (e_iadd dX5_leftAtWorst_37 (e_iload dX5_leftAtWorst_38 (e_iload dX5_leftAtWorst_40 (e_ic_ne (tgt := 50) dX5_leftAtWorst_42 (by decide) (e_iconst (v := 0) dX5_leftAtWorst_50 (by decide) (e_iadd dX5_leftAtWorst_51 (e_istore dX5_leftAtWorst_52 (by decide) (e_iload_n dX5_leftAtWorst_54 rfl (e_iload dX5_leftAtWorst_55 (e_iload dX5_leftAtWorst_57 (e_ic_ne (tgt := 66) dX5_leftAtWorst_59 (by decide) (e_iconst (v := 0) dX5_leftAtWorst_66 (by decide) (e_iadd dX5_leftAtWorst_67 (e_iload dX5_leftAtWorst_68 (e_iload dX5_leftAtWorst_70 (e_ic_ne (tgt := 80) dX5_leftAtWorst_72 (by decide) (e_iconst (v := 0) dX5_leftAtWorst_80 (by decide) (fun _ _ _ h9 => h9)) (e_iload dX5_leftAtWorst_75 (e_goto (tgt := 81) dX5_leftAtWorst_77 (by decide) (fun _ _ _ h9 => h9)))))))) (e_iload_n dX5_leftAtWorst_62 rfl (e_goto (tgt := 67) dX5_leftAtWorst_63 (by decide) (e_iadd dX5_leftAtWorst_67 (e_iload dX5_leftAtWorst_68 (e_iload dX5_leftAtWorst_70 (e_ic_ne (tgt := 80) dX5_leftAtWorst_72 (by decide) (e_iconst (v := 0) dX5_leftAtWorst_80 (by decide) (fun _ _ _ h9 => h9)) (e_iload dX5_leftAtWorst_75 (e_goto (tgt := 81) dX5_leftAtWorst_77 (by decide) (fun _ _ _ h9 => h9)))))))))))))))) (e_iload dX5_leftAtWorst_45 (e_goto (tgt := 51) dX5_leftAtWorst_47 (by decide) (e_iadd dX5_leftAtWorst_51 (e_istore dX5_leftAtWorst_52 (by decide) (e_iload_n dX5_leftAtWorst_54 rfl (e_iload dX5_leftAtWorst_55 (e_iload dX5_leftAtWorst_57 (e_ic_ne (tgt := 66) dX5_leftAtWorst_59 (by decide) (e_iconst (v := 0) dX5_leftAtWorst_66 (by decide) (e_iadd dX5_leftAtWorst_67 (e_iload dX5_leftAtWorst_68 (e_iload dX5_leftAtWorst_70 (e_ic_ne (tgt := 80) dX5_leftAtWorst_72 (by decide) (e_iconst (v := 0) dX5_leftAtWorst_80 (by decide) (fun _ _ _ h9 => h9)) (e_iload dX5_leftAtWorst_75 (e_goto (tgt := 81) dX5_leftAtWorst_77 (by decide) (fun _ _ _ h9 => h9)))))))) (e_iload_n dX5_leftAtWorst_62 rfl (e_goto (tgt := 67) dX5_leftAtWorst_63 (by decide) (e_iadd dX5_leftAtWorst_67 (e_iload dX5_leftAtWorst_68 (e_iload dX5_leftAtWorst_70 (e_ic_ne (tgt := 80) dX5_leftAtWorst_72 (by decide) (e_iconst (v := 0) dX5_leftAtWorst_80 (by decide) (fun _ _ _ h9 => h9)) (e_iload dX5_leftAtWorst_75 (e_goto (tgt := 81) dX5_leftAtWorst_77 (by decide) (fun _ _ _ h9 => h9)))))))))))))))))))))
set_option maxRecDepth 100000 in
theorem T_X5_leftAtWorst_81 {G : GE} {d C S : Nat} {ρ : Rs} : Snd G MX5_leftAtWorst (d + 1) C S 81 ρ (s_iadd (s_istore 9 (s_iload 4 (s_iload 5 (s_iload 7 (s_ic_ne (s_iconst 0 (s_iadd (s_iload 6 (s_iload 7 (s_ic_ne (s_iconst 0 (s_iadd (s_istore 10 (s_iload 8 (s_iload 9 (s_iload 10 (s_max (s_max (s_ireturn ρ))))))))) (s_iload 3 (s_iadd (s_istore 10 (s_iload 8 (s_iload 9 (s_iload 10 (s_max (s_max (s_ireturn ρ)))))))))))))) (s_iload 2 (s_iadd (s_iload 6 (s_iload 7 (s_ic_ne (s_iconst 0 (s_iadd (s_istore 10 (s_iload 8 (s_iload 9 (s_iload 10 (s_max (s_max (s_ireturn ρ))))))))) (s_iload 3 (s_iadd (s_istore 10 (s_iload 8 (s_iload 9 (s_iload 10 (s_max (s_max (s_ireturn ρ)))))))))))))))))))) := (e_iadd dX5_leftAtWorst_81 (e_istore dX5_leftAtWorst_82 (by decide) (e_iload dX5_leftAtWorst_84 (e_iload dX5_leftAtWorst_86 (e_iload dX5_leftAtWorst_88 (e_ic_ne (tgt := 97) dX5_leftAtWorst_90 (by decide) (e_iconst (v := 0) dX5_leftAtWorst_97 (by decide) (e_iadd dX5_leftAtWorst_98 (e_iload dX5_leftAtWorst_99 (e_iload dX5_leftAtWorst_101 (e_ic_ne (tgt := 110) dX5_leftAtWorst_103 (by decide) (e_iconst (v := 0) dX5_leftAtWorst_110 (by decide) (e_iadd dX5_leftAtWorst_111 (e_istore dX5_leftAtWorst_112 (by decide) (e_iload dX5_leftAtWorst_114 (e_iload dX5_leftAtWorst_116 (e_iload dX5_leftAtWorst_118 (e_max q_1454 q_555 q_127 q_556 dX5_leftAtWorst_120 (e_max q_1454 q_555 q_127 q_556 dX5_leftAtWorst_123 (e_ireturn rfl dX5_leftAtWorst_126))))))))) (e_iload_n dX5_leftAtWorst_106 rfl (e_goto (tgt := 111) dX5_leftAtWorst_107 (by decide) (e_iadd dX5_leftAtWorst_111 (e_istore dX5_leftAtWorst_112 (by decide) (e_iload dX5_leftAtWorst_114 (e_iload dX5_leftAtWorst_116 (e_iload dX5_leftAtWorst_118 (e_max q_1454 q_555 q_127 q_556 dX5_leftAtWorst_120 (e_max q_1454 q_555 q_127 q_556 dX5_leftAtWorst_123 (e_ireturn rfl dX5_leftAtWorst_126))))))))))))))) (e_iload_n dX5_leftAtWorst_93 rfl (e_goto (tgt := 98) dX5_leftAtWorst_94 (by decide) (e_iadd dX5_leftAtWorst_98 (e_iload dX5_leftAtWorst_99 (e_iload dX5_leftAtWorst_101 (e_ic_ne (tgt := 110) dX5_leftAtWorst_103 (by decide) (e_iconst (v := 0) dX5_leftAtWorst_110 (by decide) (e_iadd dX5_leftAtWorst_111 (e_istore dX5_leftAtWorst_112 (by decide) (e_iload dX5_leftAtWorst_114 (e_iload dX5_leftAtWorst_116 (e_iload dX5_leftAtWorst_118 (e_max q_1454 q_555 q_127 q_556 dX5_leftAtWorst_120 (e_max q_1454 q_555 q_127 q_556 dX5_leftAtWorst_123 (e_ireturn rfl dX5_leftAtWorst_126))))))))) (e_iload_n dX5_leftAtWorst_106 rfl (e_goto (tgt := 111) dX5_leftAtWorst_107 (by decide) (e_iadd dX5_leftAtWorst_111 (e_istore dX5_leftAtWorst_112 (by decide) (e_iload dX5_leftAtWorst_114 (e_iload dX5_leftAtWorst_116 (e_iload dX5_leftAtWorst_118 (e_max q_1454 q_555 q_127 q_556 dX5_leftAtWorst_120 (e_max q_1454 q_555 q_127 q_556 dX5_leftAtWorst_123 (e_ireturn rfl dX5_leftAtWorst_126))))))))))))))))))))))
