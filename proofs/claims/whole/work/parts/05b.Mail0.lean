theorem dX5_init_0 : decode cX5_init 0 = .ok (.aload_n 0, 1) := by decide +kernel
theorem dX5_init_1 : decode cX5_init 1 = .ok (.invokespecial 3, 3) := by decide +kernel
theorem dX5_init_4 : decode cX5_init 4 = .ok (.aload_n 0, 1) := by decide +kernel
theorem dX5_init_5 : decode cX5_init 5 = .ok (.bipush 8, 2) := by decide +kernel
theorem dX5_init_7 : decode cX5_init 7 = .ok (.newarray .int, 2) := by decide +kernel
theorem dX5_init_9 : decode cX5_init 9 = .ok (.putfield 11, 3) := by decide +kernel
theorem dX5_init_12 : decode cX5_init 12 = .ok (.aload_n 0, 1) := by decide +kernel
theorem dX5_init_13 : decode cX5_init 13 = .ok (.bipush 8, 2) := by decide +kernel
theorem dX5_init_15 : decode cX5_init 15 = .ok (.newarray .int, 2) := by decide +kernel
theorem dX5_init_17 : decode cX5_init 17 = .ok (.putfield 15, 3) := by decide +kernel
theorem dX5_init_20 : decode cX5_init 20 = .ok (.return_, 1) := by decide +kernel
set_option maxRecDepth 100000 in
theorem T_X5_init_0 {G : GE} {d C S : Nat} {P : KN} : Snd G MX5_init (d + 1) (C + 2) (S + 16) 0 (RN P) (s_aload 0 (s_objInit (s_aload 0 (s_iconst 8 (fun L st h => p1 st (fun x _ => x.toNatClampNeg = 8) ∧ s_newI (s_putR 5 0 (s_aload 0 (s_iconst 8 (fun L st h => p1 st (fun x _ => x.toNatClampNeg = 8) ∧ s_newI (s_putR 5 1 (s_return P)) L st h)))) L st h))))) := (e_aload_n dX5_init_0 rfl (e_objInit q_274 q_141 q_142 dX5_init_1 (e_aload_n dX5_init_4 rfl (e_bipush (v := 8) dX5_init_5 (by decide) (e_newI (N := 8) q_252 (by decide) dX5_init_7 (e_putRF (ty := .array .int) rfl rfl cl_5 (by decide) rfl rfl rfl (by decide +kernel) (fun _ => ⟨rfl, rfl⟩) q_275 dX5_init_9 (e_aload_n dX5_init_12 rfl (e_bipush (v := 8) dX5_init_13 (by decide) (e_newI (N := 8) q_252 (by decide) dX5_init_15 (e_putRF (ty := .array .int) rfl rfl cl_5 (by decide) rfl rfl rfl (by decide +kernel) (fun _ => ⟨rfl, rfl⟩) q_276 dX5_init_17 (e_return rfl dX5_init_20)))))))))))
set_option maxRecDepth 100000 in
theorem V_X5_init_0 {G : GE} {d : Nat} {P : KN} {a : Nat → Nat → Int32} {r : Nat → Nat → Value} {N : Nat} {l0 : Nat} (hs : ((8 : Int32).toNatClampNeg = 8 ∧ N < nK ∧ tyK N = (1, (8 : Int32).toNatClampNeg) ∧ ¬ (8 : Int32) < 0 ∧ (∀ j, a N j = 0) ∧ (tyK l0 = (0, 5) ∧ l0 < (N + 1) ∧ ∀ r1, r1 = u2V r l0 0 (.ref N) → ((8 : Int32).toNatClampNeg = 8 ∧ (N + 1) < nK ∧ tyK (N + 1) = (1, (8 : Int32).toNatClampNeg) ∧ ¬ (8 : Int32) < 0 ∧ (∀ j, a (N + 1) j = 0) ∧ (tyK l0 = (0, 5) ∧ l0 < ((N + 1) + 1) ∧ ∀ r2, r2 = u2V r1 l0 1 (.ref (N + 1)) → P a r2 ((N + 1) + 1)))))) : Sp G (d + 1) 2 16 MX5_init [.ref l0] (a, r, N) (RN P) := Sp.mk (mc := (0 + 2)) (ms := (0 + 16)) [.ref l0] rfl rfl rfl rfl (T_X5_init_0 (C := 0) (S := 0) _ _ _ hs)
theorem dX5_clear_0 : decode cX5_clear 0 = .ok (.aload_n 0, 1) := by decide +kernel
theorem dX5_clear_1 : decode cX5_clear 1 = .ok (.iconst 0, 1) := by decide +kernel
theorem dX5_clear_2 : decode cX5_clear 2 = .ok (.putfield 18, 3) := by decide +kernel
theorem dX5_clear_5 : decode cX5_clear 5 = .ok (.return_, 1) := by decide +kernel
set_option maxRecDepth 100000 in
theorem T_X5_clear_0 {G : GE} {d C S : Nat} {P : KN} : Snd G MX5_clear d C S 0 (RN P) (s_aload 0 (s_iconst 0 (s_putI 5 2 (s_return P)))) := (e_aload_n dX5_clear_0 rfl (e_iconst (v := 0) dX5_clear_1 (by decide) (e_putI rfl cl_5 (by decide) rfl rfl rfl q_277 dX5_clear_2 (e_return rfl dX5_clear_5))))
set_option maxRecDepth 100000 in
theorem V_X5_clear_0 {G : GE} {d : Nat} {P : KN} {a : Nat → Nat → Int32} {r : Nat → Nat → Value} {N : Nat} {l0 : Nat} (hs : (tyK l0 = (0, 5) ∧ l0 < N ∧ ∀ a1, a1 = u2 a l0 2 0 → P a1 r N)) : Sp G d 0 0 MX5_clear [.ref l0] (a, r, N) (RN P) := Sp.mk (mc := 0) (ms := 0) [.ref l0] rfl rfl rfl rfl (T_X5_clear_0 (C := 0) (S := 0) _ _ _ hs)
theorem dX5_readAll_0 : decode cX5_readAll 0 = .ok (.aload_n 0, 1) := by decide +kernel
theorem dX5_readAll_1 : decode cX5_readAll 1 = .ok (.iconst 0, 1) := by decide +kernel
theorem dX5_readAll_2 : decode cX5_readAll 2 = .ok (.putfield 18, 3) := by decide +kernel
theorem dX5_readAll_5 : decode cX5_readAll 5 = .ok (.iconst 0, 1) := by decide +kernel
theorem dX5_readAll_6 : decode cX5_readAll 6 = .ok (.istore_n 2, 1) := by decide +kernel
theorem dX5_readAll_7 : decode cX5_readAll 7 = .ok (.iload_n 2, 1) := by decide +kernel
theorem dX5_readAll_8 : decode cX5_readAll 8 = .ok (.bipush 8, 2) := by decide +kernel
theorem dX5_readAll_10 : decode cX5_readAll 10 = .ok (.if_icmp .gt 26, 3) := by decide +kernel
theorem dX5_readAll_13 : decode cX5_readAll 13 = .ok (.aload_n 1, 1) := by decide +kernel
theorem dX5_readAll_14 : decode cX5_readAll 14 = .ok (.invokevirtual 22, 3) := by decide +kernel
theorem dX5_readAll_17 : decode cX5_readAll 17 = .ok (.ifCond .ne 19, 3) := by decide +kernel
theorem dX5_readAll_20 : decode cX5_readAll 20 = .ok (.aload_n 0, 1) := by decide +kernel
theorem dX5_readAll_21 : decode cX5_readAll 21 = .ok (.aload_n 1, 1) := by decide +kernel
theorem dX5_readAll_22 : decode cX5_readAll 22 = .ok (.invokevirtual 28, 3) := by decide +kernel
theorem dX5_readAll_25 : decode cX5_readAll 25 = .ok (.ifCond .ne 5, 3) := by decide +kernel
theorem dX5_readAll_28 : decode cX5_readAll 28 = .ok (.iconst 0, 1) := by decide +kernel
theorem dX5_readAll_29 : decode cX5_readAll 29 = .ok (.ireturn, 1) := by decide +kernel
theorem dX5_readAll_30 : decode cX5_readAll 30 = .ok (.iinc 2 1, 3) := by decide +kernel
theorem dX5_readAll_33 : decode cX5_readAll 33 = .ok (.goto (-26), 3) := by decide +kernel
theorem dX5_readAll_36 : decode cX5_readAll 36 = .ok (.iconst 1, 1) := by decide +kernel
theorem dX5_readAll_37 : decode cX5_readAll 37 = .ok (.ireturn, 1) := by decide +kernel
set_option maxRecDepth 100000 in
theorem T_X5_readAll_0 {G : GE} {d C S : Nat} {P : KI} : Snd G MX5_readAll (d + 1) C S 0 (RI P) (s_aload 0 (s_iconst 0 (s_putI 5 2 (s_iconst 0 (s_istore 2 (fun L st h => E G MX5_readAll (d + 1) C S 7 (msk [true, true, true] L) st h (RI P))))))) := (e_aload_n dX5_readAll_0 rfl (e_iconst (v := 0) dX5_readAll_1 (by decide) (e_putI rfl cl_5 (by decide) rfl rfl rfl q_277 dX5_readAll_2 (e_iconst (v := 0) dX5_readAll_5 (by decide) (e_istore_n dX5_readAll_6 rfl (by decide) (e_msk [true, true, true]))))))
set_option maxRecDepth 100000 in
theorem V_X5_readAll_0 {G : GE} {d : Nat} {P : KI} {a : Nat → Nat → Int32} {r : Nat → Nat → Value} {N : Nat} {l0 : Nat} {l1 : Nat} (hs : (tyK l0 = (0, 5) ∧ l0 < N ∧ ∀ a1, a1 = u2 a l0 2 0 → E G MX5_readAll (d + 1) 0 0 7 [.ref l0, .ref l1, .int 0] [] (a1, r, N) (RI P))) : Sp G (d + 1) 0 0 MX5_readAll [.ref l0, .ref l1] (a, r, N) (RI P) := Sp.mk (mc := 0) (ms := 0) [.ref l0, .ref l1, .null] rfl rfl rfl rfl (T_X5_readAll_0 (C := 0) (S := 0) _ _ _ hs)
set_option maxRecDepth 100000 in
theorem T_X5_readAll_7 {G : GE} {d C S : Nat} {P : KI} : Snd G MX5_readAll (d + 1) C S 7 (RI P) (s_iload 2 (s_iconst 8 (s_ic_gt (s_iconst 1 (s_zreturn P)) (s_aload 1 (s_callV G d MX10_atEnd 0 9 (s_if_ne (s_iconst 1 (s_zreturn P)) (s_aload 0 (s_aload 1 (s_callV G d MX5_readLine 1 5 (s_if_ne (s_iinc 2 1 (fun L st h => E G MX5_readAll (d + 1) C S 7 (msk [true, true, true] L) st h (RI P))) (s_iconst 0 (s_zreturn P)))))))))))) := (e_iload_n dX5_readAll_7 rfl (e_bipush (v := 8) dX5_readAll_8 (by decide) (e_ic_gt (tgt := 36) dX5_readAll_10 (by decide) (e_iconst (v := 1) dX5_readAll_36 (by decide) (e_zreturn rfl dX5_readAll_37)) (e_aload_n dX5_readAll_13 rfl (e_callV cl_9 cal_X10_atEnd q_1163 q_796 q_797 dX5_readAll_14 (e_if_ne (tgt := 36) dX5_readAll_17 (by decide) (e_iconst (v := 1) dX5_readAll_36 (by decide) (e_zreturn rfl dX5_readAll_37)) (e_aload_n dX5_readAll_20 rfl (e_aload_n dX5_readAll_21 rfl (e_callV cl_5 cal_X5_readLine q_1164 q_1166 q_37 dX5_readAll_22 (e_if_ne (tgt := 30) dX5_readAll_25 (by decide) (e_iinc (v := 1) dX5_readAll_30 (by decide) (by decide) (e_goto (tgt := 7) dX5_readAll_33 (by decide) (e_msk [true, true, true]))) (e_iconst (v := 0) dX5_readAll_28 (by decide) (e_zreturn rfl dX5_readAll_29))))))))))))
set_option maxRecDepth 100000 in
theorem V_X5_readAll_7 {G : GE} {d C S : Nat} {P : KI} {a : Nat → Nat → Int32} {r : Nat → Nat → Value} {N : Nat} {l0 : Nat} {l1 : Nat} {l2 : Int32} (hs : ((8 < l2 → (bz 1 ∧ P 1 a r N)) ∧ (¬ 8 < l2 → (tyK l1 = (0, 9) ∧ l1 < N ∧ Sp G d 0 0 MX10_atEnd [.ref l1] (a, r, N) (RI fun v4 a1 r2 n3 => ((¬ v4 = 0 → (bz 1 ∧ P 1 a1 r2 n3)) ∧ (v4 = 0 → (tyK l0 = (0, 5) ∧ l0 < n3 ∧ Sp G d 0 0 MX5_readLine [.ref l0, .ref l1] (a1, r2, n3) (RI fun v8 a5 r6 n7 => ((¬ v8 = 0 → E G MX5_readAll (d + 1) C S 7 [.ref l0, .ref l1, .int (l2 + 1)] [] (a5, r6, n7) (RI P)) ∧ (v8 = 0 → (bz 0 ∧ P 0 a5 r6 n7)))))))))))) : E G MX5_readAll (d + 1) C S 7 [.ref l0, .ref l1, .int l2] [] (a, r, N) (RI P) := T_X5_readAll_7 _ _ _ hs
theorem dX5_readLine_0 : decode cX5_readLine 0 = .ok (.aload_n 1, 1) := by decide +kernel
theorem dX5_readLine_1 : decode cX5_readLine 1 = .ok (.iconst 1, 1) := by decide +kernel
theorem dX5_readLine_2 : decode cX5_readLine 2 = .ok (.bipush 40, 2) := by decide +kernel
theorem dX5_readLine_4 : decode cX5_readLine 4 = .ok (.invokevirtual 32, 3) := by decide +kernel
theorem dX5_readLine_7 : decode cX5_readLine 7 = .ok (.istore_n 2, 1) := by decide +kernel
theorem dX5_readLine_8 : decode cX5_readLine 8 = .ok (.iload_n 2, 1) := by decide +kernel
theorem dX5_readLine_9 : decode cX5_readLine 9 = .ok (.iconst (-1), 1) := by decide +kernel
theorem dX5_readLine_10 : decode cX5_readLine 10 = .ok (.if_icmp .ne 5, 3) := by decide +kernel
theorem dX5_readLine_13 : decode cX5_readLine 13 = .ok (.iconst 0, 1) := by decide +kernel
theorem dX5_readLine_14 : decode cX5_readLine 14 = .ok (.ireturn, 1) := by decide +kernel
theorem dX5_readLine_15 : decode cX5_readLine 15 = .ok (.aload_n 0, 1) := by decide +kernel
theorem dX5_readLine_16 : decode cX5_readLine 16 = .ok (.iload_n 2, 1) := by decide +kernel
theorem dX5_readLine_17 : decode cX5_readLine 17 = .ok (.invokevirtual 36, 3) := by decide +kernel
theorem dX5_readLine_20 : decode cX5_readLine 20 = .ok (.ifCond .eq 9, 3) := by decide +kernel
theorem dX5_readLine_23 : decode cX5_readLine 23 = .ok (.aload_n 1, 1) := by decide +kernel
theorem dX5_readLine_24 : decode cX5_readLine 24 = .ok (.iconst 2, 1) := by decide +kernel
theorem dX5_readLine_25 : decode cX5_readLine 25 = .ok (.invokevirtual 40, 3) := by decide +kernel
theorem dX5_readLine_28 : decode cX5_readLine 28 = .ok (.ireturn, 1) := by decide +kernel
theorem dX5_readLine_29 : decode cX5_readLine 29 = .ok (.aload_n 0, 1) := by decide +kernel
theorem dX5_readLine_30 : decode cX5_readLine 30 = .ok (.getfield 18, 3) := by decide +kernel
theorem dX5_readLine_33 : decode cX5_readLine 33 = .ok (.bipush 8, 2) := by decide +kernel
theorem dX5_readLine_35 : decode cX5_readLine 35 = .ok (.if_icmp .lt 9, 3) := by decide +kernel
theorem dX5_readLine_38 : decode cX5_readLine 38 = .ok (.aload_n 1, 1) := by decide +kernel
theorem dX5_readLine_39 : decode cX5_readLine 39 = .ok (.iconst 3, 1) := by decide +kernel
theorem dX5_readLine_40 : decode cX5_readLine 40 = .ok (.invokevirtual 40, 3) := by decide +kernel
theorem dX5_readLine_43 : decode cX5_readLine 43 = .ok (.ireturn, 1) := by decide +kernel
theorem dX5_readLine_44 : decode cX5_readLine 44 = .ok (.aload_n 1, 1) := by decide +kernel
theorem dX5_readLine_45 : decode cX5_readLine 45 = .ok (.iconst 0, 1) := by decide +kernel
theorem dX5_readLine_46 : decode cX5_readLine 46 = .ok (.bipush 20, 2) := by decide +kernel
theorem dX5_readLine_48 : decode cX5_readLine 48 = .ok (.invokevirtual 32, 3) := by decide +kernel
theorem dX5_readLine_51 : decode cX5_readLine 51 = .ok (.istore_n 3, 1) := by decide +kernel
theorem dX5_readLine_52 : decode cX5_readLine 52 = .ok (.iload_n 3, 1) := by decide +kernel
theorem dX5_readLine_53 : decode cX5_readLine 53 = .ok (.iconst (-1), 1) := by decide +kernel
theorem dX5_readLine_54 : decode cX5_readLine 54 = .ok (.if_icmp .eq 12, 3) := by decide +kernel
theorem dX5_readLine_57 : decode cX5_readLine 57 = .ok (.aload_n 1, 1) := by decide +kernel
theorem dX5_readLine_58 : decode cX5_readLine 58 = .ok (.bipush 59, 2) := by decide +kernel
theorem dX5_readLine_60 : decode cX5_readLine 60 = .ok (.invokevirtual 43, 3) := by decide +kernel
theorem dX5_readLine_63 : decode cX5_readLine 63 = .ok (.ifCond .ne 5, 3) := by decide +kernel
theorem dX5_readLine_66 : decode cX5_readLine 66 = .ok (.iconst 0, 1) := by decide +kernel
theorem dX5_readLine_67 : decode cX5_readLine 67 = .ok (.ireturn, 1) := by decide +kernel
theorem dX5_readLine_68 : decode cX5_readLine 68 = .ok (.aload_n 0, 1) := by decide +kernel
theorem dX5_readLine_69 : decode cX5_readLine 69 = .ok (.getfield 11, 3) := by decide +kernel
theorem dX5_readLine_72 : decode cX5_readLine 72 = .ok (.aload_n 0, 1) := by decide +kernel
theorem dX5_readLine_73 : decode cX5_readLine 73 = .ok (.getfield 18, 3) := by decide +kernel
theorem dX5_readLine_76 : decode cX5_readLine 76 = .ok (.iload_n 2, 1) := by decide +kernel
theorem dX5_readLine_77 : decode cX5_readLine 77 = .ok (.invokestatic 47, 3) := by decide +kernel
theorem dX5_readLine_80 : decode cX5_readLine 80 = .ok (.aload_n 0, 1) := by decide +kernel
theorem dX5_readLine_81 : decode cX5_readLine 81 = .ok (.getfield 15, 3) := by decide +kernel
theorem dX5_readLine_84 : decode cX5_readLine 84 = .ok (.aload_n 0, 1) := by decide +kernel
theorem dX5_readLine_85 : decode cX5_readLine 85 = .ok (.getfield 18, 3) := by decide +kernel
theorem dX5_readLine_88 : decode cX5_readLine 88 = .ok (.iload_n 3, 1) := by decide +kernel
theorem dX5_readLine_89 : decode cX5_readLine 89 = .ok (.invokestatic 47, 3) := by decide +kernel
theorem dX5_readLine_92 : decode cX5_readLine 92 = .ok (.aload_n 0, 1) := by decide +kernel
theorem dX5_readLine_93 : decode cX5_readLine 93 = .ok (.dup, 1) := by decide +kernel
theorem dX5_readLine_94 : decode cX5_readLine 94 = .ok (.getfield 18, 3) := by decide +kernel
theorem dX5_readLine_97 : decode cX5_readLine 97 = .ok (.iconst 1, 1) := by decide +kernel
theorem dX5_readLine_98 : decode cX5_readLine 98 = .ok (.iadd, 1) := by decide +kernel
theorem dX5_readLine_99 : decode cX5_readLine 99 = .ok (.putfield 18, 3) := by decide +kernel
theorem dX5_readLine_102 : decode cX5_readLine 102 = .ok (.iconst 1, 1) := by decide +kernel
theorem dX5_readLine_103 : decode cX5_readLine 103 = .ok (.ireturn, 1) := by decide +kernel
set_option maxRecDepth 100000 in
theorem T_X5_readLine_0 {G : GE} {d C S : Nat} {P : KI} : Snd G MX5_readLine (d + 1) C S 0 (RI P) (s_aload 1 (s_iconst 1 (s_iconst 40 (s_callV G d MX10_readNumber 2 9 (s_istore 2 (s_iload 2 (s_iconst (-1) (s_ic_ne (s_aload 0 (s_iload 2 (s_callV G d MX5_has 1 5 (s_if_eq (s_aload 0 (s_getI 5 2 (s_iconst 8 (s_ic_lt (s_aload 1 (s_iconst 0 (s_iconst 20 (s_callV G d MX10_readNumber 2 9 (s_istore 3 (s_iload 3 (s_iconst (-1) (s_ic_eq (s_iconst 0 (s_zreturn P)) (s_aload 1 (s_iconst 59 (s_callV G d MX10_take 1 9 (s_if_ne (s_aload 0 (s_getR 5 0 (s_aload 0 (s_getI 5 2 (s_iload 2 (s_call G d MX9_put 3 (s_aload 0 (s_getR 5 1 (s_aload 0 (s_getI 5 2 (s_iload 3 (s_call G d MX9_put 3 (s_aload 0 (s_dup (s_getI 5 2 (s_iconst 1 (s_iadd (s_putI 5 2 (s_iconst 1 (s_zreturn P)))))))))))))))))))) (s_iconst 0 (s_zreturn P)))))))))))))) (s_aload 1 (s_iconst 3 (s_callV G d MX10_mark 1 9 (s_zreturn P)))))))) (s_aload 1 (s_iconst 2 (s_callV G d MX10_mark 1 9 (s_zreturn P)))))))) (s_iconst 0 (s_zreturn P)))))))))) := (e_aload_n dX5_readLine_0 rfl (e_iconst (v := 1) dX5_readLine_1 (by decide) (e_bipush (v := 40) dX5_readLine_2 (by decide) (e_callV cl_9 cal_X10_readNumber q_1168 q_893 q_894 dX5_readLine_4 (e_istore_n dX5_readLine_7 rfl (by decide) (e_iload_n dX5_readLine_8 rfl (e_iconst (v := (-1)) dX5_readLine_9 (by decide) (e_ic_ne (tgt := 15) dX5_readLine_10 (by decide) (e_aload_n dX5_readLine_15 rfl (e_iload_n dX5_readLine_16 rfl (e_callV cl_5 cal_X5_has q_1169 q_1170 q_1171 dX5_readLine_17 (e_if_eq (tgt := 29) dX5_readLine_20 (by decide) (e_aload_n dX5_readLine_29 rfl (e_getI rfl cl_5 (by decide) rfl q_277 dX5_readLine_30 (e_bipush (v := 8) dX5_readLine_33 (by decide) (e_ic_lt (tgt := 44) dX5_readLine_35 (by decide) (e_aload_n dX5_readLine_44 rfl (e_iconst (v := 0) dX5_readLine_45 (by decide) (e_bipush (v := 20) dX5_readLine_46 (by decide) (e_callV cl_9 cal_X10_readNumber q_1168 q_893 q_894 dX5_readLine_48 (e_istore_n dX5_readLine_51 rfl (by decide) (e_iload_n dX5_readLine_52 rfl (e_iconst (v := (-1)) dX5_readLine_53 (by decide) (e_ic_eq (tgt := 66) dX5_readLine_54 (by decide) (e_iconst (v := 0) dX5_readLine_66 (by decide) (e_zreturn rfl dX5_readLine_67)) (e_aload_n dX5_readLine_57 rfl (e_bipush (v := 59) dX5_readLine_58 (by decide) (e_callV cl_9 cal_X10_take q_1175 q_953 q_954 dX5_readLine_60 (e_if_ne (tgt := 68) dX5_readLine_63 (by decide) (e_aload_n dX5_readLine_68 rfl (e_getR rfl cl_5 (by decide) rfl q_275 dX5_readLine_69 (e_aload_n dX5_readLine_72 rfl (e_getI rfl cl_5 (by decide) rfl q_277 dX5_readLine_73 (e_iload_n dX5_readLine_76 rfl (e_callS cal_X9_put q_1176 q_419 dX5_readLine_77 (e_aload_n dX5_readLine_80 rfl (e_getR rfl cl_5 (by decide) rfl q_276 dX5_readLine_81 (e_aload_n dX5_readLine_84 rfl (e_getI rfl cl_5 (by decide) rfl q_277 dX5_readLine_85 (e_iload_n dX5_readLine_88 rfl (e_callS cal_X9_put q_1176 q_419 dX5_readLine_89 (e_aload_n dX5_readLine_92 rfl (e_dup dX5_readLine_93 (e_getI rfl cl_5 (by decide) rfl q_277 dX5_readLine_94 (e_iconst (v := 1) dX5_readLine_97 (by decide) (e_iadd dX5_readLine_98 (e_putI rfl cl_5 (by decide) rfl rfl rfl q_277 dX5_readLine_99 (e_iconst (v := 1) dX5_readLine_102 (by decide) (e_zreturn rfl dX5_readLine_103)))))))))))))))))))) (e_iconst (v := 0) dX5_readLine_66 (by decide) (e_zreturn rfl dX5_readLine_67)))))))))))))) (e_aload_n dX5_readLine_38 rfl (e_iconst (v := 3) dX5_readLine_39 (by decide) (e_callV cl_9 cal_X10_mark q_1174 q_881 q_882 dX5_readLine_40 (e_zreturn rfl dX5_readLine_43)))))))) (e_aload_n dX5_readLine_23 rfl (e_iconst (v := 2) dX5_readLine_24 (by decide) (e_callV cl_9 cal_X10_mark q_1174 q_881 q_882 dX5_readLine_25 (e_zreturn rfl dX5_readLine_28)))))))) (e_iconst (v := 0) dX5_readLine_13 (by decide) (e_zreturn rfl dX5_readLine_14))))))))))
set_option maxRecDepth 100000 in
theorem V_X5_readLine_0 {G : GE} {d : Nat} {P : KI} {a : Nat → Nat → Int32} {r : Nat → Nat → Value} {N : Nat} {l0 : Nat} {l1 : Nat} (hs : (tyK l1 = (0, 9) ∧ l1 < N ∧ Sp G d 0 0 MX10_readNumber [.ref l1, .int 1, .int 40] (a, r, N) (RI fun v4 a1 r2 n3 => ((¬ v4 = (-1) → (tyK l0 = (0, 5) ∧ l0 < n3 ∧ Sp G d 0 0 MX5_has [.ref l0, .int v4] (a1, r2, n3) (RI fun v8 a5 r6 n7 => ((v8 = 0 → (tyK l0 = (0, 5) ∧ l0 < n7 ∧ (((a5 l0 2) < 8 → (tyK l1 = (0, 9) ∧ l1 < n7 ∧ Sp G d 0 0 MX10_readNumber [.ref l1, .int 0, .int 20] (a5, r6, n7) (RI fun v12 a9 r10 n11 => ((v12 = (-1) → (bz 0 ∧ P 0 a9 r10 n11)) ∧ (¬ v12 = (-1) → (tyK l1 = (0, 9) ∧ l1 < n11 ∧ Sp G d 0 0 MX10_take [.ref l1, .int 59] (a9, r10, n11) (RI fun v16 a13 r14 n15 => ((¬ v16 = 0 → (tyK l0 = (0, 5) ∧ l0 < n15 ∧ ∃ q17, r14 l0 0 = .ref q17 ∧ (tyK l0 = (0, 5) ∧ l0 < n15 ∧ Sp G d 0 0 MX9_put [.ref q17, .int (a13 l0 2), .int v4] (a13, r14, n15) (RN fun a18 r19 n20 => (tyK l0 = (0, 5) ∧ l0 < n20 ∧ ∃ q21, r19 l0 1 = .ref q21 ∧ (tyK l0 = (0, 5) ∧ l0 < n20 ∧ Sp G d 0 0 MX9_put [.ref q21, .int (a18 l0 2), .int v12] (a18, r19, n20) (RN fun a22 r23 n24 => (tyK l0 = (0, 5) ∧ l0 < n24 ∧ (tyK l0 = (0, 5) ∧ l0 < n24 ∧ ∀ a25, a25 = u2 a22 l0 2 ((a22 l0 2) + 1) → (bz 1 ∧ P 1 a25 r23 n24)))))))))) ∧ (v16 = 0 → (bz 0 ∧ P 0 a13 r14 n15)))))))))) ∧ (¬ (a5 l0 2) < 8 → (tyK l1 = (0, 9) ∧ l1 < n7 ∧ Sp G d 0 0 MX10_mark [.ref l1, .int 3] (a5, r6, n7) (RI fun v29 a26 r27 n28 => (bz v29 ∧ P v29 a26 r27 n28))))))) ∧ (¬ v8 = 0 → (tyK l1 = (0, 9) ∧ l1 < n7 ∧ Sp G d 0 0 MX10_mark [.ref l1, .int 2] (a5, r6, n7) (RI fun v33 a30 r31 n32 => (bz v33 ∧ P v33 a30 r31 n32)))))))) ∧ (v4 = (-1) → (bz 0 ∧ P 0 a1 r2 n3)))))) : Sp G (d + 1) 0 0 MX5_readLine [.ref l0, .ref l1] (a, r, N) (RI P) := Sp.mk (mc := 0) (ms := 0) [.ref l0, .ref l1, .null, .null] rfl rfl rfl rfl (T_X5_readLine_0 (C := 0) (S := 0) _ _ _ hs)
theorem dX5_has_0 : decode cX5_has 0 = .ok (.iconst 0, 1) := by decide +kernel
theorem dX5_has_1 : decode cX5_has 1 = .ok (.istore_n 2, 1) := by decide +kernel
theorem dX5_has_2 : decode cX5_has 2 = .ok (.iload_n 2, 1) := by decide +kernel
theorem dX5_has_3 : decode cX5_has 3 = .ok (.aload_n 0, 1) := by decide +kernel
theorem dX5_has_4 : decode cX5_has 4 = .ok (.getfield 18, 3) := by decide +kernel
theorem dX5_has_7 : decode cX5_has 7 = .ok (.if_icmp .ge 23, 3) := by decide +kernel
theorem dX5_has_10 : decode cX5_has 10 = .ok (.aload_n 0, 1) := by decide +kernel
theorem dX5_has_11 : decode cX5_has 11 = .ok (.getfield 11, 3) := by decide +kernel
theorem dX5_has_14 : decode cX5_has 14 = .ok (.iload_n 2, 1) := by decide +kernel
theorem dX5_has_15 : decode cX5_has 15 = .ok (.invokestatic 53, 3) := by decide +kernel
theorem dX5_has_18 : decode cX5_has 18 = .ok (.iload_n 1, 1) := by decide +kernel
theorem dX5_has_19 : decode cX5_has 19 = .ok (.if_icmp .ne 5, 3) := by decide +kernel
theorem dX5_has_22 : decode cX5_has 22 = .ok (.iconst 1, 1) := by decide +kernel
theorem dX5_has_23 : decode cX5_has 23 = .ok (.ireturn, 1) := by decide +kernel
theorem dX5_has_24 : decode cX5_has 24 = .ok (.iinc 2 1, 3) := by decide +kernel
theorem dX5_has_27 : decode cX5_has 27 = .ok (.goto (-25), 3) := by decide +kernel
theorem dX5_has_30 : decode cX5_has 30 = .ok (.iconst 0, 1) := by decide +kernel
theorem dX5_has_31 : decode cX5_has 31 = .ok (.ireturn, 1) := by decide +kernel
set_option maxRecDepth 100000 in
theorem T_X5_has_0 {G : GE} {d C S : Nat} {P : KI} : Snd G MX5_has (d + 1) C S 0 (RI P) (s_iconst 0 (s_istore 2 (fun L st h => E G MX5_has (d + 1) C S 2 (msk [true, true, true] L) st h (RI P)))) := (e_iconst (v := 0) dX5_has_0 (by decide) (e_istore_n dX5_has_1 rfl (by decide) (e_msk [true, true, true])))
set_option maxRecDepth 100000 in
theorem V_X5_has_0 {G : GE} {d : Nat} {P : KI} {a : Nat → Nat → Int32} {r : Nat → Nat → Value} {N : Nat} {l0 : Nat} {l1 : Int32} (hs : E G MX5_has (d + 1) 0 0 2 [.ref l0, .int l1, .int 0] [] (a, r, N) (RI P)) : Sp G (d + 1) 0 0 MX5_has [.ref l0, .int l1] (a, r, N) (RI P) := Sp.mk (mc := 0) (ms := 0) [.ref l0, .int l1, .null] rfl rfl rfl rfl (T_X5_has_0 (C := 0) (S := 0) _ _ _ hs)
set_option maxRecDepth 100000 in
theorem T_X5_has_2 {G : GE} {d C S : Nat} {P : KI} : Snd G MX5_has (d + 1) C S 2 (RI P) (s_iload 2 (s_aload 0 (s_getI 5 2 (s_ic_ge (s_iconst 0 (s_zreturn P)) (s_aload 0 (s_getR 5 0 (s_iload 2 (s_call G d MX9_at 2 (s_iload 1 (s_ic_ne (s_iinc 2 1 (fun L st h => E G MX5_has (d + 1) C S 2 (msk [true, true, true] L) st h (RI P))) (s_iconst 1 (s_zreturn P)))))))))))) := (e_iload_n dX5_has_2 rfl (e_aload_n dX5_has_3 rfl (e_getI rfl cl_5 (by decide) rfl q_277 dX5_has_4 (e_ic_ge (tgt := 30) dX5_has_7 (by decide) (e_iconst (v := 0) dX5_has_30 (by decide) (e_zreturn rfl dX5_has_31)) (e_aload_n dX5_has_10 rfl (e_getR rfl cl_5 (by decide) rfl q_275 dX5_has_11 (e_iload_n dX5_has_14 rfl (e_callS cal_X9_at q_1173 q_426 dX5_has_15 (e_iload_n dX5_has_18 rfl (e_ic_ne (tgt := 24) dX5_has_19 (by decide) (e_iinc (v := 1) dX5_has_24 (by decide) (by decide) (e_goto (tgt := 2) dX5_has_27 (by decide) (e_msk [true, true, true]))) (e_iconst (v := 1) dX5_has_22 (by decide) (e_zreturn rfl dX5_has_23))))))))))))
set_option maxRecDepth 100000 in
theorem V_X5_has_2 {G : GE} {d C S : Nat} {P : KI} {a : Nat → Nat → Int32} {r : Nat → Nat → Value} {N : Nat} {l0 : Nat} {l1 : Int32} {l2 : Int32} (hs : (tyK l0 = (0, 5) ∧ l0 < N ∧ (((a l0 2) ≤ l2 → (bz 0 ∧ P 0 a r N)) ∧ (¬ (a l0 2) ≤ l2 → (tyK l0 = (0, 5) ∧ l0 < N ∧ ∃ q1, r l0 0 = .ref q1 ∧ Sp G d 0 0 MX9_at [.ref q1, .int l2] (a, r, N) (RI fun v5 a2 r3 n4 => ((¬ v5 = l1 → E G MX5_has (d + 1) C S 2 [.ref l0, .int l1, .int (l2 + 1)] [] (a2, r3, n4) (RI P)) ∧ (v5 = l1 → (bz 1 ∧ P 1 a2 r3 n4))))))))) : E G MX5_has (d + 1) C S 2 [.ref l0, .int l1, .int l2] [] (a, r, N) (RI P) := T_X5_has_2 _ _ _ hs
theorem dX5_fits_0 : decode cX5_fits 0 = .ok (.aload_n 0, 1) := by decide +kernel
theorem dX5_fits_1 : decode cX5_fits 1 = .ok (.iload_n 1, 1) := by decide +kernel
theorem dX5_fits_2 : decode cX5_fits 2 = .ok (.iload_n 2, 1) := by decide +kernel
theorem dX5_fits_3 : decode cX5_fits 3 = .ok (.invokevirtual 57, 3) := by decide +kernel
theorem dX5_fits_6 : decode cX5_fits 6 = .ok (.aload_n 0, 1) := by decide +kernel
theorem dX5_fits_7 : decode cX5_fits 7 = .ok (.getfield 18, 3) := by decide +kernel
theorem dX5_fits_10 : decode cX5_fits 10 = .ok (.if_icmp .ne 7, 3) := by decide +kernel
theorem dX5_fits_13 : decode cX5_fits 13 = .ok (.iconst 1, 1) := by decide +kernel
theorem dX5_fits_14 : decode cX5_fits 14 = .ok (.goto 4, 3) := by decide +kernel
theorem dX5_fits_17 : decode cX5_fits 17 = .ok (.iconst 0, 1) := by decide +kernel
theorem dX5_fits_18 : decode cX5_fits 18 = .ok (.ireturn, 1) := by decide +kernel
set_option maxRecDepth 100000 in
theorem T_X5_fits_0 {G : GE} {d C S : Nat} {P : KI} : Snd G MX5_fits (d + 1) C S 0 (RI P) (s_aload 0 (s_iload 1 (s_iload 2 (s_callV G d MX5_rightLines 2 5 (s_aload 0 (s_getI 5 2 (s_ic_ne (s_iconst 0 (s_zreturn P)) (s_iconst 1 (s_zreturn P))))))))) := (e_aload_n dX5_fits_0 rfl (e_iload_n dX5_fits_1 rfl (e_iload_n dX5_fits_2 rfl (e_callV cl_5 cal_X5_rightLines q_1428 q_1429 q_1430 dX5_fits_3 (e_aload_n dX5_fits_6 rfl (e_getI rfl cl_5 (by decide) rfl q_277 dX5_fits_7 (e_ic_ne (tgt := 17) dX5_fits_10 (by decide) (e_iconst (v := 0) dX5_fits_17 (by decide) (e_zreturn rfl dX5_fits_18)) (e_iconst (v := 1) dX5_fits_13 (by decide) (e_goto (tgt := 18) dX5_fits_14 (by decide) (e_zreturn rfl dX5_fits_18))))))))))
set_option maxRecDepth 100000 in
theorem V_X5_fits_0 {G : GE} {d : Nat} {P : KI} {a : Nat → Nat → Int32} {r : Nat → Nat → Value} {N : Nat} {l0 : Nat} {l1 : Int32} {l2 : Int32} (hs : (tyK l0 = (0, 5) ∧ l0 < N ∧ Sp G d 0 0 MX5_rightLines [.ref l0, .int l1, .int l2] (a, r, N) (RI fun v4 a1 r2 n3 => (tyK l0 = (0, 5) ∧ l0 < n3 ∧ ((¬ v4 = (a1 l0 2) → (bz 0 ∧ P 0 a1 r2 n3)) ∧ (v4 = (a1 l0 2) → (bz 1 ∧ P 1 a1 r2 n3))))))) : Sp G (d + 1) 0 0 MX5_fits [.ref l0, .int l1, .int l2] (a, r, N) (RI P) := Sp.mk (mc := 0) (ms := 0) [.ref l0, .int l1, .int l2] rfl rfl rfl rfl (T_X5_fits_0 (C := 0) (S := 0) _ _ _ hs)
theorem dX5_rightLines_0 : decode cX5_rightLines 0 = .ok (.iconst 0, 1) := by decide +kernel
theorem dX5_rightLines_1 : decode cX5_rightLines 1 = .ok (.istore_n 3, 1) := by decide +kernel
theorem dX5_rightLines_2 : decode cX5_rightLines 2 = .ok (.iload_n 3, 1) := by decide +kernel
theorem dX5_rightLines_3 : decode cX5_rightLines 3 = .ok (.aload_n 0, 1) := by decide +kernel
theorem dX5_rightLines_4 : decode cX5_rightLines 4 = .ok (.getfield 18, 3) := by decide +kernel
theorem dX5_rightLines_7 : decode cX5_rightLines 7 = .ok (.if_icmp .ge 35, 3) := by decide +kernel
theorem dX5_rightLines_10 : decode cX5_rightLines 10 = .ok (.iload_n 1, 1) := by decide +kernel
theorem dX5_rightLines_11 : decode cX5_rightLines 11 = .ok (.iload_n 2, 1) := by decide +kernel
theorem dX5_rightLines_12 : decode cX5_rightLines 12 = .ok (.aload_n 0, 1) := by decide +kernel
theorem dX5_rightLines_13 : decode cX5_rightLines 13 = .ok (.getfield 11, 3) := by decide +kernel
theorem dX5_rightLines_16 : decode cX5_rightLines 16 = .ok (.iload_n 3, 1) := by decide +kernel
theorem dX5_rightLines_17 : decode cX5_rightLines 17 = .ok (.invokestatic 53, 3) := by decide +kernel
theorem dX5_rightLines_20 : decode cX5_rightLines 20 = .ok (.invokestatic 60, 3) := by decide +kernel
theorem dX5_rightLines_23 : decode cX5_rightLines 23 = .ok (.aload_n 0, 1) := by decide +kernel
theorem dX5_rightLines_24 : decode cX5_rightLines 24 = .ok (.getfield 15, 3) := by decide +kernel
theorem dX5_rightLines_27 : decode cX5_rightLines 27 = .ok (.iload_n 3, 1) := by decide +kernel
theorem dX5_rightLines_28 : decode cX5_rightLines 28 = .ok (.invokestatic 53, 3) := by decide +kernel
theorem dX5_rightLines_31 : decode cX5_rightLines 31 = .ok (.if_icmp .eq 5, 3) := by decide +kernel
theorem dX5_rightLines_34 : decode cX5_rightLines 34 = .ok (.iload_n 3, 1) := by decide +kernel
theorem dX5_rightLines_35 : decode cX5_rightLines 35 = .ok (.ireturn, 1) := by decide +kernel
theorem dX5_rightLines_36 : decode cX5_rightLines 36 = .ok (.iinc 3 1, 3) := by decide +kernel
theorem dX5_rightLines_39 : decode cX5_rightLines 39 = .ok (.goto (-37), 3) := by decide +kernel
theorem dX5_rightLines_42 : decode cX5_rightLines 42 = .ok (.aload_n 0, 1) := by decide +kernel
theorem dX5_rightLines_43 : decode cX5_rightLines 43 = .ok (.getfield 18, 3) := by decide +kernel
theorem dX5_rightLines_46 : decode cX5_rightLines 46 = .ok (.ireturn, 1) := by decide +kernel
set_option maxRecDepth 100000 in
theorem T_X5_rightLines_0 {G : GE} {d C S : Nat} {P : KI} : Snd G MX5_rightLines (d + 1) C S 0 (RI P) (s_iconst 0 (s_istore 3 (fun L st h => E G MX5_rightLines (d + 1) C S 2 (msk [true, true, true, true] L) st h (RI P)))) := (e_iconst (v := 0) dX5_rightLines_0 (by decide) (e_istore_n dX5_rightLines_1 rfl (by decide) (e_msk [true, true, true, true])))
set_option maxRecDepth 100000 in
theorem V_X5_rightLines_0 {G : GE} {d : Nat} {P : KI} {a : Nat → Nat → Int32} {r : Nat → Nat → Value} {N : Nat} {l0 : Nat} {l1 : Int32} {l2 : Int32} (hs : E G MX5_rightLines (d + 1) 0 0 2 [.ref l0, .int l1, .int l2, .int 0] [] (a, r, N) (RI P)) : Sp G (d + 1) 0 0 MX5_rightLines [.ref l0, .int l1, .int l2] (a, r, N) (RI P) := Sp.mk (mc := 0) (ms := 0) [.ref l0, .int l1, .int l2, .null] rfl rfl rfl rfl (T_X5_rightLines_0 (C := 0) (S := 0) _ _ _ hs)
set_option maxRecDepth 100000 in
theorem T_X5_rightLines_2 {G : GE} {d C S : Nat} {P : KI} : Snd G MX5_rightLines (d + 1) C S 2 (RI P) (s_iload 3 (s_aload 0 (s_getI 5 2 (s_ic_ge (s_aload 0 (s_getI 5 2 (s_ireturn P))) (s_iload 1 (s_iload 2 (s_aload 0 (s_getR 5 0 (s_iload 3 (s_call G d MX9_at 2 (s_call G d MX4_houseOf 3 (s_aload 0 (s_getR 5 1 (s_iload 3 (s_call G d MX9_at 2 (s_ic_eq (s_iinc 3 1 (fun L st h => E G MX5_rightLines (d + 1) C S 2 (msk [true, true, true, true] L) st h (RI P))) (s_iload 3 (s_ireturn P)))))))))))))))))) := (e_iload_n dX5_rightLines_2 rfl (e_aload_n dX5_rightLines_3 rfl (e_getI rfl cl_5 (by decide) rfl q_277 dX5_rightLines_4 (e_ic_ge (tgt := 42) dX5_rightLines_7 (by decide) (e_aload_n dX5_rightLines_42 rfl (e_getI rfl cl_5 (by decide) rfl q_277 dX5_rightLines_43 (e_ireturn rfl dX5_rightLines_46))) (e_iload_n dX5_rightLines_10 rfl (e_iload_n dX5_rightLines_11 rfl (e_aload_n dX5_rightLines_12 rfl (e_getR rfl cl_5 (by decide) rfl q_275 dX5_rightLines_13 (e_iload_n dX5_rightLines_16 rfl (e_callS cal_X9_at q_1173 q_426 dX5_rightLines_17 (e_callS cal_X4_houseOf q_1432 q_1300 dX5_rightLines_20 (e_aload_n dX5_rightLines_23 rfl (e_getR rfl cl_5 (by decide) rfl q_276 dX5_rightLines_24 (e_iload_n dX5_rightLines_27 rfl (e_callS cal_X9_at q_1173 q_426 dX5_rightLines_28 (e_ic_eq (tgt := 36) dX5_rightLines_31 (by decide) (e_iinc (v := 1) dX5_rightLines_36 (by decide) (by decide) (e_goto (tgt := 2) dX5_rightLines_39 (by decide) (e_msk [true, true, true, true]))) (e_iload_n dX5_rightLines_34 rfl (e_ireturn rfl dX5_rightLines_35))))))))))))))))))
set_option maxRecDepth 100000 in
theorem V_X5_rightLines_2 {G : GE} {d C S : Nat} {P : KI} {a : Nat → Nat → Int32} {r : Nat → Nat → Value} {N : Nat} {l0 : Nat} {l1 : Int32} {l2 : Int32} {l3 : Int32} (hs : (tyK l0 = (0, 5) ∧ l0 < N ∧ (((a l0 2) ≤ l3 → (tyK l0 = (0, 5) ∧ l0 < N ∧ P (a l0 2) a r N)) ∧ (¬ (a l0 2) ≤ l3 → (tyK l0 = (0, 5) ∧ l0 < N ∧ ∃ q1, r l0 0 = .ref q1 ∧ Sp G d 0 0 MX9_at [.ref q1, .int l3] (a, r, N) (RI fun v5 a2 r3 n4 => Sp G d 0 0 MX4_houseOf [.int l1, .int l2, .int v5] (a2, r3, n4) (RI fun v9 a6 r7 n8 => (tyK l0 = (0, 5) ∧ l0 < n8 ∧ ∃ q10, r7 l0 1 = .ref q10 ∧ Sp G d 0 0 MX9_at [.ref q10, .int l3] (a6, r7, n8) (RI fun v14 a11 r12 n13 => ((v9 = v14 → E G MX5_rightLines (d + 1) C S 2 [.ref l0, .int l1, .int l2, .int (l3 + 1)] [] (a11, r12, n13) (RI P)) ∧ (¬ v9 = v14 → P l3 a11 r12 n13))))))))))) : E G MX5_rightLines (d + 1) C S 2 [.ref l0, .int l1, .int l2, .int l3] [] (a, r, N) (RI P) := T_X5_rightLines_2 _ _ _ hs
theorem dX5_leftAtWorst_0 : decode cX5_leftAtWorst 0 = .ok (.iconst 1, 1) := by decide +kernel
theorem dX5_leftAtWorst_1 : decode cX5_leftAtWorst 1 = .ok (.iload_n 0, 1) := by decide +kernel
theorem dX5_leftAtWorst_2 : decode cX5_leftAtWorst 2 = .ok (.iload_n 1, 1) := by decide +kernel
theorem dX5_leftAtWorst_3 : decode cX5_leftAtWorst 3 = .ok (.invokestatic 60, 3) := by decide +kernel
theorem dX5_leftAtWorst_6 : decode cX5_leftAtWorst 6 = .ok (.istore 5, 2) := by decide +kernel
theorem dX5_leftAtWorst_8 : decode cX5_leftAtWorst 8 = .ok (.iconst 2, 1) := by decide +kernel
theorem dX5_leftAtWorst_9 : decode cX5_leftAtWorst 9 = .ok (.iload_n 0, 1) := by decide +kernel
theorem dX5_leftAtWorst_10 : decode cX5_leftAtWorst 10 = .ok (.iload_n 1, 1) := by decide +kernel
theorem dX5_leftAtWorst_11 : decode cX5_leftAtWorst 11 = .ok (.invokestatic 60, 3) := by decide +kernel
theorem dX5_leftAtWorst_14 : decode cX5_leftAtWorst 14 = .ok (.istore 6, 2) := by decide +kernel
theorem dX5_leftAtWorst_16 : decode cX5_leftAtWorst 16 = .ok (.iconst 0, 1) := by decide +kernel
theorem dX5_leftAtWorst_17 : decode cX5_leftAtWorst 17 = .ok (.iload_n 0, 1) := by decide +kernel
theorem dX5_leftAtWorst_18 : decode cX5_leftAtWorst 18 = .ok (.iload_n 1, 1) := by decide +kernel
theorem dX5_leftAtWorst_19 : decode cX5_leftAtWorst 19 = .ok (.invokestatic 60, 3) := by decide +kernel
theorem dX5_leftAtWorst_22 : decode cX5_leftAtWorst 22 = .ok (.istore 7, 2) := by decide +kernel
theorem dX5_leftAtWorst_24 : decode cX5_leftAtWorst 24 = .ok (.iload_n 2, 1) := by decide +kernel
theorem dX5_leftAtWorst_25 : decode cX5_leftAtWorst 25 = .ok (.iload 6, 2) := by decide +kernel
theorem dX5_leftAtWorst_27 : decode cX5_leftAtWorst 27 = .ok (.iload 5, 2) := by decide +kernel
theorem dX5_leftAtWorst_29 : decode cX5_leftAtWorst 29 = .ok (.if_icmp .ne 7, 3) := by decide +kernel
theorem dX5_leftAtWorst_32 : decode cX5_leftAtWorst 32 = .ok (.iload_n 3, 1) := by decide +kernel
theorem dX5_leftAtWorst_33 : decode cX5_leftAtWorst 33 = .ok (.goto 4, 3) := by decide +kernel
theorem dX5_leftAtWorst_36 : decode cX5_leftAtWorst 36 = .ok (.iconst 0, 1) := by decide +kernel
theorem dX5_leftAtWorst_37 : decode cX5_leftAtWorst 37 = .ok (.iadd, 1) := by decide +kernel
theorem dX5_leftAtWorst_38 : decode cX5_leftAtWorst 38 = .ok (.iload 7, 2) := by decide +kernel
theorem dX5_leftAtWorst_40 : decode cX5_leftAtWorst 40 = .ok (.iload 5, 2) := by decide +kernel
theorem dX5_leftAtWorst_42 : decode cX5_leftAtWorst 42 = .ok (.if_icmp .ne 8, 3) := by decide +kernel
theorem dX5_leftAtWorst_45 : decode cX5_leftAtWorst 45 = .ok (.iload 4, 2) := by decide +kernel
theorem dX5_leftAtWorst_47 : decode cX5_leftAtWorst 47 = .ok (.goto 4, 3) := by decide +kernel
theorem dX5_leftAtWorst_50 : decode cX5_leftAtWorst 50 = .ok (.iconst 0, 1) := by decide +kernel
theorem dX5_leftAtWorst_51 : decode cX5_leftAtWorst 51 = .ok (.iadd, 1) := by decide +kernel
theorem dX5_leftAtWorst_52 : decode cX5_leftAtWorst 52 = .ok (.istore 8, 2) := by decide +kernel
theorem dX5_leftAtWorst_54 : decode cX5_leftAtWorst 54 = .ok (.iload_n 3, 1) := by decide +kernel
theorem dX5_leftAtWorst_55 : decode cX5_leftAtWorst 55 = .ok (.iload 5, 2) := by decide +kernel
theorem dX5_leftAtWorst_57 : decode cX5_leftAtWorst 57 = .ok (.iload 6, 2) := by decide +kernel
theorem dX5_leftAtWorst_59 : decode cX5_leftAtWorst 59 = .ok (.if_icmp .ne 7, 3) := by decide +kernel
theorem dX5_leftAtWorst_62 : decode cX5_leftAtWorst 62 = .ok (.iload_n 2, 1) := by decide +kernel
theorem dX5_leftAtWorst_63 : decode cX5_leftAtWorst 63 = .ok (.goto 4, 3) := by decide +kernel
theorem dX5_leftAtWorst_66 : decode cX5_leftAtWorst 66 = .ok (.iconst 0, 1) := by decide +kernel
theorem dX5_leftAtWorst_67 : decode cX5_leftAtWorst 67 = .ok (.iadd, 1) := by decide +kernel
theorem dX5_leftAtWorst_68 : decode cX5_leftAtWorst 68 = .ok (.iload 7, 2) := by decide +kernel
theorem dX5_leftAtWorst_70 : decode cX5_leftAtWorst 70 = .ok (.iload 6, 2) := by decide +kernel
theorem dX5_leftAtWorst_72 : decode cX5_leftAtWorst 72 = .ok (.if_icmp .ne 8, 3) := by decide +kernel
theorem dX5_leftAtWorst_75 : decode cX5_leftAtWorst 75 = .ok (.iload 4, 2) := by decide +kernel
theorem dX5_leftAtWorst_77 : decode cX5_leftAtWorst 77 = .ok (.goto 4, 3) := by decide +kernel
theorem dX5_leftAtWorst_80 : decode cX5_leftAtWorst 80 = .ok (.iconst 0, 1) := by decide +kernel
theorem dX5_leftAtWorst_81 : decode cX5_leftAtWorst 81 = .ok (.iadd, 1) := by decide +kernel
theorem dX5_leftAtWorst_82 : decode cX5_leftAtWorst 82 = .ok (.istore 9, 2) := by decide +kernel
theorem dX5_leftAtWorst_84 : decode cX5_leftAtWorst 84 = .ok (.iload 4, 2) := by decide +kernel
theorem dX5_leftAtWorst_86 : decode cX5_leftAtWorst 86 = .ok (.iload 5, 2) := by decide +kernel
theorem dX5_leftAtWorst_88 : decode cX5_leftAtWorst 88 = .ok (.iload 7, 2) := by decide +kernel
theorem dX5_leftAtWorst_90 : decode cX5_leftAtWorst 90 = .ok (.if_icmp .ne 7, 3) := by decide +kernel
theorem dX5_leftAtWorst_93 : decode cX5_leftAtWorst 93 = .ok (.iload_n 2, 1) := by decide +kernel
theorem dX5_leftAtWorst_94 : decode cX5_leftAtWorst 94 = .ok (.goto 4, 3) := by decide +kernel
theorem dX5_leftAtWorst_97 : decode cX5_leftAtWorst 97 = .ok (.iconst 0, 1) := by decide +kernel
theorem dX5_leftAtWorst_98 : decode cX5_leftAtWorst 98 = .ok (.iadd, 1) := by decide +kernel
theorem dX5_leftAtWorst_99 : decode cX5_leftAtWorst 99 = .ok (.iload 6, 2) := by decide +kernel
theorem dX5_leftAtWorst_101 : decode cX5_leftAtWorst 101 = .ok (.iload 7, 2) := by decide +kernel
theorem dX5_leftAtWorst_103 : decode cX5_leftAtWorst 103 = .ok (.if_icmp .ne 7, 3) := by decide +kernel
theorem dX5_leftAtWorst_106 : decode cX5_leftAtWorst 106 = .ok (.iload_n 3, 1) := by decide +kernel
theorem dX5_leftAtWorst_107 : decode cX5_leftAtWorst 107 = .ok (.goto 4, 3) := by decide +kernel
theorem dX5_leftAtWorst_110 : decode cX5_leftAtWorst 110 = .ok (.iconst 0, 1) := by decide +kernel
theorem dX5_leftAtWorst_111 : decode cX5_leftAtWorst 111 = .ok (.iadd, 1) := by decide +kernel
theorem dX5_leftAtWorst_112 : decode cX5_leftAtWorst 112 = .ok (.istore 10, 2) := by decide +kernel
theorem dX5_leftAtWorst_114 : decode cX5_leftAtWorst 114 = .ok (.iload 8, 2) := by decide +kernel
theorem dX5_leftAtWorst_116 : decode cX5_leftAtWorst 116 = .ok (.iload 9, 2) := by decide +kernel
theorem dX5_leftAtWorst_118 : decode cX5_leftAtWorst 118 = .ok (.iload 10, 2) := by decide +kernel
theorem dX5_leftAtWorst_120 : decode cX5_leftAtWorst 120 = .ok (.invokestatic 66, 3) := by decide +kernel
theorem dX5_leftAtWorst_123 : decode cX5_leftAtWorst 123 = .ok (.invokestatic 66, 3) := by decide +kernel
theorem dX5_leftAtWorst_126 : decode cX5_leftAtWorst 126 = .ok (.ireturn, 1) := by decide +kernel
set_option maxRecDepth 100000 in
theorem T_X5_leftAtWorst_0 {G : GE} {d C S : Nat} {P : KI} : Snd G MX5_leftAtWorst (d + 1) C S 0 (RI P) (s_iconst 1 (s_iload 0 (s_iload 1 (s_call G d MX4_houseOf 3 (s_istore 5 (s_iconst 2 (s_iload 0 (s_iload 1 (s_call G d MX4_houseOf 3 (s_istore 6 (s_iconst 0 (s_iload 0 (s_iload 1 (s_call G d MX4_houseOf 3 (s_istore 7 (s_iload 2 (s_iload 6 (s_iload 5 (s_ic_ne (s_iconst 0 (fun L st h => E G MX5_leftAtWorst (d + 1) C S 37 (msk [false, false, true, true, true, true, true, true, false, false, false] L) st h (RI P))) (s_iload 3 (fun L st h => E G MX5_leftAtWorst (d + 1) C S 37 (msk [false, false, true, true, true, true, true, true, false, false, false] L) st h (RI P)))))))))))))))))))))) := (e_iconst (v := 1) dX5_leftAtWorst_0 (by decide) (e_iload_n dX5_leftAtWorst_1 rfl (e_iload_n dX5_leftAtWorst_2 rfl (e_callS cal_X4_houseOf q_1432 q_1300 dX5_leftAtWorst_3 (e_istore dX5_leftAtWorst_6 (by decide) (e_iconst (v := 2) dX5_leftAtWorst_8 (by decide) (e_iload_n dX5_leftAtWorst_9 rfl (e_iload_n dX5_leftAtWorst_10 rfl (e_callS cal_X4_houseOf q_1432 q_1300 dX5_leftAtWorst_11 (e_istore dX5_leftAtWorst_14 (by decide) (e_iconst (v := 0) dX5_leftAtWorst_16 (by decide) (e_iload_n dX5_leftAtWorst_17 rfl (e_iload_n dX5_leftAtWorst_18 rfl (e_callS cal_X4_houseOf q_1432 q_1300 dX5_leftAtWorst_19 (e_istore dX5_leftAtWorst_22 (by decide) (e_iload_n dX5_leftAtWorst_24 rfl (e_iload dX5_leftAtWorst_25 (e_iload dX5_leftAtWorst_27 (e_ic_ne (tgt := 36) dX5_leftAtWorst_29 (by decide) (e_iconst (v := 0) dX5_leftAtWorst_36 (by decide) (e_msk [false, false, true, true, true, true, true, true, false, false, false])) (e_iload_n dX5_leftAtWorst_32 rfl (e_goto (tgt := 37) dX5_leftAtWorst_33 (by decide) (e_msk [false, false, true, true, true, true, true, true, false, false, false]))))))))))))))))))))))
set_option maxRecDepth 100000 in
theorem V_X5_leftAtWorst_0 {G : GE} {d : Nat} {P : KI} {a : Nat → Nat → Int32} {r : Nat → Nat → Value} {N : Nat} {l0 : Int32} {l1 : Int32} {l2 : Int32} {l3 : Int32} {l4 : Int32} (hs : Sp G d 0 0 MX4_houseOf [.int 1, .int l0, .int l1] (a, r, N) (RI fun v4 a1 r2 n3 => Sp G d 0 0 MX4_houseOf [.int 2, .int l0, .int l1] (a1, r2, n3) (RI fun v8 a5 r6 n7 => Sp G d 0 0 MX4_houseOf [.int 0, .int l0, .int l1] (a5, r6, n7) (RI fun v12 a9 r10 n11 => ((¬ v8 = v4 → E G MX5_leftAtWorst (d + 1) 0 0 37 [.null, .null, .int l2, .int l3, .int l4, .int v4, .int v8, .int v12, .null, .null, .null] [.int 0, .int l2] (a9, r10, n11) (RI P)) ∧ (v8 = v4 → E G MX5_leftAtWorst (d + 1) 0 0 37 [.null, .null, .int l2, .int l3, .int l4, .int v4, .int v8, .int v12, .null, .null, .null] [.int l3, .int l2] (a9, r10, n11) (RI P))))))) : Sp G (d + 1) 0 0 MX5_leftAtWorst [.int l0, .int l1, .int l2, .int l3, .int l4] (a, r, N) (RI P) := Sp.mk (mc := 0) (ms := 0) [.int l0, .int l1, .int l2, .int l3, .int l4, .null, .null, .null, .null, .null, .null] rfl rfl rfl rfl (T_X5_leftAtWorst_0 (C := 0) (S := 0) _ _ _ hs)
set_option maxRecDepth 100000 in
theorem T_X5_leftAtWorst_37 {G : GE} {d C S : Nat} {P : KI} : Snd G MX5_leftAtWorst (d + 1) C S 37 (RI P) (s_iadd (s_iload 7 (s_iload 5 (s_ic_ne (s_iconst 0 (s_iadd (s_istore 8 (s_iload 3 (s_iload 5 (s_iload 6 (s_ic_ne (s_iconst 0 (s_iadd (s_iload 7 (s_iload 6 (s_ic_ne (s_iconst 0 (fun L st h => E G MX5_leftAtWorst (d + 1) C S 81 (msk [false, false, true, true, true, true, true, true, true, false, false] L) st h (RI P))) (s_iload 4 (fun L st h => E G MX5_leftAtWorst (d + 1) C S 81 (msk [false, false, true, true, true, true, true, true, true, false, false] L) st h (RI P)))))))) (s_iload 2 (s_iadd (s_iload 7 (s_iload 6 (s_ic_ne (s_iconst 0 (fun L st h => E G MX5_leftAtWorst (d + 1) C S 81 (msk [false, false, true, true, true, true, true, true, true, false, false] L) st h (RI P))) (s_iload 4 (fun L st h => E G MX5_leftAtWorst (d + 1) C S 81 (msk [false, false, true, true, true, true, true, true, true, false, false] L) st h (RI P))))))))))))))) (s_iload 4 (s_iadd (s_istore 8 (s_iload 3 (s_iload 5 (s_iload 6 (s_ic_ne (s_iconst 0 (s_iadd (s_iload 7 (s_iload 6 (s_ic_ne (s_iconst 0 (fun L st h => E G MX5_leftAtWorst (d + 1) C S 81 (msk [false, false, true, true, true, true, true, true, true, false, false] L) st h (RI P))) (s_iload 4 (fun L st h => E G MX5_leftAtWorst (d + 1) C S 81 (msk [false, false, true, true, true, true, true, true, true, false, false] L) st h (RI P)))))))) (s_iload 2 (s_iadd (s_iload 7 (s_iload 6 (s_ic_ne (s_iconst 0 (fun L st h => E G MX5_leftAtWorst (d + 1) C S 81 (msk [false, false, true, true, true, true, true, true, true, false, false] L) st h (RI P))) (s_iload 4 (fun L st h => E G MX5_leftAtWorst (d + 1) C S 81 (msk [false, false, true, true, true, true, true, true, true, false, false] L) st h (RI P))))))))))))))))))) := (e_iadd dX5_leftAtWorst_37 (e_iload dX5_leftAtWorst_38 (e_iload dX5_leftAtWorst_40 (e_ic_ne (tgt := 50) dX5_leftAtWorst_42 (by decide) (e_iconst (v := 0) dX5_leftAtWorst_50 (by decide) (e_iadd dX5_leftAtWorst_51 (e_istore dX5_leftAtWorst_52 (by decide) (e_iload_n dX5_leftAtWorst_54 rfl (e_iload dX5_leftAtWorst_55 (e_iload dX5_leftAtWorst_57 (e_ic_ne (tgt := 66) dX5_leftAtWorst_59 (by decide) (e_iconst (v := 0) dX5_leftAtWorst_66 (by decide) (e_iadd dX5_leftAtWorst_67 (e_iload dX5_leftAtWorst_68 (e_iload dX5_leftAtWorst_70 (e_ic_ne (tgt := 80) dX5_leftAtWorst_72 (by decide) (e_iconst (v := 0) dX5_leftAtWorst_80 (by decide) (e_msk [false, false, true, true, true, true, true, true, true, false, false])) (e_iload dX5_leftAtWorst_75 (e_goto (tgt := 81) dX5_leftAtWorst_77 (by decide) (e_msk [false, false, true, true, true, true, true, true, true, false, false])))))))) (e_iload_n dX5_leftAtWorst_62 rfl (e_goto (tgt := 67) dX5_leftAtWorst_63 (by decide) (e_iadd dX5_leftAtWorst_67 (e_iload dX5_leftAtWorst_68 (e_iload dX5_leftAtWorst_70 (e_ic_ne (tgt := 80) dX5_leftAtWorst_72 (by decide) (e_iconst (v := 0) dX5_leftAtWorst_80 (by decide) (e_msk [false, false, true, true, true, true, true, true, true, false, false])) (e_iload dX5_leftAtWorst_75 (e_goto (tgt := 81) dX5_leftAtWorst_77 (by decide) (e_msk [false, false, true, true, true, true, true, true, true, false, false])))))))))))))))) (e_iload dX5_leftAtWorst_45 (e_goto (tgt := 51) dX5_leftAtWorst_47 (by decide) (e_iadd dX5_leftAtWorst_51 (e_istore dX5_leftAtWorst_52 (by decide) (e_iload_n dX5_leftAtWorst_54 rfl (e_iload dX5_leftAtWorst_55 (e_iload dX5_leftAtWorst_57 (e_ic_ne (tgt := 66) dX5_leftAtWorst_59 (by decide) (e_iconst (v := 0) dX5_leftAtWorst_66 (by decide) (e_iadd dX5_leftAtWorst_67 (e_iload dX5_leftAtWorst_68 (e_iload dX5_leftAtWorst_70 (e_ic_ne (tgt := 80) dX5_leftAtWorst_72 (by decide) (e_iconst (v := 0) dX5_leftAtWorst_80 (by decide) (e_msk [false, false, true, true, true, true, true, true, true, false, false])) (e_iload dX5_leftAtWorst_75 (e_goto (tgt := 81) dX5_leftAtWorst_77 (by decide) (e_msk [false, false, true, true, true, true, true, true, true, false, false])))))))) (e_iload_n dX5_leftAtWorst_62 rfl (e_goto (tgt := 67) dX5_leftAtWorst_63 (by decide) (e_iadd dX5_leftAtWorst_67 (e_iload dX5_leftAtWorst_68 (e_iload dX5_leftAtWorst_70 (e_ic_ne (tgt := 80) dX5_leftAtWorst_72 (by decide) (e_iconst (v := 0) dX5_leftAtWorst_80 (by decide) (e_msk [false, false, true, true, true, true, true, true, true, false, false])) (e_iload dX5_leftAtWorst_75 (e_goto (tgt := 81) dX5_leftAtWorst_77 (by decide) (e_msk [false, false, true, true, true, true, true, true, true, false, false])))))))))))))))))))))
set_option maxRecDepth 100000 in
theorem V_X5_leftAtWorst_37 {G : GE} {d C S : Nat} {P : KI} {a : Nat → Nat → Int32} {r : Nat → Nat → Value} {N : Nat} {l2 : Int32} {l3 : Int32} {l4 : Int32} {l5 : Int32} {l6 : Int32} {l7 : Int32} {s0 : Int32} {s1 : Int32} (hs : ((¬ l7 = l5 → ((¬ l5 = l6 → ((¬ l7 = l6 → E G MX5_leftAtWorst (d + 1) C S 81 [.null, .null, .int l2, .int l3, .int l4, .int l5, .int l6, .int l7, .int ((s0 + s1) + 0), .null, .null] [.int 0, .int (l3 + 0)] (a, r, N) (RI P)) ∧ (l7 = l6 → E G MX5_leftAtWorst (d + 1) C S 81 [.null, .null, .int l2, .int l3, .int l4, .int l5, .int l6, .int l7, .int ((s0 + s1) + 0), .null, .null] [.int l4, .int (l3 + 0)] (a, r, N) (RI P)))) ∧ (l5 = l6 → ((¬ l7 = l6 → E G MX5_leftAtWorst (d + 1) C S 81 [.null, .null, .int l2, .int l3, .int l4, .int l5, .int l6, .int l7, .int ((s0 + s1) + 0), .null, .null] [.int 0, .int (l3 + l2)] (a, r, N) (RI P)) ∧ (l7 = l6 → E G MX5_leftAtWorst (d + 1) C S 81 [.null, .null, .int l2, .int l3, .int l4, .int l5, .int l6, .int l7, .int ((s0 + s1) + 0), .null, .null] [.int l4, .int (l3 + l2)] (a, r, N) (RI P)))))) ∧ (l7 = l5 → ((¬ l5 = l6 → ((¬ l7 = l6 → E G MX5_leftAtWorst (d + 1) C S 81 [.null, .null, .int l2, .int l3, .int l4, .int l5, .int l6, .int l7, .int ((s0 + s1) + l4), .null, .null] [.int 0, .int (l3 + 0)] (a, r, N) (RI P)) ∧ (l7 = l6 → E G MX5_leftAtWorst (d + 1) C S 81 [.null, .null, .int l2, .int l3, .int l4, .int l5, .int l6, .int l7, .int ((s0 + s1) + l4), .null, .null] [.int l4, .int (l3 + 0)] (a, r, N) (RI P)))) ∧ (l5 = l6 → ((¬ l7 = l6 → E G MX5_leftAtWorst (d + 1) C S 81 [.null, .null, .int l2, .int l3, .int l4, .int l5, .int l6, .int l7, .int ((s0 + s1) + l4), .null, .null] [.int 0, .int (l3 + l2)] (a, r, N) (RI P)) ∧ (l7 = l6 → E G MX5_leftAtWorst (d + 1) C S 81 [.null, .null, .int l2, .int l3, .int l4, .int l5, .int l6, .int l7, .int ((s0 + s1) + l4), .null, .null] [.int l4, .int (l3 + l2)] (a, r, N) (RI P)))))))) : E G MX5_leftAtWorst (d + 1) C S 37 [.null, .null, .int l2, .int l3, .int l4, .int l5, .int l6, .int l7, .null, .null, .null] [.int s1, .int s0] (a, r, N) (RI P) := T_X5_leftAtWorst_37 _ _ _ hs
set_option maxRecDepth 100000 in
theorem T_X5_leftAtWorst_81 {G : GE} {d C S : Nat} {P : KI} : Snd G MX5_leftAtWorst (d + 1) C S 81 (RI P) (s_iadd (s_istore 9 (s_iload 4 (s_iload 5 (s_iload 7 (s_ic_ne (s_iconst 0 (s_iadd (s_iload 6 (s_iload 7 (s_ic_ne (s_iconst 0 (s_iadd (s_istore 10 (s_iload 8 (s_iload 9 (s_iload 10 (s_max (s_max (s_ireturn P))))))))) (s_iload 3 (s_iadd (s_istore 10 (s_iload 8 (s_iload 9 (s_iload 10 (s_max (s_max (s_ireturn P)))))))))))))) (s_iload 2 (s_iadd (s_iload 6 (s_iload 7 (s_ic_ne (s_iconst 0 (s_iadd (s_istore 10 (s_iload 8 (s_iload 9 (s_iload 10 (s_max (s_max (s_ireturn P))))))))) (s_iload 3 (s_iadd (s_istore 10 (s_iload 8 (s_iload 9 (s_iload 10 (s_max (s_max (s_ireturn P)))))))))))))))))))) := (e_iadd dX5_leftAtWorst_81 (e_istore dX5_leftAtWorst_82 (by decide) (e_iload dX5_leftAtWorst_84 (e_iload dX5_leftAtWorst_86 (e_iload dX5_leftAtWorst_88 (e_ic_ne (tgt := 97) dX5_leftAtWorst_90 (by decide) (e_iconst (v := 0) dX5_leftAtWorst_97 (by decide) (e_iadd dX5_leftAtWorst_98 (e_iload dX5_leftAtWorst_99 (e_iload dX5_leftAtWorst_101 (e_ic_ne (tgt := 110) dX5_leftAtWorst_103 (by decide) (e_iconst (v := 0) dX5_leftAtWorst_110 (by decide) (e_iadd dX5_leftAtWorst_111 (e_istore dX5_leftAtWorst_112 (by decide) (e_iload dX5_leftAtWorst_114 (e_iload dX5_leftAtWorst_116 (e_iload dX5_leftAtWorst_118 (e_max q_1454 q_555 q_127 q_556 dX5_leftAtWorst_120 (e_max q_1454 q_555 q_127 q_556 dX5_leftAtWorst_123 (e_ireturn rfl dX5_leftAtWorst_126))))))))) (e_iload_n dX5_leftAtWorst_106 rfl (e_goto (tgt := 111) dX5_leftAtWorst_107 (by decide) (e_iadd dX5_leftAtWorst_111 (e_istore dX5_leftAtWorst_112 (by decide) (e_iload dX5_leftAtWorst_114 (e_iload dX5_leftAtWorst_116 (e_iload dX5_leftAtWorst_118 (e_max q_1454 q_555 q_127 q_556 dX5_leftAtWorst_120 (e_max q_1454 q_555 q_127 q_556 dX5_leftAtWorst_123 (e_ireturn rfl dX5_leftAtWorst_126))))))))))))))) (e_iload_n dX5_leftAtWorst_93 rfl (e_goto (tgt := 98) dX5_leftAtWorst_94 (by decide) (e_iadd dX5_leftAtWorst_98 (e_iload dX5_leftAtWorst_99 (e_iload dX5_leftAtWorst_101 (e_ic_ne (tgt := 110) dX5_leftAtWorst_103 (by decide) (e_iconst (v := 0) dX5_leftAtWorst_110 (by decide) (e_iadd dX5_leftAtWorst_111 (e_istore dX5_leftAtWorst_112 (by decide) (e_iload dX5_leftAtWorst_114 (e_iload dX5_leftAtWorst_116 (e_iload dX5_leftAtWorst_118 (e_max q_1454 q_555 q_127 q_556 dX5_leftAtWorst_120 (e_max q_1454 q_555 q_127 q_556 dX5_leftAtWorst_123 (e_ireturn rfl dX5_leftAtWorst_126))))))))) (e_iload_n dX5_leftAtWorst_106 rfl (e_goto (tgt := 111) dX5_leftAtWorst_107 (by decide) (e_iadd dX5_leftAtWorst_111 (e_istore dX5_leftAtWorst_112 (by decide) (e_iload dX5_leftAtWorst_114 (e_iload dX5_leftAtWorst_116 (e_iload dX5_leftAtWorst_118 (e_max q_1454 q_555 q_127 q_556 dX5_leftAtWorst_120 (e_max q_1454 q_555 q_127 q_556 dX5_leftAtWorst_123 (e_ireturn rfl dX5_leftAtWorst_126))))))))))))))))))))))
set_option maxRecDepth 100000 in
theorem V_X5_leftAtWorst_81 {G : GE} {d C S : Nat} {P : KI} {a : Nat → Nat → Int32} {r : Nat → Nat → Value} {N : Nat} {l2 : Int32} {l3 : Int32} {l4 : Int32} {l5 : Int32} {l6 : Int32} {l7 : Int32} {l8 : Int32} {s0 : Int32} {s1 : Int32} (hs : ((¬ l5 = l7 → ((¬ l6 = l7 → P (if (l8 : Int32) < (if ((s0 + s1) : Int32) < ((l4 + 0) + 0) then ((l4 + 0) + 0) else (s0 + s1)) then (if ((s0 + s1) : Int32) < ((l4 + 0) + 0) then ((l4 + 0) + 0) else (s0 + s1)) else l8) a r N) ∧ (l6 = l7 → P (if (l8 : Int32) < (if ((s0 + s1) : Int32) < ((l4 + 0) + l3) then ((l4 + 0) + l3) else (s0 + s1)) then (if ((s0 + s1) : Int32) < ((l4 + 0) + l3) then ((l4 + 0) + l3) else (s0 + s1)) else l8) a r N))) ∧ (l5 = l7 → ((¬ l6 = l7 → P (if (l8 : Int32) < (if ((s0 + s1) : Int32) < ((l4 + l2) + 0) then ((l4 + l2) + 0) else (s0 + s1)) then (if ((s0 + s1) : Int32) < ((l4 + l2) + 0) then ((l4 + l2) + 0) else (s0 + s1)) else l8) a r N) ∧ (l6 = l7 → P (if (l8 : Int32) < (if ((s0 + s1) : Int32) < ((l4 + l2) + l3) then ((l4 + l2) + l3) else (s0 + s1)) then (if ((s0 + s1) : Int32) < ((l4 + l2) + l3) then ((l4 + l2) + l3) else (s0 + s1)) else l8) a r N))))) : E G MX5_leftAtWorst (d + 1) C S 81 [.null, .null, .int l2, .int l3, .int l4, .int l5, .int l6, .int l7, .int l8, .null, .null] [.int s1, .int s0] (a, r, N) (RI P) := T_X5_leftAtWorst_81 _ _ _ hs
