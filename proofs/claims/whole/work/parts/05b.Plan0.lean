theorem dX7_init_0 : decode cX7_init 0 = .ok (.aload_n 0, 1) := by decide +kernel
theorem dX7_init_1 : decode cX7_init 1 = .ok (.invokespecial 3, 3) := by decide +kernel
theorem dX7_init_4 : decode cX7_init 4 = .ok (.aload_n 0, 1) := by decide +kernel
theorem dX7_init_5 : decode cX7_init 5 = .ok (.bipush 50, 2) := by decide +kernel
theorem dX7_init_7 : decode cX7_init 7 = .ok (.newarray .int, 2) := by decide +kernel
theorem dX7_init_9 : decode cX7_init 9 = .ok (.putfield 11, 3) := by decide +kernel
theorem dX7_init_12 : decode cX7_init 12 = .ok (.aload_n 0, 1) := by decide +kernel
theorem dX7_init_13 : decode cX7_init 13 = .ok (.bipush 50, 2) := by decide +kernel
theorem dX7_init_15 : decode cX7_init 15 = .ok (.newarray .int, 2) := by decide +kernel
theorem dX7_init_17 : decode cX7_init 17 = .ok (.putfield 15, 3) := by decide +kernel
theorem dX7_init_20 : decode cX7_init 20 = .ok (.aload_n 0, 1) := by decide +kernel
theorem dX7_init_21 : decode cX7_init 21 = .ok (.bipush 50, 2) := by decide +kernel
theorem dX7_init_23 : decode cX7_init 23 = .ok (.newarray .int, 2) := by decide +kernel
theorem dX7_init_25 : decode cX7_init 25 = .ok (.putfield 18, 3) := by decide +kernel
theorem dX7_init_28 : decode cX7_init 28 = .ok (.return_, 1) := by decide +kernel
set_option maxRecDepth 100000 in
theorem T_X7_init_0 {G : GE} {d C S : Nat} {P : KN} : Snd G MX7_init (d + 1) (C + 3) (S + 150) 0 (RN P) (s_aload 0 (s_objInit (s_aload 0 (s_iconst 50 (fun L st h => p1 st (fun x _ => x.toNatClampNeg = 50) ∧ s_newI (s_putR 7 0 (s_aload 0 (s_iconst 50 (fun L st h => p1 st (fun x _ => x.toNatClampNeg = 50) ∧ s_newI (s_putR 7 1 (s_aload 0 (s_iconst 50 (fun L st h => p1 st (fun x _ => x.toNatClampNeg = 50) ∧ s_newI (s_putR 7 2 (s_return P)) L st h)))) L st h)))) L st h))))) := (e_aload_n dX7_init_0 rfl (e_objInit q_291 q_141 q_142 dX7_init_1 (e_aload_n dX7_init_4 rfl (e_bipush (v := 50) dX7_init_5 (by decide) (e_newI (N := 50) q_252 (by decide) dX7_init_7 (e_putRF (ty := .array .int) rfl rfl cl_7 (by decide) rfl rfl rfl (by decide +kernel) (fun _ => ⟨rfl, rfl⟩) q_292 dX7_init_9 (e_aload_n dX7_init_12 rfl (e_bipush (v := 50) dX7_init_13 (by decide) (e_newI (N := 50) q_252 (by decide) dX7_init_15 (e_putRF (ty := .array .int) rfl rfl cl_7 (by decide) rfl rfl rfl (by decide +kernel) (fun _ => ⟨rfl, rfl⟩) q_293 dX7_init_17 (e_aload_n dX7_init_20 rfl (e_bipush (v := 50) dX7_init_21 (by decide) (e_newI (N := 50) q_252 (by decide) dX7_init_23 (e_putRF (ty := .array .int) rfl rfl cl_7 (by decide) rfl rfl rfl (by decide +kernel) (fun _ => ⟨rfl, rfl⟩) q_294 dX7_init_25 (e_return rfl dX7_init_28)))))))))))))))
set_option maxRecDepth 100000 in
theorem V_X7_init_0 {G : GE} {d : Nat} {P : KN} {a : Nat → Nat → Int32} {r : Nat → Nat → Value} {N : Nat} {l0 : Nat} (hs : ((50 : Int32).toNatClampNeg = 50 ∧ N < nK ∧ tyK N = (1, (50 : Int32).toNatClampNeg) ∧ ¬ (50 : Int32) < 0 ∧ (∀ j, a N j = 0) ∧ (tyK l0 = (0, 7) ∧ l0 < (N + 1) ∧ ∀ r1, r1 = u2V r l0 0 (.ref N) → ((50 : Int32).toNatClampNeg = 50 ∧ (N + 1) < nK ∧ tyK (N + 1) = (1, (50 : Int32).toNatClampNeg) ∧ ¬ (50 : Int32) < 0 ∧ (∀ j, a (N + 1) j = 0) ∧ (tyK l0 = (0, 7) ∧ l0 < ((N + 1) + 1) ∧ ∀ r2, r2 = u2V r1 l0 1 (.ref (N + 1)) → ((50 : Int32).toNatClampNeg = 50 ∧ ((N + 1) + 1) < nK ∧ tyK ((N + 1) + 1) = (1, (50 : Int32).toNatClampNeg) ∧ ¬ (50 : Int32) < 0 ∧ (∀ j, a ((N + 1) + 1) j = 0) ∧ (tyK l0 = (0, 7) ∧ l0 < (((N + 1) + 1) + 1) ∧ ∀ r3, r3 = u2V r2 l0 2 (.ref ((N + 1) + 1)) → P a r3 (((N + 1) + 1) + 1)))))))) : Sp G (d + 1) 3 150 MX7_init [.ref l0] (a, r, N) (RN P) := Sp.mk (mc := (0 + 3)) (ms := (0 + 150)) [.ref l0] rfl rfl rfl rfl (T_X7_init_0 (C := 0) (S := 0) _ _ _ hs)
theorem dX7_readAll_0 : decode cX7_readAll 0 = .ok (.aload_n 0, 1) := by decide +kernel
theorem dX7_readAll_1 : decode cX7_readAll 1 = .ok (.iconst 0, 1) := by decide +kernel
theorem dX7_readAll_2 : decode cX7_readAll 2 = .ok (.putfield 21, 3) := by decide +kernel
theorem dX7_readAll_5 : decode cX7_readAll 5 = .ok (.aload_n 0, 1) := by decide +kernel
theorem dX7_readAll_6 : decode cX7_readAll 6 = .ok (.iconst 0, 1) := by decide +kernel
theorem dX7_readAll_7 : decode cX7_readAll 7 = .ok (.putfield 25, 3) := by decide +kernel
theorem dX7_readAll_10 : decode cX7_readAll 10 = .ok (.aload_n 0, 1) := by decide +kernel
theorem dX7_readAll_11 : decode cX7_readAll 11 = .ok (.iconst 0, 1) := by decide +kernel
theorem dX7_readAll_12 : decode cX7_readAll 12 = .ok (.putfield 28, 3) := by decide +kernel
theorem dX7_readAll_15 : decode cX7_readAll 15 = .ok (.aload_n 0, 1) := by decide +kernel
theorem dX7_readAll_16 : decode cX7_readAll 16 = .ok (.iconst 0, 1) := by decide +kernel
theorem dX7_readAll_17 : decode cX7_readAll 17 = .ok (.putfield 31, 3) := by decide +kernel
theorem dX7_readAll_20 : decode cX7_readAll 20 = .ok (.iconst 0, 1) := by decide +kernel
theorem dX7_readAll_21 : decode cX7_readAll 21 = .ok (.istore_n 3, 1) := by decide +kernel
theorem dX7_readAll_22 : decode cX7_readAll 22 = .ok (.iload_n 3, 1) := by decide +kernel
theorem dX7_readAll_23 : decode cX7_readAll 23 = .ok (.sipush 150, 3) := by decide +kernel
theorem dX7_readAll_26 : decode cX7_readAll 26 = .ok (.if_icmp .ge 28, 3) := by decide +kernel
theorem dX7_readAll_29 : decode cX7_readAll 29 = .ok (.aload_n 1, 1) := by decide +kernel
theorem dX7_readAll_30 : decode cX7_readAll 30 = .ok (.invokevirtual 34, 3) := by decide +kernel
theorem dX7_readAll_33 : decode cX7_readAll 33 = .ok (.ifCond .ne 21, 3) := by decide +kernel
theorem dX7_readAll_36 : decode cX7_readAll 36 = .ok (.aload_n 0, 1) := by decide +kernel
theorem dX7_readAll_37 : decode cX7_readAll 37 = .ok (.aload_n 1, 1) := by decide +kernel
theorem dX7_readAll_38 : decode cX7_readAll 38 = .ok (.iload_n 2, 1) := by decide +kernel
theorem dX7_readAll_39 : decode cX7_readAll 39 = .ok (.iconst 0, 1) := by decide +kernel
theorem dX7_readAll_40 : decode cX7_readAll 40 = .ok (.invokevirtual 40, 3) := by decide +kernel
theorem dX7_readAll_43 : decode cX7_readAll 43 = .ok (.ifCond .ne 5, 3) := by decide +kernel
theorem dX7_readAll_46 : decode cX7_readAll 46 = .ok (.iconst 0, 1) := by decide +kernel
theorem dX7_readAll_47 : decode cX7_readAll 47 = .ok (.ireturn, 1) := by decide +kernel
theorem dX7_readAll_48 : decode cX7_readAll 48 = .ok (.iinc 3 1, 3) := by decide +kernel
theorem dX7_readAll_51 : decode cX7_readAll 51 = .ok (.goto (-29), 3) := by decide +kernel
theorem dX7_readAll_54 : decode cX7_readAll 54 = .ok (.iconst 1, 1) := by decide +kernel
theorem dX7_readAll_55 : decode cX7_readAll 55 = .ok (.ireturn, 1) := by decide +kernel
set_option maxRecDepth 100000 in
theorem T_X7_readAll_0 {G : GE} {d C S : Nat} {P : KI} : Snd G MX7_readAll (d + 1) C S 0 (RI P) (s_aload 0 (s_iconst 0 (s_putI 7 3 (s_aload 0 (s_iconst 0 (s_putI 7 4 (s_aload 0 (s_iconst 0 (s_putI 7 5 (s_aload 0 (s_iconst 0 (s_putI 7 6 (s_iconst 0 (s_istore 3 (fun L st h => E G MX7_readAll (d + 1) C S 22 (msk [true, true, true, true] L) st h (RI P)))))))))))))))) := (e_aload_n dX7_readAll_0 rfl (e_iconst (v := 0) dX7_readAll_1 (by decide) (e_putI rfl cl_7 (by decide) rfl rfl rfl q_295 dX7_readAll_2 (e_aload_n dX7_readAll_5 rfl (e_iconst (v := 0) dX7_readAll_6 (by decide) (e_putI rfl cl_7 (by decide) rfl rfl rfl q_297 dX7_readAll_7 (e_aload_n dX7_readAll_10 rfl (e_iconst (v := 0) dX7_readAll_11 (by decide) (e_putI rfl cl_7 (by decide) rfl rfl rfl q_298 dX7_readAll_12 (e_aload_n dX7_readAll_15 rfl (e_iconst (v := 0) dX7_readAll_16 (by decide) (e_putI rfl cl_7 (by decide) rfl rfl rfl q_300 dX7_readAll_17 (e_iconst (v := 0) dX7_readAll_20 (by decide) (e_istore_n dX7_readAll_21 rfl (by decide) (e_msk [true, true, true, true])))))))))))))))
set_option maxRecDepth 100000 in
theorem V_X7_readAll_0 {G : GE} {d : Nat} {P : KI} {a : Nat → Nat → Int32} {r : Nat → Nat → Value} {N : Nat} {l0 : Nat} {l1 : Nat} {l2 : Int32} (hs : (tyK l0 = (0, 7) ∧ l0 < N ∧ ∀ a1, a1 = u2 a l0 3 0 → (tyK l0 = (0, 7) ∧ l0 < N ∧ ∀ a2, a2 = u2 a1 l0 4 0 → (tyK l0 = (0, 7) ∧ l0 < N ∧ ∀ a3, a3 = u2 a2 l0 5 0 → (tyK l0 = (0, 7) ∧ l0 < N ∧ ∀ a4, a4 = u2 a3 l0 6 0 → E G MX7_readAll (d + 1) 0 0 22 [.ref l0, .ref l1, .int l2, .int 0] [] (a4, r, N) (RI P)))))) : Sp G (d + 1) 0 0 MX7_readAll [.ref l0, .ref l1, .int l2] (a, r, N) (RI P) := Sp.mk (mc := 0) (ms := 0) [.ref l0, .ref l1, .int l2, .null] rfl rfl rfl rfl (T_X7_readAll_0 (C := 0) (S := 0) _ _ _ hs)
set_option maxRecDepth 100000 in
theorem T_X7_readAll_22 {G : GE} {d C S : Nat} {P : KI} : Snd G MX7_readAll (d + 1) C S 22 (RI P) (s_iload 3 (s_iconst 150 (s_ic_ge (s_iconst 1 (s_zreturn P)) (s_aload 1 (s_callV G d MX10_atEnd 0 9 (s_if_ne (s_iconst 1 (s_zreturn P)) (s_aload 0 (s_aload 1 (s_iload 2 (s_iconst 0 (s_callV G d MX7_readStep 3 7 (s_if_ne (s_iinc 3 1 (fun L st h => E G MX7_readAll (d + 1) C S 22 (msk [true, true, true, true] L) st h (RI P))) (s_iconst 0 (s_zreturn P)))))))))))))) := (e_iload_n dX7_readAll_22 rfl (e_sipush (v := 150) dX7_readAll_23 (by decide) (e_ic_ge (tgt := 54) dX7_readAll_26 (by decide) (e_iconst (v := 1) dX7_readAll_54 (by decide) (e_zreturn rfl dX7_readAll_55)) (e_aload_n dX7_readAll_29 rfl (e_callV cl_9 cal_X10_atEnd q_1049 q_796 q_797 dX7_readAll_30 (e_if_ne (tgt := 54) dX7_readAll_33 (by decide) (e_iconst (v := 1) dX7_readAll_54 (by decide) (e_zreturn rfl dX7_readAll_55)) (e_aload_n dX7_readAll_36 rfl (e_aload_n dX7_readAll_37 rfl (e_iload_n dX7_readAll_38 rfl (e_iconst (v := 0) dX7_readAll_39 (by decide) (e_callV cl_7 cal_X7_readStep q_1050 q_1052 q_29 dX7_readAll_40 (e_if_ne (tgt := 48) dX7_readAll_43 (by decide) (e_iinc (v := 1) dX7_readAll_48 (by decide) (by decide) (e_goto (tgt := 22) dX7_readAll_51 (by decide) (e_msk [true, true, true, true]))) (e_iconst (v := 0) dX7_readAll_46 (by decide) (e_zreturn rfl dX7_readAll_47))))))))))))))
set_option maxRecDepth 100000 in
theorem V_X7_readAll_22 {G : GE} {d C S : Nat} {P : KI} {a : Nat → Nat → Int32} {r : Nat → Nat → Value} {N : Nat} {l0 : Nat} {l1 : Nat} {l2 : Int32} {l3 : Int32} (hs : ((150 ≤ l3 → (bz 1 ∧ P 1 a r N)) ∧ (¬ 150 ≤ l3 → (tyK l1 = (0, 9) ∧ l1 < N ∧ Sp G d 0 0 MX10_atEnd [.ref l1] (a, r, N) (RI fun v4 a1 r2 n3 => ((¬ v4 = 0 → (bz 1 ∧ P 1 a1 r2 n3)) ∧ (v4 = 0 → (tyK l0 = (0, 7) ∧ l0 < n3 ∧ Sp G d 0 0 MX7_readStep [.ref l0, .ref l1, .int l2, .int 0] (a1, r2, n3) (RI fun v8 a5 r6 n7 => ((¬ v8 = 0 → E G MX7_readAll (d + 1) C S 22 [.ref l0, .ref l1, .int l2, .int (l3 + 1)] [] (a5, r6, n7) (RI P)) ∧ (v8 = 0 → (bz 0 ∧ P 0 a5 r6 n7)))))))))))) : E G MX7_readAll (d + 1) C S 22 [.ref l0, .ref l1, .int l2, .int l3] [] (a, r, N) (RI P) := T_X7_readAll_22 _ _ _ hs
theorem dX7_readStep_0 : decode cX7_readStep 0 = .ok (.aload_n 1, 1) := by decide +kernel
theorem dX7_readStep_1 : decode cX7_readStep 1 = .ok (.invokevirtual 44, 3) := by decide +kernel
theorem dX7_readStep_4 : decode cX7_readStep 4 = .ok (.aload_n 1, 1) := by decide +kernel
theorem dX7_readStep_5 : decode cX7_readStep 5 = .ok (.invokestatic 47, 3) := by decide +kernel
theorem dX7_readStep_8 : decode cX7_readStep 8 = .ok (.istore 4, 2) := by decide +kernel
theorem dX7_readStep_10 : decode cX7_readStep 10 = .ok (.iload 4, 2) := by decide +kernel
theorem dX7_readStep_12 : decode cX7_readStep 12 = .ok (.ifCond .ne 9, 3) := by decide +kernel
theorem dX7_readStep_15 : decode cX7_readStep 15 = .ok (.aload_n 1, 1) := by decide +kernel
theorem dX7_readStep_16 : decode cX7_readStep 16 = .ok (.iconst 1, 1) := by decide +kernel
theorem dX7_readStep_17 : decode cX7_readStep 17 = .ok (.invokevirtual 51, 3) := by decide +kernel
theorem dX7_readStep_20 : decode cX7_readStep 20 = .ok (.ireturn, 1) := by decide +kernel
theorem dX7_readStep_21 : decode cX7_readStep 21 = .ok (.iload 4, 2) := by decide +kernel
theorem dX7_readStep_23 : decode cX7_readStep 23 = .ok (.bipush 7, 2) := by decide +kernel
theorem dX7_readStep_25 : decode cX7_readStep 25 = .ok (.if_icmp .ne 28, 3) := by decide +kernel
theorem dX7_readStep_28 : decode cX7_readStep 28 = .ok (.aload_n 0, 1) := by decide +kernel
theorem dX7_readStep_29 : decode cX7_readStep 29 = .ok (.aload_n 1, 1) := by decide +kernel
theorem dX7_readStep_30 : decode cX7_readStep 30 = .ok (.iload_n 2, 1) := by decide +kernel
theorem dX7_readStep_31 : decode cX7_readStep 31 = .ok (.iload_n 3, 1) := by decide +kernel
theorem dX7_readStep_32 : decode cX7_readStep 32 = .ok (.invokevirtual 55, 3) := by decide +kernel
theorem dX7_readStep_35 : decode cX7_readStep 35 = .ok (.ifCond .eq 16, 3) := by decide +kernel
theorem dX7_readStep_38 : decode cX7_readStep 38 = .ok (.aload_n 1, 1) := by decide +kernel
theorem dX7_readStep_39 : decode cX7_readStep 39 = .ok (.bipush 59, 2) := by decide +kernel
theorem dX7_readStep_41 : decode cX7_readStep 41 = .ok (.invokevirtual 58, 3) := by decide +kernel
theorem dX7_readStep_44 : decode cX7_readStep 44 = .ok (.ifCond .eq 7, 3) := by decide +kernel
theorem dX7_readStep_47 : decode cX7_readStep 47 = .ok (.iconst 1, 1) := by decide +kernel
theorem dX7_readStep_48 : decode cX7_readStep 48 = .ok (.goto 4, 3) := by decide +kernel
theorem dX7_readStep_51 : decode cX7_readStep 51 = .ok (.iconst 0, 1) := by decide +kernel
theorem dX7_readStep_52 : decode cX7_readStep 52 = .ok (.ireturn, 1) := by decide +kernel
theorem dX7_readStep_53 : decode cX7_readStep 53 = .ok (.iload 4, 2) := by decide +kernel
theorem dX7_readStep_55 : decode cX7_readStep 55 = .ok (.bipush 6, 2) := by decide +kernel
theorem dX7_readStep_57 : decode cX7_readStep 57 = .ok (.if_icmp .ne 7, 3) := by decide +kernel
theorem dX7_readStep_60 : decode cX7_readStep 60 = .ok (.iconst 0, 1) := by decide +kernel
theorem dX7_readStep_61 : decode cX7_readStep 61 = .ok (.goto 11, 3) := by decide +kernel
theorem dX7_readStep_64 : decode cX7_readStep 64 = .ok (.aload_n 1, 1) := by decide +kernel
theorem dX7_readStep_65 : decode cX7_readStep 65 = .ok (.iconst 0, 1) := by decide +kernel
theorem dX7_readStep_66 : decode cX7_readStep 66 = .ok (.iload_n 2, 1) := by decide +kernel
theorem dX7_readStep_67 : decode cX7_readStep 67 = .ok (.iconst 1, 1) := by decide +kernel
theorem dX7_readStep_68 : decode cX7_readStep 68 = .ok (.isub, 1) := by decide +kernel
theorem dX7_readStep_69 : decode cX7_readStep 69 = .ok (.invokevirtual 62, 3) := by decide +kernel
theorem dX7_readStep_72 : decode cX7_readStep 72 = .ok (.istore 5, 2) := by decide +kernel
theorem dX7_readStep_74 : decode cX7_readStep 74 = .ok (.iload 5, 2) := by decide +kernel
theorem dX7_readStep_76 : decode cX7_readStep 76 = .ok (.iconst (-1), 1) := by decide +kernel
theorem dX7_readStep_77 : decode cX7_readStep 77 = .ok (.if_icmp .ne 7, 3) := by decide +kernel
theorem dX7_readStep_80 : decode cX7_readStep 80 = .ok (.iconst (-1), 1) := by decide +kernel
theorem dX7_readStep_81 : decode cX7_readStep 81 = .ok (.goto 10, 3) := by decide +kernel
theorem dX7_readStep_84 : decode cX7_readStep 84 = .ok (.aload_n 1, 1) := by decide +kernel
theorem dX7_readStep_85 : decode cX7_readStep 85 = .ok (.iload_n 2, 1) := by decide +kernel
theorem dX7_readStep_86 : decode cX7_readStep 86 = .ok (.iload 4, 2) := by decide +kernel
theorem dX7_readStep_88 : decode cX7_readStep 88 = .ok (.invokestatic 66, 3) := by decide +kernel
theorem dX7_readStep_91 : decode cX7_readStep 91 = .ok (.istore 6, 2) := by decide +kernel
theorem dX7_readStep_93 : decode cX7_readStep 93 = .ok (.iload 6, 2) := by decide +kernel
theorem dX7_readStep_95 : decode cX7_readStep 95 = .ok (.iconst (-1), 1) := by decide +kernel
theorem dX7_readStep_96 : decode cX7_readStep 96 = .ok (.if_icmp .ne 5, 3) := by decide +kernel
theorem dX7_readStep_99 : decode cX7_readStep 99 = .ok (.iconst 0, 1) := by decide +kernel
theorem dX7_readStep_100 : decode cX7_readStep 100 = .ok (.ireturn, 1) := by decide +kernel
theorem dX7_readStep_101 : decode cX7_readStep 101 = .ok (.aload_n 0, 1) := by decide +kernel
theorem dX7_readStep_102 : decode cX7_readStep 102 = .ok (.iload 4, 2) := by decide +kernel
theorem dX7_readStep_104 : decode cX7_readStep 104 = .ok (.iload 5, 2) := by decide +kernel
theorem dX7_readStep_106 : decode cX7_readStep 106 = .ok (.iload 6, 2) := by decide +kernel
theorem dX7_readStep_108 : decode cX7_readStep 108 = .ok (.invokevirtual 70, 3) := by decide +kernel
theorem dX7_readStep_111 : decode cX7_readStep 111 = .ok (.aload_n 1, 1) := by decide +kernel
theorem dX7_readStep_112 : decode cX7_readStep 112 = .ok (.bipush 59, 2) := by decide +kernel
theorem dX7_readStep_114 : decode cX7_readStep 114 = .ok (.invokevirtual 58, 3) := by decide +kernel
theorem dX7_readStep_117 : decode cX7_readStep 117 = .ok (.ireturn, 1) := by decide +kernel
set_option maxRecDepth 100000 in
theorem T_X7_readStep_0 {G : GE} {d C S : Nat} {P : KI} : Snd G MX7_readStep (d + 1) C S 0 (RI P) (s_aload 1 (s_callV G d MX10_readWord 0 9 (s_aload 1 (s_call G d MX7_kindOf 1 (s_istore 4 (s_iload 4 (s_if_ne (s_iload 4 (s_iconst 7 (s_ic_ne (s_iload 4 (s_iconst 6 (s_ic_ne (s_aload 1 (s_iconst 0 (s_iload 2 (s_iconst 1 (s_isub (s_callV G d MX10_readNumber 2 9 (fun L st h => E G MX7_readStep (d + 1) C S 72 (msk [true, true, true, false, true, false, false] L) st h (RI P)))))))) (s_iconst 0 (fun L st h => E G MX7_readStep (d + 1) C S 72 (msk [true, true, true, false, true, false, false] L) st h (RI P)))))) (s_aload 0 (s_aload 1 (s_iload 2 (s_iload 3 (s_callV G d MX7_readAgain 3 7 (s_if_eq (s_iconst 0 (s_zreturn P)) (s_aload 1 (s_iconst 59 (s_callV G d MX10_take 1 9 (s_if_eq (s_iconst 0 (s_zreturn P)) (s_iconst 1 (s_zreturn P))))))))))))))) (s_aload 1 (s_iconst 1 (s_callV G d MX10_mark 1 9 (s_zreturn P))))))))))) := (e_aload_n dX7_readStep_0 rfl (e_callV cl_9 cal_X10_readWord q_1054 q_808 q_809 dX7_readStep_1 (e_aload_n dX7_readStep_4 rfl (e_callS cal_X7_kindOf q_1055 q_1056 dX7_readStep_5 (e_istore dX7_readStep_8 (by decide) (e_iload dX7_readStep_10 (e_if_ne (tgt := 21) dX7_readStep_12 (by decide) (e_iload dX7_readStep_21 (e_bipush (v := 7) dX7_readStep_23 (by decide) (e_ic_ne (tgt := 53) dX7_readStep_25 (by decide) (e_iload dX7_readStep_53 (e_bipush (v := 6) dX7_readStep_55 (by decide) (e_ic_ne (tgt := 64) dX7_readStep_57 (by decide) (e_aload_n dX7_readStep_64 rfl (e_iconst (v := 0) dX7_readStep_65 (by decide) (e_iload_n dX7_readStep_66 rfl (e_iconst (v := 1) dX7_readStep_67 (by decide) (e_isub dX7_readStep_68 (e_callV cl_9 cal_X10_readNumber q_1071 q_893 q_894 dX7_readStep_69 (e_msk [true, true, true, false, true, false, false]))))))) (e_iconst (v := 0) dX7_readStep_60 (by decide) (e_goto (tgt := 72) dX7_readStep_61 (by decide) (e_msk [true, true, true, false, true, false, false])))))) (e_aload_n dX7_readStep_28 rfl (e_aload_n dX7_readStep_29 rfl (e_iload_n dX7_readStep_30 rfl (e_iload_n dX7_readStep_31 rfl (e_callV cl_7 cal_X7_readAgain q_1067 q_1069 q_30 dX7_readStep_32 (e_if_eq (tgt := 51) dX7_readStep_35 (by decide) (e_iconst (v := 0) dX7_readStep_51 (by decide) (e_zreturn rfl dX7_readStep_52)) (e_aload_n dX7_readStep_38 rfl (e_bipush (v := 59) dX7_readStep_39 (by decide) (e_callV cl_9 cal_X10_take q_1072 q_953 q_954 dX7_readStep_41 (e_if_eq (tgt := 51) dX7_readStep_44 (by decide) (e_iconst (v := 0) dX7_readStep_51 (by decide) (e_zreturn rfl dX7_readStep_52)) (e_iconst (v := 1) dX7_readStep_47 (by decide) (e_goto (tgt := 52) dX7_readStep_48 (by decide) (e_zreturn rfl dX7_readStep_52)))))))))))))))) (e_aload_n dX7_readStep_15 rfl (e_iconst (v := 1) dX7_readStep_16 (by decide) (e_callV cl_9 cal_X10_mark q_1066 q_881 q_882 dX7_readStep_17 (e_zreturn rfl dX7_readStep_20)))))))))))
set_option maxRecDepth 100000 in
theorem V_X7_readStep_0 {G : GE} {d : Nat} {P : KI} {a : Nat → Nat → Int32} {r : Nat → Nat → Value} {N : Nat} {l0 : Nat} {l1 : Nat} {l2 : Int32} {l3 : Int32} (hs : (tyK l1 = (0, 9) ∧ l1 < N ∧ Sp G d 0 0 MX10_readWord [.ref l1] (a, r, N) (RN fun a1 r2 n3 => Sp G d 0 0 MX7_kindOf [.ref l1] (a1, r2, n3) (RI fun v7 a4 r5 n6 => ((¬ v7 = 0 → ((¬ v7 = 7 → ((¬ v7 = 6 → (tyK l1 = (0, 9) ∧ l1 < n6 ∧ Sp G d 0 0 MX10_readNumber [.ref l1, .int 0, .int (l2 - 1)] (a4, r5, n6) (RI fun v11 a8 r9 n10 => E G MX7_readStep (d + 1) 0 0 72 [.ref l0, .ref l1, .int l2, .null, .int v7, .null, .null] [.int v11] (a8, r9, n10) (RI P)))) ∧ (v7 = 6 → E G MX7_readStep (d + 1) 0 0 72 [.ref l0, .ref l1, .int l2, .null, .int v7, .null, .null] [.int 0] (a4, r5, n6) (RI P)))) ∧ (v7 = 7 → (tyK l0 = (0, 7) ∧ l0 < n6 ∧ Sp G d 0 0 MX7_readAgain [.ref l0, .ref l1, .int l2, .int l3] (a4, r5, n6) (RI fun v15 a12 r13 n14 => ((v15 = 0 → (bz 0 ∧ P 0 a12 r13 n14)) ∧ (¬ v15 = 0 → (tyK l1 = (0, 9) ∧ l1 < n14 ∧ Sp G d 0 0 MX10_take [.ref l1, .int 59] (a12, r13, n14) (RI fun v19 a16 r17 n18 => ((v19 = 0 → (bz 0 ∧ P 0 a16 r17 n18)) ∧ (¬ v19 = 0 → (bz 1 ∧ P 1 a16 r17 n18)))))))))))) ∧ (v7 = 0 → (tyK l1 = (0, 9) ∧ l1 < n6 ∧ Sp G d 0 0 MX10_mark [.ref l1, .int 1] (a4, r5, n6) (RI fun v23 a20 r21 n22 => (bz v23 ∧ P v23 a20 r21 n22))))))))) : Sp G (d + 1) 0 0 MX7_readStep [.ref l0, .ref l1, .int l2, .int l3] (a, r, N) (RI P) := Sp.mk (mc := 0) (ms := 0) [.ref l0, .ref l1, .int l2, .int l3, .null, .null, .null] rfl rfl rfl rfl (T_X7_readStep_0 (C := 0) (S := 0) _ _ _ hs)
set_option maxRecDepth 100000 in
theorem T_X7_readStep_72 {G : GE} {d C S : Nat} {P : KI} : Snd G MX7_readStep (d + 1) C S 72 (RI P) (s_istore 5 (s_iload 5 (s_iconst (-1) (s_ic_ne (s_aload 1 (s_iload 2 (s_iload 4 (s_call G d MX7_readSecond 3 (s_istore 6 (s_iload 6 (s_iconst (-1) (s_ic_ne (s_aload 0 (s_iload 4 (s_iload 5 (s_iload 6 (s_callV G d MX7_append 3 7 (s_aload 1 (s_iconst 59 (s_callV G d MX10_take 1 9 (s_zreturn P))))))))) (s_iconst 0 (s_zreturn P)))))))))) (s_iconst (-1) (s_istore 6 (s_iload 6 (s_iconst (-1) (s_ic_ne (s_aload 0 (s_iload 4 (s_iload 5 (s_iload 6 (s_callV G d MX7_append 3 7 (s_aload 1 (s_iconst 59 (s_callV G d MX10_take 1 9 (s_zreturn P))))))))) (s_iconst 0 (s_zreturn P))))))))))) := (e_istore dX7_readStep_72 (by decide) (e_iload dX7_readStep_74 (e_iconst (v := (-1)) dX7_readStep_76 (by decide) (e_ic_ne (tgt := 84) dX7_readStep_77 (by decide) (e_aload_n dX7_readStep_84 rfl (e_iload_n dX7_readStep_85 rfl (e_iload dX7_readStep_86 (e_callS cal_X7_readSecond q_1079 q_1080 dX7_readStep_88 (e_istore dX7_readStep_91 (by decide) (e_iload dX7_readStep_93 (e_iconst (v := (-1)) dX7_readStep_95 (by decide) (e_ic_ne (tgt := 101) dX7_readStep_96 (by decide) (e_aload_n dX7_readStep_101 rfl (e_iload dX7_readStep_102 (e_iload dX7_readStep_104 (e_iload dX7_readStep_106 (e_callV cl_7 cal_X7_append q_1073 q_1075 q_31 dX7_readStep_108 (e_aload_n dX7_readStep_111 rfl (e_bipush (v := 59) dX7_readStep_112 (by decide) (e_callV cl_9 cal_X10_take q_1072 q_953 q_954 dX7_readStep_114 (e_zreturn rfl dX7_readStep_117))))))))) (e_iconst (v := 0) dX7_readStep_99 (by decide) (e_zreturn rfl dX7_readStep_100)))))))))) (e_iconst (v := (-1)) dX7_readStep_80 (by decide) (e_goto (tgt := 91) dX7_readStep_81 (by decide) (e_istore dX7_readStep_91 (by decide) (e_iload dX7_readStep_93 (e_iconst (v := (-1)) dX7_readStep_95 (by decide) (e_ic_ne (tgt := 101) dX7_readStep_96 (by decide) (e_aload_n dX7_readStep_101 rfl (e_iload dX7_readStep_102 (e_iload dX7_readStep_104 (e_iload dX7_readStep_106 (e_callV cl_7 cal_X7_append q_1073 q_1075 q_31 dX7_readStep_108 (e_aload_n dX7_readStep_111 rfl (e_bipush (v := 59) dX7_readStep_112 (by decide) (e_callV cl_9 cal_X10_take q_1072 q_953 q_954 dX7_readStep_114 (e_zreturn rfl dX7_readStep_117))))))))) (e_iconst (v := 0) dX7_readStep_99 (by decide) (e_zreturn rfl dX7_readStep_100))))))))))))
set_option maxRecDepth 100000 in
theorem V_X7_readStep_72 {G : GE} {d C S : Nat} {P : KI} {a : Nat → Nat → Int32} {r : Nat → Nat → Value} {N : Nat} {l0 : Nat} {l1 : Nat} {l2 : Int32} {l4 : Int32} {s0 : Int32} (hs : ((¬ s0 = (-1) → Sp G d 0 0 MX7_readSecond [.ref l1, .int l2, .int l4] (a, r, N) (RI fun v4 a1 r2 n3 => ((¬ v4 = (-1) → (tyK l0 = (0, 7) ∧ l0 < n3 ∧ Sp G d 0 0 MX7_append [.ref l0, .int l4, .int s0, .int v4] (a1, r2, n3) (RN fun a5 r6 n7 => (tyK l1 = (0, 9) ∧ l1 < n7 ∧ Sp G d 0 0 MX10_take [.ref l1, .int 59] (a5, r6, n7) (RI fun v11 a8 r9 n10 => (bz v11 ∧ P v11 a8 r9 n10)))))) ∧ (v4 = (-1) → (bz 0 ∧ P 0 a1 r2 n3))))) ∧ (s0 = (-1) → ((¬ ((-1) : Int32) = (-1) → (tyK l0 = (0, 7) ∧ l0 < N ∧ Sp G d 0 0 MX7_append [.ref l0, .int l4, .int s0, .int (-1)] (a, r, N) (RN fun a12 r13 n14 => (tyK l1 = (0, 9) ∧ l1 < n14 ∧ Sp G d 0 0 MX10_take [.ref l1, .int 59] (a12, r13, n14) (RI fun v18 a15 r16 n17 => (bz v18 ∧ P v18 a15 r16 n17)))))) ∧ (((-1) : Int32) = (-1) → (bz 0 ∧ P 0 a r N)))))) : E G MX7_readStep (d + 1) C S 72 [.ref l0, .ref l1, .int l2, .null, .int l4, .null, .null] [.int s0] (a, r, N) (RI P) := T_X7_readStep_72 _ _ _ hs
theorem dX7_readSecond_0 : decode cX7_readSecond 0 = .ok (.iload_n 2, 1) := by decide +kernel
theorem dX7_readSecond_1 : decode cX7_readSecond 1 = .ok (.lookupswitch 44 #[(1, 27), (3, 36)], 27) := by decide +kernel
theorem dX7_readSecond_28 : decode cX7_readSecond 28 = .ok (.aload_n 0, 1) := by decide +kernel
theorem dX7_readSecond_29 : decode cX7_readSecond 29 = .ok (.iconst 0, 1) := by decide +kernel
theorem dX7_readSecond_30 : decode cX7_readSecond 30 = .ok (.iload_n 1, 1) := by decide +kernel
theorem dX7_readSecond_31 : decode cX7_readSecond 31 = .ok (.iconst 1, 1) := by decide +kernel
theorem dX7_readSecond_32 : decode cX7_readSecond 32 = .ok (.isub, 1) := by decide +kernel
theorem dX7_readSecond_33 : decode cX7_readSecond 33 = .ok (.invokevirtual 62, 3) := by decide +kernel
theorem dX7_readSecond_36 : decode cX7_readSecond 36 = .ok (.ireturn, 1) := by decide +kernel
theorem dX7_readSecond_37 : decode cX7_readSecond 37 = .ok (.aload_n 0, 1) := by decide +kernel
theorem dX7_readSecond_38 : decode cX7_readSecond 38 = .ok (.iconst 1, 1) := by decide +kernel
theorem dX7_readSecond_39 : decode cX7_readSecond 39 = .ok (.bipush 9, 2) := by decide +kernel
theorem dX7_readSecond_41 : decode cX7_readSecond 41 = .ok (.invokevirtual 62, 3) := by decide +kernel
theorem dX7_readSecond_44 : decode cX7_readSecond 44 = .ok (.ireturn, 1) := by decide +kernel
theorem dX7_readSecond_45 : decode cX7_readSecond 45 = .ok (.iconst 0, 1) := by decide +kernel
theorem dX7_readSecond_46 : decode cX7_readSecond 46 = .ok (.ireturn, 1) := by decide +kernel
set_option maxRecDepth 100000 in
theorem T_X7_readSecond_0 {G : GE} {d C S : Nat} {P : KI} : Snd G MX7_readSecond (d + 1) C S 0 (RI P) (s_iload 2 (s_switch [(1, (s_aload 0 (s_iconst 0 (s_iload 1 (s_iconst 1 (s_isub (s_callV G d MX10_readNumber 2 9 (s_ireturn P)))))))), (3, (s_aload 0 (s_iconst 1 (s_iconst 9 (s_callV G d MX10_readNumber 2 9 (s_ireturn P))))))] (s_iconst 0 (s_ireturn P)))) := (e_iload_n dX7_readSecond_0 rfl (e_lsw (tg := [28, 37]) (td := 45) [1, 3] rfl dX7_readSecond_1 (by decide) (by decide +kernel) (by decide +kernel) rfl (swc (t0 := 28) (e_aload_n dX7_readSecond_28 rfl (e_iconst (v := 0) dX7_readSecond_29 (by decide) (e_iload_n dX7_readSecond_30 rfl (e_iconst (v := 1) dX7_readSecond_31 (by decide) (e_isub dX7_readSecond_32 (e_callV cl_9 cal_X10_readNumber q_1071 q_893 q_894 dX7_readSecond_33 (e_ireturn rfl dX7_readSecond_36))))))) (swc (t0 := 37) (e_aload_n dX7_readSecond_37 rfl (e_iconst (v := 1) dX7_readSecond_38 (by decide) (e_bipush (v := 9) dX7_readSecond_39 (by decide) (e_callV cl_9 cal_X10_readNumber q_1071 q_893 q_894 dX7_readSecond_41 (e_ireturn rfl dX7_readSecond_44))))) swn)) (e_iconst (v := 0) dX7_readSecond_45 (by decide) (e_ireturn rfl dX7_readSecond_46))))
set_option maxRecDepth 100000 in
theorem V_X7_readSecond_0 {G : GE} {d : Nat} {P : KI} {a : Nat → Nat → Int32} {r : Nat → Nat → Value} {N : Nat} {l0 : Nat} {l1 : Int32} {l2 : Int32} (hs : ((l2 = 1 → (tyK l0 = (0, 9) ∧ l0 < N ∧ Sp G d 0 0 MX10_readNumber [.ref l0, .int 0, .int (l1 - 1)] (a, r, N) (RI fun v4 a1 r2 n3 => P v4 a1 r2 n3))) ∧ (¬ l2 = 1 → ((l2 = 3 → (tyK l0 = (0, 9) ∧ l0 < N ∧ Sp G d 0 0 MX10_readNumber [.ref l0, .int 1, .int 9] (a, r, N) (RI fun v8 a5 r6 n7 => P v8 a5 r6 n7))) ∧ (¬ l2 = 3 → P 0 a r N))))) : Sp G (d + 1) 0 0 MX7_readSecond [.ref l0, .int l1, .int l2] (a, r, N) (RI P) := Sp.mk (mc := 0) (ms := 0) [.ref l0, .int l1, .int l2] rfl rfl rfl rfl (T_X7_readSecond_0 (C := 0) (S := 0) _ _ _ hs)
theorem dX7_readAgain_0 : decode cX7_readAgain 0 = .ok (.iload_n 3, 1) := by decide +kernel
theorem dX7_readAgain_1 : decode cX7_readAgain 1 = .ok (.bipush 6, 2) := by decide +kernel
theorem dX7_readAgain_3 : decode cX7_readAgain 3 = .ok (.if_icmp .lt 9, 3) := by decide +kernel
theorem dX7_readAgain_6 : decode cX7_readAgain 6 = .ok (.aload_n 1, 1) := by decide +kernel
theorem dX7_readAgain_7 : decode cX7_readAgain 7 = .ok (.iconst 3, 1) := by decide +kernel
theorem dX7_readAgain_8 : decode cX7_readAgain 8 = .ok (.invokevirtual 51, 3) := by decide +kernel
theorem dX7_readAgain_11 : decode cX7_readAgain 11 = .ok (.ireturn, 1) := by decide +kernel
theorem dX7_readAgain_12 : decode cX7_readAgain 12 = .ok (.aload_n 1, 1) := by decide +kernel
theorem dX7_readAgain_13 : decode cX7_readAgain 13 = .ok (.iconst 0, 1) := by decide +kernel
theorem dX7_readAgain_14 : decode cX7_readAgain 14 = .ok (.bipush 20, 2) := by decide +kernel
theorem dX7_readAgain_16 : decode cX7_readAgain 16 = .ok (.invokevirtual 62, 3) := by decide +kernel
theorem dX7_readAgain_19 : decode cX7_readAgain 19 = .ok (.istore 4, 2) := by decide +kernel
theorem dX7_readAgain_21 : decode cX7_readAgain 21 = .ok (.iload 4, 2) := by decide +kernel
theorem dX7_readAgain_23 : decode cX7_readAgain 23 = .ok (.iconst (-1), 1) := by decide +kernel
theorem dX7_readAgain_24 : decode cX7_readAgain 24 = .ok (.if_icmp .eq 12, 3) := by decide +kernel
theorem dX7_readAgain_27 : decode cX7_readAgain 27 = .ok (.aload_n 1, 1) := by decide +kernel
theorem dX7_readAgain_28 : decode cX7_readAgain 28 = .ok (.bipush 91, 2) := by decide +kernel
theorem dX7_readAgain_30 : decode cX7_readAgain 30 = .ok (.invokevirtual 58, 3) := by decide +kernel
theorem dX7_readAgain_33 : decode cX7_readAgain 33 = .ok (.ifCond .ne 5, 3) := by decide +kernel
theorem dX7_readAgain_36 : decode cX7_readAgain 36 = .ok (.iconst 0, 1) := by decide +kernel
theorem dX7_readAgain_37 : decode cX7_readAgain 37 = .ok (.ireturn, 1) := by decide +kernel
theorem dX7_readAgain_38 : decode cX7_readAgain 38 = .ok (.aload_n 0, 1) := by decide +kernel
theorem dX7_readAgain_39 : decode cX7_readAgain 39 = .ok (.getfield 21, 3) := by decide +kernel
theorem dX7_readAgain_42 : decode cX7_readAgain 42 = .ok (.istore 5, 2) := by decide +kernel
theorem dX7_readAgain_44 : decode cX7_readAgain 44 = .ok (.aload_n 0, 1) := by decide +kernel
theorem dX7_readAgain_45 : decode cX7_readAgain 45 = .ok (.bipush 7, 2) := by decide +kernel
theorem dX7_readAgain_47 : decode cX7_readAgain 47 = .ok (.iload 4, 2) := by decide +kernel
theorem dX7_readAgain_49 : decode cX7_readAgain 49 = .ok (.iconst 0, 1) := by decide +kernel
theorem dX7_readAgain_50 : decode cX7_readAgain 50 = .ok (.invokevirtual 70, 3) := by decide +kernel
theorem dX7_readAgain_53 : decode cX7_readAgain 53 = .ok (.iconst 0, 1) := by decide +kernel
theorem dX7_readAgain_54 : decode cX7_readAgain 54 = .ok (.istore 6, 2) := by decide +kernel
theorem dX7_readAgain_56 : decode cX7_readAgain 56 = .ok (.iload 6, 2) := by decide +kernel
theorem dX7_readAgain_58 : decode cX7_readAgain 58 = .ok (.sipush 150, 3) := by decide +kernel
theorem dX7_readAgain_61 : decode cX7_readAgain 61 = .ok (.if_icmp .ge 32, 3) := by decide +kernel
theorem dX7_readAgain_64 : decode cX7_readAgain 64 = .ok (.aload_n 1, 1) := by decide +kernel
theorem dX7_readAgain_65 : decode cX7_readAgain 65 = .ok (.bipush 93, 2) := by decide +kernel
theorem dX7_readAgain_67 : decode cX7_readAgain 67 = .ok (.invokevirtual 74, 3) := by decide +kernel
theorem dX7_readAgain_70 : decode cX7_readAgain 70 = .ok (.ifCond .ne 23, 3) := by decide +kernel
theorem dX7_readAgain_73 : decode cX7_readAgain 73 = .ok (.aload_n 0, 1) := by decide +kernel
theorem dX7_readAgain_74 : decode cX7_readAgain 74 = .ok (.aload_n 1, 1) := by decide +kernel
theorem dX7_readAgain_75 : decode cX7_readAgain 75 = .ok (.iload_n 2, 1) := by decide +kernel
theorem dX7_readAgain_76 : decode cX7_readAgain 76 = .ok (.iload_n 3, 1) := by decide +kernel
theorem dX7_readAgain_77 : decode cX7_readAgain 77 = .ok (.iconst 1, 1) := by decide +kernel
theorem dX7_readAgain_78 : decode cX7_readAgain 78 = .ok (.iadd, 1) := by decide +kernel
theorem dX7_readAgain_79 : decode cX7_readAgain 79 = .ok (.invokevirtual 40, 3) := by decide +kernel
theorem dX7_readAgain_82 : decode cX7_readAgain 82 = .ok (.ifCond .ne 5, 3) := by decide +kernel
theorem dX7_readAgain_85 : decode cX7_readAgain 85 = .ok (.iconst 0, 1) := by decide +kernel
theorem dX7_readAgain_86 : decode cX7_readAgain 86 = .ok (.ireturn, 1) := by decide +kernel
theorem dX7_readAgain_87 : decode cX7_readAgain 87 = .ok (.iinc 6 1, 3) := by decide +kernel
theorem dX7_readAgain_90 : decode cX7_readAgain 90 = .ok (.goto (-34), 3) := by decide +kernel
theorem dX7_readAgain_93 : decode cX7_readAgain 93 = .ok (.aload_n 0, 1) := by decide +kernel
theorem dX7_readAgain_94 : decode cX7_readAgain 94 = .ok (.getfield 18, 3) := by decide +kernel
theorem dX7_readAgain_97 : decode cX7_readAgain 97 = .ok (.iload 5, 2) := by decide +kernel
theorem dX7_readAgain_99 : decode cX7_readAgain 99 = .ok (.aload_n 0, 1) := by decide +kernel
theorem dX7_readAgain_100 : decode cX7_readAgain 100 = .ok (.getfield 21, 3) := by decide +kernel
theorem dX7_readAgain_103 : decode cX7_readAgain 103 = .ok (.invokestatic 77, 3) := by decide +kernel
theorem dX7_readAgain_106 : decode cX7_readAgain 106 = .ok (.aload_n 1, 1) := by decide +kernel
theorem dX7_readAgain_107 : decode cX7_readAgain 107 = .ok (.bipush 93, 2) := by decide +kernel
theorem dX7_readAgain_109 : decode cX7_readAgain 109 = .ok (.invokevirtual 58, 3) := by decide +kernel
theorem dX7_readAgain_112 : decode cX7_readAgain 112 = .ok (.ireturn, 1) := by decide +kernel
set_option maxRecDepth 100000 in
theorem T_X7_readAgain_0 {G : GE} {d C S : Nat} {P : KI} : Snd G MX7_readAgain (d + 1) C S 0 (RI P) (s_iload 3 (s_iconst 6 (s_ic_lt (s_aload 1 (s_iconst 0 (s_iconst 20 (s_callV G d MX10_readNumber 2 9 (s_istore 4 (s_iload 4 (s_iconst (-1) (s_ic_eq (s_iconst 0 (s_zreturn P)) (s_aload 1 (s_iconst 91 (s_callV G d MX10_take 1 9 (s_if_ne (s_aload 0 (s_getI 7 3 (s_istore 5 (s_aload 0 (s_iconst 7 (s_iload 4 (s_iconst 0 (s_callV G d MX7_append 3 7 (s_iconst 0 (s_istore 6 (fun L st h => E G MX7_readAgain (d + 1) C S 56 (msk [true, true, true, true, false, true, true] L) st h (RI P)))))))))))) (s_iconst 0 (s_zreturn P)))))))))))))) (s_aload 1 (s_iconst 3 (s_callV G d MX10_mark 1 9 (s_zreturn P))))))) := (e_iload_n dX7_readAgain_0 rfl (e_bipush (v := 6) dX7_readAgain_1 (by decide) (e_ic_lt (tgt := 12) dX7_readAgain_3 (by decide) (e_aload_n dX7_readAgain_12 rfl (e_iconst (v := 0) dX7_readAgain_13 (by decide) (e_bipush (v := 20) dX7_readAgain_14 (by decide) (e_callV cl_9 cal_X10_readNumber q_1071 q_893 q_894 dX7_readAgain_16 (e_istore dX7_readAgain_19 (by decide) (e_iload dX7_readAgain_21 (e_iconst (v := (-1)) dX7_readAgain_23 (by decide) (e_ic_eq (tgt := 36) dX7_readAgain_24 (by decide) (e_iconst (v := 0) dX7_readAgain_36 (by decide) (e_zreturn rfl dX7_readAgain_37)) (e_aload_n dX7_readAgain_27 rfl (e_bipush (v := 91) dX7_readAgain_28 (by decide) (e_callV cl_9 cal_X10_take q_1072 q_953 q_954 dX7_readAgain_30 (e_if_ne (tgt := 38) dX7_readAgain_33 (by decide) (e_aload_n dX7_readAgain_38 rfl (e_getI rfl cl_7 (by decide) rfl q_295 dX7_readAgain_39 (e_istore dX7_readAgain_42 (by decide) (e_aload_n dX7_readAgain_44 rfl (e_bipush (v := 7) dX7_readAgain_45 (by decide) (e_iload dX7_readAgain_47 (e_iconst (v := 0) dX7_readAgain_49 (by decide) (e_callV cl_7 cal_X7_append q_1073 q_1075 q_31 dX7_readAgain_50 (e_iconst (v := 0) dX7_readAgain_53 (by decide) (e_istore dX7_readAgain_54 (by decide) (e_msk [true, true, true, true, false, true, true]))))))))))) (e_iconst (v := 0) dX7_readAgain_36 (by decide) (e_zreturn rfl dX7_readAgain_37)))))))))))))) (e_aload_n dX7_readAgain_6 rfl (e_iconst (v := 3) dX7_readAgain_7 (by decide) (e_callV cl_9 cal_X10_mark q_1066 q_881 q_882 dX7_readAgain_8 (e_zreturn rfl dX7_readAgain_11)))))))
set_option maxRecDepth 100000 in
theorem V_X7_readAgain_0 {G : GE} {d : Nat} {P : KI} {a : Nat → Nat → Int32} {r : Nat → Nat → Value} {N : Nat} {l0 : Nat} {l1 : Nat} {l2 : Int32} {l3 : Int32} (hs : ((l3 < 6 → (tyK l1 = (0, 9) ∧ l1 < N ∧ Sp G d 0 0 MX10_readNumber [.ref l1, .int 0, .int 20] (a, r, N) (RI fun v4 a1 r2 n3 => ((v4 = (-1) → (bz 0 ∧ P 0 a1 r2 n3)) ∧ (¬ v4 = (-1) → (tyK l1 = (0, 9) ∧ l1 < n3 ∧ Sp G d 0 0 MX10_take [.ref l1, .int 91] (a1, r2, n3) (RI fun v8 a5 r6 n7 => ((¬ v8 = 0 → (tyK l0 = (0, 7) ∧ l0 < n7 ∧ (tyK l0 = (0, 7) ∧ l0 < n7 ∧ Sp G d 0 0 MX7_append [.ref l0, .int 7, .int v4, .int 0] (a5, r6, n7) (RN fun a9 r10 n11 => E G MX7_readAgain (d + 1) 0 0 56 [.ref l0, .ref l1, .int l2, .int l3, .null, .int (a5 l0 3), .int 0] [] (a9, r10, n11) (RI P))))) ∧ (v8 = 0 → (bz 0 ∧ P 0 a5 r6 n7)))))))))) ∧ (¬ l3 < 6 → (tyK l1 = (0, 9) ∧ l1 < N ∧ Sp G d 0 0 MX10_mark [.ref l1, .int 3] (a, r, N) (RI fun v15 a12 r13 n14 => (bz v15 ∧ P v15 a12 r13 n14)))))) : Sp G (d + 1) 0 0 MX7_readAgain [.ref l0, .ref l1, .int l2, .int l3] (a, r, N) (RI P) := Sp.mk (mc := 0) (ms := 0) [.ref l0, .ref l1, .int l2, .int l3, .null, .null, .null] rfl rfl rfl rfl (T_X7_readAgain_0 (C := 0) (S := 0) _ _ _ hs)
set_option maxRecDepth 100000 in
theorem T_X7_readAgain_56 {G : GE} {d C S : Nat} {P : KI} : Snd G MX7_readAgain (d + 1) C S 56 (RI P) (s_iload 6 (s_iconst 150 (s_ic_ge (s_aload 0 (s_getR 7 2 (s_iload 5 (s_aload 0 (s_getI 7 3 (s_call G d MX9_put 3 (s_aload 1 (s_iconst 93 (s_callV G d MX10_take 1 9 (s_zreturn P)))))))))) (s_aload 1 (s_iconst 93 (s_callV G d MX10_sees 1 9 (s_if_ne (s_aload 0 (s_getR 7 2 (s_iload 5 (s_aload 0 (s_getI 7 3 (s_call G d MX9_put 3 (s_aload 1 (s_iconst 93 (s_callV G d MX10_take 1 9 (s_zreturn P)))))))))) (s_aload 0 (s_aload 1 (s_iload 2 (s_iload 3 (s_iconst 1 (s_iadd (s_callV G d MX7_readStep 3 7 (s_if_ne (s_iinc 6 1 (fun L st h => E G MX7_readAgain (d + 1) C S 56 (msk [true, true, true, true, false, true, true] L) st h (RI P))) (s_iconst 0 (s_zreturn P))))))))))))))))) := (e_iload dX7_readAgain_56 (e_sipush (v := 150) dX7_readAgain_58 (by decide) (e_ic_ge (tgt := 93) dX7_readAgain_61 (by decide) (e_aload_n dX7_readAgain_93 rfl (e_getR rfl cl_7 (by decide) rfl q_294 dX7_readAgain_94 (e_iload dX7_readAgain_97 (e_aload_n dX7_readAgain_99 rfl (e_getI rfl cl_7 (by decide) rfl q_295 dX7_readAgain_100 (e_callS cal_X9_put q_1077 q_419 dX7_readAgain_103 (e_aload_n dX7_readAgain_106 rfl (e_bipush (v := 93) dX7_readAgain_107 (by decide) (e_callV cl_9 cal_X10_take q_1072 q_953 q_954 dX7_readAgain_109 (e_zreturn rfl dX7_readAgain_112)))))))))) (e_aload_n dX7_readAgain_64 rfl (e_bipush (v := 93) dX7_readAgain_65 (by decide) (e_callV cl_9 cal_X10_sees q_1078 q_1005 q_1006 dX7_readAgain_67 (e_if_ne (tgt := 93) dX7_readAgain_70 (by decide) (e_aload_n dX7_readAgain_93 rfl (e_getR rfl cl_7 (by decide) rfl q_294 dX7_readAgain_94 (e_iload dX7_readAgain_97 (e_aload_n dX7_readAgain_99 rfl (e_getI rfl cl_7 (by decide) rfl q_295 dX7_readAgain_100 (e_callS cal_X9_put q_1077 q_419 dX7_readAgain_103 (e_aload_n dX7_readAgain_106 rfl (e_bipush (v := 93) dX7_readAgain_107 (by decide) (e_callV cl_9 cal_X10_take q_1072 q_953 q_954 dX7_readAgain_109 (e_zreturn rfl dX7_readAgain_112)))))))))) (e_aload_n dX7_readAgain_73 rfl (e_aload_n dX7_readAgain_74 rfl (e_iload_n dX7_readAgain_75 rfl (e_iload_n dX7_readAgain_76 rfl (e_iconst (v := 1) dX7_readAgain_77 (by decide) (e_iadd dX7_readAgain_78 (e_callV cl_7 cal_X7_readStep q_1050 q_1052 q_29 dX7_readAgain_79 (e_if_ne (tgt := 87) dX7_readAgain_82 (by decide) (e_iinc (v := 1) dX7_readAgain_87 (by decide) (by decide) (e_goto (tgt := 56) dX7_readAgain_90 (by decide) (e_msk [true, true, true, true, false, true, true]))) (e_iconst (v := 0) dX7_readAgain_85 (by decide) (e_zreturn rfl dX7_readAgain_86)))))))))))))))))
set_option maxRecDepth 100000 in
theorem V_X7_readAgain_56 {G : GE} {d C S : Nat} {P : KI} {a : Nat → Nat → Int32} {r : Nat → Nat → Value} {N : Nat} {l0 : Nat} {l1 : Nat} {l2 : Int32} {l3 : Int32} {l5 : Int32} {l6 : Int32} (hs : ((150 ≤ l6 → (tyK l0 = (0, 7) ∧ l0 < N ∧ ∃ q1, r l0 2 = .ref q1 ∧ (tyK l0 = (0, 7) ∧ l0 < N ∧ Sp G d 0 0 MX9_put [.ref q1, .int l5, .int (a l0 3)] (a, r, N) (RN fun a2 r3 n4 => (tyK l1 = (0, 9) ∧ l1 < n4 ∧ Sp G d 0 0 MX10_take [.ref l1, .int 93] (a2, r3, n4) (RI fun v8 a5 r6 n7 => (bz v8 ∧ P v8 a5 r6 n7))))))) ∧ (¬ 150 ≤ l6 → (tyK l1 = (0, 9) ∧ l1 < N ∧ Sp G d 0 0 MX10_sees [.ref l1, .int 93] (a, r, N) (RI fun v12 a9 r10 n11 => ((¬ v12 = 0 → (tyK l0 = (0, 7) ∧ l0 < n11 ∧ ∃ q13, r10 l0 2 = .ref q13 ∧ (tyK l0 = (0, 7) ∧ l0 < n11 ∧ Sp G d 0 0 MX9_put [.ref q13, .int l5, .int (a9 l0 3)] (a9, r10, n11) (RN fun a14 r15 n16 => (tyK l1 = (0, 9) ∧ l1 < n16 ∧ Sp G d 0 0 MX10_take [.ref l1, .int 93] (a14, r15, n16) (RI fun v20 a17 r18 n19 => (bz v20 ∧ P v20 a17 r18 n19))))))) ∧ (v12 = 0 → (tyK l0 = (0, 7) ∧ l0 < n11 ∧ Sp G d 0 0 MX7_readStep [.ref l0, .ref l1, .int l2, .int (l3 + 1)] (a9, r10, n11) (RI fun v24 a21 r22 n23 => ((¬ v24 = 0 → E G MX7_readAgain (d + 1) C S 56 [.ref l0, .ref l1, .int l2, .int l3, .null, .int l5, .int (l6 + 1)] [] (a21, r22, n23) (RI P)) ∧ (v24 = 0 → (bz 0 ∧ P 0 a21 r22 n23)))))))))))) : E G MX7_readAgain (d + 1) C S 56 [.ref l0, .ref l1, .int l2, .int l3, .null, .int l5, .int l6] [] (a, r, N) (RI P) := T_X7_readAgain_56 _ _ _ hs
theorem dX7_kindOf_0 : decode cX7_kindOf 0 = .ok (.aload_n 0, 1) := by decide +kernel
theorem dX7_kindOf_1 : decode cX7_kindOf 1 = .ok (.ldc 83, 2) := by decide +kernel
theorem dX7_kindOf_3 : decode cX7_kindOf 3 = .ok (.invokevirtual 85, 3) := by decide +kernel
theorem dX7_kindOf_6 : decode cX7_kindOf 6 = .ok (.ifCond .eq 5, 3) := by decide +kernel
theorem dX7_kindOf_9 : decode cX7_kindOf 9 = .ok (.iconst 1, 1) := by decide +kernel
theorem dX7_kindOf_10 : decode cX7_kindOf 10 = .ok (.ireturn, 1) := by decide +kernel
theorem dX7_kindOf_11 : decode cX7_kindOf 11 = .ok (.aload_n 0, 1) := by decide +kernel
theorem dX7_kindOf_12 : decode cX7_kindOf 12 = .ok (.ldc 89, 2) := by decide +kernel
theorem dX7_kindOf_14 : decode cX7_kindOf 14 = .ok (.invokevirtual 85, 3) := by decide +kernel
theorem dX7_kindOf_17 : decode cX7_kindOf 17 = .ok (.ifCond .eq 5, 3) := by decide +kernel
theorem dX7_kindOf_20 : decode cX7_kindOf 20 = .ok (.iconst 2, 1) := by decide +kernel
theorem dX7_kindOf_21 : decode cX7_kindOf 21 = .ok (.ireturn, 1) := by decide +kernel
theorem dX7_kindOf_22 : decode cX7_kindOf 22 = .ok (.aload_n 0, 1) := by decide +kernel
theorem dX7_kindOf_23 : decode cX7_kindOf 23 = .ok (.ldc 91, 2) := by decide +kernel
theorem dX7_kindOf_25 : decode cX7_kindOf 25 = .ok (.invokevirtual 85, 3) := by decide +kernel
theorem dX7_kindOf_28 : decode cX7_kindOf 28 = .ok (.ifCond .eq 5, 3) := by decide +kernel
theorem dX7_kindOf_31 : decode cX7_kindOf 31 = .ok (.iconst 3, 1) := by decide +kernel
theorem dX7_kindOf_32 : decode cX7_kindOf 32 = .ok (.ireturn, 1) := by decide +kernel
theorem dX7_kindOf_33 : decode cX7_kindOf 33 = .ok (.aload_n 0, 1) := by decide +kernel
theorem dX7_kindOf_34 : decode cX7_kindOf 34 = .ok (.ldc 93, 2) := by decide +kernel
theorem dX7_kindOf_36 : decode cX7_kindOf 36 = .ok (.invokevirtual 85, 3) := by decide +kernel
theorem dX7_kindOf_39 : decode cX7_kindOf 39 = .ok (.ifCond .eq 5, 3) := by decide +kernel
theorem dX7_kindOf_42 : decode cX7_kindOf 42 = .ok (.iconst 4, 1) := by decide +kernel
theorem dX7_kindOf_43 : decode cX7_kindOf 43 = .ok (.ireturn, 1) := by decide +kernel
theorem dX7_kindOf_44 : decode cX7_kindOf 44 = .ok (.aload_n 0, 1) := by decide +kernel
theorem dX7_kindOf_45 : decode cX7_kindOf 45 = .ok (.ldc 95, 2) := by decide +kernel
theorem dX7_kindOf_47 : decode cX7_kindOf 47 = .ok (.invokevirtual 85, 3) := by decide +kernel
theorem dX7_kindOf_50 : decode cX7_kindOf 50 = .ok (.ifCond .eq 5, 3) := by decide +kernel
theorem dX7_kindOf_53 : decode cX7_kindOf 53 = .ok (.iconst 5, 1) := by decide +kernel
theorem dX7_kindOf_54 : decode cX7_kindOf 54 = .ok (.ireturn, 1) := by decide +kernel
theorem dX7_kindOf_55 : decode cX7_kindOf 55 = .ok (.aload_n 0, 1) := by decide +kernel
theorem dX7_kindOf_56 : decode cX7_kindOf 56 = .ok (.ldc 97, 2) := by decide +kernel
theorem dX7_kindOf_58 : decode cX7_kindOf 58 = .ok (.invokevirtual 85, 3) := by decide +kernel
theorem dX7_kindOf_61 : decode cX7_kindOf 61 = .ok (.ifCond .eq 6, 3) := by decide +kernel
theorem dX7_kindOf_64 : decode cX7_kindOf 64 = .ok (.bipush 6, 2) := by decide +kernel
theorem dX7_kindOf_66 : decode cX7_kindOf 66 = .ok (.ireturn, 1) := by decide +kernel
theorem dX7_kindOf_67 : decode cX7_kindOf 67 = .ok (.aload_n 0, 1) := by decide +kernel
theorem dX7_kindOf_68 : decode cX7_kindOf 68 = .ok (.ldc 99, 2) := by decide +kernel
theorem dX7_kindOf_70 : decode cX7_kindOf 70 = .ok (.invokevirtual 85, 3) := by decide +kernel
theorem dX7_kindOf_73 : decode cX7_kindOf 73 = .ok (.ifCond .eq 8, 3) := by decide +kernel
theorem dX7_kindOf_76 : decode cX7_kindOf 76 = .ok (.bipush 7, 2) := by decide +kernel
theorem dX7_kindOf_78 : decode cX7_kindOf 78 = .ok (.goto 4, 3) := by decide +kernel
theorem dX7_kindOf_81 : decode cX7_kindOf 81 = .ok (.iconst 0, 1) := by decide +kernel
theorem dX7_kindOf_82 : decode cX7_kindOf 82 = .ok (.ireturn, 1) := by decide +kernel
set_option maxRecDepth 100000 in
theorem T_X7_kindOf_0 {G : GE} {d C S : Nat} {P : KI} : Snd G MX7_kindOf (d + 1) C S 0 (RI P) (s_aload 0 (s_ldcS 19 (s_callV G d MX10_wordIs 1 9 (s_if_eq (s_aload 0 (s_ldcS 20 (s_callV G d MX10_wordIs 1 9 (s_if_eq (s_aload 0 (s_ldcS 21 (s_callV G d MX10_wordIs 1 9 (s_if_eq (s_aload 0 (s_ldcS 22 (s_callV G d MX10_wordIs 1 9 (s_if_eq (s_aload 0 (s_ldcS 23 (s_callV G d MX10_wordIs 1 9 (s_if_eq (s_aload 0 (s_ldcS 15 (s_callV G d MX10_wordIs 1 9 (s_if_eq (s_aload 0 (s_ldcS 24 (s_callV G d MX10_wordIs 1 9 (s_if_eq (s_iconst 0 (s_ireturn P)) (s_iconst 7 (s_ireturn P)))))) (s_iconst 6 (s_ireturn P)))))) (s_iconst 5 (s_ireturn P)))))) (s_iconst 4 (s_ireturn P)))))) (s_iconst 3 (s_ireturn P)))))) (s_iconst 2 (s_ireturn P)))))) (s_iconst 1 (s_ireturn P)))))) := (e_aload_n dX7_kindOf_0 rfl (e_ldcS (text := "marry") (sn := 18) (by decide +kernel) (by decide) dX7_kindOf_1 (e_callV cl_9 cal_X10_wordIs q_1059 q_823 q_824 dX7_kindOf_3 (e_if_eq (tgt := 11) dX7_kindOf_6 (by decide) (e_aload_n dX7_kindOf_11 rfl (e_ldcS (text := "part") (sn := 19) (by decide +kernel) (by decide) dX7_kindOf_12 (e_callV cl_9 cal_X10_wordIs q_1059 q_823 q_824 dX7_kindOf_14 (e_if_eq (tgt := 22) dX7_kindOf_17 (by decide) (e_aload_n dX7_kindOf_22 rfl (e_ldcS (text := "plant") (sn := 20) (by decide +kernel) (by decide) dX7_kindOf_23 (e_callV cl_9 cal_X10_wordIs q_1059 q_823 q_824 dX7_kindOf_25 (e_if_eq (tgt := 33) dX7_kindOf_28 (by decide) (e_aload_n dX7_kindOf_33 rfl (e_ldcS (text := "quarrel") (sn := 21) (by decide +kernel) (by decide) dX7_kindOf_34 (e_callV cl_9 cal_X10_wordIs q_1059 q_823 q_824 dX7_kindOf_36 (e_if_eq (tgt := 44) dX7_kindOf_39 (by decide) (e_aload_n dX7_kindOf_44 rfl (e_ldcS (text := "repave") (sn := 22) (by decide +kernel) (by decide) dX7_kindOf_45 (e_callV cl_9 cal_X10_wordIs q_1059 q_823 q_824 dX7_kindOf_47 (e_if_eq (tgt := 55) dX7_kindOf_50 (by decide) (e_aload_n dX7_kindOf_55 rfl (e_ldcS (text := "year") (sn := 14) (by decide +kernel) (by decide) dX7_kindOf_56 (e_callV cl_9 cal_X10_wordIs q_1059 q_823 q_824 dX7_kindOf_58 (e_if_eq (tgt := 67) dX7_kindOf_61 (by decide) (e_aload_n dX7_kindOf_67 rfl (e_ldcS (text := "again") (sn := 23) (by decide +kernel) (by decide) dX7_kindOf_68 (e_callV cl_9 cal_X10_wordIs q_1059 q_823 q_824 dX7_kindOf_70 (e_if_eq (tgt := 81) dX7_kindOf_73 (by decide) (e_iconst (v := 0) dX7_kindOf_81 (by decide) (e_ireturn rfl dX7_kindOf_82)) (e_bipush (v := 7) dX7_kindOf_76 (by decide) (e_goto (tgt := 82) dX7_kindOf_78 (by decide) (e_ireturn rfl dX7_kindOf_82))))))) (e_bipush (v := 6) dX7_kindOf_64 (by decide) (e_ireturn rfl dX7_kindOf_66)))))) (e_iconst (v := 5) dX7_kindOf_53 (by decide) (e_ireturn rfl dX7_kindOf_54)))))) (e_iconst (v := 4) dX7_kindOf_42 (by decide) (e_ireturn rfl dX7_kindOf_43)))))) (e_iconst (v := 3) dX7_kindOf_31 (by decide) (e_ireturn rfl dX7_kindOf_32)))))) (e_iconst (v := 2) dX7_kindOf_20 (by decide) (e_ireturn rfl dX7_kindOf_21)))))) (e_iconst (v := 1) dX7_kindOf_9 (by decide) (e_ireturn rfl dX7_kindOf_10))))))
set_option maxRecDepth 100000 in
theorem V_X7_kindOf_0 {G : GE} {d : Nat} {P : KI} {a : Nat → Nat → Int32} {r : Nat → Nat → Value} {N : Nat} {l0 : Nat} (hs : (tyK l0 = (0, 9) ∧ l0 < N ∧ Sp G d 0 0 MX10_wordIs [.ref l0, .float 19] (a, r, N) (RI fun v4 a1 r2 n3 => ((v4 = 0 → (tyK l0 = (0, 9) ∧ l0 < n3 ∧ Sp G d 0 0 MX10_wordIs [.ref l0, .float 20] (a1, r2, n3) (RI fun v8 a5 r6 n7 => ((v8 = 0 → (tyK l0 = (0, 9) ∧ l0 < n7 ∧ Sp G d 0 0 MX10_wordIs [.ref l0, .float 21] (a5, r6, n7) (RI fun v12 a9 r10 n11 => ((v12 = 0 → (tyK l0 = (0, 9) ∧ l0 < n11 ∧ Sp G d 0 0 MX10_wordIs [.ref l0, .float 22] (a9, r10, n11) (RI fun v16 a13 r14 n15 => ((v16 = 0 → (tyK l0 = (0, 9) ∧ l0 < n15 ∧ Sp G d 0 0 MX10_wordIs [.ref l0, .float 23] (a13, r14, n15) (RI fun v20 a17 r18 n19 => ((v20 = 0 → (tyK l0 = (0, 9) ∧ l0 < n19 ∧ Sp G d 0 0 MX10_wordIs [.ref l0, .float 15] (a17, r18, n19) (RI fun v24 a21 r22 n23 => ((v24 = 0 → (tyK l0 = (0, 9) ∧ l0 < n23 ∧ Sp G d 0 0 MX10_wordIs [.ref l0, .float 24] (a21, r22, n23) (RI fun v28 a25 r26 n27 => ((v28 = 0 → P 0 a25 r26 n27) ∧ (¬ v28 = 0 → P 7 a25 r26 n27))))) ∧ (¬ v24 = 0 → P 6 a21 r22 n23))))) ∧ (¬ v20 = 0 → P 5 a17 r18 n19))))) ∧ (¬ v16 = 0 → P 4 a13 r14 n15))))) ∧ (¬ v12 = 0 → P 3 a9 r10 n11))))) ∧ (¬ v8 = 0 → P 2 a5 r6 n7))))) ∧ (¬ v4 = 0 → P 1 a1 r2 n3))))) : Sp G (d + 1) 0 0 MX7_kindOf [.ref l0] (a, r, N) (RI P) := Sp.mk (mc := 0) (ms := 0) [.ref l0] rfl rfl rfl rfl (T_X7_kindOf_0 (C := 0) (S := 0) _ _ _ hs)
theorem dX7_append_0 : decode cX7_append 0 = .ok (.aload_n 0, 1) := by decide +kernel
theorem dX7_append_1 : decode cX7_append 1 = .ok (.getfield 11, 3) := by decide +kernel
theorem dX7_append_4 : decode cX7_append 4 = .ok (.aload_n 0, 1) := by decide +kernel
theorem dX7_append_5 : decode cX7_append 5 = .ok (.getfield 21, 3) := by decide +kernel
theorem dX7_append_8 : decode cX7_append 8 = .ok (.iload_n 1, 1) := by decide +kernel
theorem dX7_append_9 : decode cX7_append 9 = .ok (.invokestatic 77, 3) := by decide +kernel
theorem dX7_append_12 : decode cX7_append 12 = .ok (.aload_n 0, 1) := by decide +kernel
theorem dX7_append_13 : decode cX7_append 13 = .ok (.getfield 15, 3) := by decide +kernel
theorem dX7_append_16 : decode cX7_append 16 = .ok (.aload_n 0, 1) := by decide +kernel
theorem dX7_append_17 : decode cX7_append 17 = .ok (.getfield 21, 3) := by decide +kernel
theorem dX7_append_20 : decode cX7_append 20 = .ok (.iload_n 2, 1) := by decide +kernel
theorem dX7_append_21 : decode cX7_append 21 = .ok (.invokestatic 77, 3) := by decide +kernel
theorem dX7_append_24 : decode cX7_append 24 = .ok (.aload_n 0, 1) := by decide +kernel
theorem dX7_append_25 : decode cX7_append 25 = .ok (.getfield 18, 3) := by decide +kernel
theorem dX7_append_28 : decode cX7_append 28 = .ok (.aload_n 0, 1) := by decide +kernel
theorem dX7_append_29 : decode cX7_append 29 = .ok (.getfield 21, 3) := by decide +kernel
theorem dX7_append_32 : decode cX7_append 32 = .ok (.iload_n 3, 1) := by decide +kernel
theorem dX7_append_33 : decode cX7_append 33 = .ok (.invokestatic 77, 3) := by decide +kernel
theorem dX7_append_36 : decode cX7_append 36 = .ok (.aload_n 0, 1) := by decide +kernel
theorem dX7_append_37 : decode cX7_append 37 = .ok (.dup, 1) := by decide +kernel
theorem dX7_append_38 : decode cX7_append 38 = .ok (.getfield 21, 3) := by decide +kernel
theorem dX7_append_41 : decode cX7_append 41 = .ok (.iconst 1, 1) := by decide +kernel
theorem dX7_append_42 : decode cX7_append 42 = .ok (.iadd, 1) := by decide +kernel
theorem dX7_append_43 : decode cX7_append 43 = .ok (.putfield 21, 3) := by decide +kernel
theorem dX7_append_46 : decode cX7_append 46 = .ok (.return_, 1) := by decide +kernel
set_option maxRecDepth 100000 in
theorem T_X7_append_0 {G : GE} {d C S : Nat} {P : KN} : Snd G MX7_append (d + 1) C S 0 (RN P) (s_aload 0 (s_getR 7 0 (s_aload 0 (s_getI 7 3 (s_iload 1 (s_call G d MX9_put 3 (s_aload 0 (s_getR 7 1 (s_aload 0 (s_getI 7 3 (s_iload 2 (s_call G d MX9_put 3 (s_aload 0 (s_getR 7 2 (s_aload 0 (s_getI 7 3 (s_iload 3 (s_call G d MX9_put 3 (s_aload 0 (s_dup (s_getI 7 3 (s_iconst 1 (s_iadd (s_putI 7 3 (s_return P))))))))))))))))))))))))) := (e_aload_n dX7_append_0 rfl (e_getR rfl cl_7 (by decide) rfl q_292 dX7_append_1 (e_aload_n dX7_append_4 rfl (e_getI rfl cl_7 (by decide) rfl q_295 dX7_append_5 (e_iload_n dX7_append_8 rfl (e_callS cal_X9_put q_1077 q_419 dX7_append_9 (e_aload_n dX7_append_12 rfl (e_getR rfl cl_7 (by decide) rfl q_293 dX7_append_13 (e_aload_n dX7_append_16 rfl (e_getI rfl cl_7 (by decide) rfl q_295 dX7_append_17 (e_iload_n dX7_append_20 rfl (e_callS cal_X9_put q_1077 q_419 dX7_append_21 (e_aload_n dX7_append_24 rfl (e_getR rfl cl_7 (by decide) rfl q_294 dX7_append_25 (e_aload_n dX7_append_28 rfl (e_getI rfl cl_7 (by decide) rfl q_295 dX7_append_29 (e_iload_n dX7_append_32 rfl (e_callS cal_X9_put q_1077 q_419 dX7_append_33 (e_aload_n dX7_append_36 rfl (e_dup dX7_append_37 (e_getI rfl cl_7 (by decide) rfl q_295 dX7_append_38 (e_iconst (v := 1) dX7_append_41 (by decide) (e_iadd dX7_append_42 (e_putI rfl cl_7 (by decide) rfl rfl rfl q_295 dX7_append_43 (e_return rfl dX7_append_46)))))))))))))))))))))))))
set_option maxRecDepth 100000 in
theorem V_X7_append_0 {G : GE} {d : Nat} {P : KN} {a : Nat → Nat → Int32} {r : Nat → Nat → Value} {N : Nat} {l0 : Nat} {l1 : Int32} {l2 : Int32} {l3 : Int32} (hs : (tyK l0 = (0, 7) ∧ l0 < N ∧ ∃ q1, r l0 0 = .ref q1 ∧ (tyK l0 = (0, 7) ∧ l0 < N ∧ Sp G d 0 0 MX9_put [.ref q1, .int (a l0 3), .int l1] (a, r, N) (RN fun a2 r3 n4 => (tyK l0 = (0, 7) ∧ l0 < n4 ∧ ∃ q5, r3 l0 1 = .ref q5 ∧ (tyK l0 = (0, 7) ∧ l0 < n4 ∧ Sp G d 0 0 MX9_put [.ref q5, .int (a2 l0 3), .int l2] (a2, r3, n4) (RN fun a6 r7 n8 => (tyK l0 = (0, 7) ∧ l0 < n8 ∧ ∃ q9, r7 l0 2 = .ref q9 ∧ (tyK l0 = (0, 7) ∧ l0 < n8 ∧ Sp G d 0 0 MX9_put [.ref q9, .int (a6 l0 3), .int l3] (a6, r7, n8) (RN fun a10 r11 n12 => (tyK l0 = (0, 7) ∧ l0 < n12 ∧ (tyK l0 = (0, 7) ∧ l0 < n12 ∧ ∀ a13, a13 = u2 a10 l0 3 ((a10 l0 3) + 1) → P a13 r11 n12)))))))))))) : Sp G (d + 1) 0 0 MX7_append [.ref l0, .int l1, .int l2, .int l3] (a, r, N) (RN P) := Sp.mk (mc := 0) (ms := 0) [.ref l0, .int l1, .int l2, .int l3] rfl rfl rfl rfl (T_X7_append_0 (C := 0) (S := 0) _ _ _ hs)
theorem dX7_perform_0 : decode cX7_perform 0 = .ok (.iload_n 3, 1) := by decide +kernel
theorem dX7_perform_1 : decode cX7_perform 1 = .ok (.bipush 6, 2) := by decide +kernel
theorem dX7_perform_3 : decode cX7_perform 3 = .ok (.if_icmp .le 4, 3) := by decide +kernel
theorem dX7_perform_6 : decode cX7_perform 6 = .ok (.return_, 1) := by decide +kernel
theorem dX7_perform_7 : decode cX7_perform 7 = .ok (.iload_n 1, 1) := by decide +kernel
theorem dX7_perform_8 : decode cX7_perform 8 = .ok (.istore 7, 2) := by decide +kernel
theorem dX7_perform_10 : decode cX7_perform 10 = .ok (.iload 7, 2) := by decide +kernel
theorem dX7_perform_12 : decode cX7_perform 12 = .ok (.iload_n 2, 1) := by decide +kernel
theorem dX7_perform_13 : decode cX7_perform 13 = .ok (.if_icmp .ge 161, 3) := by decide +kernel
theorem dX7_perform_16 : decode cX7_perform 16 = .ok (.aload_n 0, 1) := by decide +kernel
theorem dX7_perform_17 : decode cX7_perform 17 = .ok (.getfield 25, 3) := by decide +kernel
theorem dX7_perform_20 : decode cX7_perform 20 = .ok (.sipush 200, 3) := by decide +kernel
theorem dX7_perform_23 : decode cX7_perform 23 = .ok (.if_icmp .ge 151, 3) := by decide +kernel
theorem dX7_perform_26 : decode cX7_perform 26 = .ok (.aload_n 0, 1) := by decide +kernel
theorem dX7_perform_27 : decode cX7_perform 27 = .ok (.dup, 1) := by decide +kernel
theorem dX7_perform_28 : decode cX7_perform 28 = .ok (.getfield 25, 3) := by decide +kernel
theorem dX7_perform_31 : decode cX7_perform 31 = .ok (.iconst 1, 1) := by decide +kernel
theorem dX7_perform_32 : decode cX7_perform 32 = .ok (.iadd, 1) := by decide +kernel
theorem dX7_perform_33 : decode cX7_perform 33 = .ok (.putfield 25, 3) := by decide +kernel
theorem dX7_perform_36 : decode cX7_perform 36 = .ok (.iload 7, 2) := by decide +kernel
theorem dX7_perform_38 : decode cX7_perform 38 = .ok (.iconst 1, 1) := by decide +kernel
theorem dX7_perform_39 : decode cX7_perform 39 = .ok (.iadd, 1) := by decide +kernel
theorem dX7_perform_40 : decode cX7_perform 40 = .ok (.istore 8, 2) := by decide +kernel
theorem dX7_perform_42 : decode cX7_perform 42 = .ok (.aload_n 0, 1) := by decide +kernel
theorem dX7_perform_43 : decode cX7_perform 43 = .ok (.getfield 11, 3) := by decide +kernel
theorem dX7_perform_46 : decode cX7_perform 46 = .ok (.iload 7, 2) := by decide +kernel
theorem dX7_perform_48 : decode cX7_perform 48 = .ok (.invokestatic 101, 3) := by decide +kernel
theorem dX7_perform_51 : decode cX7_perform 51 = .ok (.bipush 7, 2) := by decide +kernel
theorem dX7_perform_53 : decode cX7_perform 53 = .ok (.if_icmp .ne 76, 3) := by decide +kernel
theorem dX7_perform_56 : decode cX7_perform 56 = .ok (.iload 8, 2) := by decide +kernel
theorem dX7_perform_58 : decode cX7_perform 58 = .ok (.aload_n 0, 1) := by decide +kernel
theorem dX7_perform_59 : decode cX7_perform 59 = .ok (.getfield 18, 3) := by decide +kernel
theorem dX7_perform_62 : decode cX7_perform 62 = .ok (.iload 7, 2) := by decide +kernel
theorem dX7_perform_64 : decode cX7_perform 64 = .ok (.invokestatic 101, 3) := by decide +kernel
theorem dX7_perform_67 : decode cX7_perform 67 = .ok (.invokestatic 105, 3) := by decide +kernel
theorem dX7_perform_70 : decode cX7_perform 70 = .ok (.istore 9, 2) := by decide +kernel
theorem dX7_perform_72 : decode cX7_perform 72 = .ok (.iconst 0, 1) := by decide +kernel
theorem dX7_perform_73 : decode cX7_perform 73 = .ok (.istore 10, 2) := by decide +kernel
theorem dX7_perform_75 : decode cX7_perform 75 = .ok (.iload 10, 2) := by decide +kernel
theorem dX7_perform_77 : decode cX7_perform 77 = .ok (.aload_n 0, 1) := by decide +kernel
theorem dX7_perform_78 : decode cX7_perform 78 = .ok (.getfield 15, 3) := by decide +kernel
theorem dX7_perform_81 : decode cX7_perform 81 = .ok (.iload 7, 2) := by decide +kernel
theorem dX7_perform_83 : decode cX7_perform 83 = .ok (.invokestatic 101, 3) := by decide +kernel
theorem dX7_perform_86 : decode cX7_perform 86 = .ok (.if_icmp .ge 36, 3) := by decide +kernel
theorem dX7_perform_89 : decode cX7_perform 89 = .ok (.aload_n 0, 1) := by decide +kernel
theorem dX7_perform_90 : decode cX7_perform 90 = .ok (.getfield 25, 3) := by decide +kernel
theorem dX7_perform_93 : decode cX7_perform 93 = .ok (.sipush 200, 3) := by decide +kernel
theorem dX7_perform_96 : decode cX7_perform 96 = .ok (.if_icmp .ge 26, 3) := by decide +kernel
theorem dX7_perform_99 : decode cX7_perform 99 = .ok (.aload_n 0, 1) := by decide +kernel
theorem dX7_perform_100 : decode cX7_perform 100 = .ok (.iload 8, 2) := by decide +kernel
theorem dX7_perform_102 : decode cX7_perform 102 = .ok (.iload 9, 2) := by decide +kernel
theorem dX7_perform_104 : decode cX7_perform 104 = .ok (.iload_n 3, 1) := by decide +kernel
theorem dX7_perform_105 : decode cX7_perform 105 = .ok (.iconst 1, 1) := by decide +kernel
theorem dX7_perform_106 : decode cX7_perform 106 = .ok (.iadd, 1) := by decide +kernel
theorem dX7_perform_107 : decode cX7_perform 107 = .ok (.aload 4, 2) := by decide +kernel
theorem dX7_perform_109 : decode cX7_perform 109 = .ok (.aload 5, 2) := by decide +kernel
theorem dX7_perform_111 : decode cX7_perform 111 = .ok (.aload 6, 2) := by decide +kernel
theorem dX7_perform_113 : decode cX7_perform 113 = .ok (.invokevirtual 110, 3) := by decide +kernel
theorem dX7_perform_116 : decode cX7_perform 116 = .ok (.iinc 10 1, 3) := by decide +kernel
theorem dX7_perform_119 : decode cX7_perform 119 = .ok (.goto (-44), 3) := by decide +kernel
theorem dX7_perform_122 : decode cX7_perform 122 = .ok (.iload 9, 2) := by decide +kernel
theorem dX7_perform_124 : decode cX7_perform 124 = .ok (.istore 8, 2) := by decide +kernel
theorem dX7_perform_126 : decode cX7_perform 126 = .ok (.goto 41, 3) := by decide +kernel
theorem dX7_perform_129 : decode cX7_perform 129 = .ok (.aload_n 0, 1) := by decide +kernel
theorem dX7_perform_130 : decode cX7_perform 130 = .ok (.iload 7, 2) := by decide +kernel
theorem dX7_perform_132 : decode cX7_perform 132 = .ok (.aload 4, 2) := by decide +kernel
theorem dX7_perform_134 : decode cX7_perform 134 = .ok (.aload 5, 2) := by decide +kernel
theorem dX7_perform_136 : decode cX7_perform 136 = .ok (.aload 6, 2) := by decide +kernel
theorem dX7_perform_138 : decode cX7_perform 138 = .ok (.invokevirtual 114, 3) := by decide +kernel
theorem dX7_perform_141 : decode cX7_perform 141 = .ok (.ifCond .eq 16, 3) := by decide +kernel
theorem dX7_perform_144 : decode cX7_perform 144 = .ok (.aload_n 0, 1) := by decide +kernel
theorem dX7_perform_145 : decode cX7_perform 145 = .ok (.dup, 1) := by decide +kernel
theorem dX7_perform_146 : decode cX7_perform 146 = .ok (.getfield 28, 3) := by decide +kernel
theorem dX7_perform_149 : decode cX7_perform 149 = .ok (.iconst 1, 1) := by decide +kernel
theorem dX7_perform_150 : decode cX7_perform 150 = .ok (.iadd, 1) := by decide +kernel
theorem dX7_perform_151 : decode cX7_perform 151 = .ok (.putfield 28, 3) := by decide +kernel
theorem dX7_perform_154 : decode cX7_perform 154 = .ok (.goto 13, 3) := by decide +kernel
theorem dX7_perform_157 : decode cX7_perform 157 = .ok (.aload_n 0, 1) := by decide +kernel
theorem dX7_perform_158 : decode cX7_perform 158 = .ok (.dup, 1) := by decide +kernel
theorem dX7_perform_159 : decode cX7_perform 159 = .ok (.getfield 31, 3) := by decide +kernel
theorem dX7_perform_162 : decode cX7_perform 162 = .ok (.iconst 1, 1) := by decide +kernel
theorem dX7_perform_163 : decode cX7_perform 163 = .ok (.iadd, 1) := by decide +kernel
theorem dX7_perform_164 : decode cX7_perform 164 = .ok (.putfield 31, 3) := by decide +kernel
theorem dX7_perform_167 : decode cX7_perform 167 = .ok (.iload 8, 2) := by decide +kernel
theorem dX7_perform_169 : decode cX7_perform 169 = .ok (.istore 7, 2) := by decide +kernel
theorem dX7_perform_171 : decode cX7_perform 171 = .ok (.goto (-161), 3) := by decide +kernel
theorem dX7_perform_174 : decode cX7_perform 174 = .ok (.return_, 1) := by decide +kernel
set_option maxRecDepth 100000 in
theorem T_X7_perform_0 {G : GE} {d C S : Nat} {P : KN} : Snd G MX7_perform (d + 1) C S 0 (RN P) (s_iload 3 (s_iconst 6 (s_ic_le (s_iload 1 (s_istore 7 (fun L st h => E G MX7_perform (d + 1) C S 10 (msk [true, false, true, true, true, true, true, true, false, false, false] L) st h (RN P)))) (s_return P)))) := (e_iload_n dX7_perform_0 rfl (e_bipush (v := 6) dX7_perform_1 (by decide) (e_ic_le (tgt := 7) dX7_perform_3 (by decide) (e_iload_n dX7_perform_7 rfl (e_istore dX7_perform_8 (by decide) (e_msk [true, false, true, true, true, true, true, true, false, false, false]))) (e_return rfl dX7_perform_6))))
set_option maxRecDepth 100000 in
theorem V_X7_perform_0 {G : GE} {d : Nat} {P : KN} {a : Nat → Nat → Int32} {r : Nat → Nat → Value} {N : Nat} {l0 : Nat} {l1 : Int32} {l2 : Int32} {l3 : Int32} {l4 : Nat} {l5 : Nat} {l6 : Nat} (hs : ((l3 ≤ 6 → E G MX7_perform (d + 1) 0 0 10 [.ref l0, .null, .int l2, .int l3, .ref l4, .ref l5, .ref l6, .int l1, .null, .null, .null] [] (a, r, N) (RN P)) ∧ (¬ l3 ≤ 6 → P a r N))) : Sp G (d + 1) 0 0 MX7_perform [.ref l0, .int l1, .int l2, .int l3, .ref l4, .ref l5, .ref l6] (a, r, N) (RN P) := Sp.mk (mc := 0) (ms := 0) [.ref l0, .int l1, .int l2, .int l3, .ref l4, .ref l5, .ref l6, .null, .null, .null, .null] rfl rfl rfl rfl (T_X7_perform_0 (C := 0) (S := 0) _ _ _ hs)
set_option maxRecDepth 100000 in
theorem T_X7_perform_10 {G : GE} {d C S : Nat} {P : KN} : Snd G MX7_perform (d + 1) C S 10 (RN P) (s_iload 7 (s_iload 2 (s_ic_ge (s_return P) (s_aload 0 (s_getI 7 4 (s_iconst 200 (s_ic_ge (s_return P) (s_aload 0 (s_dup (s_getI 7 4 (s_iconst 1 (s_iadd (s_putI 7 4 (s_iload 7 (s_iconst 1 (s_iadd (s_istore 8 (s_aload 0 (s_getR 7 0 (s_iload 7 (s_call G d MX9_at 2 (s_iconst 7 (s_ic_ne (s_aload 0 (s_iload 7 (s_aload 4 (s_aload 5 (s_aload 6 (s_callV G d MX7_performStep 4 7 (s_if_eq (s_aload 0 (s_dup (s_getI 7 6 (s_iconst 1 (s_iadd (s_putI 7 6 (s_iload 8 (s_istore 7 (fun L st h => E G MX7_perform (d + 1) C S 10 (msk [true, false, true, true, true, true, true, true, false, false, false] L) st h (RN P)))))))))) (s_aload 0 (s_dup (s_getI 7 5 (s_iconst 1 (s_iadd (s_putI 7 5 (s_iload 8 (s_istore 7 (fun L st h => E G MX7_perform (d + 1) C S 10 (msk [true, false, true, true, true, true, true, true, false, false, false] L) st h (RN P))))))))))))))))) (s_iload 8 (s_aload 0 (s_getR 7 2 (s_iload 7 (s_call G d MX9_at 2 (s_max (s_istore 9 (s_iconst 0 (s_istore 10 (fun L st h => E G MX7_perform (d + 1) C S 75 (msk [true, false, true, true, true, true, true, true, true, true, true] L) st h (RN P)))))))))))))))))))))))))))))))))) := (e_iload dX7_perform_10 (e_iload_n dX7_perform_12 rfl (e_ic_ge (tgt := 174) dX7_perform_13 (by decide) (e_return rfl dX7_perform_174) (e_aload_n dX7_perform_16 rfl (e_getI rfl cl_7 (by decide) rfl q_297 dX7_perform_17 (e_sipush (v := 200) dX7_perform_20 (by decide) (e_ic_ge (tgt := 174) dX7_perform_23 (by decide) (e_return rfl dX7_perform_174) (e_aload_n dX7_perform_26 rfl (e_dup dX7_perform_27 (e_getI rfl cl_7 (by decide) rfl q_297 dX7_perform_28 (e_iconst (v := 1) dX7_perform_31 (by decide) (e_iadd dX7_perform_32 (e_putI rfl cl_7 (by decide) rfl rfl rfl q_297 dX7_perform_33 (e_iload dX7_perform_36 (e_iconst (v := 1) dX7_perform_38 (by decide) (e_iadd dX7_perform_39 (e_istore dX7_perform_40 (by decide) (e_aload_n dX7_perform_42 rfl (e_getR rfl cl_7 (by decide) rfl q_292 dX7_perform_43 (e_iload dX7_perform_46 (e_callS cal_X9_at q_1090 q_426 dX7_perform_48 (e_bipush (v := 7) dX7_perform_51 (by decide) (e_ic_ne (tgt := 129) dX7_perform_53 (by decide) (e_aload_n dX7_perform_129 rfl (e_iload dX7_perform_130 (e_aload dX7_perform_132 (e_aload dX7_perform_134 (e_aload dX7_perform_136 (e_callV cl_7 cal_X7_performStep q_1093 q_1095 q_33 dX7_perform_138 (e_if_eq (tgt := 157) dX7_perform_141 (by decide) (e_aload_n dX7_perform_157 rfl (e_dup dX7_perform_158 (e_getI rfl cl_7 (by decide) rfl q_300 dX7_perform_159 (e_iconst (v := 1) dX7_perform_162 (by decide) (e_iadd dX7_perform_163 (e_putI rfl cl_7 (by decide) rfl rfl rfl q_300 dX7_perform_164 (e_iload dX7_perform_167 (e_istore dX7_perform_169 (by decide) (e_goto (tgt := 10) dX7_perform_171 (by decide) (e_msk [true, false, true, true, true, true, true, true, false, false, false])))))))))) (e_aload_n dX7_perform_144 rfl (e_dup dX7_perform_145 (e_getI rfl cl_7 (by decide) rfl q_298 dX7_perform_146 (e_iconst (v := 1) dX7_perform_149 (by decide) (e_iadd dX7_perform_150 (e_putI rfl cl_7 (by decide) rfl rfl rfl q_298 dX7_perform_151 (e_goto (tgt := 167) dX7_perform_154 (by decide) (e_iload dX7_perform_167 (e_istore dX7_perform_169 (by decide) (e_goto (tgt := 10) dX7_perform_171 (by decide) (e_msk [true, false, true, true, true, true, true, true, false, false, false])))))))))))))))))) (e_iload dX7_perform_56 (e_aload_n dX7_perform_58 rfl (e_getR rfl cl_7 (by decide) rfl q_294 dX7_perform_59 (e_iload dX7_perform_62 (e_callS cal_X9_at q_1090 q_426 dX7_perform_64 (e_max q_1091 q_555 q_127 q_556 dX7_perform_67 (e_istore dX7_perform_70 (by decide) (e_iconst (v := 0) dX7_perform_72 (by decide) (e_istore dX7_perform_73 (by decide) (e_msk [true, false, true, true, true, true, true, true, true, true, true])))))))))))))))))))))))))))))))))
set_option maxRecDepth 100000 in
theorem V_X7_perform_10 {G : GE} {d C S : Nat} {P : KN} {a : Nat → Nat → Int32} {r : Nat → Nat → Value} {N : Nat} {l0 : Nat} {l2 : Int32} {l3 : Int32} {l4 : Nat} {l5 : Nat} {l6 : Nat} {l7 : Int32} (hs : ((l2 ≤ l7 → P a r N) ∧ (¬ l2 ≤ l7 → (tyK l0 = (0, 7) ∧ l0 < N ∧ ((200 ≤ (a l0 4) → P a r N) ∧ (¬ 200 ≤ (a l0 4) → (tyK l0 = (0, 7) ∧ l0 < N ∧ (tyK l0 = (0, 7) ∧ l0 < N ∧ ∀ a1, a1 = u2 a l0 4 ((a l0 4) + 1) → (tyK l0 = (0, 7) ∧ l0 < N ∧ ∃ q2, r l0 0 = .ref q2 ∧ Sp G d 0 0 MX9_at [.ref q2, .int l7] (a1, r, N) (RI fun v6 a3 r4 n5 => ((¬ v6 = 7 → (tyK l0 = (0, 7) ∧ l0 < n5 ∧ Sp G d 0 0 MX7_performStep [.ref l0, .int l7, .ref l4, .ref l5, .ref l6] (a3, r4, n5) (RI fun v10 a7 r8 n9 => ((v10 = 0 → (tyK l0 = (0, 7) ∧ l0 < n9 ∧ (tyK l0 = (0, 7) ∧ l0 < n9 ∧ ∀ a11, a11 = u2 a7 l0 6 ((a7 l0 6) + 1) → E G MX7_perform (d + 1) C S 10 [.ref l0, .null, .int l2, .int l3, .ref l4, .ref l5, .ref l6, .int (l7 + 1), .null, .null, .null] [] (a11, r8, n9) (RN P)))) ∧ (¬ v10 = 0 → (tyK l0 = (0, 7) ∧ l0 < n9 ∧ (tyK l0 = (0, 7) ∧ l0 < n9 ∧ ∀ a12, a12 = u2 a7 l0 5 ((a7 l0 5) + 1) → E G MX7_perform (d + 1) C S 10 [.ref l0, .null, .int l2, .int l3, .ref l4, .ref l5, .ref l6, .int (l7 + 1), .null, .null, .null] [] (a12, r8, n9) (RN P)))))))) ∧ (v6 = 7 → (tyK l0 = (0, 7) ∧ l0 < n5 ∧ ∃ q13, r4 l0 2 = .ref q13 ∧ Sp G d 0 0 MX9_at [.ref q13, .int l7] (a3, r4, n5) (RI fun v17 a14 r15 n16 => E G MX7_perform (d + 1) C S 75 [.ref l0, .null, .int l2, .int l3, .ref l4, .ref l5, .ref l6, .int l7, .int (l7 + 1), .int (if ((l7 + 1) : Int32) < v17 then v17 else (l7 + 1)), .int 0] [] (a14, r15, n16) (RN P))))))))))))))) : E G MX7_perform (d + 1) C S 10 [.ref l0, .null, .int l2, .int l3, .ref l4, .ref l5, .ref l6, .int l7, .null, .null, .null] [] (a, r, N) (RN P) := T_X7_perform_10 _ _ _ hs
set_option maxRecDepth 100000 in
theorem T_X7_perform_75 {G : GE} {d C S : Nat} {P : KN} : Snd G MX7_perform (d + 1) C S 75 (RN P) (s_iload 10 (s_aload 0 (s_getR 7 1 (s_iload 7 (s_call G d MX9_at 2 (s_ic_ge (s_iload 9 (s_istore 8 (s_iload 8 (s_istore 7 (fun L st h => E G MX7_perform (d + 1) C S 10 (msk [true, false, true, true, true, true, true, true, false, false, false] L) st h (RN P)))))) (s_aload 0 (s_getI 7 4 (s_iconst 200 (s_ic_ge (s_iload 9 (s_istore 8 (s_iload 8 (s_istore 7 (fun L st h => E G MX7_perform (d + 1) C S 10 (msk [true, false, true, true, true, true, true, true, false, false, false] L) st h (RN P)))))) (s_aload 0 (s_iload 8 (s_iload 9 (s_iload 3 (s_iconst 1 (s_iadd (s_aload 4 (s_aload 5 (s_aload 6 (s_callV G d MX7_perform 6 7 (s_iinc 10 1 (fun L st h => E G MX7_perform (d + 1) C S 75 (msk [true, false, true, true, true, true, true, true, true, true, true] L) st h (RN P))))))))))))))))))))))) := (e_iload dX7_perform_75 (e_aload_n dX7_perform_77 rfl (e_getR rfl cl_7 (by decide) rfl q_293 dX7_perform_78 (e_iload dX7_perform_81 (e_callS cal_X9_at q_1090 q_426 dX7_perform_83 (e_ic_ge (tgt := 122) dX7_perform_86 (by decide) (e_iload dX7_perform_122 (e_istore dX7_perform_124 (by decide) (e_goto (tgt := 167) dX7_perform_126 (by decide) (e_iload dX7_perform_167 (e_istore dX7_perform_169 (by decide) (e_goto (tgt := 10) dX7_perform_171 (by decide) (e_msk [true, false, true, true, true, true, true, true, false, false, false]))))))) (e_aload_n dX7_perform_89 rfl (e_getI rfl cl_7 (by decide) rfl q_297 dX7_perform_90 (e_sipush (v := 200) dX7_perform_93 (by decide) (e_ic_ge (tgt := 122) dX7_perform_96 (by decide) (e_iload dX7_perform_122 (e_istore dX7_perform_124 (by decide) (e_goto (tgt := 167) dX7_perform_126 (by decide) (e_iload dX7_perform_167 (e_istore dX7_perform_169 (by decide) (e_goto (tgt := 10) dX7_perform_171 (by decide) (e_msk [true, false, true, true, true, true, true, true, false, false, false]))))))) (e_aload_n dX7_perform_99 rfl (e_iload dX7_perform_100 (e_iload dX7_perform_102 (e_iload_n dX7_perform_104 rfl (e_iconst (v := 1) dX7_perform_105 (by decide) (e_iadd dX7_perform_106 (e_aload dX7_perform_107 (e_aload dX7_perform_109 (e_aload dX7_perform_111 (e_callV cl_7 cal_X7_perform q_1092 q_1088 q_32 dX7_perform_113 (e_iinc (v := 1) dX7_perform_116 (by decide) (by decide) (e_goto (tgt := 75) dX7_perform_119 (by decide) (e_msk [true, false, true, true, true, true, true, true, true, true, true])))))))))))))))))))))))
set_option maxRecDepth 100000 in
theorem V_X7_perform_75 {G : GE} {d C S : Nat} {P : KN} {a : Nat → Nat → Int32} {r : Nat → Nat → Value} {N : Nat} {l0 : Nat} {l2 : Int32} {l3 : Int32} {l4 : Nat} {l5 : Nat} {l6 : Nat} {l7 : Int32} {l8 : Int32} {l9 : Int32} {l10 : Int32} (hs : (tyK l0 = (0, 7) ∧ l0 < N ∧ ∃ q1, r l0 1 = .ref q1 ∧ Sp G d 0 0 MX9_at [.ref q1, .int l7] (a, r, N) (RI fun v5 a2 r3 n4 => ((v5 ≤ l10 → E G MX7_perform (d + 1) C S 10 [.ref l0, .null, .int l2, .int l3, .ref l4, .ref l5, .ref l6, .int l9, .null, .null, .null] [] (a2, r3, n4) (RN P)) ∧ (¬ v5 ≤ l10 → (tyK l0 = (0, 7) ∧ l0 < n4 ∧ ((200 ≤ (a2 l0 4) → E G MX7_perform (d + 1) C S 10 [.ref l0, .null, .int l2, .int l3, .ref l4, .ref l5, .ref l6, .int l9, .null, .null, .null] [] (a2, r3, n4) (RN P)) ∧ (¬ 200 ≤ (a2 l0 4) → (tyK l0 = (0, 7) ∧ l0 < n4 ∧ Sp G d 0 0 MX7_perform [.ref l0, .int l8, .int l9, .int (l3 + 1), .ref l4, .ref l5, .ref l6] (a2, r3, n4) (RN fun a6 r7 n8 => E G MX7_perform (d + 1) C S 75 [.ref l0, .null, .int l2, .int l3, .ref l4, .ref l5, .ref l6, .int l7, .int l8, .int l9, .int (l10 + 1)] [] (a6, r7, n8) (RN P))))))))))) : E G MX7_perform (d + 1) C S 75 [.ref l0, .null, .int l2, .int l3, .ref l4, .ref l5, .ref l6, .int l7, .int l8, .int l9, .int l10] [] (a, r, N) (RN P) := T_X7_perform_75 _ _ _ hs
theorem dX7_performStep_0 : decode cX7_performStep 0 = .ok (.aload_n 0, 1) := by decide +kernel
theorem dX7_performStep_1 : decode cX7_performStep 1 = .ok (.getfield 15, 3) := by decide +kernel
theorem dX7_performStep_4 : decode cX7_performStep 4 = .ok (.iload_n 1, 1) := by decide +kernel
theorem dX7_performStep_5 : decode cX7_performStep 5 = .ok (.invokestatic 101, 3) := by decide +kernel
theorem dX7_performStep_8 : decode cX7_performStep 8 = .ok (.istore 5, 2) := by decide +kernel
theorem dX7_performStep_10 : decode cX7_performStep 10 = .ok (.aload_n 0, 1) := by decide +kernel
theorem dX7_performStep_11 : decode cX7_performStep 11 = .ok (.getfield 18, 3) := by decide +kernel
theorem dX7_performStep_14 : decode cX7_performStep 14 = .ok (.iload_n 1, 1) := by decide +kernel
theorem dX7_performStep_15 : decode cX7_performStep 15 = .ok (.invokestatic 101, 3) := by decide +kernel
theorem dX7_performStep_18 : decode cX7_performStep 18 = .ok (.istore 6, 2) := by decide +kernel
theorem dX7_performStep_20 : decode cX7_performStep 20 = .ok (.aload_n 0, 1) := by decide +kernel
theorem dX7_performStep_21 : decode cX7_performStep 21 = .ok (.getfield 11, 3) := by decide +kernel
theorem dX7_performStep_24 : decode cX7_performStep 24 = .ok (.iload_n 1, 1) := by decide +kernel
theorem dX7_performStep_25 : decode cX7_performStep 25 = .ok (.invokestatic 101, 3) := by decide +kernel
theorem dX7_performStep_28 : decode cX7_performStep 28 = .ok (.tableswitch 97 1 5 #[36, 67, 74, 83, 90], 36) := by decide +kernel
theorem dX7_performStep_64 : decode cX7_performStep 64 = .ok (.aload 4, 2) := by decide +kernel
theorem dX7_performStep_66 : decode cX7_performStep 66 = .ok (.aload_n 3, 1) := by decide +kernel
theorem dX7_performStep_67 : decode cX7_performStep 67 = .ok (.aload_n 2, 1) := by decide +kernel
theorem dX7_performStep_68 : decode cX7_performStep 68 = .ok (.iload 5, 2) := by decide +kernel
theorem dX7_performStep_70 : decode cX7_performStep 70 = .ok (.iload 6, 2) := by decide +kernel
theorem dX7_performStep_72 : decode cX7_performStep 72 = .ok (.invokevirtual 118, 3) := by decide +kernel
theorem dX7_performStep_75 : decode cX7_performStep 75 = .ok (.ifCond .ne 18, 3) := by decide +kernel
theorem dX7_performStep_78 : decode cX7_performStep 78 = .ok (.aload_n 2, 1) := by decide +kernel
theorem dX7_performStep_79 : decode cX7_performStep 79 = .ok (.iload 5, 2) := by decide +kernel
theorem dX7_performStep_81 : decode cX7_performStep 81 = .ok (.iload 6, 2) := by decide +kernel
theorem dX7_performStep_83 : decode cX7_performStep 83 = .ok (.invokevirtual 124, 3) := by decide +kernel
theorem dX7_performStep_86 : decode cX7_performStep 86 = .ok (.ifCond .eq 7, 3) := by decide +kernel
theorem dX7_performStep_89 : decode cX7_performStep 89 = .ok (.iconst 1, 1) := by decide +kernel
theorem dX7_performStep_90 : decode cX7_performStep 90 = .ok (.goto 4, 3) := by decide +kernel
theorem dX7_performStep_93 : decode cX7_performStep 93 = .ok (.iconst 0, 1) := by decide +kernel
theorem dX7_performStep_94 : decode cX7_performStep 94 = .ok (.ireturn, 1) := by decide +kernel
theorem dX7_performStep_95 : decode cX7_performStep 95 = .ok (.aload_n 2, 1) := by decide +kernel
theorem dX7_performStep_96 : decode cX7_performStep 96 = .ok (.iload 5, 2) := by decide +kernel
theorem dX7_performStep_98 : decode cX7_performStep 98 = .ok (.invokevirtual 130, 3) := by decide +kernel
theorem dX7_performStep_101 : decode cX7_performStep 101 = .ok (.ireturn, 1) := by decide +kernel
theorem dX7_performStep_102 : decode cX7_performStep 102 = .ok (.aload_n 2, 1) := by decide +kernel
theorem dX7_performStep_103 : decode cX7_performStep 103 = .ok (.iload 5, 2) := by decide +kernel
theorem dX7_performStep_105 : decode cX7_performStep 105 = .ok (.iload 6, 2) := by decide +kernel
theorem dX7_performStep_107 : decode cX7_performStep 107 = .ok (.invokevirtual 133, 3) := by decide +kernel
theorem dX7_performStep_110 : decode cX7_performStep 110 = .ok (.ireturn, 1) := by decide +kernel
theorem dX7_performStep_111 : decode cX7_performStep 111 = .ok (.aload_n 2, 1) := by decide +kernel
theorem dX7_performStep_112 : decode cX7_performStep 112 = .ok (.iload 5, 2) := by decide +kernel
theorem dX7_performStep_114 : decode cX7_performStep 114 = .ok (.invokevirtual 136, 3) := by decide +kernel
theorem dX7_performStep_117 : decode cX7_performStep 117 = .ok (.ireturn, 1) := by decide +kernel
theorem dX7_performStep_118 : decode cX7_performStep 118 = .ok (.aload_n 2, 1) := by decide +kernel
theorem dX7_performStep_119 : decode cX7_performStep 119 = .ok (.iload 5, 2) := by decide +kernel
theorem dX7_performStep_121 : decode cX7_performStep 121 = .ok (.invokevirtual 139, 3) := by decide +kernel
theorem dX7_performStep_124 : decode cX7_performStep 124 = .ok (.ireturn, 1) := by decide +kernel
theorem dX7_performStep_125 : decode cX7_performStep 125 = .ok (.aload_n 2, 1) := by decide +kernel
theorem dX7_performStep_126 : decode cX7_performStep 126 = .ok (.invokevirtual 142, 3) := by decide +kernel
theorem dX7_performStep_129 : decode cX7_performStep 129 = .ok (.ireturn, 1) := by decide +kernel
set_option maxRecDepth 100000 in
theorem T_X7_performStep_0 {G : GE} {d C S : Nat} {P : KI} : Snd G MX7_performStep (d + 1) C S 0 (RI P) (s_aload 0 (s_getR 7 1 (s_iload 1 (s_call G d MX9_at 2 (s_istore 5 (s_aload 0 (s_getR 7 2 (s_iload 1 (s_call G d MX9_at 2 (s_istore 6 (s_aload 0 (s_getR 7 0 (s_iload 1 (s_call G d MX9_at 2 (s_switch [(1, (s_aload 4 (s_aload 3 (s_aload 2 (s_iload 5 (s_iload 6 (s_callV G d MX2_hindrance 4 2 (s_if_ne (s_iconst 0 (s_zreturn P)) (s_aload 2 (s_iload 5 (s_iload 6 (s_callV G d MX4_wed 2 4 (s_if_eq (s_iconst 0 (s_zreturn P)) (s_iconst 1 (s_zreturn P))))))))))))))), (2, (s_aload 2 (s_iload 5 (s_callV G d MX4_partFrom 1 4 (s_zreturn P))))), (3, (s_aload 2 (s_iload 5 (s_iload 6 (s_callV G d MX4_plantIn 2 4 (s_zreturn P)))))), (4, (s_aload 2 (s_iload 5 (s_callV G d MX4_quarrelIn 1 4 (s_zreturn P))))), (5, (s_aload 2 (s_iload 5 (s_callV G d MX4_repaveIn 1 4 (s_zreturn P)))))] (s_aload 2 (s_callV G d MX4_turnYear 0 4 (s_zreturn P)))))))))))))))))) := (e_aload_n dX7_performStep_0 rfl (e_getR rfl cl_7 (by decide) rfl q_293 dX7_performStep_1 (e_iload_n dX7_performStep_4 rfl (e_callS cal_X9_at q_1090 q_426 dX7_performStep_5 (e_istore dX7_performStep_8 (by decide) (e_aload_n dX7_performStep_10 rfl (e_getR rfl cl_7 (by decide) rfl q_294 dX7_performStep_11 (e_iload_n dX7_performStep_14 rfl (e_callS cal_X9_at q_1090 q_426 dX7_performStep_15 (e_istore dX7_performStep_18 (by decide) (e_aload_n dX7_performStep_20 rfl (e_getR rfl cl_7 (by decide) rfl q_292 dX7_performStep_21 (e_iload_n dX7_performStep_24 rfl (e_callS cal_X9_at q_1090 q_426 dX7_performStep_25 (e_tsw (tg := [64, 95, 102, 111, 118]) (td := 125) [1, 2, 3, 4, 5] rfl dX7_performStep_28 (by decide) (by decide) (by decide +kernel) (by decide +kernel) (swc (t0 := 64) (e_aload dX7_performStep_64 (e_aload_n dX7_performStep_66 rfl (e_aload_n dX7_performStep_67 rfl (e_iload dX7_performStep_68 (e_iload dX7_performStep_70 (e_callV cl_2 cal_X2_hindrance q_1097 q_536 q_537 dX7_performStep_72 (e_if_ne (tgt := 93) dX7_performStep_75 (by decide) (e_iconst (v := 0) dX7_performStep_93 (by decide) (e_zreturn rfl dX7_performStep_94)) (e_aload_n dX7_performStep_78 rfl (e_iload dX7_performStep_79 (e_iload dX7_performStep_81 (e_callV cl_4 cal_X4_wed q_1098 q_1099 q_1100 dX7_performStep_83 (e_if_eq (tgt := 93) dX7_performStep_86 (by decide) (e_iconst (v := 0) dX7_performStep_93 (by decide) (e_zreturn rfl dX7_performStep_94)) (e_iconst (v := 1) dX7_performStep_89 (by decide) (e_goto (tgt := 94) dX7_performStep_90 (by decide) (e_zreturn rfl dX7_performStep_94))))))))))))))) (swc (t0 := 95) (e_aload_n dX7_performStep_95 rfl (e_iload dX7_performStep_96 (e_callV cl_4 cal_X4_partFrom q_1107 q_1108 q_1109 dX7_performStep_98 (e_zreturn rfl dX7_performStep_101)))) (swc (t0 := 102) (e_aload_n dX7_performStep_102 rfl (e_iload dX7_performStep_103 (e_iload dX7_performStep_105 (e_callV cl_4 cal_X4_plantIn q_1120 q_1121 q_1122 dX7_performStep_107 (e_zreturn rfl dX7_performStep_110))))) (swc (t0 := 111) (e_aload_n dX7_performStep_111 rfl (e_iload dX7_performStep_112 (e_callV cl_4 cal_X4_quarrelIn q_1125 q_1126 q_1127 dX7_performStep_114 (e_zreturn rfl dX7_performStep_117)))) (swc (t0 := 118) (e_aload_n dX7_performStep_118 rfl (e_iload dX7_performStep_119 (e_callV cl_4 cal_X4_repaveIn q_1134 q_1135 q_1136 dX7_performStep_121 (e_zreturn rfl dX7_performStep_124)))) swn))))) (e_aload_n dX7_performStep_125 rfl (e_callV cl_4 cal_X4_turnYear q_1138 q_1139 q_1140 dX7_performStep_126 (e_zreturn rfl dX7_performStep_129))))))))))))))))))
set_option maxRecDepth 100000 in
theorem V_X7_performStep_0 {G : GE} {d : Nat} {P : KI} {a : Nat → Nat → Int32} {r : Nat → Nat → Value} {N : Nat} {l0 : Nat} {l1 : Int32} {l2 : Nat} {l3 : Nat} {l4 : Nat} (hs : (tyK l0 = (0, 7) ∧ l0 < N ∧ ∃ q1, r l0 1 = .ref q1 ∧ Sp G d 0 0 MX9_at [.ref q1, .int l1] (a, r, N) (RI fun v5 a2 r3 n4 => (tyK l0 = (0, 7) ∧ l0 < n4 ∧ ∃ q6, r3 l0 2 = .ref q6 ∧ Sp G d 0 0 MX9_at [.ref q6, .int l1] (a2, r3, n4) (RI fun v10 a7 r8 n9 => (tyK l0 = (0, 7) ∧ l0 < n9 ∧ ∃ q11, r8 l0 0 = .ref q11 ∧ Sp G d 0 0 MX9_at [.ref q11, .int l1] (a7, r8, n9) (RI fun v15 a12 r13 n14 => ((v15 = 1 → (tyK l4 = (0, 2) ∧ l4 < n14 ∧ Sp G d 0 0 MX2_hindrance [.ref l4, .ref l3, .ref l2, .int v5, .int v10] (a12, r13, n14) (RI fun v19 a16 r17 n18 => ((¬ v19 = 0 → (bz 0 ∧ P 0 a16 r17 n18)) ∧ (v19 = 0 → (tyK l2 = (0, 4) ∧ l2 < n18 ∧ Sp G d 0 0 MX4_wed [.ref l2, .int v5, .int v10] (a16, r17, n18) (RI fun v23 a20 r21 n22 => ((v23 = 0 → (bz 0 ∧ P 0 a20 r21 n22)) ∧ (¬ v23 = 0 → (bz 1 ∧ P 1 a20 r21 n22)))))))))) ∧ (¬ v15 = 1 → ((v15 = 2 → (tyK l2 = (0, 4) ∧ l2 < n14 ∧ Sp G d 0 0 MX4_partFrom [.ref l2, .int v5] (a12, r13, n14) (RI fun v27 a24 r25 n26 => (bz v27 ∧ P v27 a24 r25 n26)))) ∧ (¬ v15 = 2 → ((v15 = 3 → (tyK l2 = (0, 4) ∧ l2 < n14 ∧ Sp G d 0 0 MX4_plantIn [.ref l2, .int v5, .int v10] (a12, r13, n14) (RI fun v31 a28 r29 n30 => (bz v31 ∧ P v31 a28 r29 n30)))) ∧ (¬ v15 = 3 → ((v15 = 4 → (tyK l2 = (0, 4) ∧ l2 < n14 ∧ Sp G d 0 0 MX4_quarrelIn [.ref l2, .int v5] (a12, r13, n14) (RI fun v35 a32 r33 n34 => (bz v35 ∧ P v35 a32 r33 n34)))) ∧ (¬ v15 = 4 → ((v15 = 5 → (tyK l2 = (0, 4) ∧ l2 < n14 ∧ Sp G d 0 0 MX4_repaveIn [.ref l2, .int v5] (a12, r13, n14) (RI fun v39 a36 r37 n38 => (bz v39 ∧ P v39 a36 r37 n38)))) ∧ (¬ v15 = 5 → (tyK l2 = (0, 4) ∧ l2 < n14 ∧ Sp G d 0 0 MX4_turnYear [.ref l2] (a12, r13, n14) (RI fun v43 a40 r41 n42 => (bz v43 ∧ P v43 a40 r41 n42)))))))))))))))))))) : Sp G (d + 1) 0 0 MX7_performStep [.ref l0, .int l1, .ref l2, .ref l3, .ref l4] (a, r, N) (RI P) := Sp.mk (mc := 0) (ms := 0) [.ref l0, .int l1, .ref l2, .ref l3, .ref l4, .null, .null] rfl rfl rfl rfl (T_X7_performStep_0 (C := 0) (S := 0) _ _ _ hs)
