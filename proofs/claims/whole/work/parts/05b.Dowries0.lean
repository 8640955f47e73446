theorem dX1_init_0 : decode cX1_init 0 = .ok (.aload_n 0, 1) := by decide +kernel
theorem dX1_init_1 : decode cX1_init 1 = .ok (.invokespecial 3, 3) := by decide +kernel
theorem dX1_init_4 : decode cX1_init 4 = .ok (.aload_n 0, 1) := by decide +kernel
theorem dX1_init_5 : decode cX1_init 5 = .ok (.bipush 21, 2) := by decide +kernel
theorem dX1_init_7 : decode cX1_init 7 = .ok (.newarray .int, 2) := by decide +kernel
theorem dX1_init_9 : decode cX1_init 9 = .ok (.putfield 9, 3) := by decide +kernel
theorem dX1_init_12 : decode cX1_init 12 = .ok (.aload_n 0, 1) := by decide +kernel
theorem dX1_init_13 : decode cX1_init 13 = .ok (.bipush 21, 2) := by decide +kernel
theorem dX1_init_15 : decode cX1_init 15 = .ok (.newarray .int, 2) := by decide +kernel
theorem dX1_init_17 : decode cX1_init 17 = .ok (.putfield 15, 3) := by decide +kernel
theorem dX1_init_20 : decode cX1_init 20 = .ok (.return_, 1) := by decide +kernel
set_option maxRecDepth 100000 in
theorem T_X1_init_0 {G : GE} {d C S : Nat} {P : KN} : Snd G MX1_init (d + 1) (C + 2) (S + 42) 0 (RN P) (s_aload 0 (s_objInit (s_aload 0 (s_iconst 21 (fun L st h => p1 st (fun x _ => x.toNatClampNeg = 21) ∧ s_newI (s_putR 1 0 (s_aload 0 (s_iconst 21 (fun L st h => p1 st (fun x _ => x.toNatClampNeg = 21) ∧ s_newI (s_putR 1 1 (s_return P)) L st h)))) L st h))))) := (e_aload_n dX1_init_0 rfl (e_objInit q_393 q_141 q_142 dX1_init_1 (e_aload_n dX1_init_4 rfl (e_bipush (v := 21) dX1_init_5 (by decide) (e_newI (N := 21) q_252 (by decide) dX1_init_7 (e_putRF (ty := .array .int) rfl rfl cl_1 (by decide) rfl rfl rfl (by decide +kernel) (fun _ => ⟨rfl, rfl⟩) q_394 dX1_init_9 (e_aload_n dX1_init_12 rfl (e_bipush (v := 21) dX1_init_13 (by decide) (e_newI (N := 21) q_252 (by decide) dX1_init_15 (e_putRF (ty := .array .int) rfl rfl cl_1 (by decide) rfl rfl rfl (by decide +kernel) (fun _ => ⟨rfl, rfl⟩) q_395 dX1_init_17 (e_return rfl dX1_init_20)))))))))))
set_option maxRecDepth 100000 in
theorem V_X1_init_0 {G : GE} {d : Nat} {P : KN} {a : Nat → Nat → Int32} {r : Nat → Nat → Value} {N : Nat} {l0 : Nat} (hs : ((21 : Int32).toNatClampNeg = 21 ∧ N < nK ∧ tyK N = (1, (21 : Int32).toNatClampNeg) ∧ ¬ (21 : Int32) < 0 ∧ (∀ j, a N j = 0) ∧ (tyK l0 = (0, 1) ∧ l0 < (N + 1) ∧ ∀ r1, r1 = u2V r l0 0 (.ref N) → ((21 : Int32).toNatClampNeg = 21 ∧ (N + 1) < nK ∧ tyK (N + 1) = (1, (21 : Int32).toNatClampNeg) ∧ ¬ (21 : Int32) < 0 ∧ (∀ j, a (N + 1) j = 0) ∧ (tyK l0 = (0, 1) ∧ l0 < ((N + 1) + 1) ∧ ∀ r2, r2 = u2V r1 l0 1 (.ref (N + 1)) → P a r2 ((N + 1) + 1)))))) : Sp G (d + 1) 2 42 MX1_init [.ref l0] (a, r, N) (RN P) := Sp.mk (mc := (0 + 2)) (ms := (0 + 42)) [.ref l0] rfl rfl rfl rfl (T_X1_init_0 (C := 0) (S := 0) _ _ _ hs)
theorem dX1_gain_0 : decode cX1_gain 0 = .ok (.iload_n 0, 1) := by decide +kernel
theorem dX1_gain_1 : decode cX1_gain 1 = .ok (.iload_n 1, 1) := by decide +kernel
theorem dX1_gain_2 : decode cX1_gain 2 = .ok (.if_icmp .ge 5, 3) := by decide +kernel
theorem dX1_gain_5 : decode cX1_gain 5 = .ok (.iconst 0, 1) := by decide +kernel
theorem dX1_gain_6 : decode cX1_gain 6 = .ok (.ireturn, 1) := by decide +kernel
theorem dX1_gain_7 : decode cX1_gain 7 = .ok (.iload_n 0, 1) := by decide +kernel
theorem dX1_gain_8 : decode cX1_gain 8 = .ok (.iload_n 1, 1) := by decide +kernel
theorem dX1_gain_9 : decode cX1_gain 9 = .ok (.if_icmp .le 9, 3) := by decide +kernel
theorem dX1_gain_12 : decode cX1_gain 12 = .ok (.iload_n 2, 1) := by decide +kernel
theorem dX1_gain_13 : decode cX1_gain 13 = .ok (.iload_n 0, 1) := by decide +kernel
theorem dX1_gain_14 : decode cX1_gain 14 = .ok (.isub, 1) := by decide +kernel
theorem dX1_gain_15 : decode cX1_gain 15 = .ok (.goto 8, 3) := by decide +kernel
theorem dX1_gain_18 : decode cX1_gain 18 = .ok (.iload_n 2, 1) := by decide +kernel
theorem dX1_gain_19 : decode cX1_gain 19 = .ok (.iload_n 0, 1) := by decide +kernel
theorem dX1_gain_20 : decode cX1_gain 20 = .ok (.isub, 1) := by decide +kernel
theorem dX1_gain_21 : decode cX1_gain 21 = .ok (.iconst 2, 1) := by decide +kernel
theorem dX1_gain_22 : decode cX1_gain 22 = .ok (.idiv, 1) := by decide +kernel
theorem dX1_gain_23 : decode cX1_gain 23 = .ok (.ireturn, 1) := by decide +kernel
set_option maxRecDepth 100000 in
theorem T_X1_gain_0 {G : GE} {d C S : Nat} {P : KI} : Snd G MX1_gain d C S 0 (RI P) (s_iload 0 (s_iload 1 (s_ic_ge (s_iload 0 (s_iload 1 (s_ic_le (s_iload 2 (s_iload 0 (s_isub (s_iconst 2 (s_idiv (s_ireturn P)))))) (s_iload 2 (s_iload 0 (s_isub (s_ireturn P))))))) (s_iconst 0 (s_ireturn P))))) := (e_iload_n dX1_gain_0 rfl (e_iload_n dX1_gain_1 rfl (e_ic_ge (tgt := 7) dX1_gain_2 (by decide) (e_iload_n dX1_gain_7 rfl (e_iload_n dX1_gain_8 rfl (e_ic_le (tgt := 18) dX1_gain_9 (by decide) (e_iload_n dX1_gain_18 rfl (e_iload_n dX1_gain_19 rfl (e_isub dX1_gain_20 (e_iconst (v := 2) dX1_gain_21 (by decide) (e_idiv dX1_gain_22 (e_ireturn rfl dX1_gain_23)))))) (e_iload_n dX1_gain_12 rfl (e_iload_n dX1_gain_13 rfl (e_isub dX1_gain_14 (e_goto (tgt := 23) dX1_gain_15 (by decide) (e_ireturn rfl dX1_gain_23)))))))) (e_iconst (v := 0) dX1_gain_5 (by decide) (e_ireturn rfl dX1_gain_6)))))
set_option maxRecDepth 100000 in
theorem V_X1_gain_0 {G : GE} {d : Nat} {P : KI} {a : Nat → Nat → Int32} {r : Nat → Nat → Value} {N : Nat} {l0 : Int32} {l1 : Int32} {l2 : Int32} (hs : ((l1 ≤ l0 → ((l0 ≤ l1 → (¬ (2 : Int32) = 0 ∧ P (((l2 - l0) : Int32) / (2 : Int32)) a r N)) ∧ (¬ l0 ≤ l1 → P (l2 - l0) a r N))) ∧ (¬ l1 ≤ l0 → P 0 a r N))) : Sp G d 0 0 MX1_gain [.int l0, .int l1, .int l2] (a, r, N) (RI P) := Sp.mk (mc := 0) (ms := 0) [.int l0, .int l1, .int l2] rfl rfl rfl rfl (T_X1_gain_0 (C := 0) (S := 0) _ _ _ hs)
theorem dX1_findRests_0 : decode cX1_findRests 0 = .ok (.aload_n 0, 1) := by decide +kernel
theorem dX1_findRests_1 : decode cX1_findRests 1 = .ok (.iconst 0, 1) := by decide +kernel
theorem dX1_findRests_2 : decode cX1_findRests 2 = .ok (.putfield 18, 3) := by decide +kernel
theorem dX1_findRests_5 : decode cX1_findRests 5 = .ok (.aload_n 0, 1) := by decide +kernel
theorem dX1_findRests_6 : decode cX1_findRests 6 = .ok (.iconst (-1), 1) := by decide +kernel
theorem dX1_findRests_7 : decode cX1_findRests 7 = .ok (.putfield 22, 3) := by decide +kernel
theorem dX1_findRests_10 : decode cX1_findRests 10 = .ok (.aload_n 0, 1) := by decide +kernel
theorem dX1_findRests_11 : decode cX1_findRests 11 = .ok (.iconst 0, 1) := by decide +kernel
theorem dX1_findRests_12 : decode cX1_findRests 12 = .ok (.putfield 25, 3) := by decide +kernel
theorem dX1_findRests_15 : decode cX1_findRests 15 = .ok (.iconst 0, 1) := by decide +kernel
theorem dX1_findRests_16 : decode cX1_findRests 16 = .ok (.istore 4, 2) := by decide +kernel
theorem dX1_findRests_18 : decode cX1_findRests 18 = .ok (.iload 4, 2) := by decide +kernel
theorem dX1_findRests_20 : decode cX1_findRests 20 = .ok (.iload_n 1, 1) := by decide +kernel
theorem dX1_findRests_21 : decode cX1_findRests 21 = .ok (.if_icmp .gt 41, 3) := by decide +kernel
theorem dX1_findRests_24 : decode cX1_findRests 24 = .ok (.aload_n 0, 1) := by decide +kernel
theorem dX1_findRests_25 : decode cX1_findRests 25 = .ok (.getfield 9, 3) := by decide +kernel
theorem dX1_findRests_28 : decode cX1_findRests 28 = .ok (.iload 4, 2) := by decide +kernel
theorem dX1_findRests_30 : decode cX1_findRests 30 = .ok (.iload 4, 2) := by decide +kernel
theorem dX1_findRests_32 : decode cX1_findRests 32 = .ok (.iload_n 1, 1) := by decide +kernel
theorem dX1_findRests_33 : decode cX1_findRests 33 = .ok (.iload_n 2, 1) := by decide +kernel
theorem dX1_findRests_34 : decode cX1_findRests 34 = .ok (.invokestatic 28, 3) := by decide +kernel
theorem dX1_findRests_37 : decode cX1_findRests 37 = .ok (.invokestatic 32, 3) := by decide +kernel
theorem dX1_findRests_40 : decode cX1_findRests 40 = .ok (.aload_n 0, 1) := by decide +kernel
theorem dX1_findRests_41 : decode cX1_findRests 41 = .ok (.getfield 15, 3) := by decide +kernel
theorem dX1_findRests_44 : decode cX1_findRests 44 = .ok (.iload 4, 2) := by decide +kernel
theorem dX1_findRests_46 : decode cX1_findRests 46 = .ok (.iload 4, 2) := by decide +kernel
theorem dX1_findRests_48 : decode cX1_findRests 48 = .ok (.iload_n 1, 1) := by decide +kernel
theorem dX1_findRests_49 : decode cX1_findRests 49 = .ok (.iload_n 3, 1) := by decide +kernel
theorem dX1_findRests_50 : decode cX1_findRests 50 = .ok (.invokestatic 28, 3) := by decide +kernel
theorem dX1_findRests_53 : decode cX1_findRests 53 = .ok (.invokestatic 32, 3) := by decide +kernel
theorem dX1_findRests_56 : decode cX1_findRests 56 = .ok (.iinc 4 1, 3) := by decide +kernel
theorem dX1_findRests_59 : decode cX1_findRests 59 = .ok (.goto (-41), 3) := by decide +kernel
theorem dX1_findRests_62 : decode cX1_findRests 62 = .ok (.iconst 0, 1) := by decide +kernel
theorem dX1_findRests_63 : decode cX1_findRests 63 = .ok (.istore 4, 2) := by decide +kernel
theorem dX1_findRests_65 : decode cX1_findRests 65 = .ok (.iload 4, 2) := by decide +kernel
theorem dX1_findRests_67 : decode cX1_findRests 67 = .ok (.iload_n 1, 1) := by decide +kernel
theorem dX1_findRests_68 : decode cX1_findRests 68 = .ok (.if_icmp .gt 48, 3) := by decide +kernel
theorem dX1_findRests_71 : decode cX1_findRests 71 = .ok (.iconst 0, 1) := by decide +kernel
theorem dX1_findRests_72 : decode cX1_findRests 72 = .ok (.istore 5, 2) := by decide +kernel
theorem dX1_findRests_74 : decode cX1_findRests 74 = .ok (.iload 5, 2) := by decide +kernel
theorem dX1_findRests_76 : decode cX1_findRests 76 = .ok (.iload_n 1, 1) := by decide +kernel
theorem dX1_findRests_77 : decode cX1_findRests 77 = .ok (.if_icmp .gt 33, 3) := by decide +kernel
theorem dX1_findRests_80 : decode cX1_findRests 80 = .ok (.aload_n 0, 1) := by decide +kernel
theorem dX1_findRests_81 : decode cX1_findRests 81 = .ok (.iload 4, 2) := by decide +kernel
theorem dX1_findRests_83 : decode cX1_findRests 83 = .ok (.iload 5, 2) := by decide +kernel
theorem dX1_findRests_85 : decode cX1_findRests 85 = .ok (.iload 4, 2) := by decide +kernel
theorem dX1_findRests_87 : decode cX1_findRests 87 = .ok (.iload 5, 2) := by decide +kernel
theorem dX1_findRests_89 : decode cX1_findRests 89 = .ok (.iload_n 2, 1) := by decide +kernel
theorem dX1_findRests_90 : decode cX1_findRests 90 = .ok (.invokestatic 38, 3) := by decide +kernel
theorem dX1_findRests_93 : decode cX1_findRests 93 = .ok (.iload 5, 2) := by decide +kernel
theorem dX1_findRests_95 : decode cX1_findRests 95 = .ok (.iload 4, 2) := by decide +kernel
theorem dX1_findRests_97 : decode cX1_findRests 97 = .ok (.iload_n 3, 1) := by decide +kernel
theorem dX1_findRests_98 : decode cX1_findRests 98 = .ok (.invokestatic 38, 3) := by decide +kernel
theorem dX1_findRests_101 : decode cX1_findRests 101 = .ok (.invokevirtual 41, 3) := by decide +kernel
theorem dX1_findRests_104 : decode cX1_findRests 104 = .ok (.iinc 5 1, 3) := by decide +kernel
theorem dX1_findRests_107 : decode cX1_findRests 107 = .ok (.goto (-33), 3) := by decide +kernel
theorem dX1_findRests_110 : decode cX1_findRests 110 = .ok (.iinc 4 1, 3) := by decide +kernel
theorem dX1_findRests_113 : decode cX1_findRests 113 = .ok (.goto (-48), 3) := by decide +kernel
theorem dX1_findRests_116 : decode cX1_findRests 116 = .ok (.return_, 1) := by decide +kernel
set_option maxRecDepth 100000 in
theorem T_X1_findRests_0 {G : GE} {d C S : Nat} {P : KN} : Snd G MX1_findRests (d + 1) C S 0 (RN P) (s_aload 0 (s_iconst 0 (s_putI 1 2 (s_aload 0 (s_iconst (-1) (s_putI 1 3 (s_aload 0 (s_iconst 0 (s_putI 1 4 (s_iconst 0 (s_istore 4 (fun L st h => E G MX1_findRests (d + 1) C S 18 (msk [true, true, true, true, true, false] L) st h (RN P))))))))))))) := (e_aload_n dX1_findRests_0 rfl (e_iconst (v := 0) dX1_findRests_1 (by decide) (e_putI rfl cl_1 (by decide) rfl rfl rfl q_396 dX1_findRests_2 (e_aload_n dX1_findRests_5 rfl (e_iconst (v := (-1)) dX1_findRests_6 (by decide) (e_putI rfl cl_1 (by decide) rfl rfl rfl q_398 dX1_findRests_7 (e_aload_n dX1_findRests_10 rfl (e_iconst (v := 0) dX1_findRests_11 (by decide) (e_putI rfl cl_1 (by decide) rfl rfl rfl q_400 dX1_findRests_12 (e_iconst (v := 0) dX1_findRests_15 (by decide) (e_istore dX1_findRests_16 (by decide) (e_msk [true, true, true, true, true, false]))))))))))))
set_option maxRecDepth 100000 in
theorem V_X1_findRests_0 {G : GE} {d : Nat} {P : KN} {a : Nat → Nat → Int32} {r : Nat → Nat → Value} {N : Nat} {l0 : Nat} {l1 : Int32} {l2 : Int32} {l3 : Int32} (hs : (tyK l0 = (0, 1) ∧ l0 < N ∧ ∀ a1, a1 = u2 a l0 2 0 → (tyK l0 = (0, 1) ∧ l0 < N ∧ ∀ a2, a2 = u2 a1 l0 3 (-1) → (tyK l0 = (0, 1) ∧ l0 < N ∧ ∀ a3, a3 = u2 a2 l0 4 0 → E G MX1_findRests (d + 1) 0 0 18 [.ref l0, .int l1, .int l2, .int l3, .int 0, .null] [] (a3, r, N) (RN P))))) : Sp G (d + 1) 0 0 MX1_findRests [.ref l0, .int l1, .int l2, .int l3] (a, r, N) (RN P) := Sp.mk (mc := 0) (ms := 0) [.ref l0, .int l1, .int l2, .int l3, .null, .null] rfl rfl rfl rfl (T_X1_findRests_0 (C := 0) (S := 0) _ _ _ hs)
set_option maxRecDepth 100000 in
theorem T_X1_findRests_18 {G : GE} {d C S : Nat} {P : KN} : Snd G MX1_findRests (d + 1) C S 18 (RN P) (s_iload 4 (s_iload 1 (s_ic_gt (s_iconst 0 (s_istore 4 (fun L st h => E G MX1_findRests (d + 1) C S 65 (msk [true, true, true, true, true, false] L) st h (RN P)))) (s_aload 0 (s_getR 1 0 (s_iload 4 (s_iload 4 (s_iload 1 (s_iload 2 (s_call G d MX1_bestAgainst 3 (s_call G d MX9_put 3 (s_aload 0 (s_getR 1 1 (s_iload 4 (s_iload 4 (s_iload 1 (s_iload 3 (s_call G d MX1_bestAgainst 3 (s_call G d MX9_put 3 (s_iinc 4 1 (fun L st h => E G MX1_findRests (d + 1) C S 18 (msk [true, true, true, true, true, false] L) st h (RN P)))))))))))))))))))))) := (e_iload dX1_findRests_18 (e_iload_n dX1_findRests_20 rfl (e_ic_gt (tgt := 62) dX1_findRests_21 (by decide) (e_iconst (v := 0) dX1_findRests_62 (by decide) (e_istore dX1_findRests_63 (by decide) (e_msk [true, true, true, true, true, false]))) (e_aload_n dX1_findRests_24 rfl (e_getR rfl cl_1 (by decide) rfl q_394 dX1_findRests_25 (e_iload dX1_findRests_28 (e_iload dX1_findRests_30 (e_iload_n dX1_findRests_32 rfl (e_iload_n dX1_findRests_33 rfl (e_callS cal_X1_bestAgainst q_1477 q_1478 dX1_findRests_34 (e_callS cal_X9_put q_1484 q_419 dX1_findRests_37 (e_aload_n dX1_findRests_40 rfl (e_getR rfl cl_1 (by decide) rfl q_395 dX1_findRests_41 (e_iload dX1_findRests_44 (e_iload dX1_findRests_46 (e_iload_n dX1_findRests_48 rfl (e_iload_n dX1_findRests_49 rfl (e_callS cal_X1_bestAgainst q_1477 q_1478 dX1_findRests_50 (e_callS cal_X9_put q_1484 q_419 dX1_findRests_53 (e_iinc (v := 1) dX1_findRests_56 (by decide) (by decide) (e_goto (tgt := 18) dX1_findRests_59 (by decide) (e_msk [true, true, true, true, true, false]))))))))))))))))))))))
set_option maxRecDepth 100000 in
theorem V_X1_findRests_18 {G : GE} {d C S : Nat} {P : KN} {a : Nat → Nat → Int32} {r : Nat → Nat → Value} {N : Nat} {l0 : Nat} {l1 : Int32} {l2 : Int32} {l3 : Int32} {l4 : Int32} (hs : ((l1 < l4 → E G MX1_findRests (d + 1) C S 65 [.ref l0, .int l1, .int l2, .int l3, .int 0, .null] [] (a, r, N) (RN P)) ∧ (¬ l1 < l4 → (tyK l0 = (0, 1) ∧ l0 < N ∧ ∃ q1, r l0 0 = .ref q1 ∧ Sp G d 0 0 MX1_bestAgainst [.int l4, .int l1, .int l2] (a, r, N) (RI fun v5 a2 r3 n4 => Sp G d 0 0 MX9_put [.ref q1, .int l4, .int v5] (a2, r3, n4) (RN fun a6 r7 n8 => (tyK l0 = (0, 1) ∧ l0 < n8 ∧ ∃ q9, r7 l0 1 = .ref q9 ∧ Sp G d 0 0 MX1_bestAgainst [.int l4, .int l1, .int l3] (a6, r7, n8) (RI fun v13 a10 r11 n12 => Sp G d 0 0 MX9_put [.ref q9, .int l4, .int v13] (a10, r11, n12) (RN fun a14 r15 n16 => E G MX1_findRests (d + 1) C S 18 [.ref l0, .int l1, .int l2, .int l3, .int (l4 + 1), .null] [] (a14, r15, n16) (RN P)))))))))) : E G MX1_findRests (d + 1) C S 18 [.ref l0, .int l1, .int l2, .int l3, .int l4, .null] [] (a, r, N) (RN P) := T_X1_findRests_18 _ _ _ hs
set_option maxRecDepth 100000 in
theorem T_X1_findRests_65 {G : GE} {d C S : Nat} {P : KN} : Snd G MX1_findRests (d + 1) C S 65 (RN P) (s_iload 4 (s_iload 1 (s_ic_gt (s_return P) (s_iconst 0 (s_istore 5 (fun L st h => E G MX1_findRests (d + 1) C S 74 (msk [true, true, true, true, true, true] L) st h (RN P))))))) := (e_iload dX1_findRests_65 (e_iload_n dX1_findRests_67 rfl (e_ic_gt (tgt := 116) dX1_findRests_68 (by decide) (e_return rfl dX1_findRests_116) (e_iconst (v := 0) dX1_findRests_71 (by decide) (e_istore dX1_findRests_72 (by decide) (e_msk [true, true, true, true, true, true]))))))
set_option maxRecDepth 100000 in
theorem V_X1_findRests_65 {G : GE} {d C S : Nat} {P : KN} {a : Nat → Nat → Int32} {r : Nat → Nat → Value} {N : Nat} {l0 : Nat} {l1 : Int32} {l2 : Int32} {l3 : Int32} {l4 : Int32} (hs : ((l1 < l4 → P a r N) ∧ (¬ l1 < l4 → E G MX1_findRests (d + 1) C S 74 [.ref l0, .int l1, .int l2, .int l3, .int l4, .int 0] [] (a, r, N) (RN P)))) : E G MX1_findRests (d + 1) C S 65 [.ref l0, .int l1, .int l2, .int l3, .int l4, .null] [] (a, r, N) (RN P) := T_X1_findRests_65 _ _ _ hs
set_option maxRecDepth 100000 in
theorem T_X1_findRests_74 {G : GE} {d C S : Nat} {P : KN} : Snd G MX1_findRests (d + 1) C S 74 (RN P) (s_iload 5 (s_iload 1 (s_ic_gt (s_iinc 4 1 (fun L st h => E G MX1_findRests (d + 1) C S 65 (msk [true, true, true, true, true, false] L) st h (RN P))) (s_aload 0 (s_iload 4 (s_iload 5 (s_iload 4 (s_iload 5 (s_iload 2 (s_call G d MX1_gain 3 (s_iload 5 (s_iload 4 (s_iload 3 (s_call G d MX1_gain 3 (s_callV G d MX1_weigh 4 1 (s_iinc 5 1 (fun L st h => E G MX1_findRests (d + 1) C S 74 (msk [true, true, true, true, true, true] L) st h (RN P)))))))))))))))))) := (e_iload dX1_findRests_74 (e_iload_n dX1_findRests_76 rfl (e_ic_gt (tgt := 110) dX1_findRests_77 (by decide) (e_iinc (v := 1) dX1_findRests_110 (by decide) (by decide) (e_goto (tgt := 65) dX1_findRests_113 (by decide) (e_msk [true, true, true, true, true, false]))) (e_aload_n dX1_findRests_80 rfl (e_iload dX1_findRests_81 (e_iload dX1_findRests_83 (e_iload dX1_findRests_85 (e_iload dX1_findRests_87 (e_iload_n dX1_findRests_89 rfl (e_callS cal_X1_gain q_1480 q_1481 dX1_findRests_90 (e_iload dX1_findRests_93 (e_iload dX1_findRests_95 (e_iload_n dX1_findRests_97 rfl (e_callS cal_X1_gain q_1480 q_1481 dX1_findRests_98 (e_callV cl_1 cal_X1_weigh q_1485 q_1487 q_48 dX1_findRests_101 (e_iinc (v := 1) dX1_findRests_104 (by decide) (by decide) (e_goto (tgt := 74) dX1_findRests_107 (by decide) (e_msk [true, true, true, true, true, true]))))))))))))))))))
set_option maxRecDepth 100000 in
theorem V_X1_findRests_74 {G : GE} {d C S : Nat} {P : KN} {a : Nat → Nat → Int32} {r : Nat → Nat → Value} {N : Nat} {l0 : Nat} {l1 : Int32} {l2 : Int32} {l3 : Int32} {l4 : Int32} {l5 : Int32} (hs : ((l1 < l5 → E G MX1_findRests (d + 1) C S 65 [.ref l0, .int l1, .int l2, .int l3, .int (l4 + 1), .null] [] (a, r, N) (RN P)) ∧ (¬ l1 < l5 → Sp G d 0 0 MX1_gain [.int l4, .int l5, .int l2] (a, r, N) (RI fun v4 a1 r2 n3 => Sp G d 0 0 MX1_gain [.int l5, .int l4, .int l3] (a1, r2, n3) (RI fun v8 a5 r6 n7 => (tyK l0 = (0, 1) ∧ l0 < n7 ∧ Sp G d 0 0 MX1_weigh [.ref l0, .int l4, .int l5, .int v4, .int v8] (a5, r6, n7) (RN fun a9 r10 n11 => E G MX1_findRests (d + 1) C S 74 [.ref l0, .int l1, .int l2, .int l3, .int l4, .int (l5 + 1)] [] (a9, r10, n11) (RN P)))))))) : E G MX1_findRests (d + 1) C S 74 [.ref l0, .int l1, .int l2, .int l3, .int l4, .int l5] [] (a, r, N) (RN P) := T_X1_findRests_74 _ _ _ hs
theorem dX1_bestAgainst_0 : decode cX1_bestAgainst 0 = .ok (.iconst 0, 1) := by decide +kernel
theorem dX1_bestAgainst_1 : decode cX1_bestAgainst 1 = .ok (.iload_n 0, 1) := by decide +kernel
theorem dX1_bestAgainst_2 : decode cX1_bestAgainst 2 = .ok (.iload_n 2, 1) := by decide +kernel
theorem dX1_bestAgainst_3 : decode cX1_bestAgainst 3 = .ok (.invokestatic 38, 3) := by decide +kernel
theorem dX1_bestAgainst_6 : decode cX1_bestAgainst 6 = .ok (.istore_n 3, 1) := by decide +kernel
theorem dX1_bestAgainst_7 : decode cX1_bestAgainst 7 = .ok (.iconst 1, 1) := by decide +kernel
theorem dX1_bestAgainst_8 : decode cX1_bestAgainst 8 = .ok (.istore 4, 2) := by decide +kernel
theorem dX1_bestAgainst_10 : decode cX1_bestAgainst 10 = .ok (.iload 4, 2) := by decide +kernel
theorem dX1_bestAgainst_12 : decode cX1_bestAgainst 12 = .ok (.iload_n 1, 1) := by decide +kernel
theorem dX1_bestAgainst_13 : decode cX1_bestAgainst 13 = .ok (.if_icmp .gt 21, 3) := by decide +kernel
theorem dX1_bestAgainst_16 : decode cX1_bestAgainst 16 = .ok (.iload_n 3, 1) := by decide +kernel
theorem dX1_bestAgainst_17 : decode cX1_bestAgainst 17 = .ok (.iload 4, 2) := by decide +kernel
theorem dX1_bestAgainst_19 : decode cX1_bestAgainst 19 = .ok (.iload_n 0, 1) := by decide +kernel
theorem dX1_bestAgainst_20 : decode cX1_bestAgainst 20 = .ok (.iload_n 2, 1) := by decide +kernel
theorem dX1_bestAgainst_21 : decode cX1_bestAgainst 21 = .ok (.invokestatic 38, 3) := by decide +kernel
theorem dX1_bestAgainst_24 : decode cX1_bestAgainst 24 = .ok (.invokestatic 45, 3) := by decide +kernel
theorem dX1_bestAgainst_27 : decode cX1_bestAgainst 27 = .ok (.istore_n 3, 1) := by decide +kernel
theorem dX1_bestAgainst_28 : decode cX1_bestAgainst 28 = .ok (.iinc 4 1, 3) := by decide +kernel
theorem dX1_bestAgainst_31 : decode cX1_bestAgainst 31 = .ok (.goto (-21), 3) := by decide +kernel
theorem dX1_bestAgainst_34 : decode cX1_bestAgainst 34 = .ok (.iload_n 3, 1) := by decide +kernel
theorem dX1_bestAgainst_35 : decode cX1_bestAgainst 35 = .ok (.ireturn, 1) := by decide +kernel
set_option maxRecDepth 100000 in
theorem T_X1_bestAgainst_0 {G : GE} {d C S : Nat} {P : KI} : Snd G MX1_bestAgainst (d + 1) C S 0 (RI P) (s_iconst 0 (s_iload 0 (s_iload 2 (s_call G d MX1_gain 3 (s_istore 3 (s_iconst 1 (s_istore 4 (fun L st h => E G MX1_bestAgainst (d + 1) C S 10 (msk [true, true, true, true, true] L) st h (RI P))))))))) := (e_iconst (v := 0) dX1_bestAgainst_0 (by decide) (e_iload_n dX1_bestAgainst_1 rfl (e_iload_n dX1_bestAgainst_2 rfl (e_callS cal_X1_gain q_1480 q_1481 dX1_bestAgainst_3 (e_istore_n dX1_bestAgainst_6 rfl (by decide) (e_iconst (v := 1) dX1_bestAgainst_7 (by decide) (e_istore dX1_bestAgainst_8 (by decide) (e_msk [true, true, true, true, true]))))))))
set_option maxRecDepth 100000 in
theorem V_X1_bestAgainst_0 {G : GE} {d : Nat} {P : KI} {a : Nat → Nat → Int32} {r : Nat → Nat → Value} {N : Nat} {l0 : Int32} {l1 : Int32} {l2 : Int32} (hs : Sp G d 0 0 MX1_gain [.int 0, .int l0, .int l2] (a, r, N) (RI fun v4 a1 r2 n3 => E G MX1_bestAgainst (d + 1) 0 0 10 [.int l0, .int l1, .int l2, .int v4, .int 1] [] (a1, r2, n3) (RI P))) : Sp G (d + 1) 0 0 MX1_bestAgainst [.int l0, .int l1, .int l2] (a, r, N) (RI P) := Sp.mk (mc := 0) (ms := 0) [.int l0, .int l1, .int l2, .null, .null] rfl rfl rfl rfl (T_X1_bestAgainst_0 (C := 0) (S := 0) _ _ _ hs)
set_option maxRecDepth 100000 in
theorem T_X1_bestAgainst_10 {G : GE} {d C S : Nat} {P : KI} : Snd G MX1_bestAgainst (d + 1) C S 10 (RI P) (s_iload 4 (s_iload 1 (s_ic_gt (s_iload 3 (s_ireturn P)) (s_iload 3 (s_iload 4 (s_iload 0 (s_iload 2 (s_call G d MX1_gain 3 (s_max (s_istore 3 (s_iinc 4 1 (fun L st h => E G MX1_bestAgainst (d + 1) C S 10 (msk [true, true, true, true, true] L) st h (RI P))))))))))))) := (e_iload dX1_bestAgainst_10 (e_iload_n dX1_bestAgainst_12 rfl (e_ic_gt (tgt := 34) dX1_bestAgainst_13 (by decide) (e_iload_n dX1_bestAgainst_34 rfl (e_ireturn rfl dX1_bestAgainst_35)) (e_iload_n dX1_bestAgainst_16 rfl (e_iload dX1_bestAgainst_17 (e_iload_n dX1_bestAgainst_19 rfl (e_iload_n dX1_bestAgainst_20 rfl (e_callS cal_X1_gain q_1480 q_1481 dX1_bestAgainst_21 (e_max q_1483 q_555 q_127 q_556 dX1_bestAgainst_24 (e_istore_n dX1_bestAgainst_27 rfl (by decide) (e_iinc (v := 1) dX1_bestAgainst_28 (by decide) (by decide) (e_goto (tgt := 10) dX1_bestAgainst_31 (by decide) (e_msk [true, true, true, true, true])))))))))))))
set_option maxRecDepth 100000 in
theorem V_X1_bestAgainst_10 {G : GE} {d C S : Nat} {P : KI} {a : Nat → Nat → Int32} {r : Nat → Nat → Value} {N : Nat} {l0 : Int32} {l1 : Int32} {l2 : Int32} {l3 : Int32} {l4 : Int32} (hs : ((l1 < l4 → P l3 a r N) ∧ (¬ l1 < l4 → Sp G d 0 0 MX1_gain [.int l4, .int l0, .int l2] (a, r, N) (RI fun v4 a1 r2 n3 => E G MX1_bestAgainst (d + 1) C S 10 [.int l0, .int l1, .int l2, .int (if (l3 : Int32) < v4 then v4 else l3), .int (l4 + 1)] [] (a1, r2, n3) (RI P))))) : E G MX1_bestAgainst (d + 1) C S 10 [.int l0, .int l1, .int l2, .int l3, .int l4] [] (a, r, N) (RI P) := T_X1_bestAgainst_10 _ _ _ hs
theorem dX1_weigh_0 : decode cX1_weigh 0 = .ok (.iload_n 3, 1) := by decide +kernel
theorem dX1_weigh_1 : decode cX1_weigh 1 = .ok (.aload_n 0, 1) := by decide +kernel
theorem dX1_weigh_2 : decode cX1_weigh 2 = .ok (.getfield 9, 3) := by decide +kernel
theorem dX1_weigh_5 : decode cX1_weigh 5 = .ok (.iload_n 2, 1) := by decide +kernel
theorem dX1_weigh_6 : decode cX1_weigh 6 = .ok (.invokestatic 51, 3) := by decide +kernel
theorem dX1_weigh_9 : decode cX1_weigh 9 = .ok (.if_icmp .lt 16, 3) := by decide +kernel
theorem dX1_weigh_12 : decode cX1_weigh 12 = .ok (.iload 4, 2) := by decide +kernel
theorem dX1_weigh_14 : decode cX1_weigh 14 = .ok (.aload_n 0, 1) := by decide +kernel
theorem dX1_weigh_15 : decode cX1_weigh 15 = .ok (.getfield 15, 3) := by decide +kernel
theorem dX1_weigh_18 : decode cX1_weigh 18 = .ok (.iload_n 1, 1) := by decide +kernel
theorem dX1_weigh_19 : decode cX1_weigh 19 = .ok (.invokestatic 51, 3) := by decide +kernel
theorem dX1_weigh_22 : decode cX1_weigh 22 = .ok (.if_icmp .ge 4, 3) := by decide +kernel
theorem dX1_weigh_25 : decode cX1_weigh 25 = .ok (.return_, 1) := by decide +kernel
theorem dX1_weigh_26 : decode cX1_weigh 26 = .ok (.aload_n 0, 1) := by decide +kernel
theorem dX1_weigh_27 : decode cX1_weigh 27 = .ok (.getfield 18, 3) := by decide +kernel
theorem dX1_weigh_30 : decode cX1_weigh 30 = .ok (.ifCond .ne 21, 3) := by decide +kernel
theorem dX1_weigh_33 : decode cX1_weigh 33 = .ok (.aload_n 0, 1) := by decide +kernel
theorem dX1_weigh_34 : decode cX1_weigh 34 = .ok (.bipush 100, 2) := by decide +kernel
theorem dX1_weigh_36 : decode cX1_weigh 36 = .ok (.iload_n 1, 1) := by decide +kernel
theorem dX1_weigh_37 : decode cX1_weigh 37 = .ok (.imul, 1) := by decide +kernel
theorem dX1_weigh_38 : decode cX1_weigh 38 = .ok (.iload_n 2, 1) := by decide +kernel
theorem dX1_weigh_39 : decode cX1_weigh 39 = .ok (.iadd, 1) := by decide +kernel
theorem dX1_weigh_40 : decode cX1_weigh 40 = .ok (.putfield 22, 3) := by decide +kernel
theorem dX1_weigh_43 : decode cX1_weigh 43 = .ok (.aload_n 0, 1) := by decide +kernel
theorem dX1_weigh_44 : decode cX1_weigh 44 = .ok (.iload_n 3, 1) := by decide +kernel
theorem dX1_weigh_45 : decode cX1_weigh 45 = .ok (.iload 4, 2) := by decide +kernel
theorem dX1_weigh_47 : decode cX1_weigh 47 = .ok (.iadd, 1) := by decide +kernel
theorem dX1_weigh_48 : decode cX1_weigh 48 = .ok (.putfield 25, 3) := by decide +kernel
theorem dX1_weigh_51 : decode cX1_weigh 51 = .ok (.aload_n 0, 1) := by decide +kernel
theorem dX1_weigh_52 : decode cX1_weigh 52 = .ok (.dup, 1) := by decide +kernel
theorem dX1_weigh_53 : decode cX1_weigh 53 = .ok (.getfield 18, 3) := by decide +kernel
theorem dX1_weigh_56 : decode cX1_weigh 56 = .ok (.iconst 1, 1) := by decide +kernel
theorem dX1_weigh_57 : decode cX1_weigh 57 = .ok (.iadd, 1) := by decide +kernel
theorem dX1_weigh_58 : decode cX1_weigh 58 = .ok (.putfield 18, 3) := by decide +kernel
theorem dX1_weigh_61 : decode cX1_weigh 61 = .ok (.return_, 1) := by decide +kernel
set_option maxRecDepth 100000 in
theorem T_X1_weigh_0 {G : GE} {d C S : Nat} {P : KN} : Snd G MX1_weigh (d + 1) C S 0 (RN P) (s_iload 3 (s_aload 0 (s_getR 1 0 (s_iload 2 (s_call G d MX9_at 2 (s_ic_lt (s_return P) (s_iload 4 (s_aload 0 (s_getR 1 1 (s_iload 1 (s_call G d MX9_at 2 (s_ic_ge (s_aload 0 (s_getI 1 2 (s_if_ne (s_aload 0 (s_dup (s_getI 1 2 (s_iconst 1 (s_iadd (s_putI 1 2 (s_return P))))))) (s_aload 0 (s_iconst 100 (s_iload 1 (s_imul (s_iload 2 (s_iadd (s_putI 1 3 (s_aload 0 (s_iload 3 (s_iload 4 (s_iadd (s_putI 1 4 (s_aload 0 (s_dup (s_getI 1 2 (s_iconst 1 (s_iadd (s_putI 1 2 (s_return P)))))))))))))))))))))) (s_return P))))))))))))) := (e_iload_n dX1_weigh_0 rfl (e_aload_n dX1_weigh_1 rfl (e_getR rfl cl_1 (by decide) rfl q_394 dX1_weigh_2 (e_iload_n dX1_weigh_5 rfl (e_callS cal_X9_at q_1489 q_426 dX1_weigh_6 (e_ic_lt (tgt := 25) dX1_weigh_9 (by decide) (e_return rfl dX1_weigh_25) (e_iload dX1_weigh_12 (e_aload_n dX1_weigh_14 rfl (e_getR rfl cl_1 (by decide) rfl q_395 dX1_weigh_15 (e_iload_n dX1_weigh_18 rfl (e_callS cal_X9_at q_1489 q_426 dX1_weigh_19 (e_ic_ge (tgt := 26) dX1_weigh_22 (by decide) (e_aload_n dX1_weigh_26 rfl (e_getI rfl cl_1 (by decide) rfl q_396 dX1_weigh_27 (e_if_ne (tgt := 51) dX1_weigh_30 (by decide) (e_aload_n dX1_weigh_51 rfl (e_dup dX1_weigh_52 (e_getI rfl cl_1 (by decide) rfl q_396 dX1_weigh_53 (e_iconst (v := 1) dX1_weigh_56 (by decide) (e_iadd dX1_weigh_57 (e_putI rfl cl_1 (by decide) rfl rfl rfl q_396 dX1_weigh_58 (e_return rfl dX1_weigh_61))))))) (e_aload_n dX1_weigh_33 rfl (e_bipush (v := 100) dX1_weigh_34 (by decide) (e_iload_n dX1_weigh_36 rfl (e_imul dX1_weigh_37 (e_iload_n dX1_weigh_38 rfl (e_iadd dX1_weigh_39 (e_putI rfl cl_1 (by decide) rfl rfl rfl q_398 dX1_weigh_40 (e_aload_n dX1_weigh_43 rfl (e_iload_n dX1_weigh_44 rfl (e_iload dX1_weigh_45 (e_iadd dX1_weigh_47 (e_putI rfl cl_1 (by decide) rfl rfl rfl q_400 dX1_weigh_48 (e_aload_n dX1_weigh_51 rfl (e_dup dX1_weigh_52 (e_getI rfl cl_1 (by decide) rfl q_396 dX1_weigh_53 (e_iconst (v := 1) dX1_weigh_56 (by decide) (e_iadd dX1_weigh_57 (e_putI rfl cl_1 (by decide) rfl rfl rfl q_396 dX1_weigh_58 (e_return rfl dX1_weigh_61)))))))))))))))))))))) (e_return rfl dX1_weigh_25)))))))))))))
set_option maxRecDepth 100000 in
theorem V_X1_weigh_0 {G : GE} {d : Nat} {P : KN} {a : Nat → Nat → Int32} {r : Nat → Nat → Value} {N : Nat} {l0 : Nat} {l1 : Int32} {l2 : Int32} {l3 : Int32} {l4 : Int32} (hs : (tyK l0 = (0, 1) ∧ l0 < N ∧ ∃ q1, r l0 0 = .ref q1 ∧ Sp G d 0 0 MX9_at [.ref q1, .int l2] (a, r, N) (RI fun v5 a2 r3 n4 => ((l3 < v5 → P a2 r3 n4) ∧ (¬ l3 < v5 → (tyK l0 = (0, 1) ∧ l0 < n4 ∧ ∃ q6, r3 l0 1 = .ref q6 ∧ Sp G d 0 0 MX9_at [.ref q6, .int l1] (a2, r3, n4) (RI fun v10 a7 r8 n9 => ((v10 ≤ l4 → (tyK l0 = (0, 1) ∧ l0 < n9 ∧ ((¬ (a7 l0 2) = 0 → (tyK l0 = (0, 1) ∧ l0 < n9 ∧ (tyK l0 = (0, 1) ∧ l0 < n9 ∧ ∀ a11, a11 = u2 a7 l0 2 ((a7 l0 2) + 1) → P a11 r8 n9))) ∧ ((a7 l0 2) = 0 → (tyK l0 = (0, 1) ∧ l0 < n9 ∧ ∀ a12, a12 = u2 a7 l0 3 (((100 : Int32) * l1) + l2) → (tyK l0 = (0, 1) ∧ l0 < n9 ∧ ∀ a13, a13 = u2 a12 l0 4 (l3 + l4) → (tyK l0 = (0, 1) ∧ l0 < n9 ∧ (tyK l0 = (0, 1) ∧ l0 < n9 ∧ ∀ a14, a14 = u2 a13 l0 2 ((a13 l0 2) + 1) → P a14 r8 n9)))))))) ∧ (¬ v10 ≤ l4 → P a7 r8 n9))))))))) : Sp G (d + 1) 0 0 MX1_weigh [.ref l0, .int l1, .int l2, .int l3, .int l4] (a, r, N) (RN P) := Sp.mk (mc := 0) (ms := 0) [.ref l0, .int l1, .int l2, .int l3, .int l4] rfl rfl rfl rfl (T_X1_weigh_0 (C := 0) (S := 0) _ _ _ hs)
