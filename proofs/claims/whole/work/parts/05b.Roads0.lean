theorem dX8_init_0 : decode cX8_init 0 = .ok (.aload_n 0, 1) := by decide +kernel
theorem dX8_init_1 : decode cX8_init 1 = .ok (.invokespecial 3, 3) := by decide +kernel
theorem dX8_init_4 : decode cX8_init 4 = .ok (.aload_n 0, 1) := by decide +kernel
theorem dX8_init_5 : decode cX8_init 5 = .ok (.bipush 10, 2) := by decide +kernel
theorem dX8_init_7 : decode cX8_init 7 = .ok (.newarray .int, 2) := by decide +kernel
theorem dX8_init_9 : decode cX8_init 9 = .ok (.putfield 11, 3) := by decide +kernel
theorem dX8_init_12 : decode cX8_init 12 = .ok (.return_, 1) := by decide +kernel
set_option maxRecDepth 100000 in
theorem T_X8_init_0 {G : GE} {d C S : Nat} {P : KN} : Snd G MX8_init (d + 1) (C + 1) (S + 10) 0 (RN P) (s_aload 0 (s_objInit (s_aload 0 (s_iconst 10 (fun L st h => p1 st (fun x _ => x.toNatClampNeg = 10) ∧ s_newI (s_putR 8 0 (s_return P)) L st h))))) := (e_aload_n dX8_init_0 rfl (e_objInit q_380 q_141 q_142 dX8_init_1 (e_aload_n dX8_init_4 rfl (e_bipush (v := 10) dX8_init_5 (by decide) (e_newI (N := 10) q_252 (by decide) dX8_init_7 (e_putRF (ty := .array .int) rfl rfl cl_8 (by decide) rfl rfl rfl (by decide +kernel) (fun _ => ⟨rfl, rfl⟩) q_381 dX8_init_9 (e_return rfl dX8_init_12)))))))
set_option maxRecDepth 100000 in
theorem V_X8_init_0 {G : GE} {d : Nat} {P : KN} {a : Nat → Nat → Int32} {r : Nat → Nat → Value} {N : Nat} {l0 : Nat} (hs : ((10 : Int32).toNatClampNeg = 10 ∧ N < nK ∧ tyK N = (1, (10 : Int32).toNatClampNeg) ∧ ¬ (10 : Int32) < 0 ∧ (∀ j, a N j = 0) ∧ (tyK l0 = (0, 8) ∧ l0 < (N + 1) ∧ ∀ r1, r1 = u2V r l0 0 (.ref N) → P a r1 (N + 1)))) : Sp G (d + 1) 1 10 MX8_init [.ref l0] (a, r, N) (RN P) := Sp.mk (mc := (0 + 1)) (ms := (0 + 10)) [.ref l0] rfl rfl rfl rfl (T_X8_init_0 (C := 0) (S := 0) _ _ _ hs)
theorem dX8_spread_0 : decode cX8_spread 0 = .ok (.aload_n 0, 1) := by decide +kernel
theorem dX8_spread_1 : decode cX8_spread 1 = .ok (.getfield 11, 3) := by decide +kernel
theorem dX8_spread_4 : decode cX8_spread 4 = .ok (.ldc 17, 2) := by decide +kernel
theorem dX8_spread_6 : decode cX8_spread 6 = .ok (.invokestatic 18, 3) := by decide +kernel
theorem dX8_spread_9 : decode cX8_spread 9 = .ok (.aload_n 0, 1) := by decide +kernel
theorem dX8_spread_10 : decode cX8_spread 10 = .ok (.getfield 11, 3) := by decide +kernel
theorem dX8_spread_13 : decode cX8_spread 13 = .ok (.iload_n 2, 1) := by decide +kernel
theorem dX8_spread_14 : decode cX8_spread 14 = .ok (.iconst 0, 1) := by decide +kernel
theorem dX8_spread_15 : decode cX8_spread 15 = .ok (.invokestatic 24, 3) := by decide +kernel
theorem dX8_spread_18 : decode cX8_spread 18 = .ok (.iconst 1, 1) := by decide +kernel
theorem dX8_spread_19 : decode cX8_spread 19 = .ok (.istore 4, 2) := by decide +kernel
theorem dX8_spread_21 : decode cX8_spread 21 = .ok (.iload 4, 2) := by decide +kernel
theorem dX8_spread_23 : decode cX8_spread 23 = .ok (.aload_n 1, 1) := by decide +kernel
theorem dX8_spread_24 : decode cX8_spread 24 = .ok (.getfield 28, 3) := by decide +kernel
theorem dX8_spread_27 : decode cX8_spread 27 = .ok (.if_icmp .ge 77, 3) := by decide +kernel
theorem dX8_spread_30 : decode cX8_spread 30 = .ok (.iconst 0, 1) := by decide +kernel
theorem dX8_spread_31 : decode cX8_spread 31 = .ok (.istore 5, 2) := by decide +kernel
theorem dX8_spread_33 : decode cX8_spread 33 = .ok (.iload 5, 2) := by decide +kernel
theorem dX8_spread_35 : decode cX8_spread 35 = .ok (.aload_n 1, 1) := by decide +kernel
theorem dX8_spread_36 : decode cX8_spread 36 = .ok (.getfield 32, 3) := by decide +kernel
theorem dX8_spread_39 : decode cX8_spread 39 = .ok (.if_icmp .ge 59, 3) := by decide +kernel
theorem dX8_spread_42 : decode cX8_spread 42 = .ok (.iload 5, 2) := by decide +kernel
theorem dX8_spread_44 : decode cX8_spread 44 = .ok (.iload_n 3, 1) := by decide +kernel
theorem dX8_spread_45 : decode cX8_spread 45 = .ok (.if_icmp .eq 47, 3) := by decide +kernel
theorem dX8_spread_48 : decode cX8_spread 48 = .ok (.aload_n 0, 1) := by decide +kernel
theorem dX8_spread_49 : decode cX8_spread 49 = .ok (.aload_n 1, 1) := by decide +kernel
theorem dX8_spread_50 : decode cX8_spread 50 = .ok (.iload 5, 2) := by decide +kernel
theorem dX8_spread_52 : decode cX8_spread 52 = .ok (.invokevirtual 35, 3) := by decide +kernel
theorem dX8_spread_55 : decode cX8_spread 55 = .ok (.aload_n 1, 1) := by decide +kernel
theorem dX8_spread_56 : decode cX8_spread 56 = .ok (.iload 5, 2) := by decide +kernel
theorem dX8_spread_58 : decode cX8_spread 58 = .ok (.invokevirtual 39, 3) := by decide +kernel
theorem dX8_spread_61 : decode cX8_spread 61 = .ok (.aload_n 1, 1) := by decide +kernel
theorem dX8_spread_62 : decode cX8_spread 62 = .ok (.iload 5, 2) := by decide +kernel
theorem dX8_spread_64 : decode cX8_spread 64 = .ok (.invokevirtual 42, 3) := by decide +kernel
theorem dX8_spread_67 : decode cX8_spread 67 = .ok (.invokevirtual 45, 3) := by decide +kernel
theorem dX8_spread_70 : decode cX8_spread 70 = .ok (.aload_n 0, 1) := by decide +kernel
theorem dX8_spread_71 : decode cX8_spread 71 = .ok (.aload_n 1, 1) := by decide +kernel
theorem dX8_spread_72 : decode cX8_spread 72 = .ok (.iload 5, 2) := by decide +kernel
theorem dX8_spread_74 : decode cX8_spread 74 = .ok (.invokevirtual 39, 3) := by decide +kernel
theorem dX8_spread_77 : decode cX8_spread 77 = .ok (.aload_n 1, 1) := by decide +kernel
theorem dX8_spread_78 : decode cX8_spread 78 = .ok (.iload 5, 2) := by decide +kernel
theorem dX8_spread_80 : decode cX8_spread 80 = .ok (.invokevirtual 35, 3) := by decide +kernel
theorem dX8_spread_83 : decode cX8_spread 83 = .ok (.aload_n 1, 1) := by decide +kernel
theorem dX8_spread_84 : decode cX8_spread 84 = .ok (.iload 5, 2) := by decide +kernel
theorem dX8_spread_86 : decode cX8_spread 86 = .ok (.invokevirtual 42, 3) := by decide +kernel
theorem dX8_spread_89 : decode cX8_spread 89 = .ok (.invokevirtual 45, 3) := by decide +kernel
theorem dX8_spread_92 : decode cX8_spread 92 = .ok (.iinc 5 1, 3) := by decide +kernel
theorem dX8_spread_95 : decode cX8_spread 95 = .ok (.goto (-62), 3) := by decide +kernel
theorem dX8_spread_98 : decode cX8_spread 98 = .ok (.iinc 4 1, 3) := by decide +kernel
theorem dX8_spread_101 : decode cX8_spread 101 = .ok (.goto (-80), 3) := by decide +kernel
theorem dX8_spread_104 : decode cX8_spread 104 = .ok (.return_, 1) := by decide +kernel
set_option maxRecDepth 100000 in
theorem T_X8_spread_0 {G : GE} {d C S : Nat} {P : KN} : Snd G MX8_spread (d + 1) C S 0 (RN P) (s_aload 0 (s_getR 8 0 (s_iconst 1000000 (s_call G d MX9_fill 2 (s_aload 0 (s_getR 8 0 (s_iload 2 (s_iconst 0 (s_call G d MX9_put 3 (s_iconst 1 (s_istore 4 (fun L st h => E G MX8_spread (d + 1) C S 21 (msk [true, true, false, true, true, false] L) st h (RN P))))))))))))) := (e_aload_n dX8_spread_0 rfl (e_getR rfl cl_8 (by decide) rfl q_381 dX8_spread_1 (e_ldc q_1358 dX8_spread_4 (e_callS cal_X9_fill q_1359 q_181 dX8_spread_6 (e_aload_n dX8_spread_9 rfl (e_getR rfl cl_8 (by decide) rfl q_381 dX8_spread_10 (e_iload_n dX8_spread_13 rfl (e_iconst (v := 0) dX8_spread_14 (by decide) (e_callS cal_X9_put q_1360 q_419 dX8_spread_15 (e_iconst (v := 1) dX8_spread_18 (by decide) (e_istore dX8_spread_19 (by decide) (e_msk [true, true, false, true, true, false]))))))))))))
set_option maxRecDepth 100000 in
theorem V_X8_spread_0 {G : GE} {d : Nat} {P : KN} {a : Nat → Nat → Int32} {r : Nat → Nat → Value} {N : Nat} {l0 : Nat} {l1 : Nat} {l2 : Int32} {l3 : Int32} (hs : (tyK l0 = (0, 8) ∧ l0 < N ∧ ∃ q1, r l0 0 = .ref q1 ∧ Sp G d 0 0 MX9_fill [.ref q1, .int 1000000] (a, r, N) (RN fun a2 r3 n4 => (tyK l0 = (0, 8) ∧ l0 < n4 ∧ ∃ q5, r3 l0 0 = .ref q5 ∧ Sp G d 0 0 MX9_put [.ref q5, .int l2, .int 0] (a2, r3, n4) (RN fun a6 r7 n8 => E G MX8_spread (d + 1) 0 0 21 [.ref l0, .ref l1, .null, .int l3, .int 1, .null] [] (a6, r7, n8) (RN P)))))) : Sp G (d + 1) 0 0 MX8_spread [.ref l0, .ref l1, .int l2, .int l3] (a, r, N) (RN P) := Sp.mk (mc := 0) (ms := 0) [.ref l0, .ref l1, .int l2, .int l3, .null, .null] rfl rfl rfl rfl (T_X8_spread_0 (C := 0) (S := 0) _ _ _ hs)
set_option maxRecDepth 100000 in
theorem T_X8_spread_21 {G : GE} {d C S : Nat} {P : KN} : Snd G MX8_spread (d + 1) C S 21 (RN P) (s_iload 4 (s_aload 1 (s_getI 0 0 (s_ic_ge (s_return P) (s_iconst 0 (s_istore 5 (fun L st h => E G MX8_spread (d + 1) C S 33 (msk [true, true, false, true, true, true] L) st h (RN P)))))))) := (e_iload dX8_spread_21 (e_aload_n dX8_spread_23 rfl (e_getIN rfl cl_0 (by decide) rfl q_188 dX8_spread_24 (e_ic_ge (tgt := 104) dX8_spread_27 (by decide) (e_return rfl dX8_spread_104) (e_iconst (v := 0) dX8_spread_30 (by decide) (e_istore dX8_spread_31 (by decide) (e_msk [true, true, false, true, true, true])))))))
set_option maxRecDepth 100000 in
theorem V_X8_spread_21 {G : GE} {d C S : Nat} {P : KN} {a : Nat → Nat → Int32} {r : Nat → Nat → Value} {N : Nat} {l0 : Nat} {l1 : Nat} {l3 : Int32} {l4 : Int32} (hs : (tyK l1 = (0, 0) ∧ l1 < N ∧ (((a l1 0) ≤ l4 → P a r N) ∧ (¬ (a l1 0) ≤ l4 → E G MX8_spread (d + 1) C S 33 [.ref l0, .ref l1, .null, .int l3, .int l4, .int 0] [] (a, r, N) (RN P))))) : E G MX8_spread (d + 1) C S 21 [.ref l0, .ref l1, .null, .int l3, .int l4, .null] [] (a, r, N) (RN P) := T_X8_spread_21 _ _ _ hs
set_option maxRecDepth 100000 in
theorem T_X8_spread_33 {G : GE} {d C S : Nat} {P : KN} : Snd G MX8_spread (d + 1) C S 33 (RN P) (s_iload 5 (s_aload 1 (s_getI 0 1 (s_ic_ge (s_iinc 4 1 (fun L st h => E G MX8_spread (d + 1) C S 21 (msk [true, true, false, true, true, false] L) st h (RN P))) (s_iload 5 (s_iload 3 (s_ic_eq (s_iinc 5 1 (fun L st h => E G MX8_spread (d + 1) C S 33 (msk [true, true, false, true, true, true] L) st h (RN P))) (s_aload 0 (s_aload 1 (s_iload 5 (s_callV G d MX0_startOf 1 0 (s_aload 1 (s_iload 5 (s_callV G d MX0_endOf 1 0 (s_aload 1 (s_iload 5 (s_callV G d MX0_lengthOf 1 0 (s_callV G d MX8_shorten 3 8 (s_aload 0 (s_aload 1 (s_iload 5 (s_callV G d MX0_endOf 1 0 (s_aload 1 (s_iload 5 (s_callV G d MX0_startOf 1 0 (s_aload 1 (s_iload 5 (s_callV G d MX0_lengthOf 1 0 (s_callV G d MX8_shorten 3 8 (s_iinc 5 1 (fun L st h => E G MX8_spread (d + 1) C S 33 (msk [true, true, false, true, true, true] L) st h (RN P)))))))))))))))))))))))))))))))) := (e_iload dX8_spread_33 (e_aload_n dX8_spread_35 rfl (e_getIN rfl cl_0 (by decide) rfl q_191 dX8_spread_36 (e_ic_ge (tgt := 98) dX8_spread_39 (by decide) (e_iinc (v := 1) dX8_spread_98 (by decide) (by decide) (e_goto (tgt := 21) dX8_spread_101 (by decide) (e_msk [true, true, false, true, true, false]))) (e_iload dX8_spread_42 (e_iload_n dX8_spread_44 rfl (e_ic_eq (tgt := 92) dX8_spread_45 (by decide) (e_iinc (v := 1) dX8_spread_92 (by decide) (by decide) (e_goto (tgt := 33) dX8_spread_95 (by decide) (e_msk [true, true, false, true, true, true]))) (e_aload_n dX8_spread_48 rfl (e_aload_n dX8_spread_49 rfl (e_iload dX8_spread_50 (e_callV cl_0 cal_X0_startOf q_1361 q_1230 q_1231 dX8_spread_52 (e_aload_n dX8_spread_55 rfl (e_iload dX8_spread_56 (e_callV cl_0 cal_X0_endOf q_1362 q_1234 q_1235 dX8_spread_58 (e_aload_n dX8_spread_61 rfl (e_iload dX8_spread_62 (e_callV cl_0 cal_X0_lengthOf q_1363 q_578 q_579 dX8_spread_64 (e_callV cl_8 cal_X8_shorten q_1364 q_1366 q_44 dX8_spread_67 (e_aload_n dX8_spread_70 rfl (e_aload_n dX8_spread_71 rfl (e_iload dX8_spread_72 (e_callV cl_0 cal_X0_endOf q_1362 q_1234 q_1235 dX8_spread_74 (e_aload_n dX8_spread_77 rfl (e_iload dX8_spread_78 (e_callV cl_0 cal_X0_startOf q_1361 q_1230 q_1231 dX8_spread_80 (e_aload_n dX8_spread_83 rfl (e_iload dX8_spread_84 (e_callV cl_0 cal_X0_lengthOf q_1363 q_578 q_579 dX8_spread_86 (e_callV cl_8 cal_X8_shorten q_1364 q_1366 q_44 dX8_spread_89 (e_iinc (v := 1) dX8_spread_92 (by decide) (by decide) (e_goto (tgt := 33) dX8_spread_95 (by decide) (e_msk [true, true, false, true, true, true]))))))))))))))))))))))))))))))))
set_option maxRecDepth 100000 in
theorem V_X8_spread_33 {G : GE} {d C S : Nat} {P : KN} {a : Nat → Nat → Int32} {r : Nat → Nat → Value} {N : Nat} {l0 : Nat} {l1 : Nat} {l3 : Int32} {l4 : Int32} {l5 : Int32} (hs : (tyK l1 = (0, 0) ∧ l1 < N ∧ (((a l1 1) ≤ l5 → E G MX8_spread (d + 1) C S 21 [.ref l0, .ref l1, .null, .int l3, .int (l4 + 1), .null] [] (a, r, N) (RN P)) ∧ (¬ (a l1 1) ≤ l5 → ((l5 = l3 → E G MX8_spread (d + 1) C S 33 [.ref l0, .ref l1, .null, .int l3, .int l4, .int (l5 + 1)] [] (a, r, N) (RN P)) ∧ (¬ l5 = l3 → (tyK l1 = (0, 0) ∧ l1 < N ∧ Sp G d 0 0 MX0_startOf [.ref l1, .int l5] (a, r, N) (RI fun v4 a1 r2 n3 => (tyK l1 = (0, 0) ∧ l1 < n3 ∧ Sp G d 0 0 MX0_endOf [.ref l1, .int l5] (a1, r2, n3) (RI fun v8 a5 r6 n7 => (tyK l1 = (0, 0) ∧ l1 < n7 ∧ Sp G d 0 0 MX0_lengthOf [.ref l1, .int l5] (a5, r6, n7) (RI fun v12 a9 r10 n11 => (tyK l0 = (0, 8) ∧ l0 < n11 ∧ Sp G d 0 0 MX8_shorten [.ref l0, .int v4, .int v8, .int v12] (a9, r10, n11) (RN fun a13 r14 n15 => (tyK l1 = (0, 0) ∧ l1 < n15 ∧ Sp G d 0 0 MX0_endOf [.ref l1, .int l5] (a13, r14, n15) (RI fun v19 a16 r17 n18 => (tyK l1 = (0, 0) ∧ l1 < n18 ∧ Sp G d 0 0 MX0_startOf [.ref l1, .int l5] (a16, r17, n18) (RI fun v23 a20 r21 n22 => (tyK l1 = (0, 0) ∧ l1 < n22 ∧ Sp G d 0 0 MX0_lengthOf [.ref l1, .int l5] (a20, r21, n22) (RI fun v27 a24 r25 n26 => (tyK l0 = (0, 8) ∧ l0 < n26 ∧ Sp G d 0 0 MX8_shorten [.ref l0, .int v19, .int v23, .int v27] (a24, r25, n26) (RN fun a28 r29 n30 => E G MX8_spread (d + 1) C S 33 [.ref l0, .ref l1, .null, .int l3, .int l4, .int (l5 + 1)] [] (a28, r29, n30) (RN P))))))))))))))))))))))) : E G MX8_spread (d + 1) C S 33 [.ref l0, .ref l1, .null, .int l3, .int l4, .int l5] [] (a, r, N) (RN P) := T_X8_spread_33 _ _ _ hs
theorem dX8_shorten_0 : decode cX8_shorten 0 = .ok (.aload_n 0, 1) := by decide +kernel
theorem dX8_shorten_1 : decode cX8_shorten 1 = .ok (.getfield 11, 3) := by decide +kernel
theorem dX8_shorten_4 : decode cX8_shorten 4 = .ok (.iload_n 2, 1) := by decide +kernel
theorem dX8_shorten_5 : decode cX8_shorten 5 = .ok (.aload_n 0, 1) := by decide +kernel
theorem dX8_shorten_6 : decode cX8_shorten 6 = .ok (.getfield 11, 3) := by decide +kernel
theorem dX8_shorten_9 : decode cX8_shorten 9 = .ok (.iload_n 2, 1) := by decide +kernel
theorem dX8_shorten_10 : decode cX8_shorten 10 = .ok (.invokestatic 49, 3) := by decide +kernel
theorem dX8_shorten_13 : decode cX8_shorten 13 = .ok (.aload_n 0, 1) := by decide +kernel
theorem dX8_shorten_14 : decode cX8_shorten 14 = .ok (.getfield 11, 3) := by decide +kernel
theorem dX8_shorten_17 : decode cX8_shorten 17 = .ok (.iload_n 1, 1) := by decide +kernel
theorem dX8_shorten_18 : decode cX8_shorten 18 = .ok (.invokestatic 49, 3) := by decide +kernel
theorem dX8_shorten_21 : decode cX8_shorten 21 = .ok (.iload_n 3, 1) := by decide +kernel
theorem dX8_shorten_22 : decode cX8_shorten 22 = .ok (.iadd, 1) := by decide +kernel
theorem dX8_shorten_23 : decode cX8_shorten 23 = .ok (.invokestatic 53, 3) := by decide +kernel
theorem dX8_shorten_26 : decode cX8_shorten 26 = .ok (.invokestatic 24, 3) := by decide +kernel
theorem dX8_shorten_29 : decode cX8_shorten 29 = .ok (.return_, 1) := by decide +kernel
set_option maxRecDepth 100000 in
theorem T_X8_shorten_0 {G : GE} {d C S : Nat} {P : KN} : Snd G MX8_shorten (d + 1) C S 0 (RN P) (s_aload 0 (s_getR 8 0 (s_iload 2 (s_aload 0 (s_getR 8 0 (s_iload 2 (s_call G d MX9_at 2 (s_aload 0 (s_getR 8 0 (s_iload 1 (s_call G d MX9_at 2 (s_iload 3 (s_iadd (s_min (s_call G d MX9_put 3 (s_return P)))))))))))))))) := (e_aload_n dX8_shorten_0 rfl (e_getR rfl cl_8 (by decide) rfl q_381 dX8_shorten_1 (e_iload_n dX8_shorten_4 rfl (e_aload_n dX8_shorten_5 rfl (e_getR rfl cl_8 (by decide) rfl q_381 dX8_shorten_6 (e_iload_n dX8_shorten_9 rfl (e_callS cal_X9_at q_1368 q_426 dX8_shorten_10 (e_aload_n dX8_shorten_13 rfl (e_getR rfl cl_8 (by decide) rfl q_381 dX8_shorten_14 (e_iload_n dX8_shorten_17 rfl (e_callS cal_X9_at q_1368 q_426 dX8_shorten_18 (e_iload_n dX8_shorten_21 rfl (e_iadd dX8_shorten_22 (e_min q_1369 q_552 q_127 q_553 dX8_shorten_23 (e_callS cal_X9_put q_1360 q_419 dX8_shorten_26 (e_return rfl dX8_shorten_29))))))))))))))))
set_option maxRecDepth 100000 in
theorem V_X8_shorten_0 {G : GE} {d : Nat} {P : KN} {a : Nat → Nat → Int32} {r : Nat → Nat → Value} {N : Nat} {l0 : Nat} {l1 : Int32} {l2 : Int32} {l3 : Int32} (hs : (tyK l0 = (0, 8) ∧ l0 < N ∧ ∃ q1, r l0 0 = .ref q1 ∧ (tyK l0 = (0, 8) ∧ l0 < N ∧ ∃ q2, r l0 0 = .ref q2 ∧ Sp G d 0 0 MX9_at [.ref q2, .int l2] (a, r, N) (RI fun v6 a3 r4 n5 => (tyK l0 = (0, 8) ∧ l0 < n5 ∧ ∃ q7, r4 l0 0 = .ref q7 ∧ Sp G d 0 0 MX9_at [.ref q7, .int l1] (a3, r4, n5) (RI fun v11 a8 r9 n10 => Sp G d 0 0 MX9_put [.ref q1, .int l2, .int (if (v11 + l3) < (v6 : Int32) then (v11 + l3) else v6)] (a8, r9, n10) (RN fun a12 r13 n14 => P a12 r13 n14))))))) : Sp G (d + 1) 0 0 MX8_shorten [.ref l0, .int l1, .int l2, .int l3] (a, r, N) (RN P) := Sp.mk (mc := 0) (ms := 0) [.ref l0, .int l1, .int l2, .int l3] rfl rfl rfl rfl (T_X8_shorten_0 (C := 0) (S := 0) _ _ _ hs)
theorem dX8_stepsTo_0 : decode cX8_stepsTo 0 = .ok (.aload_n 0, 1) := by decide +kernel
theorem dX8_stepsTo_1 : decode cX8_stepsTo 1 = .ok (.getfield 11, 3) := by decide +kernel
theorem dX8_stepsTo_4 : decode cX8_stepsTo 4 = .ok (.iload_n 1, 1) := by decide +kernel
theorem dX8_stepsTo_5 : decode cX8_stepsTo 5 = .ok (.invokestatic 49, 3) := by decide +kernel
theorem dX8_stepsTo_8 : decode cX8_stepsTo 8 = .ok (.istore_n 2, 1) := by decide +kernel
theorem dX8_stepsTo_9 : decode cX8_stepsTo 9 = .ok (.iload_n 2, 1) := by decide +kernel
theorem dX8_stepsTo_10 : decode cX8_stepsTo 10 = .ok (.ldc 17, 2) := by decide +kernel
theorem dX8_stepsTo_12 : decode cX8_stepsTo 12 = .ok (.if_icmp .lt 7, 3) := by decide +kernel
theorem dX8_stepsTo_15 : decode cX8_stepsTo 15 = .ok (.iconst (-1), 1) := by decide +kernel
theorem dX8_stepsTo_16 : decode cX8_stepsTo 16 = .ok (.goto 4, 3) := by decide +kernel
theorem dX8_stepsTo_19 : decode cX8_stepsTo 19 = .ok (.iload_n 2, 1) := by decide +kernel
theorem dX8_stepsTo_20 : decode cX8_stepsTo 20 = .ok (.ireturn, 1) := by decide +kernel
set_option maxRecDepth 100000 in
theorem T_X8_stepsTo_0 {G : GE} {d C S : Nat} {P : KI} : Snd G MX8_stepsTo (d + 1) C S 0 (RI P) (s_aload 0 (s_getR 8 0 (s_iload 1 (s_call G d MX9_at 2 (s_istore 2 (s_iload 2 (s_iconst 1000000 (s_ic_lt (s_iload 2 (s_ireturn P)) (s_iconst (-1) (s_ireturn P)))))))))) := (e_aload_n dX8_stepsTo_0 rfl (e_getR rfl cl_8 (by decide) rfl q_381 dX8_stepsTo_1 (e_iload_n dX8_stepsTo_4 rfl (e_callS cal_X9_at q_1368 q_426 dX8_stepsTo_5 (e_istore_n dX8_stepsTo_8 rfl (by decide) (e_iload_n dX8_stepsTo_9 rfl (e_ldc q_1358 dX8_stepsTo_10 (e_ic_lt (tgt := 19) dX8_stepsTo_12 (by decide) (e_iload_n dX8_stepsTo_19 rfl (e_ireturn rfl dX8_stepsTo_20)) (e_iconst (v := (-1)) dX8_stepsTo_15 (by decide) (e_goto (tgt := 20) dX8_stepsTo_16 (by decide) (e_ireturn rfl dX8_stepsTo_20)))))))))))
set_option maxRecDepth 100000 in
theorem V_X8_stepsTo_0 {G : GE} {d : Nat} {P : KI} {a : Nat → Nat → Int32} {r : Nat → Nat → Value} {N : Nat} {l0 : Nat} {l1 : Int32} (hs : (tyK l0 = (0, 8) ∧ l0 < N ∧ ∃ q1, r l0 0 = .ref q1 ∧ Sp G d 0 0 MX9_at [.ref q1, .int l1] (a, r, N) (RI fun v5 a2 r3 n4 => ((v5 < 1000000 → P v5 a2 r3 n4) ∧ (¬ v5 < 1000000 → P (-1) a2 r3 n4))))) : Sp G (d + 1) 0 0 MX8_stepsTo [.ref l0, .int l1] (a, r, N) (RI P) := Sp.mk (mc := 0) (ms := 0) [.ref l0, .int l1, .null] rfl rfl rfl rfl (T_X8_stepsTo_0 (C := 0) (S := 0) _ _ _ hs)
theorem dX8_shortestRound_0 : decode cX8_shortestRound 0 = .ok (.iload_n 2, 1) := by decide +kernel
theorem dX8_shortestRound_1 : decode cX8_shortestRound 1 = .ok (.ifCond .ne 5, 3) := by decide +kernel
theorem dX8_shortestRound_4 : decode cX8_shortestRound 4 = .ok (.iconst 0, 1) := by decide +kernel
theorem dX8_shortestRound_5 : decode cX8_shortestRound 5 = .ok (.ireturn, 1) := by decide +kernel
theorem dX8_shortestRound_6 : decode cX8_shortestRound 6 = .ok (.aload_n 0, 1) := by decide +kernel
theorem dX8_shortestRound_7 : decode cX8_shortestRound 7 = .ok (.ldc 17, 2) := by decide +kernel
theorem dX8_shortestRound_9 : decode cX8_shortestRound 9 = .ok (.putfield 59, 3) := by decide +kernel
theorem dX8_shortestRound_12 : decode cX8_shortestRound 12 = .ok (.aload_n 0, 1) := by decide +kernel
theorem dX8_shortestRound_13 : decode cX8_shortestRound 13 = .ok (.aload_n 1, 1) := by decide +kernel
theorem dX8_shortestRound_14 : decode cX8_shortestRound 14 = .ok (.iload_n 2, 1) := by decide +kernel
theorem dX8_shortestRound_15 : decode cX8_shortestRound 15 = .ok (.iconst 0, 1) := by decide +kernel
theorem dX8_shortestRound_16 : decode cX8_shortestRound 16 = .ok (.iconst 0, 1) := by decide +kernel
theorem dX8_shortestRound_17 : decode cX8_shortestRound 17 = .ok (.iconst 0, 1) := by decide +kernel
theorem dX8_shortestRound_18 : decode cX8_shortestRound 18 = .ok (.iconst 0, 1) := by decide +kernel
theorem dX8_shortestRound_19 : decode cX8_shortestRound 19 = .ok (.invokevirtual 62, 3) := by decide +kernel
theorem dX8_shortestRound_22 : decode cX8_shortestRound 22 = .ok (.aload_n 0, 1) := by decide +kernel
theorem dX8_shortestRound_23 : decode cX8_shortestRound 23 = .ok (.getfield 59, 3) := by decide +kernel
theorem dX8_shortestRound_26 : decode cX8_shortestRound 26 = .ok (.ldc 17, 2) := by decide +kernel
theorem dX8_shortestRound_28 : decode cX8_shortestRound 28 = .ok (.if_icmp .lt 7, 3) := by decide +kernel
theorem dX8_shortestRound_31 : decode cX8_shortestRound 31 = .ok (.iconst (-1), 1) := by decide +kernel
theorem dX8_shortestRound_32 : decode cX8_shortestRound 32 = .ok (.goto 7, 3) := by decide +kernel
theorem dX8_shortestRound_35 : decode cX8_shortestRound 35 = .ok (.aload_n 0, 1) := by decide +kernel
theorem dX8_shortestRound_36 : decode cX8_shortestRound 36 = .ok (.getfield 59, 3) := by decide +kernel
theorem dX8_shortestRound_39 : decode cX8_shortestRound 39 = .ok (.ireturn, 1) := by decide +kernel
set_option maxRecDepth 100000 in
theorem T_X8_shortestRound_0 {G : GE} {d C S : Nat} {P : KI} : Snd G MX8_shortestRound (d + 1) C S 0 (RI P) (s_iload 2 (s_if_ne (s_aload 0 (s_iconst 1000000 (s_putI 8 1 (s_aload 0 (s_aload 1 (s_iload 2 (s_iconst 0 (s_iconst 0 (s_iconst 0 (s_iconst 0 (s_callV G d MX8_walk 6 8 (s_aload 0 (s_getI 8 1 (s_iconst 1000000 (s_ic_lt (s_aload 0 (s_getI 8 1 (s_ireturn P))) (s_iconst (-1) (s_ireturn P))))))))))))))))) (s_iconst 0 (s_ireturn P)))) := (e_iload_n dX8_shortestRound_0 rfl (e_if_ne (tgt := 6) dX8_shortestRound_1 (by decide) (e_aload_n dX8_shortestRound_6 rfl (e_ldc q_1358 dX8_shortestRound_7 (e_putI rfl cl_8 (by decide) rfl rfl rfl q_382 dX8_shortestRound_9 (e_aload_n dX8_shortestRound_12 rfl (e_aload_n dX8_shortestRound_13 rfl (e_iload_n dX8_shortestRound_14 rfl (e_iconst (v := 0) dX8_shortestRound_15 (by decide) (e_iconst (v := 0) dX8_shortestRound_16 (by decide) (e_iconst (v := 0) dX8_shortestRound_17 (by decide) (e_iconst (v := 0) dX8_shortestRound_18 (by decide) (e_callV cl_8 cal_X8_walk q_1385 q_1387 q_45 dX8_shortestRound_19 (e_aload_n dX8_shortestRound_22 rfl (e_getI rfl cl_8 (by decide) rfl q_382 dX8_shortestRound_23 (e_ldc q_1358 dX8_shortestRound_26 (e_ic_lt (tgt := 35) dX8_shortestRound_28 (by decide) (e_aload_n dX8_shortestRound_35 rfl (e_getI rfl cl_8 (by decide) rfl q_382 dX8_shortestRound_36 (e_ireturn rfl dX8_shortestRound_39))) (e_iconst (v := (-1)) dX8_shortestRound_31 (by decide) (e_goto (tgt := 39) dX8_shortestRound_32 (by decide) (e_ireturn rfl dX8_shortestRound_39)))))))))))))))))) (e_iconst (v := 0) dX8_shortestRound_4 (by decide) (e_ireturn rfl dX8_shortestRound_5))))
set_option maxRecDepth 100000 in
theorem V_X8_shortestRound_0 {G : GE} {d : Nat} {P : KI} {a : Nat → Nat → Int32} {r : Nat → Nat → Value} {N : Nat} {l0 : Nat} {l1 : Nat} {l2 : Int32} (hs : ((¬ l2 = 0 → (tyK l0 = (0, 8) ∧ l0 < N ∧ ∀ a1, a1 = u2 a l0 1 1000000 → (tyK l0 = (0, 8) ∧ l0 < N ∧ Sp G d 0 0 MX8_walk [.ref l0, .ref l1, .int l2, .int 0, .int 0, .int 0, .int 0] (a1, r, N) (RN fun a2 r3 n4 => (tyK l0 = (0, 8) ∧ l0 < n4 ∧ (((a2 l0 1) < 1000000 → (tyK l0 = (0, 8) ∧ l0 < n4 ∧ P (a2 l0 1) a2 r3 n4)) ∧ (¬ (a2 l0 1) < 1000000 → P (-1) a2 r3 n4))))))) ∧ (l2 = 0 → P 0 a r N))) : Sp G (d + 1) 0 0 MX8_shortestRound [.ref l0, .ref l1, .int l2] (a, r, N) (RI P) := Sp.mk (mc := 0) (ms := 0) [.ref l0, .ref l1, .int l2] rfl rfl rfl rfl (T_X8_shortestRound_0 (C := 0) (S := 0) _ _ _ hs)
theorem dX8_walk_0 : decode cX8_walk 0 = .ok (.iload 6, 2) := by decide +kernel
theorem dX8_walk_2 : decode cX8_walk 2 = .ok (.aload_n 0, 1) := by decide +kernel
theorem dX8_walk_3 : decode cX8_walk 3 = .ok (.getfield 59, 3) := by decide +kernel
theorem dX8_walk_6 : decode cX8_walk 6 = .ok (.if_icmp .lt 4, 3) := by decide +kernel
theorem dX8_walk_9 : decode cX8_walk 9 = .ok (.return_, 1) := by decide +kernel
theorem dX8_walk_10 : decode cX8_walk 10 = .ok (.iload_n 3, 1) := by decide +kernel
theorem dX8_walk_11 : decode cX8_walk 11 = .ok (.aload_n 1, 1) := by decide +kernel
theorem dX8_walk_12 : decode cX8_walk 12 = .ok (.getfield 32, 3) := by decide +kernel
theorem dX8_walk_15 : decode cX8_walk 15 = .ok (.if_icmp .lt 24, 3) := by decide +kernel
theorem dX8_walk_18 : decode cX8_walk 18 = .ok (.iload 5, 2) := by decide +kernel
theorem dX8_walk_20 : decode cX8_walk 20 = .ok (.ifCond .ne 18, 3) := by decide +kernel
theorem dX8_walk_23 : decode cX8_walk 23 = .ok (.aload_n 1, 1) := by decide +kernel
theorem dX8_walk_24 : decode cX8_walk 24 = .ok (.iload 4, 2) := by decide +kernel
theorem dX8_walk_26 : decode cX8_walk 26 = .ok (.invokestatic 66, 3) := by decide +kernel
theorem dX8_walk_29 : decode cX8_walk 29 = .ok (.ifCond .eq 9, 3) := by decide +kernel
theorem dX8_walk_32 : decode cX8_walk 32 = .ok (.aload_n 0, 1) := by decide +kernel
theorem dX8_walk_33 : decode cX8_walk 33 = .ok (.iload 6, 2) := by decide +kernel
theorem dX8_walk_35 : decode cX8_walk 35 = .ok (.putfield 59, 3) := by decide +kernel
theorem dX8_walk_38 : decode cX8_walk 38 = .ok (.return_, 1) := by decide +kernel
theorem dX8_walk_39 : decode cX8_walk 39 = .ok (.iconst 1, 1) := by decide +kernel
theorem dX8_walk_40 : decode cX8_walk 40 = .ok (.iload_n 3, 1) := by decide +kernel
theorem dX8_walk_41 : decode cX8_walk 41 = .ok (.ishl, 1) := by decide +kernel
theorem dX8_walk_42 : decode cX8_walk 42 = .ok (.istore 7, 2) := by decide +kernel
theorem dX8_walk_44 : decode cX8_walk 44 = .ok (.iconst 1, 1) := by decide +kernel
theorem dX8_walk_45 : decode cX8_walk 45 = .ok (.aload_n 1, 1) := by decide +kernel
theorem dX8_walk_46 : decode cX8_walk 46 = .ok (.iload_n 3, 1) := by decide +kernel
theorem dX8_walk_47 : decode cX8_walk 47 = .ok (.invokevirtual 35, 3) := by decide +kernel
theorem dX8_walk_50 : decode cX8_walk 50 = .ok (.ishl, 1) := by decide +kernel
theorem dX8_walk_51 : decode cX8_walk 51 = .ok (.iconst 1, 1) := by decide +kernel
theorem dX8_walk_52 : decode cX8_walk 52 = .ok (.aload_n 1, 1) := by decide +kernel
theorem dX8_walk_53 : decode cX8_walk 53 = .ok (.iload_n 3, 1) := by decide +kernel
theorem dX8_walk_54 : decode cX8_walk 54 = .ok (.invokevirtual 39, 3) := by decide +kernel
theorem dX8_walk_57 : decode cX8_walk 57 = .ok (.ishl, 1) := by decide +kernel
theorem dX8_walk_58 : decode cX8_walk 58 = .ok (.ior, 1) := by decide +kernel
theorem dX8_walk_59 : decode cX8_walk 59 = .ok (.istore 8, 2) := by decide +kernel
theorem dX8_walk_61 : decode cX8_walk 61 = .ok (.aload_n 1, 1) := by decide +kernel
theorem dX8_walk_62 : decode cX8_walk 62 = .ok (.iload_n 3, 1) := by decide +kernel
theorem dX8_walk_63 : decode cX8_walk 63 = .ok (.invokevirtual 42, 3) := by decide +kernel
theorem dX8_walk_66 : decode cX8_walk 66 = .ok (.istore 9, 2) := by decide +kernel
theorem dX8_walk_68 : decode cX8_walk 68 = .ok (.iload_n 2, 1) := by decide +kernel
theorem dX8_walk_69 : decode cX8_walk 69 = .ok (.iload 7, 2) := by decide +kernel
theorem dX8_walk_71 : decode cX8_walk 71 = .ok (.iand, 1) := by decide +kernel
theorem dX8_walk_72 : decode cX8_walk 72 = .ok (.ifCond .ne 18, 3) := by decide +kernel
theorem dX8_walk_75 : decode cX8_walk 75 = .ok (.aload_n 0, 1) := by decide +kernel
theorem dX8_walk_76 : decode cX8_walk 76 = .ok (.aload_n 1, 1) := by decide +kernel
theorem dX8_walk_77 : decode cX8_walk 77 = .ok (.iload_n 2, 1) := by decide +kernel
theorem dX8_walk_78 : decode cX8_walk 78 = .ok (.iload_n 3, 1) := by decide +kernel
theorem dX8_walk_79 : decode cX8_walk 79 = .ok (.iconst 1, 1) := by decide +kernel
theorem dX8_walk_80 : decode cX8_walk 80 = .ok (.iadd, 1) := by decide +kernel
theorem dX8_walk_81 : decode cX8_walk 81 = .ok (.iload 4, 2) := by decide +kernel
theorem dX8_walk_83 : decode cX8_walk 83 = .ok (.iload 5, 2) := by decide +kernel
theorem dX8_walk_85 : decode cX8_walk 85 = .ok (.iload 6, 2) := by decide +kernel
theorem dX8_walk_87 : decode cX8_walk 87 = .ok (.invokevirtual 62, 3) := by decide +kernel
theorem dX8_walk_90 : decode cX8_walk 90 = .ok (.aload_n 0, 1) := by decide +kernel
theorem dX8_walk_91 : decode cX8_walk 91 = .ok (.aload_n 1, 1) := by decide +kernel
theorem dX8_walk_92 : decode cX8_walk 92 = .ok (.iload_n 2, 1) := by decide +kernel
theorem dX8_walk_93 : decode cX8_walk 93 = .ok (.iload_n 3, 1) := by decide +kernel
theorem dX8_walk_94 : decode cX8_walk 94 = .ok (.iconst 1, 1) := by decide +kernel
theorem dX8_walk_95 : decode cX8_walk 95 = .ok (.iadd, 1) := by decide +kernel
theorem dX8_walk_96 : decode cX8_walk 96 = .ok (.iload 4, 2) := by decide +kernel
theorem dX8_walk_98 : decode cX8_walk 98 = .ok (.iload 7, 2) := by decide +kernel
theorem dX8_walk_100 : decode cX8_walk 100 = .ok (.ior, 1) := by decide +kernel
theorem dX8_walk_101 : decode cX8_walk 101 = .ok (.iload 5, 2) := by decide +kernel
theorem dX8_walk_103 : decode cX8_walk 103 = .ok (.iload 8, 2) := by decide +kernel
theorem dX8_walk_105 : decode cX8_walk 105 = .ok (.ixor, 1) := by decide +kernel
theorem dX8_walk_106 : decode cX8_walk 106 = .ok (.iload 6, 2) := by decide +kernel
theorem dX8_walk_108 : decode cX8_walk 108 = .ok (.iload 9, 2) := by decide +kernel
theorem dX8_walk_110 : decode cX8_walk 110 = .ok (.iadd, 1) := by decide +kernel
theorem dX8_walk_111 : decode cX8_walk 111 = .ok (.invokevirtual 62, 3) := by decide +kernel
theorem dX8_walk_114 : decode cX8_walk 114 = .ok (.aload_n 0, 1) := by decide +kernel
theorem dX8_walk_115 : decode cX8_walk 115 = .ok (.aload_n 1, 1) := by decide +kernel
theorem dX8_walk_116 : decode cX8_walk 116 = .ok (.iload_n 2, 1) := by decide +kernel
theorem dX8_walk_117 : decode cX8_walk 117 = .ok (.iload_n 3, 1) := by decide +kernel
theorem dX8_walk_118 : decode cX8_walk 118 = .ok (.iconst 1, 1) := by decide +kernel
theorem dX8_walk_119 : decode cX8_walk 119 = .ok (.iadd, 1) := by decide +kernel
theorem dX8_walk_120 : decode cX8_walk 120 = .ok (.iload 4, 2) := by decide +kernel
theorem dX8_walk_122 : decode cX8_walk 122 = .ok (.iload 7, 2) := by decide +kernel
theorem dX8_walk_124 : decode cX8_walk 124 = .ok (.ior, 1) := by decide +kernel
theorem dX8_walk_125 : decode cX8_walk 125 = .ok (.iload 5, 2) := by decide +kernel
theorem dX8_walk_127 : decode cX8_walk 127 = .ok (.iload 6, 2) := by decide +kernel
theorem dX8_walk_129 : decode cX8_walk 129 = .ok (.iconst 2, 1) := by decide +kernel
theorem dX8_walk_130 : decode cX8_walk 130 = .ok (.iload 9, 2) := by decide +kernel
theorem dX8_walk_132 : decode cX8_walk 132 = .ok (.imul, 1) := by decide +kernel
theorem dX8_walk_133 : decode cX8_walk 133 = .ok (.iadd, 1) := by decide +kernel
theorem dX8_walk_134 : decode cX8_walk 134 = .ok (.invokevirtual 62, 3) := by decide +kernel
theorem dX8_walk_137 : decode cX8_walk 137 = .ok (.return_, 1) := by decide +kernel
set_option maxRecDepth 100000 in
theorem T_X8_walk_0 {G : GE} {d C S : Nat} {P : KN} : Snd G MX8_walk (d + 1) C S 0 (RN P) (s_iload 6 (s_aload 0 (s_getI 8 1 (s_ic_lt (s_iload 3 (s_aload 1 (s_getI 0 1 (s_ic_lt (s_iconst 1 (s_iload 3 (s_ishl (s_istore 7 (s_iconst 1 (s_aload 1 (s_iload 3 (s_callV G d MX0_startOf 1 0 (s_ishl (s_iconst 1 (s_aload 1 (s_iload 3 (s_callV G d MX0_endOf 1 0 (s_ishl (s_ior (s_istore 8 (s_aload 1 (s_iload 3 (s_callV G d MX0_lengthOf 1 0 (s_istore 9 (s_iload 2 (s_iload 7 (s_iand (s_if_ne (fun L st h => E G MX8_walk (d + 1) C S 90 (msk [true, true, true, true, true, true, true, true, true, true] L) st h (RN P)) (s_aload 0 (s_aload 1 (s_iload 2 (s_iload 3 (s_iconst 1 (s_iadd (s_iload 4 (s_iload 5 (s_iload 6 (s_callV G d MX8_walk 6 8 (fun L st h => E G MX8_walk (d + 1) C S 90 (msk [true, true, true, true, true, true, true, true, true, true] L) st h (RN P)))))))))))))))))))))))))))))))))))) (s_iload 5 (s_if_ne (s_return P) (s_aload 1 (s_iload 4 (s_call G d MX8_isOnePiece 2 (s_if_eq (s_return P) (s_aload 0 (s_iload 6 (s_putI 8 1 (s_return P)))))))))))))) (s_return P))))) := (e_iload dX8_walk_0 (e_aload_n dX8_walk_2 rfl (e_getI rfl cl_8 (by decide) rfl q_382 dX8_walk_3 (e_ic_lt (tgt := 10) dX8_walk_6 (by decide) (e_iload_n dX8_walk_10 rfl (e_aload_n dX8_walk_11 rfl (e_getIN rfl cl_0 (by decide) rfl q_191 dX8_walk_12 (e_ic_lt (tgt := 39) dX8_walk_15 (by decide) (e_iconst (v := 1) dX8_walk_39 (by decide) (e_iload_n dX8_walk_40 rfl (e_ishl dX8_walk_41 (e_istore dX8_walk_42 (by decide) (e_iconst (v := 1) dX8_walk_44 (by decide) (e_aload_n dX8_walk_45 rfl (e_iload_n dX8_walk_46 rfl (e_callV cl_0 cal_X0_startOf q_1361 q_1230 q_1231 dX8_walk_47 (e_ishl dX8_walk_50 (e_iconst (v := 1) dX8_walk_51 (by decide) (e_aload_n dX8_walk_52 rfl (e_iload_n dX8_walk_53 rfl (e_callV cl_0 cal_X0_endOf q_1362 q_1234 q_1235 dX8_walk_54 (e_ishl dX8_walk_57 (e_ior dX8_walk_58 (e_istore dX8_walk_59 (by decide) (e_aload_n dX8_walk_61 rfl (e_iload_n dX8_walk_62 rfl (e_callV cl_0 cal_X0_lengthOf q_1363 q_578 q_579 dX8_walk_63 (e_istore dX8_walk_66 (by decide) (e_iload_n dX8_walk_68 rfl (e_iload dX8_walk_69 (e_iand dX8_walk_71 (e_if_ne (tgt := 90) dX8_walk_72 (by decide) (e_msk [true, true, true, true, true, true, true, true, true, true]) (e_aload_n dX8_walk_75 rfl (e_aload_n dX8_walk_76 rfl (e_iload_n dX8_walk_77 rfl (e_iload_n dX8_walk_78 rfl (e_iconst (v := 1) dX8_walk_79 (by decide) (e_iadd dX8_walk_80 (e_iload dX8_walk_81 (e_iload dX8_walk_83 (e_iload dX8_walk_85 (e_callV cl_8 cal_X8_walk q_1385 q_1387 q_45 dX8_walk_87 (e_msk [true, true, true, true, true, true, true, true, true, true]))))))))))))))))))))))))))))))))))) (e_iload dX8_walk_18 (e_if_ne (tgt := 38) dX8_walk_20 (by decide) (e_return rfl dX8_walk_38) (e_aload_n dX8_walk_23 rfl (e_iload dX8_walk_24 (e_callS cal_X8_isOnePiece q_1389 q_1390 dX8_walk_26 (e_if_eq (tgt := 38) dX8_walk_29 (by decide) (e_return rfl dX8_walk_38) (e_aload_n dX8_walk_32 rfl (e_iload dX8_walk_33 (e_putI rfl cl_8 (by decide) rfl rfl rfl q_382 dX8_walk_35 (e_return rfl dX8_walk_38)))))))))))))) (e_return rfl dX8_walk_9)))))
set_option maxRecDepth 100000 in
theorem V_X8_walk_0 {G : GE} {d : Nat} {P : KN} {a : Nat → Nat → Int32} {r : Nat → Nat → Value} {N : Nat} {l0 : Nat} {l1 : Nat} {l2 : Int32} {l3 : Int32} {l4 : Int32} {l5 : Int32} {l6 : Int32} (hs : (tyK l0 = (0, 8) ∧ l0 < N ∧ ((l6 < (a l0 1) → (tyK l1 = (0, 0) ∧ l1 < N ∧ ((l3 < (a l1 1) → (tyK l1 = (0, 0) ∧ l1 < N ∧ Sp G d 0 0 MX0_startOf [.ref l1, .int l3] (a, r, N) (RI fun v4 a1 r2 n3 => (tyK l1 = (0, 0) ∧ l1 < n3 ∧ Sp G d 0 0 MX0_endOf [.ref l1, .int l3] (a1, r2, n3) (RI fun v8 a5 r6 n7 => (tyK l1 = (0, 0) ∧ l1 < n7 ∧ Sp G d 0 0 MX0_lengthOf [.ref l1, .int l3] (a5, r6, n7) (RI fun v12 a9 r10 n11 => ((¬ (l2 &&& ((1 : Int32) <<< (l3 &&& 31))) = 0 → E G MX8_walk (d + 1) 0 0 90 [.ref l0, .ref l1, .int l2, .int l3, .int l4, .int l5, .int l6, .int ((1 : Int32) <<< (l3 &&& 31)), .int (((1 : Int32) <<< (v4 &&& 31)) ||| ((1 : Int32) <<< (v8 &&& 31))), .int v12] [] (a9, r10, n11) (RN P)) ∧ ((l2 &&& ((1 : Int32) <<< (l3 &&& 31))) = 0 → (tyK l0 = (0, 8) ∧ l0 < n11 ∧ Sp G d 0 0 MX8_walk [.ref l0, .ref l1, .int l2, .int (l3 + 1), .int l4, .int l5, .int l6] (a9, r10, n11) (RN fun a13 r14 n15 => E G MX8_walk (d + 1) 0 0 90 [.ref l0, .ref l1, .int l2, .int l3, .int l4, .int l5, .int l6, .int ((1 : Int32) <<< (l3 &&& 31)), .int (((1 : Int32) <<< (v4 &&& 31)) ||| ((1 : Int32) <<< (v8 &&& 31))), .int v12] [] (a13, r14, n15) (RN P)))))))))))) ∧ (¬ l3 < (a l1 1) → ((¬ l5 = 0 → P a r N) ∧ (l5 = 0 → Sp G d 0 0 MX8_isOnePiece [.ref l1, .int l4] (a, r, N) (RI fun v19 a16 r17 n18 => ((v19 = 0 → P a16 r17 n18) ∧ (¬ v19 = 0 → (tyK l0 = (0, 8) ∧ l0 < n18 ∧ ∀ a20, a20 = u2 a16 l0 1 l6 → P a20 r17 n18)))))))))) ∧ (¬ l6 < (a l0 1) → P a r N)))) : Sp G (d + 1) 0 0 MX8_walk [.ref l0, .ref l1, .int l2, .int l3, .int l4, .int l5, .int l6] (a, r, N) (RN P) := Sp.mk (mc := 0) (ms := 0) [.ref l0, .ref l1, .int l2, .int l3, .int l4, .int l5, .int l6, .null, .null, .null] rfl rfl rfl rfl (T_X8_walk_0 (C := 0) (S := 0) _ _ _ hs)
set_option maxRecDepth 100000 in
theorem T_X8_walk_90 {G : GE} {d C S : Nat} {P : KN} : Snd G MX8_walk (d + 1) C S 90 (RN P) (s_aload 0 (s_aload 1 (s_iload 2 (s_iload 3 (s_iconst 1 (s_iadd (s_iload 4 (s_iload 7 (s_ior (s_iload 5 (s_iload 8 (s_ixor (s_iload 6 (s_iload 9 (s_iadd (s_callV G d MX8_walk 6 8 (s_aload 0 (s_aload 1 (s_iload 2 (s_iload 3 (s_iconst 1 (s_iadd (s_iload 4 (s_iload 7 (s_ior (s_iload 5 (s_iload 6 (s_iconst 2 (s_iload 9 (s_imul (s_iadd (s_callV G d MX8_walk 6 8 (s_return P))))))))))))))))))))))))))))))))) := (e_aload_n dX8_walk_90 rfl (e_aload_n dX8_walk_91 rfl (e_iload_n dX8_walk_92 rfl (e_iload_n dX8_walk_93 rfl (e_iconst (v := 1) dX8_walk_94 (by decide) (e_iadd dX8_walk_95 (e_iload dX8_walk_96 (e_iload dX8_walk_98 (e_ior dX8_walk_100 (e_iload dX8_walk_101 (e_iload dX8_walk_103 (e_ixor dX8_walk_105 (e_iload dX8_walk_106 (e_iload dX8_walk_108 (e_iadd dX8_walk_110 (e_callV cl_8 cal_X8_walk q_1385 q_1387 q_45 dX8_walk_111 (e_aload_n dX8_walk_114 rfl (e_aload_n dX8_walk_115 rfl (e_iload_n dX8_walk_116 rfl (e_iload_n dX8_walk_117 rfl (e_iconst (v := 1) dX8_walk_118 (by decide) (e_iadd dX8_walk_119 (e_iload dX8_walk_120 (e_iload dX8_walk_122 (e_ior dX8_walk_124 (e_iload dX8_walk_125 (e_iload dX8_walk_127 (e_iconst (v := 2) dX8_walk_129 (by decide) (e_iload dX8_walk_130 (e_imul dX8_walk_132 (e_iadd dX8_walk_133 (e_callV cl_8 cal_X8_walk q_1385 q_1387 q_45 dX8_walk_134 (e_return rfl dX8_walk_137)))))))))))))))))))))))))))))))))
set_option maxRecDepth 100000 in
theorem V_X8_walk_90 {G : GE} {d C S : Nat} {P : KN} {a : Nat → Nat → Int32} {r : Nat → Nat → Value} {N : Nat} {l0 : Nat} {l1 : Nat} {l2 : Int32} {l3 : Int32} {l4 : Int32} {l5 : Int32} {l6 : Int32} {l7 : Int32} {l8 : Int32} {l9 : Int32} (hs : (tyK l0 = (0, 8) ∧ l0 < N ∧ Sp G d 0 0 MX8_walk [.ref l0, .ref l1, .int l2, .int (l3 + 1), .int (l4 ||| l7), .int (l5 ^^^ l8), .int (l6 + l9)] (a, r, N) (RN fun a1 r2 n3 => (tyK l0 = (0, 8) ∧ l0 < n3 ∧ Sp G d 0 0 MX8_walk [.ref l0, .ref l1, .int l2, .int (l3 + 1), .int (l4 ||| l7), .int l5, .int (l6 + ((2 : Int32) * l9))] (a1, r2, n3) (RN fun a4 r5 n6 => P a4 r5 n6))))) : E G MX8_walk (d + 1) C S 90 [.ref l0, .ref l1, .int l2, .int l3, .int l4, .int l5, .int l6, .int l7, .int l8, .int l9] [] (a, r, N) (RN P) := T_X8_walk_90 _ _ _ hs
theorem dX8_isOnePiece_0 : decode cX8_isOnePiece 0 = .ok (.iconst 0, 1) := by decide +kernel
theorem dX8_isOnePiece_1 : decode cX8_isOnePiece 1 = .ok (.istore_n 2, 1) := by decide +kernel
theorem dX8_isOnePiece_2 : decode cX8_isOnePiece 2 = .ok (.iload_n 1, 1) := by decide +kernel
theorem dX8_isOnePiece_3 : decode cX8_isOnePiece 3 = .ok (.istore_n 3, 1) := by decide +kernel
theorem dX8_isOnePiece_4 : decode cX8_isOnePiece 4 = .ok (.iconst 0, 1) := by decide +kernel
theorem dX8_isOnePiece_5 : decode cX8_isOnePiece 5 = .ok (.istore 4, 2) := by decide +kernel
theorem dX8_isOnePiece_7 : decode cX8_isOnePiece 7 = .ok (.iload 4, 2) := by decide +kernel
theorem dX8_isOnePiece_9 : decode cX8_isOnePiece 9 = .ok (.aload_n 0, 1) := by decide +kernel
theorem dX8_isOnePiece_10 : decode cX8_isOnePiece 10 = .ok (.getfield 32, 3) := by decide +kernel
theorem dX8_isOnePiece_13 : decode cX8_isOnePiece 13 = .ok (.if_icmp .ge 85, 3) := by decide +kernel
theorem dX8_isOnePiece_16 : decode cX8_isOnePiece 16 = .ok (.iload_n 3, 1) := by decide +kernel
theorem dX8_isOnePiece_17 : decode cX8_isOnePiece 17 = .ok (.ifCond .eq 81, 3) := by decide +kernel
theorem dX8_isOnePiece_20 : decode cX8_isOnePiece 20 = .ok (.iconst 0, 1) := by decide +kernel
theorem dX8_isOnePiece_21 : decode cX8_isOnePiece 21 = .ok (.istore 5, 2) := by decide +kernel
theorem dX8_isOnePiece_23 : decode cX8_isOnePiece 23 = .ok (.iload 5, 2) := by decide +kernel
theorem dX8_isOnePiece_25 : decode cX8_isOnePiece 25 = .ok (.aload_n 0, 1) := by decide +kernel
theorem dX8_isOnePiece_26 : decode cX8_isOnePiece 26 = .ok (.getfield 32, 3) := by decide +kernel
theorem dX8_isOnePiece_29 : decode cX8_isOnePiece 29 = .ok (.if_icmp .ge 63, 3) := by decide +kernel
theorem dX8_isOnePiece_32 : decode cX8_isOnePiece 32 = .ok (.iconst 1, 1) := by decide +kernel
theorem dX8_isOnePiece_33 : decode cX8_isOnePiece 33 = .ok (.aload_n 0, 1) := by decide +kernel
theorem dX8_isOnePiece_34 : decode cX8_isOnePiece 34 = .ok (.iload 5, 2) := by decide +kernel
theorem dX8_isOnePiece_36 : decode cX8_isOnePiece 36 = .ok (.invokevirtual 35, 3) := by decide +kernel
theorem dX8_isOnePiece_39 : decode cX8_isOnePiece 39 = .ok (.ishl, 1) := by decide +kernel
theorem dX8_isOnePiece_40 : decode cX8_isOnePiece 40 = .ok (.iconst 1, 1) := by decide +kernel
theorem dX8_isOnePiece_41 : decode cX8_isOnePiece 41 = .ok (.aload_n 0, 1) := by decide +kernel
theorem dX8_isOnePiece_42 : decode cX8_isOnePiece 42 = .ok (.iload 5, 2) := by decide +kernel
theorem dX8_isOnePiece_44 : decode cX8_isOnePiece 44 = .ok (.invokevirtual 39, 3) := by decide +kernel
theorem dX8_isOnePiece_47 : decode cX8_isOnePiece 47 = .ok (.ishl, 1) := by decide +kernel
theorem dX8_isOnePiece_48 : decode cX8_isOnePiece 48 = .ok (.ior, 1) := by decide +kernel
theorem dX8_isOnePiece_49 : decode cX8_isOnePiece 49 = .ok (.istore 6, 2) := by decide +kernel
theorem dX8_isOnePiece_51 : decode cX8_isOnePiece 51 = .ok (.iload_n 3, 1) := by decide +kernel
theorem dX8_isOnePiece_52 : decode cX8_isOnePiece 52 = .ok (.iload 5, 2) := by decide +kernel
theorem dX8_isOnePiece_54 : decode cX8_isOnePiece 54 = .ok (.ishr, 1) := by decide +kernel
theorem dX8_isOnePiece_55 : decode cX8_isOnePiece 55 = .ok (.iconst 1, 1) := by decide +kernel
theorem dX8_isOnePiece_56 : decode cX8_isOnePiece 56 = .ok (.iand, 1) := by decide +kernel
theorem dX8_isOnePiece_57 : decode cX8_isOnePiece 57 = .ok (.iconst 1, 1) := by decide +kernel
theorem dX8_isOnePiece_58 : decode cX8_isOnePiece 58 = .ok (.if_icmp .ne 28, 3) := by decide +kernel
theorem dX8_isOnePiece_61 : decode cX8_isOnePiece 61 = .ok (.iload_n 2, 1) := by decide +kernel
theorem dX8_isOnePiece_62 : decode cX8_isOnePiece 62 = .ok (.ifCond .eq 10, 3) := by decide +kernel
theorem dX8_isOnePiece_65 : decode cX8_isOnePiece 65 = .ok (.iload_n 2, 1) := by decide +kernel
theorem dX8_isOnePiece_66 : decode cX8_isOnePiece 66 = .ok (.iload 6, 2) := by decide +kernel
theorem dX8_isOnePiece_68 : decode cX8_isOnePiece 68 = .ok (.iand, 1) := by decide +kernel
theorem dX8_isOnePiece_69 : decode cX8_isOnePiece 69 = .ok (.ifCond .eq 17, 3) := by decide +kernel
theorem dX8_isOnePiece_72 : decode cX8_isOnePiece 72 = .ok (.iload_n 2, 1) := by decide +kernel
theorem dX8_isOnePiece_73 : decode cX8_isOnePiece 73 = .ok (.iload 6, 2) := by decide +kernel
theorem dX8_isOnePiece_75 : decode cX8_isOnePiece 75 = .ok (.ior, 1) := by decide +kernel
theorem dX8_isOnePiece_76 : decode cX8_isOnePiece 76 = .ok (.istore_n 2, 1) := by decide +kernel
theorem dX8_isOnePiece_77 : decode cX8_isOnePiece 77 = .ok (.iload_n 3, 1) := by decide +kernel
theorem dX8_isOnePiece_78 : decode cX8_isOnePiece 78 = .ok (.iconst 1, 1) := by decide +kernel
theorem dX8_isOnePiece_79 : decode cX8_isOnePiece 79 = .ok (.iload 5, 2) := by decide +kernel
theorem dX8_isOnePiece_81 : decode cX8_isOnePiece 81 = .ok (.ishl, 1) := by decide +kernel
theorem dX8_isOnePiece_82 : decode cX8_isOnePiece 82 = .ok (.iconst (-1), 1) := by decide +kernel
theorem dX8_isOnePiece_83 : decode cX8_isOnePiece 83 = .ok (.ixor, 1) := by decide +kernel
theorem dX8_isOnePiece_84 : decode cX8_isOnePiece 84 = .ok (.iand, 1) := by decide +kernel
theorem dX8_isOnePiece_85 : decode cX8_isOnePiece 85 = .ok (.istore_n 3, 1) := by decide +kernel
theorem dX8_isOnePiece_86 : decode cX8_isOnePiece 86 = .ok (.iinc 5 1, 3) := by decide +kernel
theorem dX8_isOnePiece_89 : decode cX8_isOnePiece 89 = .ok (.goto (-66), 3) := by decide +kernel
theorem dX8_isOnePiece_92 : decode cX8_isOnePiece 92 = .ok (.iinc 4 1, 3) := by decide +kernel
theorem dX8_isOnePiece_95 : decode cX8_isOnePiece 95 = .ok (.goto (-88), 3) := by decide +kernel
theorem dX8_isOnePiece_98 : decode cX8_isOnePiece 98 = .ok (.iload_n 3, 1) := by decide +kernel
theorem dX8_isOnePiece_99 : decode cX8_isOnePiece 99 = .ok (.ifCond .ne 7, 3) := by decide +kernel
theorem dX8_isOnePiece_102 : decode cX8_isOnePiece 102 = .ok (.iconst 1, 1) := by decide +kernel
theorem dX8_isOnePiece_103 : decode cX8_isOnePiece 103 = .ok (.goto 4, 3) := by decide +kernel
theorem dX8_isOnePiece_106 : decode cX8_isOnePiece 106 = .ok (.iconst 0, 1) := by decide +kernel
theorem dX8_isOnePiece_107 : decode cX8_isOnePiece 107 = .ok (.ireturn, 1) := by decide +kernel
set_option maxRecDepth 100000 in
theorem T_X8_isOnePiece_0 {G : GE} {d C S : Nat} {P : KI} : Snd G MX8_isOnePiece (d + 1) C S 0 (RI P) (s_iconst 0 (s_istore 2 (s_iload 1 (s_istore 3 (s_iconst 0 (s_istore 4 (fun L st h => E G MX8_isOnePiece (d + 1) C S 7 (msk [true, false, true, true, true, false, false] L) st h (RI P)))))))) := (e_iconst (v := 0) dX8_isOnePiece_0 (by decide) (e_istore_n dX8_isOnePiece_1 rfl (by decide) (e_iload_n dX8_isOnePiece_2 rfl (e_istore_n dX8_isOnePiece_3 rfl (by decide) (e_iconst (v := 0) dX8_isOnePiece_4 (by decide) (e_istore dX8_isOnePiece_5 (by decide) (e_msk [true, false, true, true, true, false, false])))))))
set_option maxRecDepth 100000 in
theorem V_X8_isOnePiece_0 {G : GE} {d : Nat} {P : KI} {a : Nat → Nat → Int32} {r : Nat → Nat → Value} {N : Nat} {l0 : Nat} {l1 : Int32} (hs : E G MX8_isOnePiece (d + 1) 0 0 7 [.ref l0, .null, .int 0, .int l1, .int 0, .null, .null] [] (a, r, N) (RI P)) : Sp G (d + 1) 0 0 MX8_isOnePiece [.ref l0, .int l1] (a, r, N) (RI P) := Sp.mk (mc := 0) (ms := 0) [.ref l0, .int l1, .null, .null, .null, .null, .null] rfl rfl rfl rfl (T_X8_isOnePiece_0 (C := 0) (S := 0) _ _ _ hs)
set_option maxRecDepth 100000 in
theorem T_X8_isOnePiece_7 {G : GE} {d C S : Nat} {P : KI} : Snd G MX8_isOnePiece (d + 1) C S 7 (RI P) (s_iload 4 (s_aload 0 (s_getI 0 1 (s_ic_ge (s_iload 3 (s_if_ne (s_iconst 0 (s_zreturn P)) (s_iconst 1 (s_zreturn P)))) (s_iload 3 (s_if_eq (s_iload 3 (s_if_ne (s_iconst 0 (s_zreturn P)) (s_iconst 1 (s_zreturn P)))) (s_iconst 0 (s_istore 5 (fun L st h => E G MX8_isOnePiece (d + 1) C S 23 (msk [true, false, true, true, true, true, false] L) st h (RI P)))))))))) := (e_iload dX8_isOnePiece_7 (e_aload_n dX8_isOnePiece_9 rfl (e_getIN rfl cl_0 (by decide) rfl q_191 dX8_isOnePiece_10 (e_ic_ge (tgt := 98) dX8_isOnePiece_13 (by decide) (e_iload_n dX8_isOnePiece_98 rfl (e_if_ne (tgt := 106) dX8_isOnePiece_99 (by decide) (e_iconst (v := 0) dX8_isOnePiece_106 (by decide) (e_zreturn rfl dX8_isOnePiece_107)) (e_iconst (v := 1) dX8_isOnePiece_102 (by decide) (e_goto (tgt := 107) dX8_isOnePiece_103 (by decide) (e_zreturn rfl dX8_isOnePiece_107))))) (e_iload_n dX8_isOnePiece_16 rfl (e_if_eq (tgt := 98) dX8_isOnePiece_17 (by decide) (e_iload_n dX8_isOnePiece_98 rfl (e_if_ne (tgt := 106) dX8_isOnePiece_99 (by decide) (e_iconst (v := 0) dX8_isOnePiece_106 (by decide) (e_zreturn rfl dX8_isOnePiece_107)) (e_iconst (v := 1) dX8_isOnePiece_102 (by decide) (e_goto (tgt := 107) dX8_isOnePiece_103 (by decide) (e_zreturn rfl dX8_isOnePiece_107))))) (e_iconst (v := 0) dX8_isOnePiece_20 (by decide) (e_istore dX8_isOnePiece_21 (by decide) (e_msk [true, false, true, true, true, true, false])))))))))
set_option maxRecDepth 100000 in
theorem V_X8_isOnePiece_7 {G : GE} {d C S : Nat} {P : KI} {a : Nat → Nat → Int32} {r : Nat → Nat → Value} {N : Nat} {l0 : Nat} {l2 : Int32} {l3 : Int32} {l4 : Int32} (hs : (tyK l0 = (0, 0) ∧ l0 < N ∧ (((a l0 1) ≤ l4 → ((¬ l3 = 0 → (bz 0 ∧ P 0 a r N)) ∧ (l3 = 0 → (bz 1 ∧ P 1 a r N)))) ∧ (¬ (a l0 1) ≤ l4 → ((l3 = 0 → ((¬ l3 = 0 → (bz 0 ∧ P 0 a r N)) ∧ (l3 = 0 → (bz 1 ∧ P 1 a r N)))) ∧ (¬ l3 = 0 → E G MX8_isOnePiece (d + 1) C S 23 [.ref l0, .null, .int l2, .int l3, .int l4, .int 0, .null] [] (a, r, N) (RI P))))))) : E G MX8_isOnePiece (d + 1) C S 7 [.ref l0, .null, .int l2, .int l3, .int l4, .null, .null] [] (a, r, N) (RI P) := T_X8_isOnePiece_7 _ _ _ hs
set_option maxRecDepth 100000 in
theorem T_X8_isOnePiece_23 {G : GE} {d C S : Nat} {P : KI} : Snd G MX8_isOnePiece (d + 1) C S 23 (RI P) (s_iload 5 (s_aload 0 (s_getI 0 1 (s_ic_ge (s_iinc 4 1 (fun L st h => E G MX8_isOnePiece (d + 1) C S 7 (msk [true, false, true, true, true, false, false] L) st h (RI P))) (s_iconst 1 (s_aload 0 (s_iload 5 (s_callV G d MX0_startOf 1 0 (s_ishl (s_iconst 1 (s_aload 0 (s_iload 5 (s_callV G d MX0_endOf 1 0 (s_ishl (s_ior (s_istore 6 (s_iload 3 (s_iload 5 (s_ishr (s_iconst 1 (s_iand (s_iconst 1 (s_ic_ne (s_iinc 5 1 (fun L st h => E G MX8_isOnePiece (d + 1) C S 23 (msk [true, false, true, true, true, true, false] L) st h (RI P))) (s_iload 2 (s_if_eq (s_iload 2 (s_iload 6 (s_ior (s_istore 2 (s_iload 3 (s_iconst 1 (s_iload 5 (s_ishl (s_iconst (-1) (s_ixor (s_iand (s_istore 3 (s_iinc 5 1 (fun L st h => E G MX8_isOnePiece (d + 1) C S 23 (msk [true, false, true, true, true, true, false] L) st h (RI P))))))))))))))) (s_iload 2 (s_iload 6 (s_iand (s_if_eq (s_iinc 5 1 (fun L st h => E G MX8_isOnePiece (d + 1) C S 23 (msk [true, false, true, true, true, true, false] L) st h (RI P))) (s_iload 2 (s_iload 6 (s_ior (s_istore 2 (s_iload 3 (s_iconst 1 (s_iload 5 (s_ishl (s_iconst (-1) (s_ixor (s_iand (s_istore 3 (s_iinc 5 1 (fun L st h => E G MX8_isOnePiece (d + 1) C S 23 (msk [true, false, true, true, true, true, false] L) st h (RI P)))))))))))))))))))))))))))))))))))))))))))) := (e_iload dX8_isOnePiece_23 (e_aload_n dX8_isOnePiece_25 rfl (e_getIN rfl cl_0 (by decide) rfl q_191 dX8_isOnePiece_26 (e_ic_ge (tgt := 92) dX8_isOnePiece_29 (by decide) (e_iinc (v := 1) dX8_isOnePiece_92 (by decide) (by decide) (e_goto (tgt := 7) dX8_isOnePiece_95 (by decide) (e_msk [true, false, true, true, true, false, false]))) (e_iconst (v := 1) dX8_isOnePiece_32 (by decide) (e_aload_n dX8_isOnePiece_33 rfl (e_iload dX8_isOnePiece_34 (e_callV cl_0 cal_X0_startOf q_1361 q_1230 q_1231 dX8_isOnePiece_36 (e_ishl dX8_isOnePiece_39 (e_iconst (v := 1) dX8_isOnePiece_40 (by decide) (e_aload_n dX8_isOnePiece_41 rfl (e_iload dX8_isOnePiece_42 (e_callV cl_0 cal_X0_endOf q_1362 q_1234 q_1235 dX8_isOnePiece_44 (e_ishl dX8_isOnePiece_47 (e_ior dX8_isOnePiece_48 (e_istore dX8_isOnePiece_49 (by decide) (e_iload_n dX8_isOnePiece_51 rfl (e_iload dX8_isOnePiece_52 (e_ishr dX8_isOnePiece_54 (e_iconst (v := 1) dX8_isOnePiece_55 (by decide) (e_iand dX8_isOnePiece_56 (e_iconst (v := 1) dX8_isOnePiece_57 (by decide) (e_ic_ne (tgt := 86) dX8_isOnePiece_58 (by decide) (e_iinc (v := 1) dX8_isOnePiece_86 (by decide) (by decide) (e_goto (tgt := 23) dX8_isOnePiece_89 (by decide) (e_msk [true, false, true, true, true, true, false]))) (e_iload_n dX8_isOnePiece_61 rfl (e_if_eq (tgt := 72) dX8_isOnePiece_62 (by decide) (e_iload_n dX8_isOnePiece_72 rfl (e_iload dX8_isOnePiece_73 (e_ior dX8_isOnePiece_75 (e_istore_n dX8_isOnePiece_76 rfl (by decide) (e_iload_n dX8_isOnePiece_77 rfl (e_iconst (v := 1) dX8_isOnePiece_78 (by decide) (e_iload dX8_isOnePiece_79 (e_ishl dX8_isOnePiece_81 (e_iconst (v := (-1)) dX8_isOnePiece_82 (by decide) (e_ixor dX8_isOnePiece_83 (e_iand dX8_isOnePiece_84 (e_istore_n dX8_isOnePiece_85 rfl (by decide) (e_iinc (v := 1) dX8_isOnePiece_86 (by decide) (by decide) (e_goto (tgt := 23) dX8_isOnePiece_89 (by decide) (e_msk [true, false, true, true, true, true, false]))))))))))))))) (e_iload_n dX8_isOnePiece_65 rfl (e_iload dX8_isOnePiece_66 (e_iand dX8_isOnePiece_68 (e_if_eq (tgt := 86) dX8_isOnePiece_69 (by decide) (e_iinc (v := 1) dX8_isOnePiece_86 (by decide) (by decide) (e_goto (tgt := 23) dX8_isOnePiece_89 (by decide) (e_msk [true, false, true, true, true, true, false]))) (e_iload_n dX8_isOnePiece_72 rfl (e_iload dX8_isOnePiece_73 (e_ior dX8_isOnePiece_75 (e_istore_n dX8_isOnePiece_76 rfl (by decide) (e_iload_n dX8_isOnePiece_77 rfl (e_iconst (v := 1) dX8_isOnePiece_78 (by decide) (e_iload dX8_isOnePiece_79 (e_ishl dX8_isOnePiece_81 (e_iconst (v := (-1)) dX8_isOnePiece_82 (by decide) (e_ixor dX8_isOnePiece_83 (e_iand dX8_isOnePiece_84 (e_istore_n dX8_isOnePiece_85 rfl (by decide) (e_iinc (v := 1) dX8_isOnePiece_86 (by decide) (by decide) (e_goto (tgt := 23) dX8_isOnePiece_89 (by decide) (e_msk [true, false, true, true, true, true, false]))))))))))))))))))))))))))))))))))))))))))))
set_option maxRecDepth 100000 in
theorem V_X8_isOnePiece_23 {G : GE} {d C S : Nat} {P : KI} {a : Nat → Nat → Int32} {r : Nat → Nat → Value} {N : Nat} {l0 : Nat} {l2 : Int32} {l3 : Int32} {l4 : Int32} {l5 : Int32} (hs : (tyK l0 = (0, 0) ∧ l0 < N ∧ (((a l0 1) ≤ l5 → E G MX8_isOnePiece (d + 1) C S 7 [.ref l0, .null, .int l2, .int l3, .int (l4 + 1), .null, .null] [] (a, r, N) (RI P)) ∧ (¬ (a l0 1) ≤ l5 → (tyK l0 = (0, 0) ∧ l0 < N ∧ Sp G d 0 0 MX0_startOf [.ref l0, .int l5] (a, r, N) (RI fun v4 a1 r2 n3 => (tyK l0 = (0, 0) ∧ l0 < n3 ∧ Sp G d 0 0 MX0_endOf [.ref l0, .int l5] (a1, r2, n3) (RI fun v8 a5 r6 n7 => ((¬ ((l3 >>> (l5 &&& 31)) &&& 1) = 1 → E G MX8_isOnePiece (d + 1) C S 23 [.ref l0, .null, .int l2, .int l3, .int l4, .int (l5 + 1), .null] [] (a5, r6, n7) (RI P)) ∧ (((l3 >>> (l5 &&& 31)) &&& 1) = 1 → ((l2 = 0 → E G MX8_isOnePiece (d + 1) C S 23 [.ref l0, .null, .int (l2 ||| (((1 : Int32) <<< (v4 &&& 31)) ||| ((1 : Int32) <<< (v8 &&& 31)))), .int (l3 &&& (((1 : Int32) <<< (l5 &&& 31)) ^^^ (-1))), .int l4, .int (l5 + 1), .null] [] (a5, r6, n7) (RI P)) ∧ (¬ l2 = 0 → (((l2 &&& (((1 : Int32) <<< (v4 &&& 31)) ||| ((1 : Int32) <<< (v8 &&& 31)))) = 0 → E G MX8_isOnePiece (d + 1) C S 23 [.ref l0, .null, .int l2, .int l3, .int l4, .int (l5 + 1), .null] [] (a5, r6, n7) (RI P)) ∧ (¬ (l2 &&& (((1 : Int32) <<< (v4 &&& 31)) ||| ((1 : Int32) <<< (v8 &&& 31)))) = 0 → E G MX8_isOnePiece (d + 1) C S 23 [.ref l0, .null, .int (l2 ||| (((1 : Int32) <<< (v4 &&& 31)) ||| ((1 : Int32) <<< (v8 &&& 31)))), .int (l3 &&& (((1 : Int32) <<< (l5 &&& 31)) ^^^ (-1))), .int l4, .int (l5 + 1), .null] [] (a5, r6, n7) (RI P))))))))))))))) : E G MX8_isOnePiece (d + 1) C S 23 [.ref l0, .null, .int l2, .int l3, .int l4, .int l5, .null] [] (a, r, N) (RI P) := T_X8_isOnePiece_23 _ _ _ hs
