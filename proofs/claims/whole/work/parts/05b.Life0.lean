theorem dX4_init_0 : decode cX4_init 0 = .ok (.aload_n 0, 1) := by decide +kernel
theorem dX4_init_1 : decode cX4_init 1 = .ok (.invokespecial 3, 3) := by decide +kernel
theorem dX4_init_4 : decode cX4_init 4 = .ok (.aload_n 0, 1) := by decide +kernel
theorem dX4_init_5 : decode cX4_init 5 = .ok (.bipush 42, 2) := by decide +kernel
theorem dX4_init_7 : decode cX4_init 7 = .ok (.newarray .int, 2) := by decide +kernel
theorem dX4_init_9 : decode cX4_init 9 = .ok (.putfield 11, 3) := by decide +kernel
theorem dX4_init_12 : decode cX4_init 12 = .ok (.return_, 1) := by decide +kernel
set_option maxRecDepth 100000 in
theorem T_X4_init_0 {G : GE} {d C S : Nat} {P : KN} : Snd G MX4_init (d + 1) (C + 1) (S + 42) 0 (RN P) (s_aload 0 (s_objInit (s_aload 0 (s_iconst 42 (fun L st h => p1 st (fun x _ => x.toNatClampNeg = 42) ∧ s_newI (s_putR 4 0 (s_return P)) L st h))))) := (e_aload_n dX4_init_0 rfl (e_objInit q_322 q_141 q_142 dX4_init_1 (e_aload_n dX4_init_4 rfl (e_bipush (v := 42) dX4_init_5 (by decide) (e_newI (N := 42) q_252 (by decide) dX4_init_7 (e_putRF (ty := .array .int) rfl rfl cl_4 (by decide) rfl rfl rfl (by decide +kernel) (fun _ => ⟨rfl, rfl⟩) q_323 dX4_init_9 (e_return rfl dX4_init_12)))))))
set_option maxRecDepth 100000 in
theorem V_X4_init_0 {G : GE} {d : Nat} {P : KN} {a : Nat → Nat → Int32} {r : Nat → Nat → Value} {N : Nat} {l0 : Nat} (hs : ((42 : Int32).toNatClampNeg = 42 ∧ N < nK ∧ tyK N = (1, (42 : Int32).toNatClampNeg) ∧ ¬ (42 : Int32) < 0 ∧ (∀ j, a N j = 0) ∧ (tyK l0 = (0, 4) ∧ l0 < (N + 1) ∧ ∀ r1, r1 = u2V r l0 0 (.ref N) → P a r1 (N + 1)))) : Sp G (d + 1) 1 42 MX4_init [.ref l0] (a, r, N) (RN P) := Sp.mk (mc := (0 + 1)) (ms := (0 + 42)) [.ref l0] rfl rfl rfl rfl (T_X4_init_0 (C := 0) (S := 0) _ _ _ hs)
theorem dX4_numberOf_0 : decode cX4_numberOf 0 = .ok (.iload_n 0, 1) := by decide +kernel
theorem dX4_numberOf_1 : decode cX4_numberOf 1 = .ok (.lookupswitch 37 #[(1, 27), (2, 33)], 27) := by decide +kernel
theorem dX4_numberOf_28 : decode cX4_numberOf 28 = .ok (.iconst 2, 1) := by decide +kernel
theorem dX4_numberOf_29 : decode cX4_numberOf 29 = .ok (.iload_n 1, 1) := by decide +kernel
theorem dX4_numberOf_30 : decode cX4_numberOf 30 = .ok (.imul, 1) := by decide +kernel
theorem dX4_numberOf_31 : decode cX4_numberOf 31 = .ok (.iconst 1, 1) := by decide +kernel
theorem dX4_numberOf_32 : decode cX4_numberOf 32 = .ok (.isub, 1) := by decide +kernel
theorem dX4_numberOf_33 : decode cX4_numberOf 33 = .ok (.ireturn, 1) := by decide +kernel
theorem dX4_numberOf_34 : decode cX4_numberOf 34 = .ok (.iconst 2, 1) := by decide +kernel
theorem dX4_numberOf_35 : decode cX4_numberOf 35 = .ok (.iload_n 1, 1) := by decide +kernel
theorem dX4_numberOf_36 : decode cX4_numberOf 36 = .ok (.imul, 1) := by decide +kernel
theorem dX4_numberOf_37 : decode cX4_numberOf 37 = .ok (.ireturn, 1) := by decide +kernel
theorem dX4_numberOf_38 : decode cX4_numberOf 38 = .ok (.iload_n 1, 1) := by decide +kernel
theorem dX4_numberOf_39 : decode cX4_numberOf 39 = .ok (.ireturn, 1) := by decide +kernel
set_option maxRecDepth 100000 in
theorem T_X4_numberOf_0 {G : GE} {d C S : Nat} {P : KI} : Snd G MX4_numberOf d C S 0 (RI P) (s_iload 0 (s_switch [(1, (s_iconst 2 (s_iload 1 (s_imul (s_iconst 1 (s_isub (s_ireturn P))))))), (2, (s_iconst 2 (s_iload 1 (s_imul (s_ireturn P)))))] (s_iload 1 (s_ireturn P)))) := (e_iload_n dX4_numberOf_0 rfl (e_lsw (tg := [28, 34]) (td := 38) [1, 2] rfl dX4_numberOf_1 (by decide) (by decide +kernel) (by decide +kernel) rfl (swc (t0 := 28) (e_iconst (v := 2) dX4_numberOf_28 (by decide) (e_iload_n dX4_numberOf_29 rfl (e_imul dX4_numberOf_30 (e_iconst (v := 1) dX4_numberOf_31 (by decide) (e_isub dX4_numberOf_32 (e_ireturn rfl dX4_numberOf_33)))))) (swc (t0 := 34) (e_iconst (v := 2) dX4_numberOf_34 (by decide) (e_iload_n dX4_numberOf_35 rfl (e_imul dX4_numberOf_36 (e_ireturn rfl dX4_numberOf_37)))) swn)) (e_iload_n dX4_numberOf_38 rfl (e_ireturn rfl dX4_numberOf_39))))
set_option maxRecDepth 100000 in
theorem V_X4_numberOf_0 {G : GE} {d : Nat} {P : KI} {a : Nat → Nat → Int32} {r : Nat → Nat → Value} {N : Nat} {l0 : Int32} {l1 : Int32} (hs : ((l0 = 1 → P (((2 : Int32) * l1) - 1) a r N) ∧ (¬ l0 = 1 → ((l0 = 2 → P ((2 : Int32) * l1) a r N) ∧ (¬ l0 = 2 → P l1 a r N))))) : Sp G d 0 0 MX4_numberOf [.int l0, .int l1] (a, r, N) (RI P) := Sp.mk (mc := 0) (ms := 0) [.int l0, .int l1] rfl rfl rfl rfl (T_X4_numberOf_0 (C := 0) (S := 0) _ _ _ hs)
theorem dX4_houseOf_0 : decode cX4_houseOf 0 = .ok (.iload_n 0, 1) := by decide +kernel
theorem dX4_houseOf_1 : decode cX4_houseOf 1 = .ok (.ifCond .ne 7, 3) := by decide +kernel
theorem dX4_houseOf_4 : decode cX4_houseOf 4 = .ok (.iload_n 2, 1) := by decide +kernel
theorem dX4_houseOf_5 : decode cX4_houseOf 5 = .ok (.goto 8, 3) := by decide +kernel
theorem dX4_houseOf_8 : decode cX4_houseOf 8 = .ok (.iload_n 2, 1) := by decide +kernel
theorem dX4_houseOf_9 : decode cX4_houseOf 9 = .ok (.iconst 1, 1) := by decide +kernel
theorem dX4_houseOf_10 : decode cX4_houseOf 10 = .ok (.iadd, 1) := by decide +kernel
theorem dX4_houseOf_11 : decode cX4_houseOf 11 = .ok (.iconst 2, 1) := by decide +kernel
theorem dX4_houseOf_12 : decode cX4_houseOf 12 = .ok (.idiv, 1) := by decide +kernel
theorem dX4_houseOf_13 : decode cX4_houseOf 13 = .ok (.istore_n 3, 1) := by decide +kernel
theorem dX4_houseOf_14 : decode cX4_houseOf 14 = .ok (.iload_n 3, 1) := by decide +kernel
theorem dX4_houseOf_15 : decode cX4_houseOf 15 = .ok (.iload_n 1, 1) := by decide +kernel
theorem dX4_houseOf_16 : decode cX4_houseOf 16 = .ok (.if_icmp .gt 16, 3) := by decide +kernel
theorem dX4_houseOf_19 : decode cX4_houseOf 19 = .ok (.iload_n 0, 1) := by decide +kernel
theorem dX4_houseOf_20 : decode cX4_houseOf 20 = .ok (.iload_n 3, 1) := by decide +kernel
theorem dX4_houseOf_21 : decode cX4_houseOf 21 = .ok (.invokestatic 15, 3) := by decide +kernel
theorem dX4_houseOf_24 : decode cX4_houseOf 24 = .ok (.iload_n 2, 1) := by decide +kernel
theorem dX4_houseOf_25 : decode cX4_houseOf 25 = .ok (.if_icmp .ne 7, 3) := by decide +kernel
theorem dX4_houseOf_28 : decode cX4_houseOf 28 = .ok (.iload_n 3, 1) := by decide +kernel
theorem dX4_houseOf_29 : decode cX4_houseOf 29 = .ok (.goto 4, 3) := by decide +kernel
theorem dX4_houseOf_32 : decode cX4_houseOf 32 = .ok (.iconst 0, 1) := by decide +kernel
theorem dX4_houseOf_33 : decode cX4_houseOf 33 = .ok (.ireturn, 1) := by decide +kernel
set_option maxRecDepth 100000 in
theorem T_X4_houseOf_0 {G : GE} {d C S : Nat} {P : KI} : Snd G MX4_houseOf (d + 1) C S 0 (RI P) (s_iload 0 (s_if_ne (s_iload 2 (s_iconst 1 (s_iadd (s_iconst 2 (s_idiv (s_istore 3 (s_iload 3 (s_iload 1 (s_ic_gt (s_iconst 0 (s_ireturn P)) (s_iload 0 (s_iload 3 (s_call G d MX4_numberOf 2 (s_iload 2 (s_ic_ne (s_iconst 0 (s_ireturn P)) (s_iload 3 (s_ireturn P)))))))))))))))) (s_iload 2 (s_istore 3 (s_iload 3 (s_iload 1 (s_ic_gt (s_iconst 0 (s_ireturn P)) (s_iload 0 (s_iload 3 (s_call G d MX4_numberOf 2 (s_iload 2 (s_ic_ne (s_iconst 0 (s_ireturn P)) (s_iload 3 (s_ireturn P)))))))))))))) := (e_iload_n dX4_houseOf_0 rfl (e_if_ne (tgt := 8) dX4_houseOf_1 (by decide) (e_iload_n dX4_houseOf_8 rfl (e_iconst (v := 1) dX4_houseOf_9 (by decide) (e_iadd dX4_houseOf_10 (e_iconst (v := 2) dX4_houseOf_11 (by decide) (e_idiv dX4_houseOf_12 (e_istore_n dX4_houseOf_13 rfl (by decide) (e_iload_n dX4_houseOf_14 rfl (e_iload_n dX4_houseOf_15 rfl (e_ic_gt (tgt := 32) dX4_houseOf_16 (by decide) (e_iconst (v := 0) dX4_houseOf_32 (by decide) (e_ireturn rfl dX4_houseOf_33)) (e_iload_n dX4_houseOf_19 rfl (e_iload_n dX4_houseOf_20 rfl (e_callS cal_X4_numberOf q_1302 q_1286 dX4_houseOf_21 (e_iload_n dX4_houseOf_24 rfl (e_ic_ne (tgt := 32) dX4_houseOf_25 (by decide) (e_iconst (v := 0) dX4_houseOf_32 (by decide) (e_ireturn rfl dX4_houseOf_33)) (e_iload_n dX4_houseOf_28 rfl (e_goto (tgt := 33) dX4_houseOf_29 (by decide) (e_ireturn rfl dX4_houseOf_33))))))))))))))))) (e_iload_n dX4_houseOf_4 rfl (e_goto (tgt := 13) dX4_houseOf_5 (by decide) (e_istore_n dX4_houseOf_13 rfl (by decide) (e_iload_n dX4_houseOf_14 rfl (e_iload_n dX4_houseOf_15 rfl (e_ic_gt (tgt := 32) dX4_houseOf_16 (by decide) (e_iconst (v := 0) dX4_houseOf_32 (by decide) (e_ireturn rfl dX4_houseOf_33)) (e_iload_n dX4_houseOf_19 rfl (e_iload_n dX4_houseOf_20 rfl (e_callS cal_X4_numberOf q_1302 q_1286 dX4_houseOf_21 (e_iload_n dX4_houseOf_24 rfl (e_ic_ne (tgt := 32) dX4_houseOf_25 (by decide) (e_iconst (v := 0) dX4_houseOf_32 (by decide) (e_ireturn rfl dX4_houseOf_33)) (e_iload_n dX4_houseOf_28 rfl (e_goto (tgt := 33) dX4_houseOf_29 (by decide) (e_ireturn rfl dX4_houseOf_33))))))))))))))))
set_option maxRecDepth 100000 in
theorem V_X4_houseOf_0 {G : GE} {d : Nat} {P : KI} {a : Nat → Nat → Int32} {r : Nat → Nat → Value} {N : Nat} {l0 : Int32} {l1 : Int32} {l2 : Int32} (hs : ((¬ l0 = 0 → (¬ (2 : Int32) = 0 ∧ ((l1 < (((l2 + 1) : Int32) / (2 : Int32)) → P 0 a r N) ∧ (¬ l1 < (((l2 + 1) : Int32) / (2 : Int32)) → Sp G d 0 0 MX4_numberOf [.int l0, .int (((l2 + 1) : Int32) / (2 : Int32))] (a, r, N) (RI fun v4 a1 r2 n3 => ((¬ v4 = l2 → P 0 a1 r2 n3) ∧ (v4 = l2 → P (((l2 + 1) : Int32) / (2 : Int32)) a1 r2 n3))))))) ∧ (l0 = 0 → ((l1 < l2 → P 0 a r N) ∧ (¬ l1 < l2 → Sp G d 0 0 MX4_numberOf [.int l0, .int l2] (a, r, N) (RI fun v8 a5 r6 n7 => ((¬ v8 = l2 → P 0 a5 r6 n7) ∧ (v8 = l2 → P l2 a5 r6 n7)))))))) : Sp G (d + 1) 0 0 MX4_houseOf [.int l0, .int l1, .int l2] (a, r, N) (RI P) := Sp.mk (mc := 0) (ms := 0) [.int l0, .int l1, .int l2, .null] rfl rfl rfl rfl (T_X4_houseOf_0 (C := 0) (S := 0) _ _ _ hs)
theorem dX4_begin_0 : decode cX4_begin 0 = .ok (.aload_n 0, 1) := by decide +kernel
theorem dX4_begin_1 : decode cX4_begin 1 = .ok (.getfield 11, 3) := by decide +kernel
theorem dX4_begin_4 : decode cX4_begin 4 = .ok (.iconst 0, 1) := by decide +kernel
theorem dX4_begin_5 : decode cX4_begin 5 = .ok (.invokestatic 19, 3) := by decide +kernel
theorem dX4_begin_8 : decode cX4_begin 8 = .ok (.iconst 0, 1) := by decide +kernel
theorem dX4_begin_9 : decode cX4_begin 9 = .ok (.istore_n 2, 1) := by decide +kernel
theorem dX4_begin_10 : decode cX4_begin 10 = .ok (.iload_n 2, 1) := by decide +kernel
theorem dX4_begin_11 : decode cX4_begin 11 = .ok (.bipush 8, 2) := by decide +kernel
theorem dX4_begin_13 : decode cX4_begin 13 = .ok (.if_icmp .ge 36, 3) := by decide +kernel
theorem dX4_begin_16 : decode cX4_begin 16 = .ok (.aload_n 0, 1) := by decide +kernel
theorem dX4_begin_17 : decode cX4_begin 17 = .ok (.getfield 11, 3) := by decide +kernel
theorem dX4_begin_20 : decode cX4_begin 20 = .ok (.iconst 0, 1) := by decide +kernel
theorem dX4_begin_21 : decode cX4_begin 21 = .ok (.iload_n 2, 1) := by decide +kernel
theorem dX4_begin_22 : decode cX4_begin 22 = .ok (.iadd, 1) := by decide +kernel
theorem dX4_begin_23 : decode cX4_begin 23 = .ok (.iconst (-1), 1) := by decide +kernel
theorem dX4_begin_24 : decode cX4_begin 24 = .ok (.invokestatic 27, 3) := by decide +kernel
theorem dX4_begin_27 : decode cX4_begin 27 = .ok (.aload_n 0, 1) := by decide +kernel
theorem dX4_begin_28 : decode cX4_begin 28 = .ok (.getfield 11, 3) := by decide +kernel
theorem dX4_begin_31 : decode cX4_begin 31 = .ok (.bipush 24, 2) := by decide +kernel
theorem dX4_begin_33 : decode cX4_begin 33 = .ok (.iload_n 2, 1) := by decide +kernel
theorem dX4_begin_34 : decode cX4_begin 34 = .ok (.iadd, 1) := by decide +kernel
theorem dX4_begin_35 : decode cX4_begin 35 = .ok (.aload_n 1, 1) := by decide +kernel
theorem dX4_begin_36 : decode cX4_begin 36 = .ok (.iload_n 2, 1) := by decide +kernel
theorem dX4_begin_37 : decode cX4_begin 37 = .ok (.invokevirtual 31, 3) := by decide +kernel
theorem dX4_begin_40 : decode cX4_begin 40 = .ok (.invokestatic 27, 3) := by decide +kernel
theorem dX4_begin_43 : decode cX4_begin 43 = .ok (.iinc 2 1, 3) := by decide +kernel
theorem dX4_begin_46 : decode cX4_begin 46 = .ok (.goto (-36), 3) := by decide +kernel
theorem dX4_begin_49 : decode cX4_begin 49 = .ok (.return_, 1) := by decide +kernel
set_option maxRecDepth 100000 in
theorem T_X4_begin_0 {G : GE} {d C S : Nat} {P : KN} : Snd G MX4_begin (d + 1) C S 0 (RN P) (s_aload 0 (s_getR 4 0 (s_iconst 0 (s_call G d MX9_fill 2 (s_iconst 0 (s_istore 2 (fun L st h => E G MX4_begin (d + 1) C S 10 (msk [true, true, true] L) st h (RN P)))))))) := (e_aload_n dX4_begin_0 rfl (e_getR rfl cl_4 (by decide) rfl q_323 dX4_begin_1 (e_iconst (v := 0) dX4_begin_4 (by decide) (e_callS cal_X9_fill q_417 q_181 dX4_begin_5 (e_iconst (v := 0) dX4_begin_8 (by decide) (e_istore_n dX4_begin_9 rfl (by decide) (e_msk [true, true, true])))))))
set_option maxRecDepth 100000 in
theorem V_X4_begin_0 {G : GE} {d : Nat} {P : KN} {a : Nat → Nat → Int32} {r : Nat → Nat → Value} {N : Nat} {l0 : Nat} {l1 : Nat} (hs : (tyK l0 = (0, 4) ∧ l0 < N ∧ ∃ q1, r l0 0 = .ref q1 ∧ Sp G d 0 0 MX9_fill [.ref q1, .int 0] (a, r, N) (RN fun a2 r3 n4 => E G MX4_begin (d + 1) 0 0 10 [.ref l0, .ref l1, .int 0] [] (a2, r3, n4) (RN P)))) : Sp G (d + 1) 0 0 MX4_begin [.ref l0, .ref l1] (a, r, N) (RN P) := Sp.mk (mc := 0) (ms := 0) [.ref l0, .ref l1, .null] rfl rfl rfl rfl (T_X4_begin_0 (C := 0) (S := 0) _ _ _ hs)
set_option maxRecDepth 100000 in
theorem T_X4_begin_10 {G : GE} {d C S : Nat} {P : KN} : Snd G MX4_begin (d + 1) C S 10 (RN P) (s_iload 2 (s_iconst 8 (s_ic_ge (s_return P) (s_aload 0 (s_getR 4 0 (s_iconst 0 (s_iload 2 (s_iadd (s_iconst (-1) (s_call G d MX9_put 3 (s_aload 0 (s_getR 4 0 (s_iconst 24 (s_iload 2 (s_iadd (s_aload 1 (s_iload 2 (s_callV G d MX0_firstTreesOf 1 0 (s_call G d MX9_put 3 (s_iinc 2 1 (fun L st h => E G MX4_begin (d + 1) C S 10 (msk [true, true, true] L) st h (RN P)))))))))))))))))))))) := (e_iload_n dX4_begin_10 rfl (e_bipush (v := 8) dX4_begin_11 (by decide) (e_ic_ge (tgt := 49) dX4_begin_13 (by decide) (e_return rfl dX4_begin_49) (e_aload_n dX4_begin_16 rfl (e_getR rfl cl_4 (by decide) rfl q_323 dX4_begin_17 (e_iconst (v := 0) dX4_begin_20 (by decide) (e_iload_n dX4_begin_21 rfl (e_iadd dX4_begin_22 (e_iconst (v := (-1)) dX4_begin_23 (by decide) (e_callS cal_X9_put q_418 q_419 dX4_begin_24 (e_aload_n dX4_begin_27 rfl (e_getR rfl cl_4 (by decide) rfl q_323 dX4_begin_28 (e_bipush (v := 24) dX4_begin_31 (by decide) (e_iload_n dX4_begin_33 rfl (e_iadd dX4_begin_34 (e_aload_n dX4_begin_35 rfl (e_iload_n dX4_begin_36 rfl (e_callV cl_0 cal_X0_firstTreesOf q_421 q_422 q_423 dX4_begin_37 (e_callS cal_X9_put q_418 q_419 dX4_begin_40 (e_iinc (v := 1) dX4_begin_43 (by decide) (by decide) (e_goto (tgt := 10) dX4_begin_46 (by decide) (e_msk [true, true, true]))))))))))))))))))))))
set_option maxRecDepth 100000 in
theorem V_X4_begin_10 {G : GE} {d C S : Nat} {P : KN} {a : Nat → Nat → Int32} {r : Nat → Nat → Value} {N : Nat} {l0 : Nat} {l1 : Nat} {l2 : Int32} (hs : ((8 ≤ l2 → P a r N) ∧ (¬ 8 ≤ l2 → (tyK l0 = (0, 4) ∧ l0 < N ∧ ∃ q1, r l0 0 = .ref q1 ∧ Sp G d 0 0 MX9_put [.ref q1, .int ((0 : Int32) + l2), .int (-1)] (a, r, N) (RN fun a2 r3 n4 => (tyK l0 = (0, 4) ∧ l0 < n4 ∧ ∃ q5, r3 l0 0 = .ref q5 ∧ (tyK l1 = (0, 0) ∧ l1 < n4 ∧ Sp G d 0 0 MX0_firstTreesOf [.ref l1, .int l2] (a2, r3, n4) (RI fun v9 a6 r7 n8 => Sp G d 0 0 MX9_put [.ref q5, .int ((24 : Int32) + l2), .int v9] (a6, r7, n8) (RN fun a10 r11 n12 => E G MX4_begin (d + 1) C S 10 [.ref l0, .ref l1, .int (l2 + 1)] [] (a10, r11, n12) (RN P)))))))))) : E G MX4_begin (d + 1) C S 10 [.ref l0, .ref l1, .int l2] [] (a, r, N) (RN P) := T_X4_begin_10 _ _ _ hs
theorem dX4_copyFrom_0 : decode cX4_copyFrom 0 = .ok (.aload_n 1, 1) := by decide +kernel
theorem dX4_copyFrom_1 : decode cX4_copyFrom 1 = .ok (.getfield 11, 3) := by decide +kernel
theorem dX4_copyFrom_4 : decode cX4_copyFrom 4 = .ok (.iconst 0, 1) := by decide +kernel
theorem dX4_copyFrom_5 : decode cX4_copyFrom 5 = .ok (.aload_n 0, 1) := by decide +kernel
theorem dX4_copyFrom_6 : decode cX4_copyFrom 6 = .ok (.getfield 11, 3) := by decide +kernel
theorem dX4_copyFrom_9 : decode cX4_copyFrom 9 = .ok (.iconst 0, 1) := by decide +kernel
theorem dX4_copyFrom_10 : decode cX4_copyFrom 10 = .ok (.bipush 42, 2) := by decide +kernel
theorem dX4_copyFrom_12 : decode cX4_copyFrom 12 = .ok (.invokestatic 35, 3) := by decide +kernel
theorem dX4_copyFrom_15 : decode cX4_copyFrom 15 = .ok (.return_, 1) := by decide +kernel
set_option maxRecDepth 100000 in
theorem T_X4_copyFrom_0 {G : GE} {d C S : Nat} {P : KN} : Snd G MX4_copyFrom (d + 1) C S 0 (RN P) (s_aload 1 (s_getR 4 0 (s_iconst 0 (s_aload 0 (s_getR 4 0 (s_iconst 0 (s_iconst 42 (s_call G d MX9_copy 5 (s_return P))))))))) := (e_aload_n dX4_copyFrom_0 rfl (e_getR rfl cl_4 (by decide) rfl q_323 dX4_copyFrom_1 (e_iconst (v := 0) dX4_copyFrom_4 (by decide) (e_aload_n dX4_copyFrom_5 rfl (e_getR rfl cl_4 (by decide) rfl q_323 dX4_copyFrom_6 (e_iconst (v := 0) dX4_copyFrom_9 (by decide) (e_bipush (v := 42) dX4_copyFrom_10 (by decide) (e_callS cal_X9_copy q_513 q_514 dX4_copyFrom_12 (e_return rfl dX4_copyFrom_15)))))))))
set_option maxRecDepth 100000 in
theorem V_X4_copyFrom_0 {G : GE} {d : Nat} {P : KN} {a : Nat → Nat → Int32} {r : Nat → Nat → Value} {N : Nat} {l0 : Nat} {l1 : Nat} (hs : (tyK l1 = (0, 4) ∧ l1 < N ∧ ∃ q1, r l1 0 = .ref q1 ∧ (tyK l0 = (0, 4) ∧ l0 < N ∧ ∃ q2, r l0 0 = .ref q2 ∧ Sp G d 0 0 MX9_copy [.ref q1, .int 0, .ref q2, .int 0, .int 42] (a, r, N) (RN fun a3 r4 n5 => P a3 r4 n5)))) : Sp G (d + 1) 0 0 MX4_copyFrom [.ref l0, .ref l1] (a, r, N) (RN P) := Sp.mk (mc := 0) (ms := 0) [.ref l0, .ref l1] rfl rfl rfl rfl (T_X4_copyFrom_0 (C := 0) (S := 0) _ _ _ hs)
theorem dX4_saveTo_0 : decode cX4_saveTo 0 = .ok (.aload_n 0, 1) := by decide +kernel
theorem dX4_saveTo_1 : decode cX4_saveTo 1 = .ok (.getfield 11, 3) := by decide +kernel
theorem dX4_saveTo_4 : decode cX4_saveTo 4 = .ok (.iconst 0, 1) := by decide +kernel
theorem dX4_saveTo_5 : decode cX4_saveTo 5 = .ok (.aload_n 1, 1) := by decide +kernel
theorem dX4_saveTo_6 : decode cX4_saveTo 6 = .ok (.iload_n 2, 1) := by decide +kernel
theorem dX4_saveTo_7 : decode cX4_saveTo 7 = .ok (.bipush 42, 2) := by decide +kernel
theorem dX4_saveTo_9 : decode cX4_saveTo 9 = .ok (.invokestatic 35, 3) := by decide +kernel
theorem dX4_saveTo_12 : decode cX4_saveTo 12 = .ok (.return_, 1) := by decide +kernel
set_option maxRecDepth 100000 in
theorem T_X4_saveTo_0 {G : GE} {d C S : Nat} {P : KN} : Snd G MX4_saveTo (d + 1) C S 0 (RN P) (s_aload 0 (s_getR 4 0 (s_iconst 0 (s_aload 1 (s_iload 2 (s_iconst 42 (s_call G d MX9_copy 5 (s_return P)))))))) := (e_aload_n dX4_saveTo_0 rfl (e_getR rfl cl_4 (by decide) rfl q_323 dX4_saveTo_1 (e_iconst (v := 0) dX4_saveTo_4 (by decide) (e_aload_n dX4_saveTo_5 rfl (e_iload_n dX4_saveTo_6 rfl (e_bipush (v := 42) dX4_saveTo_7 (by decide) (e_callS cal_X9_copy q_513 q_514 dX4_saveTo_9 (e_return rfl dX4_saveTo_12))))))))
set_option maxRecDepth 100000 in
theorem V_X4_saveTo_0 {G : GE} {d : Nat} {P : KN} {a : Nat → Nat → Int32} {r : Nat → Nat → Value} {N : Nat} {l0 : Nat} {l1 : Nat} {l2 : Int32} (hs : (tyK l0 = (0, 4) ∧ l0 < N ∧ ∃ q1, r l0 0 = .ref q1 ∧ Sp G d 0 0 MX9_copy [.ref q1, .int 0, .ref l1, .int l2, .int 42] (a, r, N) (RN fun a2 r3 n4 => P a2 r3 n4))) : Sp G (d + 1) 0 0 MX4_saveTo [.ref l0, .ref l1, .int l2] (a, r, N) (RN P) := Sp.mk (mc := 0) (ms := 0) [.ref l0, .ref l1, .int l2] rfl rfl rfl rfl (T_X4_saveTo_0 (C := 0) (S := 0) _ _ _ hs)
theorem dX4_loadFrom_0 : decode cX4_loadFrom 0 = .ok (.aload_n 1, 1) := by decide +kernel
theorem dX4_loadFrom_1 : decode cX4_loadFrom 1 = .ok (.iload_n 2, 1) := by decide +kernel
theorem dX4_loadFrom_2 : decode cX4_loadFrom 2 = .ok (.aload_n 0, 1) := by decide +kernel
theorem dX4_loadFrom_3 : decode cX4_loadFrom 3 = .ok (.getfield 11, 3) := by decide +kernel
theorem dX4_loadFrom_6 : decode cX4_loadFrom 6 = .ok (.iconst 0, 1) := by decide +kernel
theorem dX4_loadFrom_7 : decode cX4_loadFrom 7 = .ok (.bipush 42, 2) := by decide +kernel
theorem dX4_loadFrom_9 : decode cX4_loadFrom 9 = .ok (.invokestatic 35, 3) := by decide +kernel
theorem dX4_loadFrom_12 : decode cX4_loadFrom 12 = .ok (.return_, 1) := by decide +kernel
set_option maxRecDepth 100000 in
theorem T_X4_loadFrom_0 {G : GE} {d C S : Nat} {P : KN} : Snd G MX4_loadFrom (d + 1) C S 0 (RN P) (s_aload 1 (s_iload 2 (s_aload 0 (s_getR 4 0 (s_iconst 0 (s_iconst 42 (s_call G d MX9_copy 5 (s_return P)))))))) := (e_aload_n dX4_loadFrom_0 rfl (e_iload_n dX4_loadFrom_1 rfl (e_aload_n dX4_loadFrom_2 rfl (e_getR rfl cl_4 (by decide) rfl q_323 dX4_loadFrom_3 (e_iconst (v := 0) dX4_loadFrom_6 (by decide) (e_bipush (v := 42) dX4_loadFrom_7 (by decide) (e_callS cal_X9_copy q_513 q_514 dX4_loadFrom_9 (e_return rfl dX4_loadFrom_12))))))))
set_option maxRecDepth 100000 in
theorem V_X4_loadFrom_0 {G : GE} {d : Nat} {P : KN} {a : Nat → Nat → Int32} {r : Nat → Nat → Value} {N : Nat} {l0 : Nat} {l1 : Nat} {l2 : Int32} (hs : (tyK l0 = (0, 4) ∧ l0 < N ∧ ∃ q1, r l0 0 = .ref q1 ∧ Sp G d 0 0 MX9_copy [.ref l1, .int l2, .ref q1, .int 0, .int 42] (a, r, N) (RN fun a2 r3 n4 => P a2 r3 n4))) : Sp G (d + 1) 0 0 MX4_loadFrom [.ref l0, .ref l1, .int l2] (a, r, N) (RN P) := Sp.mk (mc := 0) (ms := 0) [.ref l0, .ref l1, .int l2] rfl rfl rfl rfl (T_X4_loadFrom_0 (C := 0) (S := 0) _ _ _ hs)
theorem dX4_mateOf_0 : decode cX4_mateOf 0 = .ok (.aload_n 0, 1) := by decide +kernel
theorem dX4_mateOf_1 : decode cX4_mateOf 1 = .ok (.getfield 11, 3) := by decide +kernel
theorem dX4_mateOf_4 : decode cX4_mateOf 4 = .ok (.iconst 0, 1) := by decide +kernel
theorem dX4_mateOf_5 : decode cX4_mateOf 5 = .ok (.iload_n 1, 1) := by decide +kernel
theorem dX4_mateOf_6 : decode cX4_mateOf 6 = .ok (.iadd, 1) := by decide +kernel
theorem dX4_mateOf_7 : decode cX4_mateOf 7 = .ok (.invokestatic 39, 3) := by decide +kernel
theorem dX4_mateOf_10 : decode cX4_mateOf 10 = .ok (.ireturn, 1) := by decide +kernel
set_option maxRecDepth 100000 in
theorem T_X4_mateOf_0 {G : GE} {d C S : Nat} {P : KI} : Snd G MX4_mateOf (d + 1) C S 0 (RI P) (s_aload 0 (s_getR 4 0 (s_iconst 0 (s_iload 1 (s_iadd (s_call G d MX9_at 2 (s_ireturn P))))))) := (e_aload_n dX4_mateOf_0 rfl (e_getR rfl cl_4 (by decide) rfl q_323 dX4_mateOf_1 (e_iconst (v := 0) dX4_mateOf_4 (by decide) (e_iload_n dX4_mateOf_5 rfl (e_iadd dX4_mateOf_6 (e_callS cal_X9_at q_534 q_426 dX4_mateOf_7 (e_ireturn rfl dX4_mateOf_10)))))))
set_option maxRecDepth 100000 in
theorem V_X4_mateOf_0 {G : GE} {d : Nat} {P : KI} {a : Nat → Nat → Int32} {r : Nat → Nat → Value} {N : Nat} {l0 : Nat} {l1 : Int32} (hs : (tyK l0 = (0, 4) ∧ l0 < N ∧ ∃ q1, r l0 0 = .ref q1 ∧ Sp G d 0 0 MX9_at [.ref q1, .int ((0 : Int32) + l1)] (a, r, N) (RI fun v5 a2 r3 n4 => P v5 a2 r3 n4))) : Sp G (d + 1) 0 0 MX4_mateOf [.ref l0, .int l1] (a, r, N) (RI P) := Sp.mk (mc := 0) (ms := 0) [.ref l0, .int l1] rfl rfl rfl rfl (T_X4_mateOf_0 (C := 0) (S := 0) _ _ _ hs)
theorem dX4_roleOf_0 : decode cX4_roleOf 0 = .ok (.aload_n 0, 1) := by decide +kernel
theorem dX4_roleOf_1 : decode cX4_roleOf 1 = .ok (.getfield 11, 3) := by decide +kernel
theorem dX4_roleOf_4 : decode cX4_roleOf 4 = .ok (.bipush 8, 2) := by decide +kernel
theorem dX4_roleOf_6 : decode cX4_roleOf 6 = .ok (.iload_n 1, 1) := by decide +kernel
theorem dX4_roleOf_7 : decode cX4_roleOf 7 = .ok (.iadd, 1) := by decide +kernel
theorem dX4_roleOf_8 : decode cX4_roleOf 8 = .ok (.invokestatic 39, 3) := by decide +kernel
theorem dX4_roleOf_11 : decode cX4_roleOf 11 = .ok (.ireturn, 1) := by decide +kernel
set_option maxRecDepth 100000 in
theorem T_X4_roleOf_0 {G : GE} {d C S : Nat} {P : KI} : Snd G MX4_roleOf (d + 1) C S 0 (RI P) (s_aload 0 (s_getR 4 0 (s_iconst 8 (s_iload 1 (s_iadd (s_call G d MX9_at 2 (s_ireturn P))))))) := (e_aload_n dX4_roleOf_0 rfl (e_getR rfl cl_4 (by decide) rfl q_323 dX4_roleOf_1 (e_bipush (v := 8) dX4_roleOf_4 (by decide) (e_iload_n dX4_roleOf_6 rfl (e_iadd dX4_roleOf_7 (e_callS cal_X9_at q_534 q_426 dX4_roleOf_8 (e_ireturn rfl dX4_roleOf_11)))))))
set_option maxRecDepth 100000 in
theorem V_X4_roleOf_0 {G : GE} {d : Nat} {P : KI} {a : Nat → Nat → Int32} {r : Nat → Nat → Value} {N : Nat} {l0 : Nat} {l1 : Int32} (hs : (tyK l0 = (0, 4) ∧ l0 < N ∧ ∃ q1, r l0 0 = .ref q1 ∧ Sp G d 0 0 MX9_at [.ref q1, .int ((8 : Int32) + l1)] (a, r, N) (RI fun v5 a2 r3 n4 => P v5 a2 r3 n4))) : Sp G (d + 1) 0 0 MX4_roleOf [.ref l0, .int l1] (a, r, N) (RI P) := Sp.mk (mc := 0) (ms := 0) [.ref l0, .int l1] rfl rfl rfl rfl (T_X4_roleOf_0 (C := 0) (S := 0) _ _ _ hs)
theorem dX4_yearsOf_0 : decode cX4_yearsOf 0 = .ok (.aload_n 0, 1) := by decide +kernel
theorem dX4_yearsOf_1 : decode cX4_yearsOf 1 = .ok (.getfield 11, 3) := by decide +kernel
theorem dX4_yearsOf_4 : decode cX4_yearsOf 4 = .ok (.bipush 16, 2) := by decide +kernel
theorem dX4_yearsOf_6 : decode cX4_yearsOf 6 = .ok (.iload_n 1, 1) := by decide +kernel
theorem dX4_yearsOf_7 : decode cX4_yearsOf 7 = .ok (.iadd, 1) := by decide +kernel
theorem dX4_yearsOf_8 : decode cX4_yearsOf 8 = .ok (.invokestatic 39, 3) := by decide +kernel
theorem dX4_yearsOf_11 : decode cX4_yearsOf 11 = .ok (.ireturn, 1) := by decide +kernel
set_option maxRecDepth 100000 in
theorem T_X4_yearsOf_0 {G : GE} {d C S : Nat} {P : KI} : Snd G MX4_yearsOf (d + 1) C S 0 (RI P) (s_aload 0 (s_getR 4 0 (s_iconst 16 (s_iload 1 (s_iadd (s_call G d MX9_at 2 (s_ireturn P))))))) := (e_aload_n dX4_yearsOf_0 rfl (e_getR rfl cl_4 (by decide) rfl q_323 dX4_yearsOf_1 (e_bipush (v := 16) dX4_yearsOf_4 (by decide) (e_iload_n dX4_yearsOf_6 rfl (e_iadd dX4_yearsOf_7 (e_callS cal_X9_at q_534 q_426 dX4_yearsOf_8 (e_ireturn rfl dX4_yearsOf_11)))))))
set_option maxRecDepth 100000 in
theorem V_X4_yearsOf_0 {G : GE} {d : Nat} {P : KI} {a : Nat → Nat → Int32} {r : Nat → Nat → Value} {N : Nat} {l0 : Nat} {l1 : Int32} (hs : (tyK l0 = (0, 4) ∧ l0 < N ∧ ∃ q1, r l0 0 = .ref q1 ∧ Sp G d 0 0 MX9_at [.ref q1, .int ((16 : Int32) + l1)] (a, r, N) (RI fun v5 a2 r3 n4 => P v5 a2 r3 n4))) : Sp G (d + 1) 0 0 MX4_yearsOf [.ref l0, .int l1] (a, r, N) (RI P) := Sp.mk (mc := 0) (ms := 0) [.ref l0, .int l1] rfl rfl rfl rfl (T_X4_yearsOf_0 (C := 0) (S := 0) _ _ _ hs)
theorem dX4_treesOf_0 : decode cX4_treesOf 0 = .ok (.aload_n 0, 1) := by decide +kernel
theorem dX4_treesOf_1 : decode cX4_treesOf 1 = .ok (.getfield 11, 3) := by decide +kernel
theorem dX4_treesOf_4 : decode cX4_treesOf 4 = .ok (.bipush 24, 2) := by decide +kernel
theorem dX4_treesOf_6 : decode cX4_treesOf 6 = .ok (.iload_n 1, 1) := by decide +kernel
theorem dX4_treesOf_7 : decode cX4_treesOf 7 = .ok (.iadd, 1) := by decide +kernel
theorem dX4_treesOf_8 : decode cX4_treesOf 8 = .ok (.invokestatic 39, 3) := by decide +kernel
theorem dX4_treesOf_11 : decode cX4_treesOf 11 = .ok (.ireturn, 1) := by decide +kernel
set_option maxRecDepth 100000 in
theorem T_X4_treesOf_0 {G : GE} {d C S : Nat} {P : KI} : Snd G MX4_treesOf (d + 1) C S 0 (RI P) (s_aload 0 (s_getR 4 0 (s_iconst 24 (s_iload 1 (s_iadd (s_call G d MX9_at 2 (s_ireturn P))))))) := (e_aload_n dX4_treesOf_0 rfl (e_getR rfl cl_4 (by decide) rfl q_323 dX4_treesOf_1 (e_bipush (v := 24) dX4_treesOf_4 (by decide) (e_iload_n dX4_treesOf_6 rfl (e_iadd dX4_treesOf_7 (e_callS cal_X9_at q_534 q_426 dX4_treesOf_8 (e_ireturn rfl dX4_treesOf_11)))))))
set_option maxRecDepth 100000 in
theorem V_X4_treesOf_0 {G : GE} {d : Nat} {P : KI} {a : Nat → Nat → Int32} {r : Nat → Nat → Value} {N : Nat} {l0 : Nat} {l1 : Int32} (hs : (tyK l0 = (0, 4) ∧ l0 < N ∧ ∃ q1, r l0 0 = .ref q1 ∧ Sp G d 0 0 MX9_at [.ref q1, .int ((24 : Int32) + l1)] (a, r, N) (RI fun v5 a2 r3 n4 => P v5 a2 r3 n4))) : Sp G (d + 1) 0 0 MX4_treesOf [.ref l0, .int l1] (a, r, N) (RI P) := Sp.mk (mc := 0) (ms := 0) [.ref l0, .int l1] rfl rfl rfl rfl (T_X4_treesOf_0 (C := 0) (S := 0) _ _ _ hs)
theorem dX4_holesOf_0 : decode cX4_holesOf 0 = .ok (.aload_n 0, 1) := by decide +kernel
theorem dX4_holesOf_1 : decode cX4_holesOf 1 = .ok (.getfield 11, 3) := by decide +kernel
theorem dX4_holesOf_4 : decode cX4_holesOf 4 = .ok (.bipush 32, 2) := by decide +kernel
theorem dX4_holesOf_6 : decode cX4_holesOf 6 = .ok (.iload_n 1, 1) := by decide +kernel
theorem dX4_holesOf_7 : decode cX4_holesOf 7 = .ok (.iadd, 1) := by decide +kernel
theorem dX4_holesOf_8 : decode cX4_holesOf 8 = .ok (.invokestatic 39, 3) := by decide +kernel
theorem dX4_holesOf_11 : decode cX4_holesOf 11 = .ok (.ireturn, 1) := by decide +kernel
set_option maxRecDepth 100000 in
theorem T_X4_holesOf_0 {G : GE} {d C S : Nat} {P : KI} : Snd G MX4_holesOf (d + 1) C S 0 (RI P) (s_aload 0 (s_getR 4 0 (s_iconst 32 (s_iload 1 (s_iadd (s_call G d MX9_at 2 (s_ireturn P))))))) := (e_aload_n dX4_holesOf_0 rfl (e_getR rfl cl_4 (by decide) rfl q_323 dX4_holesOf_1 (e_bipush (v := 32) dX4_holesOf_4 (by decide) (e_iload_n dX4_holesOf_6 rfl (e_iadd dX4_holesOf_7 (e_callS cal_X9_at q_534 q_426 dX4_holesOf_8 (e_ireturn rfl dX4_holesOf_11)))))))
set_option maxRecDepth 100000 in
theorem V_X4_holesOf_0 {G : GE} {d : Nat} {P : KI} {a : Nat → Nat → Int32} {r : Nat → Nat → Value} {N : Nat} {l0 : Nat} {l1 : Int32} (hs : (tyK l0 = (0, 4) ∧ l0 < N ∧ ∃ q1, r l0 0 = .ref q1 ∧ Sp G d 0 0 MX9_at [.ref q1, .int ((32 : Int32) + l1)] (a, r, N) (RI fun v5 a2 r3 n4 => P v5 a2 r3 n4))) : Sp G (d + 1) 0 0 MX4_holesOf [.ref l0, .int l1] (a, r, N) (RI P) := Sp.mk (mc := 0) (ms := 0) [.ref l0, .int l1] rfl rfl rfl rfl (T_X4_holesOf_0 (C := 0) (S := 0) _ _ _ hs)
theorem dX4_yearNow_0 : decode cX4_yearNow 0 = .ok (.aload_n 0, 1) := by decide +kernel
theorem dX4_yearNow_1 : decode cX4_yearNow 1 = .ok (.getfield 11, 3) := by decide +kernel
theorem dX4_yearNow_4 : decode cX4_yearNow 4 = .ok (.bipush 40, 2) := by decide +kernel
theorem dX4_yearNow_6 : decode cX4_yearNow 6 = .ok (.invokestatic 39, 3) := by decide +kernel
theorem dX4_yearNow_9 : decode cX4_yearNow 9 = .ok (.ireturn, 1) := by decide +kernel
set_option maxRecDepth 100000 in
theorem T_X4_yearNow_0 {G : GE} {d C S : Nat} {P : KI} : Snd G MX4_yearNow (d + 1) C S 0 (RI P) (s_aload 0 (s_getR 4 0 (s_iconst 40 (s_call G d MX9_at 2 (s_ireturn P))))) := (e_aload_n dX4_yearNow_0 rfl (e_getR rfl cl_4 (by decide) rfl q_323 dX4_yearNow_1 (e_bipush (v := 40) dX4_yearNow_4 (by decide) (e_callS cal_X9_at q_534 q_426 dX4_yearNow_6 (e_ireturn rfl dX4_yearNow_9)))))
set_option maxRecDepth 100000 in
theorem V_X4_yearNow_0 {G : GE} {d : Nat} {P : KI} {a : Nat → Nat → Int32} {r : Nat → Nat → Value} {N : Nat} {l0 : Nat} (hs : (tyK l0 = (0, 4) ∧ l0 < N ∧ ∃ q1, r l0 0 = .ref q1 ∧ Sp G d 0 0 MX9_at [.ref q1, .int 40] (a, r, N) (RI fun v5 a2 r3 n4 => P v5 a2 r3 n4))) : Sp G (d + 1) 0 0 MX4_yearNow [.ref l0] (a, r, N) (RI P) := Sp.mk (mc := 0) (ms := 0) [.ref l0] rfl rfl rfl rfl (T_X4_yearNow_0 (C := 0) (S := 0) _ _ _ hs)
theorem dX4_partedSoFar_0 : decode cX4_partedSoFar 0 = .ok (.aload_n 0, 1) := by decide +kernel
theorem dX4_partedSoFar_1 : decode cX4_partedSoFar 1 = .ok (.getfield 11, 3) := by decide +kernel
theorem dX4_partedSoFar_4 : decode cX4_partedSoFar 4 = .ok (.bipush 41, 2) := by decide +kernel
theorem dX4_partedSoFar_6 : decode cX4_partedSoFar 6 = .ok (.invokestatic 39, 3) := by decide +kernel
theorem dX4_partedSoFar_9 : decode cX4_partedSoFar 9 = .ok (.ireturn, 1) := by decide +kernel
set_option maxRecDepth 100000 in
theorem T_X4_partedSoFar_0 {G : GE} {d C S : Nat} {P : KI} : Snd G MX4_partedSoFar (d + 1) C S 0 (RI P) (s_aload 0 (s_getR 4 0 (s_iconst 41 (s_call G d MX9_at 2 (s_ireturn P))))) := (e_aload_n dX4_partedSoFar_0 rfl (e_getR rfl cl_4 (by decide) rfl q_323 dX4_partedSoFar_1 (e_bipush (v := 41) dX4_partedSoFar_4 (by decide) (e_callS cal_X9_at q_534 q_426 dX4_partedSoFar_6 (e_ireturn rfl dX4_partedSoFar_9)))))
set_option maxRecDepth 100000 in
theorem V_X4_partedSoFar_0 {G : GE} {d : Nat} {P : KI} {a : Nat → Nat → Int32} {r : Nat → Nat → Value} {N : Nat} {l0 : Nat} (hs : (tyK l0 = (0, 4) ∧ l0 < N ∧ ∃ q1, r l0 0 = .ref q1 ∧ Sp G d 0 0 MX9_at [.ref q1, .int 41] (a, r, N) (RI fun v5 a2 r3 n4 => P v5 a2 r3 n4))) : Sp G (d + 1) 0 0 MX4_partedSoFar [.ref l0] (a, r, N) (RI P) := Sp.mk (mc := 0) (ms := 0) [.ref l0] rfl rfl rfl rfl (T_X4_partedSoFar_0 (C := 0) (S := 0) _ _ _ hs)
theorem dX4_couples_0 : decode cX4_couples 0 = .ok (.iconst 0, 1) := by decide +kernel
theorem dX4_couples_1 : decode cX4_couples 1 = .ok (.istore_n 1, 1) := by decide +kernel
theorem dX4_couples_2 : decode cX4_couples 2 = .ok (.iconst 0, 1) := by decide +kernel
theorem dX4_couples_3 : decode cX4_couples 3 = .ok (.istore_n 2, 1) := by decide +kernel
theorem dX4_couples_4 : decode cX4_couples 4 = .ok (.iload_n 2, 1) := by decide +kernel
theorem dX4_couples_5 : decode cX4_couples 5 = .ok (.bipush 8, 2) := by decide +kernel
theorem dX4_couples_7 : decode cX4_couples 7 = .ok (.if_icmp .ge 26, 3) := by decide +kernel
theorem dX4_couples_10 : decode cX4_couples 10 = .ok (.iload_n 1, 1) := by decide +kernel
theorem dX4_couples_11 : decode cX4_couples 11 = .ok (.aload_n 0, 1) := by decide +kernel
theorem dX4_couples_12 : decode cX4_couples 12 = .ok (.iload_n 2, 1) := by decide +kernel
theorem dX4_couples_13 : decode cX4_couples 13 = .ok (.invokevirtual 43, 3) := by decide +kernel
theorem dX4_couples_16 : decode cX4_couples 16 = .ok (.iconst 1, 1) := by decide +kernel
theorem dX4_couples_17 : decode cX4_couples 17 = .ok (.if_icmp .ne 7, 3) := by decide +kernel
theorem dX4_couples_20 : decode cX4_couples 20 = .ok (.iconst 1, 1) := by decide +kernel
theorem dX4_couples_21 : decode cX4_couples 21 = .ok (.goto 4, 3) := by decide +kernel
theorem dX4_couples_24 : decode cX4_couples 24 = .ok (.iconst 0, 1) := by decide +kernel
theorem dX4_couples_25 : decode cX4_couples 25 = .ok (.iadd, 1) := by decide +kernel
theorem dX4_couples_26 : decode cX4_couples 26 = .ok (.istore_n 1, 1) := by decide +kernel
theorem dX4_couples_27 : decode cX4_couples 27 = .ok (.iinc 2 1, 3) := by decide +kernel
theorem dX4_couples_30 : decode cX4_couples 30 = .ok (.goto (-26), 3) := by decide +kernel
theorem dX4_couples_33 : decode cX4_couples 33 = .ok (.iload_n 1, 1) := by decide +kernel
theorem dX4_couples_34 : decode cX4_couples 34 = .ok (.ireturn, 1) := by decide +kernel
set_option maxRecDepth 100000 in
theorem T_X4_couples_0 {G : GE} {d C S : Nat} {P : KI} : Snd G MX4_couples (d + 1) C S 0 (RI P) (s_iconst 0 (s_istore 1 (s_iconst 0 (s_istore 2 (fun L st h => E G MX4_couples (d + 1) C S 4 (msk [true, true, true] L) st h (RI P)))))) := (e_iconst (v := 0) dX4_couples_0 (by decide) (e_istore_n dX4_couples_1 rfl (by decide) (e_iconst (v := 0) dX4_couples_2 (by decide) (e_istore_n dX4_couples_3 rfl (by decide) (e_msk [true, true, true])))))
set_option maxRecDepth 100000 in
theorem V_X4_couples_0 {G : GE} {d : Nat} {P : KI} {a : Nat → Nat → Int32} {r : Nat → Nat → Value} {N : Nat} {l0 : Nat} (hs : E G MX4_couples (d + 1) 0 0 4 [.ref l0, .int 0, .int 0] [] (a, r, N) (RI P)) : Sp G (d + 1) 0 0 MX4_couples [.ref l0] (a, r, N) (RI P) := Sp.mk (mc := 0) (ms := 0) [.ref l0, .null, .null] rfl rfl rfl rfl (T_X4_couples_0 (C := 0) (S := 0) _ _ _ hs)
set_option maxRecDepth 100000 in
theorem T_X4_couples_4 {G : GE} {d C S : Nat} {P : KI} : Snd G MX4_couples (d + 1) C S 4 (RI P) (s_iload 2 (s_iconst 8 (s_ic_ge (s_iload 1 (s_ireturn P)) (s_iload 1 (s_aload 0 (s_iload 2 (s_callV G d MX4_roleOf 1 4 (s_iconst 1 (s_ic_ne (s_iconst 0 (s_iadd (s_istore 1 (s_iinc 2 1 (fun L st h => E G MX4_couples (d + 1) C S 4 (msk [true, true, true] L) st h (RI P)))))) (s_iconst 1 (s_iadd (s_istore 1 (s_iinc 2 1 (fun L st h => E G MX4_couples (d + 1) C S 4 (msk [true, true, true] L) st h (RI P))))))))))))))) := (e_iload_n dX4_couples_4 rfl (e_bipush (v := 8) dX4_couples_5 (by decide) (e_ic_ge (tgt := 33) dX4_couples_7 (by decide) (e_iload_n dX4_couples_33 rfl (e_ireturn rfl dX4_couples_34)) (e_iload_n dX4_couples_10 rfl (e_aload_n dX4_couples_11 rfl (e_iload_n dX4_couples_12 rfl (e_callV cl_4 cal_X4_roleOf q_1111 q_1112 q_1113 dX4_couples_13 (e_iconst (v := 1) dX4_couples_16 (by decide) (e_ic_ne (tgt := 24) dX4_couples_17 (by decide) (e_iconst (v := 0) dX4_couples_24 (by decide) (e_iadd dX4_couples_25 (e_istore_n dX4_couples_26 rfl (by decide) (e_iinc (v := 1) dX4_couples_27 (by decide) (by decide) (e_goto (tgt := 4) dX4_couples_30 (by decide) (e_msk [true, true, true])))))) (e_iconst (v := 1) dX4_couples_20 (by decide) (e_goto (tgt := 25) dX4_couples_21 (by decide) (e_iadd dX4_couples_25 (e_istore_n dX4_couples_26 rfl (by decide) (e_iinc (v := 1) dX4_couples_27 (by decide) (by decide) (e_goto (tgt := 4) dX4_couples_30 (by decide) (e_msk [true, true, true]))))))))))))))))
set_option maxRecDepth 100000 in
theorem V_X4_couples_4 {G : GE} {d C S : Nat} {P : KI} {a : Nat → Nat → Int32} {r : Nat → Nat → Value} {N : Nat} {l0 : Nat} {l1 : Int32} {l2 : Int32} (hs : ((8 ≤ l2 → P l1 a r N) ∧ (¬ 8 ≤ l2 → (tyK l0 = (0, 4) ∧ l0 < N ∧ Sp G d 0 0 MX4_roleOf [.ref l0, .int l2] (a, r, N) (RI fun v4 a1 r2 n3 => ((¬ v4 = 1 → E G MX4_couples (d + 1) C S 4 [.ref l0, .int (l1 + 0), .int (l2 + 1)] [] (a1, r2, n3) (RI P)) ∧ (v4 = 1 → E G MX4_couples (d + 1) C S 4 [.ref l0, .int (l1 + 1), .int (l2 + 1)] [] (a1, r2, n3) (RI P)))))))) : E G MX4_couples (d + 1) C S 4 [.ref l0, .int l1, .int l2] [] (a, r, N) (RI P) := T_X4_couples_4 _ _ _ hs
theorem dX4_allTrees_0 : decode cX4_allTrees 0 = .ok (.iconst 0, 1) := by decide +kernel
theorem dX4_allTrees_1 : decode cX4_allTrees 1 = .ok (.istore_n 1, 1) := by decide +kernel
theorem dX4_allTrees_2 : decode cX4_allTrees 2 = .ok (.iconst 0, 1) := by decide +kernel
theorem dX4_allTrees_3 : decode cX4_allTrees 3 = .ok (.istore_n 2, 1) := by decide +kernel
theorem dX4_allTrees_4 : decode cX4_allTrees 4 = .ok (.iload_n 2, 1) := by decide +kernel
theorem dX4_allTrees_5 : decode cX4_allTrees 5 = .ok (.bipush 8, 2) := by decide +kernel
theorem dX4_allTrees_7 : decode cX4_allTrees 7 = .ok (.if_icmp .ge 17, 3) := by decide +kernel
theorem dX4_allTrees_10 : decode cX4_allTrees 10 = .ok (.iload_n 1, 1) := by decide +kernel
theorem dX4_allTrees_11 : decode cX4_allTrees 11 = .ok (.aload_n 0, 1) := by decide +kernel
theorem dX4_allTrees_12 : decode cX4_allTrees 12 = .ok (.iload_n 2, 1) := by decide +kernel
theorem dX4_allTrees_13 : decode cX4_allTrees 13 = .ok (.invokevirtual 46, 3) := by decide +kernel
theorem dX4_allTrees_16 : decode cX4_allTrees 16 = .ok (.iadd, 1) := by decide +kernel
theorem dX4_allTrees_17 : decode cX4_allTrees 17 = .ok (.istore_n 1, 1) := by decide +kernel
theorem dX4_allTrees_18 : decode cX4_allTrees 18 = .ok (.iinc 2 1, 3) := by decide +kernel
theorem dX4_allTrees_21 : decode cX4_allTrees 21 = .ok (.goto (-17), 3) := by decide +kernel
theorem dX4_allTrees_24 : decode cX4_allTrees 24 = .ok (.iload_n 1, 1) := by decide +kernel
theorem dX4_allTrees_25 : decode cX4_allTrees 25 = .ok (.ireturn, 1) := by decide +kernel
set_option maxRecDepth 100000 in
theorem T_X4_allTrees_0 {G : GE} {d C S : Nat} {P : KI} : Snd G MX4_allTrees (d + 1) C S 0 (RI P) (s_iconst 0 (s_istore 1 (s_iconst 0 (s_istore 2 (fun L st h => E G MX4_allTrees (d + 1) C S 4 (msk [true, true, true] L) st h (RI P)))))) := (e_iconst (v := 0) dX4_allTrees_0 (by decide) (e_istore_n dX4_allTrees_1 rfl (by decide) (e_iconst (v := 0) dX4_allTrees_2 (by decide) (e_istore_n dX4_allTrees_3 rfl (by decide) (e_msk [true, true, true])))))
set_option maxRecDepth 100000 in
theorem V_X4_allTrees_0 {G : GE} {d : Nat} {P : KI} {a : Nat → Nat → Int32} {r : Nat → Nat → Value} {N : Nat} {l0 : Nat} (hs : E G MX4_allTrees (d + 1) 0 0 4 [.ref l0, .int 0, .int 0] [] (a, r, N) (RI P)) : Sp G (d + 1) 0 0 MX4_allTrees [.ref l0] (a, r, N) (RI P) := Sp.mk (mc := 0) (ms := 0) [.ref l0, .null, .null] rfl rfl rfl rfl (T_X4_allTrees_0 (C := 0) (S := 0) _ _ _ hs)
set_option maxRecDepth 100000 in
theorem T_X4_allTrees_4 {G : GE} {d C S : Nat} {P : KI} : Snd G MX4_allTrees (d + 1) C S 4 (RI P) (s_iload 2 (s_iconst 8 (s_ic_ge (s_iload 1 (s_ireturn P)) (s_iload 1 (s_aload 0 (s_iload 2 (s_callV G d MX4_treesOf 1 4 (s_iadd (s_istore 1 (s_iinc 2 1 (fun L st h => E G MX4_allTrees (d + 1) C S 4 (msk [true, true, true] L) st h (RI P)))))))))))) := (e_iload_n dX4_allTrees_4 rfl (e_bipush (v := 8) dX4_allTrees_5 (by decide) (e_ic_ge (tgt := 24) dX4_allTrees_7 (by decide) (e_iload_n dX4_allTrees_24 rfl (e_ireturn rfl dX4_allTrees_25)) (e_iload_n dX4_allTrees_10 rfl (e_aload_n dX4_allTrees_11 rfl (e_iload_n dX4_allTrees_12 rfl (e_callV cl_4 cal_X4_treesOf q_1115 q_566 q_567 dX4_allTrees_13 (e_iadd dX4_allTrees_16 (e_istore_n dX4_allTrees_17 rfl (by decide) (e_iinc (v := 1) dX4_allTrees_18 (by decide) (by decide) (e_goto (tgt := 4) dX4_allTrees_21 (by decide) (e_msk [true, true, true]))))))))))))
set_option maxRecDepth 100000 in
theorem V_X4_allTrees_4 {G : GE} {d C S : Nat} {P : KI} {a : Nat → Nat → Int32} {r : Nat → Nat → Value} {N : Nat} {l0 : Nat} {l1 : Int32} {l2 : Int32} (hs : ((8 ≤ l2 → P l1 a r N) ∧ (¬ 8 ≤ l2 → (tyK l0 = (0, 4) ∧ l0 < N ∧ Sp G d 0 0 MX4_treesOf [.ref l0, .int l2] (a, r, N) (RI fun v4 a1 r2 n3 => E G MX4_allTrees (d + 1) C S 4 [.ref l0, .int (l1 + v4), .int (l2 + 1)] [] (a1, r2, n3) (RI P)))))) : E G MX4_allTrees (d + 1) C S 4 [.ref l0, .int l1, .int l2] [] (a, r, N) (RI P) := T_X4_allTrees_4 _ _ _ hs
theorem dX4_allHoles_0 : decode cX4_allHoles 0 = .ok (.iconst 0, 1) := by decide +kernel
theorem dX4_allHoles_1 : decode cX4_allHoles 1 = .ok (.istore_n 1, 1) := by decide +kernel
theorem dX4_allHoles_2 : decode cX4_allHoles 2 = .ok (.iconst 0, 1) := by decide +kernel
theorem dX4_allHoles_3 : decode cX4_allHoles 3 = .ok (.istore_n 2, 1) := by decide +kernel
theorem dX4_allHoles_4 : decode cX4_allHoles 4 = .ok (.iload_n 2, 1) := by decide +kernel
theorem dX4_allHoles_5 : decode cX4_allHoles 5 = .ok (.bipush 8, 2) := by decide +kernel
theorem dX4_allHoles_7 : decode cX4_allHoles 7 = .ok (.if_icmp .ge 17, 3) := by decide +kernel
theorem dX4_allHoles_10 : decode cX4_allHoles 10 = .ok (.iload_n 1, 1) := by decide +kernel
theorem dX4_allHoles_11 : decode cX4_allHoles 11 = .ok (.aload_n 0, 1) := by decide +kernel
theorem dX4_allHoles_12 : decode cX4_allHoles 12 = .ok (.iload_n 2, 1) := by decide +kernel
theorem dX4_allHoles_13 : decode cX4_allHoles 13 = .ok (.invokevirtual 49, 3) := by decide +kernel
theorem dX4_allHoles_16 : decode cX4_allHoles 16 = .ok (.iadd, 1) := by decide +kernel
theorem dX4_allHoles_17 : decode cX4_allHoles 17 = .ok (.istore_n 1, 1) := by decide +kernel
theorem dX4_allHoles_18 : decode cX4_allHoles 18 = .ok (.iinc 2 1, 3) := by decide +kernel
theorem dX4_allHoles_21 : decode cX4_allHoles 21 = .ok (.goto (-17), 3) := by decide +kernel
theorem dX4_allHoles_24 : decode cX4_allHoles 24 = .ok (.iload_n 1, 1) := by decide +kernel
theorem dX4_allHoles_25 : decode cX4_allHoles 25 = .ok (.ireturn, 1) := by decide +kernel
set_option maxRecDepth 100000 in
theorem T_X4_allHoles_0 {G : GE} {d C S : Nat} {P : KI} : Snd G MX4_allHoles (d + 1) C S 0 (RI P) (s_iconst 0 (s_istore 1 (s_iconst 0 (s_istore 2 (fun L st h => E G MX4_allHoles (d + 1) C S 4 (msk [true, true, true] L) st h (RI P)))))) := (e_iconst (v := 0) dX4_allHoles_0 (by decide) (e_istore_n dX4_allHoles_1 rfl (by decide) (e_iconst (v := 0) dX4_allHoles_2 (by decide) (e_istore_n dX4_allHoles_3 rfl (by decide) (e_msk [true, true, true])))))
set_option maxRecDepth 100000 in
theorem V_X4_allHoles_0 {G : GE} {d : Nat} {P : KI} {a : Nat → Nat → Int32} {r : Nat → Nat → Value} {N : Nat} {l0 : Nat} (hs : E G MX4_allHoles (d + 1) 0 0 4 [.ref l0, .int 0, .int 0] [] (a, r, N) (RI P)) : Sp G (d + 1) 0 0 MX4_allHoles [.ref l0] (a, r, N) (RI P) := Sp.mk (mc := 0) (ms := 0) [.ref l0, .null, .null] rfl rfl rfl rfl (T_X4_allHoles_0 (C := 0) (S := 0) _ _ _ hs)
set_option maxRecDepth 100000 in
theorem T_X4_allHoles_4 {G : GE} {d C S : Nat} {P : KI} : Snd G MX4_allHoles (d + 1) C S 4 (RI P) (s_iload 2 (s_iconst 8 (s_ic_ge (s_iload 1 (s_ireturn P)) (s_iload 1 (s_aload 0 (s_iload 2 (s_callV G d MX4_holesOf 1 4 (s_iadd (s_istore 1 (s_iinc 2 1 (fun L st h => E G MX4_allHoles (d + 1) C S 4 (msk [true, true, true] L) st h (RI P)))))))))))) := (e_iload_n dX4_allHoles_4 rfl (e_bipush (v := 8) dX4_allHoles_5 (by decide) (e_ic_ge (tgt := 24) dX4_allHoles_7 (by decide) (e_iload_n dX4_allHoles_24 rfl (e_ireturn rfl dX4_allHoles_25)) (e_iload_n dX4_allHoles_10 rfl (e_aload_n dX4_allHoles_11 rfl (e_iload_n dX4_allHoles_12 rfl (e_callV cl_4 cal_X4_holesOf q_1129 q_586 q_587 dX4_allHoles_13 (e_iadd dX4_allHoles_16 (e_istore_n dX4_allHoles_17 rfl (by decide) (e_iinc (v := 1) dX4_allHoles_18 (by decide) (by decide) (e_goto (tgt := 4) dX4_allHoles_21 (by decide) (e_msk [true, true, true]))))))))))))
set_option maxRecDepth 100000 in
theorem V_X4_allHoles_4 {G : GE} {d C S : Nat} {P : KI} {a : Nat → Nat → Int32} {r : Nat → Nat → Value} {N : Nat} {l0 : Nat} {l1 : Int32} {l2 : Int32} (hs : ((8 ≤ l2 → P l1 a r N) ∧ (¬ 8 ≤ l2 → (tyK l0 = (0, 4) ∧ l0 < N ∧ Sp G d 0 0 MX4_holesOf [.ref l0, .int l2] (a, r, N) (RI fun v4 a1 r2 n3 => E G MX4_allHoles (d + 1) C S 4 [.ref l0, .int (l1 + v4), .int (l2 + 1)] [] (a1, r2, n3) (RI P)))))) : E G MX4_allHoles (d + 1) C S 4 [.ref l0, .int l1, .int l2] [] (a, r, N) (RI P) := T_X4_allHoles_4 _ _ _ hs
theorem dX4_longestYears_0 : decode cX4_longestYears 0 = .ok (.iconst 0, 1) := by decide +kernel
theorem dX4_longestYears_1 : decode cX4_longestYears 1 = .ok (.istore_n 1, 1) := by decide +kernel
theorem dX4_longestYears_2 : decode cX4_longestYears 2 = .ok (.iconst 0, 1) := by decide +kernel
theorem dX4_longestYears_3 : decode cX4_longestYears 3 = .ok (.istore_n 2, 1) := by decide +kernel
theorem dX4_longestYears_4 : decode cX4_longestYears 4 = .ok (.iload_n 2, 1) := by decide +kernel
theorem dX4_longestYears_5 : decode cX4_longestYears 5 = .ok (.bipush 8, 2) := by decide +kernel
theorem dX4_longestYears_7 : decode cX4_longestYears 7 = .ok (.if_icmp .ge 19, 3) := by decide +kernel
theorem dX4_longestYears_10 : decode cX4_longestYears 10 = .ok (.iload_n 1, 1) := by decide +kernel
theorem dX4_longestYears_11 : decode cX4_longestYears 11 = .ok (.aload_n 0, 1) := by decide +kernel
theorem dX4_longestYears_12 : decode cX4_longestYears 12 = .ok (.iload_n 2, 1) := by decide +kernel
theorem dX4_longestYears_13 : decode cX4_longestYears 13 = .ok (.invokevirtual 52, 3) := by decide +kernel
theorem dX4_longestYears_16 : decode cX4_longestYears 16 = .ok (.invokestatic 55, 3) := by decide +kernel
theorem dX4_longestYears_19 : decode cX4_longestYears 19 = .ok (.istore_n 1, 1) := by decide +kernel
theorem dX4_longestYears_20 : decode cX4_longestYears 20 = .ok (.iinc 2 1, 3) := by decide +kernel
theorem dX4_longestYears_23 : decode cX4_longestYears 23 = .ok (.goto (-19), 3) := by decide +kernel
theorem dX4_longestYears_26 : decode cX4_longestYears 26 = .ok (.iload_n 1, 1) := by decide +kernel
theorem dX4_longestYears_27 : decode cX4_longestYears 27 = .ok (.ireturn, 1) := by decide +kernel
set_option maxRecDepth 100000 in
theorem T_X4_longestYears_0 {G : GE} {d C S : Nat} {P : KI} : Snd G MX4_longestYears (d + 1) C S 0 (RI P) (s_iconst 0 (s_istore 1 (s_iconst 0 (s_istore 2 (fun L st h => E G MX4_longestYears (d + 1) C S 4 (msk [true, true, true] L) st h (RI P)))))) := (e_iconst (v := 0) dX4_longestYears_0 (by decide) (e_istore_n dX4_longestYears_1 rfl (by decide) (e_iconst (v := 0) dX4_longestYears_2 (by decide) (e_istore_n dX4_longestYears_3 rfl (by decide) (e_msk [true, true, true])))))
set_option maxRecDepth 100000 in
theorem V_X4_longestYears_0 {G : GE} {d : Nat} {P : KI} {a : Nat → Nat → Int32} {r : Nat → Nat → Value} {N : Nat} {l0 : Nat} (hs : E G MX4_longestYears (d + 1) 0 0 4 [.ref l0, .int 0, .int 0] [] (a, r, N) (RI P)) : Sp G (d + 1) 0 0 MX4_longestYears [.ref l0] (a, r, N) (RI P) := Sp.mk (mc := 0) (ms := 0) [.ref l0, .null, .null] rfl rfl rfl rfl (T_X4_longestYears_0 (C := 0) (S := 0) _ _ _ hs)
set_option maxRecDepth 100000 in
theorem T_X4_longestYears_4 {G : GE} {d C S : Nat} {P : KI} : Snd G MX4_longestYears (d + 1) C S 4 (RI P) (s_iload 2 (s_iconst 8 (s_ic_ge (s_iload 1 (s_ireturn P)) (s_iload 1 (s_aload 0 (s_iload 2 (s_callV G d MX4_yearsOf 1 4 (s_max (s_istore 1 (s_iinc 2 1 (fun L st h => E G MX4_longestYears (d + 1) C S 4 (msk [true, true, true] L) st h (RI P)))))))))))) := (e_iload_n dX4_longestYears_4 rfl (e_bipush (v := 8) dX4_longestYears_5 (by decide) (e_ic_ge (tgt := 26) dX4_longestYears_7 (by decide) (e_iload_n dX4_longestYears_26 rfl (e_ireturn rfl dX4_longestYears_27)) (e_iload_n dX4_longestYears_10 rfl (e_aload_n dX4_longestYears_11 rfl (e_iload_n dX4_longestYears_12 rfl (e_callV cl_4 cal_X4_yearsOf q_1147 q_1148 q_1149 dX4_longestYears_13 (e_max q_1514 q_555 q_127 q_556 dX4_longestYears_16 (e_istore_n dX4_longestYears_19 rfl (by decide) (e_iinc (v := 1) dX4_longestYears_20 (by decide) (by decide) (e_goto (tgt := 4) dX4_longestYears_23 (by decide) (e_msk [true, true, true]))))))))))))
set_option maxRecDepth 100000 in
theorem V_X4_longestYears_4 {G : GE} {d C S : Nat} {P : KI} {a : Nat → Nat → Int32} {r : Nat → Nat → Value} {N : Nat} {l0 : Nat} {l1 : Int32} {l2 : Int32} (hs : ((8 ≤ l2 → P l1 a r N) ∧ (¬ 8 ≤ l2 → (tyK l0 = (0, 4) ∧ l0 < N ∧ Sp G d 0 0 MX4_yearsOf [.ref l0, .int l2] (a, r, N) (RI fun v4 a1 r2 n3 => E G MX4_longestYears (d + 1) C S 4 [.ref l0, .int (if (l1 : Int32) < v4 then v4 else l1), .int (l2 + 1)] [] (a1, r2, n3) (RI P)))))) : E G MX4_longestYears (d + 1) C S 4 [.ref l0, .int l1, .int l2] [] (a, r, N) (RI P) := T_X4_longestYears_4 _ _ _ hs
theorem dX4_wed_0 : decode cX4_wed 0 = .ok (.aload_n 0, 1) := by decide +kernel
theorem dX4_wed_1 : decode cX4_wed 1 = .ok (.iload_n 1, 1) := by decide +kernel
theorem dX4_wed_2 : decode cX4_wed 2 = .ok (.invokevirtual 60, 3) := by decide +kernel
theorem dX4_wed_5 : decode cX4_wed 5 = .ok (.iconst (-1), 1) := by decide +kernel
theorem dX4_wed_6 : decode cX4_wed 6 = .ok (.if_icmp .ne 12, 3) := by decide +kernel
theorem dX4_wed_9 : decode cX4_wed 9 = .ok (.aload_n 0, 1) := by decide +kernel
theorem dX4_wed_10 : decode cX4_wed 10 = .ok (.iload_n 2, 1) := by decide +kernel
theorem dX4_wed_11 : decode cX4_wed 11 = .ok (.invokevirtual 60, 3) := by decide +kernel
theorem dX4_wed_14 : decode cX4_wed 14 = .ok (.iconst (-1), 1) := by decide +kernel
theorem dX4_wed_15 : decode cX4_wed 15 = .ok (.if_icmp .eq 5, 3) := by decide +kernel
theorem dX4_wed_18 : decode cX4_wed 18 = .ok (.iconst 0, 1) := by decide +kernel
theorem dX4_wed_19 : decode cX4_wed 19 = .ok (.ireturn, 1) := by decide +kernel
theorem dX4_wed_20 : decode cX4_wed 20 = .ok (.aload_n 0, 1) := by decide +kernel
theorem dX4_wed_21 : decode cX4_wed 21 = .ok (.iload_n 1, 1) := by decide +kernel
theorem dX4_wed_22 : decode cX4_wed 22 = .ok (.iload_n 2, 1) := by decide +kernel
theorem dX4_wed_23 : decode cX4_wed 23 = .ok (.iconst 1, 1) := by decide +kernel
theorem dX4_wed_24 : decode cX4_wed 24 = .ok (.invokevirtual 63, 3) := by decide +kernel
theorem dX4_wed_27 : decode cX4_wed 27 = .ok (.aload_n 0, 1) := by decide +kernel
theorem dX4_wed_28 : decode cX4_wed 28 = .ok (.iload_n 2, 1) := by decide +kernel
theorem dX4_wed_29 : decode cX4_wed 29 = .ok (.iload_n 1, 1) := by decide +kernel
theorem dX4_wed_30 : decode cX4_wed 30 = .ok (.iconst 2, 1) := by decide +kernel
theorem dX4_wed_31 : decode cX4_wed 31 = .ok (.invokevirtual 63, 3) := by decide +kernel
theorem dX4_wed_34 : decode cX4_wed 34 = .ok (.iconst 1, 1) := by decide +kernel
theorem dX4_wed_35 : decode cX4_wed 35 = .ok (.ireturn, 1) := by decide +kernel
set_option maxRecDepth 100000 in
theorem T_X4_wed_0 {G : GE} {d C S : Nat} {P : KI} : Snd G MX4_wed (d + 1) C S 0 (RI P) (s_aload 0 (s_iload 1 (s_callV G d MX4_mateOf 1 4 (s_iconst (-1) (s_ic_ne (s_iconst 0 (s_zreturn P)) (s_aload 0 (s_iload 2 (s_callV G d MX4_mateOf 1 4 (s_iconst (-1) (s_ic_eq (s_aload 0 (s_iload 1 (s_iload 2 (s_iconst 1 (s_callV G d MX4_bind 3 4 (s_aload 0 (s_iload 2 (s_iload 1 (s_iconst 2 (s_callV G d MX4_bind 3 4 (s_iconst 1 (s_zreturn P)))))))))))) (s_iconst 0 (s_zreturn P)))))))))))) := (e_aload_n dX4_wed_0 rfl (e_iload_n dX4_wed_1 rfl (e_callV cl_4 cal_X4_mateOf q_1102 q_531 q_532 dX4_wed_2 (e_iconst (v := (-1)) dX4_wed_5 (by decide) (e_ic_ne (tgt := 18) dX4_wed_6 (by decide) (e_iconst (v := 0) dX4_wed_18 (by decide) (e_zreturn rfl dX4_wed_19)) (e_aload_n dX4_wed_9 rfl (e_iload_n dX4_wed_10 rfl (e_callV cl_4 cal_X4_mateOf q_1102 q_531 q_532 dX4_wed_11 (e_iconst (v := (-1)) dX4_wed_14 (by decide) (e_ic_eq (tgt := 20) dX4_wed_15 (by decide) (e_aload_n dX4_wed_20 rfl (e_iload_n dX4_wed_21 rfl (e_iload_n dX4_wed_22 rfl (e_iconst (v := 1) dX4_wed_23 (by decide) (e_callV cl_4 cal_X4_bind q_1103 q_1105 q_34 dX4_wed_24 (e_aload_n dX4_wed_27 rfl (e_iload_n dX4_wed_28 rfl (e_iload_n dX4_wed_29 rfl (e_iconst (v := 2) dX4_wed_30 (by decide) (e_callV cl_4 cal_X4_bind q_1103 q_1105 q_34 dX4_wed_31 (e_iconst (v := 1) dX4_wed_34 (by decide) (e_zreturn rfl dX4_wed_35)))))))))))) (e_iconst (v := 0) dX4_wed_18 (by decide) (e_zreturn rfl dX4_wed_19))))))))))))
set_option maxRecDepth 100000 in
theorem V_X4_wed_0 {G : GE} {d : Nat} {P : KI} {a : Nat → Nat → Int32} {r : Nat → Nat → Value} {N : Nat} {l0 : Nat} {l1 : Int32} {l2 : Int32} (hs : (tyK l0 = (0, 4) ∧ l0 < N ∧ Sp G d 0 0 MX4_mateOf [.ref l0, .int l1] (a, r, N) (RI fun v4 a1 r2 n3 => ((¬ v4 = (-1) → (bz 0 ∧ P 0 a1 r2 n3)) ∧ (v4 = (-1) → (tyK l0 = (0, 4) ∧ l0 < n3 ∧ Sp G d 0 0 MX4_mateOf [.ref l0, .int l2] (a1, r2, n3) (RI fun v8 a5 r6 n7 => ((v8 = (-1) → (tyK l0 = (0, 4) ∧ l0 < n7 ∧ Sp G d 0 0 MX4_bind [.ref l0, .int l1, .int l2, .int 1] (a5, r6, n7) (RN fun a9 r10 n11 => (tyK l0 = (0, 4) ∧ l0 < n11 ∧ Sp G d 0 0 MX4_bind [.ref l0, .int l2, .int l1, .int 2] (a9, r10, n11) (RN fun a12 r13 n14 => (bz 1 ∧ P 1 a12 r13 n14)))))) ∧ (¬ v8 = (-1) → (bz 0 ∧ P 0 a5 r6 n7)))))))))) : Sp G (d + 1) 0 0 MX4_wed [.ref l0, .int l1, .int l2] (a, r, N) (RI P) := Sp.mk (mc := 0) (ms := 0) [.ref l0, .int l1, .int l2] rfl rfl rfl rfl (T_X4_wed_0 (C := 0) (S := 0) _ _ _ hs)
theorem dX4_partFrom_0 : decode cX4_partFrom 0 = .ok (.aload_n 0, 1) := by decide +kernel
theorem dX4_partFrom_1 : decode cX4_partFrom 1 = .ok (.iload_n 1, 1) := by decide +kernel
theorem dX4_partFrom_2 : decode cX4_partFrom 2 = .ok (.invokevirtual 60, 3) := by decide +kernel
theorem dX4_partFrom_5 : decode cX4_partFrom 5 = .ok (.istore_n 2, 1) := by decide +kernel
theorem dX4_partFrom_6 : decode cX4_partFrom 6 = .ok (.iload_n 2, 1) := by decide +kernel
theorem dX4_partFrom_7 : decode cX4_partFrom 7 = .ok (.iconst (-1), 1) := by decide +kernel
theorem dX4_partFrom_8 : decode cX4_partFrom 8 = .ok (.if_icmp .ne 5, 3) := by decide +kernel
theorem dX4_partFrom_11 : decode cX4_partFrom 11 = .ok (.iconst 0, 1) := by decide +kernel
theorem dX4_partFrom_12 : decode cX4_partFrom 12 = .ok (.ireturn, 1) := by decide +kernel
theorem dX4_partFrom_13 : decode cX4_partFrom 13 = .ok (.aload_n 0, 1) := by decide +kernel
theorem dX4_partFrom_14 : decode cX4_partFrom 14 = .ok (.iload_n 1, 1) := by decide +kernel
theorem dX4_partFrom_15 : decode cX4_partFrom 15 = .ok (.invokevirtual 43, 3) := by decide +kernel
theorem dX4_partFrom_18 : decode cX4_partFrom 18 = .ok (.iconst 1, 1) := by decide +kernel
theorem dX4_partFrom_19 : decode cX4_partFrom 19 = .ok (.if_icmp .ne 7, 3) := by decide +kernel
theorem dX4_partFrom_22 : decode cX4_partFrom 22 = .ok (.iload_n 1, 1) := by decide +kernel
theorem dX4_partFrom_23 : decode cX4_partFrom 23 = .ok (.goto 4, 3) := by decide +kernel
theorem dX4_partFrom_26 : decode cX4_partFrom 26 = .ok (.iload_n 2, 1) := by decide +kernel
theorem dX4_partFrom_27 : decode cX4_partFrom 27 = .ok (.istore_n 3, 1) := by decide +kernel
theorem dX4_partFrom_28 : decode cX4_partFrom 28 = .ok (.aload_n 0, 1) := by decide +kernel
theorem dX4_partFrom_29 : decode cX4_partFrom 29 = .ok (.iload_n 1, 1) := by decide +kernel
theorem dX4_partFrom_30 : decode cX4_partFrom 30 = .ok (.invokevirtual 43, 3) := by decide +kernel
theorem dX4_partFrom_33 : decode cX4_partFrom 33 = .ok (.iconst 1, 1) := by decide +kernel
theorem dX4_partFrom_34 : decode cX4_partFrom 34 = .ok (.if_icmp .ne 7, 3) := by decide +kernel
theorem dX4_partFrom_37 : decode cX4_partFrom 37 = .ok (.iload_n 2, 1) := by decide +kernel
theorem dX4_partFrom_38 : decode cX4_partFrom 38 = .ok (.goto 4, 3) := by decide +kernel
theorem dX4_partFrom_41 : decode cX4_partFrom 41 = .ok (.iload_n 1, 1) := by decide +kernel
theorem dX4_partFrom_42 : decode cX4_partFrom 42 = .ok (.istore 4, 2) := by decide +kernel
theorem dX4_partFrom_44 : decode cX4_partFrom 44 = .ok (.aload_n 0, 1) := by decide +kernel
theorem dX4_partFrom_45 : decode cX4_partFrom 45 = .ok (.iload_n 3, 1) := by decide +kernel
theorem dX4_partFrom_46 : decode cX4_partFrom 46 = .ok (.invokevirtual 46, 3) := by decide +kernel
theorem dX4_partFrom_49 : decode cX4_partFrom 49 = .ok (.aload_n 0, 1) := by decide +kernel
theorem dX4_partFrom_50 : decode cX4_partFrom 50 = .ok (.iload 4, 2) := by decide +kernel
theorem dX4_partFrom_52 : decode cX4_partFrom 52 = .ok (.invokevirtual 46, 3) := by decide +kernel
theorem dX4_partFrom_55 : decode cX4_partFrom 55 = .ok (.iadd, 1) := by decide +kernel
theorem dX4_partFrom_56 : decode cX4_partFrom 56 = .ok (.istore 5, 2) := by decide +kernel
theorem dX4_partFrom_58 : decode cX4_partFrom 58 = .ok (.aload_n 0, 1) := by decide +kernel
theorem dX4_partFrom_59 : decode cX4_partFrom 59 = .ok (.getfield 11, 3) := by decide +kernel
theorem dX4_partFrom_62 : decode cX4_partFrom 62 = .ok (.bipush 24, 2) := by decide +kernel
theorem dX4_partFrom_64 : decode cX4_partFrom 64 = .ok (.iload 4, 2) := by decide +kernel
theorem dX4_partFrom_66 : decode cX4_partFrom 66 = .ok (.iadd, 1) := by decide +kernel
theorem dX4_partFrom_67 : decode cX4_partFrom 67 = .ok (.iload 5, 2) := by decide +kernel
theorem dX4_partFrom_69 : decode cX4_partFrom 69 = .ok (.iconst 2, 1) := by decide +kernel
theorem dX4_partFrom_70 : decode cX4_partFrom 70 = .ok (.idiv, 1) := by decide +kernel
theorem dX4_partFrom_71 : decode cX4_partFrom 71 = .ok (.invokestatic 27, 3) := by decide +kernel
theorem dX4_partFrom_74 : decode cX4_partFrom 74 = .ok (.aload_n 0, 1) := by decide +kernel
theorem dX4_partFrom_75 : decode cX4_partFrom 75 = .ok (.getfield 11, 3) := by decide +kernel
theorem dX4_partFrom_78 : decode cX4_partFrom 78 = .ok (.bipush 24, 2) := by decide +kernel
theorem dX4_partFrom_80 : decode cX4_partFrom 80 = .ok (.iload_n 3, 1) := by decide +kernel
theorem dX4_partFrom_81 : decode cX4_partFrom 81 = .ok (.iadd, 1) := by decide +kernel
theorem dX4_partFrom_82 : decode cX4_partFrom 82 = .ok (.iload 5, 2) := by decide +kernel
theorem dX4_partFrom_84 : decode cX4_partFrom 84 = .ok (.iload 5, 2) := by decide +kernel
theorem dX4_partFrom_86 : decode cX4_partFrom 86 = .ok (.iconst 2, 1) := by decide +kernel
theorem dX4_partFrom_87 : decode cX4_partFrom 87 = .ok (.idiv, 1) := by decide +kernel
theorem dX4_partFrom_88 : decode cX4_partFrom 88 = .ok (.isub, 1) := by decide +kernel
theorem dX4_partFrom_89 : decode cX4_partFrom 89 = .ok (.invokestatic 27, 3) := by decide +kernel
theorem dX4_partFrom_92 : decode cX4_partFrom 92 = .ok (.aload_n 0, 1) := by decide +kernel
theorem dX4_partFrom_93 : decode cX4_partFrom 93 = .ok (.iload_n 3, 1) := by decide +kernel
theorem dX4_partFrom_94 : decode cX4_partFrom 94 = .ok (.iconst (-1), 1) := by decide +kernel
theorem dX4_partFrom_95 : decode cX4_partFrom 95 = .ok (.iconst 0, 1) := by decide +kernel
theorem dX4_partFrom_96 : decode cX4_partFrom 96 = .ok (.invokevirtual 63, 3) := by decide +kernel
theorem dX4_partFrom_99 : decode cX4_partFrom 99 = .ok (.aload_n 0, 1) := by decide +kernel
theorem dX4_partFrom_100 : decode cX4_partFrom 100 = .ok (.iload 4, 2) := by decide +kernel
theorem dX4_partFrom_102 : decode cX4_partFrom 102 = .ok (.iconst (-1), 1) := by decide +kernel
theorem dX4_partFrom_103 : decode cX4_partFrom 103 = .ok (.iconst 0, 1) := by decide +kernel
theorem dX4_partFrom_104 : decode cX4_partFrom 104 = .ok (.invokevirtual 63, 3) := by decide +kernel
theorem dX4_partFrom_107 : decode cX4_partFrom 107 = .ok (.aload_n 0, 1) := by decide +kernel
theorem dX4_partFrom_108 : decode cX4_partFrom 108 = .ok (.getfield 11, 3) := by decide +kernel
theorem dX4_partFrom_111 : decode cX4_partFrom 111 = .ok (.bipush 41, 2) := by decide +kernel
theorem dX4_partFrom_113 : decode cX4_partFrom 113 = .ok (.aload_n 0, 1) := by decide +kernel
theorem dX4_partFrom_114 : decode cX4_partFrom 114 = .ok (.invokevirtual 67, 3) := by decide +kernel
theorem dX4_partFrom_117 : decode cX4_partFrom 117 = .ok (.iconst 1, 1) := by decide +kernel
theorem dX4_partFrom_118 : decode cX4_partFrom 118 = .ok (.iadd, 1) := by decide +kernel
theorem dX4_partFrom_119 : decode cX4_partFrom 119 = .ok (.invokestatic 27, 3) := by decide +kernel
theorem dX4_partFrom_122 : decode cX4_partFrom 122 = .ok (.iconst 1, 1) := by decide +kernel
theorem dX4_partFrom_123 : decode cX4_partFrom 123 = .ok (.ireturn, 1) := by decide +kernel
set_option maxRecDepth 100000 in
theorem T_X4_partFrom_0 {G : GE} {d C S : Nat} {P : KI} : Snd G MX4_partFrom (d + 1) C S 0 (RI P) (s_aload 0 (s_iload 1 (s_callV G d MX4_mateOf 1 4 (s_istore 2 (s_iload 2 (s_iconst (-1) (s_ic_ne (s_aload 0 (s_iload 1 (s_callV G d MX4_roleOf 1 4 (s_iconst 1 (s_ic_ne (s_iload 2 (s_istore 3 (s_aload 0 (s_iload 1 (s_callV G d MX4_roleOf 1 4 (s_iconst 1 (s_ic_ne (s_iload 1 (fun L st h => E G MX4_partFrom (d + 1) C S 42 (msk [true, false, false, true, false, false] L) st h (RI P))) (s_iload 2 (fun L st h => E G MX4_partFrom (d + 1) C S 42 (msk [true, false, false, true, false, false] L) st h (RI P)))))))))) (s_iload 1 (s_istore 3 (s_aload 0 (s_iload 1 (s_callV G d MX4_roleOf 1 4 (s_iconst 1 (s_ic_ne (s_iload 1 (fun L st h => E G MX4_partFrom (d + 1) C S 42 (msk [true, false, false, true, false, false] L) st h (RI P))) (s_iload 2 (fun L st h => E G MX4_partFrom (d + 1) C S 42 (msk [true, false, false, true, false, false] L) st h (RI P))))))))))))))) (s_iconst 0 (s_zreturn P))))))))) := (e_aload_n dX4_partFrom_0 rfl (e_iload_n dX4_partFrom_1 rfl (e_callV cl_4 cal_X4_mateOf q_1102 q_531 q_532 dX4_partFrom_2 (e_istore_n dX4_partFrom_5 rfl (by decide) (e_iload_n dX4_partFrom_6 rfl (e_iconst (v := (-1)) dX4_partFrom_7 (by decide) (e_ic_ne (tgt := 13) dX4_partFrom_8 (by decide) (e_aload_n dX4_partFrom_13 rfl (e_iload_n dX4_partFrom_14 rfl (e_callV cl_4 cal_X4_roleOf q_1111 q_1112 q_1113 dX4_partFrom_15 (e_iconst (v := 1) dX4_partFrom_18 (by decide) (e_ic_ne (tgt := 26) dX4_partFrom_19 (by decide) (e_iload_n dX4_partFrom_26 rfl (e_istore_n dX4_partFrom_27 rfl (by decide) (e_aload_n dX4_partFrom_28 rfl (e_iload_n dX4_partFrom_29 rfl (e_callV cl_4 cal_X4_roleOf q_1111 q_1112 q_1113 dX4_partFrom_30 (e_iconst (v := 1) dX4_partFrom_33 (by decide) (e_ic_ne (tgt := 41) dX4_partFrom_34 (by decide) (e_iload_n dX4_partFrom_41 rfl (e_msk [true, false, false, true, false, false])) (e_iload_n dX4_partFrom_37 rfl (e_goto (tgt := 42) dX4_partFrom_38 (by decide) (e_msk [true, false, false, true, false, false])))))))))) (e_iload_n dX4_partFrom_22 rfl (e_goto (tgt := 27) dX4_partFrom_23 (by decide) (e_istore_n dX4_partFrom_27 rfl (by decide) (e_aload_n dX4_partFrom_28 rfl (e_iload_n dX4_partFrom_29 rfl (e_callV cl_4 cal_X4_roleOf q_1111 q_1112 q_1113 dX4_partFrom_30 (e_iconst (v := 1) dX4_partFrom_33 (by decide) (e_ic_ne (tgt := 41) dX4_partFrom_34 (by decide) (e_iload_n dX4_partFrom_41 rfl (e_msk [true, false, false, true, false, false])) (e_iload_n dX4_partFrom_37 rfl (e_goto (tgt := 42) dX4_partFrom_38 (by decide) (e_msk [true, false, false, true, false, false])))))))))))))))) (e_iconst (v := 0) dX4_partFrom_11 (by decide) (e_zreturn rfl dX4_partFrom_12)))))))))
set_option maxRecDepth 100000 in
theorem V_X4_partFrom_0 {G : GE} {d : Nat} {P : KI} {a : Nat → Nat → Int32} {r : Nat → Nat → Value} {N : Nat} {l0 : Nat} {l1 : Int32} (hs : (tyK l0 = (0, 4) ∧ l0 < N ∧ Sp G d 0 0 MX4_mateOf [.ref l0, .int l1] (a, r, N) (RI fun v4 a1 r2 n3 => ((¬ v4 = (-1) → (tyK l0 = (0, 4) ∧ l0 < n3 ∧ Sp G d 0 0 MX4_roleOf [.ref l0, .int l1] (a1, r2, n3) (RI fun v8 a5 r6 n7 => ((¬ v8 = 1 → (tyK l0 = (0, 4) ∧ l0 < n7 ∧ Sp G d 0 0 MX4_roleOf [.ref l0, .int l1] (a5, r6, n7) (RI fun v12 a9 r10 n11 => ((¬ v12 = 1 → E G MX4_partFrom (d + 1) 0 0 42 [.ref l0, .null, .null, .int v4, .null, .null] [.int l1] (a9, r10, n11) (RI P)) ∧ (v12 = 1 → E G MX4_partFrom (d + 1) 0 0 42 [.ref l0, .null, .null, .int v4, .null, .null] [.int v4] (a9, r10, n11) (RI P)))))) ∧ (v8 = 1 → (tyK l0 = (0, 4) ∧ l0 < n7 ∧ Sp G d 0 0 MX4_roleOf [.ref l0, .int l1] (a5, r6, n7) (RI fun v16 a13 r14 n15 => ((¬ v16 = 1 → E G MX4_partFrom (d + 1) 0 0 42 [.ref l0, .null, .null, .int l1, .null, .null] [.int l1] (a13, r14, n15) (RI P)) ∧ (v16 = 1 → E G MX4_partFrom (d + 1) 0 0 42 [.ref l0, .null, .null, .int l1, .null, .null] [.int v4] (a13, r14, n15) (RI P)))))))))) ∧ (v4 = (-1) → (bz 0 ∧ P 0 a1 r2 n3)))))) : Sp G (d + 1) 0 0 MX4_partFrom [.ref l0, .int l1] (a, r, N) (RI P) := Sp.mk (mc := 0) (ms := 0) [.ref l0, .int l1, .null, .null, .null, .null] rfl rfl rfl rfl (T_X4_partFrom_0 (C := 0) (S := 0) _ _ _ hs)
set_option maxRecDepth 100000 in
theorem T_X4_partFrom_42 {G : GE} {d C S : Nat} {P : KI} : Snd G MX4_partFrom (d + 1) C S 42 (RI P) (s_istore 4 (s_aload 0 (s_iload 3 (s_callV G d MX4_treesOf 1 4 (s_aload 0 (s_iload 4 (s_callV G d MX4_treesOf 1 4 (s_iadd (s_istore 5 (s_aload 0 (s_getR 4 0 (s_iconst 24 (s_iload 4 (s_iadd (s_iload 5 (s_iconst 2 (s_idiv (s_call G d MX9_put 3 (s_aload 0 (s_getR 4 0 (s_iconst 24 (s_iload 3 (s_iadd (s_iload 5 (s_iload 5 (s_iconst 2 (s_idiv (s_isub (s_call G d MX9_put 3 (s_aload 0 (s_iload 3 (s_iconst (-1) (s_iconst 0 (s_callV G d MX4_bind 3 4 (s_aload 0 (s_iload 4 (s_iconst (-1) (s_iconst 0 (s_callV G d MX4_bind 3 4 (s_aload 0 (s_getR 4 0 (s_iconst 41 (s_aload 0 (s_callV G d MX4_partedSoFar 0 4 (s_iconst 1 (s_iadd (s_call G d MX9_put 3 (s_iconst 1 (s_zreturn P))))))))))))))))))))))))))))))))))))))))))))))))) := (e_istore dX4_partFrom_42 (by decide) (e_aload_n dX4_partFrom_44 rfl (e_iload_n dX4_partFrom_45 rfl (e_callV cl_4 cal_X4_treesOf q_1115 q_566 q_567 dX4_partFrom_46 (e_aload_n dX4_partFrom_49 rfl (e_iload dX4_partFrom_50 (e_callV cl_4 cal_X4_treesOf q_1115 q_566 q_567 dX4_partFrom_52 (e_iadd dX4_partFrom_55 (e_istore dX4_partFrom_56 (by decide) (e_aload_n dX4_partFrom_58 rfl (e_getR rfl cl_4 (by decide) rfl q_323 dX4_partFrom_59 (e_bipush (v := 24) dX4_partFrom_62 (by decide) (e_iload dX4_partFrom_64 (e_iadd dX4_partFrom_66 (e_iload dX4_partFrom_67 (e_iconst (v := 2) dX4_partFrom_69 (by decide) (e_idiv dX4_partFrom_70 (e_callS cal_X9_put q_418 q_419 dX4_partFrom_71 (e_aload_n dX4_partFrom_74 rfl (e_getR rfl cl_4 (by decide) rfl q_323 dX4_partFrom_75 (e_bipush (v := 24) dX4_partFrom_78 (by decide) (e_iload_n dX4_partFrom_80 rfl (e_iadd dX4_partFrom_81 (e_iload dX4_partFrom_82 (e_iload dX4_partFrom_84 (e_iconst (v := 2) dX4_partFrom_86 (by decide) (e_idiv dX4_partFrom_87 (e_isub dX4_partFrom_88 (e_callS cal_X9_put q_418 q_419 dX4_partFrom_89 (e_aload_n dX4_partFrom_92 rfl (e_iload_n dX4_partFrom_93 rfl (e_iconst (v := (-1)) dX4_partFrom_94 (by decide) (e_iconst (v := 0) dX4_partFrom_95 (by decide) (e_callV cl_4 cal_X4_bind q_1103 q_1105 q_34 dX4_partFrom_96 (e_aload_n dX4_partFrom_99 rfl (e_iload dX4_partFrom_100 (e_iconst (v := (-1)) dX4_partFrom_102 (by decide) (e_iconst (v := 0) dX4_partFrom_103 (by decide) (e_callV cl_4 cal_X4_bind q_1103 q_1105 q_34 dX4_partFrom_104 (e_aload_n dX4_partFrom_107 rfl (e_getR rfl cl_4 (by decide) rfl q_323 dX4_partFrom_108 (e_bipush (v := 41) dX4_partFrom_111 (by decide) (e_aload_n dX4_partFrom_113 rfl (e_callV cl_4 cal_X4_partedSoFar q_1116 q_1117 q_1118 dX4_partFrom_114 (e_iconst (v := 1) dX4_partFrom_117 (by decide) (e_iadd dX4_partFrom_118 (e_callS cal_X9_put q_418 q_419 dX4_partFrom_119 (e_iconst (v := 1) dX4_partFrom_122 (by decide) (e_zreturn rfl dX4_partFrom_123)))))))))))))))))))))))))))))))))))))))))))))))))
set_option maxRecDepth 100000 in
theorem V_X4_partFrom_42 {G : GE} {d C S : Nat} {P : KI} {a : Nat → Nat → Int32} {r : Nat → Nat → Value} {N : Nat} {l0 : Nat} {l3 : Int32} {s0 : Int32} (hs : (tyK l0 = (0, 4) ∧ l0 < N ∧ Sp G d 0 0 MX4_treesOf [.ref l0, .int l3] (a, r, N) (RI fun v4 a1 r2 n3 => (tyK l0 = (0, 4) ∧ l0 < n3 ∧ Sp G d 0 0 MX4_treesOf [.ref l0, .int s0] (a1, r2, n3) (RI fun v8 a5 r6 n7 => (tyK l0 = (0, 4) ∧ l0 < n7 ∧ ∃ q9, r6 l0 0 = .ref q9 ∧ (¬ (2 : Int32) = 0 ∧ Sp G d 0 0 MX9_put [.ref q9, .int ((24 : Int32) + s0), .int (((v4 + v8) : Int32) / (2 : Int32))] (a5, r6, n7) (RN fun a10 r11 n12 => (tyK l0 = (0, 4) ∧ l0 < n12 ∧ ∃ q13, r11 l0 0 = .ref q13 ∧ (¬ (2 : Int32) = 0 ∧ Sp G d 0 0 MX9_put [.ref q13, .int ((24 : Int32) + l3), .int ((v4 + v8) - (((v4 + v8) : Int32) / (2 : Int32)))] (a10, r11, n12) (RN fun a14 r15 n16 => (tyK l0 = (0, 4) ∧ l0 < n16 ∧ Sp G d 0 0 MX4_bind [.ref l0, .int l3, .int (-1), .int 0] (a14, r15, n16) (RN fun a17 r18 n19 => (tyK l0 = (0, 4) ∧ l0 < n19 ∧ Sp G d 0 0 MX4_bind [.ref l0, .int s0, .int (-1), .int 0] (a17, r18, n19) (RN fun a20 r21 n22 => (tyK l0 = (0, 4) ∧ l0 < n22 ∧ ∃ q23, r21 l0 0 = .ref q23 ∧ (tyK l0 = (0, 4) ∧ l0 < n22 ∧ Sp G d 0 0 MX4_partedSoFar [.ref l0] (a20, r21, n22) (RI fun v27 a24 r25 n26 => Sp G d 0 0 MX9_put [.ref q23, .int 41, .int (v27 + 1)] (a24, r25, n26) (RN fun a28 r29 n30 => (bz 1 ∧ P 1 a28 r29 n30)))))))))))))))))))) : E G MX4_partFrom (d + 1) C S 42 [.ref l0, .null, .null, .int l3, .null, .null] [.int s0] (a, r, N) (RI P) := T_X4_partFrom_42 _ _ _ hs
theorem dX4_plantIn_0 : decode cX4_plantIn 0 = .ok (.aload_n 0, 1) := by decide +kernel
theorem dX4_plantIn_1 : decode cX4_plantIn 1 = .ok (.iload_n 1, 1) := by decide +kernel
theorem dX4_plantIn_2 : decode cX4_plantIn 2 = .ok (.invokevirtual 46, 3) := by decide +kernel
theorem dX4_plantIn_5 : decode cX4_plantIn 5 = .ok (.bipush 99, 2) := by decide +kernel
theorem dX4_plantIn_7 : decode cX4_plantIn 7 = .ok (.if_icmp .lt 5, 3) := by decide +kernel
theorem dX4_plantIn_10 : decode cX4_plantIn 10 = .ok (.iconst 0, 1) := by decide +kernel
theorem dX4_plantIn_11 : decode cX4_plantIn 11 = .ok (.ireturn, 1) := by decide +kernel
theorem dX4_plantIn_12 : decode cX4_plantIn 12 = .ok (.aload_n 0, 1) := by decide +kernel
theorem dX4_plantIn_13 : decode cX4_plantIn 13 = .ok (.getfield 11, 3) := by decide +kernel
theorem dX4_plantIn_16 : decode cX4_plantIn 16 = .ok (.bipush 24, 2) := by decide +kernel
theorem dX4_plantIn_18 : decode cX4_plantIn 18 = .ok (.iload_n 1, 1) := by decide +kernel
theorem dX4_plantIn_19 : decode cX4_plantIn 19 = .ok (.iadd, 1) := by decide +kernel
theorem dX4_plantIn_20 : decode cX4_plantIn 20 = .ok (.bipush 99, 2) := by decide +kernel
theorem dX4_plantIn_22 : decode cX4_plantIn 22 = .ok (.aload_n 0, 1) := by decide +kernel
theorem dX4_plantIn_23 : decode cX4_plantIn 23 = .ok (.iload_n 1, 1) := by decide +kernel
theorem dX4_plantIn_24 : decode cX4_plantIn 24 = .ok (.invokevirtual 46, 3) := by decide +kernel
theorem dX4_plantIn_27 : decode cX4_plantIn 27 = .ok (.iload_n 2, 1) := by decide +kernel
theorem dX4_plantIn_28 : decode cX4_plantIn 28 = .ok (.iadd, 1) := by decide +kernel
theorem dX4_plantIn_29 : decode cX4_plantIn 29 = .ok (.invokestatic 71, 3) := by decide +kernel
theorem dX4_plantIn_32 : decode cX4_plantIn 32 = .ok (.invokestatic 27, 3) := by decide +kernel
theorem dX4_plantIn_35 : decode cX4_plantIn 35 = .ok (.iconst 1, 1) := by decide +kernel
theorem dX4_plantIn_36 : decode cX4_plantIn 36 = .ok (.ireturn, 1) := by decide +kernel
set_option maxRecDepth 100000 in
theorem T_X4_plantIn_0 {G : GE} {d C S : Nat} {P : KI} : Snd G MX4_plantIn (d + 1) C S 0 (RI P) (s_aload 0 (s_iload 1 (s_callV G d MX4_treesOf 1 4 (s_iconst 99 (s_ic_lt (s_aload 0 (s_getR 4 0 (s_iconst 24 (s_iload 1 (s_iadd (s_iconst 99 (s_aload 0 (s_iload 1 (s_callV G d MX4_treesOf 1 4 (s_iload 2 (s_iadd (s_min (s_call G d MX9_put 3 (s_iconst 1 (s_zreturn P))))))))))))))) (s_iconst 0 (s_zreturn P))))))) := (e_aload_n dX4_plantIn_0 rfl (e_iload_n dX4_plantIn_1 rfl (e_callV cl_4 cal_X4_treesOf q_1115 q_566 q_567 dX4_plantIn_2 (e_bipush (v := 99) dX4_plantIn_5 (by decide) (e_ic_lt (tgt := 12) dX4_plantIn_7 (by decide) (e_aload_n dX4_plantIn_12 rfl (e_getR rfl cl_4 (by decide) rfl q_323 dX4_plantIn_13 (e_bipush (v := 24) dX4_plantIn_16 (by decide) (e_iload_n dX4_plantIn_18 rfl (e_iadd dX4_plantIn_19 (e_bipush (v := 99) dX4_plantIn_20 (by decide) (e_aload_n dX4_plantIn_22 rfl (e_iload_n dX4_plantIn_23 rfl (e_callV cl_4 cal_X4_treesOf q_1115 q_566 q_567 dX4_plantIn_24 (e_iload_n dX4_plantIn_27 rfl (e_iadd dX4_plantIn_28 (e_min q_1124 q_552 q_127 q_553 dX4_plantIn_29 (e_callS cal_X9_put q_418 q_419 dX4_plantIn_32 (e_iconst (v := 1) dX4_plantIn_35 (by decide) (e_zreturn rfl dX4_plantIn_36))))))))))))))) (e_iconst (v := 0) dX4_plantIn_10 (by decide) (e_zreturn rfl dX4_plantIn_11)))))))
set_option maxRecDepth 100000 in
theorem V_X4_plantIn_0 {G : GE} {d : Nat} {P : KI} {a : Nat → Nat → Int32} {r : Nat → Nat → Value} {N : Nat} {l0 : Nat} {l1 : Int32} {l2 : Int32} (hs : (tyK l0 = (0, 4) ∧ l0 < N ∧ Sp G d 0 0 MX4_treesOf [.ref l0, .int l1] (a, r, N) (RI fun v4 a1 r2 n3 => ((v4 < 99 → (tyK l0 = (0, 4) ∧ l0 < n3 ∧ ∃ q5, r2 l0 0 = .ref q5 ∧ (tyK l0 = (0, 4) ∧ l0 < n3 ∧ Sp G d 0 0 MX4_treesOf [.ref l0, .int l1] (a1, r2, n3) (RI fun v9 a6 r7 n8 => Sp G d 0 0 MX9_put [.ref q5, .int ((24 : Int32) + l1), .int (if (v9 + l2) < (99 : Int32) then (v9 + l2) else 99)] (a6, r7, n8) (RN fun a10 r11 n12 => (bz 1 ∧ P 1 a10 r11 n12)))))) ∧ (¬ v4 < 99 → (bz 0 ∧ P 0 a1 r2 n3)))))) : Sp G (d + 1) 0 0 MX4_plantIn [.ref l0, .int l1, .int l2] (a, r, N) (RI P) := Sp.mk (mc := 0) (ms := 0) [.ref l0, .int l1, .int l2] rfl rfl rfl rfl (T_X4_plantIn_0 (C := 0) (S := 0) _ _ _ hs)
theorem dX4_quarrelIn_0 : decode cX4_quarrelIn 0 = .ok (.aload_n 0, 1) := by decide +kernel
theorem dX4_quarrelIn_1 : decode cX4_quarrelIn 1 = .ok (.iload_n 1, 1) := by decide +kernel
theorem dX4_quarrelIn_2 : decode cX4_quarrelIn 2 = .ok (.invokevirtual 60, 3) := by decide +kernel
theorem dX4_quarrelIn_5 : decode cX4_quarrelIn 5 = .ok (.istore_n 2, 1) := by decide +kernel
theorem dX4_quarrelIn_6 : decode cX4_quarrelIn 6 = .ok (.iload_n 2, 1) := by decide +kernel
theorem dX4_quarrelIn_7 : decode cX4_quarrelIn 7 = .ok (.iconst (-1), 1) := by decide +kernel
theorem dX4_quarrelIn_8 : decode cX4_quarrelIn 8 = .ok (.if_icmp .eq 23, 3) := by decide +kernel
theorem dX4_quarrelIn_11 : decode cX4_quarrelIn 11 = .ok (.aload_n 0, 1) := by decide +kernel
theorem dX4_quarrelIn_12 : decode cX4_quarrelIn 12 = .ok (.iload_n 1, 1) := by decide +kernel
theorem dX4_quarrelIn_13 : decode cX4_quarrelIn 13 = .ok (.invokevirtual 49, 3) := by decide +kernel
theorem dX4_quarrelIn_16 : decode cX4_quarrelIn 16 = .ok (.bipush 9, 2) := by decide +kernel
theorem dX4_quarrelIn_18 : decode cX4_quarrelIn 18 = .ok (.if_icmp .lt 15, 3) := by decide +kernel
theorem dX4_quarrelIn_21 : decode cX4_quarrelIn 21 = .ok (.aload_n 0, 1) := by decide +kernel
theorem dX4_quarrelIn_22 : decode cX4_quarrelIn 22 = .ok (.iload_n 2, 1) := by decide +kernel
theorem dX4_quarrelIn_23 : decode cX4_quarrelIn 23 = .ok (.invokevirtual 49, 3) := by decide +kernel
theorem dX4_quarrelIn_26 : decode cX4_quarrelIn 26 = .ok (.bipush 9, 2) := by decide +kernel
theorem dX4_quarrelIn_28 : decode cX4_quarrelIn 28 = .ok (.if_icmp .lt 5, 3) := by decide +kernel
theorem dX4_quarrelIn_31 : decode cX4_quarrelIn 31 = .ok (.iconst 0, 1) := by decide +kernel
theorem dX4_quarrelIn_32 : decode cX4_quarrelIn 32 = .ok (.ireturn, 1) := by decide +kernel
theorem dX4_quarrelIn_33 : decode cX4_quarrelIn 33 = .ok (.aload_n 0, 1) := by decide +kernel
theorem dX4_quarrelIn_34 : decode cX4_quarrelIn 34 = .ok (.iload_n 1, 1) := by decide +kernel
theorem dX4_quarrelIn_35 : decode cX4_quarrelIn 35 = .ok (.bipush 9, 2) := by decide +kernel
theorem dX4_quarrelIn_37 : decode cX4_quarrelIn 37 = .ok (.aload_n 0, 1) := by decide +kernel
theorem dX4_quarrelIn_38 : decode cX4_quarrelIn 38 = .ok (.iload_n 1, 1) := by decide +kernel
theorem dX4_quarrelIn_39 : decode cX4_quarrelIn 39 = .ok (.invokevirtual 49, 3) := by decide +kernel
theorem dX4_quarrelIn_42 : decode cX4_quarrelIn 42 = .ok (.iconst 1, 1) := by decide +kernel
theorem dX4_quarrelIn_43 : decode cX4_quarrelIn 43 = .ok (.iadd, 1) := by decide +kernel
theorem dX4_quarrelIn_44 : decode cX4_quarrelIn 44 = .ok (.invokestatic 71, 3) := by decide +kernel
theorem dX4_quarrelIn_47 : decode cX4_quarrelIn 47 = .ok (.invokevirtual 74, 3) := by decide +kernel
theorem dX4_quarrelIn_50 : decode cX4_quarrelIn 50 = .ok (.aload_n 0, 1) := by decide +kernel
theorem dX4_quarrelIn_51 : decode cX4_quarrelIn 51 = .ok (.iload_n 2, 1) := by decide +kernel
theorem dX4_quarrelIn_52 : decode cX4_quarrelIn 52 = .ok (.bipush 9, 2) := by decide +kernel
theorem dX4_quarrelIn_54 : decode cX4_quarrelIn 54 = .ok (.aload_n 0, 1) := by decide +kernel
theorem dX4_quarrelIn_55 : decode cX4_quarrelIn 55 = .ok (.iload_n 2, 1) := by decide +kernel
theorem dX4_quarrelIn_56 : decode cX4_quarrelIn 56 = .ok (.invokevirtual 49, 3) := by decide +kernel
theorem dX4_quarrelIn_59 : decode cX4_quarrelIn 59 = .ok (.iconst 1, 1) := by decide +kernel
theorem dX4_quarrelIn_60 : decode cX4_quarrelIn 60 = .ok (.iadd, 1) := by decide +kernel
theorem dX4_quarrelIn_61 : decode cX4_quarrelIn 61 = .ok (.invokestatic 71, 3) := by decide +kernel
theorem dX4_quarrelIn_64 : decode cX4_quarrelIn 64 = .ok (.invokevirtual 74, 3) := by decide +kernel
theorem dX4_quarrelIn_67 : decode cX4_quarrelIn 67 = .ok (.iconst 1, 1) := by decide +kernel
theorem dX4_quarrelIn_68 : decode cX4_quarrelIn 68 = .ok (.ireturn, 1) := by decide +kernel
set_option maxRecDepth 100000 in
theorem T_X4_quarrelIn_0 {G : GE} {d C S : Nat} {P : KI} : Snd G MX4_quarrelIn (d + 1) C S 0 (RI P) (s_aload 0 (s_iload 1 (s_callV G d MX4_mateOf 1 4 (s_istore 2 (s_iload 2 (s_iconst (-1) (s_ic_eq (s_iconst 0 (s_zreturn P)) (s_aload 0 (s_iload 1 (s_callV G d MX4_holesOf 1 4 (s_iconst 9 (s_ic_lt (s_aload 0 (s_iload 1 (s_iconst 9 (s_aload 0 (s_iload 1 (s_callV G d MX4_holesOf 1 4 (s_iconst 1 (s_iadd (s_min (s_callV G d MX4_setHoles 2 4 (s_aload 0 (s_iload 2 (s_iconst 9 (s_aload 0 (s_iload 2 (s_callV G d MX4_holesOf 1 4 (s_iconst 1 (s_iadd (s_min (s_callV G d MX4_setHoles 2 4 (s_iconst 1 (s_zreturn P)))))))))))))))))))))) (s_aload 0 (s_iload 2 (s_callV G d MX4_holesOf 1 4 (s_iconst 9 (s_ic_lt (s_aload 0 (s_iload 1 (s_iconst 9 (s_aload 0 (s_iload 1 (s_callV G d MX4_holesOf 1 4 (s_iconst 1 (s_iadd (s_min (s_callV G d MX4_setHoles 2 4 (s_aload 0 (s_iload 2 (s_iconst 9 (s_aload 0 (s_iload 2 (s_callV G d MX4_holesOf 1 4 (s_iconst 1 (s_iadd (s_min (s_callV G d MX4_setHoles 2 4 (s_iconst 1 (s_zreturn P)))))))))))))))))))))) (s_iconst 0 (s_zreturn P))))))))))))))))))) := (e_aload_n dX4_quarrelIn_0 rfl (e_iload_n dX4_quarrelIn_1 rfl (e_callV cl_4 cal_X4_mateOf q_1102 q_531 q_532 dX4_quarrelIn_2 (e_istore_n dX4_quarrelIn_5 rfl (by decide) (e_iload_n dX4_quarrelIn_6 rfl (e_iconst (v := (-1)) dX4_quarrelIn_7 (by decide) (e_ic_eq (tgt := 31) dX4_quarrelIn_8 (by decide) (e_iconst (v := 0) dX4_quarrelIn_31 (by decide) (e_zreturn rfl dX4_quarrelIn_32)) (e_aload_n dX4_quarrelIn_11 rfl (e_iload_n dX4_quarrelIn_12 rfl (e_callV cl_4 cal_X4_holesOf q_1129 q_586 q_587 dX4_quarrelIn_13 (e_bipush (v := 9) dX4_quarrelIn_16 (by decide) (e_ic_lt (tgt := 33) dX4_quarrelIn_18 (by decide) (e_aload_n dX4_quarrelIn_33 rfl (e_iload_n dX4_quarrelIn_34 rfl (e_bipush (v := 9) dX4_quarrelIn_35 (by decide) (e_aload_n dX4_quarrelIn_37 rfl (e_iload_n dX4_quarrelIn_38 rfl (e_callV cl_4 cal_X4_holesOf q_1129 q_586 q_587 dX4_quarrelIn_39 (e_iconst (v := 1) dX4_quarrelIn_42 (by decide) (e_iadd dX4_quarrelIn_43 (e_min q_1124 q_552 q_127 q_553 dX4_quarrelIn_44 (e_callV cl_4 cal_X4_setHoles q_1130 q_1132 q_35 dX4_quarrelIn_47 (e_aload_n dX4_quarrelIn_50 rfl (e_iload_n dX4_quarrelIn_51 rfl (e_bipush (v := 9) dX4_quarrelIn_52 (by decide) (e_aload_n dX4_quarrelIn_54 rfl (e_iload_n dX4_quarrelIn_55 rfl (e_callV cl_4 cal_X4_holesOf q_1129 q_586 q_587 dX4_quarrelIn_56 (e_iconst (v := 1) dX4_quarrelIn_59 (by decide) (e_iadd dX4_quarrelIn_60 (e_min q_1124 q_552 q_127 q_553 dX4_quarrelIn_61 (e_callV cl_4 cal_X4_setHoles q_1130 q_1132 q_35 dX4_quarrelIn_64 (e_iconst (v := 1) dX4_quarrelIn_67 (by decide) (e_zreturn rfl dX4_quarrelIn_68)))))))))))))))))))))) (e_aload_n dX4_quarrelIn_21 rfl (e_iload_n dX4_quarrelIn_22 rfl (e_callV cl_4 cal_X4_holesOf q_1129 q_586 q_587 dX4_quarrelIn_23 (e_bipush (v := 9) dX4_quarrelIn_26 (by decide) (e_ic_lt (tgt := 33) dX4_quarrelIn_28 (by decide) (e_aload_n dX4_quarrelIn_33 rfl (e_iload_n dX4_quarrelIn_34 rfl (e_bipush (v := 9) dX4_quarrelIn_35 (by decide) (e_aload_n dX4_quarrelIn_37 rfl (e_iload_n dX4_quarrelIn_38 rfl (e_callV cl_4 cal_X4_holesOf q_1129 q_586 q_587 dX4_quarrelIn_39 (e_iconst (v := 1) dX4_quarrelIn_42 (by decide) (e_iadd dX4_quarrelIn_43 (e_min q_1124 q_552 q_127 q_553 dX4_quarrelIn_44 (e_callV cl_4 cal_X4_setHoles q_1130 q_1132 q_35 dX4_quarrelIn_47 (e_aload_n dX4_quarrelIn_50 rfl (e_iload_n dX4_quarrelIn_51 rfl (e_bipush (v := 9) dX4_quarrelIn_52 (by decide) (e_aload_n dX4_quarrelIn_54 rfl (e_iload_n dX4_quarrelIn_55 rfl (e_callV cl_4 cal_X4_holesOf q_1129 q_586 q_587 dX4_quarrelIn_56 (e_iconst (v := 1) dX4_quarrelIn_59 (by decide) (e_iadd dX4_quarrelIn_60 (e_min q_1124 q_552 q_127 q_553 dX4_quarrelIn_61 (e_callV cl_4 cal_X4_setHoles q_1130 q_1132 q_35 dX4_quarrelIn_64 (e_iconst (v := 1) dX4_quarrelIn_67 (by decide) (e_zreturn rfl dX4_quarrelIn_68)))))))))))))))))))))) (e_iconst (v := 0) dX4_quarrelIn_31 (by decide) (e_zreturn rfl dX4_quarrelIn_32)))))))))))))))))))
set_option maxRecDepth 100000 in
theorem V_X4_quarrelIn_0 {G : GE} {d : Nat} {P : KI} {a : Nat → Nat → Int32} {r : Nat → Nat → Value} {N : Nat} {l0 : Nat} {l1 : Int32} (hs : (tyK l0 = (0, 4) ∧ l0 < N ∧ Sp G d 0 0 MX4_mateOf [.ref l0, .int l1] (a, r, N) (RI fun v4 a1 r2 n3 => ((v4 = (-1) → (bz 0 ∧ P 0 a1 r2 n3)) ∧ (¬ v4 = (-1) → (tyK l0 = (0, 4) ∧ l0 < n3 ∧ Sp G d 0 0 MX4_holesOf [.ref l0, .int l1] (a1, r2, n3) (RI fun v8 a5 r6 n7 => ((v8 < 9 → (tyK l0 = (0, 4) ∧ l0 < n7 ∧ Sp G d 0 0 MX4_holesOf [.ref l0, .int l1] (a5, r6, n7) (RI fun v12 a9 r10 n11 => (tyK l0 = (0, 4) ∧ l0 < n11 ∧ Sp G d 0 0 MX4_setHoles [.ref l0, .int l1, .int (if (v12 + 1) < (9 : Int32) then (v12 + 1) else 9)] (a9, r10, n11) (RN fun a13 r14 n15 => (tyK l0 = (0, 4) ∧ l0 < n15 ∧ Sp G d 0 0 MX4_holesOf [.ref l0, .int v4] (a13, r14, n15) (RI fun v19 a16 r17 n18 => (tyK l0 = (0, 4) ∧ l0 < n18 ∧ Sp G d 0 0 MX4_setHoles [.ref l0, .int v4, .int (if (v19 + 1) < (9 : Int32) then (v19 + 1) else 9)] (a16, r17, n18) (RN fun a20 r21 n22 => (bz 1 ∧ P 1 a20 r21 n22)))))))))) ∧ (¬ v8 < 9 → (tyK l0 = (0, 4) ∧ l0 < n7 ∧ Sp G d 0 0 MX4_holesOf [.ref l0, .int v4] (a5, r6, n7) (RI fun v26 a23 r24 n25 => ((v26 < 9 → (tyK l0 = (0, 4) ∧ l0 < n25 ∧ Sp G d 0 0 MX4_holesOf [.ref l0, .int l1] (a23, r24, n25) (RI fun v30 a27 r28 n29 => (tyK l0 = (0, 4) ∧ l0 < n29 ∧ Sp G d 0 0 MX4_setHoles [.ref l0, .int l1, .int (if (v30 + 1) < (9 : Int32) then (v30 + 1) else 9)] (a27, r28, n29) (RN fun a31 r32 n33 => (tyK l0 = (0, 4) ∧ l0 < n33 ∧ Sp G d 0 0 MX4_holesOf [.ref l0, .int v4] (a31, r32, n33) (RI fun v37 a34 r35 n36 => (tyK l0 = (0, 4) ∧ l0 < n36 ∧ Sp G d 0 0 MX4_setHoles [.ref l0, .int v4, .int (if (v37 + 1) < (9 : Int32) then (v37 + 1) else 9)] (a34, r35, n36) (RN fun a38 r39 n40 => (bz 1 ∧ P 1 a38 r39 n40)))))))))) ∧ (¬ v26 < 9 → (bz 0 ∧ P 0 a23 r24 n25)))))))))))))) : Sp G (d + 1) 0 0 MX4_quarrelIn [.ref l0, .int l1] (a, r, N) (RI P) := Sp.mk (mc := 0) (ms := 0) [.ref l0, .int l1, .null] rfl rfl rfl rfl (T_X4_quarrelIn_0 (C := 0) (S := 0) _ _ _ hs)
theorem dX4_repaveIn_0 : decode cX4_repaveIn 0 = .ok (.aload_n 0, 1) := by decide +kernel
theorem dX4_repaveIn_1 : decode cX4_repaveIn 1 = .ok (.iload_n 1, 1) := by decide +kernel
theorem dX4_repaveIn_2 : decode cX4_repaveIn 2 = .ok (.invokevirtual 60, 3) := by decide +kernel
theorem dX4_repaveIn_5 : decode cX4_repaveIn 5 = .ok (.istore_n 2, 1) := by decide +kernel
theorem dX4_repaveIn_6 : decode cX4_repaveIn 6 = .ok (.aload_n 0, 1) := by decide +kernel
theorem dX4_repaveIn_7 : decode cX4_repaveIn 7 = .ok (.iload_n 1, 1) := by decide +kernel
theorem dX4_repaveIn_8 : decode cX4_repaveIn 8 = .ok (.invokevirtual 49, 3) := by decide +kernel
theorem dX4_repaveIn_11 : decode cX4_repaveIn 11 = .ok (.iload_n 2, 1) := by decide +kernel
theorem dX4_repaveIn_12 : decode cX4_repaveIn 12 = .ok (.iconst (-1), 1) := by decide +kernel
theorem dX4_repaveIn_13 : decode cX4_repaveIn 13 = .ok (.if_icmp .ne 7, 3) := by decide +kernel
theorem dX4_repaveIn_16 : decode cX4_repaveIn 16 = .ok (.iconst 0, 1) := by decide +kernel
theorem dX4_repaveIn_17 : decode cX4_repaveIn 17 = .ok (.goto 8, 3) := by decide +kernel
theorem dX4_repaveIn_20 : decode cX4_repaveIn 20 = .ok (.aload_n 0, 1) := by decide +kernel
theorem dX4_repaveIn_21 : decode cX4_repaveIn 21 = .ok (.iload_n 2, 1) := by decide +kernel
theorem dX4_repaveIn_22 : decode cX4_repaveIn 22 = .ok (.invokevirtual 49, 3) := by decide +kernel
theorem dX4_repaveIn_25 : decode cX4_repaveIn 25 = .ok (.iadd, 1) := by decide +kernel
theorem dX4_repaveIn_26 : decode cX4_repaveIn 26 = .ok (.istore_n 3, 1) := by decide +kernel
theorem dX4_repaveIn_27 : decode cX4_repaveIn 27 = .ok (.iload_n 3, 1) := by decide +kernel
theorem dX4_repaveIn_28 : decode cX4_repaveIn 28 = .ok (.ifCond .ne 5, 3) := by decide +kernel
theorem dX4_repaveIn_31 : decode cX4_repaveIn 31 = .ok (.iconst 0, 1) := by decide +kernel
theorem dX4_repaveIn_32 : decode cX4_repaveIn 32 = .ok (.ireturn, 1) := by decide +kernel
theorem dX4_repaveIn_33 : decode cX4_repaveIn 33 = .ok (.aload_n 0, 1) := by decide +kernel
theorem dX4_repaveIn_34 : decode cX4_repaveIn 34 = .ok (.iload_n 1, 1) := by decide +kernel
theorem dX4_repaveIn_35 : decode cX4_repaveIn 35 = .ok (.iconst 0, 1) := by decide +kernel
theorem dX4_repaveIn_36 : decode cX4_repaveIn 36 = .ok (.invokevirtual 74, 3) := by decide +kernel
theorem dX4_repaveIn_39 : decode cX4_repaveIn 39 = .ok (.iload_n 2, 1) := by decide +kernel
theorem dX4_repaveIn_40 : decode cX4_repaveIn 40 = .ok (.iconst (-1), 1) := by decide +kernel
theorem dX4_repaveIn_41 : decode cX4_repaveIn 41 = .ok (.if_icmp .eq 9, 3) := by decide +kernel
theorem dX4_repaveIn_44 : decode cX4_repaveIn 44 = .ok (.aload_n 0, 1) := by decide +kernel
theorem dX4_repaveIn_45 : decode cX4_repaveIn 45 = .ok (.iload_n 2, 1) := by decide +kernel
theorem dX4_repaveIn_46 : decode cX4_repaveIn 46 = .ok (.iconst 0, 1) := by decide +kernel
theorem dX4_repaveIn_47 : decode cX4_repaveIn 47 = .ok (.invokevirtual 74, 3) := by decide +kernel
theorem dX4_repaveIn_50 : decode cX4_repaveIn 50 = .ok (.iconst 1, 1) := by decide +kernel
theorem dX4_repaveIn_51 : decode cX4_repaveIn 51 = .ok (.ireturn, 1) := by decide +kernel
set_option maxRecDepth 100000 in
theorem T_X4_repaveIn_0 {G : GE} {d C S : Nat} {P : KI} : Snd G MX4_repaveIn (d + 1) C S 0 (RI P) (s_aload 0 (s_iload 1 (s_callV G d MX4_mateOf 1 4 (s_istore 2 (s_aload 0 (s_iload 1 (s_callV G d MX4_holesOf 1 4 (s_iload 2 (s_iconst (-1) (s_ic_ne (s_aload 0 (s_iload 2 (s_callV G d MX4_holesOf 1 4 (s_iadd (s_istore 3 (s_iload 3 (s_if_ne (s_aload 0 (s_iload 1 (s_iconst 0 (s_callV G d MX4_setHoles 2 4 (s_iload 2 (s_iconst (-1) (s_ic_eq (s_iconst 1 (s_zreturn P)) (s_aload 0 (s_iload 2 (s_iconst 0 (s_callV G d MX4_setHoles 2 4 (s_iconst 1 (s_zreturn P))))))))))))) (s_iconst 0 (s_zreturn P))))))))) (s_iconst 0 (s_iadd (s_istore 3 (s_iload 3 (s_if_ne (s_aload 0 (s_iload 1 (s_iconst 0 (s_callV G d MX4_setHoles 2 4 (s_iload 2 (s_iconst (-1) (s_ic_eq (s_iconst 1 (s_zreturn P)) (s_aload 0 (s_iload 2 (s_iconst 0 (s_callV G d MX4_setHoles 2 4 (s_iconst 1 (s_zreturn P))))))))))))) (s_iconst 0 (s_zreturn P))))))))))))))))) := (e_aload_n dX4_repaveIn_0 rfl (e_iload_n dX4_repaveIn_1 rfl (e_callV cl_4 cal_X4_mateOf q_1102 q_531 q_532 dX4_repaveIn_2 (e_istore_n dX4_repaveIn_5 rfl (by decide) (e_aload_n dX4_repaveIn_6 rfl (e_iload_n dX4_repaveIn_7 rfl (e_callV cl_4 cal_X4_holesOf q_1129 q_586 q_587 dX4_repaveIn_8 (e_iload_n dX4_repaveIn_11 rfl (e_iconst (v := (-1)) dX4_repaveIn_12 (by decide) (e_ic_ne (tgt := 20) dX4_repaveIn_13 (by decide) (e_aload_n dX4_repaveIn_20 rfl (e_iload_n dX4_repaveIn_21 rfl (e_callV cl_4 cal_X4_holesOf q_1129 q_586 q_587 dX4_repaveIn_22 (e_iadd dX4_repaveIn_25 (e_istore_n dX4_repaveIn_26 rfl (by decide) (e_iload_n dX4_repaveIn_27 rfl (e_if_ne (tgt := 33) dX4_repaveIn_28 (by decide) (e_aload_n dX4_repaveIn_33 rfl (e_iload_n dX4_repaveIn_34 rfl (e_iconst (v := 0) dX4_repaveIn_35 (by decide) (e_callV cl_4 cal_X4_setHoles q_1130 q_1132 q_35 dX4_repaveIn_36 (e_iload_n dX4_repaveIn_39 rfl (e_iconst (v := (-1)) dX4_repaveIn_40 (by decide) (e_ic_eq (tgt := 50) dX4_repaveIn_41 (by decide) (e_iconst (v := 1) dX4_repaveIn_50 (by decide) (e_zreturn rfl dX4_repaveIn_51)) (e_aload_n dX4_repaveIn_44 rfl (e_iload_n dX4_repaveIn_45 rfl (e_iconst (v := 0) dX4_repaveIn_46 (by decide) (e_callV cl_4 cal_X4_setHoles q_1130 q_1132 q_35 dX4_repaveIn_47 (e_iconst (v := 1) dX4_repaveIn_50 (by decide) (e_zreturn rfl dX4_repaveIn_51))))))))))))) (e_iconst (v := 0) dX4_repaveIn_31 (by decide) (e_zreturn rfl dX4_repaveIn_32))))))))) (e_iconst (v := 0) dX4_repaveIn_16 (by decide) (e_goto (tgt := 25) dX4_repaveIn_17 (by decide) (e_iadd dX4_repaveIn_25 (e_istore_n dX4_repaveIn_26 rfl (by decide) (e_iload_n dX4_repaveIn_27 rfl (e_if_ne (tgt := 33) dX4_repaveIn_28 (by decide) (e_aload_n dX4_repaveIn_33 rfl (e_iload_n dX4_repaveIn_34 rfl (e_iconst (v := 0) dX4_repaveIn_35 (by decide) (e_callV cl_4 cal_X4_setHoles q_1130 q_1132 q_35 dX4_repaveIn_36 (e_iload_n dX4_repaveIn_39 rfl (e_iconst (v := (-1)) dX4_repaveIn_40 (by decide) (e_ic_eq (tgt := 50) dX4_repaveIn_41 (by decide) (e_iconst (v := 1) dX4_repaveIn_50 (by decide) (e_zreturn rfl dX4_repaveIn_51)) (e_aload_n dX4_repaveIn_44 rfl (e_iload_n dX4_repaveIn_45 rfl (e_iconst (v := 0) dX4_repaveIn_46 (by decide) (e_callV cl_4 cal_X4_setHoles q_1130 q_1132 q_35 dX4_repaveIn_47 (e_iconst (v := 1) dX4_repaveIn_50 (by decide) (e_zreturn rfl dX4_repaveIn_51))))))))))))) (e_iconst (v := 0) dX4_repaveIn_31 (by decide) (e_zreturn rfl dX4_repaveIn_32))))))))))))))))))
set_option maxRecDepth 100000 in
theorem V_X4_repaveIn_0 {G : GE} {d : Nat} {P : KI} {a : Nat → Nat → Int32} {r : Nat → Nat → Value} {N : Nat} {l0 : Nat} {l1 : Int32} (hs : (tyK l0 = (0, 4) ∧ l0 < N ∧ Sp G d 0 0 MX4_mateOf [.ref l0, .int l1] (a, r, N) (RI fun v4 a1 r2 n3 => (tyK l0 = (0, 4) ∧ l0 < n3 ∧ Sp G d 0 0 MX4_holesOf [.ref l0, .int l1] (a1, r2, n3) (RI fun v8 a5 r6 n7 => ((¬ v4 = (-1) → (tyK l0 = (0, 4) ∧ l0 < n7 ∧ Sp G d 0 0 MX4_holesOf [.ref l0, .int v4] (a5, r6, n7) (RI fun v12 a9 r10 n11 => ((¬ (v8 + v12) = 0 → (tyK l0 = (0, 4) ∧ l0 < n11 ∧ Sp G d 0 0 MX4_setHoles [.ref l0, .int l1, .int 0] (a9, r10, n11) (RN fun a13 r14 n15 => ((v4 = (-1) → (bz 1 ∧ P 1 a13 r14 n15)) ∧ (¬ v4 = (-1) → (tyK l0 = (0, 4) ∧ l0 < n15 ∧ Sp G d 0 0 MX4_setHoles [.ref l0, .int v4, .int 0] (a13, r14, n15) (RN fun a16 r17 n18 => (bz 1 ∧ P 1 a16 r17 n18)))))))) ∧ ((v8 + v12) = 0 → (bz 0 ∧ P 0 a9 r10 n11)))))) ∧ (v4 = (-1) → ((¬ (v8 + 0) = 0 → (tyK l0 = (0, 4) ∧ l0 < n7 ∧ Sp G d 0 0 MX4_setHoles [.ref l0, .int l1, .int 0] (a5, r6, n7) (RN fun a19 r20 n21 => ((v4 = (-1) → (bz 1 ∧ P 1 a19 r20 n21)) ∧ (¬ v4 = (-1) → (tyK l0 = (0, 4) ∧ l0 < n21 ∧ Sp G d 0 0 MX4_setHoles [.ref l0, .int v4, .int 0] (a19, r20, n21) (RN fun a22 r23 n24 => (bz 1 ∧ P 1 a22 r23 n24)))))))) ∧ ((v8 + 0) = 0 → (bz 0 ∧ P 0 a5 r6 n7)))))))))) : Sp G (d + 1) 0 0 MX4_repaveIn [.ref l0, .int l1] (a, r, N) (RI P) := Sp.mk (mc := 0) (ms := 0) [.ref l0, .int l1, .null, .null] rfl rfl rfl rfl (T_X4_repaveIn_0 (C := 0) (S := 0) _ _ _ hs)
theorem dX4_turnYear_0 : decode cX4_turnYear 0 = .ok (.aload_n 0, 1) := by decide +kernel
theorem dX4_turnYear_1 : decode cX4_turnYear 1 = .ok (.invokevirtual 78, 3) := by decide +kernel
theorem dX4_turnYear_4 : decode cX4_turnYear 4 = .ok (.sipush 200, 3) := by decide +kernel
theorem dX4_turnYear_7 : decode cX4_turnYear 7 = .ok (.if_icmp .lt 5, 3) := by decide +kernel
theorem dX4_turnYear_10 : decode cX4_turnYear 10 = .ok (.iconst 0, 1) := by decide +kernel
theorem dX4_turnYear_11 : decode cX4_turnYear 11 = .ok (.ireturn, 1) := by decide +kernel
theorem dX4_turnYear_12 : decode cX4_turnYear 12 = .ok (.aload_n 0, 1) := by decide +kernel
theorem dX4_turnYear_13 : decode cX4_turnYear 13 = .ok (.getfield 11, 3) := by decide +kernel
theorem dX4_turnYear_16 : decode cX4_turnYear 16 = .ok (.bipush 40, 2) := by decide +kernel
theorem dX4_turnYear_18 : decode cX4_turnYear 18 = .ok (.aload_n 0, 1) := by decide +kernel
theorem dX4_turnYear_19 : decode cX4_turnYear 19 = .ok (.invokevirtual 78, 3) := by decide +kernel
theorem dX4_turnYear_22 : decode cX4_turnYear 22 = .ok (.iconst 1, 1) := by decide +kernel
theorem dX4_turnYear_23 : decode cX4_turnYear 23 = .ok (.iadd, 1) := by decide +kernel
theorem dX4_turnYear_24 : decode cX4_turnYear 24 = .ok (.invokestatic 27, 3) := by decide +kernel
theorem dX4_turnYear_27 : decode cX4_turnYear 27 = .ok (.iconst 0, 1) := by decide +kernel
theorem dX4_turnYear_28 : decode cX4_turnYear 28 = .ok (.istore_n 1, 1) := by decide +kernel
theorem dX4_turnYear_29 : decode cX4_turnYear 29 = .ok (.iload_n 1, 1) := by decide +kernel
theorem dX4_turnYear_30 : decode cX4_turnYear 30 = .ok (.bipush 8, 2) := by decide +kernel
theorem dX4_turnYear_32 : decode cX4_turnYear 32 = .ok (.if_icmp .ge 28, 3) := by decide +kernel
theorem dX4_turnYear_35 : decode cX4_turnYear 35 = .ok (.aload_n 0, 1) := by decide +kernel
theorem dX4_turnYear_36 : decode cX4_turnYear 36 = .ok (.iload_n 1, 1) := by decide +kernel
theorem dX4_turnYear_37 : decode cX4_turnYear 37 = .ok (.invokevirtual 43, 3) := by decide +kernel
theorem dX4_turnYear_40 : decode cX4_turnYear 40 = .ok (.iconst 1, 1) := by decide +kernel
theorem dX4_turnYear_41 : decode cX4_turnYear 41 = .ok (.if_icmp .ne 13, 3) := by decide +kernel
theorem dX4_turnYear_44 : decode cX4_turnYear 44 = .ok (.aload_n 0, 1) := by decide +kernel
theorem dX4_turnYear_45 : decode cX4_turnYear 45 = .ok (.iload_n 1, 1) := by decide +kernel
theorem dX4_turnYear_46 : decode cX4_turnYear 46 = .ok (.aload_n 0, 1) := by decide +kernel
theorem dX4_turnYear_47 : decode cX4_turnYear 47 = .ok (.iload_n 1, 1) := by decide +kernel
theorem dX4_turnYear_48 : decode cX4_turnYear 48 = .ok (.invokevirtual 60, 3) := by decide +kernel
theorem dX4_turnYear_51 : decode cX4_turnYear 51 = .ok (.invokevirtual 81, 3) := by decide +kernel
theorem dX4_turnYear_54 : decode cX4_turnYear 54 = .ok (.iinc 1 1, 3) := by decide +kernel
theorem dX4_turnYear_57 : decode cX4_turnYear 57 = .ok (.goto (-28), 3) := by decide +kernel
theorem dX4_turnYear_60 : decode cX4_turnYear 60 = .ok (.iconst 1, 1) := by decide +kernel
theorem dX4_turnYear_61 : decode cX4_turnYear 61 = .ok (.ireturn, 1) := by decide +kernel
set_option maxRecDepth 100000 in
theorem T_X4_turnYear_0 {G : GE} {d C S : Nat} {P : KI} : Snd G MX4_turnYear (d + 1) C S 0 (RI P) (s_aload 0 (s_callV G d MX4_yearNow 0 4 (s_iconst 200 (s_ic_lt (s_aload 0 (s_getR 4 0 (s_iconst 40 (s_aload 0 (s_callV G d MX4_yearNow 0 4 (s_iconst 1 (s_iadd (s_call G d MX9_put 3 (s_iconst 0 (s_istore 1 (fun L st h => E G MX4_turnYear (d + 1) C S 29 (msk [true, true] L) st h (RI P)))))))))))) (s_iconst 0 (s_zreturn P)))))) := (e_aload_n dX4_turnYear_0 rfl (e_callV cl_4 cal_X4_yearNow q_1142 q_582 q_583 dX4_turnYear_1 (e_sipush (v := 200) dX4_turnYear_4 (by decide) (e_ic_lt (tgt := 12) dX4_turnYear_7 (by decide) (e_aload_n dX4_turnYear_12 rfl (e_getR rfl cl_4 (by decide) rfl q_323 dX4_turnYear_13 (e_bipush (v := 40) dX4_turnYear_16 (by decide) (e_aload_n dX4_turnYear_18 rfl (e_callV cl_4 cal_X4_yearNow q_1142 q_582 q_583 dX4_turnYear_19 (e_iconst (v := 1) dX4_turnYear_22 (by decide) (e_iadd dX4_turnYear_23 (e_callS cal_X9_put q_418 q_419 dX4_turnYear_24 (e_iconst (v := 0) dX4_turnYear_27 (by decide) (e_istore_n dX4_turnYear_28 rfl (by decide) (e_msk [true, true]))))))))))) (e_iconst (v := 0) dX4_turnYear_10 (by decide) (e_zreturn rfl dX4_turnYear_11))))))
set_option maxRecDepth 100000 in
theorem V_X4_turnYear_0 {G : GE} {d : Nat} {P : KI} {a : Nat → Nat → Int32} {r : Nat → Nat → Value} {N : Nat} {l0 : Nat} (hs : (tyK l0 = (0, 4) ∧ l0 < N ∧ Sp G d 0 0 MX4_yearNow [.ref l0] (a, r, N) (RI fun v4 a1 r2 n3 => ((v4 < 200 → (tyK l0 = (0, 4) ∧ l0 < n3 ∧ ∃ q5, r2 l0 0 = .ref q5 ∧ (tyK l0 = (0, 4) ∧ l0 < n3 ∧ Sp G d 0 0 MX4_yearNow [.ref l0] (a1, r2, n3) (RI fun v9 a6 r7 n8 => Sp G d 0 0 MX9_put [.ref q5, .int 40, .int (v9 + 1)] (a6, r7, n8) (RN fun a10 r11 n12 => E G MX4_turnYear (d + 1) 0 0 29 [.ref l0, .int 0] [] (a10, r11, n12) (RI P)))))) ∧ (¬ v4 < 200 → (bz 0 ∧ P 0 a1 r2 n3)))))) : Sp G (d + 1) 0 0 MX4_turnYear [.ref l0] (a, r, N) (RI P) := Sp.mk (mc := 0) (ms := 0) [.ref l0, .null] rfl rfl rfl rfl (T_X4_turnYear_0 (C := 0) (S := 0) _ _ _ hs)
set_option maxRecDepth 100000 in
theorem T_X4_turnYear_29 {G : GE} {d C S : Nat} {P : KI} : Snd G MX4_turnYear (d + 1) C S 29 (RI P) (s_iload 1 (s_iconst 8 (s_ic_ge (s_iconst 1 (s_zreturn P)) (s_aload 0 (s_iload 1 (s_callV G d MX4_roleOf 1 4 (s_iconst 1 (s_ic_ne (s_iinc 1 1 (fun L st h => E G MX4_turnYear (d + 1) C S 29 (msk [true, true] L) st h (RI P))) (s_aload 0 (s_iload 1 (s_aload 0 (s_iload 1 (s_callV G d MX4_mateOf 1 4 (s_callV G d MX4_age 2 4 (s_iinc 1 1 (fun L st h => E G MX4_turnYear (d + 1) C S 29 (msk [true, true] L) st h (RI P))))))))))))))))) := (e_iload_n dX4_turnYear_29 rfl (e_bipush (v := 8) dX4_turnYear_30 (by decide) (e_ic_ge (tgt := 60) dX4_turnYear_32 (by decide) (e_iconst (v := 1) dX4_turnYear_60 (by decide) (e_zreturn rfl dX4_turnYear_61)) (e_aload_n dX4_turnYear_35 rfl (e_iload_n dX4_turnYear_36 rfl (e_callV cl_4 cal_X4_roleOf q_1111 q_1112 q_1113 dX4_turnYear_37 (e_iconst (v := 1) dX4_turnYear_40 (by decide) (e_ic_ne (tgt := 54) dX4_turnYear_41 (by decide) (e_iinc (v := 1) dX4_turnYear_54 (by decide) (by decide) (e_goto (tgt := 29) dX4_turnYear_57 (by decide) (e_msk [true, true]))) (e_aload_n dX4_turnYear_44 rfl (e_iload_n dX4_turnYear_45 rfl (e_aload_n dX4_turnYear_46 rfl (e_iload_n dX4_turnYear_47 rfl (e_callV cl_4 cal_X4_mateOf q_1102 q_531 q_532 dX4_turnYear_48 (e_callV cl_4 cal_X4_age q_1143 q_1145 q_36 dX4_turnYear_51 (e_iinc (v := 1) dX4_turnYear_54 (by decide) (by decide) (e_goto (tgt := 29) dX4_turnYear_57 (by decide) (e_msk [true, true])))))))))))))))))
set_option maxRecDepth 100000 in
theorem V_X4_turnYear_29 {G : GE} {d C S : Nat} {P : KI} {a : Nat → Nat → Int32} {r : Nat → Nat → Value} {N : Nat} {l0 : Nat} {l1 : Int32} (hs : ((8 ≤ l1 → (bz 1 ∧ P 1 a r N)) ∧ (¬ 8 ≤ l1 → (tyK l0 = (0, 4) ∧ l0 < N ∧ Sp G d 0 0 MX4_roleOf [.ref l0, .int l1] (a, r, N) (RI fun v4 a1 r2 n3 => ((¬ v4 = 1 → E G MX4_turnYear (d + 1) C S 29 [.ref l0, .int (l1 + 1)] [] (a1, r2, n3) (RI P)) ∧ (v4 = 1 → (tyK l0 = (0, 4) ∧ l0 < n3 ∧ Sp G d 0 0 MX4_mateOf [.ref l0, .int l1] (a1, r2, n3) (RI fun v8 a5 r6 n7 => (tyK l0 = (0, 4) ∧ l0 < n7 ∧ Sp G d 0 0 MX4_age [.ref l0, .int l1, .int v8] (a5, r6, n7) (RN fun a9 r10 n11 => E G MX4_turnYear (d + 1) C S 29 [.ref l0, .int (l1 + 1)] [] (a9, r10, n11) (RI P)))))))))))) : E G MX4_turnYear (d + 1) C S 29 [.ref l0, .int l1] [] (a, r, N) (RI P) := T_X4_turnYear_29 _ _ _ hs
theorem dX4_age_0 : decode cX4_age 0 = .ok (.aload_n 0, 1) := by decide +kernel
theorem dX4_age_1 : decode cX4_age 1 = .ok (.iload_n 1, 1) := by decide +kernel
theorem dX4_age_2 : decode cX4_age 2 = .ok (.invokevirtual 52, 3) := by decide +kernel
theorem dX4_age_5 : decode cX4_age 5 = .ok (.iconst 1, 1) := by decide +kernel
theorem dX4_age_6 : decode cX4_age 6 = .ok (.iadd, 1) := by decide +kernel
theorem dX4_age_7 : decode cX4_age 7 = .ok (.istore_n 3, 1) := by decide +kernel
theorem dX4_age_8 : decode cX4_age 8 = .ok (.aload_n 0, 1) := by decide +kernel
theorem dX4_age_9 : decode cX4_age 9 = .ok (.getfield 11, 3) := by decide +kernel
theorem dX4_age_12 : decode cX4_age 12 = .ok (.bipush 16, 2) := by decide +kernel
theorem dX4_age_14 : decode cX4_age 14 = .ok (.iload_n 1, 1) := by decide +kernel
theorem dX4_age_15 : decode cX4_age 15 = .ok (.iadd, 1) := by decide +kernel
theorem dX4_age_16 : decode cX4_age 16 = .ok (.iload_n 3, 1) := by decide +kernel
theorem dX4_age_17 : decode cX4_age 17 = .ok (.invokestatic 27, 3) := by decide +kernel
theorem dX4_age_20 : decode cX4_age 20 = .ok (.aload_n 0, 1) := by decide +kernel
theorem dX4_age_21 : decode cX4_age 21 = .ok (.getfield 11, 3) := by decide +kernel
theorem dX4_age_24 : decode cX4_age 24 = .ok (.bipush 16, 2) := by decide +kernel
theorem dX4_age_26 : decode cX4_age 26 = .ok (.iload_n 2, 1) := by decide +kernel
theorem dX4_age_27 : decode cX4_age 27 = .ok (.iadd, 1) := by decide +kernel
theorem dX4_age_28 : decode cX4_age 28 = .ok (.iload_n 3, 1) := by decide +kernel
theorem dX4_age_29 : decode cX4_age 29 = .ok (.invokestatic 27, 3) := by decide +kernel
theorem dX4_age_32 : decode cX4_age 32 = .ok (.iload_n 3, 1) := by decide +kernel
theorem dX4_age_33 : decode cX4_age 33 = .ok (.bipush 25, 2) := by decide +kernel
theorem dX4_age_35 : decode cX4_age 35 = .ok (.irem, 1) := by decide +kernel
theorem dX4_age_36 : decode cX4_age 36 = .ok (.ifCond .ne 15, 3) := by decide +kernel
theorem dX4_age_39 : decode cX4_age 39 = .ok (.aload_n 0, 1) := by decide +kernel
theorem dX4_age_40 : decode cX4_age 40 = .ok (.iload_n 1, 1) := by decide +kernel
theorem dX4_age_41 : decode cX4_age 41 = .ok (.iconst 0, 1) := by decide +kernel
theorem dX4_age_42 : decode cX4_age 42 = .ok (.invokevirtual 74, 3) := by decide +kernel
theorem dX4_age_45 : decode cX4_age 45 = .ok (.aload_n 0, 1) := by decide +kernel
theorem dX4_age_46 : decode cX4_age 46 = .ok (.iload_n 2, 1) := by decide +kernel
theorem dX4_age_47 : decode cX4_age 47 = .ok (.iconst 0, 1) := by decide +kernel
theorem dX4_age_48 : decode cX4_age 48 = .ok (.invokevirtual 74, 3) := by decide +kernel
theorem dX4_age_51 : decode cX4_age 51 = .ok (.aload_n 0, 1) := by decide +kernel
theorem dX4_age_52 : decode cX4_age 52 = .ok (.iload_n 1, 1) := by decide +kernel
theorem dX4_age_53 : decode cX4_age 53 = .ok (.invokevirtual 49, 3) := by decide +kernel
theorem dX4_age_56 : decode cX4_age 56 = .ok (.aload_n 0, 1) := by decide +kernel
theorem dX4_age_57 : decode cX4_age 57 = .ok (.iload_n 2, 1) := by decide +kernel
theorem dX4_age_58 : decode cX4_age 58 = .ok (.invokevirtual 49, 3) := by decide +kernel
theorem dX4_age_61 : decode cX4_age 61 = .ok (.iadd, 1) := by decide +kernel
theorem dX4_age_62 : decode cX4_age 62 = .ok (.bipush 10, 2) := by decide +kernel
theorem dX4_age_64 : decode cX4_age 64 = .ok (.if_icmp .lt 9, 3) := by decide +kernel
theorem dX4_age_67 : decode cX4_age 67 = .ok (.aload_n 0, 1) := by decide +kernel
theorem dX4_age_68 : decode cX4_age 68 = .ok (.iload_n 1, 1) := by decide +kernel
theorem dX4_age_69 : decode cX4_age 69 = .ok (.invokevirtual 84, 3) := by decide +kernel
theorem dX4_age_72 : decode cX4_age 72 = .ok (.pop, 1) := by decide +kernel
theorem dX4_age_73 : decode cX4_age 73 = .ok (.return_, 1) := by decide +kernel
set_option maxRecDepth 100000 in
theorem T_X4_age_0 {G : GE} {d C S : Nat} {P : KN} : Snd G MX4_age (d + 1) C S 0 (RN P) (s_aload 0 (s_iload 1 (s_callV G d MX4_yearsOf 1 4 (s_iconst 1 (s_iadd (s_istore 3 (s_aload 0 (s_getR 4 0 (s_iconst 16 (s_iload 1 (s_iadd (s_iload 3 (s_call G d MX9_put 3 (s_aload 0 (s_getR 4 0 (s_iconst 16 (s_iload 2 (s_iadd (s_iload 3 (s_call G d MX9_put 3 (s_iload 3 (s_iconst 25 (s_irem (s_if_ne (s_aload 0 (s_iload 1 (s_callV G d MX4_holesOf 1 4 (s_aload 0 (s_iload 2 (s_callV G d MX4_holesOf 1 4 (s_iadd (s_iconst 10 (s_ic_lt (s_return P) (s_aload 0 (s_iload 1 (s_callV G d MX4_partFrom 1 4 (s_pop (s_return P)))))))))))))) (s_aload 0 (s_iload 1 (s_iconst 0 (s_callV G d MX4_setHoles 2 4 (s_aload 0 (s_iload 2 (s_iconst 0 (s_callV G d MX4_setHoles 2 4 (s_aload 0 (s_iload 1 (s_callV G d MX4_holesOf 1 4 (s_aload 0 (s_iload 2 (s_callV G d MX4_holesOf 1 4 (s_iadd (s_iconst 10 (s_ic_lt (s_return P) (s_aload 0 (s_iload 1 (s_callV G d MX4_partFrom 1 4 (s_pop (s_return P)))))))))))))))))))))))))))))))))))))))))))))) := (e_aload_n dX4_age_0 rfl (e_iload_n dX4_age_1 rfl (e_callV cl_4 cal_X4_yearsOf q_1147 q_1148 q_1149 dX4_age_2 (e_iconst (v := 1) dX4_age_5 (by decide) (e_iadd dX4_age_6 (e_istore_n dX4_age_7 rfl (by decide) (e_aload_n dX4_age_8 rfl (e_getR rfl cl_4 (by decide) rfl q_323 dX4_age_9 (e_bipush (v := 16) dX4_age_12 (by decide) (e_iload_n dX4_age_14 rfl (e_iadd dX4_age_15 (e_iload_n dX4_age_16 rfl (e_callS cal_X9_put q_418 q_419 dX4_age_17 (e_aload_n dX4_age_20 rfl (e_getR rfl cl_4 (by decide) rfl q_323 dX4_age_21 (e_bipush (v := 16) dX4_age_24 (by decide) (e_iload_n dX4_age_26 rfl (e_iadd dX4_age_27 (e_iload_n dX4_age_28 rfl (e_callS cal_X9_put q_418 q_419 dX4_age_29 (e_iload_n dX4_age_32 rfl (e_bipush (v := 25) dX4_age_33 (by decide) (e_irem dX4_age_35 (e_if_ne (tgt := 51) dX4_age_36 (by decide) (e_aload_n dX4_age_51 rfl (e_iload_n dX4_age_52 rfl (e_callV cl_4 cal_X4_holesOf q_1129 q_586 q_587 dX4_age_53 (e_aload_n dX4_age_56 rfl (e_iload_n dX4_age_57 rfl (e_callV cl_4 cal_X4_holesOf q_1129 q_586 q_587 dX4_age_58 (e_iadd dX4_age_61 (e_bipush (v := 10) dX4_age_62 (by decide) (e_ic_lt (tgt := 73) dX4_age_64 (by decide) (e_return rfl dX4_age_73) (e_aload_n dX4_age_67 rfl (e_iload_n dX4_age_68 rfl (e_callV cl_4 cal_X4_partFrom q_1151 q_1108 q_1109 dX4_age_69 (e_pop dX4_age_72 (e_return rfl dX4_age_73)))))))))))))) (e_aload_n dX4_age_39 rfl (e_iload_n dX4_age_40 rfl (e_iconst (v := 0) dX4_age_41 (by decide) (e_callV cl_4 cal_X4_setHoles q_1130 q_1132 q_35 dX4_age_42 (e_aload_n dX4_age_45 rfl (e_iload_n dX4_age_46 rfl (e_iconst (v := 0) dX4_age_47 (by decide) (e_callV cl_4 cal_X4_setHoles q_1130 q_1132 q_35 dX4_age_48 (e_aload_n dX4_age_51 rfl (e_iload_n dX4_age_52 rfl (e_callV cl_4 cal_X4_holesOf q_1129 q_586 q_587 dX4_age_53 (e_aload_n dX4_age_56 rfl (e_iload_n dX4_age_57 rfl (e_callV cl_4 cal_X4_holesOf q_1129 q_586 q_587 dX4_age_58 (e_iadd dX4_age_61 (e_bipush (v := 10) dX4_age_62 (by decide) (e_ic_lt (tgt := 73) dX4_age_64 (by decide) (e_return rfl dX4_age_73) (e_aload_n dX4_age_67 rfl (e_iload_n dX4_age_68 rfl (e_callV cl_4 cal_X4_partFrom q_1151 q_1108 q_1109 dX4_age_69 (e_pop dX4_age_72 (e_return rfl dX4_age_73))))))))))))))))))))))))))))))))))))))))))))))
set_option maxRecDepth 100000 in
theorem V_X4_age_0 {G : GE} {d : Nat} {P : KN} {a : Nat → Nat → Int32} {r : Nat → Nat → Value} {N : Nat} {l0 : Nat} {l1 : Int32} {l2 : Int32} (hs : (tyK l0 = (0, 4) ∧ l0 < N ∧ Sp G d 0 0 MX4_yearsOf [.ref l0, .int l1] (a, r, N) (RI fun v4 a1 r2 n3 => (tyK l0 = (0, 4) ∧ l0 < n3 ∧ ∃ q5, r2 l0 0 = .ref q5 ∧ Sp G d 0 0 MX9_put [.ref q5, .int ((16 : Int32) + l1), .int (v4 + 1)] (a1, r2, n3) (RN fun a6 r7 n8 => (tyK l0 = (0, 4) ∧ l0 < n8 ∧ ∃ q9, r7 l0 0 = .ref q9 ∧ Sp G d 0 0 MX9_put [.ref q9, .int ((16 : Int32) + l2), .int (v4 + 1)] (a6, r7, n8) (RN fun a10 r11 n12 => (¬ (25 : Int32) = 0 ∧ ((¬ (((v4 + 1) : Int32) - ((v4 + 1) : Int32) / (25 : Int32) * (25 : Int32)) = 0 → (tyK l0 = (0, 4) ∧ l0 < n12 ∧ Sp G d 0 0 MX4_holesOf [.ref l0, .int l1] (a10, r11, n12) (RI fun v16 a13 r14 n15 => (tyK l0 = (0, 4) ∧ l0 < n15 ∧ Sp G d 0 0 MX4_holesOf [.ref l0, .int l2] (a13, r14, n15) (RI fun v20 a17 r18 n19 => (((v16 + v20) < 10 → P a17 r18 n19) ∧ (¬ (v16 + v20) < 10 → (tyK l0 = (0, 4) ∧ l0 < n19 ∧ Sp G d 0 0 MX4_partFrom [.ref l0, .int l1] (a17, r18, n19) (RI fun v24 a21 r22 n23 => P a21 r22 n23))))))))) ∧ ((((v4 + 1) : Int32) - ((v4 + 1) : Int32) / (25 : Int32) * (25 : Int32)) = 0 → (tyK l0 = (0, 4) ∧ l0 < n12 ∧ Sp G d 0 0 MX4_setHoles [.ref l0, .int l1, .int 0] (a10, r11, n12) (RN fun a25 r26 n27 => (tyK l0 = (0, 4) ∧ l0 < n27 ∧ Sp G d 0 0 MX4_setHoles [.ref l0, .int l2, .int 0] (a25, r26, n27) (RN fun a28 r29 n30 => (tyK l0 = (0, 4) ∧ l0 < n30 ∧ Sp G d 0 0 MX4_holesOf [.ref l0, .int l1] (a28, r29, n30) (RI fun v34 a31 r32 n33 => (tyK l0 = (0, 4) ∧ l0 < n33 ∧ Sp G d 0 0 MX4_holesOf [.ref l0, .int l2] (a31, r32, n33) (RI fun v38 a35 r36 n37 => (((v34 + v38) < 10 → P a35 r36 n37) ∧ (¬ (v34 + v38) < 10 → (tyK l0 = (0, 4) ∧ l0 < n37 ∧ Sp G d 0 0 MX4_partFrom [.ref l0, .int l1] (a35, r36, n37) (RI fun v42 a39 r40 n41 => P a39 r40 n41)))))))))))))))))))))) : Sp G (d + 1) 0 0 MX4_age [.ref l0, .int l1, .int l2] (a, r, N) (RN P) := Sp.mk (mc := 0) (ms := 0) [.ref l0, .int l1, .int l2, .null] rfl rfl rfl rfl (T_X4_age_0 (C := 0) (S := 0) _ _ _ hs)
theorem dX4_bind_0 : decode cX4_bind 0 = .ok (.aload_n 0, 1) := by decide +kernel
theorem dX4_bind_1 : decode cX4_bind 1 = .ok (.getfield 11, 3) := by decide +kernel
theorem dX4_bind_4 : decode cX4_bind 4 = .ok (.iconst 0, 1) := by decide +kernel
theorem dX4_bind_5 : decode cX4_bind 5 = .ok (.iload_n 1, 1) := by decide +kernel
theorem dX4_bind_6 : decode cX4_bind 6 = .ok (.iadd, 1) := by decide +kernel
theorem dX4_bind_7 : decode cX4_bind 7 = .ok (.iload_n 2, 1) := by decide +kernel
theorem dX4_bind_8 : decode cX4_bind 8 = .ok (.invokestatic 27, 3) := by decide +kernel
theorem dX4_bind_11 : decode cX4_bind 11 = .ok (.aload_n 0, 1) := by decide +kernel
theorem dX4_bind_12 : decode cX4_bind 12 = .ok (.getfield 11, 3) := by decide +kernel
theorem dX4_bind_15 : decode cX4_bind 15 = .ok (.bipush 8, 2) := by decide +kernel
theorem dX4_bind_17 : decode cX4_bind 17 = .ok (.iload_n 1, 1) := by decide +kernel
theorem dX4_bind_18 : decode cX4_bind 18 = .ok (.iadd, 1) := by decide +kernel
theorem dX4_bind_19 : decode cX4_bind 19 = .ok (.iload_n 3, 1) := by decide +kernel
theorem dX4_bind_20 : decode cX4_bind 20 = .ok (.invokestatic 27, 3) := by decide +kernel
theorem dX4_bind_23 : decode cX4_bind 23 = .ok (.aload_n 0, 1) := by decide +kernel
theorem dX4_bind_24 : decode cX4_bind 24 = .ok (.getfield 11, 3) := by decide +kernel
theorem dX4_bind_27 : decode cX4_bind 27 = .ok (.bipush 16, 2) := by decide +kernel
theorem dX4_bind_29 : decode cX4_bind 29 = .ok (.iload_n 1, 1) := by decide +kernel
theorem dX4_bind_30 : decode cX4_bind 30 = .ok (.iadd, 1) := by decide +kernel
theorem dX4_bind_31 : decode cX4_bind 31 = .ok (.iconst 0, 1) := by decide +kernel
theorem dX4_bind_32 : decode cX4_bind 32 = .ok (.invokestatic 27, 3) := by decide +kernel
theorem dX4_bind_35 : decode cX4_bind 35 = .ok (.return_, 1) := by decide +kernel
set_option maxRecDepth 100000 in
theorem T_X4_bind_0 {G : GE} {d C S : Nat} {P : KN} : Snd G MX4_bind (d + 1) C S 0 (RN P) (s_aload 0 (s_getR 4 0 (s_iconst 0 (s_iload 1 (s_iadd (s_iload 2 (s_call G d MX9_put 3 (s_aload 0 (s_getR 4 0 (s_iconst 8 (s_iload 1 (s_iadd (s_iload 3 (s_call G d MX9_put 3 (s_aload 0 (s_getR 4 0 (s_iconst 16 (s_iload 1 (s_iadd (s_iconst 0 (s_call G d MX9_put 3 (s_return P)))))))))))))))))))))) := (e_aload_n dX4_bind_0 rfl (e_getR rfl cl_4 (by decide) rfl q_323 dX4_bind_1 (e_iconst (v := 0) dX4_bind_4 (by decide) (e_iload_n dX4_bind_5 rfl (e_iadd dX4_bind_6 (e_iload_n dX4_bind_7 rfl (e_callS cal_X9_put q_418 q_419 dX4_bind_8 (e_aload_n dX4_bind_11 rfl (e_getR rfl cl_4 (by decide) rfl q_323 dX4_bind_12 (e_bipush (v := 8) dX4_bind_15 (by decide) (e_iload_n dX4_bind_17 rfl (e_iadd dX4_bind_18 (e_iload_n dX4_bind_19 rfl (e_callS cal_X9_put q_418 q_419 dX4_bind_20 (e_aload_n dX4_bind_23 rfl (e_getR rfl cl_4 (by decide) rfl q_323 dX4_bind_24 (e_bipush (v := 16) dX4_bind_27 (by decide) (e_iload_n dX4_bind_29 rfl (e_iadd dX4_bind_30 (e_iconst (v := 0) dX4_bind_31 (by decide) (e_callS cal_X9_put q_418 q_419 dX4_bind_32 (e_return rfl dX4_bind_35))))))))))))))))))))))
set_option maxRecDepth 100000 in
theorem V_X4_bind_0 {G : GE} {d : Nat} {P : KN} {a : Nat → Nat → Int32} {r : Nat → Nat → Value} {N : Nat} {l0 : Nat} {l1 : Int32} {l2 : Int32} {l3 : Int32} (hs : (tyK l0 = (0, 4) ∧ l0 < N ∧ ∃ q1, r l0 0 = .ref q1 ∧ Sp G d 0 0 MX9_put [.ref q1, .int ((0 : Int32) + l1), .int l2] (a, r, N) (RN fun a2 r3 n4 => (tyK l0 = (0, 4) ∧ l0 < n4 ∧ ∃ q5, r3 l0 0 = .ref q5 ∧ Sp G d 0 0 MX9_put [.ref q5, .int ((8 : Int32) + l1), .int l3] (a2, r3, n4) (RN fun a6 r7 n8 => (tyK l0 = (0, 4) ∧ l0 < n8 ∧ ∃ q9, r7 l0 0 = .ref q9 ∧ Sp G d 0 0 MX9_put [.ref q9, .int ((16 : Int32) + l1), .int 0] (a6, r7, n8) (RN fun a10 r11 n12 => P a10 r11 n12))))))) : Sp G (d + 1) 0 0 MX4_bind [.ref l0, .int l1, .int l2, .int l3] (a, r, N) (RN P) := Sp.mk (mc := 0) (ms := 0) [.ref l0, .int l1, .int l2, .int l3] rfl rfl rfl rfl (T_X4_bind_0 (C := 0) (S := 0) _ _ _ hs)
theorem dX4_setHoles_0 : decode cX4_setHoles 0 = .ok (.aload_n 0, 1) := by decide +kernel
theorem dX4_setHoles_1 : decode cX4_setHoles 1 = .ok (.getfield 11, 3) := by decide +kernel
theorem dX4_setHoles_4 : decode cX4_setHoles 4 = .ok (.bipush 32, 2) := by decide +kernel
theorem dX4_setHoles_6 : decode cX4_setHoles 6 = .ok (.iload_n 1, 1) := by decide +kernel
theorem dX4_setHoles_7 : decode cX4_setHoles 7 = .ok (.iadd, 1) := by decide +kernel
theorem dX4_setHoles_8 : decode cX4_setHoles 8 = .ok (.iload_n 2, 1) := by decide +kernel
theorem dX4_setHoles_9 : decode cX4_setHoles 9 = .ok (.invokestatic 27, 3) := by decide +kernel
theorem dX4_setHoles_12 : decode cX4_setHoles 12 = .ok (.return_, 1) := by decide +kernel
set_option maxRecDepth 100000 in
theorem T_X4_setHoles_0 {G : GE} {d C S : Nat} {P : KN} : Snd G MX4_setHoles (d + 1) C S 0 (RN P) (s_aload 0 (s_getR 4 0 (s_iconst 32 (s_iload 1 (s_iadd (s_iload 2 (s_call G d MX9_put 3 (s_return P)))))))) := (e_aload_n dX4_setHoles_0 rfl (e_getR rfl cl_4 (by decide) rfl q_323 dX4_setHoles_1 (e_bipush (v := 32) dX4_setHoles_4 (by decide) (e_iload_n dX4_setHoles_6 rfl (e_iadd dX4_setHoles_7 (e_iload_n dX4_setHoles_8 rfl (e_callS cal_X9_put q_418 q_419 dX4_setHoles_9 (e_return rfl dX4_setHoles_12))))))))
set_option maxRecDepth 100000 in
theorem V_X4_setHoles_0 {G : GE} {d : Nat} {P : KN} {a : Nat → Nat → Int32} {r : Nat → Nat → Value} {N : Nat} {l0 : Nat} {l1 : Int32} {l2 : Int32} (hs : (tyK l0 = (0, 4) ∧ l0 < N ∧ ∃ q1, r l0 0 = .ref q1 ∧ Sp G d 0 0 MX9_put [.ref q1, .int ((32 : Int32) + l1), .int l2] (a, r, N) (RN fun a2 r3 n4 => P a2 r3 n4))) : Sp G (d + 1) 0 0 MX4_setHoles [.ref l0, .int l1, .int l2] (a, r, N) (RN P) := Sp.mk (mc := 0) (ms := 0) [.ref l0, .int l1, .int l2] rfl rfl rfl rfl (T_X4_setHoles_0 (C := 0) (S := 0) _ _ _ hs)
