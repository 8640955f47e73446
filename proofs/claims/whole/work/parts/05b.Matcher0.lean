theorem dX6_init_0 : decode cX6_init 0 = .ok (.aload_n 0, 1) := by decide +kernel
theorem dX6_init_1 : decode cX6_init 1 = .ok (.invokespecial 3, 3) := by decide +kernel
theorem dX6_init_4 : decode cX6_init 4 = .ok (.aload_n 0, 1) := by decide +kernel
theorem dX6_init_5 : decode cX6_init 5 = .ok (.bipush 8, 2) := by decide +kernel
theorem dX6_init_7 : decode cX6_init 7 = .ok (.newarray .int, 2) := by decide +kernel
theorem dX6_init_9 : decode cX6_init 9 = .ok (.putfield 11, 3) := by decide +kernel
theorem dX6_init_12 : decode cX6_init 12 = .ok (.aload_n 0, 1) := by decide +kernel
theorem dX6_init_13 : decode cX6_init 13 = .ok (.bipush 8, 2) := by decide +kernel
theorem dX6_init_15 : decode cX6_init 15 = .ok (.newarray .int, 2) := by decide +kernel
theorem dX6_init_17 : decode cX6_init 17 = .ok (.putfield 17, 3) := by decide +kernel
theorem dX6_init_20 : decode cX6_init 20 = .ok (.aload_n 0, 1) := by decide +kernel
theorem dX6_init_21 : decode cX6_init 21 = .ok (.bipush 8, 2) := by decide +kernel
theorem dX6_init_23 : decode cX6_init 23 = .ok (.newarray .int, 2) := by decide +kernel
theorem dX6_init_25 : decode cX6_init 25 = .ok (.putfield 20, 3) := by decide +kernel
theorem dX6_init_28 : decode cX6_init 28 = .ok (.aload_n 0, 1) := by decide +kernel
theorem dX6_init_29 : decode cX6_init 29 = .ok (.bipush 8, 2) := by decide +kernel
theorem dX6_init_31 : decode cX6_init 31 = .ok (.newarray .int, 2) := by decide +kernel
theorem dX6_init_33 : decode cX6_init 33 = .ok (.putfield 23, 3) := by decide +kernel
theorem dX6_init_36 : decode cX6_init 36 = .ok (.return_, 1) := by decide +kernel
set_option maxRecDepth 100000 in
theorem T_X6_init_0 {G : GE} {d C S : Nat} {P : KN} : Snd G MX6_init (d + 1) (C + 4) (S + 32) 0 (RN P) (s_aload 0 (s_objInit (s_aload 0 (s_iconst 8 (fun L st h => p1 st (fun x _ => x.toNatClampNeg = 8) ∧ s_newI (s_putR 6 0 (s_aload 0 (s_iconst 8 (fun L st h => p1 st (fun x _ => x.toNatClampNeg = 8) ∧ s_newI (s_putR 6 1 (s_aload 0 (s_iconst 8 (fun L st h => p1 st (fun x _ => x.toNatClampNeg = 8) ∧ s_newI (s_putR 6 2 (s_aload 0 (s_iconst 8 (fun L st h => p1 st (fun x _ => x.toNatClampNeg = 8) ∧ s_newI (s_putR 6 3 (s_return P)) L st h)))) L st h)))) L st h)))) L st h))))) := (e_aload_n dX6_init_0 rfl (e_objInit q_353 q_141 q_142 dX6_init_1 (e_aload_n dX6_init_4 rfl (e_bipush (v := 8) dX6_init_5 (by decide) (e_newI (N := 8) q_252 (by decide) dX6_init_7 (e_putRF (ty := .array .int) rfl rfl cl_6 (by decide) rfl rfl rfl (by decide +kernel) (fun _ => ⟨rfl, rfl⟩) q_354 dX6_init_9 (e_aload_n dX6_init_12 rfl (e_bipush (v := 8) dX6_init_13 (by decide) (e_newI (N := 8) q_252 (by decide) dX6_init_15 (e_putRF (ty := .array .int) rfl rfl cl_6 (by decide) rfl rfl rfl (by decide +kernel) (fun _ => ⟨rfl, rfl⟩) q_355 dX6_init_17 (e_aload_n dX6_init_20 rfl (e_bipush (v := 8) dX6_init_21 (by decide) (e_newI (N := 8) q_252 (by decide) dX6_init_23 (e_putRF (ty := .array .int) rfl rfl cl_6 (by decide) rfl rfl rfl (by decide +kernel) (fun _ => ⟨rfl, rfl⟩) q_356 dX6_init_25 (e_aload_n dX6_init_28 rfl (e_bipush (v := 8) dX6_init_29 (by decide) (e_newI (N := 8) q_252 (by decide) dX6_init_31 (e_putRF (ty := .array .int) rfl rfl cl_6 (by decide) rfl rfl rfl (by decide +kernel) (fun _ => ⟨rfl, rfl⟩) q_357 dX6_init_33 (e_return rfl dX6_init_36)))))))))))))))))))
set_option maxRecDepth 100000 in
theorem V_X6_init_0 {G : GE} {d : Nat} {P : KN} {a : Nat → Nat → Int32} {r : Nat → Nat → Value} {N : Nat} {l0 : Nat} (hs : ((8 : Int32).toNatClampNeg = 8 ∧ N < nK ∧ tyK N = (1, (8 : Int32).toNatClampNeg) ∧ ¬ (8 : Int32) < 0 ∧ (∀ j, a N j = 0) ∧ (tyK l0 = (0, 6) ∧ l0 < (N + 1) ∧ ∀ r1, r1 = u2V r l0 0 (.ref N) → ((8 : Int32).toNatClampNeg = 8 ∧ (N + 1) < nK ∧ tyK (N + 1) = (1, (8 : Int32).toNatClampNeg) ∧ ¬ (8 : Int32) < 0 ∧ (∀ j, a (N + 1) j = 0) ∧ (tyK l0 = (0, 6) ∧ l0 < ((N + 1) + 1) ∧ ∀ r2, r2 = u2V r1 l0 1 (.ref (N + 1)) → ((8 : Int32).toNatClampNeg = 8 ∧ ((N + 1) + 1) < nK ∧ tyK ((N + 1) + 1) = (1, (8 : Int32).toNatClampNeg) ∧ ¬ (8 : Int32) < 0 ∧ (∀ j, a ((N + 1) + 1) j = 0) ∧ (tyK l0 = (0, 6) ∧ l0 < (((N + 1) + 1) + 1) ∧ ∀ r3, r3 = u2V r2 l0 2 (.ref ((N + 1) + 1)) → ((8 : Int32).toNatClampNeg = 8 ∧ (((N + 1) + 1) + 1) < nK ∧ tyK (((N + 1) + 1) + 1) = (1, (8 : Int32).toNatClampNeg) ∧ ¬ (8 : Int32) < 0 ∧ (∀ j, a (((N + 1) + 1) + 1) j = 0) ∧ (tyK l0 = (0, 6) ∧ l0 < ((((N + 1) + 1) + 1) + 1) ∧ ∀ r4, r4 = u2V r3 l0 3 (.ref (((N + 1) + 1) + 1)) → P a r4 ((((N + 1) + 1) + 1) + 1)))))))))) : Sp G (d + 1) 4 32 MX6_init [.ref l0] (a, r, N) (RN P) := Sp.mk (mc := (0 + 4)) (ms := (0 + 32)) [.ref l0] rfl rfl rfl rfl (T_X6_init_0 (C := 0) (S := 0) _ _ _ hs)
theorem dX6_firstStableMate_0 : decode cX6_firstStableMate 0 = .ok (.aload_n 0, 1) := by decide +kernel
theorem dX6_firstStableMate_1 : decode cX6_firstStableMate 1 = .ok (.getfield 20, 3) := by decide +kernel
theorem dX6_firstStableMate_4 : decode cX6_firstStableMate 4 = .ok (.iload_n 1, 1) := by decide +kernel
theorem dX6_firstStableMate_5 : decode cX6_firstStableMate 5 = .ok (.invokestatic 26, 3) := by decide +kernel
theorem dX6_firstStableMate_8 : decode cX6_firstStableMate 8 = .ok (.ireturn, 1) := by decide +kernel
set_option maxRecDepth 100000 in
theorem T_X6_firstStableMate_0 {G : GE} {d C S : Nat} {P : KI} : Snd G MX6_firstStableMate (d + 1) C S 0 (RI P) (s_aload 0 (s_getR 6 2 (s_iload 1 (s_call G d MX9_at 2 (s_ireturn P))))) := (e_aload_n dX6_firstStableMate_0 rfl (e_getR rfl cl_6 (by decide) rfl q_356 dX6_firstStableMate_1 (e_iload_n dX6_firstStableMate_4 rfl (e_callS cal_X9_at q_602 q_426 dX6_firstStableMate_5 (e_ireturn rfl dX6_firstStableMate_8)))))
set_option maxRecDepth 100000 in
theorem V_X6_firstStableMate_0 {G : GE} {d : Nat} {P : KI} {a : Nat → Nat → Int32} {r : Nat → Nat → Value} {N : Nat} {l0 : Nat} {l1 : Int32} (hs : (tyK l0 = (0, 6) ∧ l0 < N ∧ ∃ q1, r l0 2 = .ref q1 ∧ Sp G d 0 0 MX9_at [.ref q1, .int l1] (a, r, N) (RI fun v5 a2 r3 n4 => P v5 a2 r3 n4))) : Sp G (d + 1) 0 0 MX6_firstStableMate [.ref l0, .int l1] (a, r, N) (RI P) := Sp.mk (mc := 0) (ms := 0) [.ref l0, .int l1] rfl rfl rfl rfl (T_X6_firstStableMate_0 (C := 0) (S := 0) _ _ _ hs)
theorem dX6_warmestMate_0 : decode cX6_warmestMate 0 = .ok (.aload_n 0, 1) := by decide +kernel
theorem dX6_warmestMate_1 : decode cX6_warmestMate 1 = .ok (.getfield 23, 3) := by decide +kernel
theorem dX6_warmestMate_4 : decode cX6_warmestMate 4 = .ok (.iload_n 1, 1) := by decide +kernel
theorem dX6_warmestMate_5 : decode cX6_warmestMate 5 = .ok (.invokestatic 26, 3) := by decide +kernel
theorem dX6_warmestMate_8 : decode cX6_warmestMate 8 = .ok (.ireturn, 1) := by decide +kernel
set_option maxRecDepth 100000 in
theorem T_X6_warmestMate_0 {G : GE} {d C S : Nat} {P : KI} : Snd G MX6_warmestMate (d + 1) C S 0 (RI P) (s_aload 0 (s_getR 6 3 (s_iload 1 (s_call G d MX9_at 2 (s_ireturn P))))) := (e_aload_n dX6_warmestMate_0 rfl (e_getR rfl cl_6 (by decide) rfl q_357 dX6_warmestMate_1 (e_iload_n dX6_warmestMate_4 rfl (e_callS cal_X9_at q_602 q_426 dX6_warmestMate_5 (e_ireturn rfl dX6_warmestMate_8)))))
set_option maxRecDepth 100000 in
theorem V_X6_warmestMate_0 {G : GE} {d : Nat} {P : KI} {a : Nat → Nat → Int32} {r : Nat → Nat → Value} {N : Nat} {l0 : Nat} {l1 : Int32} (hs : (tyK l0 = (0, 6) ∧ l0 < N ∧ ∃ q1, r l0 3 = .ref q1 ∧ Sp G d 0 0 MX9_at [.ref q1, .int l1] (a, r, N) (RI fun v5 a2 r3 n4 => P v5 a2 r3 n4))) : Sp G (d + 1) 0 0 MX6_warmestMate [.ref l0, .int l1] (a, r, N) (RI P) := Sp.mk (mc := 0) (ms := 0) [.ref l0, .int l1] rfl rfl rfl rfl (T_X6_warmestMate_0 (C := 0) (S := 0) _ _ _ hs)
theorem dX6_findAll_0 : decode cX6_findAll 0 = .ok (.aload_n 0, 1) := by decide +kernel
theorem dX6_findAll_1 : decode cX6_findAll 1 = .ok (.iconst 0, 1) := by decide +kernel
theorem dX6_findAll_2 : decode cX6_findAll 2 = .ok (.putfield 32, 3) := by decide +kernel
theorem dX6_findAll_5 : decode cX6_findAll 5 = .ok (.aload_n 0, 1) := by decide +kernel
theorem dX6_findAll_6 : decode cX6_findAll 6 = .ok (.iconst (-1), 1) := by decide +kernel
theorem dX6_findAll_7 : decode cX6_findAll 7 = .ok (.putfield 36, 3) := by decide +kernel
theorem dX6_findAll_10 : decode cX6_findAll 10 = .ok (.aload_n 0, 1) := by decide +kernel
theorem dX6_findAll_11 : decode cX6_findAll 11 = .ok (.getfield 17, 3) := by decide +kernel
theorem dX6_findAll_14 : decode cX6_findAll 14 = .ok (.iconst (-1), 1) := by decide +kernel
theorem dX6_findAll_15 : decode cX6_findAll 15 = .ok (.invokestatic 39, 3) := by decide +kernel
theorem dX6_findAll_18 : decode cX6_findAll 18 = .ok (.aload_n 0, 1) := by decide +kernel
theorem dX6_findAll_19 : decode cX6_findAll 19 = .ok (.getfield 20, 3) := by decide +kernel
theorem dX6_findAll_22 : decode cX6_findAll 22 = .ok (.iconst (-1), 1) := by decide +kernel
theorem dX6_findAll_23 : decode cX6_findAll 23 = .ok (.invokestatic 39, 3) := by decide +kernel
theorem dX6_findAll_26 : decode cX6_findAll 26 = .ok (.aload_n 0, 1) := by decide +kernel
theorem dX6_findAll_27 : decode cX6_findAll 27 = .ok (.getfield 23, 3) := by decide +kernel
theorem dX6_findAll_30 : decode cX6_findAll 30 = .ok (.iconst (-1), 1) := by decide +kernel
theorem dX6_findAll_31 : decode cX6_findAll 31 = .ok (.invokestatic 39, 3) := by decide +kernel
theorem dX6_findAll_34 : decode cX6_findAll 34 = .ok (.iconst 0, 1) := by decide +kernel
theorem dX6_findAll_35 : decode cX6_findAll 35 = .ok (.istore 4, 2) := by decide +kernel
theorem dX6_findAll_37 : decode cX6_findAll 37 = .ok (.iload 4, 2) := by decide +kernel
theorem dX6_findAll_39 : decode cX6_findAll 39 = .ok (.aload_n 1, 1) := by decide +kernel
theorem dX6_findAll_40 : decode cX6_findAll 40 = .ok (.getfield 43, 3) := by decide +kernel
theorem dX6_findAll_43 : decode cX6_findAll 43 = .ok (.if_icmp .ge 26, 3) := by decide +kernel
theorem dX6_findAll_46 : decode cX6_findAll 46 = .ok (.aload_n 0, 1) := by decide +kernel
theorem dX6_findAll_47 : decode cX6_findAll 47 = .ok (.getfield 11, 3) := by decide +kernel
theorem dX6_findAll_50 : decode cX6_findAll 50 = .ok (.iload 4, 2) := by decide +kernel
theorem dX6_findAll_52 : decode cX6_findAll 52 = .ok (.aload_n 1, 1) := by decide +kernel
theorem dX6_findAll_53 : decode cX6_findAll 53 = .ok (.aload_n 2, 1) := by decide +kernel
theorem dX6_findAll_54 : decode cX6_findAll 54 = .ok (.aload_n 3, 1) := by decide +kernel
theorem dX6_findAll_55 : decode cX6_findAll 55 = .ok (.iload 4, 2) := by decide +kernel
theorem dX6_findAll_57 : decode cX6_findAll 57 = .ok (.invokestatic 46, 3) := by decide +kernel
theorem dX6_findAll_60 : decode cX6_findAll 60 = .ok (.invokestatic 50, 3) := by decide +kernel
theorem dX6_findAll_63 : decode cX6_findAll 63 = .ok (.iinc 4 1, 3) := by decide +kernel
theorem dX6_findAll_66 : decode cX6_findAll 66 = .ok (.goto (-29), 3) := by decide +kernel
theorem dX6_findAll_69 : decode cX6_findAll 69 = .ok (.aload_n 0, 1) := by decide +kernel
theorem dX6_findAll_70 : decode cX6_findAll 70 = .ok (.aload_n 1, 1) := by decide +kernel
theorem dX6_findAll_71 : decode cX6_findAll 71 = .ok (.iconst 0, 1) := by decide +kernel
theorem dX6_findAll_72 : decode cX6_findAll 72 = .ok (.invokevirtual 54, 3) := by decide +kernel
theorem dX6_findAll_75 : decode cX6_findAll 75 = .ok (.return_, 1) := by decide +kernel
set_option maxRecDepth 100000 in
theorem T_X6_findAll_0 {G : GE} {d C S : Nat} {P : KN} : Snd G MX6_findAll (d + 1) C S 0 (RN P) (s_aload 0 (s_iconst 0 (s_putI 6 4 (s_aload 0 (s_iconst (-1) (s_putI 6 5 (s_aload 0 (s_getR 6 1 (s_iconst (-1) (s_call G d MX9_fill 2 (s_aload 0 (s_getR 6 2 (s_iconst (-1) (s_call G d MX9_fill 2 (s_aload 0 (s_getR 6 3 (s_iconst (-1) (s_call G d MX9_fill 2 (s_iconst 0 (s_istore 4 (fun L st h => E G MX6_findAll (d + 1) C S 37 (msk [true, true, true, true, true] L) st h (RN P)))))))))))))))))))))) := (e_aload_n dX6_findAll_0 rfl (e_iconst (v := 0) dX6_findAll_1 (by decide) (e_putI rfl cl_6 (by decide) rfl rfl rfl q_358 dX6_findAll_2 (e_aload_n dX6_findAll_5 rfl (e_iconst (v := (-1)) dX6_findAll_6 (by decide) (e_putI rfl cl_6 (by decide) rfl rfl rfl q_360 dX6_findAll_7 (e_aload_n dX6_findAll_10 rfl (e_getR rfl cl_6 (by decide) rfl q_355 dX6_findAll_11 (e_iconst (v := (-1)) dX6_findAll_14 (by decide) (e_callS cal_X9_fill q_526 q_181 dX6_findAll_15 (e_aload_n dX6_findAll_18 rfl (e_getR rfl cl_6 (by decide) rfl q_356 dX6_findAll_19 (e_iconst (v := (-1)) dX6_findAll_22 (by decide) (e_callS cal_X9_fill q_526 q_181 dX6_findAll_23 (e_aload_n dX6_findAll_26 rfl (e_getR rfl cl_6 (by decide) rfl q_357 dX6_findAll_27 (e_iconst (v := (-1)) dX6_findAll_30 (by decide) (e_callS cal_X9_fill q_526 q_181 dX6_findAll_31 (e_iconst (v := 0) dX6_findAll_34 (by decide) (e_istore dX6_findAll_35 (by decide) (e_msk [true, true, true, true, true])))))))))))))))))))))
set_option maxRecDepth 100000 in
theorem V_X6_findAll_0 {G : GE} {d : Nat} {P : KN} {a : Nat → Nat → Int32} {r : Nat → Nat → Value} {N : Nat} {l0 : Nat} {l1 : Nat} {l2 : Nat} {l3 : Nat} (hs : (tyK l0 = (0, 6) ∧ l0 < N ∧ ∀ a1, a1 = u2 a l0 4 0 → (tyK l0 = (0, 6) ∧ l0 < N ∧ ∀ a2, a2 = u2 a1 l0 5 (-1) → (tyK l0 = (0, 6) ∧ l0 < N ∧ ∃ q3, r l0 1 = .ref q3 ∧ Sp G d 0 0 MX9_fill [.ref q3, .int (-1)] (a2, r, N) (RN fun a4 r5 n6 => (tyK l0 = (0, 6) ∧ l0 < n6 ∧ ∃ q7, r5 l0 2 = .ref q7 ∧ Sp G d 0 0 MX9_fill [.ref q7, .int (-1)] (a4, r5, n6) (RN fun a8 r9 n10 => (tyK l0 = (0, 6) ∧ l0 < n10 ∧ ∃ q11, r9 l0 3 = .ref q11 ∧ Sp G d 0 0 MX9_fill [.ref q11, .int (-1)] (a8, r9, n10) (RN fun a12 r13 n14 => E G MX6_findAll (d + 1) 0 0 37 [.ref l0, .ref l1, .ref l2, .ref l3, .int 0] [] (a12, r13, n14) (RN P)))))))))) : Sp G (d + 1) 0 0 MX6_findAll [.ref l0, .ref l1, .ref l2, .ref l3] (a, r, N) (RN P) := Sp.mk (mc := 0) (ms := 0) [.ref l0, .ref l1, .ref l2, .ref l3, .null] rfl rfl rfl rfl (T_X6_findAll_0 (C := 0) (S := 0) _ _ _ hs)
set_option maxRecDepth 100000 in
theorem T_X6_findAll_37 {G : GE} {d C S : Nat} {P : KN} : Snd G MX6_findAll (d + 1) C S 37 (RN P) (s_iload 4 (s_aload 1 (s_getI 0 1 (s_ic_ge (s_aload 0 (s_aload 1 (s_iconst 0 (s_callV G d MX6_match 2 6 (s_return P))))) (s_aload 0 (s_getR 6 0 (s_iload 4 (s_aload 1 (s_aload 2 (s_aload 3 (s_iload 4 (s_call G d MX6_mayMarry 4 (s_call G d MX9_put 3 (s_iinc 4 1 (fun L st h => E G MX6_findAll (d + 1) C S 37 (msk [true, true, true, true, true] L) st h (RN P)))))))))))))))) := (e_iload dX6_findAll_37 (e_aload_n dX6_findAll_39 rfl (e_getIN rfl cl_0 (by decide) rfl q_193 dX6_findAll_40 (e_ic_ge (tgt := 69) dX6_findAll_43 (by decide) (e_aload_n dX6_findAll_69 rfl (e_aload_n dX6_findAll_70 rfl (e_iconst (v := 0) dX6_findAll_71 (by decide) (e_callV cl_6 cal_X6_match q_590 q_592 q_2 dX6_findAll_72 (e_return rfl dX6_findAll_75))))) (e_aload_n dX6_findAll_46 rfl (e_getR rfl cl_6 (by decide) rfl q_354 dX6_findAll_47 (e_iload dX6_findAll_50 (e_aload_n dX6_findAll_52 rfl (e_aload_n dX6_findAll_53 rfl (e_aload_n dX6_findAll_54 rfl (e_iload dX6_findAll_55 (e_callS cal_X6_mayMarry q_527 q_528 dX6_findAll_57 (e_callS cal_X9_put q_589 q_419 dX6_findAll_60 (e_iinc (v := 1) dX6_findAll_63 (by decide) (by decide) (e_goto (tgt := 37) dX6_findAll_66 (by decide) (e_msk [true, true, true, true, true]))))))))))))))))
set_option maxRecDepth 100000 in
theorem V_X6_findAll_37 {G : GE} {d C S : Nat} {P : KN} {a : Nat → Nat → Int32} {r : Nat → Nat → Value} {N : Nat} {l0 : Nat} {l1 : Nat} {l2 : Nat} {l3 : Nat} {l4 : Int32} (hs : (tyK l1 = (0, 0) ∧ l1 < N ∧ (((a l1 1) ≤ l4 → (tyK l0 = (0, 6) ∧ l0 < N ∧ Sp G d 0 0 MX6_match [.ref l0, .ref l1, .int 0] (a, r, N) (RN fun a1 r2 n3 => P a1 r2 n3))) ∧ (¬ (a l1 1) ≤ l4 → (tyK l0 = (0, 6) ∧ l0 < N ∧ ∃ q4, r l0 0 = .ref q4 ∧ Sp G d 0 0 MX6_mayMarry [.ref l1, .ref l2, .ref l3, .int l4] (a, r, N) (RI fun v8 a5 r6 n7 => Sp G d 0 0 MX9_put [.ref q4, .int l4, .int v8] (a5, r6, n7) (RN fun a9 r10 n11 => E G MX6_findAll (d + 1) C S 37 [.ref l0, .ref l1, .ref l2, .ref l3, .int (l4 + 1)] [] (a9, r10, n11) (RN P)))))))) : E G MX6_findAll (d + 1) C S 37 [.ref l0, .ref l1, .ref l2, .ref l3, .int l4] [] (a, r, N) (RN P) := T_X6_findAll_37 _ _ _ hs
theorem dX6_mayMarry_0 : decode cX6_mayMarry 0 = .ok (.aload_n 1, 1) := by decide +kernel
theorem dX6_mayMarry_1 : decode cX6_mayMarry 1 = .ok (.iload_n 3, 1) := by decide +kernel
theorem dX6_mayMarry_2 : decode cX6_mayMarry 2 = .ok (.invokevirtual 58, 3) := by decide +kernel
theorem dX6_mayMarry_5 : decode cX6_mayMarry 5 = .ok (.iconst (-1), 1) := by decide +kernel
theorem dX6_mayMarry_6 : decode cX6_mayMarry 6 = .ok (.if_icmp .eq 5, 3) := by decide +kernel
theorem dX6_mayMarry_9 : decode cX6_mayMarry 9 = .ok (.iconst 0, 1) := by decide +kernel
theorem dX6_mayMarry_10 : decode cX6_mayMarry 10 = .ok (.ireturn, 1) := by decide +kernel
theorem dX6_mayMarry_11 : decode cX6_mayMarry 11 = .ok (.iconst 0, 1) := by decide +kernel
theorem dX6_mayMarry_12 : decode cX6_mayMarry 12 = .ok (.istore 4, 2) := by decide +kernel
theorem dX6_mayMarry_14 : decode cX6_mayMarry 14 = .ok (.iload_n 3, 1) := by decide +kernel
theorem dX6_mayMarry_15 : decode cX6_mayMarry 15 = .ok (.iconst 1, 1) := by decide +kernel
theorem dX6_mayMarry_16 : decode cX6_mayMarry 16 = .ok (.iadd, 1) := by decide +kernel
theorem dX6_mayMarry_17 : decode cX6_mayMarry 17 = .ok (.istore 5, 2) := by decide +kernel
theorem dX6_mayMarry_19 : decode cX6_mayMarry 19 = .ok (.iload 5, 2) := by decide +kernel
theorem dX6_mayMarry_21 : decode cX6_mayMarry 21 = .ok (.aload_n 0, 1) := by decide +kernel
theorem dX6_mayMarry_22 : decode cX6_mayMarry 22 = .ok (.getfield 43, 3) := by decide +kernel
theorem dX6_mayMarry_25 : decode cX6_mayMarry 25 = .ok (.if_icmp .ge 40, 3) := by decide +kernel
theorem dX6_mayMarry_28 : decode cX6_mayMarry 28 = .ok (.aload_n 1, 1) := by decide +kernel
theorem dX6_mayMarry_29 : decode cX6_mayMarry 29 = .ok (.iload 5, 2) := by decide +kernel
theorem dX6_mayMarry_31 : decode cX6_mayMarry 31 = .ok (.invokevirtual 58, 3) := by decide +kernel
theorem dX6_mayMarry_34 : decode cX6_mayMarry 34 = .ok (.iconst (-1), 1) := by decide +kernel
theorem dX6_mayMarry_35 : decode cX6_mayMarry 35 = .ok (.if_icmp .ne 24, 3) := by decide +kernel
theorem dX6_mayMarry_38 : decode cX6_mayMarry 38 = .ok (.aload_n 2, 1) := by decide +kernel
theorem dX6_mayMarry_39 : decode cX6_mayMarry 39 = .ok (.aload_n 0, 1) := by decide +kernel
theorem dX6_mayMarry_40 : decode cX6_mayMarry 40 = .ok (.aload_n 1, 1) := by decide +kernel
theorem dX6_mayMarry_41 : decode cX6_mayMarry 41 = .ok (.iload_n 3, 1) := by decide +kernel
theorem dX6_mayMarry_42 : decode cX6_mayMarry 42 = .ok (.iload 5, 2) := by decide +kernel
theorem dX6_mayMarry_44 : decode cX6_mayMarry 44 = .ok (.invokevirtual 64, 3) := by decide +kernel
theorem dX6_mayMarry_47 : decode cX6_mayMarry 47 = .ok (.ifCond .ne 12, 3) := by decide +kernel
theorem dX6_mayMarry_50 : decode cX6_mayMarry 50 = .ok (.iload 4, 2) := by decide +kernel
theorem dX6_mayMarry_52 : decode cX6_mayMarry 52 = .ok (.iconst 1, 1) := by decide +kernel
theorem dX6_mayMarry_53 : decode cX6_mayMarry 53 = .ok (.iload 5, 2) := by decide +kernel
theorem dX6_mayMarry_55 : decode cX6_mayMarry 55 = .ok (.ishl, 1) := by decide +kernel
theorem dX6_mayMarry_56 : decode cX6_mayMarry 56 = .ok (.ior, 1) := by decide +kernel
theorem dX6_mayMarry_57 : decode cX6_mayMarry 57 = .ok (.istore 4, 2) := by decide +kernel
theorem dX6_mayMarry_59 : decode cX6_mayMarry 59 = .ok (.iinc 5 1, 3) := by decide +kernel
theorem dX6_mayMarry_62 : decode cX6_mayMarry 62 = .ok (.goto (-43), 3) := by decide +kernel
theorem dX6_mayMarry_65 : decode cX6_mayMarry 65 = .ok (.iload 4, 2) := by decide +kernel
theorem dX6_mayMarry_67 : decode cX6_mayMarry 67 = .ok (.ireturn, 1) := by decide +kernel
set_option maxRecDepth 100000 in
theorem T_X6_mayMarry_0 {G : GE} {d C S : Nat} {P : KI} : Snd G MX6_mayMarry (d + 1) C S 0 (RI P) (s_aload 1 (s_iload 3 (s_callV G d MX4_mateOf 1 4 (s_iconst (-1) (s_ic_eq (s_iconst 0 (s_istore 4 (s_iload 3 (s_iconst 1 (s_iadd (s_istore 5 (fun L st h => E G MX6_mayMarry (d + 1) C S 19 (msk [true, true, true, true, true, true] L) st h (RI P)))))))) (s_iconst 0 (s_ireturn P))))))) := (e_aload_n dX6_mayMarry_0 rfl (e_iload_n dX6_mayMarry_1 rfl (e_callV cl_4 cal_X4_mateOf q_530 q_531 q_532 dX6_mayMarry_2 (e_iconst (v := (-1)) dX6_mayMarry_5 (by decide) (e_ic_eq (tgt := 11) dX6_mayMarry_6 (by decide) (e_iconst (v := 0) dX6_mayMarry_11 (by decide) (e_istore dX6_mayMarry_12 (by decide) (e_iload_n dX6_mayMarry_14 rfl (e_iconst (v := 1) dX6_mayMarry_15 (by decide) (e_iadd dX6_mayMarry_16 (e_istore dX6_mayMarry_17 (by decide) (e_msk [true, true, true, true, true, true]))))))) (e_iconst (v := 0) dX6_mayMarry_9 (by decide) (e_ireturn rfl dX6_mayMarry_10)))))))
set_option maxRecDepth 100000 in
theorem V_X6_mayMarry_0 {G : GE} {d : Nat} {P : KI} {a : Nat → Nat → Int32} {r : Nat → Nat → Value} {N : Nat} {l0 : Nat} {l1 : Nat} {l2 : Nat} {l3 : Int32} (hs : (tyK l1 = (0, 4) ∧ l1 < N ∧ Sp G d 0 0 MX4_mateOf [.ref l1, .int l3] (a, r, N) (RI fun v4 a1 r2 n3 => ((v4 = (-1) → E G MX6_mayMarry (d + 1) 0 0 19 [.ref l0, .ref l1, .ref l2, .int l3, .int 0, .int (l3 + 1)] [] (a1, r2, n3) (RI P)) ∧ (¬ v4 = (-1) → P 0 a1 r2 n3))))) : Sp G (d + 1) 0 0 MX6_mayMarry [.ref l0, .ref l1, .ref l2, .int l3] (a, r, N) (RI P) := Sp.mk (mc := 0) (ms := 0) [.ref l0, .ref l1, .ref l2, .int l3, .null, .null] rfl rfl rfl rfl (T_X6_mayMarry_0 (C := 0) (S := 0) _ _ _ hs)
set_option maxRecDepth 100000 in
theorem T_X6_mayMarry_19 {G : GE} {d C S : Nat} {P : KI} : Snd G MX6_mayMarry (d + 1) C S 19 (RI P) (s_iload 5 (s_aload 0 (s_getI 0 1 (s_ic_ge (s_iload 4 (s_ireturn P)) (s_aload 1 (s_iload 5 (s_callV G d MX4_mateOf 1 4 (s_iconst (-1) (s_ic_ne (s_iinc 5 1 (fun L st h => E G MX6_mayMarry (d + 1) C S 19 (msk [true, true, true, true, true, true] L) st h (RI P))) (s_aload 2 (s_aload 0 (s_aload 1 (s_iload 3 (s_iload 5 (s_callV G d MX2_hindrance 4 2 (s_if_ne (s_iinc 5 1 (fun L st h => E G MX6_mayMarry (d + 1) C S 19 (msk [true, true, true, true, true, true] L) st h (RI P))) (s_iload 4 (s_iconst 1 (s_iload 5 (s_ishl (s_ior (s_istore 4 (s_iinc 5 1 (fun L st h => E G MX6_mayMarry (d + 1) C S 19 (msk [true, true, true, true, true, true] L) st h (RI P))))))))))))))))))))))))) := (e_iload dX6_mayMarry_19 (e_aload_n dX6_mayMarry_21 rfl (e_getIN rfl cl_0 (by decide) rfl q_193 dX6_mayMarry_22 (e_ic_ge (tgt := 65) dX6_mayMarry_25 (by decide) (e_iload dX6_mayMarry_65 (e_ireturn rfl dX6_mayMarry_67)) (e_aload_n dX6_mayMarry_28 rfl (e_iload dX6_mayMarry_29 (e_callV cl_4 cal_X4_mateOf q_530 q_531 q_532 dX6_mayMarry_31 (e_iconst (v := (-1)) dX6_mayMarry_34 (by decide) (e_ic_ne (tgt := 59) dX6_mayMarry_35 (by decide) (e_iinc (v := 1) dX6_mayMarry_59 (by decide) (by decide) (e_goto (tgt := 19) dX6_mayMarry_62 (by decide) (e_msk [true, true, true, true, true, true]))) (e_aload_n dX6_mayMarry_38 rfl (e_aload_n dX6_mayMarry_39 rfl (e_aload_n dX6_mayMarry_40 rfl (e_iload_n dX6_mayMarry_41 rfl (e_iload dX6_mayMarry_42 (e_callV cl_2 cal_X2_hindrance q_535 q_536 q_537 dX6_mayMarry_44 (e_if_ne (tgt := 59) dX6_mayMarry_47 (by decide) (e_iinc (v := 1) dX6_mayMarry_59 (by decide) (by decide) (e_goto (tgt := 19) dX6_mayMarry_62 (by decide) (e_msk [true, true, true, true, true, true]))) (e_iload dX6_mayMarry_50 (e_iconst (v := 1) dX6_mayMarry_52 (by decide) (e_iload dX6_mayMarry_53 (e_ishl dX6_mayMarry_55 (e_ior dX6_mayMarry_56 (e_istore dX6_mayMarry_57 (by decide) (e_iinc (v := 1) dX6_mayMarry_59 (by decide) (by decide) (e_goto (tgt := 19) dX6_mayMarry_62 (by decide) (e_msk [true, true, true, true, true, true])))))))))))))))))))))))))
set_option maxRecDepth 100000 in
theorem V_X6_mayMarry_19 {G : GE} {d C S : Nat} {P : KI} {a : Nat → Nat → Int32} {r : Nat → Nat → Value} {N : Nat} {l0 : Nat} {l1 : Nat} {l2 : Nat} {l3 : Int32} {l4 : Int32} {l5 : Int32} (hs : (tyK l0 = (0, 0) ∧ l0 < N ∧ (((a l0 1) ≤ l5 → P l4 a r N) ∧ (¬ (a l0 1) ≤ l5 → (tyK l1 = (0, 4) ∧ l1 < N ∧ Sp G d 0 0 MX4_mateOf [.ref l1, .int l5] (a, r, N) (RI fun v4 a1 r2 n3 => ((¬ v4 = (-1) → E G MX6_mayMarry (d + 1) C S 19 [.ref l0, .ref l1, .ref l2, .int l3, .int l4, .int (l5 + 1)] [] (a1, r2, n3) (RI P)) ∧ (v4 = (-1) → (tyK l2 = (0, 2) ∧ l2 < n3 ∧ Sp G d 0 0 MX2_hindrance [.ref l2, .ref l0, .ref l1, .int l3, .int l5] (a1, r2, n3) (RI fun v8 a5 r6 n7 => ((¬ v8 = 0 → E G MX6_mayMarry (d + 1) C S 19 [.ref l0, .ref l1, .ref l2, .int l3, .int l4, .int (l5 + 1)] [] (a5, r6, n7) (RI P)) ∧ (v8 = 0 → E G MX6_mayMarry (d + 1) C S 19 [.ref l0, .ref l1, .ref l2, .int l3, .int (l4 ||| ((1 : Int32) <<< (l5 &&& 31))), .int (l5 + 1)] [] (a5, r6, n7) (RI P))))))))))))) : E G MX6_mayMarry (d + 1) C S 19 [.ref l0, .ref l1, .ref l2, .int l3, .int l4, .int l5] [] (a, r, N) (RI P) := T_X6_mayMarry_19 _ _ _ hs
theorem dX6_match_0 : decode cX6_match 0 = .ok (.iload_n 2, 1) := by decide +kernel
theorem dX6_match_1 : decode cX6_match 1 = .ok (.aload_n 1, 1) := by decide +kernel
theorem dX6_match_2 : decode cX6_match 2 = .ok (.getfield 43, 3) := by decide +kernel
theorem dX6_match_5 : decode cX6_match 5 = .ok (.if_icmp .lt 9, 3) := by decide +kernel
theorem dX6_match_8 : decode cX6_match 8 = .ok (.aload_n 0, 1) := by decide +kernel
theorem dX6_match_9 : decode cX6_match 9 = .ok (.aload_n 1, 1) := by decide +kernel
theorem dX6_match_10 : decode cX6_match 10 = .ok (.invokevirtual 70, 3) := by decide +kernel
theorem dX6_match_13 : decode cX6_match 13 = .ok (.return_, 1) := by decide +kernel
theorem dX6_match_14 : decode cX6_match 14 = .ok (.aload_n 0, 1) := by decide +kernel
theorem dX6_match_15 : decode cX6_match 15 = .ok (.aload_n 1, 1) := by decide +kernel
theorem dX6_match_16 : decode cX6_match 16 = .ok (.iload_n 2, 1) := by decide +kernel
theorem dX6_match_17 : decode cX6_match 17 = .ok (.iconst 1, 1) := by decide +kernel
theorem dX6_match_18 : decode cX6_match 18 = .ok (.iadd, 1) := by decide +kernel
theorem dX6_match_19 : decode cX6_match 19 = .ok (.invokevirtual 54, 3) := by decide +kernel
theorem dX6_match_22 : decode cX6_match 22 = .ok (.aload_n 0, 1) := by decide +kernel
theorem dX6_match_23 : decode cX6_match 23 = .ok (.getfield 17, 3) := by decide +kernel
theorem dX6_match_26 : decode cX6_match 26 = .ok (.iload_n 2, 1) := by decide +kernel
theorem dX6_match_27 : decode cX6_match 27 = .ok (.invokestatic 26, 3) := by decide +kernel
theorem dX6_match_30 : decode cX6_match 30 = .ok (.iconst (-1), 1) := by decide +kernel
theorem dX6_match_31 : decode cX6_match 31 = .ok (.if_icmp .eq 4, 3) := by decide +kernel
theorem dX6_match_34 : decode cX6_match 34 = .ok (.return_, 1) := by decide +kernel
theorem dX6_match_35 : decode cX6_match 35 = .ok (.iload_n 2, 1) := by decide +kernel
theorem dX6_match_36 : decode cX6_match 36 = .ok (.iconst 1, 1) := by decide +kernel
theorem dX6_match_37 : decode cX6_match 37 = .ok (.iadd, 1) := by decide +kernel
theorem dX6_match_38 : decode cX6_match 38 = .ok (.istore_n 3, 1) := by decide +kernel
theorem dX6_match_39 : decode cX6_match 39 = .ok (.iload_n 3, 1) := by decide +kernel
theorem dX6_match_40 : decode cX6_match 40 = .ok (.aload_n 1, 1) := by decide +kernel
theorem dX6_match_41 : decode cX6_match 41 = .ok (.getfield 43, 3) := by decide +kernel
theorem dX6_match_44 : decode cX6_match 44 = .ok (.if_icmp .ge 74, 3) := by decide +kernel
theorem dX6_match_47 : decode cX6_match 47 = .ok (.aload_n 0, 1) := by decide +kernel
theorem dX6_match_48 : decode cX6_match 48 = .ok (.iload_n 2, 1) := by decide +kernel
theorem dX6_match_49 : decode cX6_match 49 = .ok (.iload_n 3, 1) := by decide +kernel
theorem dX6_match_50 : decode cX6_match 50 = .ok (.invokevirtual 74, 3) := by decide +kernel
theorem dX6_match_53 : decode cX6_match 53 = .ok (.ifCond .eq 59, 3) := by decide +kernel
theorem dX6_match_56 : decode cX6_match 56 = .ok (.aload_n 0, 1) := by decide +kernel
theorem dX6_match_57 : decode cX6_match 57 = .ok (.getfield 17, 3) := by decide +kernel
theorem dX6_match_60 : decode cX6_match 60 = .ok (.iload_n 3, 1) := by decide +kernel
theorem dX6_match_61 : decode cX6_match 61 = .ok (.invokestatic 26, 3) := by decide +kernel
theorem dX6_match_64 : decode cX6_match 64 = .ok (.iconst (-1), 1) := by decide +kernel
theorem dX6_match_65 : decode cX6_match 65 = .ok (.if_icmp .ne 47, 3) := by decide +kernel
theorem dX6_match_68 : decode cX6_match 68 = .ok (.aload_n 0, 1) := by decide +kernel
theorem dX6_match_69 : decode cX6_match 69 = .ok (.getfield 17, 3) := by decide +kernel
theorem dX6_match_72 : decode cX6_match 72 = .ok (.iload_n 2, 1) := by decide +kernel
theorem dX6_match_73 : decode cX6_match 73 = .ok (.iload_n 3, 1) := by decide +kernel
theorem dX6_match_74 : decode cX6_match 74 = .ok (.invokestatic 50, 3) := by decide +kernel
theorem dX6_match_77 : decode cX6_match 77 = .ok (.aload_n 0, 1) := by decide +kernel
theorem dX6_match_78 : decode cX6_match 78 = .ok (.getfield 17, 3) := by decide +kernel
theorem dX6_match_81 : decode cX6_match 81 = .ok (.iload_n 3, 1) := by decide +kernel
theorem dX6_match_82 : decode cX6_match 82 = .ok (.iload_n 2, 1) := by decide +kernel
theorem dX6_match_83 : decode cX6_match 83 = .ok (.invokestatic 50, 3) := by decide +kernel
theorem dX6_match_86 : decode cX6_match 86 = .ok (.aload_n 0, 1) := by decide +kernel
theorem dX6_match_87 : decode cX6_match 87 = .ok (.aload_n 1, 1) := by decide +kernel
theorem dX6_match_88 : decode cX6_match 88 = .ok (.iload_n 2, 1) := by decide +kernel
theorem dX6_match_89 : decode cX6_match 89 = .ok (.iconst 1, 1) := by decide +kernel
theorem dX6_match_90 : decode cX6_match 90 = .ok (.iadd, 1) := by decide +kernel
theorem dX6_match_91 : decode cX6_match 91 = .ok (.invokevirtual 54, 3) := by decide +kernel
theorem dX6_match_94 : decode cX6_match 94 = .ok (.aload_n 0, 1) := by decide +kernel
theorem dX6_match_95 : decode cX6_match 95 = .ok (.getfield 17, 3) := by decide +kernel
theorem dX6_match_98 : decode cX6_match 98 = .ok (.iload_n 2, 1) := by decide +kernel
theorem dX6_match_99 : decode cX6_match 99 = .ok (.iconst (-1), 1) := by decide +kernel
theorem dX6_match_100 : decode cX6_match 100 = .ok (.invokestatic 50, 3) := by decide +kernel
theorem dX6_match_103 : decode cX6_match 103 = .ok (.aload_n 0, 1) := by decide +kernel
theorem dX6_match_104 : decode cX6_match 104 = .ok (.getfield 17, 3) := by decide +kernel
theorem dX6_match_107 : decode cX6_match 107 = .ok (.iload_n 3, 1) := by decide +kernel
theorem dX6_match_108 : decode cX6_match 108 = .ok (.iconst (-1), 1) := by decide +kernel
theorem dX6_match_109 : decode cX6_match 109 = .ok (.invokestatic 50, 3) := by decide +kernel
theorem dX6_match_112 : decode cX6_match 112 = .ok (.iinc 3 1, 3) := by decide +kernel
theorem dX6_match_115 : decode cX6_match 115 = .ok (.goto (-76), 3) := by decide +kernel
theorem dX6_match_118 : decode cX6_match 118 = .ok (.return_, 1) := by decide +kernel
set_option maxRecDepth 100000 in
theorem T_X6_match_0 {G : GE} {d C S : Nat} {P : KN} : Snd G MX6_match (d + 1) C S 0 (RN P) (s_iload 2 (s_aload 1 (s_getI 0 1 (s_ic_lt (s_aload 0 (s_aload 1 (s_iload 2 (s_iconst 1 (s_iadd (s_callV G d MX6_match 2 6 (s_aload 0 (s_getR 6 1 (s_iload 2 (s_call G d MX9_at 2 (s_iconst (-1) (s_ic_eq (s_iload 2 (s_iconst 1 (s_iadd (s_istore 3 (fun L st h => E G MX6_match (d + 1) C S 39 (msk [true, true, true, true] L) st h (RN P)))))) (s_return P))))))))))))) (s_aload 0 (s_aload 1 (s_callV G d MX6_judge 1 6 (s_return P)))))))) := (e_iload_n dX6_match_0 rfl (e_aload_n dX6_match_1 rfl (e_getIN rfl cl_0 (by decide) rfl q_193 dX6_match_2 (e_ic_lt (tgt := 14) dX6_match_5 (by decide) (e_aload_n dX6_match_14 rfl (e_aload_n dX6_match_15 rfl (e_iload_n dX6_match_16 rfl (e_iconst (v := 1) dX6_match_17 (by decide) (e_iadd dX6_match_18 (e_callV cl_6 cal_X6_match q_590 q_592 q_2 dX6_match_19 (e_aload_n dX6_match_22 rfl (e_getR rfl cl_6 (by decide) rfl q_355 dX6_match_23 (e_iload_n dX6_match_26 rfl (e_callS cal_X9_at q_602 q_426 dX6_match_27 (e_iconst (v := (-1)) dX6_match_30 (by decide) (e_ic_eq (tgt := 35) dX6_match_31 (by decide) (e_iload_n dX6_match_35 rfl (e_iconst (v := 1) dX6_match_36 (by decide) (e_iadd dX6_match_37 (e_istore_n dX6_match_38 rfl (by decide) (e_msk [true, true, true, true]))))) (e_return rfl dX6_match_34))))))))))))) (e_aload_n dX6_match_8 rfl (e_aload_n dX6_match_9 rfl (e_callV cl_6 cal_X6_judge q_594 q_596 q_3 dX6_match_10 (e_return rfl dX6_match_13))))))))
set_option maxRecDepth 100000 in
theorem V_X6_match_0 {G : GE} {d : Nat} {P : KN} {a : Nat → Nat → Int32} {r : Nat → Nat → Value} {N : Nat} {l0 : Nat} {l1 : Nat} {l2 : Int32} (hs : (tyK l1 = (0, 0) ∧ l1 < N ∧ ((l2 < (a l1 1) → (tyK l0 = (0, 6) ∧ l0 < N ∧ Sp G d 0 0 MX6_match [.ref l0, .ref l1, .int (l2 + 1)] (a, r, N) (RN fun a1 r2 n3 => (tyK l0 = (0, 6) ∧ l0 < n3 ∧ ∃ q4, r2 l0 1 = .ref q4 ∧ Sp G d 0 0 MX9_at [.ref q4, .int l2] (a1, r2, n3) (RI fun v8 a5 r6 n7 => ((v8 = (-1) → E G MX6_match (d + 1) 0 0 39 [.ref l0, .ref l1, .int l2, .int (l2 + 1)] [] (a5, r6, n7) (RN P)) ∧ (¬ v8 = (-1) → P a5 r6 n7))))))) ∧ (¬ l2 < (a l1 1) → (tyK l0 = (0, 6) ∧ l0 < N ∧ Sp G d 0 0 MX6_judge [.ref l0, .ref l1] (a, r, N) (RN fun a9 r10 n11 => P a9 r10 n11)))))) : Sp G (d + 1) 0 0 MX6_match [.ref l0, .ref l1, .int l2] (a, r, N) (RN P) := Sp.mk (mc := 0) (ms := 0) [.ref l0, .ref l1, .int l2, .null] rfl rfl rfl rfl (T_X6_match_0 (C := 0) (S := 0) _ _ _ hs)
set_option maxRecDepth 100000 in
theorem T_X6_match_39 {G : GE} {d C S : Nat} {P : KN} : Snd G MX6_match (d + 1) C S 39 (RN P) (s_iload 3 (s_aload 1 (s_getI 0 1 (s_ic_ge (s_return P) (s_aload 0 (s_iload 2 (s_iload 3 (s_callV G d MX6_isAllowed 2 6 (s_if_eq (s_iinc 3 1 (fun L st h => E G MX6_match (d + 1) C S 39 (msk [true, true, true, true] L) st h (RN P))) (s_aload 0 (s_getR 6 1 (s_iload 3 (s_call G d MX9_at 2 (s_iconst (-1) (s_ic_ne (s_iinc 3 1 (fun L st h => E G MX6_match (d + 1) C S 39 (msk [true, true, true, true] L) st h (RN P))) (s_aload 0 (s_getR 6 1 (s_iload 2 (s_iload 3 (s_call G d MX9_put 3 (s_aload 0 (s_getR 6 1 (s_iload 3 (s_iload 2 (s_call G d MX9_put 3 (s_aload 0 (s_aload 1 (s_iload 2 (s_iconst 1 (s_iadd (s_callV G d MX6_match 2 6 (s_aload 0 (s_getR 6 1 (s_iload 2 (s_iconst (-1) (s_call G d MX9_put 3 (s_aload 0 (s_getR 6 1 (s_iload 3 (s_iconst (-1) (s_call G d MX9_put 3 (s_iinc 3 1 (fun L st h => E G MX6_match (d + 1) C S 39 (msk [true, true, true, true] L) st h (RN P)))))))))))))))))))))))))))))))))))))))))))) := (e_iload_n dX6_match_39 rfl (e_aload_n dX6_match_40 rfl (e_getIN rfl cl_0 (by decide) rfl q_193 dX6_match_41 (e_ic_ge (tgt := 118) dX6_match_44 (by decide) (e_return rfl dX6_match_118) (e_aload_n dX6_match_47 rfl (e_iload_n dX6_match_48 rfl (e_iload_n dX6_match_49 rfl (e_callV cl_6 cal_X6_isAllowed q_609 q_611 q_6 dX6_match_50 (e_if_eq (tgt := 112) dX6_match_53 (by decide) (e_iinc (v := 1) dX6_match_112 (by decide) (by decide) (e_goto (tgt := 39) dX6_match_115 (by decide) (e_msk [true, true, true, true]))) (e_aload_n dX6_match_56 rfl (e_getR rfl cl_6 (by decide) rfl q_355 dX6_match_57 (e_iload_n dX6_match_60 rfl (e_callS cal_X9_at q_602 q_426 dX6_match_61 (e_iconst (v := (-1)) dX6_match_64 (by decide) (e_ic_ne (tgt := 112) dX6_match_65 (by decide) (e_iinc (v := 1) dX6_match_112 (by decide) (by decide) (e_goto (tgt := 39) dX6_match_115 (by decide) (e_msk [true, true, true, true]))) (e_aload_n dX6_match_68 rfl (e_getR rfl cl_6 (by decide) rfl q_355 dX6_match_69 (e_iload_n dX6_match_72 rfl (e_iload_n dX6_match_73 rfl (e_callS cal_X9_put q_589 q_419 dX6_match_74 (e_aload_n dX6_match_77 rfl (e_getR rfl cl_6 (by decide) rfl q_355 dX6_match_78 (e_iload_n dX6_match_81 rfl (e_iload_n dX6_match_82 rfl (e_callS cal_X9_put q_589 q_419 dX6_match_83 (e_aload_n dX6_match_86 rfl (e_aload_n dX6_match_87 rfl (e_iload_n dX6_match_88 rfl (e_iconst (v := 1) dX6_match_89 (by decide) (e_iadd dX6_match_90 (e_callV cl_6 cal_X6_match q_590 q_592 q_2 dX6_match_91 (e_aload_n dX6_match_94 rfl (e_getR rfl cl_6 (by decide) rfl q_355 dX6_match_95 (e_iload_n dX6_match_98 rfl (e_iconst (v := (-1)) dX6_match_99 (by decide) (e_callS cal_X9_put q_589 q_419 dX6_match_100 (e_aload_n dX6_match_103 rfl (e_getR rfl cl_6 (by decide) rfl q_355 dX6_match_104 (e_iload_n dX6_match_107 rfl (e_iconst (v := (-1)) dX6_match_108 (by decide) (e_callS cal_X9_put q_589 q_419 dX6_match_109 (e_iinc (v := 1) dX6_match_112 (by decide) (by decide) (e_goto (tgt := 39) dX6_match_115 (by decide) (e_msk [true, true, true, true]))))))))))))))))))))))))))))))))))))))))))))
set_option maxRecDepth 100000 in
theorem V_X6_match_39 {G : GE} {d C S : Nat} {P : KN} {a : Nat → Nat → Int32} {r : Nat → Nat → Value} {N : Nat} {l0 : Nat} {l1 : Nat} {l2 : Int32} {l3 : Int32} (hs : (tyK l1 = (0, 0) ∧ l1 < N ∧ (((a l1 1) ≤ l3 → P a r N) ∧ (¬ (a l1 1) ≤ l3 → (tyK l0 = (0, 6) ∧ l0 < N ∧ Sp G d 0 0 MX6_isAllowed [.ref l0, .int l2, .int l3] (a, r, N) (RI fun v4 a1 r2 n3 => ((v4 = 0 → E G MX6_match (d + 1) C S 39 [.ref l0, .ref l1, .int l2, .int (l3 + 1)] [] (a1, r2, n3) (RN P)) ∧ (¬ v4 = 0 → (tyK l0 = (0, 6) ∧ l0 < n3 ∧ ∃ q5, r2 l0 1 = .ref q5 ∧ Sp G d 0 0 MX9_at [.ref q5, .int l3] (a1, r2, n3) (RI fun v9 a6 r7 n8 => ((¬ v9 = (-1) → E G MX6_match (d + 1) C S 39 [.ref l0, .ref l1, .int l2, .int (l3 + 1)] [] (a6, r7, n8) (RN P)) ∧ (v9 = (-1) → (tyK l0 = (0, 6) ∧ l0 < n8 ∧ ∃ q10, r7 l0 1 = .ref q10 ∧ Sp G d 0 0 MX9_put [.ref q10, .int l2, .int l3] (a6, r7, n8) (RN fun a11 r12 n13 => (tyK l0 = (0, 6) ∧ l0 < n13 ∧ ∃ q14, r12 l0 1 = .ref q14 ∧ Sp G d 0 0 MX9_put [.ref q14, .int l3, .int l2] (a11, r12, n13) (RN fun a15 r16 n17 => (tyK l0 = (0, 6) ∧ l0 < n17 ∧ Sp G d 0 0 MX6_match [.ref l0, .ref l1, .int (l2 + 1)] (a15, r16, n17) (RN fun a18 r19 n20 => (tyK l0 = (0, 6) ∧ l0 < n20 ∧ ∃ q21, r19 l0 1 = .ref q21 ∧ Sp G d 0 0 MX9_put [.ref q21, .int l2, .int (-1)] (a18, r19, n20) (RN fun a22 r23 n24 => (tyK l0 = (0, 6) ∧ l0 < n24 ∧ ∃ q25, r23 l0 1 = .ref q25 ∧ Sp G d 0 0 MX9_put [.ref q25, .int l3, .int (-1)] (a22, r23, n24) (RN fun a26 r27 n28 => E G MX6_match (d + 1) C S 39 [.ref l0, .ref l1, .int l2, .int (l3 + 1)] [] (a26, r27, n28) (RN P))))))))))))))))))))))) : E G MX6_match (d + 1) C S 39 [.ref l0, .ref l1, .int l2, .int l3] [] (a, r, N) (RN P) := T_X6_match_39 _ _ _ hs
theorem dX6_isAllowed_0 : decode cX6_isAllowed 0 = .ok (.aload_n 0, 1) := by decide +kernel
theorem dX6_isAllowed_1 : decode cX6_isAllowed 1 = .ok (.getfield 11, 3) := by decide +kernel
theorem dX6_isAllowed_4 : decode cX6_isAllowed 4 = .ok (.iload_n 1, 1) := by decide +kernel
theorem dX6_isAllowed_5 : decode cX6_isAllowed 5 = .ok (.invokestatic 26, 3) := by decide +kernel
theorem dX6_isAllowed_8 : decode cX6_isAllowed 8 = .ok (.iload_n 2, 1) := by decide +kernel
theorem dX6_isAllowed_9 : decode cX6_isAllowed 9 = .ok (.ishr, 1) := by decide +kernel
theorem dX6_isAllowed_10 : decode cX6_isAllowed 10 = .ok (.iconst 1, 1) := by decide +kernel
theorem dX6_isAllowed_11 : decode cX6_isAllowed 11 = .ok (.iand, 1) := by decide +kernel
theorem dX6_isAllowed_12 : decode cX6_isAllowed 12 = .ok (.iconst 1, 1) := by decide +kernel
theorem dX6_isAllowed_13 : decode cX6_isAllowed 13 = .ok (.if_icmp .ne 7, 3) := by decide +kernel
theorem dX6_isAllowed_16 : decode cX6_isAllowed 16 = .ok (.iconst 1, 1) := by decide +kernel
theorem dX6_isAllowed_17 : decode cX6_isAllowed 17 = .ok (.goto 4, 3) := by decide +kernel
theorem dX6_isAllowed_20 : decode cX6_isAllowed 20 = .ok (.iconst 0, 1) := by decide +kernel
theorem dX6_isAllowed_21 : decode cX6_isAllowed 21 = .ok (.ireturn, 1) := by decide +kernel
set_option maxRecDepth 100000 in
theorem T_X6_isAllowed_0 {G : GE} {d C S : Nat} {P : KI} : Snd G MX6_isAllowed (d + 1) C S 0 (RI P) (s_aload 0 (s_getR 6 0 (s_iload 1 (s_call G d MX9_at 2 (s_iload 2 (s_ishr (s_iconst 1 (s_iand (s_iconst 1 (s_ic_ne (s_iconst 0 (s_zreturn P)) (s_iconst 1 (s_zreturn P)))))))))))) := (e_aload_n dX6_isAllowed_0 rfl (e_getR rfl cl_6 (by decide) rfl q_354 dX6_isAllowed_1 (e_iload_n dX6_isAllowed_4 rfl (e_callS cal_X9_at q_602 q_426 dX6_isAllowed_5 (e_iload_n dX6_isAllowed_8 rfl (e_ishr dX6_isAllowed_9 (e_iconst (v := 1) dX6_isAllowed_10 (by decide) (e_iand dX6_isAllowed_11 (e_iconst (v := 1) dX6_isAllowed_12 (by decide) (e_ic_ne (tgt := 20) dX6_isAllowed_13 (by decide) (e_iconst (v := 0) dX6_isAllowed_20 (by decide) (e_zreturn rfl dX6_isAllowed_21)) (e_iconst (v := 1) dX6_isAllowed_16 (by decide) (e_goto (tgt := 21) dX6_isAllowed_17 (by decide) (e_zreturn rfl dX6_isAllowed_21)))))))))))))
set_option maxRecDepth 100000 in
theorem V_X6_isAllowed_0 {G : GE} {d : Nat} {P : KI} {a : Nat → Nat → Int32} {r : Nat → Nat → Value} {N : Nat} {l0 : Nat} {l1 : Int32} {l2 : Int32} (hs : (tyK l0 = (0, 6) ∧ l0 < N ∧ ∃ q1, r l0 0 = .ref q1 ∧ Sp G d 0 0 MX9_at [.ref q1, .int l1] (a, r, N) (RI fun v5 a2 r3 n4 => ((¬ ((v5 >>> (l2 &&& 31)) &&& 1) = 1 → (bz 0 ∧ P 0 a2 r3 n4)) ∧ (((v5 >>> (l2 &&& 31)) &&& 1) = 1 → (bz 1 ∧ P 1 a2 r3 n4)))))) : Sp G (d + 1) 0 0 MX6_isAllowed [.ref l0, .int l1, .int l2] (a, r, N) (RI P) := Sp.mk (mc := 0) (ms := 0) [.ref l0, .int l1, .int l2] rfl rfl rfl rfl (T_X6_isAllowed_0 (C := 0) (S := 0) _ _ _ hs)
theorem dX6_judge_0 : decode cX6_judge 0 = .ok (.aload_n 0, 1) := by decide +kernel
theorem dX6_judge_1 : decode cX6_judge 1 = .ok (.aload_n 1, 1) := by decide +kernel
theorem dX6_judge_2 : decode cX6_judge 2 = .ok (.invokevirtual 78, 3) := by decide +kernel
theorem dX6_judge_5 : decode cX6_judge 5 = .ok (.istore_n 2, 1) := by decide +kernel
theorem dX6_judge_6 : decode cX6_judge 6 = .ok (.iload_n 2, 1) := by decide +kernel
theorem dX6_judge_7 : decode cX6_judge 7 = .ok (.aload_n 0, 1) := by decide +kernel
theorem dX6_judge_8 : decode cX6_judge 8 = .ok (.getfield 36, 3) := by decide +kernel
theorem dX6_judge_11 : decode cX6_judge 11 = .ok (.if_icmp .le 23, 3) := by decide +kernel
theorem dX6_judge_14 : decode cX6_judge 14 = .ok (.aload_n 0, 1) := by decide +kernel
theorem dX6_judge_15 : decode cX6_judge 15 = .ok (.iload_n 2, 1) := by decide +kernel
theorem dX6_judge_16 : decode cX6_judge 16 = .ok (.putfield 36, 3) := by decide +kernel
theorem dX6_judge_19 : decode cX6_judge 19 = .ok (.aload_n 0, 1) := by decide +kernel
theorem dX6_judge_20 : decode cX6_judge 20 = .ok (.getfield 17, 3) := by decide +kernel
theorem dX6_judge_23 : decode cX6_judge 23 = .ok (.iconst 0, 1) := by decide +kernel
theorem dX6_judge_24 : decode cX6_judge 24 = .ok (.aload_n 0, 1) := by decide +kernel
theorem dX6_judge_25 : decode cX6_judge 25 = .ok (.getfield 23, 3) := by decide +kernel
theorem dX6_judge_28 : decode cX6_judge 28 = .ok (.iconst 0, 1) := by decide +kernel
theorem dX6_judge_29 : decode cX6_judge 29 = .ok (.bipush 8, 2) := by decide +kernel
theorem dX6_judge_31 : decode cX6_judge 31 = .ok (.invokestatic 82, 3) := by decide +kernel
theorem dX6_judge_34 : decode cX6_judge 34 = .ok (.aload_n 0, 1) := by decide +kernel
theorem dX6_judge_35 : decode cX6_judge 35 = .ok (.aload_n 1, 1) := by decide +kernel
theorem dX6_judge_36 : decode cX6_judge 36 = .ok (.invokevirtual 86, 3) := by decide +kernel
theorem dX6_judge_39 : decode cX6_judge 39 = .ok (.ifCond .eq 35, 3) := by decide +kernel
theorem dX6_judge_42 : decode cX6_judge 42 = .ok (.aload_n 0, 1) := by decide +kernel
theorem dX6_judge_43 : decode cX6_judge 43 = .ok (.getfield 32, 3) := by decide +kernel
theorem dX6_judge_46 : decode cX6_judge 46 = .ok (.ifCond .ne 18, 3) := by decide +kernel
theorem dX6_judge_49 : decode cX6_judge 49 = .ok (.aload_n 0, 1) := by decide +kernel
theorem dX6_judge_50 : decode cX6_judge 50 = .ok (.getfield 17, 3) := by decide +kernel
theorem dX6_judge_53 : decode cX6_judge 53 = .ok (.iconst 0, 1) := by decide +kernel
theorem dX6_judge_54 : decode cX6_judge 54 = .ok (.aload_n 0, 1) := by decide +kernel
theorem dX6_judge_55 : decode cX6_judge 55 = .ok (.getfield 20, 3) := by decide +kernel
theorem dX6_judge_58 : decode cX6_judge 58 = .ok (.iconst 0, 1) := by decide +kernel
theorem dX6_judge_59 : decode cX6_judge 59 = .ok (.bipush 8, 2) := by decide +kernel
theorem dX6_judge_61 : decode cX6_judge 61 = .ok (.invokestatic 82, 3) := by decide +kernel
theorem dX6_judge_64 : decode cX6_judge 64 = .ok (.aload_n 0, 1) := by decide +kernel
theorem dX6_judge_65 : decode cX6_judge 65 = .ok (.dup, 1) := by decide +kernel
theorem dX6_judge_66 : decode cX6_judge 66 = .ok (.getfield 32, 3) := by decide +kernel
theorem dX6_judge_69 : decode cX6_judge 69 = .ok (.iconst 1, 1) := by decide +kernel
theorem dX6_judge_70 : decode cX6_judge 70 = .ok (.iadd, 1) := by decide +kernel
theorem dX6_judge_71 : decode cX6_judge 71 = .ok (.putfield 32, 3) := by decide +kernel
theorem dX6_judge_74 : decode cX6_judge 74 = .ok (.return_, 1) := by decide +kernel
set_option maxRecDepth 100000 in
theorem T_X6_judge_0 {G : GE} {d C S : Nat} {P : KN} : Snd G MX6_judge (d + 1) C S 0 (RN P) (s_aload 0 (s_aload 1 (s_callV G d MX6_warmth 1 6 (s_istore 2 (s_iload 2 (s_aload 0 (s_getI 6 5 (s_ic_le (fun L st h => E G MX6_judge (d + 1) C S 34 (msk [true, true, false] L) st h (RN P)) (s_aload 0 (s_iload 2 (s_putI 6 5 (s_aload 0 (s_getR 6 1 (s_iconst 0 (s_aload 0 (s_getR 6 3 (s_iconst 0 (s_iconst 8 (s_call G d MX9_copy 5 (fun L st h => E G MX6_judge (d + 1) C S 34 (msk [true, true, false] L) st h (RN P))))))))))))))))))))) := (e_aload_n dX6_judge_0 rfl (e_aload_n dX6_judge_1 rfl (e_callV cl_6 cal_X6_warmth q_598 q_600 q_4 dX6_judge_2 (e_istore_n dX6_judge_5 rfl (by decide) (e_iload_n dX6_judge_6 rfl (e_aload_n dX6_judge_7 rfl (e_getI rfl cl_6 (by decide) rfl q_360 dX6_judge_8 (e_ic_le (tgt := 34) dX6_judge_11 (by decide) (e_msk [true, true, false]) (e_aload_n dX6_judge_14 rfl (e_iload_n dX6_judge_15 rfl (e_putI rfl cl_6 (by decide) rfl rfl rfl q_360 dX6_judge_16 (e_aload_n dX6_judge_19 rfl (e_getR rfl cl_6 (by decide) rfl q_355 dX6_judge_20 (e_iconst (v := 0) dX6_judge_23 (by decide) (e_aload_n dX6_judge_24 rfl (e_getR rfl cl_6 (by decide) rfl q_357 dX6_judge_25 (e_iconst (v := 0) dX6_judge_28 (by decide) (e_bipush (v := 8) dX6_judge_29 (by decide) (e_callS cal_X9_copy q_604 q_514 dX6_judge_31 (e_msk [true, true, false]))))))))))))))))))))
set_option maxRecDepth 100000 in
theorem V_X6_judge_0 {G : GE} {d : Nat} {P : KN} {a : Nat → Nat → Int32} {r : Nat → Nat → Value} {N : Nat} {l0 : Nat} {l1 : Nat} (hs : (tyK l0 = (0, 6) ∧ l0 < N ∧ Sp G d 0 0 MX6_warmth [.ref l0, .ref l1] (a, r, N) (RI fun v4 a1 r2 n3 => (tyK l0 = (0, 6) ∧ l0 < n3 ∧ ((v4 ≤ (a1 l0 5) → E G MX6_judge (d + 1) 0 0 34 [.ref l0, .ref l1, .null] [] (a1, r2, n3) (RN P)) ∧ (¬ v4 ≤ (a1 l0 5) → (tyK l0 = (0, 6) ∧ l0 < n3 ∧ ∀ a5, a5 = u2 a1 l0 5 v4 → (tyK l0 = (0, 6) ∧ l0 < n3 ∧ ∃ q6, r2 l0 1 = .ref q6 ∧ (tyK l0 = (0, 6) ∧ l0 < n3 ∧ ∃ q7, r2 l0 3 = .ref q7 ∧ Sp G d 0 0 MX9_copy [.ref q6, .int 0, .ref q7, .int 0, .int 8] (a5, r2, n3) (RN fun a8 r9 n10 => E G MX6_judge (d + 1) 0 0 34 [.ref l0, .ref l1, .null] [] (a8, r9, n10) (RN P))))))))))) : Sp G (d + 1) 0 0 MX6_judge [.ref l0, .ref l1] (a, r, N) (RN P) := Sp.mk (mc := 0) (ms := 0) [.ref l0, .ref l1, .null] rfl rfl rfl rfl (T_X6_judge_0 (C := 0) (S := 0) _ _ _ hs)
set_option maxRecDepth 100000 in
theorem T_X6_judge_34 {G : GE} {d C S : Nat} {P : KN} : Snd G MX6_judge (d + 1) C S 34 (RN P) (s_aload 0 (s_aload 1 (s_callV G d MX6_isStable 1 6 (s_if_eq (s_return P) (s_aload 0 (s_getI 6 4 (s_if_ne (s_aload 0 (s_dup (s_getI 6 4 (s_iconst 1 (s_iadd (s_putI 6 4 (s_return P))))))) (s_aload 0 (s_getR 6 1 (s_iconst 0 (s_aload 0 (s_getR 6 2 (s_iconst 0 (s_iconst 8 (s_call G d MX9_copy 5 (s_aload 0 (s_dup (s_getI 6 4 (s_iconst 1 (s_iadd (s_putI 6 4 (s_return P)))))))))))))))))))))) := (e_aload_n dX6_judge_34 rfl (e_aload_n dX6_judge_35 rfl (e_callV cl_6 cal_X6_isStable q_605 q_607 q_5 dX6_judge_36 (e_if_eq (tgt := 74) dX6_judge_39 (by decide) (e_return rfl dX6_judge_74) (e_aload_n dX6_judge_42 rfl (e_getI rfl cl_6 (by decide) rfl q_358 dX6_judge_43 (e_if_ne (tgt := 64) dX6_judge_46 (by decide) (e_aload_n dX6_judge_64 rfl (e_dup dX6_judge_65 (e_getI rfl cl_6 (by decide) rfl q_358 dX6_judge_66 (e_iconst (v := 1) dX6_judge_69 (by decide) (e_iadd dX6_judge_70 (e_putI rfl cl_6 (by decide) rfl rfl rfl q_358 dX6_judge_71 (e_return rfl dX6_judge_74))))))) (e_aload_n dX6_judge_49 rfl (e_getR rfl cl_6 (by decide) rfl q_355 dX6_judge_50 (e_iconst (v := 0) dX6_judge_53 (by decide) (e_aload_n dX6_judge_54 rfl (e_getR rfl cl_6 (by decide) rfl q_356 dX6_judge_55 (e_iconst (v := 0) dX6_judge_58 (by decide) (e_bipush (v := 8) dX6_judge_59 (by decide) (e_callS cal_X9_copy q_604 q_514 dX6_judge_61 (e_aload_n dX6_judge_64 rfl (e_dup dX6_judge_65 (e_getI rfl cl_6 (by decide) rfl q_358 dX6_judge_66 (e_iconst (v := 1) dX6_judge_69 (by decide) (e_iadd dX6_judge_70 (e_putI rfl cl_6 (by decide) rfl rfl rfl q_358 dX6_judge_71 (e_return rfl dX6_judge_74))))))))))))))))))))))
set_option maxRecDepth 100000 in
theorem V_X6_judge_34 {G : GE} {d C S : Nat} {P : KN} {a : Nat → Nat → Int32} {r : Nat → Nat → Value} {N : Nat} {l0 : Nat} {l1 : Nat} (hs : (tyK l0 = (0, 6) ∧ l0 < N ∧ Sp G d 0 0 MX6_isStable [.ref l0, .ref l1] (a, r, N) (RI fun v4 a1 r2 n3 => ((v4 = 0 → P a1 r2 n3) ∧ (¬ v4 = 0 → (tyK l0 = (0, 6) ∧ l0 < n3 ∧ ((¬ (a1 l0 4) = 0 → (tyK l0 = (0, 6) ∧ l0 < n3 ∧ (tyK l0 = (0, 6) ∧ l0 < n3 ∧ ∀ a5, a5 = u2 a1 l0 4 ((a1 l0 4) + 1) → P a5 r2 n3))) ∧ ((a1 l0 4) = 0 → (tyK l0 = (0, 6) ∧ l0 < n3 ∧ ∃ q6, r2 l0 1 = .ref q6 ∧ (tyK l0 = (0, 6) ∧ l0 < n3 ∧ ∃ q7, r2 l0 2 = .ref q7 ∧ Sp G d 0 0 MX9_copy [.ref q6, .int 0, .ref q7, .int 0, .int 8] (a1, r2, n3) (RN fun a8 r9 n10 => (tyK l0 = (0, 6) ∧ l0 < n10 ∧ (tyK l0 = (0, 6) ∧ l0 < n10 ∧ ∀ a11, a11 = u2 a8 l0 4 ((a8 l0 4) + 1) → P a11 r9 n10))))))))))))) : E G MX6_judge (d + 1) C S 34 [.ref l0, .ref l1, .null] [] (a, r, N) (RN P) := T_X6_judge_34 _ _ _ hs
theorem dX6_warmth_0 : decode cX6_warmth 0 = .ok (.iconst 0, 1) := by decide +kernel
theorem dX6_warmth_1 : decode cX6_warmth 1 = .ok (.istore_n 2, 1) := by decide +kernel
theorem dX6_warmth_2 : decode cX6_warmth 2 = .ok (.iconst 0, 1) := by decide +kernel
theorem dX6_warmth_3 : decode cX6_warmth 3 = .ok (.istore_n 3, 1) := by decide +kernel
theorem dX6_warmth_4 : decode cX6_warmth 4 = .ok (.iload_n 3, 1) := by decide +kernel
theorem dX6_warmth_5 : decode cX6_warmth 5 = .ok (.aload_n 1, 1) := by decide +kernel
theorem dX6_warmth_6 : decode cX6_warmth 6 = .ok (.getfield 43, 3) := by decide +kernel
theorem dX6_warmth_9 : decode cX6_warmth 9 = .ok (.if_icmp .ge 25, 3) := by decide +kernel
theorem dX6_warmth_12 : decode cX6_warmth 12 = .ok (.iload_n 2, 1) := by decide +kernel
theorem dX6_warmth_13 : decode cX6_warmth 13 = .ok (.aload_n 1, 1) := by decide +kernel
theorem dX6_warmth_14 : decode cX6_warmth 14 = .ok (.iload_n 3, 1) := by decide +kernel
theorem dX6_warmth_15 : decode cX6_warmth 15 = .ok (.aload_n 0, 1) := by decide +kernel
theorem dX6_warmth_16 : decode cX6_warmth 16 = .ok (.getfield 17, 3) := by decide +kernel
theorem dX6_warmth_19 : decode cX6_warmth 19 = .ok (.iload_n 3, 1) := by decide +kernel
theorem dX6_warmth_20 : decode cX6_warmth 20 = .ok (.invokestatic 26, 3) := by decide +kernel
theorem dX6_warmth_23 : decode cX6_warmth 23 = .ok (.invokevirtual 90, 3) := by decide +kernel
theorem dX6_warmth_26 : decode cX6_warmth 26 = .ok (.iadd, 1) := by decide +kernel
theorem dX6_warmth_27 : decode cX6_warmth 27 = .ok (.istore_n 2, 1) := by decide +kernel
theorem dX6_warmth_28 : decode cX6_warmth 28 = .ok (.iinc 3 1, 3) := by decide +kernel
theorem dX6_warmth_31 : decode cX6_warmth 31 = .ok (.goto (-27), 3) := by decide +kernel
theorem dX6_warmth_34 : decode cX6_warmth 34 = .ok (.iload_n 2, 1) := by decide +kernel
theorem dX6_warmth_35 : decode cX6_warmth 35 = .ok (.ireturn, 1) := by decide +kernel
set_option maxRecDepth 100000 in
theorem T_X6_warmth_0 {G : GE} {d C S : Nat} {P : KI} : Snd G MX6_warmth (d + 1) C S 0 (RI P) (s_iconst 0 (s_istore 2 (s_iconst 0 (s_istore 3 (fun L st h => E G MX6_warmth (d + 1) C S 4 (msk [true, true, true, true] L) st h (RI P)))))) := (e_iconst (v := 0) dX6_warmth_0 (by decide) (e_istore_n dX6_warmth_1 rfl (by decide) (e_iconst (v := 0) dX6_warmth_2 (by decide) (e_istore_n dX6_warmth_3 rfl (by decide) (e_msk [true, true, true, true])))))
set_option maxRecDepth 100000 in
theorem V_X6_warmth_0 {G : GE} {d : Nat} {P : KI} {a : Nat → Nat → Int32} {r : Nat → Nat → Value} {N : Nat} {l0 : Nat} {l1 : Nat} (hs : E G MX6_warmth (d + 1) 0 0 4 [.ref l0, .ref l1, .int 0, .int 0] [] (a, r, N) (RI P)) : Sp G (d + 1) 0 0 MX6_warmth [.ref l0, .ref l1] (a, r, N) (RI P) := Sp.mk (mc := 0) (ms := 0) [.ref l0, .ref l1, .null, .null] rfl rfl rfl rfl (T_X6_warmth_0 (C := 0) (S := 0) _ _ _ hs)
set_option maxRecDepth 100000 in
theorem T_X6_warmth_4 {G : GE} {d C S : Nat} {P : KI} : Snd G MX6_warmth (d + 1) C S 4 (RI P) (s_iload 3 (s_aload 1 (s_getI 0 1 (s_ic_ge (s_iload 2 (s_ireturn P)) (s_iload 2 (s_aload 1 (s_iload 3 (s_aload 0 (s_getR 6 1 (s_iload 3 (s_call G d MX9_at 2 (s_callV G d MX0_liking 2 0 (s_iadd (s_istore 2 (s_iinc 3 1 (fun L st h => E G MX6_warmth (d + 1) C S 4 (msk [true, true, true, true] L) st h (RI P))))))))))))))))) := (e_iload_n dX6_warmth_4 rfl (e_aload_n dX6_warmth_5 rfl (e_getIN rfl cl_0 (by decide) rfl q_193 dX6_warmth_6 (e_ic_ge (tgt := 34) dX6_warmth_9 (by decide) (e_iload_n dX6_warmth_34 rfl (e_ireturn rfl dX6_warmth_35)) (e_iload_n dX6_warmth_12 rfl (e_aload_n dX6_warmth_13 rfl (e_iload_n dX6_warmth_14 rfl (e_aload_n dX6_warmth_15 rfl (e_getR rfl cl_6 (by decide) rfl q_355 dX6_warmth_16 (e_iload_n dX6_warmth_19 rfl (e_callS cal_X9_at q_602 q_426 dX6_warmth_20 (e_callV cl_0 cal_X0_liking q_603 q_570 q_571 dX6_warmth_23 (e_iadd dX6_warmth_26 (e_istore_n dX6_warmth_27 rfl (by decide) (e_iinc (v := 1) dX6_warmth_28 (by decide) (by decide) (e_goto (tgt := 4) dX6_warmth_31 (by decide) (e_msk [true, true, true, true])))))))))))))))))
set_option maxRecDepth 100000 in
theorem V_X6_warmth_4 {G : GE} {d C S : Nat} {P : KI} {a : Nat → Nat → Int32} {r : Nat → Nat → Value} {N : Nat} {l0 : Nat} {l1 : Nat} {l2 : Int32} {l3 : Int32} (hs : (tyK l1 = (0, 0) ∧ l1 < N ∧ (((a l1 1) ≤ l3 → P l2 a r N) ∧ (¬ (a l1 1) ≤ l3 → (tyK l0 = (0, 6) ∧ l0 < N ∧ ∃ q1, r l0 1 = .ref q1 ∧ Sp G d 0 0 MX9_at [.ref q1, .int l3] (a, r, N) (RI fun v5 a2 r3 n4 => (tyK l1 = (0, 0) ∧ l1 < n4 ∧ Sp G d 0 0 MX0_liking [.ref l1, .int l3, .int v5] (a2, r3, n4) (RI fun v9 a6 r7 n8 => E G MX6_warmth (d + 1) C S 4 [.ref l0, .ref l1, .int (l2 + v9), .int (l3 + 1)] [] (a6, r7, n8) (RI P))))))))) : E G MX6_warmth (d + 1) C S 4 [.ref l0, .ref l1, .int l2, .int l3] [] (a, r, N) (RI P) := T_X6_warmth_4 _ _ _ hs
theorem dX6_isStable_0 : decode cX6_isStable 0 = .ok (.iconst 0, 1) := by decide +kernel
theorem dX6_isStable_1 : decode cX6_isStable 1 = .ok (.istore_n 2, 1) := by decide +kernel
theorem dX6_isStable_2 : decode cX6_isStable 2 = .ok (.iload_n 2, 1) := by decide +kernel
theorem dX6_isStable_3 : decode cX6_isStable 3 = .ok (.aload_n 1, 1) := by decide +kernel
theorem dX6_isStable_4 : decode cX6_isStable 4 = .ok (.getfield 43, 3) := by decide +kernel
theorem dX6_isStable_7 : decode cX6_isStable 7 = .ok (.if_icmp .ge 58, 3) := by decide +kernel
theorem dX6_isStable_10 : decode cX6_isStable 10 = .ok (.iload_n 2, 1) := by decide +kernel
theorem dX6_isStable_11 : decode cX6_isStable 11 = .ok (.iconst 1, 1) := by decide +kernel
theorem dX6_isStable_12 : decode cX6_isStable 12 = .ok (.iadd, 1) := by decide +kernel
theorem dX6_isStable_13 : decode cX6_isStable 13 = .ok (.istore_n 3, 1) := by decide +kernel
theorem dX6_isStable_14 : decode cX6_isStable 14 = .ok (.iload_n 3, 1) := by decide +kernel
theorem dX6_isStable_15 : decode cX6_isStable 15 = .ok (.aload_n 1, 1) := by decide +kernel
theorem dX6_isStable_16 : decode cX6_isStable 16 = .ok (.getfield 43, 3) := by decide +kernel
theorem dX6_isStable_19 : decode cX6_isStable 19 = .ok (.if_icmp .ge 40, 3) := by decide +kernel
theorem dX6_isStable_22 : decode cX6_isStable 22 = .ok (.aload_n 0, 1) := by decide +kernel
theorem dX6_isStable_23 : decode cX6_isStable 23 = .ok (.iload_n 2, 1) := by decide +kernel
theorem dX6_isStable_24 : decode cX6_isStable 24 = .ok (.iload_n 3, 1) := by decide +kernel
theorem dX6_isStable_25 : decode cX6_isStable 25 = .ok (.invokevirtual 74, 3) := by decide +kernel
theorem dX6_isStable_28 : decode cX6_isStable 28 = .ok (.ifCond .eq 25, 3) := by decide +kernel
theorem dX6_isStable_31 : decode cX6_isStable 31 = .ok (.aload_n 0, 1) := by decide +kernel
theorem dX6_isStable_32 : decode cX6_isStable 32 = .ok (.aload_n 1, 1) := by decide +kernel
theorem dX6_isStable_33 : decode cX6_isStable 33 = .ok (.iload_n 2, 1) := by decide +kernel
theorem dX6_isStable_34 : decode cX6_isStable 34 = .ok (.iload_n 3, 1) := by decide +kernel
theorem dX6_isStable_35 : decode cX6_isStable 35 = .ok (.invokevirtual 94, 3) := by decide +kernel
theorem dX6_isStable_38 : decode cX6_isStable 38 = .ok (.ifCond .eq 15, 3) := by decide +kernel
theorem dX6_isStable_41 : decode cX6_isStable 41 = .ok (.aload_n 0, 1) := by decide +kernel
theorem dX6_isStable_42 : decode cX6_isStable 42 = .ok (.aload_n 1, 1) := by decide +kernel
theorem dX6_isStable_43 : decode cX6_isStable 43 = .ok (.iload_n 3, 1) := by decide +kernel
theorem dX6_isStable_44 : decode cX6_isStable 44 = .ok (.iload_n 2, 1) := by decide +kernel
theorem dX6_isStable_45 : decode cX6_isStable 45 = .ok (.invokevirtual 94, 3) := by decide +kernel
theorem dX6_isStable_48 : decode cX6_isStable 48 = .ok (.ifCond .eq 5, 3) := by decide +kernel
theorem dX6_isStable_51 : decode cX6_isStable 51 = .ok (.iconst 0, 1) := by decide +kernel
theorem dX6_isStable_52 : decode cX6_isStable 52 = .ok (.ireturn, 1) := by decide +kernel
theorem dX6_isStable_53 : decode cX6_isStable 53 = .ok (.iinc 3 1, 3) := by decide +kernel
theorem dX6_isStable_56 : decode cX6_isStable 56 = .ok (.goto (-42), 3) := by decide +kernel
theorem dX6_isStable_59 : decode cX6_isStable 59 = .ok (.iinc 2 1, 3) := by decide +kernel
theorem dX6_isStable_62 : decode cX6_isStable 62 = .ok (.goto (-60), 3) := by decide +kernel
theorem dX6_isStable_65 : decode cX6_isStable 65 = .ok (.iconst 1, 1) := by decide +kernel
theorem dX6_isStable_66 : decode cX6_isStable 66 = .ok (.ireturn, 1) := by decide +kernel
set_option maxRecDepth 100000 in
theorem T_X6_isStable_0 {G : GE} {d C S : Nat} {P : KI} : Snd G MX6_isStable (d + 1) C S 0 (RI P) (s_iconst 0 (s_istore 2 (fun L st h => E G MX6_isStable (d + 1) C S 2 (msk [true, true, true, false] L) st h (RI P)))) := (e_iconst (v := 0) dX6_isStable_0 (by decide) (e_istore_n dX6_isStable_1 rfl (by decide) (e_msk [true, true, true, false])))
set_option maxRecDepth 100000 in
theorem V_X6_isStable_0 {G : GE} {d : Nat} {P : KI} {a : Nat → Nat → Int32} {r : Nat → Nat → Value} {N : Nat} {l0 : Nat} {l1 : Nat} (hs : E G MX6_isStable (d + 1) 0 0 2 [.ref l0, .ref l1, .int 0, .null] [] (a, r, N) (RI P)) : Sp G (d + 1) 0 0 MX6_isStable [.ref l0, .ref l1] (a, r, N) (RI P) := Sp.mk (mc := 0) (ms := 0) [.ref l0, .ref l1, .null, .null] rfl rfl rfl rfl (T_X6_isStable_0 (C := 0) (S := 0) _ _ _ hs)
set_option maxRecDepth 100000 in
theorem T_X6_isStable_2 {G : GE} {d C S : Nat} {P : KI} : Snd G MX6_isStable (d + 1) C S 2 (RI P) (s_iload 2 (s_aload 1 (s_getI 0 1 (s_ic_ge (s_iconst 1 (s_zreturn P)) (s_iload 2 (s_iconst 1 (s_iadd (s_istore 3 (fun L st h => E G MX6_isStable (d + 1) C S 14 (msk [true, true, true, true] L) st h (RI P)))))))))) := (e_iload_n dX6_isStable_2 rfl (e_aload_n dX6_isStable_3 rfl (e_getIN rfl cl_0 (by decide) rfl q_193 dX6_isStable_4 (e_ic_ge (tgt := 65) dX6_isStable_7 (by decide) (e_iconst (v := 1) dX6_isStable_65 (by decide) (e_zreturn rfl dX6_isStable_66)) (e_iload_n dX6_isStable_10 rfl (e_iconst (v := 1) dX6_isStable_11 (by decide) (e_iadd dX6_isStable_12 (e_istore_n dX6_isStable_13 rfl (by decide) (e_msk [true, true, true, true])))))))))
set_option maxRecDepth 100000 in
theorem V_X6_isStable_2 {G : GE} {d C S : Nat} {P : KI} {a : Nat → Nat → Int32} {r : Nat → Nat → Value} {N : Nat} {l0 : Nat} {l1 : Nat} {l2 : Int32} (hs : (tyK l1 = (0, 0) ∧ l1 < N ∧ (((a l1 1) ≤ l2 → (bz 1 ∧ P 1 a r N)) ∧ (¬ (a l1 1) ≤ l2 → E G MX6_isStable (d + 1) C S 14 [.ref l0, .ref l1, .int l2, .int (l2 + 1)] [] (a, r, N) (RI P))))) : E G MX6_isStable (d + 1) C S 2 [.ref l0, .ref l1, .int l2, .null] [] (a, r, N) (RI P) := T_X6_isStable_2 _ _ _ hs
set_option maxRecDepth 100000 in
theorem T_X6_isStable_14 {G : GE} {d C S : Nat} {P : KI} : Snd G MX6_isStable (d + 1) C S 14 (RI P) (s_iload 3 (s_aload 1 (s_getI 0 1 (s_ic_ge (s_iinc 2 1 (fun L st h => E G MX6_isStable (d + 1) C S 2 (msk [true, true, true, false] L) st h (RI P))) (s_aload 0 (s_iload 2 (s_iload 3 (s_callV G d MX6_isAllowed 2 6 (s_if_eq (s_iinc 3 1 (fun L st h => E G MX6_isStable (d + 1) C S 14 (msk [true, true, true, true] L) st h (RI P))) (s_aload 0 (s_aload 1 (s_iload 2 (s_iload 3 (s_callV G d MX6_prefers 3 6 (s_if_eq (s_iinc 3 1 (fun L st h => E G MX6_isStable (d + 1) C S 14 (msk [true, true, true, true] L) st h (RI P))) (s_aload 0 (s_aload 1 (s_iload 3 (s_iload 2 (s_callV G d MX6_prefers 3 6 (s_if_eq (s_iinc 3 1 (fun L st h => E G MX6_isStable (d + 1) C S 14 (msk [true, true, true, true] L) st h (RI P))) (s_iconst 0 (s_zreturn P))))))))))))))))))))))) := (e_iload_n dX6_isStable_14 rfl (e_aload_n dX6_isStable_15 rfl (e_getIN rfl cl_0 (by decide) rfl q_193 dX6_isStable_16 (e_ic_ge (tgt := 59) dX6_isStable_19 (by decide) (e_iinc (v := 1) dX6_isStable_59 (by decide) (by decide) (e_goto (tgt := 2) dX6_isStable_62 (by decide) (e_msk [true, true, true, false]))) (e_aload_n dX6_isStable_22 rfl (e_iload_n dX6_isStable_23 rfl (e_iload_n dX6_isStable_24 rfl (e_callV cl_6 cal_X6_isAllowed q_609 q_611 q_6 dX6_isStable_25 (e_if_eq (tgt := 53) dX6_isStable_28 (by decide) (e_iinc (v := 1) dX6_isStable_53 (by decide) (by decide) (e_goto (tgt := 14) dX6_isStable_56 (by decide) (e_msk [true, true, true, true]))) (e_aload_n dX6_isStable_31 rfl (e_aload_n dX6_isStable_32 rfl (e_iload_n dX6_isStable_33 rfl (e_iload_n dX6_isStable_34 rfl (e_callV cl_6 cal_X6_prefers q_613 q_615 q_7 dX6_isStable_35 (e_if_eq (tgt := 53) dX6_isStable_38 (by decide) (e_iinc (v := 1) dX6_isStable_53 (by decide) (by decide) (e_goto (tgt := 14) dX6_isStable_56 (by decide) (e_msk [true, true, true, true]))) (e_aload_n dX6_isStable_41 rfl (e_aload_n dX6_isStable_42 rfl (e_iload_n dX6_isStable_43 rfl (e_iload_n dX6_isStable_44 rfl (e_callV cl_6 cal_X6_prefers q_613 q_615 q_7 dX6_isStable_45 (e_if_eq (tgt := 53) dX6_isStable_48 (by decide) (e_iinc (v := 1) dX6_isStable_53 (by decide) (by decide) (e_goto (tgt := 14) dX6_isStable_56 (by decide) (e_msk [true, true, true, true]))) (e_iconst (v := 0) dX6_isStable_51 (by decide) (e_zreturn rfl dX6_isStable_52)))))))))))))))))))))))
set_option maxRecDepth 100000 in
theorem V_X6_isStable_14 {G : GE} {d C S : Nat} {P : KI} {a : Nat → Nat → Int32} {r : Nat → Nat → Value} {N : Nat} {l0 : Nat} {l1 : Nat} {l2 : Int32} {l3 : Int32} (hs : (tyK l1 = (0, 0) ∧ l1 < N ∧ (((a l1 1) ≤ l3 → E G MX6_isStable (d + 1) C S 2 [.ref l0, .ref l1, .int (l2 + 1), .null] [] (a, r, N) (RI P)) ∧ (¬ (a l1 1) ≤ l3 → (tyK l0 = (0, 6) ∧ l0 < N ∧ Sp G d 0 0 MX6_isAllowed [.ref l0, .int l2, .int l3] (a, r, N) (RI fun v4 a1 r2 n3 => ((v4 = 0 → E G MX6_isStable (d + 1) C S 14 [.ref l0, .ref l1, .int l2, .int (l3 + 1)] [] (a1, r2, n3) (RI P)) ∧ (¬ v4 = 0 → (tyK l0 = (0, 6) ∧ l0 < n3 ∧ Sp G d 0 0 MX6_prefers [.ref l0, .ref l1, .int l2, .int l3] (a1, r2, n3) (RI fun v8 a5 r6 n7 => ((v8 = 0 → E G MX6_isStable (d + 1) C S 14 [.ref l0, .ref l1, .int l2, .int (l3 + 1)] [] (a5, r6, n7) (RI P)) ∧ (¬ v8 = 0 → (tyK l0 = (0, 6) ∧ l0 < n7 ∧ Sp G d 0 0 MX6_prefers [.ref l0, .ref l1, .int l3, .int l2] (a5, r6, n7) (RI fun v12 a9 r10 n11 => ((v12 = 0 → E G MX6_isStable (d + 1) C S 14 [.ref l0, .ref l1, .int l2, .int (l3 + 1)] [] (a9, r10, n11) (RI P)) ∧ (¬ v12 = 0 → (bz 0 ∧ P 0 a9 r10 n11))))))))))))))))) : E G MX6_isStable (d + 1) C S 14 [.ref l0, .ref l1, .int l2, .int l3] [] (a, r, N) (RI P) := T_X6_isStable_14 _ _ _ hs
theorem dX6_prefers_0 : decode cX6_prefers 0 = .ok (.aload_n 1, 1) := by decide +kernel
theorem dX6_prefers_1 : decode cX6_prefers 1 = .ok (.iload_n 2, 1) := by decide +kernel
theorem dX6_prefers_2 : decode cX6_prefers 2 = .ok (.iload_n 3, 1) := by decide +kernel
theorem dX6_prefers_3 : decode cX6_prefers 3 = .ok (.invokevirtual 90, 3) := by decide +kernel
theorem dX6_prefers_6 : decode cX6_prefers 6 = .ok (.aload_n 1, 1) := by decide +kernel
theorem dX6_prefers_7 : decode cX6_prefers 7 = .ok (.iload_n 2, 1) := by decide +kernel
theorem dX6_prefers_8 : decode cX6_prefers 8 = .ok (.aload_n 0, 1) := by decide +kernel
theorem dX6_prefers_9 : decode cX6_prefers 9 = .ok (.getfield 17, 3) := by decide +kernel
theorem dX6_prefers_12 : decode cX6_prefers 12 = .ok (.iload_n 2, 1) := by decide +kernel
theorem dX6_prefers_13 : decode cX6_prefers 13 = .ok (.invokestatic 26, 3) := by decide +kernel
theorem dX6_prefers_16 : decode cX6_prefers 16 = .ok (.invokevirtual 90, 3) := by decide +kernel
theorem dX6_prefers_19 : decode cX6_prefers 19 = .ok (.if_icmp .le 7, 3) := by decide +kernel
theorem dX6_prefers_22 : decode cX6_prefers 22 = .ok (.iconst 1, 1) := by decide +kernel
theorem dX6_prefers_23 : decode cX6_prefers 23 = .ok (.goto 4, 3) := by decide +kernel
theorem dX6_prefers_26 : decode cX6_prefers 26 = .ok (.iconst 0, 1) := by decide +kernel
theorem dX6_prefers_27 : decode cX6_prefers 27 = .ok (.ireturn, 1) := by decide +kernel
set_option maxRecDepth 100000 in
theorem T_X6_prefers_0 {G : GE} {d C S : Nat} {P : KI} : Snd G MX6_prefers (d + 1) C S 0 (RI P) (s_aload 1 (s_iload 2 (s_iload 3 (s_callV G d MX0_liking 2 0 (s_aload 1 (s_iload 2 (s_aload 0 (s_getR 6 1 (s_iload 2 (s_call G d MX9_at 2 (s_callV G d MX0_liking 2 0 (s_ic_le (s_iconst 0 (s_zreturn P)) (s_iconst 1 (s_zreturn P)))))))))))))) := (e_aload_n dX6_prefers_0 rfl (e_iload_n dX6_prefers_1 rfl (e_iload_n dX6_prefers_2 rfl (e_callV cl_0 cal_X0_liking q_603 q_570 q_571 dX6_prefers_3 (e_aload_n dX6_prefers_6 rfl (e_iload_n dX6_prefers_7 rfl (e_aload_n dX6_prefers_8 rfl (e_getR rfl cl_6 (by decide) rfl q_355 dX6_prefers_9 (e_iload_n dX6_prefers_12 rfl (e_callS cal_X9_at q_602 q_426 dX6_prefers_13 (e_callV cl_0 cal_X0_liking q_603 q_570 q_571 dX6_prefers_16 (e_ic_le (tgt := 26) dX6_prefers_19 (by decide) (e_iconst (v := 0) dX6_prefers_26 (by decide) (e_zreturn rfl dX6_prefers_27)) (e_iconst (v := 1) dX6_prefers_22 (by decide) (e_goto (tgt := 27) dX6_prefers_23 (by decide) (e_zreturn rfl dX6_prefers_27)))))))))))))))
set_option maxRecDepth 100000 in
theorem V_X6_prefers_0 {G : GE} {d : Nat} {P : KI} {a : Nat → Nat → Int32} {r : Nat → Nat → Value} {N : Nat} {l0 : Nat} {l1 : Nat} {l2 : Int32} {l3 : Int32} (hs : (tyK l1 = (0, 0) ∧ l1 < N ∧ Sp G d 0 0 MX0_liking [.ref l1, .int l2, .int l3] (a, r, N) (RI fun v4 a1 r2 n3 => (tyK l0 = (0, 6) ∧ l0 < n3 ∧ ∃ q5, r2 l0 1 = .ref q5 ∧ Sp G d 0 0 MX9_at [.ref q5, .int l2] (a1, r2, n3) (RI fun v9 a6 r7 n8 => (tyK l1 = (0, 0) ∧ l1 < n8 ∧ Sp G d 0 0 MX0_liking [.ref l1, .int l2, .int v9] (a6, r7, n8) (RI fun v13 a10 r11 n12 => ((v4 ≤ v13 → (bz 0 ∧ P 0 a10 r11 n12)) ∧ (¬ v4 ≤ v13 → (bz 1 ∧ P 1 a10 r11 n12)))))))))) : Sp G (d + 1) 0 0 MX6_prefers [.ref l0, .ref l1, .int l2, .int l3] (a, r, N) (RI P) := Sp.mk (mc := 0) (ms := 0) [.ref l0, .ref l1, .int l2, .int l3] rfl rfl rfl rfl (T_X6_prefers_0 (C := 0) (S := 0) _ _ _ hs)
