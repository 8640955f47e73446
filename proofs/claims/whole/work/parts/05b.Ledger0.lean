theorem dX3_init_0 : decode cX3_init 0 = .ok (.aload_n 0, 1) := by decide +kernel
theorem dX3_init_1 : decode cX3_init 1 = .ok (.invokespecial 5, 3) := by decide +kernel
theorem dX3_init_4 : decode cX3_init 4 = .ok (.aload_n 0, 1) := by decide +kernel
theorem dX3_init_5 : decode cX3_init 5 = .ok (.sipush 672, 3) := by decide +kernel
theorem dX3_init_8 : decode cX3_init 8 = .ok (.newarray .int, 2) := by decide +kernel
theorem dX3_init_10 : decode cX3_init 10 = .ok (.putfield 11, 3) := by decide +kernel
theorem dX3_init_13 : decode cX3_init 13 = .ok (.aload_n 0, 1) := by decide +kernel
theorem dX3_init_14 : decode cX3_init 14 = .ok (.sipush 2145, 3) := by decide +kernel
theorem dX3_init_17 : decode cX3_init 17 = .ok (.newarray .int, 2) := by decide +kernel
theorem dX3_init_19 : decode cX3_init 19 = .ok (.putfield 15, 3) := by decide +kernel
theorem dX3_init_22 : decode cX3_init 22 = .ok (.return_, 1) := by decide +kernel
set_option maxRecDepth 100000 in
theorem T_X3_init_0 {G : GE} {d C S : Nat} {P : KN} : Snd G MX3_init (d + 1) (C + 2) (S + 2817) 0 (RN P) (s_aload 0 (s_objInit (s_aload 0 (s_iconst 672 (fun L st h => p1 st (fun x _ => x.toNatClampNeg = 672) ∧ s_newI (s_putR 3 0 (s_aload 0 (s_iconst 2145 (fun L st h => p1 st (fun x _ => x.toNatClampNeg = 2145) ∧ s_newI (s_putR 3 1 (s_return P)) L st h)))) L st h))))) := (e_aload_n dX3_init_0 rfl (e_objInit q_332 q_141 q_142 dX3_init_1 (e_aload_n dX3_init_4 rfl (e_sipush (v := 672) dX3_init_5 (by decide) (e_newI (N := 672) q_252 (by decide) dX3_init_8 (e_putRF (ty := .array .int) rfl rfl cl_3 (by decide) rfl rfl rfl (by decide +kernel) (fun _ => ⟨rfl, rfl⟩) q_333 dX3_init_10 (e_aload_n dX3_init_13 rfl (e_sipush (v := 2145) dX3_init_14 (by decide) (e_newI (N := 2145) q_252 (by decide) dX3_init_17 (e_putRF (ty := .array .int) rfl rfl cl_3 (by decide) rfl rfl rfl (by decide +kernel) (fun _ => ⟨rfl, rfl⟩) q_334 dX3_init_19 (e_return rfl dX3_init_22)))))))))))
set_option maxRecDepth 100000 in
theorem V_X3_init_0 {G : GE} {d : Nat} {P : KN} {a : Nat → Nat → Int32} {r : Nat → Nat → Value} {N : Nat} {l0 : Nat} (hs : ((672 : Int32).toNatClampNeg = 672 ∧ N < nK ∧ tyK N = (1, (672 : Int32).toNatClampNeg) ∧ ¬ (672 : Int32) < 0 ∧ (∀ j, a N j = 0) ∧ (tyK l0 = (0, 3) ∧ l0 < (N + 1) ∧ ∀ r1, r1 = u2V r l0 0 (.ref N) → ((2145 : Int32).toNatClampNeg = 2145 ∧ (N + 1) < nK ∧ tyK (N + 1) = (1, (2145 : Int32).toNatClampNeg) ∧ ¬ (2145 : Int32) < 0 ∧ (∀ j, a (N + 1) j = 0) ∧ (tyK l0 = (0, 3) ∧ l0 < ((N + 1) + 1) ∧ ∀ r2, r2 = u2V r1 l0 1 (.ref (N + 1)) → P a r2 ((N + 1) + 1)))))) : Sp G (d + 1) 2 2817 MX3_init [.ref l0] (a, r, N) (RN P) := Sp.mk (mc := (0 + 2)) (ms := (0 + 2817)) [.ref l0] rfl rfl rfl rfl (T_X3_init_0 (C := 0) (S := 0) _ _ _ hs)
theorem dX3_clear_0 : decode cX3_clear 0 = .ok (.aload_n 0, 1) := by decide +kernel
theorem dX3_clear_1 : decode cX3_clear 1 = .ok (.iconst 0, 1) := by decide +kernel
theorem dX3_clear_2 : decode cX3_clear 2 = .ok (.putfield 18, 3) := by decide +kernel
theorem dX3_clear_5 : decode cX3_clear 5 = .ok (.aload_n 0, 1) := by decide +kernel
theorem dX3_clear_6 : decode cX3_clear 6 = .ok (.iconst 0, 1) := by decide +kernel
theorem dX3_clear_7 : decode cX3_clear 7 = .ok (.putfield 22, 3) := by decide +kernel
theorem dX3_clear_10 : decode cX3_clear 10 = .ok (.return_, 1) := by decide +kernel
set_option maxRecDepth 100000 in
theorem T_X3_clear_0 {G : GE} {d C S : Nat} {P : KN} : Snd G MX3_clear d C S 0 (RN P) (s_aload 0 (s_iconst 0 (s_putI 3 2 (s_aload 0 (s_iconst 0 (s_putI 3 3 (s_return P))))))) := (e_aload_n dX3_clear_0 rfl (e_iconst (v := 0) dX3_clear_1 (by decide) (e_putI rfl cl_3 (by decide) rfl rfl rfl q_335 dX3_clear_2 (e_aload_n dX3_clear_5 rfl (e_iconst (v := 0) dX3_clear_6 (by decide) (e_putI rfl cl_3 (by decide) rfl rfl rfl q_337 dX3_clear_7 (e_return rfl dX3_clear_10)))))))
set_option maxRecDepth 100000 in
theorem V_X3_clear_0 {G : GE} {d : Nat} {P : KN} {a : Nat → Nat → Int32} {r : Nat → Nat → Value} {N : Nat} {l0 : Nat} (hs : (tyK l0 = (0, 3) ∧ l0 < N ∧ ∀ a1, a1 = u2 a l0 2 0 → (tyK l0 = (0, 3) ∧ l0 < N ∧ ∀ a2, a2 = u2 a1 l0 3 0 → P a2 r N))) : Sp G d 0 0 MX3_clear [.ref l0] (a, r, N) (RN P) := Sp.mk (mc := 0) (ms := 0) [.ref l0] rfl rfl rfl rfl (T_X3_clear_0 (C := 0) (S := 0) _ _ _ hs)
theorem dX3_isFull_0 : decode cX3_isFull 0 = .ok (.aload_n 0, 1) := by decide +kernel
theorem dX3_isFull_1 : decode cX3_isFull 1 = .ok (.getfield 18, 3) := by decide +kernel
theorem dX3_isFull_4 : decode cX3_isFull 4 = .ok (.bipush 16, 2) := by decide +kernel
theorem dX3_isFull_6 : decode cX3_isFull 6 = .ok (.if_icmp .lt 7, 3) := by decide +kernel
theorem dX3_isFull_9 : decode cX3_isFull 9 = .ok (.iconst 1, 1) := by decide +kernel
theorem dX3_isFull_10 : decode cX3_isFull 10 = .ok (.goto 4, 3) := by decide +kernel
theorem dX3_isFull_13 : decode cX3_isFull 13 = .ok (.iconst 0, 1) := by decide +kernel
theorem dX3_isFull_14 : decode cX3_isFull 14 = .ok (.ireturn, 1) := by decide +kernel
set_option maxRecDepth 100000 in
theorem T_X3_isFull_0 {G : GE} {d C S : Nat} {P : KI} : Snd G MX3_isFull d C S 0 (RI P) (s_aload 0 (s_getI 3 2 (s_iconst 16 (s_ic_lt (s_iconst 0 (s_zreturn P)) (s_iconst 1 (s_zreturn P)))))) := (e_aload_n dX3_isFull_0 rfl (e_getI rfl cl_3 (by decide) rfl q_335 dX3_isFull_1 (e_bipush (v := 16) dX3_isFull_4 (by decide) (e_ic_lt (tgt := 13) dX3_isFull_6 (by decide) (e_iconst (v := 0) dX3_isFull_13 (by decide) (e_zreturn rfl dX3_isFull_14)) (e_iconst (v := 1) dX3_isFull_9 (by decide) (e_goto (tgt := 14) dX3_isFull_10 (by decide) (e_zreturn rfl dX3_isFull_14)))))))
set_option maxRecDepth 100000 in
theorem V_X3_isFull_0 {G : GE} {d : Nat} {P : KI} {a : Nat → Nat → Int32} {r : Nat → Nat → Value} {N : Nat} {l0 : Nat} (hs : (tyK l0 = (0, 3) ∧ l0 < N ∧ (((a l0 2) < 16 → (bz 0 ∧ P 0 a r N)) ∧ (¬ (a l0 2) < 16 → (bz 1 ∧ P 1 a r N))))) : Sp G d 0 0 MX3_isFull [.ref l0] (a, r, N) (RI P) := Sp.mk (mc := 0) (ms := 0) [.ref l0] rfl rfl rfl rfl (T_X3_isFull_0 (C := 0) (S := 0) _ _ _ hs)
theorem dX3_keepWork_0 : decode cX3_keepWork 0 = .ok (.aload_n 1, 1) := by decide +kernel
theorem dX3_keepWork_1 : decode cX3_keepWork 1 = .ok (.aload_n 0, 1) := by decide +kernel
theorem dX3_keepWork_2 : decode cX3_keepWork 2 = .ok (.getfield 11, 3) := by decide +kernel
theorem dX3_keepWork_5 : decode cX3_keepWork 5 = .ok (.aload_n 0, 1) := by decide +kernel
theorem dX3_keepWork_6 : decode cX3_keepWork 6 = .ok (.getfield 18, 3) := by decide +kernel
theorem dX3_keepWork_9 : decode cX3_keepWork 9 = .ok (.bipush 42, 2) := by decide +kernel
theorem dX3_keepWork_11 : decode cX3_keepWork 11 = .ok (.imul, 1) := by decide +kernel
theorem dX3_keepWork_12 : decode cX3_keepWork 12 = .ok (.invokevirtual 25, 3) := by decide +kernel
theorem dX3_keepWork_15 : decode cX3_keepWork 15 = .ok (.aload_n 0, 1) := by decide +kernel
theorem dX3_keepWork_16 : decode cX3_keepWork 16 = .ok (.dup, 1) := by decide +kernel
theorem dX3_keepWork_17 : decode cX3_keepWork 17 = .ok (.getfield 18, 3) := by decide +kernel
theorem dX3_keepWork_20 : decode cX3_keepWork 20 = .ok (.iconst 1, 1) := by decide +kernel
theorem dX3_keepWork_21 : decode cX3_keepWork 21 = .ok (.iadd, 1) := by decide +kernel
theorem dX3_keepWork_22 : decode cX3_keepWork 22 = .ok (.putfield 18, 3) := by decide +kernel
theorem dX3_keepWork_25 : decode cX3_keepWork 25 = .ok (.return_, 1) := by decide +kernel
set_option maxRecDepth 100000 in
theorem T_X3_keepWork_0 {G : GE} {d C S : Nat} {P : KN} : Snd G MX3_keepWork (d + 1) C S 0 (RN P) (s_aload 1 (s_aload 0 (s_getR 3 0 (s_aload 0 (s_getI 3 2 (s_iconst 42 (s_imul (s_callV G d MX4_saveTo 2 4 (s_aload 0 (s_dup (s_getI 3 2 (s_iconst 1 (s_iadd (s_putI 3 2 (s_return P))))))))))))))) := (e_aload_n dX3_keepWork_0 rfl (e_aload_n dX3_keepWork_1 rfl (e_getR rfl cl_3 (by decide) rfl q_333 dX3_keepWork_2 (e_aload_n dX3_keepWork_5 rfl (e_getI rfl cl_3 (by decide) rfl q_335 dX3_keepWork_6 (e_bipush (v := 42) dX3_keepWork_9 (by decide) (e_imul dX3_keepWork_11 (e_callV cl_4 cal_X4_saveTo q_681 q_682 q_683 dX3_keepWork_12 (e_aload_n dX3_keepWork_15 rfl (e_dup dX3_keepWork_16 (e_getI rfl cl_3 (by decide) rfl q_335 dX3_keepWork_17 (e_iconst (v := 1) dX3_keepWork_20 (by decide) (e_iadd dX3_keepWork_21 (e_putI rfl cl_3 (by decide) rfl rfl rfl q_335 dX3_keepWork_22 (e_return rfl dX3_keepWork_25)))))))))))))))
set_option maxRecDepth 100000 in
theorem V_X3_keepWork_0 {G : GE} {d : Nat} {P : KN} {a : Nat → Nat → Int32} {r : Nat → Nat → Value} {N : Nat} {l0 : Nat} {l1 : Nat} (hs : (tyK l0 = (0, 3) ∧ l0 < N ∧ ∃ q1, r l0 0 = .ref q1 ∧ (tyK l0 = (0, 3) ∧ l0 < N ∧ (tyK l1 = (0, 4) ∧ l1 < N ∧ Sp G d 0 0 MX4_saveTo [.ref l1, .ref q1, .int ((a l0 2) * 42)] (a, r, N) (RN fun a2 r3 n4 => (tyK l0 = (0, 3) ∧ l0 < n4 ∧ (tyK l0 = (0, 3) ∧ l0 < n4 ∧ ∀ a5, a5 = u2 a2 l0 2 ((a2 l0 2) + 1) → P a5 r3 n4))))))) : Sp G (d + 1) 0 0 MX3_keepWork [.ref l0, .ref l1] (a, r, N) (RN P) := Sp.mk (mc := 0) (ms := 0) [.ref l0, .ref l1] rfl rfl rfl rfl (T_X3_keepWork_0 (C := 0) (S := 0) _ _ _ hs)
theorem dX3_takeWorkBack_0 : decode cX3_takeWorkBack 0 = .ok (.aload_n 0, 1) := by decide +kernel
theorem dX3_takeWorkBack_1 : decode cX3_takeWorkBack 1 = .ok (.getfield 18, 3) := by decide +kernel
theorem dX3_takeWorkBack_4 : decode cX3_takeWorkBack 4 = .ok (.ifCond .gt 5, 3) := by decide +kernel
theorem dX3_takeWorkBack_7 : decode cX3_takeWorkBack 7 = .ok (.iconst 0, 1) := by decide +kernel
theorem dX3_takeWorkBack_8 : decode cX3_takeWorkBack 8 = .ok (.ireturn, 1) := by decide +kernel
theorem dX3_takeWorkBack_9 : decode cX3_takeWorkBack 9 = .ok (.aload_n 0, 1) := by decide +kernel
theorem dX3_takeWorkBack_10 : decode cX3_takeWorkBack 10 = .ok (.dup, 1) := by decide +kernel
theorem dX3_takeWorkBack_11 : decode cX3_takeWorkBack 11 = .ok (.getfield 18, 3) := by decide +kernel
theorem dX3_takeWorkBack_14 : decode cX3_takeWorkBack 14 = .ok (.iconst 1, 1) := by decide +kernel
theorem dX3_takeWorkBack_15 : decode cX3_takeWorkBack 15 = .ok (.isub, 1) := by decide +kernel
theorem dX3_takeWorkBack_16 : decode cX3_takeWorkBack 16 = .ok (.putfield 18, 3) := by decide +kernel
theorem dX3_takeWorkBack_19 : decode cX3_takeWorkBack 19 = .ok (.aload_n 1, 1) := by decide +kernel
theorem dX3_takeWorkBack_20 : decode cX3_takeWorkBack 20 = .ok (.aload_n 0, 1) := by decide +kernel
theorem dX3_takeWorkBack_21 : decode cX3_takeWorkBack 21 = .ok (.getfield 11, 3) := by decide +kernel
theorem dX3_takeWorkBack_24 : decode cX3_takeWorkBack 24 = .ok (.aload_n 0, 1) := by decide +kernel
theorem dX3_takeWorkBack_25 : decode cX3_takeWorkBack 25 = .ok (.getfield 18, 3) := by decide +kernel
theorem dX3_takeWorkBack_28 : decode cX3_takeWorkBack 28 = .ok (.bipush 42, 2) := by decide +kernel
theorem dX3_takeWorkBack_30 : decode cX3_takeWorkBack 30 = .ok (.imul, 1) := by decide +kernel
theorem dX3_takeWorkBack_31 : decode cX3_takeWorkBack 31 = .ok (.invokevirtual 29, 3) := by decide +kernel
theorem dX3_takeWorkBack_34 : decode cX3_takeWorkBack 34 = .ok (.iconst 1, 1) := by decide +kernel
theorem dX3_takeWorkBack_35 : decode cX3_takeWorkBack 35 = .ok (.ireturn, 1) := by decide +kernel
set_option maxRecDepth 100000 in
theorem T_X3_takeWorkBack_0 {G : GE} {d C S : Nat} {P : KI} : Snd G MX3_takeWorkBack (d + 1) C S 0 (RI P) (s_aload 0 (s_getI 3 2 (s_if_gt (s_aload 0 (s_dup (s_getI 3 2 (s_iconst 1 (s_isub (s_putI 3 2 (s_aload 1 (s_aload 0 (s_getR 3 0 (s_aload 0 (s_getI 3 2 (s_iconst 42 (s_imul (s_callV G d MX4_loadFrom 2 4 (s_iconst 1 (s_zreturn P)))))))))))))))) (s_iconst 0 (s_zreturn P))))) := (e_aload_n dX3_takeWorkBack_0 rfl (e_getI rfl cl_3 (by decide) rfl q_335 dX3_takeWorkBack_1 (e_if_gt (tgt := 9) dX3_takeWorkBack_4 (by decide) (e_aload_n dX3_takeWorkBack_9 rfl (e_dup dX3_takeWorkBack_10 (e_getI rfl cl_3 (by decide) rfl q_335 dX3_takeWorkBack_11 (e_iconst (v := 1) dX3_takeWorkBack_14 (by decide) (e_isub dX3_takeWorkBack_15 (e_putI rfl cl_3 (by decide) rfl rfl rfl q_335 dX3_takeWorkBack_16 (e_aload_n dX3_takeWorkBack_19 rfl (e_aload_n dX3_takeWorkBack_20 rfl (e_getR rfl cl_3 (by decide) rfl q_333 dX3_takeWorkBack_21 (e_aload_n dX3_takeWorkBack_24 rfl (e_getI rfl cl_3 (by decide) rfl q_335 dX3_takeWorkBack_25 (e_bipush (v := 42) dX3_takeWorkBack_28 (by decide) (e_imul dX3_takeWorkBack_30 (e_callV cl_4 cal_X4_loadFrom q_509 q_510 q_511 dX3_takeWorkBack_31 (e_iconst (v := 1) dX3_takeWorkBack_34 (by decide) (e_zreturn rfl dX3_takeWorkBack_35)))))))))))))))) (e_iconst (v := 0) dX3_takeWorkBack_7 (by decide) (e_zreturn rfl dX3_takeWorkBack_8)))))
set_option maxRecDepth 100000 in
theorem V_X3_takeWorkBack_0 {G : GE} {d : Nat} {P : KI} {a : Nat → Nat → Int32} {r : Nat → Nat → Value} {N : Nat} {l0 : Nat} {l1 : Nat} (hs : (tyK l0 = (0, 3) ∧ l0 < N ∧ ((0 < (a l0 2) → (tyK l0 = (0, 3) ∧ l0 < N ∧ (tyK l0 = (0, 3) ∧ l0 < N ∧ ∀ a1, a1 = u2 a l0 2 ((a l0 2) - 1) → (tyK l0 = (0, 3) ∧ l0 < N ∧ ∃ q2, r l0 0 = .ref q2 ∧ (tyK l0 = (0, 3) ∧ l0 < N ∧ (tyK l1 = (0, 4) ∧ l1 < N ∧ Sp G d 0 0 MX4_loadFrom [.ref l1, .ref q2, .int ((a1 l0 2) * 42)] (a1, r, N) (RN fun a3 r4 n5 => (bz 1 ∧ P 1 a3 r4 n5)))))))) ∧ (¬ 0 < (a l0 2) → (bz 0 ∧ P 0 a r N))))) : Sp G (d + 1) 0 0 MX3_takeWorkBack [.ref l0, .ref l1] (a, r, N) (RI P) := Sp.mk (mc := 0) (ms := 0) [.ref l0, .ref l1] rfl rfl rfl rfl (T_X3_takeWorkBack_0 (C := 0) (S := 0) _ _ _ hs)
theorem dX3_keepImage_0 : decode cX3_keepImage 0 = .ok (.aload_n 0, 1) := by decide +kernel
theorem dX3_keepImage_1 : decode cX3_keepImage 1 = .ok (.getfield 22, 3) := by decide +kernel
theorem dX3_keepImage_4 : decode cX3_keepImage 4 = .ok (.iconst 3, 1) := by decide +kernel
theorem dX3_keepImage_5 : decode cX3_keepImage 5 = .ok (.if_icmp .lt 5, 3) := by decide +kernel
theorem dX3_keepImage_8 : decode cX3_keepImage 8 = .ok (.iconst 0, 1) := by decide +kernel
theorem dX3_keepImage_9 : decode cX3_keepImage 9 = .ok (.ireturn, 1) := by decide +kernel
theorem dX3_keepImage_10 : decode cX3_keepImage 10 = .ok (.aload_n 0, 1) := by decide +kernel
theorem dX3_keepImage_11 : decode cX3_keepImage 11 = .ok (.getfield 22, 3) := by decide +kernel
theorem dX3_keepImage_14 : decode cX3_keepImage 14 = .ok (.sipush 715, 3) := by decide +kernel
theorem dX3_keepImage_17 : decode cX3_keepImage 17 = .ok (.imul, 1) := by decide +kernel
theorem dX3_keepImage_18 : decode cX3_keepImage 18 = .ok (.istore_n 2, 1) := by decide +kernel
theorem dX3_keepImage_19 : decode cX3_keepImage 19 = .ok (.aload_n 0, 1) := by decide +kernel
theorem dX3_keepImage_20 : decode cX3_keepImage 20 = .ok (.getfield 15, 3) := by decide +kernel
theorem dX3_keepImage_23 : decode cX3_keepImage 23 = .ok (.iload_n 2, 1) := by decide +kernel
theorem dX3_keepImage_24 : decode cX3_keepImage 24 = .ok (.aload_n 0, 1) := by decide +kernel
theorem dX3_keepImage_25 : decode cX3_keepImage 25 = .ok (.getfield 18, 3) := by decide +kernel
theorem dX3_keepImage_28 : decode cX3_keepImage 28 = .ok (.invokestatic 32, 3) := by decide +kernel
theorem dX3_keepImage_31 : decode cX3_keepImage 31 = .ok (.aload_n 1, 1) := by decide +kernel
theorem dX3_keepImage_32 : decode cX3_keepImage 32 = .ok (.aload_n 0, 1) := by decide +kernel
theorem dX3_keepImage_33 : decode cX3_keepImage 33 = .ok (.getfield 15, 3) := by decide +kernel
theorem dX3_keepImage_36 : decode cX3_keepImage 36 = .ok (.iload_n 2, 1) := by decide +kernel
theorem dX3_keepImage_37 : decode cX3_keepImage 37 = .ok (.iconst 1, 1) := by decide +kernel
theorem dX3_keepImage_38 : decode cX3_keepImage 38 = .ok (.iadd, 1) := by decide +kernel
theorem dX3_keepImage_39 : decode cX3_keepImage 39 = .ok (.invokevirtual 25, 3) := by decide +kernel
theorem dX3_keepImage_42 : decode cX3_keepImage 42 = .ok (.aload_n 0, 1) := by decide +kernel
theorem dX3_keepImage_43 : decode cX3_keepImage 43 = .ok (.getfield 11, 3) := by decide +kernel
theorem dX3_keepImage_46 : decode cX3_keepImage 46 = .ok (.iconst 0, 1) := by decide +kernel
theorem dX3_keepImage_47 : decode cX3_keepImage 47 = .ok (.aload_n 0, 1) := by decide +kernel
theorem dX3_keepImage_48 : decode cX3_keepImage 48 = .ok (.getfield 15, 3) := by decide +kernel
theorem dX3_keepImage_51 : decode cX3_keepImage 51 = .ok (.iload_n 2, 1) := by decide +kernel
theorem dX3_keepImage_52 : decode cX3_keepImage 52 = .ok (.iconst 1, 1) := by decide +kernel
theorem dX3_keepImage_53 : decode cX3_keepImage 53 = .ok (.iadd, 1) := by decide +kernel
theorem dX3_keepImage_54 : decode cX3_keepImage 54 = .ok (.bipush 42, 2) := by decide +kernel
theorem dX3_keepImage_56 : decode cX3_keepImage 56 = .ok (.iadd, 1) := by decide +kernel
theorem dX3_keepImage_57 : decode cX3_keepImage 57 = .ok (.aload_n 0, 1) := by decide +kernel
theorem dX3_keepImage_58 : decode cX3_keepImage 58 = .ok (.getfield 18, 3) := by decide +kernel
theorem dX3_keepImage_61 : decode cX3_keepImage 61 = .ok (.bipush 42, 2) := by decide +kernel
theorem dX3_keepImage_63 : decode cX3_keepImage 63 = .ok (.imul, 1) := by decide +kernel
theorem dX3_keepImage_64 : decode cX3_keepImage 64 = .ok (.invokestatic 38, 3) := by decide +kernel
theorem dX3_keepImage_67 : decode cX3_keepImage 67 = .ok (.aload_n 0, 1) := by decide +kernel
theorem dX3_keepImage_68 : decode cX3_keepImage 68 = .ok (.dup, 1) := by decide +kernel
theorem dX3_keepImage_69 : decode cX3_keepImage 69 = .ok (.getfield 22, 3) := by decide +kernel
theorem dX3_keepImage_72 : decode cX3_keepImage 72 = .ok (.iconst 1, 1) := by decide +kernel
theorem dX3_keepImage_73 : decode cX3_keepImage 73 = .ok (.iadd, 1) := by decide +kernel
theorem dX3_keepImage_74 : decode cX3_keepImage 74 = .ok (.putfield 22, 3) := by decide +kernel
theorem dX3_keepImage_77 : decode cX3_keepImage 77 = .ok (.iconst 1, 1) := by decide +kernel
theorem dX3_keepImage_78 : decode cX3_keepImage 78 = .ok (.ireturn, 1) := by decide +kernel
set_option maxRecDepth 100000 in
theorem T_X3_keepImage_0 {G : GE} {d C S : Nat} {P : KI} : Snd G MX3_keepImage (d + 1) C S 0 (RI P) (s_aload 0 (s_getI 3 3 (s_iconst 3 (s_ic_lt (s_aload 0 (s_getI 3 3 (s_iconst 715 (s_imul (s_istore 2 (s_aload 0 (s_getR 3 1 (s_iload 2 (s_aload 0 (s_getI 3 2 (s_call G d MX9_put 3 (s_aload 1 (s_aload 0 (s_getR 3 1 (s_iload 2 (s_iconst 1 (s_iadd (s_callV G d MX4_saveTo 2 4 (s_aload 0 (s_getR 3 0 (s_iconst 0 (s_aload 0 (s_getR 3 1 (s_iload 2 (s_iconst 1 (s_iadd (s_iconst 42 (s_iadd (s_aload 0 (s_getI 3 2 (s_iconst 42 (s_imul (s_call G d MX9_copy 5 (s_aload 0 (s_dup (s_getI 3 3 (s_iconst 1 (s_iadd (s_putI 3 3 (s_iconst 1 (s_zreturn P))))))))))))))))))))))))))))))))))))))))) (s_iconst 0 (s_zreturn P)))))) := (e_aload_n dX3_keepImage_0 rfl (e_getI rfl cl_3 (by decide) rfl q_337 dX3_keepImage_1 (e_iconst (v := 3) dX3_keepImage_4 (by decide) (e_ic_lt (tgt := 10) dX3_keepImage_5 (by decide) (e_aload_n dX3_keepImage_10 rfl (e_getI rfl cl_3 (by decide) rfl q_337 dX3_keepImage_11 (e_sipush (v := 715) dX3_keepImage_14 (by decide) (e_imul dX3_keepImage_17 (e_istore_n dX3_keepImage_18 rfl (by decide) (e_aload_n dX3_keepImage_19 rfl (e_getR rfl cl_3 (by decide) rfl q_334 dX3_keepImage_20 (e_iload_n dX3_keepImage_23 rfl (e_aload_n dX3_keepImage_24 rfl (e_getI rfl cl_3 (by decide) rfl q_335 dX3_keepImage_25 (e_callS cal_X9_put q_680 q_419 dX3_keepImage_28 (e_aload_n dX3_keepImage_31 rfl (e_aload_n dX3_keepImage_32 rfl (e_getR rfl cl_3 (by decide) rfl q_334 dX3_keepImage_33 (e_iload_n dX3_keepImage_36 rfl (e_iconst (v := 1) dX3_keepImage_37 (by decide) (e_iadd dX3_keepImage_38 (e_callV cl_4 cal_X4_saveTo q_681 q_682 q_683 dX3_keepImage_39 (e_aload_n dX3_keepImage_42 rfl (e_getR rfl cl_3 (by decide) rfl q_333 dX3_keepImage_43 (e_iconst (v := 0) dX3_keepImage_46 (by decide) (e_aload_n dX3_keepImage_47 rfl (e_getR rfl cl_3 (by decide) rfl q_334 dX3_keepImage_48 (e_iload_n dX3_keepImage_51 rfl (e_iconst (v := 1) dX3_keepImage_52 (by decide) (e_iadd dX3_keepImage_53 (e_bipush (v := 42) dX3_keepImage_54 (by decide) (e_iadd dX3_keepImage_56 (e_aload_n dX3_keepImage_57 rfl (e_getI rfl cl_3 (by decide) rfl q_335 dX3_keepImage_58 (e_bipush (v := 42) dX3_keepImage_61 (by decide) (e_imul dX3_keepImage_63 (e_callS cal_X9_copy q_685 q_514 dX3_keepImage_64 (e_aload_n dX3_keepImage_67 rfl (e_dup dX3_keepImage_68 (e_getI rfl cl_3 (by decide) rfl q_337 dX3_keepImage_69 (e_iconst (v := 1) dX3_keepImage_72 (by decide) (e_iadd dX3_keepImage_73 (e_putI rfl cl_3 (by decide) rfl rfl rfl q_337 dX3_keepImage_74 (e_iconst (v := 1) dX3_keepImage_77 (by decide) (e_zreturn rfl dX3_keepImage_78))))))))))))))))))))))))))))))))))))))))) (e_iconst (v := 0) dX3_keepImage_8 (by decide) (e_zreturn rfl dX3_keepImage_9))))))
set_option maxRecDepth 100000 in
theorem V_X3_keepImage_0 {G : GE} {d : Nat} {P : KI} {a : Nat → Nat → Int32} {r : Nat → Nat → Value} {N : Nat} {l0 : Nat} {l1 : Nat} (hs : (tyK l0 = (0, 3) ∧ l0 < N ∧ (((a l0 3) < 3 → (tyK l0 = (0, 3) ∧ l0 < N ∧ (tyK l0 = (0, 3) ∧ l0 < N ∧ ∃ q1, r l0 1 = .ref q1 ∧ (tyK l0 = (0, 3) ∧ l0 < N ∧ Sp G d 0 0 MX9_put [.ref q1, .int ((a l0 3) * 715), .int (a l0 2)] (a, r, N) (RN fun a2 r3 n4 => (tyK l0 = (0, 3) ∧ l0 < n4 ∧ ∃ q5, r3 l0 1 = .ref q5 ∧ (tyK l1 = (0, 4) ∧ l1 < n4 ∧ Sp G d 0 0 MX4_saveTo [.ref l1, .ref q5, .int (((a l0 3) * 715) + 1)] (a2, r3, n4) (RN fun a6 r7 n8 => (tyK l0 = (0, 3) ∧ l0 < n8 ∧ ∃ q9, r7 l0 0 = .ref q9 ∧ (tyK l0 = (0, 3) ∧ l0 < n8 ∧ ∃ q10, r7 l0 1 = .ref q10 ∧ (tyK l0 = (0, 3) ∧ l0 < n8 ∧ Sp G d 0 0 MX9_copy [.ref q9, .int 0, .ref q10, .int ((((a l0 3) * 715) + 1) + 42), .int ((a6 l0 2) * 42)] (a6, r7, n8) (RN fun a11 r12 n13 => (tyK l0 = (0, 3) ∧ l0 < n13 ∧ (tyK l0 = (0, 3) ∧ l0 < n13 ∧ ∀ a14, a14 = u2 a11 l0 3 ((a11 l0 3) + 1) → (bz 1 ∧ P 1 a14 r12 n13))))))))))))))) ∧ (¬ (a l0 3) < 3 → (bz 0 ∧ P 0 a r N))))) : Sp G (d + 1) 0 0 MX3_keepImage [.ref l0, .ref l1] (a, r, N) (RI P) := Sp.mk (mc := 0) (ms := 0) [.ref l0, .ref l1, .null] rfl rfl rfl rfl (T_X3_keepImage_0 (C := 0) (S := 0) _ _ _ hs)
theorem dX3_takeImageBack_0 : decode cX3_takeImageBack 0 = .ok (.aload_n 0, 1) := by decide +kernel
theorem dX3_takeImageBack_1 : decode cX3_takeImageBack 1 = .ok (.getfield 22, 3) := by decide +kernel
theorem dX3_takeImageBack_4 : decode cX3_takeImageBack 4 = .ok (.ifCond .gt 5, 3) := by decide +kernel
theorem dX3_takeImageBack_7 : decode cX3_takeImageBack 7 = .ok (.iconst 0, 1) := by decide +kernel
theorem dX3_takeImageBack_8 : decode cX3_takeImageBack 8 = .ok (.ireturn, 1) := by decide +kernel
theorem dX3_takeImageBack_9 : decode cX3_takeImageBack 9 = .ok (.aload_n 0, 1) := by decide +kernel
theorem dX3_takeImageBack_10 : decode cX3_takeImageBack 10 = .ok (.dup, 1) := by decide +kernel
theorem dX3_takeImageBack_11 : decode cX3_takeImageBack 11 = .ok (.getfield 22, 3) := by decide +kernel
theorem dX3_takeImageBack_14 : decode cX3_takeImageBack 14 = .ok (.iconst 1, 1) := by decide +kernel
theorem dX3_takeImageBack_15 : decode cX3_takeImageBack 15 = .ok (.isub, 1) := by decide +kernel
theorem dX3_takeImageBack_16 : decode cX3_takeImageBack 16 = .ok (.putfield 22, 3) := by decide +kernel
theorem dX3_takeImageBack_19 : decode cX3_takeImageBack 19 = .ok (.aload_n 0, 1) := by decide +kernel
theorem dX3_takeImageBack_20 : decode cX3_takeImageBack 20 = .ok (.getfield 22, 3) := by decide +kernel
theorem dX3_takeImageBack_23 : decode cX3_takeImageBack 23 = .ok (.sipush 715, 3) := by decide +kernel
theorem dX3_takeImageBack_26 : decode cX3_takeImageBack 26 = .ok (.imul, 1) := by decide +kernel
theorem dX3_takeImageBack_27 : decode cX3_takeImageBack 27 = .ok (.istore_n 2, 1) := by decide +kernel
theorem dX3_takeImageBack_28 : decode cX3_takeImageBack 28 = .ok (.aload_n 0, 1) := by decide +kernel
theorem dX3_takeImageBack_29 : decode cX3_takeImageBack 29 = .ok (.aload_n 0, 1) := by decide +kernel
theorem dX3_takeImageBack_30 : decode cX3_takeImageBack 30 = .ok (.getfield 15, 3) := by decide +kernel
theorem dX3_takeImageBack_33 : decode cX3_takeImageBack 33 = .ok (.iload_n 2, 1) := by decide +kernel
theorem dX3_takeImageBack_34 : decode cX3_takeImageBack 34 = .ok (.invokestatic 42, 3) := by decide +kernel
theorem dX3_takeImageBack_37 : decode cX3_takeImageBack 37 = .ok (.putfield 18, 3) := by decide +kernel
theorem dX3_takeImageBack_40 : decode cX3_takeImageBack 40 = .ok (.aload_n 1, 1) := by decide +kernel
theorem dX3_takeImageBack_41 : decode cX3_takeImageBack 41 = .ok (.aload_n 0, 1) := by decide +kernel
theorem dX3_takeImageBack_42 : decode cX3_takeImageBack 42 = .ok (.getfield 15, 3) := by decide +kernel
theorem dX3_takeImageBack_45 : decode cX3_takeImageBack 45 = .ok (.iload_n 2, 1) := by decide +kernel
theorem dX3_takeImageBack_46 : decode cX3_takeImageBack 46 = .ok (.iconst 1, 1) := by decide +kernel
theorem dX3_takeImageBack_47 : decode cX3_takeImageBack 47 = .ok (.iadd, 1) := by decide +kernel
theorem dX3_takeImageBack_48 : decode cX3_takeImageBack 48 = .ok (.invokevirtual 29, 3) := by decide +kernel
theorem dX3_takeImageBack_51 : decode cX3_takeImageBack 51 = .ok (.aload_n 0, 1) := by decide +kernel
theorem dX3_takeImageBack_52 : decode cX3_takeImageBack 52 = .ok (.getfield 15, 3) := by decide +kernel
theorem dX3_takeImageBack_55 : decode cX3_takeImageBack 55 = .ok (.iload_n 2, 1) := by decide +kernel
theorem dX3_takeImageBack_56 : decode cX3_takeImageBack 56 = .ok (.iconst 1, 1) := by decide +kernel
theorem dX3_takeImageBack_57 : decode cX3_takeImageBack 57 = .ok (.iadd, 1) := by decide +kernel
theorem dX3_takeImageBack_58 : decode cX3_takeImageBack 58 = .ok (.bipush 42, 2) := by decide +kernel
theorem dX3_takeImageBack_60 : decode cX3_takeImageBack 60 = .ok (.iadd, 1) := by decide +kernel
theorem dX3_takeImageBack_61 : decode cX3_takeImageBack 61 = .ok (.aload_n 0, 1) := by decide +kernel
theorem dX3_takeImageBack_62 : decode cX3_takeImageBack 62 = .ok (.getfield 11, 3) := by decide +kernel
theorem dX3_takeImageBack_65 : decode cX3_takeImageBack 65 = .ok (.iconst 0, 1) := by decide +kernel
theorem dX3_takeImageBack_66 : decode cX3_takeImageBack 66 = .ok (.aload_n 0, 1) := by decide +kernel
theorem dX3_takeImageBack_67 : decode cX3_takeImageBack 67 = .ok (.getfield 18, 3) := by decide +kernel
theorem dX3_takeImageBack_70 : decode cX3_takeImageBack 70 = .ok (.bipush 42, 2) := by decide +kernel
theorem dX3_takeImageBack_72 : decode cX3_takeImageBack 72 = .ok (.imul, 1) := by decide +kernel
theorem dX3_takeImageBack_73 : decode cX3_takeImageBack 73 = .ok (.invokestatic 38, 3) := by decide +kernel
theorem dX3_takeImageBack_76 : decode cX3_takeImageBack 76 = .ok (.iconst 1, 1) := by decide +kernel
theorem dX3_takeImageBack_77 : decode cX3_takeImageBack 77 = .ok (.ireturn, 1) := by decide +kernel
set_option maxRecDepth 100000 in
theorem T_X3_takeImageBack_0 {G : GE} {d C S : Nat} {P : KI} : Snd G MX3_takeImageBack (d + 1) C S 0 (RI P) (s_aload 0 (s_getI 3 3 (s_if_gt (s_aload 0 (s_dup (s_getI 3 3 (s_iconst 1 (s_isub (s_putI 3 3 (s_aload 0 (s_getI 3 3 (s_iconst 715 (s_imul (s_istore 2 (s_aload 0 (s_aload 0 (s_getR 3 1 (s_iload 2 (s_call G d MX9_at 2 (s_putI 3 2 (s_aload 1 (s_aload 0 (s_getR 3 1 (s_iload 2 (s_iconst 1 (s_iadd (s_callV G d MX4_loadFrom 2 4 (s_aload 0 (s_getR 3 1 (s_iload 2 (s_iconst 1 (s_iadd (s_iconst 42 (s_iadd (s_aload 0 (s_getR 3 0 (s_iconst 0 (s_aload 0 (s_getI 3 2 (s_iconst 42 (s_imul (s_call G d MX9_copy 5 (s_iconst 1 (s_zreturn P))))))))))))))))))))))))))))))))))))))))) (s_iconst 0 (s_zreturn P))))) := (e_aload_n dX3_takeImageBack_0 rfl (e_getI rfl cl_3 (by decide) rfl q_337 dX3_takeImageBack_1 (e_if_gt (tgt := 9) dX3_takeImageBack_4 (by decide) (e_aload_n dX3_takeImageBack_9 rfl (e_dup dX3_takeImageBack_10 (e_getI rfl cl_3 (by decide) rfl q_337 dX3_takeImageBack_11 (e_iconst (v := 1) dX3_takeImageBack_14 (by decide) (e_isub dX3_takeImageBack_15 (e_putI rfl cl_3 (by decide) rfl rfl rfl q_337 dX3_takeImageBack_16 (e_aload_n dX3_takeImageBack_19 rfl (e_getI rfl cl_3 (by decide) rfl q_337 dX3_takeImageBack_20 (e_sipush (v := 715) dX3_takeImageBack_23 (by decide) (e_imul dX3_takeImageBack_26 (e_istore_n dX3_takeImageBack_27 rfl (by decide) (e_aload_n dX3_takeImageBack_28 rfl (e_aload_n dX3_takeImageBack_29 rfl (e_getR rfl cl_3 (by decide) rfl q_334 dX3_takeImageBack_30 (e_iload_n dX3_takeImageBack_33 rfl (e_callS cal_X9_at q_694 q_426 dX3_takeImageBack_34 (e_putI rfl cl_3 (by decide) rfl rfl rfl q_335 dX3_takeImageBack_37 (e_aload_n dX3_takeImageBack_40 rfl (e_aload_n dX3_takeImageBack_41 rfl (e_getR rfl cl_3 (by decide) rfl q_334 dX3_takeImageBack_42 (e_iload_n dX3_takeImageBack_45 rfl (e_iconst (v := 1) dX3_takeImageBack_46 (by decide) (e_iadd dX3_takeImageBack_47 (e_callV cl_4 cal_X4_loadFrom q_509 q_510 q_511 dX3_takeImageBack_48 (e_aload_n dX3_takeImageBack_51 rfl (e_getR rfl cl_3 (by decide) rfl q_334 dX3_takeImageBack_52 (e_iload_n dX3_takeImageBack_55 rfl (e_iconst (v := 1) dX3_takeImageBack_56 (by decide) (e_iadd dX3_takeImageBack_57 (e_bipush (v := 42) dX3_takeImageBack_58 (by decide) (e_iadd dX3_takeImageBack_60 (e_aload_n dX3_takeImageBack_61 rfl (e_getR rfl cl_3 (by decide) rfl q_333 dX3_takeImageBack_62 (e_iconst (v := 0) dX3_takeImageBack_65 (by decide) (e_aload_n dX3_takeImageBack_66 rfl (e_getI rfl cl_3 (by decide) rfl q_335 dX3_takeImageBack_67 (e_bipush (v := 42) dX3_takeImageBack_70 (by decide) (e_imul dX3_takeImageBack_72 (e_callS cal_X9_copy q_685 q_514 dX3_takeImageBack_73 (e_iconst (v := 1) dX3_takeImageBack_76 (by decide) (e_zreturn rfl dX3_takeImageBack_77))))))))))))))))))))))))))))))))))))))))) (e_iconst (v := 0) dX3_takeImageBack_7 (by decide) (e_zreturn rfl dX3_takeImageBack_8)))))
set_option maxRecDepth 100000 in
theorem V_X3_takeImageBack_0 {G : GE} {d : Nat} {P : KI} {a : Nat → Nat → Int32} {r : Nat → Nat → Value} {N : Nat} {l0 : Nat} {l1 : Nat} (hs : (tyK l0 = (0, 3) ∧ l0 < N ∧ ((0 < (a l0 3) → (tyK l0 = (0, 3) ∧ l0 < N ∧ (tyK l0 = (0, 3) ∧ l0 < N ∧ ∀ a1, a1 = u2 a l0 3 ((a l0 3) - 1) → (tyK l0 = (0, 3) ∧ l0 < N ∧ (tyK l0 = (0, 3) ∧ l0 < N ∧ ∃ q2, r l0 1 = .ref q2 ∧ Sp G d 0 0 MX9_at [.ref q2, .int ((a1 l0 3) * 715)] (a1, r, N) (RI fun v6 a3 r4 n5 => (tyK l0 = (0, 3) ∧ l0 < n5 ∧ ∀ a7, a7 = u2 a3 l0 2 v6 → (tyK l0 = (0, 3) ∧ l0 < n5 ∧ ∃ q8, r4 l0 1 = .ref q8 ∧ (tyK l1 = (0, 4) ∧ l1 < n5 ∧ Sp G d 0 0 MX4_loadFrom [.ref l1, .ref q8, .int (((a1 l0 3) * 715) + 1)] (a7, r4, n5) (RN fun a9 r10 n11 => (tyK l0 = (0, 3) ∧ l0 < n11 ∧ ∃ q12, r10 l0 1 = .ref q12 ∧ (tyK l0 = (0, 3) ∧ l0 < n11 ∧ ∃ q13, r10 l0 0 = .ref q13 ∧ (tyK l0 = (0, 3) ∧ l0 < n11 ∧ Sp G d 0 0 MX9_copy [.ref q12, .int ((((a1 l0 3) * 715) + 1) + 42), .ref q13, .int 0, .int ((a9 l0 2) * 42)] (a9, r10, n11) (RN fun a14 r15 n16 => (bz 1 ∧ P 1 a14 r15 n16))))))))))))))) ∧ (¬ 0 < (a l0 3) → (bz 0 ∧ P 0 a r N))))) : Sp G (d + 1) 0 0 MX3_takeImageBack [.ref l0, .ref l1] (a, r, N) (RI P) := Sp.mk (mc := 0) (ms := 0) [.ref l0, .ref l1, .null] rfl rfl rfl rfl (T_X3_takeImageBack_0 (C := 0) (S := 0) _ _ _ hs)
