theorem dX10_init_0 : decode cX10_init 0 = .ok (.aload_n 0, 1) := by decide +kernel
theorem dX10_init_1 : decode cX10_init 1 = .ok (.invokespecial 3, 3) := by decide +kernel
theorem dX10_init_4 : decode cX10_init 4 = .ok (.aload_n 0, 1) := by decide +kernel
theorem dX10_init_5 : decode cX10_init 5 = .ok (.aload_n 1, 1) := by decide +kernel
theorem dX10_init_6 : decode cX10_init 6 = .ok (.putfield 9, 3) := by decide +kernel
theorem dX10_init_9 : decode cX10_init 9 = .ok (.aload_n 0, 1) := by decide +kernel
theorem dX10_init_10 : decode cX10_init 10 = .ok (.iconst (-1), 1) := by decide +kernel
theorem dX10_init_11 : decode cX10_init 11 = .ok (.putfield 15, 3) := by decide +kernel
theorem dX10_init_14 : decode cX10_init 14 = .ok (.return_, 1) := by decide +kernel
set_option maxRecDepth 100000 in
theorem T_X10_init_0 {G : GE} {d C S : Nat} {P : KN} : Snd G MX10_init (d + 1) C S 0 (RN P) (s_aload 0 (s_objInit (s_aload 0 (s_aload 1 (s_putR 9 0 (s_aload 0 (s_iconst (-1) (s_putI 9 5 (s_return P))))))))) := (e_aload_n dX10_init_0 rfl (e_objInit q_148 q_141 q_142 dX10_init_1 (e_aload_n dX10_init_4 rfl (e_aload_n dX10_init_5 rfl (e_putRF (ty := .array .byte) rfl rfl cl_9 (by decide) rfl rfl rfl (by decide +kernel) (fun _ => ⟨rfl, rfl⟩) q_149 dX10_init_6 (e_aload_n dX10_init_9 rfl (e_iconst (v := (-1)) dX10_init_10 (by decide) (e_putI rfl cl_9 (by decide) rfl rfl rfl q_154 dX10_init_11 (e_return rfl dX10_init_14)))))))))
set_option maxRecDepth 100000 in
theorem V_X10_init_0 {G : GE} {d : Nat} {P : KN} {a : Nat → Nat → Int32} {r : Nat → Nat → Value} {N : Nat} {l0 : Nat} {l1 : Nat} (hs : (tyK l0 = (0, 9) ∧ l0 < N ∧ ∀ r1, r1 = u2V r l0 0 (.ref l1) → (tyK l0 = (0, 9) ∧ l0 < N ∧ ∀ a2, a2 = u2 a l0 5 (-1) → P a2 r1 N))) : Sp G (d + 1) 0 0 MX10_init [.ref l0, .ref l1] (a, r, N) (RN P) := Sp.mk (mc := 0) (ms := 0) [.ref l0, .ref l1] rfl rfl rfl rfl (T_X10_init_0 (C := 0) (S := 0) _ _ _ hs)
theorem dX10_open_0 : decode cX10_open 0 = .ok (.aload_n 0, 1) := by decide +kernel
theorem dX10_open_1 : decode cX10_open 1 = .ok (.iload_n 1, 1) := by decide +kernel
theorem dX10_open_2 : decode cX10_open 2 = .ok (.aload_n 0, 1) := by decide +kernel
theorem dX10_open_3 : decode cX10_open 3 = .ok (.getfield 9, 3) := by decide +kernel
theorem dX10_open_6 : decode cX10_open 6 = .ok (.arraylength, 1) := by decide +kernel
theorem dX10_open_7 : decode cX10_open 7 = .ok (.invokestatic 19, 3) := by decide +kernel
theorem dX10_open_10 : decode cX10_open 10 = .ok (.putfield 25, 3) := by decide +kernel
theorem dX10_open_13 : decode cX10_open 13 = .ok (.aload_n 0, 1) := by decide +kernel
theorem dX10_open_14 : decode cX10_open 14 = .ok (.iconst 0, 1) := by decide +kernel
theorem dX10_open_15 : decode cX10_open 15 = .ok (.putfield 28, 3) := by decide +kernel
theorem dX10_open_18 : decode cX10_open 18 = .ok (.aload_n 0, 1) := by decide +kernel
theorem dX10_open_19 : decode cX10_open 19 = .ok (.iconst 0, 1) := by decide +kernel
theorem dX10_open_20 : decode cX10_open 20 = .ok (.putfield 31, 3) := by decide +kernel
theorem dX10_open_23 : decode cX10_open 23 = .ok (.aload_n 0, 1) := by decide +kernel
theorem dX10_open_24 : decode cX10_open 24 = .ok (.iconst 0, 1) := by decide +kernel
theorem dX10_open_25 : decode cX10_open 25 = .ok (.putfield 34, 3) := by decide +kernel
theorem dX10_open_28 : decode cX10_open 28 = .ok (.aload_n 0, 1) := by decide +kernel
theorem dX10_open_29 : decode cX10_open 29 = .ok (.iconst (-1), 1) := by decide +kernel
theorem dX10_open_30 : decode cX10_open 30 = .ok (.putfield 15, 3) := by decide +kernel
theorem dX10_open_33 : decode cX10_open 33 = .ok (.return_, 1) := by decide +kernel
set_option maxRecDepth 100000 in
theorem T_X10_open_0 {G : GE} {d C S : Nat} {P : KN} : Snd G MX10_open (d + 1) C S 0 (RN P) (s_aload 0 (s_iload 1 (s_aload 0 (s_getR 9 0 (s_alen (s_min (s_putI 9 1 (s_aload 0 (s_iconst 0 (s_putI 9 2 (s_aload 0 (s_iconst 0 (s_putI 9 3 (s_aload 0 (s_iconst 0 (s_putI 9 4 (s_aload 0 (s_iconst (-1) (s_putI 9 5 (s_return P)))))))))))))))))))) := (e_aload_n dX10_open_0 rfl (e_iload_n dX10_open_1 rfl (e_aload_n dX10_open_2 rfl (e_getR rfl cl_9 (by decide) rfl q_149 dX10_open_3 (e_alen dX10_open_6 (e_min q_790 q_552 q_127 q_553 dX10_open_7 (e_putI rfl cl_9 (by decide) rfl rfl rfl q_150 dX10_open_10 (e_aload_n dX10_open_13 rfl (e_iconst (v := 0) dX10_open_14 (by decide) (e_putI rfl cl_9 (by decide) rfl rfl rfl q_151 dX10_open_15 (e_aload_n dX10_open_18 rfl (e_iconst (v := 0) dX10_open_19 (by decide) (e_putI rfl cl_9 (by decide) rfl rfl rfl q_152 dX10_open_20 (e_aload_n dX10_open_23 rfl (e_iconst (v := 0) dX10_open_24 (by decide) (e_putI rfl cl_9 (by decide) rfl rfl rfl q_153 dX10_open_25 (e_aload_n dX10_open_28 rfl (e_iconst (v := (-1)) dX10_open_29 (by decide) (e_putI rfl cl_9 (by decide) rfl rfl rfl q_154 dX10_open_30 (e_return rfl dX10_open_33))))))))))))))))))))
set_option maxRecDepth 100000 in
theorem V_X10_open_0 {G : GE} {d : Nat} {P : KN} {a : Nat → Nat → Int32} {r : Nat → Nat → Value} {N : Nat} {l0 : Nat} {l1 : Int32} (hs : (tyK l0 = (0, 9) ∧ l0 < N ∧ ∃ q1, r l0 0 = .ref q1 ∧ (((tyK q1).1 = 1 ∨ (tyK q1).1 = 2) ∧ q1 < N ∧ (tyK l0 = (0, 9) ∧ l0 < N ∧ ∀ a2, a2 = u2 a l0 1 (if (Int32.ofNat (tyK q1).2) < (l1 : Int32) then (Int32.ofNat (tyK q1).2) else l1) → (tyK l0 = (0, 9) ∧ l0 < N ∧ ∀ a3, a3 = u2 a2 l0 2 0 → (tyK l0 = (0, 9) ∧ l0 < N ∧ ∀ a4, a4 = u2 a3 l0 3 0 → (tyK l0 = (0, 9) ∧ l0 < N ∧ ∀ a5, a5 = u2 a4 l0 4 0 → (tyK l0 = (0, 9) ∧ l0 < N ∧ ∀ a6, a6 = u2 a5 l0 5 (-1) → P a6 r N)))))))) : Sp G (d + 1) 0 0 MX10_open [.ref l0, .int l1] (a, r, N) (RN P) := Sp.mk (mc := 0) (ms := 0) [.ref l0, .int l1] rfl rfl rfl rfl (T_X10_open_0 (C := 0) (S := 0) _ _ _ hs)
theorem dX10_answer_0 : decode cX10_answer 0 = .ok (.aload_n 0, 1) := by decide +kernel
theorem dX10_answer_1 : decode cX10_answer 1 = .ok (.getfield 34, 3) := by decide +kernel
theorem dX10_answer_4 : decode cX10_answer 4 = .ok (.bipush 10, 2) := by decide +kernel
theorem dX10_answer_6 : decode cX10_answer 6 = .ok (.isub, 1) := by decide +kernel
theorem dX10_answer_7 : decode cX10_answer 7 = .ok (.ireturn, 1) := by decide +kernel
set_option maxRecDepth 100000 in
theorem T_X10_answer_0 {G : GE} {d C S : Nat} {P : KI} : Snd G MX10_answer d C S 0 (RI P) (s_aload 0 (s_getI 9 4 (s_iconst 10 (s_isub (s_ireturn P))))) := (e_aload_n dX10_answer_0 rfl (e_getI rfl cl_9 (by decide) rfl q_153 dX10_answer_1 (e_bipush (v := 10) dX10_answer_4 (by decide) (e_isub dX10_answer_6 (e_ireturn rfl dX10_answer_7)))))
set_option maxRecDepth 100000 in
theorem V_X10_answer_0 {G : GE} {d : Nat} {P : KI} {a : Nat → Nat → Int32} {r : Nat → Nat → Value} {N : Nat} {l0 : Nat} (hs : (tyK l0 = (0, 9) ∧ l0 < N ∧ P ((a l0 4) - 10) a r N)) : Sp G d 0 0 MX10_answer [.ref l0] (a, r, N) (RI P) := Sp.mk (mc := 0) (ms := 0) [.ref l0] rfl rfl rfl rfl (T_X10_answer_0 (C := 0) (S := 0) _ _ _ hs)
theorem dX10_mark_0 : decode cX10_mark 0 = .ok (.aload_n 0, 1) := by decide +kernel
theorem dX10_mark_1 : decode cX10_mark 1 = .ok (.iload_n 1, 1) := by decide +kernel
theorem dX10_mark_2 : decode cX10_mark 2 = .ok (.putfield 34, 3) := by decide +kernel
theorem dX10_mark_5 : decode cX10_mark 5 = .ok (.aload_n 0, 1) := by decide +kernel
theorem dX10_mark_6 : decode cX10_mark 6 = .ok (.aload_n 0, 1) := by decide +kernel
theorem dX10_mark_7 : decode cX10_mark 7 = .ok (.getfield 31, 3) := by decide +kernel
theorem dX10_mark_10 : decode cX10_mark 10 = .ok (.putfield 15, 3) := by decide +kernel
theorem dX10_mark_13 : decode cX10_mark 13 = .ok (.iconst 0, 1) := by decide +kernel
theorem dX10_mark_14 : decode cX10_mark 14 = .ok (.ireturn, 1) := by decide +kernel
set_option maxRecDepth 100000 in
theorem T_X10_mark_0 {G : GE} {d C S : Nat} {P : KI} : Snd G MX10_mark d C S 0 (RI P) (s_aload 0 (s_iload 1 (s_putI 9 4 (s_aload 0 (s_aload 0 (s_getI 9 3 (s_putI 9 5 (s_iconst 0 (s_zreturn P))))))))) := (e_aload_n dX10_mark_0 rfl (e_iload_n dX10_mark_1 rfl (e_putI rfl cl_9 (by decide) rfl rfl rfl q_153 dX10_mark_2 (e_aload_n dX10_mark_5 rfl (e_aload_n dX10_mark_6 rfl (e_getI rfl cl_9 (by decide) rfl q_152 dX10_mark_7 (e_putI rfl cl_9 (by decide) rfl rfl rfl q_154 dX10_mark_10 (e_iconst (v := 0) dX10_mark_13 (by decide) (e_zreturn rfl dX10_mark_14)))))))))
set_option maxRecDepth 100000 in
theorem V_X10_mark_0 {G : GE} {d : Nat} {P : KI} {a : Nat → Nat → Int32} {r : Nat → Nat → Value} {N : Nat} {l0 : Nat} {l1 : Int32} (hs : (tyK l0 = (0, 9) ∧ l0 < N ∧ ∀ a1, a1 = u2 a l0 4 l1 → (tyK l0 = (0, 9) ∧ l0 < N ∧ (tyK l0 = (0, 9) ∧ l0 < N ∧ ∀ a2, a2 = u2 a1 l0 5 (a1 l0 3) → (bz 0 ∧ P 0 a2 r N))))) : Sp G d 0 0 MX10_mark [.ref l0, .int l1] (a, r, N) (RI P) := Sp.mk (mc := 0) (ms := 0) [.ref l0, .int l1] rfl rfl rfl rfl (T_X10_mark_0 (C := 0) (S := 0) _ _ _ hs)
theorem dX10_atEnd_0 : decode cX10_atEnd 0 = .ok (.aload_n 0, 1) := by decide +kernel
theorem dX10_atEnd_1 : decode cX10_atEnd 1 = .ok (.invokevirtual 37, 3) := by decide +kernel
theorem dX10_atEnd_4 : decode cX10_atEnd 4 = .ok (.aload_n 0, 1) := by decide +kernel
theorem dX10_atEnd_5 : decode cX10_atEnd 5 = .ok (.getfield 28, 3) := by decide +kernel
theorem dX10_atEnd_8 : decode cX10_atEnd 8 = .ok (.aload_n 0, 1) := by decide +kernel
theorem dX10_atEnd_9 : decode cX10_atEnd 9 = .ok (.getfield 25, 3) := by decide +kernel
theorem dX10_atEnd_12 : decode cX10_atEnd 12 = .ok (.if_icmp .lt 7, 3) := by decide +kernel
theorem dX10_atEnd_15 : decode cX10_atEnd 15 = .ok (.iconst 1, 1) := by decide +kernel
theorem dX10_atEnd_16 : decode cX10_atEnd 16 = .ok (.goto 4, 3) := by decide +kernel
theorem dX10_atEnd_19 : decode cX10_atEnd 19 = .ok (.iconst 0, 1) := by decide +kernel
theorem dX10_atEnd_20 : decode cX10_atEnd 20 = .ok (.ireturn, 1) := by decide +kernel
set_option maxRecDepth 100000 in
theorem T_X10_atEnd_0 {G : GE} {d C S : Nat} {P : KI} : Snd G MX10_atEnd (d + 1) C S 0 (RI P) (s_aload 0 (s_callV G d MX10_skipBlanks 0 9 (s_aload 0 (s_getI 9 2 (s_aload 0 (s_getI 9 1 (s_ic_lt (s_iconst 0 (s_zreturn P)) (s_iconst 1 (s_zreturn P))))))))) := (e_aload_n dX10_atEnd_0 rfl (e_callV cl_9 cal_X10_skipBlanks q_799 q_801 q_13 dX10_atEnd_1 (e_aload_n dX10_atEnd_4 rfl (e_getI rfl cl_9 (by decide) rfl q_151 dX10_atEnd_5 (e_aload_n dX10_atEnd_8 rfl (e_getI rfl cl_9 (by decide) rfl q_150 dX10_atEnd_9 (e_ic_lt (tgt := 19) dX10_atEnd_12 (by decide) (e_iconst (v := 0) dX10_atEnd_19 (by decide) (e_zreturn rfl dX10_atEnd_20)) (e_iconst (v := 1) dX10_atEnd_15 (by decide) (e_goto (tgt := 20) dX10_atEnd_16 (by decide) (e_zreturn rfl dX10_atEnd_20))))))))))
set_option maxRecDepth 100000 in
theorem V_X10_atEnd_0 {G : GE} {d : Nat} {P : KI} {a : Nat → Nat → Int32} {r : Nat → Nat → Value} {N : Nat} {l0 : Nat} (hs : (tyK l0 = (0, 9) ∧ l0 < N ∧ Sp G d 0 0 MX10_skipBlanks [.ref l0] (a, r, N) (RN fun a1 r2 n3 => (tyK l0 = (0, 9) ∧ l0 < n3 ∧ (tyK l0 = (0, 9) ∧ l0 < n3 ∧ (((a1 l0 2) < (a1 l0 1) → (bz 0 ∧ P 0 a1 r2 n3)) ∧ (¬ (a1 l0 2) < (a1 l0 1) → (bz 1 ∧ P 1 a1 r2 n3)))))))) : Sp G (d + 1) 0 0 MX10_atEnd [.ref l0] (a, r, N) (RI P) := Sp.mk (mc := 0) (ms := 0) [.ref l0] rfl rfl rfl rfl (T_X10_atEnd_0 (C := 0) (S := 0) _ _ _ hs)
theorem dX10_sees_0 : decode cX10_sees 0 = .ok (.aload_n 0, 1) := by decide +kernel
theorem dX10_sees_1 : decode cX10_sees 1 = .ok (.invokevirtual 37, 3) := by decide +kernel
theorem dX10_sees_4 : decode cX10_sees 4 = .ok (.aload_n 0, 1) := by decide +kernel
theorem dX10_sees_5 : decode cX10_sees 5 = .ok (.aload_n 0, 1) := by decide +kernel
theorem dX10_sees_6 : decode cX10_sees 6 = .ok (.getfield 28, 3) := by decide +kernel
theorem dX10_sees_9 : decode cX10_sees 9 = .ok (.invokevirtual 40, 3) := by decide +kernel
theorem dX10_sees_12 : decode cX10_sees 12 = .ok (.iload_n 1, 1) := by decide +kernel
theorem dX10_sees_13 : decode cX10_sees 13 = .ok (.if_icmp .ne 7, 3) := by decide +kernel
theorem dX10_sees_16 : decode cX10_sees 16 = .ok (.iconst 1, 1) := by decide +kernel
theorem dX10_sees_17 : decode cX10_sees 17 = .ok (.goto 4, 3) := by decide +kernel
theorem dX10_sees_20 : decode cX10_sees 20 = .ok (.iconst 0, 1) := by decide +kernel
theorem dX10_sees_21 : decode cX10_sees 21 = .ok (.ireturn, 1) := by decide +kernel
set_option maxRecDepth 100000 in
theorem T_X10_sees_0 {G : GE} {d C S : Nat} {P : KI} : Snd G MX10_sees (d + 1) C S 0 (RI P) (s_aload 0 (s_callV G d MX10_skipBlanks 0 9 (s_aload 0 (s_aload 0 (s_getI 9 2 (s_callV G d MX10_byteAt 1 9 (s_iload 1 (s_ic_ne (s_iconst 0 (s_zreturn P)) (s_iconst 1 (s_zreturn P)))))))))) := (e_aload_n dX10_sees_0 rfl (e_callV cl_9 cal_X10_skipBlanks q_799 q_801 q_13 dX10_sees_1 (e_aload_n dX10_sees_4 rfl (e_aload_n dX10_sees_5 rfl (e_getI rfl cl_9 (by decide) rfl q_151 dX10_sees_6 (e_callV cl_9 cal_X10_byteAt q_811 q_813 q_15 dX10_sees_9 (e_iload_n dX10_sees_12 rfl (e_ic_ne (tgt := 20) dX10_sees_13 (by decide) (e_iconst (v := 0) dX10_sees_20 (by decide) (e_zreturn rfl dX10_sees_21)) (e_iconst (v := 1) dX10_sees_16 (by decide) (e_goto (tgt := 21) dX10_sees_17 (by decide) (e_zreturn rfl dX10_sees_21)))))))))))
set_option maxRecDepth 100000 in
theorem V_X10_sees_0 {G : GE} {d : Nat} {P : KI} {a : Nat → Nat → Int32} {r : Nat → Nat → Value} {N : Nat} {l0 : Nat} {l1 : Int32} (hs : (tyK l0 = (0, 9) ∧ l0 < N ∧ Sp G d 0 0 MX10_skipBlanks [.ref l0] (a, r, N) (RN fun a1 r2 n3 => (tyK l0 = (0, 9) ∧ l0 < n3 ∧ (tyK l0 = (0, 9) ∧ l0 < n3 ∧ Sp G d 0 0 MX10_byteAt [.ref l0, .int (a1 l0 2)] (a1, r2, n3) (RI fun v7 a4 r5 n6 => ((¬ v7 = l1 → (bz 0 ∧ P 0 a4 r5 n6)) ∧ (v7 = l1 → (bz 1 ∧ P 1 a4 r5 n6))))))))) : Sp G (d + 1) 0 0 MX10_sees [.ref l0, .int l1] (a, r, N) (RI P) := Sp.mk (mc := 0) (ms := 0) [.ref l0, .int l1] rfl rfl rfl rfl (T_X10_sees_0 (C := 0) (S := 0) _ _ _ hs)
theorem dX10_seesDigit_0 : decode cX10_seesDigit 0 = .ok (.aload_n 0, 1) := by decide +kernel
theorem dX10_seesDigit_1 : decode cX10_seesDigit 1 = .ok (.invokevirtual 37, 3) := by decide +kernel
theorem dX10_seesDigit_4 : decode cX10_seesDigit 4 = .ok (.aload_n 0, 1) := by decide +kernel
theorem dX10_seesDigit_5 : decode cX10_seesDigit 5 = .ok (.aload_n 0, 1) := by decide +kernel
theorem dX10_seesDigit_6 : decode cX10_seesDigit 6 = .ok (.getfield 28, 3) := by decide +kernel
theorem dX10_seesDigit_9 : decode cX10_seesDigit 9 = .ok (.invokevirtual 40, 3) := by decide +kernel
theorem dX10_seesDigit_12 : decode cX10_seesDigit 12 = .ok (.invokestatic 44, 3) := by decide +kernel
theorem dX10_seesDigit_15 : decode cX10_seesDigit 15 = .ok (.ireturn, 1) := by decide +kernel
set_option maxRecDepth 100000 in
theorem T_X10_seesDigit_0 {G : GE} {d C S : Nat} {P : KI} : Snd G MX10_seesDigit (d + 1) C S 0 (RI P) (s_aload 0 (s_callV G d MX10_skipBlanks 0 9 (s_aload 0 (s_aload 0 (s_getI 9 2 (s_callV G d MX10_byteAt 1 9 (s_call G d MX10_isDigit 1 (s_zreturn P)))))))) := (e_aload_n dX10_seesDigit_0 rfl (e_callV cl_9 cal_X10_skipBlanks q_799 q_801 q_13 dX10_seesDigit_1 (e_aload_n dX10_seesDigit_4 rfl (e_aload_n dX10_seesDigit_5 rfl (e_getI rfl cl_9 (by decide) rfl q_151 dX10_seesDigit_6 (e_callV cl_9 cal_X10_byteAt q_811 q_813 q_15 dX10_seesDigit_9 (e_callS cal_X10_isDigit q_896 q_897 dX10_seesDigit_12 (e_zreturn rfl dX10_seesDigit_15))))))))
set_option maxRecDepth 100000 in
theorem V_X10_seesDigit_0 {G : GE} {d : Nat} {P : KI} {a : Nat → Nat → Int32} {r : Nat → Nat → Value} {N : Nat} {l0 : Nat} (hs : (tyK l0 = (0, 9) ∧ l0 < N ∧ Sp G d 0 0 MX10_skipBlanks [.ref l0] (a, r, N) (RN fun a1 r2 n3 => (tyK l0 = (0, 9) ∧ l0 < n3 ∧ (tyK l0 = (0, 9) ∧ l0 < n3 ∧ Sp G d 0 0 MX10_byteAt [.ref l0, .int (a1 l0 2)] (a1, r2, n3) (RI fun v7 a4 r5 n6 => Sp G d 0 0 MX10_isDigit [.int v7] (a4, r5, n6) (RI fun v11 a8 r9 n10 => (bz v11 ∧ P v11 a8 r9 n10)))))))) : Sp G (d + 1) 0 0 MX10_seesDigit [.ref l0] (a, r, N) (RI P) := Sp.mk (mc := 0) (ms := 0) [.ref l0] rfl rfl rfl rfl (T_X10_seesDigit_0 (C := 0) (S := 0) _ _ _ hs)
theorem dX10_take_0 : decode cX10_take 0 = .ok (.aload_n 0, 1) := by decide +kernel
theorem dX10_take_1 : decode cX10_take 1 = .ok (.invokevirtual 37, 3) := by decide +kernel
theorem dX10_take_4 : decode cX10_take 4 = .ok (.aload_n 0, 1) := by decide +kernel
theorem dX10_take_5 : decode cX10_take 5 = .ok (.aload_n 0, 1) := by decide +kernel
theorem dX10_take_6 : decode cX10_take 6 = .ok (.getfield 28, 3) := by decide +kernel
theorem dX10_take_9 : decode cX10_take 9 = .ok (.invokevirtual 40, 3) := by decide +kernel
theorem dX10_take_12 : decode cX10_take 12 = .ok (.iload_n 1, 1) := by decide +kernel
theorem dX10_take_13 : decode cX10_take 13 = .ok (.if_icmp .eq 9, 3) := by decide +kernel
theorem dX10_take_16 : decode cX10_take 16 = .ok (.aload_n 0, 1) := by decide +kernel
theorem dX10_take_17 : decode cX10_take 17 = .ok (.iconst 1, 1) := by decide +kernel
theorem dX10_take_18 : decode cX10_take 18 = .ok (.invokevirtual 48, 3) := by decide +kernel
theorem dX10_take_21 : decode cX10_take 21 = .ok (.ireturn, 1) := by decide +kernel
theorem dX10_take_22 : decode cX10_take 22 = .ok (.aload_n 0, 1) := by decide +kernel
theorem dX10_take_23 : decode cX10_take 23 = .ok (.dup, 1) := by decide +kernel
theorem dX10_take_24 : decode cX10_take 24 = .ok (.getfield 28, 3) := by decide +kernel
theorem dX10_take_27 : decode cX10_take 27 = .ok (.iconst 1, 1) := by decide +kernel
theorem dX10_take_28 : decode cX10_take 28 = .ok (.iadd, 1) := by decide +kernel
theorem dX10_take_29 : decode cX10_take 29 = .ok (.putfield 28, 3) := by decide +kernel
theorem dX10_take_32 : decode cX10_take 32 = .ok (.iconst 1, 1) := by decide +kernel
theorem dX10_take_33 : decode cX10_take 33 = .ok (.ireturn, 1) := by decide +kernel
set_option maxRecDepth 100000 in
theorem T_X10_take_0 {G : GE} {d C S : Nat} {P : KI} : Snd G MX10_take (d + 1) C S 0 (RI P) (s_aload 0 (s_callV G d MX10_skipBlanks 0 9 (s_aload 0 (s_aload 0 (s_getI 9 2 (s_callV G d MX10_byteAt 1 9 (s_iload 1 (s_ic_eq (s_aload 0 (s_dup (s_getI 9 2 (s_iconst 1 (s_iadd (s_putI 9 2 (s_iconst 1 (s_zreturn P)))))))) (s_aload 0 (s_iconst 1 (s_callV G d MX10_mark 1 9 (s_zreturn P)))))))))))) := (e_aload_n dX10_take_0 rfl (e_callV cl_9 cal_X10_skipBlanks q_799 q_801 q_13 dX10_take_1 (e_aload_n dX10_take_4 rfl (e_aload_n dX10_take_5 rfl (e_getI rfl cl_9 (by decide) rfl q_151 dX10_take_6 (e_callV cl_9 cal_X10_byteAt q_811 q_813 q_15 dX10_take_9 (e_iload_n dX10_take_12 rfl (e_ic_eq (tgt := 22) dX10_take_13 (by decide) (e_aload_n dX10_take_22 rfl (e_dup dX10_take_23 (e_getI rfl cl_9 (by decide) rfl q_151 dX10_take_24 (e_iconst (v := 1) dX10_take_27 (by decide) (e_iadd dX10_take_28 (e_putI rfl cl_9 (by decide) rfl rfl rfl q_151 dX10_take_29 (e_iconst (v := 1) dX10_take_32 (by decide) (e_zreturn rfl dX10_take_33)))))))) (e_aload_n dX10_take_16 rfl (e_iconst (v := 1) dX10_take_17 (by decide) (e_callV cl_9 cal_X10_mark q_900 q_881 q_882 dX10_take_18 (e_zreturn rfl dX10_take_21))))))))))))
set_option maxRecDepth 100000 in
theorem V_X10_take_0 {G : GE} {d : Nat} {P : KI} {a : Nat → Nat → Int32} {r : Nat → Nat → Value} {N : Nat} {l0 : Nat} {l1 : Int32} (hs : (tyK l0 = (0, 9) ∧ l0 < N ∧ Sp G d 0 0 MX10_skipBlanks [.ref l0] (a, r, N) (RN fun a1 r2 n3 => (tyK l0 = (0, 9) ∧ l0 < n3 ∧ (tyK l0 = (0, 9) ∧ l0 < n3 ∧ Sp G d 0 0 MX10_byteAt [.ref l0, .int (a1 l0 2)] (a1, r2, n3) (RI fun v7 a4 r5 n6 => ((v7 = l1 → (tyK l0 = (0, 9) ∧ l0 < n6 ∧ (tyK l0 = (0, 9) ∧ l0 < n6 ∧ ∀ a8, a8 = u2 a4 l0 2 ((a4 l0 2) + 1) → (bz 1 ∧ P 1 a8 r5 n6)))) ∧ (¬ v7 = l1 → (tyK l0 = (0, 9) ∧ l0 < n6 ∧ Sp G d 0 0 MX10_mark [.ref l0, .int 1] (a4, r5, n6) (RI fun v12 a9 r10 n11 => (bz v12 ∧ P v12 a9 r10 n11))))))))))) : Sp G (d + 1) 0 0 MX10_take [.ref l0, .int l1] (a, r, N) (RI P) := Sp.mk (mc := 0) (ms := 0) [.ref l0, .int l1] rfl rfl rfl rfl (T_X10_take_0 (C := 0) (S := 0) _ _ _ hs)
theorem dX10_readNumber_0 : decode cX10_readNumber 0 = .ok (.aload_n 0, 1) := by decide +kernel
theorem dX10_readNumber_1 : decode cX10_readNumber 1 = .ok (.invokevirtual 37, 3) := by decide +kernel
theorem dX10_readNumber_4 : decode cX10_readNumber 4 = .ok (.iconst 0, 1) := by decide +kernel
theorem dX10_readNumber_5 : decode cX10_readNumber 5 = .ok (.istore_n 3, 1) := by decide +kernel
theorem dX10_readNumber_6 : decode cX10_readNumber 6 = .ok (.aload_n 0, 1) := by decide +kernel
theorem dX10_readNumber_7 : decode cX10_readNumber 7 = .ok (.getfield 28, 3) := by decide +kernel
theorem dX10_readNumber_10 : decode cX10_readNumber 10 = .ok (.aload_n 0, 1) := by decide +kernel
theorem dX10_readNumber_11 : decode cX10_readNumber 11 = .ok (.getfield 25, 3) := by decide +kernel
theorem dX10_readNumber_14 : decode cX10_readNumber 14 = .ok (.if_icmp .ge 52, 3) := by decide +kernel
theorem dX10_readNumber_17 : decode cX10_readNumber 17 = .ok (.aload_n 0, 1) := by decide +kernel
theorem dX10_readNumber_18 : decode cX10_readNumber 18 = .ok (.aload_n 0, 1) := by decide +kernel
theorem dX10_readNumber_19 : decode cX10_readNumber 19 = .ok (.getfield 28, 3) := by decide +kernel
theorem dX10_readNumber_22 : decode cX10_readNumber 22 = .ok (.invokevirtual 40, 3) := by decide +kernel
theorem dX10_readNumber_25 : decode cX10_readNumber 25 = .ok (.invokestatic 44, 3) := by decide +kernel
theorem dX10_readNumber_28 : decode cX10_readNumber 28 = .ok (.ifCond .eq 38, 3) := by decide +kernel
theorem dX10_readNumber_31 : decode cX10_readNumber 31 = .ok (.ldc 51, 2) := by decide +kernel
theorem dX10_readNumber_33 : decode cX10_readNumber 33 = .ok (.iload_n 3, 1) := by decide +kernel
theorem dX10_readNumber_34 : decode cX10_readNumber 34 = .ok (.bipush 10, 2) := by decide +kernel
theorem dX10_readNumber_36 : decode cX10_readNumber 36 = .ok (.imul, 1) := by decide +kernel
theorem dX10_readNumber_37 : decode cX10_readNumber 37 = .ok (.aload_n 0, 1) := by decide +kernel
theorem dX10_readNumber_38 : decode cX10_readNumber 38 = .ok (.aload_n 0, 1) := by decide +kernel
theorem dX10_readNumber_39 : decode cX10_readNumber 39 = .ok (.getfield 28, 3) := by decide +kernel
theorem dX10_readNumber_42 : decode cX10_readNumber 42 = .ok (.invokevirtual 40, 3) := by decide +kernel
theorem dX10_readNumber_45 : decode cX10_readNumber 45 = .ok (.iadd, 1) := by decide +kernel
theorem dX10_readNumber_46 : decode cX10_readNumber 46 = .ok (.bipush 48, 2) := by decide +kernel
theorem dX10_readNumber_48 : decode cX10_readNumber 48 = .ok (.isub, 1) := by decide +kernel
theorem dX10_readNumber_49 : decode cX10_readNumber 49 = .ok (.invokestatic 19, 3) := by decide +kernel
theorem dX10_readNumber_52 : decode cX10_readNumber 52 = .ok (.istore_n 3, 1) := by decide +kernel
theorem dX10_readNumber_53 : decode cX10_readNumber 53 = .ok (.aload_n 0, 1) := by decide +kernel
theorem dX10_readNumber_54 : decode cX10_readNumber 54 = .ok (.dup, 1) := by decide +kernel
theorem dX10_readNumber_55 : decode cX10_readNumber 55 = .ok (.getfield 28, 3) := by decide +kernel
theorem dX10_readNumber_58 : decode cX10_readNumber 58 = .ok (.iconst 1, 1) := by decide +kernel
theorem dX10_readNumber_59 : decode cX10_readNumber 59 = .ok (.iadd, 1) := by decide +kernel
theorem dX10_readNumber_60 : decode cX10_readNumber 60 = .ok (.putfield 28, 3) := by decide +kernel
theorem dX10_readNumber_63 : decode cX10_readNumber 63 = .ok (.goto (-57), 3) := by decide +kernel
theorem dX10_readNumber_66 : decode cX10_readNumber 66 = .ok (.aload_n 0, 1) := by decide +kernel
theorem dX10_readNumber_67 : decode cX10_readNumber 67 = .ok (.getfield 28, 3) := by decide +kernel
theorem dX10_readNumber_70 : decode cX10_readNumber 70 = .ok (.aload_n 0, 1) := by decide +kernel
theorem dX10_readNumber_71 : decode cX10_readNumber 71 = .ok (.getfield 31, 3) := by decide +kernel
theorem dX10_readNumber_74 : decode cX10_readNumber 74 = .ok (.if_icmp .ne 11, 3) := by decide +kernel
theorem dX10_readNumber_77 : decode cX10_readNumber 77 = .ok (.aload_n 0, 1) := by decide +kernel
theorem dX10_readNumber_78 : decode cX10_readNumber 78 = .ok (.iconst 1, 1) := by decide +kernel
theorem dX10_readNumber_79 : decode cX10_readNumber 79 = .ok (.invokevirtual 48, 3) := by decide +kernel
theorem dX10_readNumber_82 : decode cX10_readNumber 82 = .ok (.pop, 1) := by decide +kernel
theorem dX10_readNumber_83 : decode cX10_readNumber 83 = .ok (.iconst (-1), 1) := by decide +kernel
theorem dX10_readNumber_84 : decode cX10_readNumber 84 = .ok (.ireturn, 1) := by decide +kernel
theorem dX10_readNumber_85 : decode cX10_readNumber 85 = .ok (.iload_n 3, 1) := by decide +kernel
theorem dX10_readNumber_86 : decode cX10_readNumber 86 = .ok (.iload_n 1, 1) := by decide +kernel
theorem dX10_readNumber_87 : decode cX10_readNumber 87 = .ok (.if_icmp .lt 8, 3) := by decide +kernel
theorem dX10_readNumber_90 : decode cX10_readNumber 90 = .ok (.iload_n 3, 1) := by decide +kernel
theorem dX10_readNumber_91 : decode cX10_readNumber 91 = .ok (.iload_n 2, 1) := by decide +kernel
theorem dX10_readNumber_92 : decode cX10_readNumber 92 = .ok (.if_icmp .le 11, 3) := by decide +kernel
theorem dX10_readNumber_95 : decode cX10_readNumber 95 = .ok (.aload_n 0, 1) := by decide +kernel
theorem dX10_readNumber_96 : decode cX10_readNumber 96 = .ok (.iconst 2, 1) := by decide +kernel
theorem dX10_readNumber_97 : decode cX10_readNumber 97 = .ok (.invokevirtual 48, 3) := by decide +kernel
theorem dX10_readNumber_100 : decode cX10_readNumber 100 = .ok (.pop, 1) := by decide +kernel
theorem dX10_readNumber_101 : decode cX10_readNumber 101 = .ok (.iconst (-1), 1) := by decide +kernel
theorem dX10_readNumber_102 : decode cX10_readNumber 102 = .ok (.ireturn, 1) := by decide +kernel
theorem dX10_readNumber_103 : decode cX10_readNumber 103 = .ok (.iload_n 3, 1) := by decide +kernel
theorem dX10_readNumber_104 : decode cX10_readNumber 104 = .ok (.ireturn, 1) := by decide +kernel
set_option maxRecDepth 100000 in
theorem T_X10_readNumber_0 {G : GE} {d C S : Nat} {P : KI} : Snd G MX10_readNumber (d + 1) C S 0 (RI P) (s_aload 0 (s_callV G d MX10_skipBlanks 0 9 (s_iconst 0 (s_istore 3 (fun L st h => E G MX10_readNumber (d + 1) C S 6 (msk [true, true, true, true] L) st h (RI P)))))) := (e_aload_n dX10_readNumber_0 rfl (e_callV cl_9 cal_X10_skipBlanks q_799 q_801 q_13 dX10_readNumber_1 (e_iconst (v := 0) dX10_readNumber_4 (by decide) (e_istore_n dX10_readNumber_5 rfl (by decide) (e_msk [true, true, true, true])))))
set_option maxRecDepth 100000 in
theorem V_X10_readNumber_0 {G : GE} {d : Nat} {P : KI} {a : Nat → Nat → Int32} {r : Nat → Nat → Value} {N : Nat} {l0 : Nat} {l1 : Int32} {l2 : Int32} (hs : (tyK l0 = (0, 9) ∧ l0 < N ∧ Sp G d 0 0 MX10_skipBlanks [.ref l0] (a, r, N) (RN fun a1 r2 n3 => E G MX10_readNumber (d + 1) 0 0 6 [.ref l0, .int l1, .int l2, .int 0] [] (a1, r2, n3) (RI P)))) : Sp G (d + 1) 0 0 MX10_readNumber [.ref l0, .int l1, .int l2] (a, r, N) (RI P) := Sp.mk (mc := 0) (ms := 0) [.ref l0, .int l1, .int l2, .null] rfl rfl rfl rfl (T_X10_readNumber_0 (C := 0) (S := 0) _ _ _ hs)
set_option maxRecDepth 100000 in
theorem T_X10_readNumber_6 {G : GE} {d C S : Nat} {P : KI} : Snd G MX10_readNumber (d + 1) C S 6 (RI P) (s_aload 0 (s_getI 9 2 (s_aload 0 (s_getI 9 1 (s_ic_ge (fun L st h => E G MX10_readNumber (d + 1) C S 66 (msk [true, true, true, true] L) st h (RI P)) (s_aload 0 (s_aload 0 (s_getI 9 2 (s_callV G d MX10_byteAt 1 9 (s_call G d MX10_isDigit 1 (s_if_eq (fun L st h => E G MX10_readNumber (d + 1) C S 66 (msk [true, true, true, true] L) st h (RI P)) (s_iconst 100000 (s_iload 3 (s_iconst 10 (s_imul (s_aload 0 (s_aload 0 (s_getI 9 2 (s_callV G d MX10_byteAt 1 9 (s_iadd (s_iconst 48 (s_isub (s_min (s_istore 3 (s_aload 0 (s_dup (s_getI 9 2 (s_iconst 1 (s_iadd (s_putI 9 2 (fun L st h => E G MX10_readNumber (d + 1) C S 6 (msk [true, true, true, true] L) st h (RI P)))))))))))))))))))))))))))))))) := (e_aload_n dX10_readNumber_6 rfl (e_getI rfl cl_9 (by decide) rfl q_151 dX10_readNumber_7 (e_aload_n dX10_readNumber_10 rfl (e_getI rfl cl_9 (by decide) rfl q_150 dX10_readNumber_11 (e_ic_ge (tgt := 66) dX10_readNumber_14 (by decide) (e_msk [true, true, true, true]) (e_aload_n dX10_readNumber_17 rfl (e_aload_n dX10_readNumber_18 rfl (e_getI rfl cl_9 (by decide) rfl q_151 dX10_readNumber_19 (e_callV cl_9 cal_X10_byteAt q_811 q_813 q_15 dX10_readNumber_22 (e_callS cal_X10_isDigit q_896 q_897 dX10_readNumber_25 (e_if_eq (tgt := 66) dX10_readNumber_28 (by decide) (e_msk [true, true, true, true]) (e_ldc q_899 dX10_readNumber_31 (e_iload_n dX10_readNumber_33 rfl (e_bipush (v := 10) dX10_readNumber_34 (by decide) (e_imul dX10_readNumber_36 (e_aload_n dX10_readNumber_37 rfl (e_aload_n dX10_readNumber_38 rfl (e_getI rfl cl_9 (by decide) rfl q_151 dX10_readNumber_39 (e_callV cl_9 cal_X10_byteAt q_811 q_813 q_15 dX10_readNumber_42 (e_iadd dX10_readNumber_45 (e_bipush (v := 48) dX10_readNumber_46 (by decide) (e_isub dX10_readNumber_48 (e_min q_790 q_552 q_127 q_553 dX10_readNumber_49 (e_istore_n dX10_readNumber_52 rfl (by decide) (e_aload_n dX10_readNumber_53 rfl (e_dup dX10_readNumber_54 (e_getI rfl cl_9 (by decide) rfl q_151 dX10_readNumber_55 (e_iconst (v := 1) dX10_readNumber_58 (by decide) (e_iadd dX10_readNumber_59 (e_putI rfl cl_9 (by decide) rfl rfl rfl q_151 dX10_readNumber_60 (e_goto (tgt := 6) dX10_readNumber_63 (by decide) (e_msk [true, true, true, true]))))))))))))))))))))))))))))))))
set_option maxRecDepth 100000 in
theorem V_X10_readNumber_6 {G : GE} {d C S : Nat} {P : KI} {a : Nat → Nat → Int32} {r : Nat → Nat → Value} {N : Nat} {l0 : Nat} {l1 : Int32} {l2 : Int32} {l3 : Int32} (hs : (tyK l0 = (0, 9) ∧ l0 < N ∧ (tyK l0 = (0, 9) ∧ l0 < N ∧ (((a l0 1) ≤ (a l0 2) → E G MX10_readNumber (d + 1) C S 66 [.ref l0, .int l1, .int l2, .int l3] [] (a, r, N) (RI P)) ∧ (¬ (a l0 1) ≤ (a l0 2) → (tyK l0 = (0, 9) ∧ l0 < N ∧ (tyK l0 = (0, 9) ∧ l0 < N ∧ Sp G d 0 0 MX10_byteAt [.ref l0, .int (a l0 2)] (a, r, N) (RI fun v4 a1 r2 n3 => Sp G d 0 0 MX10_isDigit [.int v4] (a1, r2, n3) (RI fun v8 a5 r6 n7 => ((v8 = 0 → E G MX10_readNumber (d + 1) C S 66 [.ref l0, .int l1, .int l2, .int l3] [] (a5, r6, n7) (RI P)) ∧ (¬ v8 = 0 → (tyK l0 = (0, 9) ∧ l0 < n7 ∧ (tyK l0 = (0, 9) ∧ l0 < n7 ∧ Sp G d 0 0 MX10_byteAt [.ref l0, .int (a5 l0 2)] (a5, r6, n7) (RI fun v12 a9 r10 n11 => (tyK l0 = (0, 9) ∧ l0 < n11 ∧ (tyK l0 = (0, 9) ∧ l0 < n11 ∧ ∀ a13, a13 = u2 a9 l0 2 ((a9 l0 2) + 1) → E G MX10_readNumber (d + 1) C S 6 [.ref l0, .int l1, .int l2, .int (if (((l3 * 10) + v12) - 48) < (100000 : Int32) then (((l3 * 10) + v12) - 48) else 100000)] [] (a13, r10, n11) (RI P))))))))))))))))) : E G MX10_readNumber (d + 1) C S 6 [.ref l0, .int l1, .int l2, .int l3] [] (a, r, N) (RI P) := T_X10_readNumber_6 _ _ _ hs
set_option maxRecDepth 100000 in
theorem T_X10_readNumber_66 {G : GE} {d C S : Nat} {P : KI} : Snd G MX10_readNumber (d + 1) C S 66 (RI P) (s_aload 0 (s_getI 9 2 (s_aload 0 (s_getI 9 3 (s_ic_ne (s_iload 3 (s_iload 1 (s_ic_lt (s_aload 0 (s_iconst 2 (s_callV G d MX10_mark 1 9 (s_pop (s_iconst (-1) (s_ireturn P)))))) (s_iload 3 (s_iload 2 (s_ic_le (s_iload 3 (s_ireturn P)) (s_aload 0 (s_iconst 2 (s_callV G d MX10_mark 1 9 (s_pop (s_iconst (-1) (s_ireturn P)))))))))))) (s_aload 0 (s_iconst 1 (s_callV G d MX10_mark 1 9 (s_pop (s_iconst (-1) (s_ireturn P))))))))))) := (e_aload_n dX10_readNumber_66 rfl (e_getI rfl cl_9 (by decide) rfl q_151 dX10_readNumber_67 (e_aload_n dX10_readNumber_70 rfl (e_getI rfl cl_9 (by decide) rfl q_152 dX10_readNumber_71 (e_ic_ne (tgt := 85) dX10_readNumber_74 (by decide) (e_iload_n dX10_readNumber_85 rfl (e_iload_n dX10_readNumber_86 rfl (e_ic_lt (tgt := 95) dX10_readNumber_87 (by decide) (e_aload_n dX10_readNumber_95 rfl (e_iconst (v := 2) dX10_readNumber_96 (by decide) (e_callV cl_9 cal_X10_mark q_900 q_881 q_882 dX10_readNumber_97 (e_pop dX10_readNumber_100 (e_iconst (v := (-1)) dX10_readNumber_101 (by decide) (e_ireturn rfl dX10_readNumber_102)))))) (e_iload_n dX10_readNumber_90 rfl (e_iload_n dX10_readNumber_91 rfl (e_ic_le (tgt := 103) dX10_readNumber_92 (by decide) (e_iload_n dX10_readNumber_103 rfl (e_ireturn rfl dX10_readNumber_104)) (e_aload_n dX10_readNumber_95 rfl (e_iconst (v := 2) dX10_readNumber_96 (by decide) (e_callV cl_9 cal_X10_mark q_900 q_881 q_882 dX10_readNumber_97 (e_pop dX10_readNumber_100 (e_iconst (v := (-1)) dX10_readNumber_101 (by decide) (e_ireturn rfl dX10_readNumber_102)))))))))))) (e_aload_n dX10_readNumber_77 rfl (e_iconst (v := 1) dX10_readNumber_78 (by decide) (e_callV cl_9 cal_X10_mark q_900 q_881 q_882 dX10_readNumber_79 (e_pop dX10_readNumber_82 (e_iconst (v := (-1)) dX10_readNumber_83 (by decide) (e_ireturn rfl dX10_readNumber_84)))))))))))
set_option maxRecDepth 100000 in
theorem V_X10_readNumber_66 {G : GE} {d C S : Nat} {P : KI} {a : Nat → Nat → Int32} {r : Nat → Nat → Value} {N : Nat} {l0 : Nat} {l1 : Int32} {l2 : Int32} {l3 : Int32} (hs : (tyK l0 = (0, 9) ∧ l0 < N ∧ (tyK l0 = (0, 9) ∧ l0 < N ∧ ((¬ (a l0 2) = (a l0 3) → ((l3 < l1 → (tyK l0 = (0, 9) ∧ l0 < N ∧ Sp G d 0 0 MX10_mark [.ref l0, .int 2] (a, r, N) (RI fun v4 a1 r2 n3 => P (-1) a1 r2 n3))) ∧ (¬ l3 < l1 → ((l3 ≤ l2 → P l3 a r N) ∧ (¬ l3 ≤ l2 → (tyK l0 = (0, 9) ∧ l0 < N ∧ Sp G d 0 0 MX10_mark [.ref l0, .int 2] (a, r, N) (RI fun v8 a5 r6 n7 => P (-1) a5 r6 n7))))))) ∧ ((a l0 2) = (a l0 3) → (tyK l0 = (0, 9) ∧ l0 < N ∧ Sp G d 0 0 MX10_mark [.ref l0, .int 1] (a, r, N) (RI fun v12 a9 r10 n11 => P (-1) a9 r10 n11))))))) : E G MX10_readNumber (d + 1) C S 66 [.ref l0, .int l1, .int l2, .int l3] [] (a, r, N) (RI P) := T_X10_readNumber_66 _ _ _ hs
theorem dX10_readWord_0 : decode cX10_readWord 0 = .ok (.aload_n 0, 1) := by decide +kernel
theorem dX10_readWord_1 : decode cX10_readWord 1 = .ok (.invokevirtual 37, 3) := by decide +kernel
theorem dX10_readWord_4 : decode cX10_readWord 4 = .ok (.aload_n 0, 1) := by decide +kernel
theorem dX10_readWord_5 : decode cX10_readWord 5 = .ok (.getfield 28, 3) := by decide +kernel
theorem dX10_readWord_8 : decode cX10_readWord 8 = .ok (.aload_n 0, 1) := by decide +kernel
theorem dX10_readWord_9 : decode cX10_readWord 9 = .ok (.getfield 25, 3) := by decide +kernel
theorem dX10_readWord_12 : decode cX10_readWord 12 = .ok (.if_icmp .ge 30, 3) := by decide +kernel
theorem dX10_readWord_15 : decode cX10_readWord 15 = .ok (.aload_n 0, 1) := by decide +kernel
theorem dX10_readWord_16 : decode cX10_readWord 16 = .ok (.aload_n 0, 1) := by decide +kernel
theorem dX10_readWord_17 : decode cX10_readWord 17 = .ok (.getfield 28, 3) := by decide +kernel
theorem dX10_readWord_20 : decode cX10_readWord 20 = .ok (.invokevirtual 40, 3) := by decide +kernel
theorem dX10_readWord_23 : decode cX10_readWord 23 = .ok (.invokestatic 52, 3) := by decide +kernel
theorem dX10_readWord_26 : decode cX10_readWord 26 = .ok (.ifCond .eq 16, 3) := by decide +kernel
theorem dX10_readWord_29 : decode cX10_readWord 29 = .ok (.aload_n 0, 1) := by decide +kernel
theorem dX10_readWord_30 : decode cX10_readWord 30 = .ok (.dup, 1) := by decide +kernel
theorem dX10_readWord_31 : decode cX10_readWord 31 = .ok (.getfield 28, 3) := by decide +kernel
theorem dX10_readWord_34 : decode cX10_readWord 34 = .ok (.iconst 1, 1) := by decide +kernel
theorem dX10_readWord_35 : decode cX10_readWord 35 = .ok (.iadd, 1) := by decide +kernel
theorem dX10_readWord_36 : decode cX10_readWord 36 = .ok (.putfield 28, 3) := by decide +kernel
theorem dX10_readWord_39 : decode cX10_readWord 39 = .ok (.goto (-35), 3) := by decide +kernel
theorem dX10_readWord_42 : decode cX10_readWord 42 = .ok (.return_, 1) := by decide +kernel
set_option maxRecDepth 100000 in
theorem T_X10_readWord_0 {G : GE} {d C S : Nat} {P : KN} : Snd G MX10_readWord (d + 1) C S 0 (RN P) (s_aload 0 (s_callV G d MX10_skipBlanks 0 9 (fun L st h => E G MX10_readWord (d + 1) C S 4 (msk [true] L) st h (RN P)))) := (e_aload_n dX10_readWord_0 rfl (e_callV cl_9 cal_X10_skipBlanks q_799 q_801 q_13 dX10_readWord_1 (e_msk [true])))
set_option maxRecDepth 100000 in
theorem V_X10_readWord_0 {G : GE} {d : Nat} {P : KN} {a : Nat → Nat → Int32} {r : Nat → Nat → Value} {N : Nat} {l0 : Nat} (hs : (tyK l0 = (0, 9) ∧ l0 < N ∧ Sp G d 0 0 MX10_skipBlanks [.ref l0] (a, r, N) (RN fun a1 r2 n3 => E G MX10_readWord (d + 1) 0 0 4 [.ref l0] [] (a1, r2, n3) (RN P)))) : Sp G (d + 1) 0 0 MX10_readWord [.ref l0] (a, r, N) (RN P) := Sp.mk (mc := 0) (ms := 0) [.ref l0] rfl rfl rfl rfl (T_X10_readWord_0 (C := 0) (S := 0) _ _ _ hs)
set_option maxRecDepth 100000 in
theorem T_X10_readWord_4 {G : GE} {d C S : Nat} {P : KN} : Snd G MX10_readWord (d + 1) C S 4 (RN P) (s_aload 0 (s_getI 9 2 (s_aload 0 (s_getI 9 1 (s_ic_ge (s_return P) (s_aload 0 (s_aload 0 (s_getI 9 2 (s_callV G d MX10_byteAt 1 9 (s_call G d MX10_isLetter 1 (s_if_eq (s_return P) (s_aload 0 (s_dup (s_getI 9 2 (s_iconst 1 (s_iadd (s_putI 9 2 (fun L st h => E G MX10_readWord (d + 1) C S 4 (msk [true] L) st h (RN P))))))))))))))))))) := (e_aload_n dX10_readWord_4 rfl (e_getI rfl cl_9 (by decide) rfl q_151 dX10_readWord_5 (e_aload_n dX10_readWord_8 rfl (e_getI rfl cl_9 (by decide) rfl q_150 dX10_readWord_9 (e_ic_ge (tgt := 42) dX10_readWord_12 (by decide) (e_return rfl dX10_readWord_42) (e_aload_n dX10_readWord_15 rfl (e_aload_n dX10_readWord_16 rfl (e_getI rfl cl_9 (by decide) rfl q_151 dX10_readWord_17 (e_callV cl_9 cal_X10_byteAt q_811 q_813 q_15 dX10_readWord_20 (e_callS cal_X10_isLetter q_815 q_816 dX10_readWord_23 (e_if_eq (tgt := 42) dX10_readWord_26 (by decide) (e_return rfl dX10_readWord_42) (e_aload_n dX10_readWord_29 rfl (e_dup dX10_readWord_30 (e_getI rfl cl_9 (by decide) rfl q_151 dX10_readWord_31 (e_iconst (v := 1) dX10_readWord_34 (by decide) (e_iadd dX10_readWord_35 (e_putI rfl cl_9 (by decide) rfl rfl rfl q_151 dX10_readWord_36 (e_goto (tgt := 4) dX10_readWord_39 (by decide) (e_msk [true])))))))))))))))))))
set_option maxRecDepth 100000 in
theorem V_X10_readWord_4 {G : GE} {d C S : Nat} {P : KN} {a : Nat → Nat → Int32} {r : Nat → Nat → Value} {N : Nat} {l0 : Nat} (hs : (tyK l0 = (0, 9) ∧ l0 < N ∧ (tyK l0 = (0, 9) ∧ l0 < N ∧ (((a l0 1) ≤ (a l0 2) → P a r N) ∧ (¬ (a l0 1) ≤ (a l0 2) → (tyK l0 = (0, 9) ∧ l0 < N ∧ (tyK l0 = (0, 9) ∧ l0 < N ∧ Sp G d 0 0 MX10_byteAt [.ref l0, .int (a l0 2)] (a, r, N) (RI fun v4 a1 r2 n3 => Sp G d 0 0 MX10_isLetter [.int v4] (a1, r2, n3) (RI fun v8 a5 r6 n7 => ((v8 = 0 → P a5 r6 n7) ∧ (¬ v8 = 0 → (tyK l0 = (0, 9) ∧ l0 < n7 ∧ (tyK l0 = (0, 9) ∧ l0 < n7 ∧ ∀ a9, a9 = u2 a5 l0 2 ((a5 l0 2) + 1) → E G MX10_readWord (d + 1) C S 4 [.ref l0] [] (a9, r6, n7) (RN P)))))))))))))) : E G MX10_readWord (d + 1) C S 4 [.ref l0] [] (a, r, N) (RN P) := T_X10_readWord_4 _ _ _ hs
theorem dX10_wordIs_0 : decode cX10_wordIs 0 = .ok (.aload_n 1, 1) := by decide +kernel
theorem dX10_wordIs_1 : decode cX10_wordIs 1 = .ok (.invokevirtual 55, 3) := by decide +kernel
theorem dX10_wordIs_4 : decode cX10_wordIs 4 = .ok (.aload_n 0, 1) := by decide +kernel
theorem dX10_wordIs_5 : decode cX10_wordIs 5 = .ok (.getfield 28, 3) := by decide +kernel
theorem dX10_wordIs_8 : decode cX10_wordIs 8 = .ok (.aload_n 0, 1) := by decide +kernel
theorem dX10_wordIs_9 : decode cX10_wordIs 9 = .ok (.getfield 31, 3) := by decide +kernel
theorem dX10_wordIs_12 : decode cX10_wordIs 12 = .ok (.isub, 1) := by decide +kernel
theorem dX10_wordIs_13 : decode cX10_wordIs 13 = .ok (.if_icmp .eq 5, 3) := by decide +kernel
theorem dX10_wordIs_16 : decode cX10_wordIs 16 = .ok (.iconst 0, 1) := by decide +kernel
theorem dX10_wordIs_17 : decode cX10_wordIs 17 = .ok (.ireturn, 1) := by decide +kernel
theorem dX10_wordIs_18 : decode cX10_wordIs 18 = .ok (.iconst 0, 1) := by decide +kernel
theorem dX10_wordIs_19 : decode cX10_wordIs 19 = .ok (.istore_n 2, 1) := by decide +kernel
theorem dX10_wordIs_20 : decode cX10_wordIs 20 = .ok (.iload_n 2, 1) := by decide +kernel
theorem dX10_wordIs_21 : decode cX10_wordIs 21 = .ok (.aload_n 1, 1) := by decide +kernel
theorem dX10_wordIs_22 : decode cX10_wordIs 22 = .ok (.invokevirtual 55, 3) := by decide +kernel
theorem dX10_wordIs_25 : decode cX10_wordIs 25 = .ok (.if_icmp .ge 29, 3) := by decide +kernel
theorem dX10_wordIs_28 : decode cX10_wordIs 28 = .ok (.aload_n 1, 1) := by decide +kernel
theorem dX10_wordIs_29 : decode cX10_wordIs 29 = .ok (.iload_n 2, 1) := by decide +kernel
theorem dX10_wordIs_30 : decode cX10_wordIs 30 = .ok (.invokevirtual 60, 3) := by decide +kernel
theorem dX10_wordIs_33 : decode cX10_wordIs 33 = .ok (.aload_n 0, 1) := by decide +kernel
theorem dX10_wordIs_34 : decode cX10_wordIs 34 = .ok (.aload_n 0, 1) := by decide +kernel
theorem dX10_wordIs_35 : decode cX10_wordIs 35 = .ok (.getfield 31, 3) := by decide +kernel
theorem dX10_wordIs_38 : decode cX10_wordIs 38 = .ok (.iload_n 2, 1) := by decide +kernel
theorem dX10_wordIs_39 : decode cX10_wordIs 39 = .ok (.iadd, 1) := by decide +kernel
theorem dX10_wordIs_40 : decode cX10_wordIs 40 = .ok (.invokevirtual 40, 3) := by decide +kernel
theorem dX10_wordIs_43 : decode cX10_wordIs 43 = .ok (.if_icmp .eq 5, 3) := by decide +kernel
theorem dX10_wordIs_46 : decode cX10_wordIs 46 = .ok (.iconst 0, 1) := by decide +kernel
theorem dX10_wordIs_47 : decode cX10_wordIs 47 = .ok (.ireturn, 1) := by decide +kernel
theorem dX10_wordIs_48 : decode cX10_wordIs 48 = .ok (.iinc 2 1, 3) := by decide +kernel
theorem dX10_wordIs_51 : decode cX10_wordIs 51 = .ok (.goto (-31), 3) := by decide +kernel
theorem dX10_wordIs_54 : decode cX10_wordIs 54 = .ok (.iconst 1, 1) := by decide +kernel
theorem dX10_wordIs_55 : decode cX10_wordIs 55 = .ok (.ireturn, 1) := by decide +kernel
set_option maxRecDepth 100000 in
theorem T_X10_wordIs_0 {G : GE} {d C S : Nat} {P : KI} : Snd G MX10_wordIs (d + 1) C S 0 (RI P) (s_aload 1 (s_callT G d MJ0_length_8abf5 0 (s_aload 0 (s_getI 9 2 (s_aload 0 (s_getI 9 3 (s_isub (s_ic_eq (s_iconst 0 (s_istore 2 (fun L st h => E G MX10_wordIs (d + 1) C S 20 (msk [true, true, true] L) st h (RI P)))) (s_iconst 0 (s_zreturn P)))))))))) := (e_aload_n dX10_wordIs_0 rfl (e_callT rfl cal_J0_length_8abf5 q_826 q_827 q_828 dX10_wordIs_1 (e_aload_n dX10_wordIs_4 rfl (e_getI rfl cl_9 (by decide) rfl q_151 dX10_wordIs_5 (e_aload_n dX10_wordIs_8 rfl (e_getI rfl cl_9 (by decide) rfl q_152 dX10_wordIs_9 (e_isub dX10_wordIs_12 (e_ic_eq (tgt := 18) dX10_wordIs_13 (by decide) (e_iconst (v := 0) dX10_wordIs_18 (by decide) (e_istore_n dX10_wordIs_19 rfl (by decide) (e_msk [true, true, true]))) (e_iconst (v := 0) dX10_wordIs_16 (by decide) (e_zreturn rfl dX10_wordIs_17))))))))))
set_option maxRecDepth 100000 in
theorem V_X10_wordIs_0 {G : GE} {d : Nat} {P : KI} {a : Nat → Nat → Int32} {r : Nat → Nat → Value} {N : Nat} {l0 : Nat} {l1 : UInt32} (hs : (1 ≤ (l1 : UInt32).toNat ∧ (l1 : UInt32).toNat ≤ strN ∧ Sp G d 0 0 MJ0_length_8abf5 [.float l1] (a, r, N) (RI fun v4 a1 r2 n3 => (tyK l0 = (0, 9) ∧ l0 < n3 ∧ (tyK l0 = (0, 9) ∧ l0 < n3 ∧ ((v4 = ((a1 l0 2) - (a1 l0 3)) → E G MX10_wordIs (d + 1) 0 0 20 [.ref l0, .float l1, .int 0] [] (a1, r2, n3) (RI P)) ∧ (¬ v4 = ((a1 l0 2) - (a1 l0 3)) → (bz 0 ∧ P 0 a1 r2 n3)))))))) : Sp G (d + 1) 0 0 MX10_wordIs [.ref l0, .float l1] (a, r, N) (RI P) := Sp.mk (mc := 0) (ms := 0) [.ref l0, .float l1, .null] rfl rfl rfl rfl (T_X10_wordIs_0 (C := 0) (S := 0) _ _ _ hs)
set_option maxRecDepth 100000 in
theorem T_X10_wordIs_20 {G : GE} {d C S : Nat} {P : KI} : Snd G MX10_wordIs (d + 1) C S 20 (RI P) (s_iload 2 (s_aload 1 (s_callT G d MJ0_length_8abf5 0 (s_ic_ge (s_iconst 1 (s_zreturn P)) (s_aload 1 (s_iload 2 (s_callT G d MJ0_charAt_5068e 1 (s_aload 0 (s_aload 0 (s_getI 9 3 (s_iload 2 (s_iadd (s_callV G d MX10_byteAt 1 9 (s_ic_eq (s_iinc 2 1 (fun L st h => E G MX10_wordIs (d + 1) C S 20 (msk [true, true, true] L) st h (RI P))) (s_iconst 0 (s_zreturn P)))))))))))))))) := (e_iload_n dX10_wordIs_20 rfl (e_aload_n dX10_wordIs_21 rfl (e_callT rfl cal_J0_length_8abf5 q_826 q_827 q_828 dX10_wordIs_22 (e_ic_ge (tgt := 54) dX10_wordIs_25 (by decide) (e_iconst (v := 1) dX10_wordIs_54 (by decide) (e_zreturn rfl dX10_wordIs_55)) (e_aload_n dX10_wordIs_28 rfl (e_iload_n dX10_wordIs_29 rfl (e_callT rfl cal_J0_charAt_5068e q_836 q_837 q_838 dX10_wordIs_30 (e_aload_n dX10_wordIs_33 rfl (e_aload_n dX10_wordIs_34 rfl (e_getI rfl cl_9 (by decide) rfl q_152 dX10_wordIs_35 (e_iload_n dX10_wordIs_38 rfl (e_iadd dX10_wordIs_39 (e_callV cl_9 cal_X10_byteAt q_811 q_813 q_15 dX10_wordIs_40 (e_ic_eq (tgt := 48) dX10_wordIs_43 (by decide) (e_iinc (v := 1) dX10_wordIs_48 (by decide) (by decide) (e_goto (tgt := 20) dX10_wordIs_51 (by decide) (e_msk [true, true, true]))) (e_iconst (v := 0) dX10_wordIs_46 (by decide) (e_zreturn rfl dX10_wordIs_47))))))))))))))))
set_option maxRecDepth 100000 in
theorem V_X10_wordIs_20 {G : GE} {d C S : Nat} {P : KI} {a : Nat → Nat → Int32} {r : Nat → Nat → Value} {N : Nat} {l0 : Nat} {l1 : UInt32} {l2 : Int32} (hs : (1 ≤ (l1 : UInt32).toNat ∧ (l1 : UInt32).toNat ≤ strN ∧ Sp G d 0 0 MJ0_length_8abf5 [.float l1] (a, r, N) (RI fun v4 a1 r2 n3 => ((v4 ≤ l2 → (bz 1 ∧ P 1 a1 r2 n3)) ∧ (¬ v4 ≤ l2 → (1 ≤ (l1 : UInt32).toNat ∧ (l1 : UInt32).toNat ≤ strN ∧ Sp G d 0 0 MJ0_charAt_5068e [.float l1, .int l2] (a1, r2, n3) (RI fun v8 a5 r6 n7 => (tyK l0 = (0, 9) ∧ l0 < n7 ∧ (tyK l0 = (0, 9) ∧ l0 < n7 ∧ Sp G d 0 0 MX10_byteAt [.ref l0, .int ((a5 l0 3) + l2)] (a5, r6, n7) (RI fun v12 a9 r10 n11 => ((v8 = v12 → E G MX10_wordIs (d + 1) C S 20 [.ref l0, .float l1, .int (l2 + 1)] [] (a9, r10, n11) (RI P)) ∧ (¬ v8 = v12 → (bz 0 ∧ P 0 a9 r10 n11))))))))))))) : E G MX10_wordIs (d + 1) C S 20 [.ref l0, .float l1, .int l2] [] (a, r, N) (RI P) := T_X10_wordIs_20 _ _ _ hs
theorem dX10_skipBlanks_0 : decode cX10_skipBlanks 0 = .ok (.aload_n 0, 1) := by decide +kernel
theorem dX10_skipBlanks_1 : decode cX10_skipBlanks 1 = .ok (.getfield 28, 3) := by decide +kernel
theorem dX10_skipBlanks_4 : decode cX10_skipBlanks 4 = .ok (.aload_n 0, 1) := by decide +kernel
theorem dX10_skipBlanks_5 : decode cX10_skipBlanks 5 = .ok (.getfield 25, 3) := by decide +kernel
theorem dX10_skipBlanks_8 : decode cX10_skipBlanks 8 = .ok (.if_icmp .ge 42, 3) := by decide +kernel
theorem dX10_skipBlanks_11 : decode cX10_skipBlanks 11 = .ok (.aload_n 0, 1) := by decide +kernel
theorem dX10_skipBlanks_12 : decode cX10_skipBlanks 12 = .ok (.getfield 28, 3) := by decide +kernel
theorem dX10_skipBlanks_15 : decode cX10_skipBlanks 15 = .ok (.aload_n 0, 1) := by decide +kernel
theorem dX10_skipBlanks_16 : decode cX10_skipBlanks 16 = .ok (.getfield 9, 3) := by decide +kernel
theorem dX10_skipBlanks_19 : decode cX10_skipBlanks 19 = .ok (.arraylength, 1) := by decide +kernel
theorem dX10_skipBlanks_20 : decode cX10_skipBlanks 20 = .ok (.if_icmp .ge 30, 3) := by decide +kernel
theorem dX10_skipBlanks_23 : decode cX10_skipBlanks 23 = .ok (.aload_n 0, 1) := by decide +kernel
theorem dX10_skipBlanks_24 : decode cX10_skipBlanks 24 = .ok (.getfield 9, 3) := by decide +kernel
theorem dX10_skipBlanks_27 : decode cX10_skipBlanks 27 = .ok (.aload_n 0, 1) := by decide +kernel
theorem dX10_skipBlanks_28 : decode cX10_skipBlanks 28 = .ok (.getfield 28, 3) := by decide +kernel
theorem dX10_skipBlanks_31 : decode cX10_skipBlanks 31 = .ok (.baload, 1) := by decide +kernel
theorem dX10_skipBlanks_32 : decode cX10_skipBlanks 32 = .ok (.bipush 32, 2) := by decide +kernel
theorem dX10_skipBlanks_34 : decode cX10_skipBlanks 34 = .ok (.if_icmp .ne 16, 3) := by decide +kernel
theorem dX10_skipBlanks_37 : decode cX10_skipBlanks 37 = .ok (.aload_n 0, 1) := by decide +kernel
theorem dX10_skipBlanks_38 : decode cX10_skipBlanks 38 = .ok (.dup, 1) := by decide +kernel
theorem dX10_skipBlanks_39 : decode cX10_skipBlanks 39 = .ok (.getfield 28, 3) := by decide +kernel
theorem dX10_skipBlanks_42 : decode cX10_skipBlanks 42 = .ok (.iconst 1, 1) := by decide +kernel
theorem dX10_skipBlanks_43 : decode cX10_skipBlanks 43 = .ok (.iadd, 1) := by decide +kernel
theorem dX10_skipBlanks_44 : decode cX10_skipBlanks 44 = .ok (.putfield 28, 3) := by decide +kernel
theorem dX10_skipBlanks_47 : decode cX10_skipBlanks 47 = .ok (.goto (-47), 3) := by decide +kernel
theorem dX10_skipBlanks_50 : decode cX10_skipBlanks 50 = .ok (.aload_n 0, 1) := by decide +kernel
theorem dX10_skipBlanks_51 : decode cX10_skipBlanks 51 = .ok (.aload_n 0, 1) := by decide +kernel
theorem dX10_skipBlanks_52 : decode cX10_skipBlanks 52 = .ok (.getfield 28, 3) := by decide +kernel
theorem dX10_skipBlanks_55 : decode cX10_skipBlanks 55 = .ok (.putfield 31, 3) := by decide +kernel
theorem dX10_skipBlanks_58 : decode cX10_skipBlanks 58 = .ok (.return_, 1) := by decide +kernel
set_option maxRecDepth 100000 in
theorem T_X10_skipBlanks_0 {G : GE} {d C S : Nat} {P : KN} : Snd G MX10_skipBlanks d C S 0 (RN P) (s_aload 0 (s_getI 9 2 (s_aload 0 (s_getI 9 1 (s_ic_ge (s_aload 0 (s_aload 0 (s_getI 9 2 (s_putI 9 3 (s_return P))))) (s_aload 0 (s_getI 9 2 (s_aload 0 (s_getR 9 0 (s_alen (s_ic_ge (s_aload 0 (s_aload 0 (s_getI 9 2 (s_putI 9 3 (s_return P))))) (s_aload 0 (s_getR 9 0 (s_aload 0 (s_getI 9 2 (s_baload (s_iconst 32 (s_ic_ne (s_aload 0 (s_aload 0 (s_getI 9 2 (s_putI 9 3 (s_return P))))) (s_aload 0 (s_dup (s_getI 9 2 (s_iconst 1 (s_iadd (s_putI 9 2 (fun L st h => E G MX10_skipBlanks d C S 0 (msk [true] L) st h (RN P)))))))))))))))))))))))))) := (e_aload_n dX10_skipBlanks_0 rfl (e_getI rfl cl_9 (by decide) rfl q_151 dX10_skipBlanks_1 (e_aload_n dX10_skipBlanks_4 rfl (e_getI rfl cl_9 (by decide) rfl q_150 dX10_skipBlanks_5 (e_ic_ge (tgt := 50) dX10_skipBlanks_8 (by decide) (e_aload_n dX10_skipBlanks_50 rfl (e_aload_n dX10_skipBlanks_51 rfl (e_getI rfl cl_9 (by decide) rfl q_151 dX10_skipBlanks_52 (e_putI rfl cl_9 (by decide) rfl rfl rfl q_152 dX10_skipBlanks_55 (e_return rfl dX10_skipBlanks_58))))) (e_aload_n dX10_skipBlanks_11 rfl (e_getI rfl cl_9 (by decide) rfl q_151 dX10_skipBlanks_12 (e_aload_n dX10_skipBlanks_15 rfl (e_getR rfl cl_9 (by decide) rfl q_149 dX10_skipBlanks_16 (e_alen dX10_skipBlanks_19 (e_ic_ge (tgt := 50) dX10_skipBlanks_20 (by decide) (e_aload_n dX10_skipBlanks_50 rfl (e_aload_n dX10_skipBlanks_51 rfl (e_getI rfl cl_9 (by decide) rfl q_151 dX10_skipBlanks_52 (e_putI rfl cl_9 (by decide) rfl rfl rfl q_152 dX10_skipBlanks_55 (e_return rfl dX10_skipBlanks_58))))) (e_aload_n dX10_skipBlanks_23 rfl (e_getR rfl cl_9 (by decide) rfl q_149 dX10_skipBlanks_24 (e_aload_n dX10_skipBlanks_27 rfl (e_getI rfl cl_9 (by decide) rfl q_151 dX10_skipBlanks_28 (e_baload dX10_skipBlanks_31 (e_bipush (v := 32) dX10_skipBlanks_32 (by decide) (e_ic_ne (tgt := 50) dX10_skipBlanks_34 (by decide) (e_aload_n dX10_skipBlanks_50 rfl (e_aload_n dX10_skipBlanks_51 rfl (e_getI rfl cl_9 (by decide) rfl q_151 dX10_skipBlanks_52 (e_putI rfl cl_9 (by decide) rfl rfl rfl q_152 dX10_skipBlanks_55 (e_return rfl dX10_skipBlanks_58))))) (e_aload_n dX10_skipBlanks_37 rfl (e_dup dX10_skipBlanks_38 (e_getI rfl cl_9 (by decide) rfl q_151 dX10_skipBlanks_39 (e_iconst (v := 1) dX10_skipBlanks_42 (by decide) (e_iadd dX10_skipBlanks_43 (e_putI rfl cl_9 (by decide) rfl rfl rfl q_151 dX10_skipBlanks_44 (e_goto (tgt := 0) dX10_skipBlanks_47 (by decide) (e_msk [true]))))))))))))))))))))))))))
set_option maxRecDepth 100000 in
theorem V_X10_skipBlanks_0 {G : GE} {d : Nat} {P : KN} {a : Nat → Nat → Int32} {r : Nat → Nat → Value} {N : Nat} {l0 : Nat} (hs : (tyK l0 = (0, 9) ∧ l0 < N ∧ (tyK l0 = (0, 9) ∧ l0 < N ∧ (((a l0 1) ≤ (a l0 2) → (tyK l0 = (0, 9) ∧ l0 < N ∧ (tyK l0 = (0, 9) ∧ l0 < N ∧ ∀ a1, a1 = u2 a l0 3 (a l0 2) → P a1 r N))) ∧ (¬ (a l0 1) ≤ (a l0 2) → (tyK l0 = (0, 9) ∧ l0 < N ∧ (tyK l0 = (0, 9) ∧ l0 < N ∧ ∃ q2, r l0 0 = .ref q2 ∧ (((tyK q2).1 = 1 ∨ (tyK q2).1 = 2) ∧ q2 < N ∧ (((Int32.ofNat (tyK q2).2) ≤ (a l0 2) → (tyK l0 = (0, 9) ∧ l0 < N ∧ (tyK l0 = (0, 9) ∧ l0 < N ∧ ∀ a3, a3 = u2 a l0 3 (a l0 2) → P a3 r N))) ∧ (¬ (Int32.ofNat (tyK q2).2) ≤ (a l0 2) → (tyK l0 = (0, 9) ∧ l0 < N ∧ ∃ q4, r l0 0 = .ref q4 ∧ (tyK l0 = (0, 9) ∧ l0 < N ∧ ((tyK q4).1 = 2 ∧ q4 < N ∧ vp_in (a l0 2) (tyK q4).2 ∧ ((¬ (a q4 ((a l0 2) : Int32).toNatClampNeg) = 32 → (tyK l0 = (0, 9) ∧ l0 < N ∧ (tyK l0 = (0, 9) ∧ l0 < N ∧ ∀ a5, a5 = u2 a l0 3 (a l0 2) → P a5 r N))) ∧ ((a q4 ((a l0 2) : Int32).toNatClampNeg) = 32 → (tyK l0 = (0, 9) ∧ l0 < N ∧ (tyK l0 = (0, 9) ∧ l0 < N ∧ ∀ a6, a6 = u2 a l0 2 ((a l0 2) + 1) → E G MX10_skipBlanks d 0 0 0 [.ref l0] [] (a6, r, N) (RN P)))))))))))))))))) : Sp G d 0 0 MX10_skipBlanks [.ref l0] (a, r, N) (RN P) := Sp.mk (mc := 0) (ms := 0) [.ref l0] rfl rfl rfl rfl (T_X10_skipBlanks_0 (C := 0) (S := 0) _ _ _ hs)
theorem dX10_byteAt_0 : decode cX10_byteAt 0 = .ok (.iload_n 1, 1) := by decide +kernel
theorem dX10_byteAt_1 : decode cX10_byteAt 1 = .ok (.ifCond .lt 33, 3) := by decide +kernel
theorem dX10_byteAt_4 : decode cX10_byteAt 4 = .ok (.iload_n 1, 1) := by decide +kernel
theorem dX10_byteAt_5 : decode cX10_byteAt 5 = .ok (.aload_n 0, 1) := by decide +kernel
theorem dX10_byteAt_6 : decode cX10_byteAt 6 = .ok (.getfield 25, 3) := by decide +kernel
theorem dX10_byteAt_9 : decode cX10_byteAt 9 = .ok (.if_icmp .ge 25, 3) := by decide +kernel
theorem dX10_byteAt_12 : decode cX10_byteAt 12 = .ok (.iload_n 1, 1) := by decide +kernel
theorem dX10_byteAt_13 : decode cX10_byteAt 13 = .ok (.aload_n 0, 1) := by decide +kernel
theorem dX10_byteAt_14 : decode cX10_byteAt 14 = .ok (.getfield 9, 3) := by decide +kernel
theorem dX10_byteAt_17 : decode cX10_byteAt 17 = .ok (.arraylength, 1) := by decide +kernel
theorem dX10_byteAt_18 : decode cX10_byteAt 18 = .ok (.if_icmp .ge 16, 3) := by decide +kernel
theorem dX10_byteAt_21 : decode cX10_byteAt 21 = .ok (.aload_n 0, 1) := by decide +kernel
theorem dX10_byteAt_22 : decode cX10_byteAt 22 = .ok (.getfield 9, 3) := by decide +kernel
theorem dX10_byteAt_25 : decode cX10_byteAt 25 = .ok (.iload_n 1, 1) := by decide +kernel
theorem dX10_byteAt_26 : decode cX10_byteAt 26 = .ok (.baload, 1) := by decide +kernel
theorem dX10_byteAt_27 : decode cX10_byteAt 27 = .ok (.sipush 255, 3) := by decide +kernel
theorem dX10_byteAt_30 : decode cX10_byteAt 30 = .ok (.iand, 1) := by decide +kernel
theorem dX10_byteAt_31 : decode cX10_byteAt 31 = .ok (.goto 4, 3) := by decide +kernel
theorem dX10_byteAt_34 : decode cX10_byteAt 34 = .ok (.iconst (-1), 1) := by decide +kernel
theorem dX10_byteAt_35 : decode cX10_byteAt 35 = .ok (.ireturn, 1) := by decide +kernel
set_option maxRecDepth 100000 in
theorem T_X10_byteAt_0 {G : GE} {d C S : Nat} {P : KI} : Snd G MX10_byteAt d C S 0 (RI P) (s_iload 1 (s_if_lt (s_iconst (-1) (s_ireturn P)) (s_iload 1 (s_aload 0 (s_getI 9 1 (s_ic_ge (s_iconst (-1) (s_ireturn P)) (s_iload 1 (s_aload 0 (s_getR 9 0 (s_alen (s_ic_ge (s_iconst (-1) (s_ireturn P)) (s_aload 0 (s_getR 9 0 (s_iload 1 (s_baload (s_iconst 255 (s_iand (s_ireturn P)))))))))))))))))) := (e_iload_n dX10_byteAt_0 rfl (e_if_lt (tgt := 34) dX10_byteAt_1 (by decide) (e_iconst (v := (-1)) dX10_byteAt_34 (by decide) (e_ireturn rfl dX10_byteAt_35)) (e_iload_n dX10_byteAt_4 rfl (e_aload_n dX10_byteAt_5 rfl (e_getI rfl cl_9 (by decide) rfl q_150 dX10_byteAt_6 (e_ic_ge (tgt := 34) dX10_byteAt_9 (by decide) (e_iconst (v := (-1)) dX10_byteAt_34 (by decide) (e_ireturn rfl dX10_byteAt_35)) (e_iload_n dX10_byteAt_12 rfl (e_aload_n dX10_byteAt_13 rfl (e_getR rfl cl_9 (by decide) rfl q_149 dX10_byteAt_14 (e_alen dX10_byteAt_17 (e_ic_ge (tgt := 34) dX10_byteAt_18 (by decide) (e_iconst (v := (-1)) dX10_byteAt_34 (by decide) (e_ireturn rfl dX10_byteAt_35)) (e_aload_n dX10_byteAt_21 rfl (e_getR rfl cl_9 (by decide) rfl q_149 dX10_byteAt_22 (e_iload_n dX10_byteAt_25 rfl (e_baload dX10_byteAt_26 (e_sipush (v := 255) dX10_byteAt_27 (by decide) (e_iand dX10_byteAt_30 (e_goto (tgt := 35) dX10_byteAt_31 (by decide) (e_ireturn rfl dX10_byteAt_35)))))))))))))))))))
set_option maxRecDepth 100000 in
theorem V_X10_byteAt_0 {G : GE} {d : Nat} {P : KI} {a : Nat → Nat → Int32} {r : Nat → Nat → Value} {N : Nat} {l0 : Nat} {l1 : Int32} (hs : ((l1 < 0 → P (-1) a r N) ∧ (¬ l1 < 0 → (tyK l0 = (0, 9) ∧ l0 < N ∧ (((a l0 1) ≤ l1 → P (-1) a r N) ∧ (¬ (a l0 1) ≤ l1 → (tyK l0 = (0, 9) ∧ l0 < N ∧ ∃ q1, r l0 0 = .ref q1 ∧ (((tyK q1).1 = 1 ∨ (tyK q1).1 = 2) ∧ q1 < N ∧ (((Int32.ofNat (tyK q1).2) ≤ l1 → P (-1) a r N) ∧ (¬ (Int32.ofNat (tyK q1).2) ≤ l1 → (tyK l0 = (0, 9) ∧ l0 < N ∧ ∃ q2, r l0 0 = .ref q2 ∧ ((tyK q2).1 = 2 ∧ q2 < N ∧ vp_in l1 (tyK q2).2 ∧ P ((a q2 (l1 : Int32).toNatClampNeg) &&& 255) a r N)))))))))))) : Sp G d 0 0 MX10_byteAt [.ref l0, .int l1] (a, r, N) (RI P) := Sp.mk (mc := 0) (ms := 0) [.ref l0, .int l1] rfl rfl rfl rfl (T_X10_byteAt_0 (C := 0) (S := 0) _ _ _ hs)
theorem dX10_isDigit_0 : decode cX10_isDigit 0 = .ok (.iload_n 0, 1) := by decide +kernel
theorem dX10_isDigit_1 : decode cX10_isDigit 1 = .ok (.bipush 48, 2) := by decide +kernel
theorem dX10_isDigit_3 : decode cX10_isDigit 3 = .ok (.if_icmp .lt 13, 3) := by decide +kernel
theorem dX10_isDigit_6 : decode cX10_isDigit 6 = .ok (.iload_n 0, 1) := by decide +kernel
theorem dX10_isDigit_7 : decode cX10_isDigit 7 = .ok (.bipush 57, 2) := by decide +kernel
theorem dX10_isDigit_9 : decode cX10_isDigit 9 = .ok (.if_icmp .gt 7, 3) := by decide +kernel
theorem dX10_isDigit_12 : decode cX10_isDigit 12 = .ok (.iconst 1, 1) := by decide +kernel
theorem dX10_isDigit_13 : decode cX10_isDigit 13 = .ok (.goto 4, 3) := by decide +kernel
theorem dX10_isDigit_16 : decode cX10_isDigit 16 = .ok (.iconst 0, 1) := by decide +kernel
theorem dX10_isDigit_17 : decode cX10_isDigit 17 = .ok (.ireturn, 1) := by decide +kernel
set_option maxRecDepth 100000 in
theorem T_X10_isDigit_0 {G : GE} {d C S : Nat} {P : KI} : Snd G MX10_isDigit d C S 0 (RI P) (s_iload 0 (s_iconst 48 (s_ic_lt (s_iconst 0 (s_zreturn P)) (s_iload 0 (s_iconst 57 (s_ic_gt (s_iconst 0 (s_zreturn P)) (s_iconst 1 (s_zreturn P)))))))) := (e_iload_n dX10_isDigit_0 rfl (e_bipush (v := 48) dX10_isDigit_1 (by decide) (e_ic_lt (tgt := 16) dX10_isDigit_3 (by decide) (e_iconst (v := 0) dX10_isDigit_16 (by decide) (e_zreturn rfl dX10_isDigit_17)) (e_iload_n dX10_isDigit_6 rfl (e_bipush (v := 57) dX10_isDigit_7 (by decide) (e_ic_gt (tgt := 16) dX10_isDigit_9 (by decide) (e_iconst (v := 0) dX10_isDigit_16 (by decide) (e_zreturn rfl dX10_isDigit_17)) (e_iconst (v := 1) dX10_isDigit_12 (by decide) (e_goto (tgt := 17) dX10_isDigit_13 (by decide) (e_zreturn rfl dX10_isDigit_17)))))))))
set_option maxRecDepth 100000 in
theorem V_X10_isDigit_0 {G : GE} {d : Nat} {P : KI} {a : Nat → Nat → Int32} {r : Nat → Nat → Value} {N : Nat} {l0 : Int32} (hs : ((l0 < 48 → (bz 0 ∧ P 0 a r N)) ∧ (¬ l0 < 48 → ((57 < l0 → (bz 0 ∧ P 0 a r N)) ∧ (¬ 57 < l0 → (bz 1 ∧ P 1 a r N)))))) : Sp G d 0 0 MX10_isDigit [.int l0] (a, r, N) (RI P) := Sp.mk (mc := 0) (ms := 0) [.int l0] rfl rfl rfl rfl (T_X10_isDigit_0 (C := 0) (S := 0) _ _ _ hs)
theorem dX10_isLetter_0 : decode cX10_isLetter 0 = .ok (.iload_n 0, 1) := by decide +kernel
theorem dX10_isLetter_1 : decode cX10_isLetter 1 = .ok (.bipush 97, 2) := by decide +kernel
theorem dX10_isLetter_3 : decode cX10_isLetter 3 = .ok (.if_icmp .lt 13, 3) := by decide +kernel
theorem dX10_isLetter_6 : decode cX10_isLetter 6 = .ok (.iload_n 0, 1) := by decide +kernel
theorem dX10_isLetter_7 : decode cX10_isLetter 7 = .ok (.bipush 122, 2) := by decide +kernel
theorem dX10_isLetter_9 : decode cX10_isLetter 9 = .ok (.if_icmp .gt 7, 3) := by decide +kernel
theorem dX10_isLetter_12 : decode cX10_isLetter 12 = .ok (.iconst 1, 1) := by decide +kernel
theorem dX10_isLetter_13 : decode cX10_isLetter 13 = .ok (.goto 4, 3) := by decide +kernel
theorem dX10_isLetter_16 : decode cX10_isLetter 16 = .ok (.iconst 0, 1) := by decide +kernel
theorem dX10_isLetter_17 : decode cX10_isLetter 17 = .ok (.ireturn, 1) := by decide +kernel
set_option maxRecDepth 100000 in
theorem T_X10_isLetter_0 {G : GE} {d C S : Nat} {P : KI} : Snd G MX10_isLetter d C S 0 (RI P) (s_iload 0 (s_iconst 97 (s_ic_lt (s_iconst 0 (s_zreturn P)) (s_iload 0 (s_iconst 122 (s_ic_gt (s_iconst 0 (s_zreturn P)) (s_iconst 1 (s_zreturn P)))))))) := (e_iload_n dX10_isLetter_0 rfl (e_bipush (v := 97) dX10_isLetter_1 (by decide) (e_ic_lt (tgt := 16) dX10_isLetter_3 (by decide) (e_iconst (v := 0) dX10_isLetter_16 (by decide) (e_zreturn rfl dX10_isLetter_17)) (e_iload_n dX10_isLetter_6 rfl (e_bipush (v := 122) dX10_isLetter_7 (by decide) (e_ic_gt (tgt := 16) dX10_isLetter_9 (by decide) (e_iconst (v := 0) dX10_isLetter_16 (by decide) (e_zreturn rfl dX10_isLetter_17)) (e_iconst (v := 1) dX10_isLetter_12 (by decide) (e_goto (tgt := 17) dX10_isLetter_13 (by decide) (e_zreturn rfl dX10_isLetter_17)))))))))
set_option maxRecDepth 100000 in
theorem V_X10_isLetter_0 {G : GE} {d : Nat} {P : KI} {a : Nat → Nat → Int32} {r : Nat → Nat → Value} {N : Nat} {l0 : Int32} (hs : ((l0 < 97 → (bz 0 ∧ P 0 a r N)) ∧ (¬ l0 < 97 → ((122 < l0 → (bz 0 ∧ P 0 a r N)) ∧ (¬ 122 < l0 → (bz 1 ∧ P 1 a r N)))))) : Sp G d 0 0 MX10_isLetter [.int l0] (a, r, N) (RI P) := Sp.mk (mc := 0) (ms := 0) [.int l0] rfl rfl rfl rfl (T_X10_isLetter_0 (C := 0) (S := 0) _ _ _ hs)
