theorem dX9_at_0 : decode cX9_at 0 = .ok (.iload_n 1, 1) := by decide +kernel
theorem dX9_at_1 : decode cX9_at 1 = .ok (.ifCond .lt 15, 3) := by decide +kernel
theorem dX9_at_4 : decode cX9_at 4 = .ok (.iload_n 1, 1) := by decide +kernel
theorem dX9_at_5 : decode cX9_at 5 = .ok (.aload_n 0, 1) := by decide +kernel
theorem dX9_at_6 : decode cX9_at 6 = .ok (.arraylength, 1) := by decide +kernel
theorem dX9_at_7 : decode cX9_at 7 = .ok (.if_icmp .ge 9, 3) := by decide +kernel
theorem dX9_at_10 : decode cX9_at 10 = .ok (.aload_n 0, 1) := by decide +kernel
theorem dX9_at_11 : decode cX9_at 11 = .ok (.iload_n 1, 1) := by decide +kernel
theorem dX9_at_12 : decode cX9_at 12 = .ok (.iaload, 1) := by decide +kernel
theorem dX9_at_13 : decode cX9_at 13 = .ok (.goto 4, 3) := by decide +kernel
theorem dX9_at_16 : decode cX9_at 16 = .ok (.iconst 0, 1) := by decide +kernel
theorem dX9_at_17 : decode cX9_at 17 = .ok (.ireturn, 1) := by decide +kernel
set_option maxRecDepth 100000 in
theorem T_X9_at_0 {G : GE} {d C S : Nat} {P : KI} : Snd G MX9_at d C S 0 (RI P) (s_iload 1 (s_if_lt (s_iconst 0 (s_ireturn P)) (s_iload 1 (s_aload 0 (s_alen (s_ic_ge (s_iconst 0 (s_ireturn P)) (s_aload 0 (s_iload 1 (s_iaload (s_ireturn P)))))))))) := (e_iload_n dX9_at_0 rfl (e_if_lt (tgt := 16) dX9_at_1 (by decide) (e_iconst (v := 0) dX9_at_16 (by decide) (e_ireturn rfl dX9_at_17)) (e_iload_n dX9_at_4 rfl (e_aload_n dX9_at_5 rfl (e_alen dX9_at_6 (e_ic_ge (tgt := 16) dX9_at_7 (by decide) (e_iconst (v := 0) dX9_at_16 (by decide) (e_ireturn rfl dX9_at_17)) (e_aload_n dX9_at_10 rfl (e_iload_n dX9_at_11 rfl (e_iaload dX9_at_12 (e_goto (tgt := 17) dX9_at_13 (by decide) (e_ireturn rfl dX9_at_17)))))))))))
set_option maxRecDepth 100000 in
theorem V_X9_at_0 {G : GE} {d : Nat} {P : KI} {a : Nat → Nat → Int32} {r : Nat → Nat → Value} {N : Nat} {l0 : Nat} {l1 : Int32} (hs : ((l1 < 0 → P 0 a r N) ∧ (¬ l1 < 0 → (((tyK l0).1 = 1 ∨ (tyK l0).1 = 2) ∧ l0 < N ∧ (((Int32.ofNat (tyK l0).2) ≤ l1 → P 0 a r N) ∧ (¬ (Int32.ofNat (tyK l0).2) ≤ l1 → ((tyK l0).1 = 1 ∧ l0 < N ∧ vp_in l1 (tyK l0).2 ∧ P (a l0 (l1 : Int32).toNatClampNeg) a r N))))))) : Sp G d 0 0 MX9_at [.ref l0, .int l1] (a, r, N) (RI P) := Sp.mk (mc := 0) (ms := 0) [.ref l0, .int l1] rfl rfl rfl rfl (T_X9_at_0 (C := 0) (S := 0) _ _ _ hs)
theorem dX9_put_0 : decode cX9_put 0 = .ok (.iload_n 1, 1) := by decide +kernel
theorem dX9_put_1 : decode cX9_put 1 = .ok (.ifCond .lt 13, 3) := by decide +kernel
theorem dX9_put_4 : decode cX9_put 4 = .ok (.iload_n 1, 1) := by decide +kernel
theorem dX9_put_5 : decode cX9_put 5 = .ok (.aload_n 0, 1) := by decide +kernel
theorem dX9_put_6 : decode cX9_put 6 = .ok (.arraylength, 1) := by decide +kernel
theorem dX9_put_7 : decode cX9_put 7 = .ok (.if_icmp .ge 7, 3) := by decide +kernel
theorem dX9_put_10 : decode cX9_put 10 = .ok (.aload_n 0, 1) := by decide +kernel
theorem dX9_put_11 : decode cX9_put 11 = .ok (.iload_n 1, 1) := by decide +kernel
theorem dX9_put_12 : decode cX9_put 12 = .ok (.iload_n 2, 1) := by decide +kernel
theorem dX9_put_13 : decode cX9_put 13 = .ok (.iastore, 1) := by decide +kernel
theorem dX9_put_14 : decode cX9_put 14 = .ok (.return_, 1) := by decide +kernel
set_option maxRecDepth 100000 in
theorem T_X9_put_0 {G : GE} {d C S : Nat} {P : KN} : Snd G MX9_put d C S 0 (RN P) (s_iload 1 (s_if_lt (s_return P) (s_iload 1 (s_aload 0 (s_alen (s_ic_ge (s_return P) (s_aload 0 (s_iload 1 (s_iload 2 (s_iastore (s_return P))))))))))) := (e_iload_n dX9_put_0 rfl (e_if_lt (tgt := 14) dX9_put_1 (by decide) (e_return rfl dX9_put_14) (e_iload_n dX9_put_4 rfl (e_aload_n dX9_put_5 rfl (e_alen dX9_put_6 (e_ic_ge (tgt := 14) dX9_put_7 (by decide) (e_return rfl dX9_put_14) (e_aload_n dX9_put_10 rfl (e_iload_n dX9_put_11 rfl (e_iload_n dX9_put_12 rfl (e_iastore dX9_put_13 (e_return rfl dX9_put_14)))))))))))
set_option maxRecDepth 100000 in
theorem V_X9_put_0 {G : GE} {d : Nat} {P : KN} {a : Nat → Nat → Int32} {r : Nat → Nat → Value} {N : Nat} {l0 : Nat} {l1 : Int32} {l2 : Int32} (hs : ((l1 < 0 → P a r N) ∧ (¬ l1 < 0 → (((tyK l0).1 = 1 ∨ (tyK l0).1 = 2) ∧ l0 < N ∧ (((Int32.ofNat (tyK l0).2) ≤ l1 → P a r N) ∧ (¬ (Int32.ofNat (tyK l0).2) ≤ l1 → ((tyK l0).1 = 1 ∧ l0 < N ∧ vp_in l1 (tyK l0).2 ∧ ∀ a1, a1 = u2 a l0 (l1 : Int32).toNatClampNeg l2 → P a1 r N))))))) : Sp G d 0 0 MX9_put [.ref l0, .int l1, .int l2] (a, r, N) (RN P) := Sp.mk (mc := 0) (ms := 0) [.ref l0, .int l1, .int l2] rfl rfl rfl rfl (T_X9_put_0 (C := 0) (S := 0) _ _ _ hs)
theorem dX9_fill_0 : decode cX9_fill 0 = .ok (.iconst 0, 1) := by decide +kernel
theorem dX9_fill_1 : decode cX9_fill 1 = .ok (.istore_n 2, 1) := by decide +kernel
theorem dX9_fill_2 : decode cX9_fill 2 = .ok (.iload_n 2, 1) := by decide +kernel
theorem dX9_fill_3 : decode cX9_fill 3 = .ok (.aload_n 0, 1) := by decide +kernel
theorem dX9_fill_4 : decode cX9_fill 4 = .ok (.arraylength, 1) := by decide +kernel
theorem dX9_fill_5 : decode cX9_fill 5 = .ok (.if_icmp .ge 13, 3) := by decide +kernel
theorem dX9_fill_8 : decode cX9_fill 8 = .ok (.aload_n 0, 1) := by decide +kernel
theorem dX9_fill_9 : decode cX9_fill 9 = .ok (.iload_n 2, 1) := by decide +kernel
theorem dX9_fill_10 : decode cX9_fill 10 = .ok (.iload_n 1, 1) := by decide +kernel
theorem dX9_fill_11 : decode cX9_fill 11 = .ok (.iastore, 1) := by decide +kernel
theorem dX9_fill_12 : decode cX9_fill 12 = .ok (.iinc 2 1, 3) := by decide +kernel
theorem dX9_fill_15 : decode cX9_fill 15 = .ok (.goto (-13), 3) := by decide +kernel
theorem dX9_fill_18 : decode cX9_fill 18 = .ok (.return_, 1) := by decide +kernel
set_option maxRecDepth 100000 in
theorem T_X9_fill_0 {G : GE} {d C S : Nat} {P : KN} : Snd G MX9_fill d C S 0 (RN P) (s_iconst 0 (s_istore 2 (fun L st h => E G MX9_fill d C S 2 (msk [true, true, true] L) st h (RN P)))) := (e_iconst (v := 0) dX9_fill_0 (by decide) (e_istore_n dX9_fill_1 rfl (by decide) (e_msk [true, true, true])))
set_option maxRecDepth 100000 in
theorem V_X9_fill_0 {G : GE} {d : Nat} {P : KN} {a : Nat → Nat → Int32} {r : Nat → Nat → Value} {N : Nat} {l0 : Nat} {l1 : Int32} (hs : E G MX9_fill d 0 0 2 [.ref l0, .int l1, .int 0] [] (a, r, N) (RN P)) : Sp G d 0 0 MX9_fill [.ref l0, .int l1] (a, r, N) (RN P) := Sp.mk (mc := 0) (ms := 0) [.ref l0, .int l1, .null] rfl rfl rfl rfl (T_X9_fill_0 (C := 0) (S := 0) _ _ _ hs)
set_option maxRecDepth 100000 in
theorem T_X9_fill_2 {G : GE} {d C S : Nat} {P : KN} : Snd G MX9_fill d C S 2 (RN P) (s_iload 2 (s_aload 0 (s_alen (s_ic_ge (s_return P) (s_aload 0 (s_iload 2 (s_iload 1 (s_iastore (s_iinc 2 1 (fun L st h => E G MX9_fill d C S 2 (msk [true, true, true] L) st h (RN P))))))))))) := (e_iload_n dX9_fill_2 rfl (e_aload_n dX9_fill_3 rfl (e_alen dX9_fill_4 (e_ic_ge (tgt := 18) dX9_fill_5 (by decide) (e_return rfl dX9_fill_18) (e_aload_n dX9_fill_8 rfl (e_iload_n dX9_fill_9 rfl (e_iload_n dX9_fill_10 rfl (e_iastore dX9_fill_11 (e_iinc (v := 1) dX9_fill_12 (by decide) (by decide) (e_goto (tgt := 2) dX9_fill_15 (by decide) (e_msk [true, true, true])))))))))))
set_option maxRecDepth 100000 in
theorem V_X9_fill_2 {G : GE} {d C S : Nat} {P : KN} {a : Nat → Nat → Int32} {r : Nat → Nat → Value} {N : Nat} {l0 : Nat} {l1 : Int32} {l2 : Int32} (hs : (((tyK l0).1 = 1 ∨ (tyK l0).1 = 2) ∧ l0 < N ∧ (((Int32.ofNat (tyK l0).2) ≤ l2 → P a r N) ∧ (¬ (Int32.ofNat (tyK l0).2) ≤ l2 → ((tyK l0).1 = 1 ∧ l0 < N ∧ vp_in l2 (tyK l0).2 ∧ ∀ a1, a1 = u2 a l0 (l2 : Int32).toNatClampNeg l1 → E G MX9_fill d C S 2 [.ref l0, .int l1, .int (l2 + 1)] [] (a1, r, N) (RN P)))))) : E G MX9_fill d C S 2 [.ref l0, .int l1, .int l2] [] (a, r, N) (RN P) := T_X9_fill_2 _ _ _ hs
theorem dX9_copy_0 : decode cX9_copy 0 = .ok (.iconst 0, 1) := by decide +kernel
theorem dX9_copy_1 : decode cX9_copy 1 = .ok (.istore 5, 2) := by decide +kernel
theorem dX9_copy_3 : decode cX9_copy 3 = .ok (.iload 5, 2) := by decide +kernel
theorem dX9_copy_5 : decode cX9_copy 5 = .ok (.iload 4, 2) := by decide +kernel
theorem dX9_copy_7 : decode cX9_copy 7 = .ok (.if_icmp .ge 25, 3) := by decide +kernel
theorem dX9_copy_10 : decode cX9_copy 10 = .ok (.aload_n 2, 1) := by decide +kernel
theorem dX9_copy_11 : decode cX9_copy 11 = .ok (.iload_n 3, 1) := by decide +kernel
theorem dX9_copy_12 : decode cX9_copy 12 = .ok (.iload 5, 2) := by decide +kernel
theorem dX9_copy_14 : decode cX9_copy 14 = .ok (.iadd, 1) := by decide +kernel
theorem dX9_copy_15 : decode cX9_copy 15 = .ok (.aload_n 0, 1) := by decide +kernel
theorem dX9_copy_16 : decode cX9_copy 16 = .ok (.iload_n 1, 1) := by decide +kernel
theorem dX9_copy_17 : decode cX9_copy 17 = .ok (.iload 5, 2) := by decide +kernel
theorem dX9_copy_19 : decode cX9_copy 19 = .ok (.iadd, 1) := by decide +kernel
theorem dX9_copy_20 : decode cX9_copy 20 = .ok (.invokestatic 7, 3) := by decide +kernel
theorem dX9_copy_23 : decode cX9_copy 23 = .ok (.invokestatic 13, 3) := by decide +kernel
theorem dX9_copy_26 : decode cX9_copy 26 = .ok (.iinc 5 1, 3) := by decide +kernel
theorem dX9_copy_29 : decode cX9_copy 29 = .ok (.goto (-26), 3) := by decide +kernel
theorem dX9_copy_32 : decode cX9_copy 32 = .ok (.return_, 1) := by decide +kernel
set_option maxRecDepth 100000 in
theorem T_X9_copy_0 {G : GE} {d C S : Nat} {P : KN} : Snd G MX9_copy (d + 1) C S 0 (RN P) (s_iconst 0 (s_istore 5 (fun L st h => E G MX9_copy (d + 1) C S 3 (msk [true, true, true, true, true, true] L) st h (RN P)))) := (e_iconst (v := 0) dX9_copy_0 (by decide) (e_istore dX9_copy_1 (by decide) (e_msk [true, true, true, true, true, true])))
set_option maxRecDepth 100000 in
theorem V_X9_copy_0 {G : GE} {d : Nat} {P : KN} {a : Nat → Nat → Int32} {r : Nat → Nat → Value} {N : Nat} {l0 : Nat} {l1 : Int32} {l2 : Nat} {l3 : Int32} {l4 : Int32} (hs : E G MX9_copy (d + 1) 0 0 3 [.ref l0, .int l1, .ref l2, .int l3, .int l4, .int 0] [] (a, r, N) (RN P)) : Sp G (d + 1) 0 0 MX9_copy [.ref l0, .int l1, .ref l2, .int l3, .int l4] (a, r, N) (RN P) := Sp.mk (mc := 0) (ms := 0) [.ref l0, .int l1, .ref l2, .int l3, .int l4, .null] rfl rfl rfl rfl (T_X9_copy_0 (C := 0) (S := 0) _ _ _ hs)
set_option maxRecDepth 100000 in
theorem T_X9_copy_3 {G : GE} {d C S : Nat} {P : KN} : Snd G MX9_copy (d + 1) C S 3 (RN P) (s_iload 5 (s_iload 4 (s_ic_ge (s_return P) (s_aload 2 (s_iload 3 (s_iload 5 (s_iadd (s_aload 0 (s_iload 1 (s_iload 5 (s_iadd (s_call G d MX9_at 2 (s_call G d MX9_put 3 (s_iinc 5 1 (fun L st h => E G MX9_copy (d + 1) C S 3 (msk [true, true, true, true, true, true] L) st h (RN P)))))))))))))))) := (e_iload dX9_copy_3 (e_iload dX9_copy_5 (e_ic_ge (tgt := 32) dX9_copy_7 (by decide) (e_return rfl dX9_copy_32) (e_aload_n dX9_copy_10 rfl (e_iload_n dX9_copy_11 rfl (e_iload dX9_copy_12 (e_iadd dX9_copy_14 (e_aload_n dX9_copy_15 rfl (e_iload_n dX9_copy_16 rfl (e_iload dX9_copy_17 (e_iadd dX9_copy_19 (e_callS cal_X9_at q_516 q_426 dX9_copy_20 (e_callS cal_X9_put q_517 q_419 dX9_copy_23 (e_iinc (v := 1) dX9_copy_26 (by decide) (by decide) (e_goto (tgt := 3) dX9_copy_29 (by decide) (e_msk [true, true, true, true, true, true]))))))))))))))))
set_option maxRecDepth 100000 in
theorem V_X9_copy_3 {G : GE} {d C S : Nat} {P : KN} {a : Nat → Nat → Int32} {r : Nat → Nat → Value} {N : Nat} {l0 : Nat} {l1 : Int32} {l2 : Nat} {l3 : Int32} {l4 : Int32} {l5 : Int32} (hs : ((l4 ≤ l5 → P a r N) ∧ (¬ l4 ≤ l5 → Sp G d 0 0 MX9_at [.ref l0, .int (l1 + l5)] (a, r, N) (RI fun v4 a1 r2 n3 => Sp G d 0 0 MX9_put [.ref l2, .int (l3 + l5), .int v4] (a1, r2, n3) (RN fun a5 r6 n7 => E G MX9_copy (d + 1) C S 3 [.ref l0, .int l1, .ref l2, .int l3, .int l4, .int (l5 + 1)] [] (a5, r6, n7) (RN P)))))) : E G MX9_copy (d + 1) C S 3 [.ref l0, .int l1, .ref l2, .int l3, .int l4, .int l5] [] (a, r, N) (RN P) := T_X9_copy_3 _ _ _ hs
