theorem dX9_at_0 : decode cX9_at 0 = .ok (.iload_n 1, 1) := by decide +kernel
theorem dX9_at_1 : decode cX9_at 1 = .ok (.ifCond .lt 15, 3) := by decide +kernel
theorem dX9_at_4 : decode cX9_at 4 = .ok (.iload_n 1, 1) := by decide +kernel
theorem dX9_at_5 : decode cX9_at 5 = .ok (.aload_n 0, 1) := by decide +kernel
theorem dX9_at_6 : decode cX9_at 6 = .ok (.arraylength, 1) := by decide +kernel
theorem dX9_at_7 : decode cX9_at 7 = .ok (.if_icmp .ge 9, 3) := by decide +kernel
theorem dX9_at_10 : decode cX9_at 10 = .ok (.aload_n 0, 1) := by decide +kernel
theorem dX9_at_11 : decode cX9_at 11 = .ok (.iload_n 1, 1) := by decide +kernel
theorem dX9_at_12 : decode cX9_at 12 = .ok (.iaload, 1) := by decide +kernel
theorem dX9_at_13 : decode cX9_at 13 = .ok (.goto 4, 3) := by decide +kernel
theorem dX9_at_16 : decode cX9_at 16 = .ok (.iconst 0, 1) := by decide +kernel
theorem dX9_at_17 : decode cX9_at 17 = .ok (.ireturn, 1) := by decide +kernel
set_option maxRecDepth 100000 in
theorem T_X9_at_0 {G : GE} {d C S : Nat} {ρ : Rs} : Snd G MX9_at d C S 0 ρ (s_iload 1 (s_if_lt (s_iconst 0 (s_ireturn ρ)) (s_iload 1 (s_aload 0 (s_alen (s_ic_ge (s_iconst 0 (s_ireturn ρ)) (s_aload 0 (s_iload 1 (s_iaload (s_ireturn ρ)))))))))) := (e_iload_n dX9_at_0 rfl (e_if_lt (tgt := 16) dX9_at_1 (by decide) (e_iconst (v := 0) dX9_at_16 (by decide) (e_ireturn rfl dX9_at_17)) (e_iload_n dX9_at_4 rfl (e_aload_n dX9_at_5 rfl (e_alen dX9_at_6 (e_ic_ge (tgt := 16) dX9_at_7 (by decide) (e_iconst (v := 0) dX9_at_16 (by decide) (e_ireturn rfl dX9_at_17)) (e_aload_n dX9_at_10 rfl (e_iload_n dX9_at_11 rfl (e_iaload dX9_at_12 (e_goto (tgt := 17) dX9_at_13 (by decide) (e_ireturn rfl dX9_at_17)))))))))))
theorem dX9_put_0 : decode cX9_put 0 = .ok (.iload_n 1, 1) := by decide +kernel
theorem dX9_put_1 : decode cX9_put 1 = .ok (.ifCond .lt 13, 3) := by decide +kernel
theorem dX9_put_4 : decode cX9_put 4 = .ok (.iload_n 1, 1) := by decide +kernel
theorem dX9_put_5 : decode cX9_put 5 = .ok (.aload_n 0, 1) := by decide +kernel
theorem dX9_put_6 : decode cX9_put 6 = .ok (.arraylength, 1) := by decide +kernel
theorem dX9_put_7 : decode cX9_put 7 = .ok (.if_icmp .ge 7, 3) := by decide +kernel
theorem dX9_put_10 : decode cX9_put 10 = .ok (.aload_n 0, 1) := by decide +kernel
theorem dX9_put_11 : decode cX9_put 11 = .ok (.iload_n 1, 1) := by decide +kernel
theorem dX9_put_12 : decode cX9_put 12 = .ok (.iload_n 2, 1) := by decide +kernel
theorem dX9_put_13 : decode cX9_put 13 = .ok (.iastore, 1) := by decide +kernel
theorem dX9_put_14 : decode cX9_put 14 = .ok (.return_, 1) := by decide +kernel
set_option maxRecDepth 100000 in
theorem T_X9_put_0 {G : GE} {d C S : Nat} {ρ : Rs} : Snd G MX9_put d C S 0 ρ (s_iload 1 (s_if_lt (s_return ρ) (s_iload 1 (s_aload 0 (s_alen (s_ic_ge (s_return ρ) (s_aload 0 (s_iload 1 (s_iload 2 (s_iastore (s_return ρ))))))))))) := (e_iload_n dX9_put_0 rfl (e_if_lt (tgt := 14) dX9_put_1 (by decide) (e_return rfl dX9_put_14) (e_iload_n dX9_put_4 rfl (e_aload_n dX9_put_5 rfl (e_alen dX9_put_6 (e_ic_ge (tgt := 14) dX9_put_7 (by decide) (e_return rfl dX9_put_14) (e_aload_n dX9_put_10 rfl (e_iload_n dX9_put_11 rfl (e_iload_n dX9_put_12 rfl (e_iastore dX9_put_13 (e_return rfl dX9_put_14)))))))))))
theorem dX9_fill_0 : decode cX9_fill 0 = .ok (.iconst 0, 1) := by decide +kernel
theorem dX9_fill_1 : decode cX9_fill 1 = .ok (.istore_n 2, 1) := by decide +kernel
theorem dX9_fill_2 : decode cX9_fill 2 = .ok (.iload_n 2, 1) := by decide +kernel
theorem dX9_fill_3 : decode cX9_fill 3 = .ok (.aload_n 0, 1) := by decide +kernel
theorem dX9_fill_4 : decode cX9_fill 4 = .ok (.arraylength, 1) := by decide +kernel
theorem dX9_fill_5 : decode cX9_fill 5 = .ok (.if_icmp .ge 13, 3) := by decide +kernel
theorem dX9_fill_8 : decode cX9_fill 8 = .ok (.aload_n 0, 1) := by decide +kernel
theorem dX9_fill_9 : decode cX9_fill 9 = .ok (.iload_n 2, 1) := by decide +kernel
theorem dX9_fill_10 : decode cX9_fill 10 = .ok (.iload_n 1, 1) := by decide +kernel
theorem dX9_fill_11 : decode cX9_fill 11 = .ok (.iastore, 1) := by decide +kernel
theorem dX9_fill_12 : decode cX9_fill 12 = .ok (.iinc 2 1, 3) := by decide +kernel
theorem dX9_fill_15 : decode cX9_fill 15 = .ok (.goto (-13), 3) := by decide +kernel
theorem dX9_fill_18 : decode cX9_fill 18 = .ok (.return_, 1) := by decide +kernel
set_option maxRecDepth 100000 in
theorem T_X9_fill_0 {G : GE} {d C S : Nat} {ρ : Rs} : Snd G MX9_fill d C S 0 ρ (s_iconst 0 (s_istore 2 (fun L st h => E G MX9_fill d C S 2 L st h ρ))) := (e_iconst (v := 0) dX9_fill_0 (by decide) (e_istore_n dX9_fill_1 rfl (by decide) (fun _ _ _ h9 => h9)))
set_option maxRecDepth 100000 in
theorem T_X9_fill_2 {G : GE} {d C S : Nat} {ρ : Rs} : Snd G MX9_fill d C S 2 ρ (s_iload 2 (s_aload 0 (s_alen (s_ic_ge (s_return ρ) (s_aload 0 (s_iload 2 (s_iload 1 (s_iastore (s_iinc 2 1 (fun L st h => E G MX9_fill d C S 2 L st h ρ)))))))))) := (e_iload_n dX9_fill_2 rfl (e_aload_n dX9_fill_3 rfl (e_alen dX9_fill_4 (e_ic_ge (tgt := 18) dX9_fill_5 (by decide) (e_return rfl dX9_fill_18) (e_aload_n dX9_fill_8 rfl (e_iload_n dX9_fill_9 rfl (e_iload_n dX9_fill_10 rfl (e_iastore dX9_fill_11 (e_iinc (v := 1) dX9_fill_12 (by decide) (by decide) (e_goto (tgt := 2) dX9_fill_15 (by decide) (fun _ _ _ h9 => h9)))))))))))
theorem dX9_copy_0 : decode cX9_copy 0 = .ok (.iconst 0, 1) := by decide +kernel
theorem dX9_copy_1 : decode cX9_copy 1 = .ok (.istore 5, 2) := by decide +kernel
theorem dX9_copy_3 : decode cX9_copy 3 = .ok (.iload 5, 2) := by decide +kernel
theorem dX9_copy_5 : decode cX9_copy 5 = .ok (.iload 4, 2) := by decide +kernel
theorem dX9_copy_7 : decode cX9_copy 7 = .ok (.if_icmp .ge 25, 3) := by decide +kernel
theorem dX9_copy_10 : decode cX9_copy 10 = .ok (.aload_n 2, 1) := by decide +kernel
theorem dX9_copy_11 : decode cX9_copy 11 = .ok (.iload_n 3, 1) := by decide +kernel
theorem dX9_copy_12 : decode cX9_copy 12 = .ok (.iload 5, 2) := by decide +kernel
theorem dX9_copy_14 : decode cX9_copy 14 = .ok (.iadd, 1) := by decide +kernel
theorem dX9_copy_15 : decode cX9_copy 15 = .ok (.aload_n 0, 1) := by decide +kernel
theorem dX9_copy_16 : decode cX9_copy 16 = .ok (.iload_n 1, 1) := by decide +kernel
theorem dX9_copy_17 : decode cX9_copy 17 = .ok (.iload 5, 2) := by decide +kernel
theorem dX9_copy_19 : decode cX9_copy 19 = .ok (.iadd, 1) := by decide +kernel
theorem dX9_copy_20 : decode cX9_copy 20 = .ok (.invokestatic 7, 3) := by decide +kernel
theorem dX9_copy_23 : decode cX9_copy 23 = .ok (.invokestatic 13, 3) := by decide +kernel
theorem dX9_copy_26 : decode cX9_copy 26 = .ok (.iinc 5 1, 3) := by decide +kernel
theorem dX9_copy_29 : decode cX9_copy 29 = .ok (.goto (-26), 3) := by decide +kernel
theorem dX9_copy_32 : decode cX9_copy 32 = .ok (.return_, 1) := by decide +kernel
set_option maxRecDepth 100000 in
theorem T_X9_copy_0 {G : GE} {d C S : Nat} {ρ : Rs} : Snd G MX9_copy (d + 1) C S 0 ρ (s_iconst 0 (s_istore 5 (fun L st h => E G MX9_copy (d + 1) C S 3 L st h ρ))) := (e_iconst (v := 0) dX9_copy_0 (by decide) (e_istore dX9_copy_1 (by decide) (fun _ _ _ h9 => h9)))
set_option maxRecDepth 100000 in
theorem T_X9_copy_3 {G : GE} {d C S : Nat} {ρ : Rs} : Snd G MX9_copy (d + 1) C S 3 ρ (s_iload 5 (s_iload 4 (s_ic_ge (s_return ρ) (s_aload 2 (s_iload 3 (s_iload 5 (s_iadd (s_aload 0 (s_iload 1 (s_iload 5 (s_iadd (s_call G d MX9_at 2 (s_call G d MX9_put 3 (s_iinc 5 1 (fun L st h => E G MX9_copy (d + 1) C S 3 L st h ρ))))))))))))))) := (e_iload dX9_copy_3 (e_iload dX9_copy_5 (e_ic_ge (tgt := 32) dX9_copy_7 (by decide) (e_return rfl dX9_copy_32) (e_aload_n dX9_copy_10 rfl (e_iload_n dX9_copy_11 rfl (e_iload dX9_copy_12 (e_iadd dX9_copy_14 (e_aload_n dX9_copy_15 rfl (e_iload_n dX9_copy_16 rfl (e_iload dX9_copy_17 (e_iadd dX9_copy_19 (e_callS cal_X9_at q_516 q_426 dX9_copy_20 (e_callS cal_X9_put q_517 q_419 dX9_copy_23 (e_iinc (v := 1) dX9_copy_26 (by decide) (by decide) (e_goto (tgt := 3) dX9_copy_29 (by decide) (fun _ _ _ h9 => h9))))))))))))))))
