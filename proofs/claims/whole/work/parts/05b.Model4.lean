theorem dX12_number_0 : decode cX12_number 0 = .ok (.aload_n 0, 1) := by decide +kernel
theorem dX12_number_1 : decode cX12_number 1 = .ok (.iconst 0, 1) := by decide +kernel
theorem dX12_number_2 : decode cX12_number 2 = .ok (.putfield 115, 3) := by decide +kernel
theorem dX12_number_5 : decode cX12_number 5 = .ok (.aload_n 0, 1) := by decide +kernel
theorem dX12_number_6 : decode cX12_number 6 = .ok (.aload_n 0, 1) := by decide +kernel
theorem dX12_number_7 : decode cX12_number 7 = .ok (.iload_n 1, 1) := by decide +kernel
theorem dX12_number_8 : decode cX12_number 8 = .ok (.invokevirtual 340, 3) := by decide +kernel
theorem dX12_number_11 : decode cX12_number 11 = .ok (.ifCond .ne 7, 3) := by decide +kernel
theorem dX12_number_14 : decode cX12_number 14 = .ok (.iconst 1, 1) := by decide +kernel
theorem dX12_number_15 : decode cX12_number 15 = .ok (.goto 4, 3) := by decide +kernel
theorem dX12_number_18 : decode cX12_number 18 = .ok (.iconst 0, 1) := by decide +kernel
theorem dX12_number_19 : decode cX12_number 19 = .ok (.iconst 2, 1) := by decide +kernel
theorem dX12_number_20 : decode cX12_number 20 = .ok (.iconst 1, 1) := by decide +kernel
theorem dX12_number_21 : decode cX12_number 21 = .ok (.invokevirtual 198, 3) := by decide +kernel
theorem dX12_number_24 : decode cX12_number 24 = .ok (.ifCond .ne 33, 3) := by decide +kernel
theorem dX12_number_27 : decode cX12_number 27 = .ok (.aload_n 0, 1) := by decide +kernel
theorem dX12_number_28 : decode cX12_number 28 = .ok (.iload_n 2, 1) := by decide +kernel
theorem dX12_number_29 : decode cX12_number 29 = .ok (.iconst 1, 1) := by decide +kernel
theorem dX12_number_30 : decode cX12_number 30 = .ok (.aload_n 0, 1) := by decide +kernel
theorem dX12_number_31 : decode cX12_number 31 = .ok (.getfield 37, 3) := by decide +kernel
theorem dX12_number_34 : decode cX12_number 34 = .ok (.iload_n 1, 1) := by decide +kernel
theorem dX12_number_35 : decode cX12_number 35 = .ok (.aaload, 1) := by decide +kernel
theorem dX12_number_36 : decode cX12_number 36 = .ok (.iconst 2, 1) := by decide +kernel
theorem dX12_number_37 : decode cX12_number 37 = .ok (.iaload, 1) := by decide +kernel
theorem dX12_number_38 : decode cX12_number 38 = .ok (.invokestatic 149, 3) := by decide +kernel
theorem dX12_number_41 : decode cX12_number 41 = .ok (.ifCond .ne 7, 3) := by decide +kernel
theorem dX12_number_44 : decode cX12_number 44 = .ok (.iconst 1, 1) := by decide +kernel
theorem dX12_number_45 : decode cX12_number 45 = .ok (.goto 4, 3) := by decide +kernel
theorem dX12_number_48 : decode cX12_number 48 = .ok (.iconst 0, 1) := by decide +kernel
theorem dX12_number_49 : decode cX12_number 49 = .ok (.iconst 1, 1) := by decide +kernel
theorem dX12_number_50 : decode cX12_number 50 = .ok (.iconst 0, 1) := by decide +kernel
theorem dX12_number_51 : decode cX12_number 51 = .ok (.invokevirtual 198, 3) := by decide +kernel
theorem dX12_number_54 : decode cX12_number 54 = .ok (.ifCond .eq 5, 3) := by decide +kernel
theorem dX12_number_57 : decode cX12_number 57 = .ok (.iconst 0, 1) := by decide +kernel
theorem dX12_number_58 : decode cX12_number 58 = .ok (.ireturn, 1) := by decide +kernel
theorem dX12_number_59 : decode cX12_number 59 = .ok (.iload_n 2, 1) := by decide +kernel
theorem dX12_number_60 : decode cX12_number 60 = .ok (.aload_n 0, 1) := by decide +kernel
theorem dX12_number_61 : decode cX12_number 61 = .ok (.iload_n 1, 1) := by decide +kernel
theorem dX12_number_62 : decode cX12_number 62 = .ok (.invokevirtual 343, 3) := by decide +kernel
theorem dX12_number_65 : decode cX12_number 65 = .ok (.invokestatic 349, 3) := by decide +kernel
theorem dX12_number_68 : decode cX12_number 68 = .ok (.ireturn, 1) := by decide +kernel
set_option maxRecDepth 100000 in
theorem T_X12_number_0 {G : GE} {d C S : Nat} {ρ : Rs} : Snd G MX12_number (d + 1) C S 0 ρ (s_aload 0 (s_iconst 0 (s_putI 11 0 (s_aload 0 (s_aload 0 (s_iload 1 (s_callV G d MX12_isStreet 1 11 (s_if_ne (s_iconst 0 (fun L st h => E G MX12_number (d + 1) C S 19 L st h ρ)) (s_iconst 1 (fun L st h => E G MX12_number (d + 1) C S 19 L st h ρ)))))))))) := (e_aload_n dX12_number_0 rfl (e_iconst (v := 0) dX12_number_1 (by decide) (e_putI rfl cl_11 (by decide) rfl rfl rfl q_1564 dX12_number_2 (e_aload_n dX12_number_5 rfl (e_aload_n dX12_number_6 rfl (e_iload_n dX12_number_7 rfl (e_callV cl_11 cal_X12_isStreet q_1945 q_1947 q_86 dX12_number_8 (e_if_ne (tgt := 18) dX12_number_11 (by decide) (e_iconst (v := 0) dX12_number_18 (by decide) (fun _ _ _ h9 => h9)) (e_iconst (v := 1) dX12_number_14 (by decide) (e_goto (tgt := 19) dX12_number_15 (by decide) (fun _ _ _ h9 => h9)))))))))))
set_option maxRecDepth 100000 in
theorem T_X12_number_19 {G : GE} {d C S : Nat} {ρ : Rs} : Snd G MX12_number (d + 1) C S 19 ρ (s_iconst 2 (s_iconst 1 (s_callV G d MX12_bad 3 11 (s_if_ne (s_iconst 0 (s_ireturn ρ)) (s_aload 0 (s_iload 2 (s_iconst 1 (s_aload 0 (s_getR 11 16 (s_iload 1 (s_aaload (s_iconst 2 (s_iaload (s_call G d MX12_in 3 (s_if_ne (s_iconst 0 (s_iconst 1 (s_iconst 0 (s_callV G d MX12_bad 3 11 (s_if_eq (s_iload 2 (s_aload 0 (s_iload 1 (s_callV G d MX12_howNow 1 11 (s_call G d MX12_numberBy 2 (s_ireturn ρ)))))) (s_iconst 0 (s_ireturn ρ))))))) (s_iconst 1 (s_iconst 1 (s_iconst 0 (s_callV G d MX12_bad 3 11 (s_if_eq (s_iload 2 (s_aload 0 (s_iload 1 (s_callV G d MX12_howNow 1 11 (s_call G d MX12_numberBy 2 (s_ireturn ρ)))))) (s_iconst 0 (s_ireturn ρ)))))))))))))))))))))) := (e_iconst (v := 2) dX12_number_19 (by decide) (e_iconst (v := 1) dX12_number_20 (by decide) (e_callV cl_11 cal_X12_bad q_1742 q_1744 q_53 dX12_number_21 (e_if_ne (tgt := 57) dX12_number_24 (by decide) (e_iconst (v := 0) dX12_number_57 (by decide) (e_ireturn rfl dX12_number_58)) (e_aload_n dX12_number_27 rfl (e_iload_n dX12_number_28 rfl (e_iconst (v := 1) dX12_number_29 (by decide) (e_aload_n dX12_number_30 rfl (e_getR rfl cl_11 (by decide) rfl q_1580 dX12_number_31 (e_iload_n dX12_number_34 rfl (e_aaload dX12_number_35 (e_iconst (v := 2) dX12_number_36 (by decide) (e_iaload dX12_number_37 (e_callS cal_X12_in q_1739 q_1740 dX12_number_38 (e_if_ne (tgt := 48) dX12_number_41 (by decide) (e_iconst (v := 0) dX12_number_48 (by decide) (e_iconst (v := 1) dX12_number_49 (by decide) (e_iconst (v := 0) dX12_number_50 (by decide) (e_callV cl_11 cal_X12_bad q_1742 q_1744 q_53 dX12_number_51 (e_if_eq (tgt := 59) dX12_number_54 (by decide) (e_iload_n dX12_number_59 rfl (e_aload_n dX12_number_60 rfl (e_iload_n dX12_number_61 rfl (e_callV cl_11 cal_X12_howNow q_1961 q_1963 q_87 dX12_number_62 (e_callS cal_X12_numberBy q_1965 q_1966 dX12_number_65 (e_ireturn rfl dX12_number_68)))))) (e_iconst (v := 0) dX12_number_57 (by decide) (e_ireturn rfl dX12_number_58))))))) (e_iconst (v := 1) dX12_number_44 (by decide) (e_goto (tgt := 49) dX12_number_45 (by decide) (e_iconst (v := 1) dX12_number_49 (by decide) (e_iconst (v := 0) dX12_number_50 (by decide) (e_callV cl_11 cal_X12_bad q_1742 q_1744 q_53 dX12_number_51 (e_if_eq (tgt := 59) dX12_number_54 (by decide) (e_iload_n dX12_number_59 rfl (e_aload_n dX12_number_60 rfl (e_iload_n dX12_number_61 rfl (e_callV cl_11 cal_X12_howNow q_1961 q_1963 q_87 dX12_number_62 (e_callS cal_X12_numberBy q_1965 q_1966 dX12_number_65 (e_ireturn rfl dX12_number_68)))))) (e_iconst (v := 0) dX12_number_57 (by decide) (e_ireturn rfl dX12_number_58)))))))))))))))))))))))
theorem dX12_letter_0 : decode cX12_letter 0 = .ok (.aload_n 0, 1) := by decide +kernel
theorem dX12_letter_1 : decode cX12_letter 1 = .ok (.iconst 0, 1) := by decide +kernel
theorem dX12_letter_2 : decode cX12_letter 2 = .ok (.putfield 115, 3) := by decide +kernel
theorem dX12_letter_5 : decode cX12_letter 5 = .ok (.aload_n 0, 1) := by decide +kernel
theorem dX12_letter_6 : decode cX12_letter 6 = .ok (.aload_n 0, 1) := by decide +kernel
theorem dX12_letter_7 : decode cX12_letter 7 = .ok (.iload_n 1, 1) := by decide +kernel
theorem dX12_letter_8 : decode cX12_letter 8 = .ok (.invokevirtual 340, 3) := by decide +kernel
theorem dX12_letter_11 : decode cX12_letter 11 = .ok (.ifCond .ne 7, 3) := by decide +kernel
theorem dX12_letter_14 : decode cX12_letter 14 = .ok (.iconst 1, 1) := by decide +kernel
theorem dX12_letter_15 : decode cX12_letter 15 = .ok (.goto 4, 3) := by decide +kernel
theorem dX12_letter_18 : decode cX12_letter 18 = .ok (.iconst 0, 1) := by decide +kernel
theorem dX12_letter_19 : decode cX12_letter 19 = .ok (.iconst 1, 1) := by decide +kernel
theorem dX12_letter_20 : decode cX12_letter 20 = .ok (.iconst 1, 1) := by decide +kernel
theorem dX12_letter_21 : decode cX12_letter 21 = .ok (.invokevirtual 198, 3) := by decide +kernel
theorem dX12_letter_24 : decode cX12_letter 24 = .ok (.ifCond .ne 27, 3) := by decide +kernel
theorem dX12_letter_27 : decode cX12_letter 27 = .ok (.aload_n 0, 1) := by decide +kernel
theorem dX12_letter_28 : decode cX12_letter 28 = .ok (.iload_n 2, 1) := by decide +kernel
theorem dX12_letter_29 : decode cX12_letter 29 = .ok (.iconst 1, 1) := by decide +kernel
theorem dX12_letter_30 : decode cX12_letter 30 = .ok (.bipush 99, 2) := by decide +kernel
theorem dX12_letter_32 : decode cX12_letter 32 = .ok (.invokestatic 149, 3) := by decide +kernel
theorem dX12_letter_35 : decode cX12_letter 35 = .ok (.ifCond .ne 7, 3) := by decide +kernel
theorem dX12_letter_38 : decode cX12_letter 38 = .ok (.iconst 1, 1) := by decide +kernel
theorem dX12_letter_39 : decode cX12_letter 39 = .ok (.goto 4, 3) := by decide +kernel
theorem dX12_letter_42 : decode cX12_letter 42 = .ok (.iconst 0, 1) := by decide +kernel
theorem dX12_letter_43 : decode cX12_letter 43 = .ok (.iconst 2, 1) := by decide +kernel
theorem dX12_letter_44 : decode cX12_letter 44 = .ok (.iconst 2, 1) := by decide +kernel
theorem dX12_letter_45 : decode cX12_letter 45 = .ok (.invokevirtual 198, 3) := by decide +kernel
theorem dX12_letter_48 : decode cX12_letter 48 = .ok (.ifCond .eq 5, 3) := by decide +kernel
theorem dX12_letter_51 : decode cX12_letter 51 = .ok (.iconst 0, 1) := by decide +kernel
theorem dX12_letter_52 : decode cX12_letter 52 = .ok (.ireturn, 1) := by decide +kernel
theorem dX12_letter_53 : decode cX12_letter 53 = .ok (.aload_n 0, 1) := by decide +kernel
theorem dX12_letter_54 : decode cX12_letter 54 = .ok (.iload_n 1, 1) := by decide +kernel
theorem dX12_letter_55 : decode cX12_letter 55 = .ok (.iload_n 2, 1) := by decide +kernel
theorem dX12_letter_56 : decode cX12_letter 56 = .ok (.invokevirtual 352, 3) := by decide +kernel
theorem dX12_letter_59 : decode cX12_letter 59 = .ok (.ireturn, 1) := by decide +kernel
set_option maxRecDepth 100000 in
theorem T_X12_letter_0 {G : GE} {d C S : Nat} {ρ : Rs} : Snd G MX12_letter (d + 1) C S 0 ρ (s_aload 0 (s_iconst 0 (s_putI 11 0 (s_aload 0 (s_aload 0 (s_iload 1 (s_callV G d MX12_isStreet 1 11 (s_if_ne (s_iconst 0 (fun L st h => E G MX12_letter (d + 1) C S 19 L st h ρ)) (s_iconst 1 (fun L st h => E G MX12_letter (d + 1) C S 19 L st h ρ)))))))))) := (e_aload_n dX12_letter_0 rfl (e_iconst (v := 0) dX12_letter_1 (by decide) (e_putI rfl cl_11 (by decide) rfl rfl rfl q_1564 dX12_letter_2 (e_aload_n dX12_letter_5 rfl (e_aload_n dX12_letter_6 rfl (e_iload_n dX12_letter_7 rfl (e_callV cl_11 cal_X12_isStreet q_1945 q_1947 q_86 dX12_letter_8 (e_if_ne (tgt := 18) dX12_letter_11 (by decide) (e_iconst (v := 0) dX12_letter_18 (by decide) (fun _ _ _ h9 => h9)) (e_iconst (v := 1) dX12_letter_14 (by decide) (e_goto (tgt := 19) dX12_letter_15 (by decide) (fun _ _ _ h9 => h9)))))))))))
set_option maxRecDepth 100000 in
theorem T_X12_letter_19 {G : GE} {d C S : Nat} {ρ : Rs} : Snd G MX12_letter (d + 1) C S 19 ρ (s_iconst 1 (s_iconst 1 (s_callV G d MX12_bad 3 11 (s_if_ne (s_iconst 0 (s_ireturn ρ)) (s_aload 0 (s_iload 2 (s_iconst 1 (s_iconst 99 (s_call G d MX12_in 3 (s_if_ne (s_iconst 0 (s_iconst 2 (s_iconst 2 (s_callV G d MX12_bad 3 11 (s_if_eq (s_aload 0 (s_iload 1 (s_iload 2 (s_callV G d MX12_letterTo 2 11 (s_ireturn ρ))))) (s_iconst 0 (s_ireturn ρ))))))) (s_iconst 1 (s_iconst 2 (s_iconst 2 (s_callV G d MX12_bad 3 11 (s_if_eq (s_aload 0 (s_iload 1 (s_iload 2 (s_callV G d MX12_letterTo 2 11 (s_ireturn ρ))))) (s_iconst 0 (s_ireturn ρ))))))))))))))))) := (e_iconst (v := 1) dX12_letter_19 (by decide) (e_iconst (v := 1) dX12_letter_20 (by decide) (e_callV cl_11 cal_X12_bad q_1742 q_1744 q_53 dX12_letter_21 (e_if_ne (tgt := 51) dX12_letter_24 (by decide) (e_iconst (v := 0) dX12_letter_51 (by decide) (e_ireturn rfl dX12_letter_52)) (e_aload_n dX12_letter_27 rfl (e_iload_n dX12_letter_28 rfl (e_iconst (v := 1) dX12_letter_29 (by decide) (e_bipush (v := 99) dX12_letter_30 (by decide) (e_callS cal_X12_in q_1739 q_1740 dX12_letter_32 (e_if_ne (tgt := 42) dX12_letter_35 (by decide) (e_iconst (v := 0) dX12_letter_42 (by decide) (e_iconst (v := 2) dX12_letter_43 (by decide) (e_iconst (v := 2) dX12_letter_44 (by decide) (e_callV cl_11 cal_X12_bad q_1742 q_1744 q_53 dX12_letter_45 (e_if_eq (tgt := 53) dX12_letter_48 (by decide) (e_aload_n dX12_letter_53 rfl (e_iload_n dX12_letter_54 rfl (e_iload_n dX12_letter_55 rfl (e_callV cl_11 cal_X12_letterTo q_1972 q_1974 q_88 dX12_letter_56 (e_ireturn rfl dX12_letter_59))))) (e_iconst (v := 0) dX12_letter_51 (by decide) (e_ireturn rfl dX12_letter_52))))))) (e_iconst (v := 1) dX12_letter_38 (by decide) (e_goto (tgt := 43) dX12_letter_39 (by decide) (e_iconst (v := 2) dX12_letter_43 (by decide) (e_iconst (v := 2) dX12_letter_44 (by decide) (e_callV cl_11 cal_X12_bad q_1742 q_1744 q_53 dX12_letter_45 (e_if_eq (tgt := 53) dX12_letter_48 (by decide) (e_aload_n dX12_letter_53 rfl (e_iload_n dX12_letter_54 rfl (e_iload_n dX12_letter_55 rfl (e_callV cl_11 cal_X12_letterTo q_1972 q_1974 q_88 dX12_letter_56 (e_ireturn rfl dX12_letter_59))))) (e_iconst (v := 0) dX12_letter_51 (by decide) (e_ireturn rfl dX12_letter_52))))))))))))))))))
theorem dX12_lastOf_0 : decode cX12_lastOf 0 = .ok (.aload_n 0, 1) := by decide +kernel
theorem dX12_lastOf_1 : decode cX12_lastOf 1 = .ok (.getfield 79, 3) := by decide +kernel
theorem dX12_lastOf_4 : decode cX12_lastOf 4 = .ok (.iload_n 1, 1) := by decide +kernel
theorem dX12_lastOf_5 : decode cX12_lastOf 5 = .ok (.invokestatic 289, 3) := by decide +kernel
theorem dX12_lastOf_8 : decode cX12_lastOf 8 = .ok (.istore_n 2, 1) := by decide +kernel
theorem dX12_lastOf_9 : decode cX12_lastOf 9 = .ok (.aload_n 0, 1) := by decide +kernel
theorem dX12_lastOf_10 : decode cX12_lastOf 10 = .ok (.getfield 37, 3) := by decide +kernel
theorem dX12_lastOf_13 : decode cX12_lastOf 13 = .ok (.iload_n 1, 1) := by decide +kernel
theorem dX12_lastOf_14 : decode cX12_lastOf 14 = .ok (.aaload, 1) := by decide +kernel
theorem dX12_lastOf_15 : decode cX12_lastOf 15 = .ok (.iconst 2, 1) := by decide +kernel
theorem dX12_lastOf_16 : decode cX12_lastOf 16 = .ok (.iaload, 1) := by decide +kernel
theorem dX12_lastOf_17 : decode cX12_lastOf 17 = .ok (.aload_n 0, 1) := by decide +kernel
theorem dX12_lastOf_18 : decode cX12_lastOf 18 = .ok (.iload_n 1, 1) := by decide +kernel
theorem dX12_lastOf_19 : decode cX12_lastOf 19 = .ok (.invokevirtual 343, 3) := by decide +kernel
theorem dX12_lastOf_22 : decode cX12_lastOf 22 = .ok (.invokestatic 349, 3) := by decide +kernel
theorem dX12_lastOf_25 : decode cX12_lastOf 25 = .ok (.istore_n 3, 1) := by decide +kernel
theorem dX12_lastOf_26 : decode cX12_lastOf 26 = .ok (.iload_n 2, 1) := by decide +kernel
theorem dX12_lastOf_27 : decode cX12_lastOf 27 = .ok (.iconst (-1), 1) := by decide +kernel
theorem dX12_lastOf_28 : decode cX12_lastOf 28 = .ok (.if_icmp .ne 7, 3) := by decide +kernel
theorem dX12_lastOf_31 : decode cX12_lastOf 31 = .ok (.iload_n 3, 1) := by decide +kernel
theorem dX12_lastOf_32 : decode cX12_lastOf 32 = .ok (.goto 23, 3) := by decide +kernel
theorem dX12_lastOf_35 : decode cX12_lastOf 35 = .ok (.iload_n 3, 1) := by decide +kernel
theorem dX12_lastOf_36 : decode cX12_lastOf 36 = .ok (.aload_n 0, 1) := by decide +kernel
theorem dX12_lastOf_37 : decode cX12_lastOf 37 = .ok (.getfield 37, 3) := by decide +kernel
theorem dX12_lastOf_40 : decode cX12_lastOf 40 = .ok (.iload_n 2, 1) := by decide +kernel
theorem dX12_lastOf_41 : decode cX12_lastOf 41 = .ok (.aaload, 1) := by decide +kernel
theorem dX12_lastOf_42 : decode cX12_lastOf 42 = .ok (.iconst 2, 1) := by decide +kernel
theorem dX12_lastOf_43 : decode cX12_lastOf 43 = .ok (.iaload, 1) := by decide +kernel
theorem dX12_lastOf_44 : decode cX12_lastOf 44 = .ok (.aload_n 0, 1) := by decide +kernel
theorem dX12_lastOf_45 : decode cX12_lastOf 45 = .ok (.iload_n 2, 1) := by decide +kernel
theorem dX12_lastOf_46 : decode cX12_lastOf 46 = .ok (.invokevirtual 343, 3) := by decide +kernel
theorem dX12_lastOf_49 : decode cX12_lastOf 49 = .ok (.invokestatic 349, 3) := by decide +kernel
theorem dX12_lastOf_52 : decode cX12_lastOf 52 = .ok (.invokestatic 261, 3) := by decide +kernel
theorem dX12_lastOf_55 : decode cX12_lastOf 55 = .ok (.ireturn, 1) := by decide +kernel
set_option maxRecDepth 100000 in
theorem T_X12_lastOf_0 {G : GE} {d C S : Nat} {ρ : Rs} : Snd G MX12_lastOf (d + 1) C S 0 ρ (s_aload 0 (s_getR 11 33 (s_iload 1 (s_call G d MX12_mateOf 2 (s_istore 2 (s_aload 0 (s_getR 11 16 (s_iload 1 (s_aaload (s_iconst 2 (s_iaload (s_aload 0 (s_iload 1 (s_callV G d MX12_howNow 1 11 (s_call G d MX12_numberBy 2 (s_istore 3 (s_iload 2 (s_iconst (-1) (s_ic_ne (s_iload 3 (s_aload 0 (s_getR 11 16 (s_iload 2 (s_aaload (s_iconst 2 (s_iaload (s_aload 0 (s_iload 2 (s_callV G d MX12_howNow 1 11 (s_call G d MX12_numberBy 2 (s_call G d MX12_more 2 (s_ireturn ρ))))))))))))) (s_iload 3 (s_ireturn ρ))))))))))))))))))))) := (e_aload_n dX12_lastOf_0 rfl (e_getR rfl cl_11 (by decide) rfl q_1597 dX12_lastOf_1 (e_iload_n dX12_lastOf_4 rfl (e_callS cal_X12_mateOf q_1878 q_1879 dX12_lastOf_5 (e_istore_n dX12_lastOf_8 rfl (by decide) (e_aload_n dX12_lastOf_9 rfl (e_getR rfl cl_11 (by decide) rfl q_1580 dX12_lastOf_10 (e_iload_n dX12_lastOf_13 rfl (e_aaload dX12_lastOf_14 (e_iconst (v := 2) dX12_lastOf_15 (by decide) (e_iaload dX12_lastOf_16 (e_aload_n dX12_lastOf_17 rfl (e_iload_n dX12_lastOf_18 rfl (e_callV cl_11 cal_X12_howNow q_1961 q_1963 q_87 dX12_lastOf_19 (e_callS cal_X12_numberBy q_1965 q_1966 dX12_lastOf_22 (e_istore_n dX12_lastOf_25 rfl (by decide) (e_iload_n dX12_lastOf_26 rfl (e_iconst (v := (-1)) dX12_lastOf_27 (by decide) (e_ic_ne (tgt := 35) dX12_lastOf_28 (by decide) (e_iload_n dX12_lastOf_35 rfl (e_aload_n dX12_lastOf_36 rfl (e_getR rfl cl_11 (by decide) rfl q_1580 dX12_lastOf_37 (e_iload_n dX12_lastOf_40 rfl (e_aaload dX12_lastOf_41 (e_iconst (v := 2) dX12_lastOf_42 (by decide) (e_iaload dX12_lastOf_43 (e_aload_n dX12_lastOf_44 rfl (e_iload_n dX12_lastOf_45 rfl (e_callV cl_11 cal_X12_howNow q_1961 q_1963 q_87 dX12_lastOf_46 (e_callS cal_X12_numberBy q_1965 q_1966 dX12_lastOf_49 (e_callS cal_X12_more q_1906 q_1907 dX12_lastOf_52 (e_ireturn rfl dX12_lastOf_55))))))))))))) (e_iload_n dX12_lastOf_31 rfl (e_goto (tgt := 55) dX12_lastOf_32 (by decide) (e_ireturn rfl dX12_lastOf_55))))))))))))))))))))))
theorem dX12_last_0 : decode cX12_last 0 = .ok (.aload_n 0, 1) := by decide +kernel
theorem dX12_last_1 : decode cX12_last 1 = .ok (.iconst 0, 1) := by decide +kernel
theorem dX12_last_2 : decode cX12_last 2 = .ok (.putfield 115, 3) := by decide +kernel
theorem dX12_last_5 : decode cX12_last 5 = .ok (.aload_n 0, 1) := by decide +kernel
theorem dX12_last_6 : decode cX12_last 6 = .ok (.aload_n 0, 1) := by decide +kernel
theorem dX12_last_7 : decode cX12_last 7 = .ok (.iload_n 1, 1) := by decide +kernel
theorem dX12_last_8 : decode cX12_last 8 = .ok (.invokevirtual 340, 3) := by decide +kernel
theorem dX12_last_11 : decode cX12_last 11 = .ok (.ifCond .ne 7, 3) := by decide +kernel
theorem dX12_last_14 : decode cX12_last 14 = .ok (.iconst 1, 1) := by decide +kernel
theorem dX12_last_15 : decode cX12_last 15 = .ok (.goto 4, 3) := by decide +kernel
theorem dX12_last_18 : decode cX12_last 18 = .ok (.iconst 0, 1) := by decide +kernel
theorem dX12_last_19 : decode cX12_last 19 = .ok (.iconst 1, 1) := by decide +kernel
theorem dX12_last_20 : decode cX12_last 20 = .ok (.iconst 1, 1) := by decide +kernel
theorem dX12_last_21 : decode cX12_last 21 = .ok (.invokevirtual 198, 3) := by decide +kernel
theorem dX12_last_24 : decode cX12_last 24 = .ok (.ifCond .eq 5, 3) := by decide +kernel
theorem dX12_last_27 : decode cX12_last 27 = .ok (.iconst 0, 1) := by decide +kernel
theorem dX12_last_28 : decode cX12_last 28 = .ok (.ireturn, 1) := by decide +kernel
theorem dX12_last_29 : decode cX12_last 29 = .ok (.aload_n 0, 1) := by decide +kernel
theorem dX12_last_30 : decode cX12_last 30 = .ok (.iload_n 1, 1) := by decide +kernel
theorem dX12_last_31 : decode cX12_last 31 = .ok (.invokevirtual 355, 3) := by decide +kernel
theorem dX12_last_34 : decode cX12_last 34 = .ok (.ireturn, 1) := by decide +kernel
set_option maxRecDepth 100000 in
theorem T_X12_last_0 {G : GE} {d C S : Nat} {ρ : Rs} : Snd G MX12_last (d + 1) C S 0 ρ (s_aload 0 (s_iconst 0 (s_putI 11 0 (s_aload 0 (s_aload 0 (s_iload 1 (s_callV G d MX12_isStreet 1 11 (s_if_ne (s_iconst 0 (s_iconst 1 (s_iconst 1 (s_callV G d MX12_bad 3 11 (s_if_eq (s_aload 0 (s_iload 1 (s_callV G d MX12_lastOf 1 11 (s_ireturn ρ)))) (s_iconst 0 (s_ireturn ρ))))))) (s_iconst 1 (s_iconst 1 (s_iconst 1 (s_callV G d MX12_bad 3 11 (s_if_eq (s_aload 0 (s_iload 1 (s_callV G d MX12_lastOf 1 11 (s_ireturn ρ)))) (s_iconst 0 (s_ireturn ρ))))))))))))))) := (e_aload_n dX12_last_0 rfl (e_iconst (v := 0) dX12_last_1 (by decide) (e_putI rfl cl_11 (by decide) rfl rfl rfl q_1564 dX12_last_2 (e_aload_n dX12_last_5 rfl (e_aload_n dX12_last_6 rfl (e_iload_n dX12_last_7 rfl (e_callV cl_11 cal_X12_isStreet q_1945 q_1947 q_86 dX12_last_8 (e_if_ne (tgt := 18) dX12_last_11 (by decide) (e_iconst (v := 0) dX12_last_18 (by decide) (e_iconst (v := 1) dX12_last_19 (by decide) (e_iconst (v := 1) dX12_last_20 (by decide) (e_callV cl_11 cal_X12_bad q_1742 q_1744 q_53 dX12_last_21 (e_if_eq (tgt := 29) dX12_last_24 (by decide) (e_aload_n dX12_last_29 rfl (e_iload_n dX12_last_30 rfl (e_callV cl_11 cal_X12_lastOf q_1984 q_1986 q_90 dX12_last_31 (e_ireturn rfl dX12_last_34)))) (e_iconst (v := 0) dX12_last_27 (by decide) (e_ireturn rfl dX12_last_28))))))) (e_iconst (v := 1) dX12_last_14 (by decide) (e_goto (tgt := 19) dX12_last_15 (by decide) (e_iconst (v := 1) dX12_last_19 (by decide) (e_iconst (v := 1) dX12_last_20 (by decide) (e_callV cl_11 cal_X12_bad q_1742 q_1744 q_53 dX12_last_21 (e_if_eq (tgt := 29) dX12_last_24 (by decide) (e_aload_n dX12_last_29 rfl (e_iload_n dX12_last_30 rfl (e_callV cl_11 cal_X12_lastOf q_1984 q_1986 q_90 dX12_last_31 (e_ireturn rfl dX12_last_34)))) (e_iconst (v := 0) dX12_last_27 (by decide) (e_ireturn rfl dX12_last_28))))))))))))))))
theorem dX12_missing_0 : decode cX12_missing 0 = .ok (.aload_n 0, 1) := by decide +kernel
theorem dX12_missing_1 : decode cX12_missing 1 = .ok (.iconst 0, 1) := by decide +kernel
theorem dX12_missing_2 : decode cX12_missing 2 = .ok (.putfield 115, 3) := by decide +kernel
theorem dX12_missing_5 : decode cX12_missing 5 = .ok (.aload_n 0, 1) := by decide +kernel
theorem dX12_missing_6 : decode cX12_missing 6 = .ok (.aload_n 0, 1) := by decide +kernel
theorem dX12_missing_7 : decode cX12_missing 7 = .ok (.iload_n 1, 1) := by decide +kernel
theorem dX12_missing_8 : decode cX12_missing 8 = .ok (.invokevirtual 340, 3) := by decide +kernel
theorem dX12_missing_11 : decode cX12_missing 11 = .ok (.ifCond .ne 7, 3) := by decide +kernel
theorem dX12_missing_14 : decode cX12_missing 14 = .ok (.iconst 1, 1) := by decide +kernel
theorem dX12_missing_15 : decode cX12_missing 15 = .ok (.goto 4, 3) := by decide +kernel
theorem dX12_missing_18 : decode cX12_missing 18 = .ok (.iconst 0, 1) := by decide +kernel
theorem dX12_missing_19 : decode cX12_missing 19 = .ok (.iconst 1, 1) := by decide +kernel
theorem dX12_missing_20 : decode cX12_missing 20 = .ok (.iconst 1, 1) := by decide +kernel
theorem dX12_missing_21 : decode cX12_missing 21 = .ok (.invokevirtual 198, 3) := by decide +kernel
theorem dX12_missing_24 : decode cX12_missing 24 = .ok (.ifCond .eq 5, 3) := by decide +kernel
theorem dX12_missing_27 : decode cX12_missing 27 = .ok (.iconst 0, 1) := by decide +kernel
theorem dX12_missing_28 : decode cX12_missing 28 = .ok (.ireturn, 1) := by decide +kernel
theorem dX12_missing_29 : decode cX12_missing 29 = .ok (.iconst 0, 1) := by decide +kernel
theorem dX12_missing_30 : decode cX12_missing 30 = .ok (.istore_n 2, 1) := by decide +kernel
theorem dX12_missing_31 : decode cX12_missing 31 = .ok (.iconst 1, 1) := by decide +kernel
theorem dX12_missing_32 : decode cX12_missing 32 = .ok (.istore_n 3, 1) := by decide +kernel
theorem dX12_missing_33 : decode cX12_missing 33 = .ok (.iload_n 3, 1) := by decide +kernel
theorem dX12_missing_34 : decode cX12_missing 34 = .ok (.aload_n 0, 1) := by decide +kernel
theorem dX12_missing_35 : decode cX12_missing 35 = .ok (.iload_n 1, 1) := by decide +kernel
theorem dX12_missing_36 : decode cX12_missing 36 = .ok (.invokevirtual 355, 3) := by decide +kernel
theorem dX12_missing_39 : decode cX12_missing 39 = .ok (.if_icmp .gt 27, 3) := by decide +kernel
theorem dX12_missing_42 : decode cX12_missing 42 = .ok (.iload_n 2, 1) := by decide +kernel
theorem dX12_missing_43 : decode cX12_missing 43 = .ok (.aload_n 0, 1) := by decide +kernel
theorem dX12_missing_44 : decode cX12_missing 44 = .ok (.iload_n 1, 1) := by decide +kernel
theorem dX12_missing_45 : decode cX12_missing 45 = .ok (.iload_n 3, 1) := by decide +kernel
theorem dX12_missing_46 : decode cX12_missing 46 = .ok (.invokevirtual 352, 3) := by decide +kernel
theorem dX12_missing_49 : decode cX12_missing 49 = .ok (.iconst (-1), 1) := by decide +kernel
theorem dX12_missing_50 : decode cX12_missing 50 = .ok (.if_icmp .ne 7, 3) := by decide +kernel
theorem dX12_missing_53 : decode cX12_missing 53 = .ok (.iconst 1, 1) := by decide +kernel
theorem dX12_missing_54 : decode cX12_missing 54 = .ok (.goto 4, 3) := by decide +kernel
theorem dX12_missing_57 : decode cX12_missing 57 = .ok (.iconst 0, 1) := by decide +kernel
theorem dX12_missing_58 : decode cX12_missing 58 = .ok (.iadd, 1) := by decide +kernel
theorem dX12_missing_59 : decode cX12_missing 59 = .ok (.istore_n 2, 1) := by decide +kernel
theorem dX12_missing_60 : decode cX12_missing 60 = .ok (.iinc 3 1, 3) := by decide +kernel
theorem dX12_missing_63 : decode cX12_missing 63 = .ok (.goto (-30), 3) := by decide +kernel
theorem dX12_missing_66 : decode cX12_missing 66 = .ok (.iload_n 2, 1) := by decide +kernel
theorem dX12_missing_67 : decode cX12_missing 67 = .ok (.ireturn, 1) := by decide +kernel
set_option maxRecDepth 100000 in
theorem T_X12_missing_0 {G : GE} {d C S : Nat} {ρ : Rs} : Snd G MX12_missing (d + 1) C S 0 ρ (s_aload 0 (s_iconst 0 (s_putI 11 0 (s_aload 0 (s_aload 0 (s_iload 1 (s_callV G d MX12_isStreet 1 11 (s_if_ne (s_iconst 0 (s_iconst 1 (s_iconst 1 (s_callV G d MX12_bad 3 11 (s_if_eq (s_iconst 0 (s_istore 2 (s_iconst 1 (s_istore 3 (fun L st h => E G MX12_missing (d + 1) C S 33 L st h ρ))))) (s_iconst 0 (s_ireturn ρ))))))) (s_iconst 1 (s_iconst 1 (s_iconst 1 (s_callV G d MX12_bad 3 11 (s_if_eq (s_iconst 0 (s_istore 2 (s_iconst 1 (s_istore 3 (fun L st h => E G MX12_missing (d + 1) C S 33 L st h ρ))))) (s_iconst 0 (s_ireturn ρ))))))))))))))) := (e_aload_n dX12_missing_0 rfl (e_iconst (v := 0) dX12_missing_1 (by decide) (e_putI rfl cl_11 (by decide) rfl rfl rfl q_1564 dX12_missing_2 (e_aload_n dX12_missing_5 rfl (e_aload_n dX12_missing_6 rfl (e_iload_n dX12_missing_7 rfl (e_callV cl_11 cal_X12_isStreet q_1945 q_1947 q_86 dX12_missing_8 (e_if_ne (tgt := 18) dX12_missing_11 (by decide) (e_iconst (v := 0) dX12_missing_18 (by decide) (e_iconst (v := 1) dX12_missing_19 (by decide) (e_iconst (v := 1) dX12_missing_20 (by decide) (e_callV cl_11 cal_X12_bad q_1742 q_1744 q_53 dX12_missing_21 (e_if_eq (tgt := 29) dX12_missing_24 (by decide) (e_iconst (v := 0) dX12_missing_29 (by decide) (e_istore_n dX12_missing_30 rfl (by decide) (e_iconst (v := 1) dX12_missing_31 (by decide) (e_istore_n dX12_missing_32 rfl (by decide) (fun _ _ _ h9 => h9))))) (e_iconst (v := 0) dX12_missing_27 (by decide) (e_ireturn rfl dX12_missing_28))))))) (e_iconst (v := 1) dX12_missing_14 (by decide) (e_goto (tgt := 19) dX12_missing_15 (by decide) (e_iconst (v := 1) dX12_missing_19 (by decide) (e_iconst (v := 1) dX12_missing_20 (by decide) (e_callV cl_11 cal_X12_bad q_1742 q_1744 q_53 dX12_missing_21 (e_if_eq (tgt := 29) dX12_missing_24 (by decide) (e_iconst (v := 0) dX12_missing_29 (by decide) (e_istore_n dX12_missing_30 rfl (by decide) (e_iconst (v := 1) dX12_missing_31 (by decide) (e_istore_n dX12_missing_32 rfl (by decide) (fun _ _ _ h9 => h9))))) (e_iconst (v := 0) dX12_missing_27 (by decide) (e_ireturn rfl dX12_missing_28))))))))))))))))
set_option maxRecDepth 100000 in
theorem T_X12_missing_33 {G : GE} {d C S : Nat} {ρ : Rs} : Snd G MX12_missing (d + 1) C S 33 ρ (s_iload 3 (s_aload 0 (s_iload 1 (s_callV G d MX12_lastOf 1 11 (s_ic_gt (s_iload 2 (s_ireturn ρ)) (s_iload 2 (s_aload 0 (s_iload 1 (s_iload 3 (s_callV G d MX12_letterTo 2 11 (s_iconst (-1) (s_ic_ne (s_iconst 0 (s_iadd (s_istore 2 (s_iinc 3 1 (fun L st h => E G MX12_missing (d + 1) C S 33 L st h ρ))))) (s_iconst 1 (s_iadd (s_istore 2 (s_iinc 3 1 (fun L st h => E G MX12_missing (d + 1) C S 33 L st h ρ))))))))))))))))) := (e_iload_n dX12_missing_33 rfl (e_aload_n dX12_missing_34 rfl (e_iload_n dX12_missing_35 rfl (e_callV cl_11 cal_X12_lastOf q_1984 q_1986 q_90 dX12_missing_36 (e_ic_gt (tgt := 66) dX12_missing_39 (by decide) (e_iload_n dX12_missing_66 rfl (e_ireturn rfl dX12_missing_67)) (e_iload_n dX12_missing_42 rfl (e_aload_n dX12_missing_43 rfl (e_iload_n dX12_missing_44 rfl (e_iload_n dX12_missing_45 rfl (e_callV cl_11 cal_X12_letterTo q_1972 q_1974 q_88 dX12_missing_46 (e_iconst (v := (-1)) dX12_missing_49 (by decide) (e_ic_ne (tgt := 57) dX12_missing_50 (by decide) (e_iconst (v := 0) dX12_missing_57 (by decide) (e_iadd dX12_missing_58 (e_istore_n dX12_missing_59 rfl (by decide) (e_iinc (v := 1) dX12_missing_60 (by decide) (by decide) (e_goto (tgt := 33) dX12_missing_63 (by decide) (fun _ _ _ h9 => h9)))))) (e_iconst (v := 1) dX12_missing_53 (by decide) (e_goto (tgt := 58) dX12_missing_54 (by decide) (e_iadd dX12_missing_58 (e_istore_n dX12_missing_59 rfl (by decide) (e_iinc (v := 1) dX12_missing_60 (by decide) (by decide) (e_goto (tgt := 33) dX12_missing_63 (by decide) (fun _ _ _ h9 => h9)))))))))))))))))))
theorem dX12_isFree_0 : decode cX12_isFree 0 = .ok (.aload_n 0, 1) := by decide +kernel
theorem dX12_isFree_1 : decode cX12_isFree 1 = .ok (.getfield 79, 3) := by decide +kernel
theorem dX12_isFree_4 : decode cX12_isFree 4 = .ok (.iload_n 1, 1) := by decide +kernel
theorem dX12_isFree_5 : decode cX12_isFree 5 = .ok (.invokestatic 289, 3) := by decide +kernel
theorem dX12_isFree_8 : decode cX12_isFree 8 = .ok (.iconst (-1), 1) := by decide +kernel
theorem dX12_isFree_9 : decode cX12_isFree 9 = .ok (.if_icmp .ne 7, 3) := by decide +kernel
theorem dX12_isFree_12 : decode cX12_isFree 12 = .ok (.iconst 1, 1) := by decide +kernel
theorem dX12_isFree_13 : decode cX12_isFree 13 = .ok (.goto 4, 3) := by decide +kernel
theorem dX12_isFree_16 : decode cX12_isFree 16 = .ok (.iconst 0, 1) := by decide +kernel
theorem dX12_isFree_17 : decode cX12_isFree 17 = .ok (.ireturn, 1) := by decide +kernel
set_option maxRecDepth 100000 in
theorem T_X12_isFree_0 {G : GE} {d C S : Nat} {ρ : Rs} : Snd G MX12_isFree (d + 1) C S 0 ρ (s_aload 0 (s_getR 11 33 (s_iload 1 (s_call G d MX12_mateOf 2 (s_iconst (-1) (s_ic_ne (s_iconst 0 (s_zreturn ρ)) (s_iconst 1 (s_zreturn ρ)))))))) := (e_aload_n dX12_isFree_0 rfl (e_getR rfl cl_11 (by decide) rfl q_1597 dX12_isFree_1 (e_iload_n dX12_isFree_4 rfl (e_callS cal_X12_mateOf q_1878 q_1879 dX12_isFree_5 (e_iconst (v := (-1)) dX12_isFree_8 (by decide) (e_ic_ne (tgt := 16) dX12_isFree_9 (by decide) (e_iconst (v := 0) dX12_isFree_16 (by decide) (e_zreturn rfl dX12_isFree_17)) (e_iconst (v := 1) dX12_isFree_12 (by decide) (e_goto (tgt := 17) dX12_isFree_13 (by decide) (e_zreturn rfl dX12_isFree_17)))))))))
theorem dX12_heat_0 : decode cX12_heat 0 = .ok (.aload_n 1, 1) := by decide +kernel
theorem dX12_heat_1 : decode cX12_heat 1 = .ok (.iload_n 2, 1) := by decide +kernel
theorem dX12_heat_2 : decode cX12_heat 2 = .ok (.iaload, 1) := by decide +kernel
theorem dX12_heat_3 : decode cX12_heat 3 = .ok (.iconst (-1), 1) := by decide +kernel
theorem dX12_heat_4 : decode cX12_heat 4 = .ok (.if_icmp .ne 7, 3) := by decide +kernel
theorem dX12_heat_7 : decode cX12_heat 7 = .ok (.iconst 0, 1) := by decide +kernel
theorem dX12_heat_8 : decode cX12_heat 8 = .ok (.goto 13, 3) := by decide +kernel
theorem dX12_heat_11 : decode cX12_heat 11 = .ok (.aload_n 0, 1) := by decide +kernel
theorem dX12_heat_12 : decode cX12_heat 12 = .ok (.getfield 43, 3) := by decide +kernel
theorem dX12_heat_15 : decode cX12_heat 15 = .ok (.iload_n 2, 1) := by decide +kernel
theorem dX12_heat_16 : decode cX12_heat 16 = .ok (.aaload, 1) := by decide +kernel
theorem dX12_heat_17 : decode cX12_heat 17 = .ok (.aload_n 1, 1) := by decide +kernel
theorem dX12_heat_18 : decode cX12_heat 18 = .ok (.iload_n 2, 1) := by decide +kernel
theorem dX12_heat_19 : decode cX12_heat 19 = .ok (.iaload, 1) := by decide +kernel
theorem dX12_heat_20 : decode cX12_heat 20 = .ok (.iaload, 1) := by decide +kernel
theorem dX12_heat_21 : decode cX12_heat 21 = .ok (.ireturn, 1) := by decide +kernel
set_option maxRecDepth 100000 in
theorem T_X12_heat_0 {G : GE} {d C S : Nat} {ρ : Rs} : Snd G MX12_heat d C S 0 ρ (s_aload 1 (s_iload 2 (s_iaload (s_iconst (-1) (s_ic_ne (s_aload 0 (s_getR 11 18 (s_iload 2 (s_aaload (s_aload 1 (s_iload 2 (s_iaload (s_iaload (s_ireturn ρ))))))))) (s_iconst 0 (s_ireturn ρ))))))) := (e_aload_n dX12_heat_0 rfl (e_iload_n dX12_heat_1 rfl (e_iaload dX12_heat_2 (e_iconst (v := (-1)) dX12_heat_3 (by decide) (e_ic_ne (tgt := 11) dX12_heat_4 (by decide) (e_aload_n dX12_heat_11 rfl (e_getR rfl cl_11 (by decide) rfl q_1582 dX12_heat_12 (e_iload_n dX12_heat_15 rfl (e_aaload dX12_heat_16 (e_aload_n dX12_heat_17 rfl (e_iload_n dX12_heat_18 rfl (e_iaload dX12_heat_19 (e_iaload dX12_heat_20 (e_ireturn rfl dX12_heat_21))))))))) (e_iconst (v := 0) dX12_heat_7 (by decide) (e_goto (tgt := 21) dX12_heat_8 (by decide) (e_ireturn rfl dX12_heat_21))))))))
theorem dX12_isTempted_0 : decode cX12_isTempted 0 = .ok (.aload_n 1, 1) := by decide +kernel
theorem dX12_isTempted_1 : decode cX12_isTempted 1 = .ok (.iload_n 2, 1) := by decide +kernel
theorem dX12_isTempted_2 : decode cX12_isTempted 2 = .ok (.iaload, 1) := by decide +kernel
theorem dX12_isTempted_3 : decode cX12_isTempted 3 = .ok (.iload_n 3, 1) := by decide +kernel
theorem dX12_isTempted_4 : decode cX12_isTempted 4 = .ok (.if_icmp .eq 54, 3) := by decide +kernel
theorem dX12_isTempted_7 : decode cX12_isTempted 7 = .ok (.aload_n 0, 1) := by decide +kernel
theorem dX12_isTempted_8 : decode cX12_isTempted 8 = .ok (.aload_n 0, 1) := by decide +kernel
theorem dX12_isTempted_9 : decode cX12_isTempted 9 = .ok (.getfield 79, 3) := by decide +kernel
theorem dX12_isTempted_12 : decode cX12_isTempted 12 = .ok (.iload_n 2, 1) := by decide +kernel
theorem dX12_isTempted_13 : decode cX12_isTempted 13 = .ok (.iload_n 3, 1) := by decide +kernel
theorem dX12_isTempted_14 : decode cX12_isTempted 14 = .ok (.invokevirtual 297, 3) := by decide +kernel
theorem dX12_isTempted_17 : decode cX12_isTempted 17 = .ok (.ifCond .ne 41, 3) := by decide +kernel
theorem dX12_isTempted_20 : decode cX12_isTempted 20 = .ok (.aload_n 0, 1) := by decide +kernel
theorem dX12_isTempted_21 : decode cX12_isTempted 21 = .ok (.getfield 43, 3) := by decide +kernel
theorem dX12_isTempted_24 : decode cX12_isTempted 24 = .ok (.iload_n 2, 1) := by decide +kernel
theorem dX12_isTempted_25 : decode cX12_isTempted 25 = .ok (.aaload, 1) := by decide +kernel
theorem dX12_isTempted_26 : decode cX12_isTempted 26 = .ok (.iload_n 3, 1) := by decide +kernel
theorem dX12_isTempted_27 : decode cX12_isTempted 27 = .ok (.iaload, 1) := by decide +kernel
theorem dX12_isTempted_28 : decode cX12_isTempted 28 = .ok (.aload_n 0, 1) := by decide +kernel
theorem dX12_isTempted_29 : decode cX12_isTempted 29 = .ok (.aload_n 1, 1) := by decide +kernel
theorem dX12_isTempted_30 : decode cX12_isTempted 30 = .ok (.iload_n 2, 1) := by decide +kernel
theorem dX12_isTempted_31 : decode cX12_isTempted 31 = .ok (.invokevirtual 358, 3) := by decide +kernel
theorem dX12_isTempted_34 : decode cX12_isTempted 34 = .ok (.if_icmp .le 24, 3) := by decide +kernel
theorem dX12_isTempted_37 : decode cX12_isTempted 37 = .ok (.aload_n 0, 1) := by decide +kernel
theorem dX12_isTempted_38 : decode cX12_isTempted 38 = .ok (.getfield 43, 3) := by decide +kernel
theorem dX12_isTempted_41 : decode cX12_isTempted 41 = .ok (.iload_n 3, 1) := by decide +kernel
theorem dX12_isTempted_42 : decode cX12_isTempted 42 = .ok (.aaload, 1) := by decide +kernel
theorem dX12_isTempted_43 : decode cX12_isTempted 43 = .ok (.iload_n 2, 1) := by decide +kernel
theorem dX12_isTempted_44 : decode cX12_isTempted 44 = .ok (.iaload, 1) := by decide +kernel
theorem dX12_isTempted_45 : decode cX12_isTempted 45 = .ok (.aload_n 0, 1) := by decide +kernel
theorem dX12_isTempted_46 : decode cX12_isTempted 46 = .ok (.aload_n 1, 1) := by decide +kernel
theorem dX12_isTempted_47 : decode cX12_isTempted 47 = .ok (.iload_n 3, 1) := by decide +kernel
theorem dX12_isTempted_48 : decode cX12_isTempted 48 = .ok (.invokevirtual 358, 3) := by decide +kernel
theorem dX12_isTempted_51 : decode cX12_isTempted 51 = .ok (.if_icmp .le 7, 3) := by decide +kernel
theorem dX12_isTempted_54 : decode cX12_isTempted 54 = .ok (.iconst 1, 1) := by decide +kernel
theorem dX12_isTempted_55 : decode cX12_isTempted 55 = .ok (.goto 4, 3) := by decide +kernel
theorem dX12_isTempted_58 : decode cX12_isTempted 58 = .ok (.iconst 0, 1) := by decide +kernel
theorem dX12_isTempted_59 : decode cX12_isTempted 59 = .ok (.ireturn, 1) := by decide +kernel
set_option maxRecDepth 100000 in
theorem T_X12_isTempted_0 {G : GE} {d C S : Nat} {ρ : Rs} : Snd G MX12_isTempted (d + 1) C S 0 ρ (s_aload 1 (s_iload 2 (s_iaload (s_iload 3 (s_ic_eq (s_iconst 0 (s_zreturn ρ)) (s_aload 0 (s_aload 0 (s_getR 11 33 (s_iload 2 (s_iload 3 (s_callV G d MX12_bannsOf 3 11 (s_if_ne (s_iconst 0 (s_zreturn ρ)) (s_aload 0 (s_getR 11 18 (s_iload 2 (s_aaload (s_iload 3 (s_iaload (s_aload 0 (s_aload 1 (s_iload 2 (s_callV G d MX12_heat 2 11 (s_ic_le (s_iconst 0 (s_zreturn ρ)) (s_aload 0 (s_getR 11 18 (s_iload 3 (s_aaload (s_iload 2 (s_iaload (s_aload 0 (s_aload 1 (s_iload 3 (s_callV G d MX12_heat 2 11 (s_ic_le (s_iconst 0 (s_zreturn ρ)) (s_iconst 1 (s_zreturn ρ)))))))))))))))))))))))))))))))))))) := (e_aload_n dX12_isTempted_0 rfl (e_iload_n dX12_isTempted_1 rfl (e_iaload dX12_isTempted_2 (e_iload_n dX12_isTempted_3 rfl (e_ic_eq (tgt := 58) dX12_isTempted_4 (by decide) (e_iconst (v := 0) dX12_isTempted_58 (by decide) (e_zreturn rfl dX12_isTempted_59)) (e_aload_n dX12_isTempted_7 rfl (e_aload_n dX12_isTempted_8 rfl (e_getR rfl cl_11 (by decide) rfl q_1597 dX12_isTempted_9 (e_iload_n dX12_isTempted_12 rfl (e_iload_n dX12_isTempted_13 rfl (e_callV cl_11 cal_X12_bannsOf q_1881 q_1883 q_79 dX12_isTempted_14 (e_if_ne (tgt := 58) dX12_isTempted_17 (by decide) (e_iconst (v := 0) dX12_isTempted_58 (by decide) (e_zreturn rfl dX12_isTempted_59)) (e_aload_n dX12_isTempted_20 rfl (e_getR rfl cl_11 (by decide) rfl q_1582 dX12_isTempted_21 (e_iload_n dX12_isTempted_24 rfl (e_aaload dX12_isTempted_25 (e_iload_n dX12_isTempted_26 rfl (e_iaload dX12_isTempted_27 (e_aload_n dX12_isTempted_28 rfl (e_aload_n dX12_isTempted_29 rfl (e_iload_n dX12_isTempted_30 rfl (e_callV cl_11 cal_X12_heat q_2004 q_2006 q_93 dX12_isTempted_31 (e_ic_le (tgt := 58) dX12_isTempted_34 (by decide) (e_iconst (v := 0) dX12_isTempted_58 (by decide) (e_zreturn rfl dX12_isTempted_59)) (e_aload_n dX12_isTempted_37 rfl (e_getR rfl cl_11 (by decide) rfl q_1582 dX12_isTempted_38 (e_iload_n dX12_isTempted_41 rfl (e_aaload dX12_isTempted_42 (e_iload_n dX12_isTempted_43 rfl (e_iaload dX12_isTempted_44 (e_aload_n dX12_isTempted_45 rfl (e_aload_n dX12_isTempted_46 rfl (e_iload_n dX12_isTempted_47 rfl (e_callV cl_11 cal_X12_heat q_2004 q_2006 q_93 dX12_isTempted_48 (e_ic_le (tgt := 58) dX12_isTempted_51 (by decide) (e_iconst (v := 0) dX12_isTempted_58 (by decide) (e_zreturn rfl dX12_isTempted_59)) (e_iconst (v := 1) dX12_isTempted_54 (by decide) (e_goto (tgt := 59) dX12_isTempted_55 (by decide) (e_zreturn rfl dX12_isTempted_59)))))))))))))))))))))))))))))))))))))
theorem dX12_isStable_0 : decode cX12_isStable 0 = .ok (.iconst 0, 1) := by decide +kernel
theorem dX12_isStable_1 : decode cX12_isStable 1 = .ok (.istore_n 1, 1) := by decide +kernel
theorem dX12_isStable_2 : decode cX12_isStable 2 = .ok (.iload_n 1, 1) := by decide +kernel
theorem dX12_isStable_3 : decode cX12_isStable 3 = .ok (.aload_n 0, 1) := by decide +kernel
theorem dX12_isStable_4 : decode cX12_isStable 4 = .ok (.getfield 23, 3) := by decide +kernel
theorem dX12_isStable_7 : decode cX12_isStable 7 = .ok (.iconst 1, 1) := by decide +kernel
theorem dX12_isStable_8 : decode cX12_isStable 8 = .ok (.iaload, 1) := by decide +kernel
theorem dX12_isStable_9 : decode cX12_isStable 9 = .ok (.if_icmp .ge 60, 3) := by decide +kernel
theorem dX12_isStable_12 : decode cX12_isStable 12 = .ok (.iload_n 1, 1) := by decide +kernel
theorem dX12_isStable_13 : decode cX12_isStable 13 = .ok (.iconst 1, 1) := by decide +kernel
theorem dX12_isStable_14 : decode cX12_isStable 14 = .ok (.iadd, 1) := by decide +kernel
theorem dX12_isStable_15 : decode cX12_isStable 15 = .ok (.istore_n 2, 1) := by decide +kernel
theorem dX12_isStable_16 : decode cX12_isStable 16 = .ok (.iload_n 2, 1) := by decide +kernel
theorem dX12_isStable_17 : decode cX12_isStable 17 = .ok (.aload_n 0, 1) := by decide +kernel
theorem dX12_isStable_18 : decode cX12_isStable 18 = .ok (.getfield 23, 3) := by decide +kernel
theorem dX12_isStable_21 : decode cX12_isStable 21 = .ok (.iconst 1, 1) := by decide +kernel
theorem dX12_isStable_22 : decode cX12_isStable 22 = .ok (.iaload, 1) := by decide +kernel
theorem dX12_isStable_23 : decode cX12_isStable 23 = .ok (.if_icmp .ge 40, 3) := by decide +kernel
theorem dX12_isStable_26 : decode cX12_isStable 26 = .ok (.aload_n 0, 1) := by decide +kernel
theorem dX12_isStable_27 : decode cX12_isStable 27 = .ok (.iload_n 1, 1) := by decide +kernel
theorem dX12_isStable_28 : decode cX12_isStable 28 = .ok (.invokevirtual 361, 3) := by decide +kernel
theorem dX12_isStable_31 : decode cX12_isStable 31 = .ok (.ifCond .eq 26, 3) := by decide +kernel
theorem dX12_isStable_34 : decode cX12_isStable 34 = .ok (.aload_n 0, 1) := by decide +kernel
theorem dX12_isStable_35 : decode cX12_isStable 35 = .ok (.iload_n 2, 1) := by decide +kernel
theorem dX12_isStable_36 : decode cX12_isStable 36 = .ok (.invokevirtual 361, 3) := by decide +kernel
theorem dX12_isStable_39 : decode cX12_isStable 39 = .ok (.ifCond .eq 18, 3) := by decide +kernel
theorem dX12_isStable_42 : decode cX12_isStable 42 = .ok (.aload_n 0, 1) := by decide +kernel
theorem dX12_isStable_43 : decode cX12_isStable 43 = .ok (.aload_n 0, 1) := by decide +kernel
theorem dX12_isStable_44 : decode cX12_isStable 44 = .ok (.getfield 94, 3) := by decide +kernel
theorem dX12_isStable_47 : decode cX12_isStable 47 = .ok (.iload_n 1, 1) := by decide +kernel
theorem dX12_isStable_48 : decode cX12_isStable 48 = .ok (.iload_n 2, 1) := by decide +kernel
theorem dX12_isStable_49 : decode cX12_isStable 49 = .ok (.invokevirtual 364, 3) := by decide +kernel
theorem dX12_isStable_52 : decode cX12_isStable 52 = .ok (.ifCond .eq 5, 3) := by decide +kernel
theorem dX12_isStable_55 : decode cX12_isStable 55 = .ok (.iconst 0, 1) := by decide +kernel
theorem dX12_isStable_56 : decode cX12_isStable 56 = .ok (.ireturn, 1) := by decide +kernel
theorem dX12_isStable_57 : decode cX12_isStable 57 = .ok (.iinc 2 1, 3) := by decide +kernel
theorem dX12_isStable_60 : decode cX12_isStable 60 = .ok (.goto (-44), 3) := by decide +kernel
theorem dX12_isStable_63 : decode cX12_isStable 63 = .ok (.iinc 1 1, 3) := by decide +kernel
theorem dX12_isStable_66 : decode cX12_isStable 66 = .ok (.goto (-64), 3) := by decide +kernel
theorem dX12_isStable_69 : decode cX12_isStable 69 = .ok (.iconst 1, 1) := by decide +kernel
theorem dX12_isStable_70 : decode cX12_isStable 70 = .ok (.ireturn, 1) := by decide +kernel
set_option maxRecDepth 100000 in
theorem T_X12_isStable_0 {G : GE} {d C S : Nat} {ρ : Rs} : Snd G MX12_isStable (d + 1) C S 0 ρ (s_iconst 0 (s_istore 1 (fun L st h => E G MX12_isStable (d + 1) C S 2 L st h ρ))) := (e_iconst (v := 0) dX12_isStable_0 (by decide) (e_istore_n dX12_isStable_1 rfl (by decide) (fun _ _ _ h9 => h9)))
set_option maxRecDepth 100000 in
theorem T_X12_isStable_2 {G : GE} {d C S : Nat} {ρ : Rs} : Snd G MX12_isStable (d + 1) C S 2 ρ (s_iload 1 (s_aload 0 (s_getR 11 12 (s_iconst 1 (s_iaload (s_ic_ge (s_iconst 1 (s_zreturn ρ)) (s_iload 1 (s_iconst 1 (s_iadd (s_istore 2 (fun L st h => E G MX12_isStable (d + 1) C S 16 L st h ρ))))))))))) := (e_iload_n dX12_isStable_2 rfl (e_aload_n dX12_isStable_3 rfl (e_getR rfl cl_11 (by decide) rfl q_1576 dX12_isStable_4 (e_iconst (v := 1) dX12_isStable_7 (by decide) (e_iaload dX12_isStable_8 (e_ic_ge (tgt := 69) dX12_isStable_9 (by decide) (e_iconst (v := 1) dX12_isStable_69 (by decide) (e_zreturn rfl dX12_isStable_70)) (e_iload_n dX12_isStable_12 rfl (e_iconst (v := 1) dX12_isStable_13 (by decide) (e_iadd dX12_isStable_14 (e_istore_n dX12_isStable_15 rfl (by decide) (fun _ _ _ h9 => h9)))))))))))
set_option maxRecDepth 100000 in
theorem T_X12_isStable_16 {G : GE} {d C S : Nat} {ρ : Rs} : Snd G MX12_isStable (d + 1) C S 16 ρ (s_iload 2 (s_aload 0 (s_getR 11 12 (s_iconst 1 (s_iaload (s_ic_ge (s_iinc 1 1 (fun L st h => E G MX12_isStable (d + 1) C S 2 L st h ρ)) (s_aload 0 (s_iload 1 (s_callV G d MX12_isFree 1 11 (s_if_eq (s_iinc 2 1 (fun L st h => E G MX12_isStable (d + 1) C S 16 L st h ρ)) (s_aload 0 (s_iload 2 (s_callV G d MX12_isFree 1 11 (s_if_eq (s_iinc 2 1 (fun L st h => E G MX12_isStable (d + 1) C S 16 L st h ρ)) (s_aload 0 (s_aload 0 (s_getR 11 45 (s_iload 1 (s_iload 2 (s_callV G d MX12_isTempted 3 11 (s_if_eq (s_iinc 2 1 (fun L st h => E G MX12_isStable (d + 1) C S 16 L st h ρ)) (s_iconst 0 (s_zreturn ρ))))))))))))))))))))))) := (e_iload_n dX12_isStable_16 rfl (e_aload_n dX12_isStable_17 rfl (e_getR rfl cl_11 (by decide) rfl q_1576 dX12_isStable_18 (e_iconst (v := 1) dX12_isStable_21 (by decide) (e_iaload dX12_isStable_22 (e_ic_ge (tgt := 63) dX12_isStable_23 (by decide) (e_iinc (v := 1) dX12_isStable_63 (by decide) (by decide) (e_goto (tgt := 2) dX12_isStable_66 (by decide) (fun _ _ _ h9 => h9))) (e_aload_n dX12_isStable_26 rfl (e_iload_n dX12_isStable_27 rfl (e_callV cl_11 cal_X12_isFree q_2012 q_2014 q_95 dX12_isStable_28 (e_if_eq (tgt := 57) dX12_isStable_31 (by decide) (e_iinc (v := 1) dX12_isStable_57 (by decide) (by decide) (e_goto (tgt := 16) dX12_isStable_60 (by decide) (fun _ _ _ h9 => h9))) (e_aload_n dX12_isStable_34 rfl (e_iload_n dX12_isStable_35 rfl (e_callV cl_11 cal_X12_isFree q_2012 q_2014 q_95 dX12_isStable_36 (e_if_eq (tgt := 57) dX12_isStable_39 (by decide) (e_iinc (v := 1) dX12_isStable_57 (by decide) (by decide) (e_goto (tgt := 16) dX12_isStable_60 (by decide) (fun _ _ _ h9 => h9))) (e_aload_n dX12_isStable_42 rfl (e_aload_n dX12_isStable_43 rfl (e_getR rfl cl_11 (by decide) rfl q_1609 dX12_isStable_44 (e_iload_n dX12_isStable_47 rfl (e_iload_n dX12_isStable_48 rfl (e_callV cl_11 cal_X12_isTempted q_2016 q_2018 q_96 dX12_isStable_49 (e_if_eq (tgt := 57) dX12_isStable_52 (by decide) (e_iinc (v := 1) dX12_isStable_57 (by decide) (by decide) (e_goto (tgt := 16) dX12_isStable_60 (by decide) (fun _ _ _ h9 => h9))) (e_iconst (v := 0) dX12_isStable_55 (by decide) (e_zreturn rfl dX12_isStable_56)))))))))))))))))))))))
theorem dX12_matches_0 : decode cX12_matches 0 = .ok (.iload_n 1, 1) := by decide +kernel
theorem dX12_matches_1 : decode cX12_matches 1 = .ok (.aload_n 0, 1) := by decide +kernel
theorem dX12_matches_2 : decode cX12_matches 2 = .ok (.getfield 23, 3) := by decide +kernel
theorem dX12_matches_5 : decode cX12_matches 5 = .ok (.iconst 1, 1) := by decide +kernel
theorem dX12_matches_6 : decode cX12_matches 6 = .ok (.iaload, 1) := by decide +kernel
theorem dX12_matches_7 : decode cX12_matches 7 = .ok (.if_icmp .ne 137, 3) := by decide +kernel
theorem dX12_matches_10 : decode cX12_matches 10 = .ok (.iconst 0, 1) := by decide +kernel
theorem dX12_matches_11 : decode cX12_matches 11 = .ok (.istore_n 3, 1) := by decide +kernel
theorem dX12_matches_12 : decode cX12_matches 12 = .ok (.iconst 0, 1) := by decide +kernel
theorem dX12_matches_13 : decode cX12_matches 13 = .ok (.istore 4, 2) := by decide +kernel
theorem dX12_matches_15 : decode cX12_matches 15 = .ok (.iload 4, 2) := by decide +kernel
theorem dX12_matches_17 : decode cX12_matches 17 = .ok (.aload_n 0, 1) := by decide +kernel
theorem dX12_matches_18 : decode cX12_matches 18 = .ok (.getfield 23, 3) := by decide +kernel
theorem dX12_matches_21 : decode cX12_matches 21 = .ok (.iconst 1, 1) := by decide +kernel
theorem dX12_matches_22 : decode cX12_matches 22 = .ok (.iaload, 1) := by decide +kernel
theorem dX12_matches_23 : decode cX12_matches 23 = .ok (.if_icmp .ge 22, 3) := by decide +kernel
theorem dX12_matches_26 : decode cX12_matches 26 = .ok (.iload_n 3, 1) := by decide +kernel
theorem dX12_matches_27 : decode cX12_matches 27 = .ok (.aload_n 0, 1) := by decide +kernel
theorem dX12_matches_28 : decode cX12_matches 28 = .ok (.aload_n 0, 1) := by decide +kernel
theorem dX12_matches_29 : decode cX12_matches 29 = .ok (.getfield 94, 3) := by decide +kernel
theorem dX12_matches_32 : decode cX12_matches 32 = .ok (.iload 4, 2) := by decide +kernel
theorem dX12_matches_34 : decode cX12_matches 34 = .ok (.invokevirtual 358, 3) := by decide +kernel
theorem dX12_matches_37 : decode cX12_matches 37 = .ok (.iadd, 1) := by decide +kernel
theorem dX12_matches_38 : decode cX12_matches 38 = .ok (.istore_n 3, 1) := by decide +kernel
theorem dX12_matches_39 : decode cX12_matches 39 = .ok (.iinc 4 1, 3) := by decide +kernel
theorem dX12_matches_42 : decode cX12_matches 42 = .ok (.goto (-27), 3) := by decide +kernel
theorem dX12_matches_45 : decode cX12_matches 45 = .ok (.iload_n 3, 1) := by decide +kernel
theorem dX12_matches_46 : decode cX12_matches 46 = .ok (.aload_n 0, 1) := by decide +kernel
theorem dX12_matches_47 : decode cX12_matches 47 = .ok (.getfield 368, 3) := by decide +kernel
theorem dX12_matches_50 : decode cX12_matches 50 = .ok (.if_icmp .le 38, 3) := by decide +kernel
theorem dX12_matches_53 : decode cX12_matches 53 = .ok (.aload_n 0, 1) := by decide +kernel
theorem dX12_matches_54 : decode cX12_matches 54 = .ok (.iload_n 3, 1) := by decide +kernel
theorem dX12_matches_55 : decode cX12_matches 55 = .ok (.putfield 368, 3) := by decide +kernel
theorem dX12_matches_58 : decode cX12_matches 58 = .ok (.iconst 0, 1) := by decide +kernel
theorem dX12_matches_59 : decode cX12_matches 59 = .ok (.istore 4, 2) := by decide +kernel
theorem dX12_matches_61 : decode cX12_matches 61 = .ok (.iload 4, 2) := by decide +kernel
theorem dX12_matches_63 : decode cX12_matches 63 = .ok (.bipush 8, 2) := by decide +kernel
theorem dX12_matches_65 : decode cX12_matches 65 = .ok (.if_icmp .ge 23, 3) := by decide +kernel
theorem dX12_matches_68 : decode cX12_matches 68 = .ok (.aload_n 0, 1) := by decide +kernel
theorem dX12_matches_69 : decode cX12_matches 69 = .ok (.getfield 100, 3) := by decide +kernel
theorem dX12_matches_72 : decode cX12_matches 72 = .ok (.iload 4, 2) := by decide +kernel
theorem dX12_matches_74 : decode cX12_matches 74 = .ok (.aload_n 0, 1) := by decide +kernel
theorem dX12_matches_75 : decode cX12_matches 75 = .ok (.getfield 94, 3) := by decide +kernel
theorem dX12_matches_78 : decode cX12_matches 78 = .ok (.iload 4, 2) := by decide +kernel
theorem dX12_matches_80 : decode cX12_matches 80 = .ok (.iaload, 1) := by decide +kernel
theorem dX12_matches_81 : decode cX12_matches 81 = .ok (.iastore, 1) := by decide +kernel
theorem dX12_matches_82 : decode cX12_matches 82 = .ok (.iinc 4 1, 3) := by decide +kernel
theorem dX12_matches_85 : decode cX12_matches 85 = .ok (.goto (-24), 3) := by decide +kernel
theorem dX12_matches_88 : decode cX12_matches 88 = .ok (.aload_n 0, 1) := by decide +kernel
theorem dX12_matches_89 : decode cX12_matches 89 = .ok (.invokevirtual 371, 3) := by decide +kernel
theorem dX12_matches_92 : decode cX12_matches 92 = .ok (.ifCond .ne 4, 3) := by decide +kernel
theorem dX12_matches_95 : decode cX12_matches 95 = .ok (.return_, 1) := by decide +kernel
theorem dX12_matches_96 : decode cX12_matches 96 = .ok (.iconst 0, 1) := by decide +kernel
theorem dX12_matches_97 : decode cX12_matches 97 = .ok (.istore 4, 2) := by decide +kernel
theorem dX12_matches_99 : decode cX12_matches 99 = .ok (.iload 4, 2) := by decide +kernel
theorem dX12_matches_101 : decode cX12_matches 101 = .ok (.bipush 8, 2) := by decide +kernel
theorem dX12_matches_103 : decode cX12_matches 103 = .ok (.if_icmp .ge 30, 3) := by decide +kernel
theorem dX12_matches_106 : decode cX12_matches 106 = .ok (.aload_n 0, 1) := by decide +kernel
theorem dX12_matches_107 : decode cX12_matches 107 = .ok (.getfield 374, 3) := by decide +kernel
theorem dX12_matches_110 : decode cX12_matches 110 = .ok (.ifCond .ne 23, 3) := by decide +kernel
theorem dX12_matches_113 : decode cX12_matches 113 = .ok (.aload_n 0, 1) := by decide +kernel
theorem dX12_matches_114 : decode cX12_matches 114 = .ok (.getfield 97, 3) := by decide +kernel
theorem dX12_matches_117 : decode cX12_matches 117 = .ok (.iload 4, 2) := by decide +kernel
theorem dX12_matches_119 : decode cX12_matches 119 = .ok (.aload_n 0, 1) := by decide +kernel
theorem dX12_matches_120 : decode cX12_matches 120 = .ok (.getfield 94, 3) := by decide +kernel
theorem dX12_matches_123 : decode cX12_matches 123 = .ok (.iload 4, 2) := by decide +kernel
theorem dX12_matches_125 : decode cX12_matches 125 = .ok (.iaload, 1) := by decide +kernel
theorem dX12_matches_126 : decode cX12_matches 126 = .ok (.iastore, 1) := by decide +kernel
theorem dX12_matches_127 : decode cX12_matches 127 = .ok (.iinc 4 1, 3) := by decide +kernel
theorem dX12_matches_130 : decode cX12_matches 130 = .ok (.goto (-31), 3) := by decide +kernel
theorem dX12_matches_133 : decode cX12_matches 133 = .ok (.aload_n 0, 1) := by decide +kernel
theorem dX12_matches_134 : decode cX12_matches 134 = .ok (.dup, 1) := by decide +kernel
theorem dX12_matches_135 : decode cX12_matches 135 = .ok (.getfield 374, 3) := by decide +kernel
theorem dX12_matches_138 : decode cX12_matches 138 = .ok (.iconst 1, 1) := by decide +kernel
theorem dX12_matches_139 : decode cX12_matches 139 = .ok (.iadd, 1) := by decide +kernel
theorem dX12_matches_140 : decode cX12_matches 140 = .ok (.putfield 374, 3) := by decide +kernel
theorem dX12_matches_143 : decode cX12_matches 143 = .ok (.return_, 1) := by decide +kernel
theorem dX12_matches_144 : decode cX12_matches 144 = .ok (.aload_n 0, 1) := by decide +kernel
theorem dX12_matches_145 : decode cX12_matches 145 = .ok (.iload_n 1, 1) := by decide +kernel
theorem dX12_matches_146 : decode cX12_matches 146 = .ok (.invokevirtual 361, 3) := by decide +kernel
theorem dX12_matches_149 : decode cX12_matches 149 = .ok (.ifCond .eq 11, 3) := by decide +kernel
theorem dX12_matches_152 : decode cX12_matches 152 = .ok (.iload_n 2, 1) := by decide +kernel
theorem dX12_matches_153 : decode cX12_matches 153 = .ok (.iload_n 1, 1) := by decide +kernel
theorem dX12_matches_154 : decode cX12_matches 154 = .ok (.invokestatic 377, 3) := by decide +kernel
theorem dX12_matches_157 : decode cX12_matches 157 = .ok (.ifCond .eq 12, 3) := by decide +kernel
theorem dX12_matches_160 : decode cX12_matches 160 = .ok (.aload_n 0, 1) := by decide +kernel
theorem dX12_matches_161 : decode cX12_matches 161 = .ok (.iload_n 1, 1) := by decide +kernel
theorem dX12_matches_162 : decode cX12_matches 162 = .ok (.iconst 1, 1) := by decide +kernel
theorem dX12_matches_163 : decode cX12_matches 163 = .ok (.iadd, 1) := by decide +kernel
theorem dX12_matches_164 : decode cX12_matches 164 = .ok (.iload_n 2, 1) := by decide +kernel
theorem dX12_matches_165 : decode cX12_matches 165 = .ok (.invokevirtual 381, 3) := by decide +kernel
theorem dX12_matches_168 : decode cX12_matches 168 = .ok (.return_, 1) := by decide +kernel
theorem dX12_matches_169 : decode cX12_matches 169 = .ok (.aload_n 0, 1) := by decide +kernel
theorem dX12_matches_170 : decode cX12_matches 170 = .ok (.getfield 94, 3) := by decide +kernel
theorem dX12_matches_173 : decode cX12_matches 173 = .ok (.iload_n 1, 1) := by decide +kernel
theorem dX12_matches_174 : decode cX12_matches 174 = .ok (.iconst (-1), 1) := by decide +kernel
theorem dX12_matches_175 : decode cX12_matches 175 = .ok (.iastore, 1) := by decide +kernel
theorem dX12_matches_176 : decode cX12_matches 176 = .ok (.aload_n 0, 1) := by decide +kernel
theorem dX12_matches_177 : decode cX12_matches 177 = .ok (.iload_n 1, 1) := by decide +kernel
theorem dX12_matches_178 : decode cX12_matches 178 = .ok (.iconst 1, 1) := by decide +kernel
theorem dX12_matches_179 : decode cX12_matches 179 = .ok (.iadd, 1) := by decide +kernel
theorem dX12_matches_180 : decode cX12_matches 180 = .ok (.iload_n 2, 1) := by decide +kernel
theorem dX12_matches_181 : decode cX12_matches 181 = .ok (.invokevirtual 381, 3) := by decide +kernel
theorem dX12_matches_184 : decode cX12_matches 184 = .ok (.iload_n 1, 1) := by decide +kernel
theorem dX12_matches_185 : decode cX12_matches 185 = .ok (.iconst 1, 1) := by decide +kernel
theorem dX12_matches_186 : decode cX12_matches 186 = .ok (.iadd, 1) := by decide +kernel
theorem dX12_matches_187 : decode cX12_matches 187 = .ok (.istore_n 3, 1) := by decide +kernel
theorem dX12_matches_188 : decode cX12_matches 188 = .ok (.iload_n 3, 1) := by decide +kernel
theorem dX12_matches_189 : decode cX12_matches 189 = .ok (.aload_n 0, 1) := by decide +kernel
theorem dX12_matches_190 : decode cX12_matches 190 = .ok (.getfield 23, 3) := by decide +kernel
theorem dX12_matches_193 : decode cX12_matches 193 = .ok (.iconst 1, 1) := by decide +kernel
theorem dX12_matches_194 : decode cX12_matches 194 = .ok (.iaload, 1) := by decide +kernel
theorem dX12_matches_195 : decode cX12_matches 195 = .ok (.if_icmp .ge 74, 3) := by decide +kernel
theorem dX12_matches_198 : decode cX12_matches 198 = .ok (.aload_n 0, 1) := by decide +kernel
theorem dX12_matches_199 : decode cX12_matches 199 = .ok (.iload_n 3, 1) := by decide +kernel
theorem dX12_matches_200 : decode cX12_matches 200 = .ok (.invokevirtual 361, 3) := by decide +kernel
theorem dX12_matches_203 : decode cX12_matches 203 = .ok (.ifCond .eq 60, 3) := by decide +kernel
theorem dX12_matches_206 : decode cX12_matches 206 = .ok (.iload_n 2, 1) := by decide +kernel
theorem dX12_matches_207 : decode cX12_matches 207 = .ok (.iload_n 3, 1) := by decide +kernel
theorem dX12_matches_208 : decode cX12_matches 208 = .ok (.invokestatic 377, 3) := by decide +kernel
theorem dX12_matches_211 : decode cX12_matches 211 = .ok (.ifCond .ne 52, 3) := by decide +kernel
theorem dX12_matches_214 : decode cX12_matches 214 = .ok (.aload_n 0, 1) := by decide +kernel
theorem dX12_matches_215 : decode cX12_matches 215 = .ok (.aload_n 0, 1) := by decide +kernel
theorem dX12_matches_216 : decode cX12_matches 216 = .ok (.getfield 79, 3) := by decide +kernel
theorem dX12_matches_219 : decode cX12_matches 219 = .ok (.iload_n 1, 1) := by decide +kernel
theorem dX12_matches_220 : decode cX12_matches 220 = .ok (.iload_n 3, 1) := by decide +kernel
theorem dX12_matches_221 : decode cX12_matches 221 = .ok (.invokevirtual 297, 3) := by decide +kernel
theorem dX12_matches_224 : decode cX12_matches 224 = .ok (.ifCond .eq 6, 3) := by decide +kernel
theorem dX12_matches_227 : decode cX12_matches 227 = .ok (.goto 36, 3) := by decide +kernel
theorem dX12_matches_230 : decode cX12_matches 230 = .ok (.aload_n 0, 1) := by decide +kernel
theorem dX12_matches_231 : decode cX12_matches 231 = .ok (.getfield 94, 3) := by decide +kernel
theorem dX12_matches_234 : decode cX12_matches 234 = .ok (.iload_n 1, 1) := by decide +kernel
theorem dX12_matches_235 : decode cX12_matches 235 = .ok (.iload_n 3, 1) := by decide +kernel
theorem dX12_matches_236 : decode cX12_matches 236 = .ok (.iastore, 1) := by decide +kernel
theorem dX12_matches_237 : decode cX12_matches 237 = .ok (.aload_n 0, 1) := by decide +kernel
theorem dX12_matches_238 : decode cX12_matches 238 = .ok (.getfield 94, 3) := by decide +kernel
theorem dX12_matches_241 : decode cX12_matches 241 = .ok (.iload_n 3, 1) := by decide +kernel
theorem dX12_matches_242 : decode cX12_matches 242 = .ok (.iload_n 1, 1) := by decide +kernel
theorem dX12_matches_243 : decode cX12_matches 243 = .ok (.iastore, 1) := by decide +kernel
theorem dX12_matches_244 : decode cX12_matches 244 = .ok (.aload_n 0, 1) := by decide +kernel
theorem dX12_matches_245 : decode cX12_matches 245 = .ok (.iload_n 1, 1) := by decide +kernel
theorem dX12_matches_246 : decode cX12_matches 246 = .ok (.iconst 1, 1) := by decide +kernel
theorem dX12_matches_247 : decode cX12_matches 247 = .ok (.iadd, 1) := by decide +kernel
theorem dX12_matches_248 : decode cX12_matches 248 = .ok (.iload_n 2, 1) := by decide +kernel
theorem dX12_matches_249 : decode cX12_matches 249 = .ok (.iconst 1, 1) := by decide +kernel
theorem dX12_matches_250 : decode cX12_matches 250 = .ok (.iload_n 3, 1) := by decide +kernel
theorem dX12_matches_251 : decode cX12_matches 251 = .ok (.ishl, 1) := by decide +kernel
theorem dX12_matches_252 : decode cX12_matches 252 = .ok (.ior, 1) := by decide +kernel
theorem dX12_matches_253 : decode cX12_matches 253 = .ok (.invokevirtual 381, 3) := by decide +kernel
theorem dX12_matches_256 : decode cX12_matches 256 = .ok (.aload_n 0, 1) := by decide +kernel
theorem dX12_matches_257 : decode cX12_matches 257 = .ok (.getfield 94, 3) := by decide +kernel
theorem dX12_matches_260 : decode cX12_matches 260 = .ok (.iload_n 3, 1) := by decide +kernel
theorem dX12_matches_261 : decode cX12_matches 261 = .ok (.iconst (-1), 1) := by decide +kernel
theorem dX12_matches_262 : decode cX12_matches 262 = .ok (.iastore, 1) := by decide +kernel
theorem dX12_matches_263 : decode cX12_matches 263 = .ok (.iinc 3 1, 3) := by decide +kernel
theorem dX12_matches_266 : decode cX12_matches 266 = .ok (.goto (-78), 3) := by decide +kernel
theorem dX12_matches_269 : decode cX12_matches 269 = .ok (.aload_n 0, 1) := by decide +kernel
theorem dX12_matches_270 : decode cX12_matches 270 = .ok (.getfield 94, 3) := by decide +kernel
theorem dX12_matches_273 : decode cX12_matches 273 = .ok (.iload_n 1, 1) := by decide +kernel
theorem dX12_matches_274 : decode cX12_matches 274 = .ok (.iconst (-1), 1) := by decide +kernel
theorem dX12_matches_275 : decode cX12_matches 275 = .ok (.iastore, 1) := by decide +kernel
theorem dX12_matches_276 : decode cX12_matches 276 = .ok (.return_, 1) := by decide +kernel
set_option maxRecDepth 100000 in
theorem T_X12_matches_0 {G : GE} {d C S : Nat} {ρ : Rs} : Snd G MX12_matches (d + 1) C S 0 ρ (s_iload 1 (s_aload 0 (s_getR 11 12 (s_iconst 1 (s_iaload (s_ic_ne (s_aload 0 (s_iload 1 (s_callV G d MX12_isFree 1 11 (s_if_eq (s_aload 0 (s_iload 1 (s_iconst 1 (s_iadd (s_iload 2 (s_callV G d MX12_matches 2 11 (s_return ρ))))))) (s_iload 2 (s_iload 1 (s_call G d MX12_has 2 (s_if_eq (s_aload 0 (s_getR 11 45 (s_iload 1 (s_iconst (-1) (s_iastore (s_aload 0 (s_iload 1 (s_iconst 1 (s_iadd (s_iload 2 (s_callV G d MX12_matches 2 11 (s_iload 1 (s_iconst 1 (s_iadd (s_istore 3 (fun L st h => E G MX12_matches (d + 1) C S 188 L st h ρ)))))))))))))))) (s_aload 0 (s_iload 1 (s_iconst 1 (s_iadd (s_iload 2 (s_callV G d MX12_matches 2 11 (s_return ρ))))))))))))))) (s_iconst 0 (s_istore 3 (s_iconst 0 (s_istore 4 (fun L st h => E G MX12_matches (d + 1) C S 15 L st h ρ))))))))))) := (e_iload_n dX12_matches_0 rfl (e_aload_n dX12_matches_1 rfl (e_getR rfl cl_11 (by decide) rfl q_1576 dX12_matches_2 (e_iconst (v := 1) dX12_matches_5 (by decide) (e_iaload dX12_matches_6 (e_ic_ne (tgt := 144) dX12_matches_7 (by decide) (e_aload_n dX12_matches_144 rfl (e_iload_n dX12_matches_145 rfl (e_callV cl_11 cal_X12_isFree q_2012 q_2014 q_95 dX12_matches_146 (e_if_eq (tgt := 160) dX12_matches_149 (by decide) (e_aload_n dX12_matches_160 rfl (e_iload_n dX12_matches_161 rfl (e_iconst (v := 1) dX12_matches_162 (by decide) (e_iadd dX12_matches_163 (e_iload_n dX12_matches_164 rfl (e_callV cl_11 cal_X12_matches q_2000 q_2002 q_92 dX12_matches_165 (e_return rfl dX12_matches_168))))))) (e_iload_n dX12_matches_152 rfl (e_iload_n dX12_matches_153 rfl (e_callS cal_X12_has q_2020 q_2021 dX12_matches_154 (e_if_eq (tgt := 169) dX12_matches_157 (by decide) (e_aload_n dX12_matches_169 rfl (e_getR rfl cl_11 (by decide) rfl q_1609 dX12_matches_170 (e_iload_n dX12_matches_173 rfl (e_iconst (v := (-1)) dX12_matches_174 (by decide) (e_iastore dX12_matches_175 (e_aload_n dX12_matches_176 rfl (e_iload_n dX12_matches_177 rfl (e_iconst (v := 1) dX12_matches_178 (by decide) (e_iadd dX12_matches_179 (e_iload_n dX12_matches_180 rfl (e_callV cl_11 cal_X12_matches q_2000 q_2002 q_92 dX12_matches_181 (e_iload_n dX12_matches_184 rfl (e_iconst (v := 1) dX12_matches_185 (by decide) (e_iadd dX12_matches_186 (e_istore_n dX12_matches_187 rfl (by decide) (fun _ _ _ h9 => h9)))))))))))))))) (e_aload_n dX12_matches_160 rfl (e_iload_n dX12_matches_161 rfl (e_iconst (v := 1) dX12_matches_162 (by decide) (e_iadd dX12_matches_163 (e_iload_n dX12_matches_164 rfl (e_callV cl_11 cal_X12_matches q_2000 q_2002 q_92 dX12_matches_165 (e_return rfl dX12_matches_168))))))))))))))) (e_iconst (v := 0) dX12_matches_10 (by decide) (e_istore_n dX12_matches_11 rfl (by decide) (e_iconst (v := 0) dX12_matches_12 (by decide) (e_istore dX12_matches_13 (by decide) (fun _ _ _ h9 => h9)))))))))))
set_option maxRecDepth 100000 in
theorem T_X12_matches_15 {G : GE} {d C S : Nat} {ρ : Rs} : Snd G MX12_matches (d + 1) C S 15 ρ (s_iload 4 (s_aload 0 (s_getR 11 12 (s_iconst 1 (s_iaload (s_ic_ge (s_iload 3 (s_aload 0 (s_getI 11 49 (s_ic_le (s_aload 0 (s_callV G d MX12_isStable 0 11 (s_if_ne (s_iconst 0 (s_istore 4 (fun L st h => E G MX12_matches (d + 1) C S 99 L st h ρ))) (s_return ρ)))) (s_aload 0 (s_iload 3 (s_putI 11 49 (s_iconst 0 (s_istore 4 (fun L st h => E G MX12_matches (d + 1) C S 61 L st h ρ)))))))))) (s_iload 3 (s_aload 0 (s_aload 0 (s_getR 11 45 (s_iload 4 (s_callV G d MX12_heat 2 11 (s_iadd (s_istore 3 (s_iinc 4 1 (fun L st h => E G MX12_matches (d + 1) C S 15 L st h ρ)))))))))))))))) := (e_iload dX12_matches_15 (e_aload_n dX12_matches_17 rfl (e_getR rfl cl_11 (by decide) rfl q_1576 dX12_matches_18 (e_iconst (v := 1) dX12_matches_21 (by decide) (e_iaload dX12_matches_22 (e_ic_ge (tgt := 45) dX12_matches_23 (by decide) (e_iload_n dX12_matches_45 rfl (e_aload_n dX12_matches_46 rfl (e_getI rfl cl_11 (by decide) rfl q_1613 dX12_matches_47 (e_ic_le (tgt := 88) dX12_matches_50 (by decide) (e_aload_n dX12_matches_88 rfl (e_callV cl_11 cal_X12_isStable q_2008 q_2010 q_94 dX12_matches_89 (e_if_ne (tgt := 96) dX12_matches_92 (by decide) (e_iconst (v := 0) dX12_matches_96 (by decide) (e_istore dX12_matches_97 (by decide) (fun _ _ _ h9 => h9))) (e_return rfl dX12_matches_95)))) (e_aload_n dX12_matches_53 rfl (e_iload_n dX12_matches_54 rfl (e_putI rfl cl_11 (by decide) rfl rfl rfl q_1613 dX12_matches_55 (e_iconst (v := 0) dX12_matches_58 (by decide) (e_istore dX12_matches_59 (by decide) (fun _ _ _ h9 => h9)))))))))) (e_iload_n dX12_matches_26 rfl (e_aload_n dX12_matches_27 rfl (e_aload_n dX12_matches_28 rfl (e_getR rfl cl_11 (by decide) rfl q_1609 dX12_matches_29 (e_iload dX12_matches_32 (e_callV cl_11 cal_X12_heat q_2004 q_2006 q_93 dX12_matches_34 (e_iadd dX12_matches_37 (e_istore_n dX12_matches_38 rfl (by decide) (e_iinc (v := 1) dX12_matches_39 (by decide) (by decide) (e_goto (tgt := 15) dX12_matches_42 (by decide) (fun _ _ _ h9 => h9)))))))))))))))))
set_option maxRecDepth 100000 in
theorem T_X12_matches_61 {G : GE} {d C S : Nat} {ρ : Rs} : Snd G MX12_matches (d + 1) C S 61 ρ (s_iload 4 (s_iconst 8 (s_ic_ge (s_aload 0 (s_callV G d MX12_isStable 0 11 (s_if_ne (s_iconst 0 (s_istore 4 (fun L st h => E G MX12_matches (d + 1) C S 99 L st h ρ))) (s_return ρ)))) (s_aload 0 (s_getR 11 47 (s_iload 4 (s_aload 0 (s_getR 11 45 (s_iload 4 (s_iaload (s_iastore (s_iinc 4 1 (fun L st h => E G MX12_matches (d + 1) C S 61 L st h ρ))))))))))))) := (e_iload dX12_matches_61 (e_bipush (v := 8) dX12_matches_63 (by decide) (e_ic_ge (tgt := 88) dX12_matches_65 (by decide) (e_aload_n dX12_matches_88 rfl (e_callV cl_11 cal_X12_isStable q_2008 q_2010 q_94 dX12_matches_89 (e_if_ne (tgt := 96) dX12_matches_92 (by decide) (e_iconst (v := 0) dX12_matches_96 (by decide) (e_istore dX12_matches_97 (by decide) (fun _ _ _ h9 => h9))) (e_return rfl dX12_matches_95)))) (e_aload_n dX12_matches_68 rfl (e_getR rfl cl_11 (by decide) rfl q_1611 dX12_matches_69 (e_iload dX12_matches_72 (e_aload_n dX12_matches_74 rfl (e_getR rfl cl_11 (by decide) rfl q_1609 dX12_matches_75 (e_iload dX12_matches_78 (e_iaload dX12_matches_80 (e_iastore dX12_matches_81 (e_iinc (v := 1) dX12_matches_82 (by decide) (by decide) (e_goto (tgt := 61) dX12_matches_85 (by decide) (fun _ _ _ h9 => h9))))))))))))))
set_option maxRecDepth 100000 in
theorem T_X12_matches_99 {G : GE} {d C S : Nat} {ρ : Rs} : Snd G MX12_matches (d + 1) C S 99 ρ (s_iload 4 (s_iconst 8 (s_ic_ge (s_aload 0 (s_dup (s_getI 11 48 (s_iconst 1 (s_iadd (s_putI 11 48 (s_return ρ))))))) (s_aload 0 (s_getI 11 48 (s_if_ne (s_aload 0 (s_dup (s_getI 11 48 (s_iconst 1 (s_iadd (s_putI 11 48 (s_return ρ))))))) (s_aload 0 (s_getR 11 46 (s_iload 4 (s_aload 0 (s_getR 11 45 (s_iload 4 (s_iaload (s_iastore (s_iinc 4 1 (fun L st h => E G MX12_matches (d + 1) C S 99 L st h ρ)))))))))))))))) := (e_iload dX12_matches_99 (e_bipush (v := 8) dX12_matches_101 (by decide) (e_ic_ge (tgt := 133) dX12_matches_103 (by decide) (e_aload_n dX12_matches_133 rfl (e_dup dX12_matches_134 (e_getI rfl cl_11 (by decide) rfl q_1612 dX12_matches_135 (e_iconst (v := 1) dX12_matches_138 (by decide) (e_iadd dX12_matches_139 (e_putI rfl cl_11 (by decide) rfl rfl rfl q_1612 dX12_matches_140 (e_return rfl dX12_matches_143))))))) (e_aload_n dX12_matches_106 rfl (e_getI rfl cl_11 (by decide) rfl q_1612 dX12_matches_107 (e_if_ne (tgt := 133) dX12_matches_110 (by decide) (e_aload_n dX12_matches_133 rfl (e_dup dX12_matches_134 (e_getI rfl cl_11 (by decide) rfl q_1612 dX12_matches_135 (e_iconst (v := 1) dX12_matches_138 (by decide) (e_iadd dX12_matches_139 (e_putI rfl cl_11 (by decide) rfl rfl rfl q_1612 dX12_matches_140 (e_return rfl dX12_matches_143))))))) (e_aload_n dX12_matches_113 rfl (e_getR rfl cl_11 (by decide) rfl q_1610 dX12_matches_114 (e_iload dX12_matches_117 (e_aload_n dX12_matches_119 rfl (e_getR rfl cl_11 (by decide) rfl q_1609 dX12_matches_120 (e_iload dX12_matches_123 (e_iaload dX12_matches_125 (e_iastore dX12_matches_126 (e_iinc (v := 1) dX12_matches_127 (by decide) (by decide) (e_goto (tgt := 99) dX12_matches_130 (by decide) (fun _ _ _ h9 => h9)))))))))))))))))
set_option maxRecDepth 100000 in
theorem T_X12_matches_188 {G : GE} {d C S : Nat} {ρ : Rs} : Snd G MX12_matches (d + 1) C S 188 ρ (s_iload 3 (s_aload 0 (s_getR 11 12 (s_iconst 1 (s_iaload (s_ic_ge (s_aload 0 (s_getR 11 45 (s_iload 1 (s_iconst (-1) (s_iastore (s_return ρ)))))) (s_aload 0 (s_iload 3 (s_callV G d MX12_isFree 1 11 (s_if_eq (s_iinc 3 1 (fun L st h => E G MX12_matches (d + 1) C S 188 L st h ρ)) (s_iload 2 (s_iload 3 (s_call G d MX12_has 2 (s_if_ne (s_iinc 3 1 (fun L st h => E G MX12_matches (d + 1) C S 188 L st h ρ)) (s_aload 0 (s_aload 0 (s_getR 11 33 (s_iload 1 (s_iload 3 (s_callV G d MX12_bannsOf 3 11 (s_if_eq (s_aload 0 (s_getR 11 45 (s_iload 1 (s_iload 3 (s_iastore (s_aload 0 (s_getR 11 45 (s_iload 3 (s_iload 1 (s_iastore (s_aload 0 (s_iload 1 (s_iconst 1 (s_iadd (s_iload 2 (s_iconst 1 (s_iload 3 (s_ishl (s_ior (s_callV G d MX12_matches 2 11 (s_aload 0 (s_getR 11 45 (s_iload 3 (s_iconst (-1) (s_iastore (s_iinc 3 1 (fun L st h => E G MX12_matches (d + 1) C S 188 L st h ρ))))))))))))))))))))))))))) (s_iinc 3 1 (fun L st h => E G MX12_matches (d + 1) C S 188 L st h ρ))))))))))))))))))))))) := (e_iload_n dX12_matches_188 rfl (e_aload_n dX12_matches_189 rfl (e_getR rfl cl_11 (by decide) rfl q_1576 dX12_matches_190 (e_iconst (v := 1) dX12_matches_193 (by decide) (e_iaload dX12_matches_194 (e_ic_ge (tgt := 269) dX12_matches_195 (by decide) (e_aload_n dX12_matches_269 rfl (e_getR rfl cl_11 (by decide) rfl q_1609 dX12_matches_270 (e_iload_n dX12_matches_273 rfl (e_iconst (v := (-1)) dX12_matches_274 (by decide) (e_iastore dX12_matches_275 (e_return rfl dX12_matches_276)))))) (e_aload_n dX12_matches_198 rfl (e_iload_n dX12_matches_199 rfl (e_callV cl_11 cal_X12_isFree q_2012 q_2014 q_95 dX12_matches_200 (e_if_eq (tgt := 263) dX12_matches_203 (by decide) (e_iinc (v := 1) dX12_matches_263 (by decide) (by decide) (e_goto (tgt := 188) dX12_matches_266 (by decide) (fun _ _ _ h9 => h9))) (e_iload_n dX12_matches_206 rfl (e_iload_n dX12_matches_207 rfl (e_callS cal_X12_has q_2020 q_2021 dX12_matches_208 (e_if_ne (tgt := 263) dX12_matches_211 (by decide) (e_iinc (v := 1) dX12_matches_263 (by decide) (by decide) (e_goto (tgt := 188) dX12_matches_266 (by decide) (fun _ _ _ h9 => h9))) (e_aload_n dX12_matches_214 rfl (e_aload_n dX12_matches_215 rfl (e_getR rfl cl_11 (by decide) rfl q_1597 dX12_matches_216 (e_iload_n dX12_matches_219 rfl (e_iload_n dX12_matches_220 rfl (e_callV cl_11 cal_X12_bannsOf q_1881 q_1883 q_79 dX12_matches_221 (e_if_eq (tgt := 230) dX12_matches_224 (by decide) (e_aload_n dX12_matches_230 rfl (e_getR rfl cl_11 (by decide) rfl q_1609 dX12_matches_231 (e_iload_n dX12_matches_234 rfl (e_iload_n dX12_matches_235 rfl (e_iastore dX12_matches_236 (e_aload_n dX12_matches_237 rfl (e_getR rfl cl_11 (by decide) rfl q_1609 dX12_matches_238 (e_iload_n dX12_matches_241 rfl (e_iload_n dX12_matches_242 rfl (e_iastore dX12_matches_243 (e_aload_n dX12_matches_244 rfl (e_iload_n dX12_matches_245 rfl (e_iconst (v := 1) dX12_matches_246 (by decide) (e_iadd dX12_matches_247 (e_iload_n dX12_matches_248 rfl (e_iconst (v := 1) dX12_matches_249 (by decide) (e_iload_n dX12_matches_250 rfl (e_ishl dX12_matches_251 (e_ior dX12_matches_252 (e_callV cl_11 cal_X12_matches q_2000 q_2002 q_92 dX12_matches_253 (e_aload_n dX12_matches_256 rfl (e_getR rfl cl_11 (by decide) rfl q_1609 dX12_matches_257 (e_iload_n dX12_matches_260 rfl (e_iconst (v := (-1)) dX12_matches_261 (by decide) (e_iastore dX12_matches_262 (e_iinc (v := 1) dX12_matches_263 (by decide) (by decide) (e_goto (tgt := 188) dX12_matches_266 (by decide) (fun _ _ _ h9 => h9)))))))))))))))))))))))))))) (e_goto (tgt := 263) dX12_matches_227 (by decide) (e_iinc (v := 1) dX12_matches_263 (by decide) (by decide) (e_goto (tgt := 188) dX12_matches_266 (by decide) (fun _ _ _ h9 => h9)))))))))))))))))))))))))
theorem dX12_laysMatches_0 : decode cX12_laysMatches 0 = .ok (.iconst 0, 1) := by decide +kernel
theorem dX12_laysMatches_1 : decode cX12_laysMatches 1 = .ok (.istore_n 1, 1) := by decide +kernel
theorem dX12_laysMatches_2 : decode cX12_laysMatches 2 = .ok (.iload_n 1, 1) := by decide +kernel
theorem dX12_laysMatches_3 : decode cX12_laysMatches 3 = .ok (.bipush 8, 2) := by decide +kernel
theorem dX12_laysMatches_5 : decode cX12_laysMatches 5 = .ok (.if_icmp .ge 30, 3) := by decide +kernel
theorem dX12_laysMatches_8 : decode cX12_laysMatches 8 = .ok (.aload_n 0, 1) := by decide +kernel
theorem dX12_laysMatches_9 : decode cX12_laysMatches 9 = .ok (.getfield 94, 3) := by decide +kernel
theorem dX12_laysMatches_12 : decode cX12_laysMatches 12 = .ok (.iload_n 1, 1) := by decide +kernel
theorem dX12_laysMatches_13 : decode cX12_laysMatches 13 = .ok (.iconst (-1), 1) := by decide +kernel
theorem dX12_laysMatches_14 : decode cX12_laysMatches 14 = .ok (.iastore, 1) := by decide +kernel
theorem dX12_laysMatches_15 : decode cX12_laysMatches 15 = .ok (.aload_n 0, 1) := by decide +kernel
theorem dX12_laysMatches_16 : decode cX12_laysMatches 16 = .ok (.getfield 97, 3) := by decide +kernel
theorem dX12_laysMatches_19 : decode cX12_laysMatches 19 = .ok (.iload_n 1, 1) := by decide +kernel
theorem dX12_laysMatches_20 : decode cX12_laysMatches 20 = .ok (.iconst (-1), 1) := by decide +kernel
theorem dX12_laysMatches_21 : decode cX12_laysMatches 21 = .ok (.iastore, 1) := by decide +kernel
theorem dX12_laysMatches_22 : decode cX12_laysMatches 22 = .ok (.aload_n 0, 1) := by decide +kernel
theorem dX12_laysMatches_23 : decode cX12_laysMatches 23 = .ok (.getfield 100, 3) := by decide +kernel
theorem dX12_laysMatches_26 : decode cX12_laysMatches 26 = .ok (.iload_n 1, 1) := by decide +kernel
theorem dX12_laysMatches_27 : decode cX12_laysMatches 27 = .ok (.iconst (-1), 1) := by decide +kernel
theorem dX12_laysMatches_28 : decode cX12_laysMatches 28 = .ok (.iastore, 1) := by decide +kernel
theorem dX12_laysMatches_29 : decode cX12_laysMatches 29 = .ok (.iinc 1 1, 3) := by decide +kernel
theorem dX12_laysMatches_32 : decode cX12_laysMatches 32 = .ok (.goto (-30), 3) := by decide +kernel
theorem dX12_laysMatches_35 : decode cX12_laysMatches 35 = .ok (.aload_n 0, 1) := by decide +kernel
theorem dX12_laysMatches_36 : decode cX12_laysMatches 36 = .ok (.iconst 0, 1) := by decide +kernel
theorem dX12_laysMatches_37 : decode cX12_laysMatches 37 = .ok (.putfield 374, 3) := by decide +kernel
theorem dX12_laysMatches_40 : decode cX12_laysMatches 40 = .ok (.aload_n 0, 1) := by decide +kernel
theorem dX12_laysMatches_41 : decode cX12_laysMatches 41 = .ok (.iconst (-1), 1) := by decide +kernel
theorem dX12_laysMatches_42 : decode cX12_laysMatches 42 = .ok (.putfield 368, 3) := by decide +kernel
theorem dX12_laysMatches_45 : decode cX12_laysMatches 45 = .ok (.aload_n 0, 1) := by decide +kernel
theorem dX12_laysMatches_46 : decode cX12_laysMatches 46 = .ok (.iconst 0, 1) := by decide +kernel
theorem dX12_laysMatches_47 : decode cX12_laysMatches 47 = .ok (.iconst 0, 1) := by decide +kernel
theorem dX12_laysMatches_48 : decode cX12_laysMatches 48 = .ok (.invokevirtual 381, 3) := by decide +kernel
theorem dX12_laysMatches_51 : decode cX12_laysMatches 51 = .ok (.return_, 1) := by decide +kernel
set_option maxRecDepth 100000 in
theorem T_X12_laysMatches_0 {G : GE} {d C S : Nat} {ρ : Rs} : Snd G MX12_laysMatches (d + 1) C S 0 ρ (s_iconst 0 (s_istore 1 (fun L st h => E G MX12_laysMatches (d + 1) C S 2 L st h ρ))) := (e_iconst (v := 0) dX12_laysMatches_0 (by decide) (e_istore_n dX12_laysMatches_1 rfl (by decide) (fun _ _ _ h9 => h9)))
set_option maxRecDepth 100000 in
theorem T_X12_laysMatches_2 {G : GE} {d C S : Nat} {ρ : Rs} : Snd G MX12_laysMatches (d + 1) C S 2 ρ (s_iload 1 (s_iconst 8 (s_ic_ge (s_aload 0 (s_iconst 0 (s_putI 11 48 (s_aload 0 (s_iconst (-1) (s_putI 11 49 (s_aload 0 (s_iconst 0 (s_iconst 0 (s_callV G d MX12_matches 2 11 (s_return ρ))))))))))) (s_aload 0 (s_getR 11 45 (s_iload 1 (s_iconst (-1) (s_iastore (s_aload 0 (s_getR 11 46 (s_iload 1 (s_iconst (-1) (s_iastore (s_aload 0 (s_getR 11 47 (s_iload 1 (s_iconst (-1) (s_iastore (s_iinc 1 1 (fun L st h => E G MX12_laysMatches (d + 1) C S 2 L st h ρ)))))))))))))))))))) := (e_iload_n dX12_laysMatches_2 rfl (e_bipush (v := 8) dX12_laysMatches_3 (by decide) (e_ic_ge (tgt := 35) dX12_laysMatches_5 (by decide) (e_aload_n dX12_laysMatches_35 rfl (e_iconst (v := 0) dX12_laysMatches_36 (by decide) (e_putI rfl cl_11 (by decide) rfl rfl rfl q_1612 dX12_laysMatches_37 (e_aload_n dX12_laysMatches_40 rfl (e_iconst (v := (-1)) dX12_laysMatches_41 (by decide) (e_putI rfl cl_11 (by decide) rfl rfl rfl q_1613 dX12_laysMatches_42 (e_aload_n dX12_laysMatches_45 rfl (e_iconst (v := 0) dX12_laysMatches_46 (by decide) (e_iconst (v := 0) dX12_laysMatches_47 (by decide) (e_callV cl_11 cal_X12_matches q_2000 q_2002 q_92 dX12_laysMatches_48 (e_return rfl dX12_laysMatches_51))))))))))) (e_aload_n dX12_laysMatches_8 rfl (e_getR rfl cl_11 (by decide) rfl q_1609 dX12_laysMatches_9 (e_iload_n dX12_laysMatches_12 rfl (e_iconst (v := (-1)) dX12_laysMatches_13 (by decide) (e_iastore dX12_laysMatches_14 (e_aload_n dX12_laysMatches_15 rfl (e_getR rfl cl_11 (by decide) rfl q_1610 dX12_laysMatches_16 (e_iload_n dX12_laysMatches_19 rfl (e_iconst (v := (-1)) dX12_laysMatches_20 (by decide) (e_iastore dX12_laysMatches_21 (e_aload_n dX12_laysMatches_22 rfl (e_getR rfl cl_11 (by decide) rfl q_1611 dX12_laysMatches_23 (e_iload_n dX12_laysMatches_26 rfl (e_iconst (v := (-1)) dX12_laysMatches_27 (by decide) (e_iastore dX12_laysMatches_28 (e_iinc (v := 1) dX12_laysMatches_29 (by decide) (by decide) (e_goto (tgt := 2) dX12_laysMatches_32 (by decide) (fun _ _ _ h9 => h9)))))))))))))))))))))
theorem dX12_stable_0 : decode cX12_stable 0 = .ok (.aload_n 0, 1) := by decide +kernel
theorem dX12_stable_1 : decode cX12_stable 1 = .ok (.iconst 0, 1) := by decide +kernel
theorem dX12_stable_2 : decode cX12_stable 2 = .ok (.putfield 115, 3) := by decide +kernel
theorem dX12_stable_5 : decode cX12_stable 5 = .ok (.aload_n 0, 1) := by decide +kernel
theorem dX12_stable_6 : decode cX12_stable 6 = .ok (.invokevirtual 384, 3) := by decide +kernel
theorem dX12_stable_9 : decode cX12_stable 9 = .ok (.aload_n 0, 1) := by decide +kernel
theorem dX12_stable_10 : decode cX12_stable 10 = .ok (.getfield 374, 3) := by decide +kernel
theorem dX12_stable_13 : decode cX12_stable 13 = .ok (.ireturn, 1) := by decide +kernel
set_option maxRecDepth 100000 in
theorem T_X12_stable_0 {G : GE} {d C S : Nat} {ρ : Rs} : Snd G MX12_stable (d + 1) C S 0 ρ (s_aload 0 (s_iconst 0 (s_putI 11 0 (s_aload 0 (s_callV G d MX12_laysMatches 0 11 (s_aload 0 (s_getI 11 48 (s_ireturn ρ)))))))) := (e_aload_n dX12_stable_0 rfl (e_iconst (v := 0) dX12_stable_1 (by decide) (e_putI rfl cl_11 (by decide) rfl rfl rfl q_1564 dX12_stable_2 (e_aload_n dX12_stable_5 rfl (e_callV cl_11 cal_X12_laysMatches q_1996 q_1998 q_91 dX12_stable_6 (e_aload_n dX12_stable_9 rfl (e_getI rfl cl_11 (by decide) rfl q_1612 dX12_stable_10 (e_ireturn rfl dX12_stable_13))))))))
theorem dX12_stableFor_0 : decode cX12_stableFor 0 = .ok (.aload_n 0, 1) := by decide +kernel
theorem dX12_stableFor_1 : decode cX12_stableFor 1 = .ok (.iconst 0, 1) := by decide +kernel
theorem dX12_stableFor_2 : decode cX12_stableFor 2 = .ok (.putfield 115, 3) := by decide +kernel
theorem dX12_stableFor_5 : decode cX12_stableFor 5 = .ok (.aload_n 0, 1) := by decide +kernel
theorem dX12_stableFor_6 : decode cX12_stableFor 6 = .ok (.aload_n 0, 1) := by decide +kernel
theorem dX12_stableFor_7 : decode cX12_stableFor 7 = .ok (.iload_n 1, 1) := by decide +kernel
theorem dX12_stableFor_8 : decode cX12_stableFor 8 = .ok (.invokevirtual 340, 3) := by decide +kernel
theorem dX12_stableFor_11 : decode cX12_stableFor 11 = .ok (.ifCond .ne 7, 3) := by decide +kernel
theorem dX12_stableFor_14 : decode cX12_stableFor 14 = .ok (.iconst 1, 1) := by decide +kernel
theorem dX12_stableFor_15 : decode cX12_stableFor 15 = .ok (.goto 4, 3) := by decide +kernel
theorem dX12_stableFor_18 : decode cX12_stableFor 18 = .ok (.iconst 0, 1) := by decide +kernel
theorem dX12_stableFor_19 : decode cX12_stableFor 19 = .ok (.iconst 1, 1) := by decide +kernel
theorem dX12_stableFor_20 : decode cX12_stableFor 20 = .ok (.iconst 1, 1) := by decide +kernel
theorem dX12_stableFor_21 : decode cX12_stableFor 21 = .ok (.invokevirtual 198, 3) := by decide +kernel
theorem dX12_stableFor_24 : decode cX12_stableFor 24 = .ok (.ifCond .eq 5, 3) := by decide +kernel
theorem dX12_stableFor_27 : decode cX12_stableFor 27 = .ok (.iconst 0, 1) := by decide +kernel
theorem dX12_stableFor_28 : decode cX12_stableFor 28 = .ok (.ireturn, 1) := by decide +kernel
theorem dX12_stableFor_29 : decode cX12_stableFor 29 = .ok (.aload_n 0, 1) := by decide +kernel
theorem dX12_stableFor_30 : decode cX12_stableFor 30 = .ok (.invokevirtual 384, 3) := by decide +kernel
theorem dX12_stableFor_33 : decode cX12_stableFor 33 = .ok (.aload_n 0, 1) := by decide +kernel
theorem dX12_stableFor_34 : decode cX12_stableFor 34 = .ok (.getfield 97, 3) := by decide +kernel
theorem dX12_stableFor_37 : decode cX12_stableFor 37 = .ok (.iload_n 1, 1) := by decide +kernel
theorem dX12_stableFor_38 : decode cX12_stableFor 38 = .ok (.iaload, 1) := by decide +kernel
theorem dX12_stableFor_39 : decode cX12_stableFor 39 = .ok (.ireturn, 1) := by decide +kernel
set_option maxRecDepth 100000 in
theorem T_X12_stableFor_0 {G : GE} {d C S : Nat} {ρ : Rs} : Snd G MX12_stableFor (d + 1) C S 0 ρ (s_aload 0 (s_iconst 0 (s_putI 11 0 (s_aload 0 (s_aload 0 (s_iload 1 (s_callV G d MX12_isStreet 1 11 (s_if_ne (s_iconst 0 (s_iconst 1 (s_iconst 1 (s_callV G d MX12_bad 3 11 (s_if_eq (s_aload 0 (s_callV G d MX12_laysMatches 0 11 (s_aload 0 (s_getR 11 46 (s_iload 1 (s_iaload (s_ireturn ρ))))))) (s_iconst 0 (s_ireturn ρ))))))) (s_iconst 1 (s_iconst 1 (s_iconst 1 (s_callV G d MX12_bad 3 11 (s_if_eq (s_aload 0 (s_callV G d MX12_laysMatches 0 11 (s_aload 0 (s_getR 11 46 (s_iload 1 (s_iaload (s_ireturn ρ))))))) (s_iconst 0 (s_ireturn ρ))))))))))))))) := (e_aload_n dX12_stableFor_0 rfl (e_iconst (v := 0) dX12_stableFor_1 (by decide) (e_putI rfl cl_11 (by decide) rfl rfl rfl q_1564 dX12_stableFor_2 (e_aload_n dX12_stableFor_5 rfl (e_aload_n dX12_stableFor_6 rfl (e_iload_n dX12_stableFor_7 rfl (e_callV cl_11 cal_X12_isStreet q_1945 q_1947 q_86 dX12_stableFor_8 (e_if_ne (tgt := 18) dX12_stableFor_11 (by decide) (e_iconst (v := 0) dX12_stableFor_18 (by decide) (e_iconst (v := 1) dX12_stableFor_19 (by decide) (e_iconst (v := 1) dX12_stableFor_20 (by decide) (e_callV cl_11 cal_X12_bad q_1742 q_1744 q_53 dX12_stableFor_21 (e_if_eq (tgt := 29) dX12_stableFor_24 (by decide) (e_aload_n dX12_stableFor_29 rfl (e_callV cl_11 cal_X12_laysMatches q_1996 q_1998 q_91 dX12_stableFor_30 (e_aload_n dX12_stableFor_33 rfl (e_getR rfl cl_11 (by decide) rfl q_1610 dX12_stableFor_34 (e_iload_n dX12_stableFor_37 rfl (e_iaload dX12_stableFor_38 (e_ireturn rfl dX12_stableFor_39))))))) (e_iconst (v := 0) dX12_stableFor_27 (by decide) (e_ireturn rfl dX12_stableFor_28))))))) (e_iconst (v := 1) dX12_stableFor_14 (by decide) (e_goto (tgt := 19) dX12_stableFor_15 (by decide) (e_iconst (v := 1) dX12_stableFor_19 (by decide) (e_iconst (v := 1) dX12_stableFor_20 (by decide) (e_callV cl_11 cal_X12_bad q_1742 q_1744 q_53 dX12_stableFor_21 (e_if_eq (tgt := 29) dX12_stableFor_24 (by decide) (e_aload_n dX12_stableFor_29 rfl (e_callV cl_11 cal_X12_laysMatches q_1996 q_1998 q_91 dX12_stableFor_30 (e_aload_n dX12_stableFor_33 rfl (e_getR rfl cl_11 (by decide) rfl q_1610 dX12_stableFor_34 (e_iload_n dX12_stableFor_37 rfl (e_iaload dX12_stableFor_38 (e_ireturn rfl dX12_stableFor_39))))))) (e_iconst (v := 0) dX12_stableFor_27 (by decide) (e_ireturn rfl dX12_stableFor_28))))))))))))))))
theorem dX12_best_0 : decode cX12_best 0 = .ok (.aload_n 0, 1) := by decide +kernel
theorem dX12_best_1 : decode cX12_best 1 = .ok (.iconst 0, 1) := by decide +kernel
theorem dX12_best_2 : decode cX12_best 2 = .ok (.putfield 115, 3) := by decide +kernel
theorem dX12_best_5 : decode cX12_best 5 = .ok (.aload_n 0, 1) := by decide +kernel
theorem dX12_best_6 : decode cX12_best 6 = .ok (.invokevirtual 384, 3) := by decide +kernel
theorem dX12_best_9 : decode cX12_best 9 = .ok (.aload_n 0, 1) := by decide +kernel
theorem dX12_best_10 : decode cX12_best 10 = .ok (.getfield 368, 3) := by decide +kernel
theorem dX12_best_13 : decode cX12_best 13 = .ok (.ireturn, 1) := by decide +kernel
set_option maxRecDepth 100000 in
theorem T_X12_best_0 {G : GE} {d C S : Nat} {ρ : Rs} : Snd G MX12_best (d + 1) C S 0 ρ (s_aload 0 (s_iconst 0 (s_putI 11 0 (s_aload 0 (s_callV G d MX12_laysMatches 0 11 (s_aload 0 (s_getI 11 49 (s_ireturn ρ)))))))) := (e_aload_n dX12_best_0 rfl (e_iconst (v := 0) dX12_best_1 (by decide) (e_putI rfl cl_11 (by decide) rfl rfl rfl q_1564 dX12_best_2 (e_aload_n dX12_best_5 rfl (e_callV cl_11 cal_X12_laysMatches q_1996 q_1998 q_91 dX12_best_6 (e_aload_n dX12_best_9 rfl (e_getI rfl cl_11 (by decide) rfl q_1613 dX12_best_10 (e_ireturn rfl dX12_best_13))))))))
theorem dX12_bestFor_0 : decode cX12_bestFor 0 = .ok (.aload_n 0, 1) := by decide +kernel
theorem dX12_bestFor_1 : decode cX12_bestFor 1 = .ok (.iconst 0, 1) := by decide +kernel
theorem dX12_bestFor_2 : decode cX12_bestFor 2 = .ok (.putfield 115, 3) := by decide +kernel
theorem dX12_bestFor_5 : decode cX12_bestFor 5 = .ok (.aload_n 0, 1) := by decide +kernel
theorem dX12_bestFor_6 : decode cX12_bestFor 6 = .ok (.aload_n 0, 1) := by decide +kernel
theorem dX12_bestFor_7 : decode cX12_bestFor 7 = .ok (.iload_n 1, 1) := by decide +kernel
theorem dX12_bestFor_8 : decode cX12_bestFor 8 = .ok (.invokevirtual 340, 3) := by decide +kernel
theorem dX12_bestFor_11 : decode cX12_bestFor 11 = .ok (.ifCond .ne 7, 3) := by decide +kernel
theorem dX12_bestFor_14 : decode cX12_bestFor 14 = .ok (.iconst 1, 1) := by decide +kernel
theorem dX12_bestFor_15 : decode cX12_bestFor 15 = .ok (.goto 4, 3) := by decide +kernel
theorem dX12_bestFor_18 : decode cX12_bestFor 18 = .ok (.iconst 0, 1) := by decide +kernel
theorem dX12_bestFor_19 : decode cX12_bestFor 19 = .ok (.iconst 1, 1) := by decide +kernel
theorem dX12_bestFor_20 : decode cX12_bestFor 20 = .ok (.iconst 1, 1) := by decide +kernel
theorem dX12_bestFor_21 : decode cX12_bestFor 21 = .ok (.invokevirtual 198, 3) := by decide +kernel
theorem dX12_bestFor_24 : decode cX12_bestFor 24 = .ok (.ifCond .eq 5, 3) := by decide +kernel
theorem dX12_bestFor_27 : decode cX12_bestFor 27 = .ok (.iconst 0, 1) := by decide +kernel
theorem dX12_bestFor_28 : decode cX12_bestFor 28 = .ok (.ireturn, 1) := by decide +kernel
theorem dX12_bestFor_29 : decode cX12_bestFor 29 = .ok (.aload_n 0, 1) := by decide +kernel
theorem dX12_bestFor_30 : decode cX12_bestFor 30 = .ok (.invokevirtual 384, 3) := by decide +kernel
theorem dX12_bestFor_33 : decode cX12_bestFor 33 = .ok (.aload_n 0, 1) := by decide +kernel
theorem dX12_bestFor_34 : decode cX12_bestFor 34 = .ok (.getfield 100, 3) := by decide +kernel
theorem dX12_bestFor_37 : decode cX12_bestFor 37 = .ok (.iload_n 1, 1) := by decide +kernel
theorem dX12_bestFor_38 : decode cX12_bestFor 38 = .ok (.iaload, 1) := by decide +kernel
theorem dX12_bestFor_39 : decode cX12_bestFor 39 = .ok (.ireturn, 1) := by decide +kernel
set_option maxRecDepth 100000 in
theorem T_X12_bestFor_0 {G : GE} {d C S : Nat} {ρ : Rs} : Snd G MX12_bestFor (d + 1) C S 0 ρ (s_aload 0 (s_iconst 0 (s_putI 11 0 (s_aload 0 (s_aload 0 (s_iload 1 (s_callV G d MX12_isStreet 1 11 (s_if_ne (s_iconst 0 (s_iconst 1 (s_iconst 1 (s_callV G d MX12_bad 3 11 (s_if_eq (s_aload 0 (s_callV G d MX12_laysMatches 0 11 (s_aload 0 (s_getR 11 47 (s_iload 1 (s_iaload (s_ireturn ρ))))))) (s_iconst 0 (s_ireturn ρ))))))) (s_iconst 1 (s_iconst 1 (s_iconst 1 (s_callV G d MX12_bad 3 11 (s_if_eq (s_aload 0 (s_callV G d MX12_laysMatches 0 11 (s_aload 0 (s_getR 11 47 (s_iload 1 (s_iaload (s_ireturn ρ))))))) (s_iconst 0 (s_ireturn ρ))))))))))))))) := (e_aload_n dX12_bestFor_0 rfl (e_iconst (v := 0) dX12_bestFor_1 (by decide) (e_putI rfl cl_11 (by decide) rfl rfl rfl q_1564 dX12_bestFor_2 (e_aload_n dX12_bestFor_5 rfl (e_aload_n dX12_bestFor_6 rfl (e_iload_n dX12_bestFor_7 rfl (e_callV cl_11 cal_X12_isStreet q_1945 q_1947 q_86 dX12_bestFor_8 (e_if_ne (tgt := 18) dX12_bestFor_11 (by decide) (e_iconst (v := 0) dX12_bestFor_18 (by decide) (e_iconst (v := 1) dX12_bestFor_19 (by decide) (e_iconst (v := 1) dX12_bestFor_20 (by decide) (e_callV cl_11 cal_X12_bad q_1742 q_1744 q_53 dX12_bestFor_21 (e_if_eq (tgt := 29) dX12_bestFor_24 (by decide) (e_aload_n dX12_bestFor_29 rfl (e_callV cl_11 cal_X12_laysMatches q_1996 q_1998 q_91 dX12_bestFor_30 (e_aload_n dX12_bestFor_33 rfl (e_getR rfl cl_11 (by decide) rfl q_1611 dX12_bestFor_34 (e_iload_n dX12_bestFor_37 rfl (e_iaload dX12_bestFor_38 (e_ireturn rfl dX12_bestFor_39))))))) (e_iconst (v := 0) dX12_bestFor_27 (by decide) (e_ireturn rfl dX12_bestFor_28))))))) (e_iconst (v := 1) dX12_bestFor_14 (by decide) (e_goto (tgt := 19) dX12_bestFor_15 (by decide) (e_iconst (v := 1) dX12_bestFor_19 (by decide) (e_iconst (v := 1) dX12_bestFor_20 (by decide) (e_callV cl_11 cal_X12_bad q_1742 q_1744 q_53 dX12_bestFor_21 (e_if_eq (tgt := 29) dX12_bestFor_24 (by decide) (e_aload_n dX12_bestFor_29 rfl (e_callV cl_11 cal_X12_laysMatches q_1996 q_1998 q_91 dX12_bestFor_30 (e_aload_n dX12_bestFor_33 rfl (e_getR rfl cl_11 (by decide) rfl q_1611 dX12_bestFor_34 (e_iload_n dX12_bestFor_37 rfl (e_iaload dX12_bestFor_38 (e_ireturn rfl dX12_bestFor_39))))))) (e_iconst (v := 0) dX12_bestFor_27 (by decide) (e_ireturn rfl dX12_bestFor_28))))))))))))))))
theorem dX12_tempted_0 : decode cX12_tempted 0 = .ok (.aload_n 0, 1) := by decide +kernel
theorem dX12_tempted_1 : decode cX12_tempted 1 = .ok (.iconst 0, 1) := by decide +kernel
theorem dX12_tempted_2 : decode cX12_tempted 2 = .ok (.putfield 115, 3) := by decide +kernel
theorem dX12_tempted_5 : decode cX12_tempted 5 = .ok (.iconst 0, 1) := by decide +kernel
theorem dX12_tempted_6 : decode cX12_tempted 6 = .ok (.istore_n 1, 1) := by decide +kernel
theorem dX12_tempted_7 : decode cX12_tempted 7 = .ok (.iload_n 1, 1) := by decide +kernel
theorem dX12_tempted_8 : decode cX12_tempted 8 = .ok (.aload_n 0, 1) := by decide +kernel
theorem dX12_tempted_9 : decode cX12_tempted 9 = .ok (.getfield 23, 3) := by decide +kernel
theorem dX12_tempted_12 : decode cX12_tempted 12 = .ok (.iconst 1, 1) := by decide +kernel
theorem dX12_tempted_13 : decode cX12_tempted 13 = .ok (.iaload, 1) := by decide +kernel
theorem dX12_tempted_14 : decode cX12_tempted 14 = .ok (.if_icmp .ge 49, 3) := by decide +kernel
theorem dX12_tempted_17 : decode cX12_tempted 17 = .ok (.iload_n 1, 1) := by decide +kernel
theorem dX12_tempted_18 : decode cX12_tempted 18 = .ok (.iconst 1, 1) := by decide +kernel
theorem dX12_tempted_19 : decode cX12_tempted 19 = .ok (.iadd, 1) := by decide +kernel
theorem dX12_tempted_20 : decode cX12_tempted 20 = .ok (.istore_n 2, 1) := by decide +kernel
theorem dX12_tempted_21 : decode cX12_tempted 21 = .ok (.iload_n 2, 1) := by decide +kernel
theorem dX12_tempted_22 : decode cX12_tempted 22 = .ok (.aload_n 0, 1) := by decide +kernel
theorem dX12_tempted_23 : decode cX12_tempted 23 = .ok (.getfield 23, 3) := by decide +kernel
theorem dX12_tempted_26 : decode cX12_tempted 26 = .ok (.iconst 1, 1) := by decide +kernel
theorem dX12_tempted_27 : decode cX12_tempted 27 = .ok (.iaload, 1) := by decide +kernel
theorem dX12_tempted_28 : decode cX12_tempted 28 = .ok (.if_icmp .ge 29, 3) := by decide +kernel
theorem dX12_tempted_31 : decode cX12_tempted 31 = .ok (.aload_n 0, 1) := by decide +kernel
theorem dX12_tempted_32 : decode cX12_tempted 32 = .ok (.aload_n 0, 1) := by decide +kernel
theorem dX12_tempted_33 : decode cX12_tempted 33 = .ok (.getfield 79, 3) := by decide +kernel
theorem dX12_tempted_36 : decode cX12_tempted 36 = .ok (.iload_n 1, 1) := by decide +kernel
theorem dX12_tempted_37 : decode cX12_tempted 37 = .ok (.iload_n 2, 1) := by decide +kernel
theorem dX12_tempted_38 : decode cX12_tempted 38 = .ok (.invokevirtual 364, 3) := by decide +kernel
theorem dX12_tempted_41 : decode cX12_tempted 41 = .ok (.ifCond .eq 10, 3) := by decide +kernel
theorem dX12_tempted_44 : decode cX12_tempted 44 = .ok (.bipush 10, 2) := by decide +kernel
theorem dX12_tempted_46 : decode cX12_tempted 46 = .ok (.iload_n 1, 1) := by decide +kernel
theorem dX12_tempted_47 : decode cX12_tempted 47 = .ok (.imul, 1) := by decide +kernel
theorem dX12_tempted_48 : decode cX12_tempted 48 = .ok (.iload_n 2, 1) := by decide +kernel
theorem dX12_tempted_49 : decode cX12_tempted 49 = .ok (.iadd, 1) := by decide +kernel
theorem dX12_tempted_50 : decode cX12_tempted 50 = .ok (.ireturn, 1) := by decide +kernel
theorem dX12_tempted_51 : decode cX12_tempted 51 = .ok (.iinc 2 1, 3) := by decide +kernel
theorem dX12_tempted_54 : decode cX12_tempted 54 = .ok (.goto (-33), 3) := by decide +kernel
theorem dX12_tempted_57 : decode cX12_tempted 57 = .ok (.iinc 1 1, 3) := by decide +kernel
theorem dX12_tempted_60 : decode cX12_tempted 60 = .ok (.goto (-53), 3) := by decide +kernel
theorem dX12_tempted_63 : decode cX12_tempted 63 = .ok (.iconst (-1), 1) := by decide +kernel
theorem dX12_tempted_64 : decode cX12_tempted 64 = .ok (.ireturn, 1) := by decide +kernel
set_option maxRecDepth 100000 in
theorem T_X12_tempted_0 {G : GE} {d C S : Nat} {ρ : Rs} : Snd G MX12_tempted (d + 1) C S 0 ρ (s_aload 0 (s_iconst 0 (s_putI 11 0 (s_iconst 0 (s_istore 1 (fun L st h => E G MX12_tempted (d + 1) C S 7 L st h ρ)))))) := (e_aload_n dX12_tempted_0 rfl (e_iconst (v := 0) dX12_tempted_1 (by decide) (e_putI rfl cl_11 (by decide) rfl rfl rfl q_1564 dX12_tempted_2 (e_iconst (v := 0) dX12_tempted_5 (by decide) (e_istore_n dX12_tempted_6 rfl (by decide) (fun _ _ _ h9 => h9))))))
set_option maxRecDepth 100000 in
theorem T_X12_tempted_7 {G : GE} {d C S : Nat} {ρ : Rs} : Snd G MX12_tempted (d + 1) C S 7 ρ (s_iload 1 (s_aload 0 (s_getR 11 12 (s_iconst 1 (s_iaload (s_ic_ge (s_iconst (-1) (s_ireturn ρ)) (s_iload 1 (s_iconst 1 (s_iadd (s_istore 2 (fun L st h => E G MX12_tempted (d + 1) C S 21 L st h ρ))))))))))) := (e_iload_n dX12_tempted_7 rfl (e_aload_n dX12_tempted_8 rfl (e_getR rfl cl_11 (by decide) rfl q_1576 dX12_tempted_9 (e_iconst (v := 1) dX12_tempted_12 (by decide) (e_iaload dX12_tempted_13 (e_ic_ge (tgt := 63) dX12_tempted_14 (by decide) (e_iconst (v := (-1)) dX12_tempted_63 (by decide) (e_ireturn rfl dX12_tempted_64)) (e_iload_n dX12_tempted_17 rfl (e_iconst (v := 1) dX12_tempted_18 (by decide) (e_iadd dX12_tempted_19 (e_istore_n dX12_tempted_20 rfl (by decide) (fun _ _ _ h9 => h9)))))))))))
set_option maxRecDepth 100000 in
theorem T_X12_tempted_21 {G : GE} {d C S : Nat} {ρ : Rs} : Snd G MX12_tempted (d + 1) C S 21 ρ (s_iload 2 (s_aload 0 (s_getR 11 12 (s_iconst 1 (s_iaload (s_ic_ge (s_iinc 1 1 (fun L st h => E G MX12_tempted (d + 1) C S 7 L st h ρ)) (s_aload 0 (s_aload 0 (s_getR 11 33 (s_iload 1 (s_iload 2 (s_callV G d MX12_isTempted 3 11 (s_if_eq (s_iinc 2 1 (fun L st h => E G MX12_tempted (d + 1) C S 21 L st h ρ)) (s_iconst 10 (s_iload 1 (s_imul (s_iload 2 (s_iadd (s_ireturn ρ))))))))))))))))))) := (e_iload_n dX12_tempted_21 rfl (e_aload_n dX12_tempted_22 rfl (e_getR rfl cl_11 (by decide) rfl q_1576 dX12_tempted_23 (e_iconst (v := 1) dX12_tempted_26 (by decide) (e_iaload dX12_tempted_27 (e_ic_ge (tgt := 57) dX12_tempted_28 (by decide) (e_iinc (v := 1) dX12_tempted_57 (by decide) (by decide) (e_goto (tgt := 7) dX12_tempted_60 (by decide) (fun _ _ _ h9 => h9))) (e_aload_n dX12_tempted_31 rfl (e_aload_n dX12_tempted_32 rfl (e_getR rfl cl_11 (by decide) rfl q_1597 dX12_tempted_33 (e_iload_n dX12_tempted_36 rfl (e_iload_n dX12_tempted_37 rfl (e_callV cl_11 cal_X12_isTempted q_2016 q_2018 q_96 dX12_tempted_38 (e_if_eq (tgt := 51) dX12_tempted_41 (by decide) (e_iinc (v := 1) dX12_tempted_51 (by decide) (by decide) (e_goto (tgt := 21) dX12_tempted_54 (by decide) (fun _ _ _ h9 => h9))) (e_bipush (v := 10) dX12_tempted_44 (by decide) (e_iload_n dX12_tempted_46 rfl (e_imul dX12_tempted_47 (e_iload_n dX12_tempted_48 rfl (e_iadd dX12_tempted_49 (e_ireturn rfl dX12_tempted_50)))))))))))))))))))
theorem dX12_laysWays_0 : decode cX12_laysWays 0 = .ok (.iconst 0, 1) := by decide +kernel
theorem dX12_laysWays_1 : decode cX12_laysWays 1 = .ok (.istore_n 2, 1) := by decide +kernel
theorem dX12_laysWays_2 : decode cX12_laysWays 2 = .ok (.iload_n 2, 1) := by decide +kernel
theorem dX12_laysWays_3 : decode cX12_laysWays 3 = .ok (.bipush 10, 2) := by decide +kernel
theorem dX12_laysWays_5 : decode cX12_laysWays 5 = .ok (.if_icmp .ge 41, 3) := by decide +kernel
theorem dX12_laysWays_8 : decode cX12_laysWays 8 = .ok (.iconst 0, 1) := by decide +kernel
theorem dX12_laysWays_9 : decode cX12_laysWays 9 = .ok (.istore_n 3, 1) := by decide +kernel
theorem dX12_laysWays_10 : decode cX12_laysWays 10 = .ok (.iload_n 3, 1) := by decide +kernel
theorem dX12_laysWays_11 : decode cX12_laysWays 11 = .ok (.bipush 10, 2) := by decide +kernel
theorem dX12_laysWays_13 : decode cX12_laysWays 13 = .ok (.if_icmp .ge 27, 3) := by decide +kernel
theorem dX12_laysWays_16 : decode cX12_laysWays 16 = .ok (.aload_n 0, 1) := by decide +kernel
theorem dX12_laysWays_17 : decode cX12_laysWays 17 = .ok (.getfield 91, 3) := by decide +kernel
theorem dX12_laysWays_20 : decode cX12_laysWays 20 = .ok (.iload_n 2, 1) := by decide +kernel
theorem dX12_laysWays_21 : decode cX12_laysWays 21 = .ok (.aaload, 1) := by decide +kernel
theorem dX12_laysWays_22 : decode cX12_laysWays 22 = .ok (.iload_n 3, 1) := by decide +kernel
theorem dX12_laysWays_23 : decode cX12_laysWays 23 = .ok (.iload_n 2, 1) := by decide +kernel
theorem dX12_laysWays_24 : decode cX12_laysWays 24 = .ok (.iload_n 3, 1) := by decide +kernel
theorem dX12_laysWays_25 : decode cX12_laysWays 25 = .ok (.if_icmp .ne 7, 3) := by decide +kernel
theorem dX12_laysWays_28 : decode cX12_laysWays 28 = .ok (.iconst 0, 1) := by decide +kernel
theorem dX12_laysWays_29 : decode cX12_laysWays 29 = .ok (.goto 4, 3) := by decide +kernel
theorem dX12_laysWays_32 : decode cX12_laysWays 32 = .ok (.iconst (-1), 1) := by decide +kernel
theorem dX12_laysWays_33 : decode cX12_laysWays 33 = .ok (.iastore, 1) := by decide +kernel
theorem dX12_laysWays_34 : decode cX12_laysWays 34 = .ok (.iinc 3 1, 3) := by decide +kernel
theorem dX12_laysWays_37 : decode cX12_laysWays 37 = .ok (.goto (-27), 3) := by decide +kernel
theorem dX12_laysWays_40 : decode cX12_laysWays 40 = .ok (.iinc 2 1, 3) := by decide +kernel
theorem dX12_laysWays_43 : decode cX12_laysWays 43 = .ok (.goto (-41), 3) := by decide +kernel
theorem dX12_laysWays_46 : decode cX12_laysWays 46 = .ok (.iconst 0, 1) := by decide +kernel
theorem dX12_laysWays_47 : decode cX12_laysWays 47 = .ok (.istore_n 2, 1) := by decide +kernel
theorem dX12_laysWays_48 : decode cX12_laysWays 48 = .ok (.iload_n 2, 1) := by decide +kernel
theorem dX12_laysWays_49 : decode cX12_laysWays 49 = .ok (.aload_n 0, 1) := by decide +kernel
theorem dX12_laysWays_50 : decode cX12_laysWays 50 = .ok (.getfield 23, 3) := by decide +kernel
theorem dX12_laysWays_53 : decode cX12_laysWays 53 = .ok (.iconst 1, 1) := by decide +kernel
theorem dX12_laysWays_54 : decode cX12_laysWays 54 = .ok (.iaload, 1) := by decide +kernel
theorem dX12_laysWays_55 : decode cX12_laysWays 55 = .ok (.if_icmp .ge 94, 3) := by decide +kernel
theorem dX12_laysWays_58 : decode cX12_laysWays 58 = .ok (.aload_n 0, 1) := by decide +kernel
theorem dX12_laysWays_59 : decode cX12_laysWays 59 = .ok (.getfield 37, 3) := by decide +kernel
theorem dX12_laysWays_62 : decode cX12_laysWays 62 = .ok (.iload_n 2, 1) := by decide +kernel
theorem dX12_laysWays_63 : decode cX12_laysWays 63 = .ok (.aaload, 1) := by decide +kernel
theorem dX12_laysWays_64 : decode cX12_laysWays 64 = .ok (.iconst 0, 1) := by decide +kernel
theorem dX12_laysWays_65 : decode cX12_laysWays 65 = .ok (.iaload, 1) := by decide +kernel
theorem dX12_laysWays_66 : decode cX12_laysWays 66 = .ok (.istore_n 3, 1) := by decide +kernel
theorem dX12_laysWays_67 : decode cX12_laysWays 67 = .ok (.aload_n 0, 1) := by decide +kernel
theorem dX12_laysWays_68 : decode cX12_laysWays 68 = .ok (.getfield 37, 3) := by decide +kernel
theorem dX12_laysWays_71 : decode cX12_laysWays 71 = .ok (.iload_n 2, 1) := by decide +kernel
theorem dX12_laysWays_72 : decode cX12_laysWays 72 = .ok (.aaload, 1) := by decide +kernel
theorem dX12_laysWays_73 : decode cX12_laysWays 73 = .ok (.iconst 1, 1) := by decide +kernel
theorem dX12_laysWays_74 : decode cX12_laysWays 74 = .ok (.iaload, 1) := by decide +kernel
theorem dX12_laysWays_75 : decode cX12_laysWays 75 = .ok (.istore 4, 2) := by decide +kernel
theorem dX12_laysWays_77 : decode cX12_laysWays 77 = .ok (.iload_n 2, 1) := by decide +kernel
theorem dX12_laysWays_78 : decode cX12_laysWays 78 = .ok (.iload_n 1, 1) := by decide +kernel
theorem dX12_laysWays_79 : decode cX12_laysWays 79 = .ok (.if_icmp .eq 64, 3) := by decide +kernel
theorem dX12_laysWays_82 : decode cX12_laysWays 82 = .ok (.aload_n 0, 1) := by decide +kernel
theorem dX12_laysWays_83 : decode cX12_laysWays 83 = .ok (.getfield 91, 3) := by decide +kernel
theorem dX12_laysWays_86 : decode cX12_laysWays 86 = .ok (.iload_n 3, 1) := by decide +kernel
theorem dX12_laysWays_87 : decode cX12_laysWays 87 = .ok (.aaload, 1) := by decide +kernel
theorem dX12_laysWays_88 : decode cX12_laysWays 88 = .ok (.iload 4, 2) := by decide +kernel
theorem dX12_laysWays_90 : decode cX12_laysWays 90 = .ok (.iaload, 1) := by decide +kernel
theorem dX12_laysWays_91 : decode cX12_laysWays 91 = .ok (.iconst (-1), 1) := by decide +kernel
theorem dX12_laysWays_92 : decode cX12_laysWays 92 = .ok (.if_icmp .eq 23, 3) := by decide +kernel
theorem dX12_laysWays_95 : decode cX12_laysWays 95 = .ok (.aload_n 0, 1) := by decide +kernel
theorem dX12_laysWays_96 : decode cX12_laysWays 96 = .ok (.getfield 91, 3) := by decide +kernel
theorem dX12_laysWays_99 : decode cX12_laysWays 99 = .ok (.iload_n 3, 1) := by decide +kernel
theorem dX12_laysWays_100 : decode cX12_laysWays 100 = .ok (.aaload, 1) := by decide +kernel
theorem dX12_laysWays_101 : decode cX12_laysWays 101 = .ok (.iload 4, 2) := by decide +kernel
theorem dX12_laysWays_103 : decode cX12_laysWays 103 = .ok (.iaload, 1) := by decide +kernel
theorem dX12_laysWays_104 : decode cX12_laysWays 104 = .ok (.aload_n 0, 1) := by decide +kernel
theorem dX12_laysWays_105 : decode cX12_laysWays 105 = .ok (.iload_n 2, 1) := by decide +kernel
theorem dX12_laysWays_106 : decode cX12_laysWays 106 = .ok (.invokevirtual 283, 3) := by decide +kernel
theorem dX12_laysWays_109 : decode cX12_laysWays 109 = .ok (.if_icmp .gt 6, 3) := by decide +kernel
theorem dX12_laysWays_112 : decode cX12_laysWays 112 = .ok (.goto 31, 3) := by decide +kernel
theorem dX12_laysWays_115 : decode cX12_laysWays 115 = .ok (.aload_n 0, 1) := by decide +kernel
theorem dX12_laysWays_116 : decode cX12_laysWays 116 = .ok (.getfield 91, 3) := by decide +kernel
theorem dX12_laysWays_119 : decode cX12_laysWays 119 = .ok (.iload_n 3, 1) := by decide +kernel
theorem dX12_laysWays_120 : decode cX12_laysWays 120 = .ok (.aaload, 1) := by decide +kernel
theorem dX12_laysWays_121 : decode cX12_laysWays 121 = .ok (.iload 4, 2) := by decide +kernel
theorem dX12_laysWays_123 : decode cX12_laysWays 123 = .ok (.aload_n 0, 1) := by decide +kernel
theorem dX12_laysWays_124 : decode cX12_laysWays 124 = .ok (.iload_n 2, 1) := by decide +kernel
theorem dX12_laysWays_125 : decode cX12_laysWays 125 = .ok (.invokevirtual 283, 3) := by decide +kernel
theorem dX12_laysWays_128 : decode cX12_laysWays 128 = .ok (.iastore, 1) := by decide +kernel
theorem dX12_laysWays_129 : decode cX12_laysWays 129 = .ok (.aload_n 0, 1) := by decide +kernel
theorem dX12_laysWays_130 : decode cX12_laysWays 130 = .ok (.getfield 91, 3) := by decide +kernel
theorem dX12_laysWays_133 : decode cX12_laysWays 133 = .ok (.iload 4, 2) := by decide +kernel
theorem dX12_laysWays_135 : decode cX12_laysWays 135 = .ok (.aaload, 1) := by decide +kernel
theorem dX12_laysWays_136 : decode cX12_laysWays 136 = .ok (.iload_n 3, 1) := by decide +kernel
theorem dX12_laysWays_137 : decode cX12_laysWays 137 = .ok (.aload_n 0, 1) := by decide +kernel
theorem dX12_laysWays_138 : decode cX12_laysWays 138 = .ok (.iload_n 2, 1) := by decide +kernel
theorem dX12_laysWays_139 : decode cX12_laysWays 139 = .ok (.invokevirtual 283, 3) := by decide +kernel
theorem dX12_laysWays_142 : decode cX12_laysWays 142 = .ok (.iastore, 1) := by decide +kernel
theorem dX12_laysWays_143 : decode cX12_laysWays 143 = .ok (.iinc 2 1, 3) := by decide +kernel
theorem dX12_laysWays_146 : decode cX12_laysWays 146 = .ok (.goto (-98), 3) := by decide +kernel
theorem dX12_laysWays_149 : decode cX12_laysWays 149 = .ok (.iconst 0, 1) := by decide +kernel
theorem dX12_laysWays_150 : decode cX12_laysWays 150 = .ok (.istore_n 2, 1) := by decide +kernel
theorem dX12_laysWays_151 : decode cX12_laysWays 151 = .ok (.iload_n 2, 1) := by decide +kernel
theorem dX12_laysWays_152 : decode cX12_laysWays 152 = .ok (.bipush 10, 2) := by decide +kernel
theorem dX12_laysWays_154 : decode cX12_laysWays 154 = .ok (.if_icmp .ge 128, 3) := by decide +kernel
theorem dX12_laysWays_157 : decode cX12_laysWays 157 = .ok (.iconst 0, 1) := by decide +kernel
theorem dX12_laysWays_158 : decode cX12_laysWays 158 = .ok (.istore_n 3, 1) := by decide +kernel
theorem dX12_laysWays_159 : decode cX12_laysWays 159 = .ok (.iload_n 3, 1) := by decide +kernel
theorem dX12_laysWays_160 : decode cX12_laysWays 160 = .ok (.bipush 10, 2) := by decide +kernel
theorem dX12_laysWays_162 : decode cX12_laysWays 162 = .ok (.if_icmp .ge 114, 3) := by decide +kernel
theorem dX12_laysWays_165 : decode cX12_laysWays 165 = .ok (.iconst 0, 1) := by decide +kernel
theorem dX12_laysWays_166 : decode cX12_laysWays 166 = .ok (.istore 4, 2) := by decide +kernel
theorem dX12_laysWays_168 : decode cX12_laysWays 168 = .ok (.iload 4, 2) := by decide +kernel
theorem dX12_laysWays_170 : decode cX12_laysWays 170 = .ok (.bipush 10, 2) := by decide +kernel
theorem dX12_laysWays_172 : decode cX12_laysWays 172 = .ok (.if_icmp .ge 98, 3) := by decide +kernel
theorem dX12_laysWays_175 : decode cX12_laysWays 175 = .ok (.aload_n 0, 1) := by decide +kernel
theorem dX12_laysWays_176 : decode cX12_laysWays 176 = .ok (.getfield 91, 3) := by decide +kernel
theorem dX12_laysWays_179 : decode cX12_laysWays 179 = .ok (.iload_n 3, 1) := by decide +kernel
theorem dX12_laysWays_180 : decode cX12_laysWays 180 = .ok (.aaload, 1) := by decide +kernel
theorem dX12_laysWays_181 : decode cX12_laysWays 181 = .ok (.iload_n 2, 1) := by decide +kernel
theorem dX12_laysWays_182 : decode cX12_laysWays 182 = .ok (.iaload, 1) := by decide +kernel
theorem dX12_laysWays_183 : decode cX12_laysWays 183 = .ok (.iconst (-1), 1) := by decide +kernel
theorem dX12_laysWays_184 : decode cX12_laysWays 184 = .ok (.if_icmp .eq 80, 3) := by decide +kernel
theorem dX12_laysWays_187 : decode cX12_laysWays 187 = .ok (.aload_n 0, 1) := by decide +kernel
theorem dX12_laysWays_188 : decode cX12_laysWays 188 = .ok (.getfield 91, 3) := by decide +kernel
theorem dX12_laysWays_191 : decode cX12_laysWays 191 = .ok (.iload_n 2, 1) := by decide +kernel
theorem dX12_laysWays_192 : decode cX12_laysWays 192 = .ok (.aaload, 1) := by decide +kernel
theorem dX12_laysWays_193 : decode cX12_laysWays 193 = .ok (.iload 4, 2) := by decide +kernel
theorem dX12_laysWays_195 : decode cX12_laysWays 195 = .ok (.iaload, 1) := by decide +kernel
theorem dX12_laysWays_196 : decode cX12_laysWays 196 = .ok (.iconst (-1), 1) := by decide +kernel
theorem dX12_laysWays_197 : decode cX12_laysWays 197 = .ok (.if_icmp .ne 6, 3) := by decide +kernel
theorem dX12_laysWays_200 : decode cX12_laysWays 200 = .ok (.goto 64, 3) := by decide +kernel
theorem dX12_laysWays_203 : decode cX12_laysWays 203 = .ok (.aload_n 0, 1) := by decide +kernel
theorem dX12_laysWays_204 : decode cX12_laysWays 204 = .ok (.getfield 91, 3) := by decide +kernel
theorem dX12_laysWays_207 : decode cX12_laysWays 207 = .ok (.iload_n 3, 1) := by decide +kernel
theorem dX12_laysWays_208 : decode cX12_laysWays 208 = .ok (.aaload, 1) := by decide +kernel
theorem dX12_laysWays_209 : decode cX12_laysWays 209 = .ok (.iload_n 2, 1) := by decide +kernel
theorem dX12_laysWays_210 : decode cX12_laysWays 210 = .ok (.iaload, 1) := by decide +kernel
theorem dX12_laysWays_211 : decode cX12_laysWays 211 = .ok (.aload_n 0, 1) := by decide +kernel
theorem dX12_laysWays_212 : decode cX12_laysWays 212 = .ok (.getfield 91, 3) := by decide +kernel
theorem dX12_laysWays_215 : decode cX12_laysWays 215 = .ok (.iload_n 2, 1) := by decide +kernel
theorem dX12_laysWays_216 : decode cX12_laysWays 216 = .ok (.aaload, 1) := by decide +kernel
theorem dX12_laysWays_217 : decode cX12_laysWays 217 = .ok (.iload 4, 2) := by decide +kernel
theorem dX12_laysWays_219 : decode cX12_laysWays 219 = .ok (.iaload, 1) := by decide +kernel
theorem dX12_laysWays_220 : decode cX12_laysWays 220 = .ok (.iadd, 1) := by decide +kernel
theorem dX12_laysWays_221 : decode cX12_laysWays 221 = .ok (.istore 5, 2) := by decide +kernel
theorem dX12_laysWays_223 : decode cX12_laysWays 223 = .ok (.aload_n 0, 1) := by decide +kernel
theorem dX12_laysWays_224 : decode cX12_laysWays 224 = .ok (.getfield 91, 3) := by decide +kernel
theorem dX12_laysWays_227 : decode cX12_laysWays 227 = .ok (.iload_n 3, 1) := by decide +kernel
theorem dX12_laysWays_228 : decode cX12_laysWays 228 = .ok (.aaload, 1) := by decide +kernel
theorem dX12_laysWays_229 : decode cX12_laysWays 229 = .ok (.iload 4, 2) := by decide +kernel
theorem dX12_laysWays_231 : decode cX12_laysWays 231 = .ok (.aload_n 0, 1) := by decide +kernel
theorem dX12_laysWays_232 : decode cX12_laysWays 232 = .ok (.getfield 91, 3) := by decide +kernel
theorem dX12_laysWays_235 : decode cX12_laysWays 235 = .ok (.iload_n 3, 1) := by decide +kernel
theorem dX12_laysWays_236 : decode cX12_laysWays 236 = .ok (.aaload, 1) := by decide +kernel
theorem dX12_laysWays_237 : decode cX12_laysWays 237 = .ok (.iload 4, 2) := by decide +kernel
theorem dX12_laysWays_239 : decode cX12_laysWays 239 = .ok (.iaload, 1) := by decide +kernel
theorem dX12_laysWays_240 : decode cX12_laysWays 240 = .ok (.iconst (-1), 1) := by decide +kernel
theorem dX12_laysWays_241 : decode cX12_laysWays 241 = .ok (.if_icmp .ne 8, 3) := by decide +kernel
theorem dX12_laysWays_244 : decode cX12_laysWays 244 = .ok (.iload 5, 2) := by decide +kernel
theorem dX12_laysWays_246 : decode cX12_laysWays 246 = .ok (.goto 17, 3) := by decide +kernel
theorem dX12_laysWays_249 : decode cX12_laysWays 249 = .ok (.aload_n 0, 1) := by decide +kernel
theorem dX12_laysWays_250 : decode cX12_laysWays 250 = .ok (.getfield 91, 3) := by decide +kernel
theorem dX12_laysWays_253 : decode cX12_laysWays 253 = .ok (.iload_n 3, 1) := by decide +kernel
theorem dX12_laysWays_254 : decode cX12_laysWays 254 = .ok (.aaload, 1) := by decide +kernel
theorem dX12_laysWays_255 : decode cX12_laysWays 255 = .ok (.iload 4, 2) := by decide +kernel
theorem dX12_laysWays_257 : decode cX12_laysWays 257 = .ok (.iaload, 1) := by decide +kernel
theorem dX12_laysWays_258 : decode cX12_laysWays 258 = .ok (.iload 5, 2) := by decide +kernel
theorem dX12_laysWays_260 : decode cX12_laysWays 260 = .ok (.invokestatic 258, 3) := by decide +kernel
theorem dX12_laysWays_263 : decode cX12_laysWays 263 = .ok (.iastore, 1) := by decide +kernel
theorem dX12_laysWays_264 : decode cX12_laysWays 264 = .ok (.iinc 4 1, 3) := by decide +kernel
theorem dX12_laysWays_267 : decode cX12_laysWays 267 = .ok (.goto (-99), 3) := by decide +kernel
theorem dX12_laysWays_270 : decode cX12_laysWays 270 = .ok (.iinc 3 1, 3) := by decide +kernel
theorem dX12_laysWays_273 : decode cX12_laysWays 273 = .ok (.goto (-114), 3) := by decide +kernel
theorem dX12_laysWays_276 : decode cX12_laysWays 276 = .ok (.iinc 2 1, 3) := by decide +kernel
theorem dX12_laysWays_279 : decode cX12_laysWays 279 = .ok (.goto (-128), 3) := by decide +kernel
theorem dX12_laysWays_282 : decode cX12_laysWays 282 = .ok (.return_, 1) := by decide +kernel
set_option maxRecDepth 100000 in
theorem T_X12_laysWays_0 {G : GE} {d C S : Nat} {ρ : Rs} : Snd G MX12_laysWays (d + 1) C S 0 ρ (s_iconst 0 (s_istore 2 (fun L st h => E G MX12_laysWays (d + 1) C S 2 L st h ρ))) := (e_iconst (v := 0) dX12_laysWays_0 (by decide) (e_istore_n dX12_laysWays_1 rfl (by decide) (fun _ _ _ h9 => h9)))
set_option maxRecDepth 100000 in
theorem T_X12_laysWays_2 {G : GE} {d C S : Nat} {ρ : Rs} : Snd G MX12_laysWays (d + 1) C S 2 ρ (s_iload 2 (s_iconst 10 (s_ic_ge (s_iconst 0 (s_istore 2 (fun L st h => E G MX12_laysWays (d + 1) C S 48 L st h ρ))) (s_iconst 0 (s_istore 3 (fun L st h => E G MX12_laysWays (d + 1) C S 10 L st h ρ)))))) := (e_iload_n dX12_laysWays_2 rfl (e_bipush (v := 10) dX12_laysWays_3 (by decide) (e_ic_ge (tgt := 46) dX12_laysWays_5 (by decide) (e_iconst (v := 0) dX12_laysWays_46 (by decide) (e_istore_n dX12_laysWays_47 rfl (by decide) (fun _ _ _ h9 => h9))) (e_iconst (v := 0) dX12_laysWays_8 (by decide) (e_istore_n dX12_laysWays_9 rfl (by decide) (fun _ _ _ h9 => h9))))))
set_option maxRecDepth 100000 in
theorem T_X12_laysWays_10 {G : GE} {d C S : Nat} {ρ : Rs} : Snd G MX12_laysWays (d + 1) C S 10 ρ (s_iload 3 (s_iconst 10 (s_ic_ge (s_iinc 2 1 (fun L st h => E G MX12_laysWays (d + 1) C S 2 L st h ρ)) (s_aload 0 (s_getR 11 37 (s_iload 2 (s_aaload (s_iload 3 (s_iload 2 (s_iload 3 (s_ic_ne (s_iconst (-1) (s_iastore (s_iinc 3 1 (fun L st h => E G MX12_laysWays (d + 1) C S 10 L st h ρ)))) (s_iconst 0 (s_iastore (s_iinc 3 1 (fun L st h => E G MX12_laysWays (d + 1) C S 10 L st h ρ))))))))))))))) := (e_iload_n dX12_laysWays_10 rfl (e_bipush (v := 10) dX12_laysWays_11 (by decide) (e_ic_ge (tgt := 40) dX12_laysWays_13 (by decide) (e_iinc (v := 1) dX12_laysWays_40 (by decide) (by decide) (e_goto (tgt := 2) dX12_laysWays_43 (by decide) (fun _ _ _ h9 => h9))) (e_aload_n dX12_laysWays_16 rfl (e_getR rfl cl_11 (by decide) rfl q_1601 dX12_laysWays_17 (e_iload_n dX12_laysWays_20 rfl (e_aaload dX12_laysWays_21 (e_iload_n dX12_laysWays_22 rfl (e_iload_n dX12_laysWays_23 rfl (e_iload_n dX12_laysWays_24 rfl (e_ic_ne (tgt := 32) dX12_laysWays_25 (by decide) (e_iconst (v := (-1)) dX12_laysWays_32 (by decide) (e_iastore dX12_laysWays_33 (e_iinc (v := 1) dX12_laysWays_34 (by decide) (by decide) (e_goto (tgt := 10) dX12_laysWays_37 (by decide) (fun _ _ _ h9 => h9))))) (e_iconst (v := 0) dX12_laysWays_28 (by decide) (e_goto (tgt := 33) dX12_laysWays_29 (by decide) (e_iastore dX12_laysWays_33 (e_iinc (v := 1) dX12_laysWays_34 (by decide) (by decide) (e_goto (tgt := 10) dX12_laysWays_37 (by decide) (fun _ _ _ h9 => h9)))))))))))))))))
set_option maxRecDepth 100000 in
theorem T_X12_laysWays_48 {G : GE} {d C S : Nat} {ρ : Rs} : Snd G MX12_laysWays (d + 1) C S 48 ρ (s_iload 2 (s_aload 0 (s_getR 11 12 (s_iconst 1 (s_iaload (s_ic_ge (s_iconst 0 (s_istore 2 (fun L st h => E G MX12_laysWays (d + 1) C S 151 L st h ρ))) (s_aload 0 (s_getR 11 16 (s_iload 2 (s_aaload (s_iconst 0 (s_iaload (s_istore 3 (s_aload 0 (s_getR 11 16 (s_iload 2 (s_aaload (s_iconst 1 (s_iaload (s_istore 4 (s_iload 2 (s_iload 1 (s_ic_eq (s_iinc 2 1 (fun L st h => E G MX12_laysWays (d + 1) C S 48 L st h ρ)) (s_aload 0 (s_getR 11 37 (s_iload 3 (s_aaload (s_iload 4 (s_iaload (s_iconst (-1) (s_ic_eq (s_aload 0 (s_getR 11 37 (s_iload 3 (s_aaload (s_iload 4 (s_aload 0 (s_iload 2 (s_callV G d MX12_lengthOf 1 11 (s_iastore (s_aload 0 (s_getR 11 37 (s_iload 4 (s_aaload (s_iload 3 (s_aload 0 (s_iload 2 (s_callV G d MX12_lengthOf 1 11 (s_iastore (s_iinc 2 1 (fun L st h => E G MX12_laysWays (d + 1) C S 48 L st h ρ)))))))))))))))))))) (s_aload 0 (s_getR 11 37 (s_iload 3 (s_aaload (s_iload 4 (s_iaload (s_aload 0 (s_iload 2 (s_callV G d MX12_lengthOf 1 11 (s_ic_gt (s_aload 0 (s_getR 11 37 (s_iload 3 (s_aaload (s_iload 4 (s_aload 0 (s_iload 2 (s_callV G d MX12_lengthOf 1 11 (s_iastore (s_aload 0 (s_getR 11 37 (s_iload 4 (s_aaload (s_iload 3 (s_aload 0 (s_iload 2 (s_callV G d MX12_lengthOf 1 11 (s_iastore (s_iinc 2 1 (fun L st h => E G MX12_laysWays (d + 1) C S 48 L st h ρ)))))))))))))))))))) (s_iinc 2 1 (fun L st h => E G MX12_laysWays (d + 1) C S 48 L st h ρ))))))))))))))))))))))))))))))))))))))))))) := (e_iload_n dX12_laysWays_48 rfl (e_aload_n dX12_laysWays_49 rfl (e_getR rfl cl_11 (by decide) rfl q_1576 dX12_laysWays_50 (e_iconst (v := 1) dX12_laysWays_53 (by decide) (e_iaload dX12_laysWays_54 (e_ic_ge (tgt := 149) dX12_laysWays_55 (by decide) (e_iconst (v := 0) dX12_laysWays_149 (by decide) (e_istore_n dX12_laysWays_150 rfl (by decide) (fun _ _ _ h9 => h9))) (e_aload_n dX12_laysWays_58 rfl (e_getR rfl cl_11 (by decide) rfl q_1580 dX12_laysWays_59 (e_iload_n dX12_laysWays_62 rfl (e_aaload dX12_laysWays_63 (e_iconst (v := 0) dX12_laysWays_64 (by decide) (e_iaload dX12_laysWays_65 (e_istore_n dX12_laysWays_66 rfl (by decide) (e_aload_n dX12_laysWays_67 rfl (e_getR rfl cl_11 (by decide) rfl q_1580 dX12_laysWays_68 (e_iload_n dX12_laysWays_71 rfl (e_aaload dX12_laysWays_72 (e_iconst (v := 1) dX12_laysWays_73 (by decide) (e_iaload dX12_laysWays_74 (e_istore dX12_laysWays_75 (by decide) (e_iload_n dX12_laysWays_77 rfl (e_iload_n dX12_laysWays_78 rfl (e_ic_eq (tgt := 143) dX12_laysWays_79 (by decide) (e_iinc (v := 1) dX12_laysWays_143 (by decide) (by decide) (e_goto (tgt := 48) dX12_laysWays_146 (by decide) (fun _ _ _ h9 => h9))) (e_aload_n dX12_laysWays_82 rfl (e_getR rfl cl_11 (by decide) rfl q_1601 dX12_laysWays_83 (e_iload_n dX12_laysWays_86 rfl (e_aaload dX12_laysWays_87 (e_iload dX12_laysWays_88 (e_iaload dX12_laysWays_90 (e_iconst (v := (-1)) dX12_laysWays_91 (by decide) (e_ic_eq (tgt := 115) dX12_laysWays_92 (by decide) (e_aload_n dX12_laysWays_115 rfl (e_getR rfl cl_11 (by decide) rfl q_1601 dX12_laysWays_116 (e_iload_n dX12_laysWays_119 rfl (e_aaload dX12_laysWays_120 (e_iload dX12_laysWays_121 (e_aload_n dX12_laysWays_123 rfl (e_iload_n dX12_laysWays_124 rfl (e_callV cl_11 cal_X12_lengthOf q_1889 q_1891 q_81 dX12_laysWays_125 (e_iastore dX12_laysWays_128 (e_aload_n dX12_laysWays_129 rfl (e_getR rfl cl_11 (by decide) rfl q_1601 dX12_laysWays_130 (e_iload dX12_laysWays_133 (e_aaload dX12_laysWays_135 (e_iload_n dX12_laysWays_136 rfl (e_aload_n dX12_laysWays_137 rfl (e_iload_n dX12_laysWays_138 rfl (e_callV cl_11 cal_X12_lengthOf q_1889 q_1891 q_81 dX12_laysWays_139 (e_iastore dX12_laysWays_142 (e_iinc (v := 1) dX12_laysWays_143 (by decide) (by decide) (e_goto (tgt := 48) dX12_laysWays_146 (by decide) (fun _ _ _ h9 => h9))))))))))))))))))))) (e_aload_n dX12_laysWays_95 rfl (e_getR rfl cl_11 (by decide) rfl q_1601 dX12_laysWays_96 (e_iload_n dX12_laysWays_99 rfl (e_aaload dX12_laysWays_100 (e_iload dX12_laysWays_101 (e_iaload dX12_laysWays_103 (e_aload_n dX12_laysWays_104 rfl (e_iload_n dX12_laysWays_105 rfl (e_callV cl_11 cal_X12_lengthOf q_1889 q_1891 q_81 dX12_laysWays_106 (e_ic_gt (tgt := 115) dX12_laysWays_109 (by decide) (e_aload_n dX12_laysWays_115 rfl (e_getR rfl cl_11 (by decide) rfl q_1601 dX12_laysWays_116 (e_iload_n dX12_laysWays_119 rfl (e_aaload dX12_laysWays_120 (e_iload dX12_laysWays_121 (e_aload_n dX12_laysWays_123 rfl (e_iload_n dX12_laysWays_124 rfl (e_callV cl_11 cal_X12_lengthOf q_1889 q_1891 q_81 dX12_laysWays_125 (e_iastore dX12_laysWays_128 (e_aload_n dX12_laysWays_129 rfl (e_getR rfl cl_11 (by decide) rfl q_1601 dX12_laysWays_130 (e_iload dX12_laysWays_133 (e_aaload dX12_laysWays_135 (e_iload_n dX12_laysWays_136 rfl (e_aload_n dX12_laysWays_137 rfl (e_iload_n dX12_laysWays_138 rfl (e_callV cl_11 cal_X12_lengthOf q_1889 q_1891 q_81 dX12_laysWays_139 (e_iastore dX12_laysWays_142 (e_iinc (v := 1) dX12_laysWays_143 (by decide) (by decide) (e_goto (tgt := 48) dX12_laysWays_146 (by decide) (fun _ _ _ h9 => h9))))))))))))))))))))) (e_goto (tgt := 143) dX12_laysWays_112 (by decide) (e_iinc (v := 1) dX12_laysWays_143 (by decide) (by decide) (e_goto (tgt := 48) dX12_laysWays_146 (by decide) (fun _ _ _ h9 => h9)))))))))))))))))))))))))))))))))))))))))))))
set_option maxRecDepth 100000 in
theorem T_X12_laysWays_151 {G : GE} {d C S : Nat} {ρ : Rs} : Snd G MX12_laysWays (d + 1) C S 151 ρ (s_iload 2 (s_iconst 10 (s_ic_ge (s_return ρ) (s_iconst 0 (s_istore 3 (fun L st h => E G MX12_laysWays (d + 1) C S 159 L st h ρ)))))) := (e_iload_n dX12_laysWays_151 rfl (e_bipush (v := 10) dX12_laysWays_152 (by decide) (e_ic_ge (tgt := 282) dX12_laysWays_154 (by decide) (e_return rfl dX12_laysWays_282) (e_iconst (v := 0) dX12_laysWays_157 (by decide) (e_istore_n dX12_laysWays_158 rfl (by decide) (fun _ _ _ h9 => h9))))))
set_option maxRecDepth 100000 in
theorem T_X12_laysWays_159 {G : GE} {d C S : Nat} {ρ : Rs} : Snd G MX12_laysWays (d + 1) C S 159 ρ (s_iload 3 (s_iconst 10 (s_ic_ge (s_iinc 2 1 (fun L st h => E G MX12_laysWays (d + 1) C S 151 L st h ρ)) (s_iconst 0 (s_istore 4 (fun L st h => E G MX12_laysWays (d + 1) C S 168 L st h ρ)))))) := (e_iload_n dX12_laysWays_159 rfl (e_bipush (v := 10) dX12_laysWays_160 (by decide) (e_ic_ge (tgt := 276) dX12_laysWays_162 (by decide) (e_iinc (v := 1) dX12_laysWays_276 (by decide) (by decide) (e_goto (tgt := 151) dX12_laysWays_279 (by decide) (fun _ _ _ h9 => h9))) (e_iconst (v := 0) dX12_laysWays_165 (by decide) (e_istore dX12_laysWays_166 (by decide) (fun _ _ _ h9 => h9))))))
set_option maxRecDepth 100000 in
theorem T_X12_laysWays_168 {G : GE} {d C S : Nat} {ρ : Rs} : Snd G MX12_laysWays (d + 1) C S 168 ρ (s_iload 4 (s_iconst 10 (s_ic_ge (s_iinc 3 1 (fun L st h => E G MX12_laysWays (d + 1) C S 159 L st h ρ)) (s_aload 0 (s_getR 11 37 (s_iload 3 (s_aaload (s_iload 2 (s_iaload (s_iconst (-1) (s_ic_eq (s_iinc 4 1 (fun L st h => E G MX12_laysWays (d + 1) C S 168 L st h ρ)) (s_aload 0 (s_getR 11 37 (s_iload 2 (s_aaload (s_iload 4 (s_iaload (s_iconst (-1) (s_ic_ne (s_aload 0 (s_getR 11 37 (s_iload 3 (s_aaload (s_iload 2 (s_iaload (s_aload 0 (s_getR 11 37 (s_iload 2 (s_aaload (s_iload 4 (s_iaload (s_iadd (s_istore 5 (s_aload 0 (s_getR 11 37 (s_iload 3 (s_aaload (s_iload 4 (s_aload 0 (s_getR 11 37 (s_iload 3 (s_aaload (s_iload 4 (s_iaload (s_iconst (-1) (s_ic_ne (s_aload 0 (s_getR 11 37 (s_iload 3 (s_aaload (s_iload 4 (s_iaload (s_iload 5 (s_call G d MX12_less 2 (s_iastore (s_iinc 4 1 (fun L st h => E G MX12_laysWays (d + 1) C S 168 L st h ρ))))))))))) (s_iload 5 (s_iastore (s_iinc 4 1 (fun L st h => E G MX12_laysWays (d + 1) C S 168 L st h ρ))))))))))))))))))))))))))))))) (s_iinc 4 1 (fun L st h => E G MX12_laysWays (d + 1) C S 168 L st h ρ))))))))))))))))))))) := (e_iload dX12_laysWays_168 (e_bipush (v := 10) dX12_laysWays_170 (by decide) (e_ic_ge (tgt := 270) dX12_laysWays_172 (by decide) (e_iinc (v := 1) dX12_laysWays_270 (by decide) (by decide) (e_goto (tgt := 159) dX12_laysWays_273 (by decide) (fun _ _ _ h9 => h9))) (e_aload_n dX12_laysWays_175 rfl (e_getR rfl cl_11 (by decide) rfl q_1601 dX12_laysWays_176 (e_iload_n dX12_laysWays_179 rfl (e_aaload dX12_laysWays_180 (e_iload_n dX12_laysWays_181 rfl (e_iaload dX12_laysWays_182 (e_iconst (v := (-1)) dX12_laysWays_183 (by decide) (e_ic_eq (tgt := 264) dX12_laysWays_184 (by decide) (e_iinc (v := 1) dX12_laysWays_264 (by decide) (by decide) (e_goto (tgt := 168) dX12_laysWays_267 (by decide) (fun _ _ _ h9 => h9))) (e_aload_n dX12_laysWays_187 rfl (e_getR rfl cl_11 (by decide) rfl q_1601 dX12_laysWays_188 (e_iload_n dX12_laysWays_191 rfl (e_aaload dX12_laysWays_192 (e_iload dX12_laysWays_193 (e_iaload dX12_laysWays_195 (e_iconst (v := (-1)) dX12_laysWays_196 (by decide) (e_ic_ne (tgt := 203) dX12_laysWays_197 (by decide) (e_aload_n dX12_laysWays_203 rfl (e_getR rfl cl_11 (by decide) rfl q_1601 dX12_laysWays_204 (e_iload_n dX12_laysWays_207 rfl (e_aaload dX12_laysWays_208 (e_iload_n dX12_laysWays_209 rfl (e_iaload dX12_laysWays_210 (e_aload_n dX12_laysWays_211 rfl (e_getR rfl cl_11 (by decide) rfl q_1601 dX12_laysWays_212 (e_iload_n dX12_laysWays_215 rfl (e_aaload dX12_laysWays_216 (e_iload dX12_laysWays_217 (e_iaload dX12_laysWays_219 (e_iadd dX12_laysWays_220 (e_istore dX12_laysWays_221 (by decide) (e_aload_n dX12_laysWays_223 rfl (e_getR rfl cl_11 (by decide) rfl q_1601 dX12_laysWays_224 (e_iload_n dX12_laysWays_227 rfl (e_aaload dX12_laysWays_228 (e_iload dX12_laysWays_229 (e_aload_n dX12_laysWays_231 rfl (e_getR rfl cl_11 (by decide) rfl q_1601 dX12_laysWays_232 (e_iload_n dX12_laysWays_235 rfl (e_aaload dX12_laysWays_236 (e_iload dX12_laysWays_237 (e_iaload dX12_laysWays_239 (e_iconst (v := (-1)) dX12_laysWays_240 (by decide) (e_ic_ne (tgt := 249) dX12_laysWays_241 (by decide) (e_aload_n dX12_laysWays_249 rfl (e_getR rfl cl_11 (by decide) rfl q_1601 dX12_laysWays_250 (e_iload_n dX12_laysWays_253 rfl (e_aaload dX12_laysWays_254 (e_iload dX12_laysWays_255 (e_iaload dX12_laysWays_257 (e_iload dX12_laysWays_258 (e_callS cal_X12_less q_1903 q_1904 dX12_laysWays_260 (e_iastore dX12_laysWays_263 (e_iinc (v := 1) dX12_laysWays_264 (by decide) (by decide) (e_goto (tgt := 168) dX12_laysWays_267 (by decide) (fun _ _ _ h9 => h9)))))))))))) (e_iload dX12_laysWays_244 (e_goto (tgt := 263) dX12_laysWays_246 (by decide) (e_iastore dX12_laysWays_263 (e_iinc (v := 1) dX12_laysWays_264 (by decide) (by decide) (e_goto (tgt := 168) dX12_laysWays_267 (by decide) (fun _ _ _ h9 => h9))))))))))))))))))))))))))))))))) (e_goto (tgt := 264) dX12_laysWays_200 (by decide) (e_iinc (v := 1) dX12_laysWays_264 (by decide) (by decide) (e_goto (tgt := 168) dX12_laysWays_267 (by decide) (fun _ _ _ h9 => h9)))))))))))))))))))))))
theorem dX12_way_0 : decode cX12_way 0 = .ok (.aload_n 0, 1) := by decide +kernel
theorem dX12_way_1 : decode cX12_way 1 = .ok (.iconst 0, 1) := by decide +kernel
theorem dX12_way_2 : decode cX12_way 2 = .ok (.putfield 115, 3) := by decide +kernel
theorem dX12_way_5 : decode cX12_way 5 = .ok (.aload_n 0, 1) := by decide +kernel
theorem dX12_way_6 : decode cX12_way 6 = .ok (.aload_n 0, 1) := by decide +kernel
theorem dX12_way_7 : decode cX12_way 7 = .ok (.iload_n 1, 1) := by decide +kernel
theorem dX12_way_8 : decode cX12_way 8 = .ok (.invokevirtual 387, 3) := by decide +kernel
theorem dX12_way_11 : decode cX12_way 11 = .ok (.ifCond .eq 11, 3) := by decide +kernel
theorem dX12_way_14 : decode cX12_way 14 = .ok (.aload_n 0, 1) := by decide +kernel
theorem dX12_way_15 : decode cX12_way 15 = .ok (.iload_n 2, 1) := by decide +kernel
theorem dX12_way_16 : decode cX12_way 16 = .ok (.invokevirtual 387, 3) := by decide +kernel
theorem dX12_way_19 : decode cX12_way 19 = .ok (.ifCond .ne 7, 3) := by decide +kernel
theorem dX12_way_22 : decode cX12_way 22 = .ok (.iconst 1, 1) := by decide +kernel
theorem dX12_way_23 : decode cX12_way 23 = .ok (.goto 4, 3) := by decide +kernel
theorem dX12_way_26 : decode cX12_way 26 = .ok (.iconst 0, 1) := by decide +kernel
theorem dX12_way_27 : decode cX12_way 27 = .ok (.iconst 1, 1) := by decide +kernel
theorem dX12_way_28 : decode cX12_way 28 = .ok (.iconst 1, 1) := by decide +kernel
theorem dX12_way_29 : decode cX12_way 29 = .ok (.invokevirtual 198, 3) := by decide +kernel
theorem dX12_way_32 : decode cX12_way 32 = .ok (.ifCond .eq 5, 3) := by decide +kernel
theorem dX12_way_35 : decode cX12_way 35 = .ok (.iconst 0, 1) := by decide +kernel
theorem dX12_way_36 : decode cX12_way 36 = .ok (.ireturn, 1) := by decide +kernel
theorem dX12_way_37 : decode cX12_way 37 = .ok (.aload_n 0, 1) := by decide +kernel
theorem dX12_way_38 : decode cX12_way 38 = .ok (.iconst (-1), 1) := by decide +kernel
theorem dX12_way_39 : decode cX12_way 39 = .ok (.invokevirtual 390, 3) := by decide +kernel
theorem dX12_way_42 : decode cX12_way 42 = .ok (.aload_n 0, 1) := by decide +kernel
theorem dX12_way_43 : decode cX12_way 43 = .ok (.getfield 91, 3) := by decide +kernel
theorem dX12_way_46 : decode cX12_way 46 = .ok (.iload_n 1, 1) := by decide +kernel
theorem dX12_way_47 : decode cX12_way 47 = .ok (.aaload, 1) := by decide +kernel
theorem dX12_way_48 : decode cX12_way 48 = .ok (.iload_n 2, 1) := by decide +kernel
theorem dX12_way_49 : decode cX12_way 49 = .ok (.iaload, 1) := by decide +kernel
theorem dX12_way_50 : decode cX12_way 50 = .ok (.ireturn, 1) := by decide +kernel
set_option maxRecDepth 100000 in
theorem T_X12_way_0 {G : GE} {d C S : Nat} {ρ : Rs} : Snd G MX12_way (d + 1) C S 0 ρ (s_aload 0 (s_iconst 0 (s_putI 11 0 (s_aload 0 (s_aload 0 (s_iload 1 (s_callV G d MX12_isCorner 1 11 (s_if_eq (s_iconst 1 (s_iconst 1 (s_iconst 1 (s_callV G d MX12_bad 3 11 (s_if_eq (s_aload 0 (s_iconst (-1) (s_callV G d MX12_laysWays 1 11 (s_aload 0 (s_getR 11 37 (s_iload 1 (s_aaload (s_iload 2 (s_iaload (s_ireturn ρ)))))))))) (s_iconst 0 (s_ireturn ρ))))))) (s_aload 0 (s_iload 2 (s_callV G d MX12_isCorner 1 11 (s_if_ne (s_iconst 0 (s_iconst 1 (s_iconst 1 (s_callV G d MX12_bad 3 11 (s_if_eq (s_aload 0 (s_iconst (-1) (s_callV G d MX12_laysWays 1 11 (s_aload 0 (s_getR 11 37 (s_iload 1 (s_aaload (s_iload 2 (s_iaload (s_ireturn ρ)))))))))) (s_iconst 0 (s_ireturn ρ))))))) (s_iconst 1 (s_iconst 1 (s_iconst 1 (s_callV G d MX12_bad 3 11 (s_if_eq (s_aload 0 (s_iconst (-1) (s_callV G d MX12_laysWays 1 11 (s_aload 0 (s_getR 11 37 (s_iload 1 (s_aaload (s_iload 2 (s_iaload (s_ireturn ρ)))))))))) (s_iconst 0 (s_ireturn ρ))))))))))))))))))) := (e_aload_n dX12_way_0 rfl (e_iconst (v := 0) dX12_way_1 (by decide) (e_putI rfl cl_11 (by decide) rfl rfl rfl q_1564 dX12_way_2 (e_aload_n dX12_way_5 rfl (e_aload_n dX12_way_6 rfl (e_iload_n dX12_way_7 rfl (e_callV cl_11 cal_X12_isCorner q_2043 q_2045 q_97 dX12_way_8 (e_if_eq (tgt := 22) dX12_way_11 (by decide) (e_iconst (v := 1) dX12_way_22 (by decide) (e_goto (tgt := 27) dX12_way_23 (by decide) (e_iconst (v := 1) dX12_way_27 (by decide) (e_iconst (v := 1) dX12_way_28 (by decide) (e_callV cl_11 cal_X12_bad q_1742 q_1744 q_53 dX12_way_29 (e_if_eq (tgt := 37) dX12_way_32 (by decide) (e_aload_n dX12_way_37 rfl (e_iconst (v := (-1)) dX12_way_38 (by decide) (e_callV cl_11 cal_X12_laysWays q_2047 q_2049 q_98 dX12_way_39 (e_aload_n dX12_way_42 rfl (e_getR rfl cl_11 (by decide) rfl q_1601 dX12_way_43 (e_iload_n dX12_way_46 rfl (e_aaload dX12_way_47 (e_iload_n dX12_way_48 rfl (e_iaload dX12_way_49 (e_ireturn rfl dX12_way_50)))))))))) (e_iconst (v := 0) dX12_way_35 (by decide) (e_ireturn rfl dX12_way_36)))))))) (e_aload_n dX12_way_14 rfl (e_iload_n dX12_way_15 rfl (e_callV cl_11 cal_X12_isCorner q_2043 q_2045 q_97 dX12_way_16 (e_if_ne (tgt := 26) dX12_way_19 (by decide) (e_iconst (v := 0) dX12_way_26 (by decide) (e_iconst (v := 1) dX12_way_27 (by decide) (e_iconst (v := 1) dX12_way_28 (by decide) (e_callV cl_11 cal_X12_bad q_1742 q_1744 q_53 dX12_way_29 (e_if_eq (tgt := 37) dX12_way_32 (by decide) (e_aload_n dX12_way_37 rfl (e_iconst (v := (-1)) dX12_way_38 (by decide) (e_callV cl_11 cal_X12_laysWays q_2047 q_2049 q_98 dX12_way_39 (e_aload_n dX12_way_42 rfl (e_getR rfl cl_11 (by decide) rfl q_1601 dX12_way_43 (e_iload_n dX12_way_46 rfl (e_aaload dX12_way_47 (e_iload_n dX12_way_48 rfl (e_iaload dX12_way_49 (e_ireturn rfl dX12_way_50)))))))))) (e_iconst (v := 0) dX12_way_35 (by decide) (e_ireturn rfl dX12_way_36))))))) (e_iconst (v := 1) dX12_way_22 (by decide) (e_goto (tgt := 27) dX12_way_23 (by decide) (e_iconst (v := 1) dX12_way_27 (by decide) (e_iconst (v := 1) dX12_way_28 (by decide) (e_callV cl_11 cal_X12_bad q_1742 q_1744 q_53 dX12_way_29 (e_if_eq (tgt := 37) dX12_way_32 (by decide) (e_aload_n dX12_way_37 rfl (e_iconst (v := (-1)) dX12_way_38 (by decide) (e_callV cl_11 cal_X12_laysWays q_2047 q_2049 q_98 dX12_way_39 (e_aload_n dX12_way_42 rfl (e_getR rfl cl_11 (by decide) rfl q_1601 dX12_way_43 (e_iload_n dX12_way_46 rfl (e_aaload dX12_way_47 (e_iload_n dX12_way_48 rfl (e_iaload dX12_way_49 (e_ireturn rfl dX12_way_50)))))))))) (e_iconst (v := 0) dX12_way_35 (by decide) (e_ireturn rfl dX12_way_36))))))))))))))))))))
theorem dX12_reach_0 : decode cX12_reach 0 = .ok (.aload_n 0, 1) := by decide +kernel
theorem dX12_reach_1 : decode cX12_reach 1 = .ok (.iconst 0, 1) := by decide +kernel
theorem dX12_reach_2 : decode cX12_reach 2 = .ok (.putfield 115, 3) := by decide +kernel
theorem dX12_reach_5 : decode cX12_reach 5 = .ok (.aload_n 0, 1) := by decide +kernel
theorem dX12_reach_6 : decode cX12_reach 6 = .ok (.aload_n 0, 1) := by decide +kernel
theorem dX12_reach_7 : decode cX12_reach 7 = .ok (.iload_n 1, 1) := by decide +kernel
theorem dX12_reach_8 : decode cX12_reach 8 = .ok (.invokevirtual 387, 3) := by decide +kernel
theorem dX12_reach_11 : decode cX12_reach 11 = .ok (.ifCond .ne 7, 3) := by decide +kernel
theorem dX12_reach_14 : decode cX12_reach 14 = .ok (.iconst 1, 1) := by decide +kernel
theorem dX12_reach_15 : decode cX12_reach 15 = .ok (.goto 4, 3) := by decide +kernel
theorem dX12_reach_18 : decode cX12_reach 18 = .ok (.iconst 0, 1) := by decide +kernel
theorem dX12_reach_19 : decode cX12_reach 19 = .ok (.iconst 1, 1) := by decide +kernel
theorem dX12_reach_20 : decode cX12_reach 20 = .ok (.iconst 1, 1) := by decide +kernel
theorem dX12_reach_21 : decode cX12_reach 21 = .ok (.invokevirtual 198, 3) := by decide +kernel
theorem dX12_reach_24 : decode cX12_reach 24 = .ok (.ifCond .eq 5, 3) := by decide +kernel
theorem dX12_reach_27 : decode cX12_reach 27 = .ok (.iconst 0, 1) := by decide +kernel
theorem dX12_reach_28 : decode cX12_reach 28 = .ok (.ireturn, 1) := by decide +kernel
theorem dX12_reach_29 : decode cX12_reach 29 = .ok (.aload_n 0, 1) := by decide +kernel
theorem dX12_reach_30 : decode cX12_reach 30 = .ok (.iconst (-1), 1) := by decide +kernel
theorem dX12_reach_31 : decode cX12_reach 31 = .ok (.invokevirtual 390, 3) := by decide +kernel
theorem dX12_reach_34 : decode cX12_reach 34 = .ok (.iconst 0, 1) := by decide +kernel
theorem dX12_reach_35 : decode cX12_reach 35 = .ok (.istore_n 2, 1) := by decide +kernel
theorem dX12_reach_36 : decode cX12_reach 36 = .ok (.iconst 0, 1) := by decide +kernel
theorem dX12_reach_37 : decode cX12_reach 37 = .ok (.istore_n 3, 1) := by decide +kernel
theorem dX12_reach_38 : decode cX12_reach 38 = .ok (.iload_n 3, 1) := by decide +kernel
theorem dX12_reach_39 : decode cX12_reach 39 = .ok (.aload_n 0, 1) := by decide +kernel
theorem dX12_reach_40 : decode cX12_reach 40 = .ok (.getfield 23, 3) := by decide +kernel
theorem dX12_reach_43 : decode cX12_reach 43 = .ok (.iconst 0, 1) := by decide +kernel
theorem dX12_reach_44 : decode cX12_reach 44 = .ok (.iaload, 1) := by decide +kernel
theorem dX12_reach_45 : decode cX12_reach 45 = .ok (.if_icmp .ge 31, 3) := by decide +kernel
theorem dX12_reach_48 : decode cX12_reach 48 = .ok (.iload_n 2, 1) := by decide +kernel
theorem dX12_reach_49 : decode cX12_reach 49 = .ok (.aload_n 0, 1) := by decide +kernel
theorem dX12_reach_50 : decode cX12_reach 50 = .ok (.getfield 91, 3) := by decide +kernel
theorem dX12_reach_53 : decode cX12_reach 53 = .ok (.iload_n 1, 1) := by decide +kernel
theorem dX12_reach_54 : decode cX12_reach 54 = .ok (.aaload, 1) := by decide +kernel
theorem dX12_reach_55 : decode cX12_reach 55 = .ok (.iload_n 3, 1) := by decide +kernel
theorem dX12_reach_56 : decode cX12_reach 56 = .ok (.iaload, 1) := by decide +kernel
theorem dX12_reach_57 : decode cX12_reach 57 = .ok (.iconst (-1), 1) := by decide +kernel
theorem dX12_reach_58 : decode cX12_reach 58 = .ok (.if_icmp .eq 9, 3) := by decide +kernel
theorem dX12_reach_61 : decode cX12_reach 61 = .ok (.iconst 1, 1) := by decide +kernel
theorem dX12_reach_62 : decode cX12_reach 62 = .ok (.iload_n 3, 1) := by decide +kernel
theorem dX12_reach_63 : decode cX12_reach 63 = .ok (.ishl, 1) := by decide +kernel
theorem dX12_reach_64 : decode cX12_reach 64 = .ok (.goto 4, 3) := by decide +kernel
theorem dX12_reach_67 : decode cX12_reach 67 = .ok (.iconst 0, 1) := by decide +kernel
theorem dX12_reach_68 : decode cX12_reach 68 = .ok (.ior, 1) := by decide +kernel
theorem dX12_reach_69 : decode cX12_reach 69 = .ok (.istore_n 2, 1) := by decide +kernel
theorem dX12_reach_70 : decode cX12_reach 70 = .ok (.iinc 3 1, 3) := by decide +kernel
theorem dX12_reach_73 : decode cX12_reach 73 = .ok (.goto (-35), 3) := by decide +kernel
theorem dX12_reach_76 : decode cX12_reach 76 = .ok (.iload_n 2, 1) := by decide +kernel
theorem dX12_reach_77 : decode cX12_reach 77 = .ok (.ireturn, 1) := by decide +kernel
set_option maxRecDepth 100000 in
theorem T_X12_reach_0 {G : GE} {d C S : Nat} {ρ : Rs} : Snd G MX12_reach (d + 1) C S 0 ρ (s_aload 0 (s_iconst 0 (s_putI 11 0 (s_aload 0 (s_aload 0 (s_iload 1 (s_callV G d MX12_isCorner 1 11 (s_if_ne (s_iconst 0 (s_iconst 1 (s_iconst 1 (s_callV G d MX12_bad 3 11 (s_if_eq (s_aload 0 (s_iconst (-1) (s_callV G d MX12_laysWays 1 11 (s_iconst 0 (s_istore 2 (s_iconst 0 (s_istore 3 (fun L st h => E G MX12_reach (d + 1) C S 38 L st h ρ)))))))) (s_iconst 0 (s_ireturn ρ))))))) (s_iconst 1 (s_iconst 1 (s_iconst 1 (s_callV G d MX12_bad 3 11 (s_if_eq (s_aload 0 (s_iconst (-1) (s_callV G d MX12_laysWays 1 11 (s_iconst 0 (s_istore 2 (s_iconst 0 (s_istore 3 (fun L st h => E G MX12_reach (d + 1) C S 38 L st h ρ)))))))) (s_iconst 0 (s_ireturn ρ))))))))))))))) := (e_aload_n dX12_reach_0 rfl (e_iconst (v := 0) dX12_reach_1 (by decide) (e_putI rfl cl_11 (by decide) rfl rfl rfl q_1564 dX12_reach_2 (e_aload_n dX12_reach_5 rfl (e_aload_n dX12_reach_6 rfl (e_iload_n dX12_reach_7 rfl (e_callV cl_11 cal_X12_isCorner q_2043 q_2045 q_97 dX12_reach_8 (e_if_ne (tgt := 18) dX12_reach_11 (by decide) (e_iconst (v := 0) dX12_reach_18 (by decide) (e_iconst (v := 1) dX12_reach_19 (by decide) (e_iconst (v := 1) dX12_reach_20 (by decide) (e_callV cl_11 cal_X12_bad q_1742 q_1744 q_53 dX12_reach_21 (e_if_eq (tgt := 29) dX12_reach_24 (by decide) (e_aload_n dX12_reach_29 rfl (e_iconst (v := (-1)) dX12_reach_30 (by decide) (e_callV cl_11 cal_X12_laysWays q_2047 q_2049 q_98 dX12_reach_31 (e_iconst (v := 0) dX12_reach_34 (by decide) (e_istore_n dX12_reach_35 rfl (by decide) (e_iconst (v := 0) dX12_reach_36 (by decide) (e_istore_n dX12_reach_37 rfl (by decide) (fun _ _ _ h9 => h9)))))))) (e_iconst (v := 0) dX12_reach_27 (by decide) (e_ireturn rfl dX12_reach_28))))))) (e_iconst (v := 1) dX12_reach_14 (by decide) (e_goto (tgt := 19) dX12_reach_15 (by decide) (e_iconst (v := 1) dX12_reach_19 (by decide) (e_iconst (v := 1) dX12_reach_20 (by decide) (e_callV cl_11 cal_X12_bad q_1742 q_1744 q_53 dX12_reach_21 (e_if_eq (tgt := 29) dX12_reach_24 (by decide) (e_aload_n dX12_reach_29 rfl (e_iconst (v := (-1)) dX12_reach_30 (by decide) (e_callV cl_11 cal_X12_laysWays q_2047 q_2049 q_98 dX12_reach_31 (e_iconst (v := 0) dX12_reach_34 (by decide) (e_istore_n dX12_reach_35 rfl (by decide) (e_iconst (v := 0) dX12_reach_36 (by decide) (e_istore_n dX12_reach_37 rfl (by decide) (fun _ _ _ h9 => h9)))))))) (e_iconst (v := 0) dX12_reach_27 (by decide) (e_ireturn rfl dX12_reach_28))))))))))))))))
set_option maxRecDepth 100000 in
theorem T_X12_reach_38 {G : GE} {d C S : Nat} {ρ : Rs} : Snd G MX12_reach (d + 1) C S 38 ρ (s_iload 3 (s_aload 0 (s_getR 11 12 (s_iconst 0 (s_iaload (s_ic_ge (s_iload 2 (s_ireturn ρ)) (s_iload 2 (s_aload 0 (s_getR 11 37 (s_iload 1 (s_aaload (s_iload 3 (s_iaload (s_iconst (-1) (s_ic_eq (s_iconst 0 (s_ior (s_istore 2 (s_iinc 3 1 (fun L st h => E G MX12_reach (d + 1) C S 38 L st h ρ))))) (s_iconst 1 (s_iload 3 (s_ishl (s_ior (s_istore 2 (s_iinc 3 1 (fun L st h => E G MX12_reach (d + 1) C S 38 L st h ρ)))))))))))))))))))))) := (e_iload_n dX12_reach_38 rfl (e_aload_n dX12_reach_39 rfl (e_getR rfl cl_11 (by decide) rfl q_1576 dX12_reach_40 (e_iconst (v := 0) dX12_reach_43 (by decide) (e_iaload dX12_reach_44 (e_ic_ge (tgt := 76) dX12_reach_45 (by decide) (e_iload_n dX12_reach_76 rfl (e_ireturn rfl dX12_reach_77)) (e_iload_n dX12_reach_48 rfl (e_aload_n dX12_reach_49 rfl (e_getR rfl cl_11 (by decide) rfl q_1601 dX12_reach_50 (e_iload_n dX12_reach_53 rfl (e_aaload dX12_reach_54 (e_iload_n dX12_reach_55 rfl (e_iaload dX12_reach_56 (e_iconst (v := (-1)) dX12_reach_57 (by decide) (e_ic_eq (tgt := 67) dX12_reach_58 (by decide) (e_iconst (v := 0) dX12_reach_67 (by decide) (e_ior dX12_reach_68 (e_istore_n dX12_reach_69 rfl (by decide) (e_iinc (v := 1) dX12_reach_70 (by decide) (by decide) (e_goto (tgt := 38) dX12_reach_73 (by decide) (fun _ _ _ h9 => h9)))))) (e_iconst (v := 1) dX12_reach_61 (by decide) (e_iload_n dX12_reach_62 rfl (e_ishl dX12_reach_63 (e_goto (tgt := 68) dX12_reach_64 (by decide) (e_ior dX12_reach_68 (e_istore_n dX12_reach_69 rfl (by decide) (e_iinc (v := 1) dX12_reach_70 (by decide) (by decide) (e_goto (tgt := 38) dX12_reach_73 (by decide) (fun _ _ _ h9 => h9))))))))))))))))))))))))
