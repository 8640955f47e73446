theorem dX12_repaves_0 : decode cX12_repaves 0 = .ok (.aload_n 0, 1) := by decide +kernel
theorem dX12_repaves_1 : decode cX12_repaves 1 = .ok (.iload_n 1, 1) := by decide +kernel
theorem dX12_repaves_2 : decode cX12_repaves 2 = .ok (.invokestatic 289, 3) := by decide +kernel
theorem dX12_repaves_5 : decode cX12_repaves 5 = .ok (.istore_n 2, 1) := by decide +kernel
theorem dX12_repaves_6 : decode cX12_repaves 6 = .ok (.aload_n 0, 1) := by decide +kernel
theorem dX12_repaves_7 : decode cX12_repaves 7 = .ok (.bipush 32, 2) := by decide +kernel
theorem dX12_repaves_9 : decode cX12_repaves 9 = .ok (.iload_n 1, 1) := by decide +kernel
theorem dX12_repaves_10 : decode cX12_repaves 10 = .ok (.iadd, 1) := by decide +kernel
theorem dX12_repaves_11 : decode cX12_repaves 11 = .ok (.iaload, 1) := by decide +kernel
theorem dX12_repaves_12 : decode cX12_repaves 12 = .ok (.istore_n 3, 1) := by decide +kernel
theorem dX12_repaves_13 : decode cX12_repaves 13 = .ok (.aload_n 0, 1) := by decide +kernel
theorem dX12_repaves_14 : decode cX12_repaves 14 = .ok (.bipush 32, 2) := by decide +kernel
theorem dX12_repaves_16 : decode cX12_repaves 16 = .ok (.iload_n 1, 1) := by decide +kernel
theorem dX12_repaves_17 : decode cX12_repaves 17 = .ok (.iadd, 1) := by decide +kernel
theorem dX12_repaves_18 : decode cX12_repaves 18 = .ok (.iconst 0, 1) := by decide +kernel
theorem dX12_repaves_19 : decode cX12_repaves 19 = .ok (.iastore, 1) := by decide +kernel
theorem dX12_repaves_20 : decode cX12_repaves 20 = .ok (.iload_n 2, 1) := by decide +kernel
theorem dX12_repaves_21 : decode cX12_repaves 21 = .ok (.iconst (-1), 1) := by decide +kernel
theorem dX12_repaves_22 : decode cX12_repaves 22 = .ok (.if_icmp .eq 19, 3) := by decide +kernel
theorem dX12_repaves_25 : decode cX12_repaves 25 = .ok (.iload_n 3, 1) := by decide +kernel
theorem dX12_repaves_26 : decode cX12_repaves 26 = .ok (.aload_n 0, 1) := by decide +kernel
theorem dX12_repaves_27 : decode cX12_repaves 27 = .ok (.bipush 32, 2) := by decide +kernel
theorem dX12_repaves_29 : decode cX12_repaves 29 = .ok (.iload_n 2, 1) := by decide +kernel
theorem dX12_repaves_30 : decode cX12_repaves 30 = .ok (.iadd, 1) := by decide +kernel
theorem dX12_repaves_31 : decode cX12_repaves 31 = .ok (.iaload, 1) := by decide +kernel
theorem dX12_repaves_32 : decode cX12_repaves 32 = .ok (.iadd, 1) := by decide +kernel
theorem dX12_repaves_33 : decode cX12_repaves 33 = .ok (.istore_n 3, 1) := by decide +kernel
theorem dX12_repaves_34 : decode cX12_repaves 34 = .ok (.aload_n 0, 1) := by decide +kernel
theorem dX12_repaves_35 : decode cX12_repaves 35 = .ok (.bipush 32, 2) := by decide +kernel
theorem dX12_repaves_37 : decode cX12_repaves 37 = .ok (.iload_n 2, 1) := by decide +kernel
theorem dX12_repaves_38 : decode cX12_repaves 38 = .ok (.iadd, 1) := by decide +kernel
theorem dX12_repaves_39 : decode cX12_repaves 39 = .ok (.iconst 0, 1) := by decide +kernel
theorem dX12_repaves_40 : decode cX12_repaves 40 = .ok (.iastore, 1) := by decide +kernel
theorem dX12_repaves_41 : decode cX12_repaves 41 = .ok (.iload_n 3, 1) := by decide +kernel
theorem dX12_repaves_42 : decode cX12_repaves 42 = .ok (.ifCond .le 7, 3) := by decide +kernel
theorem dX12_repaves_45 : decode cX12_repaves 45 = .ok (.iconst 1, 1) := by decide +kernel
theorem dX12_repaves_46 : decode cX12_repaves 46 = .ok (.goto 4, 3) := by decide +kernel
theorem dX12_repaves_49 : decode cX12_repaves 49 = .ok (.iconst 0, 1) := by decide +kernel
theorem dX12_repaves_50 : decode cX12_repaves 50 = .ok (.ireturn, 1) := by decide +kernel
set_option maxRecDepth 100000 in
theorem T_X12_repaves_0 {G : GE} {d C S : Nat} {P : KI} : Snd G MX12_repaves (d + 1) C S 0 (RI P) (s_aload 0 (s_iload 1 (s_call G d MX12_mateOf 2 (s_istore 2 (s_aload 0 (s_iconst 32 (s_iload 1 (s_iadd (s_iaload (s_istore 3 (s_aload 0 (s_iconst 32 (s_iload 1 (s_iadd (s_iconst 0 (s_iastore (s_iload 2 (s_iconst (-1) (s_ic_eq (s_iload 3 (s_if_le (s_iconst 0 (s_zreturn P)) (s_iconst 1 (s_zreturn P)))) (s_iload 3 (s_aload 0 (s_iconst 32 (s_iload 2 (s_iadd (s_iaload (s_iadd (s_istore 3 (s_aload 0 (s_iconst 32 (s_iload 2 (s_iadd (s_iconst 0 (s_iastore (s_iload 3 (s_if_le (s_iconst 0 (s_zreturn P)) (s_iconst 1 (s_zreturn P))))))))))))))))))))))))))))))))))))) := (e_aload_n dX12_repaves_0 rfl (e_iload_n dX12_repaves_1 rfl (e_callS cal_X12_mateOf q_1878 q_1879 dX12_repaves_2 (e_istore_n dX12_repaves_5 rfl (by decide) (e_aload_n dX12_repaves_6 rfl (e_bipush (v := 32) dX12_repaves_7 (by decide) (e_iload_n dX12_repaves_9 rfl (e_iadd dX12_repaves_10 (e_iaload dX12_repaves_11 (e_istore_n dX12_repaves_12 rfl (by decide) (e_aload_n dX12_repaves_13 rfl (e_bipush (v := 32) dX12_repaves_14 (by decide) (e_iload_n dX12_repaves_16 rfl (e_iadd dX12_repaves_17 (e_iconst (v := 0) dX12_repaves_18 (by decide) (e_iastore dX12_repaves_19 (e_iload_n dX12_repaves_20 rfl (e_iconst (v := (-1)) dX12_repaves_21 (by decide) (e_ic_eq (tgt := 41) dX12_repaves_22 (by decide) (e_iload_n dX12_repaves_41 rfl (e_if_le (tgt := 49) dX12_repaves_42 (by decide) (e_iconst (v := 0) dX12_repaves_49 (by decide) (e_zreturn rfl dX12_repaves_50)) (e_iconst (v := 1) dX12_repaves_45 (by decide) (e_goto (tgt := 50) dX12_repaves_46 (by decide) (e_zreturn rfl dX12_repaves_50))))) (e_iload_n dX12_repaves_25 rfl (e_aload_n dX12_repaves_26 rfl (e_bipush (v := 32) dX12_repaves_27 (by decide) (e_iload_n dX12_repaves_29 rfl (e_iadd dX12_repaves_30 (e_iaload dX12_repaves_31 (e_iadd dX12_repaves_32 (e_istore_n dX12_repaves_33 rfl (by decide) (e_aload_n dX12_repaves_34 rfl (e_bipush (v := 32) dX12_repaves_35 (by decide) (e_iload_n dX12_repaves_37 rfl (e_iadd dX12_repaves_38 (e_iconst (v := 0) dX12_repaves_39 (by decide) (e_iastore dX12_repaves_40 (e_iload_n dX12_repaves_41 rfl (e_if_le (tgt := 49) dX12_repaves_42 (by decide) (e_iconst (v := 0) dX12_repaves_49 (by decide) (e_zreturn rfl dX12_repaves_50)) (e_iconst (v := 1) dX12_repaves_45 (by decide) (e_goto (tgt := 50) dX12_repaves_46 (by decide) (e_zreturn rfl dX12_repaves_50))))))))))))))))))))))))))))))))))))))
set_option maxRecDepth 100000 in
theorem V_X12_repaves_0 {G : GE} {d : Nat} {P : KI} {a : Nat → Nat → Int32} {r : Nat → Nat → Value} {N : Nat} {l0 : Nat} {l1 : Int32} (hs : Sp G d 0 0 MX12_mateOf [.ref l0, .int l1] (a, r, N) (RI fun v4 a1 r2 n3 => ((tyK l0).1 = 1 ∧ l0 < n3 ∧ vp_in ((32 : Int32) + l1) (tyK l0).2 ∧ ((tyK l0).1 = 1 ∧ l0 < n3 ∧ vp_in ((32 : Int32) + l1) (tyK l0).2 ∧ ∀ a5, a5 = u2 a1 l0 (((32 : Int32) + l1) : Int32).toNatClampNeg 0 → ((v4 = (-1) → (((a1 l0 (((32 : Int32) + l1) : Int32).toNatClampNeg) ≤ 0 → (bz 0 ∧ P 0 a5 r2 n3)) ∧ (¬ (a1 l0 (((32 : Int32) + l1) : Int32).toNatClampNeg) ≤ 0 → (bz 1 ∧ P 1 a5 r2 n3)))) ∧ (¬ v4 = (-1) → ((tyK l0).1 = 1 ∧ l0 < n3 ∧ vp_in ((32 : Int32) + v4) (tyK l0).2 ∧ ((tyK l0).1 = 1 ∧ l0 < n3 ∧ vp_in ((32 : Int32) + v4) (tyK l0).2 ∧ ∀ a6, a6 = u2 a5 l0 (((32 : Int32) + v4) : Int32).toNatClampNeg 0 → ((((a1 l0 (((32 : Int32) + l1) : Int32).toNatClampNeg) + (a5 l0 (((32 : Int32) + v4) : Int32).toNatClampNeg)) ≤ 0 → (bz 0 ∧ P 0 a6 r2 n3)) ∧ (¬ ((a1 l0 (((32 : Int32) + l1) : Int32).toNatClampNeg) + (a5 l0 (((32 : Int32) + v4) : Int32).toNatClampNeg)) ≤ 0 → (bz 1 ∧ P 1 a6 r2 n3))))))))))) : Sp G (d + 1) 0 0 MX12_repaves [.ref l0, .int l1] (a, r, N) (RI P) := Sp.mk (mc := 0) (ms := 0) [.ref l0, .int l1, .null, .null] rfl rfl rfl rfl (T_X12_repaves_0 (C := 0) (S := 0) _ _ _ hs)
theorem dX12_quarrels_0 : decode cX12_quarrels 0 = .ok (.aload_n 0, 1) := by decide +kernel
theorem dX12_quarrels_1 : decode cX12_quarrels 1 = .ok (.iload_n 1, 1) := by decide +kernel
theorem dX12_quarrels_2 : decode cX12_quarrels 2 = .ok (.invokestatic 289, 3) := by decide +kernel
theorem dX12_quarrels_5 : decode cX12_quarrels 5 = .ok (.istore_n 2, 1) := by decide +kernel
theorem dX12_quarrels_6 : decode cX12_quarrels 6 = .ok (.iload_n 2, 1) := by decide +kernel
theorem dX12_quarrels_7 : decode cX12_quarrels 7 = .ok (.iconst (-1), 1) := by decide +kernel
theorem dX12_quarrels_8 : decode cX12_quarrels 8 = .ok (.if_icmp .eq 25, 3) := by decide +kernel
theorem dX12_quarrels_11 : decode cX12_quarrels 11 = .ok (.aload_n 0, 1) := by decide +kernel
theorem dX12_quarrels_12 : decode cX12_quarrels 12 = .ok (.bipush 32, 2) := by decide +kernel
theorem dX12_quarrels_14 : decode cX12_quarrels 14 = .ok (.iload_n 1, 1) := by decide +kernel
theorem dX12_quarrels_15 : decode cX12_quarrels 15 = .ok (.iadd, 1) := by decide +kernel
theorem dX12_quarrels_16 : decode cX12_quarrels 16 = .ok (.iaload, 1) := by decide +kernel
theorem dX12_quarrels_17 : decode cX12_quarrels 17 = .ok (.bipush 9, 2) := by decide +kernel
theorem dX12_quarrels_19 : decode cX12_quarrels 19 = .ok (.if_icmp .ne 16, 3) := by decide +kernel
theorem dX12_quarrels_22 : decode cX12_quarrels 22 = .ok (.aload_n 0, 1) := by decide +kernel
theorem dX12_quarrels_23 : decode cX12_quarrels 23 = .ok (.bipush 32, 2) := by decide +kernel
theorem dX12_quarrels_25 : decode cX12_quarrels 25 = .ok (.iload_n 2, 1) := by decide +kernel
theorem dX12_quarrels_26 : decode cX12_quarrels 26 = .ok (.iadd, 1) := by decide +kernel
theorem dX12_quarrels_27 : decode cX12_quarrels 27 = .ok (.iaload, 1) := by decide +kernel
theorem dX12_quarrels_28 : decode cX12_quarrels 28 = .ok (.bipush 9, 2) := by decide +kernel
theorem dX12_quarrels_30 : decode cX12_quarrels 30 = .ok (.if_icmp .ne 5, 3) := by decide +kernel
theorem dX12_quarrels_33 : decode cX12_quarrels 33 = .ok (.iconst 0, 1) := by decide +kernel
theorem dX12_quarrels_34 : decode cX12_quarrels 34 = .ok (.ireturn, 1) := by decide +kernel
theorem dX12_quarrels_35 : decode cX12_quarrels 35 = .ok (.aload_n 0, 1) := by decide +kernel
theorem dX12_quarrels_36 : decode cX12_quarrels 36 = .ok (.bipush 32, 2) := by decide +kernel
theorem dX12_quarrels_38 : decode cX12_quarrels 38 = .ok (.iload_n 1, 1) := by decide +kernel
theorem dX12_quarrels_39 : decode cX12_quarrels 39 = .ok (.iadd, 1) := by decide +kernel
theorem dX12_quarrels_40 : decode cX12_quarrels 40 = .ok (.bipush 9, 2) := by decide +kernel
theorem dX12_quarrels_42 : decode cX12_quarrels 42 = .ok (.aload_n 0, 1) := by decide +kernel
theorem dX12_quarrels_43 : decode cX12_quarrels 43 = .ok (.bipush 32, 2) := by decide +kernel
theorem dX12_quarrels_45 : decode cX12_quarrels 45 = .ok (.iload_n 1, 1) := by decide +kernel
theorem dX12_quarrels_46 : decode cX12_quarrels 46 = .ok (.iadd, 1) := by decide +kernel
theorem dX12_quarrels_47 : decode cX12_quarrels 47 = .ok (.iaload, 1) := by decide +kernel
theorem dX12_quarrels_48 : decode cX12_quarrels 48 = .ok (.iconst 1, 1) := by decide +kernel
theorem dX12_quarrels_49 : decode cX12_quarrels 49 = .ok (.iadd, 1) := by decide +kernel
theorem dX12_quarrels_50 : decode cX12_quarrels 50 = .ok (.invokestatic 258, 3) := by decide +kernel
theorem dX12_quarrels_53 : decode cX12_quarrels 53 = .ok (.iastore, 1) := by decide +kernel
theorem dX12_quarrels_54 : decode cX12_quarrels 54 = .ok (.aload_n 0, 1) := by decide +kernel
theorem dX12_quarrels_55 : decode cX12_quarrels 55 = .ok (.bipush 32, 2) := by decide +kernel
theorem dX12_quarrels_57 : decode cX12_quarrels 57 = .ok (.iload_n 2, 1) := by decide +kernel
theorem dX12_quarrels_58 : decode cX12_quarrels 58 = .ok (.iadd, 1) := by decide +kernel
theorem dX12_quarrels_59 : decode cX12_quarrels 59 = .ok (.bipush 9, 2) := by decide +kernel
theorem dX12_quarrels_61 : decode cX12_quarrels 61 = .ok (.aload_n 0, 1) := by decide +kernel
theorem dX12_quarrels_62 : decode cX12_quarrels 62 = .ok (.bipush 32, 2) := by decide +kernel
theorem dX12_quarrels_64 : decode cX12_quarrels 64 = .ok (.iload_n 2, 1) := by decide +kernel
theorem dX12_quarrels_65 : decode cX12_quarrels 65 = .ok (.iadd, 1) := by decide +kernel
theorem dX12_quarrels_66 : decode cX12_quarrels 66 = .ok (.iaload, 1) := by decide +kernel
theorem dX12_quarrels_67 : decode cX12_quarrels 67 = .ok (.iconst 1, 1) := by decide +kernel
theorem dX12_quarrels_68 : decode cX12_quarrels 68 = .ok (.iadd, 1) := by decide +kernel
theorem dX12_quarrels_69 : decode cX12_quarrels 69 = .ok (.invokestatic 258, 3) := by decide +kernel
theorem dX12_quarrels_72 : decode cX12_quarrels 72 = .ok (.iastore, 1) := by decide +kernel
theorem dX12_quarrels_73 : decode cX12_quarrels 73 = .ok (.iconst 1, 1) := by decide +kernel
theorem dX12_quarrels_74 : decode cX12_quarrels 74 = .ok (.ireturn, 1) := by decide +kernel
set_option maxRecDepth 100000 in
theorem T_X12_quarrels_0 {G : GE} {d C S : Nat} {P : KI} : Snd G MX12_quarrels (d + 1) C S 0 (RI P) (s_aload 0 (s_iload 1 (s_call G d MX12_mateOf 2 (s_istore 2 (s_iload 2 (s_iconst (-1) (s_ic_eq (s_iconst 0 (s_zreturn P)) (s_aload 0 (s_iconst 32 (s_iload 1 (s_iadd (s_iaload (s_iconst 9 (s_ic_ne (fun L st h => E G MX12_quarrels (d + 1) C S 35 (msk [true, true, true] L) st h (RI P)) (s_aload 0 (s_iconst 32 (s_iload 2 (s_iadd (s_iaload (s_iconst 9 (s_ic_ne (fun L st h => E G MX12_quarrels (d + 1) C S 35 (msk [true, true, true] L) st h (RI P)) (s_iconst 0 (s_zreturn P))))))))))))))))))))))) := (e_aload_n dX12_quarrels_0 rfl (e_iload_n dX12_quarrels_1 rfl (e_callS cal_X12_mateOf q_1878 q_1879 dX12_quarrels_2 (e_istore_n dX12_quarrels_5 rfl (by decide) (e_iload_n dX12_quarrels_6 rfl (e_iconst (v := (-1)) dX12_quarrels_7 (by decide) (e_ic_eq (tgt := 33) dX12_quarrels_8 (by decide) (e_iconst (v := 0) dX12_quarrels_33 (by decide) (e_zreturn rfl dX12_quarrels_34)) (e_aload_n dX12_quarrels_11 rfl (e_bipush (v := 32) dX12_quarrels_12 (by decide) (e_iload_n dX12_quarrels_14 rfl (e_iadd dX12_quarrels_15 (e_iaload dX12_quarrels_16 (e_bipush (v := 9) dX12_quarrels_17 (by decide) (e_ic_ne (tgt := 35) dX12_quarrels_19 (by decide) (e_msk [true, true, true]) (e_aload_n dX12_quarrels_22 rfl (e_bipush (v := 32) dX12_quarrels_23 (by decide) (e_iload_n dX12_quarrels_25 rfl (e_iadd dX12_quarrels_26 (e_iaload dX12_quarrels_27 (e_bipush (v := 9) dX12_quarrels_28 (by decide) (e_ic_ne (tgt := 35) dX12_quarrels_30 (by decide) (e_msk [true, true, true]) (e_iconst (v := 0) dX12_quarrels_33 (by decide) (e_zreturn rfl dX12_quarrels_34)))))))))))))))))))))))
set_option maxRecDepth 100000 in
theorem V_X12_quarrels_0 {G : GE} {d : Nat} {P : KI} {a : Nat → Nat → Int32} {r : Nat → Nat → Value} {N : Nat} {l0 : Nat} {l1 : Int32} (hs : Sp G d 0 0 MX12_mateOf [.ref l0, .int l1] (a, r, N) (RI fun v4 a1 r2 n3 => ((v4 = (-1) → (bz 0 ∧ P 0 a1 r2 n3)) ∧ (¬ v4 = (-1) → ((tyK l0).1 = 1 ∧ l0 < n3 ∧ vp_in ((32 : Int32) + l1) (tyK l0).2 ∧ ((¬ (a1 l0 (((32 : Int32) + l1) : Int32).toNatClampNeg) = 9 → E G MX12_quarrels (d + 1) 0 0 35 [.ref l0, .int l1, .int v4] [] (a1, r2, n3) (RI P)) ∧ ((a1 l0 (((32 : Int32) + l1) : Int32).toNatClampNeg) = 9 → ((tyK l0).1 = 1 ∧ l0 < n3 ∧ vp_in ((32 : Int32) + v4) (tyK l0).2 ∧ ((¬ (a1 l0 (((32 : Int32) + v4) : Int32).toNatClampNeg) = 9 → E G MX12_quarrels (d + 1) 0 0 35 [.ref l0, .int l1, .int v4] [] (a1, r2, n3) (RI P)) ∧ ((a1 l0 (((32 : Int32) + v4) : Int32).toNatClampNeg) = 9 → (bz 0 ∧ P 0 a1 r2 n3))))))))))) : Sp G (d + 1) 0 0 MX12_quarrels [.ref l0, .int l1] (a, r, N) (RI P) := Sp.mk (mc := 0) (ms := 0) [.ref l0, .int l1, .null] rfl rfl rfl rfl (T_X12_quarrels_0 (C := 0) (S := 0) _ _ _ hs)
set_option maxRecDepth 100000 in
theorem T_X12_quarrels_35 {G : GE} {d C S : Nat} {P : KI} : Snd G MX12_quarrels (d + 1) C S 35 (RI P) (s_aload 0 (s_iconst 32 (s_iload 1 (s_iadd (s_iconst 9 (s_aload 0 (s_iconst 32 (s_iload 1 (s_iadd (s_iaload (s_iconst 1 (s_iadd (s_call G d MX12_less 2 (s_iastore (s_aload 0 (s_iconst 32 (s_iload 2 (s_iadd (s_iconst 9 (s_aload 0 (s_iconst 32 (s_iload 2 (s_iadd (s_iaload (s_iconst 1 (s_iadd (s_call G d MX12_less 2 (s_iastore (s_iconst 1 (s_zreturn P)))))))))))))))))))))))))))))) := (e_aload_n dX12_quarrels_35 rfl (e_bipush (v := 32) dX12_quarrels_36 (by decide) (e_iload_n dX12_quarrels_38 rfl (e_iadd dX12_quarrels_39 (e_bipush (v := 9) dX12_quarrels_40 (by decide) (e_aload_n dX12_quarrels_42 rfl (e_bipush (v := 32) dX12_quarrels_43 (by decide) (e_iload_n dX12_quarrels_45 rfl (e_iadd dX12_quarrels_46 (e_iaload dX12_quarrels_47 (e_iconst (v := 1) dX12_quarrels_48 (by decide) (e_iadd dX12_quarrels_49 (e_callS cal_X12_less q_1903 q_1904 dX12_quarrels_50 (e_iastore dX12_quarrels_53 (e_aload_n dX12_quarrels_54 rfl (e_bipush (v := 32) dX12_quarrels_55 (by decide) (e_iload_n dX12_quarrels_57 rfl (e_iadd dX12_quarrels_58 (e_bipush (v := 9) dX12_quarrels_59 (by decide) (e_aload_n dX12_quarrels_61 rfl (e_bipush (v := 32) dX12_quarrels_62 (by decide) (e_iload_n dX12_quarrels_64 rfl (e_iadd dX12_quarrels_65 (e_iaload dX12_quarrels_66 (e_iconst (v := 1) dX12_quarrels_67 (by decide) (e_iadd dX12_quarrels_68 (e_callS cal_X12_less q_1903 q_1904 dX12_quarrels_69 (e_iastore dX12_quarrels_72 (e_iconst (v := 1) dX12_quarrels_73 (by decide) (e_zreturn rfl dX12_quarrels_74))))))))))))))))))))))))))))))
set_option maxRecDepth 100000 in
theorem V_X12_quarrels_35 {G : GE} {d C S : Nat} {P : KI} {a : Nat → Nat → Int32} {r : Nat → Nat → Value} {N : Nat} {l0 : Nat} {l1 : Int32} {l2 : Int32} (hs : ((tyK l0).1 = 1 ∧ l0 < N ∧ vp_in ((32 : Int32) + l1) (tyK l0).2 ∧ Sp G d 0 0 MX12_less [.int 9, .int ((a l0 (((32 : Int32) + l1) : Int32).toNatClampNeg) + 1)] (a, r, N) (RI fun v4 a1 r2 n3 => ((tyK l0).1 = 1 ∧ l0 < n3 ∧ vp_in ((32 : Int32) + l1) (tyK l0).2 ∧ ∀ a5, a5 = u2 a1 l0 (((32 : Int32) + l1) : Int32).toNatClampNeg v4 → ((tyK l0).1 = 1 ∧ l0 < n3 ∧ vp_in ((32 : Int32) + l2) (tyK l0).2 ∧ Sp G d 0 0 MX12_less [.int 9, .int ((a5 l0 (((32 : Int32) + l2) : Int32).toNatClampNeg) + 1)] (a5, r2, n3) (RI fun v9 a6 r7 n8 => ((tyK l0).1 = 1 ∧ l0 < n8 ∧ vp_in ((32 : Int32) + l2) (tyK l0).2 ∧ ∀ a10, a10 = u2 a6 l0 (((32 : Int32) + l2) : Int32).toNatClampNeg v9 → (bz 1 ∧ P 1 a10 r7 n8)))))))) : E G MX12_quarrels (d + 1) C S 35 [.ref l0, .int l1, .int l2] [] (a, r, N) (RI P) := T_X12_quarrels_35 _ _ _ hs
theorem dX12_yearEnds_0 : decode cX12_yearEnds 0 = .ok (.aload_n 1, 1) := by decide +kernel
theorem dX12_yearEnds_1 : decode cX12_yearEnds 1 = .ok (.bipush 40, 2) := by decide +kernel
theorem dX12_yearEnds_3 : decode cX12_yearEnds 3 = .ok (.iaload, 1) := by decide +kernel
theorem dX12_yearEnds_4 : decode cX12_yearEnds 4 = .ok (.sipush 200, 3) := by decide +kernel
theorem dX12_yearEnds_7 : decode cX12_yearEnds 7 = .ok (.if_icmp .ne 5, 3) := by decide +kernel
theorem dX12_yearEnds_10 : decode cX12_yearEnds 10 = .ok (.iconst 0, 1) := by decide +kernel
theorem dX12_yearEnds_11 : decode cX12_yearEnds 11 = .ok (.ireturn, 1) := by decide +kernel
theorem dX12_yearEnds_12 : decode cX12_yearEnds 12 = .ok (.aload_n 1, 1) := by decide +kernel
theorem dX12_yearEnds_13 : decode cX12_yearEnds 13 = .ok (.bipush 40, 2) := by decide +kernel
theorem dX12_yearEnds_15 : decode cX12_yearEnds 15 = .ok (.dup2, 1) := by decide +kernel
theorem dX12_yearEnds_16 : decode cX12_yearEnds 16 = .ok (.iaload, 1) := by decide +kernel
theorem dX12_yearEnds_17 : decode cX12_yearEnds 17 = .ok (.iconst 1, 1) := by decide +kernel
theorem dX12_yearEnds_18 : decode cX12_yearEnds 18 = .ok (.iadd, 1) := by decide +kernel
theorem dX12_yearEnds_19 : decode cX12_yearEnds 19 = .ok (.iastore, 1) := by decide +kernel
theorem dX12_yearEnds_20 : decode cX12_yearEnds 20 = .ok (.iconst 0, 1) := by decide +kernel
theorem dX12_yearEnds_21 : decode cX12_yearEnds 21 = .ok (.istore_n 2, 1) := by decide +kernel
theorem dX12_yearEnds_22 : decode cX12_yearEnds 22 = .ok (.iload_n 2, 1) := by decide +kernel
theorem dX12_yearEnds_23 : decode cX12_yearEnds 23 = .ok (.aload_n 0, 1) := by decide +kernel
theorem dX12_yearEnds_24 : decode cX12_yearEnds 24 = .ok (.getfield 23, 3) := by decide +kernel
theorem dX12_yearEnds_27 : decode cX12_yearEnds 27 = .ok (.iconst 1, 1) := by decide +kernel
theorem dX12_yearEnds_28 : decode cX12_yearEnds 28 = .ok (.iaload, 1) := by decide +kernel
theorem dX12_yearEnds_29 : decode cX12_yearEnds 29 = .ok (.if_icmp .ge 50, 3) := by decide +kernel
theorem dX12_yearEnds_32 : decode cX12_yearEnds 32 = .ok (.aload_n 1, 1) := by decide +kernel
theorem dX12_yearEnds_33 : decode cX12_yearEnds 33 = .ok (.iload_n 2, 1) := by decide +kernel
theorem dX12_yearEnds_34 : decode cX12_yearEnds 34 = .ok (.invokestatic 289, 3) := by decide +kernel
theorem dX12_yearEnds_37 : decode cX12_yearEnds 37 = .ok (.iconst (-1), 1) := by decide +kernel
theorem dX12_yearEnds_38 : decode cX12_yearEnds 38 = .ok (.if_icmp .ne 6, 3) := by decide +kernel
theorem dX12_yearEnds_41 : decode cX12_yearEnds 41 = .ok (.goto 32, 3) := by decide +kernel
theorem dX12_yearEnds_44 : decode cX12_yearEnds 44 = .ok (.aload_n 1, 1) := by decide +kernel
theorem dX12_yearEnds_45 : decode cX12_yearEnds 45 = .ok (.bipush 16, 2) := by decide +kernel
theorem dX12_yearEnds_47 : decode cX12_yearEnds 47 = .ok (.iload_n 2, 1) := by decide +kernel
theorem dX12_yearEnds_48 : decode cX12_yearEnds 48 = .ok (.iadd, 1) := by decide +kernel
theorem dX12_yearEnds_49 : decode cX12_yearEnds 49 = .ok (.dup2, 1) := by decide +kernel
theorem dX12_yearEnds_50 : decode cX12_yearEnds 50 = .ok (.iaload, 1) := by decide +kernel
theorem dX12_yearEnds_51 : decode cX12_yearEnds 51 = .ok (.iconst 1, 1) := by decide +kernel
theorem dX12_yearEnds_52 : decode cX12_yearEnds 52 = .ok (.iadd, 1) := by decide +kernel
theorem dX12_yearEnds_53 : decode cX12_yearEnds 53 = .ok (.iastore, 1) := by decide +kernel
theorem dX12_yearEnds_54 : decode cX12_yearEnds 54 = .ok (.aload_n 1, 1) := by decide +kernel
theorem dX12_yearEnds_55 : decode cX12_yearEnds 55 = .ok (.bipush 16, 2) := by decide +kernel
theorem dX12_yearEnds_57 : decode cX12_yearEnds 57 = .ok (.iload_n 2, 1) := by decide +kernel
theorem dX12_yearEnds_58 : decode cX12_yearEnds 58 = .ok (.iadd, 1) := by decide +kernel
theorem dX12_yearEnds_59 : decode cX12_yearEnds 59 = .ok (.iaload, 1) := by decide +kernel
theorem dX12_yearEnds_60 : decode cX12_yearEnds 60 = .ok (.bipush 25, 2) := by decide +kernel
theorem dX12_yearEnds_62 : decode cX12_yearEnds 62 = .ok (.irem, 1) := by decide +kernel
theorem dX12_yearEnds_63 : decode cX12_yearEnds 63 = .ok (.ifCond .ne 10, 3) := by decide +kernel
theorem dX12_yearEnds_66 : decode cX12_yearEnds 66 = .ok (.aload_n 1, 1) := by decide +kernel
theorem dX12_yearEnds_67 : decode cX12_yearEnds 67 = .ok (.bipush 32, 2) := by decide +kernel
theorem dX12_yearEnds_69 : decode cX12_yearEnds 69 = .ok (.iload_n 2, 1) := by decide +kernel
theorem dX12_yearEnds_70 : decode cX12_yearEnds 70 = .ok (.iadd, 1) := by decide +kernel
theorem dX12_yearEnds_71 : decode cX12_yearEnds 71 = .ok (.iconst 0, 1) := by decide +kernel
theorem dX12_yearEnds_72 : decode cX12_yearEnds 72 = .ok (.iastore, 1) := by decide +kernel
theorem dX12_yearEnds_73 : decode cX12_yearEnds 73 = .ok (.iinc 2 1, 3) := by decide +kernel
theorem dX12_yearEnds_76 : decode cX12_yearEnds 76 = .ok (.goto (-54), 3) := by decide +kernel
theorem dX12_yearEnds_79 : decode cX12_yearEnds 79 = .ok (.iconst 0, 1) := by decide +kernel
theorem dX12_yearEnds_80 : decode cX12_yearEnds 80 = .ok (.istore_n 2, 1) := by decide +kernel
theorem dX12_yearEnds_81 : decode cX12_yearEnds 81 = .ok (.iload_n 2, 1) := by decide +kernel
theorem dX12_yearEnds_82 : decode cX12_yearEnds 82 = .ok (.aload_n 0, 1) := by decide +kernel
theorem dX12_yearEnds_83 : decode cX12_yearEnds 83 = .ok (.getfield 23, 3) := by decide +kernel
theorem dX12_yearEnds_86 : decode cX12_yearEnds 86 = .ok (.iconst 1, 1) := by decide +kernel
theorem dX12_yearEnds_87 : decode cX12_yearEnds 87 = .ok (.iaload, 1) := by decide +kernel
theorem dX12_yearEnds_88 : decode cX12_yearEnds 88 = .ok (.if_icmp .ge 45, 3) := by decide +kernel
theorem dX12_yearEnds_91 : decode cX12_yearEnds 91 = .ok (.aload_n 1, 1) := by decide +kernel
theorem dX12_yearEnds_92 : decode cX12_yearEnds 92 = .ok (.iload_n 2, 1) := by decide +kernel
theorem dX12_yearEnds_93 : decode cX12_yearEnds 93 = .ok (.invokestatic 289, 3) := by decide +kernel
theorem dX12_yearEnds_96 : decode cX12_yearEnds 96 = .ok (.iconst (-1), 1) := by decide +kernel
theorem dX12_yearEnds_97 : decode cX12_yearEnds 97 = .ok (.if_icmp .eq 30, 3) := by decide +kernel
theorem dX12_yearEnds_100 : decode cX12_yearEnds 100 = .ok (.aload_n 1, 1) := by decide +kernel
theorem dX12_yearEnds_101 : decode cX12_yearEnds 101 = .ok (.bipush 32, 2) := by decide +kernel
theorem dX12_yearEnds_103 : decode cX12_yearEnds 103 = .ok (.iload_n 2, 1) := by decide +kernel
theorem dX12_yearEnds_104 : decode cX12_yearEnds 104 = .ok (.iadd, 1) := by decide +kernel
theorem dX12_yearEnds_105 : decode cX12_yearEnds 105 = .ok (.iaload, 1) := by decide +kernel
theorem dX12_yearEnds_106 : decode cX12_yearEnds 106 = .ok (.aload_n 1, 1) := by decide +kernel
theorem dX12_yearEnds_107 : decode cX12_yearEnds 107 = .ok (.bipush 32, 2) := by decide +kernel
theorem dX12_yearEnds_109 : decode cX12_yearEnds 109 = .ok (.aload_n 1, 1) := by decide +kernel
theorem dX12_yearEnds_110 : decode cX12_yearEnds 110 = .ok (.iload_n 2, 1) := by decide +kernel
theorem dX12_yearEnds_111 : decode cX12_yearEnds 111 = .ok (.invokestatic 289, 3) := by decide +kernel
theorem dX12_yearEnds_114 : decode cX12_yearEnds 114 = .ok (.iadd, 1) := by decide +kernel
theorem dX12_yearEnds_115 : decode cX12_yearEnds 115 = .ok (.iaload, 1) := by decide +kernel
theorem dX12_yearEnds_116 : decode cX12_yearEnds 116 = .ok (.iadd, 1) := by decide +kernel
theorem dX12_yearEnds_117 : decode cX12_yearEnds 117 = .ok (.bipush 10, 2) := by decide +kernel
theorem dX12_yearEnds_119 : decode cX12_yearEnds 119 = .ok (.if_icmp .lt 8, 3) := by decide +kernel
theorem dX12_yearEnds_122 : decode cX12_yearEnds 122 = .ok (.aload_n 1, 1) := by decide +kernel
theorem dX12_yearEnds_123 : decode cX12_yearEnds 123 = .ok (.iload_n 2, 1) := by decide +kernel
theorem dX12_yearEnds_124 : decode cX12_yearEnds 124 = .ok (.invokestatic 293, 3) := by decide +kernel
theorem dX12_yearEnds_127 : decode cX12_yearEnds 127 = .ok (.iinc 2 1, 3) := by decide +kernel
theorem dX12_yearEnds_130 : decode cX12_yearEnds 130 = .ok (.goto (-49), 3) := by decide +kernel
theorem dX12_yearEnds_133 : decode cX12_yearEnds 133 = .ok (.iconst 1, 1) := by decide +kernel
theorem dX12_yearEnds_134 : decode cX12_yearEnds 134 = .ok (.ireturn, 1) := by decide +kernel
set_option maxRecDepth 100000 in
theorem T_X12_yearEnds_0 {G : GE} {d C S : Nat} {P : KI} : Snd G MX12_yearEnds (d + 1) C S 0 (RI P) (s_aload 1 (s_iconst 40 (s_iaload (s_iconst 200 (s_ic_ne (s_aload 1 (s_iconst 40 (s_dup2 (s_iaload (s_iconst 1 (s_iadd (s_iastore (s_iconst 0 (s_istore 2 (fun L st h => E G MX12_yearEnds (d + 1) C S 22 (msk [true, true, true] L) st h (RI P))))))))))) (s_iconst 0 (s_zreturn P))))))) := (e_aload_n dX12_yearEnds_0 rfl (e_bipush (v := 40) dX12_yearEnds_1 (by decide) (e_iaload dX12_yearEnds_3 (e_sipush (v := 200) dX12_yearEnds_4 (by decide) (e_ic_ne (tgt := 12) dX12_yearEnds_7 (by decide) (e_aload_n dX12_yearEnds_12 rfl (e_bipush (v := 40) dX12_yearEnds_13 (by decide) (e_dup2 dX12_yearEnds_15 (e_iaload dX12_yearEnds_16 (e_iconst (v := 1) dX12_yearEnds_17 (by decide) (e_iadd dX12_yearEnds_18 (e_iastore dX12_yearEnds_19 (e_iconst (v := 0) dX12_yearEnds_20 (by decide) (e_istore_n dX12_yearEnds_21 rfl (by decide) (e_msk [true, true, true])))))))))) (e_iconst (v := 0) dX12_yearEnds_10 (by decide) (e_zreturn rfl dX12_yearEnds_11)))))))
set_option maxRecDepth 100000 in
theorem V_X12_yearEnds_0 {G : GE} {d : Nat} {P : KI} {a : Nat → Nat → Int32} {r : Nat → Nat → Value} {N : Nat} {l0 : Nat} {l1 : Nat} (hs : ((tyK l1).1 = 1 ∧ l1 < N ∧ vp_in 40 (tyK l1).2 ∧ ((¬ (a l1 (40 : Int32).toNatClampNeg) = 200 → ((tyK l1).1 = 1 ∧ l1 < N ∧ vp_in 40 (tyK l1).2 ∧ ((tyK l1).1 = 1 ∧ l1 < N ∧ vp_in 40 (tyK l1).2 ∧ ∀ a1, a1 = u2 a l1 (40 : Int32).toNatClampNeg ((a l1 (40 : Int32).toNatClampNeg) + 1) → E G MX12_yearEnds (d + 1) 0 0 22 [.ref l0, .ref l1, .int 0] [] (a1, r, N) (RI P)))) ∧ ((a l1 (40 : Int32).toNatClampNeg) = 200 → (bz 0 ∧ P 0 a r N))))) : Sp G (d + 1) 0 0 MX12_yearEnds [.ref l0, .ref l1] (a, r, N) (RI P) := Sp.mk (mc := 0) (ms := 0) [.ref l0, .ref l1, .null] rfl rfl rfl rfl (T_X12_yearEnds_0 (C := 0) (S := 0) _ _ _ hs)
set_option maxRecDepth 100000 in
theorem T_X12_yearEnds_22 {G : GE} {d C S : Nat} {P : KI} : Snd G MX12_yearEnds (d + 1) C S 22 (RI P) (s_iload 2 (s_aload 0 (s_getR 11 12 (s_iconst 1 (s_iaload (s_ic_ge (s_iconst 0 (s_istore 2 (fun L st h => E G MX12_yearEnds (d + 1) C S 81 (msk [true, true, true] L) st h (RI P)))) (s_aload 1 (s_iload 2 (s_call G d MX12_mateOf 2 (s_iconst (-1) (s_ic_ne (s_aload 1 (s_iconst 16 (s_iload 2 (s_iadd (s_dup2 (s_iaload (s_iconst 1 (s_iadd (s_iastore (s_aload 1 (s_iconst 16 (s_iload 2 (s_iadd (s_iaload (s_iconst 25 (s_irem (s_if_ne (s_iinc 2 1 (fun L st h => E G MX12_yearEnds (d + 1) C S 22 (msk [true, true, true] L) st h (RI P))) (s_aload 1 (s_iconst 32 (s_iload 2 (s_iadd (s_iconst 0 (s_iastore (s_iinc 2 1 (fun L st h => E G MX12_yearEnds (d + 1) C S 22 (msk [true, true, true] L) st h (RI P)))))))))))))))))))))))))) (s_iinc 2 1 (fun L st h => E G MX12_yearEnds (d + 1) C S 22 (msk [true, true, true] L) st h (RI P)))))))))))))) := (e_iload_n dX12_yearEnds_22 rfl (e_aload_n dX12_yearEnds_23 rfl (e_getR rfl cl_11 (by decide) rfl q_1576 dX12_yearEnds_24 (e_iconst (v := 1) dX12_yearEnds_27 (by decide) (e_iaload dX12_yearEnds_28 (e_ic_ge (tgt := 79) dX12_yearEnds_29 (by decide) (e_iconst (v := 0) dX12_yearEnds_79 (by decide) (e_istore_n dX12_yearEnds_80 rfl (by decide) (e_msk [true, true, true]))) (e_aload_n dX12_yearEnds_32 rfl (e_iload_n dX12_yearEnds_33 rfl (e_callS cal_X12_mateOf q_1878 q_1879 dX12_yearEnds_34 (e_iconst (v := (-1)) dX12_yearEnds_37 (by decide) (e_ic_ne (tgt := 44) dX12_yearEnds_38 (by decide) (e_aload_n dX12_yearEnds_44 rfl (e_bipush (v := 16) dX12_yearEnds_45 (by decide) (e_iload_n dX12_yearEnds_47 rfl (e_iadd dX12_yearEnds_48 (e_dup2 dX12_yearEnds_49 (e_iaload dX12_yearEnds_50 (e_iconst (v := 1) dX12_yearEnds_51 (by decide) (e_iadd dX12_yearEnds_52 (e_iastore dX12_yearEnds_53 (e_aload_n dX12_yearEnds_54 rfl (e_bipush (v := 16) dX12_yearEnds_55 (by decide) (e_iload_n dX12_yearEnds_57 rfl (e_iadd dX12_yearEnds_58 (e_iaload dX12_yearEnds_59 (e_bipush (v := 25) dX12_yearEnds_60 (by decide) (e_irem dX12_yearEnds_62 (e_if_ne (tgt := 73) dX12_yearEnds_63 (by decide) (e_iinc (v := 1) dX12_yearEnds_73 (by decide) (by decide) (e_goto (tgt := 22) dX12_yearEnds_76 (by decide) (e_msk [true, true, true]))) (e_aload_n dX12_yearEnds_66 rfl (e_bipush (v := 32) dX12_yearEnds_67 (by decide) (e_iload_n dX12_yearEnds_69 rfl (e_iadd dX12_yearEnds_70 (e_iconst (v := 0) dX12_yearEnds_71 (by decide) (e_iastore dX12_yearEnds_72 (e_iinc (v := 1) dX12_yearEnds_73 (by decide) (by decide) (e_goto (tgt := 22) dX12_yearEnds_76 (by decide) (e_msk [true, true, true])))))))))))))))))))))))))) (e_goto (tgt := 73) dX12_yearEnds_41 (by decide) (e_iinc (v := 1) dX12_yearEnds_73 (by decide) (by decide) (e_goto (tgt := 22) dX12_yearEnds_76 (by decide) (e_msk [true, true, true])))))))))))))))
set_option maxRecDepth 100000 in
theorem V_X12_yearEnds_22 {G : GE} {d C S : Nat} {P : KI} {a : Nat → Nat → Int32} {r : Nat → Nat → Value} {N : Nat} {l0 : Nat} {l1 : Nat} {l2 : Int32} (hs : (tyK l0 = (0, 11) ∧ l0 < N ∧ ∃ q1, r l0 12 = .ref q1 ∧ ((tyK q1).1 = 1 ∧ q1 < N ∧ vp_in 1 (tyK q1).2 ∧ (((a q1 (1 : Int32).toNatClampNeg) ≤ l2 → E G MX12_yearEnds (d + 1) C S 81 [.ref l0, .ref l1, .int 0] [] (a, r, N) (RI P)) ∧ (¬ (a q1 (1 : Int32).toNatClampNeg) ≤ l2 → Sp G d 0 0 MX12_mateOf [.ref l1, .int l2] (a, r, N) (RI fun v5 a2 r3 n4 => ((¬ v5 = (-1) → ((tyK l1).1 = 1 ∧ l1 < n4 ∧ vp_in ((16 : Int32) + l2) (tyK l1).2 ∧ ((tyK l1).1 = 1 ∧ l1 < n4 ∧ vp_in ((16 : Int32) + l2) (tyK l1).2 ∧ ∀ a6, a6 = u2 a2 l1 (((16 : Int32) + l2) : Int32).toNatClampNeg ((a2 l1 (((16 : Int32) + l2) : Int32).toNatClampNeg) + 1) → ((tyK l1).1 = 1 ∧ l1 < n4 ∧ vp_in ((16 : Int32) + l2) (tyK l1).2 ∧ (¬ (25 : Int32) = 0 ∧ ((¬ (((a6 l1 (((16 : Int32) + l2) : Int32).toNatClampNeg) : Int32) - ((a6 l1 (((16 : Int32) + l2) : Int32).toNatClampNeg) : Int32) / (25 : Int32) * (25 : Int32)) = 0 → E G MX12_yearEnds (d + 1) C S 22 [.ref l0, .ref l1, .int (l2 + 1)] [] (a6, r3, n4) (RI P)) ∧ ((((a6 l1 (((16 : Int32) + l2) : Int32).toNatClampNeg) : Int32) - ((a6 l1 (((16 : Int32) + l2) : Int32).toNatClampNeg) : Int32) / (25 : Int32) * (25 : Int32)) = 0 → ((tyK l1).1 = 1 ∧ l1 < n4 ∧ vp_in ((32 : Int32) + l2) (tyK l1).2 ∧ ∀ a7, a7 = u2 a6 l1 (((32 : Int32) + l2) : Int32).toNatClampNeg 0 → E G MX12_yearEnds (d + 1) C S 22 [.ref l0, .ref l1, .int (l2 + 1)] [] (a7, r3, n4) (RI P))))))))) ∧ (v5 = (-1) → E G MX12_yearEnds (d + 1) C S 22 [.ref l0, .ref l1, .int (l2 + 1)] [] (a2, r3, n4) (RI P))))))))) : E G MX12_yearEnds (d + 1) C S 22 [.ref l0, .ref l1, .int l2] [] (a, r, N) (RI P) := T_X12_yearEnds_22 _ _ _ hs
set_option maxRecDepth 100000 in
theorem T_X12_yearEnds_81 {G : GE} {d C S : Nat} {P : KI} : Snd G MX12_yearEnds (d + 1) C S 81 (RI P) (s_iload 2 (s_aload 0 (s_getR 11 12 (s_iconst 1 (s_iaload (s_ic_ge (s_iconst 1 (s_zreturn P)) (s_aload 1 (s_iload 2 (s_call G d MX12_mateOf 2 (s_iconst (-1) (s_ic_eq (s_iinc 2 1 (fun L st h => E G MX12_yearEnds (d + 1) C S 81 (msk [true, true, true] L) st h (RI P))) (s_aload 1 (s_iconst 32 (s_iload 2 (s_iadd (s_iaload (s_aload 1 (s_iconst 32 (s_aload 1 (s_iload 2 (s_call G d MX12_mateOf 2 (s_iadd (s_iaload (s_iadd (s_iconst 10 (s_ic_lt (s_iinc 2 1 (fun L st h => E G MX12_yearEnds (d + 1) C S 81 (msk [true, true, true] L) st h (RI P))) (s_aload 1 (s_iload 2 (s_call G d MX12_parts 2 (s_iinc 2 1 (fun L st h => E G MX12_yearEnds (d + 1) C S 81 (msk [true, true, true] L) st h (RI P)))))))))))))))))))))))))))))))) := (e_iload_n dX12_yearEnds_81 rfl (e_aload_n dX12_yearEnds_82 rfl (e_getR rfl cl_11 (by decide) rfl q_1576 dX12_yearEnds_83 (e_iconst (v := 1) dX12_yearEnds_86 (by decide) (e_iaload dX12_yearEnds_87 (e_ic_ge (tgt := 133) dX12_yearEnds_88 (by decide) (e_iconst (v := 1) dX12_yearEnds_133 (by decide) (e_zreturn rfl dX12_yearEnds_134)) (e_aload_n dX12_yearEnds_91 rfl (e_iload_n dX12_yearEnds_92 rfl (e_callS cal_X12_mateOf q_1878 q_1879 dX12_yearEnds_93 (e_iconst (v := (-1)) dX12_yearEnds_96 (by decide) (e_ic_eq (tgt := 127) dX12_yearEnds_97 (by decide) (e_iinc (v := 1) dX12_yearEnds_127 (by decide) (by decide) (e_goto (tgt := 81) dX12_yearEnds_130 (by decide) (e_msk [true, true, true]))) (e_aload_n dX12_yearEnds_100 rfl (e_bipush (v := 32) dX12_yearEnds_101 (by decide) (e_iload_n dX12_yearEnds_103 rfl (e_iadd dX12_yearEnds_104 (e_iaload dX12_yearEnds_105 (e_aload_n dX12_yearEnds_106 rfl (e_bipush (v := 32) dX12_yearEnds_107 (by decide) (e_aload_n dX12_yearEnds_109 rfl (e_iload_n dX12_yearEnds_110 rfl (e_callS cal_X12_mateOf q_1878 q_1879 dX12_yearEnds_111 (e_iadd dX12_yearEnds_114 (e_iaload dX12_yearEnds_115 (e_iadd dX12_yearEnds_116 (e_bipush (v := 10) dX12_yearEnds_117 (by decide) (e_ic_lt (tgt := 127) dX12_yearEnds_119 (by decide) (e_iinc (v := 1) dX12_yearEnds_127 (by decide) (by decide) (e_goto (tgt := 81) dX12_yearEnds_130 (by decide) (e_msk [true, true, true]))) (e_aload_n dX12_yearEnds_122 rfl (e_iload_n dX12_yearEnds_123 rfl (e_callS cal_X12_parts q_1912 q_1913 dX12_yearEnds_124 (e_iinc (v := 1) dX12_yearEnds_127 (by decide) (by decide) (e_goto (tgt := 81) dX12_yearEnds_130 (by decide) (e_msk [true, true, true]))))))))))))))))))))))))))))))))
set_option maxRecDepth 100000 in
theorem V_X12_yearEnds_81 {G : GE} {d C S : Nat} {P : KI} {a : Nat → Nat → Int32} {r : Nat → Nat → Value} {N : Nat} {l0 : Nat} {l1 : Nat} {l2 : Int32} (hs : (tyK l0 = (0, 11) ∧ l0 < N ∧ ∃ q1, r l0 12 = .ref q1 ∧ ((tyK q1).1 = 1 ∧ q1 < N ∧ vp_in 1 (tyK q1).2 ∧ (((a q1 (1 : Int32).toNatClampNeg) ≤ l2 → (bz 1 ∧ P 1 a r N)) ∧ (¬ (a q1 (1 : Int32).toNatClampNeg) ≤ l2 → Sp G d 0 0 MX12_mateOf [.ref l1, .int l2] (a, r, N) (RI fun v5 a2 r3 n4 => ((v5 = (-1) → E G MX12_yearEnds (d + 1) C S 81 [.ref l0, .ref l1, .int (l2 + 1)] [] (a2, r3, n4) (RI P)) ∧ (¬ v5 = (-1) → ((tyK l1).1 = 1 ∧ l1 < n4 ∧ vp_in ((32 : Int32) + l2) (tyK l1).2 ∧ Sp G d 0 0 MX12_mateOf [.ref l1, .int l2] (a2, r3, n4) (RI fun v9 a6 r7 n8 => ((tyK l1).1 = 1 ∧ l1 < n8 ∧ vp_in ((32 : Int32) + v9) (tyK l1).2 ∧ ((((a2 l1 (((32 : Int32) + l2) : Int32).toNatClampNeg) + (a6 l1 (((32 : Int32) + v9) : Int32).toNatClampNeg)) < 10 → E G MX12_yearEnds (d + 1) C S 81 [.ref l0, .ref l1, .int (l2 + 1)] [] (a6, r7, n8) (RI P)) ∧ (¬ ((a2 l1 (((32 : Int32) + l2) : Int32).toNatClampNeg) + (a6 l1 (((32 : Int32) + v9) : Int32).toNatClampNeg)) < 10 → Sp G d 0 0 MX12_parts [.ref l1, .int l2] (a6, r7, n8) (RN fun a10 r11 n12 => E G MX12_yearEnds (d + 1) C S 81 [.ref l0, .ref l1, .int (l2 + 1)] [] (a10, r11, n12) (RI P))))))))))))))) : E G MX12_yearEnds (d + 1) C S 81 [.ref l0, .ref l1, .int l2] [] (a, r, N) (RI P) := T_X12_yearEnds_81 _ _ _ hs
theorem dX12_does_0 : decode cX12_does 0 = .ok (.aload_n 2, 1) := by decide +kernel
theorem dX12_does_1 : decode cX12_does 1 = .ok (.iconst 1, 1) := by decide +kernel
theorem dX12_does_2 : decode cX12_does 2 = .ok (.iaload, 1) := by decide +kernel
theorem dX12_does_3 : decode cX12_does 3 = .ok (.istore_n 3, 1) := by decide +kernel
theorem dX12_does_4 : decode cX12_does 4 = .ok (.aload_n 2, 1) := by decide +kernel
theorem dX12_does_5 : decode cX12_does 5 = .ok (.iconst 2, 1) := by decide +kernel
theorem dX12_does_6 : decode cX12_does 6 = .ok (.iaload, 1) := by decide +kernel
theorem dX12_does_7 : decode cX12_does 7 = .ok (.istore 4, 2) := by decide +kernel
theorem dX12_does_9 : decode cX12_does 9 = .ok (.aload_n 2, 1) := by decide +kernel
theorem dX12_does_10 : decode cX12_does 10 = .ok (.iconst 0, 1) := by decide +kernel
theorem dX12_does_11 : decode cX12_does 11 = .ok (.iaload, 1) := by decide +kernel
theorem dX12_does_12 : decode cX12_does 12 = .ok (.tableswitch 142 0 4 #[36, 77, 95, 130, 136], 36) := by decide +kernel
theorem dX12_does_48 : decode cX12_does 48 = .ok (.aload_n 1, 1) := by decide +kernel
theorem dX12_does_49 : decode cX12_does 49 = .ok (.iload_n 3, 1) := by decide +kernel
theorem dX12_does_50 : decode cX12_does 50 = .ok (.invokestatic 289, 3) := by decide +kernel
theorem dX12_does_53 : decode cX12_does 53 = .ok (.iconst (-1), 1) := by decide +kernel
theorem dX12_does_54 : decode cX12_does 54 = .ok (.if_icmp .ne 24, 3) := by decide +kernel
theorem dX12_does_57 : decode cX12_does 57 = .ok (.aload_n 1, 1) := by decide +kernel
theorem dX12_does_58 : decode cX12_does 58 = .ok (.iload 4, 2) := by decide +kernel
theorem dX12_does_60 : decode cX12_does 60 = .ok (.invokestatic 289, 3) := by decide +kernel
theorem dX12_does_63 : decode cX12_does 63 = .ok (.iconst (-1), 1) := by decide +kernel
theorem dX12_does_64 : decode cX12_does 64 = .ok (.if_icmp .ne 14, 3) := by decide +kernel
theorem dX12_does_67 : decode cX12_does 67 = .ok (.aload_n 0, 1) := by decide +kernel
theorem dX12_does_68 : decode cX12_does 68 = .ok (.aload_n 1, 1) := by decide +kernel
theorem dX12_does_69 : decode cX12_does 69 = .ok (.iload_n 3, 1) := by decide +kernel
theorem dX12_does_70 : decode cX12_does 70 = .ok (.iload 4, 2) := by decide +kernel
theorem dX12_does_72 : decode cX12_does 72 = .ok (.invokevirtual 297, 3) := by decide +kernel
theorem dX12_does_75 : decode cX12_does 75 = .ok (.ifCond .eq 5, 3) := by decide +kernel
theorem dX12_does_78 : decode cX12_does 78 = .ok (.iconst 0, 1) := by decide +kernel
theorem dX12_does_79 : decode cX12_does 79 = .ok (.ireturn, 1) := by decide +kernel
theorem dX12_does_80 : decode cX12_does 80 = .ok (.aload_n 1, 1) := by decide +kernel
theorem dX12_does_81 : decode cX12_does 81 = .ok (.iload_n 3, 1) := by decide +kernel
theorem dX12_does_82 : decode cX12_does 82 = .ok (.iload 4, 2) := by decide +kernel
theorem dX12_does_84 : decode cX12_does 84 = .ok (.invokestatic 301, 3) := by decide +kernel
theorem dX12_does_87 : decode cX12_does 87 = .ok (.iconst 1, 1) := by decide +kernel
theorem dX12_does_88 : decode cX12_does 88 = .ok (.ireturn, 1) := by decide +kernel
theorem dX12_does_89 : decode cX12_does 89 = .ok (.aload_n 1, 1) := by decide +kernel
theorem dX12_does_90 : decode cX12_does 90 = .ok (.iload_n 3, 1) := by decide +kernel
theorem dX12_does_91 : decode cX12_does 91 = .ok (.invokestatic 289, 3) := by decide +kernel
theorem dX12_does_94 : decode cX12_does 94 = .ok (.iconst (-1), 1) := by decide +kernel
theorem dX12_does_95 : decode cX12_does 95 = .ok (.if_icmp .ne 5, 3) := by decide +kernel
theorem dX12_does_98 : decode cX12_does 98 = .ok (.iconst 0, 1) := by decide +kernel
theorem dX12_does_99 : decode cX12_does 99 = .ok (.ireturn, 1) := by decide +kernel
theorem dX12_does_100 : decode cX12_does 100 = .ok (.aload_n 1, 1) := by decide +kernel
theorem dX12_does_101 : decode cX12_does 101 = .ok (.iload_n 3, 1) := by decide +kernel
theorem dX12_does_102 : decode cX12_does 102 = .ok (.invokestatic 293, 3) := by decide +kernel
theorem dX12_does_105 : decode cX12_does 105 = .ok (.iconst 1, 1) := by decide +kernel
theorem dX12_does_106 : decode cX12_does 106 = .ok (.ireturn, 1) := by decide +kernel
theorem dX12_does_107 : decode cX12_does 107 = .ok (.aload_n 1, 1) := by decide +kernel
theorem dX12_does_108 : decode cX12_does 108 = .ok (.bipush 24, 2) := by decide +kernel
theorem dX12_does_110 : decode cX12_does 110 = .ok (.iload_n 3, 1) := by decide +kernel
theorem dX12_does_111 : decode cX12_does 111 = .ok (.iadd, 1) := by decide +kernel
theorem dX12_does_112 : decode cX12_does 112 = .ok (.iaload, 1) := by decide +kernel
theorem dX12_does_113 : decode cX12_does 113 = .ok (.bipush 99, 2) := by decide +kernel
theorem dX12_does_115 : decode cX12_does 115 = .ok (.if_icmp .lt 5, 3) := by decide +kernel
theorem dX12_does_118 : decode cX12_does 118 = .ok (.iconst 0, 1) := by decide +kernel
theorem dX12_does_119 : decode cX12_does 119 = .ok (.ireturn, 1) := by decide +kernel
theorem dX12_does_120 : decode cX12_does 120 = .ok (.aload_n 1, 1) := by decide +kernel
theorem dX12_does_121 : decode cX12_does 121 = .ok (.bipush 24, 2) := by decide +kernel
theorem dX12_does_123 : decode cX12_does 123 = .ok (.iload_n 3, 1) := by decide +kernel
theorem dX12_does_124 : decode cX12_does 124 = .ok (.iadd, 1) := by decide +kernel
theorem dX12_does_125 : decode cX12_does 125 = .ok (.bipush 99, 2) := by decide +kernel
theorem dX12_does_127 : decode cX12_does 127 = .ok (.aload_n 1, 1) := by decide +kernel
theorem dX12_does_128 : decode cX12_does 128 = .ok (.bipush 24, 2) := by decide +kernel
theorem dX12_does_130 : decode cX12_does 130 = .ok (.iload_n 3, 1) := by decide +kernel
theorem dX12_does_131 : decode cX12_does 131 = .ok (.iadd, 1) := by decide +kernel
theorem dX12_does_132 : decode cX12_does 132 = .ok (.iaload, 1) := by decide +kernel
theorem dX12_does_133 : decode cX12_does 133 = .ok (.iload 4, 2) := by decide +kernel
theorem dX12_does_135 : decode cX12_does 135 = .ok (.iadd, 1) := by decide +kernel
theorem dX12_does_136 : decode cX12_does 136 = .ok (.invokestatic 258, 3) := by decide +kernel
theorem dX12_does_139 : decode cX12_does 139 = .ok (.iastore, 1) := by decide +kernel
theorem dX12_does_140 : decode cX12_does 140 = .ok (.iconst 1, 1) := by decide +kernel
theorem dX12_does_141 : decode cX12_does 141 = .ok (.ireturn, 1) := by decide +kernel
theorem dX12_does_142 : decode cX12_does 142 = .ok (.aload_n 1, 1) := by decide +kernel
theorem dX12_does_143 : decode cX12_does 143 = .ok (.iload_n 3, 1) := by decide +kernel
theorem dX12_does_144 : decode cX12_does 144 = .ok (.invokestatic 305, 3) := by decide +kernel
theorem dX12_does_147 : decode cX12_does 147 = .ok (.ireturn, 1) := by decide +kernel
theorem dX12_does_148 : decode cX12_does 148 = .ok (.aload_n 1, 1) := by decide +kernel
theorem dX12_does_149 : decode cX12_does 149 = .ok (.iload_n 3, 1) := by decide +kernel
theorem dX12_does_150 : decode cX12_does 150 = .ok (.invokestatic 309, 3) := by decide +kernel
theorem dX12_does_153 : decode cX12_does 153 = .ok (.ireturn, 1) := by decide +kernel
theorem dX12_does_154 : decode cX12_does 154 = .ok (.aload_n 0, 1) := by decide +kernel
theorem dX12_does_155 : decode cX12_does 155 = .ok (.aload_n 1, 1) := by decide +kernel
theorem dX12_does_156 : decode cX12_does 156 = .ok (.invokevirtual 312, 3) := by decide +kernel
theorem dX12_does_159 : decode cX12_does 159 = .ok (.ireturn, 1) := by decide +kernel
set_option maxRecDepth 100000 in
theorem T_X12_does_0 {G : GE} {d C S : Nat} {P : KI} : Snd G MX12_does (d + 1) C S 0 (RI P) (s_aload 2 (s_iconst 1 (s_iaload (s_istore 3 (s_aload 2 (s_iconst 2 (s_iaload (s_istore 4 (s_aload 2 (s_iconst 0 (s_iaload (s_switch [(0, (s_aload 1 (s_iload 3 (s_call G d MX12_mateOf 2 (s_iconst (-1) (s_ic_ne (s_iconst 0 (s_zreturn P)) (s_aload 1 (s_iload 4 (s_call G d MX12_mateOf 2 (s_iconst (-1) (s_ic_ne (s_iconst 0 (s_zreturn P)) (s_aload 0 (s_aload 1 (s_iload 3 (s_iload 4 (s_callV G d MX12_bannsOf 3 11 (s_if_eq (s_aload 1 (s_iload 3 (s_iload 4 (s_call G d MX12_marries 3 (s_iconst 1 (s_zreturn P)))))) (s_iconst 0 (s_zreturn P))))))))))))))))))), (1, (s_aload 1 (s_iload 3 (s_call G d MX12_mateOf 2 (s_iconst (-1) (s_ic_ne (s_aload 1 (s_iload 3 (s_call G d MX12_parts 2 (s_iconst 1 (s_zreturn P))))) (s_iconst 0 (s_zreturn P)))))))), (2, (s_aload 1 (s_iconst 24 (s_iload 3 (s_iadd (s_iaload (s_iconst 99 (s_ic_lt (s_aload 1 (s_iconst 24 (s_iload 3 (s_iadd (s_iconst 99 (s_aload 1 (s_iconst 24 (s_iload 3 (s_iadd (s_iaload (s_iload 4 (s_iadd (s_call G d MX12_less 2 (s_iastore (s_iconst 1 (s_zreturn P)))))))))))))))) (s_iconst 0 (s_zreturn P)))))))))), (3, (s_aload 1 (s_iload 3 (s_call G d MX12_quarrels 2 (s_zreturn P))))), (4, (s_aload 1 (s_iload 3 (s_call G d MX12_repaves 2 (s_zreturn P)))))] (s_aload 0 (s_aload 1 (s_callV G d MX12_yearEnds 1 11 (s_zreturn P)))))))))))))))) := (e_aload_n dX12_does_0 rfl (e_iconst (v := 1) dX12_does_1 (by decide) (e_iaload dX12_does_2 (e_istore_n dX12_does_3 rfl (by decide) (e_aload_n dX12_does_4 rfl (e_iconst (v := 2) dX12_does_5 (by decide) (e_iaload dX12_does_6 (e_istore dX12_does_7 (by decide) (e_aload_n dX12_does_9 rfl (e_iconst (v := 0) dX12_does_10 (by decide) (e_iaload dX12_does_11 (e_tsw (tg := [48, 89, 107, 142, 148]) (td := 154) [0, 1, 2, 3, 4] rfl dX12_does_12 (by decide) (by decide) (by decide +kernel) (by decide +kernel) (swc (t0 := 48) (e_aload_n dX12_does_48 rfl (e_iload_n dX12_does_49 rfl (e_callS cal_X12_mateOf q_1878 q_1879 dX12_does_50 (e_iconst (v := (-1)) dX12_does_53 (by decide) (e_ic_ne (tgt := 78) dX12_does_54 (by decide) (e_iconst (v := 0) dX12_does_78 (by decide) (e_zreturn rfl dX12_does_79)) (e_aload_n dX12_does_57 rfl (e_iload dX12_does_58 (e_callS cal_X12_mateOf q_1878 q_1879 dX12_does_60 (e_iconst (v := (-1)) dX12_does_63 (by decide) (e_ic_ne (tgt := 78) dX12_does_64 (by decide) (e_iconst (v := 0) dX12_does_78 (by decide) (e_zreturn rfl dX12_does_79)) (e_aload_n dX12_does_67 rfl (e_aload_n dX12_does_68 rfl (e_iload_n dX12_does_69 rfl (e_iload dX12_does_70 (e_callV cl_11 cal_X12_bannsOf q_1881 q_1883 q_79 dX12_does_72 (e_if_eq (tgt := 80) dX12_does_75 (by decide) (e_aload_n dX12_does_80 rfl (e_iload_n dX12_does_81 rfl (e_iload dX12_does_82 (e_callS cal_X12_marries q_1909 q_1910 dX12_does_84 (e_iconst (v := 1) dX12_does_87 (by decide) (e_zreturn rfl dX12_does_88)))))) (e_iconst (v := 0) dX12_does_78 (by decide) (e_zreturn rfl dX12_does_79)))))))))))))))))) (swc (t0 := 89) (e_aload_n dX12_does_89 rfl (e_iload_n dX12_does_90 rfl (e_callS cal_X12_mateOf q_1878 q_1879 dX12_does_91 (e_iconst (v := (-1)) dX12_does_94 (by decide) (e_ic_ne (tgt := 100) dX12_does_95 (by decide) (e_aload_n dX12_does_100 rfl (e_iload_n dX12_does_101 rfl (e_callS cal_X12_parts q_1912 q_1913 dX12_does_102 (e_iconst (v := 1) dX12_does_105 (by decide) (e_zreturn rfl dX12_does_106))))) (e_iconst (v := 0) dX12_does_98 (by decide) (e_zreturn rfl dX12_does_99))))))) (swc (t0 := 107) (e_aload_n dX12_does_107 rfl (e_bipush (v := 24) dX12_does_108 (by decide) (e_iload_n dX12_does_110 rfl (e_iadd dX12_does_111 (e_iaload dX12_does_112 (e_bipush (v := 99) dX12_does_113 (by decide) (e_ic_lt (tgt := 120) dX12_does_115 (by decide) (e_aload_n dX12_does_120 rfl (e_bipush (v := 24) dX12_does_121 (by decide) (e_iload_n dX12_does_123 rfl (e_iadd dX12_does_124 (e_bipush (v := 99) dX12_does_125 (by decide) (e_aload_n dX12_does_127 rfl (e_bipush (v := 24) dX12_does_128 (by decide) (e_iload_n dX12_does_130 rfl (e_iadd dX12_does_131 (e_iaload dX12_does_132 (e_iload dX12_does_133 (e_iadd dX12_does_135 (e_callS cal_X12_less q_1903 q_1904 dX12_does_136 (e_iastore dX12_does_139 (e_iconst (v := 1) dX12_does_140 (by decide) (e_zreturn rfl dX12_does_141)))))))))))))))) (e_iconst (v := 0) dX12_does_118 (by decide) (e_zreturn rfl dX12_does_119))))))))) (swc (t0 := 142) (e_aload_n dX12_does_142 rfl (e_iload_n dX12_does_143 rfl (e_callS cal_X12_quarrels q_1915 q_1916 dX12_does_144 (e_zreturn rfl dX12_does_147)))) (swc (t0 := 148) (e_aload_n dX12_does_148 rfl (e_iload_n dX12_does_149 rfl (e_callS cal_X12_repaves q_1918 q_1919 dX12_does_150 (e_zreturn rfl dX12_does_153)))) swn))))) (e_aload_n dX12_does_154 rfl (e_aload_n dX12_does_155 rfl (e_callV cl_11 cal_X12_yearEnds q_1921 q_1923 q_83 dX12_does_156 (e_zreturn rfl dX12_does_159))))))))))))))))
set_option maxRecDepth 100000 in
theorem V_X12_does_0 {G : GE} {d : Nat} {P : KI} {a : Nat → Nat → Int32} {r : Nat → Nat → Value} {N : Nat} {l0 : Nat} {l1 : Nat} {l2 : Nat} (hs : ((tyK l2).1 = 1 ∧ l2 < N ∧ vp_in 1 (tyK l2).2 ∧ ((tyK l2).1 = 1 ∧ l2 < N ∧ vp_in 2 (tyK l2).2 ∧ ((tyK l2).1 = 1 ∧ l2 < N ∧ vp_in 0 (tyK l2).2 ∧ (((a l2 (0 : Int32).toNatClampNeg) = 0 → Sp G d 0 0 MX12_mateOf [.ref l1, .int (a l2 (1 : Int32).toNatClampNeg)] (a, r, N) (RI fun v4 a1 r2 n3 => ((¬ v4 = (-1) → (bz 0 ∧ P 0 a1 r2 n3)) ∧ (v4 = (-1) → Sp G d 0 0 MX12_mateOf [.ref l1, .int (a l2 (2 : Int32).toNatClampNeg)] (a1, r2, n3) (RI fun v8 a5 r6 n7 => ((¬ v8 = (-1) → (bz 0 ∧ P 0 a5 r6 n7)) ∧ (v8 = (-1) → (tyK l0 = (0, 11) ∧ l0 < n7 ∧ Sp G d 0 0 MX12_bannsOf [.ref l0, .ref l1, .int (a l2 (1 : Int32).toNatClampNeg), .int (a l2 (2 : Int32).toNatClampNeg)] (a5, r6, n7) (RI fun v12 a9 r10 n11 => ((v12 = 0 → Sp G d 0 0 MX12_marries [.ref l1, .int (a l2 (1 : Int32).toNatClampNeg), .int (a l2 (2 : Int32).toNatClampNeg)] (a9, r10, n11) (RN fun a13 r14 n15 => (bz 1 ∧ P 1 a13 r14 n15))) ∧ (¬ v12 = 0 → (bz 0 ∧ P 0 a9 r10 n11)))))))))))) ∧ (¬ (a l2 (0 : Int32).toNatClampNeg) = 0 → (((a l2 (0 : Int32).toNatClampNeg) = 1 → Sp G d 0 0 MX12_mateOf [.ref l1, .int (a l2 (1 : Int32).toNatClampNeg)] (a, r, N) (RI fun v19 a16 r17 n18 => ((¬ v19 = (-1) → Sp G d 0 0 MX12_parts [.ref l1, .int (a l2 (1 : Int32).toNatClampNeg)] (a16, r17, n18) (RN fun a20 r21 n22 => (bz 1 ∧ P 1 a20 r21 n22))) ∧ (v19 = (-1) → (bz 0 ∧ P 0 a16 r17 n18))))) ∧ (¬ (a l2 (0 : Int32).toNatClampNeg) = 1 → (((a l2 (0 : Int32).toNatClampNeg) = 2 → ((tyK l1).1 = 1 ∧ l1 < N ∧ vp_in ((24 : Int32) + (a l2 (1 : Int32).toNatClampNeg)) (tyK l1).2 ∧ (((a l1 (((24 : Int32) + (a l2 (1 : Int32).toNatClampNeg)) : Int32).toNatClampNeg) < 99 → ((tyK l1).1 = 1 ∧ l1 < N ∧ vp_in ((24 : Int32) + (a l2 (1 : Int32).toNatClampNeg)) (tyK l1).2 ∧ Sp G d 0 0 MX12_less [.int 99, .int ((a l1 (((24 : Int32) + (a l2 (1 : Int32).toNatClampNeg)) : Int32).toNatClampNeg) + (a l2 (2 : Int32).toNatClampNeg))] (a, r, N) (RI fun v26 a23 r24 n25 => ((tyK l1).1 = 1 ∧ l1 < n25 ∧ vp_in ((24 : Int32) + (a l2 (1 : Int32).toNatClampNeg)) (tyK l1).2 ∧ ∀ a27, a27 = u2 a23 l1 (((24 : Int32) + (a l2 (1 : Int32).toNatClampNeg)) : Int32).toNatClampNeg v26 → (bz 1 ∧ P 1 a27 r24 n25))))) ∧ (¬ (a l1 (((24 : Int32) + (a l2 (1 : Int32).toNatClampNeg)) : Int32).toNatClampNeg) < 99 → (bz 0 ∧ P 0 a r N))))) ∧ (¬ (a l2 (0 : Int32).toNatClampNeg) = 2 → (((a l2 (0 : Int32).toNatClampNeg) = 3 → Sp G d 0 0 MX12_quarrels [.ref l1, .int (a l2 (1 : Int32).toNatClampNeg)] (a, r, N) (RI fun v31 a28 r29 n30 => (bz v31 ∧ P v31 a28 r29 n30))) ∧ (¬ (a l2 (0 : Int32).toNatClampNeg) = 3 → (((a l2 (0 : Int32).toNatClampNeg) = 4 → Sp G d 0 0 MX12_repaves [.ref l1, .int (a l2 (1 : Int32).toNatClampNeg)] (a, r, N) (RI fun v35 a32 r33 n34 => (bz v35 ∧ P v35 a32 r33 n34))) ∧ (¬ (a l2 (0 : Int32).toNatClampNeg) = 4 → (tyK l0 = (0, 11) ∧ l0 < N ∧ Sp G d 0 0 MX12_yearEnds [.ref l0, .ref l1] (a, r, N) (RI fun v39 a36 r37 n38 => (bz v39 ∧ P v39 a36 r37 n38))))))))))))))))) : Sp G (d + 1) 0 0 MX12_does [.ref l0, .ref l1, .ref l2] (a, r, N) (RI P) := Sp.mk (mc := 0) (ms := 0) [.ref l0, .ref l1, .ref l2, .null, .null] rfl rfl rfl rfl (T_X12_does_0 (C := 0) (S := 0) _ _ _ hs)
theorem dX12_goes_0 : decode cX12_goes 0 = .ok (.iload_n 1, 1) := by decide +kernel
theorem dX12_goes_1 : decode cX12_goes 1 = .ok (.istore_n 3, 1) := by decide +kernel
theorem dX12_goes_2 : decode cX12_goes 2 = .ok (.iload_n 3, 1) := by decide +kernel
theorem dX12_goes_3 : decode cX12_goes 3 = .ok (.iload_n 2, 1) := by decide +kernel
theorem dX12_goes_4 : decode cX12_goes 4 = .ok (.if_icmp .ge 152, 3) := by decide +kernel
theorem dX12_goes_7 : decode cX12_goes 7 = .ok (.aload_n 0, 1) := by decide +kernel
theorem dX12_goes_8 : decode cX12_goes 8 = .ok (.getfield 316, 3) := by decide +kernel
theorem dX12_goes_11 : decode cX12_goes 11 = .ok (.sipush 200, 3) := by decide +kernel
theorem dX12_goes_14 : decode cX12_goes 14 = .ok (.if_icmp .ge 142, 3) := by decide +kernel
theorem dX12_goes_17 : decode cX12_goes 17 = .ok (.aload_n 0, 1) := by decide +kernel
theorem dX12_goes_18 : decode cX12_goes 18 = .ok (.dup, 1) := by decide +kernel
theorem dX12_goes_19 : decode cX12_goes 19 = .ok (.getfield 316, 3) := by decide +kernel
theorem dX12_goes_22 : decode cX12_goes 22 = .ok (.iconst 1, 1) := by decide +kernel
theorem dX12_goes_23 : decode cX12_goes 23 = .ok (.iadd, 1) := by decide +kernel
theorem dX12_goes_24 : decode cX12_goes 24 = .ok (.putfield 316, 3) := by decide +kernel
theorem dX12_goes_27 : decode cX12_goes 27 = .ok (.aload_n 0, 1) := by decide +kernel
theorem dX12_goes_28 : decode cX12_goes 28 = .ok (.getfield 76, 3) := by decide +kernel
theorem dX12_goes_31 : decode cX12_goes 31 = .ok (.iload_n 3, 1) := by decide +kernel
theorem dX12_goes_32 : decode cX12_goes 32 = .ok (.aaload, 1) := by decide +kernel
theorem dX12_goes_33 : decode cX12_goes 33 = .ok (.iconst 0, 1) := by decide +kernel
theorem dX12_goes_34 : decode cX12_goes 34 = .ok (.iaload, 1) := by decide +kernel
theorem dX12_goes_35 : decode cX12_goes 35 = .ok (.bipush 6, 2) := by decide +kernel
theorem dX12_goes_37 : decode cX12_goes 37 = .ok (.if_icmp .ne 53, 3) := by decide +kernel
theorem dX12_goes_40 : decode cX12_goes 40 = .ok (.iconst 0, 1) := by decide +kernel
theorem dX12_goes_41 : decode cX12_goes 41 = .ok (.istore 4, 2) := by decide +kernel
theorem dX12_goes_43 : decode cX12_goes 43 = .ok (.iload 4, 2) := by decide +kernel
theorem dX12_goes_45 : decode cX12_goes 45 = .ok (.aload_n 0, 1) := by decide +kernel
theorem dX12_goes_46 : decode cX12_goes 46 = .ok (.getfield 76, 3) := by decide +kernel
theorem dX12_goes_49 : decode cX12_goes 49 = .ok (.iload_n 3, 1) := by decide +kernel
theorem dX12_goes_50 : decode cX12_goes 50 = .ok (.aaload, 1) := by decide +kernel
theorem dX12_goes_51 : decode cX12_goes 51 = .ok (.iconst 1, 1) := by decide +kernel
theorem dX12_goes_52 : decode cX12_goes 52 = .ok (.iaload, 1) := by decide +kernel
theorem dX12_goes_53 : decode cX12_goes 53 = .ok (.if_icmp .ge 34, 3) := by decide +kernel
theorem dX12_goes_56 : decode cX12_goes 56 = .ok (.aload_n 0, 1) := by decide +kernel
theorem dX12_goes_57 : decode cX12_goes 57 = .ok (.getfield 316, 3) := by decide +kernel
theorem dX12_goes_60 : decode cX12_goes 60 = .ok (.sipush 200, 3) := by decide +kernel
theorem dX12_goes_63 : decode cX12_goes 63 = .ok (.if_icmp .ge 24, 3) := by decide +kernel
theorem dX12_goes_66 : decode cX12_goes 66 = .ok (.aload_n 0, 1) := by decide +kernel
theorem dX12_goes_67 : decode cX12_goes 67 = .ok (.iload_n 3, 1) := by decide +kernel
theorem dX12_goes_68 : decode cX12_goes 68 = .ok (.iconst 1, 1) := by decide +kernel
theorem dX12_goes_69 : decode cX12_goes 69 = .ok (.iadd, 1) := by decide +kernel
theorem dX12_goes_70 : decode cX12_goes 70 = .ok (.aload_n 0, 1) := by decide +kernel
theorem dX12_goes_71 : decode cX12_goes 71 = .ok (.getfield 76, 3) := by decide +kernel
theorem dX12_goes_74 : decode cX12_goes 74 = .ok (.iload_n 3, 1) := by decide +kernel
theorem dX12_goes_75 : decode cX12_goes 75 = .ok (.aaload, 1) := by decide +kernel
theorem dX12_goes_76 : decode cX12_goes 76 = .ok (.iconst 3, 1) := by decide +kernel
theorem dX12_goes_77 : decode cX12_goes 77 = .ok (.iaload, 1) := by decide +kernel
theorem dX12_goes_78 : decode cX12_goes 78 = .ok (.invokevirtual 319, 3) := by decide +kernel
theorem dX12_goes_81 : decode cX12_goes 81 = .ok (.iinc 4 1, 3) := by decide +kernel
theorem dX12_goes_84 : decode cX12_goes 84 = .ok (.goto (-41), 3) := by decide +kernel
theorem dX12_goes_87 : decode cX12_goes 87 = .ok (.goto 57, 3) := by decide +kernel
theorem dX12_goes_90 : decode cX12_goes 90 = .ok (.aload_n 0, 1) := by decide +kernel
theorem dX12_goes_91 : decode cX12_goes 91 = .ok (.aload_n 0, 1) := by decide +kernel
theorem dX12_goes_92 : decode cX12_goes 92 = .ok (.getfield 79, 3) := by decide +kernel
theorem dX12_goes_95 : decode cX12_goes 95 = .ok (.aload_n 0, 1) := by decide +kernel
theorem dX12_goes_96 : decode cX12_goes 96 = .ok (.getfield 76, 3) := by decide +kernel
theorem dX12_goes_99 : decode cX12_goes 99 = .ok (.iload_n 3, 1) := by decide +kernel
theorem dX12_goes_100 : decode cX12_goes 100 = .ok (.aaload, 1) := by decide +kernel
theorem dX12_goes_101 : decode cX12_goes 101 = .ok (.invokevirtual 322, 3) := by decide +kernel
theorem dX12_goes_104 : decode cX12_goes 104 = .ok (.istore 4, 2) := by decide +kernel
theorem dX12_goes_106 : decode cX12_goes 106 = .ok (.aload_n 0, 1) := by decide +kernel
theorem dX12_goes_107 : decode cX12_goes 107 = .ok (.dup, 1) := by decide +kernel
theorem dX12_goes_108 : decode cX12_goes 108 = .ok (.getfield 326, 3) := by decide +kernel
theorem dX12_goes_111 : decode cX12_goes 111 = .ok (.iload 4, 2) := by decide +kernel
theorem dX12_goes_113 : decode cX12_goes 113 = .ok (.ifCond .eq 7, 3) := by decide +kernel
theorem dX12_goes_116 : decode cX12_goes 116 = .ok (.iconst 1, 1) := by decide +kernel
theorem dX12_goes_117 : decode cX12_goes 117 = .ok (.goto 4, 3) := by decide +kernel
theorem dX12_goes_120 : decode cX12_goes 120 = .ok (.iconst 0, 1) := by decide +kernel
theorem dX12_goes_121 : decode cX12_goes 121 = .ok (.iadd, 1) := by decide +kernel
theorem dX12_goes_122 : decode cX12_goes 122 = .ok (.putfield 326, 3) := by decide +kernel
theorem dX12_goes_125 : decode cX12_goes 125 = .ok (.aload_n 0, 1) := by decide +kernel
theorem dX12_goes_126 : decode cX12_goes 126 = .ok (.dup, 1) := by decide +kernel
theorem dX12_goes_127 : decode cX12_goes 127 = .ok (.getfield 224, 3) := by decide +kernel
theorem dX12_goes_130 : decode cX12_goes 130 = .ok (.iload 4, 2) := by decide +kernel
theorem dX12_goes_132 : decode cX12_goes 132 = .ok (.ifCond .eq 7, 3) := by decide +kernel
theorem dX12_goes_135 : decode cX12_goes 135 = .ok (.iconst 0, 1) := by decide +kernel
theorem dX12_goes_136 : decode cX12_goes 136 = .ok (.goto 4, 3) := by decide +kernel
theorem dX12_goes_139 : decode cX12_goes 139 = .ok (.iconst 1, 1) := by decide +kernel
theorem dX12_goes_140 : decode cX12_goes 140 = .ok (.iadd, 1) := by decide +kernel
theorem dX12_goes_141 : decode cX12_goes 141 = .ok (.putfield 224, 3) := by decide +kernel
theorem dX12_goes_144 : decode cX12_goes 144 = .ok (.aload_n 0, 1) := by decide +kernel
theorem dX12_goes_145 : decode cX12_goes 145 = .ok (.getfield 76, 3) := by decide +kernel
theorem dX12_goes_148 : decode cX12_goes 148 = .ok (.iload_n 3, 1) := by decide +kernel
theorem dX12_goes_149 : decode cX12_goes 149 = .ok (.aaload, 1) := by decide +kernel
theorem dX12_goes_150 : decode cX12_goes 150 = .ok (.iconst 3, 1) := by decide +kernel
theorem dX12_goes_151 : decode cX12_goes 151 = .ok (.iaload, 1) := by decide +kernel
theorem dX12_goes_152 : decode cX12_goes 152 = .ok (.istore_n 3, 1) := by decide +kernel
theorem dX12_goes_153 : decode cX12_goes 153 = .ok (.goto (-151), 3) := by decide +kernel
theorem dX12_goes_156 : decode cX12_goes 156 = .ok (.return_, 1) := by decide +kernel
set_option maxRecDepth 100000 in
theorem T_X12_goes_0 {G : GE} {d C S : Nat} {P : KN} : Snd G MX12_goes (d + 1) C S 0 (RN P) (s_iload 1 (s_istore 3 (fun L st h => E G MX12_goes (d + 1) C S 2 (msk [true, false, true, true, false] L) st h (RN P)))) := (e_iload_n dX12_goes_0 rfl (e_istore_n dX12_goes_1 rfl (by decide) (e_msk [true, false, true, true, false])))
set_option maxRecDepth 100000 in
theorem V_X12_goes_0 {G : GE} {d : Nat} {P : KN} {a : Nat → Nat → Int32} {r : Nat → Nat → Value} {N : Nat} {l0 : Nat} {l1 : Int32} {l2 : Int32} (hs : E G MX12_goes (d + 1) 0 0 2 [.ref l0, .null, .int l2, .int l1, .null] [] (a, r, N) (RN P)) : Sp G (d + 1) 0 0 MX12_goes [.ref l0, .int l1, .int l2] (a, r, N) (RN P) := Sp.mk (mc := 0) (ms := 0) [.ref l0, .int l1, .int l2, .null, .null] rfl rfl rfl rfl (T_X12_goes_0 (C := 0) (S := 0) _ _ _ hs)
set_option maxRecDepth 100000 in
theorem T_X12_goes_2 {G : GE} {d C S : Nat} {P : KN} : Snd G MX12_goes (d + 1) C S 2 (RN P) (s_iload 3 (s_iload 2 (s_ic_ge (s_return P) (s_aload 0 (s_getI 11 43 (s_iconst 200 (s_ic_ge (s_return P) (s_aload 0 (s_dup (s_getI 11 43 (s_iconst 1 (s_iadd (s_putI 11 43 (s_aload 0 (s_getR 11 31 (s_iload 3 (s_aaload (s_iconst 0 (s_iaload (s_iconst 6 (s_ic_ne (s_aload 0 (s_aload 0 (s_getR 11 33 (s_aload 0 (s_getR 11 31 (s_iload 3 (s_aaload (s_callV G d MX12_does 2 11 (s_istore 4 (s_aload 0 (s_dup (s_getI 11 44 (s_iload 4 (s_if_eq (s_iconst 0 (fun L st h => E G MX12_goes (d + 1) C S 121 (msk [true, false, true, true, true] L) st h (RN P))) (s_iconst 1 (fun L st h => E G MX12_goes (d + 1) C S 121 (msk [true, false, true, true, true] L) st h (RN P))))))))))))))))) (s_iconst 0 (s_istore 4 (fun L st h => E G MX12_goes (d + 1) C S 43 (msk [true, false, true, true, true] L) st h (RN P))))))))))))))))))))))))) := (e_iload_n dX12_goes_2 rfl (e_iload_n dX12_goes_3 rfl (e_ic_ge (tgt := 156) dX12_goes_4 (by decide) (e_return rfl dX12_goes_156) (e_aload_n dX12_goes_7 rfl (e_getI rfl cl_11 (by decide) rfl q_1607 dX12_goes_8 (e_sipush (v := 200) dX12_goes_11 (by decide) (e_ic_ge (tgt := 156) dX12_goes_14 (by decide) (e_return rfl dX12_goes_156) (e_aload_n dX12_goes_17 rfl (e_dup dX12_goes_18 (e_getI rfl cl_11 (by decide) rfl q_1607 dX12_goes_19 (e_iconst (v := 1) dX12_goes_22 (by decide) (e_iadd dX12_goes_23 (e_putI rfl cl_11 (by decide) rfl rfl rfl q_1607 dX12_goes_24 (e_aload_n dX12_goes_27 rfl (e_getR rfl cl_11 (by decide) rfl q_1595 dX12_goes_28 (e_iload_n dX12_goes_31 rfl (e_aaload dX12_goes_32 (e_iconst (v := 0) dX12_goes_33 (by decide) (e_iaload dX12_goes_34 (e_bipush (v := 6) dX12_goes_35 (by decide) (e_ic_ne (tgt := 90) dX12_goes_37 (by decide) (e_aload_n dX12_goes_90 rfl (e_aload_n dX12_goes_91 rfl (e_getR rfl cl_11 (by decide) rfl q_1597 dX12_goes_92 (e_aload_n dX12_goes_95 rfl (e_getR rfl cl_11 (by decide) rfl q_1595 dX12_goes_96 (e_iload_n dX12_goes_99 rfl (e_aaload dX12_goes_100 (e_callV cl_11 cal_X12_does q_1874 q_1876 q_78 dX12_goes_101 (e_istore dX12_goes_104 (by decide) (e_aload_n dX12_goes_106 rfl (e_dup dX12_goes_107 (e_getI rfl cl_11 (by decide) rfl q_1608 dX12_goes_108 (e_iload dX12_goes_111 (e_if_eq (tgt := 120) dX12_goes_113 (by decide) (e_iconst (v := 0) dX12_goes_120 (by decide) (e_msk [true, false, true, true, true])) (e_iconst (v := 1) dX12_goes_116 (by decide) (e_goto (tgt := 121) dX12_goes_117 (by decide) (e_msk [true, false, true, true, true]))))))))))))))))) (e_iconst (v := 0) dX12_goes_40 (by decide) (e_istore dX12_goes_41 (by decide) (e_msk [true, false, true, true, true]))))))))))))))))))))))))
set_option maxRecDepth 100000 in
theorem V_X12_goes_2 {G : GE} {d C S : Nat} {P : KN} {a : Nat → Nat → Int32} {r : Nat → Nat → Value} {N : Nat} {l0 : Nat} {l2 : Int32} {l3 : Int32} (hs : ((l2 ≤ l3 → P a r N) ∧ (¬ l2 ≤ l3 → (tyK l0 = (0, 11) ∧ l0 < N ∧ ((200 ≤ (a l0 43) → P a r N) ∧ (¬ 200 ≤ (a l0 43) → (tyK l0 = (0, 11) ∧ l0 < N ∧ (tyK l0 = (0, 11) ∧ l0 < N ∧ ∀ a1, a1 = u2 a l0 43 ((a l0 43) + 1) → (tyK l0 = (0, 11) ∧ l0 < N ∧ ∃ q2, r l0 31 = .ref q2 ∧ ((tyK q2).1 = 3 ∧ q2 < N ∧ vp_in l3 (tyK q2).2 ∧ ((tyK (q2 + 1 + (l3 : Int32).toNatClampNeg)).1 = 1 ∧ (q2 + 1 + (l3 : Int32).toNatClampNeg) < N ∧ vp_in 0 (tyK (q2 + 1 + (l3 : Int32).toNatClampNeg)).2 ∧ ((¬ (a1 (q2 + 1 + (l3 : Int32).toNatClampNeg) (0 : Int32).toNatClampNeg) = 6 → (tyK l0 = (0, 11) ∧ l0 < N ∧ ∃ q3, r l0 33 = .ref q3 ∧ (tyK l0 = (0, 11) ∧ l0 < N ∧ ∃ q4, r l0 31 = .ref q4 ∧ ((tyK q4).1 = 3 ∧ q4 < N ∧ vp_in l3 (tyK q4).2 ∧ (tyK l0 = (0, 11) ∧ l0 < N ∧ Sp G d 0 0 MX12_does [.ref l0, .ref q3, .ref (q4 + 1 + (l3 : Int32).toNatClampNeg)] (a1, r, N) (RI fun v8 a5 r6 n7 => (tyK l0 = (0, 11) ∧ l0 < n7 ∧ ((v8 = 0 → E G MX12_goes (d + 1) C S 121 [.ref l0, .null, .int l2, .int l3, .int v8] [.int 0, .int (a5 l0 44), .ref l0] (a5, r6, n7) (RN P)) ∧ (¬ v8 = 0 → E G MX12_goes (d + 1) C S 121 [.ref l0, .null, .int l2, .int l3, .int v8] [.int 1, .int (a5 l0 44), .ref l0] (a5, r6, n7) (RN P)))))))))) ∧ ((a1 (q2 + 1 + (l3 : Int32).toNatClampNeg) (0 : Int32).toNatClampNeg) = 6 → E G MX12_goes (d + 1) C S 43 [.ref l0, .null, .int l2, .int l3, .int 0] [] (a1, r, N) (RN P)))))))))))))) : E G MX12_goes (d + 1) C S 2 [.ref l0, .null, .int l2, .int l3, .null] [] (a, r, N) (RN P) := T_X12_goes_2 _ _ _ hs
set_option maxRecDepth 100000 in
theorem T_X12_goes_43 {G : GE} {d C S : Nat} {P : KN} : Snd G MX12_goes (d + 1) C S 43 (RN P) (s_iload 4 (s_aload 0 (s_getR 11 31 (s_iload 3 (s_aaload (s_iconst 1 (s_iaload (s_ic_ge (s_aload 0 (s_getR 11 31 (s_iload 3 (s_aaload (s_iconst 3 (s_iaload (s_istore 3 (fun L st h => E G MX12_goes (d + 1) C S 2 (msk [true, false, true, true, false] L) st h (RN P))))))))) (s_aload 0 (s_getI 11 43 (s_iconst 200 (s_ic_ge (s_aload 0 (s_getR 11 31 (s_iload 3 (s_aaload (s_iconst 3 (s_iaload (s_istore 3 (fun L st h => E G MX12_goes (d + 1) C S 2 (msk [true, false, true, true, false] L) st h (RN P))))))))) (s_aload 0 (s_iload 3 (s_iconst 1 (s_iadd (s_aload 0 (s_getR 11 31 (s_iload 3 (s_aaload (s_iconst 3 (s_iaload (s_callV G d MX12_goes 2 11 (s_iinc 4 1 (fun L st h => E G MX12_goes (d + 1) C S 43 (msk [true, false, true, true, true] L) st h (RN P)))))))))))))))))))))))))) := (e_iload dX12_goes_43 (e_aload_n dX12_goes_45 rfl (e_getR rfl cl_11 (by decide) rfl q_1595 dX12_goes_46 (e_iload_n dX12_goes_49 rfl (e_aaload dX12_goes_50 (e_iconst (v := 1) dX12_goes_51 (by decide) (e_iaload dX12_goes_52 (e_ic_ge (tgt := 87) dX12_goes_53 (by decide) (e_goto (tgt := 144) dX12_goes_87 (by decide) (e_aload_n dX12_goes_144 rfl (e_getR rfl cl_11 (by decide) rfl q_1595 dX12_goes_145 (e_iload_n dX12_goes_148 rfl (e_aaload dX12_goes_149 (e_iconst (v := 3) dX12_goes_150 (by decide) (e_iaload dX12_goes_151 (e_istore_n dX12_goes_152 rfl (by decide) (e_goto (tgt := 2) dX12_goes_153 (by decide) (e_msk [true, false, true, true, false])))))))))) (e_aload_n dX12_goes_56 rfl (e_getI rfl cl_11 (by decide) rfl q_1607 dX12_goes_57 (e_sipush (v := 200) dX12_goes_60 (by decide) (e_ic_ge (tgt := 87) dX12_goes_63 (by decide) (e_goto (tgt := 144) dX12_goes_87 (by decide) (e_aload_n dX12_goes_144 rfl (e_getR rfl cl_11 (by decide) rfl q_1595 dX12_goes_145 (e_iload_n dX12_goes_148 rfl (e_aaload dX12_goes_149 (e_iconst (v := 3) dX12_goes_150 (by decide) (e_iaload dX12_goes_151 (e_istore_n dX12_goes_152 rfl (by decide) (e_goto (tgt := 2) dX12_goes_153 (by decide) (e_msk [true, false, true, true, false])))))))))) (e_aload_n dX12_goes_66 rfl (e_iload_n dX12_goes_67 rfl (e_iconst (v := 1) dX12_goes_68 (by decide) (e_iadd dX12_goes_69 (e_aload_n dX12_goes_70 rfl (e_getR rfl cl_11 (by decide) rfl q_1595 dX12_goes_71 (e_iload_n dX12_goes_74 rfl (e_aaload dX12_goes_75 (e_iconst (v := 3) dX12_goes_76 (by decide) (e_iaload dX12_goes_77 (e_callV cl_11 cal_X12_goes q_1870 q_1872 q_77 dX12_goes_78 (e_iinc (v := 1) dX12_goes_81 (by decide) (by decide) (e_goto (tgt := 43) dX12_goes_84 (by decide) (e_msk [true, false, true, true, true]))))))))))))))))))))))))))
set_option maxRecDepth 100000 in
theorem V_X12_goes_43 {G : GE} {d C S : Nat} {P : KN} {a : Nat → Nat → Int32} {r : Nat → Nat → Value} {N : Nat} {l0 : Nat} {l2 : Int32} {l3 : Int32} {l4 : Int32} (hs : (tyK l0 = (0, 11) ∧ l0 < N ∧ ∃ q1, r l0 31 = .ref q1 ∧ ((tyK q1).1 = 3 ∧ q1 < N ∧ vp_in l3 (tyK q1).2 ∧ ((tyK (q1 + 1 + (l3 : Int32).toNatClampNeg)).1 = 1 ∧ (q1 + 1 + (l3 : Int32).toNatClampNeg) < N ∧ vp_in 1 (tyK (q1 + 1 + (l3 : Int32).toNatClampNeg)).2 ∧ (((a (q1 + 1 + (l3 : Int32).toNatClampNeg) (1 : Int32).toNatClampNeg) ≤ l4 → (tyK l0 = (0, 11) ∧ l0 < N ∧ ∃ q2, r l0 31 = .ref q2 ∧ ((tyK q2).1 = 3 ∧ q2 < N ∧ vp_in l3 (tyK q2).2 ∧ ((tyK (q2 + 1 + (l3 : Int32).toNatClampNeg)).1 = 1 ∧ (q2 + 1 + (l3 : Int32).toNatClampNeg) < N ∧ vp_in 3 (tyK (q2 + 1 + (l3 : Int32).toNatClampNeg)).2 ∧ E G MX12_goes (d + 1) C S 2 [.ref l0, .null, .int l2, .int (a (q2 + 1 + (l3 : Int32).toNatClampNeg) (3 : Int32).toNatClampNeg), .null] [] (a, r, N) (RN P))))) ∧ (¬ (a (q1 + 1 + (l3 : Int32).toNatClampNeg) (1 : Int32).toNatClampNeg) ≤ l4 → (tyK l0 = (0, 11) ∧ l0 < N ∧ ((200 ≤ (a l0 43) → (tyK l0 = (0, 11) ∧ l0 < N ∧ ∃ q3, r l0 31 = .ref q3 ∧ ((tyK q3).1 = 3 ∧ q3 < N ∧ vp_in l3 (tyK q3).2 ∧ ((tyK (q3 + 1 + (l3 : Int32).toNatClampNeg)).1 = 1 ∧ (q3 + 1 + (l3 : Int32).toNatClampNeg) < N ∧ vp_in 3 (tyK (q3 + 1 + (l3 : Int32).toNatClampNeg)).2 ∧ E G MX12_goes (d + 1) C S 2 [.ref l0, .null, .int l2, .int (a (q3 + 1 + (l3 : Int32).toNatClampNeg) (3 : Int32).toNatClampNeg), .null] [] (a, r, N) (RN P))))) ∧ (¬ 200 ≤ (a l0 43) → (tyK l0 = (0, 11) ∧ l0 < N ∧ ∃ q4, r l0 31 = .ref q4 ∧ ((tyK q4).1 = 3 ∧ q4 < N ∧ vp_in l3 (tyK q4).2 ∧ ((tyK (q4 + 1 + (l3 : Int32).toNatClampNeg)).1 = 1 ∧ (q4 + 1 + (l3 : Int32).toNatClampNeg) < N ∧ vp_in 3 (tyK (q4 + 1 + (l3 : Int32).toNatClampNeg)).2 ∧ (tyK l0 = (0, 11) ∧ l0 < N ∧ Sp G d 0 0 MX12_goes [.ref l0, .int (l3 + 1), .int (a (q4 + 1 + (l3 : Int32).toNatClampNeg) (3 : Int32).toNatClampNeg)] (a, r, N) (RN fun a5 r6 n7 => E G MX12_goes (d + 1) C S 43 [.ref l0, .null, .int l2, .int l3, .int (l4 + 1)] [] (a5, r6, n7) (RN P))))))))))))))) : E G MX12_goes (d + 1) C S 43 [.ref l0, .null, .int l2, .int l3, .int l4] [] (a, r, N) (RN P) := T_X12_goes_43 _ _ _ hs
set_option maxRecDepth 100000 in
theorem T_X12_goes_121 {G : GE} {d C S : Nat} {P : KN} : Snd G MX12_goes (d + 1) C S 121 (RN P) (s_iadd (s_putI 11 44 (s_aload 0 (s_dup (s_getI 11 40 (s_iload 4 (s_if_eq (s_iconst 1 (s_iadd (s_putI 11 40 (s_aload 0 (s_getR 11 31 (s_iload 3 (s_aaload (s_iconst 3 (s_iaload (s_istore 3 (fun L st h => E G MX12_goes (d + 1) C S 2 (msk [true, false, true, true, false] L) st h (RN P)))))))))))) (s_iconst 0 (s_iadd (s_putI 11 40 (s_aload 0 (s_getR 11 31 (s_iload 3 (s_aaload (s_iconst 3 (s_iaload (s_istore 3 (fun L st h => E G MX12_goes (d + 1) C S 2 (msk [true, false, true, true, false] L) st h (RN P))))))))))))))))))) := (e_iadd dX12_goes_121 (e_putI rfl cl_11 (by decide) rfl rfl rfl q_1608 dX12_goes_122 (e_aload_n dX12_goes_125 rfl (e_dup dX12_goes_126 (e_getI rfl cl_11 (by decide) rfl q_1604 dX12_goes_127 (e_iload dX12_goes_130 (e_if_eq (tgt := 139) dX12_goes_132 (by decide) (e_iconst (v := 1) dX12_goes_139 (by decide) (e_iadd dX12_goes_140 (e_putI rfl cl_11 (by decide) rfl rfl rfl q_1604 dX12_goes_141 (e_aload_n dX12_goes_144 rfl (e_getR rfl cl_11 (by decide) rfl q_1595 dX12_goes_145 (e_iload_n dX12_goes_148 rfl (e_aaload dX12_goes_149 (e_iconst (v := 3) dX12_goes_150 (by decide) (e_iaload dX12_goes_151 (e_istore_n dX12_goes_152 rfl (by decide) (e_goto (tgt := 2) dX12_goes_153 (by decide) (e_msk [true, false, true, true, false])))))))))))) (e_iconst (v := 0) dX12_goes_135 (by decide) (e_goto (tgt := 140) dX12_goes_136 (by decide) (e_iadd dX12_goes_140 (e_putI rfl cl_11 (by decide) rfl rfl rfl q_1604 dX12_goes_141 (e_aload_n dX12_goes_144 rfl (e_getR rfl cl_11 (by decide) rfl q_1595 dX12_goes_145 (e_iload_n dX12_goes_148 rfl (e_aaload dX12_goes_149 (e_iconst (v := 3) dX12_goes_150 (by decide) (e_iaload dX12_goes_151 (e_istore_n dX12_goes_152 rfl (by decide) (e_goto (tgt := 2) dX12_goes_153 (by decide) (e_msk [true, false, true, true, false]))))))))))))))))))))
set_option maxRecDepth 100000 in
theorem V_X12_goes_121 {G : GE} {d C S : Nat} {P : KN} {a : Nat → Nat → Int32} {r : Nat → Nat → Value} {N : Nat} {l0 : Nat} {l2 : Int32} {l3 : Int32} {l4 : Int32} {s0 : Nat} {s1 : Int32} {s2 : Int32} (hs : (tyK s0 = (0, 11) ∧ s0 < N ∧ ∀ a1, a1 = u2 a s0 44 (s1 + s2) → (tyK l0 = (0, 11) ∧ l0 < N ∧ ((l4 = 0 → (tyK l0 = (0, 11) ∧ l0 < N ∧ ∀ a2, a2 = u2 a1 l0 40 ((a1 l0 40) + 1) → (tyK l0 = (0, 11) ∧ l0 < N ∧ ∃ q3, r l0 31 = .ref q3 ∧ ((tyK q3).1 = 3 ∧ q3 < N ∧ vp_in l3 (tyK q3).2 ∧ ((tyK (q3 + 1 + (l3 : Int32).toNatClampNeg)).1 = 1 ∧ (q3 + 1 + (l3 : Int32).toNatClampNeg) < N ∧ vp_in 3 (tyK (q3 + 1 + (l3 : Int32).toNatClampNeg)).2 ∧ E G MX12_goes (d + 1) C S 2 [.ref l0, .null, .int l2, .int (a2 (q3 + 1 + (l3 : Int32).toNatClampNeg) (3 : Int32).toNatClampNeg), .null] [] (a2, r, N) (RN P)))))) ∧ (¬ l4 = 0 → (tyK l0 = (0, 11) ∧ l0 < N ∧ ∀ a4, a4 = u2 a1 l0 40 ((a1 l0 40) + 0) → (tyK l0 = (0, 11) ∧ l0 < N ∧ ∃ q5, r l0 31 = .ref q5 ∧ ((tyK q5).1 = 3 ∧ q5 < N ∧ vp_in l3 (tyK q5).2 ∧ ((tyK (q5 + 1 + (l3 : Int32).toNatClampNeg)).1 = 1 ∧ (q5 + 1 + (l3 : Int32).toNatClampNeg) < N ∧ vp_in 3 (tyK (q5 + 1 + (l3 : Int32).toNatClampNeg)).2 ∧ E G MX12_goes (d + 1) C S 2 [.ref l0, .null, .int l2, .int (a4 (q5 + 1 + (l3 : Int32).toNatClampNeg) (3 : Int32).toNatClampNeg), .null] [] (a4, r, N) (RN P)))))))))) : E G MX12_goes (d + 1) C S 121 [.ref l0, .null, .int l2, .int l3, .int l4] [.int s2, .int s1, .ref s0] (a, r, N) (RN P) := T_X12_goes_121 _ _ _ hs
theorem dX12_work_0 : decode cX12_work 0 = .ok (.aload_n 0, 1) := by decide +kernel
theorem dX12_work_1 : decode cX12_work 1 = .ok (.iconst 0, 1) := by decide +kernel
theorem dX12_work_2 : decode cX12_work 2 = .ok (.putfield 115, 3) := by decide +kernel
theorem dX12_work_5 : decode cX12_work 5 = .ok (.aload_n 0, 1) := by decide +kernel
theorem dX12_work_6 : decode cX12_work 6 = .ok (.iload_n 1, 1) := by decide +kernel
theorem dX12_work_7 : decode cX12_work 7 = .ok (.iconst 0, 1) := by decide +kernel
theorem dX12_work_8 : decode cX12_work 8 = .ok (.aload_n 0, 1) := by decide +kernel
theorem dX12_work_9 : decode cX12_work 9 = .ok (.getfield 118, 3) := by decide +kernel
theorem dX12_work_12 : decode cX12_work 12 = .ok (.invokestatic 149, 3) := by decide +kernel
theorem dX12_work_15 : decode cX12_work 15 = .ok (.ifCond .eq 10, 3) := by decide +kernel
theorem dX12_work_18 : decode cX12_work 18 = .ok (.iload_n 1, 1) := by decide +kernel
theorem dX12_work_19 : decode cX12_work 19 = .ok (.sipush 150, 3) := by decide +kernel
theorem dX12_work_22 : decode cX12_work 22 = .ok (.if_icmp .le 7, 3) := by decide +kernel
theorem dX12_work_25 : decode cX12_work 25 = .ok (.iconst 1, 1) := by decide +kernel
theorem dX12_work_26 : decode cX12_work 26 = .ok (.goto 4, 3) := by decide +kernel
theorem dX12_work_29 : decode cX12_work 29 = .ok (.iconst 0, 1) := by decide +kernel
theorem dX12_work_30 : decode cX12_work 30 = .ok (.iconst 1, 1) := by decide +kernel
theorem dX12_work_31 : decode cX12_work 31 = .ok (.iconst 2, 1) := by decide +kernel
theorem dX12_work_32 : decode cX12_work 32 = .ok (.invokevirtual 198, 3) := by decide +kernel
theorem dX12_work_35 : decode cX12_work 35 = .ok (.ifCond .eq 5, 3) := by decide +kernel
theorem dX12_work_38 : decode cX12_work 38 = .ok (.iconst 0, 1) := by decide +kernel
theorem dX12_work_39 : decode cX12_work 39 = .ok (.ireturn, 1) := by decide +kernel
theorem dX12_work_40 : decode cX12_work 40 = .ok (.aload_n 0, 1) := by decide +kernel
theorem dX12_work_41 : decode cX12_work 41 = .ok (.getfield 221, 3) := by decide +kernel
theorem dX12_work_44 : decode cX12_work 44 = .ok (.bipush 16, 2) := by decide +kernel
theorem dX12_work_46 : decode cX12_work 46 = .ok (.if_icmp .ne 16, 3) := by decide +kernel
theorem dX12_work_49 : decode cX12_work 49 = .ok (.aload_n 0, 1) := by decide +kernel
theorem dX12_work_50 : decode cX12_work 50 = .ok (.iconst 0, 1) := by decide +kernel
theorem dX12_work_51 : decode cX12_work 51 = .ok (.putfield 118, 3) := by decide +kernel
theorem dX12_work_54 : decode cX12_work 54 = .ok (.aload_n 0, 1) := by decide +kernel
theorem dX12_work_55 : decode cX12_work 55 = .ok (.iconst (-1), 1) := by decide +kernel
theorem dX12_work_56 : decode cX12_work 56 = .ok (.putfield 9, 3) := by decide +kernel
theorem dX12_work_59 : decode cX12_work 59 = .ok (.bipush (-20), 2) := by decide +kernel
theorem dX12_work_61 : decode cX12_work 61 = .ok (.ireturn, 1) := by decide +kernel
theorem dX12_work_62 : decode cX12_work 62 = .ok (.aload_n 0, 1) := by decide +kernel
theorem dX12_work_63 : decode cX12_work 63 = .ok (.iload_n 1, 1) := by decide +kernel
theorem dX12_work_64 : decode cX12_work 64 = .ok (.invokevirtual 202, 3) := by decide +kernel
theorem dX12_work_67 : decode cX12_work 67 = .ok (.aload_n 0, 1) := by decide +kernel
theorem dX12_work_68 : decode cX12_work 68 = .ok (.iconst 0, 1) := by decide +kernel
theorem dX12_work_69 : decode cX12_work 69 = .ok (.putfield 271, 3) := by decide +kernel
theorem dX12_work_72 : decode cX12_work 72 = .ok (.aload_n 0, 1) := by decide +kernel
theorem dX12_work_73 : decode cX12_work 73 = .ok (.getfield 131, 3) := by decide +kernel
theorem dX12_work_76 : decode cX12_work 76 = .ok (.ifCond .ne 25, 3) := by decide +kernel
theorem dX12_work_79 : decode cX12_work 79 = .ok (.aload_n 0, 1) := by decide +kernel
theorem dX12_work_80 : decode cX12_work 80 = .ok (.getfield 124, 3) := by decide +kernel
theorem dX12_work_83 : decode cX12_work 83 = .ok (.aload_n 0, 1) := by decide +kernel
theorem dX12_work_84 : decode cX12_work 84 = .ok (.getfield 121, 3) := by decide +kernel
theorem dX12_work_87 : decode cX12_work 87 = .ok (.if_icmp .ge 14, 3) := by decide +kernel
theorem dX12_work_90 : decode cX12_work 90 = .ok (.aload_n 0, 1) := by decide +kernel
theorem dX12_work_91 : decode cX12_work 91 = .ok (.invokevirtual 274, 3) := by decide +kernel
theorem dX12_work_94 : decode cX12_work 94 = .ok (.aload_n 0, 1) := by decide +kernel
theorem dX12_work_95 : decode cX12_work 95 = .ok (.invokevirtual 137, 3) := by decide +kernel
theorem dX12_work_98 : decode cX12_work 98 = .ok (.goto (-26), 3) := by decide +kernel
theorem dX12_work_101 : decode cX12_work 101 = .ok (.aload_n 0, 1) := by decide +kernel
theorem dX12_work_102 : decode cX12_work 102 = .ok (.getfield 131, 3) := by decide +kernel
theorem dX12_work_105 : decode cX12_work 105 = .ok (.ifCond .eq 8, 3) := by decide +kernel
theorem dX12_work_108 : decode cX12_work 108 = .ok (.aload_n 0, 1) := by decide +kernel
theorem dX12_work_109 : decode cX12_work 109 = .ok (.invokevirtual 208, 3) := by decide +kernel
theorem dX12_work_112 : decode cX12_work 112 = .ok (.ireturn, 1) := by decide +kernel
theorem dX12_work_113 : decode cX12_work 113 = .ok (.aload_n 0, 1) := by decide +kernel
theorem dX12_work_114 : decode cX12_work 114 = .ok (.iconst (-1), 1) := by decide +kernel
theorem dX12_work_115 : decode cX12_work 115 = .ok (.putfield 9, 3) := by decide +kernel
theorem dX12_work_118 : decode cX12_work 118 = .ok (.aload_n 0, 1) := by decide +kernel
theorem dX12_work_119 : decode cX12_work 119 = .ok (.getfield 79, 3) := by decide +kernel
theorem dX12_work_122 : decode cX12_work 122 = .ok (.aload_n 0, 1) := by decide +kernel
theorem dX12_work_123 : decode cX12_work 123 = .ok (.getfield 85, 3) := by decide +kernel
theorem dX12_work_126 : decode cX12_work 126 = .ok (.aload_n 0, 1) := by decide +kernel
theorem dX12_work_127 : decode cX12_work 127 = .ok (.getfield 221, 3) := by decide +kernel
theorem dX12_work_130 : decode cX12_work 130 = .ok (.aaload, 1) := by decide +kernel
theorem dX12_work_131 : decode cX12_work 131 = .ok (.invokestatic 329, 3) := by decide +kernel
theorem dX12_work_134 : decode cX12_work 134 = .ok (.aload_n 0, 1) := by decide +kernel
theorem dX12_work_135 : decode cX12_work 135 = .ok (.dup, 1) := by decide +kernel
theorem dX12_work_136 : decode cX12_work 136 = .ok (.getfield 221, 3) := by decide +kernel
theorem dX12_work_139 : decode cX12_work 139 = .ok (.iconst 1, 1) := by decide +kernel
theorem dX12_work_140 : decode cX12_work 140 = .ok (.iadd, 1) := by decide +kernel
theorem dX12_work_141 : decode cX12_work 141 = .ok (.putfield 221, 3) := by decide +kernel
theorem dX12_work_144 : decode cX12_work 144 = .ok (.aload_n 0, 1) := by decide +kernel
theorem dX12_work_145 : decode cX12_work 145 = .ok (.iconst 0, 1) := by decide +kernel
theorem dX12_work_146 : decode cX12_work 146 = .ok (.putfield 316, 3) := by decide +kernel
theorem dX12_work_149 : decode cX12_work 149 = .ok (.aload_n 0, 1) := by decide +kernel
theorem dX12_work_150 : decode cX12_work 150 = .ok (.iconst 0, 1) := by decide +kernel
theorem dX12_work_151 : decode cX12_work 151 = .ok (.putfield 326, 3) := by decide +kernel
theorem dX12_work_154 : decode cX12_work 154 = .ok (.aload_n 0, 1) := by decide +kernel
theorem dX12_work_155 : decode cX12_work 155 = .ok (.iconst 0, 1) := by decide +kernel
theorem dX12_work_156 : decode cX12_work 156 = .ok (.putfield 224, 3) := by decide +kernel
theorem dX12_work_159 : decode cX12_work 159 = .ok (.aload_n 0, 1) := by decide +kernel
theorem dX12_work_160 : decode cX12_work 160 = .ok (.iconst 0, 1) := by decide +kernel
theorem dX12_work_161 : decode cX12_work 161 = .ok (.aload_n 0, 1) := by decide +kernel
theorem dX12_work_162 : decode cX12_work 162 = .ok (.getfield 271, 3) := by decide +kernel
theorem dX12_work_165 : decode cX12_work 165 = .ok (.invokevirtual 319, 3) := by decide +kernel
theorem dX12_work_168 : decode cX12_work 168 = .ok (.aload_n 0, 1) := by decide +kernel
theorem dX12_work_169 : decode cX12_work 169 = .ok (.getfield 326, 3) := by decide +kernel
theorem dX12_work_172 : decode cX12_work 172 = .ok (.ireturn, 1) := by decide +kernel
set_option maxRecDepth 100000 in
theorem T_X12_work_0 {G : GE} {d C S : Nat} {P : KI} : Snd G MX12_work (d + 1) C S 0 (RI P) (s_aload 0 (s_iconst 0 (s_putI 11 0 (s_aload 0 (s_iload 1 (s_iconst 0 (s_aload 0 (s_getI 11 1 (s_call G d MX12_in 3 (s_if_eq (fun L st h => E G MX12_work (d + 1) C S 25 (msk [true, true] L) st h (RI P)) (s_iload 1 (s_iconst 150 (s_ic_le (s_iconst 0 (s_iconst 1 (s_iconst 2 (s_callV G d MX12_bad 3 11 (s_if_eq (s_aload 0 (s_getI 11 39 (s_iconst 16 (s_ic_ne (s_aload 0 (s_iload 1 (s_callV G d MX12_starts 1 11 (s_aload 0 (s_iconst 0 (s_putI 11 32 (fun L st h => E G MX12_work (d + 1) C S 72 (msk [true, false] L) st h (RI P)))))))) (s_aload 0 (s_iconst 0 (s_putI 11 1 (s_aload 0 (s_iconst (-1) (s_putI 11 3 (s_iconst (-20) (s_ireturn P)))))))))))) (s_iconst 0 (s_ireturn P))))))) (fun L st h => E G MX12_work (d + 1) C S 25 (msk [true, true] L) st h (RI P))))))))))))))) := (e_aload_n dX12_work_0 rfl (e_iconst (v := 0) dX12_work_1 (by decide) (e_putI rfl cl_11 (by decide) rfl rfl rfl q_1564 dX12_work_2 (e_aload_n dX12_work_5 rfl (e_iload_n dX12_work_6 rfl (e_iconst (v := 0) dX12_work_7 (by decide) (e_aload_n dX12_work_8 rfl (e_getI rfl cl_11 (by decide) rfl q_1565 dX12_work_9 (e_callS cal_X12_in q_1739 q_1740 dX12_work_12 (e_if_eq (tgt := 25) dX12_work_15 (by decide) (e_msk [true, true]) (e_iload_n dX12_work_18 rfl (e_sipush (v := 150) dX12_work_19 (by decide) (e_ic_le (tgt := 29) dX12_work_22 (by decide) (e_iconst (v := 0) dX12_work_29 (by decide) (e_iconst (v := 1) dX12_work_30 (by decide) (e_iconst (v := 2) dX12_work_31 (by decide) (e_callV cl_11 cal_X12_bad q_1742 q_1744 q_53 dX12_work_32 (e_if_eq (tgt := 40) dX12_work_35 (by decide) (e_aload_n dX12_work_40 rfl (e_getI rfl cl_11 (by decide) rfl q_1603 dX12_work_41 (e_bipush (v := 16) dX12_work_44 (by decide) (e_ic_ne (tgt := 62) dX12_work_46 (by decide) (e_aload_n dX12_work_62 rfl (e_iload_n dX12_work_63 rfl (e_callV cl_11 cal_X12_starts q_1746 q_1748 q_54 dX12_work_64 (e_aload_n dX12_work_67 rfl (e_iconst (v := 0) dX12_work_68 (by decide) (e_putI rfl cl_11 (by decide) rfl rfl rfl q_1596 dX12_work_69 (e_msk [true, false]))))))) (e_aload_n dX12_work_49 rfl (e_iconst (v := 0) dX12_work_50 (by decide) (e_putI rfl cl_11 (by decide) rfl rfl rfl q_1565 dX12_work_51 (e_aload_n dX12_work_54 rfl (e_iconst (v := (-1)) dX12_work_55 (by decide) (e_putI rfl cl_11 (by decide) rfl rfl rfl q_1567 dX12_work_56 (e_bipush (v := (-20)) dX12_work_59 (by decide) (e_ireturn rfl dX12_work_61)))))))))))) (e_iconst (v := 0) dX12_work_38 (by decide) (e_ireturn rfl dX12_work_39))))))) (e_msk [true, true]))))))))))))))
set_option maxRecDepth 100000 in
theorem V_X12_work_0 {G : GE} {d : Nat} {P : KI} {a : Nat → Nat → Int32} {r : Nat → Nat → Value} {N : Nat} {l0 : Nat} {l1 : Int32} (hs : (tyK l0 = (0, 11) ∧ l0 < N ∧ ∀ a1, a1 = u2 a l0 0 0 → (tyK l0 = (0, 11) ∧ l0 < N ∧ Sp G d 0 0 MX12_in [.int l1, .int 0, .int (a1 l0 1)] (a1, r, N) (RI fun v5 a2 r3 n4 => ((v5 = 0 → E G MX12_work (d + 1) 0 0 25 [.ref l0, .int l1] [.ref l0] (a2, r3, n4) (RI P)) ∧ (¬ v5 = 0 → ((l1 ≤ 150 → (tyK l0 = (0, 11) ∧ l0 < n4 ∧ Sp G d 0 0 MX12_bad [.ref l0, .int 0, .int 1, .int 2] (a2, r3, n4) (RI fun v9 a6 r7 n8 => ((v9 = 0 → (tyK l0 = (0, 11) ∧ l0 < n8 ∧ ((¬ (a6 l0 39) = 16 → (tyK l0 = (0, 11) ∧ l0 < n8 ∧ Sp G d 0 0 MX12_starts [.ref l0, .int l1] (a6, r7, n8) (RN fun a10 r11 n12 => (tyK l0 = (0, 11) ∧ l0 < n12 ∧ ∀ a13, a13 = u2 a10 l0 32 0 → E G MX12_work (d + 1) 0 0 72 [.ref l0, .null] [] (a13, r11, n12) (RI P))))) ∧ ((a6 l0 39) = 16 → (tyK l0 = (0, 11) ∧ l0 < n8 ∧ ∀ a14, a14 = u2 a6 l0 1 0 → (tyK l0 = (0, 11) ∧ l0 < n8 ∧ ∀ a15, a15 = u2 a14 l0 3 (-1) → P (-20) a15 r7 n8)))))) ∧ (¬ v9 = 0 → P 0 a6 r7 n8))))) ∧ (¬ l1 ≤ 150 → E G MX12_work (d + 1) 0 0 25 [.ref l0, .int l1] [.ref l0] (a2, r3, n4) (RI P))))))))) : Sp G (d + 1) 0 0 MX12_work [.ref l0, .int l1] (a, r, N) (RI P) := Sp.mk (mc := 0) (ms := 0) [.ref l0, .int l1] rfl rfl rfl rfl (T_X12_work_0 (C := 0) (S := 0) _ _ _ hs)
set_option maxRecDepth 100000 in
theorem T_X12_work_25 {G : GE} {d C S : Nat} {P : KI} : Snd G MX12_work (d + 1) C S 25 (RI P) (s_iconst 1 (s_iconst 1 (s_iconst 2 (s_callV G d MX12_bad 3 11 (s_if_eq (s_aload 0 (s_getI 11 39 (s_iconst 16 (s_ic_ne (s_aload 0 (s_iload 1 (s_callV G d MX12_starts 1 11 (s_aload 0 (s_iconst 0 (s_putI 11 32 (fun L st h => E G MX12_work (d + 1) C S 72 (msk [true, false] L) st h (RI P)))))))) (s_aload 0 (s_iconst 0 (s_putI 11 1 (s_aload 0 (s_iconst (-1) (s_putI 11 3 (s_iconst (-20) (s_ireturn P)))))))))))) (s_iconst 0 (s_ireturn P))))))) := (e_iconst (v := 1) dX12_work_25 (by decide) (e_goto (tgt := 30) dX12_work_26 (by decide) (e_iconst (v := 1) dX12_work_30 (by decide) (e_iconst (v := 2) dX12_work_31 (by decide) (e_callV cl_11 cal_X12_bad q_1742 q_1744 q_53 dX12_work_32 (e_if_eq (tgt := 40) dX12_work_35 (by decide) (e_aload_n dX12_work_40 rfl (e_getI rfl cl_11 (by decide) rfl q_1603 dX12_work_41 (e_bipush (v := 16) dX12_work_44 (by decide) (e_ic_ne (tgt := 62) dX12_work_46 (by decide) (e_aload_n dX12_work_62 rfl (e_iload_n dX12_work_63 rfl (e_callV cl_11 cal_X12_starts q_1746 q_1748 q_54 dX12_work_64 (e_aload_n dX12_work_67 rfl (e_iconst (v := 0) dX12_work_68 (by decide) (e_putI rfl cl_11 (by decide) rfl rfl rfl q_1596 dX12_work_69 (e_msk [true, false]))))))) (e_aload_n dX12_work_49 rfl (e_iconst (v := 0) dX12_work_50 (by decide) (e_putI rfl cl_11 (by decide) rfl rfl rfl q_1565 dX12_work_51 (e_aload_n dX12_work_54 rfl (e_iconst (v := (-1)) dX12_work_55 (by decide) (e_putI rfl cl_11 (by decide) rfl rfl rfl q_1567 dX12_work_56 (e_bipush (v := (-20)) dX12_work_59 (by decide) (e_ireturn rfl dX12_work_61)))))))))))) (e_iconst (v := 0) dX12_work_38 (by decide) (e_ireturn rfl dX12_work_39))))))))
set_option maxRecDepth 100000 in
theorem V_X12_work_25 {G : GE} {d C S : Nat} {P : KI} {a : Nat → Nat → Int32} {r : Nat → Nat → Value} {N : Nat} {l0 : Nat} {l1 : Int32} {s0 : Nat} (hs : (tyK s0 = (0, 11) ∧ s0 < N ∧ Sp G d 0 0 MX12_bad [.ref s0, .int 1, .int 1, .int 2] (a, r, N) (RI fun v4 a1 r2 n3 => ((v4 = 0 → (tyK l0 = (0, 11) ∧ l0 < n3 ∧ ((¬ (a1 l0 39) = 16 → (tyK l0 = (0, 11) ∧ l0 < n3 ∧ Sp G d 0 0 MX12_starts [.ref l0, .int l1] (a1, r2, n3) (RN fun a5 r6 n7 => (tyK l0 = (0, 11) ∧ l0 < n7 ∧ ∀ a8, a8 = u2 a5 l0 32 0 → E G MX12_work (d + 1) C S 72 [.ref l0, .null] [] (a8, r6, n7) (RI P))))) ∧ ((a1 l0 39) = 16 → (tyK l0 = (0, 11) ∧ l0 < n3 ∧ ∀ a9, a9 = u2 a1 l0 1 0 → (tyK l0 = (0, 11) ∧ l0 < n3 ∧ ∀ a10, a10 = u2 a9 l0 3 (-1) → P (-20) a10 r2 n3)))))) ∧ (¬ v4 = 0 → P 0 a1 r2 n3))))) : E G MX12_work (d + 1) C S 25 [.ref l0, .int l1] [.ref s0] (a, r, N) (RI P) := T_X12_work_25 _ _ _ hs
set_option maxRecDepth 100000 in
theorem T_X12_work_72 {G : GE} {d C S : Nat} {P : KI} : Snd G MX12_work (d + 1) C S 72 (RI P) (s_aload 0 (s_getI 11 5 (s_if_ne (fun L st h => E G MX12_work (d + 1) C S 101 (msk [true, false] L) st h (RI P)) (s_aload 0 (s_getI 11 4 (s_aload 0 (s_getI 11 2 (s_ic_ge (fun L st h => E G MX12_work (d + 1) C S 101 (msk [true, false] L) st h (RI P)) (s_aload 0 (s_callV G d MX12_readsStep 0 11 (s_aload 0 (s_callV G d MX12_blanks 0 11 (fun L st h => E G MX12_work (d + 1) C S 72 (msk [true, false] L) st h (RI P)))))))))))))) := (e_aload_n dX12_work_72 rfl (e_getI rfl cl_11 (by decide) rfl q_1569 dX12_work_73 (e_if_ne (tgt := 101) dX12_work_76 (by decide) (e_msk [true, false]) (e_aload_n dX12_work_79 rfl (e_getI rfl cl_11 (by decide) rfl q_1568 dX12_work_80 (e_aload_n dX12_work_83 rfl (e_getI rfl cl_11 (by decide) rfl q_1566 dX12_work_84 (e_ic_ge (tgt := 101) dX12_work_87 (by decide) (e_msk [true, false]) (e_aload_n dX12_work_90 rfl (e_callV cl_11 cal_X12_readsStep q_1859 q_1861 q_75 dX12_work_91 (e_aload_n dX12_work_94 rfl (e_callV cl_11 cal_X12_blanks q_1750 q_1752 q_55 dX12_work_95 (e_goto (tgt := 72) dX12_work_98 (by decide) (e_msk [true, false]))))))))))))))
set_option maxRecDepth 100000 in
theorem V_X12_work_72 {G : GE} {d C S : Nat} {P : KI} {a : Nat → Nat → Int32} {r : Nat → Nat → Value} {N : Nat} {l0 : Nat} (hs : (tyK l0 = (0, 11) ∧ l0 < N ∧ ((¬ (a l0 5) = 0 → E G MX12_work (d + 1) C S 101 [.ref l0, .null] [] (a, r, N) (RI P)) ∧ ((a l0 5) = 0 → (tyK l0 = (0, 11) ∧ l0 < N ∧ (tyK l0 = (0, 11) ∧ l0 < N ∧ (((a l0 2) ≤ (a l0 4) → E G MX12_work (d + 1) C S 101 [.ref l0, .null] [] (a, r, N) (RI P)) ∧ (¬ (a l0 2) ≤ (a l0 4) → (tyK l0 = (0, 11) ∧ l0 < N ∧ Sp G d 0 0 MX12_readsStep [.ref l0] (a, r, N) (RN fun a1 r2 n3 => (tyK l0 = (0, 11) ∧ l0 < n3 ∧ Sp G d 0 0 MX12_blanks [.ref l0] (a1, r2, n3) (RN fun a4 r5 n6 => E G MX12_work (d + 1) C S 72 [.ref l0, .null] [] (a4, r5, n6) (RI P))))))))))))) : E G MX12_work (d + 1) C S 72 [.ref l0, .null] [] (a, r, N) (RI P) := T_X12_work_72 _ _ _ hs
set_option maxRecDepth 100000 in
theorem T_X12_work_101 {G : GE} {d C S : Nat} {P : KI} : Snd G MX12_work (d + 1) C S 101 (RI P) (s_aload 0 (s_getI 11 5 (s_if_eq (s_aload 0 (s_iconst (-1) (s_putI 11 3 (s_aload 0 (s_getR 11 33 (s_aload 0 (s_getR 11 35 (s_aload 0 (s_getI 11 39 (s_aaload (s_call G d MX12_copies 2 (s_aload 0 (s_dup (s_getI 11 39 (s_iconst 1 (s_iadd (s_putI 11 39 (s_aload 0 (s_iconst 0 (s_putI 11 43 (s_aload 0 (s_iconst 0 (s_putI 11 44 (s_aload 0 (s_iconst 0 (s_putI 11 40 (s_aload 0 (s_iconst 0 (s_aload 0 (s_getI 11 32 (s_callV G d MX12_goes 2 11 (s_aload 0 (s_getI 11 44 (s_ireturn P)))))))))))))))))))))))))))))))))) (s_aload 0 (s_callV G d MX12_ends 0 11 (s_ireturn P)))))) := (e_aload_n dX12_work_101 rfl (e_getI rfl cl_11 (by decide) rfl q_1569 dX12_work_102 (e_if_eq (tgt := 113) dX12_work_105 (by decide) (e_aload_n dX12_work_113 rfl (e_iconst (v := (-1)) dX12_work_114 (by decide) (e_putI rfl cl_11 (by decide) rfl rfl rfl q_1567 dX12_work_115 (e_aload_n dX12_work_118 rfl (e_getR rfl cl_11 (by decide) rfl q_1597 dX12_work_119 (e_aload_n dX12_work_122 rfl (e_getR rfl cl_11 (by decide) rfl q_1599 dX12_work_123 (e_aload_n dX12_work_126 rfl (e_getI rfl cl_11 (by decide) rfl q_1603 dX12_work_127 (e_aaload dX12_work_130 (e_callS cal_X12_copies q_1867 q_1868 dX12_work_131 (e_aload_n dX12_work_134 rfl (e_dup dX12_work_135 (e_getI rfl cl_11 (by decide) rfl q_1603 dX12_work_136 (e_iconst (v := 1) dX12_work_139 (by decide) (e_iadd dX12_work_140 (e_putI rfl cl_11 (by decide) rfl rfl rfl q_1603 dX12_work_141 (e_aload_n dX12_work_144 rfl (e_iconst (v := 0) dX12_work_145 (by decide) (e_putI rfl cl_11 (by decide) rfl rfl rfl q_1607 dX12_work_146 (e_aload_n dX12_work_149 rfl (e_iconst (v := 0) dX12_work_150 (by decide) (e_putI rfl cl_11 (by decide) rfl rfl rfl q_1608 dX12_work_151 (e_aload_n dX12_work_154 rfl (e_iconst (v := 0) dX12_work_155 (by decide) (e_putI rfl cl_11 (by decide) rfl rfl rfl q_1604 dX12_work_156 (e_aload_n dX12_work_159 rfl (e_iconst (v := 0) dX12_work_160 (by decide) (e_aload_n dX12_work_161 rfl (e_getI rfl cl_11 (by decide) rfl q_1596 dX12_work_162 (e_callV cl_11 cal_X12_goes q_1870 q_1872 q_77 dX12_work_165 (e_aload_n dX12_work_168 rfl (e_getI rfl cl_11 (by decide) rfl q_1608 dX12_work_169 (e_ireturn rfl dX12_work_172)))))))))))))))))))))))))))))))))) (e_aload_n dX12_work_108 rfl (e_callV cl_11 cal_X12_ends q_1807 q_1809 q_66 dX12_work_109 (e_ireturn rfl dX12_work_112))))))
set_option maxRecDepth 100000 in
theorem V_X12_work_101 {G : GE} {d C S : Nat} {P : KI} {a : Nat → Nat → Int32} {r : Nat → Nat → Value} {N : Nat} {l0 : Nat} (hs : (tyK l0 = (0, 11) ∧ l0 < N ∧ (((a l0 5) = 0 → (tyK l0 = (0, 11) ∧ l0 < N ∧ ∀ a1, a1 = u2 a l0 3 (-1) → (tyK l0 = (0, 11) ∧ l0 < N ∧ ∃ q2, r l0 33 = .ref q2 ∧ (tyK l0 = (0, 11) ∧ l0 < N ∧ ∃ q3, r l0 35 = .ref q3 ∧ (tyK l0 = (0, 11) ∧ l0 < N ∧ ((tyK q3).1 = 3 ∧ q3 < N ∧ vp_in (a1 l0 39) (tyK q3).2 ∧ Sp G d 0 0 MX12_copies [.ref q2, .ref (q3 + 1 + ((a1 l0 39) : Int32).toNatClampNeg)] (a1, r, N) (RN fun a4 r5 n6 => (tyK l0 = (0, 11) ∧ l0 < n6 ∧ (tyK l0 = (0, 11) ∧ l0 < n6 ∧ ∀ a7, a7 = u2 a4 l0 39 ((a4 l0 39) + 1) → (tyK l0 = (0, 11) ∧ l0 < n6 ∧ ∀ a8, a8 = u2 a7 l0 43 0 → (tyK l0 = (0, 11) ∧ l0 < n6 ∧ ∀ a9, a9 = u2 a8 l0 44 0 → (tyK l0 = (0, 11) ∧ l0 < n6 ∧ ∀ a10, a10 = u2 a9 l0 40 0 → (tyK l0 = (0, 11) ∧ l0 < n6 ∧ (tyK l0 = (0, 11) ∧ l0 < n6 ∧ Sp G d 0 0 MX12_goes [.ref l0, .int 0, .int (a10 l0 32)] (a10, r5, n6) (RN fun a11 r12 n13 => (tyK l0 = (0, 11) ∧ l0 < n13 ∧ P (a11 l0 44) a11 r12 n13)))))))))))))))) ∧ (¬ (a l0 5) = 0 → (tyK l0 = (0, 11) ∧ l0 < N ∧ Sp G d 0 0 MX12_ends [.ref l0] (a, r, N) (RI fun v17 a14 r15 n16 => P v17 a14 r15 n16)))))) : E G MX12_work (d + 1) C S 101 [.ref l0, .null] [] (a, r, N) (RI P) := T_X12_work_101 _ _ _ hs
theorem dX12_undo_0 : decode cX12_undo 0 = .ok (.aload_n 0, 1) := by decide +kernel
theorem dX12_undo_1 : decode cX12_undo 1 = .ok (.iconst 0, 1) := by decide +kernel
theorem dX12_undo_2 : decode cX12_undo 2 = .ok (.putfield 115, 3) := by decide +kernel
theorem dX12_undo_5 : decode cX12_undo 5 = .ok (.aload_n 0, 1) := by decide +kernel
theorem dX12_undo_6 : decode cX12_undo 6 = .ok (.getfield 221, 3) := by decide +kernel
theorem dX12_undo_9 : decode cX12_undo 9 = .ok (.ifCond .ne 5, 3) := by decide +kernel
theorem dX12_undo_12 : decode cX12_undo 12 = .ok (.iconst (-1), 1) := by decide +kernel
theorem dX12_undo_13 : decode cX12_undo 13 = .ok (.ireturn, 1) := by decide +kernel
theorem dX12_undo_14 : decode cX12_undo 14 = .ok (.aload_n 0, 1) := by decide +kernel
theorem dX12_undo_15 : decode cX12_undo 15 = .ok (.dup, 1) := by decide +kernel
theorem dX12_undo_16 : decode cX12_undo 16 = .ok (.getfield 221, 3) := by decide +kernel
theorem dX12_undo_19 : decode cX12_undo 19 = .ok (.iconst 1, 1) := by decide +kernel
theorem dX12_undo_20 : decode cX12_undo 20 = .ok (.isub, 1) := by decide +kernel
theorem dX12_undo_21 : decode cX12_undo 21 = .ok (.putfield 221, 3) := by decide +kernel
theorem dX12_undo_24 : decode cX12_undo 24 = .ok (.aload_n 0, 1) := by decide +kernel
theorem dX12_undo_25 : decode cX12_undo 25 = .ok (.getfield 85, 3) := by decide +kernel
theorem dX12_undo_28 : decode cX12_undo 28 = .ok (.aload_n 0, 1) := by decide +kernel
theorem dX12_undo_29 : decode cX12_undo 29 = .ok (.getfield 221, 3) := by decide +kernel
theorem dX12_undo_32 : decode cX12_undo 32 = .ok (.aaload, 1) := by decide +kernel
theorem dX12_undo_33 : decode cX12_undo 33 = .ok (.aload_n 0, 1) := by decide +kernel
theorem dX12_undo_34 : decode cX12_undo 34 = .ok (.getfield 79, 3) := by decide +kernel
theorem dX12_undo_37 : decode cX12_undo 37 = .ok (.invokestatic 329, 3) := by decide +kernel
theorem dX12_undo_40 : decode cX12_undo 40 = .ok (.aload_n 0, 1) := by decide +kernel
theorem dX12_undo_41 : decode cX12_undo 41 = .ok (.iconst 0, 1) := by decide +kernel
theorem dX12_undo_42 : decode cX12_undo 42 = .ok (.putfield 224, 3) := by decide +kernel
theorem dX12_undo_45 : decode cX12_undo 45 = .ok (.aload_n 0, 1) := by decide +kernel
theorem dX12_undo_46 : decode cX12_undo 46 = .ok (.getfield 221, 3) := by decide +kernel
theorem dX12_undo_49 : decode cX12_undo 49 = .ok (.ireturn, 1) := by decide +kernel
set_option maxRecDepth 100000 in
theorem T_X12_undo_0 {G : GE} {d C S : Nat} {P : KI} : Snd G MX12_undo (d + 1) C S 0 (RI P) (s_aload 0 (s_iconst 0 (s_putI 11 0 (s_aload 0 (s_getI 11 39 (s_if_ne (s_aload 0 (s_dup (s_getI 11 39 (s_iconst 1 (s_isub (s_putI 11 39 (s_aload 0 (s_getR 11 35 (s_aload 0 (s_getI 11 39 (s_aaload (s_aload 0 (s_getR 11 33 (s_call G d MX12_copies 2 (s_aload 0 (s_iconst 0 (s_putI 11 40 (s_aload 0 (s_getI 11 39 (s_ireturn P)))))))))))))))))))) (s_iconst (-1) (s_ireturn P)))))))) := (e_aload_n dX12_undo_0 rfl (e_iconst (v := 0) dX12_undo_1 (by decide) (e_putI rfl cl_11 (by decide) rfl rfl rfl q_1564 dX12_undo_2 (e_aload_n dX12_undo_5 rfl (e_getI rfl cl_11 (by decide) rfl q_1603 dX12_undo_6 (e_if_ne (tgt := 14) dX12_undo_9 (by decide) (e_aload_n dX12_undo_14 rfl (e_dup dX12_undo_15 (e_getI rfl cl_11 (by decide) rfl q_1603 dX12_undo_16 (e_iconst (v := 1) dX12_undo_19 (by decide) (e_isub dX12_undo_20 (e_putI rfl cl_11 (by decide) rfl rfl rfl q_1603 dX12_undo_21 (e_aload_n dX12_undo_24 rfl (e_getR rfl cl_11 (by decide) rfl q_1599 dX12_undo_25 (e_aload_n dX12_undo_28 rfl (e_getI rfl cl_11 (by decide) rfl q_1603 dX12_undo_29 (e_aaload dX12_undo_32 (e_aload_n dX12_undo_33 rfl (e_getR rfl cl_11 (by decide) rfl q_1597 dX12_undo_34 (e_callS cal_X12_copies q_1867 q_1868 dX12_undo_37 (e_aload_n dX12_undo_40 rfl (e_iconst (v := 0) dX12_undo_41 (by decide) (e_putI rfl cl_11 (by decide) rfl rfl rfl q_1604 dX12_undo_42 (e_aload_n dX12_undo_45 rfl (e_getI rfl cl_11 (by decide) rfl q_1603 dX12_undo_46 (e_ireturn rfl dX12_undo_49)))))))))))))))))))) (e_iconst (v := (-1)) dX12_undo_12 (by decide) (e_ireturn rfl dX12_undo_13))))))))
set_option maxRecDepth 100000 in
theorem V_X12_undo_0 {G : GE} {d : Nat} {P : KI} {a : Nat → Nat → Int32} {r : Nat → Nat → Value} {N : Nat} {l0 : Nat} (hs : (tyK l0 = (0, 11) ∧ l0 < N ∧ ∀ a1, a1 = u2 a l0 0 0 → (tyK l0 = (0, 11) ∧ l0 < N ∧ ((¬ (a1 l0 39) = 0 → (tyK l0 = (0, 11) ∧ l0 < N ∧ (tyK l0 = (0, 11) ∧ l0 < N ∧ ∀ a2, a2 = u2 a1 l0 39 ((a1 l0 39) - 1) → (tyK l0 = (0, 11) ∧ l0 < N ∧ ∃ q3, r l0 35 = .ref q3 ∧ (tyK l0 = (0, 11) ∧ l0 < N ∧ ((tyK q3).1 = 3 ∧ q3 < N ∧ vp_in (a2 l0 39) (tyK q3).2 ∧ (tyK l0 = (0, 11) ∧ l0 < N ∧ ∃ q4, r l0 33 = .ref q4 ∧ Sp G d 0 0 MX12_copies [.ref (q3 + 1 + ((a2 l0 39) : Int32).toNatClampNeg), .ref q4] (a2, r, N) (RN fun a5 r6 n7 => (tyK l0 = (0, 11) ∧ l0 < n7 ∧ ∀ a8, a8 = u2 a5 l0 40 0 → (tyK l0 = (0, 11) ∧ l0 < n7 ∧ P (a8 l0 39) a8 r6 n7)))))))))) ∧ ((a1 l0 39) = 0 → P (-1) a1 r N))))) : Sp G (d + 1) 0 0 MX12_undo [.ref l0] (a, r, N) (RI P) := Sp.mk (mc := 0) (ms := 0) [.ref l0] rfl rfl rfl rfl (T_X12_undo_0 (C := 0) (S := 0) _ _ _ hs)
theorem dX12_couplesIn_0 : decode cX12_couplesIn 0 = .ok (.iconst 0, 1) := by decide +kernel
theorem dX12_couplesIn_1 : decode cX12_couplesIn 1 = .ok (.istore_n 2, 1) := by decide +kernel
theorem dX12_couplesIn_2 : decode cX12_couplesIn 2 = .ok (.iconst 0, 1) := by decide +kernel
theorem dX12_couplesIn_3 : decode cX12_couplesIn 3 = .ok (.istore_n 3, 1) := by decide +kernel
theorem dX12_couplesIn_4 : decode cX12_couplesIn 4 = .ok (.iload_n 3, 1) := by decide +kernel
theorem dX12_couplesIn_5 : decode cX12_couplesIn 5 = .ok (.aload_n 0, 1) := by decide +kernel
theorem dX12_couplesIn_6 : decode cX12_couplesIn 6 = .ok (.getfield 23, 3) := by decide +kernel
theorem dX12_couplesIn_9 : decode cX12_couplesIn 9 = .ok (.iconst 1, 1) := by decide +kernel
theorem dX12_couplesIn_10 : decode cX12_couplesIn 10 = .ok (.iaload, 1) := by decide +kernel
theorem dX12_couplesIn_11 : decode cX12_couplesIn 11 = .ok (.if_icmp .ge 26, 3) := by decide +kernel
theorem dX12_couplesIn_14 : decode cX12_couplesIn 14 = .ok (.iload_n 2, 1) := by decide +kernel
theorem dX12_couplesIn_15 : decode cX12_couplesIn 15 = .ok (.aload_n 1, 1) := by decide +kernel
theorem dX12_couplesIn_16 : decode cX12_couplesIn 16 = .ok (.iload_n 3, 1) := by decide +kernel
theorem dX12_couplesIn_17 : decode cX12_couplesIn 17 = .ok (.invokestatic 289, 3) := by decide +kernel
theorem dX12_couplesIn_20 : decode cX12_couplesIn 20 = .ok (.iload_n 3, 1) := by decide +kernel
theorem dX12_couplesIn_21 : decode cX12_couplesIn 21 = .ok (.if_icmp .le 7, 3) := by decide +kernel
theorem dX12_couplesIn_24 : decode cX12_couplesIn 24 = .ok (.iconst 1, 1) := by decide +kernel
theorem dX12_couplesIn_25 : decode cX12_couplesIn 25 = .ok (.goto 4, 3) := by decide +kernel
theorem dX12_couplesIn_28 : decode cX12_couplesIn 28 = .ok (.iconst 0, 1) := by decide +kernel
theorem dX12_couplesIn_29 : decode cX12_couplesIn 29 = .ok (.iadd, 1) := by decide +kernel
theorem dX12_couplesIn_30 : decode cX12_couplesIn 30 = .ok (.istore_n 2, 1) := by decide +kernel
theorem dX12_couplesIn_31 : decode cX12_couplesIn 31 = .ok (.iinc 3 1, 3) := by decide +kernel
theorem dX12_couplesIn_34 : decode cX12_couplesIn 34 = .ok (.goto (-30), 3) := by decide +kernel
theorem dX12_couplesIn_37 : decode cX12_couplesIn 37 = .ok (.iload_n 2, 1) := by decide +kernel
theorem dX12_couplesIn_38 : decode cX12_couplesIn 38 = .ok (.ireturn, 1) := by decide +kernel
set_option maxRecDepth 100000 in
theorem T_X12_couplesIn_0 {G : GE} {d C S : Nat} {P : KI} : Snd G MX12_couplesIn (d + 1) C S 0 (RI P) (s_iconst 0 (s_istore 2 (s_iconst 0 (s_istore 3 (fun L st h => E G MX12_couplesIn (d + 1) C S 4 (msk [true, true, true, true] L) st h (RI P)))))) := (e_iconst (v := 0) dX12_couplesIn_0 (by decide) (e_istore_n dX12_couplesIn_1 rfl (by decide) (e_iconst (v := 0) dX12_couplesIn_2 (by decide) (e_istore_n dX12_couplesIn_3 rfl (by decide) (e_msk [true, true, true, true])))))
set_option maxRecDepth 100000 in
theorem V_X12_couplesIn_0 {G : GE} {d : Nat} {P : KI} {a : Nat → Nat → Int32} {r : Nat → Nat → Value} {N : Nat} {l0 : Nat} {l1 : Nat} (hs : E G MX12_couplesIn (d + 1) 0 0 4 [.ref l0, .ref l1, .int 0, .int 0] [] (a, r, N) (RI P)) : Sp G (d + 1) 0 0 MX12_couplesIn [.ref l0, .ref l1] (a, r, N) (RI P) := Sp.mk (mc := 0) (ms := 0) [.ref l0, .ref l1, .null, .null] rfl rfl rfl rfl (T_X12_couplesIn_0 (C := 0) (S := 0) _ _ _ hs)
set_option maxRecDepth 100000 in
theorem T_X12_couplesIn_4 {G : GE} {d C S : Nat} {P : KI} : Snd G MX12_couplesIn (d + 1) C S 4 (RI P) (s_iload 3 (s_aload 0 (s_getR 11 12 (s_iconst 1 (s_iaload (s_ic_ge (s_iload 2 (s_ireturn P)) (s_iload 2 (s_aload 1 (s_iload 3 (s_call G d MX12_mateOf 2 (s_iload 3 (s_ic_le (s_iconst 0 (s_iadd (s_istore 2 (s_iinc 3 1 (fun L st h => E G MX12_couplesIn (d + 1) C S 4 (msk [true, true, true, true] L) st h (RI P)))))) (s_iconst 1 (s_iadd (s_istore 2 (s_iinc 3 1 (fun L st h => E G MX12_couplesIn (d + 1) C S 4 (msk [true, true, true, true] L) st h (RI P)))))))))))))))))) := (e_iload_n dX12_couplesIn_4 rfl (e_aload_n dX12_couplesIn_5 rfl (e_getR rfl cl_11 (by decide) rfl q_1576 dX12_couplesIn_6 (e_iconst (v := 1) dX12_couplesIn_9 (by decide) (e_iaload dX12_couplesIn_10 (e_ic_ge (tgt := 37) dX12_couplesIn_11 (by decide) (e_iload_n dX12_couplesIn_37 rfl (e_ireturn rfl dX12_couplesIn_38)) (e_iload_n dX12_couplesIn_14 rfl (e_aload_n dX12_couplesIn_15 rfl (e_iload_n dX12_couplesIn_16 rfl (e_callS cal_X12_mateOf q_1878 q_1879 dX12_couplesIn_17 (e_iload_n dX12_couplesIn_20 rfl (e_ic_le (tgt := 28) dX12_couplesIn_21 (by decide) (e_iconst (v := 0) dX12_couplesIn_28 (by decide) (e_iadd dX12_couplesIn_29 (e_istore_n dX12_couplesIn_30 rfl (by decide) (e_iinc (v := 1) dX12_couplesIn_31 (by decide) (by decide) (e_goto (tgt := 4) dX12_couplesIn_34 (by decide) (e_msk [true, true, true, true])))))) (e_iconst (v := 1) dX12_couplesIn_24 (by decide) (e_goto (tgt := 29) dX12_couplesIn_25 (by decide) (e_iadd dX12_couplesIn_29 (e_istore_n dX12_couplesIn_30 rfl (by decide) (e_iinc (v := 1) dX12_couplesIn_31 (by decide) (by decide) (e_goto (tgt := 4) dX12_couplesIn_34 (by decide) (e_msk [true, true, true, true])))))))))))))))))))
set_option maxRecDepth 100000 in
theorem V_X12_couplesIn_4 {G : GE} {d C S : Nat} {P : KI} {a : Nat → Nat → Int32} {r : Nat → Nat → Value} {N : Nat} {l0 : Nat} {l1 : Nat} {l2 : Int32} {l3 : Int32} (hs : (tyK l0 = (0, 11) ∧ l0 < N ∧ ∃ q1, r l0 12 = .ref q1 ∧ ((tyK q1).1 = 1 ∧ q1 < N ∧ vp_in 1 (tyK q1).2 ∧ (((a q1 (1 : Int32).toNatClampNeg) ≤ l3 → P l2 a r N) ∧ (¬ (a q1 (1 : Int32).toNatClampNeg) ≤ l3 → Sp G d 0 0 MX12_mateOf [.ref l1, .int l3] (a, r, N) (RI fun v5 a2 r3 n4 => ((v5 ≤ l3 → E G MX12_couplesIn (d + 1) C S 4 [.ref l0, .ref l1, .int (l2 + 0), .int (l3 + 1)] [] (a2, r3, n4) (RI P)) ∧ (¬ v5 ≤ l3 → E G MX12_couplesIn (d + 1) C S 4 [.ref l0, .ref l1, .int (l2 + 1), .int (l3 + 1)] [] (a2, r3, n4) (RI P))))))))) : E G MX12_couplesIn (d + 1) C S 4 [.ref l0, .ref l1, .int l2, .int l3] [] (a, r, N) (RI P) := T_X12_couplesIn_4 _ _ _ hs
theorem dX12_sumOf_0 : decode cX12_sumOf 0 = .ok (.iconst 0, 1) := by decide +kernel
theorem dX12_sumOf_1 : decode cX12_sumOf 1 = .ok (.istore_n 3, 1) := by decide +kernel
theorem dX12_sumOf_2 : decode cX12_sumOf 2 = .ok (.iconst 0, 1) := by decide +kernel
theorem dX12_sumOf_3 : decode cX12_sumOf 3 = .ok (.istore 4, 2) := by decide +kernel
theorem dX12_sumOf_5 : decode cX12_sumOf 5 = .ok (.iload 4, 2) := by decide +kernel
theorem dX12_sumOf_7 : decode cX12_sumOf 7 = .ok (.aload_n 0, 1) := by decide +kernel
theorem dX12_sumOf_8 : decode cX12_sumOf 8 = .ok (.getfield 23, 3) := by decide +kernel
theorem dX12_sumOf_11 : decode cX12_sumOf 11 = .ok (.iconst 1, 1) := by decide +kernel
theorem dX12_sumOf_12 : decode cX12_sumOf 12 = .ok (.iaload, 1) := by decide +kernel
theorem dX12_sumOf_13 : decode cX12_sumOf 13 = .ok (.if_icmp .ge 18, 3) := by decide +kernel
theorem dX12_sumOf_16 : decode cX12_sumOf 16 = .ok (.iload_n 3, 1) := by decide +kernel
theorem dX12_sumOf_17 : decode cX12_sumOf 17 = .ok (.aload_n 1, 1) := by decide +kernel
theorem dX12_sumOf_18 : decode cX12_sumOf 18 = .ok (.iload_n 2, 1) := by decide +kernel
theorem dX12_sumOf_19 : decode cX12_sumOf 19 = .ok (.iload 4, 2) := by decide +kernel
theorem dX12_sumOf_21 : decode cX12_sumOf 21 = .ok (.iadd, 1) := by decide +kernel
theorem dX12_sumOf_22 : decode cX12_sumOf 22 = .ok (.iaload, 1) := by decide +kernel
theorem dX12_sumOf_23 : decode cX12_sumOf 23 = .ok (.iadd, 1) := by decide +kernel
theorem dX12_sumOf_24 : decode cX12_sumOf 24 = .ok (.istore_n 3, 1) := by decide +kernel
theorem dX12_sumOf_25 : decode cX12_sumOf 25 = .ok (.iinc 4 1, 3) := by decide +kernel
theorem dX12_sumOf_28 : decode cX12_sumOf 28 = .ok (.goto (-23), 3) := by decide +kernel
theorem dX12_sumOf_31 : decode cX12_sumOf 31 = .ok (.iload_n 3, 1) := by decide +kernel
theorem dX12_sumOf_32 : decode cX12_sumOf 32 = .ok (.ireturn, 1) := by decide +kernel
set_option maxRecDepth 100000 in
theorem T_X12_sumOf_0 {G : GE} {d C S : Nat} {P : KI} : Snd G MX12_sumOf d C S 0 (RI P) (s_iconst 0 (s_istore 3 (s_iconst 0 (s_istore 4 (fun L st h => E G MX12_sumOf d C S 5 (msk [true, true, true, true, true] L) st h (RI P)))))) := (e_iconst (v := 0) dX12_sumOf_0 (by decide) (e_istore_n dX12_sumOf_1 rfl (by decide) (e_iconst (v := 0) dX12_sumOf_2 (by decide) (e_istore dX12_sumOf_3 (by decide) (e_msk [true, true, true, true, true])))))
set_option maxRecDepth 100000 in
theorem V_X12_sumOf_0 {G : GE} {d : Nat} {P : KI} {a : Nat → Nat → Int32} {r : Nat → Nat → Value} {N : Nat} {l0 : Nat} {l1 : Nat} {l2 : Int32} (hs : E G MX12_sumOf d 0 0 5 [.ref l0, .ref l1, .int l2, .int 0, .int 0] [] (a, r, N) (RI P)) : Sp G d 0 0 MX12_sumOf [.ref l0, .ref l1, .int l2] (a, r, N) (RI P) := Sp.mk (mc := 0) (ms := 0) [.ref l0, .ref l1, .int l2, .null, .null] rfl rfl rfl rfl (T_X12_sumOf_0 (C := 0) (S := 0) _ _ _ hs)
set_option maxRecDepth 100000 in
theorem T_X12_sumOf_5 {G : GE} {d C S : Nat} {P : KI} : Snd G MX12_sumOf d C S 5 (RI P) (s_iload 4 (s_aload 0 (s_getR 11 12 (s_iconst 1 (s_iaload (s_ic_ge (s_iload 3 (s_ireturn P)) (s_iload 3 (s_aload 1 (s_iload 2 (s_iload 4 (s_iadd (s_iaload (s_iadd (s_istore 3 (s_iinc 4 1 (fun L st h => E G MX12_sumOf d C S 5 (msk [true, true, true, true, true] L) st h (RI P))))))))))))))))) := (e_iload dX12_sumOf_5 (e_aload_n dX12_sumOf_7 rfl (e_getR rfl cl_11 (by decide) rfl q_1576 dX12_sumOf_8 (e_iconst (v := 1) dX12_sumOf_11 (by decide) (e_iaload dX12_sumOf_12 (e_ic_ge (tgt := 31) dX12_sumOf_13 (by decide) (e_iload_n dX12_sumOf_31 rfl (e_ireturn rfl dX12_sumOf_32)) (e_iload_n dX12_sumOf_16 rfl (e_aload_n dX12_sumOf_17 rfl (e_iload_n dX12_sumOf_18 rfl (e_iload dX12_sumOf_19 (e_iadd dX12_sumOf_21 (e_iaload dX12_sumOf_22 (e_iadd dX12_sumOf_23 (e_istore_n dX12_sumOf_24 rfl (by decide) (e_iinc (v := 1) dX12_sumOf_25 (by decide) (by decide) (e_goto (tgt := 5) dX12_sumOf_28 (by decide) (e_msk [true, true, true, true, true])))))))))))))))))
set_option maxRecDepth 100000 in
theorem V_X12_sumOf_5 {G : GE} {d C S : Nat} {P : KI} {a : Nat → Nat → Int32} {r : Nat → Nat → Value} {N : Nat} {l0 : Nat} {l1 : Nat} {l2 : Int32} {l3 : Int32} {l4 : Int32} (hs : (tyK l0 = (0, 11) ∧ l0 < N ∧ ∃ q1, r l0 12 = .ref q1 ∧ ((tyK q1).1 = 1 ∧ q1 < N ∧ vp_in 1 (tyK q1).2 ∧ (((a q1 (1 : Int32).toNatClampNeg) ≤ l4 → P l3 a r N) ∧ (¬ (a q1 (1 : Int32).toNatClampNeg) ≤ l4 → ((tyK l1).1 = 1 ∧ l1 < N ∧ vp_in (l2 + l4) (tyK l1).2 ∧ E G MX12_sumOf d C S 5 [.ref l0, .ref l1, .int l2, .int (l3 + (a l1 ((l2 + l4) : Int32).toNatClampNeg)), .int (l4 + 1)] [] (a, r, N) (RI P))))))) : E G MX12_sumOf d C S 5 [.ref l0, .ref l1, .int l2, .int l3, .int l4] [] (a, r, N) (RI P) := T_X12_sumOf_5 _ _ _ hs
theorem dX12_told_0 : decode cX12_told 0 = .ok (.aload_n 0, 1) := by decide +kernel
theorem dX12_told_1 : decode cX12_told 1 = .ok (.iconst 0, 1) := by decide +kernel
theorem dX12_told_2 : decode cX12_told 2 = .ok (.putfield 115, 3) := by decide +kernel
theorem dX12_told_5 : decode cX12_told 5 = .ok (.aload_n 0, 1) := by decide +kernel
theorem dX12_told_6 : decode cX12_told 6 = .ok (.iload_n 1, 1) := by decide +kernel
theorem dX12_told_7 : decode cX12_told 7 = .ok (.iconst 0, 1) := by decide +kernel
theorem dX12_told_8 : decode cX12_told 8 = .ok (.bipush 9, 2) := by decide +kernel
theorem dX12_told_10 : decode cX12_told 10 = .ok (.invokestatic 149, 3) := by decide +kernel
theorem dX12_told_13 : decode cX12_told 13 = .ok (.ifCond .ne 7, 3) := by decide +kernel
theorem dX12_told_16 : decode cX12_told 16 = .ok (.iconst 1, 1) := by decide +kernel
theorem dX12_told_17 : decode cX12_told 17 = .ok (.goto 4, 3) := by decide +kernel
theorem dX12_told_20 : decode cX12_told 20 = .ok (.iconst 0, 1) := by decide +kernel
theorem dX12_told_21 : decode cX12_told 21 = .ok (.iconst 1, 1) := by decide +kernel
theorem dX12_told_22 : decode cX12_told 22 = .ok (.iconst 2, 1) := by decide +kernel
theorem dX12_told_23 : decode cX12_told 23 = .ok (.invokevirtual 198, 3) := by decide +kernel
theorem dX12_told_26 : decode cX12_told 26 = .ok (.ifCond .eq 5, 3) := by decide +kernel
theorem dX12_told_29 : decode cX12_told 29 = .ok (.iconst 0, 1) := by decide +kernel
theorem dX12_told_30 : decode cX12_told 30 = .ok (.ireturn, 1) := by decide +kernel
theorem dX12_told_31 : decode cX12_told 31 = .ok (.iload_n 1, 1) := by decide +kernel
theorem dX12_told_32 : decode cX12_told 32 = .ok (.tableswitch 108 0 8 #[52, 52, 52, 59, 67, 76, 87, 98, 103], 52) := by decide +kernel
theorem dX12_told_84 : decode cX12_told 84 = .ok (.aload_n 0, 1) := by decide +kernel
theorem dX12_told_85 : decode cX12_told 85 = .ok (.getfield 23, 3) := by decide +kernel
theorem dX12_told_88 : decode cX12_told 88 = .ok (.iload_n 1, 1) := by decide +kernel
theorem dX12_told_89 : decode cX12_told 89 = .ok (.iaload, 1) := by decide +kernel
theorem dX12_told_90 : decode cX12_told 90 = .ok (.ireturn, 1) := by decide +kernel
theorem dX12_told_91 : decode cX12_told 91 = .ok (.aload_n 0, 1) := by decide +kernel
theorem dX12_told_92 : decode cX12_told 92 = .ok (.getfield 79, 3) := by decide +kernel
theorem dX12_told_95 : decode cX12_told 95 = .ok (.bipush 40, 2) := by decide +kernel
theorem dX12_told_97 : decode cX12_told 97 = .ok (.iaload, 1) := by decide +kernel
theorem dX12_told_98 : decode cX12_told 98 = .ok (.ireturn, 1) := by decide +kernel
theorem dX12_told_99 : decode cX12_told 99 = .ok (.aload_n 0, 1) := by decide +kernel
theorem dX12_told_100 : decode cX12_told 100 = .ok (.aload_n 0, 1) := by decide +kernel
theorem dX12_told_101 : decode cX12_told 101 = .ok (.getfield 79, 3) := by decide +kernel
theorem dX12_told_104 : decode cX12_told 104 = .ok (.invokevirtual 333, 3) := by decide +kernel
theorem dX12_told_107 : decode cX12_told 107 = .ok (.ireturn, 1) := by decide +kernel
theorem dX12_told_108 : decode cX12_told 108 = .ok (.aload_n 0, 1) := by decide +kernel
theorem dX12_told_109 : decode cX12_told 109 = .ok (.aload_n 0, 1) := by decide +kernel
theorem dX12_told_110 : decode cX12_told 110 = .ok (.getfield 79, 3) := by decide +kernel
theorem dX12_told_113 : decode cX12_told 113 = .ok (.bipush 24, 2) := by decide +kernel
theorem dX12_told_115 : decode cX12_told 115 = .ok (.invokevirtual 337, 3) := by decide +kernel
theorem dX12_told_118 : decode cX12_told 118 = .ok (.ireturn, 1) := by decide +kernel
theorem dX12_told_119 : decode cX12_told 119 = .ok (.aload_n 0, 1) := by decide +kernel
theorem dX12_told_120 : decode cX12_told 120 = .ok (.aload_n 0, 1) := by decide +kernel
theorem dX12_told_121 : decode cX12_told 121 = .ok (.getfield 79, 3) := by decide +kernel
theorem dX12_told_124 : decode cX12_told 124 = .ok (.bipush 32, 2) := by decide +kernel
theorem dX12_told_126 : decode cX12_told 126 = .ok (.invokevirtual 337, 3) := by decide +kernel
theorem dX12_told_129 : decode cX12_told 129 = .ok (.ireturn, 1) := by decide +kernel
theorem dX12_told_130 : decode cX12_told 130 = .ok (.aload_n 0, 1) := by decide +kernel
theorem dX12_told_131 : decode cX12_told 131 = .ok (.getfield 218, 3) := by decide +kernel
theorem dX12_told_134 : decode cX12_told 134 = .ok (.ireturn, 1) := by decide +kernel
theorem dX12_told_135 : decode cX12_told 135 = .ok (.aload_n 0, 1) := by decide +kernel
theorem dX12_told_136 : decode cX12_told 136 = .ok (.getfield 224, 3) := by decide +kernel
theorem dX12_told_139 : decode cX12_told 139 = .ok (.ireturn, 1) := by decide +kernel
theorem dX12_told_140 : decode cX12_told 140 = .ok (.aload_n 0, 1) := by decide +kernel
theorem dX12_told_141 : decode cX12_told 141 = .ok (.getfield 79, 3) := by decide +kernel
theorem dX12_told_144 : decode cX12_told 144 = .ok (.bipush 41, 2) := by decide +kernel
theorem dX12_told_146 : decode cX12_told 146 = .ok (.iaload, 1) := by decide +kernel
theorem dX12_told_147 : decode cX12_told 147 = .ok (.ireturn, 1) := by decide +kernel
set_option maxRecDepth 100000 in
theorem T_X12_told_0 {G : GE} {d C S : Nat} {P : KI} : Snd G MX12_told (d + 1) C S 0 (RI P) (s_aload 0 (s_iconst 0 (s_putI 11 0 (s_aload 0 (s_iload 1 (s_iconst 0 (s_iconst 9 (s_call G d MX12_in 3 (s_if_ne (s_iconst 0 (fun L st h => E G MX12_told (d + 1) C S 21 (msk [true, true] L) st h (RI P))) (s_iconst 1 (fun L st h => E G MX12_told (d + 1) C S 21 (msk [true, true] L) st h (RI P)))))))))))) := (e_aload_n dX12_told_0 rfl (e_iconst (v := 0) dX12_told_1 (by decide) (e_putI rfl cl_11 (by decide) rfl rfl rfl q_1564 dX12_told_2 (e_aload_n dX12_told_5 rfl (e_iload_n dX12_told_6 rfl (e_iconst (v := 0) dX12_told_7 (by decide) (e_bipush (v := 9) dX12_told_8 (by decide) (e_callS cal_X12_in q_1739 q_1740 dX12_told_10 (e_if_ne (tgt := 20) dX12_told_13 (by decide) (e_iconst (v := 0) dX12_told_20 (by decide) (e_msk [true, true])) (e_iconst (v := 1) dX12_told_16 (by decide) (e_goto (tgt := 21) dX12_told_17 (by decide) (e_msk [true, true]))))))))))))
set_option maxRecDepth 100000 in
theorem V_X12_told_0 {G : GE} {d : Nat} {P : KI} {a : Nat → Nat → Int32} {r : Nat → Nat → Value} {N : Nat} {l0 : Nat} {l1 : Int32} (hs : (tyK l0 = (0, 11) ∧ l0 < N ∧ ∀ a1, a1 = u2 a l0 0 0 → Sp G d 0 0 MX12_in [.int l1, .int 0, .int 9] (a1, r, N) (RI fun v5 a2 r3 n4 => ((¬ v5 = 0 → E G MX12_told (d + 1) 0 0 21 [.ref l0, .int l1] [.int 0, .ref l0] (a2, r3, n4) (RI P)) ∧ (v5 = 0 → E G MX12_told (d + 1) 0 0 21 [.ref l0, .int l1] [.int 1, .ref l0] (a2, r3, n4) (RI P)))))) : Sp G (d + 1) 0 0 MX12_told [.ref l0, .int l1] (a, r, N) (RI P) := Sp.mk (mc := 0) (ms := 0) [.ref l0, .int l1] rfl rfl rfl rfl (T_X12_told_0 (C := 0) (S := 0) _ _ _ hs)
set_option maxRecDepth 100000 in
theorem T_X12_told_21 {G : GE} {d C S : Nat} {P : KI} : Snd G MX12_told (d + 1) C S 21 (RI P) (s_iconst 1 (s_iconst 2 (s_callV G d MX12_bad 3 11 (s_if_eq (s_iload 1 (s_switch [(0, (s_aload 0 (s_getR 11 12 (s_iload 1 (s_iaload (s_ireturn P)))))), (1, (s_aload 0 (s_getR 11 12 (s_iload 1 (s_iaload (s_ireturn P)))))), (2, (s_aload 0 (s_getR 11 12 (s_iload 1 (s_iaload (s_ireturn P)))))), (3, (s_aload 0 (s_getR 11 33 (s_iconst 40 (s_iaload (s_ireturn P)))))), (4, (s_aload 0 (s_aload 0 (s_getR 11 33 (s_callV G d MX12_couplesIn 1 11 (s_ireturn P)))))), (5, (s_aload 0 (s_aload 0 (s_getR 11 33 (s_iconst 24 (s_callV G d MX12_sumOf 2 11 (s_ireturn P))))))), (6, (s_aload 0 (s_aload 0 (s_getR 11 33 (s_iconst 32 (s_callV G d MX12_sumOf 2 11 (s_ireturn P))))))), (7, (s_aload 0 (s_getI 11 38 (s_ireturn P)))), (8, (s_aload 0 (s_getI 11 40 (s_ireturn P))))] (s_aload 0 (s_getR 11 33 (s_iconst 41 (s_iaload (s_ireturn P))))))) (s_iconst 0 (s_ireturn P)))))) := (e_iconst (v := 1) dX12_told_21 (by decide) (e_iconst (v := 2) dX12_told_22 (by decide) (e_callV cl_11 cal_X12_bad q_1742 q_1744 q_53 dX12_told_23 (e_if_eq (tgt := 31) dX12_told_26 (by decide) (e_iload_n dX12_told_31 rfl (e_tsw (tg := [84, 84, 84, 91, 99, 108, 119, 130, 135]) (td := 140) [0, 1, 2, 3, 4, 5, 6, 7, 8] rfl dX12_told_32 (by decide) (by decide) (by decide +kernel) (by decide +kernel) (swc (t0 := 84) (e_aload_n dX12_told_84 rfl (e_getR rfl cl_11 (by decide) rfl q_1576 dX12_told_85 (e_iload_n dX12_told_88 rfl (e_iaload dX12_told_89 (e_ireturn rfl dX12_told_90))))) (swc (t0 := 84) (e_aload_n dX12_told_84 rfl (e_getR rfl cl_11 (by decide) rfl q_1576 dX12_told_85 (e_iload_n dX12_told_88 rfl (e_iaload dX12_told_89 (e_ireturn rfl dX12_told_90))))) (swc (t0 := 84) (e_aload_n dX12_told_84 rfl (e_getR rfl cl_11 (by decide) rfl q_1576 dX12_told_85 (e_iload_n dX12_told_88 rfl (e_iaload dX12_told_89 (e_ireturn rfl dX12_told_90))))) (swc (t0 := 91) (e_aload_n dX12_told_91 rfl (e_getR rfl cl_11 (by decide) rfl q_1597 dX12_told_92 (e_bipush (v := 40) dX12_told_95 (by decide) (e_iaload dX12_told_97 (e_ireturn rfl dX12_told_98))))) (swc (t0 := 99) (e_aload_n dX12_told_99 rfl (e_aload_n dX12_told_100 rfl (e_getR rfl cl_11 (by decide) rfl q_1597 dX12_told_101 (e_callV cl_11 cal_X12_couplesIn q_1933 q_1935 q_84 dX12_told_104 (e_ireturn rfl dX12_told_107))))) (swc (t0 := 108) (e_aload_n dX12_told_108 rfl (e_aload_n dX12_told_109 rfl (e_getR rfl cl_11 (by decide) rfl q_1597 dX12_told_110 (e_bipush (v := 24) dX12_told_113 (by decide) (e_callV cl_11 cal_X12_sumOf q_1937 q_1939 q_85 dX12_told_115 (e_ireturn rfl dX12_told_118)))))) (swc (t0 := 119) (e_aload_n dX12_told_119 rfl (e_aload_n dX12_told_120 rfl (e_getR rfl cl_11 (by decide) rfl q_1597 dX12_told_121 (e_bipush (v := 32) dX12_told_124 (by decide) (e_callV cl_11 cal_X12_sumOf q_1937 q_1939 q_85 dX12_told_126 (e_ireturn rfl dX12_told_129)))))) (swc (t0 := 130) (e_aload_n dX12_told_130 rfl (e_getI rfl cl_11 (by decide) rfl q_1602 dX12_told_131 (e_ireturn rfl dX12_told_134))) (swc (t0 := 135) (e_aload_n dX12_told_135 rfl (e_getI rfl cl_11 (by decide) rfl q_1604 dX12_told_136 (e_ireturn rfl dX12_told_139))) swn))))))))) (e_aload_n dX12_told_140 rfl (e_getR rfl cl_11 (by decide) rfl q_1597 dX12_told_141 (e_bipush (v := 41) dX12_told_144 (by decide) (e_iaload dX12_told_146 (e_ireturn rfl dX12_told_147))))))) (e_iconst (v := 0) dX12_told_29 (by decide) (e_ireturn rfl dX12_told_30))))))
set_option maxRecDepth 100000 in
theorem V_X12_told_21 {G : GE} {d C S : Nat} {P : KI} {a : Nat → Nat → Int32} {r : Nat → Nat → Value} {N : Nat} {l0 : Nat} {l1 : Int32} {s0 : Nat} {s1 : Int32} (hs : (tyK s0 = (0, 11) ∧ s0 < N ∧ Sp G d 0 0 MX12_bad [.ref s0, .int s1, .int 1, .int 2] (a, r, N) (RI fun v4 a1 r2 n3 => ((v4 = 0 → ((l1 = 0 → (tyK l0 = (0, 11) ∧ l0 < n3 ∧ ∃ q5, r2 l0 12 = .ref q5 ∧ ((tyK q5).1 = 1 ∧ q5 < n3 ∧ vp_in l1 (tyK q5).2 ∧ P (a1 q5 (l1 : Int32).toNatClampNeg) a1 r2 n3))) ∧ (¬ l1 = 0 → ((l1 = 1 → (tyK l0 = (0, 11) ∧ l0 < n3 ∧ ∃ q6, r2 l0 12 = .ref q6 ∧ ((tyK q6).1 = 1 ∧ q6 < n3 ∧ vp_in l1 (tyK q6).2 ∧ P (a1 q6 (l1 : Int32).toNatClampNeg) a1 r2 n3))) ∧ (¬ l1 = 1 → ((l1 = 2 → (tyK l0 = (0, 11) ∧ l0 < n3 ∧ ∃ q7, r2 l0 12 = .ref q7 ∧ ((tyK q7).1 = 1 ∧ q7 < n3 ∧ vp_in l1 (tyK q7).2 ∧ P (a1 q7 (l1 : Int32).toNatClampNeg) a1 r2 n3))) ∧ (¬ l1 = 2 → ((l1 = 3 → (tyK l0 = (0, 11) ∧ l0 < n3 ∧ ∃ q8, r2 l0 33 = .ref q8 ∧ ((tyK q8).1 = 1 ∧ q8 < n3 ∧ vp_in 40 (tyK q8).2 ∧ P (a1 q8 (40 : Int32).toNatClampNeg) a1 r2 n3))) ∧ (¬ l1 = 3 → ((l1 = 4 → (tyK l0 = (0, 11) ∧ l0 < n3 ∧ ∃ q9, r2 l0 33 = .ref q9 ∧ (tyK l0 = (0, 11) ∧ l0 < n3 ∧ Sp G d 0 0 MX12_couplesIn [.ref l0, .ref q9] (a1, r2, n3) (RI fun v13 a10 r11 n12 => P v13 a10 r11 n12)))) ∧ (¬ l1 = 4 → ((l1 = 5 → (tyK l0 = (0, 11) ∧ l0 < n3 ∧ ∃ q14, r2 l0 33 = .ref q14 ∧ (tyK l0 = (0, 11) ∧ l0 < n3 ∧ Sp G d 0 0 MX12_sumOf [.ref l0, .ref q14, .int 24] (a1, r2, n3) (RI fun v18 a15 r16 n17 => P v18 a15 r16 n17)))) ∧ (¬ l1 = 5 → ((l1 = 6 → (tyK l0 = (0, 11) ∧ l0 < n3 ∧ ∃ q19, r2 l0 33 = .ref q19 ∧ (tyK l0 = (0, 11) ∧ l0 < n3 ∧ Sp G d 0 0 MX12_sumOf [.ref l0, .ref q19, .int 32] (a1, r2, n3) (RI fun v23 a20 r21 n22 => P v23 a20 r21 n22)))) ∧ (¬ l1 = 6 → ((l1 = 7 → (tyK l0 = (0, 11) ∧ l0 < n3 ∧ P (a1 l0 38) a1 r2 n3)) ∧ (¬ l1 = 7 → ((l1 = 8 → (tyK l0 = (0, 11) ∧ l0 < n3 ∧ P (a1 l0 40) a1 r2 n3)) ∧ (¬ l1 = 8 → (tyK l0 = (0, 11) ∧ l0 < n3 ∧ ∃ q24, r2 l0 33 = .ref q24 ∧ ((tyK q24).1 = 1 ∧ q24 < n3 ∧ vp_in 41 (tyK q24).2 ∧ P (a1 q24 (41 : Int32).toNatClampNeg) a1 r2 n3))))))))))))))))))))) ∧ (¬ v4 = 0 → P 0 a1 r2 n3))))) : E G MX12_told (d + 1) C S 21 [.ref l0, .int l1] [.int s1, .ref s0] (a, r, N) (RI P) := T_X12_told_21 _ _ _ hs
theorem dX12_isStreet_0 : decode cX12_isStreet 0 = .ok (.iload_n 1, 1) := by decide +kernel
theorem dX12_isStreet_1 : decode cX12_isStreet 1 = .ok (.iconst 0, 1) := by decide +kernel
theorem dX12_isStreet_2 : decode cX12_isStreet 2 = .ok (.aload_n 0, 1) := by decide +kernel
theorem dX12_isStreet_3 : decode cX12_isStreet 3 = .ok (.getfield 23, 3) := by decide +kernel
theorem dX12_isStreet_6 : decode cX12_isStreet 6 = .ok (.iconst 1, 1) := by decide +kernel
theorem dX12_isStreet_7 : decode cX12_isStreet 7 = .ok (.iaload, 1) := by decide +kernel
theorem dX12_isStreet_8 : decode cX12_isStreet 8 = .ok (.iconst 1, 1) := by decide +kernel
theorem dX12_isStreet_9 : decode cX12_isStreet 9 = .ok (.isub, 1) := by decide +kernel
theorem dX12_isStreet_10 : decode cX12_isStreet 10 = .ok (.invokestatic 149, 3) := by decide +kernel
theorem dX12_isStreet_13 : decode cX12_isStreet 13 = .ok (.ireturn, 1) := by decide +kernel
set_option maxRecDepth 100000 in
theorem T_X12_isStreet_0 {G : GE} {d C S : Nat} {P : KI} : Snd G MX12_isStreet (d + 1) C S 0 (RI P) (s_iload 1 (s_iconst 0 (s_aload 0 (s_getR 11 12 (s_iconst 1 (s_iaload (s_iconst 1 (s_isub (s_call G d MX12_in 3 (s_zreturn P)))))))))) := (e_iload_n dX12_isStreet_0 rfl (e_iconst (v := 0) dX12_isStreet_1 (by decide) (e_aload_n dX12_isStreet_2 rfl (e_getR rfl cl_11 (by decide) rfl q_1576 dX12_isStreet_3 (e_iconst (v := 1) dX12_isStreet_6 (by decide) (e_iaload dX12_isStreet_7 (e_iconst (v := 1) dX12_isStreet_8 (by decide) (e_isub dX12_isStreet_9 (e_callS cal_X12_in q_1739 q_1740 dX12_isStreet_10 (e_zreturn rfl dX12_isStreet_13))))))))))
set_option maxRecDepth 100000 in
theorem V_X12_isStreet_0 {G : GE} {d : Nat} {P : KI} {a : Nat → Nat → Int32} {r : Nat → Nat → Value} {N : Nat} {l0 : Nat} {l1 : Int32} (hs : (tyK l0 = (0, 11) ∧ l0 < N ∧ ∃ q1, r l0 12 = .ref q1 ∧ ((tyK q1).1 = 1 ∧ q1 < N ∧ vp_in 1 (tyK q1).2 ∧ Sp G d 0 0 MX12_in [.int l1, .int 0, .int ((a q1 (1 : Int32).toNatClampNeg) - 1)] (a, r, N) (RI fun v5 a2 r3 n4 => (bz v5 ∧ P v5 a2 r3 n4))))) : Sp G (d + 1) 0 0 MX12_isStreet [.ref l0, .int l1] (a, r, N) (RI P) := Sp.mk (mc := 0) (ms := 0) [.ref l0, .int l1] rfl rfl rfl rfl (T_X12_isStreet_0 (C := 0) (S := 0) _ _ _ hs)
theorem dX12_isCorner_0 : decode cX12_isCorner 0 = .ok (.iload_n 1, 1) := by decide +kernel
theorem dX12_isCorner_1 : decode cX12_isCorner 1 = .ok (.iconst 0, 1) := by decide +kernel
theorem dX12_isCorner_2 : decode cX12_isCorner 2 = .ok (.aload_n 0, 1) := by decide +kernel
theorem dX12_isCorner_3 : decode cX12_isCorner 3 = .ok (.getfield 23, 3) := by decide +kernel
theorem dX12_isCorner_6 : decode cX12_isCorner 6 = .ok (.iconst 0, 1) := by decide +kernel
theorem dX12_isCorner_7 : decode cX12_isCorner 7 = .ok (.iaload, 1) := by decide +kernel
theorem dX12_isCorner_8 : decode cX12_isCorner 8 = .ok (.iconst 1, 1) := by decide +kernel
theorem dX12_isCorner_9 : decode cX12_isCorner 9 = .ok (.isub, 1) := by decide +kernel
theorem dX12_isCorner_10 : decode cX12_isCorner 10 = .ok (.invokestatic 149, 3) := by decide +kernel
theorem dX12_isCorner_13 : decode cX12_isCorner 13 = .ok (.ireturn, 1) := by decide +kernel
set_option maxRecDepth 100000 in
theorem T_X12_isCorner_0 {G : GE} {d C S : Nat} {P : KI} : Snd G MX12_isCorner (d + 1) C S 0 (RI P) (s_iload 1 (s_iconst 0 (s_aload 0 (s_getR 11 12 (s_iconst 0 (s_iaload (s_iconst 1 (s_isub (s_call G d MX12_in 3 (s_zreturn P)))))))))) := (e_iload_n dX12_isCorner_0 rfl (e_iconst (v := 0) dX12_isCorner_1 (by decide) (e_aload_n dX12_isCorner_2 rfl (e_getR rfl cl_11 (by decide) rfl q_1576 dX12_isCorner_3 (e_iconst (v := 0) dX12_isCorner_6 (by decide) (e_iaload dX12_isCorner_7 (e_iconst (v := 1) dX12_isCorner_8 (by decide) (e_isub dX12_isCorner_9 (e_callS cal_X12_in q_1739 q_1740 dX12_isCorner_10 (e_zreturn rfl dX12_isCorner_13))))))))))
set_option maxRecDepth 100000 in
theorem V_X12_isCorner_0 {G : GE} {d : Nat} {P : KI} {a : Nat → Nat → Int32} {r : Nat → Nat → Value} {N : Nat} {l0 : Nat} {l1 : Int32} (hs : (tyK l0 = (0, 11) ∧ l0 < N ∧ ∃ q1, r l0 12 = .ref q1 ∧ ((tyK q1).1 = 1 ∧ q1 < N ∧ vp_in 0 (tyK q1).2 ∧ Sp G d 0 0 MX12_in [.int l1, .int 0, .int ((a q1 (0 : Int32).toNatClampNeg) - 1)] (a, r, N) (RI fun v5 a2 r3 n4 => (bz v5 ∧ P v5 a2 r3 n4))))) : Sp G (d + 1) 0 0 MX12_isCorner [.ref l0, .int l1] (a, r, N) (RI P) := Sp.mk (mc := 0) (ms := 0) [.ref l0, .int l1] rfl rfl rfl rfl (T_X12_isCorner_0 (C := 0) (S := 0) _ _ _ hs)
theorem dX12_street_0 : decode cX12_street 0 = .ok (.aload_n 0, 1) := by decide +kernel
theorem dX12_street_1 : decode cX12_street 1 = .ok (.iconst 0, 1) := by decide +kernel
theorem dX12_street_2 : decode cX12_street 2 = .ok (.putfield 115, 3) := by decide +kernel
theorem dX12_street_5 : decode cX12_street 5 = .ok (.aload_n 0, 1) := by decide +kernel
theorem dX12_street_6 : decode cX12_street 6 = .ok (.aload_n 0, 1) := by decide +kernel
theorem dX12_street_7 : decode cX12_street 7 = .ok (.iload_n 1, 1) := by decide +kernel
theorem dX12_street_8 : decode cX12_street 8 = .ok (.invokevirtual 340, 3) := by decide +kernel
theorem dX12_street_11 : decode cX12_street 11 = .ok (.ifCond .ne 7, 3) := by decide +kernel
theorem dX12_street_14 : decode cX12_street 14 = .ok (.iconst 1, 1) := by decide +kernel
theorem dX12_street_15 : decode cX12_street 15 = .ok (.goto 4, 3) := by decide +kernel
theorem dX12_street_18 : decode cX12_street 18 = .ok (.iconst 0, 1) := by decide +kernel
theorem dX12_street_19 : decode cX12_street 19 = .ok (.iconst 1, 1) := by decide +kernel
theorem dX12_street_20 : decode cX12_street 20 = .ok (.iconst 1, 1) := by decide +kernel
theorem dX12_street_21 : decode cX12_street 21 = .ok (.invokevirtual 198, 3) := by decide +kernel
theorem dX12_street_24 : decode cX12_street 24 = .ok (.ifCond .ne 27, 3) := by decide +kernel
theorem dX12_street_27 : decode cX12_street 27 = .ok (.aload_n 0, 1) := by decide +kernel
theorem dX12_street_28 : decode cX12_street 28 = .ok (.iload_n 2, 1) := by decide +kernel
theorem dX12_street_29 : decode cX12_street 29 = .ok (.iconst 0, 1) := by decide +kernel
theorem dX12_street_30 : decode cX12_street 30 = .ok (.bipush 8, 2) := by decide +kernel
theorem dX12_street_32 : decode cX12_street 32 = .ok (.invokestatic 149, 3) := by decide +kernel
theorem dX12_street_35 : decode cX12_street 35 = .ok (.ifCond .ne 7, 3) := by decide +kernel
theorem dX12_street_38 : decode cX12_street 38 = .ok (.iconst 1, 1) := by decide +kernel
theorem dX12_street_39 : decode cX12_street 39 = .ok (.goto 4, 3) := by decide +kernel
theorem dX12_street_42 : decode cX12_street 42 = .ok (.iconst 0, 1) := by decide +kernel
theorem dX12_street_43 : decode cX12_street 43 = .ok (.iconst 2, 1) := by decide +kernel
theorem dX12_street_44 : decode cX12_street 44 = .ok (.iconst 2, 1) := by decide +kernel
theorem dX12_street_45 : decode cX12_street 45 = .ok (.invokevirtual 198, 3) := by decide +kernel
theorem dX12_street_48 : decode cX12_street 48 = .ok (.ifCond .eq 5, 3) := by decide +kernel
theorem dX12_street_51 : decode cX12_street 51 = .ok (.iconst 0, 1) := by decide +kernel
theorem dX12_street_52 : decode cX12_street 52 = .ok (.ireturn, 1) := by decide +kernel
theorem dX12_street_53 : decode cX12_street 53 = .ok (.iload_n 2, 1) := by decide +kernel
theorem dX12_street_54 : decode cX12_street 54 = .ok (.tableswitch 116 0 7 #[46, 46, 46, 55, 65, 71, 80, 106], 46) := by decide +kernel
theorem dX12_street_100 : decode cX12_street 100 = .ok (.aload_n 0, 1) := by decide +kernel
theorem dX12_street_101 : decode cX12_street 101 = .ok (.getfield 37, 3) := by decide +kernel
theorem dX12_street_104 : decode cX12_street 104 = .ok (.iload_n 1, 1) := by decide +kernel
theorem dX12_street_105 : decode cX12_street 105 = .ok (.aaload, 1) := by decide +kernel
theorem dX12_street_106 : decode cX12_street 106 = .ok (.iload_n 2, 1) := by decide +kernel
theorem dX12_street_107 : decode cX12_street 107 = .ok (.iaload, 1) := by decide +kernel
theorem dX12_street_108 : decode cX12_street 108 = .ok (.ireturn, 1) := by decide +kernel
theorem dX12_street_109 : decode cX12_street 109 = .ok (.aload_n 0, 1) := by decide +kernel
theorem dX12_street_110 : decode cX12_street 110 = .ok (.getfield 79, 3) := by decide +kernel
theorem dX12_street_113 : decode cX12_street 113 = .ok (.bipush 24, 2) := by decide +kernel
theorem dX12_street_115 : decode cX12_street 115 = .ok (.iload_n 1, 1) := by decide +kernel
theorem dX12_street_116 : decode cX12_street 116 = .ok (.iadd, 1) := by decide +kernel
theorem dX12_street_117 : decode cX12_street 117 = .ok (.iaload, 1) := by decide +kernel
theorem dX12_street_118 : decode cX12_street 118 = .ok (.ireturn, 1) := by decide +kernel
theorem dX12_street_119 : decode cX12_street 119 = .ok (.aload_n 0, 1) := by decide +kernel
theorem dX12_street_120 : decode cX12_street 120 = .ok (.iload_n 1, 1) := by decide +kernel
theorem dX12_street_121 : decode cX12_street 121 = .ok (.invokevirtual 283, 3) := by decide +kernel
theorem dX12_street_124 : decode cX12_street 124 = .ok (.ireturn, 1) := by decide +kernel
theorem dX12_street_125 : decode cX12_street 125 = .ok (.aload_n 0, 1) := by decide +kernel
theorem dX12_street_126 : decode cX12_street 126 = .ok (.getfield 79, 3) := by decide +kernel
theorem dX12_street_129 : decode cX12_street 129 = .ok (.iload_n 1, 1) := by decide +kernel
theorem dX12_street_130 : decode cX12_street 130 = .ok (.invokestatic 289, 3) := by decide +kernel
theorem dX12_street_133 : decode cX12_street 133 = .ok (.ireturn, 1) := by decide +kernel
theorem dX12_street_134 : decode cX12_street 134 = .ok (.aload_n 0, 1) := by decide +kernel
theorem dX12_street_135 : decode cX12_street 135 = .ok (.getfield 79, 3) := by decide +kernel
theorem dX12_street_138 : decode cX12_street 138 = .ok (.iload_n 1, 1) := by decide +kernel
theorem dX12_street_139 : decode cX12_street 139 = .ok (.invokestatic 289, 3) := by decide +kernel
theorem dX12_street_142 : decode cX12_street 142 = .ok (.iconst (-1), 1) := by decide +kernel
theorem dX12_street_143 : decode cX12_street 143 = .ok (.if_icmp .ne 7, 3) := by decide +kernel
theorem dX12_street_146 : decode cX12_street 146 = .ok (.iconst 0, 1) := by decide +kernel
theorem dX12_street_147 : decode cX12_street 147 = .ok (.goto 12, 3) := by decide +kernel
theorem dX12_street_150 : decode cX12_street 150 = .ok (.aload_n 0, 1) := by decide +kernel
theorem dX12_street_151 : decode cX12_street 151 = .ok (.getfield 79, 3) := by decide +kernel
theorem dX12_street_154 : decode cX12_street 154 = .ok (.bipush 8, 2) := by decide +kernel
theorem dX12_street_156 : decode cX12_street 156 = .ok (.iload_n 1, 1) := by decide +kernel
theorem dX12_street_157 : decode cX12_street 157 = .ok (.iadd, 1) := by decide +kernel
theorem dX12_street_158 : decode cX12_street 158 = .ok (.iaload, 1) := by decide +kernel
theorem dX12_street_159 : decode cX12_street 159 = .ok (.ireturn, 1) := by decide +kernel
theorem dX12_street_160 : decode cX12_street 160 = .ok (.aload_n 0, 1) := by decide +kernel
theorem dX12_street_161 : decode cX12_street 161 = .ok (.getfield 79, 3) := by decide +kernel
theorem dX12_street_164 : decode cX12_street 164 = .ok (.bipush 16, 2) := by decide +kernel
theorem dX12_street_166 : decode cX12_street 166 = .ok (.iload_n 1, 1) := by decide +kernel
theorem dX12_street_167 : decode cX12_street 167 = .ok (.iadd, 1) := by decide +kernel
theorem dX12_street_168 : decode cX12_street 168 = .ok (.iaload, 1) := by decide +kernel
theorem dX12_street_169 : decode cX12_street 169 = .ok (.ireturn, 1) := by decide +kernel
theorem dX12_street_170 : decode cX12_street 170 = .ok (.aload_n 0, 1) := by decide +kernel
theorem dX12_street_171 : decode cX12_street 171 = .ok (.getfield 79, 3) := by decide +kernel
theorem dX12_street_174 : decode cX12_street 174 = .ok (.bipush 32, 2) := by decide +kernel
theorem dX12_street_176 : decode cX12_street 176 = .ok (.iload_n 1, 1) := by decide +kernel
theorem dX12_street_177 : decode cX12_street 177 = .ok (.iadd, 1) := by decide +kernel
theorem dX12_street_178 : decode cX12_street 178 = .ok (.iaload, 1) := by decide +kernel
theorem dX12_street_179 : decode cX12_street 179 = .ok (.ireturn, 1) := by decide +kernel
set_option maxRecDepth 100000 in
theorem T_X12_street_0 {G : GE} {d C S : Nat} {P : KI} : Snd G MX12_street (d + 1) C S 0 (RI P) (s_aload 0 (s_iconst 0 (s_putI 11 0 (s_aload 0 (s_aload 0 (s_iload 1 (s_callV G d MX12_isStreet 1 11 (s_if_ne (s_iconst 0 (s_iconst 1 (s_iconst 1 (s_callV G d MX12_bad 3 11 (s_if_ne (s_iconst 0 (s_ireturn P)) (s_aload 0 (s_iload 2 (s_iconst 0 (s_iconst 8 (s_call G d MX12_in 3 (s_if_ne (s_iconst 0 (fun L st h => E G MX12_street (d + 1) C S 43 (msk [true, true, true] L) st h (RI P))) (s_iconst 1 (fun L st h => E G MX12_street (d + 1) C S 43 (msk [true, true, true] L) st h (RI P)))))))))))))) (s_iconst 1 (s_iconst 1 (s_iconst 1 (s_callV G d MX12_bad 3 11 (s_if_ne (s_iconst 0 (s_ireturn P)) (s_aload 0 (s_iload 2 (s_iconst 0 (s_iconst 8 (s_call G d MX12_in 3 (s_if_ne (s_iconst 0 (fun L st h => E G MX12_street (d + 1) C S 43 (msk [true, true, true] L) st h (RI P))) (s_iconst 1 (fun L st h => E G MX12_street (d + 1) C S 43 (msk [true, true, true] L) st h (RI P)))))))))))))))))))))) := (e_aload_n dX12_street_0 rfl (e_iconst (v := 0) dX12_street_1 (by decide) (e_putI rfl cl_11 (by decide) rfl rfl rfl q_1564 dX12_street_2 (e_aload_n dX12_street_5 rfl (e_aload_n dX12_street_6 rfl (e_iload_n dX12_street_7 rfl (e_callV cl_11 cal_X12_isStreet q_1945 q_1947 q_86 dX12_street_8 (e_if_ne (tgt := 18) dX12_street_11 (by decide) (e_iconst (v := 0) dX12_street_18 (by decide) (e_iconst (v := 1) dX12_street_19 (by decide) (e_iconst (v := 1) dX12_street_20 (by decide) (e_callV cl_11 cal_X12_bad q_1742 q_1744 q_53 dX12_street_21 (e_if_ne (tgt := 51) dX12_street_24 (by decide) (e_iconst (v := 0) dX12_street_51 (by decide) (e_ireturn rfl dX12_street_52)) (e_aload_n dX12_street_27 rfl (e_iload_n dX12_street_28 rfl (e_iconst (v := 0) dX12_street_29 (by decide) (e_bipush (v := 8) dX12_street_30 (by decide) (e_callS cal_X12_in q_1739 q_1740 dX12_street_32 (e_if_ne (tgt := 42) dX12_street_35 (by decide) (e_iconst (v := 0) dX12_street_42 (by decide) (e_msk [true, true, true])) (e_iconst (v := 1) dX12_street_38 (by decide) (e_goto (tgt := 43) dX12_street_39 (by decide) (e_msk [true, true, true])))))))))))))) (e_iconst (v := 1) dX12_street_14 (by decide) (e_goto (tgt := 19) dX12_street_15 (by decide) (e_iconst (v := 1) dX12_street_19 (by decide) (e_iconst (v := 1) dX12_street_20 (by decide) (e_callV cl_11 cal_X12_bad q_1742 q_1744 q_53 dX12_street_21 (e_if_ne (tgt := 51) dX12_street_24 (by decide) (e_iconst (v := 0) dX12_street_51 (by decide) (e_ireturn rfl dX12_street_52)) (e_aload_n dX12_street_27 rfl (e_iload_n dX12_street_28 rfl (e_iconst (v := 0) dX12_street_29 (by decide) (e_bipush (v := 8) dX12_street_30 (by decide) (e_callS cal_X12_in q_1739 q_1740 dX12_street_32 (e_if_ne (tgt := 42) dX12_street_35 (by decide) (e_iconst (v := 0) dX12_street_42 (by decide) (e_msk [true, true, true])) (e_iconst (v := 1) dX12_street_38 (by decide) (e_goto (tgt := 43) dX12_street_39 (by decide) (e_msk [true, true, true])))))))))))))))))))))))
set_option maxRecDepth 100000 in
theorem V_X12_street_0 {G : GE} {d : Nat} {P : KI} {a : Nat → Nat → Int32} {r : Nat → Nat → Value} {N : Nat} {l0 : Nat} {l1 : Int32} {l2 : Int32} (hs : (tyK l0 = (0, 11) ∧ l0 < N ∧ ∀ a1, a1 = u2 a l0 0 0 → (tyK l0 = (0, 11) ∧ l0 < N ∧ Sp G d 0 0 MX12_isStreet [.ref l0, .int l1] (a1, r, N) (RI fun v5 a2 r3 n4 => ((¬ v5 = 0 → (tyK l0 = (0, 11) ∧ l0 < n4 ∧ Sp G d 0 0 MX12_bad [.ref l0, .int 0, .int 1, .int 1] (a2, r3, n4) (RI fun v9 a6 r7 n8 => ((¬ v9 = 0 → P 0 a6 r7 n8) ∧ (v9 = 0 → Sp G d 0 0 MX12_in [.int l2, .int 0, .int 8] (a6, r7, n8) (RI fun v13 a10 r11 n12 => ((¬ v13 = 0 → E G MX12_street (d + 1) 0 0 43 [.ref l0, .int l1, .int l2] [.int 0, .ref l0] (a10, r11, n12) (RI P)) ∧ (v13 = 0 → E G MX12_street (d + 1) 0 0 43 [.ref l0, .int l1, .int l2] [.int 1, .ref l0] (a10, r11, n12) (RI P))))))))) ∧ (v5 = 0 → (tyK l0 = (0, 11) ∧ l0 < n4 ∧ Sp G d 0 0 MX12_bad [.ref l0, .int 1, .int 1, .int 1] (a2, r3, n4) (RI fun v17 a14 r15 n16 => ((¬ v17 = 0 → P 0 a14 r15 n16) ∧ (v17 = 0 → Sp G d 0 0 MX12_in [.int l2, .int 0, .int 8] (a14, r15, n16) (RI fun v21 a18 r19 n20 => ((¬ v21 = 0 → E G MX12_street (d + 1) 0 0 43 [.ref l0, .int l1, .int l2] [.int 0, .ref l0] (a18, r19, n20) (RI P)) ∧ (v21 = 0 → E G MX12_street (d + 1) 0 0 43 [.ref l0, .int l1, .int l2] [.int 1, .ref l0] (a18, r19, n20) (RI P)))))))))))))) : Sp G (d + 1) 0 0 MX12_street [.ref l0, .int l1, .int l2] (a, r, N) (RI P) := Sp.mk (mc := 0) (ms := 0) [.ref l0, .int l1, .int l2] rfl rfl rfl rfl (T_X12_street_0 (C := 0) (S := 0) _ _ _ hs)
set_option maxRecDepth 100000 in
theorem T_X12_street_43 {G : GE} {d C S : Nat} {P : KI} : Snd G MX12_street (d + 1) C S 43 (RI P) (s_iconst 2 (s_iconst 2 (s_callV G d MX12_bad 3 11 (s_if_eq (s_iload 2 (s_switch [(0, (s_aload 0 (s_getR 11 16 (s_iload 1 (s_aaload (s_iload 2 (s_iaload (s_ireturn P)))))))), (1, (s_aload 0 (s_getR 11 16 (s_iload 1 (s_aaload (s_iload 2 (s_iaload (s_ireturn P)))))))), (2, (s_aload 0 (s_getR 11 16 (s_iload 1 (s_aaload (s_iload 2 (s_iaload (s_ireturn P)))))))), (3, (s_aload 0 (s_getR 11 33 (s_iconst 24 (s_iload 1 (s_iadd (s_iaload (s_ireturn P)))))))), (4, (s_aload 0 (s_iload 1 (s_callV G d MX12_lengthOf 1 11 (s_ireturn P))))), (5, (s_aload 0 (s_getR 11 33 (s_iload 1 (s_call G d MX12_mateOf 2 (s_ireturn P)))))), (6, (s_aload 0 (s_getR 11 33 (s_iload 1 (s_call G d MX12_mateOf 2 (s_iconst (-1) (s_ic_ne (s_aload 0 (s_getR 11 33 (s_iconst 8 (s_iload 1 (s_iadd (s_iaload (s_ireturn P))))))) (s_iconst 0 (s_ireturn P))))))))), (7, (s_aload 0 (s_getR 11 33 (s_iconst 16 (s_iload 1 (s_iadd (s_iaload (s_ireturn P))))))))] (s_aload 0 (s_getR 11 33 (s_iconst 32 (s_iload 1 (s_iadd (s_iaload (s_ireturn P))))))))) (s_iconst 0 (s_ireturn P)))))) := (e_iconst (v := 2) dX12_street_43 (by decide) (e_iconst (v := 2) dX12_street_44 (by decide) (e_callV cl_11 cal_X12_bad q_1742 q_1744 q_53 dX12_street_45 (e_if_eq (tgt := 53) dX12_street_48 (by decide) (e_iload_n dX12_street_53 rfl (e_tsw (tg := [100, 100, 100, 109, 119, 125, 134, 160]) (td := 170) [0, 1, 2, 3, 4, 5, 6, 7] rfl dX12_street_54 (by decide) (by decide) (by decide +kernel) (by decide +kernel) (swc (t0 := 100) (e_aload_n dX12_street_100 rfl (e_getR rfl cl_11 (by decide) rfl q_1580 dX12_street_101 (e_iload_n dX12_street_104 rfl (e_aaload dX12_street_105 (e_iload_n dX12_street_106 rfl (e_iaload dX12_street_107 (e_ireturn rfl dX12_street_108))))))) (swc (t0 := 100) (e_aload_n dX12_street_100 rfl (e_getR rfl cl_11 (by decide) rfl q_1580 dX12_street_101 (e_iload_n dX12_street_104 rfl (e_aaload dX12_street_105 (e_iload_n dX12_street_106 rfl (e_iaload dX12_street_107 (e_ireturn rfl dX12_street_108))))))) (swc (t0 := 100) (e_aload_n dX12_street_100 rfl (e_getR rfl cl_11 (by decide) rfl q_1580 dX12_street_101 (e_iload_n dX12_street_104 rfl (e_aaload dX12_street_105 (e_iload_n dX12_street_106 rfl (e_iaload dX12_street_107 (e_ireturn rfl dX12_street_108))))))) (swc (t0 := 109) (e_aload_n dX12_street_109 rfl (e_getR rfl cl_11 (by decide) rfl q_1597 dX12_street_110 (e_bipush (v := 24) dX12_street_113 (by decide) (e_iload_n dX12_street_115 rfl (e_iadd dX12_street_116 (e_iaload dX12_street_117 (e_ireturn rfl dX12_street_118))))))) (swc (t0 := 119) (e_aload_n dX12_street_119 rfl (e_iload_n dX12_street_120 rfl (e_callV cl_11 cal_X12_lengthOf q_1889 q_1891 q_81 dX12_street_121 (e_ireturn rfl dX12_street_124)))) (swc (t0 := 125) (e_aload_n dX12_street_125 rfl (e_getR rfl cl_11 (by decide) rfl q_1597 dX12_street_126 (e_iload_n dX12_street_129 rfl (e_callS cal_X12_mateOf q_1878 q_1879 dX12_street_130 (e_ireturn rfl dX12_street_133))))) (swc (t0 := 134) (e_aload_n dX12_street_134 rfl (e_getR rfl cl_11 (by decide) rfl q_1597 dX12_street_135 (e_iload_n dX12_street_138 rfl (e_callS cal_X12_mateOf q_1878 q_1879 dX12_street_139 (e_iconst (v := (-1)) dX12_street_142 (by decide) (e_ic_ne (tgt := 150) dX12_street_143 (by decide) (e_aload_n dX12_street_150 rfl (e_getR rfl cl_11 (by decide) rfl q_1597 dX12_street_151 (e_bipush (v := 8) dX12_street_154 (by decide) (e_iload_n dX12_street_156 rfl (e_iadd dX12_street_157 (e_iaload dX12_street_158 (e_ireturn rfl dX12_street_159))))))) (e_iconst (v := 0) dX12_street_146 (by decide) (e_goto (tgt := 159) dX12_street_147 (by decide) (e_ireturn rfl dX12_street_159))))))))) (swc (t0 := 160) (e_aload_n dX12_street_160 rfl (e_getR rfl cl_11 (by decide) rfl q_1597 dX12_street_161 (e_bipush (v := 16) dX12_street_164 (by decide) (e_iload_n dX12_street_166 rfl (e_iadd dX12_street_167 (e_iaload dX12_street_168 (e_ireturn rfl dX12_street_169))))))) swn)))))))) (e_aload_n dX12_street_170 rfl (e_getR rfl cl_11 (by decide) rfl q_1597 dX12_street_171 (e_bipush (v := 32) dX12_street_174 (by decide) (e_iload_n dX12_street_176 rfl (e_iadd dX12_street_177 (e_iaload dX12_street_178 (e_ireturn rfl dX12_street_179))))))))) (e_iconst (v := 0) dX12_street_51 (by decide) (e_ireturn rfl dX12_street_52))))))
set_option maxRecDepth 100000 in
theorem V_X12_street_43 {G : GE} {d C S : Nat} {P : KI} {a : Nat → Nat → Int32} {r : Nat → Nat → Value} {N : Nat} {l0 : Nat} {l1 : Int32} {l2 : Int32} {s0 : Nat} {s1 : Int32} (hs : (tyK s0 = (0, 11) ∧ s0 < N ∧ Sp G d 0 0 MX12_bad [.ref s0, .int s1, .int 2, .int 2] (a, r, N) (RI fun v4 a1 r2 n3 => ((v4 = 0 → ((l2 = 0 → (tyK l0 = (0, 11) ∧ l0 < n3 ∧ ∃ q5, r2 l0 16 = .ref q5 ∧ ((tyK q5).1 = 3 ∧ q5 < n3 ∧ vp_in l1 (tyK q5).2 ∧ ((tyK (q5 + 1 + (l1 : Int32).toNatClampNeg)).1 = 1 ∧ (q5 + 1 + (l1 : Int32).toNatClampNeg) < n3 ∧ vp_in l2 (tyK (q5 + 1 + (l1 : Int32).toNatClampNeg)).2 ∧ P (a1 (q5 + 1 + (l1 : Int32).toNatClampNeg) (l2 : Int32).toNatClampNeg) a1 r2 n3)))) ∧ (¬ l2 = 0 → ((l2 = 1 → (tyK l0 = (0, 11) ∧ l0 < n3 ∧ ∃ q6, r2 l0 16 = .ref q6 ∧ ((tyK q6).1 = 3 ∧ q6 < n3 ∧ vp_in l1 (tyK q6).2 ∧ ((tyK (q6 + 1 + (l1 : Int32).toNatClampNeg)).1 = 1 ∧ (q6 + 1 + (l1 : Int32).toNatClampNeg) < n3 ∧ vp_in l2 (tyK (q6 + 1 + (l1 : Int32).toNatClampNeg)).2 ∧ P (a1 (q6 + 1 + (l1 : Int32).toNatClampNeg) (l2 : Int32).toNatClampNeg) a1 r2 n3)))) ∧ (¬ l2 = 1 → ((l2 = 2 → (tyK l0 = (0, 11) ∧ l0 < n3 ∧ ∃ q7, r2 l0 16 = .ref q7 ∧ ((tyK q7).1 = 3 ∧ q7 < n3 ∧ vp_in l1 (tyK q7).2 ∧ ((tyK (q7 + 1 + (l1 : Int32).toNatClampNeg)).1 = 1 ∧ (q7 + 1 + (l1 : Int32).toNatClampNeg) < n3 ∧ vp_in l2 (tyK (q7 + 1 + (l1 : Int32).toNatClampNeg)).2 ∧ P (a1 (q7 + 1 + (l1 : Int32).toNatClampNeg) (l2 : Int32).toNatClampNeg) a1 r2 n3)))) ∧ (¬ l2 = 2 → ((l2 = 3 → (tyK l0 = (0, 11) ∧ l0 < n3 ∧ ∃ q8, r2 l0 33 = .ref q8 ∧ ((tyK q8).1 = 1 ∧ q8 < n3 ∧ vp_in ((24 : Int32) + l1) (tyK q8).2 ∧ P (a1 q8 (((24 : Int32) + l1) : Int32).toNatClampNeg) a1 r2 n3))) ∧ (¬ l2 = 3 → ((l2 = 4 → (tyK l0 = (0, 11) ∧ l0 < n3 ∧ Sp G d 0 0 MX12_lengthOf [.ref l0, .int l1] (a1, r2, n3) (RI fun v12 a9 r10 n11 => P v12 a9 r10 n11))) ∧ (¬ l2 = 4 → ((l2 = 5 → (tyK l0 = (0, 11) ∧ l0 < n3 ∧ ∃ q13, r2 l0 33 = .ref q13 ∧ Sp G d 0 0 MX12_mateOf [.ref q13, .int l1] (a1, r2, n3) (RI fun v17 a14 r15 n16 => P v17 a14 r15 n16))) ∧ (¬ l2 = 5 → ((l2 = 6 → (tyK l0 = (0, 11) ∧ l0 < n3 ∧ ∃ q18, r2 l0 33 = .ref q18 ∧ Sp G d 0 0 MX12_mateOf [.ref q18, .int l1] (a1, r2, n3) (RI fun v22 a19 r20 n21 => ((¬ v22 = (-1) → (tyK l0 = (0, 11) ∧ l0 < n21 ∧ ∃ q23, r20 l0 33 = .ref q23 ∧ ((tyK q23).1 = 1 ∧ q23 < n21 ∧ vp_in ((8 : Int32) + l1) (tyK q23).2 ∧ P (a19 q23 (((8 : Int32) + l1) : Int32).toNatClampNeg) a19 r20 n21))) ∧ (v22 = (-1) → P 0 a19 r20 n21))))) ∧ (¬ l2 = 6 → ((l2 = 7 → (tyK l0 = (0, 11) ∧ l0 < n3 ∧ ∃ q24, r2 l0 33 = .ref q24 ∧ ((tyK q24).1 = 1 ∧ q24 < n3 ∧ vp_in ((16 : Int32) + l1) (tyK q24).2 ∧ P (a1 q24 (((16 : Int32) + l1) : Int32).toNatClampNeg) a1 r2 n3))) ∧ (¬ l2 = 7 → (tyK l0 = (0, 11) ∧ l0 < n3 ∧ ∃ q25, r2 l0 33 = .ref q25 ∧ ((tyK q25).1 = 1 ∧ q25 < n3 ∧ vp_in ((32 : Int32) + l1) (tyK q25).2 ∧ P (a1 q25 (((32 : Int32) + l1) : Int32).toNatClampNeg) a1 r2 n3))))))))))))))))))) ∧ (¬ v4 = 0 → P 0 a1 r2 n3))))) : E G MX12_street (d + 1) C S 43 [.ref l0, .int l1, .int l2] [.int s1, .ref s0] (a, r, N) (RI P) := T_X12_street_43 _ _ _ hs
theorem dX12_likes_0 : decode cX12_likes 0 = .ok (.aload_n 0, 1) := by decide +kernel
theorem dX12_likes_1 : decode cX12_likes 1 = .ok (.iconst 0, 1) := by decide +kernel
theorem dX12_likes_2 : decode cX12_likes 2 = .ok (.putfield 115, 3) := by decide +kernel
theorem dX12_likes_5 : decode cX12_likes 5 = .ok (.aload_n 0, 1) := by decide +kernel
theorem dX12_likes_6 : decode cX12_likes 6 = .ok (.aload_n 0, 1) := by decide +kernel
theorem dX12_likes_7 : decode cX12_likes 7 = .ok (.iload_n 1, 1) := by decide +kernel
theorem dX12_likes_8 : decode cX12_likes 8 = .ok (.invokevirtual 340, 3) := by decide +kernel
theorem dX12_likes_11 : decode cX12_likes 11 = .ok (.ifCond .eq 11, 3) := by decide +kernel
theorem dX12_likes_14 : decode cX12_likes 14 = .ok (.aload_n 0, 1) := by decide +kernel
theorem dX12_likes_15 : decode cX12_likes 15 = .ok (.iload_n 2, 1) := by decide +kernel
theorem dX12_likes_16 : decode cX12_likes 16 = .ok (.invokevirtual 340, 3) := by decide +kernel
theorem dX12_likes_19 : decode cX12_likes 19 = .ok (.ifCond .ne 7, 3) := by decide +kernel
theorem dX12_likes_22 : decode cX12_likes 22 = .ok (.iconst 1, 1) := by decide +kernel
theorem dX12_likes_23 : decode cX12_likes 23 = .ok (.goto 4, 3) := by decide +kernel
theorem dX12_likes_26 : decode cX12_likes 26 = .ok (.iconst 0, 1) := by decide +kernel
theorem dX12_likes_27 : decode cX12_likes 27 = .ok (.iconst 1, 1) := by decide +kernel
theorem dX12_likes_28 : decode cX12_likes 28 = .ok (.iconst 1, 1) := by decide +kernel
theorem dX12_likes_29 : decode cX12_likes 29 = .ok (.invokevirtual 198, 3) := by decide +kernel
theorem dX12_likes_32 : decode cX12_likes 32 = .ok (.ifCond .ne 22, 3) := by decide +kernel
theorem dX12_likes_35 : decode cX12_likes 35 = .ok (.aload_n 0, 1) := by decide +kernel
theorem dX12_likes_36 : decode cX12_likes 36 = .ok (.iload_n 1, 1) := by decide +kernel
theorem dX12_likes_37 : decode cX12_likes 37 = .ok (.iload_n 2, 1) := by decide +kernel
theorem dX12_likes_38 : decode cX12_likes 38 = .ok (.if_icmp .ne 7, 3) := by decide +kernel
theorem dX12_likes_41 : decode cX12_likes 41 = .ok (.iconst 1, 1) := by decide +kernel
theorem dX12_likes_42 : decode cX12_likes 42 = .ok (.goto 4, 3) := by decide +kernel
theorem dX12_likes_45 : decode cX12_likes 45 = .ok (.iconst 0, 1) := by decide +kernel
theorem dX12_likes_46 : decode cX12_likes 46 = .ok (.iconst 2, 1) := by decide +kernel
theorem dX12_likes_47 : decode cX12_likes 47 = .ok (.iconst 2, 1) := by decide +kernel
theorem dX12_likes_48 : decode cX12_likes 48 = .ok (.invokevirtual 198, 3) := by decide +kernel
theorem dX12_likes_51 : decode cX12_likes 51 = .ok (.ifCond .eq 5, 3) := by decide +kernel
theorem dX12_likes_54 : decode cX12_likes 54 = .ok (.iconst 0, 1) := by decide +kernel
theorem dX12_likes_55 : decode cX12_likes 55 = .ok (.ireturn, 1) := by decide +kernel
theorem dX12_likes_56 : decode cX12_likes 56 = .ok (.aload_n 0, 1) := by decide +kernel
theorem dX12_likes_57 : decode cX12_likes 57 = .ok (.getfield 43, 3) := by decide +kernel
theorem dX12_likes_60 : decode cX12_likes 60 = .ok (.iload_n 1, 1) := by decide +kernel
theorem dX12_likes_61 : decode cX12_likes 61 = .ok (.aaload, 1) := by decide +kernel
theorem dX12_likes_62 : decode cX12_likes 62 = .ok (.iload_n 2, 1) := by decide +kernel
theorem dX12_likes_63 : decode cX12_likes 63 = .ok (.iaload, 1) := by decide +kernel
theorem dX12_likes_64 : decode cX12_likes 64 = .ok (.ireturn, 1) := by decide +kernel
set_option maxRecDepth 100000 in
theorem T_X12_likes_0 {G : GE} {d C S : Nat} {P : KI} : Snd G MX12_likes (d + 1) C S 0 (RI P) (s_aload 0 (s_iconst 0 (s_putI 11 0 (s_aload 0 (s_aload 0 (s_iload 1 (s_callV G d MX12_isStreet 1 11 (s_if_eq (s_iconst 1 (fun L st h => E G MX12_likes (d + 1) C S 27 (msk [true, true, true] L) st h (RI P))) (s_aload 0 (s_iload 2 (s_callV G d MX12_isStreet 1 11 (s_if_ne (s_iconst 0 (fun L st h => E G MX12_likes (d + 1) C S 27 (msk [true, true, true] L) st h (RI P))) (s_iconst 1 (fun L st h => E G MX12_likes (d + 1) C S 27 (msk [true, true, true] L) st h (RI P))))))))))))))) := (e_aload_n dX12_likes_0 rfl (e_iconst (v := 0) dX12_likes_1 (by decide) (e_putI rfl cl_11 (by decide) rfl rfl rfl q_1564 dX12_likes_2 (e_aload_n dX12_likes_5 rfl (e_aload_n dX12_likes_6 rfl (e_iload_n dX12_likes_7 rfl (e_callV cl_11 cal_X12_isStreet q_1945 q_1947 q_86 dX12_likes_8 (e_if_eq (tgt := 22) dX12_likes_11 (by decide) (e_iconst (v := 1) dX12_likes_22 (by decide) (e_goto (tgt := 27) dX12_likes_23 (by decide) (e_msk [true, true, true]))) (e_aload_n dX12_likes_14 rfl (e_iload_n dX12_likes_15 rfl (e_callV cl_11 cal_X12_isStreet q_1945 q_1947 q_86 dX12_likes_16 (e_if_ne (tgt := 26) dX12_likes_19 (by decide) (e_iconst (v := 0) dX12_likes_26 (by decide) (e_msk [true, true, true])) (e_iconst (v := 1) dX12_likes_22 (by decide) (e_goto (tgt := 27) dX12_likes_23 (by decide) (e_msk [true, true, true])))))))))))))))
set_option maxRecDepth 100000 in
theorem V_X12_likes_0 {G : GE} {d : Nat} {P : KI} {a : Nat → Nat → Int32} {r : Nat → Nat → Value} {N : Nat} {l0 : Nat} {l1 : Int32} {l2 : Int32} (hs : (tyK l0 = (0, 11) ∧ l0 < N ∧ ∀ a1, a1 = u2 a l0 0 0 → (tyK l0 = (0, 11) ∧ l0 < N ∧ Sp G d 0 0 MX12_isStreet [.ref l0, .int l1] (a1, r, N) (RI fun v5 a2 r3 n4 => ((v5 = 0 → E G MX12_likes (d + 1) 0 0 27 [.ref l0, .int l1, .int l2] [.int 1, .ref l0] (a2, r3, n4) (RI P)) ∧ (¬ v5 = 0 → (tyK l0 = (0, 11) ∧ l0 < n4 ∧ Sp G d 0 0 MX12_isStreet [.ref l0, .int l2] (a2, r3, n4) (RI fun v9 a6 r7 n8 => ((¬ v9 = 0 → E G MX12_likes (d + 1) 0 0 27 [.ref l0, .int l1, .int l2] [.int 0, .ref l0] (a6, r7, n8) (RI P)) ∧ (v9 = 0 → E G MX12_likes (d + 1) 0 0 27 [.ref l0, .int l1, .int l2] [.int 1, .ref l0] (a6, r7, n8) (RI P))))))))))) : Sp G (d + 1) 0 0 MX12_likes [.ref l0, .int l1, .int l2] (a, r, N) (RI P) := Sp.mk (mc := 0) (ms := 0) [.ref l0, .int l1, .int l2] rfl rfl rfl rfl (T_X12_likes_0 (C := 0) (S := 0) _ _ _ hs)
set_option maxRecDepth 100000 in
theorem T_X12_likes_27 {G : GE} {d C S : Nat} {P : KI} : Snd G MX12_likes (d + 1) C S 27 (RI P) (s_iconst 1 (s_iconst 1 (s_callV G d MX12_bad 3 11 (s_if_ne (s_iconst 0 (s_ireturn P)) (s_aload 0 (s_iload 1 (s_iload 2 (s_ic_ne (s_iconst 0 (s_iconst 2 (s_iconst 2 (s_callV G d MX12_bad 3 11 (s_if_eq (s_aload 0 (s_getR 11 18 (s_iload 1 (s_aaload (s_iload 2 (s_iaload (s_ireturn P))))))) (s_iconst 0 (s_ireturn P))))))) (s_iconst 1 (s_iconst 2 (s_iconst 2 (s_callV G d MX12_bad 3 11 (s_if_eq (s_aload 0 (s_getR 11 18 (s_iload 1 (s_aaload (s_iload 2 (s_iaload (s_ireturn P))))))) (s_iconst 0 (s_ireturn P))))))))))))))) := (e_iconst (v := 1) dX12_likes_27 (by decide) (e_iconst (v := 1) dX12_likes_28 (by decide) (e_callV cl_11 cal_X12_bad q_1742 q_1744 q_53 dX12_likes_29 (e_if_ne (tgt := 54) dX12_likes_32 (by decide) (e_iconst (v := 0) dX12_likes_54 (by decide) (e_ireturn rfl dX12_likes_55)) (e_aload_n dX12_likes_35 rfl (e_iload_n dX12_likes_36 rfl (e_iload_n dX12_likes_37 rfl (e_ic_ne (tgt := 45) dX12_likes_38 (by decide) (e_iconst (v := 0) dX12_likes_45 (by decide) (e_iconst (v := 2) dX12_likes_46 (by decide) (e_iconst (v := 2) dX12_likes_47 (by decide) (e_callV cl_11 cal_X12_bad q_1742 q_1744 q_53 dX12_likes_48 (e_if_eq (tgt := 56) dX12_likes_51 (by decide) (e_aload_n dX12_likes_56 rfl (e_getR rfl cl_11 (by decide) rfl q_1582 dX12_likes_57 (e_iload_n dX12_likes_60 rfl (e_aaload dX12_likes_61 (e_iload_n dX12_likes_62 rfl (e_iaload dX12_likes_63 (e_ireturn rfl dX12_likes_64))))))) (e_iconst (v := 0) dX12_likes_54 (by decide) (e_ireturn rfl dX12_likes_55))))))) (e_iconst (v := 1) dX12_likes_41 (by decide) (e_goto (tgt := 46) dX12_likes_42 (by decide) (e_iconst (v := 2) dX12_likes_46 (by decide) (e_iconst (v := 2) dX12_likes_47 (by decide) (e_callV cl_11 cal_X12_bad q_1742 q_1744 q_53 dX12_likes_48 (e_if_eq (tgt := 56) dX12_likes_51 (by decide) (e_aload_n dX12_likes_56 rfl (e_getR rfl cl_11 (by decide) rfl q_1582 dX12_likes_57 (e_iload_n dX12_likes_60 rfl (e_aaload dX12_likes_61 (e_iload_n dX12_likes_62 rfl (e_iaload dX12_likes_63 (e_ireturn rfl dX12_likes_64))))))) (e_iconst (v := 0) dX12_likes_54 (by decide) (e_ireturn rfl dX12_likes_55))))))))))))))))
set_option maxRecDepth 100000 in
theorem V_X12_likes_27 {G : GE} {d C S : Nat} {P : KI} {a : Nat → Nat → Int32} {r : Nat → Nat → Value} {N : Nat} {l0 : Nat} {l1 : Int32} {l2 : Int32} {s0 : Nat} {s1 : Int32} (hs : (tyK s0 = (0, 11) ∧ s0 < N ∧ Sp G d 0 0 MX12_bad [.ref s0, .int s1, .int 1, .int 1] (a, r, N) (RI fun v4 a1 r2 n3 => ((¬ v4 = 0 → P 0 a1 r2 n3) ∧ (v4 = 0 → ((¬ l1 = l2 → (tyK l0 = (0, 11) ∧ l0 < n3 ∧ Sp G d 0 0 MX12_bad [.ref l0, .int 0, .int 2, .int 2] (a1, r2, n3) (RI fun v8 a5 r6 n7 => ((v8 = 0 → (tyK l0 = (0, 11) ∧ l0 < n7 ∧ ∃ q9, r6 l0 18 = .ref q9 ∧ ((tyK q9).1 = 3 ∧ q9 < n7 ∧ vp_in l1 (tyK q9).2 ∧ ((tyK (q9 + 1 + (l1 : Int32).toNatClampNeg)).1 = 1 ∧ (q9 + 1 + (l1 : Int32).toNatClampNeg) < n7 ∧ vp_in l2 (tyK (q9 + 1 + (l1 : Int32).toNatClampNeg)).2 ∧ P (a5 (q9 + 1 + (l1 : Int32).toNatClampNeg) (l2 : Int32).toNatClampNeg) a5 r6 n7)))) ∧ (¬ v8 = 0 → P 0 a5 r6 n7))))) ∧ (l1 = l2 → (tyK l0 = (0, 11) ∧ l0 < n3 ∧ Sp G d 0 0 MX12_bad [.ref l0, .int 1, .int 2, .int 2] (a1, r2, n3) (RI fun v13 a10 r11 n12 => ((v13 = 0 → (tyK l0 = (0, 11) ∧ l0 < n12 ∧ ∃ q14, r11 l0 18 = .ref q14 ∧ ((tyK q14).1 = 3 ∧ q14 < n12 ∧ vp_in l1 (tyK q14).2 ∧ ((tyK (q14 + 1 + (l1 : Int32).toNatClampNeg)).1 = 1 ∧ (q14 + 1 + (l1 : Int32).toNatClampNeg) < n12 ∧ vp_in l2 (tyK (q14 + 1 + (l1 : Int32).toNatClampNeg)).2 ∧ P (a10 (q14 + 1 + (l1 : Int32).toNatClampNeg) (l2 : Int32).toNatClampNeg) a10 r11 n12)))) ∧ (¬ v13 = 0 → P 0 a10 r11 n12))))))))))) : E G MX12_likes (d + 1) C S 27 [.ref l0, .int l1, .int l2] [.int s1, .ref s0] (a, r, N) (RI P) := T_X12_likes_27 _ _ _ hs
theorem dX12_banns_0 : decode cX12_banns 0 = .ok (.aload_n 0, 1) := by decide +kernel
theorem dX12_banns_1 : decode cX12_banns 1 = .ok (.iconst 0, 1) := by decide +kernel
theorem dX12_banns_2 : decode cX12_banns 2 = .ok (.putfield 115, 3) := by decide +kernel
theorem dX12_banns_5 : decode cX12_banns 5 = .ok (.aload_n 0, 1) := by decide +kernel
theorem dX12_banns_6 : decode cX12_banns 6 = .ok (.aload_n 0, 1) := by decide +kernel
theorem dX12_banns_7 : decode cX12_banns 7 = .ok (.iload_n 1, 1) := by decide +kernel
theorem dX12_banns_8 : decode cX12_banns 8 = .ok (.invokevirtual 340, 3) := by decide +kernel
theorem dX12_banns_11 : decode cX12_banns 11 = .ok (.ifCond .eq 11, 3) := by decide +kernel
theorem dX12_banns_14 : decode cX12_banns 14 = .ok (.aload_n 0, 1) := by decide +kernel
theorem dX12_banns_15 : decode cX12_banns 15 = .ok (.iload_n 2, 1) := by decide +kernel
theorem dX12_banns_16 : decode cX12_banns 16 = .ok (.invokevirtual 340, 3) := by decide +kernel
theorem dX12_banns_19 : decode cX12_banns 19 = .ok (.ifCond .ne 7, 3) := by decide +kernel
theorem dX12_banns_22 : decode cX12_banns 22 = .ok (.iconst 1, 1) := by decide +kernel
theorem dX12_banns_23 : decode cX12_banns 23 = .ok (.goto 4, 3) := by decide +kernel
theorem dX12_banns_26 : decode cX12_banns 26 = .ok (.iconst 0, 1) := by decide +kernel
theorem dX12_banns_27 : decode cX12_banns 27 = .ok (.iconst 1, 1) := by decide +kernel
theorem dX12_banns_28 : decode cX12_banns 28 = .ok (.iconst 1, 1) := by decide +kernel
theorem dX12_banns_29 : decode cX12_banns 29 = .ok (.invokevirtual 198, 3) := by decide +kernel
theorem dX12_banns_32 : decode cX12_banns 32 = .ok (.ifCond .eq 5, 3) := by decide +kernel
theorem dX12_banns_35 : decode cX12_banns 35 = .ok (.iconst 0, 1) := by decide +kernel
theorem dX12_banns_36 : decode cX12_banns 36 = .ok (.ireturn, 1) := by decide +kernel
theorem dX12_banns_37 : decode cX12_banns 37 = .ok (.aload_n 0, 1) := by decide +kernel
theorem dX12_banns_38 : decode cX12_banns 38 = .ok (.aload_n 0, 1) := by decide +kernel
theorem dX12_banns_39 : decode cX12_banns 39 = .ok (.getfield 79, 3) := by decide +kernel
theorem dX12_banns_42 : decode cX12_banns 42 = .ok (.iload_n 1, 1) := by decide +kernel
theorem dX12_banns_43 : decode cX12_banns 43 = .ok (.iload_n 2, 1) := by decide +kernel
theorem dX12_banns_44 : decode cX12_banns 44 = .ok (.invokevirtual 297, 3) := by decide +kernel
theorem dX12_banns_47 : decode cX12_banns 47 = .ok (.ireturn, 1) := by decide +kernel
set_option maxRecDepth 100000 in
theorem T_X12_banns_0 {G : GE} {d C S : Nat} {P : KI} : Snd G MX12_banns (d + 1) C S 0 (RI P) (s_aload 0 (s_iconst 0 (s_putI 11 0 (s_aload 0 (s_aload 0 (s_iload 1 (s_callV G d MX12_isStreet 1 11 (s_if_eq (s_iconst 1 (s_iconst 1 (s_iconst 1 (s_callV G d MX12_bad 3 11 (s_if_eq (s_aload 0 (s_aload 0 (s_getR 11 33 (s_iload 1 (s_iload 2 (s_callV G d MX12_bannsOf 3 11 (s_ireturn P))))))) (s_iconst 0 (s_ireturn P))))))) (s_aload 0 (s_iload 2 (s_callV G d MX12_isStreet 1 11 (s_if_ne (s_iconst 0 (s_iconst 1 (s_iconst 1 (s_callV G d MX12_bad 3 11 (s_if_eq (s_aload 0 (s_aload 0 (s_getR 11 33 (s_iload 1 (s_iload 2 (s_callV G d MX12_bannsOf 3 11 (s_ireturn P))))))) (s_iconst 0 (s_ireturn P))))))) (s_iconst 1 (s_iconst 1 (s_iconst 1 (s_callV G d MX12_bad 3 11 (s_if_eq (s_aload 0 (s_aload 0 (s_getR 11 33 (s_iload 1 (s_iload 2 (s_callV G d MX12_bannsOf 3 11 (s_ireturn P))))))) (s_iconst 0 (s_ireturn P))))))))))))))))))) := (e_aload_n dX12_banns_0 rfl (e_iconst (v := 0) dX12_banns_1 (by decide) (e_putI rfl cl_11 (by decide) rfl rfl rfl q_1564 dX12_banns_2 (e_aload_n dX12_banns_5 rfl (e_aload_n dX12_banns_6 rfl (e_iload_n dX12_banns_7 rfl (e_callV cl_11 cal_X12_isStreet q_1945 q_1947 q_86 dX12_banns_8 (e_if_eq (tgt := 22) dX12_banns_11 (by decide) (e_iconst (v := 1) dX12_banns_22 (by decide) (e_goto (tgt := 27) dX12_banns_23 (by decide) (e_iconst (v := 1) dX12_banns_27 (by decide) (e_iconst (v := 1) dX12_banns_28 (by decide) (e_callV cl_11 cal_X12_bad q_1742 q_1744 q_53 dX12_banns_29 (e_if_eq (tgt := 37) dX12_banns_32 (by decide) (e_aload_n dX12_banns_37 rfl (e_aload_n dX12_banns_38 rfl (e_getR rfl cl_11 (by decide) rfl q_1597 dX12_banns_39 (e_iload_n dX12_banns_42 rfl (e_iload_n dX12_banns_43 rfl (e_callV cl_11 cal_X12_bannsOf q_1881 q_1883 q_79 dX12_banns_44 (e_ireturn rfl dX12_banns_47))))))) (e_iconst (v := 0) dX12_banns_35 (by decide) (e_ireturn rfl dX12_banns_36)))))))) (e_aload_n dX12_banns_14 rfl (e_iload_n dX12_banns_15 rfl (e_callV cl_11 cal_X12_isStreet q_1945 q_1947 q_86 dX12_banns_16 (e_if_ne (tgt := 26) dX12_banns_19 (by decide) (e_iconst (v := 0) dX12_banns_26 (by decide) (e_iconst (v := 1) dX12_banns_27 (by decide) (e_iconst (v := 1) dX12_banns_28 (by decide) (e_callV cl_11 cal_X12_bad q_1742 q_1744 q_53 dX12_banns_29 (e_if_eq (tgt := 37) dX12_banns_32 (by decide) (e_aload_n dX12_banns_37 rfl (e_aload_n dX12_banns_38 rfl (e_getR rfl cl_11 (by decide) rfl q_1597 dX12_banns_39 (e_iload_n dX12_banns_42 rfl (e_iload_n dX12_banns_43 rfl (e_callV cl_11 cal_X12_bannsOf q_1881 q_1883 q_79 dX12_banns_44 (e_ireturn rfl dX12_banns_47))))))) (e_iconst (v := 0) dX12_banns_35 (by decide) (e_ireturn rfl dX12_banns_36))))))) (e_iconst (v := 1) dX12_banns_22 (by decide) (e_goto (tgt := 27) dX12_banns_23 (by decide) (e_iconst (v := 1) dX12_banns_27 (by decide) (e_iconst (v := 1) dX12_banns_28 (by decide) (e_callV cl_11 cal_X12_bad q_1742 q_1744 q_53 dX12_banns_29 (e_if_eq (tgt := 37) dX12_banns_32 (by decide) (e_aload_n dX12_banns_37 rfl (e_aload_n dX12_banns_38 rfl (e_getR rfl cl_11 (by decide) rfl q_1597 dX12_banns_39 (e_iload_n dX12_banns_42 rfl (e_iload_n dX12_banns_43 rfl (e_callV cl_11 cal_X12_bannsOf q_1881 q_1883 q_79 dX12_banns_44 (e_ireturn rfl dX12_banns_47))))))) (e_iconst (v := 0) dX12_banns_35 (by decide) (e_ireturn rfl dX12_banns_36))))))))))))))))))))
set_option maxRecDepth 100000 in
theorem V_X12_banns_0 {G : GE} {d : Nat} {P : KI} {a : Nat → Nat → Int32} {r : Nat → Nat → Value} {N : Nat} {l0 : Nat} {l1 : Int32} {l2 : Int32} (hs : (tyK l0 = (0, 11) ∧ l0 < N ∧ ∀ a1, a1 = u2 a l0 0 0 → (tyK l0 = (0, 11) ∧ l0 < N ∧ Sp G d 0 0 MX12_isStreet [.ref l0, .int l1] (a1, r, N) (RI fun v5 a2 r3 n4 => ((v5 = 0 → (tyK l0 = (0, 11) ∧ l0 < n4 ∧ Sp G d 0 0 MX12_bad [.ref l0, .int 1, .int 1, .int 1] (a2, r3, n4) (RI fun v9 a6 r7 n8 => ((v9 = 0 → (tyK l0 = (0, 11) ∧ l0 < n8 ∧ ∃ q10, r7 l0 33 = .ref q10 ∧ (tyK l0 = (0, 11) ∧ l0 < n8 ∧ Sp G d 0 0 MX12_bannsOf [.ref l0, .ref q10, .int l1, .int l2] (a6, r7, n8) (RI fun v14 a11 r12 n13 => P v14 a11 r12 n13)))) ∧ (¬ v9 = 0 → P 0 a6 r7 n8))))) ∧ (¬ v5 = 0 → (tyK l0 = (0, 11) ∧ l0 < n4 ∧ Sp G d 0 0 MX12_isStreet [.ref l0, .int l2] (a2, r3, n4) (RI fun v18 a15 r16 n17 => ((¬ v18 = 0 → (tyK l0 = (0, 11) ∧ l0 < n17 ∧ Sp G d 0 0 MX12_bad [.ref l0, .int 0, .int 1, .int 1] (a15, r16, n17) (RI fun v22 a19 r20 n21 => ((v22 = 0 → (tyK l0 = (0, 11) ∧ l0 < n21 ∧ ∃ q23, r20 l0 33 = .ref q23 ∧ (tyK l0 = (0, 11) ∧ l0 < n21 ∧ Sp G d 0 0 MX12_bannsOf [.ref l0, .ref q23, .int l1, .int l2] (a19, r20, n21) (RI fun v27 a24 r25 n26 => P v27 a24 r25 n26)))) ∧ (¬ v22 = 0 → P 0 a19 r20 n21))))) ∧ (v18 = 0 → (tyK l0 = (0, 11) ∧ l0 < n17 ∧ Sp G d 0 0 MX12_bad [.ref l0, .int 1, .int 1, .int 1] (a15, r16, n17) (RI fun v31 a28 r29 n30 => ((v31 = 0 → (tyK l0 = (0, 11) ∧ l0 < n30 ∧ ∃ q32, r29 l0 33 = .ref q32 ∧ (tyK l0 = (0, 11) ∧ l0 < n30 ∧ Sp G d 0 0 MX12_bannsOf [.ref l0, .ref q32, .int l1, .int l2] (a28, r29, n30) (RI fun v36 a33 r34 n35 => P v36 a33 r34 n35)))) ∧ (¬ v31 = 0 → P 0 a28 r29 n30)))))))))))))) : Sp G (d + 1) 0 0 MX12_banns [.ref l0, .int l1, .int l2] (a, r, N) (RI P) := Sp.mk (mc := 0) (ms := 0) [.ref l0, .int l1, .int l2] rfl rfl rfl rfl (T_X12_banns_0 (C := 0) (S := 0) _ _ _ hs)
theorem dX12_houseOf_0 : decode cX12_houseOf 0 = .ok (.iload_n 3, 1) := by decide +kernel
theorem dX12_houseOf_1 : decode cX12_houseOf 1 = .ok (.ifCond .eq 14, 3) := by decide +kernel
theorem dX12_houseOf_4 : decode cX12_houseOf 4 = .ok (.iload_n 2, 1) := by decide +kernel
theorem dX12_houseOf_5 : decode cX12_houseOf 5 = .ok (.iconst 2, 1) := by decide +kernel
theorem dX12_houseOf_6 : decode cX12_houseOf 6 = .ok (.irem, 1) := by decide +kernel
theorem dX12_houseOf_7 : decode cX12_houseOf 7 = .ok (.iload_n 3, 1) := by decide +kernel
theorem dX12_houseOf_8 : decode cX12_houseOf 8 = .ok (.iconst 2, 1) := by decide +kernel
theorem dX12_houseOf_9 : decode cX12_houseOf 9 = .ok (.irem, 1) := by decide +kernel
theorem dX12_houseOf_10 : decode cX12_houseOf 10 = .ok (.if_icmp .eq 5, 3) := by decide +kernel
theorem dX12_houseOf_13 : decode cX12_houseOf 13 = .ok (.iconst 0, 1) := by decide +kernel
theorem dX12_houseOf_14 : decode cX12_houseOf 14 = .ok (.ireturn, 1) := by decide +kernel
theorem dX12_houseOf_15 : decode cX12_houseOf 15 = .ok (.iload_n 3, 1) := by decide +kernel
theorem dX12_houseOf_16 : decode cX12_houseOf 16 = .ok (.ifCond .ne 7, 3) := by decide +kernel
theorem dX12_houseOf_19 : decode cX12_houseOf 19 = .ok (.iload_n 2, 1) := by decide +kernel
theorem dX12_houseOf_20 : decode cX12_houseOf 20 = .ok (.goto 19, 3) := by decide +kernel
theorem dX12_houseOf_23 : decode cX12_houseOf 23 = .ok (.iload_n 3, 1) := by decide +kernel
theorem dX12_houseOf_24 : decode cX12_houseOf 24 = .ok (.iconst 1, 1) := by decide +kernel
theorem dX12_houseOf_25 : decode cX12_houseOf 25 = .ok (.if_icmp .ne 11, 3) := by decide +kernel
theorem dX12_houseOf_28 : decode cX12_houseOf 28 = .ok (.iload_n 2, 1) := by decide +kernel
theorem dX12_houseOf_29 : decode cX12_houseOf 29 = .ok (.iconst 1, 1) := by decide +kernel
theorem dX12_houseOf_30 : decode cX12_houseOf 30 = .ok (.iadd, 1) := by decide +kernel
theorem dX12_houseOf_31 : decode cX12_houseOf 31 = .ok (.iconst 2, 1) := by decide +kernel
theorem dX12_houseOf_32 : decode cX12_houseOf 32 = .ok (.idiv, 1) := by decide +kernel
theorem dX12_houseOf_33 : decode cX12_houseOf 33 = .ok (.goto 6, 3) := by decide +kernel
theorem dX12_houseOf_36 : decode cX12_houseOf 36 = .ok (.iload_n 2, 1) := by decide +kernel
theorem dX12_houseOf_37 : decode cX12_houseOf 37 = .ok (.iconst 2, 1) := by decide +kernel
theorem dX12_houseOf_38 : decode cX12_houseOf 38 = .ok (.idiv, 1) := by decide +kernel
theorem dX12_houseOf_39 : decode cX12_houseOf 39 = .ok (.istore 4, 2) := by decide +kernel
theorem dX12_houseOf_41 : decode cX12_houseOf 41 = .ok (.iload 4, 2) := by decide +kernel
theorem dX12_houseOf_43 : decode cX12_houseOf 43 = .ok (.aload_n 0, 1) := by decide +kernel
theorem dX12_houseOf_44 : decode cX12_houseOf 44 = .ok (.getfield 37, 3) := by decide +kernel
theorem dX12_houseOf_47 : decode cX12_houseOf 47 = .ok (.iload_n 1, 1) := by decide +kernel
theorem dX12_houseOf_48 : decode cX12_houseOf 48 = .ok (.aaload, 1) := by decide +kernel
theorem dX12_houseOf_49 : decode cX12_houseOf 49 = .ok (.iconst 2, 1) := by decide +kernel
theorem dX12_houseOf_50 : decode cX12_houseOf 50 = .ok (.iaload, 1) := by decide +kernel
theorem dX12_houseOf_51 : decode cX12_houseOf 51 = .ok (.if_icmp .gt 8, 3) := by decide +kernel
theorem dX12_houseOf_54 : decode cX12_houseOf 54 = .ok (.iload 4, 2) := by decide +kernel
theorem dX12_houseOf_56 : decode cX12_houseOf 56 = .ok (.goto 4, 3) := by decide +kernel
theorem dX12_houseOf_59 : decode cX12_houseOf 59 = .ok (.iconst 0, 1) := by decide +kernel
theorem dX12_houseOf_60 : decode cX12_houseOf 60 = .ok (.ireturn, 1) := by decide +kernel
set_option maxRecDepth 100000 in
theorem T_X12_houseOf_0 {G : GE} {d C S : Nat} {P : KI} : Snd G MX12_houseOf d C S 0 (RI P) (s_iload 3 (s_if_eq (fun L st h => E G MX12_houseOf d C S 15 (msk [true, true, true, true, false] L) st h (RI P)) (s_iload 2 (s_iconst 2 (s_irem (s_iload 3 (s_iconst 2 (s_irem (s_ic_eq (fun L st h => E G MX12_houseOf d C S 15 (msk [true, true, true, true, false] L) st h (RI P)) (s_iconst 0 (s_ireturn P))))))))))) := (e_iload_n dX12_houseOf_0 rfl (e_if_eq (tgt := 15) dX12_houseOf_1 (by decide) (e_msk [true, true, true, true, false]) (e_iload_n dX12_houseOf_4 rfl (e_iconst (v := 2) dX12_houseOf_5 (by decide) (e_irem dX12_houseOf_6 (e_iload_n dX12_houseOf_7 rfl (e_iconst (v := 2) dX12_houseOf_8 (by decide) (e_irem dX12_houseOf_9 (e_ic_eq (tgt := 15) dX12_houseOf_10 (by decide) (e_msk [true, true, true, true, false]) (e_iconst (v := 0) dX12_houseOf_13 (by decide) (e_ireturn rfl dX12_houseOf_14)))))))))))
set_option maxRecDepth 100000 in
theorem V_X12_houseOf_0 {G : GE} {d : Nat} {P : KI} {a : Nat → Nat → Int32} {r : Nat → Nat → Value} {N : Nat} {l0 : Nat} {l1 : Int32} {l2 : Int32} {l3 : Int32} (hs : ((l3 = 0 → E G MX12_houseOf d 0 0 15 [.ref l0, .int l1, .int l2, .int l3, .null] [] (a, r, N) (RI P)) ∧ (¬ l3 = 0 → (¬ (2 : Int32) = 0 ∧ (¬ (2 : Int32) = 0 ∧ ((((l2 : Int32) - (l2 : Int32) / (2 : Int32) * (2 : Int32)) = ((l3 : Int32) - (l3 : Int32) / (2 : Int32) * (2 : Int32)) → E G MX12_houseOf d 0 0 15 [.ref l0, .int l1, .int l2, .int l3, .null] [] (a, r, N) (RI P)) ∧ (¬ ((l2 : Int32) - (l2 : Int32) / (2 : Int32) * (2 : Int32)) = ((l3 : Int32) - (l3 : Int32) / (2 : Int32) * (2 : Int32)) → P 0 a r N))))))) : Sp G d 0 0 MX12_houseOf [.ref l0, .int l1, .int l2, .int l3] (a, r, N) (RI P) := Sp.mk (mc := 0) (ms := 0) [.ref l0, .int l1, .int l2, .int l3, .null] rfl rfl rfl rfl (T_X12_houseOf_0 (C := 0) (S := 0) _ _ _ hs)
set_option maxRecDepth 100000 in
theorem T_X12_houseOf_15 {G : GE} {d C S : Nat} {P : KI} : Snd G MX12_houseOf d C S 15 (RI P) (s_iload 3 (s_if_ne (s_iload 3 (s_iconst 1 (s_ic_ne (s_iload 2 (s_iconst 2 (s_idiv (s_istore 4 (s_iload 4 (s_aload 0 (s_getR 11 16 (s_iload 1 (s_aaload (s_iconst 2 (s_iaload (s_ic_gt (s_iconst 0 (s_ireturn P)) (s_iload 4 (s_ireturn P)))))))))))))) (s_iload 2 (s_iconst 1 (s_iadd (s_iconst 2 (s_idiv (s_istore 4 (s_iload 4 (s_aload 0 (s_getR 11 16 (s_iload 1 (s_aaload (s_iconst 2 (s_iaload (s_ic_gt (s_iconst 0 (s_ireturn P)) (s_iload 4 (s_ireturn P))))))))))))))))))) (s_iload 2 (s_istore 4 (s_iload 4 (s_aload 0 (s_getR 11 16 (s_iload 1 (s_aaload (s_iconst 2 (s_iaload (s_ic_gt (s_iconst 0 (s_ireturn P)) (s_iload 4 (s_ireturn P)))))))))))))) := (e_iload_n dX12_houseOf_15 rfl (e_if_ne (tgt := 23) dX12_houseOf_16 (by decide) (e_iload_n dX12_houseOf_23 rfl (e_iconst (v := 1) dX12_houseOf_24 (by decide) (e_ic_ne (tgt := 36) dX12_houseOf_25 (by decide) (e_iload_n dX12_houseOf_36 rfl (e_iconst (v := 2) dX12_houseOf_37 (by decide) (e_idiv dX12_houseOf_38 (e_istore dX12_houseOf_39 (by decide) (e_iload dX12_houseOf_41 (e_aload_n dX12_houseOf_43 rfl (e_getR rfl cl_11 (by decide) rfl q_1580 dX12_houseOf_44 (e_iload_n dX12_houseOf_47 rfl (e_aaload dX12_houseOf_48 (e_iconst (v := 2) dX12_houseOf_49 (by decide) (e_iaload dX12_houseOf_50 (e_ic_gt (tgt := 59) dX12_houseOf_51 (by decide) (e_iconst (v := 0) dX12_houseOf_59 (by decide) (e_ireturn rfl dX12_houseOf_60)) (e_iload dX12_houseOf_54 (e_goto (tgt := 60) dX12_houseOf_56 (by decide) (e_ireturn rfl dX12_houseOf_60))))))))))))))) (e_iload_n dX12_houseOf_28 rfl (e_iconst (v := 1) dX12_houseOf_29 (by decide) (e_iadd dX12_houseOf_30 (e_iconst (v := 2) dX12_houseOf_31 (by decide) (e_idiv dX12_houseOf_32 (e_goto (tgt := 39) dX12_houseOf_33 (by decide) (e_istore dX12_houseOf_39 (by decide) (e_iload dX12_houseOf_41 (e_aload_n dX12_houseOf_43 rfl (e_getR rfl cl_11 (by decide) rfl q_1580 dX12_houseOf_44 (e_iload_n dX12_houseOf_47 rfl (e_aaload dX12_houseOf_48 (e_iconst (v := 2) dX12_houseOf_49 (by decide) (e_iaload dX12_houseOf_50 (e_ic_gt (tgt := 59) dX12_houseOf_51 (by decide) (e_iconst (v := 0) dX12_houseOf_59 (by decide) (e_ireturn rfl dX12_houseOf_60)) (e_iload dX12_houseOf_54 (e_goto (tgt := 60) dX12_houseOf_56 (by decide) (e_ireturn rfl dX12_houseOf_60))))))))))))))))))))) (e_iload_n dX12_houseOf_19 rfl (e_goto (tgt := 39) dX12_houseOf_20 (by decide) (e_istore dX12_houseOf_39 (by decide) (e_iload dX12_houseOf_41 (e_aload_n dX12_houseOf_43 rfl (e_getR rfl cl_11 (by decide) rfl q_1580 dX12_houseOf_44 (e_iload_n dX12_houseOf_47 rfl (e_aaload dX12_houseOf_48 (e_iconst (v := 2) dX12_houseOf_49 (by decide) (e_iaload dX12_houseOf_50 (e_ic_gt (tgt := 59) dX12_houseOf_51 (by decide) (e_iconst (v := 0) dX12_houseOf_59 (by decide) (e_ireturn rfl dX12_houseOf_60)) (e_iload dX12_houseOf_54 (e_goto (tgt := 60) dX12_houseOf_56 (by decide) (e_ireturn rfl dX12_houseOf_60))))))))))))))))
set_option maxRecDepth 100000 in
theorem V_X12_houseOf_15 {G : GE} {d C S : Nat} {P : KI} {a : Nat → Nat → Int32} {r : Nat → Nat → Value} {N : Nat} {l0 : Nat} {l1 : Int32} {l2 : Int32} {l3 : Int32} (hs : ((¬ l3 = 0 → ((¬ l3 = 1 → (¬ (2 : Int32) = 0 ∧ (tyK l0 = (0, 11) ∧ l0 < N ∧ ∃ q1, r l0 16 = .ref q1 ∧ ((tyK q1).1 = 3 ∧ q1 < N ∧ vp_in l1 (tyK q1).2 ∧ ((tyK (q1 + 1 + (l1 : Int32).toNatClampNeg)).1 = 1 ∧ (q1 + 1 + (l1 : Int32).toNatClampNeg) < N ∧ vp_in 2 (tyK (q1 + 1 + (l1 : Int32).toNatClampNeg)).2 ∧ (((a (q1 + 1 + (l1 : Int32).toNatClampNeg) (2 : Int32).toNatClampNeg) < ((l2 : Int32) / (2 : Int32)) → P 0 a r N) ∧ (¬ (a (q1 + 1 + (l1 : Int32).toNatClampNeg) (2 : Int32).toNatClampNeg) < ((l2 : Int32) / (2 : Int32)) → P ((l2 : Int32) / (2 : Int32)) a r N))))))) ∧ (l3 = 1 → (¬ (2 : Int32) = 0 ∧ (tyK l0 = (0, 11) ∧ l0 < N ∧ ∃ q2, r l0 16 = .ref q2 ∧ ((tyK q2).1 = 3 ∧ q2 < N ∧ vp_in l1 (tyK q2).2 ∧ ((tyK (q2 + 1 + (l1 : Int32).toNatClampNeg)).1 = 1 ∧ (q2 + 1 + (l1 : Int32).toNatClampNeg) < N ∧ vp_in 2 (tyK (q2 + 1 + (l1 : Int32).toNatClampNeg)).2 ∧ (((a (q2 + 1 + (l1 : Int32).toNatClampNeg) (2 : Int32).toNatClampNeg) < (((l2 + 1) : Int32) / (2 : Int32)) → P 0 a r N) ∧ (¬ (a (q2 + 1 + (l1 : Int32).toNatClampNeg) (2 : Int32).toNatClampNeg) < (((l2 + 1) : Int32) / (2 : Int32)) → P (((l2 + 1) : Int32) / (2 : Int32)) a r N))))))))) ∧ (l3 = 0 → (tyK l0 = (0, 11) ∧ l0 < N ∧ ∃ q3, r l0 16 = .ref q3 ∧ ((tyK q3).1 = 3 ∧ q3 < N ∧ vp_in l1 (tyK q3).2 ∧ ((tyK (q3 + 1 + (l1 : Int32).toNatClampNeg)).1 = 1 ∧ (q3 + 1 + (l1 : Int32).toNatClampNeg) < N ∧ vp_in 2 (tyK (q3 + 1 + (l1 : Int32).toNatClampNeg)).2 ∧ (((a (q3 + 1 + (l1 : Int32).toNatClampNeg) (2 : Int32).toNatClampNeg) < l2 → P 0 a r N) ∧ (¬ (a (q3 + 1 + (l1 : Int32).toNatClampNeg) (2 : Int32).toNatClampNeg) < l2 → P l2 a r N)))))))) : E G MX12_houseOf d C S 15 [.ref l0, .int l1, .int l2, .int l3, .null] [] (a, r, N) (RI P) := T_X12_houseOf_15 _ _ _ hs
theorem dX12_howNow_0 : decode cX12_howNow 0 = .ok (.aload_n 0, 1) := by decide +kernel
theorem dX12_howNow_1 : decode cX12_howNow 1 = .ok (.getfield 79, 3) := by decide +kernel
theorem dX12_howNow_4 : decode cX12_howNow 4 = .ok (.iload_n 1, 1) := by decide +kernel
theorem dX12_howNow_5 : decode cX12_howNow 5 = .ok (.invokestatic 289, 3) := by decide +kernel
theorem dX12_howNow_8 : decode cX12_howNow 8 = .ok (.iconst (-1), 1) := by decide +kernel
theorem dX12_howNow_9 : decode cX12_howNow 9 = .ok (.if_icmp .ne 7, 3) := by decide +kernel
theorem dX12_howNow_12 : decode cX12_howNow 12 = .ok (.iconst 0, 1) := by decide +kernel
theorem dX12_howNow_13 : decode cX12_howNow 13 = .ok (.goto 21, 3) := by decide +kernel
theorem dX12_howNow_16 : decode cX12_howNow 16 = .ok (.aload_n 0, 1) := by decide +kernel
theorem dX12_howNow_17 : decode cX12_howNow 17 = .ok (.getfield 79, 3) := by decide +kernel
theorem dX12_howNow_20 : decode cX12_howNow 20 = .ok (.bipush 8, 2) := by decide +kernel
theorem dX12_howNow_22 : decode cX12_howNow 22 = .ok (.iload_n 1, 1) := by decide +kernel
theorem dX12_howNow_23 : decode cX12_howNow 23 = .ok (.iadd, 1) := by decide +kernel
theorem dX12_howNow_24 : decode cX12_howNow 24 = .ok (.iaload, 1) := by decide +kernel
theorem dX12_howNow_25 : decode cX12_howNow 25 = .ok (.iconst 1, 1) := by decide +kernel
theorem dX12_howNow_26 : decode cX12_howNow 26 = .ok (.if_icmp .ne 7, 3) := by decide +kernel
theorem dX12_howNow_29 : decode cX12_howNow 29 = .ok (.iconst 1, 1) := by decide +kernel
theorem dX12_howNow_30 : decode cX12_howNow 30 = .ok (.goto 4, 3) := by decide +kernel
theorem dX12_howNow_33 : decode cX12_howNow 33 = .ok (.iconst 2, 1) := by decide +kernel
theorem dX12_howNow_34 : decode cX12_howNow 34 = .ok (.ireturn, 1) := by decide +kernel
set_option maxRecDepth 100000 in
theorem T_X12_howNow_0 {G : GE} {d C S : Nat} {P : KI} : Snd G MX12_howNow (d + 1) C S 0 (RI P) (s_aload 0 (s_getR 11 33 (s_iload 1 (s_call G d MX12_mateOf 2 (s_iconst (-1) (s_ic_ne (s_aload 0 (s_getR 11 33 (s_iconst 8 (s_iload 1 (s_iadd (s_iaload (s_iconst 1 (s_ic_ne (s_iconst 2 (s_ireturn P)) (s_iconst 1 (s_ireturn P)))))))))) (s_iconst 0 (s_ireturn P)))))))) := (e_aload_n dX12_howNow_0 rfl (e_getR rfl cl_11 (by decide) rfl q_1597 dX12_howNow_1 (e_iload_n dX12_howNow_4 rfl (e_callS cal_X12_mateOf q_1878 q_1879 dX12_howNow_5 (e_iconst (v := (-1)) dX12_howNow_8 (by decide) (e_ic_ne (tgt := 16) dX12_howNow_9 (by decide) (e_aload_n dX12_howNow_16 rfl (e_getR rfl cl_11 (by decide) rfl q_1597 dX12_howNow_17 (e_bipush (v := 8) dX12_howNow_20 (by decide) (e_iload_n dX12_howNow_22 rfl (e_iadd dX12_howNow_23 (e_iaload dX12_howNow_24 (e_iconst (v := 1) dX12_howNow_25 (by decide) (e_ic_ne (tgt := 33) dX12_howNow_26 (by decide) (e_iconst (v := 2) dX12_howNow_33 (by decide) (e_ireturn rfl dX12_howNow_34)) (e_iconst (v := 1) dX12_howNow_29 (by decide) (e_goto (tgt := 34) dX12_howNow_30 (by decide) (e_ireturn rfl dX12_howNow_34))))))))))) (e_iconst (v := 0) dX12_howNow_12 (by decide) (e_goto (tgt := 34) dX12_howNow_13 (by decide) (e_ireturn rfl dX12_howNow_34)))))))))
set_option maxRecDepth 100000 in
theorem V_X12_howNow_0 {G : GE} {d : Nat} {P : KI} {a : Nat → Nat → Int32} {r : Nat → Nat → Value} {N : Nat} {l0 : Nat} {l1 : Int32} (hs : (tyK l0 = (0, 11) ∧ l0 < N ∧ ∃ q1, r l0 33 = .ref q1 ∧ Sp G d 0 0 MX12_mateOf [.ref q1, .int l1] (a, r, N) (RI fun v5 a2 r3 n4 => ((¬ v5 = (-1) → (tyK l0 = (0, 11) ∧ l0 < n4 ∧ ∃ q6, r3 l0 33 = .ref q6 ∧ ((tyK q6).1 = 1 ∧ q6 < n4 ∧ vp_in ((8 : Int32) + l1) (tyK q6).2 ∧ ((¬ (a2 q6 (((8 : Int32) + l1) : Int32).toNatClampNeg) = 1 → P 2 a2 r3 n4) ∧ ((a2 q6 (((8 : Int32) + l1) : Int32).toNatClampNeg) = 1 → P 1 a2 r3 n4))))) ∧ (v5 = (-1) → P 0 a2 r3 n4))))) : Sp G (d + 1) 0 0 MX12_howNow [.ref l0, .int l1] (a, r, N) (RI P) := Sp.mk (mc := 0) (ms := 0) [.ref l0, .int l1] rfl rfl rfl rfl (T_X12_howNow_0 (C := 0) (S := 0) _ _ _ hs)
theorem dX12_letterTo_0 : decode cX12_letterTo 0 = .ok (.aload_n 0, 1) := by decide +kernel
theorem dX12_letterTo_1 : decode cX12_letterTo 1 = .ok (.getfield 79, 3) := by decide +kernel
theorem dX12_letterTo_4 : decode cX12_letterTo 4 = .ok (.iload_n 1, 1) := by decide +kernel
theorem dX12_letterTo_5 : decode cX12_letterTo 5 = .ok (.invokestatic 289, 3) := by decide +kernel
theorem dX12_letterTo_8 : decode cX12_letterTo 8 = .ok (.istore_n 3, 1) := by decide +kernel
theorem dX12_letterTo_9 : decode cX12_letterTo 9 = .ok (.aload_n 0, 1) := by decide +kernel
theorem dX12_letterTo_10 : decode cX12_letterTo 10 = .ok (.iload_n 1, 1) := by decide +kernel
theorem dX12_letterTo_11 : decode cX12_letterTo 11 = .ok (.iload_n 2, 1) := by decide +kernel
theorem dX12_letterTo_12 : decode cX12_letterTo 12 = .ok (.aload_n 0, 1) := by decide +kernel
theorem dX12_letterTo_13 : decode cX12_letterTo 13 = .ok (.iload_n 1, 1) := by decide +kernel
theorem dX12_letterTo_14 : decode cX12_letterTo 14 = .ok (.invokevirtual 343, 3) := by decide +kernel
theorem dX12_letterTo_17 : decode cX12_letterTo 17 = .ok (.invokevirtual 346, 3) := by decide +kernel
theorem dX12_letterTo_20 : decode cX12_letterTo 20 = .ok (.istore 4, 2) := by decide +kernel
theorem dX12_letterTo_22 : decode cX12_letterTo 22 = .ok (.iload 4, 2) := by decide +kernel
theorem dX12_letterTo_24 : decode cX12_letterTo 24 = .ok (.ifCond .le 11, 3) := by decide +kernel
theorem dX12_letterTo_27 : decode cX12_letterTo 27 = .ok (.bipush 100, 2) := by decide +kernel
theorem dX12_letterTo_29 : decode cX12_letterTo 29 = .ok (.iload_n 1, 1) := by decide +kernel
theorem dX12_letterTo_30 : decode cX12_letterTo 30 = .ok (.imul, 1) := by decide +kernel
theorem dX12_letterTo_31 : decode cX12_letterTo 31 = .ok (.iload 4, 2) := by decide +kernel
theorem dX12_letterTo_33 : decode cX12_letterTo 33 = .ok (.iadd, 1) := by decide +kernel
theorem dX12_letterTo_34 : decode cX12_letterTo 34 = .ok (.ireturn, 1) := by decide +kernel
theorem dX12_letterTo_35 : decode cX12_letterTo 35 = .ok (.iload_n 3, 1) := by decide +kernel
theorem dX12_letterTo_36 : decode cX12_letterTo 36 = .ok (.iconst (-1), 1) := by decide +kernel
theorem dX12_letterTo_37 : decode cX12_letterTo 37 = .ok (.if_icmp .ne 7, 3) := by decide +kernel
theorem dX12_letterTo_40 : decode cX12_letterTo 40 = .ok (.iconst 0, 1) := by decide +kernel
theorem dX12_letterTo_41 : decode cX12_letterTo 41 = .ok (.goto 14, 3) := by decide +kernel
theorem dX12_letterTo_44 : decode cX12_letterTo 44 = .ok (.aload_n 0, 1) := by decide +kernel
theorem dX12_letterTo_45 : decode cX12_letterTo 45 = .ok (.iload_n 3, 1) := by decide +kernel
theorem dX12_letterTo_46 : decode cX12_letterTo 46 = .ok (.iload_n 2, 1) := by decide +kernel
theorem dX12_letterTo_47 : decode cX12_letterTo 47 = .ok (.aload_n 0, 1) := by decide +kernel
theorem dX12_letterTo_48 : decode cX12_letterTo 48 = .ok (.iload_n 3, 1) := by decide +kernel
theorem dX12_letterTo_49 : decode cX12_letterTo 49 = .ok (.invokevirtual 343, 3) := by decide +kernel
theorem dX12_letterTo_52 : decode cX12_letterTo 52 = .ok (.invokevirtual 346, 3) := by decide +kernel
theorem dX12_letterTo_55 : decode cX12_letterTo 55 = .ok (.istore 4, 2) := by decide +kernel
theorem dX12_letterTo_57 : decode cX12_letterTo 57 = .ok (.iload 4, 2) := by decide +kernel
theorem dX12_letterTo_59 : decode cX12_letterTo 59 = .ok (.ifCond .le 13, 3) := by decide +kernel
theorem dX12_letterTo_62 : decode cX12_letterTo 62 = .ok (.bipush 100, 2) := by decide +kernel
theorem dX12_letterTo_64 : decode cX12_letterTo 64 = .ok (.iload_n 3, 1) := by decide +kernel
theorem dX12_letterTo_65 : decode cX12_letterTo 65 = .ok (.imul, 1) := by decide +kernel
theorem dX12_letterTo_66 : decode cX12_letterTo 66 = .ok (.iload 4, 2) := by decide +kernel
theorem dX12_letterTo_68 : decode cX12_letterTo 68 = .ok (.iadd, 1) := by decide +kernel
theorem dX12_letterTo_69 : decode cX12_letterTo 69 = .ok (.goto 4, 3) := by decide +kernel
theorem dX12_letterTo_72 : decode cX12_letterTo 72 = .ok (.iconst (-1), 1) := by decide +kernel
theorem dX12_letterTo_73 : decode cX12_letterTo 73 = .ok (.ireturn, 1) := by decide +kernel
set_option maxRecDepth 100000 in
theorem T_X12_letterTo_0 {G : GE} {d C S : Nat} {P : KI} : Snd G MX12_letterTo (d + 1) C S 0 (RI P) (s_aload 0 (s_getR 11 33 (s_iload 1 (s_call G d MX12_mateOf 2 (s_istore 3 (s_aload 0 (s_iload 1 (s_iload 2 (s_aload 0 (s_iload 1 (s_callV G d MX12_howNow 1 11 (s_callV G d MX12_houseOf 3 11 (s_istore 4 (s_iload 4 (s_if_le (s_iload 3 (s_iconst (-1) (s_ic_ne (s_aload 0 (s_iload 3 (s_iload 2 (s_aload 0 (s_iload 3 (s_callV G d MX12_howNow 1 11 (s_callV G d MX12_houseOf 3 11 (s_istore 4 (s_iload 4 (s_if_le (s_iconst (-1) (s_ireturn P)) (s_iconst 100 (s_iload 3 (s_imul (s_iload 4 (s_iadd (s_ireturn P)))))))))))))))) (s_iconst 0 (s_istore 4 (s_iload 4 (s_if_le (s_iconst (-1) (s_ireturn P)) (s_iconst 100 (s_iload 3 (s_imul (s_iload 4 (s_iadd (s_ireturn P))))))))))))) (s_iconst 100 (s_iload 1 (s_imul (s_iload 4 (s_iadd (s_ireturn P))))))))))))))))))))) := (e_aload_n dX12_letterTo_0 rfl (e_getR rfl cl_11 (by decide) rfl q_1597 dX12_letterTo_1 (e_iload_n dX12_letterTo_4 rfl (e_callS cal_X12_mateOf q_1878 q_1879 dX12_letterTo_5 (e_istore_n dX12_letterTo_8 rfl (by decide) (e_aload_n dX12_letterTo_9 rfl (e_iload_n dX12_letterTo_10 rfl (e_iload_n dX12_letterTo_11 rfl (e_aload_n dX12_letterTo_12 rfl (e_iload_n dX12_letterTo_13 rfl (e_callV cl_11 cal_X12_howNow q_1961 q_1963 q_87 dX12_letterTo_14 (e_callV cl_11 cal_X12_houseOf q_1976 q_1978 q_89 dX12_letterTo_17 (e_istore dX12_letterTo_20 (by decide) (e_iload dX12_letterTo_22 (e_if_le (tgt := 35) dX12_letterTo_24 (by decide) (e_iload_n dX12_letterTo_35 rfl (e_iconst (v := (-1)) dX12_letterTo_36 (by decide) (e_ic_ne (tgt := 44) dX12_letterTo_37 (by decide) (e_aload_n dX12_letterTo_44 rfl (e_iload_n dX12_letterTo_45 rfl (e_iload_n dX12_letterTo_46 rfl (e_aload_n dX12_letterTo_47 rfl (e_iload_n dX12_letterTo_48 rfl (e_callV cl_11 cal_X12_howNow q_1961 q_1963 q_87 dX12_letterTo_49 (e_callV cl_11 cal_X12_houseOf q_1976 q_1978 q_89 dX12_letterTo_52 (e_istore dX12_letterTo_55 (by decide) (e_iload dX12_letterTo_57 (e_if_le (tgt := 72) dX12_letterTo_59 (by decide) (e_iconst (v := (-1)) dX12_letterTo_72 (by decide) (e_ireturn rfl dX12_letterTo_73)) (e_bipush (v := 100) dX12_letterTo_62 (by decide) (e_iload_n dX12_letterTo_64 rfl (e_imul dX12_letterTo_65 (e_iload dX12_letterTo_66 (e_iadd dX12_letterTo_68 (e_goto (tgt := 73) dX12_letterTo_69 (by decide) (e_ireturn rfl dX12_letterTo_73))))))))))))))))) (e_iconst (v := 0) dX12_letterTo_40 (by decide) (e_goto (tgt := 55) dX12_letterTo_41 (by decide) (e_istore dX12_letterTo_55 (by decide) (e_iload dX12_letterTo_57 (e_if_le (tgt := 72) dX12_letterTo_59 (by decide) (e_iconst (v := (-1)) dX12_letterTo_72 (by decide) (e_ireturn rfl dX12_letterTo_73)) (e_bipush (v := 100) dX12_letterTo_62 (by decide) (e_iload_n dX12_letterTo_64 rfl (e_imul dX12_letterTo_65 (e_iload dX12_letterTo_66 (e_iadd dX12_letterTo_68 (e_goto (tgt := 73) dX12_letterTo_69 (by decide) (e_ireturn rfl dX12_letterTo_73))))))))))))))) (e_bipush (v := 100) dX12_letterTo_27 (by decide) (e_iload_n dX12_letterTo_29 rfl (e_imul dX12_letterTo_30 (e_iload dX12_letterTo_31 (e_iadd dX12_letterTo_33 (e_ireturn rfl dX12_letterTo_34)))))))))))))))))))))
set_option maxRecDepth 100000 in
theorem V_X12_letterTo_0 {G : GE} {d : Nat} {P : KI} {a : Nat → Nat → Int32} {r : Nat → Nat → Value} {N : Nat} {l0 : Nat} {l1 : Int32} {l2 : Int32} (hs : (tyK l0 = (0, 11) ∧ l0 < N ∧ ∃ q1, r l0 33 = .ref q1 ∧ Sp G d 0 0 MX12_mateOf [.ref q1, .int l1] (a, r, N) (RI fun v5 a2 r3 n4 => (tyK l0 = (0, 11) ∧ l0 < n4 ∧ Sp G d 0 0 MX12_howNow [.ref l0, .int l1] (a2, r3, n4) (RI fun v9 a6 r7 n8 => (tyK l0 = (0, 11) ∧ l0 < n8 ∧ Sp G d 0 0 MX12_houseOf [.ref l0, .int l1, .int l2, .int v9] (a6, r7, n8) (RI fun v13 a10 r11 n12 => ((v13 ≤ 0 → ((¬ v5 = (-1) → (tyK l0 = (0, 11) ∧ l0 < n12 ∧ Sp G d 0 0 MX12_howNow [.ref l0, .int v5] (a10, r11, n12) (RI fun v17 a14 r15 n16 => (tyK l0 = (0, 11) ∧ l0 < n16 ∧ Sp G d 0 0 MX12_houseOf [.ref l0, .int v5, .int l2, .int v17] (a14, r15, n16) (RI fun v21 a18 r19 n20 => ((v21 ≤ 0 → P (-1) a18 r19 n20) ∧ (¬ v21 ≤ 0 → P (((100 : Int32) * v5) + v21) a18 r19 n20))))))) ∧ (v5 = (-1) → (((0 : Int32) ≤ 0 → P (-1) a10 r11 n12) ∧ (¬ (0 : Int32) ≤ 0 → P (((100 : Int32) * v5) + 0) a10 r11 n12))))) ∧ (¬ v13 ≤ 0 → P (((100 : Int32) * l1) + v13) a10 r11 n12))))))))) : Sp G (d + 1) 0 0 MX12_letterTo [.ref l0, .int l1, .int l2] (a, r, N) (RI P) := Sp.mk (mc := 0) (ms := 0) [.ref l0, .int l1, .int l2, .null, .null] rfl rfl rfl rfl (T_X12_letterTo_0 (C := 0) (S := 0) _ _ _ hs)
theorem dX12_numberBy_0 : decode cX12_numberBy 0 = .ok (.iload_n 1, 1) := by decide +kernel
theorem dX12_numberBy_1 : decode cX12_numberBy 1 = .ok (.ifCond .ne 7, 3) := by decide +kernel
theorem dX12_numberBy_4 : decode cX12_numberBy 4 = .ok (.iload_n 0, 1) := by decide +kernel
theorem dX12_numberBy_5 : decode cX12_numberBy 5 = .ok (.goto 19, 3) := by decide +kernel
theorem dX12_numberBy_8 : decode cX12_numberBy 8 = .ok (.iload_n 1, 1) := by decide +kernel
theorem dX12_numberBy_9 : decode cX12_numberBy 9 = .ok (.iconst 1, 1) := by decide +kernel
theorem dX12_numberBy_10 : decode cX12_numberBy 10 = .ok (.if_icmp .ne 11, 3) := by decide +kernel
theorem dX12_numberBy_13 : decode cX12_numberBy 13 = .ok (.iconst 2, 1) := by decide +kernel
theorem dX12_numberBy_14 : decode cX12_numberBy 14 = .ok (.iload_n 0, 1) := by decide +kernel
theorem dX12_numberBy_15 : decode cX12_numberBy 15 = .ok (.imul, 1) := by decide +kernel
theorem dX12_numberBy_16 : decode cX12_numberBy 16 = .ok (.iconst 1, 1) := by decide +kernel
theorem dX12_numberBy_17 : decode cX12_numberBy 17 = .ok (.isub, 1) := by decide +kernel
theorem dX12_numberBy_18 : decode cX12_numberBy 18 = .ok (.goto 6, 3) := by decide +kernel
theorem dX12_numberBy_21 : decode cX12_numberBy 21 = .ok (.iconst 2, 1) := by decide +kernel
theorem dX12_numberBy_22 : decode cX12_numberBy 22 = .ok (.iload_n 0, 1) := by decide +kernel
theorem dX12_numberBy_23 : decode cX12_numberBy 23 = .ok (.imul, 1) := by decide +kernel
theorem dX12_numberBy_24 : decode cX12_numberBy 24 = .ok (.ireturn, 1) := by decide +kernel
set_option maxRecDepth 100000 in
theorem T_X12_numberBy_0 {G : GE} {d C S : Nat} {P : KI} : Snd G MX12_numberBy d C S 0 (RI P) (s_iload 1 (s_if_ne (s_iload 1 (s_iconst 1 (s_ic_ne (s_iconst 2 (s_iload 0 (s_imul (s_ireturn P)))) (s_iconst 2 (s_iload 0 (s_imul (s_iconst 1 (s_isub (s_ireturn P))))))))) (s_iload 0 (s_ireturn P)))) := (e_iload_n dX12_numberBy_0 rfl (e_if_ne (tgt := 8) dX12_numberBy_1 (by decide) (e_iload_n dX12_numberBy_8 rfl (e_iconst (v := 1) dX12_numberBy_9 (by decide) (e_ic_ne (tgt := 21) dX12_numberBy_10 (by decide) (e_iconst (v := 2) dX12_numberBy_21 (by decide) (e_iload_n dX12_numberBy_22 rfl (e_imul dX12_numberBy_23 (e_ireturn rfl dX12_numberBy_24)))) (e_iconst (v := 2) dX12_numberBy_13 (by decide) (e_iload_n dX12_numberBy_14 rfl (e_imul dX12_numberBy_15 (e_iconst (v := 1) dX12_numberBy_16 (by decide) (e_isub dX12_numberBy_17 (e_goto (tgt := 24) dX12_numberBy_18 (by decide) (e_ireturn rfl dX12_numberBy_24)))))))))) (e_iload_n dX12_numberBy_4 rfl (e_goto (tgt := 24) dX12_numberBy_5 (by decide) (e_ireturn rfl dX12_numberBy_24)))))
set_option maxRecDepth 100000 in
theorem V_X12_numberBy_0 {G : GE} {d : Nat} {P : KI} {a : Nat → Nat → Int32} {r : Nat → Nat → Value} {N : Nat} {l0 : Int32} {l1 : Int32} (hs : ((¬ l1 = 0 → ((¬ l1 = 1 → P ((2 : Int32) * l0) a r N) ∧ (l1 = 1 → P (((2 : Int32) * l0) - 1) a r N))) ∧ (l1 = 0 → P l0 a r N))) : Sp G d 0 0 MX12_numberBy [.int l0, .int l1] (a, r, N) (RI P) := Sp.mk (mc := 0) (ms := 0) [.int l0, .int l1] rfl rfl rfl rfl (T_X12_numberBy_0 (C := 0) (S := 0) _ _ _ hs)
