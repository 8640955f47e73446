theorem dX12_law_0 : decode cX12_law 0 = .ok (.aload_n 0, 1) := by decide +kernel
theorem dX12_law_1 : decode cX12_law 1 = .ok (.iconst 0, 1) := by decide +kernel
theorem dX12_law_2 : decode cX12_law 2 = .ok (.putfield 115, 3) := by decide +kernel
theorem dX12_law_5 : decode cX12_law 5 = .ok (.aload_n 0, 1) := by decide +kernel
theorem dX12_law_6 : decode cX12_law 6 = .ok (.iload_n 1, 1) := by decide +kernel
theorem dX12_law_7 : decode cX12_law 7 = .ok (.iconst 0, 1) := by decide +kernel
theorem dX12_law_8 : decode cX12_law 8 = .ok (.aload_n 0, 1) := by decide +kernel
theorem dX12_law_9 : decode cX12_law 9 = .ok (.getfield 118, 3) := by decide +kernel
theorem dX12_law_12 : decode cX12_law 12 = .ok (.invokestatic 149, 3) := by decide +kernel
theorem dX12_law_15 : decode cX12_law 15 = .ok (.ifCond .eq 10, 3) := by decide +kernel
theorem dX12_law_18 : decode cX12_law 18 = .ok (.iload_n 1, 1) := by decide +kernel
theorem dX12_law_19 : decode cX12_law 19 = .ok (.sipush 150, 3) := by decide +kernel
theorem dX12_law_22 : decode cX12_law 22 = .ok (.if_icmp .le 7, 3) := by decide +kernel
theorem dX12_law_25 : decode cX12_law 25 = .ok (.iconst 1, 1) := by decide +kernel
theorem dX12_law_26 : decode cX12_law 26 = .ok (.goto 4, 3) := by decide +kernel
theorem dX12_law_29 : decode cX12_law 29 = .ok (.iconst 0, 1) := by decide +kernel
theorem dX12_law_30 : decode cX12_law 30 = .ok (.iconst 1, 1) := by decide +kernel
theorem dX12_law_31 : decode cX12_law 31 = .ok (.iconst 2, 1) := by decide +kernel
theorem dX12_law_32 : decode cX12_law 32 = .ok (.invokevirtual 198, 3) := by decide +kernel
theorem dX12_law_35 : decode cX12_law 35 = .ok (.ifCond .eq 5, 3) := by decide +kernel
theorem dX12_law_38 : decode cX12_law 38 = .ok (.iconst 0, 1) := by decide +kernel
theorem dX12_law_39 : decode cX12_law 39 = .ok (.ireturn, 1) := by decide +kernel
theorem dX12_law_40 : decode cX12_law 40 = .ok (.aload_n 0, 1) := by decide +kernel
theorem dX12_law_41 : decode cX12_law 41 = .ok (.iload_n 1, 1) := by decide +kernel
theorem dX12_law_42 : decode cX12_law 42 = .ok (.invokevirtual 202, 3) := by decide +kernel
theorem dX12_law_45 : decode cX12_law 45 = .ok (.aload_n 0, 1) := by decide +kernel
theorem dX12_law_46 : decode cX12_law 46 = .ok (.iconst 0, 1) := by decide +kernel
theorem dX12_law_47 : decode cX12_law 47 = .ok (.putfield 230, 3) := by decide +kernel
theorem dX12_law_50 : decode cX12_law 50 = .ok (.aload_n 0, 1) := by decide +kernel
theorem dX12_law_51 : decode cX12_law 51 = .ok (.invokevirtual 252, 3) := by decide +kernel
theorem dX12_law_54 : decode cX12_law 54 = .ok (.aload_n 0, 1) := by decide +kernel
theorem dX12_law_55 : decode cX12_law 55 = .ok (.invokevirtual 137, 3) := by decide +kernel
theorem dX12_law_58 : decode cX12_law 58 = .ok (.aload_n 0, 1) := by decide +kernel
theorem dX12_law_59 : decode cX12_law 59 = .ok (.getfield 131, 3) := by decide +kernel
theorem dX12_law_62 : decode cX12_law 62 = .ok (.ifCond .ne 23, 3) := by decide +kernel
theorem dX12_law_65 : decode cX12_law 65 = .ok (.aload_n 0, 1) := by decide +kernel
theorem dX12_law_66 : decode cX12_law 66 = .ok (.getfield 124, 3) := by decide +kernel
theorem dX12_law_69 : decode cX12_law 69 = .ok (.aload_n 0, 1) := by decide +kernel
theorem dX12_law_70 : decode cX12_law 70 = .ok (.getfield 121, 3) := by decide +kernel
theorem dX12_law_73 : decode cX12_law 73 = .ok (.if_icmp .ge 12, 3) := by decide +kernel
theorem dX12_law_76 : decode cX12_law 76 = .ok (.aload_n 0, 1) := by decide +kernel
theorem dX12_law_77 : decode cX12_law 77 = .ok (.iconst 1, 1) := by decide +kernel
theorem dX12_law_78 : decode cX12_law 78 = .ok (.aload_n 0, 1) := by decide +kernel
theorem dX12_law_79 : decode cX12_law 79 = .ok (.getfield 124, 3) := by decide +kernel
theorem dX12_law_82 : decode cX12_law 82 = .ok (.invokevirtual 144, 3) := by decide +kernel
theorem dX12_law_85 : decode cX12_law 85 = .ok (.aload_n 0, 1) := by decide +kernel
theorem dX12_law_86 : decode cX12_law 86 = .ok (.getfield 131, 3) := by decide +kernel
theorem dX12_law_89 : decode cX12_law 89 = .ok (.ifCond .eq 8, 3) := by decide +kernel
theorem dX12_law_92 : decode cX12_law 92 = .ok (.aload_n 0, 1) := by decide +kernel
theorem dX12_law_93 : decode cX12_law 93 = .ok (.invokevirtual 208, 3) := by decide +kernel
theorem dX12_law_96 : decode cX12_law 96 = .ok (.ireturn, 1) := by decide +kernel
theorem dX12_law_97 : decode cX12_law 97 = .ok (.aload_n 0, 1) := by decide +kernel
theorem dX12_law_98 : decode cX12_law 98 = .ok (.iconst (-1), 1) := by decide +kernel
theorem dX12_law_99 : decode cX12_law 99 = .ok (.putfield 9, 3) := by decide +kernel
theorem dX12_law_102 : decode cX12_law 102 = .ok (.aload_n 0, 1) := by decide +kernel
theorem dX12_law_103 : decode cX12_law 103 = .ok (.aload_n 0, 1) := by decide +kernel
theorem dX12_law_104 : decode cX12_law 104 = .ok (.getfield 230, 3) := by decide +kernel
theorem dX12_law_107 : decode cX12_law 107 = .ok (.putfield 215, 3) := by decide +kernel
theorem dX12_law_110 : decode cX12_law 110 = .ok (.aload_n 0, 1) := by decide +kernel
theorem dX12_law_111 : decode cX12_law 111 = .ok (.getfield 61, 3) := by decide +kernel
theorem dX12_law_114 : decode cX12_law 114 = .ok (.aload_n 0, 1) := by decide +kernel
theorem dX12_law_115 : decode cX12_law 115 = .ok (.getfield 58, 3) := by decide +kernel
theorem dX12_law_118 : decode cX12_law 118 = .ok (.aload_n 0, 1) := by decide +kernel
theorem dX12_law_119 : decode cX12_law 119 = .ok (.getfield 215, 3) := by decide +kernel
theorem dX12_law_122 : decode cX12_law 122 = .ok (.invokestatic 211, 3) := by decide +kernel
theorem dX12_law_125 : decode cX12_law 125 = .ok (.iconst 1, 1) := by decide +kernel
theorem dX12_law_126 : decode cX12_law 126 = .ok (.ireturn, 1) := by decide +kernel
set_option maxRecDepth 100000 in
theorem T_X12_law_0 {G : GE} {d C S : Nat} {P : KI} : Snd G MX12_law (d + 1) C S 0 (RI P) (s_aload 0 (s_iconst 0 (s_putI 11 0 (s_aload 0 (s_iload 1 (s_iconst 0 (s_aload 0 (s_getI 11 1 (s_call G d MX12_in 3 (s_if_eq (s_iconst 1 (fun L st h => E G MX12_law (d + 1) C S 30 (msk [true, true] L) st h (RI P))) (s_iload 1 (s_iconst 150 (s_ic_le (s_iconst 0 (fun L st h => E G MX12_law (d + 1) C S 30 (msk [true, true] L) st h (RI P))) (s_iconst 1 (fun L st h => E G MX12_law (d + 1) C S 30 (msk [true, true] L) st h (RI P)))))))))))))))) := (e_aload_n dX12_law_0 rfl (e_iconst (v := 0) dX12_law_1 (by decide) (e_putI rfl cl_11 (by decide) rfl rfl rfl q_1564 dX12_law_2 (e_aload_n dX12_law_5 rfl (e_iload_n dX12_law_6 rfl (e_iconst (v := 0) dX12_law_7 (by decide) (e_aload_n dX12_law_8 rfl (e_getI rfl cl_11 (by decide) rfl q_1565 dX12_law_9 (e_callS cal_X12_in q_1739 q_1740 dX12_law_12 (e_if_eq (tgt := 25) dX12_law_15 (by decide) (e_iconst (v := 1) dX12_law_25 (by decide) (e_goto (tgt := 30) dX12_law_26 (by decide) (e_msk [true, true]))) (e_iload_n dX12_law_18 rfl (e_sipush (v := 150) dX12_law_19 (by decide) (e_ic_le (tgt := 29) dX12_law_22 (by decide) (e_iconst (v := 0) dX12_law_29 (by decide) (e_msk [true, true])) (e_iconst (v := 1) dX12_law_25 (by decide) (e_goto (tgt := 30) dX12_law_26 (by decide) (e_msk [true, true]))))))))))))))))
set_option maxRecDepth 100000 in
theorem V_X12_law_0 {G : GE} {d : Nat} {P : KI} {a : Nat → Nat → Int32} {r : Nat → Nat → Value} {N : Nat} {l0 : Nat} {l1 : Int32} (hs : (tyK l0 = (0, 11) ∧ l0 < N ∧ ∀ a1, a1 = u2 a l0 0 0 → (tyK l0 = (0, 11) ∧ l0 < N ∧ Sp G d 0 0 MX12_in [.int l1, .int 0, .int (a1 l0 1)] (a1, r, N) (RI fun v5 a2 r3 n4 => ((v5 = 0 → E G MX12_law (d + 1) 0 0 30 [.ref l0, .int l1] [.int 1, .ref l0] (a2, r3, n4) (RI P)) ∧ (¬ v5 = 0 → ((l1 ≤ 150 → E G MX12_law (d + 1) 0 0 30 [.ref l0, .int l1] [.int 0, .ref l0] (a2, r3, n4) (RI P)) ∧ (¬ l1 ≤ 150 → E G MX12_law (d + 1) 0 0 30 [.ref l0, .int l1] [.int 1, .ref l0] (a2, r3, n4) (RI P))))))))) : Sp G (d + 1) 0 0 MX12_law [.ref l0, .int l1] (a, r, N) (RI P) := Sp.mk (mc := 0) (ms := 0) [.ref l0, .int l1] rfl rfl rfl rfl (T_X12_law_0 (C := 0) (S := 0) _ _ _ hs)
set_option maxRecDepth 100000 in
theorem T_X12_law_30 {G : GE} {d C S : Nat} {P : KI} : Snd G MX12_law (d + 1) C S 30 (RI P) (s_iconst 1 (s_iconst 2 (s_callV G d MX12_bad 3 11 (s_if_eq (s_aload 0 (s_iload 1 (s_callV G d MX12_starts 1 11 (s_aload 0 (s_iconst 0 (s_putI 11 24 (s_aload 0 (s_callV G d MX12_sum 0 11 (s_aload 0 (s_callV G d MX12_blanks 0 11 (s_aload 0 (s_getI 11 5 (s_if_ne (s_aload 0 (s_getI 11 5 (s_if_eq (s_aload 0 (s_iconst (-1) (s_putI 11 3 (s_aload 0 (s_aload 0 (s_getI 11 24 (s_putI 11 23 (s_aload 0 (s_getR 11 26 (s_aload 0 (s_getR 11 25 (s_aload 0 (s_getI 11 23 (s_call G d MX12_lays 3 (s_iconst 1 (s_ireturn P)))))))))))))))) (s_aload 0 (s_callV G d MX12_ends 0 11 (s_ireturn P)))))) (s_aload 0 (s_getI 11 4 (s_aload 0 (s_getI 11 2 (s_ic_ge (s_aload 0 (s_getI 11 5 (s_if_eq (s_aload 0 (s_iconst (-1) (s_putI 11 3 (s_aload 0 (s_aload 0 (s_getI 11 24 (s_putI 11 23 (s_aload 0 (s_getR 11 26 (s_aload 0 (s_getR 11 25 (s_aload 0 (s_getI 11 23 (s_call G d MX12_lays 3 (s_iconst 1 (s_ireturn P)))))))))))))))) (s_aload 0 (s_callV G d MX12_ends 0 11 (s_ireturn P)))))) (s_aload 0 (s_iconst 1 (s_aload 0 (s_getI 11 4 (s_callV G d MX12_wrong 2 11 (s_aload 0 (s_getI 11 5 (s_if_eq (s_aload 0 (s_iconst (-1) (s_putI 11 3 (s_aload 0 (s_aload 0 (s_getI 11 24 (s_putI 11 23 (s_aload 0 (s_getR 11 26 (s_aload 0 (s_getR 11 25 (s_aload 0 (s_getI 11 23 (s_call G d MX12_lays 3 (s_iconst 1 (s_ireturn P)))))))))))))))) (s_aload 0 (s_callV G d MX12_ends 0 11 (s_ireturn P))))))))))))))))))))))))))))) (s_iconst 0 (s_ireturn P)))))) := (e_iconst (v := 1) dX12_law_30 (by decide) (e_iconst (v := 2) dX12_law_31 (by decide) (e_callV cl_11 cal_X12_bad q_1742 q_1744 q_53 dX12_law_32 (e_if_eq (tgt := 40) dX12_law_35 (by decide) (e_aload_n dX12_law_40 rfl (e_iload_n dX12_law_41 rfl (e_callV cl_11 cal_X12_starts q_1746 q_1748 q_54 dX12_law_42 (e_aload_n dX12_law_45 rfl (e_iconst (v := 0) dX12_law_46 (by decide) (e_putI rfl cl_11 (by decide) rfl rfl rfl q_1588 dX12_law_47 (e_aload_n dX12_law_50 rfl (e_callV cl_11 cal_X12_sum q_1815 q_1817 q_67 dX12_law_51 (e_aload_n dX12_law_54 rfl (e_callV cl_11 cal_X12_blanks q_1750 q_1752 q_55 dX12_law_55 (e_aload_n dX12_law_58 rfl (e_getI rfl cl_11 (by decide) rfl q_1569 dX12_law_59 (e_if_ne (tgt := 85) dX12_law_62 (by decide) (e_aload_n dX12_law_85 rfl (e_getI rfl cl_11 (by decide) rfl q_1569 dX12_law_86 (e_if_eq (tgt := 97) dX12_law_89 (by decide) (e_aload_n dX12_law_97 rfl (e_iconst (v := (-1)) dX12_law_98 (by decide) (e_putI rfl cl_11 (by decide) rfl rfl rfl q_1567 dX12_law_99 (e_aload_n dX12_law_102 rfl (e_aload_n dX12_law_103 rfl (e_getI rfl cl_11 (by decide) rfl q_1588 dX12_law_104 (e_putI rfl cl_11 (by decide) rfl rfl rfl q_1587 dX12_law_107 (e_aload_n dX12_law_110 rfl (e_getR rfl cl_11 (by decide) rfl q_1590 dX12_law_111 (e_aload_n dX12_law_114 rfl (e_getR rfl cl_11 (by decide) rfl q_1589 dX12_law_115 (e_aload_n dX12_law_118 rfl (e_getI rfl cl_11 (by decide) rfl q_1587 dX12_law_119 (e_callS cal_X12_lays q_1561 q_1562 dX12_law_122 (e_iconst (v := 1) dX12_law_125 (by decide) (e_ireturn rfl dX12_law_126)))))))))))))))) (e_aload_n dX12_law_92 rfl (e_callV cl_11 cal_X12_ends q_1807 q_1809 q_66 dX12_law_93 (e_ireturn rfl dX12_law_96)))))) (e_aload_n dX12_law_65 rfl (e_getI rfl cl_11 (by decide) rfl q_1568 dX12_law_66 (e_aload_n dX12_law_69 rfl (e_getI rfl cl_11 (by decide) rfl q_1566 dX12_law_70 (e_ic_ge (tgt := 85) dX12_law_73 (by decide) (e_aload_n dX12_law_85 rfl (e_getI rfl cl_11 (by decide) rfl q_1569 dX12_law_86 (e_if_eq (tgt := 97) dX12_law_89 (by decide) (e_aload_n dX12_law_97 rfl (e_iconst (v := (-1)) dX12_law_98 (by decide) (e_putI rfl cl_11 (by decide) rfl rfl rfl q_1567 dX12_law_99 (e_aload_n dX12_law_102 rfl (e_aload_n dX12_law_103 rfl (e_getI rfl cl_11 (by decide) rfl q_1588 dX12_law_104 (e_putI rfl cl_11 (by decide) rfl rfl rfl q_1587 dX12_law_107 (e_aload_n dX12_law_110 rfl (e_getR rfl cl_11 (by decide) rfl q_1590 dX12_law_111 (e_aload_n dX12_law_114 rfl (e_getR rfl cl_11 (by decide) rfl q_1589 dX12_law_115 (e_aload_n dX12_law_118 rfl (e_getI rfl cl_11 (by decide) rfl q_1587 dX12_law_119 (e_callS cal_X12_lays q_1561 q_1562 dX12_law_122 (e_iconst (v := 1) dX12_law_125 (by decide) (e_ireturn rfl dX12_law_126)))))))))))))))) (e_aload_n dX12_law_92 rfl (e_callV cl_11 cal_X12_ends q_1807 q_1809 q_66 dX12_law_93 (e_ireturn rfl dX12_law_96)))))) (e_aload_n dX12_law_76 rfl (e_iconst (v := 1) dX12_law_77 (by decide) (e_aload_n dX12_law_78 rfl (e_getI rfl cl_11 (by decide) rfl q_1568 dX12_law_79 (e_callV cl_11 cal_X12_wrong q_1783 q_1785 q_61 dX12_law_82 (e_aload_n dX12_law_85 rfl (e_getI rfl cl_11 (by decide) rfl q_1569 dX12_law_86 (e_if_eq (tgt := 97) dX12_law_89 (by decide) (e_aload_n dX12_law_97 rfl (e_iconst (v := (-1)) dX12_law_98 (by decide) (e_putI rfl cl_11 (by decide) rfl rfl rfl q_1567 dX12_law_99 (e_aload_n dX12_law_102 rfl (e_aload_n dX12_law_103 rfl (e_getI rfl cl_11 (by decide) rfl q_1588 dX12_law_104 (e_putI rfl cl_11 (by decide) rfl rfl rfl q_1587 dX12_law_107 (e_aload_n dX12_law_110 rfl (e_getR rfl cl_11 (by decide) rfl q_1590 dX12_law_111 (e_aload_n dX12_law_114 rfl (e_getR rfl cl_11 (by decide) rfl q_1589 dX12_law_115 (e_aload_n dX12_law_118 rfl (e_getI rfl cl_11 (by decide) rfl q_1587 dX12_law_119 (e_callS cal_X12_lays q_1561 q_1562 dX12_law_122 (e_iconst (v := 1) dX12_law_125 (by decide) (e_ireturn rfl dX12_law_126)))))))))))))))) (e_aload_n dX12_law_92 rfl (e_callV cl_11 cal_X12_ends q_1807 q_1809 q_66 dX12_law_93 (e_ireturn rfl dX12_law_96))))))))))))))))))))))))))))) (e_iconst (v := 0) dX12_law_38 (by decide) (e_ireturn rfl dX12_law_39))))))
set_option maxRecDepth 100000 in
theorem V_X12_law_30 {G : GE} {d C S : Nat} {P : KI} {a : Nat → Nat → Int32} {r : Nat → Nat → Value} {N : Nat} {l0 : Nat} {l1 : Int32} {s0 : Nat} {s1 : Int32} (hs : (tyK s0 = (0, 11) ∧ s0 < N ∧ Sp G d 0 0 MX12_bad [.ref s0, .int s1, .int 1, .int 2] (a, r, N) (RI fun v4 a1 r2 n3 => ((v4 = 0 → (tyK l0 = (0, 11) ∧ l0 < n3 ∧ Sp G d 0 0 MX12_starts [.ref l0, .int l1] (a1, r2, n3) (RN fun a5 r6 n7 => (tyK l0 = (0, 11) ∧ l0 < n7 ∧ ∀ a8, a8 = u2 a5 l0 24 0 → (tyK l0 = (0, 11) ∧ l0 < n7 ∧ Sp G d 0 0 MX12_sum [.ref l0] (a8, r6, n7) (RN fun a9 r10 n11 => (tyK l0 = (0, 11) ∧ l0 < n11 ∧ Sp G d 0 0 MX12_blanks [.ref l0] (a9, r10, n11) (RN fun a12 r13 n14 => (tyK l0 = (0, 11) ∧ l0 < n14 ∧ ((¬ (a12 l0 5) = 0 → (tyK l0 = (0, 11) ∧ l0 < n14 ∧ (((a12 l0 5) = 0 → (tyK l0 = (0, 11) ∧ l0 < n14 ∧ ∀ a15, a15 = u2 a12 l0 3 (-1) → (tyK l0 = (0, 11) ∧ l0 < n14 ∧ (tyK l0 = (0, 11) ∧ l0 < n14 ∧ ∀ a16, a16 = u2 a15 l0 23 (a15 l0 24) → (tyK l0 = (0, 11) ∧ l0 < n14 ∧ ∃ q17, r13 l0 26 = .ref q17 ∧ (tyK l0 = (0, 11) ∧ l0 < n14 ∧ ∃ q18, r13 l0 25 = .ref q18 ∧ (tyK l0 = (0, 11) ∧ l0 < n14 ∧ Sp G d 0 0 MX12_lays [.ref q17, .ref q18, .int (a16 l0 23)] (a16, r13, n14) (RN fun a19 r20 n21 => P 1 a19 r20 n21)))))))) ∧ (¬ (a12 l0 5) = 0 → (tyK l0 = (0, 11) ∧ l0 < n14 ∧ Sp G d 0 0 MX12_ends [.ref l0] (a12, r13, n14) (RI fun v25 a22 r23 n24 => P v25 a22 r23 n24)))))) ∧ ((a12 l0 5) = 0 → (tyK l0 = (0, 11) ∧ l0 < n14 ∧ (tyK l0 = (0, 11) ∧ l0 < n14 ∧ (((a12 l0 2) ≤ (a12 l0 4) → (tyK l0 = (0, 11) ∧ l0 < n14 ∧ (((a12 l0 5) = 0 → (tyK l0 = (0, 11) ∧ l0 < n14 ∧ ∀ a26, a26 = u2 a12 l0 3 (-1) → (tyK l0 = (0, 11) ∧ l0 < n14 ∧ (tyK l0 = (0, 11) ∧ l0 < n14 ∧ ∀ a27, a27 = u2 a26 l0 23 (a26 l0 24) → (tyK l0 = (0, 11) ∧ l0 < n14 ∧ ∃ q28, r13 l0 26 = .ref q28 ∧ (tyK l0 = (0, 11) ∧ l0 < n14 ∧ ∃ q29, r13 l0 25 = .ref q29 ∧ (tyK l0 = (0, 11) ∧ l0 < n14 ∧ Sp G d 0 0 MX12_lays [.ref q28, .ref q29, .int (a27 l0 23)] (a27, r13, n14) (RN fun a30 r31 n32 => P 1 a30 r31 n32)))))))) ∧ (¬ (a12 l0 5) = 0 → (tyK l0 = (0, 11) ∧ l0 < n14 ∧ Sp G d 0 0 MX12_ends [.ref l0] (a12, r13, n14) (RI fun v36 a33 r34 n35 => P v36 a33 r34 n35)))))) ∧ (¬ (a12 l0 2) ≤ (a12 l0 4) → (tyK l0 = (0, 11) ∧ l0 < n14 ∧ (tyK l0 = (0, 11) ∧ l0 < n14 ∧ Sp G d 0 0 MX12_wrong [.ref l0, .int 1, .int (a12 l0 4)] (a12, r13, n14) (RN fun a37 r38 n39 => (tyK l0 = (0, 11) ∧ l0 < n39 ∧ (((a37 l0 5) = 0 → (tyK l0 = (0, 11) ∧ l0 < n39 ∧ ∀ a40, a40 = u2 a37 l0 3 (-1) → (tyK l0 = (0, 11) ∧ l0 < n39 ∧ (tyK l0 = (0, 11) ∧ l0 < n39 ∧ ∀ a41, a41 = u2 a40 l0 23 (a40 l0 24) → (tyK l0 = (0, 11) ∧ l0 < n39 ∧ ∃ q42, r38 l0 26 = .ref q42 ∧ (tyK l0 = (0, 11) ∧ l0 < n39 ∧ ∃ q43, r38 l0 25 = .ref q43 ∧ (tyK l0 = (0, 11) ∧ l0 < n39 ∧ Sp G d 0 0 MX12_lays [.ref q42, .ref q43, .int (a41 l0 23)] (a41, r38, n39) (RN fun a44 r45 n46 => P 1 a44 r45 n46)))))))) ∧ (¬ (a37 l0 5) = 0 → (tyK l0 = (0, 11) ∧ l0 < n39 ∧ Sp G d 0 0 MX12_ends [.ref l0] (a37, r38, n39) (RI fun v50 a47 r48 n49 => P v50 a47 r48 n49))))))))))))))))))))))) ∧ (¬ v4 = 0 → P 0 a1 r2 n3))))) : E G MX12_law (d + 1) C S 30 [.ref l0, .int l1] [.int s1, .ref s0] (a, r, N) (RI P) := T_X12_law_30 _ _ _ hs
theorem dX12_by_0 : decode cX12_by 0 = .ok (.iload_n 0, 1) := by decide +kernel
theorem dX12_by_1 : decode cX12_by 1 = .ok (.tableswitch 75 2 6 #[35, 39, 43, 47, 69], 35) := by decide +kernel
theorem dX12_by_36 : decode cX12_by 36 = .ok (.iload_n 1, 1) := by decide +kernel
theorem dX12_by_37 : decode cX12_by 37 = .ok (.iload_n 2, 1) := by decide +kernel
theorem dX12_by_38 : decode cX12_by 38 = .ok (.iadd, 1) := by decide +kernel
theorem dX12_by_39 : decode cX12_by 39 = .ok (.ireturn, 1) := by decide +kernel
theorem dX12_by_40 : decode cX12_by 40 = .ok (.iload_n 1, 1) := by decide +kernel
theorem dX12_by_41 : decode cX12_by 41 = .ok (.iload_n 2, 1) := by decide +kernel
theorem dX12_by_42 : decode cX12_by 42 = .ok (.isub, 1) := by decide +kernel
theorem dX12_by_43 : decode cX12_by 43 = .ok (.ireturn, 1) := by decide +kernel
theorem dX12_by_44 : decode cX12_by 44 = .ok (.iload_n 1, 1) := by decide +kernel
theorem dX12_by_45 : decode cX12_by 45 = .ok (.iload_n 2, 1) := by decide +kernel
theorem dX12_by_46 : decode cX12_by 46 = .ok (.imul, 1) := by decide +kernel
theorem dX12_by_47 : decode cX12_by 47 = .ok (.ireturn, 1) := by decide +kernel
theorem dX12_by_48 : decode cX12_by 48 = .ok (.iload_n 2, 1) := by decide +kernel
theorem dX12_by_49 : decode cX12_by 49 = .ok (.ifCond .ne 7, 3) := by decide +kernel
theorem dX12_by_52 : decode cX12_by 52 = .ok (.iconst 0, 1) := by decide +kernel
theorem dX12_by_53 : decode cX12_by 53 = .ok (.goto 16, 3) := by decide +kernel
theorem dX12_by_56 : decode cX12_by 56 = .ok (.iload_n 2, 1) := by decide +kernel
theorem dX12_by_57 : decode cX12_by 57 = .ok (.iconst (-1), 1) := by decide +kernel
theorem dX12_by_58 : decode cX12_by 58 = .ok (.if_icmp .ne 8, 3) := by decide +kernel
theorem dX12_by_61 : decode cX12_by 61 = .ok (.iload_n 1, 1) := by decide +kernel
theorem dX12_by_62 : decode cX12_by 62 = .ok (.ineg, 1) := by decide +kernel
theorem dX12_by_63 : decode cX12_by 63 = .ok (.goto 6, 3) := by decide +kernel
theorem dX12_by_66 : decode cX12_by 66 = .ok (.iload_n 1, 1) := by decide +kernel
theorem dX12_by_67 : decode cX12_by 67 = .ok (.iload_n 2, 1) := by decide +kernel
theorem dX12_by_68 : decode cX12_by 68 = .ok (.idiv, 1) := by decide +kernel
theorem dX12_by_69 : decode cX12_by 69 = .ok (.ireturn, 1) := by decide +kernel
theorem dX12_by_70 : decode cX12_by 70 = .ok (.iload_n 1, 1) := by decide +kernel
theorem dX12_by_71 : decode cX12_by 71 = .ok (.iload_n 2, 1) := by decide +kernel
theorem dX12_by_72 : decode cX12_by 72 = .ok (.invokestatic 258, 3) := by decide +kernel
theorem dX12_by_75 : decode cX12_by 75 = .ok (.ireturn, 1) := by decide +kernel
theorem dX12_by_76 : decode cX12_by 76 = .ok (.iload_n 1, 1) := by decide +kernel
theorem dX12_by_77 : decode cX12_by 77 = .ok (.iload_n 2, 1) := by decide +kernel
theorem dX12_by_78 : decode cX12_by 78 = .ok (.invokestatic 261, 3) := by decide +kernel
theorem dX12_by_81 : decode cX12_by 81 = .ok (.ireturn, 1) := by decide +kernel
set_option maxRecDepth 100000 in
theorem T_X12_by_0 {G : GE} {d C S : Nat} {P : KI} : Snd G MX12_by (d + 1) C S 0 (RI P) (s_iload 0 (s_switch [(2, (s_iload 1 (s_iload 2 (s_iadd (s_ireturn P))))), (3, (s_iload 1 (s_iload 2 (s_isub (s_ireturn P))))), (4, (s_iload 1 (s_iload 2 (s_imul (s_ireturn P))))), (5, (s_iload 2 (s_if_ne (s_iload 2 (s_iconst (-1) (s_ic_ne (s_iload 1 (s_iload 2 (s_idiv (s_ireturn P)))) (s_iload 1 (s_ineg (s_ireturn P)))))) (s_iconst 0 (s_ireturn P))))), (6, (s_iload 1 (s_iload 2 (s_call G d MX12_less 2 (s_ireturn P)))))] (s_iload 1 (s_iload 2 (s_call G d MX12_more 2 (s_ireturn P)))))) := (e_iload_n dX12_by_0 rfl (e_tsw (tg := [36, 40, 44, 48, 70]) (td := 76) [2, 3, 4, 5, 6] rfl dX12_by_1 (by decide) (by decide) (by decide +kernel) (by decide +kernel) (swc (t0 := 36) (e_iload_n dX12_by_36 rfl (e_iload_n dX12_by_37 rfl (e_iadd dX12_by_38 (e_ireturn rfl dX12_by_39)))) (swc (t0 := 40) (e_iload_n dX12_by_40 rfl (e_iload_n dX12_by_41 rfl (e_isub dX12_by_42 (e_ireturn rfl dX12_by_43)))) (swc (t0 := 44) (e_iload_n dX12_by_44 rfl (e_iload_n dX12_by_45 rfl (e_imul dX12_by_46 (e_ireturn rfl dX12_by_47)))) (swc (t0 := 48) (e_iload_n dX12_by_48 rfl (e_if_ne (tgt := 56) dX12_by_49 (by decide) (e_iload_n dX12_by_56 rfl (e_iconst (v := (-1)) dX12_by_57 (by decide) (e_ic_ne (tgt := 66) dX12_by_58 (by decide) (e_iload_n dX12_by_66 rfl (e_iload_n dX12_by_67 rfl (e_idiv dX12_by_68 (e_ireturn rfl dX12_by_69)))) (e_iload_n dX12_by_61 rfl (e_ineg dX12_by_62 (e_goto (tgt := 69) dX12_by_63 (by decide) (e_ireturn rfl dX12_by_69))))))) (e_iconst (v := 0) dX12_by_52 (by decide) (e_goto (tgt := 69) dX12_by_53 (by decide) (e_ireturn rfl dX12_by_69))))) (swc (t0 := 70) (e_iload_n dX12_by_70 rfl (e_iload_n dX12_by_71 rfl (e_callS cal_X12_less q_1903 q_1904 dX12_by_72 (e_ireturn rfl dX12_by_75)))) swn))))) (e_iload_n dX12_by_76 rfl (e_iload_n dX12_by_77 rfl (e_callS cal_X12_more q_1906 q_1907 dX12_by_78 (e_ireturn rfl dX12_by_81))))))
set_option maxRecDepth 100000 in
theorem V_X12_by_0 {G : GE} {d : Nat} {P : KI} {a : Nat → Nat → Int32} {r : Nat → Nat → Value} {N : Nat} {l0 : Int32} {l1 : Int32} {l2 : Int32} (hs : ((l0 = 2 → P (l1 + l2) a r N) ∧ (¬ l0 = 2 → ((l0 = 3 → P (l1 - l2) a r N) ∧ (¬ l0 = 3 → ((l0 = 4 → P (l1 * l2) a r N) ∧ (¬ l0 = 4 → ((l0 = 5 → ((¬ l2 = 0 → ((¬ l2 = (-1) → (¬ (l2 : Int32) = 0 ∧ P ((l1 : Int32) / (l2 : Int32)) a r N)) ∧ (l2 = (-1) → P (-l1) a r N))) ∧ (l2 = 0 → P 0 a r N))) ∧ (¬ l0 = 5 → ((l0 = 6 → Sp G d 0 0 MX12_less [.int l1, .int l2] (a, r, N) (RI fun v4 a1 r2 n3 => P v4 a1 r2 n3)) ∧ (¬ l0 = 6 → Sp G d 0 0 MX12_more [.int l1, .int l2] (a, r, N) (RI fun v8 a5 r6 n7 => P v8 a5 r6 n7)))))))))))) : Sp G (d + 1) 0 0 MX12_by [.int l0, .int l1, .int l2] (a, r, N) (RI P) := Sp.mk (mc := 0) (ms := 0) [.int l0, .int l1, .int l2] rfl rfl rfl rfl (T_X12_by_0 (C := 0) (S := 0) _ _ _ hs)
theorem dX12_byLaw_0 : decode cX12_byLaw 0 = .ok (.aload_n 0, 1) := by decide +kernel
theorem dX12_byLaw_1 : decode cX12_byLaw 1 = .ok (.getfield 215, 3) := by decide +kernel
theorem dX12_byLaw_4 : decode cX12_byLaw 4 = .ok (.ifCond .ne 5, 3) := by decide +kernel
theorem dX12_byLaw_7 : decode cX12_byLaw 7 = .ok (.iconst 0, 1) := by decide +kernel
theorem dX12_byLaw_8 : decode cX12_byLaw 8 = .ok (.ireturn, 1) := by decide +kernel
theorem dX12_byLaw_9 : decode cX12_byLaw 9 = .ok (.iconst 0, 1) := by decide +kernel
theorem dX12_byLaw_10 : decode cX12_byLaw 10 = .ok (.istore_n 1, 1) := by decide +kernel
theorem dX12_byLaw_11 : decode cX12_byLaw 11 = .ok (.iconst 0, 1) := by decide +kernel
theorem dX12_byLaw_12 : decode cX12_byLaw 12 = .ok (.istore_n 2, 1) := by decide +kernel
theorem dX12_byLaw_13 : decode cX12_byLaw 13 = .ok (.iload_n 2, 1) := by decide +kernel
theorem dX12_byLaw_14 : decode cX12_byLaw 14 = .ok (.aload_n 0, 1) := by decide +kernel
theorem dX12_byLaw_15 : decode cX12_byLaw 15 = .ok (.getfield 215, 3) := by decide +kernel
theorem dX12_byLaw_18 : decode cX12_byLaw 18 = .ok (.if_icmp .ge 104, 3) := by decide +kernel
theorem dX12_byLaw_21 : decode cX12_byLaw 21 = .ok (.aload_n 0, 1) := by decide +kernel
theorem dX12_byLaw_22 : decode cX12_byLaw 22 = .ok (.getfield 58, 3) := by decide +kernel
theorem dX12_byLaw_25 : decode cX12_byLaw 25 = .ok (.iload_n 2, 1) := by decide +kernel
theorem dX12_byLaw_26 : decode cX12_byLaw 26 = .ok (.aaload, 1) := by decide +kernel
theorem dX12_byLaw_27 : decode cX12_byLaw 27 = .ok (.iconst 0, 1) := by decide +kernel
theorem dX12_byLaw_28 : decode cX12_byLaw 28 = .ok (.iaload, 1) := by decide +kernel
theorem dX12_byLaw_29 : decode cX12_byLaw 29 = .ok (.iconst 2, 1) := by decide +kernel
theorem dX12_byLaw_30 : decode cX12_byLaw 30 = .ok (.if_icmp .ge 50, 3) := by decide +kernel
theorem dX12_byLaw_33 : decode cX12_byLaw 33 = .ok (.aload_n 0, 1) := by decide +kernel
theorem dX12_byLaw_34 : decode cX12_byLaw 34 = .ok (.getfield 70, 3) := by decide +kernel
theorem dX12_byLaw_37 : decode cX12_byLaw 37 = .ok (.iload_n 1, 1) := by decide +kernel
theorem dX12_byLaw_38 : decode cX12_byLaw 38 = .ok (.aload_n 0, 1) := by decide +kernel
theorem dX12_byLaw_39 : decode cX12_byLaw 39 = .ok (.getfield 58, 3) := by decide +kernel
theorem dX12_byLaw_42 : decode cX12_byLaw 42 = .ok (.iload_n 2, 1) := by decide +kernel
theorem dX12_byLaw_43 : decode cX12_byLaw 43 = .ok (.aaload, 1) := by decide +kernel
theorem dX12_byLaw_44 : decode cX12_byLaw 44 = .ok (.iconst 0, 1) := by decide +kernel
theorem dX12_byLaw_45 : decode cX12_byLaw 45 = .ok (.iaload, 1) := by decide +kernel
theorem dX12_byLaw_46 : decode cX12_byLaw 46 = .ok (.ifCond .ne 14, 3) := by decide +kernel
theorem dX12_byLaw_49 : decode cX12_byLaw 49 = .ok (.aload_n 0, 1) := by decide +kernel
theorem dX12_byLaw_50 : decode cX12_byLaw 50 = .ok (.getfield 58, 3) := by decide +kernel
theorem dX12_byLaw_53 : decode cX12_byLaw 53 = .ok (.iload_n 2, 1) := by decide +kernel
theorem dX12_byLaw_54 : decode cX12_byLaw 54 = .ok (.aaload, 1) := by decide +kernel
theorem dX12_byLaw_55 : decode cX12_byLaw 55 = .ok (.iconst 1, 1) := by decide +kernel
theorem dX12_byLaw_56 : decode cX12_byLaw 56 = .ok (.iaload, 1) := by decide +kernel
theorem dX12_byLaw_57 : decode cX12_byLaw 57 = .ok (.goto 16, 3) := by decide +kernel
theorem dX12_byLaw_60 : decode cX12_byLaw 60 = .ok (.aload_n 0, 1) := by decide +kernel
theorem dX12_byLaw_61 : decode cX12_byLaw 61 = .ok (.getfield 73, 3) := by decide +kernel
theorem dX12_byLaw_64 : decode cX12_byLaw 64 = .ok (.aload_n 0, 1) := by decide +kernel
theorem dX12_byLaw_65 : decode cX12_byLaw 65 = .ok (.getfield 58, 3) := by decide +kernel
theorem dX12_byLaw_68 : decode cX12_byLaw 68 = .ok (.iload_n 2, 1) := by decide +kernel
theorem dX12_byLaw_69 : decode cX12_byLaw 69 = .ok (.aaload, 1) := by decide +kernel
theorem dX12_byLaw_70 : decode cX12_byLaw 70 = .ok (.iconst 1, 1) := by decide +kernel
theorem dX12_byLaw_71 : decode cX12_byLaw 71 = .ok (.iaload, 1) := by decide +kernel
theorem dX12_byLaw_72 : decode cX12_byLaw 72 = .ok (.iaload, 1) := by decide +kernel
theorem dX12_byLaw_73 : decode cX12_byLaw 73 = .ok (.iastore, 1) := by decide +kernel
theorem dX12_byLaw_74 : decode cX12_byLaw 74 = .ok (.iinc 1 1, 3) := by decide +kernel
theorem dX12_byLaw_77 : decode cX12_byLaw 77 = .ok (.goto 39, 3) := by decide +kernel
theorem dX12_byLaw_80 : decode cX12_byLaw 80 = .ok (.iinc 1 (-1), 3) := by decide +kernel
theorem dX12_byLaw_83 : decode cX12_byLaw 83 = .ok (.aload_n 0, 1) := by decide +kernel
theorem dX12_byLaw_84 : decode cX12_byLaw 84 = .ok (.getfield 70, 3) := by decide +kernel
theorem dX12_byLaw_87 : decode cX12_byLaw 87 = .ok (.iload_n 1, 1) := by decide +kernel
theorem dX12_byLaw_88 : decode cX12_byLaw 88 = .ok (.iconst 1, 1) := by decide +kernel
theorem dX12_byLaw_89 : decode cX12_byLaw 89 = .ok (.isub, 1) := by decide +kernel
theorem dX12_byLaw_90 : decode cX12_byLaw 90 = .ok (.aload_n 0, 1) := by decide +kernel
theorem dX12_byLaw_91 : decode cX12_byLaw 91 = .ok (.getfield 58, 3) := by decide +kernel
theorem dX12_byLaw_94 : decode cX12_byLaw 94 = .ok (.iload_n 2, 1) := by decide +kernel
theorem dX12_byLaw_95 : decode cX12_byLaw 95 = .ok (.aaload, 1) := by decide +kernel
theorem dX12_byLaw_96 : decode cX12_byLaw 96 = .ok (.iconst 0, 1) := by decide +kernel
theorem dX12_byLaw_97 : decode cX12_byLaw 97 = .ok (.iaload, 1) := by decide +kernel
theorem dX12_byLaw_98 : decode cX12_byLaw 98 = .ok (.aload_n 0, 1) := by decide +kernel
theorem dX12_byLaw_99 : decode cX12_byLaw 99 = .ok (.getfield 70, 3) := by decide +kernel
theorem dX12_byLaw_102 : decode cX12_byLaw 102 = .ok (.iload_n 1, 1) := by decide +kernel
theorem dX12_byLaw_103 : decode cX12_byLaw 103 = .ok (.iconst 1, 1) := by decide +kernel
theorem dX12_byLaw_104 : decode cX12_byLaw 104 = .ok (.isub, 1) := by decide +kernel
theorem dX12_byLaw_105 : decode cX12_byLaw 105 = .ok (.iaload, 1) := by decide +kernel
theorem dX12_byLaw_106 : decode cX12_byLaw 106 = .ok (.aload_n 0, 1) := by decide +kernel
theorem dX12_byLaw_107 : decode cX12_byLaw 107 = .ok (.getfield 70, 3) := by decide +kernel
theorem dX12_byLaw_110 : decode cX12_byLaw 110 = .ok (.iload_n 1, 1) := by decide +kernel
theorem dX12_byLaw_111 : decode cX12_byLaw 111 = .ok (.iaload, 1) := by decide +kernel
theorem dX12_byLaw_112 : decode cX12_byLaw 112 = .ok (.invokestatic 264, 3) := by decide +kernel
theorem dX12_byLaw_115 : decode cX12_byLaw 115 = .ok (.iastore, 1) := by decide +kernel
theorem dX12_byLaw_116 : decode cX12_byLaw 116 = .ok (.iinc 2 1, 3) := by decide +kernel
theorem dX12_byLaw_119 : decode cX12_byLaw 119 = .ok (.goto (-106), 3) := by decide +kernel
theorem dX12_byLaw_122 : decode cX12_byLaw 122 = .ok (.aload_n 0, 1) := by decide +kernel
theorem dX12_byLaw_123 : decode cX12_byLaw 123 = .ok (.getfield 70, 3) := by decide +kernel
theorem dX12_byLaw_126 : decode cX12_byLaw 126 = .ok (.iconst 0, 1) := by decide +kernel
theorem dX12_byLaw_127 : decode cX12_byLaw 127 = .ok (.iaload, 1) := by decide +kernel
theorem dX12_byLaw_128 : decode cX12_byLaw 128 = .ok (.ireturn, 1) := by decide +kernel
set_option maxRecDepth 100000 in
theorem T_X12_byLaw_0 {G : GE} {d C S : Nat} {P : KI} : Snd G MX12_byLaw (d + 1) C S 0 (RI P) (s_aload 0 (s_getI 11 23 (s_if_ne (s_iconst 0 (s_istore 1 (s_iconst 0 (s_istore 2 (fun L st h => E G MX12_byLaw (d + 1) C S 13 (msk [true, true, true] L) st h (RI P)))))) (s_iconst 0 (s_ireturn P))))) := (e_aload_n dX12_byLaw_0 rfl (e_getI rfl cl_11 (by decide) rfl q_1587 dX12_byLaw_1 (e_if_ne (tgt := 9) dX12_byLaw_4 (by decide) (e_iconst (v := 0) dX12_byLaw_9 (by decide) (e_istore_n dX12_byLaw_10 rfl (by decide) (e_iconst (v := 0) dX12_byLaw_11 (by decide) (e_istore_n dX12_byLaw_12 rfl (by decide) (e_msk [true, true, true]))))) (e_iconst (v := 0) dX12_byLaw_7 (by decide) (e_ireturn rfl dX12_byLaw_8)))))
set_option maxRecDepth 100000 in
theorem V_X12_byLaw_0 {G : GE} {d : Nat} {P : KI} {a : Nat → Nat → Int32} {r : Nat → Nat → Value} {N : Nat} {l0 : Nat} (hs : (tyK l0 = (0, 11) ∧ l0 < N ∧ ((¬ (a l0 23) = 0 → E G MX12_byLaw (d + 1) 0 0 13 [.ref l0, .int 0, .int 0] [] (a, r, N) (RI P)) ∧ ((a l0 23) = 0 → P 0 a r N)))) : Sp G (d + 1) 0 0 MX12_byLaw [.ref l0] (a, r, N) (RI P) := Sp.mk (mc := 0) (ms := 0) [.ref l0, .null, .null] rfl rfl rfl rfl (T_X12_byLaw_0 (C := 0) (S := 0) _ _ _ hs)
set_option maxRecDepth 100000 in
theorem T_X12_byLaw_13 {G : GE} {d C S : Nat} {P : KI} : Snd G MX12_byLaw (d + 1) C S 13 (RI P) (s_iload 2 (s_aload 0 (s_getI 11 23 (s_ic_ge (s_aload 0 (s_getR 11 29 (s_iconst 0 (s_iaload (s_ireturn P))))) (s_aload 0 (s_getR 11 25 (s_iload 2 (s_aaload (s_iconst 0 (s_iaload (s_iconst 2 (s_ic_ge (s_iinc 1 (-1) (s_aload 0 (s_getR 11 29 (s_iload 1 (s_iconst 1 (s_isub (s_aload 0 (s_getR 11 25 (s_iload 2 (s_aaload (s_iconst 0 (s_iaload (s_aload 0 (s_getR 11 29 (s_iload 1 (s_iconst 1 (s_isub (s_iaload (s_aload 0 (s_getR 11 29 (s_iload 1 (s_iaload (s_call G d MX12_by 3 (s_iastore (s_iinc 2 1 (fun L st h => E G MX12_byLaw (d + 1) C S 13 (msk [true, true, true] L) st h (RI P))))))))))))))))))))))))))) (s_aload 0 (s_getR 11 29 (s_iload 1 (s_aload 0 (s_getR 11 25 (s_iload 2 (s_aaload (s_iconst 0 (s_iaload (s_if_ne (s_aload 0 (s_getR 11 30 (s_aload 0 (s_getR 11 25 (s_iload 2 (s_aaload (s_iconst 1 (s_iaload (s_iaload (s_iastore (s_iinc 1 1 (s_iinc 2 1 (fun L st h => E G MX12_byLaw (d + 1) C S 13 (msk [true, true, true] L) st h (RI P)))))))))))))) (s_aload 0 (s_getR 11 25 (s_iload 2 (s_aaload (s_iconst 1 (s_iaload (s_iastore (s_iinc 1 1 (s_iinc 2 1 (fun L st h => E G MX12_byLaw (d + 1) C S 13 (msk [true, true, true] L) st h (RI P))))))))))))))))))))))))))))))))) := (e_iload_n dX12_byLaw_13 rfl (e_aload_n dX12_byLaw_14 rfl (e_getI rfl cl_11 (by decide) rfl q_1587 dX12_byLaw_15 (e_ic_ge (tgt := 122) dX12_byLaw_18 (by decide) (e_aload_n dX12_byLaw_122 rfl (e_getR rfl cl_11 (by decide) rfl q_1593 dX12_byLaw_123 (e_iconst (v := 0) dX12_byLaw_126 (by decide) (e_iaload dX12_byLaw_127 (e_ireturn rfl dX12_byLaw_128))))) (e_aload_n dX12_byLaw_21 rfl (e_getR rfl cl_11 (by decide) rfl q_1589 dX12_byLaw_22 (e_iload_n dX12_byLaw_25 rfl (e_aaload dX12_byLaw_26 (e_iconst (v := 0) dX12_byLaw_27 (by decide) (e_iaload dX12_byLaw_28 (e_iconst (v := 2) dX12_byLaw_29 (by decide) (e_ic_ge (tgt := 80) dX12_byLaw_30 (by decide) (e_iinc (v := (-1)) dX12_byLaw_80 (by decide) (by decide) (e_aload_n dX12_byLaw_83 rfl (e_getR rfl cl_11 (by decide) rfl q_1593 dX12_byLaw_84 (e_iload_n dX12_byLaw_87 rfl (e_iconst (v := 1) dX12_byLaw_88 (by decide) (e_isub dX12_byLaw_89 (e_aload_n dX12_byLaw_90 rfl (e_getR rfl cl_11 (by decide) rfl q_1589 dX12_byLaw_91 (e_iload_n dX12_byLaw_94 rfl (e_aaload dX12_byLaw_95 (e_iconst (v := 0) dX12_byLaw_96 (by decide) (e_iaload dX12_byLaw_97 (e_aload_n dX12_byLaw_98 rfl (e_getR rfl cl_11 (by decide) rfl q_1593 dX12_byLaw_99 (e_iload_n dX12_byLaw_102 rfl (e_iconst (v := 1) dX12_byLaw_103 (by decide) (e_isub dX12_byLaw_104 (e_iaload dX12_byLaw_105 (e_aload_n dX12_byLaw_106 rfl (e_getR rfl cl_11 (by decide) rfl q_1593 dX12_byLaw_107 (e_iload_n dX12_byLaw_110 rfl (e_iaload dX12_byLaw_111 (e_callS cal_X12_by q_1900 q_1901 dX12_byLaw_112 (e_iastore dX12_byLaw_115 (e_iinc (v := 1) dX12_byLaw_116 (by decide) (by decide) (e_goto (tgt := 13) dX12_byLaw_119 (by decide) (e_msk [true, true, true]))))))))))))))))))))))))))) (e_aload_n dX12_byLaw_33 rfl (e_getR rfl cl_11 (by decide) rfl q_1593 dX12_byLaw_34 (e_iload_n dX12_byLaw_37 rfl (e_aload_n dX12_byLaw_38 rfl (e_getR rfl cl_11 (by decide) rfl q_1589 dX12_byLaw_39 (e_iload_n dX12_byLaw_42 rfl (e_aaload dX12_byLaw_43 (e_iconst (v := 0) dX12_byLaw_44 (by decide) (e_iaload dX12_byLaw_45 (e_if_ne (tgt := 60) dX12_byLaw_46 (by decide) (e_aload_n dX12_byLaw_60 rfl (e_getR rfl cl_11 (by decide) rfl q_1594 dX12_byLaw_61 (e_aload_n dX12_byLaw_64 rfl (e_getR rfl cl_11 (by decide) rfl q_1589 dX12_byLaw_65 (e_iload_n dX12_byLaw_68 rfl (e_aaload dX12_byLaw_69 (e_iconst (v := 1) dX12_byLaw_70 (by decide) (e_iaload dX12_byLaw_71 (e_iaload dX12_byLaw_72 (e_iastore dX12_byLaw_73 (e_iinc (v := 1) dX12_byLaw_74 (by decide) (by decide) (e_goto (tgt := 116) dX12_byLaw_77 (by decide) (e_iinc (v := 1) dX12_byLaw_116 (by decide) (by decide) (e_goto (tgt := 13) dX12_byLaw_119 (by decide) (e_msk [true, true, true]))))))))))))))) (e_aload_n dX12_byLaw_49 rfl (e_getR rfl cl_11 (by decide) rfl q_1589 dX12_byLaw_50 (e_iload_n dX12_byLaw_53 rfl (e_aaload dX12_byLaw_54 (e_iconst (v := 1) dX12_byLaw_55 (by decide) (e_iaload dX12_byLaw_56 (e_goto (tgt := 73) dX12_byLaw_57 (by decide) (e_iastore dX12_byLaw_73 (e_iinc (v := 1) dX12_byLaw_74 (by decide) (by decide) (e_goto (tgt := 116) dX12_byLaw_77 (by decide) (e_iinc (v := 1) dX12_byLaw_116 (by decide) (by decide) (e_goto (tgt := 13) dX12_byLaw_119 (by decide) (e_msk [true, true, true])))))))))))))))))))))))))))))))))))
set_option maxRecDepth 100000 in
theorem V_X12_byLaw_13 {G : GE} {d C S : Nat} {P : KI} {a : Nat → Nat → Int32} {r : Nat → Nat → Value} {N : Nat} {l0 : Nat} {l1 : Int32} {l2 : Int32} (hs : (tyK l0 = (0, 11) ∧ l0 < N ∧ (((a l0 23) ≤ l2 → (tyK l0 = (0, 11) ∧ l0 < N ∧ ∃ q1, r l0 29 = .ref q1 ∧ ((tyK q1).1 = 1 ∧ q1 < N ∧ vp_in 0 (tyK q1).2 ∧ P (a q1 (0 : Int32).toNatClampNeg) a r N))) ∧ (¬ (a l0 23) ≤ l2 → (tyK l0 = (0, 11) ∧ l0 < N ∧ ∃ q2, r l0 25 = .ref q2 ∧ ((tyK q2).1 = 3 ∧ q2 < N ∧ vp_in l2 (tyK q2).2 ∧ ((tyK (q2 + 1 + (l2 : Int32).toNatClampNeg)).1 = 1 ∧ (q2 + 1 + (l2 : Int32).toNatClampNeg) < N ∧ vp_in 0 (tyK (q2 + 1 + (l2 : Int32).toNatClampNeg)).2 ∧ ((2 ≤ (a (q2 + 1 + (l2 : Int32).toNatClampNeg) (0 : Int32).toNatClampNeg) → (tyK l0 = (0, 11) ∧ l0 < N ∧ ∃ q3, r l0 29 = .ref q3 ∧ (tyK l0 = (0, 11) ∧ l0 < N ∧ ∃ q4, r l0 25 = .ref q4 ∧ ((tyK q4).1 = 3 ∧ q4 < N ∧ vp_in l2 (tyK q4).2 ∧ ((tyK (q4 + 1 + (l2 : Int32).toNatClampNeg)).1 = 1 ∧ (q4 + 1 + (l2 : Int32).toNatClampNeg) < N ∧ vp_in 0 (tyK (q4 + 1 + (l2 : Int32).toNatClampNeg)).2 ∧ (tyK l0 = (0, 11) ∧ l0 < N ∧ ∃ q5, r l0 29 = .ref q5 ∧ ((tyK q5).1 = 1 ∧ q5 < N ∧ vp_in ((l1 + (-1)) - 1) (tyK q5).2 ∧ (tyK l0 = (0, 11) ∧ l0 < N ∧ ∃ q6, r l0 29 = .ref q6 ∧ ((tyK q6).1 = 1 ∧ q6 < N ∧ vp_in (l1 + (-1)) (tyK q6).2 ∧ Sp G d 0 0 MX12_by [.int (a (q4 + 1 + (l2 : Int32).toNatClampNeg) (0 : Int32).toNatClampNeg), .int (a q5 (((l1 + (-1)) - 1) : Int32).toNatClampNeg), .int (a q6 ((l1 + (-1)) : Int32).toNatClampNeg)] (a, r, N) (RI fun v10 a7 r8 n9 => ((tyK q3).1 = 1 ∧ q3 < n9 ∧ vp_in ((l1 + (-1)) - 1) (tyK q3).2 ∧ ∀ a11, a11 = u2 a7 q3 (((l1 + (-1)) - 1) : Int32).toNatClampNeg v10 → E G MX12_byLaw (d + 1) C S 13 [.ref l0, .int (l1 + (-1)), .int (l2 + 1)] [] (a11, r8, n9) (RI P)))))))))))) ∧ (¬ 2 ≤ (a (q2 + 1 + (l2 : Int32).toNatClampNeg) (0 : Int32).toNatClampNeg) → (tyK l0 = (0, 11) ∧ l0 < N ∧ ∃ q12, r l0 29 = .ref q12 ∧ (tyK l0 = (0, 11) ∧ l0 < N ∧ ∃ q13, r l0 25 = .ref q13 ∧ ((tyK q13).1 = 3 ∧ q13 < N ∧ vp_in l2 (tyK q13).2 ∧ ((tyK (q13 + 1 + (l2 : Int32).toNatClampNeg)).1 = 1 ∧ (q13 + 1 + (l2 : Int32).toNatClampNeg) < N ∧ vp_in 0 (tyK (q13 + 1 + (l2 : Int32).toNatClampNeg)).2 ∧ ((¬ (a (q13 + 1 + (l2 : Int32).toNatClampNeg) (0 : Int32).toNatClampNeg) = 0 → (tyK l0 = (0, 11) ∧ l0 < N ∧ ∃ q14, r l0 30 = .ref q14 ∧ (tyK l0 = (0, 11) ∧ l0 < N ∧ ∃ q15, r l0 25 = .ref q15 ∧ ((tyK q15).1 = 3 ∧ q15 < N ∧ vp_in l2 (tyK q15).2 ∧ ((tyK (q15 + 1 + (l2 : Int32).toNatClampNeg)).1 = 1 ∧ (q15 + 1 + (l2 : Int32).toNatClampNeg) < N ∧ vp_in 1 (tyK (q15 + 1 + (l2 : Int32).toNatClampNeg)).2 ∧ ((tyK q14).1 = 1 ∧ q14 < N ∧ vp_in (a (q15 + 1 + (l2 : Int32).toNatClampNeg) (1 : Int32).toNatClampNeg) (tyK q14).2 ∧ ((tyK q12).1 = 1 ∧ q12 < N ∧ vp_in l1 (tyK q12).2 ∧ ∀ a16, a16 = u2 a q12 (l1 : Int32).toNatClampNeg (a q14 ((a (q15 + 1 + (l2 : Int32).toNatClampNeg) (1 : Int32).toNatClampNeg) : Int32).toNatClampNeg) → E G MX12_byLaw (d + 1) C S 13 [.ref l0, .int (l1 + 1), .int (l2 + 1)] [] (a16, r, N) (RI P)))))))) ∧ ((a (q13 + 1 + (l2 : Int32).toNatClampNeg) (0 : Int32).toNatClampNeg) = 0 → (tyK l0 = (0, 11) ∧ l0 < N ∧ ∃ q17, r l0 25 = .ref q17 ∧ ((tyK q17).1 = 3 ∧ q17 < N ∧ vp_in l2 (tyK q17).2 ∧ ((tyK (q17 + 1 + (l2 : Int32).toNatClampNeg)).1 = 1 ∧ (q17 + 1 + (l2 : Int32).toNatClampNeg) < N ∧ vp_in 1 (tyK (q17 + 1 + (l2 : Int32).toNatClampNeg)).2 ∧ ((tyK q12).1 = 1 ∧ q12 < N ∧ vp_in l1 (tyK q12).2 ∧ ∀ a18, a18 = u2 a q12 (l1 : Int32).toNatClampNeg (a (q17 + 1 + (l2 : Int32).toNatClampNeg) (1 : Int32).toNatClampNeg) → E G MX12_byLaw (d + 1) C S 13 [.ref l0, .int (l1 + 1), .int (l2 + 1)] [] (a18, r, N) (RI P)))))))))))))))))))) : E G MX12_byLaw (d + 1) C S 13 [.ref l0, .int l1, .int l2] [] (a, r, N) (RI P) := T_X12_byLaw_13 _ _ _ hs
theorem dX12_stepHere_0 : decode cX12_stepHere 0 = .ok (.aload_n 0, 1) := by decide +kernel
theorem dX12_stepHere_1 : decode cX12_stepHere 1 = .ok (.bipush 13, 2) := by decide +kernel
theorem dX12_stepHere_3 : decode cX12_stepHere 3 = .ok (.iconst 1, 1) := by decide +kernel
theorem dX12_stepHere_4 : decode cX12_stepHere 4 = .ok (.bipush 18, 2) := by decide +kernel
theorem dX12_stepHere_6 : decode cX12_stepHere 6 = .ok (.bipush 18, 2) := by decide +kernel
theorem dX12_stepHere_8 : decode cX12_stepHere 8 = .ok (.bipush 25, 2) := by decide +kernel
theorem dX12_stepHere_10 : decode cX12_stepHere 10 = .ok (.iconst 0, 1) := by decide +kernel
theorem dX12_stepHere_11 : decode cX12_stepHere 11 = .ok (.iconst 0, 1) := by decide +kernel
theorem dX12_stepHere_12 : decode cX12_stepHere 12 = .ok (.invokevirtual 170, 3) := by decide +kernel
theorem dX12_stepHere_15 : decode cX12_stepHere 15 = .ok (.ifCond .eq 5, 3) := by decide +kernel
theorem dX12_stepHere_18 : decode cX12_stepHere 18 = .ok (.iconst 0, 1) := by decide +kernel
theorem dX12_stepHere_19 : decode cX12_stepHere 19 = .ok (.ireturn, 1) := by decide +kernel
theorem dX12_stepHere_20 : decode cX12_stepHere 20 = .ok (.aload_n 0, 1) := by decide +kernel
theorem dX12_stepHere_21 : decode cX12_stepHere 21 = .ok (.bipush 16, 2) := by decide +kernel
theorem dX12_stepHere_23 : decode cX12_stepHere 23 = .ok (.iconst 1, 1) := by decide +kernel
theorem dX12_stepHere_24 : decode cX12_stepHere 24 = .ok (.bipush 18, 2) := by decide +kernel
theorem dX12_stepHere_26 : decode cX12_stepHere 26 = .ok (.bipush 20, 2) := by decide +kernel
theorem dX12_stepHere_28 : decode cX12_stepHere 28 = .ok (.iconst 0, 1) := by decide +kernel
theorem dX12_stepHere_29 : decode cX12_stepHere 29 = .ok (.iconst 0, 1) := by decide +kernel
theorem dX12_stepHere_30 : decode cX12_stepHere 30 = .ok (.iconst 0, 1) := by decide +kernel
theorem dX12_stepHere_31 : decode cX12_stepHere 31 = .ok (.invokevirtual 170, 3) := by decide +kernel
theorem dX12_stepHere_34 : decode cX12_stepHere 34 = .ok (.ifCond .eq 5, 3) := by decide +kernel
theorem dX12_stepHere_37 : decode cX12_stepHere 37 = .ok (.iconst 1, 1) := by decide +kernel
theorem dX12_stepHere_38 : decode cX12_stepHere 38 = .ok (.ireturn, 1) := by decide +kernel
theorem dX12_stepHere_39 : decode cX12_stepHere 39 = .ok (.aload_n 0, 1) := by decide +kernel
theorem dX12_stepHere_40 : decode cX12_stepHere 40 = .ok (.bipush 16, 2) := by decide +kernel
theorem dX12_stepHere_42 : decode cX12_stepHere 42 = .ok (.bipush 12, 2) := by decide +kernel
theorem dX12_stepHere_44 : decode cX12_stepHere 44 = .ok (.iconst 1, 1) := by decide +kernel
theorem dX12_stepHere_45 : decode cX12_stepHere 45 = .ok (.bipush 14, 2) := by decide +kernel
theorem dX12_stepHere_47 : decode cX12_stepHere 47 = .ok (.bipush 20, 2) := by decide +kernel
theorem dX12_stepHere_49 : decode cX12_stepHere 49 = .ok (.iconst 0, 1) := by decide +kernel
theorem dX12_stepHere_50 : decode cX12_stepHere 50 = .ok (.iconst 0, 1) := by decide +kernel
theorem dX12_stepHere_51 : decode cX12_stepHere 51 = .ok (.invokevirtual 170, 3) := by decide +kernel
theorem dX12_stepHere_54 : decode cX12_stepHere 54 = .ok (.ifCond .eq 5, 3) := by decide +kernel
theorem dX12_stepHere_57 : decode cX12_stepHere 57 = .ok (.iconst 2, 1) := by decide +kernel
theorem dX12_stepHere_58 : decode cX12_stepHere 58 = .ok (.ireturn, 1) := by decide +kernel
theorem dX12_stepHere_59 : decode cX12_stepHere 59 = .ok (.aload_n 0, 1) := by decide +kernel
theorem dX12_stepHere_60 : decode cX12_stepHere 60 = .ok (.bipush 17, 2) := by decide +kernel
theorem dX12_stepHere_62 : decode cX12_stepHere 62 = .ok (.bipush 21, 2) := by decide +kernel
theorem dX12_stepHere_64 : decode cX12_stepHere 64 = .ok (.iconst 1, 1) := by decide +kernel
theorem dX12_stepHere_65 : decode cX12_stepHere 65 = .ok (.bipush 18, 2) := by decide +kernel
theorem dX12_stepHere_67 : decode cX12_stepHere 67 = .ok (.bipush 18, 2) := by decide +kernel
theorem dX12_stepHere_69 : decode cX12_stepHere 69 = .ok (.iconst 5, 1) := by decide +kernel
theorem dX12_stepHere_70 : decode cX12_stepHere 70 = .ok (.bipush 12, 2) := by decide +kernel
theorem dX12_stepHere_72 : decode cX12_stepHere 72 = .ok (.invokevirtual 170, 3) := by decide +kernel
theorem dX12_stepHere_75 : decode cX12_stepHere 75 = .ok (.ifCond .eq 5, 3) := by decide +kernel
theorem dX12_stepHere_78 : decode cX12_stepHere 78 = .ok (.iconst 3, 1) := by decide +kernel
theorem dX12_stepHere_79 : decode cX12_stepHere 79 = .ok (.ireturn, 1) := by decide +kernel
theorem dX12_stepHere_80 : decode cX12_stepHere 80 = .ok (.aload_n 0, 1) := by decide +kernel
theorem dX12_stepHere_81 : decode cX12_stepHere 81 = .ok (.bipush 18, 2) := by decide +kernel
theorem dX12_stepHere_83 : decode cX12_stepHere 83 = .ok (.iconst 5, 1) := by decide +kernel
theorem dX12_stepHere_84 : decode cX12_stepHere 84 = .ok (.bipush 16, 2) := by decide +kernel
theorem dX12_stepHere_86 : decode cX12_stepHere 86 = .ok (.iconst 1, 1) := by decide +kernel
theorem dX12_stepHere_87 : decode cX12_stepHere 87 = .ok (.bipush 22, 2) := by decide +kernel
theorem dX12_stepHere_89 : decode cX12_stepHere 89 = .ok (.iconst 5, 1) := by decide +kernel
theorem dX12_stepHere_90 : decode cX12_stepHere 90 = .ok (.iconst 0, 1) := by decide +kernel
theorem dX12_stepHere_91 : decode cX12_stepHere 91 = .ok (.invokevirtual 170, 3) := by decide +kernel
theorem dX12_stepHere_94 : decode cX12_stepHere 94 = .ok (.ifCond .eq 5, 3) := by decide +kernel
theorem dX12_stepHere_97 : decode cX12_stepHere 97 = .ok (.iconst 4, 1) := by decide +kernel
theorem dX12_stepHere_98 : decode cX12_stepHere 98 = .ok (.ireturn, 1) := by decide +kernel
theorem dX12_stepHere_99 : decode cX12_stepHere 99 = .ok (.aload_n 0, 1) := by decide +kernel
theorem dX12_stepHere_100 : decode cX12_stepHere 100 = .ok (.bipush 25, 2) := by decide +kernel
theorem dX12_stepHere_102 : decode cX12_stepHere 102 = .ok (.iconst 5, 1) := by decide +kernel
theorem dX12_stepHere_103 : decode cX12_stepHere 103 = .ok (.iconst 1, 1) := by decide +kernel
theorem dX12_stepHere_104 : decode cX12_stepHere 104 = .ok (.bipush 18, 2) := by decide +kernel
theorem dX12_stepHere_106 : decode cX12_stepHere 106 = .ok (.iconst 0, 1) := by decide +kernel
theorem dX12_stepHere_107 : decode cX12_stepHere 107 = .ok (.iconst 0, 1) := by decide +kernel
theorem dX12_stepHere_108 : decode cX12_stepHere 108 = .ok (.iconst 0, 1) := by decide +kernel
theorem dX12_stepHere_109 : decode cX12_stepHere 109 = .ok (.invokevirtual 170, 3) := by decide +kernel
theorem dX12_stepHere_112 : decode cX12_stepHere 112 = .ok (.ifCond .eq 5, 3) := by decide +kernel
theorem dX12_stepHere_115 : decode cX12_stepHere 115 = .ok (.iconst 5, 1) := by decide +kernel
theorem dX12_stepHere_116 : decode cX12_stepHere 116 = .ok (.ireturn, 1) := by decide +kernel
theorem dX12_stepHere_117 : decode cX12_stepHere 117 = .ok (.aload_n 0, 1) := by decide +kernel
theorem dX12_stepHere_118 : decode cX12_stepHere 118 = .ok (.iconst 1, 1) := by decide +kernel
theorem dX12_stepHere_119 : decode cX12_stepHere 119 = .ok (.bipush 7, 2) := by decide +kernel
theorem dX12_stepHere_121 : decode cX12_stepHere 121 = .ok (.iconst 1, 1) := by decide +kernel
theorem dX12_stepHere_122 : decode cX12_stepHere 122 = .ok (.bipush 9, 2) := by decide +kernel
theorem dX12_stepHere_124 : decode cX12_stepHere 124 = .ok (.bipush 14, 2) := by decide +kernel
theorem dX12_stepHere_126 : decode cX12_stepHere 126 = .ok (.iconst 0, 1) := by decide +kernel
theorem dX12_stepHere_127 : decode cX12_stepHere 127 = .ok (.iconst 0, 1) := by decide +kernel
theorem dX12_stepHere_128 : decode cX12_stepHere 128 = .ok (.invokevirtual 170, 3) := by decide +kernel
theorem dX12_stepHere_131 : decode cX12_stepHere 131 = .ok (.ifCond .eq 8, 3) := by decide +kernel
theorem dX12_stepHere_134 : decode cX12_stepHere 134 = .ok (.bipush 6, 2) := by decide +kernel
theorem dX12_stepHere_136 : decode cX12_stepHere 136 = .ok (.goto 4, 3) := by decide +kernel
theorem dX12_stepHere_139 : decode cX12_stepHere 139 = .ok (.iconst (-1), 1) := by decide +kernel
theorem dX12_stepHere_140 : decode cX12_stepHere 140 = .ok (.ireturn, 1) := by decide +kernel
set_option maxRecDepth 100000 in
theorem T_X12_stepHere_0 {G : GE} {d C S : Nat} {P : KI} : Snd G MX12_stepHere (d + 1) C S 0 (RI P) (s_aload 0 (s_iconst 13 (s_iconst 1 (s_iconst 18 (s_iconst 18 (s_iconst 25 (s_iconst 0 (s_iconst 0 (s_callV G d MX12_isWord 7 11 (s_if_eq (s_aload 0 (s_iconst 16 (s_iconst 1 (s_iconst 18 (s_iconst 20 (s_iconst 0 (s_iconst 0 (s_iconst 0 (s_callV G d MX12_isWord 7 11 (s_if_eq (s_aload 0 (s_iconst 16 (s_iconst 12 (s_iconst 1 (s_iconst 14 (s_iconst 20 (s_iconst 0 (s_iconst 0 (s_callV G d MX12_isWord 7 11 (s_if_eq (s_aload 0 (s_iconst 17 (s_iconst 21 (s_iconst 1 (s_iconst 18 (s_iconst 18 (s_iconst 5 (s_iconst 12 (s_callV G d MX12_isWord 7 11 (s_if_eq (s_aload 0 (s_iconst 18 (s_iconst 5 (s_iconst 16 (s_iconst 1 (s_iconst 22 (s_iconst 5 (s_iconst 0 (s_callV G d MX12_isWord 7 11 (s_if_eq (s_aload 0 (s_iconst 25 (s_iconst 5 (s_iconst 1 (s_iconst 18 (s_iconst 0 (s_iconst 0 (s_iconst 0 (s_callV G d MX12_isWord 7 11 (s_if_eq (s_aload 0 (s_iconst 1 (s_iconst 7 (s_iconst 1 (s_iconst 9 (s_iconst 14 (s_iconst 0 (s_iconst 0 (s_callV G d MX12_isWord 7 11 (s_if_eq (s_iconst (-1) (s_ireturn P)) (s_iconst 6 (s_ireturn P)))))))))))) (s_iconst 5 (s_ireturn P)))))))))))) (s_iconst 4 (s_ireturn P)))))))))))) (s_iconst 3 (s_ireturn P)))))))))))) (s_iconst 2 (s_ireturn P)))))))))))) (s_iconst 1 (s_ireturn P)))))))))))) (s_iconst 0 (s_ireturn P)))))))))))) := (e_aload_n dX12_stepHere_0 rfl (e_bipush (v := 13) dX12_stepHere_1 (by decide) (e_iconst (v := 1) dX12_stepHere_3 (by decide) (e_bipush (v := 18) dX12_stepHere_4 (by decide) (e_bipush (v := 18) dX12_stepHere_6 (by decide) (e_bipush (v := 25) dX12_stepHere_8 (by decide) (e_iconst (v := 0) dX12_stepHere_10 (by decide) (e_iconst (v := 0) dX12_stepHere_11 (by decide) (e_callV cl_11 cal_X12_isWord q_1766 q_1768 q_59 dX12_stepHere_12 (e_if_eq (tgt := 20) dX12_stepHere_15 (by decide) (e_aload_n dX12_stepHere_20 rfl (e_bipush (v := 16) dX12_stepHere_21 (by decide) (e_iconst (v := 1) dX12_stepHere_23 (by decide) (e_bipush (v := 18) dX12_stepHere_24 (by decide) (e_bipush (v := 20) dX12_stepHere_26 (by decide) (e_iconst (v := 0) dX12_stepHere_28 (by decide) (e_iconst (v := 0) dX12_stepHere_29 (by decide) (e_iconst (v := 0) dX12_stepHere_30 (by decide) (e_callV cl_11 cal_X12_isWord q_1766 q_1768 q_59 dX12_stepHere_31 (e_if_eq (tgt := 39) dX12_stepHere_34 (by decide) (e_aload_n dX12_stepHere_39 rfl (e_bipush (v := 16) dX12_stepHere_40 (by decide) (e_bipush (v := 12) dX12_stepHere_42 (by decide) (e_iconst (v := 1) dX12_stepHere_44 (by decide) (e_bipush (v := 14) dX12_stepHere_45 (by decide) (e_bipush (v := 20) dX12_stepHere_47 (by decide) (e_iconst (v := 0) dX12_stepHere_49 (by decide) (e_iconst (v := 0) dX12_stepHere_50 (by decide) (e_callV cl_11 cal_X12_isWord q_1766 q_1768 q_59 dX12_stepHere_51 (e_if_eq (tgt := 59) dX12_stepHere_54 (by decide) (e_aload_n dX12_stepHere_59 rfl (e_bipush (v := 17) dX12_stepHere_60 (by decide) (e_bipush (v := 21) dX12_stepHere_62 (by decide) (e_iconst (v := 1) dX12_stepHere_64 (by decide) (e_bipush (v := 18) dX12_stepHere_65 (by decide) (e_bipush (v := 18) dX12_stepHere_67 (by decide) (e_iconst (v := 5) dX12_stepHere_69 (by decide) (e_bipush (v := 12) dX12_stepHere_70 (by decide) (e_callV cl_11 cal_X12_isWord q_1766 q_1768 q_59 dX12_stepHere_72 (e_if_eq (tgt := 80) dX12_stepHere_75 (by decide) (e_aload_n dX12_stepHere_80 rfl (e_bipush (v := 18) dX12_stepHere_81 (by decide) (e_iconst (v := 5) dX12_stepHere_83 (by decide) (e_bipush (v := 16) dX12_stepHere_84 (by decide) (e_iconst (v := 1) dX12_stepHere_86 (by decide) (e_bipush (v := 22) dX12_stepHere_87 (by decide) (e_iconst (v := 5) dX12_stepHere_89 (by decide) (e_iconst (v := 0) dX12_stepHere_90 (by decide) (e_callV cl_11 cal_X12_isWord q_1766 q_1768 q_59 dX12_stepHere_91 (e_if_eq (tgt := 99) dX12_stepHere_94 (by decide) (e_aload_n dX12_stepHere_99 rfl (e_bipush (v := 25) dX12_stepHere_100 (by decide) (e_iconst (v := 5) dX12_stepHere_102 (by decide) (e_iconst (v := 1) dX12_stepHere_103 (by decide) (e_bipush (v := 18) dX12_stepHere_104 (by decide) (e_iconst (v := 0) dX12_stepHere_106 (by decide) (e_iconst (v := 0) dX12_stepHere_107 (by decide) (e_iconst (v := 0) dX12_stepHere_108 (by decide) (e_callV cl_11 cal_X12_isWord q_1766 q_1768 q_59 dX12_stepHere_109 (e_if_eq (tgt := 117) dX12_stepHere_112 (by decide) (e_aload_n dX12_stepHere_117 rfl (e_iconst (v := 1) dX12_stepHere_118 (by decide) (e_bipush (v := 7) dX12_stepHere_119 (by decide) (e_iconst (v := 1) dX12_stepHere_121 (by decide) (e_bipush (v := 9) dX12_stepHere_122 (by decide) (e_bipush (v := 14) dX12_stepHere_124 (by decide) (e_iconst (v := 0) dX12_stepHere_126 (by decide) (e_iconst (v := 0) dX12_stepHere_127 (by decide) (e_callV cl_11 cal_X12_isWord q_1766 q_1768 q_59 dX12_stepHere_128 (e_if_eq (tgt := 139) dX12_stepHere_131 (by decide) (e_iconst (v := (-1)) dX12_stepHere_139 (by decide) (e_ireturn rfl dX12_stepHere_140)) (e_bipush (v := 6) dX12_stepHere_134 (by decide) (e_goto (tgt := 140) dX12_stepHere_136 (by decide) (e_ireturn rfl dX12_stepHere_140))))))))))))) (e_iconst (v := 5) dX12_stepHere_115 (by decide) (e_ireturn rfl dX12_stepHere_116)))))))))))) (e_iconst (v := 4) dX12_stepHere_97 (by decide) (e_ireturn rfl dX12_stepHere_98)))))))))))) (e_iconst (v := 3) dX12_stepHere_78 (by decide) (e_ireturn rfl dX12_stepHere_79)))))))))))) (e_iconst (v := 2) dX12_stepHere_57 (by decide) (e_ireturn rfl dX12_stepHere_58)))))))))))) (e_iconst (v := 1) dX12_stepHere_37 (by decide) (e_ireturn rfl dX12_stepHere_38)))))))))))) (e_iconst (v := 0) dX12_stepHere_18 (by decide) (e_ireturn rfl dX12_stepHere_19))))))))))))
set_option maxRecDepth 100000 in
theorem V_X12_stepHere_0 {G : GE} {d : Nat} {P : KI} {a : Nat → Nat → Int32} {r : Nat → Nat → Value} {N : Nat} {l0 : Nat} (hs : (tyK l0 = (0, 11) ∧ l0 < N ∧ Sp G d 0 0 MX12_isWord [.ref l0, .int 13, .int 1, .int 18, .int 18, .int 25, .int 0, .int 0] (a, r, N) (RI fun v4 a1 r2 n3 => ((v4 = 0 → (tyK l0 = (0, 11) ∧ l0 < n3 ∧ Sp G d 0 0 MX12_isWord [.ref l0, .int 16, .int 1, .int 18, .int 20, .int 0, .int 0, .int 0] (a1, r2, n3) (RI fun v8 a5 r6 n7 => ((v8 = 0 → (tyK l0 = (0, 11) ∧ l0 < n7 ∧ Sp G d 0 0 MX12_isWord [.ref l0, .int 16, .int 12, .int 1, .int 14, .int 20, .int 0, .int 0] (a5, r6, n7) (RI fun v12 a9 r10 n11 => ((v12 = 0 → (tyK l0 = (0, 11) ∧ l0 < n11 ∧ Sp G d 0 0 MX12_isWord [.ref l0, .int 17, .int 21, .int 1, .int 18, .int 18, .int 5, .int 12] (a9, r10, n11) (RI fun v16 a13 r14 n15 => ((v16 = 0 → (tyK l0 = (0, 11) ∧ l0 < n15 ∧ Sp G d 0 0 MX12_isWord [.ref l0, .int 18, .int 5, .int 16, .int 1, .int 22, .int 5, .int 0] (a13, r14, n15) (RI fun v20 a17 r18 n19 => ((v20 = 0 → (tyK l0 = (0, 11) ∧ l0 < n19 ∧ Sp G d 0 0 MX12_isWord [.ref l0, .int 25, .int 5, .int 1, .int 18, .int 0, .int 0, .int 0] (a17, r18, n19) (RI fun v24 a21 r22 n23 => ((v24 = 0 → (tyK l0 = (0, 11) ∧ l0 < n23 ∧ Sp G d 0 0 MX12_isWord [.ref l0, .int 1, .int 7, .int 1, .int 9, .int 14, .int 0, .int 0] (a21, r22, n23) (RI fun v28 a25 r26 n27 => ((v28 = 0 → P (-1) a25 r26 n27) ∧ (¬ v28 = 0 → P 6 a25 r26 n27))))) ∧ (¬ v24 = 0 → P 5 a21 r22 n23))))) ∧ (¬ v20 = 0 → P 4 a17 r18 n19))))) ∧ (¬ v16 = 0 → P 3 a13 r14 n15))))) ∧ (¬ v12 = 0 → P 2 a9 r10 n11))))) ∧ (¬ v8 = 0 → P 1 a5 r6 n7))))) ∧ (¬ v4 = 0 → P 0 a1 r2 n3))))) : Sp G (d + 1) 0 0 MX12_stepHere [.ref l0] (a, r, N) (RI P) := Sp.mk (mc := 0) (ms := 0) [.ref l0] rfl rfl rfl rfl (T_X12_stepHere_0 (C := 0) (S := 0) _ _ _ hs)
theorem dX12_readsStep_0 : decode cX12_readsStep 0 = .ok (.aload_n 0, 1) := by decide +kernel
theorem dX12_readsStep_1 : decode cX12_readsStep 1 = .ok (.invokevirtual 268, 3) := by decide +kernel
theorem dX12_readsStep_4 : decode cX12_readsStep 4 = .ok (.istore_n 1, 1) := by decide +kernel
theorem dX12_readsStep_5 : decode cX12_readsStep 5 = .ok (.iload_n 1, 1) := by decide +kernel
theorem dX12_readsStep_6 : decode cX12_readsStep 6 = .ok (.iconst (-1), 1) := by decide +kernel
theorem dX12_readsStep_7 : decode cX12_readsStep 7 = .ok (.if_icmp .ne 12, 3) := by decide +kernel
theorem dX12_readsStep_10 : decode cX12_readsStep 10 = .ok (.aload_n 0, 1) := by decide +kernel
theorem dX12_readsStep_11 : decode cX12_readsStep 11 = .ok (.iconst 1, 1) := by decide +kernel
theorem dX12_readsStep_12 : decode cX12_readsStep 12 = .ok (.aload_n 0, 1) := by decide +kernel
theorem dX12_readsStep_13 : decode cX12_readsStep 13 = .ok (.getfield 124, 3) := by decide +kernel
theorem dX12_readsStep_16 : decode cX12_readsStep 16 = .ok (.invokevirtual 144, 3) := by decide +kernel
theorem dX12_readsStep_19 : decode cX12_readsStep 19 = .ok (.iload_n 1, 1) := by decide +kernel
theorem dX12_readsStep_20 : decode cX12_readsStep 20 = .ok (.bipush 6, 2) := by decide +kernel
theorem dX12_readsStep_22 : decode cX12_readsStep 22 = .ok (.if_icmp .ne 11, 3) := by decide +kernel
theorem dX12_readsStep_25 : decode cX12_readsStep 25 = .ok (.aload_n 0, 1) := by decide +kernel
theorem dX12_readsStep_26 : decode cX12_readsStep 26 = .ok (.invokevirtual 248, 3) := by decide +kernel
theorem dX12_readsStep_29 : decode cX12_readsStep 29 = .ok (.ifCond .ne 4, 3) := by decide +kernel
theorem dX12_readsStep_32 : decode cX12_readsStep 32 = .ok (.return_, 1) := by decide +kernel
theorem dX12_readsStep_33 : decode cX12_readsStep 33 = .ok (.aload_n 0, 1) := by decide +kernel
theorem dX12_readsStep_34 : decode cX12_readsStep 34 = .ok (.getfield 131, 3) := by decide +kernel
theorem dX12_readsStep_37 : decode cX12_readsStep 37 = .ok (.ifCond .eq 4, 3) := by decide +kernel
theorem dX12_readsStep_40 : decode cX12_readsStep 40 = .ok (.return_, 1) := by decide +kernel
theorem dX12_readsStep_41 : decode cX12_readsStep 41 = .ok (.aload_n 0, 1) := by decide +kernel
theorem dX12_readsStep_42 : decode cX12_readsStep 42 = .ok (.invokevirtual 174, 3) := by decide +kernel
theorem dX12_readsStep_45 : decode cX12_readsStep 45 = .ok (.aload_n 0, 1) := by decide +kernel
theorem dX12_readsStep_46 : decode cX12_readsStep 46 = .ok (.getfield 76, 3) := by decide +kernel
theorem dX12_readsStep_49 : decode cX12_readsStep 49 = .ok (.aload_n 0, 1) := by decide +kernel
theorem dX12_readsStep_50 : decode cX12_readsStep 50 = .ok (.getfield 271, 3) := by decide +kernel
theorem dX12_readsStep_53 : decode cX12_readsStep 53 = .ok (.aaload, 1) := by decide +kernel
theorem dX12_readsStep_54 : decode cX12_readsStep 54 = .ok (.astore_n 2, 1) := by decide +kernel
theorem dX12_readsStep_55 : decode cX12_readsStep 55 = .ok (.aload_n 0, 1) := by decide +kernel
theorem dX12_readsStep_56 : decode cX12_readsStep 56 = .ok (.dup, 1) := by decide +kernel
theorem dX12_readsStep_57 : decode cX12_readsStep 57 = .ok (.getfield 271, 3) := by decide +kernel
theorem dX12_readsStep_60 : decode cX12_readsStep 60 = .ok (.iconst 1, 1) := by decide +kernel
theorem dX12_readsStep_61 : decode cX12_readsStep 61 = .ok (.iadd, 1) := by decide +kernel
theorem dX12_readsStep_62 : decode cX12_readsStep 62 = .ok (.putfield 271, 3) := by decide +kernel
theorem dX12_readsStep_65 : decode cX12_readsStep 65 = .ok (.aload_n 2, 1) := by decide +kernel
theorem dX12_readsStep_66 : decode cX12_readsStep 66 = .ok (.iconst 0, 1) := by decide +kernel
theorem dX12_readsStep_67 : decode cX12_readsStep 67 = .ok (.iload_n 1, 1) := by decide +kernel
theorem dX12_readsStep_68 : decode cX12_readsStep 68 = .ok (.iastore, 1) := by decide +kernel
theorem dX12_readsStep_69 : decode cX12_readsStep 69 = .ok (.iload_n 1, 1) := by decide +kernel
theorem dX12_readsStep_70 : decode cX12_readsStep 70 = .ok (.iconst 5, 1) := by decide +kernel
theorem dX12_readsStep_71 : decode cX12_readsStep 71 = .ok (.if_icmp .ge 19, 3) := by decide +kernel
theorem dX12_readsStep_74 : decode cX12_readsStep 74 = .ok (.aload_n 2, 1) := by decide +kernel
theorem dX12_readsStep_75 : decode cX12_readsStep 75 = .ok (.iconst 1, 1) := by decide +kernel
theorem dX12_readsStep_76 : decode cX12_readsStep 76 = .ok (.aload_n 0, 1) := by decide +kernel
theorem dX12_readsStep_77 : decode cX12_readsStep 77 = .ok (.iconst 0, 1) := by decide +kernel
theorem dX12_readsStep_78 : decode cX12_readsStep 78 = .ok (.aload_n 0, 1) := by decide +kernel
theorem dX12_readsStep_79 : decode cX12_readsStep 79 = .ok (.getfield 23, 3) := by decide +kernel
theorem dX12_readsStep_82 : decode cX12_readsStep 82 = .ok (.iconst 1, 1) := by decide +kernel
theorem dX12_readsStep_83 : decode cX12_readsStep 83 = .ok (.iaload, 1) := by decide +kernel
theorem dX12_readsStep_84 : decode cX12_readsStep 84 = .ok (.iconst 1, 1) := by decide +kernel
theorem dX12_readsStep_85 : decode cX12_readsStep 85 = .ok (.isub, 1) := by decide +kernel
theorem dX12_readsStep_86 : decode cX12_readsStep 86 = .ok (.invokevirtual 183, 3) := by decide +kernel
theorem dX12_readsStep_89 : decode cX12_readsStep 89 = .ok (.iastore, 1) := by decide +kernel
theorem dX12_readsStep_90 : decode cX12_readsStep 90 = .ok (.iload_n 1, 1) := by decide +kernel
theorem dX12_readsStep_91 : decode cX12_readsStep 91 = .ok (.ifCond .ne 19, 3) := by decide +kernel
theorem dX12_readsStep_94 : decode cX12_readsStep 94 = .ok (.aload_n 2, 1) := by decide +kernel
theorem dX12_readsStep_95 : decode cX12_readsStep 95 = .ok (.iconst 2, 1) := by decide +kernel
theorem dX12_readsStep_96 : decode cX12_readsStep 96 = .ok (.aload_n 0, 1) := by decide +kernel
theorem dX12_readsStep_97 : decode cX12_readsStep 97 = .ok (.iconst 0, 1) := by decide +kernel
theorem dX12_readsStep_98 : decode cX12_readsStep 98 = .ok (.aload_n 0, 1) := by decide +kernel
theorem dX12_readsStep_99 : decode cX12_readsStep 99 = .ok (.getfield 23, 3) := by decide +kernel
theorem dX12_readsStep_102 : decode cX12_readsStep 102 = .ok (.iconst 1, 1) := by decide +kernel
theorem dX12_readsStep_103 : decode cX12_readsStep 103 = .ok (.iaload, 1) := by decide +kernel
theorem dX12_readsStep_104 : decode cX12_readsStep 104 = .ok (.iconst 1, 1) := by decide +kernel
theorem dX12_readsStep_105 : decode cX12_readsStep 105 = .ok (.isub, 1) := by decide +kernel
theorem dX12_readsStep_106 : decode cX12_readsStep 106 = .ok (.invokevirtual 183, 3) := by decide +kernel
theorem dX12_readsStep_109 : decode cX12_readsStep 109 = .ok (.iastore, 1) := by decide +kernel
theorem dX12_readsStep_110 : decode cX12_readsStep 110 = .ok (.iload_n 1, 1) := by decide +kernel
theorem dX12_readsStep_111 : decode cX12_readsStep 111 = .ok (.iconst 2, 1) := by decide +kernel
theorem dX12_readsStep_112 : decode cX12_readsStep 112 = .ok (.if_icmp .ne 13, 3) := by decide +kernel
theorem dX12_readsStep_115 : decode cX12_readsStep 115 = .ok (.aload_n 2, 1) := by decide +kernel
theorem dX12_readsStep_116 : decode cX12_readsStep 116 = .ok (.iconst 2, 1) := by decide +kernel
theorem dX12_readsStep_117 : decode cX12_readsStep 117 = .ok (.aload_n 0, 1) := by decide +kernel
theorem dX12_readsStep_118 : decode cX12_readsStep 118 = .ok (.iconst 1, 1) := by decide +kernel
theorem dX12_readsStep_119 : decode cX12_readsStep 119 = .ok (.bipush 9, 2) := by decide +kernel
theorem dX12_readsStep_121 : decode cX12_readsStep 121 = .ok (.invokevirtual 183, 3) := by decide +kernel
theorem dX12_readsStep_124 : decode cX12_readsStep 124 = .ok (.iastore, 1) := by decide +kernel
theorem dX12_readsStep_125 : decode cX12_readsStep 125 = .ok (.iload_n 1, 1) := by decide +kernel
theorem dX12_readsStep_126 : decode cX12_readsStep 126 = .ok (.bipush 6, 2) := by decide +kernel
theorem dX12_readsStep_128 : decode cX12_readsStep 128 = .ok (.if_icmp .ne 70, 3) := by decide +kernel
theorem dX12_readsStep_131 : decode cX12_readsStep 131 = .ok (.aload_n 2, 1) := by decide +kernel
theorem dX12_readsStep_132 : decode cX12_readsStep 132 = .ok (.iconst 1, 1) := by decide +kernel
theorem dX12_readsStep_133 : decode cX12_readsStep 133 = .ok (.aload_n 0, 1) := by decide +kernel
theorem dX12_readsStep_134 : decode cX12_readsStep 134 = .ok (.iconst 0, 1) := by decide +kernel
theorem dX12_readsStep_135 : decode cX12_readsStep 135 = .ok (.bipush 20, 2) := by decide +kernel
theorem dX12_readsStep_137 : decode cX12_readsStep 137 = .ok (.invokevirtual 183, 3) := by decide +kernel
theorem dX12_readsStep_140 : decode cX12_readsStep 140 = .ok (.iastore, 1) := by decide +kernel
theorem dX12_readsStep_141 : decode cX12_readsStep 141 = .ok (.aload_n 0, 1) := by decide +kernel
theorem dX12_readsStep_142 : decode cX12_readsStep 142 = .ok (.bipush 91, 2) := by decide +kernel
theorem dX12_readsStep_144 : decode cX12_readsStep 144 = .ok (.invokevirtual 194, 3) := by decide +kernel
theorem dX12_readsStep_147 : decode cX12_readsStep 147 = .ok (.aload_n 0, 1) := by decide +kernel
theorem dX12_readsStep_148 : decode cX12_readsStep 148 = .ok (.invokevirtual 137, 3) := by decide +kernel
theorem dX12_readsStep_151 : decode cX12_readsStep 151 = .ok (.aload_n 0, 1) := by decide +kernel
theorem dX12_readsStep_152 : decode cX12_readsStep 152 = .ok (.getfield 131, 3) := by decide +kernel
theorem dX12_readsStep_155 : decode cX12_readsStep 155 = .ok (.ifCond .ne 27, 3) := by decide +kernel
theorem dX12_readsStep_158 : decode cX12_readsStep 158 = .ok (.aload_n 0, 1) := by decide +kernel
theorem dX12_readsStep_159 : decode cX12_readsStep 159 = .ok (.aload_n 0, 1) := by decide +kernel
theorem dX12_readsStep_160 : decode cX12_readsStep 160 = .ok (.getfield 124, 3) := by decide +kernel
theorem dX12_readsStep_163 : decode cX12_readsStep 163 = .ok (.invokevirtual 127, 3) := by decide +kernel
theorem dX12_readsStep_166 : decode cX12_readsStep 166 = .ok (.bipush 93, 2) := by decide +kernel
theorem dX12_readsStep_168 : decode cX12_readsStep 168 = .ok (.if_icmp .eq 14, 3) := by decide +kernel
theorem dX12_readsStep_171 : decode cX12_readsStep 171 = .ok (.aload_n 0, 1) := by decide +kernel
theorem dX12_readsStep_172 : decode cX12_readsStep 172 = .ok (.invokevirtual 274, 3) := by decide +kernel
theorem dX12_readsStep_175 : decode cX12_readsStep 175 = .ok (.aload_n 0, 1) := by decide +kernel
theorem dX12_readsStep_176 : decode cX12_readsStep 176 = .ok (.invokevirtual 137, 3) := by decide +kernel
theorem dX12_readsStep_179 : decode cX12_readsStep 179 = .ok (.goto (-28), 3) := by decide +kernel
theorem dX12_readsStep_182 : decode cX12_readsStep 182 = .ok (.aload_n 0, 1) := by decide +kernel
theorem dX12_readsStep_183 : decode cX12_readsStep 183 = .ok (.bipush 93, 2) := by decide +kernel
theorem dX12_readsStep_185 : decode cX12_readsStep 185 = .ok (.invokevirtual 194, 3) := by decide +kernel
theorem dX12_readsStep_188 : decode cX12_readsStep 188 = .ok (.aload_n 0, 1) := by decide +kernel
theorem dX12_readsStep_189 : decode cX12_readsStep 189 = .ok (.dup, 1) := by decide +kernel
theorem dX12_readsStep_190 : decode cX12_readsStep 190 = .ok (.getfield 180, 3) := by decide +kernel
theorem dX12_readsStep_193 : decode cX12_readsStep 193 = .ok (.iconst 1, 1) := by decide +kernel
theorem dX12_readsStep_194 : decode cX12_readsStep 194 = .ok (.isub, 1) := by decide +kernel
theorem dX12_readsStep_195 : decode cX12_readsStep 195 = .ok (.putfield 180, 3) := by decide +kernel
theorem dX12_readsStep_198 : decode cX12_readsStep 198 = .ok (.aload_n 2, 1) := by decide +kernel
theorem dX12_readsStep_199 : decode cX12_readsStep 199 = .ok (.iconst 3, 1) := by decide +kernel
theorem dX12_readsStep_200 : decode cX12_readsStep 200 = .ok (.aload_n 0, 1) := by decide +kernel
theorem dX12_readsStep_201 : decode cX12_readsStep 201 = .ok (.getfield 271, 3) := by decide +kernel
theorem dX12_readsStep_204 : decode cX12_readsStep 204 = .ok (.iastore, 1) := by decide +kernel
theorem dX12_readsStep_205 : decode cX12_readsStep 205 = .ok (.aload_n 0, 1) := by decide +kernel
theorem dX12_readsStep_206 : decode cX12_readsStep 206 = .ok (.bipush 59, 2) := by decide +kernel
theorem dX12_readsStep_208 : decode cX12_readsStep 208 = .ok (.invokevirtual 194, 3) := by decide +kernel
theorem dX12_readsStep_211 : decode cX12_readsStep 211 = .ok (.return_, 1) := by decide +kernel
set_option maxRecDepth 100000 in
theorem T_X12_readsStep_0 {G : GE} {d C S : Nat} {P : KN} : Snd G MX12_readsStep (d + 1) C S 0 (RN P) (s_aload 0 (s_callV G d MX12_stepHere 0 11 (s_istore 1 (s_iload 1 (s_iconst (-1) (s_ic_ne (s_iload 1 (s_iconst 6 (s_ic_ne (fun L st h => E G MX12_readsStep (d + 1) C S 33 (msk [true, true, false] L) st h (RN P)) (s_aload 0 (s_callV G d MX12_opens 0 11 (s_if_ne (fun L st h => E G MX12_readsStep (d + 1) C S 33 (msk [true, true, false] L) st h (RN P)) (s_return P))))))) (s_aload 0 (s_iconst 1 (s_aload 0 (s_getI 11 4 (s_callV G d MX12_wrong 2 11 (s_iload 1 (s_iconst 6 (s_ic_ne (fun L st h => E G MX12_readsStep (d + 1) C S 33 (msk [true, true, false] L) st h (RN P)) (s_aload 0 (s_callV G d MX12_opens 0 11 (s_if_ne (fun L st h => E G MX12_readsStep (d + 1) C S 33 (msk [true, true, false] L) st h (RN P)) (s_return P)))))))))))))))))) := (e_aload_n dX12_readsStep_0 rfl (e_callV cl_11 cal_X12_stepHere q_1863 q_1865 q_76 dX12_readsStep_1 (e_istore_n dX12_readsStep_4 rfl (by decide) (e_iload_n dX12_readsStep_5 rfl (e_iconst (v := (-1)) dX12_readsStep_6 (by decide) (e_ic_ne (tgt := 19) dX12_readsStep_7 (by decide) (e_iload_n dX12_readsStep_19 rfl (e_bipush (v := 6) dX12_readsStep_20 (by decide) (e_ic_ne (tgt := 33) dX12_readsStep_22 (by decide) (e_msk [true, true, false]) (e_aload_n dX12_readsStep_25 rfl (e_callV cl_11 cal_X12_opens q_1827 q_1829 q_70 dX12_readsStep_26 (e_if_ne (tgt := 33) dX12_readsStep_29 (by decide) (e_msk [true, true, false]) (e_return rfl dX12_readsStep_32))))))) (e_aload_n dX12_readsStep_10 rfl (e_iconst (v := 1) dX12_readsStep_11 (by decide) (e_aload_n dX12_readsStep_12 rfl (e_getI rfl cl_11 (by decide) rfl q_1568 dX12_readsStep_13 (e_callV cl_11 cal_X12_wrong q_1783 q_1785 q_61 dX12_readsStep_16 (e_iload_n dX12_readsStep_19 rfl (e_bipush (v := 6) dX12_readsStep_20 (by decide) (e_ic_ne (tgt := 33) dX12_readsStep_22 (by decide) (e_msk [true, true, false]) (e_aload_n dX12_readsStep_25 rfl (e_callV cl_11 cal_X12_opens q_1827 q_1829 q_70 dX12_readsStep_26 (e_if_ne (tgt := 33) dX12_readsStep_29 (by decide) (e_msk [true, true, false]) (e_return rfl dX12_readsStep_32))))))))))))))))))
set_option maxRecDepth 100000 in
theorem V_X12_readsStep_0 {G : GE} {d : Nat} {P : KN} {a : Nat → Nat → Int32} {r : Nat → Nat → Value} {N : Nat} {l0 : Nat} (hs : (tyK l0 = (0, 11) ∧ l0 < N ∧ Sp G d 0 0 MX12_stepHere [.ref l0] (a, r, N) (RI fun v4 a1 r2 n3 => ((¬ v4 = (-1) → ((¬ v4 = 6 → E G MX12_readsStep (d + 1) 0 0 33 [.ref l0, .int v4, .null] [] (a1, r2, n3) (RN P)) ∧ (v4 = 6 → (tyK l0 = (0, 11) ∧ l0 < n3 ∧ Sp G d 0 0 MX12_opens [.ref l0] (a1, r2, n3) (RI fun v8 a5 r6 n7 => ((¬ v8 = 0 → E G MX12_readsStep (d + 1) 0 0 33 [.ref l0, .int v4, .null] [] (a5, r6, n7) (RN P)) ∧ (v8 = 0 → P a5 r6 n7))))))) ∧ (v4 = (-1) → (tyK l0 = (0, 11) ∧ l0 < n3 ∧ (tyK l0 = (0, 11) ∧ l0 < n3 ∧ Sp G d 0 0 MX12_wrong [.ref l0, .int 1, .int (a1 l0 4)] (a1, r2, n3) (RN fun a9 r10 n11 => ((¬ v4 = 6 → E G MX12_readsStep (d + 1) 0 0 33 [.ref l0, .int v4, .null] [] (a9, r10, n11) (RN P)) ∧ (v4 = 6 → (tyK l0 = (0, 11) ∧ l0 < n11 ∧ Sp G d 0 0 MX12_opens [.ref l0] (a9, r10, n11) (RI fun v15 a12 r13 n14 => ((¬ v15 = 0 → E G MX12_readsStep (d + 1) 0 0 33 [.ref l0, .int v4, .null] [] (a12, r13, n14) (RN P)) ∧ (v15 = 0 → P a12 r13 n14)))))))))))))) : Sp G (d + 1) 0 0 MX12_readsStep [.ref l0] (a, r, N) (RN P) := Sp.mk (mc := 0) (ms := 0) [.ref l0, .null, .null] rfl rfl rfl rfl (T_X12_readsStep_0 (C := 0) (S := 0) _ _ _ hs)
set_option maxRecDepth 100000 in
theorem T_X12_readsStep_33 {G : GE} {d C S : Nat} {P : KN} : Snd G MX12_readsStep (d + 1) C S 33 (RN P) (s_aload 0 (s_getI 11 5 (s_if_eq (s_aload 0 (s_callV G d MX12_skipWord 0 11 (s_aload 0 (s_getR 11 31 (s_aload 0 (s_getI 11 32 (s_aaload (s_astore 2 (s_aload 0 (s_dup (s_getI 11 32 (s_iconst 1 (s_iadd (s_putI 11 32 (s_aload 2 (s_iconst 0 (s_iload 1 (s_iastore (s_iload 1 (s_iconst 5 (s_ic_ge (s_iload 1 (s_if_ne (fun L st h => E G MX12_readsStep (d + 1) C S 110 (msk [true, true, true] L) st h (RN P)) (s_aload 2 (s_iconst 2 (s_aload 0 (s_iconst 0 (s_aload 0 (s_getR 11 12 (s_iconst 1 (s_iaload (s_iconst 1 (s_isub (s_callV G d MX12_numberHere 2 11 (s_iastore (fun L st h => E G MX12_readsStep (d + 1) C S 110 (msk [true, true, true] L) st h (RN P)))))))))))))))) (s_aload 2 (s_iconst 1 (s_aload 0 (s_iconst 0 (s_aload 0 (s_getR 11 12 (s_iconst 1 (s_iaload (s_iconst 1 (s_isub (s_callV G d MX12_numberHere 2 11 (s_iastore (s_iload 1 (s_if_ne (fun L st h => E G MX12_readsStep (d + 1) C S 110 (msk [true, true, true] L) st h (RN P)) (s_aload 2 (s_iconst 2 (s_aload 0 (s_iconst 0 (s_aload 0 (s_getR 11 12 (s_iconst 1 (s_iaload (s_iconst 1 (s_isub (s_callV G d MX12_numberHere 2 11 (s_iastore (fun L st h => E G MX12_readsStep (d + 1) C S 110 (msk [true, true, true] L) st h (RN P))))))))))))))))))))))))))))))))))))))))))))))))) (s_return P)))) := (e_aload_n dX12_readsStep_33 rfl (e_getI rfl cl_11 (by decide) rfl q_1569 dX12_readsStep_34 (e_if_eq (tgt := 41) dX12_readsStep_37 (by decide) (e_aload_n dX12_readsStep_41 rfl (e_callV cl_11 cal_X12_skipWord q_1787 q_1789 q_62 dX12_readsStep_42 (e_aload_n dX12_readsStep_45 rfl (e_getR rfl cl_11 (by decide) rfl q_1595 dX12_readsStep_46 (e_aload_n dX12_readsStep_49 rfl (e_getI rfl cl_11 (by decide) rfl q_1596 dX12_readsStep_50 (e_aaload dX12_readsStep_53 (e_astore_n dX12_readsStep_54 rfl (by decide) (e_aload_n dX12_readsStep_55 rfl (e_dup dX12_readsStep_56 (e_getI rfl cl_11 (by decide) rfl q_1596 dX12_readsStep_57 (e_iconst (v := 1) dX12_readsStep_60 (by decide) (e_iadd dX12_readsStep_61 (e_putI rfl cl_11 (by decide) rfl rfl rfl q_1596 dX12_readsStep_62 (e_aload_n dX12_readsStep_65 rfl (e_iconst (v := 0) dX12_readsStep_66 (by decide) (e_iload_n dX12_readsStep_67 rfl (e_iastore dX12_readsStep_68 (e_iload_n dX12_readsStep_69 rfl (e_iconst (v := 5) dX12_readsStep_70 (by decide) (e_ic_ge (tgt := 90) dX12_readsStep_71 (by decide) (e_iload_n dX12_readsStep_90 rfl (e_if_ne (tgt := 110) dX12_readsStep_91 (by decide) (e_msk [true, true, true]) (e_aload_n dX12_readsStep_94 rfl (e_iconst (v := 2) dX12_readsStep_95 (by decide) (e_aload_n dX12_readsStep_96 rfl (e_iconst (v := 0) dX12_readsStep_97 (by decide) (e_aload_n dX12_readsStep_98 rfl (e_getR rfl cl_11 (by decide) rfl q_1576 dX12_readsStep_99 (e_iconst (v := 1) dX12_readsStep_102 (by decide) (e_iaload dX12_readsStep_103 (e_iconst (v := 1) dX12_readsStep_104 (by decide) (e_isub dX12_readsStep_105 (e_callV cl_11 cal_X12_numberHere q_1791 q_1793 q_63 dX12_readsStep_106 (e_iastore dX12_readsStep_109 (e_msk [true, true, true]))))))))))))))) (e_aload_n dX12_readsStep_74 rfl (e_iconst (v := 1) dX12_readsStep_75 (by decide) (e_aload_n dX12_readsStep_76 rfl (e_iconst (v := 0) dX12_readsStep_77 (by decide) (e_aload_n dX12_readsStep_78 rfl (e_getR rfl cl_11 (by decide) rfl q_1576 dX12_readsStep_79 (e_iconst (v := 1) dX12_readsStep_82 (by decide) (e_iaload dX12_readsStep_83 (e_iconst (v := 1) dX12_readsStep_84 (by decide) (e_isub dX12_readsStep_85 (e_callV cl_11 cal_X12_numberHere q_1791 q_1793 q_63 dX12_readsStep_86 (e_iastore dX12_readsStep_89 (e_iload_n dX12_readsStep_90 rfl (e_if_ne (tgt := 110) dX12_readsStep_91 (by decide) (e_msk [true, true, true]) (e_aload_n dX12_readsStep_94 rfl (e_iconst (v := 2) dX12_readsStep_95 (by decide) (e_aload_n dX12_readsStep_96 rfl (e_iconst (v := 0) dX12_readsStep_97 (by decide) (e_aload_n dX12_readsStep_98 rfl (e_getR rfl cl_11 (by decide) rfl q_1576 dX12_readsStep_99 (e_iconst (v := 1) dX12_readsStep_102 (by decide) (e_iaload dX12_readsStep_103 (e_iconst (v := 1) dX12_readsStep_104 (by decide) (e_isub dX12_readsStep_105 (e_callV cl_11 cal_X12_numberHere q_1791 q_1793 q_63 dX12_readsStep_106 (e_iastore dX12_readsStep_109 (e_msk [true, true, true])))))))))))))))))))))))))))))))))))))))))))))))) (e_return rfl dX12_readsStep_40))))
set_option maxRecDepth 100000 in
theorem V_X12_readsStep_33 {G : GE} {d C S : Nat} {P : KN} {a : Nat → Nat → Int32} {r : Nat → Nat → Value} {N : Nat} {l0 : Nat} {l1 : Int32} (hs : (tyK l0 = (0, 11) ∧ l0 < N ∧ (((a l0 5) = 0 → (tyK l0 = (0, 11) ∧ l0 < N ∧ Sp G d 0 0 MX12_skipWord [.ref l0] (a, r, N) (RN fun a1 r2 n3 => (tyK l0 = (0, 11) ∧ l0 < n3 ∧ ∃ q4, r2 l0 31 = .ref q4 ∧ (tyK l0 = (0, 11) ∧ l0 < n3 ∧ ((tyK q4).1 = 3 ∧ q4 < n3 ∧ vp_in (a1 l0 32) (tyK q4).2 ∧ (tyK l0 = (0, 11) ∧ l0 < n3 ∧ (tyK l0 = (0, 11) ∧ l0 < n3 ∧ ∀ a5, a5 = u2 a1 l0 32 ((a1 l0 32) + 1) → ((tyK (q4 + 1 + ((a1 l0 32) : Int32).toNatClampNeg)).1 = 1 ∧ (q4 + 1 + ((a1 l0 32) : Int32).toNatClampNeg) < n3 ∧ vp_in 0 (tyK (q4 + 1 + ((a1 l0 32) : Int32).toNatClampNeg)).2 ∧ ∀ a6, a6 = u2 a5 (q4 + 1 + ((a1 l0 32) : Int32).toNatClampNeg) (0 : Int32).toNatClampNeg l1 → ((5 ≤ l1 → ((¬ l1 = 0 → E G MX12_readsStep (d + 1) C S 110 [.ref l0, .int l1, .ref (q4 + 1 + ((a1 l0 32) : Int32).toNatClampNeg)] [] (a6, r2, n3) (RN P)) ∧ (l1 = 0 → (tyK l0 = (0, 11) ∧ l0 < n3 ∧ ∃ q7, r2 l0 12 = .ref q7 ∧ ((tyK q7).1 = 1 ∧ q7 < n3 ∧ vp_in 1 (tyK q7).2 ∧ (tyK l0 = (0, 11) ∧ l0 < n3 ∧ Sp G d 0 0 MX12_numberHere [.ref l0, .int 0, .int ((a6 q7 (1 : Int32).toNatClampNeg) - 1)] (a6, r2, n3) (RI fun v11 a8 r9 n10 => ((tyK (q4 + 1 + ((a1 l0 32) : Int32).toNatClampNeg)).1 = 1 ∧ (q4 + 1 + ((a1 l0 32) : Int32).toNatClampNeg) < n10 ∧ vp_in 2 (tyK (q4 + 1 + ((a1 l0 32) : Int32).toNatClampNeg)).2 ∧ ∀ a12, a12 = u2 a8 (q4 + 1 + ((a1 l0 32) : Int32).toNatClampNeg) (2 : Int32).toNatClampNeg v11 → E G MX12_readsStep (d + 1) C S 110 [.ref l0, .int l1, .ref (q4 + 1 + ((a1 l0 32) : Int32).toNatClampNeg)] [] (a12, r9, n10) (RN P))))))))) ∧ (¬ 5 ≤ l1 → (tyK l0 = (0, 11) ∧ l0 < n3 ∧ ∃ q13, r2 l0 12 = .ref q13 ∧ ((tyK q13).1 = 1 ∧ q13 < n3 ∧ vp_in 1 (tyK q13).2 ∧ (tyK l0 = (0, 11) ∧ l0 < n3 ∧ Sp G d 0 0 MX12_numberHere [.ref l0, .int 0, .int ((a6 q13 (1 : Int32).toNatClampNeg) - 1)] (a6, r2, n3) (RI fun v17 a14 r15 n16 => ((tyK (q4 + 1 + ((a1 l0 32) : Int32).toNatClampNeg)).1 = 1 ∧ (q4 + 1 + ((a1 l0 32) : Int32).toNatClampNeg) < n16 ∧ vp_in 1 (tyK (q4 + 1 + ((a1 l0 32) : Int32).toNatClampNeg)).2 ∧ ∀ a18, a18 = u2 a14 (q4 + 1 + ((a1 l0 32) : Int32).toNatClampNeg) (1 : Int32).toNatClampNeg v17 → ((¬ l1 = 0 → E G MX12_readsStep (d + 1) C S 110 [.ref l0, .int l1, .ref (q4 + 1 + ((a1 l0 32) : Int32).toNatClampNeg)] [] (a18, r15, n16) (RN P)) ∧ (l1 = 0 → (tyK l0 = (0, 11) ∧ l0 < n16 ∧ ∃ q19, r15 l0 12 = .ref q19 ∧ ((tyK q19).1 = 1 ∧ q19 < n16 ∧ vp_in 1 (tyK q19).2 ∧ (tyK l0 = (0, 11) ∧ l0 < n16 ∧ Sp G d 0 0 MX12_numberHere [.ref l0, .int 0, .int ((a18 q19 (1 : Int32).toNatClampNeg) - 1)] (a18, r15, n16) (RI fun v23 a20 r21 n22 => ((tyK (q4 + 1 + ((a1 l0 32) : Int32).toNatClampNeg)).1 = 1 ∧ (q4 + 1 + ((a1 l0 32) : Int32).toNatClampNeg) < n22 ∧ vp_in 2 (tyK (q4 + 1 + ((a1 l0 32) : Int32).toNatClampNeg)).2 ∧ ∀ a24, a24 = u2 a20 (q4 + 1 + ((a1 l0 32) : Int32).toNatClampNeg) (2 : Int32).toNatClampNeg v23 → E G MX12_readsStep (d + 1) C S 110 [.ref l0, .int l1, .ref (q4 + 1 + ((a1 l0 32) : Int32).toNatClampNeg)] [] (a24, r21, n22) (RN P)))))))))))))))))))))))) ∧ (¬ (a l0 5) = 0 → P a r N)))) : E G MX12_readsStep (d + 1) C S 33 [.ref l0, .int l1, .null] [] (a, r, N) (RN P) := T_X12_readsStep_33 _ _ _ hs
set_option maxRecDepth 100000 in
theorem T_X12_readsStep_110 {G : GE} {d C S : Nat} {P : KN} : Snd G MX12_readsStep (d + 1) C S 110 (RN P) (s_iload 1 (s_iconst 2 (s_ic_ne (s_iload 1 (s_iconst 6 (s_ic_ne (s_aload 2 (s_iconst 3 (s_aload 0 (s_getI 11 32 (s_iastore (s_aload 0 (s_iconst 59 (s_callV G d MX12_sign 1 11 (s_return P))))))))) (s_aload 2 (s_iconst 1 (s_aload 0 (s_iconst 0 (s_iconst 20 (s_callV G d MX12_numberHere 2 11 (s_iastore (s_aload 0 (s_iconst 91 (s_callV G d MX12_sign 1 11 (s_aload 0 (s_callV G d MX12_blanks 0 11 (fun L st h => E G MX12_readsStep (d + 1) C S 151 (msk [true, false, true] L) st h (RN P))))))))))))))))) (s_aload 2 (s_iconst 2 (s_aload 0 (s_iconst 1 (s_iconst 9 (s_callV G d MX12_numberHere 2 11 (s_iastore (s_iload 1 (s_iconst 6 (s_ic_ne (s_aload 2 (s_iconst 3 (s_aload 0 (s_getI 11 32 (s_iastore (s_aload 0 (s_iconst 59 (s_callV G d MX12_sign 1 11 (s_return P))))))))) (s_aload 2 (s_iconst 1 (s_aload 0 (s_iconst 0 (s_iconst 20 (s_callV G d MX12_numberHere 2 11 (s_iastore (s_aload 0 (s_iconst 91 (s_callV G d MX12_sign 1 11 (s_aload 0 (s_callV G d MX12_blanks 0 11 (fun L st h => E G MX12_readsStep (d + 1) C S 151 (msk [true, false, true] L) st h (RN P))))))))))))))))))))))))))) := (e_iload_n dX12_readsStep_110 rfl (e_iconst (v := 2) dX12_readsStep_111 (by decide) (e_ic_ne (tgt := 125) dX12_readsStep_112 (by decide) (e_iload_n dX12_readsStep_125 rfl (e_bipush (v := 6) dX12_readsStep_126 (by decide) (e_ic_ne (tgt := 198) dX12_readsStep_128 (by decide) (e_aload_n dX12_readsStep_198 rfl (e_iconst (v := 3) dX12_readsStep_199 (by decide) (e_aload_n dX12_readsStep_200 rfl (e_getI rfl cl_11 (by decide) rfl q_1596 dX12_readsStep_201 (e_iastore dX12_readsStep_204 (e_aload_n dX12_readsStep_205 rfl (e_bipush (v := 59) dX12_readsStep_206 (by decide) (e_callV cl_11 cal_X12_sign q_1803 q_1805 q_65 dX12_readsStep_208 (e_return rfl dX12_readsStep_211))))))))) (e_aload_n dX12_readsStep_131 rfl (e_iconst (v := 1) dX12_readsStep_132 (by decide) (e_aload_n dX12_readsStep_133 rfl (e_iconst (v := 0) dX12_readsStep_134 (by decide) (e_bipush (v := 20) dX12_readsStep_135 (by decide) (e_callV cl_11 cal_X12_numberHere q_1791 q_1793 q_63 dX12_readsStep_137 (e_iastore dX12_readsStep_140 (e_aload_n dX12_readsStep_141 rfl (e_bipush (v := 91) dX12_readsStep_142 (by decide) (e_callV cl_11 cal_X12_sign q_1803 q_1805 q_65 dX12_readsStep_144 (e_aload_n dX12_readsStep_147 rfl (e_callV cl_11 cal_X12_blanks q_1750 q_1752 q_55 dX12_readsStep_148 (e_msk [true, false, true])))))))))))))))) (e_aload_n dX12_readsStep_115 rfl (e_iconst (v := 2) dX12_readsStep_116 (by decide) (e_aload_n dX12_readsStep_117 rfl (e_iconst (v := 1) dX12_readsStep_118 (by decide) (e_bipush (v := 9) dX12_readsStep_119 (by decide) (e_callV cl_11 cal_X12_numberHere q_1791 q_1793 q_63 dX12_readsStep_121 (e_iastore dX12_readsStep_124 (e_iload_n dX12_readsStep_125 rfl (e_bipush (v := 6) dX12_readsStep_126 (by decide) (e_ic_ne (tgt := 198) dX12_readsStep_128 (by decide) (e_aload_n dX12_readsStep_198 rfl (e_iconst (v := 3) dX12_readsStep_199 (by decide) (e_aload_n dX12_readsStep_200 rfl (e_getI rfl cl_11 (by decide) rfl q_1596 dX12_readsStep_201 (e_iastore dX12_readsStep_204 (e_aload_n dX12_readsStep_205 rfl (e_bipush (v := 59) dX12_readsStep_206 (by decide) (e_callV cl_11 cal_X12_sign q_1803 q_1805 q_65 dX12_readsStep_208 (e_return rfl dX12_readsStep_211))))))))) (e_aload_n dX12_readsStep_131 rfl (e_iconst (v := 1) dX12_readsStep_132 (by decide) (e_aload_n dX12_readsStep_133 rfl (e_iconst (v := 0) dX12_readsStep_134 (by decide) (e_bipush (v := 20) dX12_readsStep_135 (by decide) (e_callV cl_11 cal_X12_numberHere q_1791 q_1793 q_63 dX12_readsStep_137 (e_iastore dX12_readsStep_140 (e_aload_n dX12_readsStep_141 rfl (e_bipush (v := 91) dX12_readsStep_142 (by decide) (e_callV cl_11 cal_X12_sign q_1803 q_1805 q_65 dX12_readsStep_144 (e_aload_n dX12_readsStep_147 rfl (e_callV cl_11 cal_X12_blanks q_1750 q_1752 q_55 dX12_readsStep_148 (e_msk [true, false, true]))))))))))))))))))))))))))
set_option maxRecDepth 100000 in
theorem V_X12_readsStep_110 {G : GE} {d C S : Nat} {P : KN} {a : Nat → Nat → Int32} {r : Nat → Nat → Value} {N : Nat} {l0 : Nat} {l1 : Int32} {l2 : Nat} (hs : ((¬ l1 = 2 → ((¬ l1 = 6 → (tyK l0 = (0, 11) ∧ l0 < N ∧ ((tyK l2).1 = 1 ∧ l2 < N ∧ vp_in 3 (tyK l2).2 ∧ ∀ a1, a1 = u2 a l2 (3 : Int32).toNatClampNeg (a l0 32) → (tyK l0 = (0, 11) ∧ l0 < N ∧ Sp G d 0 0 MX12_sign [.ref l0, .int 59] (a1, r, N) (RN fun a2 r3 n4 => P a2 r3 n4))))) ∧ (l1 = 6 → (tyK l0 = (0, 11) ∧ l0 < N ∧ Sp G d 0 0 MX12_numberHere [.ref l0, .int 0, .int 20] (a, r, N) (RI fun v8 a5 r6 n7 => ((tyK l2).1 = 1 ∧ l2 < n7 ∧ vp_in 1 (tyK l2).2 ∧ ∀ a9, a9 = u2 a5 l2 (1 : Int32).toNatClampNeg v8 → (tyK l0 = (0, 11) ∧ l0 < n7 ∧ Sp G d 0 0 MX12_sign [.ref l0, .int 91] (a9, r6, n7) (RN fun a10 r11 n12 => (tyK l0 = (0, 11) ∧ l0 < n12 ∧ Sp G d 0 0 MX12_blanks [.ref l0] (a10, r11, n12) (RN fun a13 r14 n15 => E G MX12_readsStep (d + 1) C S 151 [.ref l0, .null, .ref l2] [] (a13, r14, n15) (RN P))))))))))) ∧ (l1 = 2 → (tyK l0 = (0, 11) ∧ l0 < N ∧ Sp G d 0 0 MX12_numberHere [.ref l0, .int 1, .int 9] (a, r, N) (RI fun v19 a16 r17 n18 => ((tyK l2).1 = 1 ∧ l2 < n18 ∧ vp_in 2 (tyK l2).2 ∧ ∀ a20, a20 = u2 a16 l2 (2 : Int32).toNatClampNeg v19 → ((¬ l1 = 6 → (tyK l0 = (0, 11) ∧ l0 < n18 ∧ ((tyK l2).1 = 1 ∧ l2 < n18 ∧ vp_in 3 (tyK l2).2 ∧ ∀ a21, a21 = u2 a20 l2 (3 : Int32).toNatClampNeg (a20 l0 32) → (tyK l0 = (0, 11) ∧ l0 < n18 ∧ Sp G d 0 0 MX12_sign [.ref l0, .int 59] (a21, r17, n18) (RN fun a22 r23 n24 => P a22 r23 n24))))) ∧ (l1 = 6 → (tyK l0 = (0, 11) ∧ l0 < n18 ∧ Sp G d 0 0 MX12_numberHere [.ref l0, .int 0, .int 20] (a20, r17, n18) (RI fun v28 a25 r26 n27 => ((tyK l2).1 = 1 ∧ l2 < n27 ∧ vp_in 1 (tyK l2).2 ∧ ∀ a29, a29 = u2 a25 l2 (1 : Int32).toNatClampNeg v28 → (tyK l0 = (0, 11) ∧ l0 < n27 ∧ Sp G d 0 0 MX12_sign [.ref l0, .int 91] (a29, r26, n27) (RN fun a30 r31 n32 => (tyK l0 = (0, 11) ∧ l0 < n32 ∧ Sp G d 0 0 MX12_blanks [.ref l0] (a30, r31, n32) (RN fun a33 r34 n35 => E G MX12_readsStep (d + 1) C S 151 [.ref l0, .null, .ref l2] [] (a33, r34, n35) (RN P)))))))))))))))) : E G MX12_readsStep (d + 1) C S 110 [.ref l0, .int l1, .ref l2] [] (a, r, N) (RN P) := T_X12_readsStep_110 _ _ _ hs
set_option maxRecDepth 100000 in
theorem T_X12_readsStep_151 {G : GE} {d C S : Nat} {P : KN} : Snd G MX12_readsStep (d + 1) C S 151 (RN P) (s_aload 0 (s_getI 11 5 (s_if_ne (s_aload 0 (s_iconst 93 (s_callV G d MX12_sign 1 11 (s_aload 0 (s_dup (s_getI 11 8 (s_iconst 1 (s_isub (s_putI 11 8 (s_aload 2 (s_iconst 3 (s_aload 0 (s_getI 11 32 (s_iastore (s_aload 0 (s_iconst 59 (s_callV G d MX12_sign 1 11 (s_return P)))))))))))))))))) (s_aload 0 (s_aload 0 (s_getI 11 4 (s_callV G d MX12_byteAt 1 11 (s_iconst 93 (s_ic_eq (s_aload 0 (s_iconst 93 (s_callV G d MX12_sign 1 11 (s_aload 0 (s_dup (s_getI 11 8 (s_iconst 1 (s_isub (s_putI 11 8 (s_aload 2 (s_iconst 3 (s_aload 0 (s_getI 11 32 (s_iastore (s_aload 0 (s_iconst 59 (s_callV G d MX12_sign 1 11 (s_return P)))))))))))))))))) (s_aload 0 (s_callV G d MX12_readsStep 0 11 (s_aload 0 (s_callV G d MX12_blanks 0 11 (fun L st h => E G MX12_readsStep (d + 1) C S 151 (msk [true, false, true] L) st h (RN P))))))))))))))) := (e_aload_n dX12_readsStep_151 rfl (e_getI rfl cl_11 (by decide) rfl q_1569 dX12_readsStep_152 (e_if_ne (tgt := 182) dX12_readsStep_155 (by decide) (e_aload_n dX12_readsStep_182 rfl (e_bipush (v := 93) dX12_readsStep_183 (by decide) (e_callV cl_11 cal_X12_sign q_1803 q_1805 q_65 dX12_readsStep_185 (e_aload_n dX12_readsStep_188 rfl (e_dup dX12_readsStep_189 (e_getI rfl cl_11 (by decide) rfl q_1572 dX12_readsStep_190 (e_iconst (v := 1) dX12_readsStep_193 (by decide) (e_isub dX12_readsStep_194 (e_putI rfl cl_11 (by decide) rfl rfl rfl q_1572 dX12_readsStep_195 (e_aload_n dX12_readsStep_198 rfl (e_iconst (v := 3) dX12_readsStep_199 (by decide) (e_aload_n dX12_readsStep_200 rfl (e_getI rfl cl_11 (by decide) rfl q_1596 dX12_readsStep_201 (e_iastore dX12_readsStep_204 (e_aload_n dX12_readsStep_205 rfl (e_bipush (v := 59) dX12_readsStep_206 (by decide) (e_callV cl_11 cal_X12_sign q_1803 q_1805 q_65 dX12_readsStep_208 (e_return rfl dX12_readsStep_211)))))))))))))))))) (e_aload_n dX12_readsStep_158 rfl (e_aload_n dX12_readsStep_159 rfl (e_getI rfl cl_11 (by decide) rfl q_1568 dX12_readsStep_160 (e_callV cl_11 cal_X12_byteAt q_1754 q_1756 q_56 dX12_readsStep_163 (e_bipush (v := 93) dX12_readsStep_166 (by decide) (e_ic_eq (tgt := 182) dX12_readsStep_168 (by decide) (e_aload_n dX12_readsStep_182 rfl (e_bipush (v := 93) dX12_readsStep_183 (by decide) (e_callV cl_11 cal_X12_sign q_1803 q_1805 q_65 dX12_readsStep_185 (e_aload_n dX12_readsStep_188 rfl (e_dup dX12_readsStep_189 (e_getI rfl cl_11 (by decide) rfl q_1572 dX12_readsStep_190 (e_iconst (v := 1) dX12_readsStep_193 (by decide) (e_isub dX12_readsStep_194 (e_putI rfl cl_11 (by decide) rfl rfl rfl q_1572 dX12_readsStep_195 (e_aload_n dX12_readsStep_198 rfl (e_iconst (v := 3) dX12_readsStep_199 (by decide) (e_aload_n dX12_readsStep_200 rfl (e_getI rfl cl_11 (by decide) rfl q_1596 dX12_readsStep_201 (e_iastore dX12_readsStep_204 (e_aload_n dX12_readsStep_205 rfl (e_bipush (v := 59) dX12_readsStep_206 (by decide) (e_callV cl_11 cal_X12_sign q_1803 q_1805 q_65 dX12_readsStep_208 (e_return rfl dX12_readsStep_211)))))))))))))))))) (e_aload_n dX12_readsStep_171 rfl (e_callV cl_11 cal_X12_readsStep q_1859 q_1861 q_75 dX12_readsStep_172 (e_aload_n dX12_readsStep_175 rfl (e_callV cl_11 cal_X12_blanks q_1750 q_1752 q_55 dX12_readsStep_176 (e_goto (tgt := 151) dX12_readsStep_179 (by decide) (e_msk [true, false, true])))))))))))))))
set_option maxRecDepth 100000 in
theorem V_X12_readsStep_151 {G : GE} {d C S : Nat} {P : KN} {a : Nat → Nat → Int32} {r : Nat → Nat → Value} {N : Nat} {l0 : Nat} {l2 : Nat} (hs : (tyK l0 = (0, 11) ∧ l0 < N ∧ ((¬ (a l0 5) = 0 → (tyK l0 = (0, 11) ∧ l0 < N ∧ Sp G d 0 0 MX12_sign [.ref l0, .int 93] (a, r, N) (RN fun a1 r2 n3 => (tyK l0 = (0, 11) ∧ l0 < n3 ∧ (tyK l0 = (0, 11) ∧ l0 < n3 ∧ ∀ a4, a4 = u2 a1 l0 8 ((a1 l0 8) - 1) → (tyK l0 = (0, 11) ∧ l0 < n3 ∧ ((tyK l2).1 = 1 ∧ l2 < n3 ∧ vp_in 3 (tyK l2).2 ∧ ∀ a5, a5 = u2 a4 l2 (3 : Int32).toNatClampNeg (a4 l0 32) → (tyK l0 = (0, 11) ∧ l0 < n3 ∧ Sp G d 0 0 MX12_sign [.ref l0, .int 59] (a5, r2, n3) (RN fun a6 r7 n8 => P a6 r7 n8))))))))) ∧ ((a l0 5) = 0 → (tyK l0 = (0, 11) ∧ l0 < N ∧ (tyK l0 = (0, 11) ∧ l0 < N ∧ Sp G d 0 0 MX12_byteAt [.ref l0, .int (a l0 4)] (a, r, N) (RI fun v12 a9 r10 n11 => ((v12 = 93 → (tyK l0 = (0, 11) ∧ l0 < n11 ∧ Sp G d 0 0 MX12_sign [.ref l0, .int 93] (a9, r10, n11) (RN fun a13 r14 n15 => (tyK l0 = (0, 11) ∧ l0 < n15 ∧ (tyK l0 = (0, 11) ∧ l0 < n15 ∧ ∀ a16, a16 = u2 a13 l0 8 ((a13 l0 8) - 1) → (tyK l0 = (0, 11) ∧ l0 < n15 ∧ ((tyK l2).1 = 1 ∧ l2 < n15 ∧ vp_in 3 (tyK l2).2 ∧ ∀ a17, a17 = u2 a16 l2 (3 : Int32).toNatClampNeg (a16 l0 32) → (tyK l0 = (0, 11) ∧ l0 < n15 ∧ Sp G d 0 0 MX12_sign [.ref l0, .int 59] (a17, r14, n15) (RN fun a18 r19 n20 => P a18 r19 n20))))))))) ∧ (¬ v12 = 93 → (tyK l0 = (0, 11) ∧ l0 < n11 ∧ Sp G d 0 0 MX12_readsStep [.ref l0] (a9, r10, n11) (RN fun a21 r22 n23 => (tyK l0 = (0, 11) ∧ l0 < n23 ∧ Sp G d 0 0 MX12_blanks [.ref l0] (a21, r22, n23) (RN fun a24 r25 n26 => E G MX12_readsStep (d + 1) C S 151 [.ref l0, .null, .ref l2] [] (a24, r25, n26) (RN P)))))))))))))) : E G MX12_readsStep (d + 1) C S 151 [.ref l0, .null, .ref l2] [] (a, r, N) (RN P) := T_X12_readsStep_151 _ _ _ hs
theorem dX12_post_0 : decode cX12_post 0 = .ok (.aload_n 0, 1) := by decide +kernel
theorem dX12_post_1 : decode cX12_post 1 = .ok (.iconst 0, 1) := by decide +kernel
theorem dX12_post_2 : decode cX12_post 2 = .ok (.putfield 115, 3) := by decide +kernel
theorem dX12_post_5 : decode cX12_post 5 = .ok (.aload_n 0, 1) := by decide +kernel
theorem dX12_post_6 : decode cX12_post 6 = .ok (.iload_n 1, 1) := by decide +kernel
theorem dX12_post_7 : decode cX12_post 7 = .ok (.iconst 0, 1) := by decide +kernel
theorem dX12_post_8 : decode cX12_post 8 = .ok (.aload_n 0, 1) := by decide +kernel
theorem dX12_post_9 : decode cX12_post 9 = .ok (.getfield 118, 3) := by decide +kernel
theorem dX12_post_12 : decode cX12_post 12 = .ok (.invokestatic 149, 3) := by decide +kernel
theorem dX12_post_15 : decode cX12_post 15 = .ok (.ifCond .eq 9, 3) := by decide +kernel
theorem dX12_post_18 : decode cX12_post 18 = .ok (.iload_n 1, 1) := by decide +kernel
theorem dX12_post_19 : decode cX12_post 19 = .ok (.bipush 100, 2) := by decide +kernel
theorem dX12_post_21 : decode cX12_post 21 = .ok (.if_icmp .le 7, 3) := by decide +kernel
theorem dX12_post_24 : decode cX12_post 24 = .ok (.iconst 1, 1) := by decide +kernel
theorem dX12_post_25 : decode cX12_post 25 = .ok (.goto 4, 3) := by decide +kernel
theorem dX12_post_28 : decode cX12_post 28 = .ok (.iconst 0, 1) := by decide +kernel
theorem dX12_post_29 : decode cX12_post 29 = .ok (.iconst 1, 1) := by decide +kernel
theorem dX12_post_30 : decode cX12_post 30 = .ok (.iconst 2, 1) := by decide +kernel
theorem dX12_post_31 : decode cX12_post 31 = .ok (.invokevirtual 198, 3) := by decide +kernel
theorem dX12_post_34 : decode cX12_post 34 = .ok (.ifCond .eq 5, 3) := by decide +kernel
theorem dX12_post_37 : decode cX12_post 37 = .ok (.iconst 0, 1) := by decide +kernel
theorem dX12_post_38 : decode cX12_post 38 = .ok (.ireturn, 1) := by decide +kernel
theorem dX12_post_39 : decode cX12_post 39 = .ok (.aload_n 0, 1) := by decide +kernel
theorem dX12_post_40 : decode cX12_post 40 = .ok (.iload_n 1, 1) := by decide +kernel
theorem dX12_post_41 : decode cX12_post 41 = .ok (.invokevirtual 202, 3) := by decide +kernel
theorem dX12_post_44 : decode cX12_post 44 = .ok (.iconst 0, 1) := by decide +kernel
theorem dX12_post_45 : decode cX12_post 45 = .ok (.istore_n 2, 1) := by decide +kernel
theorem dX12_post_46 : decode cX12_post 46 = .ok (.aload_n 0, 1) := by decide +kernel
theorem dX12_post_47 : decode cX12_post 47 = .ok (.getfield 131, 3) := by decide +kernel
theorem dX12_post_50 : decode cX12_post 50 = .ok (.ifCond .ne 141, 3) := by decide +kernel
theorem dX12_post_53 : decode cX12_post 53 = .ok (.aload_n 0, 1) := by decide +kernel
theorem dX12_post_54 : decode cX12_post 54 = .ok (.getfield 124, 3) := by decide +kernel
theorem dX12_post_57 : decode cX12_post 57 = .ok (.aload_n 0, 1) := by decide +kernel
theorem dX12_post_58 : decode cX12_post 58 = .ok (.getfield 121, 3) := by decide +kernel
theorem dX12_post_61 : decode cX12_post 61 = .ok (.if_icmp .ge 130, 3) := by decide +kernel
theorem dX12_post_64 : decode cX12_post 64 = .ok (.aload_n 0, 1) := by decide +kernel
theorem dX12_post_65 : decode cX12_post 65 = .ok (.getfield 124, 3) := by decide +kernel
theorem dX12_post_68 : decode cX12_post 68 = .ok (.istore_n 3, 1) := by decide +kernel
theorem dX12_post_69 : decode cX12_post 69 = .ok (.aload_n 0, 1) := by decide +kernel
theorem dX12_post_70 : decode cX12_post 70 = .ok (.iconst 1, 1) := by decide +kernel
theorem dX12_post_71 : decode cX12_post 71 = .ok (.bipush 40, 2) := by decide +kernel
theorem dX12_post_73 : decode cX12_post 73 = .ok (.invokevirtual 183, 3) := by decide +kernel
theorem dX12_post_76 : decode cX12_post 76 = .ok (.istore 4, 2) := by decide +kernel
theorem dX12_post_78 : decode cX12_post 78 = .ok (.iconst 0, 1) := by decide +kernel
theorem dX12_post_79 : decode cX12_post 79 = .ok (.istore 5, 2) := by decide +kernel
theorem dX12_post_81 : decode cX12_post 81 = .ok (.iload 5, 2) := by decide +kernel
theorem dX12_post_83 : decode cX12_post 83 = .ok (.iload_n 2, 1) := by decide +kernel
theorem dX12_post_84 : decode cX12_post 84 = .ok (.if_icmp .ge 36, 3) := by decide +kernel
theorem dX12_post_87 : decode cX12_post 87 = .ok (.aload_n 0, 1) := by decide +kernel
theorem dX12_post_88 : decode cX12_post 88 = .ok (.getfield 131, 3) := by decide +kernel
theorem dX12_post_91 : decode cX12_post 91 = .ok (.ifCond .ne 23, 3) := by decide +kernel
theorem dX12_post_94 : decode cX12_post 94 = .ok (.aload_n 0, 1) := by decide +kernel
theorem dX12_post_95 : decode cX12_post 95 = .ok (.getfield 67, 3) := by decide +kernel
theorem dX12_post_98 : decode cX12_post 98 = .ok (.iload 5, 2) := by decide +kernel
theorem dX12_post_100 : decode cX12_post 100 = .ok (.aaload, 1) := by decide +kernel
theorem dX12_post_101 : decode cX12_post 101 = .ok (.iconst 0, 1) := by decide +kernel
theorem dX12_post_102 : decode cX12_post 102 = .ok (.iaload, 1) := by decide +kernel
theorem dX12_post_103 : decode cX12_post 103 = .ok (.iload 4, 2) := by decide +kernel
theorem dX12_post_105 : decode cX12_post 105 = .ok (.if_icmp .ne 9, 3) := by decide +kernel
theorem dX12_post_108 : decode cX12_post 108 = .ok (.aload_n 0, 1) := by decide +kernel
theorem dX12_post_109 : decode cX12_post 109 = .ok (.iconst 2, 1) := by decide +kernel
theorem dX12_post_110 : decode cX12_post 110 = .ok (.iload_n 3, 1) := by decide +kernel
theorem dX12_post_111 : decode cX12_post 111 = .ok (.invokevirtual 144, 3) := by decide +kernel
theorem dX12_post_114 : decode cX12_post 114 = .ok (.iinc 5 1, 3) := by decide +kernel
theorem dX12_post_117 : decode cX12_post 117 = .ok (.goto (-36), 3) := by decide +kernel
theorem dX12_post_120 : decode cX12_post 120 = .ok (.aload_n 0, 1) := by decide +kernel
theorem dX12_post_121 : decode cX12_post 121 = .ok (.getfield 131, 3) := by decide +kernel
theorem dX12_post_124 : decode cX12_post 124 = .ok (.ifCond .ne 15, 3) := by decide +kernel
theorem dX12_post_127 : decode cX12_post 127 = .ok (.iload_n 2, 1) := by decide +kernel
theorem dX12_post_128 : decode cX12_post 128 = .ok (.bipush 8, 2) := by decide +kernel
theorem dX12_post_130 : decode cX12_post 130 = .ok (.if_icmp .ne 9, 3) := by decide +kernel
theorem dX12_post_133 : decode cX12_post 133 = .ok (.aload_n 0, 1) := by decide +kernel
theorem dX12_post_134 : decode cX12_post 134 = .ok (.iconst 3, 1) := by decide +kernel
theorem dX12_post_135 : decode cX12_post 135 = .ok (.iload_n 3, 1) := by decide +kernel
theorem dX12_post_136 : decode cX12_post 136 = .ok (.invokevirtual 144, 3) := by decide +kernel
theorem dX12_post_139 : decode cX12_post 139 = .ok (.aload_n 0, 1) := by decide +kernel
theorem dX12_post_140 : decode cX12_post 140 = .ok (.iconst 0, 1) := by decide +kernel
theorem dX12_post_141 : decode cX12_post 141 = .ok (.bipush 20, 2) := by decide +kernel
theorem dX12_post_143 : decode cX12_post 143 = .ok (.invokevirtual 183, 3) := by decide +kernel
theorem dX12_post_146 : decode cX12_post 146 = .ok (.istore 5, 2) := by decide +kernel
theorem dX12_post_148 : decode cX12_post 148 = .ok (.aload_n 0, 1) := by decide +kernel
theorem dX12_post_149 : decode cX12_post 149 = .ok (.bipush 59, 2) := by decide +kernel
theorem dX12_post_151 : decode cX12_post 151 = .ok (.invokevirtual 194, 3) := by decide +kernel
theorem dX12_post_154 : decode cX12_post 154 = .ok (.aload_n 0, 1) := by decide +kernel
theorem dX12_post_155 : decode cX12_post 155 = .ok (.getfield 131, 3) := by decide +kernel
theorem dX12_post_158 : decode cX12_post 158 = .ok (.ifCond .ne 26, 3) := by decide +kernel
theorem dX12_post_161 : decode cX12_post 161 = .ok (.aload_n 0, 1) := by decide +kernel
theorem dX12_post_162 : decode cX12_post 162 = .ok (.getfield 67, 3) := by decide +kernel
theorem dX12_post_165 : decode cX12_post 165 = .ok (.iload_n 2, 1) := by decide +kernel
theorem dX12_post_166 : decode cX12_post 166 = .ok (.aaload, 1) := by decide +kernel
theorem dX12_post_167 : decode cX12_post 167 = .ok (.iconst 0, 1) := by decide +kernel
theorem dX12_post_168 : decode cX12_post 168 = .ok (.iload 4, 2) := by decide +kernel
theorem dX12_post_170 : decode cX12_post 170 = .ok (.iastore, 1) := by decide +kernel
theorem dX12_post_171 : decode cX12_post 171 = .ok (.aload_n 0, 1) := by decide +kernel
theorem dX12_post_172 : decode cX12_post 172 = .ok (.getfield 67, 3) := by decide +kernel
theorem dX12_post_175 : decode cX12_post 175 = .ok (.iload_n 2, 1) := by decide +kernel
theorem dX12_post_176 : decode cX12_post 176 = .ok (.aaload, 1) := by decide +kernel
theorem dX12_post_177 : decode cX12_post 177 = .ok (.iconst 1, 1) := by decide +kernel
theorem dX12_post_178 : decode cX12_post 178 = .ok (.iload 5, 2) := by decide +kernel
theorem dX12_post_180 : decode cX12_post 180 = .ok (.iastore, 1) := by decide +kernel
theorem dX12_post_181 : decode cX12_post 181 = .ok (.iinc 2 1, 3) := by decide +kernel
theorem dX12_post_184 : decode cX12_post 184 = .ok (.aload_n 0, 1) := by decide +kernel
theorem dX12_post_185 : decode cX12_post 185 = .ok (.invokevirtual 137, 3) := by decide +kernel
theorem dX12_post_188 : decode cX12_post 188 = .ok (.goto (-142), 3) := by decide +kernel
theorem dX12_post_191 : decode cX12_post 191 = .ok (.aload_n 0, 1) := by decide +kernel
theorem dX12_post_192 : decode cX12_post 192 = .ok (.getfield 131, 3) := by decide +kernel
theorem dX12_post_195 : decode cX12_post 195 = .ok (.ifCond .eq 8, 3) := by decide +kernel
theorem dX12_post_198 : decode cX12_post 198 = .ok (.aload_n 0, 1) := by decide +kernel
theorem dX12_post_199 : decode cX12_post 199 = .ok (.invokevirtual 208, 3) := by decide +kernel
theorem dX12_post_202 : decode cX12_post 202 = .ok (.ireturn, 1) := by decide +kernel
theorem dX12_post_203 : decode cX12_post 203 = .ok (.aload_n 0, 1) := by decide +kernel
theorem dX12_post_204 : decode cX12_post 204 = .ok (.iconst (-1), 1) := by decide +kernel
theorem dX12_post_205 : decode cX12_post 205 = .ok (.putfield 9, 3) := by decide +kernel
theorem dX12_post_208 : decode cX12_post 208 = .ok (.aload_n 0, 1) := by decide +kernel
theorem dX12_post_209 : decode cX12_post 209 = .ok (.iload_n 2, 1) := by decide +kernel
theorem dX12_post_210 : decode cX12_post 210 = .ok (.putfield 218, 3) := by decide +kernel
theorem dX12_post_213 : decode cX12_post 213 = .ok (.aload_n 0, 1) := by decide +kernel
theorem dX12_post_214 : decode cX12_post 214 = .ok (.getfield 67, 3) := by decide +kernel
theorem dX12_post_217 : decode cX12_post 217 = .ok (.aload_n 0, 1) := by decide +kernel
theorem dX12_post_218 : decode cX12_post 218 = .ok (.getfield 64, 3) := by decide +kernel
theorem dX12_post_221 : decode cX12_post 221 = .ok (.iload_n 2, 1) := by decide +kernel
theorem dX12_post_222 : decode cX12_post 222 = .ok (.invokestatic 211, 3) := by decide +kernel
theorem dX12_post_225 : decode cX12_post 225 = .ok (.iload_n 2, 1) := by decide +kernel
theorem dX12_post_226 : decode cX12_post 226 = .ok (.ireturn, 1) := by decide +kernel
set_option maxRecDepth 100000 in
theorem T_X12_post_0 {G : GE} {d C S : Nat} {P : KI} : Snd G MX12_post (d + 1) C S 0 (RI P) (s_aload 0 (s_iconst 0 (s_putI 11 0 (s_aload 0 (s_iload 1 (s_iconst 0 (s_aload 0 (s_getI 11 1 (s_call G d MX12_in 3 (s_if_eq (s_iconst 1 (s_iconst 1 (s_iconst 2 (s_callV G d MX12_bad 3 11 (s_if_eq (s_aload 0 (s_iload 1 (s_callV G d MX12_starts 1 11 (s_iconst 0 (s_istore 2 (fun L st h => E G MX12_post (d + 1) C S 46 (msk [true, false, true, false, false, false] L) st h (RI P))))))) (s_iconst 0 (s_ireturn P))))))) (s_iload 1 (s_iconst 100 (s_ic_le (s_iconst 0 (s_iconst 1 (s_iconst 2 (s_callV G d MX12_bad 3 11 (s_if_eq (s_aload 0 (s_iload 1 (s_callV G d MX12_starts 1 11 (s_iconst 0 (s_istore 2 (fun L st h => E G MX12_post (d + 1) C S 46 (msk [true, false, true, false, false, false] L) st h (RI P))))))) (s_iconst 0 (s_ireturn P))))))) (s_iconst 1 (s_iconst 1 (s_iconst 2 (s_callV G d MX12_bad 3 11 (s_if_eq (s_aload 0 (s_iload 1 (s_callV G d MX12_starts 1 11 (s_iconst 0 (s_istore 2 (fun L st h => E G MX12_post (d + 1) C S 46 (msk [true, false, true, false, false, false] L) st h (RI P))))))) (s_iconst 0 (s_ireturn P)))))))))))))))))))) := (e_aload_n dX12_post_0 rfl (e_iconst (v := 0) dX12_post_1 (by decide) (e_putI rfl cl_11 (by decide) rfl rfl rfl q_1564 dX12_post_2 (e_aload_n dX12_post_5 rfl (e_iload_n dX12_post_6 rfl (e_iconst (v := 0) dX12_post_7 (by decide) (e_aload_n dX12_post_8 rfl (e_getI rfl cl_11 (by decide) rfl q_1565 dX12_post_9 (e_callS cal_X12_in q_1739 q_1740 dX12_post_12 (e_if_eq (tgt := 24) dX12_post_15 (by decide) (e_iconst (v := 1) dX12_post_24 (by decide) (e_goto (tgt := 29) dX12_post_25 (by decide) (e_iconst (v := 1) dX12_post_29 (by decide) (e_iconst (v := 2) dX12_post_30 (by decide) (e_callV cl_11 cal_X12_bad q_1742 q_1744 q_53 dX12_post_31 (e_if_eq (tgt := 39) dX12_post_34 (by decide) (e_aload_n dX12_post_39 rfl (e_iload_n dX12_post_40 rfl (e_callV cl_11 cal_X12_starts q_1746 q_1748 q_54 dX12_post_41 (e_iconst (v := 0) dX12_post_44 (by decide) (e_istore_n dX12_post_45 rfl (by decide) (e_msk [true, false, true, false, false, false])))))) (e_iconst (v := 0) dX12_post_37 (by decide) (e_ireturn rfl dX12_post_38)))))))) (e_iload_n dX12_post_18 rfl (e_bipush (v := 100) dX12_post_19 (by decide) (e_ic_le (tgt := 28) dX12_post_21 (by decide) (e_iconst (v := 0) dX12_post_28 (by decide) (e_iconst (v := 1) dX12_post_29 (by decide) (e_iconst (v := 2) dX12_post_30 (by decide) (e_callV cl_11 cal_X12_bad q_1742 q_1744 q_53 dX12_post_31 (e_if_eq (tgt := 39) dX12_post_34 (by decide) (e_aload_n dX12_post_39 rfl (e_iload_n dX12_post_40 rfl (e_callV cl_11 cal_X12_starts q_1746 q_1748 q_54 dX12_post_41 (e_iconst (v := 0) dX12_post_44 (by decide) (e_istore_n dX12_post_45 rfl (by decide) (e_msk [true, false, true, false, false, false])))))) (e_iconst (v := 0) dX12_post_37 (by decide) (e_ireturn rfl dX12_post_38))))))) (e_iconst (v := 1) dX12_post_24 (by decide) (e_goto (tgt := 29) dX12_post_25 (by decide) (e_iconst (v := 1) dX12_post_29 (by decide) (e_iconst (v := 2) dX12_post_30 (by decide) (e_callV cl_11 cal_X12_bad q_1742 q_1744 q_53 dX12_post_31 (e_if_eq (tgt := 39) dX12_post_34 (by decide) (e_aload_n dX12_post_39 rfl (e_iload_n dX12_post_40 rfl (e_callV cl_11 cal_X12_starts q_1746 q_1748 q_54 dX12_post_41 (e_iconst (v := 0) dX12_post_44 (by decide) (e_istore_n dX12_post_45 rfl (by decide) (e_msk [true, false, true, false, false, false])))))) (e_iconst (v := 0) dX12_post_37 (by decide) (e_ireturn rfl dX12_post_38)))))))))))))))))))))
set_option maxRecDepth 100000 in
theorem V_X12_post_0 {G : GE} {d : Nat} {P : KI} {a : Nat → Nat → Int32} {r : Nat → Nat → Value} {N : Nat} {l0 : Nat} {l1 : Int32} (hs : (tyK l0 = (0, 11) ∧ l0 < N ∧ ∀ a1, a1 = u2 a l0 0 0 → (tyK l0 = (0, 11) ∧ l0 < N ∧ Sp G d 0 0 MX12_in [.int l1, .int 0, .int (a1 l0 1)] (a1, r, N) (RI fun v5 a2 r3 n4 => ((v5 = 0 → (tyK l0 = (0, 11) ∧ l0 < n4 ∧ Sp G d 0 0 MX12_bad [.ref l0, .int 1, .int 1, .int 2] (a2, r3, n4) (RI fun v9 a6 r7 n8 => ((v9 = 0 → (tyK l0 = (0, 11) ∧ l0 < n8 ∧ Sp G d 0 0 MX12_starts [.ref l0, .int l1] (a6, r7, n8) (RN fun a10 r11 n12 => E G MX12_post (d + 1) 0 0 46 [.ref l0, .null, .int 0, .null, .null, .null] [] (a10, r11, n12) (RI P)))) ∧ (¬ v9 = 0 → P 0 a6 r7 n8))))) ∧ (¬ v5 = 0 → ((l1 ≤ 100 → (tyK l0 = (0, 11) ∧ l0 < n4 ∧ Sp G d 0 0 MX12_bad [.ref l0, .int 0, .int 1, .int 2] (a2, r3, n4) (RI fun v16 a13 r14 n15 => ((v16 = 0 → (tyK l0 = (0, 11) ∧ l0 < n15 ∧ Sp G d 0 0 MX12_starts [.ref l0, .int l1] (a13, r14, n15) (RN fun a17 r18 n19 => E G MX12_post (d + 1) 0 0 46 [.ref l0, .null, .int 0, .null, .null, .null] [] (a17, r18, n19) (RI P)))) ∧ (¬ v16 = 0 → P 0 a13 r14 n15))))) ∧ (¬ l1 ≤ 100 → (tyK l0 = (0, 11) ∧ l0 < n4 ∧ Sp G d 0 0 MX12_bad [.ref l0, .int 1, .int 1, .int 2] (a2, r3, n4) (RI fun v23 a20 r21 n22 => ((v23 = 0 → (tyK l0 = (0, 11) ∧ l0 < n22 ∧ Sp G d 0 0 MX12_starts [.ref l0, .int l1] (a20, r21, n22) (RN fun a24 r25 n26 => E G MX12_post (d + 1) 0 0 46 [.ref l0, .null, .int 0, .null, .null, .null] [] (a24, r25, n26) (RI P)))) ∧ (¬ v23 = 0 → P 0 a20 r21 n22)))))))))))) : Sp G (d + 1) 0 0 MX12_post [.ref l0, .int l1] (a, r, N) (RI P) := Sp.mk (mc := 0) (ms := 0) [.ref l0, .int l1, .null, .null, .null, .null] rfl rfl rfl rfl (T_X12_post_0 (C := 0) (S := 0) _ _ _ hs)
set_option maxRecDepth 100000 in
theorem T_X12_post_46 {G : GE} {d C S : Nat} {P : KI} : Snd G MX12_post (d + 1) C S 46 (RI P) (s_aload 0 (s_getI 11 5 (s_if_ne (s_aload 0 (s_getI 11 5 (s_if_eq (s_aload 0 (s_iconst (-1) (s_putI 11 3 (s_aload 0 (s_iload 2 (s_putI 11 38 (s_aload 0 (s_getR 11 28 (s_aload 0 (s_getR 11 27 (s_iload 2 (s_call G d MX12_lays 3 (s_iload 2 (s_ireturn P)))))))))))))) (s_aload 0 (s_callV G d MX12_ends 0 11 (s_ireturn P)))))) (s_aload 0 (s_getI 11 4 (s_aload 0 (s_getI 11 2 (s_ic_ge (s_aload 0 (s_getI 11 5 (s_if_eq (s_aload 0 (s_iconst (-1) (s_putI 11 3 (s_aload 0 (s_iload 2 (s_putI 11 38 (s_aload 0 (s_getR 11 28 (s_aload 0 (s_getR 11 27 (s_iload 2 (s_call G d MX12_lays 3 (s_iload 2 (s_ireturn P)))))))))))))) (s_aload 0 (s_callV G d MX12_ends 0 11 (s_ireturn P)))))) (s_aload 0 (s_getI 11 4 (s_istore 3 (s_aload 0 (s_iconst 1 (s_iconst 40 (s_callV G d MX12_numberHere 2 11 (s_istore 4 (s_iconst 0 (s_istore 5 (fun L st h => E G MX12_post (d + 1) C S 81 (msk [true, false, true, true, true, true] L) st h (RI P)))))))))))))))))))) := (e_aload_n dX12_post_46 rfl (e_getI rfl cl_11 (by decide) rfl q_1569 dX12_post_47 (e_if_ne (tgt := 191) dX12_post_50 (by decide) (e_aload_n dX12_post_191 rfl (e_getI rfl cl_11 (by decide) rfl q_1569 dX12_post_192 (e_if_eq (tgt := 203) dX12_post_195 (by decide) (e_aload_n dX12_post_203 rfl (e_iconst (v := (-1)) dX12_post_204 (by decide) (e_putI rfl cl_11 (by decide) rfl rfl rfl q_1567 dX12_post_205 (e_aload_n dX12_post_208 rfl (e_iload_n dX12_post_209 rfl (e_putI rfl cl_11 (by decide) rfl rfl rfl q_1602 dX12_post_210 (e_aload_n dX12_post_213 rfl (e_getR rfl cl_11 (by decide) rfl q_1592 dX12_post_214 (e_aload_n dX12_post_217 rfl (e_getR rfl cl_11 (by decide) rfl q_1591 dX12_post_218 (e_iload_n dX12_post_221 rfl (e_callS cal_X12_lays q_1561 q_1562 dX12_post_222 (e_iload_n dX12_post_225 rfl (e_ireturn rfl dX12_post_226)))))))))))))) (e_aload_n dX12_post_198 rfl (e_callV cl_11 cal_X12_ends q_1807 q_1809 q_66 dX12_post_199 (e_ireturn rfl dX12_post_202)))))) (e_aload_n dX12_post_53 rfl (e_getI rfl cl_11 (by decide) rfl q_1568 dX12_post_54 (e_aload_n dX12_post_57 rfl (e_getI rfl cl_11 (by decide) rfl q_1566 dX12_post_58 (e_ic_ge (tgt := 191) dX12_post_61 (by decide) (e_aload_n dX12_post_191 rfl (e_getI rfl cl_11 (by decide) rfl q_1569 dX12_post_192 (e_if_eq (tgt := 203) dX12_post_195 (by decide) (e_aload_n dX12_post_203 rfl (e_iconst (v := (-1)) dX12_post_204 (by decide) (e_putI rfl cl_11 (by decide) rfl rfl rfl q_1567 dX12_post_205 (e_aload_n dX12_post_208 rfl (e_iload_n dX12_post_209 rfl (e_putI rfl cl_11 (by decide) rfl rfl rfl q_1602 dX12_post_210 (e_aload_n dX12_post_213 rfl (e_getR rfl cl_11 (by decide) rfl q_1592 dX12_post_214 (e_aload_n dX12_post_217 rfl (e_getR rfl cl_11 (by decide) rfl q_1591 dX12_post_218 (e_iload_n dX12_post_221 rfl (e_callS cal_X12_lays q_1561 q_1562 dX12_post_222 (e_iload_n dX12_post_225 rfl (e_ireturn rfl dX12_post_226)))))))))))))) (e_aload_n dX12_post_198 rfl (e_callV cl_11 cal_X12_ends q_1807 q_1809 q_66 dX12_post_199 (e_ireturn rfl dX12_post_202)))))) (e_aload_n dX12_post_64 rfl (e_getI rfl cl_11 (by decide) rfl q_1568 dX12_post_65 (e_istore_n dX12_post_68 rfl (by decide) (e_aload_n dX12_post_69 rfl (e_iconst (v := 1) dX12_post_70 (by decide) (e_bipush (v := 40) dX12_post_71 (by decide) (e_callV cl_11 cal_X12_numberHere q_1791 q_1793 q_63 dX12_post_73 (e_istore dX12_post_76 (by decide) (e_iconst (v := 0) dX12_post_78 (by decide) (e_istore dX12_post_79 (by decide) (e_msk [true, false, true, true, true, true])))))))))))))))))))
set_option maxRecDepth 100000 in
theorem V_X12_post_46 {G : GE} {d C S : Nat} {P : KI} {a : Nat → Nat → Int32} {r : Nat → Nat → Value} {N : Nat} {l0 : Nat} {l2 : Int32} (hs : (tyK l0 = (0, 11) ∧ l0 < N ∧ ((¬ (a l0 5) = 0 → (tyK l0 = (0, 11) ∧ l0 < N ∧ (((a l0 5) = 0 → (tyK l0 = (0, 11) ∧ l0 < N ∧ ∀ a1, a1 = u2 a l0 3 (-1) → (tyK l0 = (0, 11) ∧ l0 < N ∧ ∀ a2, a2 = u2 a1 l0 38 l2 → (tyK l0 = (0, 11) ∧ l0 < N ∧ ∃ q3, r l0 28 = .ref q3 ∧ (tyK l0 = (0, 11) ∧ l0 < N ∧ ∃ q4, r l0 27 = .ref q4 ∧ Sp G d 0 0 MX12_lays [.ref q3, .ref q4, .int l2] (a2, r, N) (RN fun a5 r6 n7 => P l2 a5 r6 n7)))))) ∧ (¬ (a l0 5) = 0 → (tyK l0 = (0, 11) ∧ l0 < N ∧ Sp G d 0 0 MX12_ends [.ref l0] (a, r, N) (RI fun v11 a8 r9 n10 => P v11 a8 r9 n10)))))) ∧ ((a l0 5) = 0 → (tyK l0 = (0, 11) ∧ l0 < N ∧ (tyK l0 = (0, 11) ∧ l0 < N ∧ (((a l0 2) ≤ (a l0 4) → (tyK l0 = (0, 11) ∧ l0 < N ∧ (((a l0 5) = 0 → (tyK l0 = (0, 11) ∧ l0 < N ∧ ∀ a12, a12 = u2 a l0 3 (-1) → (tyK l0 = (0, 11) ∧ l0 < N ∧ ∀ a13, a13 = u2 a12 l0 38 l2 → (tyK l0 = (0, 11) ∧ l0 < N ∧ ∃ q14, r l0 28 = .ref q14 ∧ (tyK l0 = (0, 11) ∧ l0 < N ∧ ∃ q15, r l0 27 = .ref q15 ∧ Sp G d 0 0 MX12_lays [.ref q14, .ref q15, .int l2] (a13, r, N) (RN fun a16 r17 n18 => P l2 a16 r17 n18)))))) ∧ (¬ (a l0 5) = 0 → (tyK l0 = (0, 11) ∧ l0 < N ∧ Sp G d 0 0 MX12_ends [.ref l0] (a, r, N) (RI fun v22 a19 r20 n21 => P v22 a19 r20 n21)))))) ∧ (¬ (a l0 2) ≤ (a l0 4) → (tyK l0 = (0, 11) ∧ l0 < N ∧ (tyK l0 = (0, 11) ∧ l0 < N ∧ Sp G d 0 0 MX12_numberHere [.ref l0, .int 1, .int 40] (a, r, N) (RI fun v26 a23 r24 n25 => E G MX12_post (d + 1) C S 81 [.ref l0, .null, .int l2, .int (a l0 4), .int v26, .int 0] [] (a23, r24, n25) (RI P)))))))))))) : E G MX12_post (d + 1) C S 46 [.ref l0, .null, .int l2, .null, .null, .null] [] (a, r, N) (RI P) := T_X12_post_46 _ _ _ hs
set_option maxRecDepth 100000 in
theorem T_X12_post_81 {G : GE} {d C S : Nat} {P : KI} : Snd G MX12_post (d + 1) C S 81 (RI P) (s_iload 5 (s_iload 2 (s_ic_ge (s_aload 0 (s_getI 11 5 (s_if_ne (fun L st h => E G MX12_post (d + 1) C S 139 (msk [true, false, true, false, true, false] L) st h (RI P)) (s_iload 2 (s_iconst 8 (s_ic_ne (fun L st h => E G MX12_post (d + 1) C S 139 (msk [true, false, true, false, true, false] L) st h (RI P)) (s_aload 0 (s_iconst 3 (s_iload 3 (s_callV G d MX12_wrong 2 11 (fun L st h => E G MX12_post (d + 1) C S 139 (msk [true, false, true, false, true, false] L) st h (RI P)))))))))))) (s_aload 0 (s_getI 11 5 (s_if_ne (s_iinc 5 1 (fun L st h => E G MX12_post (d + 1) C S 81 (msk [true, false, true, true, true, true] L) st h (RI P))) (s_aload 0 (s_getR 11 28 (s_iload 5 (s_aaload (s_iconst 0 (s_iaload (s_iload 4 (s_ic_ne (s_iinc 5 1 (fun L st h => E G MX12_post (d + 1) C S 81 (msk [true, false, true, true, true, true] L) st h (RI P))) (s_aload 0 (s_iconst 2 (s_iload 3 (s_callV G d MX12_wrong 2 11 (s_iinc 5 1 (fun L st h => E G MX12_post (d + 1) C S 81 (msk [true, false, true, true, true, true] L) st h (RI P))))))))))))))))))))) := (e_iload dX12_post_81 (e_iload_n dX12_post_83 rfl (e_ic_ge (tgt := 120) dX12_post_84 (by decide) (e_aload_n dX12_post_120 rfl (e_getI rfl cl_11 (by decide) rfl q_1569 dX12_post_121 (e_if_ne (tgt := 139) dX12_post_124 (by decide) (e_msk [true, false, true, false, true, false]) (e_iload_n dX12_post_127 rfl (e_bipush (v := 8) dX12_post_128 (by decide) (e_ic_ne (tgt := 139) dX12_post_130 (by decide) (e_msk [true, false, true, false, true, false]) (e_aload_n dX12_post_133 rfl (e_iconst (v := 3) dX12_post_134 (by decide) (e_iload_n dX12_post_135 rfl (e_callV cl_11 cal_X12_wrong q_1783 q_1785 q_61 dX12_post_136 (e_msk [true, false, true, false, true, false]))))))))))) (e_aload_n dX12_post_87 rfl (e_getI rfl cl_11 (by decide) rfl q_1569 dX12_post_88 (e_if_ne (tgt := 114) dX12_post_91 (by decide) (e_iinc (v := 1) dX12_post_114 (by decide) (by decide) (e_goto (tgt := 81) dX12_post_117 (by decide) (e_msk [true, false, true, true, true, true]))) (e_aload_n dX12_post_94 rfl (e_getR rfl cl_11 (by decide) rfl q_1592 dX12_post_95 (e_iload dX12_post_98 (e_aaload dX12_post_100 (e_iconst (v := 0) dX12_post_101 (by decide) (e_iaload dX12_post_102 (e_iload dX12_post_103 (e_ic_ne (tgt := 114) dX12_post_105 (by decide) (e_iinc (v := 1) dX12_post_114 (by decide) (by decide) (e_goto (tgt := 81) dX12_post_117 (by decide) (e_msk [true, false, true, true, true, true]))) (e_aload_n dX12_post_108 rfl (e_iconst (v := 2) dX12_post_109 (by decide) (e_iload_n dX12_post_110 rfl (e_callV cl_11 cal_X12_wrong q_1783 q_1785 q_61 dX12_post_111 (e_iinc (v := 1) dX12_post_114 (by decide) (by decide) (e_goto (tgt := 81) dX12_post_117 (by decide) (e_msk [true, false, true, true, true, true])))))))))))))))))))))
set_option maxRecDepth 100000 in
theorem V_X12_post_81 {G : GE} {d C S : Nat} {P : KI} {a : Nat → Nat → Int32} {r : Nat → Nat → Value} {N : Nat} {l0 : Nat} {l2 : Int32} {l3 : Int32} {l4 : Int32} {l5 : Int32} (hs : ((l2 ≤ l5 → (tyK l0 = (0, 11) ∧ l0 < N ∧ ((¬ (a l0 5) = 0 → E G MX12_post (d + 1) C S 139 [.ref l0, .null, .int l2, .null, .int l4, .null] [] (a, r, N) (RI P)) ∧ ((a l0 5) = 0 → ((¬ l2 = 8 → E G MX12_post (d + 1) C S 139 [.ref l0, .null, .int l2, .null, .int l4, .null] [] (a, r, N) (RI P)) ∧ (l2 = 8 → (tyK l0 = (0, 11) ∧ l0 < N ∧ Sp G d 0 0 MX12_wrong [.ref l0, .int 3, .int l3] (a, r, N) (RN fun a1 r2 n3 => E G MX12_post (d + 1) C S 139 [.ref l0, .null, .int l2, .null, .int l4, .null] [] (a1, r2, n3) (RI P))))))))) ∧ (¬ l2 ≤ l5 → (tyK l0 = (0, 11) ∧ l0 < N ∧ ((¬ (a l0 5) = 0 → E G MX12_post (d + 1) C S 81 [.ref l0, .null, .int l2, .int l3, .int l4, .int (l5 + 1)] [] (a, r, N) (RI P)) ∧ ((a l0 5) = 0 → (tyK l0 = (0, 11) ∧ l0 < N ∧ ∃ q4, r l0 28 = .ref q4 ∧ ((tyK q4).1 = 3 ∧ q4 < N ∧ vp_in l5 (tyK q4).2 ∧ ((tyK (q4 + 1 + (l5 : Int32).toNatClampNeg)).1 = 1 ∧ (q4 + 1 + (l5 : Int32).toNatClampNeg) < N ∧ vp_in 0 (tyK (q4 + 1 + (l5 : Int32).toNatClampNeg)).2 ∧ ((¬ (a (q4 + 1 + (l5 : Int32).toNatClampNeg) (0 : Int32).toNatClampNeg) = l4 → E G MX12_post (d + 1) C S 81 [.ref l0, .null, .int l2, .int l3, .int l4, .int (l5 + 1)] [] (a, r, N) (RI P)) ∧ ((a (q4 + 1 + (l5 : Int32).toNatClampNeg) (0 : Int32).toNatClampNeg) = l4 → (tyK l0 = (0, 11) ∧ l0 < N ∧ Sp G d 0 0 MX12_wrong [.ref l0, .int 2, .int l3] (a, r, N) (RN fun a5 r6 n7 => E G MX12_post (d + 1) C S 81 [.ref l0, .null, .int l2, .int l3, .int l4, .int (l5 + 1)] [] (a5, r6, n7) (RI P)))))))))))))) : E G MX12_post (d + 1) C S 81 [.ref l0, .null, .int l2, .int l3, .int l4, .int l5] [] (a, r, N) (RI P) := T_X12_post_81 _ _ _ hs
set_option maxRecDepth 100000 in
theorem T_X12_post_139 {G : GE} {d C S : Nat} {P : KI} : Snd G MX12_post (d + 1) C S 139 (RI P) (s_aload 0 (s_iconst 0 (s_iconst 20 (s_callV G d MX12_numberHere 2 11 (s_istore 5 (s_aload 0 (s_iconst 59 (s_callV G d MX12_sign 1 11 (s_aload 0 (s_getI 11 5 (s_if_ne (s_aload 0 (s_callV G d MX12_blanks 0 11 (fun L st h => E G MX12_post (d + 1) C S 46 (msk [true, false, true, false, false, false] L) st h (RI P)))) (s_aload 0 (s_getR 11 28 (s_iload 2 (s_aaload (s_iconst 0 (s_iload 4 (s_iastore (s_aload 0 (s_getR 11 28 (s_iload 2 (s_aaload (s_iconst 1 (s_iload 5 (s_iastore (s_iinc 2 1 (s_aload 0 (s_callV G d MX12_blanks 0 11 (fun L st h => E G MX12_post (d + 1) C S 46 (msk [true, false, true, false, false, false] L) st h (RI P)))))))))))))))))))))))))))))) := (e_aload_n dX12_post_139 rfl (e_iconst (v := 0) dX12_post_140 (by decide) (e_bipush (v := 20) dX12_post_141 (by decide) (e_callV cl_11 cal_X12_numberHere q_1791 q_1793 q_63 dX12_post_143 (e_istore dX12_post_146 (by decide) (e_aload_n dX12_post_148 rfl (e_bipush (v := 59) dX12_post_149 (by decide) (e_callV cl_11 cal_X12_sign q_1803 q_1805 q_65 dX12_post_151 (e_aload_n dX12_post_154 rfl (e_getI rfl cl_11 (by decide) rfl q_1569 dX12_post_155 (e_if_ne (tgt := 184) dX12_post_158 (by decide) (e_aload_n dX12_post_184 rfl (e_callV cl_11 cal_X12_blanks q_1750 q_1752 q_55 dX12_post_185 (e_goto (tgt := 46) dX12_post_188 (by decide) (e_msk [true, false, true, false, false, false])))) (e_aload_n dX12_post_161 rfl (e_getR rfl cl_11 (by decide) rfl q_1592 dX12_post_162 (e_iload_n dX12_post_165 rfl (e_aaload dX12_post_166 (e_iconst (v := 0) dX12_post_167 (by decide) (e_iload dX12_post_168 (e_iastore dX12_post_170 (e_aload_n dX12_post_171 rfl (e_getR rfl cl_11 (by decide) rfl q_1592 dX12_post_172 (e_iload_n dX12_post_175 rfl (e_aaload dX12_post_176 (e_iconst (v := 1) dX12_post_177 (by decide) (e_iload dX12_post_178 (e_iastore dX12_post_180 (e_iinc (v := 1) dX12_post_181 (by decide) (by decide) (e_aload_n dX12_post_184 rfl (e_callV cl_11 cal_X12_blanks q_1750 q_1752 q_55 dX12_post_185 (e_goto (tgt := 46) dX12_post_188 (by decide) (e_msk [true, false, true, false, false, false]))))))))))))))))))))))))))))))
set_option maxRecDepth 100000 in
theorem V_X12_post_139 {G : GE} {d C S : Nat} {P : KI} {a : Nat → Nat → Int32} {r : Nat → Nat → Value} {N : Nat} {l0 : Nat} {l2 : Int32} {l4 : Int32} (hs : (tyK l0 = (0, 11) ∧ l0 < N ∧ Sp G d 0 0 MX12_numberHere [.ref l0, .int 0, .int 20] (a, r, N) (RI fun v4 a1 r2 n3 => (tyK l0 = (0, 11) ∧ l0 < n3 ∧ Sp G d 0 0 MX12_sign [.ref l0, .int 59] (a1, r2, n3) (RN fun a5 r6 n7 => (tyK l0 = (0, 11) ∧ l0 < n7 ∧ ((¬ (a5 l0 5) = 0 → (tyK l0 = (0, 11) ∧ l0 < n7 ∧ Sp G d 0 0 MX12_blanks [.ref l0] (a5, r6, n7) (RN fun a8 r9 n10 => E G MX12_post (d + 1) C S 46 [.ref l0, .null, .int l2, .null, .null, .null] [] (a8, r9, n10) (RI P)))) ∧ ((a5 l0 5) = 0 → (tyK l0 = (0, 11) ∧ l0 < n7 ∧ ∃ q11, r6 l0 28 = .ref q11 ∧ ((tyK q11).1 = 3 ∧ q11 < n7 ∧ vp_in l2 (tyK q11).2 ∧ ((tyK (q11 + 1 + (l2 : Int32).toNatClampNeg)).1 = 1 ∧ (q11 + 1 + (l2 : Int32).toNatClampNeg) < n7 ∧ vp_in 0 (tyK (q11 + 1 + (l2 : Int32).toNatClampNeg)).2 ∧ ∀ a12, a12 = u2 a5 (q11 + 1 + (l2 : Int32).toNatClampNeg) (0 : Int32).toNatClampNeg l4 → (tyK l0 = (0, 11) ∧ l0 < n7 ∧ ∃ q13, r6 l0 28 = .ref q13 ∧ ((tyK q13).1 = 3 ∧ q13 < n7 ∧ vp_in l2 (tyK q13).2 ∧ ((tyK (q13 + 1 + (l2 : Int32).toNatClampNeg)).1 = 1 ∧ (q13 + 1 + (l2 : Int32).toNatClampNeg) < n7 ∧ vp_in 1 (tyK (q13 + 1 + (l2 : Int32).toNatClampNeg)).2 ∧ ∀ a14, a14 = u2 a12 (q13 + 1 + (l2 : Int32).toNatClampNeg) (1 : Int32).toNatClampNeg v4 → (tyK l0 = (0, 11) ∧ l0 < n7 ∧ Sp G d 0 0 MX12_blanks [.ref l0] (a14, r6, n7) (RN fun a15 r16 n17 => E G MX12_post (d + 1) C S 46 [.ref l0, .null, .int (l2 + 1), .null, .null, .null] [] (a15, r16, n17) (RI P))))))))))))))))) : E G MX12_post (d + 1) C S 139 [.ref l0, .null, .int l2, .null, .int l4, .null] [] (a, r, N) (RI P) := T_X12_post_139 _ _ _ hs
theorem dX12_fault_0 : decode cX12_fault 0 = .ok (.aload_n 0, 1) := by decide +kernel
theorem dX12_fault_1 : decode cX12_fault 1 = .ok (.iconst 0, 1) := by decide +kernel
theorem dX12_fault_2 : decode cX12_fault 2 = .ok (.putfield 115, 3) := by decide +kernel
theorem dX12_fault_5 : decode cX12_fault 5 = .ok (.aload_n 0, 1) := by decide +kernel
theorem dX12_fault_6 : decode cX12_fault 6 = .ok (.getfield 9, 3) := by decide +kernel
theorem dX12_fault_9 : decode cX12_fault 9 = .ok (.ireturn, 1) := by decide +kernel
set_option maxRecDepth 100000 in
theorem T_X12_fault_0 {G : GE} {d C S : Nat} {P : KI} : Snd G MX12_fault d C S 0 (RI P) (s_aload 0 (s_iconst 0 (s_putI 11 0 (s_aload 0 (s_getI 11 3 (s_ireturn P)))))) := (e_aload_n dX12_fault_0 rfl (e_iconst (v := 0) dX12_fault_1 (by decide) (e_putI rfl cl_11 (by decide) rfl rfl rfl q_1564 dX12_fault_2 (e_aload_n dX12_fault_5 rfl (e_getI rfl cl_11 (by decide) rfl q_1567 dX12_fault_6 (e_ireturn rfl dX12_fault_9))))))
set_option maxRecDepth 100000 in
theorem V_X12_fault_0 {G : GE} {d : Nat} {P : KI} {a : Nat → Nat → Int32} {r : Nat → Nat → Value} {N : Nat} {l0 : Nat} (hs : (tyK l0 = (0, 11) ∧ l0 < N ∧ ∀ a1, a1 = u2 a l0 0 0 → (tyK l0 = (0, 11) ∧ l0 < N ∧ P (a1 l0 3) a1 r N))) : Sp G d 0 0 MX12_fault [.ref l0] (a, r, N) (RI P) := Sp.mk (mc := 0) (ms := 0) [.ref l0] rfl rfl rfl rfl (T_X12_fault_0 (C := 0) (S := 0) _ _ _ hs)
theorem dX12_mateOf_0 : decode cX12_mateOf 0 = .ok (.aload_n 0, 1) := by decide +kernel
theorem dX12_mateOf_1 : decode cX12_mateOf 1 = .ok (.iconst 0, 1) := by decide +kernel
theorem dX12_mateOf_2 : decode cX12_mateOf 2 = .ok (.iload_n 1, 1) := by decide +kernel
theorem dX12_mateOf_3 : decode cX12_mateOf 3 = .ok (.iadd, 1) := by decide +kernel
theorem dX12_mateOf_4 : decode cX12_mateOf 4 = .ok (.iaload, 1) := by decide +kernel
theorem dX12_mateOf_5 : decode cX12_mateOf 5 = .ok (.ireturn, 1) := by decide +kernel
set_option maxRecDepth 100000 in
theorem T_X12_mateOf_0 {G : GE} {d C S : Nat} {P : KI} : Snd G MX12_mateOf d C S 0 (RI P) (s_aload 0 (s_iconst 0 (s_iload 1 (s_iadd (s_iaload (s_ireturn P)))))) := (e_aload_n dX12_mateOf_0 rfl (e_iconst (v := 0) dX12_mateOf_1 (by decide) (e_iload_n dX12_mateOf_2 rfl (e_iadd dX12_mateOf_3 (e_iaload dX12_mateOf_4 (e_ireturn rfl dX12_mateOf_5))))))
set_option maxRecDepth 100000 in
theorem V_X12_mateOf_0 {G : GE} {d : Nat} {P : KI} {a : Nat → Nat → Int32} {r : Nat → Nat → Value} {N : Nat} {l0 : Nat} {l1 : Int32} (hs : ((tyK l0).1 = 1 ∧ l0 < N ∧ vp_in ((0 : Int32) + l1) (tyK l0).2 ∧ P (a l0 (((0 : Int32) + l1) : Int32).toNatClampNeg) a r N)) : Sp G d 0 0 MX12_mateOf [.ref l0, .int l1] (a, r, N) (RI P) := Sp.mk (mc := 0) (ms := 0) [.ref l0, .int l1] rfl rfl rfl rfl (T_X12_mateOf_0 (C := 0) (S := 0) _ _ _ hs)
theorem dX12_lengthOf_0 : decode cX12_lengthOf 0 = .ok (.aload_n 0, 1) := by decide +kernel
theorem dX12_lengthOf_1 : decode cX12_lengthOf 1 = .ok (.getfield 31, 3) := by decide +kernel
theorem dX12_lengthOf_4 : decode cX12_lengthOf 4 = .ok (.aload_n 0, 1) := by decide +kernel
theorem dX12_lengthOf_5 : decode cX12_lengthOf 5 = .ok (.getfield 37, 3) := by decide +kernel
theorem dX12_lengthOf_8 : decode cX12_lengthOf 8 = .ok (.iload_n 1, 1) := by decide +kernel
theorem dX12_lengthOf_9 : decode cX12_lengthOf 9 = .ok (.aaload, 1) := by decide +kernel
theorem dX12_lengthOf_10 : decode cX12_lengthOf 10 = .ok (.iconst 0, 1) := by decide +kernel
theorem dX12_lengthOf_11 : decode cX12_lengthOf 11 = .ok (.iaload, 1) := by decide +kernel
theorem dX12_lengthOf_12 : decode cX12_lengthOf 12 = .ok (.aaload, 1) := by decide +kernel
theorem dX12_lengthOf_13 : decode cX12_lengthOf 13 = .ok (.iconst 0, 1) := by decide +kernel
theorem dX12_lengthOf_14 : decode cX12_lengthOf 14 = .ok (.iaload, 1) := by decide +kernel
theorem dX12_lengthOf_15 : decode cX12_lengthOf 15 = .ok (.aload_n 0, 1) := by decide +kernel
theorem dX12_lengthOf_16 : decode cX12_lengthOf 16 = .ok (.getfield 31, 3) := by decide +kernel
theorem dX12_lengthOf_19 : decode cX12_lengthOf 19 = .ok (.aload_n 0, 1) := by decide +kernel
theorem dX12_lengthOf_20 : decode cX12_lengthOf 20 = .ok (.getfield 37, 3) := by decide +kernel
theorem dX12_lengthOf_23 : decode cX12_lengthOf 23 = .ok (.iload_n 1, 1) := by decide +kernel
theorem dX12_lengthOf_24 : decode cX12_lengthOf 24 = .ok (.aaload, 1) := by decide +kernel
theorem dX12_lengthOf_25 : decode cX12_lengthOf 25 = .ok (.iconst 1, 1) := by decide +kernel
theorem dX12_lengthOf_26 : decode cX12_lengthOf 26 = .ok (.iaload, 1) := by decide +kernel
theorem dX12_lengthOf_27 : decode cX12_lengthOf 27 = .ok (.aaload, 1) := by decide +kernel
theorem dX12_lengthOf_28 : decode cX12_lengthOf 28 = .ok (.iconst 0, 1) := by decide +kernel
theorem dX12_lengthOf_29 : decode cX12_lengthOf 29 = .ok (.iaload, 1) := by decide +kernel
theorem dX12_lengthOf_30 : decode cX12_lengthOf 30 = .ok (.invokestatic 277, 3) := by decide +kernel
theorem dX12_lengthOf_33 : decode cX12_lengthOf 33 = .ok (.aload_n 0, 1) := by decide +kernel
theorem dX12_lengthOf_34 : decode cX12_lengthOf 34 = .ok (.getfield 31, 3) := by decide +kernel
theorem dX12_lengthOf_37 : decode cX12_lengthOf 37 = .ok (.aload_n 0, 1) := by decide +kernel
theorem dX12_lengthOf_38 : decode cX12_lengthOf 38 = .ok (.getfield 37, 3) := by decide +kernel
theorem dX12_lengthOf_41 : decode cX12_lengthOf 41 = .ok (.iload_n 1, 1) := by decide +kernel
theorem dX12_lengthOf_42 : decode cX12_lengthOf 42 = .ok (.aaload, 1) := by decide +kernel
theorem dX12_lengthOf_43 : decode cX12_lengthOf 43 = .ok (.iconst 0, 1) := by decide +kernel
theorem dX12_lengthOf_44 : decode cX12_lengthOf 44 = .ok (.iaload, 1) := by decide +kernel
theorem dX12_lengthOf_45 : decode cX12_lengthOf 45 = .ok (.aaload, 1) := by decide +kernel
theorem dX12_lengthOf_46 : decode cX12_lengthOf 46 = .ok (.iconst 1, 1) := by decide +kernel
theorem dX12_lengthOf_47 : decode cX12_lengthOf 47 = .ok (.iaload, 1) := by decide +kernel
theorem dX12_lengthOf_48 : decode cX12_lengthOf 48 = .ok (.aload_n 0, 1) := by decide +kernel
theorem dX12_lengthOf_49 : decode cX12_lengthOf 49 = .ok (.getfield 31, 3) := by decide +kernel
theorem dX12_lengthOf_52 : decode cX12_lengthOf 52 = .ok (.aload_n 0, 1) := by decide +kernel
theorem dX12_lengthOf_53 : decode cX12_lengthOf 53 = .ok (.getfield 37, 3) := by decide +kernel
theorem dX12_lengthOf_56 : decode cX12_lengthOf 56 = .ok (.iload_n 1, 1) := by decide +kernel
theorem dX12_lengthOf_57 : decode cX12_lengthOf 57 = .ok (.aaload, 1) := by decide +kernel
theorem dX12_lengthOf_58 : decode cX12_lengthOf 58 = .ok (.iconst 1, 1) := by decide +kernel
theorem dX12_lengthOf_59 : decode cX12_lengthOf 59 = .ok (.iaload, 1) := by decide +kernel
theorem dX12_lengthOf_60 : decode cX12_lengthOf 60 = .ok (.aaload, 1) := by decide +kernel
theorem dX12_lengthOf_61 : decode cX12_lengthOf 61 = .ok (.iconst 1, 1) := by decide +kernel
theorem dX12_lengthOf_62 : decode cX12_lengthOf 62 = .ok (.iaload, 1) := by decide +kernel
theorem dX12_lengthOf_63 : decode cX12_lengthOf 63 = .ok (.invokestatic 277, 3) := by decide +kernel
theorem dX12_lengthOf_66 : decode cX12_lengthOf 66 = .ok (.iadd, 1) := by decide +kernel
theorem dX12_lengthOf_67 : decode cX12_lengthOf 67 = .ok (.ireturn, 1) := by decide +kernel
set_option maxRecDepth 100000 in
theorem T_X12_lengthOf_0 {G : GE} {d C S : Nat} {P : KI} : Snd G MX12_lengthOf (d + 1) C S 0 (RI P) (s_aload 0 (s_getR 11 14 (s_aload 0 (s_getR 11 16 (s_iload 1 (s_aaload (s_iconst 0 (s_iaload (s_aaload (s_iconst 0 (s_iaload (s_aload 0 (s_getR 11 14 (s_aload 0 (s_getR 11 16 (s_iload 1 (s_aaload (s_iconst 1 (s_iaload (s_aaload (s_iconst 0 (s_iaload (s_call G d MX12_away 2 (s_aload 0 (s_getR 11 14 (s_aload 0 (s_getR 11 16 (s_iload 1 (s_aaload (s_iconst 0 (s_iaload (s_aaload (s_iconst 1 (s_iaload (s_aload 0 (s_getR 11 14 (s_aload 0 (s_getR 11 16 (s_iload 1 (s_aaload (s_iconst 1 (s_iaload (s_aaload (s_iconst 1 (s_iaload (s_call G d MX12_away 2 (s_iadd (s_ireturn P)))))))))))))))))))))))))))))))))))))))))))))))) := (e_aload_n dX12_lengthOf_0 rfl (e_getR rfl cl_11 (by decide) rfl q_1578 dX12_lengthOf_1 (e_aload_n dX12_lengthOf_4 rfl (e_getR rfl cl_11 (by decide) rfl q_1580 dX12_lengthOf_5 (e_iload_n dX12_lengthOf_8 rfl (e_aaload dX12_lengthOf_9 (e_iconst (v := 0) dX12_lengthOf_10 (by decide) (e_iaload dX12_lengthOf_11 (e_aaload dX12_lengthOf_12 (e_iconst (v := 0) dX12_lengthOf_13 (by decide) (e_iaload dX12_lengthOf_14 (e_aload_n dX12_lengthOf_15 rfl (e_getR rfl cl_11 (by decide) rfl q_1578 dX12_lengthOf_16 (e_aload_n dX12_lengthOf_19 rfl (e_getR rfl cl_11 (by decide) rfl q_1580 dX12_lengthOf_20 (e_iload_n dX12_lengthOf_23 rfl (e_aaload dX12_lengthOf_24 (e_iconst (v := 1) dX12_lengthOf_25 (by decide) (e_iaload dX12_lengthOf_26 (e_aaload dX12_lengthOf_27 (e_iconst (v := 0) dX12_lengthOf_28 (by decide) (e_iaload dX12_lengthOf_29 (e_callS cal_X12_away q_1893 q_1894 dX12_lengthOf_30 (e_aload_n dX12_lengthOf_33 rfl (e_getR rfl cl_11 (by decide) rfl q_1578 dX12_lengthOf_34 (e_aload_n dX12_lengthOf_37 rfl (e_getR rfl cl_11 (by decide) rfl q_1580 dX12_lengthOf_38 (e_iload_n dX12_lengthOf_41 rfl (e_aaload dX12_lengthOf_42 (e_iconst (v := 0) dX12_lengthOf_43 (by decide) (e_iaload dX12_lengthOf_44 (e_aaload dX12_lengthOf_45 (e_iconst (v := 1) dX12_lengthOf_46 (by decide) (e_iaload dX12_lengthOf_47 (e_aload_n dX12_lengthOf_48 rfl (e_getR rfl cl_11 (by decide) rfl q_1578 dX12_lengthOf_49 (e_aload_n dX12_lengthOf_52 rfl (e_getR rfl cl_11 (by decide) rfl q_1580 dX12_lengthOf_53 (e_iload_n dX12_lengthOf_56 rfl (e_aaload dX12_lengthOf_57 (e_iconst (v := 1) dX12_lengthOf_58 (by decide) (e_iaload dX12_lengthOf_59 (e_aaload dX12_lengthOf_60 (e_iconst (v := 1) dX12_lengthOf_61 (by decide) (e_iaload dX12_lengthOf_62 (e_callS cal_X12_away q_1893 q_1894 dX12_lengthOf_63 (e_iadd dX12_lengthOf_66 (e_ireturn rfl dX12_lengthOf_67))))))))))))))))))))))))))))))))))))))))))))))))
set_option maxRecDepth 100000 in
theorem V_X12_lengthOf_0 {G : GE} {d : Nat} {P : KI} {a : Nat → Nat → Int32} {r : Nat → Nat → Value} {N : Nat} {l0 : Nat} {l1 : Int32} (hs : (tyK l0 = (0, 11) ∧ l0 < N ∧ ∃ q1, r l0 14 = .ref q1 ∧ (tyK l0 = (0, 11) ∧ l0 < N ∧ ∃ q2, r l0 16 = .ref q2 ∧ ((tyK q2).1 = 3 ∧ q2 < N ∧ vp_in l1 (tyK q2).2 ∧ ((tyK (q2 + 1 + (l1 : Int32).toNatClampNeg)).1 = 1 ∧ (q2 + 1 + (l1 : Int32).toNatClampNeg) < N ∧ vp_in 0 (tyK (q2 + 1 + (l1 : Int32).toNatClampNeg)).2 ∧ ((tyK q1).1 = 3 ∧ q1 < N ∧ vp_in (a (q2 + 1 + (l1 : Int32).toNatClampNeg) (0 : Int32).toNatClampNeg) (tyK q1).2 ∧ ((tyK (q1 + 1 + ((a (q2 + 1 + (l1 : Int32).toNatClampNeg) (0 : Int32).toNatClampNeg) : Int32).toNatClampNeg)).1 = 1 ∧ (q1 + 1 + ((a (q2 + 1 + (l1 : Int32).toNatClampNeg) (0 : Int32).toNatClampNeg) : Int32).toNatClampNeg) < N ∧ vp_in 0 (tyK (q1 + 1 + ((a (q2 + 1 + (l1 : Int32).toNatClampNeg) (0 : Int32).toNatClampNeg) : Int32).toNatClampNeg)).2 ∧ (tyK l0 = (0, 11) ∧ l0 < N ∧ ∃ q3, r l0 14 = .ref q3 ∧ (tyK l0 = (0, 11) ∧ l0 < N ∧ ∃ q4, r l0 16 = .ref q4 ∧ ((tyK q4).1 = 3 ∧ q4 < N ∧ vp_in l1 (tyK q4).2 ∧ ((tyK (q4 + 1 + (l1 : Int32).toNatClampNeg)).1 = 1 ∧ (q4 + 1 + (l1 : Int32).toNatClampNeg) < N ∧ vp_in 1 (tyK (q4 + 1 + (l1 : Int32).toNatClampNeg)).2 ∧ ((tyK q3).1 = 3 ∧ q3 < N ∧ vp_in (a (q4 + 1 + (l1 : Int32).toNatClampNeg) (1 : Int32).toNatClampNeg) (tyK q3).2 ∧ ((tyK (q3 + 1 + ((a (q4 + 1 + (l1 : Int32).toNatClampNeg) (1 : Int32).toNatClampNeg) : Int32).toNatClampNeg)).1 = 1 ∧ (q3 + 1 + ((a (q4 + 1 + (l1 : Int32).toNatClampNeg) (1 : Int32).toNatClampNeg) : Int32).toNatClampNeg) < N ∧ vp_in 0 (tyK (q3 + 1 + ((a (q4 + 1 + (l1 : Int32).toNatClampNeg) (1 : Int32).toNatClampNeg) : Int32).toNatClampNeg)).2 ∧ Sp G d 0 0 MX12_away [.int (a (q1 + 1 + ((a (q2 + 1 + (l1 : Int32).toNatClampNeg) (0 : Int32).toNatClampNeg) : Int32).toNatClampNeg) (0 : Int32).toNatClampNeg), .int (a (q3 + 1 + ((a (q4 + 1 + (l1 : Int32).toNatClampNeg) (1 : Int32).toNatClampNeg) : Int32).toNatClampNeg) (0 : Int32).toNatClampNeg)] (a, r, N) (RI fun v8 a5 r6 n7 => (tyK l0 = (0, 11) ∧ l0 < n7 ∧ ∃ q9, r6 l0 14 = .ref q9 ∧ (tyK l0 = (0, 11) ∧ l0 < n7 ∧ ∃ q10, r6 l0 16 = .ref q10 ∧ ((tyK q10).1 = 3 ∧ q10 < n7 ∧ vp_in l1 (tyK q10).2 ∧ ((tyK (q10 + 1 + (l1 : Int32).toNatClampNeg)).1 = 1 ∧ (q10 + 1 + (l1 : Int32).toNatClampNeg) < n7 ∧ vp_in 0 (tyK (q10 + 1 + (l1 : Int32).toNatClampNeg)).2 ∧ ((tyK q9).1 = 3 ∧ q9 < n7 ∧ vp_in (a5 (q10 + 1 + (l1 : Int32).toNatClampNeg) (0 : Int32).toNatClampNeg) (tyK q9).2 ∧ ((tyK (q9 + 1 + ((a5 (q10 + 1 + (l1 : Int32).toNatClampNeg) (0 : Int32).toNatClampNeg) : Int32).toNatClampNeg)).1 = 1 ∧ (q9 + 1 + ((a5 (q10 + 1 + (l1 : Int32).toNatClampNeg) (0 : Int32).toNatClampNeg) : Int32).toNatClampNeg) < n7 ∧ vp_in 1 (tyK (q9 + 1 + ((a5 (q10 + 1 + (l1 : Int32).toNatClampNeg) (0 : Int32).toNatClampNeg) : Int32).toNatClampNeg)).2 ∧ (tyK l0 = (0, 11) ∧ l0 < n7 ∧ ∃ q11, r6 l0 14 = .ref q11 ∧ (tyK l0 = (0, 11) ∧ l0 < n7 ∧ ∃ q12, r6 l0 16 = .ref q12 ∧ ((tyK q12).1 = 3 ∧ q12 < n7 ∧ vp_in l1 (tyK q12).2 ∧ ((tyK (q12 + 1 + (l1 : Int32).toNatClampNeg)).1 = 1 ∧ (q12 + 1 + (l1 : Int32).toNatClampNeg) < n7 ∧ vp_in 1 (tyK (q12 + 1 + (l1 : Int32).toNatClampNeg)).2 ∧ ((tyK q11).1 = 3 ∧ q11 < n7 ∧ vp_in (a5 (q12 + 1 + (l1 : Int32).toNatClampNeg) (1 : Int32).toNatClampNeg) (tyK q11).2 ∧ ((tyK (q11 + 1 + ((a5 (q12 + 1 + (l1 : Int32).toNatClampNeg) (1 : Int32).toNatClampNeg) : Int32).toNatClampNeg)).1 = 1 ∧ (q11 + 1 + ((a5 (q12 + 1 + (l1 : Int32).toNatClampNeg) (1 : Int32).toNatClampNeg) : Int32).toNatClampNeg) < n7 ∧ vp_in 1 (tyK (q11 + 1 + ((a5 (q12 + 1 + (l1 : Int32).toNatClampNeg) (1 : Int32).toNatClampNeg) : Int32).toNatClampNeg)).2 ∧ Sp G d 0 0 MX12_away [.int (a5 (q9 + 1 + ((a5 (q10 + 1 + (l1 : Int32).toNatClampNeg) (0 : Int32).toNatClampNeg) : Int32).toNatClampNeg) (1 : Int32).toNatClampNeg), .int (a5 (q11 + 1 + ((a5 (q12 + 1 + (l1 : Int32).toNatClampNeg) (1 : Int32).toNatClampNeg) : Int32).toNatClampNeg) (1 : Int32).toNatClampNeg)] (a5, r6, n7) (RI fun v16 a13 r14 n15 => P (v8 + v16) a13 r14 n15))))))))))))))))))))))))))) : Sp G (d + 1) 0 0 MX12_lengthOf [.ref l0, .int l1] (a, r, N) (RI P) := Sp.mk (mc := 0) (ms := 0) [.ref l0, .int l1] rfl rfl rfl rfl (T_X12_lengthOf_0 (C := 0) (S := 0) _ _ _ hs)
theorem dX12_crossOf_0 : decode cX12_crossOf 0 = .ok (.iconst 0, 1) := by decide +kernel
theorem dX12_crossOf_1 : decode cX12_crossOf 1 = .ok (.istore_n 3, 1) := by decide +kernel
theorem dX12_crossOf_2 : decode cX12_crossOf 2 = .ok (.iconst 0, 1) := by decide +kernel
theorem dX12_crossOf_3 : decode cX12_crossOf 3 = .ok (.istore 4, 2) := by decide +kernel
theorem dX12_crossOf_5 : decode cX12_crossOf 5 = .ok (.iload 4, 2) := by decide +kernel
theorem dX12_crossOf_7 : decode cX12_crossOf 7 = .ok (.iconst 2, 1) := by decide +kernel
theorem dX12_crossOf_8 : decode cX12_crossOf 8 = .ok (.if_icmp .ge 57, 3) := by decide +kernel
theorem dX12_crossOf_11 : decode cX12_crossOf 11 = .ok (.iload_n 3, 1) := by decide +kernel
theorem dX12_crossOf_12 : decode cX12_crossOf 12 = .ok (.aload_n 0, 1) := by decide +kernel
theorem dX12_crossOf_13 : decode cX12_crossOf 13 = .ok (.getfield 37, 3) := by decide +kernel
theorem dX12_crossOf_16 : decode cX12_crossOf 16 = .ok (.iload_n 1, 1) := by decide +kernel
theorem dX12_crossOf_17 : decode cX12_crossOf 17 = .ok (.aaload, 1) := by decide +kernel
theorem dX12_crossOf_18 : decode cX12_crossOf 18 = .ok (.iload 4, 2) := by decide +kernel
theorem dX12_crossOf_20 : decode cX12_crossOf 20 = .ok (.iaload, 1) := by decide +kernel
theorem dX12_crossOf_21 : decode cX12_crossOf 21 = .ok (.aload_n 0, 1) := by decide +kernel
theorem dX12_crossOf_22 : decode cX12_crossOf 22 = .ok (.getfield 37, 3) := by decide +kernel
theorem dX12_crossOf_25 : decode cX12_crossOf 25 = .ok (.iload_n 2, 1) := by decide +kernel
theorem dX12_crossOf_26 : decode cX12_crossOf 26 = .ok (.aaload, 1) := by decide +kernel
theorem dX12_crossOf_27 : decode cX12_crossOf 27 = .ok (.iconst 0, 1) := by decide +kernel
theorem dX12_crossOf_28 : decode cX12_crossOf 28 = .ok (.iaload, 1) := by decide +kernel
theorem dX12_crossOf_29 : decode cX12_crossOf 29 = .ok (.if_icmp .eq 23, 3) := by decide +kernel
theorem dX12_crossOf_32 : decode cX12_crossOf 32 = .ok (.aload_n 0, 1) := by decide +kernel
theorem dX12_crossOf_33 : decode cX12_crossOf 33 = .ok (.getfield 37, 3) := by decide +kernel
theorem dX12_crossOf_36 : decode cX12_crossOf 36 = .ok (.iload_n 1, 1) := by decide +kernel
theorem dX12_crossOf_37 : decode cX12_crossOf 37 = .ok (.aaload, 1) := by decide +kernel
theorem dX12_crossOf_38 : decode cX12_crossOf 38 = .ok (.iload 4, 2) := by decide +kernel
theorem dX12_crossOf_40 : decode cX12_crossOf 40 = .ok (.iaload, 1) := by decide +kernel
theorem dX12_crossOf_41 : decode cX12_crossOf 41 = .ok (.aload_n 0, 1) := by decide +kernel
theorem dX12_crossOf_42 : decode cX12_crossOf 42 = .ok (.getfield 37, 3) := by decide +kernel
theorem dX12_crossOf_45 : decode cX12_crossOf 45 = .ok (.iload_n 2, 1) := by decide +kernel
theorem dX12_crossOf_46 : decode cX12_crossOf 46 = .ok (.aaload, 1) := by decide +kernel
theorem dX12_crossOf_47 : decode cX12_crossOf 47 = .ok (.iconst 1, 1) := by decide +kernel
theorem dX12_crossOf_48 : decode cX12_crossOf 48 = .ok (.iaload, 1) := by decide +kernel
theorem dX12_crossOf_49 : decode cX12_crossOf 49 = .ok (.if_icmp .ne 7, 3) := by decide +kernel
theorem dX12_crossOf_52 : decode cX12_crossOf 52 = .ok (.iconst 1, 1) := by decide +kernel
theorem dX12_crossOf_53 : decode cX12_crossOf 53 = .ok (.goto 4, 3) := by decide +kernel
theorem dX12_crossOf_56 : decode cX12_crossOf 56 = .ok (.iconst 0, 1) := by decide +kernel
theorem dX12_crossOf_57 : decode cX12_crossOf 57 = .ok (.iadd, 1) := by decide +kernel
theorem dX12_crossOf_58 : decode cX12_crossOf 58 = .ok (.istore_n 3, 1) := by decide +kernel
theorem dX12_crossOf_59 : decode cX12_crossOf 59 = .ok (.iinc 4 1, 3) := by decide +kernel
theorem dX12_crossOf_62 : decode cX12_crossOf 62 = .ok (.goto (-57), 3) := by decide +kernel
theorem dX12_crossOf_65 : decode cX12_crossOf 65 = .ok (.iload_n 3, 1) := by decide +kernel
theorem dX12_crossOf_66 : decode cX12_crossOf 66 = .ok (.ireturn, 1) := by decide +kernel
set_option maxRecDepth 100000 in
theorem T_X12_crossOf_0 {G : GE} {d C S : Nat} {P : KI} : Snd G MX12_crossOf d C S 0 (RI P) (s_iconst 0 (s_istore 3 (s_iconst 0 (s_istore 4 (fun L st h => E G MX12_crossOf d C S 5 (msk [true, true, true, true, true] L) st h (RI P)))))) := (e_iconst (v := 0) dX12_crossOf_0 (by decide) (e_istore_n dX12_crossOf_1 rfl (by decide) (e_iconst (v := 0) dX12_crossOf_2 (by decide) (e_istore dX12_crossOf_3 (by decide) (e_msk [true, true, true, true, true])))))
set_option maxRecDepth 100000 in
theorem V_X12_crossOf_0 {G : GE} {d : Nat} {P : KI} {a : Nat → Nat → Int32} {r : Nat → Nat → Value} {N : Nat} {l0 : Nat} {l1 : Int32} {l2 : Int32} (hs : E G MX12_crossOf d 0 0 5 [.ref l0, .int l1, .int l2, .int 0, .int 0] [] (a, r, N) (RI P)) : Sp G d 0 0 MX12_crossOf [.ref l0, .int l1, .int l2] (a, r, N) (RI P) := Sp.mk (mc := 0) (ms := 0) [.ref l0, .int l1, .int l2, .null, .null] rfl rfl rfl rfl (T_X12_crossOf_0 (C := 0) (S := 0) _ _ _ hs)
set_option maxRecDepth 100000 in
theorem T_X12_crossOf_5 {G : GE} {d C S : Nat} {P : KI} : Snd G MX12_crossOf d C S 5 (RI P) (s_iload 4 (s_iconst 2 (s_ic_ge (s_iload 3 (s_ireturn P)) (s_iload 3 (s_aload 0 (s_getR 11 16 (s_iload 1 (s_aaload (s_iload 4 (s_iaload (s_aload 0 (s_getR 11 16 (s_iload 2 (s_aaload (s_iconst 0 (s_iaload (s_ic_eq (s_iconst 1 (s_iadd (s_istore 3 (s_iinc 4 1 (fun L st h => E G MX12_crossOf d C S 5 (msk [true, true, true, true, true] L) st h (RI P)))))) (s_aload 0 (s_getR 11 16 (s_iload 1 (s_aaload (s_iload 4 (s_iaload (s_aload 0 (s_getR 11 16 (s_iload 2 (s_aaload (s_iconst 1 (s_iaload (s_ic_ne (s_iconst 0 (s_iadd (s_istore 3 (s_iinc 4 1 (fun L st h => E G MX12_crossOf d C S 5 (msk [true, true, true, true, true] L) st h (RI P)))))) (s_iconst 1 (s_iadd (s_istore 3 (s_iinc 4 1 (fun L st h => E G MX12_crossOf d C S 5 (msk [true, true, true, true, true] L) st h (RI P)))))))))))))))))))))))))))))))))))) := (e_iload dX12_crossOf_5 (e_iconst (v := 2) dX12_crossOf_7 (by decide) (e_ic_ge (tgt := 65) dX12_crossOf_8 (by decide) (e_iload_n dX12_crossOf_65 rfl (e_ireturn rfl dX12_crossOf_66)) (e_iload_n dX12_crossOf_11 rfl (e_aload_n dX12_crossOf_12 rfl (e_getR rfl cl_11 (by decide) rfl q_1580 dX12_crossOf_13 (e_iload_n dX12_crossOf_16 rfl (e_aaload dX12_crossOf_17 (e_iload dX12_crossOf_18 (e_iaload dX12_crossOf_20 (e_aload_n dX12_crossOf_21 rfl (e_getR rfl cl_11 (by decide) rfl q_1580 dX12_crossOf_22 (e_iload_n dX12_crossOf_25 rfl (e_aaload dX12_crossOf_26 (e_iconst (v := 0) dX12_crossOf_27 (by decide) (e_iaload dX12_crossOf_28 (e_ic_eq (tgt := 52) dX12_crossOf_29 (by decide) (e_iconst (v := 1) dX12_crossOf_52 (by decide) (e_goto (tgt := 57) dX12_crossOf_53 (by decide) (e_iadd dX12_crossOf_57 (e_istore_n dX12_crossOf_58 rfl (by decide) (e_iinc (v := 1) dX12_crossOf_59 (by decide) (by decide) (e_goto (tgt := 5) dX12_crossOf_62 (by decide) (e_msk [true, true, true, true, true]))))))) (e_aload_n dX12_crossOf_32 rfl (e_getR rfl cl_11 (by decide) rfl q_1580 dX12_crossOf_33 (e_iload_n dX12_crossOf_36 rfl (e_aaload dX12_crossOf_37 (e_iload dX12_crossOf_38 (e_iaload dX12_crossOf_40 (e_aload_n dX12_crossOf_41 rfl (e_getR rfl cl_11 (by decide) rfl q_1580 dX12_crossOf_42 (e_iload_n dX12_crossOf_45 rfl (e_aaload dX12_crossOf_46 (e_iconst (v := 1) dX12_crossOf_47 (by decide) (e_iaload dX12_crossOf_48 (e_ic_ne (tgt := 56) dX12_crossOf_49 (by decide) (e_iconst (v := 0) dX12_crossOf_56 (by decide) (e_iadd dX12_crossOf_57 (e_istore_n dX12_crossOf_58 rfl (by decide) (e_iinc (v := 1) dX12_crossOf_59 (by decide) (by decide) (e_goto (tgt := 5) dX12_crossOf_62 (by decide) (e_msk [true, true, true, true, true])))))) (e_iconst (v := 1) dX12_crossOf_52 (by decide) (e_goto (tgt := 57) dX12_crossOf_53 (by decide) (e_iadd dX12_crossOf_57 (e_istore_n dX12_crossOf_58 rfl (by decide) (e_iinc (v := 1) dX12_crossOf_59 (by decide) (by decide) (e_goto (tgt := 5) dX12_crossOf_62 (by decide) (e_msk [true, true, true, true, true])))))))))))))))))))))))))))))))))))))
set_option maxRecDepth 100000 in
theorem V_X12_crossOf_5 {G : GE} {d C S : Nat} {P : KI} {a : Nat → Nat → Int32} {r : Nat → Nat → Value} {N : Nat} {l0 : Nat} {l1 : Int32} {l2 : Int32} {l3 : Int32} {l4 : Int32} (hs : ((2 ≤ l4 → P l3 a r N) ∧ (¬ 2 ≤ l4 → (tyK l0 = (0, 11) ∧ l0 < N ∧ ∃ q1, r l0 16 = .ref q1 ∧ ((tyK q1).1 = 3 ∧ q1 < N ∧ vp_in l1 (tyK q1).2 ∧ ((tyK (q1 + 1 + (l1 : Int32).toNatClampNeg)).1 = 1 ∧ (q1 + 1 + (l1 : Int32).toNatClampNeg) < N ∧ vp_in l4 (tyK (q1 + 1 + (l1 : Int32).toNatClampNeg)).2 ∧ (tyK l0 = (0, 11) ∧ l0 < N ∧ ∃ q2, r l0 16 = .ref q2 ∧ ((tyK q2).1 = 3 ∧ q2 < N ∧ vp_in l2 (tyK q2).2 ∧ ((tyK (q2 + 1 + (l2 : Int32).toNatClampNeg)).1 = 1 ∧ (q2 + 1 + (l2 : Int32).toNatClampNeg) < N ∧ vp_in 0 (tyK (q2 + 1 + (l2 : Int32).toNatClampNeg)).2 ∧ (((a (q1 + 1 + (l1 : Int32).toNatClampNeg) (l4 : Int32).toNatClampNeg) = (a (q2 + 1 + (l2 : Int32).toNatClampNeg) (0 : Int32).toNatClampNeg) → E G MX12_crossOf d C S 5 [.ref l0, .int l1, .int l2, .int (l3 + 1), .int (l4 + 1)] [] (a, r, N) (RI P)) ∧ (¬ (a (q1 + 1 + (l1 : Int32).toNatClampNeg) (l4 : Int32).toNatClampNeg) = (a (q2 + 1 + (l2 : Int32).toNatClampNeg) (0 : Int32).toNatClampNeg) → (tyK l0 = (0, 11) ∧ l0 < N ∧ ∃ q3, r l0 16 = .ref q3 ∧ ((tyK q3).1 = 3 ∧ q3 < N ∧ vp_in l1 (tyK q3).2 ∧ ((tyK (q3 + 1 + (l1 : Int32).toNatClampNeg)).1 = 1 ∧ (q3 + 1 + (l1 : Int32).toNatClampNeg) < N ∧ vp_in l4 (tyK (q3 + 1 + (l1 : Int32).toNatClampNeg)).2 ∧ (tyK l0 = (0, 11) ∧ l0 < N ∧ ∃ q4, r l0 16 = .ref q4 ∧ ((tyK q4).1 = 3 ∧ q4 < N ∧ vp_in l2 (tyK q4).2 ∧ ((tyK (q4 + 1 + (l2 : Int32).toNatClampNeg)).1 = 1 ∧ (q4 + 1 + (l2 : Int32).toNatClampNeg) < N ∧ vp_in 1 (tyK (q4 + 1 + (l2 : Int32).toNatClampNeg)).2 ∧ ((¬ (a (q3 + 1 + (l1 : Int32).toNatClampNeg) (l4 : Int32).toNatClampNeg) = (a (q4 + 1 + (l2 : Int32).toNatClampNeg) (1 : Int32).toNatClampNeg) → E G MX12_crossOf d C S 5 [.ref l0, .int l1, .int l2, .int (l3 + 0), .int (l4 + 1)] [] (a, r, N) (RI P)) ∧ ((a (q3 + 1 + (l1 : Int32).toNatClampNeg) (l4 : Int32).toNatClampNeg) = (a (q4 + 1 + (l2 : Int32).toNatClampNeg) (1 : Int32).toNatClampNeg) → E G MX12_crossOf d C S 5 [.ref l0, .int l1, .int l2, .int (l3 + 1), .int (l4 + 1)] [] (a, r, N) (RI P)))))))))))))))))))) : E G MX12_crossOf d C S 5 [.ref l0, .int l1, .int l2, .int l3, .int l4] [] (a, r, N) (RI P) := T_X12_crossOf_5 _ _ _ hs
theorem dX12_bannsOf_0 : decode cX12_bannsOf 0 = .ok (.iload_n 2, 1) := by decide +kernel
theorem dX12_bannsOf_1 : decode cX12_bannsOf 1 = .ok (.iload_n 3, 1) := by decide +kernel
theorem dX12_bannsOf_2 : decode cX12_bannsOf 2 = .ok (.if_icmp .ne 5, 3) := by decide +kernel
theorem dX12_bannsOf_5 : decode cX12_bannsOf 5 = .ok (.iconst 1, 1) := by decide +kernel
theorem dX12_bannsOf_6 : decode cX12_bannsOf 6 = .ok (.ireturn, 1) := by decide +kernel
theorem dX12_bannsOf_7 : decode cX12_bannsOf 7 = .ok (.aload_n 0, 1) := by decide +kernel
theorem dX12_bannsOf_8 : decode cX12_bannsOf 8 = .ok (.getfield 49, 3) := by decide +kernel
theorem dX12_bannsOf_11 : decode cX12_bannsOf 11 = .ok (.iload_n 2, 1) := by decide +kernel
theorem dX12_bannsOf_12 : decode cX12_bannsOf 12 = .ok (.aaload, 1) := by decide +kernel
theorem dX12_bannsOf_13 : decode cX12_bannsOf 13 = .ok (.iload_n 3, 1) := by decide +kernel
theorem dX12_bannsOf_14 : decode cX12_bannsOf 14 = .ok (.iaload, 1) := by decide +kernel
theorem dX12_bannsOf_15 : decode cX12_bannsOf 15 = .ok (.iconst 1, 1) := by decide +kernel
theorem dX12_bannsOf_16 : decode cX12_bannsOf 16 = .ok (.if_icmp .ne 5, 3) := by decide +kernel
theorem dX12_bannsOf_19 : decode cX12_bannsOf 19 = .ok (.iconst 2, 1) := by decide +kernel
theorem dX12_bannsOf_20 : decode cX12_bannsOf 20 = .ok (.ireturn, 1) := by decide +kernel
theorem dX12_bannsOf_21 : decode cX12_bannsOf 21 = .ok (.aload_n 0, 1) := by decide +kernel
theorem dX12_bannsOf_22 : decode cX12_bannsOf 22 = .ok (.getfield 73, 3) := by decide +kernel
theorem dX12_bannsOf_25 : decode cX12_bannsOf 25 = .ok (.iconst 0, 1) := by decide +kernel
theorem dX12_bannsOf_26 : decode cX12_bannsOf 26 = .ok (.aload_n 0, 1) := by decide +kernel
theorem dX12_bannsOf_27 : decode cX12_bannsOf 27 = .ok (.getfield 37, 3) := by decide +kernel
theorem dX12_bannsOf_30 : decode cX12_bannsOf 30 = .ok (.iload_n 2, 1) := by decide +kernel
theorem dX12_bannsOf_31 : decode cX12_bannsOf 31 = .ok (.aaload, 1) := by decide +kernel
theorem dX12_bannsOf_32 : decode cX12_bannsOf 32 = .ok (.iconst 2, 1) := by decide +kernel
theorem dX12_bannsOf_33 : decode cX12_bannsOf 33 = .ok (.iaload, 1) := by decide +kernel
theorem dX12_bannsOf_34 : decode cX12_bannsOf 34 = .ok (.iastore, 1) := by decide +kernel
theorem dX12_bannsOf_35 : decode cX12_bannsOf 35 = .ok (.aload_n 0, 1) := by decide +kernel
theorem dX12_bannsOf_36 : decode cX12_bannsOf 36 = .ok (.getfield 73, 3) := by decide +kernel
theorem dX12_bannsOf_39 : decode cX12_bannsOf 39 = .ok (.iconst 1, 1) := by decide +kernel
theorem dX12_bannsOf_40 : decode cX12_bannsOf 40 = .ok (.aload_n 0, 1) := by decide +kernel
theorem dX12_bannsOf_41 : decode cX12_bannsOf 41 = .ok (.getfield 37, 3) := by decide +kernel
theorem dX12_bannsOf_44 : decode cX12_bannsOf 44 = .ok (.iload_n 3, 1) := by decide +kernel
theorem dX12_bannsOf_45 : decode cX12_bannsOf 45 = .ok (.aaload, 1) := by decide +kernel
theorem dX12_bannsOf_46 : decode cX12_bannsOf 46 = .ok (.iconst 2, 1) := by decide +kernel
theorem dX12_bannsOf_47 : decode cX12_bannsOf 47 = .ok (.iaload, 1) := by decide +kernel
theorem dX12_bannsOf_48 : decode cX12_bannsOf 48 = .ok (.iastore, 1) := by decide +kernel
theorem dX12_bannsOf_49 : decode cX12_bannsOf 49 = .ok (.aload_n 0, 1) := by decide +kernel
theorem dX12_bannsOf_50 : decode cX12_bannsOf 50 = .ok (.getfield 73, 3) := by decide +kernel
theorem dX12_bannsOf_53 : decode cX12_bannsOf 53 = .ok (.iconst 2, 1) := by decide +kernel
theorem dX12_bannsOf_54 : decode cX12_bannsOf 54 = .ok (.aload_n 1, 1) := by decide +kernel
theorem dX12_bannsOf_55 : decode cX12_bannsOf 55 = .ok (.bipush 24, 2) := by decide +kernel
theorem dX12_bannsOf_57 : decode cX12_bannsOf 57 = .ok (.iload_n 2, 1) := by decide +kernel
theorem dX12_bannsOf_58 : decode cX12_bannsOf 58 = .ok (.iadd, 1) := by decide +kernel
theorem dX12_bannsOf_59 : decode cX12_bannsOf 59 = .ok (.iaload, 1) := by decide +kernel
theorem dX12_bannsOf_60 : decode cX12_bannsOf 60 = .ok (.aload_n 1, 1) := by decide +kernel
theorem dX12_bannsOf_61 : decode cX12_bannsOf 61 = .ok (.bipush 24, 2) := by decide +kernel
theorem dX12_bannsOf_63 : decode cX12_bannsOf 63 = .ok (.iload_n 3, 1) := by decide +kernel
theorem dX12_bannsOf_64 : decode cX12_bannsOf 64 = .ok (.iadd, 1) := by decide +kernel
theorem dX12_bannsOf_65 : decode cX12_bannsOf 65 = .ok (.iaload, 1) := by decide +kernel
theorem dX12_bannsOf_66 : decode cX12_bannsOf 66 = .ok (.iadd, 1) := by decide +kernel
theorem dX12_bannsOf_67 : decode cX12_bannsOf 67 = .ok (.iastore, 1) := by decide +kernel
theorem dX12_bannsOf_68 : decode cX12_bannsOf 68 = .ok (.aload_n 0, 1) := by decide +kernel
theorem dX12_bannsOf_69 : decode cX12_bannsOf 69 = .ok (.getfield 73, 3) := by decide +kernel
theorem dX12_bannsOf_72 : decode cX12_bannsOf 72 = .ok (.iconst 3, 1) := by decide +kernel
theorem dX12_bannsOf_73 : decode cX12_bannsOf 73 = .ok (.aload_n 0, 1) := by decide +kernel
theorem dX12_bannsOf_74 : decode cX12_bannsOf 74 = .ok (.getfield 43, 3) := by decide +kernel
theorem dX12_bannsOf_77 : decode cX12_bannsOf 77 = .ok (.iload_n 2, 1) := by decide +kernel
theorem dX12_bannsOf_78 : decode cX12_bannsOf 78 = .ok (.aaload, 1) := by decide +kernel
theorem dX12_bannsOf_79 : decode cX12_bannsOf 79 = .ok (.iload_n 3, 1) := by decide +kernel
theorem dX12_bannsOf_80 : decode cX12_bannsOf 80 = .ok (.iaload, 1) := by decide +kernel
theorem dX12_bannsOf_81 : decode cX12_bannsOf 81 = .ok (.iastore, 1) := by decide +kernel
theorem dX12_bannsOf_82 : decode cX12_bannsOf 82 = .ok (.aload_n 0, 1) := by decide +kernel
theorem dX12_bannsOf_83 : decode cX12_bannsOf 83 = .ok (.getfield 73, 3) := by decide +kernel
theorem dX12_bannsOf_86 : decode cX12_bannsOf 86 = .ok (.iconst 4, 1) := by decide +kernel
theorem dX12_bannsOf_87 : decode cX12_bannsOf 87 = .ok (.aload_n 0, 1) := by decide +kernel
theorem dX12_bannsOf_88 : decode cX12_bannsOf 88 = .ok (.getfield 43, 3) := by decide +kernel
theorem dX12_bannsOf_91 : decode cX12_bannsOf 91 = .ok (.iload_n 3, 1) := by decide +kernel
theorem dX12_bannsOf_92 : decode cX12_bannsOf 92 = .ok (.aaload, 1) := by decide +kernel
theorem dX12_bannsOf_93 : decode cX12_bannsOf 93 = .ok (.iload_n 2, 1) := by decide +kernel
theorem dX12_bannsOf_94 : decode cX12_bannsOf 94 = .ok (.iaload, 1) := by decide +kernel
theorem dX12_bannsOf_95 : decode cX12_bannsOf 95 = .ok (.iastore, 1) := by decide +kernel
theorem dX12_bannsOf_96 : decode cX12_bannsOf 96 = .ok (.aload_n 0, 1) := by decide +kernel
theorem dX12_bannsOf_97 : decode cX12_bannsOf 97 = .ok (.getfield 73, 3) := by decide +kernel
theorem dX12_bannsOf_100 : decode cX12_bannsOf 100 = .ok (.iconst 5, 1) := by decide +kernel
theorem dX12_bannsOf_101 : decode cX12_bannsOf 101 = .ok (.aload_n 0, 1) := by decide +kernel
theorem dX12_bannsOf_102 : decode cX12_bannsOf 102 = .ok (.iload_n 2, 1) := by decide +kernel
theorem dX12_bannsOf_103 : decode cX12_bannsOf 103 = .ok (.iload_n 3, 1) := by decide +kernel
theorem dX12_bannsOf_104 : decode cX12_bannsOf 104 = .ok (.invokevirtual 280, 3) := by decide +kernel
theorem dX12_bannsOf_107 : decode cX12_bannsOf 107 = .ok (.iastore, 1) := by decide +kernel
theorem dX12_bannsOf_108 : decode cX12_bannsOf 108 = .ok (.aload_n 0, 1) := by decide +kernel
theorem dX12_bannsOf_109 : decode cX12_bannsOf 109 = .ok (.getfield 73, 3) := by decide +kernel
theorem dX12_bannsOf_112 : decode cX12_bannsOf 112 = .ok (.bipush 6, 2) := by decide +kernel
theorem dX12_bannsOf_114 : decode cX12_bannsOf 114 = .ok (.aload_n 0, 1) := by decide +kernel
theorem dX12_bannsOf_115 : decode cX12_bannsOf 115 = .ok (.iload_n 2, 1) := by decide +kernel
theorem dX12_bannsOf_116 : decode cX12_bannsOf 116 = .ok (.invokevirtual 283, 3) := by decide +kernel
theorem dX12_bannsOf_119 : decode cX12_bannsOf 119 = .ok (.aload_n 0, 1) := by decide +kernel
theorem dX12_bannsOf_120 : decode cX12_bannsOf 120 = .ok (.iload_n 3, 1) := by decide +kernel
theorem dX12_bannsOf_121 : decode cX12_bannsOf 121 = .ok (.invokevirtual 283, 3) := by decide +kernel
theorem dX12_bannsOf_124 : decode cX12_bannsOf 124 = .ok (.iadd, 1) := by decide +kernel
theorem dX12_bannsOf_125 : decode cX12_bannsOf 125 = .ok (.iastore, 1) := by decide +kernel
theorem dX12_bannsOf_126 : decode cX12_bannsOf 126 = .ok (.aload_n 0, 1) := by decide +kernel
theorem dX12_bannsOf_127 : decode cX12_bannsOf 127 = .ok (.getfield 73, 3) := by decide +kernel
theorem dX12_bannsOf_130 : decode cX12_bannsOf 130 = .ok (.bipush 7, 2) := by decide +kernel
theorem dX12_bannsOf_132 : decode cX12_bannsOf 132 = .ok (.aload_n 1, 1) := by decide +kernel
theorem dX12_bannsOf_133 : decode cX12_bannsOf 133 = .ok (.bipush 40, 2) := by decide +kernel
theorem dX12_bannsOf_135 : decode cX12_bannsOf 135 = .ok (.iaload, 1) := by decide +kernel
theorem dX12_bannsOf_136 : decode cX12_bannsOf 136 = .ok (.iastore, 1) := by decide +kernel
theorem dX12_bannsOf_137 : decode cX12_bannsOf 137 = .ok (.aload_n 0, 1) := by decide +kernel
theorem dX12_bannsOf_138 : decode cX12_bannsOf 138 = .ok (.getfield 73, 3) := by decide +kernel
theorem dX12_bannsOf_141 : decode cX12_bannsOf 141 = .ok (.bipush 8, 2) := by decide +kernel
theorem dX12_bannsOf_143 : decode cX12_bannsOf 143 = .ok (.aload_n 1, 1) := by decide +kernel
theorem dX12_bannsOf_144 : decode cX12_bannsOf 144 = .ok (.bipush 32, 2) := by decide +kernel
theorem dX12_bannsOf_146 : decode cX12_bannsOf 146 = .ok (.iload_n 2, 1) := by decide +kernel
theorem dX12_bannsOf_147 : decode cX12_bannsOf 147 = .ok (.iadd, 1) := by decide +kernel
theorem dX12_bannsOf_148 : decode cX12_bannsOf 148 = .ok (.iaload, 1) := by decide +kernel
theorem dX12_bannsOf_149 : decode cX12_bannsOf 149 = .ok (.aload_n 1, 1) := by decide +kernel
theorem dX12_bannsOf_150 : decode cX12_bannsOf 150 = .ok (.bipush 32, 2) := by decide +kernel
theorem dX12_bannsOf_152 : decode cX12_bannsOf 152 = .ok (.iload_n 3, 1) := by decide +kernel
theorem dX12_bannsOf_153 : decode cX12_bannsOf 153 = .ok (.iadd, 1) := by decide +kernel
theorem dX12_bannsOf_154 : decode cX12_bannsOf 154 = .ok (.iaload, 1) := by decide +kernel
theorem dX12_bannsOf_155 : decode cX12_bannsOf 155 = .ok (.iadd, 1) := by decide +kernel
theorem dX12_bannsOf_156 : decode cX12_bannsOf 156 = .ok (.iastore, 1) := by decide +kernel
theorem dX12_bannsOf_157 : decode cX12_bannsOf 157 = .ok (.aload_n 0, 1) := by decide +kernel
theorem dX12_bannsOf_158 : decode cX12_bannsOf 158 = .ok (.invokevirtual 286, 3) := by decide +kernel
theorem dX12_bannsOf_161 : decode cX12_bannsOf 161 = .ok (.ifCond .le 7, 3) := by decide +kernel
theorem dX12_bannsOf_164 : decode cX12_bannsOf 164 = .ok (.iconst 3, 1) := by decide +kernel
theorem dX12_bannsOf_165 : decode cX12_bannsOf 165 = .ok (.goto 4, 3) := by decide +kernel
theorem dX12_bannsOf_168 : decode cX12_bannsOf 168 = .ok (.iconst 0, 1) := by decide +kernel
theorem dX12_bannsOf_169 : decode cX12_bannsOf 169 = .ok (.ireturn, 1) := by decide +kernel
set_option maxRecDepth 100000 in
theorem T_X12_bannsOf_0 {G : GE} {d C S : Nat} {P : KI} : Snd G MX12_bannsOf (d + 1) C S 0 (RI P) (s_iload 2 (s_iload 3 (s_ic_ne (s_aload 0 (s_getR 11 20 (s_iload 2 (s_aaload (s_iload 3 (s_iaload (s_iconst 1 (s_ic_ne (s_aload 0 (s_getR 11 30 (s_iconst 0 (s_aload 0 (s_getR 11 16 (s_iload 2 (s_aaload (s_iconst 2 (s_iaload (s_iastore (s_aload 0 (s_getR 11 30 (s_iconst 1 (s_aload 0 (s_getR 11 16 (s_iload 3 (s_aaload (s_iconst 2 (s_iaload (s_iastore (s_aload 0 (s_getR 11 30 (s_iconst 2 (s_aload 1 (s_iconst 24 (s_iload 2 (s_iadd (s_iaload (s_aload 1 (s_iconst 24 (s_iload 3 (s_iadd (s_iaload (s_iadd (s_iastore (s_aload 0 (s_getR 11 30 (s_iconst 3 (s_aload 0 (s_getR 11 18 (s_iload 2 (s_aaload (s_iload 3 (s_iaload (s_iastore (s_aload 0 (s_getR 11 30 (s_iconst 4 (s_aload 0 (s_getR 11 18 (s_iload 3 (s_aaload (s_iload 2 (s_iaload (s_iastore (s_aload 0 (s_getR 11 30 (s_iconst 5 (s_aload 0 (s_iload 2 (s_iload 3 (s_callV G d MX12_crossOf 2 11 (s_iastore (s_aload 0 (s_getR 11 30 (s_iconst 6 (s_aload 0 (s_iload 2 (s_callV G d MX12_lengthOf 1 11 (s_aload 0 (s_iload 3 (s_callV G d MX12_lengthOf 1 11 (s_iadd (s_iastore (s_aload 0 (s_getR 11 30 (s_iconst 7 (s_aload 1 (s_iconst 40 (s_iaload (s_iastore (s_aload 0 (s_getR 11 30 (s_iconst 8 (s_aload 1 (s_iconst 32 (s_iload 2 (s_iadd (s_iaload (s_aload 1 (s_iconst 32 (s_iload 3 (s_iadd (s_iaload (s_iadd (s_iastore (s_aload 0 (s_callV G d MX12_byLaw 0 11 (s_if_le (s_iconst 0 (s_ireturn P)) (s_iconst 3 (s_ireturn P))))))))))))))))))))))))))))))))))))))))))))))))))))))))))))))))))))))))))))))))))))))))))))))))))))) (s_iconst 2 (s_ireturn P)))))))))) (s_iconst 1 (s_ireturn P))))) := (e_iload_n dX12_bannsOf_0 rfl (e_iload_n dX12_bannsOf_1 rfl (e_ic_ne (tgt := 7) dX12_bannsOf_2 (by decide) (e_aload_n dX12_bannsOf_7 rfl (e_getR rfl cl_11 (by decide) rfl q_1584 dX12_bannsOf_8 (e_iload_n dX12_bannsOf_11 rfl (e_aaload dX12_bannsOf_12 (e_iload_n dX12_bannsOf_13 rfl (e_iaload dX12_bannsOf_14 (e_iconst (v := 1) dX12_bannsOf_15 (by decide) (e_ic_ne (tgt := 21) dX12_bannsOf_16 (by decide) (e_aload_n dX12_bannsOf_21 rfl (e_getR rfl cl_11 (by decide) rfl q_1594 dX12_bannsOf_22 (e_iconst (v := 0) dX12_bannsOf_25 (by decide) (e_aload_n dX12_bannsOf_26 rfl (e_getR rfl cl_11 (by decide) rfl q_1580 dX12_bannsOf_27 (e_iload_n dX12_bannsOf_30 rfl (e_aaload dX12_bannsOf_31 (e_iconst (v := 2) dX12_bannsOf_32 (by decide) (e_iaload dX12_bannsOf_33 (e_iastore dX12_bannsOf_34 (e_aload_n dX12_bannsOf_35 rfl (e_getR rfl cl_11 (by decide) rfl q_1594 dX12_bannsOf_36 (e_iconst (v := 1) dX12_bannsOf_39 (by decide) (e_aload_n dX12_bannsOf_40 rfl (e_getR rfl cl_11 (by decide) rfl q_1580 dX12_bannsOf_41 (e_iload_n dX12_bannsOf_44 rfl (e_aaload dX12_bannsOf_45 (e_iconst (v := 2) dX12_bannsOf_46 (by decide) (e_iaload dX12_bannsOf_47 (e_iastore dX12_bannsOf_48 (e_aload_n dX12_bannsOf_49 rfl (e_getR rfl cl_11 (by decide) rfl q_1594 dX12_bannsOf_50 (e_iconst (v := 2) dX12_bannsOf_53 (by decide) (e_aload_n dX12_bannsOf_54 rfl (e_bipush (v := 24) dX12_bannsOf_55 (by decide) (e_iload_n dX12_bannsOf_57 rfl (e_iadd dX12_bannsOf_58 (e_iaload dX12_bannsOf_59 (e_aload_n dX12_bannsOf_60 rfl (e_bipush (v := 24) dX12_bannsOf_61 (by decide) (e_iload_n dX12_bannsOf_63 rfl (e_iadd dX12_bannsOf_64 (e_iaload dX12_bannsOf_65 (e_iadd dX12_bannsOf_66 (e_iastore dX12_bannsOf_67 (e_aload_n dX12_bannsOf_68 rfl (e_getR rfl cl_11 (by decide) rfl q_1594 dX12_bannsOf_69 (e_iconst (v := 3) dX12_bannsOf_72 (by decide) (e_aload_n dX12_bannsOf_73 rfl (e_getR rfl cl_11 (by decide) rfl q_1582 dX12_bannsOf_74 (e_iload_n dX12_bannsOf_77 rfl (e_aaload dX12_bannsOf_78 (e_iload_n dX12_bannsOf_79 rfl (e_iaload dX12_bannsOf_80 (e_iastore dX12_bannsOf_81 (e_aload_n dX12_bannsOf_82 rfl (e_getR rfl cl_11 (by decide) rfl q_1594 dX12_bannsOf_83 (e_iconst (v := 4) dX12_bannsOf_86 (by decide) (e_aload_n dX12_bannsOf_87 rfl (e_getR rfl cl_11 (by decide) rfl q_1582 dX12_bannsOf_88 (e_iload_n dX12_bannsOf_91 rfl (e_aaload dX12_bannsOf_92 (e_iload_n dX12_bannsOf_93 rfl (e_iaload dX12_bannsOf_94 (e_iastore dX12_bannsOf_95 (e_aload_n dX12_bannsOf_96 rfl (e_getR rfl cl_11 (by decide) rfl q_1594 dX12_bannsOf_97 (e_iconst (v := 5) dX12_bannsOf_100 (by decide) (e_aload_n dX12_bannsOf_101 rfl (e_iload_n dX12_bannsOf_102 rfl (e_iload_n dX12_bannsOf_103 rfl (e_callV cl_11 cal_X12_crossOf q_1885 q_1887 q_80 dX12_bannsOf_104 (e_iastore dX12_bannsOf_107 (e_aload_n dX12_bannsOf_108 rfl (e_getR rfl cl_11 (by decide) rfl q_1594 dX12_bannsOf_109 (e_bipush (v := 6) dX12_bannsOf_112 (by decide) (e_aload_n dX12_bannsOf_114 rfl (e_iload_n dX12_bannsOf_115 rfl (e_callV cl_11 cal_X12_lengthOf q_1889 q_1891 q_81 dX12_bannsOf_116 (e_aload_n dX12_bannsOf_119 rfl (e_iload_n dX12_bannsOf_120 rfl (e_callV cl_11 cal_X12_lengthOf q_1889 q_1891 q_81 dX12_bannsOf_121 (e_iadd dX12_bannsOf_124 (e_iastore dX12_bannsOf_125 (e_aload_n dX12_bannsOf_126 rfl (e_getR rfl cl_11 (by decide) rfl q_1594 dX12_bannsOf_127 (e_bipush (v := 7) dX12_bannsOf_130 (by decide) (e_aload_n dX12_bannsOf_132 rfl (e_bipush (v := 40) dX12_bannsOf_133 (by decide) (e_iaload dX12_bannsOf_135 (e_iastore dX12_bannsOf_136 (e_aload_n dX12_bannsOf_137 rfl (e_getR rfl cl_11 (by decide) rfl q_1594 dX12_bannsOf_138 (e_bipush (v := 8) dX12_bannsOf_141 (by decide) (e_aload_n dX12_bannsOf_143 rfl (e_bipush (v := 32) dX12_bannsOf_144 (by decide) (e_iload_n dX12_bannsOf_146 rfl (e_iadd dX12_bannsOf_147 (e_iaload dX12_bannsOf_148 (e_aload_n dX12_bannsOf_149 rfl (e_bipush (v := 32) dX12_bannsOf_150 (by decide) (e_iload_n dX12_bannsOf_152 rfl (e_iadd dX12_bannsOf_153 (e_iaload dX12_bannsOf_154 (e_iadd dX12_bannsOf_155 (e_iastore dX12_bannsOf_156 (e_aload_n dX12_bannsOf_157 rfl (e_callV cl_11 cal_X12_byLaw q_1896 q_1898 q_82 dX12_bannsOf_158 (e_if_le (tgt := 168) dX12_bannsOf_161 (by decide) (e_iconst (v := 0) dX12_bannsOf_168 (by decide) (e_ireturn rfl dX12_bannsOf_169)) (e_iconst (v := 3) dX12_bannsOf_164 (by decide) (e_goto (tgt := 169) dX12_bannsOf_165 (by decide) (e_ireturn rfl dX12_bannsOf_169)))))))))))))))))))))))))))))))))))))))))))))))))))))))))))))))))))))))))))))))))))))))))))))))))))))) (e_iconst (v := 2) dX12_bannsOf_19 (by decide) (e_ireturn rfl dX12_bannsOf_20)))))))))) (e_iconst (v := 1) dX12_bannsOf_5 (by decide) (e_ireturn rfl dX12_bannsOf_6)))))
set_option maxRecDepth 100000 in
theorem V_X12_bannsOf_0 {G : GE} {d : Nat} {P : KI} {a : Nat → Nat → Int32} {r : Nat → Nat → Value} {N : Nat} {l0 : Nat} {l1 : Nat} {l2 : Int32} {l3 : Int32} (hs : ((¬ l2 = l3 → (tyK l0 = (0, 11) ∧ l0 < N ∧ ∃ q1, r l0 20 = .ref q1 ∧ ((tyK q1).1 = 3 ∧ q1 < N ∧ vp_in l2 (tyK q1).2 ∧ ((tyK (q1 + 1 + (l2 : Int32).toNatClampNeg)).1 = 1 ∧ (q1 + 1 + (l2 : Int32).toNatClampNeg) < N ∧ vp_in l3 (tyK (q1 + 1 + (l2 : Int32).toNatClampNeg)).2 ∧ ((¬ (a (q1 + 1 + (l2 : Int32).toNatClampNeg) (l3 : Int32).toNatClampNeg) = 1 → (tyK l0 = (0, 11) ∧ l0 < N ∧ ∃ q2, r l0 30 = .ref q2 ∧ (tyK l0 = (0, 11) ∧ l0 < N ∧ ∃ q3, r l0 16 = .ref q3 ∧ ((tyK q3).1 = 3 ∧ q3 < N ∧ vp_in l2 (tyK q3).2 ∧ ((tyK (q3 + 1 + (l2 : Int32).toNatClampNeg)).1 = 1 ∧ (q3 + 1 + (l2 : Int32).toNatClampNeg) < N ∧ vp_in 2 (tyK (q3 + 1 + (l2 : Int32).toNatClampNeg)).2 ∧ ((tyK q2).1 = 1 ∧ q2 < N ∧ vp_in 0 (tyK q2).2 ∧ ∀ a4, a4 = u2 a q2 (0 : Int32).toNatClampNeg (a (q3 + 1 + (l2 : Int32).toNatClampNeg) (2 : Int32).toNatClampNeg) → (tyK l0 = (0, 11) ∧ l0 < N ∧ ∃ q5, r l0 30 = .ref q5 ∧ (tyK l0 = (0, 11) ∧ l0 < N ∧ ∃ q6, r l0 16 = .ref q6 ∧ ((tyK q6).1 = 3 ∧ q6 < N ∧ vp_in l3 (tyK q6).2 ∧ ((tyK (q6 + 1 + (l3 : Int32).toNatClampNeg)).1 = 1 ∧ (q6 + 1 + (l3 : Int32).toNatClampNeg) < N ∧ vp_in 2 (tyK (q6 + 1 + (l3 : Int32).toNatClampNeg)).2 ∧ ((tyK q5).1 = 1 ∧ q5 < N ∧ vp_in 1 (tyK q5).2 ∧ ∀ a7, a7 = u2 a4 q5 (1 : Int32).toNatClampNeg (a4 (q6 + 1 + (l3 : Int32).toNatClampNeg) (2 : Int32).toNatClampNeg) → (tyK l0 = (0, 11) ∧ l0 < N ∧ ∃ q8, r l0 30 = .ref q8 ∧ ((tyK l1).1 = 1 ∧ l1 < N ∧ vp_in ((24 : Int32) + l2) (tyK l1).2 ∧ ((tyK l1).1 = 1 ∧ l1 < N ∧ vp_in ((24 : Int32) + l3) (tyK l1).2 ∧ ((tyK q8).1 = 1 ∧ q8 < N ∧ vp_in 2 (tyK q8).2 ∧ ∀ a9, a9 = u2 a7 q8 (2 : Int32).toNatClampNeg ((a7 l1 (((24 : Int32) + l2) : Int32).toNatClampNeg) + (a7 l1 (((24 : Int32) + l3) : Int32).toNatClampNeg)) → (tyK l0 = (0, 11) ∧ l0 < N ∧ ∃ q10, r l0 30 = .ref q10 ∧ (tyK l0 = (0, 11) ∧ l0 < N ∧ ∃ q11, r l0 18 = .ref q11 ∧ ((tyK q11).1 = 3 ∧ q11 < N ∧ vp_in l2 (tyK q11).2 ∧ ((tyK (q11 + 1 + (l2 : Int32).toNatClampNeg)).1 = 1 ∧ (q11 + 1 + (l2 : Int32).toNatClampNeg) < N ∧ vp_in l3 (tyK (q11 + 1 + (l2 : Int32).toNatClampNeg)).2 ∧ ((tyK q10).1 = 1 ∧ q10 < N ∧ vp_in 3 (tyK q10).2 ∧ ∀ a12, a12 = u2 a9 q10 (3 : Int32).toNatClampNeg (a9 (q11 + 1 + (l2 : Int32).toNatClampNeg) (l3 : Int32).toNatClampNeg) → (tyK l0 = (0, 11) ∧ l0 < N ∧ ∃ q13, r l0 30 = .ref q13 ∧ (tyK l0 = (0, 11) ∧ l0 < N ∧ ∃ q14, r l0 18 = .ref q14 ∧ ((tyK q14).1 = 3 ∧ q14 < N ∧ vp_in l3 (tyK q14).2 ∧ ((tyK (q14 + 1 + (l3 : Int32).toNatClampNeg)).1 = 1 ∧ (q14 + 1 + (l3 : Int32).toNatClampNeg) < N ∧ vp_in l2 (tyK (q14 + 1 + (l3 : Int32).toNatClampNeg)).2 ∧ ((tyK q13).1 = 1 ∧ q13 < N ∧ vp_in 4 (tyK q13).2 ∧ ∀ a15, a15 = u2 a12 q13 (4 : Int32).toNatClampNeg (a12 (q14 + 1 + (l3 : Int32).toNatClampNeg) (l2 : Int32).toNatClampNeg) → (tyK l0 = (0, 11) ∧ l0 < N ∧ ∃ q16, r l0 30 = .ref q16 ∧ (tyK l0 = (0, 11) ∧ l0 < N ∧ Sp G d 0 0 MX12_crossOf [.ref l0, .int l2, .int l3] (a15, r, N) (RI fun v20 a17 r18 n19 => ((tyK q16).1 = 1 ∧ q16 < n19 ∧ vp_in 5 (tyK q16).2 ∧ ∀ a21, a21 = u2 a17 q16 (5 : Int32).toNatClampNeg v20 → (tyK l0 = (0, 11) ∧ l0 < n19 ∧ ∃ q22, r18 l0 30 = .ref q22 ∧ (tyK l0 = (0, 11) ∧ l0 < n19 ∧ Sp G d 0 0 MX12_lengthOf [.ref l0, .int l2] (a21, r18, n19) (RI fun v26 a23 r24 n25 => (tyK l0 = (0, 11) ∧ l0 < n25 ∧ Sp G d 0 0 MX12_lengthOf [.ref l0, .int l3] (a23, r24, n25) (RI fun v30 a27 r28 n29 => ((tyK q22).1 = 1 ∧ q22 < n29 ∧ vp_in 6 (tyK q22).2 ∧ ∀ a31, a31 = u2 a27 q22 (6 : Int32).toNatClampNeg (v26 + v30) → (tyK l0 = (0, 11) ∧ l0 < n29 ∧ ∃ q32, r28 l0 30 = .ref q32 ∧ ((tyK l1).1 = 1 ∧ l1 < n29 ∧ vp_in 40 (tyK l1).2 ∧ ((tyK q32).1 = 1 ∧ q32 < n29 ∧ vp_in 7 (tyK q32).2 ∧ ∀ a33, a33 = u2 a31 q32 (7 : Int32).toNatClampNeg (a31 l1 (40 : Int32).toNatClampNeg) → (tyK l0 = (0, 11) ∧ l0 < n29 ∧ ∃ q34, r28 l0 30 = .ref q34 ∧ ((tyK l1).1 = 1 ∧ l1 < n29 ∧ vp_in ((32 : Int32) + l2) (tyK l1).2 ∧ ((tyK l1).1 = 1 ∧ l1 < n29 ∧ vp_in ((32 : Int32) + l3) (tyK l1).2 ∧ ((tyK q34).1 = 1 ∧ q34 < n29 ∧ vp_in 8 (tyK q34).2 ∧ ∀ a35, a35 = u2 a33 q34 (8 : Int32).toNatClampNeg ((a33 l1 (((32 : Int32) + l2) : Int32).toNatClampNeg) + (a33 l1 (((32 : Int32) + l3) : Int32).toNatClampNeg)) → (tyK l0 = (0, 11) ∧ l0 < n29 ∧ Sp G d 0 0 MX12_byLaw [.ref l0] (a35, r28, n29) (RI fun v39 a36 r37 n38 => ((v39 ≤ 0 → P 0 a36 r37 n38) ∧ (¬ v39 ≤ 0 → P 3 a36 r37 n38)))))))))))))))))))))))))))))))))))))))))))))) ∧ ((a (q1 + 1 + (l2 : Int32).toNatClampNeg) (l3 : Int32).toNatClampNeg) = 1 → P 2 a r N)))))) ∧ (l2 = l3 → P 1 a r N))) : Sp G (d + 1) 0 0 MX12_bannsOf [.ref l0, .ref l1, .int l2, .int l3] (a, r, N) (RI P) := Sp.mk (mc := 0) (ms := 0) [.ref l0, .ref l1, .int l2, .int l3] rfl rfl rfl rfl (T_X12_bannsOf_0 (C := 0) (S := 0) _ _ _ hs)
theorem dX12_marries_0 : decode cX12_marries 0 = .ok (.aload_n 0, 1) := by decide +kernel
theorem dX12_marries_1 : decode cX12_marries 1 = .ok (.iconst 0, 1) := by decide +kernel
theorem dX12_marries_2 : decode cX12_marries 2 = .ok (.iload_n 1, 1) := by decide +kernel
theorem dX12_marries_3 : decode cX12_marries 3 = .ok (.iadd, 1) := by decide +kernel
theorem dX12_marries_4 : decode cX12_marries 4 = .ok (.iload_n 2, 1) := by decide +kernel
theorem dX12_marries_5 : decode cX12_marries 5 = .ok (.iastore, 1) := by decide +kernel
theorem dX12_marries_6 : decode cX12_marries 6 = .ok (.aload_n 0, 1) := by decide +kernel
theorem dX12_marries_7 : decode cX12_marries 7 = .ok (.iconst 0, 1) := by decide +kernel
theorem dX12_marries_8 : decode cX12_marries 8 = .ok (.iload_n 2, 1) := by decide +kernel
theorem dX12_marries_9 : decode cX12_marries 9 = .ok (.iadd, 1) := by decide +kernel
theorem dX12_marries_10 : decode cX12_marries 10 = .ok (.iload_n 1, 1) := by decide +kernel
theorem dX12_marries_11 : decode cX12_marries 11 = .ok (.iastore, 1) := by decide +kernel
theorem dX12_marries_12 : decode cX12_marries 12 = .ok (.aload_n 0, 1) := by decide +kernel
theorem dX12_marries_13 : decode cX12_marries 13 = .ok (.bipush 8, 2) := by decide +kernel
theorem dX12_marries_15 : decode cX12_marries 15 = .ok (.iload_n 1, 1) := by decide +kernel
theorem dX12_marries_16 : decode cX12_marries 16 = .ok (.iadd, 1) := by decide +kernel
theorem dX12_marries_17 : decode cX12_marries 17 = .ok (.iconst 1, 1) := by decide +kernel
theorem dX12_marries_18 : decode cX12_marries 18 = .ok (.iastore, 1) := by decide +kernel
theorem dX12_marries_19 : decode cX12_marries 19 = .ok (.aload_n 0, 1) := by decide +kernel
theorem dX12_marries_20 : decode cX12_marries 20 = .ok (.bipush 8, 2) := by decide +kernel
theorem dX12_marries_22 : decode cX12_marries 22 = .ok (.iload_n 2, 1) := by decide +kernel
theorem dX12_marries_23 : decode cX12_marries 23 = .ok (.iadd, 1) := by decide +kernel
theorem dX12_marries_24 : decode cX12_marries 24 = .ok (.iconst 0, 1) := by decide +kernel
theorem dX12_marries_25 : decode cX12_marries 25 = .ok (.iastore, 1) := by decide +kernel
theorem dX12_marries_26 : decode cX12_marries 26 = .ok (.aload_n 0, 1) := by decide +kernel
theorem dX12_marries_27 : decode cX12_marries 27 = .ok (.bipush 16, 2) := by decide +kernel
theorem dX12_marries_29 : decode cX12_marries 29 = .ok (.iload_n 1, 1) := by decide +kernel
theorem dX12_marries_30 : decode cX12_marries 30 = .ok (.iadd, 1) := by decide +kernel
theorem dX12_marries_31 : decode cX12_marries 31 = .ok (.iconst 0, 1) := by decide +kernel
theorem dX12_marries_32 : decode cX12_marries 32 = .ok (.iastore, 1) := by decide +kernel
theorem dX12_marries_33 : decode cX12_marries 33 = .ok (.aload_n 0, 1) := by decide +kernel
theorem dX12_marries_34 : decode cX12_marries 34 = .ok (.bipush 16, 2) := by decide +kernel
theorem dX12_marries_36 : decode cX12_marries 36 = .ok (.iload_n 2, 1) := by decide +kernel
theorem dX12_marries_37 : decode cX12_marries 37 = .ok (.iadd, 1) := by decide +kernel
theorem dX12_marries_38 : decode cX12_marries 38 = .ok (.iconst 0, 1) := by decide +kernel
theorem dX12_marries_39 : decode cX12_marries 39 = .ok (.iastore, 1) := by decide +kernel
theorem dX12_marries_40 : decode cX12_marries 40 = .ok (.return_, 1) := by decide +kernel
set_option maxRecDepth 100000 in
theorem T_X12_marries_0 {G : GE} {d C S : Nat} {P : KN} : Snd G MX12_marries d C S 0 (RN P) (s_aload 0 (s_iconst 0 (s_iload 1 (s_iadd (s_iload 2 (s_iastore (s_aload 0 (s_iconst 0 (s_iload 2 (s_iadd (s_iload 1 (s_iastore (s_aload 0 (s_iconst 8 (s_iload 1 (s_iadd (s_iconst 1 (s_iastore (s_aload 0 (s_iconst 8 (s_iload 2 (s_iadd (s_iconst 0 (s_iastore (s_aload 0 (s_iconst 16 (s_iload 1 (s_iadd (s_iconst 0 (s_iastore (s_aload 0 (s_iconst 16 (s_iload 2 (s_iadd (s_iconst 0 (s_iastore (s_return P))))))))))))))))))))))))))))))))))))) := (e_aload_n dX12_marries_0 rfl (e_iconst (v := 0) dX12_marries_1 (by decide) (e_iload_n dX12_marries_2 rfl (e_iadd dX12_marries_3 (e_iload_n dX12_marries_4 rfl (e_iastore dX12_marries_5 (e_aload_n dX12_marries_6 rfl (e_iconst (v := 0) dX12_marries_7 (by decide) (e_iload_n dX12_marries_8 rfl (e_iadd dX12_marries_9 (e_iload_n dX12_marries_10 rfl (e_iastore dX12_marries_11 (e_aload_n dX12_marries_12 rfl (e_bipush (v := 8) dX12_marries_13 (by decide) (e_iload_n dX12_marries_15 rfl (e_iadd dX12_marries_16 (e_iconst (v := 1) dX12_marries_17 (by decide) (e_iastore dX12_marries_18 (e_aload_n dX12_marries_19 rfl (e_bipush (v := 8) dX12_marries_20 (by decide) (e_iload_n dX12_marries_22 rfl (e_iadd dX12_marries_23 (e_iconst (v := 0) dX12_marries_24 (by decide) (e_iastore dX12_marries_25 (e_aload_n dX12_marries_26 rfl (e_bipush (v := 16) dX12_marries_27 (by decide) (e_iload_n dX12_marries_29 rfl (e_iadd dX12_marries_30 (e_iconst (v := 0) dX12_marries_31 (by decide) (e_iastore dX12_marries_32 (e_aload_n dX12_marries_33 rfl (e_bipush (v := 16) dX12_marries_34 (by decide) (e_iload_n dX12_marries_36 rfl (e_iadd dX12_marries_37 (e_iconst (v := 0) dX12_marries_38 (by decide) (e_iastore dX12_marries_39 (e_return rfl dX12_marries_40)))))))))))))))))))))))))))))))))))))
set_option maxRecDepth 100000 in
theorem V_X12_marries_0 {G : GE} {d : Nat} {P : KN} {a : Nat → Nat → Int32} {r : Nat → Nat → Value} {N : Nat} {l0 : Nat} {l1 : Int32} {l2 : Int32} (hs : ((tyK l0).1 = 1 ∧ l0 < N ∧ vp_in ((0 : Int32) + l1) (tyK l0).2 ∧ ∀ a1, a1 = u2 a l0 (((0 : Int32) + l1) : Int32).toNatClampNeg l2 → ((tyK l0).1 = 1 ∧ l0 < N ∧ vp_in ((0 : Int32) + l2) (tyK l0).2 ∧ ∀ a2, a2 = u2 a1 l0 (((0 : Int32) + l2) : Int32).toNatClampNeg l1 → ((tyK l0).1 = 1 ∧ l0 < N ∧ vp_in ((8 : Int32) + l1) (tyK l0).2 ∧ ∀ a3, a3 = u2 a2 l0 (((8 : Int32) + l1) : Int32).toNatClampNeg 1 → ((tyK l0).1 = 1 ∧ l0 < N ∧ vp_in ((8 : Int32) + l2) (tyK l0).2 ∧ ∀ a4, a4 = u2 a3 l0 (((8 : Int32) + l2) : Int32).toNatClampNeg 0 → ((tyK l0).1 = 1 ∧ l0 < N ∧ vp_in ((16 : Int32) + l1) (tyK l0).2 ∧ ∀ a5, a5 = u2 a4 l0 (((16 : Int32) + l1) : Int32).toNatClampNeg 0 → ((tyK l0).1 = 1 ∧ l0 < N ∧ vp_in ((16 : Int32) + l2) (tyK l0).2 ∧ ∀ a6, a6 = u2 a5 l0 (((16 : Int32) + l2) : Int32).toNatClampNeg 0 → P a6 r N))))))) : Sp G d 0 0 MX12_marries [.ref l0, .int l1, .int l2] (a, r, N) (RN P) := Sp.mk (mc := 0) (ms := 0) [.ref l0, .int l1, .int l2] rfl rfl rfl rfl (T_X12_marries_0 (C := 0) (S := 0) _ _ _ hs)
theorem dX12_parts_0 : decode cX12_parts 0 = .ok (.aload_n 0, 1) := by decide +kernel
theorem dX12_parts_1 : decode cX12_parts 1 = .ok (.iload_n 1, 1) := by decide +kernel
theorem dX12_parts_2 : decode cX12_parts 2 = .ok (.invokestatic 289, 3) := by decide +kernel
theorem dX12_parts_5 : decode cX12_parts 5 = .ok (.istore_n 2, 1) := by decide +kernel
theorem dX12_parts_6 : decode cX12_parts 6 = .ok (.aload_n 0, 1) := by decide +kernel
theorem dX12_parts_7 : decode cX12_parts 7 = .ok (.bipush 8, 2) := by decide +kernel
theorem dX12_parts_9 : decode cX12_parts 9 = .ok (.iload_n 1, 1) := by decide +kernel
theorem dX12_parts_10 : decode cX12_parts 10 = .ok (.iadd, 1) := by decide +kernel
theorem dX12_parts_11 : decode cX12_parts 11 = .ok (.iaload, 1) := by decide +kernel
theorem dX12_parts_12 : decode cX12_parts 12 = .ok (.iconst 1, 1) := by decide +kernel
theorem dX12_parts_13 : decode cX12_parts 13 = .ok (.if_icmp .ne 7, 3) := by decide +kernel
theorem dX12_parts_16 : decode cX12_parts 16 = .ok (.iload_n 1, 1) := by decide +kernel
theorem dX12_parts_17 : decode cX12_parts 17 = .ok (.goto 4, 3) := by decide +kernel
theorem dX12_parts_20 : decode cX12_parts 20 = .ok (.iload_n 2, 1) := by decide +kernel
theorem dX12_parts_21 : decode cX12_parts 21 = .ok (.istore_n 3, 1) := by decide +kernel
theorem dX12_parts_22 : decode cX12_parts 22 = .ok (.aload_n 0, 1) := by decide +kernel
theorem dX12_parts_23 : decode cX12_parts 23 = .ok (.bipush 8, 2) := by decide +kernel
theorem dX12_parts_25 : decode cX12_parts 25 = .ok (.iload_n 1, 1) := by decide +kernel
theorem dX12_parts_26 : decode cX12_parts 26 = .ok (.iadd, 1) := by decide +kernel
theorem dX12_parts_27 : decode cX12_parts 27 = .ok (.iaload, 1) := by decide +kernel
theorem dX12_parts_28 : decode cX12_parts 28 = .ok (.iconst 1, 1) := by decide +kernel
theorem dX12_parts_29 : decode cX12_parts 29 = .ok (.if_icmp .ne 7, 3) := by decide +kernel
theorem dX12_parts_32 : decode cX12_parts 32 = .ok (.iload_n 2, 1) := by decide +kernel
theorem dX12_parts_33 : decode cX12_parts 33 = .ok (.goto 4, 3) := by decide +kernel
theorem dX12_parts_36 : decode cX12_parts 36 = .ok (.iload_n 1, 1) := by decide +kernel
theorem dX12_parts_37 : decode cX12_parts 37 = .ok (.istore 4, 2) := by decide +kernel
theorem dX12_parts_39 : decode cX12_parts 39 = .ok (.aload_n 0, 1) := by decide +kernel
theorem dX12_parts_40 : decode cX12_parts 40 = .ok (.bipush 24, 2) := by decide +kernel
theorem dX12_parts_42 : decode cX12_parts 42 = .ok (.iload_n 1, 1) := by decide +kernel
theorem dX12_parts_43 : decode cX12_parts 43 = .ok (.iadd, 1) := by decide +kernel
theorem dX12_parts_44 : decode cX12_parts 44 = .ok (.iaload, 1) := by decide +kernel
theorem dX12_parts_45 : decode cX12_parts 45 = .ok (.aload_n 0, 1) := by decide +kernel
theorem dX12_parts_46 : decode cX12_parts 46 = .ok (.bipush 24, 2) := by decide +kernel
theorem dX12_parts_48 : decode cX12_parts 48 = .ok (.iload_n 2, 1) := by decide +kernel
theorem dX12_parts_49 : decode cX12_parts 49 = .ok (.iadd, 1) := by decide +kernel
theorem dX12_parts_50 : decode cX12_parts 50 = .ok (.iaload, 1) := by decide +kernel
theorem dX12_parts_51 : decode cX12_parts 51 = .ok (.iadd, 1) := by decide +kernel
theorem dX12_parts_52 : decode cX12_parts 52 = .ok (.istore 5, 2) := by decide +kernel
theorem dX12_parts_54 : decode cX12_parts 54 = .ok (.aload_n 0, 1) := by decide +kernel
theorem dX12_parts_55 : decode cX12_parts 55 = .ok (.bipush 24, 2) := by decide +kernel
theorem dX12_parts_57 : decode cX12_parts 57 = .ok (.iload 4, 2) := by decide +kernel
theorem dX12_parts_59 : decode cX12_parts 59 = .ok (.iadd, 1) := by decide +kernel
theorem dX12_parts_60 : decode cX12_parts 60 = .ok (.iload 5, 2) := by decide +kernel
theorem dX12_parts_62 : decode cX12_parts 62 = .ok (.iconst 2, 1) := by decide +kernel
theorem dX12_parts_63 : decode cX12_parts 63 = .ok (.idiv, 1) := by decide +kernel
theorem dX12_parts_64 : decode cX12_parts 64 = .ok (.iastore, 1) := by decide +kernel
theorem dX12_parts_65 : decode cX12_parts 65 = .ok (.aload_n 0, 1) := by decide +kernel
theorem dX12_parts_66 : decode cX12_parts 66 = .ok (.bipush 24, 2) := by decide +kernel
theorem dX12_parts_68 : decode cX12_parts 68 = .ok (.iload_n 3, 1) := by decide +kernel
theorem dX12_parts_69 : decode cX12_parts 69 = .ok (.iadd, 1) := by decide +kernel
theorem dX12_parts_70 : decode cX12_parts 70 = .ok (.iload 5, 2) := by decide +kernel
theorem dX12_parts_72 : decode cX12_parts 72 = .ok (.iload 5, 2) := by decide +kernel
theorem dX12_parts_74 : decode cX12_parts 74 = .ok (.iconst 2, 1) := by decide +kernel
theorem dX12_parts_75 : decode cX12_parts 75 = .ok (.idiv, 1) := by decide +kernel
theorem dX12_parts_76 : decode cX12_parts 76 = .ok (.isub, 1) := by decide +kernel
theorem dX12_parts_77 : decode cX12_parts 77 = .ok (.iastore, 1) := by decide +kernel
theorem dX12_parts_78 : decode cX12_parts 78 = .ok (.aload_n 0, 1) := by decide +kernel
theorem dX12_parts_79 : decode cX12_parts 79 = .ok (.iconst 0, 1) := by decide +kernel
theorem dX12_parts_80 : decode cX12_parts 80 = .ok (.iload_n 1, 1) := by decide +kernel
theorem dX12_parts_81 : decode cX12_parts 81 = .ok (.iadd, 1) := by decide +kernel
theorem dX12_parts_82 : decode cX12_parts 82 = .ok (.iconst (-1), 1) := by decide +kernel
theorem dX12_parts_83 : decode cX12_parts 83 = .ok (.iastore, 1) := by decide +kernel
theorem dX12_parts_84 : decode cX12_parts 84 = .ok (.aload_n 0, 1) := by decide +kernel
theorem dX12_parts_85 : decode cX12_parts 85 = .ok (.iconst 0, 1) := by decide +kernel
theorem dX12_parts_86 : decode cX12_parts 86 = .ok (.iload_n 2, 1) := by decide +kernel
theorem dX12_parts_87 : decode cX12_parts 87 = .ok (.iadd, 1) := by decide +kernel
theorem dX12_parts_88 : decode cX12_parts 88 = .ok (.iconst (-1), 1) := by decide +kernel
theorem dX12_parts_89 : decode cX12_parts 89 = .ok (.iastore, 1) := by decide +kernel
theorem dX12_parts_90 : decode cX12_parts 90 = .ok (.aload_n 0, 1) := by decide +kernel
theorem dX12_parts_91 : decode cX12_parts 91 = .ok (.bipush 8, 2) := by decide +kernel
theorem dX12_parts_93 : decode cX12_parts 93 = .ok (.iload_n 3, 1) := by decide +kernel
theorem dX12_parts_94 : decode cX12_parts 94 = .ok (.iadd, 1) := by decide +kernel
theorem dX12_parts_95 : decode cX12_parts 95 = .ok (.iconst 0, 1) := by decide +kernel
theorem dX12_parts_96 : decode cX12_parts 96 = .ok (.iastore, 1) := by decide +kernel
theorem dX12_parts_97 : decode cX12_parts 97 = .ok (.aload_n 0, 1) := by decide +kernel
theorem dX12_parts_98 : decode cX12_parts 98 = .ok (.bipush 16, 2) := by decide +kernel
theorem dX12_parts_100 : decode cX12_parts 100 = .ok (.iload_n 1, 1) := by decide +kernel
theorem dX12_parts_101 : decode cX12_parts 101 = .ok (.iadd, 1) := by decide +kernel
theorem dX12_parts_102 : decode cX12_parts 102 = .ok (.iconst 0, 1) := by decide +kernel
theorem dX12_parts_103 : decode cX12_parts 103 = .ok (.iastore, 1) := by decide +kernel
theorem dX12_parts_104 : decode cX12_parts 104 = .ok (.aload_n 0, 1) := by decide +kernel
theorem dX12_parts_105 : decode cX12_parts 105 = .ok (.bipush 16, 2) := by decide +kernel
theorem dX12_parts_107 : decode cX12_parts 107 = .ok (.iload_n 2, 1) := by decide +kernel
theorem dX12_parts_108 : decode cX12_parts 108 = .ok (.iadd, 1) := by decide +kernel
theorem dX12_parts_109 : decode cX12_parts 109 = .ok (.iconst 0, 1) := by decide +kernel
theorem dX12_parts_110 : decode cX12_parts 110 = .ok (.iastore, 1) := by decide +kernel
theorem dX12_parts_111 : decode cX12_parts 111 = .ok (.aload_n 0, 1) := by decide +kernel
theorem dX12_parts_112 : decode cX12_parts 112 = .ok (.bipush 41, 2) := by decide +kernel
theorem dX12_parts_114 : decode cX12_parts 114 = .ok (.dup2, 1) := by decide +kernel
theorem dX12_parts_115 : decode cX12_parts 115 = .ok (.iaload, 1) := by decide +kernel
theorem dX12_parts_116 : decode cX12_parts 116 = .ok (.iconst 1, 1) := by decide +kernel
theorem dX12_parts_117 : decode cX12_parts 117 = .ok (.iadd, 1) := by decide +kernel
theorem dX12_parts_118 : decode cX12_parts 118 = .ok (.iastore, 1) := by decide +kernel
theorem dX12_parts_119 : decode cX12_parts 119 = .ok (.return_, 1) := by decide +kernel
set_option maxRecDepth 100000 in
theorem T_X12_parts_0 {G : GE} {d C S : Nat} {P : KN} : Snd G MX12_parts (d + 1) C S 0 (RN P) (s_aload 0 (s_iload 1 (s_call G d MX12_mateOf 2 (s_istore 2 (s_aload 0 (s_iconst 8 (s_iload 1 (s_iadd (s_iaload (s_iconst 1 (s_ic_ne (s_iload 2 (s_istore 3 (s_aload 0 (s_iconst 8 (s_iload 1 (s_iadd (s_iaload (s_iconst 1 (s_ic_ne (s_iload 1 (fun L st h => E G MX12_parts (d + 1) C S 37 (msk [true, true, true, true, false, false] L) st h (RN P))) (s_iload 2 (fun L st h => E G MX12_parts (d + 1) C S 37 (msk [true, true, true, true, false, false] L) st h (RN P)))))))))))) (s_iload 1 (s_istore 3 (s_aload 0 (s_iconst 8 (s_iload 1 (s_iadd (s_iaload (s_iconst 1 (s_ic_ne (s_iload 1 (fun L st h => E G MX12_parts (d + 1) C S 37 (msk [true, true, true, true, false, false] L) st h (RN P))) (s_iload 2 (fun L st h => E G MX12_parts (d + 1) C S 37 (msk [true, true, true, true, false, false] L) st h (RN P))))))))))))))))))))))) := (e_aload_n dX12_parts_0 rfl (e_iload_n dX12_parts_1 rfl (e_callS cal_X12_mateOf q_1878 q_1879 dX12_parts_2 (e_istore_n dX12_parts_5 rfl (by decide) (e_aload_n dX12_parts_6 rfl (e_bipush (v := 8) dX12_parts_7 (by decide) (e_iload_n dX12_parts_9 rfl (e_iadd dX12_parts_10 (e_iaload dX12_parts_11 (e_iconst (v := 1) dX12_parts_12 (by decide) (e_ic_ne (tgt := 20) dX12_parts_13 (by decide) (e_iload_n dX12_parts_20 rfl (e_istore_n dX12_parts_21 rfl (by decide) (e_aload_n dX12_parts_22 rfl (e_bipush (v := 8) dX12_parts_23 (by decide) (e_iload_n dX12_parts_25 rfl (e_iadd dX12_parts_26 (e_iaload dX12_parts_27 (e_iconst (v := 1) dX12_parts_28 (by decide) (e_ic_ne (tgt := 36) dX12_parts_29 (by decide) (e_iload_n dX12_parts_36 rfl (e_msk [true, true, true, true, false, false])) (e_iload_n dX12_parts_32 rfl (e_goto (tgt := 37) dX12_parts_33 (by decide) (e_msk [true, true, true, true, false, false])))))))))))) (e_iload_n dX12_parts_16 rfl (e_goto (tgt := 21) dX12_parts_17 (by decide) (e_istore_n dX12_parts_21 rfl (by decide) (e_aload_n dX12_parts_22 rfl (e_bipush (v := 8) dX12_parts_23 (by decide) (e_iload_n dX12_parts_25 rfl (e_iadd dX12_parts_26 (e_iaload dX12_parts_27 (e_iconst (v := 1) dX12_parts_28 (by decide) (e_ic_ne (tgt := 36) dX12_parts_29 (by decide) (e_iload_n dX12_parts_36 rfl (e_msk [true, true, true, true, false, false])) (e_iload_n dX12_parts_32 rfl (e_goto (tgt := 37) dX12_parts_33 (by decide) (e_msk [true, true, true, true, false, false]))))))))))))))))))))))))
set_option maxRecDepth 100000 in
theorem V_X12_parts_0 {G : GE} {d : Nat} {P : KN} {a : Nat → Nat → Int32} {r : Nat → Nat → Value} {N : Nat} {l0 : Nat} {l1 : Int32} (hs : Sp G d 0 0 MX12_mateOf [.ref l0, .int l1] (a, r, N) (RI fun v4 a1 r2 n3 => ((tyK l0).1 = 1 ∧ l0 < n3 ∧ vp_in ((8 : Int32) + l1) (tyK l0).2 ∧ ((¬ (a1 l0 (((8 : Int32) + l1) : Int32).toNatClampNeg) = 1 → ((tyK l0).1 = 1 ∧ l0 < n3 ∧ vp_in ((8 : Int32) + l1) (tyK l0).2 ∧ ((¬ (a1 l0 (((8 : Int32) + l1) : Int32).toNatClampNeg) = 1 → E G MX12_parts (d + 1) 0 0 37 [.ref l0, .int l1, .int v4, .int v4, .null, .null] [.int l1] (a1, r2, n3) (RN P)) ∧ ((a1 l0 (((8 : Int32) + l1) : Int32).toNatClampNeg) = 1 → E G MX12_parts (d + 1) 0 0 37 [.ref l0, .int l1, .int v4, .int v4, .null, .null] [.int v4] (a1, r2, n3) (RN P))))) ∧ ((a1 l0 (((8 : Int32) + l1) : Int32).toNatClampNeg) = 1 → ((tyK l0).1 = 1 ∧ l0 < n3 ∧ vp_in ((8 : Int32) + l1) (tyK l0).2 ∧ ((¬ (a1 l0 (((8 : Int32) + l1) : Int32).toNatClampNeg) = 1 → E G MX12_parts (d + 1) 0 0 37 [.ref l0, .int l1, .int v4, .int l1, .null, .null] [.int l1] (a1, r2, n3) (RN P)) ∧ ((a1 l0 (((8 : Int32) + l1) : Int32).toNatClampNeg) = 1 → E G MX12_parts (d + 1) 0 0 37 [.ref l0, .int l1, .int v4, .int l1, .null, .null] [.int v4] (a1, r2, n3) (RN P))))))))) : Sp G (d + 1) 0 0 MX12_parts [.ref l0, .int l1] (a, r, N) (RN P) := Sp.mk (mc := 0) (ms := 0) [.ref l0, .int l1, .null, .null, .null, .null] rfl rfl rfl rfl (T_X12_parts_0 (C := 0) (S := 0) _ _ _ hs)
set_option maxRecDepth 100000 in
theorem T_X12_parts_37 {G : GE} {d C S : Nat} {P : KN} : Snd G MX12_parts (d + 1) C S 37 (RN P) (s_istore 4 (s_aload 0 (s_iconst 24 (s_iload 1 (s_iadd (s_iaload (s_aload 0 (s_iconst 24 (s_iload 2 (s_iadd (s_iaload (s_iadd (s_istore 5 (s_aload 0 (s_iconst 24 (s_iload 4 (s_iadd (s_iload 5 (s_iconst 2 (s_idiv (s_iastore (s_aload 0 (s_iconst 24 (s_iload 3 (s_iadd (s_iload 5 (s_iload 5 (s_iconst 2 (s_idiv (s_isub (s_iastore (s_aload 0 (s_iconst 0 (s_iload 1 (s_iadd (s_iconst (-1) (s_iastore (s_aload 0 (s_iconst 0 (s_iload 2 (s_iadd (s_iconst (-1) (s_iastore (s_aload 0 (s_iconst 8 (s_iload 3 (s_iadd (s_iconst 0 (s_iastore (s_aload 0 (s_iconst 16 (s_iload 1 (s_iadd (s_iconst 0 (s_iastore (s_aload 0 (s_iconst 16 (s_iload 2 (s_iadd (s_iconst 0 (s_iastore (s_aload 0 (s_iconst 41 (s_dup2 (s_iaload (s_iconst 1 (s_iadd (s_iastore (s_return P))))))))))))))))))))))))))))))))))))))))))))))))))))))))))))))))))))) := (e_istore dX12_parts_37 (by decide) (e_aload_n dX12_parts_39 rfl (e_bipush (v := 24) dX12_parts_40 (by decide) (e_iload_n dX12_parts_42 rfl (e_iadd dX12_parts_43 (e_iaload dX12_parts_44 (e_aload_n dX12_parts_45 rfl (e_bipush (v := 24) dX12_parts_46 (by decide) (e_iload_n dX12_parts_48 rfl (e_iadd dX12_parts_49 (e_iaload dX12_parts_50 (e_iadd dX12_parts_51 (e_istore dX12_parts_52 (by decide) (e_aload_n dX12_parts_54 rfl (e_bipush (v := 24) dX12_parts_55 (by decide) (e_iload dX12_parts_57 (e_iadd dX12_parts_59 (e_iload dX12_parts_60 (e_iconst (v := 2) dX12_parts_62 (by decide) (e_idiv dX12_parts_63 (e_iastore dX12_parts_64 (e_aload_n dX12_parts_65 rfl (e_bipush (v := 24) dX12_parts_66 (by decide) (e_iload_n dX12_parts_68 rfl (e_iadd dX12_parts_69 (e_iload dX12_parts_70 (e_iload dX12_parts_72 (e_iconst (v := 2) dX12_parts_74 (by decide) (e_idiv dX12_parts_75 (e_isub dX12_parts_76 (e_iastore dX12_parts_77 (e_aload_n dX12_parts_78 rfl (e_iconst (v := 0) dX12_parts_79 (by decide) (e_iload_n dX12_parts_80 rfl (e_iadd dX12_parts_81 (e_iconst (v := (-1)) dX12_parts_82 (by decide) (e_iastore dX12_parts_83 (e_aload_n dX12_parts_84 rfl (e_iconst (v := 0) dX12_parts_85 (by decide) (e_iload_n dX12_parts_86 rfl (e_iadd dX12_parts_87 (e_iconst (v := (-1)) dX12_parts_88 (by decide) (e_iastore dX12_parts_89 (e_aload_n dX12_parts_90 rfl (e_bipush (v := 8) dX12_parts_91 (by decide) (e_iload_n dX12_parts_93 rfl (e_iadd dX12_parts_94 (e_iconst (v := 0) dX12_parts_95 (by decide) (e_iastore dX12_parts_96 (e_aload_n dX12_parts_97 rfl (e_bipush (v := 16) dX12_parts_98 (by decide) (e_iload_n dX12_parts_100 rfl (e_iadd dX12_parts_101 (e_iconst (v := 0) dX12_parts_102 (by decide) (e_iastore dX12_parts_103 (e_aload_n dX12_parts_104 rfl (e_bipush (v := 16) dX12_parts_105 (by decide) (e_iload_n dX12_parts_107 rfl (e_iadd dX12_parts_108 (e_iconst (v := 0) dX12_parts_109 (by decide) (e_iastore dX12_parts_110 (e_aload_n dX12_parts_111 rfl (e_bipush (v := 41) dX12_parts_112 (by decide) (e_dup2 dX12_parts_114 (e_iaload dX12_parts_115 (e_iconst (v := 1) dX12_parts_116 (by decide) (e_iadd dX12_parts_117 (e_iastore dX12_parts_118 (e_return rfl dX12_parts_119)))))))))))))))))))))))))))))))))))))))))))))))))))))))))))))))))))))
set_option maxRecDepth 100000 in
theorem V_X12_parts_37 {G : GE} {d C S : Nat} {P : KN} {a : Nat → Nat → Int32} {r : Nat → Nat → Value} {N : Nat} {l0 : Nat} {l1 : Int32} {l2 : Int32} {l3 : Int32} {s0 : Int32} (hs : ((tyK l0).1 = 1 ∧ l0 < N ∧ vp_in ((24 : Int32) + l1) (tyK l0).2 ∧ ((tyK l0).1 = 1 ∧ l0 < N ∧ vp_in ((24 : Int32) + l2) (tyK l0).2 ∧ (¬ (2 : Int32) = 0 ∧ ((tyK l0).1 = 1 ∧ l0 < N ∧ vp_in ((24 : Int32) + s0) (tyK l0).2 ∧ ∀ a1, a1 = u2 a l0 (((24 : Int32) + s0) : Int32).toNatClampNeg ((((a l0 (((24 : Int32) + l1) : Int32).toNatClampNeg) + (a l0 (((24 : Int32) + l2) : Int32).toNatClampNeg)) : Int32) / (2 : Int32)) → (¬ (2 : Int32) = 0 ∧ ((tyK l0).1 = 1 ∧ l0 < N ∧ vp_in ((24 : Int32) + l3) (tyK l0).2 ∧ ∀ a2, a2 = u2 a1 l0 (((24 : Int32) + l3) : Int32).toNatClampNeg (((a l0 (((24 : Int32) + l1) : Int32).toNatClampNeg) + (a l0 (((24 : Int32) + l2) : Int32).toNatClampNeg)) - ((((a l0 (((24 : Int32) + l1) : Int32).toNatClampNeg) + (a l0 (((24 : Int32) + l2) : Int32).toNatClampNeg)) : Int32) / (2 : Int32))) → ((tyK l0).1 = 1 ∧ l0 < N ∧ vp_in ((0 : Int32) + l1) (tyK l0).2 ∧ ∀ a3, a3 = u2 a2 l0 (((0 : Int32) + l1) : Int32).toNatClampNeg (-1) → ((tyK l0).1 = 1 ∧ l0 < N ∧ vp_in ((0 : Int32) + l2) (tyK l0).2 ∧ ∀ a4, a4 = u2 a3 l0 (((0 : Int32) + l2) : Int32).toNatClampNeg (-1) → ((tyK l0).1 = 1 ∧ l0 < N ∧ vp_in ((8 : Int32) + l3) (tyK l0).2 ∧ ∀ a5, a5 = u2 a4 l0 (((8 : Int32) + l3) : Int32).toNatClampNeg 0 → ((tyK l0).1 = 1 ∧ l0 < N ∧ vp_in ((16 : Int32) + l1) (tyK l0).2 ∧ ∀ a6, a6 = u2 a5 l0 (((16 : Int32) + l1) : Int32).toNatClampNeg 0 → ((tyK l0).1 = 1 ∧ l0 < N ∧ vp_in ((16 : Int32) + l2) (tyK l0).2 ∧ ∀ a7, a7 = u2 a6 l0 (((16 : Int32) + l2) : Int32).toNatClampNeg 0 → ((tyK l0).1 = 1 ∧ l0 < N ∧ vp_in 41 (tyK l0).2 ∧ ((tyK l0).1 = 1 ∧ l0 < N ∧ vp_in 41 (tyK l0).2 ∧ ∀ a8, a8 = u2 a7 l0 (41 : Int32).toNatClampNeg ((a7 l0 (41 : Int32).toNatClampNeg) + 1) → P a8 r N)))))))))))))) : E G MX12_parts (d + 1) C S 37 [.ref l0, .int l1, .int l2, .int l3, .null, .null] [.int s0] (a, r, N) (RN P) := T_X12_parts_37 _ _ _ hs
