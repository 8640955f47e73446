theorem dX12_stop_0 : decode cX12_stop 0 = .ok (.aload_n 0, 1) := by decide +kernel
theorem dX12_stop_1 : decode cX12_stop 1 = .ok (.iconst 0, 1) := by decide +kernel
theorem dX12_stop_2 : decode cX12_stop 2 = .ok (.putfield 115, 3) := by decide +kernel
theorem dX12_stop_5 : decode cX12_stop 5 = .ok (.iconst 0, 1) := by decide +kernel
theorem dX12_stop_6 : decode cX12_stop 6 = .ok (.istore_n 1, 1) := by decide +kernel
theorem dX12_stop_7 : decode cX12_stop 7 = .ok (.aload_n 0, 1) := by decide +kernel
theorem dX12_stop_8 : decode cX12_stop 8 = .ok (.invokevirtual 412, 3) := by decide +kernel
theorem dX12_stop_11 : decode cX12_stop 11 = .ok (.iconst (-1), 1) := by decide +kernel
theorem dX12_stop_12 : decode cX12_stop 12 = .ok (.if_icmp .ne 8, 3) := by decide +kernel
theorem dX12_stop_15 : decode cX12_stop 15 = .ok (.bipush 100, 2) := by decide +kernel
theorem dX12_stop_17 : decode cX12_stop 17 = .ok (.goto 7, 3) := by decide +kernel
theorem dX12_stop_20 : decode cX12_stop 20 = .ok (.aload_n 0, 1) := by decide +kernel
theorem dX12_stop_21 : decode cX12_stop 21 = .ok (.invokevirtual 412, 3) := by decide +kernel
theorem dX12_stop_24 : decode cX12_stop 24 = .ok (.istore_n 2, 1) := by decide +kernel
theorem dX12_stop_25 : decode cX12_stop 25 = .ok (.iconst 0, 1) := by decide +kernel
theorem dX12_stop_26 : decode cX12_stop 26 = .ok (.istore_n 3, 1) := by decide +kernel
theorem dX12_stop_27 : decode cX12_stop 27 = .ok (.iload_n 3, 1) := by decide +kernel
theorem dX12_stop_28 : decode cX12_stop 28 = .ok (.iload_n 2, 1) := by decide +kernel
theorem dX12_stop_29 : decode cX12_stop 29 = .ok (.if_icmp .gt 109, 3) := by decide +kernel
theorem dX12_stop_32 : decode cX12_stop 32 = .ok (.aload_n 0, 1) := by decide +kernel
theorem dX12_stop_33 : decode cX12_stop 33 = .ok (.aload_n 0, 1) := by decide +kernel
theorem dX12_stop_34 : decode cX12_stop 34 = .ok (.getfield 79, 3) := by decide +kernel
theorem dX12_stop_37 : decode cX12_stop 37 = .ok (.bipush 40, 2) := by decide +kernel
theorem dX12_stop_39 : decode cX12_stop 39 = .ok (.iaload, 1) := by decide +kernel
theorem dX12_stop_40 : decode cX12_stop 40 = .ok (.iload_n 3, 1) := by decide +kernel
theorem dX12_stop_41 : decode cX12_stop 41 = .ok (.iadd, 1) := by decide +kernel
theorem dX12_stop_42 : decode cX12_stop 42 = .ok (.invokevirtual 409, 3) := by decide +kernel
theorem dX12_stop_45 : decode cX12_stop 45 = .ok (.istore 4, 2) := by decide +kernel
theorem dX12_stop_47 : decode cX12_stop 47 = .ok (.aload_n 0, 1) := by decide +kernel
theorem dX12_stop_48 : decode cX12_stop 48 = .ok (.getfield 23, 3) := by decide +kernel
theorem dX12_stop_51 : decode cX12_stop 51 = .ok (.iconst 4, 1) := by decide +kernel
theorem dX12_stop_52 : decode cX12_stop 52 = .ok (.iaload, 1) := by decide +kernel
theorem dX12_stop_53 : decode cX12_stop 53 = .ok (.aload_n 0, 1) := by decide +kernel
theorem dX12_stop_54 : decode cX12_stop 54 = .ok (.getfield 23, 3) := by decide +kernel
theorem dX12_stop_57 : decode cX12_stop 57 = .ok (.bipush 6, 2) := by decide +kernel
theorem dX12_stop_59 : decode cX12_stop 59 = .ok (.iaload, 1) := by decide +kernel
theorem dX12_stop_60 : decode cX12_stop 60 = .ok (.aload_n 0, 1) := by decide +kernel
theorem dX12_stop_61 : decode cX12_stop 61 = .ok (.getfield 79, 3) := by decide +kernel
theorem dX12_stop_64 : decode cX12_stop 64 = .ok (.bipush 40, 2) := by decide +kernel
theorem dX12_stop_66 : decode cX12_stop 66 = .ok (.iaload, 1) := by decide +kernel
theorem dX12_stop_67 : decode cX12_stop 67 = .ok (.iload_n 3, 1) := by decide +kernel
theorem dX12_stop_68 : decode cX12_stop 68 = .ok (.iadd, 1) := by decide +kernel
theorem dX12_stop_69 : decode cX12_stop 69 = .ok (.imul, 1) := by decide +kernel
theorem dX12_stop_70 : decode cX12_stop 70 = .ok (.iadd, 1) := by decide +kernel
theorem dX12_stop_71 : decode cX12_stop 71 = .ok (.istore 5, 2) := by decide +kernel
theorem dX12_stop_73 : decode cX12_stop 73 = .ok (.iconst 0, 1) := by decide +kernel
theorem dX12_stop_74 : decode cX12_stop 74 = .ok (.istore 6, 2) := by decide +kernel
theorem dX12_stop_76 : decode cX12_stop 76 = .ok (.iload 6, 2) := by decide +kernel
theorem dX12_stop_78 : decode cX12_stop 78 = .ok (.aload_n 0, 1) := by decide +kernel
theorem dX12_stop_79 : decode cX12_stop 79 = .ok (.getfield 23, 3) := by decide +kernel
theorem dX12_stop_82 : decode cX12_stop 82 = .ok (.iconst 0, 1) := by decide +kernel
theorem dX12_stop_83 : decode cX12_stop 83 = .ok (.iaload, 1) := by decide +kernel
theorem dX12_stop_84 : decode cX12_stop 84 = .ok (.if_icmp .ge 48, 3) := by decide +kernel
theorem dX12_stop_87 : decode cX12_stop 87 = .ok (.iload_n 1, 1) := by decide +kernel
theorem dX12_stop_88 : decode cX12_stop 88 = .ok (.aload_n 0, 1) := by decide +kernel
theorem dX12_stop_89 : decode cX12_stop 89 = .ok (.getfield 31, 3) := by decide +kernel
theorem dX12_stop_92 : decode cX12_stop 92 = .ok (.iload 6, 2) := by decide +kernel
theorem dX12_stop_94 : decode cX12_stop 94 = .ok (.aaload, 1) := by decide +kernel
theorem dX12_stop_95 : decode cX12_stop 95 = .ok (.iconst 0, 1) := by decide +kernel
theorem dX12_stop_96 : decode cX12_stop 96 = .ok (.iaload, 1) := by decide +kernel
theorem dX12_stop_97 : decode cX12_stop 97 = .ok (.iload 4, 2) := by decide +kernel
theorem dX12_stop_99 : decode cX12_stop 99 = .ok (.if_icmp .ne 24, 3) := by decide +kernel
theorem dX12_stop_102 : decode cX12_stop 102 = .ok (.aload_n 0, 1) := by decide +kernel
theorem dX12_stop_103 : decode cX12_stop 103 = .ok (.getfield 31, 3) := by decide +kernel
theorem dX12_stop_106 : decode cX12_stop 106 = .ok (.iload 6, 2) := by decide +kernel
theorem dX12_stop_108 : decode cX12_stop 108 = .ok (.aaload, 1) := by decide +kernel
theorem dX12_stop_109 : decode cX12_stop 109 = .ok (.iconst 1, 1) := by decide +kernel
theorem dX12_stop_110 : decode cX12_stop 110 = .ok (.iaload, 1) := by decide +kernel
theorem dX12_stop_111 : decode cX12_stop 111 = .ok (.iload 5, 2) := by decide +kernel
theorem dX12_stop_113 : decode cX12_stop 113 = .ok (.if_icmp .ne 10, 3) := by decide +kernel
theorem dX12_stop_116 : decode cX12_stop 116 = .ok (.iconst 1, 1) := by decide +kernel
theorem dX12_stop_117 : decode cX12_stop 117 = .ok (.iload 6, 2) := by decide +kernel
theorem dX12_stop_119 : decode cX12_stop 119 = .ok (.ishl, 1) := by decide +kernel
theorem dX12_stop_120 : decode cX12_stop 120 = .ok (.goto 4, 3) := by decide +kernel
theorem dX12_stop_123 : decode cX12_stop 123 = .ok (.iconst 0, 1) := by decide +kernel
theorem dX12_stop_124 : decode cX12_stop 124 = .ok (.ior, 1) := by decide +kernel
theorem dX12_stop_125 : decode cX12_stop 125 = .ok (.istore_n 1, 1) := by decide +kernel
theorem dX12_stop_126 : decode cX12_stop 126 = .ok (.iinc 6 1, 3) := by decide +kernel
theorem dX12_stop_129 : decode cX12_stop 129 = .ok (.goto (-53), 3) := by decide +kernel
theorem dX12_stop_132 : decode cX12_stop 132 = .ok (.iinc 3 1, 3) := by decide +kernel
theorem dX12_stop_135 : decode cX12_stop 135 = .ok (.goto (-108), 3) := by decide +kernel
theorem dX12_stop_138 : decode cX12_stop 138 = .ok (.iload_n 1, 1) := by decide +kernel
theorem dX12_stop_139 : decode cX12_stop 139 = .ok (.ireturn, 1) := by decide +kernel
set_option maxRecDepth 100000 in
theorem T_X12_stop_0 {G : GE} {d C S : Nat} {ρ : Rs} : Snd G MX12_stop (d + 1) C S 0 ρ (s_aload 0 (s_iconst 0 (s_putI 11 0 (s_iconst 0 (s_istore 1 (s_aload 0 (s_callV G d MX12_laneIn 0 11 (s_iconst (-1) (s_ic_ne (s_aload 0 (s_callV G d MX12_laneIn 0 11 (s_istore 2 (s_iconst 0 (s_istore 3 (fun L st h => E G MX12_stop (d + 1) C S 27 L st h ρ)))))) (s_iconst 100 (s_istore 2 (s_iconst 0 (s_istore 3 (fun L st h => E G MX12_stop (d + 1) C S 27 L st h ρ)))))))))))))) := (e_aload_n dX12_stop_0 rfl (e_iconst (v := 0) dX12_stop_1 (by decide) (e_putI rfl cl_11 (by decide) rfl rfl rfl q_1564 dX12_stop_2 (e_iconst (v := 0) dX12_stop_5 (by decide) (e_istore_n dX12_stop_6 rfl (by decide) (e_aload_n dX12_stop_7 rfl (e_callV cl_11 cal_X12_laneIn q_2106 q_2108 q_103 dX12_stop_8 (e_iconst (v := (-1)) dX12_stop_11 (by decide) (e_ic_ne (tgt := 20) dX12_stop_12 (by decide) (e_aload_n dX12_stop_20 rfl (e_callV cl_11 cal_X12_laneIn q_2106 q_2108 q_103 dX12_stop_21 (e_istore_n dX12_stop_24 rfl (by decide) (e_iconst (v := 0) dX12_stop_25 (by decide) (e_istore_n dX12_stop_26 rfl (by decide) (fun _ _ _ h9 => h9)))))) (e_bipush (v := 100) dX12_stop_15 (by decide) (e_goto (tgt := 24) dX12_stop_17 (by decide) (e_istore_n dX12_stop_24 rfl (by decide) (e_iconst (v := 0) dX12_stop_25 (by decide) (e_istore_n dX12_stop_26 rfl (by decide) (fun _ _ _ h9 => h9)))))))))))))))
set_option maxRecDepth 100000 in
theorem T_X12_stop_27 {G : GE} {d C S : Nat} {ρ : Rs} : Snd G MX12_stop (d + 1) C S 27 ρ (s_iload 3 (s_iload 2 (s_ic_gt (s_iload 1 (s_ireturn ρ)) (s_aload 0 (s_aload 0 (s_getR 11 33 (s_iconst 40 (s_iaload (s_iload 3 (s_iadd (s_callV G d MX12_laneX 1 11 (s_istore 4 (s_aload 0 (s_getR 11 12 (s_iconst 4 (s_iaload (s_aload 0 (s_getR 11 12 (s_iconst 6 (s_iaload (s_aload 0 (s_getR 11 33 (s_iconst 40 (s_iaload (s_iload 3 (s_iadd (s_imul (s_iadd (s_istore 5 (s_iconst 0 (s_istore 6 (fun L st h => E G MX12_stop (d + 1) C S 76 L st h ρ)))))))))))))))))))))))))))))))) := (e_iload_n dX12_stop_27 rfl (e_iload_n dX12_stop_28 rfl (e_ic_gt (tgt := 138) dX12_stop_29 (by decide) (e_iload_n dX12_stop_138 rfl (e_ireturn rfl dX12_stop_139)) (e_aload_n dX12_stop_32 rfl (e_aload_n dX12_stop_33 rfl (e_getR rfl cl_11 (by decide) rfl q_1597 dX12_stop_34 (e_bipush (v := 40) dX12_stop_37 (by decide) (e_iaload dX12_stop_39 (e_iload_n dX12_stop_40 rfl (e_iadd dX12_stop_41 (e_callV cl_11 cal_X12_laneX q_2110 q_2112 q_104 dX12_stop_42 (e_istore dX12_stop_45 (by decide) (e_aload_n dX12_stop_47 rfl (e_getR rfl cl_11 (by decide) rfl q_1576 dX12_stop_48 (e_iconst (v := 4) dX12_stop_51 (by decide) (e_iaload dX12_stop_52 (e_aload_n dX12_stop_53 rfl (e_getR rfl cl_11 (by decide) rfl q_1576 dX12_stop_54 (e_bipush (v := 6) dX12_stop_57 (by decide) (e_iaload dX12_stop_59 (e_aload_n dX12_stop_60 rfl (e_getR rfl cl_11 (by decide) rfl q_1597 dX12_stop_61 (e_bipush (v := 40) dX12_stop_64 (by decide) (e_iaload dX12_stop_66 (e_iload_n dX12_stop_67 rfl (e_iadd dX12_stop_68 (e_imul dX12_stop_69 (e_iadd dX12_stop_70 (e_istore dX12_stop_71 (by decide) (e_iconst (v := 0) dX12_stop_73 (by decide) (e_istore dX12_stop_74 (by decide) (fun _ _ _ h9 => h9))))))))))))))))))))))))))))))))
set_option maxRecDepth 100000 in
theorem T_X12_stop_76 {G : GE} {d C S : Nat} {ρ : Rs} : Snd G MX12_stop (d + 1) C S 76 ρ (s_iload 6 (s_aload 0 (s_getR 11 12 (s_iconst 0 (s_iaload (s_ic_ge (s_iinc 3 1 (fun L st h => E G MX12_stop (d + 1) C S 27 L st h ρ)) (s_iload 1 (s_aload 0 (s_getR 11 14 (s_iload 6 (s_aaload (s_iconst 0 (s_iaload (s_iload 4 (s_ic_ne (s_iconst 0 (s_ior (s_istore 1 (s_iinc 6 1 (fun L st h => E G MX12_stop (d + 1) C S 76 L st h ρ))))) (s_aload 0 (s_getR 11 14 (s_iload 6 (s_aaload (s_iconst 1 (s_iaload (s_iload 5 (s_ic_ne (s_iconst 0 (s_ior (s_istore 1 (s_iinc 6 1 (fun L st h => E G MX12_stop (d + 1) C S 76 L st h ρ))))) (s_iconst 1 (s_iload 6 (s_ishl (s_ior (s_istore 1 (s_iinc 6 1 (fun L st h => E G MX12_stop (d + 1) C S 76 L st h ρ)))))))))))))))))))))))))))))) := (e_iload dX12_stop_76 (e_aload_n dX12_stop_78 rfl (e_getR rfl cl_11 (by decide) rfl q_1576 dX12_stop_79 (e_iconst (v := 0) dX12_stop_82 (by decide) (e_iaload dX12_stop_83 (e_ic_ge (tgt := 132) dX12_stop_84 (by decide) (e_iinc (v := 1) dX12_stop_132 (by decide) (by decide) (e_goto (tgt := 27) dX12_stop_135 (by decide) (fun _ _ _ h9 => h9))) (e_iload_n dX12_stop_87 rfl (e_aload_n dX12_stop_88 rfl (e_getR rfl cl_11 (by decide) rfl q_1578 dX12_stop_89 (e_iload dX12_stop_92 (e_aaload dX12_stop_94 (e_iconst (v := 0) dX12_stop_95 (by decide) (e_iaload dX12_stop_96 (e_iload dX12_stop_97 (e_ic_ne (tgt := 123) dX12_stop_99 (by decide) (e_iconst (v := 0) dX12_stop_123 (by decide) (e_ior dX12_stop_124 (e_istore_n dX12_stop_125 rfl (by decide) (e_iinc (v := 1) dX12_stop_126 (by decide) (by decide) (e_goto (tgt := 76) dX12_stop_129 (by decide) (fun _ _ _ h9 => h9)))))) (e_aload_n dX12_stop_102 rfl (e_getR rfl cl_11 (by decide) rfl q_1578 dX12_stop_103 (e_iload dX12_stop_106 (e_aaload dX12_stop_108 (e_iconst (v := 1) dX12_stop_109 (by decide) (e_iaload dX12_stop_110 (e_iload dX12_stop_111 (e_ic_ne (tgt := 123) dX12_stop_113 (by decide) (e_iconst (v := 0) dX12_stop_123 (by decide) (e_ior dX12_stop_124 (e_istore_n dX12_stop_125 rfl (by decide) (e_iinc (v := 1) dX12_stop_126 (by decide) (by decide) (e_goto (tgt := 76) dX12_stop_129 (by decide) (fun _ _ _ h9 => h9)))))) (e_iconst (v := 1) dX12_stop_116 (by decide) (e_iload dX12_stop_117 (e_ishl dX12_stop_119 (e_goto (tgt := 124) dX12_stop_120 (by decide) (e_ior dX12_stop_124 (e_istore_n dX12_stop_125 rfl (by decide) (e_iinc (v := 1) dX12_stop_126 (by decide) (by decide) (e_goto (tgt := 76) dX12_stop_129 (by decide) (fun _ _ _ h9 => h9))))))))))))))))))))))))))))))))
theorem dX12_getsBy_0 : decode cX12_getsBy 0 = .ok (.iload_n 0, 1) := by decide +kernel
theorem dX12_getsBy_1 : decode cX12_getsBy 1 = .ok (.iload_n 1, 1) := by decide +kernel
theorem dX12_getsBy_2 : decode cX12_getsBy 2 = .ok (.if_icmp .le 9, 3) := by decide +kernel
theorem dX12_getsBy_5 : decode cX12_getsBy 5 = .ok (.iload_n 2, 1) := by decide +kernel
theorem dX12_getsBy_6 : decode cX12_getsBy 6 = .ok (.iload_n 0, 1) := by decide +kernel
theorem dX12_getsBy_7 : decode cX12_getsBy 7 = .ok (.isub, 1) := by decide +kernel
theorem dX12_getsBy_8 : decode cX12_getsBy 8 = .ok (.goto 17, 3) := by decide +kernel
theorem dX12_getsBy_11 : decode cX12_getsBy 11 = .ok (.iload_n 0, 1) := by decide +kernel
theorem dX12_getsBy_12 : decode cX12_getsBy 12 = .ok (.iload_n 1, 1) := by decide +kernel
theorem dX12_getsBy_13 : decode cX12_getsBy 13 = .ok (.if_icmp .ne 11, 3) := by decide +kernel
theorem dX12_getsBy_16 : decode cX12_getsBy 16 = .ok (.iload_n 2, 1) := by decide +kernel
theorem dX12_getsBy_17 : decode cX12_getsBy 17 = .ok (.iload_n 0, 1) := by decide +kernel
theorem dX12_getsBy_18 : decode cX12_getsBy 18 = .ok (.isub, 1) := by decide +kernel
theorem dX12_getsBy_19 : decode cX12_getsBy 19 = .ok (.iconst 2, 1) := by decide +kernel
theorem dX12_getsBy_20 : decode cX12_getsBy 20 = .ok (.idiv, 1) := by decide +kernel
theorem dX12_getsBy_21 : decode cX12_getsBy 21 = .ok (.goto 4, 3) := by decide +kernel
theorem dX12_getsBy_24 : decode cX12_getsBy 24 = .ok (.iconst 0, 1) := by decide +kernel
theorem dX12_getsBy_25 : decode cX12_getsBy 25 = .ok (.ireturn, 1) := by decide +kernel
set_option maxRecDepth 100000 in
theorem T_X12_getsBy_0 {G : GE} {d C S : Nat} {ρ : Rs} : Snd G MX12_getsBy d C S 0 ρ (s_iload 0 (s_iload 1 (s_ic_le (s_iload 0 (s_iload 1 (s_ic_ne (s_iconst 0 (s_ireturn ρ)) (s_iload 2 (s_iload 0 (s_isub (s_iconst 2 (s_idiv (s_ireturn ρ))))))))) (s_iload 2 (s_iload 0 (s_isub (s_ireturn ρ))))))) := (e_iload_n dX12_getsBy_0 rfl (e_iload_n dX12_getsBy_1 rfl (e_ic_le (tgt := 11) dX12_getsBy_2 (by decide) (e_iload_n dX12_getsBy_11 rfl (e_iload_n dX12_getsBy_12 rfl (e_ic_ne (tgt := 24) dX12_getsBy_13 (by decide) (e_iconst (v := 0) dX12_getsBy_24 (by decide) (e_ireturn rfl dX12_getsBy_25)) (e_iload_n dX12_getsBy_16 rfl (e_iload_n dX12_getsBy_17 rfl (e_isub dX12_getsBy_18 (e_iconst (v := 2) dX12_getsBy_19 (by decide) (e_idiv dX12_getsBy_20 (e_goto (tgt := 25) dX12_getsBy_21 (by decide) (e_ireturn rfl dX12_getsBy_25)))))))))) (e_iload_n dX12_getsBy_5 rfl (e_iload_n dX12_getsBy_6 rfl (e_isub dX12_getsBy_7 (e_goto (tgt := 25) dX12_getsBy_8 (by decide) (e_ireturn rfl dX12_getsBy_25))))))))
theorem dX12_isBid_0 : decode cX12_isBid 0 = .ok (.iconst 0, 1) := by decide +kernel
theorem dX12_isBid_1 : decode cX12_isBid 1 = .ok (.istore 4, 2) := by decide +kernel
theorem dX12_isBid_3 : decode cX12_isBid 3 = .ok (.iload 4, 2) := by decide +kernel
theorem dX12_isBid_5 : decode cX12_isBid 5 = .ok (.iload_n 3, 1) := by decide +kernel
theorem dX12_isBid_6 : decode cX12_isBid 6 = .ok (.if_icmp .gt 27, 3) := by decide +kernel
theorem dX12_isBid_9 : decode cX12_isBid 9 = .ok (.iload 4, 2) := by decide +kernel
theorem dX12_isBid_11 : decode cX12_isBid 11 = .ok (.iload_n 1, 1) := by decide +kernel
theorem dX12_isBid_12 : decode cX12_isBid 12 = .ok (.iload_n 2, 1) := by decide +kernel
theorem dX12_isBid_13 : decode cX12_isBid 13 = .ok (.invokestatic 415, 3) := by decide +kernel
theorem dX12_isBid_16 : decode cX12_isBid 16 = .ok (.iload_n 0, 1) := by decide +kernel
theorem dX12_isBid_17 : decode cX12_isBid 17 = .ok (.iload_n 1, 1) := by decide +kernel
theorem dX12_isBid_18 : decode cX12_isBid 18 = .ok (.iload_n 2, 1) := by decide +kernel
theorem dX12_isBid_19 : decode cX12_isBid 19 = .ok (.invokestatic 415, 3) := by decide +kernel
theorem dX12_isBid_22 : decode cX12_isBid 22 = .ok (.if_icmp .le 5, 3) := by decide +kernel
theorem dX12_isBid_25 : decode cX12_isBid 25 = .ok (.iconst 0, 1) := by decide +kernel
theorem dX12_isBid_26 : decode cX12_isBid 26 = .ok (.ireturn, 1) := by decide +kernel
theorem dX12_isBid_27 : decode cX12_isBid 27 = .ok (.iinc 4 1, 3) := by decide +kernel
theorem dX12_isBid_30 : decode cX12_isBid 30 = .ok (.goto (-27), 3) := by decide +kernel
theorem dX12_isBid_33 : decode cX12_isBid 33 = .ok (.iconst 1, 1) := by decide +kernel
theorem dX12_isBid_34 : decode cX12_isBid 34 = .ok (.ireturn, 1) := by decide +kernel
set_option maxRecDepth 100000 in
theorem T_X12_isBid_0 {G : GE} {d C S : Nat} {ρ : Rs} : Snd G MX12_isBid (d + 1) C S 0 ρ (s_iconst 0 (s_istore 4 (fun L st h => E G MX12_isBid (d + 1) C S 3 L st h ρ))) := (e_iconst (v := 0) dX12_isBid_0 (by decide) (e_istore dX12_isBid_1 (by decide) (fun _ _ _ h9 => h9)))
set_option maxRecDepth 100000 in
theorem T_X12_isBid_3 {G : GE} {d C S : Nat} {ρ : Rs} : Snd G MX12_isBid (d + 1) C S 3 ρ (s_iload 4 (s_iload 3 (s_ic_gt (s_iconst 1 (s_zreturn ρ)) (s_iload 4 (s_iload 1 (s_iload 2 (s_call G d MX12_getsBy 3 (s_iload 0 (s_iload 1 (s_iload 2 (s_call G d MX12_getsBy 3 (s_ic_le (s_iinc 4 1 (fun L st h => E G MX12_isBid (d + 1) C S 3 L st h ρ)) (s_iconst 0 (s_zreturn ρ)))))))))))))) := (e_iload dX12_isBid_3 (e_iload_n dX12_isBid_5 rfl (e_ic_gt (tgt := 33) dX12_isBid_6 (by decide) (e_iconst (v := 1) dX12_isBid_33 (by decide) (e_zreturn rfl dX12_isBid_34)) (e_iload dX12_isBid_9 (e_iload_n dX12_isBid_11 rfl (e_iload_n dX12_isBid_12 rfl (e_callS cal_X12_getsBy q_2125 q_2126 dX12_isBid_13 (e_iload_n dX12_isBid_16 rfl (e_iload_n dX12_isBid_17 rfl (e_iload_n dX12_isBid_18 rfl (e_callS cal_X12_getsBy q_2125 q_2126 dX12_isBid_19 (e_ic_le (tgt := 27) dX12_isBid_22 (by decide) (e_iinc (v := 1) dX12_isBid_27 (by decide) (by decide) (e_goto (tgt := 3) dX12_isBid_30 (by decide) (fun _ _ _ h9 => h9))) (e_iconst (v := 0) dX12_isBid_25 (by decide) (e_zreturn rfl dX12_isBid_26))))))))))))))
theorem dX12_suitors_0 : decode cX12_suitors 0 = .ok (.aload_n 0, 1) := by decide +kernel
theorem dX12_suitors_1 : decode cX12_suitors 1 = .ok (.iconst 0, 1) := by decide +kernel
theorem dX12_suitors_2 : decode cX12_suitors 2 = .ok (.putfield 115, 3) := by decide +kernel
theorem dX12_suitors_5 : decode cX12_suitors 5 = .ok (.aload_n 0, 1) := by decide +kernel
theorem dX12_suitors_6 : decode cX12_suitors 6 = .ok (.iload_n 1, 1) := by decide +kernel
theorem dX12_suitors_7 : decode cX12_suitors 7 = .ok (.iconst 0, 1) := by decide +kernel
theorem dX12_suitors_8 : decode cX12_suitors 8 = .ok (.bipush 20, 2) := by decide +kernel
theorem dX12_suitors_10 : decode cX12_suitors 10 = .ok (.invokestatic 149, 3) := by decide +kernel
theorem dX12_suitors_13 : decode cX12_suitors 13 = .ok (.ifCond .eq 33, 3) := by decide +kernel
theorem dX12_suitors_16 : decode cX12_suitors 16 = .ok (.iload_n 2, 1) := by decide +kernel
theorem dX12_suitors_17 : decode cX12_suitors 17 = .ok (.iconst 0, 1) := by decide +kernel
theorem dX12_suitors_18 : decode cX12_suitors 18 = .ok (.bipush 40, 2) := by decide +kernel
theorem dX12_suitors_20 : decode cX12_suitors 20 = .ok (.invokestatic 149, 3) := by decide +kernel
theorem dX12_suitors_23 : decode cX12_suitors 23 = .ok (.ifCond .eq 23, 3) := by decide +kernel
theorem dX12_suitors_26 : decode cX12_suitors 26 = .ok (.iload_n 3, 1) := by decide +kernel
theorem dX12_suitors_27 : decode cX12_suitors 27 = .ok (.iconst 0, 1) := by decide +kernel
theorem dX12_suitors_28 : decode cX12_suitors 28 = .ok (.bipush 40, 2) := by decide +kernel
theorem dX12_suitors_30 : decode cX12_suitors 30 = .ok (.invokestatic 149, 3) := by decide +kernel
theorem dX12_suitors_33 : decode cX12_suitors 33 = .ok (.ifCond .eq 13, 3) := by decide +kernel
theorem dX12_suitors_36 : decode cX12_suitors 36 = .ok (.iload 4, 2) := by decide +kernel
theorem dX12_suitors_38 : decode cX12_suitors 38 = .ok (.iconst 0, 1) := by decide +kernel
theorem dX12_suitors_39 : decode cX12_suitors 39 = .ok (.iconst 2, 1) := by decide +kernel
theorem dX12_suitors_40 : decode cX12_suitors 40 = .ok (.invokestatic 149, 3) := by decide +kernel
theorem dX12_suitors_43 : decode cX12_suitors 43 = .ok (.ifCond .ne 7, 3) := by decide +kernel
theorem dX12_suitors_46 : decode cX12_suitors 46 = .ok (.iconst 1, 1) := by decide +kernel
theorem dX12_suitors_47 : decode cX12_suitors 47 = .ok (.goto 4, 3) := by decide +kernel
theorem dX12_suitors_50 : decode cX12_suitors 50 = .ok (.iconst 0, 1) := by decide +kernel
theorem dX12_suitors_51 : decode cX12_suitors 51 = .ok (.iconst 1, 1) := by decide +kernel
theorem dX12_suitors_52 : decode cX12_suitors 52 = .ok (.iconst 2, 1) := by decide +kernel
theorem dX12_suitors_53 : decode cX12_suitors 53 = .ok (.invokevirtual 198, 3) := by decide +kernel
theorem dX12_suitors_56 : decode cX12_suitors 56 = .ok (.ifCond .eq 5, 3) := by decide +kernel
theorem dX12_suitors_59 : decode cX12_suitors 59 = .ok (.iconst 0, 1) := by decide +kernel
theorem dX12_suitors_60 : decode cX12_suitors 60 = .ok (.ireturn, 1) := by decide +kernel
theorem dX12_suitors_61 : decode cX12_suitors 61 = .ok (.iconst 0, 1) := by decide +kernel
theorem dX12_suitors_62 : decode cX12_suitors 62 = .ok (.istore 5, 2) := by decide +kernel
theorem dX12_suitors_64 : decode cX12_suitors 64 = .ok (.iconst (-1), 1) := by decide +kernel
theorem dX12_suitors_65 : decode cX12_suitors 65 = .ok (.istore 6, 2) := by decide +kernel
theorem dX12_suitors_67 : decode cX12_suitors 67 = .ok (.iconst 0, 1) := by decide +kernel
theorem dX12_suitors_68 : decode cX12_suitors 68 = .ok (.istore 7, 2) := by decide +kernel
theorem dX12_suitors_70 : decode cX12_suitors 70 = .ok (.iload 7, 2) := by decide +kernel
theorem dX12_suitors_72 : decode cX12_suitors 72 = .ok (.iload_n 1, 1) := by decide +kernel
theorem dX12_suitors_73 : decode cX12_suitors 73 = .ok (.if_icmp .gt 74, 3) := by decide +kernel
theorem dX12_suitors_76 : decode cX12_suitors 76 = .ok (.iconst 0, 1) := by decide +kernel
theorem dX12_suitors_77 : decode cX12_suitors 77 = .ok (.istore 8, 2) := by decide +kernel
theorem dX12_suitors_79 : decode cX12_suitors 79 = .ok (.iload 8, 2) := by decide +kernel
theorem dX12_suitors_81 : decode cX12_suitors 81 = .ok (.iload_n 1, 1) := by decide +kernel
theorem dX12_suitors_82 : decode cX12_suitors 82 = .ok (.if_icmp .gt 59, 3) := by decide +kernel
theorem dX12_suitors_85 : decode cX12_suitors 85 = .ok (.iload 7, 2) := by decide +kernel
theorem dX12_suitors_87 : decode cX12_suitors 87 = .ok (.iload 8, 2) := by decide +kernel
theorem dX12_suitors_89 : decode cX12_suitors 89 = .ok (.iload_n 2, 1) := by decide +kernel
theorem dX12_suitors_90 : decode cX12_suitors 90 = .ok (.iload_n 1, 1) := by decide +kernel
theorem dX12_suitors_91 : decode cX12_suitors 91 = .ok (.invokestatic 418, 3) := by decide +kernel
theorem dX12_suitors_94 : decode cX12_suitors 94 = .ok (.ifCond .eq 41, 3) := by decide +kernel
theorem dX12_suitors_97 : decode cX12_suitors 97 = .ok (.iload 8, 2) := by decide +kernel
theorem dX12_suitors_99 : decode cX12_suitors 99 = .ok (.iload 7, 2) := by decide +kernel
theorem dX12_suitors_101 : decode cX12_suitors 101 = .ok (.iload_n 3, 1) := by decide +kernel
theorem dX12_suitors_102 : decode cX12_suitors 102 = .ok (.iload_n 1, 1) := by decide +kernel
theorem dX12_suitors_103 : decode cX12_suitors 103 = .ok (.invokestatic 418, 3) := by decide +kernel
theorem dX12_suitors_106 : decode cX12_suitors 106 = .ok (.ifCond .ne 6, 3) := by decide +kernel
theorem dX12_suitors_109 : decode cX12_suitors 109 = .ok (.goto 26, 3) := by decide +kernel
theorem dX12_suitors_112 : decode cX12_suitors 112 = .ok (.iload 5, 2) := by decide +kernel
theorem dX12_suitors_114 : decode cX12_suitors 114 = .ok (.ifCond .ne 14, 3) := by decide +kernel
theorem dX12_suitors_117 : decode cX12_suitors 117 = .ok (.bipush 100, 2) := by decide +kernel
theorem dX12_suitors_119 : decode cX12_suitors 119 = .ok (.iload 7, 2) := by decide +kernel
theorem dX12_suitors_121 : decode cX12_suitors 121 = .ok (.imul, 1) := by decide +kernel
theorem dX12_suitors_122 : decode cX12_suitors 122 = .ok (.iload 8, 2) := by decide +kernel
theorem dX12_suitors_124 : decode cX12_suitors 124 = .ok (.iadd, 1) := by decide +kernel
theorem dX12_suitors_125 : decode cX12_suitors 125 = .ok (.goto 5, 3) := by decide +kernel
theorem dX12_suitors_128 : decode cX12_suitors 128 = .ok (.iload 6, 2) := by decide +kernel
theorem dX12_suitors_130 : decode cX12_suitors 130 = .ok (.istore 6, 2) := by decide +kernel
theorem dX12_suitors_132 : decode cX12_suitors 132 = .ok (.iinc 5 1, 3) := by decide +kernel
theorem dX12_suitors_135 : decode cX12_suitors 135 = .ok (.iinc 8 1, 3) := by decide +kernel
theorem dX12_suitors_138 : decode cX12_suitors 138 = .ok (.goto (-59), 3) := by decide +kernel
theorem dX12_suitors_141 : decode cX12_suitors 141 = .ok (.iinc 7 1, 3) := by decide +kernel
theorem dX12_suitors_144 : decode cX12_suitors 144 = .ok (.goto (-74), 3) := by decide +kernel
theorem dX12_suitors_147 : decode cX12_suitors 147 = .ok (.iload 4, 2) := by decide +kernel
theorem dX12_suitors_149 : decode cX12_suitors 149 = .ok (.ifCond .ne 8, 3) := by decide +kernel
theorem dX12_suitors_152 : decode cX12_suitors 152 = .ok (.iload 5, 2) := by decide +kernel
theorem dX12_suitors_154 : decode cX12_suitors 154 = .ok (.goto 53, 3) := by decide +kernel
theorem dX12_suitors_157 : decode cX12_suitors 157 = .ok (.iload 4, 2) := by decide +kernel
theorem dX12_suitors_159 : decode cX12_suitors 159 = .ok (.iconst 1, 1) := by decide +kernel
theorem dX12_suitors_160 : decode cX12_suitors 160 = .ok (.if_icmp .ne 8, 3) := by decide +kernel
theorem dX12_suitors_163 : decode cX12_suitors 163 = .ok (.iload 6, 2) := by decide +kernel
theorem dX12_suitors_165 : decode cX12_suitors 165 = .ok (.goto 42, 3) := by decide +kernel
theorem dX12_suitors_168 : decode cX12_suitors 168 = .ok (.iload 6, 2) := by decide +kernel
theorem dX12_suitors_170 : decode cX12_suitors 170 = .ok (.iconst (-1), 1) := by decide +kernel
theorem dX12_suitors_171 : decode cX12_suitors 171 = .ok (.if_icmp .ne 7, 3) := by decide +kernel
theorem dX12_suitors_174 : decode cX12_suitors 174 = .ok (.iconst 0, 1) := by decide +kernel
theorem dX12_suitors_175 : decode cX12_suitors 175 = .ok (.goto 32, 3) := by decide +kernel
theorem dX12_suitors_178 : decode cX12_suitors 178 = .ok (.iload 6, 2) := by decide +kernel
theorem dX12_suitors_180 : decode cX12_suitors 180 = .ok (.bipush 100, 2) := by decide +kernel
theorem dX12_suitors_182 : decode cX12_suitors 182 = .ok (.idiv, 1) := by decide +kernel
theorem dX12_suitors_183 : decode cX12_suitors 183 = .ok (.iload 6, 2) := by decide +kernel
theorem dX12_suitors_185 : decode cX12_suitors 185 = .ok (.bipush 100, 2) := by decide +kernel
theorem dX12_suitors_187 : decode cX12_suitors 187 = .ok (.irem, 1) := by decide +kernel
theorem dX12_suitors_188 : decode cX12_suitors 188 = .ok (.iload_n 2, 1) := by decide +kernel
theorem dX12_suitors_189 : decode cX12_suitors 189 = .ok (.invokestatic 415, 3) := by decide +kernel
theorem dX12_suitors_192 : decode cX12_suitors 192 = .ok (.iload 6, 2) := by decide +kernel
theorem dX12_suitors_194 : decode cX12_suitors 194 = .ok (.bipush 100, 2) := by decide +kernel
theorem dX12_suitors_196 : decode cX12_suitors 196 = .ok (.irem, 1) := by decide +kernel
theorem dX12_suitors_197 : decode cX12_suitors 197 = .ok (.iload 6, 2) := by decide +kernel
theorem dX12_suitors_199 : decode cX12_suitors 199 = .ok (.bipush 100, 2) := by decide +kernel
theorem dX12_suitors_201 : decode cX12_suitors 201 = .ok (.idiv, 1) := by decide +kernel
theorem dX12_suitors_202 : decode cX12_suitors 202 = .ok (.iload_n 3, 1) := by decide +kernel
theorem dX12_suitors_203 : decode cX12_suitors 203 = .ok (.invokestatic 415, 3) := by decide +kernel
theorem dX12_suitors_206 : decode cX12_suitors 206 = .ok (.iadd, 1) := by decide +kernel
theorem dX12_suitors_207 : decode cX12_suitors 207 = .ok (.ireturn, 1) := by decide +kernel
set_option maxRecDepth 100000 in
theorem T_X12_suitors_0 {G : GE} {d C S : Nat} {ρ : Rs} : Snd G MX12_suitors (d + 1) C S 0 ρ (s_aload 0 (s_iconst 0 (s_putI 11 0 (s_aload 0 (s_iload 1 (s_iconst 0 (s_iconst 20 (s_call G d MX12_in 3 (s_if_eq (s_iconst 1 (s_iconst 1 (s_iconst 2 (s_callV G d MX12_bad 3 11 (s_if_eq (s_iconst 0 (s_istore 5 (s_iconst (-1) (s_istore 6 (s_iconst 0 (s_istore 7 (fun L st h => E G MX12_suitors (d + 1) C S 70 L st h ρ))))))) (s_iconst 0 (s_ireturn ρ))))))) (s_iload 2 (s_iconst 0 (s_iconst 40 (s_call G d MX12_in 3 (s_if_eq (s_iconst 1 (s_iconst 1 (s_iconst 2 (s_callV G d MX12_bad 3 11 (s_if_eq (s_iconst 0 (s_istore 5 (s_iconst (-1) (s_istore 6 (s_iconst 0 (s_istore 7 (fun L st h => E G MX12_suitors (d + 1) C S 70 L st h ρ))))))) (s_iconst 0 (s_ireturn ρ))))))) (s_iload 3 (s_iconst 0 (s_iconst 40 (s_call G d MX12_in 3 (s_if_eq (s_iconst 1 (s_iconst 1 (s_iconst 2 (s_callV G d MX12_bad 3 11 (s_if_eq (s_iconst 0 (s_istore 5 (s_iconst (-1) (s_istore 6 (s_iconst 0 (s_istore 7 (fun L st h => E G MX12_suitors (d + 1) C S 70 L st h ρ))))))) (s_iconst 0 (s_ireturn ρ))))))) (s_iload 4 (s_iconst 0 (s_iconst 2 (s_call G d MX12_in 3 (s_if_ne (s_iconst 0 (s_iconst 1 (s_iconst 2 (s_callV G d MX12_bad 3 11 (s_if_eq (s_iconst 0 (s_istore 5 (s_iconst (-1) (s_istore 6 (s_iconst 0 (s_istore 7 (fun L st h => E G MX12_suitors (d + 1) C S 70 L st h ρ))))))) (s_iconst 0 (s_ireturn ρ))))))) (s_iconst 1 (s_iconst 1 (s_iconst 2 (s_callV G d MX12_bad 3 11 (s_if_eq (s_iconst 0 (s_istore 5 (s_iconst (-1) (s_istore 6 (s_iconst 0 (s_istore 7 (fun L st h => E G MX12_suitors (d + 1) C S 70 L st h ρ))))))) (s_iconst 0 (s_ireturn ρ))))))))))))))))))))))))))))))) := (e_aload_n dX12_suitors_0 rfl (e_iconst (v := 0) dX12_suitors_1 (by decide) (e_putI rfl cl_11 (by decide) rfl rfl rfl q_1564 dX12_suitors_2 (e_aload_n dX12_suitors_5 rfl (e_iload_n dX12_suitors_6 rfl (e_iconst (v := 0) dX12_suitors_7 (by decide) (e_bipush (v := 20) dX12_suitors_8 (by decide) (e_callS cal_X12_in q_1739 q_1740 dX12_suitors_10 (e_if_eq (tgt := 46) dX12_suitors_13 (by decide) (e_iconst (v := 1) dX12_suitors_46 (by decide) (e_goto (tgt := 51) dX12_suitors_47 (by decide) (e_iconst (v := 1) dX12_suitors_51 (by decide) (e_iconst (v := 2) dX12_suitors_52 (by decide) (e_callV cl_11 cal_X12_bad q_1742 q_1744 q_53 dX12_suitors_53 (e_if_eq (tgt := 61) dX12_suitors_56 (by decide) (e_iconst (v := 0) dX12_suitors_61 (by decide) (e_istore dX12_suitors_62 (by decide) (e_iconst (v := (-1)) dX12_suitors_64 (by decide) (e_istore dX12_suitors_65 (by decide) (e_iconst (v := 0) dX12_suitors_67 (by decide) (e_istore dX12_suitors_68 (by decide) (fun _ _ _ h9 => h9))))))) (e_iconst (v := 0) dX12_suitors_59 (by decide) (e_ireturn rfl dX12_suitors_60)))))))) (e_iload_n dX12_suitors_16 rfl (e_iconst (v := 0) dX12_suitors_17 (by decide) (e_bipush (v := 40) dX12_suitors_18 (by decide) (e_callS cal_X12_in q_1739 q_1740 dX12_suitors_20 (e_if_eq (tgt := 46) dX12_suitors_23 (by decide) (e_iconst (v := 1) dX12_suitors_46 (by decide) (e_goto (tgt := 51) dX12_suitors_47 (by decide) (e_iconst (v := 1) dX12_suitors_51 (by decide) (e_iconst (v := 2) dX12_suitors_52 (by decide) (e_callV cl_11 cal_X12_bad q_1742 q_1744 q_53 dX12_suitors_53 (e_if_eq (tgt := 61) dX12_suitors_56 (by decide) (e_iconst (v := 0) dX12_suitors_61 (by decide) (e_istore dX12_suitors_62 (by decide) (e_iconst (v := (-1)) dX12_suitors_64 (by decide) (e_istore dX12_suitors_65 (by decide) (e_iconst (v := 0) dX12_suitors_67 (by decide) (e_istore dX12_suitors_68 (by decide) (fun _ _ _ h9 => h9))))))) (e_iconst (v := 0) dX12_suitors_59 (by decide) (e_ireturn rfl dX12_suitors_60)))))))) (e_iload_n dX12_suitors_26 rfl (e_iconst (v := 0) dX12_suitors_27 (by decide) (e_bipush (v := 40) dX12_suitors_28 (by decide) (e_callS cal_X12_in q_1739 q_1740 dX12_suitors_30 (e_if_eq (tgt := 46) dX12_suitors_33 (by decide) (e_iconst (v := 1) dX12_suitors_46 (by decide) (e_goto (tgt := 51) dX12_suitors_47 (by decide) (e_iconst (v := 1) dX12_suitors_51 (by decide) (e_iconst (v := 2) dX12_suitors_52 (by decide) (e_callV cl_11 cal_X12_bad q_1742 q_1744 q_53 dX12_suitors_53 (e_if_eq (tgt := 61) dX12_suitors_56 (by decide) (e_iconst (v := 0) dX12_suitors_61 (by decide) (e_istore dX12_suitors_62 (by decide) (e_iconst (v := (-1)) dX12_suitors_64 (by decide) (e_istore dX12_suitors_65 (by decide) (e_iconst (v := 0) dX12_suitors_67 (by decide) (e_istore dX12_suitors_68 (by decide) (fun _ _ _ h9 => h9))))))) (e_iconst (v := 0) dX12_suitors_59 (by decide) (e_ireturn rfl dX12_suitors_60)))))))) (e_iload dX12_suitors_36 (e_iconst (v := 0) dX12_suitors_38 (by decide) (e_iconst (v := 2) dX12_suitors_39 (by decide) (e_callS cal_X12_in q_1739 q_1740 dX12_suitors_40 (e_if_ne (tgt := 50) dX12_suitors_43 (by decide) (e_iconst (v := 0) dX12_suitors_50 (by decide) (e_iconst (v := 1) dX12_suitors_51 (by decide) (e_iconst (v := 2) dX12_suitors_52 (by decide) (e_callV cl_11 cal_X12_bad q_1742 q_1744 q_53 dX12_suitors_53 (e_if_eq (tgt := 61) dX12_suitors_56 (by decide) (e_iconst (v := 0) dX12_suitors_61 (by decide) (e_istore dX12_suitors_62 (by decide) (e_iconst (v := (-1)) dX12_suitors_64 (by decide) (e_istore dX12_suitors_65 (by decide) (e_iconst (v := 0) dX12_suitors_67 (by decide) (e_istore dX12_suitors_68 (by decide) (fun _ _ _ h9 => h9))))))) (e_iconst (v := 0) dX12_suitors_59 (by decide) (e_ireturn rfl dX12_suitors_60))))))) (e_iconst (v := 1) dX12_suitors_46 (by decide) (e_goto (tgt := 51) dX12_suitors_47 (by decide) (e_iconst (v := 1) dX12_suitors_51 (by decide) (e_iconst (v := 2) dX12_suitors_52 (by decide) (e_callV cl_11 cal_X12_bad q_1742 q_1744 q_53 dX12_suitors_53 (e_if_eq (tgt := 61) dX12_suitors_56 (by decide) (e_iconst (v := 0) dX12_suitors_61 (by decide) (e_istore dX12_suitors_62 (by decide) (e_iconst (v := (-1)) dX12_suitors_64 (by decide) (e_istore dX12_suitors_65 (by decide) (e_iconst (v := 0) dX12_suitors_67 (by decide) (e_istore dX12_suitors_68 (by decide) (fun _ _ _ h9 => h9))))))) (e_iconst (v := 0) dX12_suitors_59 (by decide) (e_ireturn rfl dX12_suitors_60))))))))))))))))))))))))))))))))
set_option maxRecDepth 100000 in
theorem T_X12_suitors_70 {G : GE} {d C S : Nat} {ρ : Rs} : Snd G MX12_suitors (d + 1) C S 70 ρ (s_iload 7 (s_iload 1 (s_ic_gt (s_iload 4 (s_if_ne (s_iload 4 (s_iconst 1 (s_ic_ne (s_iload 6 (s_iconst (-1) (s_ic_ne (s_iload 6 (s_iconst 100 (s_idiv (s_iload 6 (s_iconst 100 (s_irem (s_iload 2 (s_call G d MX12_getsBy 3 (s_iload 6 (s_iconst 100 (s_irem (s_iload 6 (s_iconst 100 (s_idiv (s_iload 3 (s_call G d MX12_getsBy 3 (s_iadd (s_ireturn ρ)))))))))))))))))) (s_iconst 0 (s_ireturn ρ))))) (s_iload 6 (s_ireturn ρ))))) (s_iload 5 (s_ireturn ρ)))) (s_iconst 0 (s_istore 8 (fun L st h => E G MX12_suitors (d + 1) C S 79 L st h ρ)))))) := (e_iload dX12_suitors_70 (e_iload_n dX12_suitors_72 rfl (e_ic_gt (tgt := 147) dX12_suitors_73 (by decide) (e_iload dX12_suitors_147 (e_if_ne (tgt := 157) dX12_suitors_149 (by decide) (e_iload dX12_suitors_157 (e_iconst (v := 1) dX12_suitors_159 (by decide) (e_ic_ne (tgt := 168) dX12_suitors_160 (by decide) (e_iload dX12_suitors_168 (e_iconst (v := (-1)) dX12_suitors_170 (by decide) (e_ic_ne (tgt := 178) dX12_suitors_171 (by decide) (e_iload dX12_suitors_178 (e_bipush (v := 100) dX12_suitors_180 (by decide) (e_idiv dX12_suitors_182 (e_iload dX12_suitors_183 (e_bipush (v := 100) dX12_suitors_185 (by decide) (e_irem dX12_suitors_187 (e_iload_n dX12_suitors_188 rfl (e_callS cal_X12_getsBy q_2125 q_2126 dX12_suitors_189 (e_iload dX12_suitors_192 (e_bipush (v := 100) dX12_suitors_194 (by decide) (e_irem dX12_suitors_196 (e_iload dX12_suitors_197 (e_bipush (v := 100) dX12_suitors_199 (by decide) (e_idiv dX12_suitors_201 (e_iload_n dX12_suitors_202 rfl (e_callS cal_X12_getsBy q_2125 q_2126 dX12_suitors_203 (e_iadd dX12_suitors_206 (e_ireturn rfl dX12_suitors_207)))))))))))))))))) (e_iconst (v := 0) dX12_suitors_174 (by decide) (e_goto (tgt := 207) dX12_suitors_175 (by decide) (e_ireturn rfl dX12_suitors_207)))))) (e_iload dX12_suitors_163 (e_goto (tgt := 207) dX12_suitors_165 (by decide) (e_ireturn rfl dX12_suitors_207)))))) (e_iload dX12_suitors_152 (e_goto (tgt := 207) dX12_suitors_154 (by decide) (e_ireturn rfl dX12_suitors_207))))) (e_iconst (v := 0) dX12_suitors_76 (by decide) (e_istore dX12_suitors_77 (by decide) (fun _ _ _ h9 => h9))))))
set_option maxRecDepth 100000 in
theorem T_X12_suitors_79 {G : GE} {d C S : Nat} {ρ : Rs} : Snd G MX12_suitors (d + 1) C S 79 ρ (s_iload 8 (s_iload 1 (s_ic_gt (s_iinc 7 1 (fun L st h => E G MX12_suitors (d + 1) C S 70 L st h ρ)) (s_iload 7 (s_iload 8 (s_iload 2 (s_iload 1 (s_call G d MX12_isBid 4 (s_if_eq (s_iinc 8 1 (fun L st h => E G MX12_suitors (d + 1) C S 79 L st h ρ)) (s_iload 8 (s_iload 7 (s_iload 3 (s_iload 1 (s_call G d MX12_isBid 4 (s_if_ne (s_iload 5 (s_if_ne (s_iload 6 (s_istore 6 (s_iinc 5 1 (s_iinc 8 1 (fun L st h => E G MX12_suitors (d + 1) C S 79 L st h ρ))))) (s_iconst 100 (s_iload 7 (s_imul (s_iload 8 (s_iadd (s_istore 6 (s_iinc 5 1 (s_iinc 8 1 (fun L st h => E G MX12_suitors (d + 1) C S 79 L st h ρ))))))))))) (s_iinc 8 1 (fun L st h => E G MX12_suitors (d + 1) C S 79 L st h ρ))))))))))))))))) := (e_iload dX12_suitors_79 (e_iload_n dX12_suitors_81 rfl (e_ic_gt (tgt := 141) dX12_suitors_82 (by decide) (e_iinc (v := 1) dX12_suitors_141 (by decide) (by decide) (e_goto (tgt := 70) dX12_suitors_144 (by decide) (fun _ _ _ h9 => h9))) (e_iload dX12_suitors_85 (e_iload dX12_suitors_87 (e_iload_n dX12_suitors_89 rfl (e_iload_n dX12_suitors_90 rfl (e_callS cal_X12_isBid q_2122 q_2123 dX12_suitors_91 (e_if_eq (tgt := 135) dX12_suitors_94 (by decide) (e_iinc (v := 1) dX12_suitors_135 (by decide) (by decide) (e_goto (tgt := 79) dX12_suitors_138 (by decide) (fun _ _ _ h9 => h9))) (e_iload dX12_suitors_97 (e_iload dX12_suitors_99 (e_iload_n dX12_suitors_101 rfl (e_iload_n dX12_suitors_102 rfl (e_callS cal_X12_isBid q_2122 q_2123 dX12_suitors_103 (e_if_ne (tgt := 112) dX12_suitors_106 (by decide) (e_iload dX12_suitors_112 (e_if_ne (tgt := 128) dX12_suitors_114 (by decide) (e_iload dX12_suitors_128 (e_istore dX12_suitors_130 (by decide) (e_iinc (v := 1) dX12_suitors_132 (by decide) (by decide) (e_iinc (v := 1) dX12_suitors_135 (by decide) (by decide) (e_goto (tgt := 79) dX12_suitors_138 (by decide) (fun _ _ _ h9 => h9)))))) (e_bipush (v := 100) dX12_suitors_117 (by decide) (e_iload dX12_suitors_119 (e_imul dX12_suitors_121 (e_iload dX12_suitors_122 (e_iadd dX12_suitors_124 (e_goto (tgt := 130) dX12_suitors_125 (by decide) (e_istore dX12_suitors_130 (by decide) (e_iinc (v := 1) dX12_suitors_132 (by decide) (by decide) (e_iinc (v := 1) dX12_suitors_135 (by decide) (by decide) (e_goto (tgt := 79) dX12_suitors_138 (by decide) (fun _ _ _ h9 => h9))))))))))))) (e_goto (tgt := 135) dX12_suitors_109 (by decide) (e_iinc (v := 1) dX12_suitors_135 (by decide) (by decide) (e_goto (tgt := 79) dX12_suitors_138 (by decide) (fun _ _ _ h9 => h9)))))))))))))))))))
theorem dX12_gets_0 : decode cX12_gets 0 = .ok (.aload_n 0, 1) := by decide +kernel
theorem dX12_gets_1 : decode cX12_gets 1 = .ok (.iconst 0, 1) := by decide +kernel
theorem dX12_gets_2 : decode cX12_gets 2 = .ok (.putfield 115, 3) := by decide +kernel
theorem dX12_gets_5 : decode cX12_gets 5 = .ok (.aload_n 0, 1) := by decide +kernel
theorem dX12_gets_6 : decode cX12_gets 6 = .ok (.iload_n 1, 1) := by decide +kernel
theorem dX12_gets_7 : decode cX12_gets 7 = .ok (.iconst 0, 1) := by decide +kernel
theorem dX12_gets_8 : decode cX12_gets 8 = .ok (.bipush 40, 2) := by decide +kernel
theorem dX12_gets_10 : decode cX12_gets 10 = .ok (.invokestatic 149, 3) := by decide +kernel
theorem dX12_gets_13 : decode cX12_gets 13 = .ok (.ifCond .eq 23, 3) := by decide +kernel
theorem dX12_gets_16 : decode cX12_gets 16 = .ok (.iload_n 2, 1) := by decide +kernel
theorem dX12_gets_17 : decode cX12_gets 17 = .ok (.iconst 0, 1) := by decide +kernel
theorem dX12_gets_18 : decode cX12_gets 18 = .ok (.bipush 40, 2) := by decide +kernel
theorem dX12_gets_20 : decode cX12_gets 20 = .ok (.invokestatic 149, 3) := by decide +kernel
theorem dX12_gets_23 : decode cX12_gets 23 = .ok (.ifCond .eq 13, 3) := by decide +kernel
theorem dX12_gets_26 : decode cX12_gets 26 = .ok (.iload_n 3, 1) := by decide +kernel
theorem dX12_gets_27 : decode cX12_gets 27 = .ok (.iconst 0, 1) := by decide +kernel
theorem dX12_gets_28 : decode cX12_gets 28 = .ok (.bipush 40, 2) := by decide +kernel
theorem dX12_gets_30 : decode cX12_gets 30 = .ok (.invokestatic 149, 3) := by decide +kernel
theorem dX12_gets_33 : decode cX12_gets 33 = .ok (.ifCond .ne 7, 3) := by decide +kernel
theorem dX12_gets_36 : decode cX12_gets 36 = .ok (.iconst 1, 1) := by decide +kernel
theorem dX12_gets_37 : decode cX12_gets 37 = .ok (.goto 4, 3) := by decide +kernel
theorem dX12_gets_40 : decode cX12_gets 40 = .ok (.iconst 0, 1) := by decide +kernel
theorem dX12_gets_41 : decode cX12_gets 41 = .ok (.iconst 1, 1) := by decide +kernel
theorem dX12_gets_42 : decode cX12_gets 42 = .ok (.iconst 2, 1) := by decide +kernel
theorem dX12_gets_43 : decode cX12_gets 43 = .ok (.invokevirtual 198, 3) := by decide +kernel
theorem dX12_gets_46 : decode cX12_gets 46 = .ok (.ifCond .eq 5, 3) := by decide +kernel
theorem dX12_gets_49 : decode cX12_gets 49 = .ok (.iconst 0, 1) := by decide +kernel
theorem dX12_gets_50 : decode cX12_gets 50 = .ok (.ireturn, 1) := by decide +kernel
theorem dX12_gets_51 : decode cX12_gets 51 = .ok (.iload_n 1, 1) := by decide +kernel
theorem dX12_gets_52 : decode cX12_gets 52 = .ok (.iload_n 2, 1) := by decide +kernel
theorem dX12_gets_53 : decode cX12_gets 53 = .ok (.iload_n 3, 1) := by decide +kernel
theorem dX12_gets_54 : decode cX12_gets 54 = .ok (.invokestatic 415, 3) := by decide +kernel
theorem dX12_gets_57 : decode cX12_gets 57 = .ok (.ireturn, 1) := by decide +kernel
set_option maxRecDepth 100000 in
theorem T_X12_gets_0 {G : GE} {d C S : Nat} {ρ : Rs} : Snd G MX12_gets (d + 1) C S 0 ρ (s_aload 0 (s_iconst 0 (s_putI 11 0 (s_aload 0 (s_iload 1 (s_iconst 0 (s_iconst 40 (s_call G d MX12_in 3 (s_if_eq (s_iconst 1 (s_iconst 1 (s_iconst 2 (s_callV G d MX12_bad 3 11 (s_if_eq (s_iload 1 (s_iload 2 (s_iload 3 (s_call G d MX12_getsBy 3 (s_ireturn ρ))))) (s_iconst 0 (s_ireturn ρ))))))) (s_iload 2 (s_iconst 0 (s_iconst 40 (s_call G d MX12_in 3 (s_if_eq (s_iconst 1 (s_iconst 1 (s_iconst 2 (s_callV G d MX12_bad 3 11 (s_if_eq (s_iload 1 (s_iload 2 (s_iload 3 (s_call G d MX12_getsBy 3 (s_ireturn ρ))))) (s_iconst 0 (s_ireturn ρ))))))) (s_iload 3 (s_iconst 0 (s_iconst 40 (s_call G d MX12_in 3 (s_if_ne (s_iconst 0 (s_iconst 1 (s_iconst 2 (s_callV G d MX12_bad 3 11 (s_if_eq (s_iload 1 (s_iload 2 (s_iload 3 (s_call G d MX12_getsBy 3 (s_ireturn ρ))))) (s_iconst 0 (s_ireturn ρ))))))) (s_iconst 1 (s_iconst 1 (s_iconst 2 (s_callV G d MX12_bad 3 11 (s_if_eq (s_iload 1 (s_iload 2 (s_iload 3 (s_call G d MX12_getsBy 3 (s_ireturn ρ))))) (s_iconst 0 (s_ireturn ρ)))))))))))))))))))))))))) := (e_aload_n dX12_gets_0 rfl (e_iconst (v := 0) dX12_gets_1 (by decide) (e_putI rfl cl_11 (by decide) rfl rfl rfl q_1564 dX12_gets_2 (e_aload_n dX12_gets_5 rfl (e_iload_n dX12_gets_6 rfl (e_iconst (v := 0) dX12_gets_7 (by decide) (e_bipush (v := 40) dX12_gets_8 (by decide) (e_callS cal_X12_in q_1739 q_1740 dX12_gets_10 (e_if_eq (tgt := 36) dX12_gets_13 (by decide) (e_iconst (v := 1) dX12_gets_36 (by decide) (e_goto (tgt := 41) dX12_gets_37 (by decide) (e_iconst (v := 1) dX12_gets_41 (by decide) (e_iconst (v := 2) dX12_gets_42 (by decide) (e_callV cl_11 cal_X12_bad q_1742 q_1744 q_53 dX12_gets_43 (e_if_eq (tgt := 51) dX12_gets_46 (by decide) (e_iload_n dX12_gets_51 rfl (e_iload_n dX12_gets_52 rfl (e_iload_n dX12_gets_53 rfl (e_callS cal_X12_getsBy q_2125 q_2126 dX12_gets_54 (e_ireturn rfl dX12_gets_57))))) (e_iconst (v := 0) dX12_gets_49 (by decide) (e_ireturn rfl dX12_gets_50)))))))) (e_iload_n dX12_gets_16 rfl (e_iconst (v := 0) dX12_gets_17 (by decide) (e_bipush (v := 40) dX12_gets_18 (by decide) (e_callS cal_X12_in q_1739 q_1740 dX12_gets_20 (e_if_eq (tgt := 36) dX12_gets_23 (by decide) (e_iconst (v := 1) dX12_gets_36 (by decide) (e_goto (tgt := 41) dX12_gets_37 (by decide) (e_iconst (v := 1) dX12_gets_41 (by decide) (e_iconst (v := 2) dX12_gets_42 (by decide) (e_callV cl_11 cal_X12_bad q_1742 q_1744 q_53 dX12_gets_43 (e_if_eq (tgt := 51) dX12_gets_46 (by decide) (e_iload_n dX12_gets_51 rfl (e_iload_n dX12_gets_52 rfl (e_iload_n dX12_gets_53 rfl (e_callS cal_X12_getsBy q_2125 q_2126 dX12_gets_54 (e_ireturn rfl dX12_gets_57))))) (e_iconst (v := 0) dX12_gets_49 (by decide) (e_ireturn rfl dX12_gets_50)))))))) (e_iload_n dX12_gets_26 rfl (e_iconst (v := 0) dX12_gets_27 (by decide) (e_bipush (v := 40) dX12_gets_28 (by decide) (e_callS cal_X12_in q_1739 q_1740 dX12_gets_30 (e_if_ne (tgt := 40) dX12_gets_33 (by decide) (e_iconst (v := 0) dX12_gets_40 (by decide) (e_iconst (v := 1) dX12_gets_41 (by decide) (e_iconst (v := 2) dX12_gets_42 (by decide) (e_callV cl_11 cal_X12_bad q_1742 q_1744 q_53 dX12_gets_43 (e_if_eq (tgt := 51) dX12_gets_46 (by decide) (e_iload_n dX12_gets_51 rfl (e_iload_n dX12_gets_52 rfl (e_iload_n dX12_gets_53 rfl (e_callS cal_X12_getsBy q_2125 q_2126 dX12_gets_54 (e_ireturn rfl dX12_gets_57))))) (e_iconst (v := 0) dX12_gets_49 (by decide) (e_ireturn rfl dX12_gets_50))))))) (e_iconst (v := 1) dX12_gets_36 (by decide) (e_goto (tgt := 41) dX12_gets_37 (by decide) (e_iconst (v := 1) dX12_gets_41 (by decide) (e_iconst (v := 2) dX12_gets_42 (by decide) (e_callV cl_11 cal_X12_bad q_1742 q_1744 q_53 dX12_gets_43 (e_if_eq (tgt := 51) dX12_gets_46 (by decide) (e_iload_n dX12_gets_51 rfl (e_iload_n dX12_gets_52 rfl (e_iload_n dX12_gets_53 rfl (e_callS cal_X12_getsBy q_2125 q_2126 dX12_gets_54 (e_ireturn rfl dX12_gets_57))))) (e_iconst (v := 0) dX12_gets_49 (by decide) (e_ireturn rfl dX12_gets_50)))))))))))))))))))))))))))
theorem dX12_ahead_0 : decode cX12_ahead 0 = .ok (.aload_n 0, 1) := by decide +kernel
theorem dX12_ahead_1 : decode cX12_ahead 1 = .ok (.iconst 0, 1) := by decide +kernel
theorem dX12_ahead_2 : decode cX12_ahead 2 = .ok (.putfield 115, 3) := by decide +kernel
theorem dX12_ahead_5 : decode cX12_ahead 5 = .ok (.aload_n 0, 1) := by decide +kernel
theorem dX12_ahead_6 : decode cX12_ahead 6 = .ok (.iload_n 1, 1) := by decide +kernel
theorem dX12_ahead_7 : decode cX12_ahead 7 = .ok (.iconst 0, 1) := by decide +kernel
theorem dX12_ahead_8 : decode cX12_ahead 8 = .ok (.bipush 60, 2) := by decide +kernel
theorem dX12_ahead_10 : decode cX12_ahead 10 = .ok (.invokestatic 149, 3) := by decide +kernel
theorem dX12_ahead_13 : decode cX12_ahead 13 = .ok (.ifCond .eq 12, 3) := by decide +kernel
theorem dX12_ahead_16 : decode cX12_ahead 16 = .ok (.iload_n 2, 1) := by decide +kernel
theorem dX12_ahead_17 : decode cX12_ahead 17 = .ok (.iconst 0, 1) := by decide +kernel
theorem dX12_ahead_18 : decode cX12_ahead 18 = .ok (.iconst 2, 1) := by decide +kernel
theorem dX12_ahead_19 : decode cX12_ahead 19 = .ok (.invokestatic 149, 3) := by decide +kernel
theorem dX12_ahead_22 : decode cX12_ahead 22 = .ok (.ifCond .ne 7, 3) := by decide +kernel
theorem dX12_ahead_25 : decode cX12_ahead 25 = .ok (.iconst 1, 1) := by decide +kernel
theorem dX12_ahead_26 : decode cX12_ahead 26 = .ok (.goto 4, 3) := by decide +kernel
theorem dX12_ahead_29 : decode cX12_ahead 29 = .ok (.iconst 0, 1) := by decide +kernel
theorem dX12_ahead_30 : decode cX12_ahead 30 = .ok (.iconst 1, 1) := by decide +kernel
theorem dX12_ahead_31 : decode cX12_ahead 31 = .ok (.iconst 2, 1) := by decide +kernel
theorem dX12_ahead_32 : decode cX12_ahead 32 = .ok (.invokevirtual 198, 3) := by decide +kernel
theorem dX12_ahead_35 : decode cX12_ahead 35 = .ok (.ifCond .eq 5, 3) := by decide +kernel
theorem dX12_ahead_38 : decode cX12_ahead 38 = .ok (.iconst 0, 1) := by decide +kernel
theorem dX12_ahead_39 : decode cX12_ahead 39 = .ok (.ireturn, 1) := by decide +kernel
theorem dX12_ahead_40 : decode cX12_ahead 40 = .ok (.aload_n 0, 1) := by decide +kernel
theorem dX12_ahead_41 : decode cX12_ahead 41 = .ok (.getfield 79, 3) := by decide +kernel
theorem dX12_ahead_44 : decode cX12_ahead 44 = .ok (.aload_n 0, 1) := by decide +kernel
theorem dX12_ahead_45 : decode cX12_ahead 45 = .ok (.getfield 82, 3) := by decide +kernel
theorem dX12_ahead_48 : decode cX12_ahead 48 = .ok (.invokestatic 329, 3) := by decide +kernel
theorem dX12_ahead_51 : decode cX12_ahead 51 = .ok (.iconst 0, 1) := by decide +kernel
theorem dX12_ahead_52 : decode cX12_ahead 52 = .ok (.istore_n 3, 1) := by decide +kernel
theorem dX12_ahead_53 : decode cX12_ahead 53 = .ok (.iload_n 3, 1) := by decide +kernel
theorem dX12_ahead_54 : decode cX12_ahead 54 = .ok (.iload_n 1, 1) := by decide +kernel
theorem dX12_ahead_55 : decode cX12_ahead 55 = .ok (.if_icmp .ge 18, 3) := by decide +kernel
theorem dX12_ahead_58 : decode cX12_ahead 58 = .ok (.aload_n 0, 1) := by decide +kernel
theorem dX12_ahead_59 : decode cX12_ahead 59 = .ok (.aload_n 0, 1) := by decide +kernel
theorem dX12_ahead_60 : decode cX12_ahead 60 = .ok (.getfield 82, 3) := by decide +kernel
theorem dX12_ahead_63 : decode cX12_ahead 63 = .ok (.invokevirtual 312, 3) := by decide +kernel
theorem dX12_ahead_66 : decode cX12_ahead 66 = .ok (.pop, 1) := by decide +kernel
theorem dX12_ahead_67 : decode cX12_ahead 67 = .ok (.iinc 3 1, 3) := by decide +kernel
theorem dX12_ahead_70 : decode cX12_ahead 70 = .ok (.goto (-17), 3) := by decide +kernel
theorem dX12_ahead_73 : decode cX12_ahead 73 = .ok (.iload_n 2, 1) := by decide +kernel
theorem dX12_ahead_74 : decode cX12_ahead 74 = .ok (.ifCond .ne 12, 3) := by decide +kernel
theorem dX12_ahead_77 : decode cX12_ahead 77 = .ok (.aload_n 0, 1) := by decide +kernel
theorem dX12_ahead_78 : decode cX12_ahead 78 = .ok (.aload_n 0, 1) := by decide +kernel
theorem dX12_ahead_79 : decode cX12_ahead 79 = .ok (.getfield 82, 3) := by decide +kernel
theorem dX12_ahead_82 : decode cX12_ahead 82 = .ok (.invokevirtual 333, 3) := by decide +kernel
theorem dX12_ahead_85 : decode cX12_ahead 85 = .ok (.ireturn, 1) := by decide +kernel
theorem dX12_ahead_86 : decode cX12_ahead 86 = .ok (.iload_n 2, 1) := by decide +kernel
theorem dX12_ahead_87 : decode cX12_ahead 87 = .ok (.iconst 1, 1) := by decide +kernel
theorem dX12_ahead_88 : decode cX12_ahead 88 = .ok (.if_icmp .ne 14, 3) := by decide +kernel
theorem dX12_ahead_91 : decode cX12_ahead 91 = .ok (.aload_n 0, 1) := by decide +kernel
theorem dX12_ahead_92 : decode cX12_ahead 92 = .ok (.aload_n 0, 1) := by decide +kernel
theorem dX12_ahead_93 : decode cX12_ahead 93 = .ok (.getfield 82, 3) := by decide +kernel
theorem dX12_ahead_96 : decode cX12_ahead 96 = .ok (.bipush 32, 2) := by decide +kernel
theorem dX12_ahead_98 : decode cX12_ahead 98 = .ok (.invokevirtual 337, 3) := by decide +kernel
theorem dX12_ahead_101 : decode cX12_ahead 101 = .ok (.ireturn, 1) := by decide +kernel
theorem dX12_ahead_102 : decode cX12_ahead 102 = .ok (.iconst 0, 1) := by decide +kernel
theorem dX12_ahead_103 : decode cX12_ahead 103 = .ok (.istore_n 3, 1) := by decide +kernel
theorem dX12_ahead_104 : decode cX12_ahead 104 = .ok (.iconst 0, 1) := by decide +kernel
theorem dX12_ahead_105 : decode cX12_ahead 105 = .ok (.istore 4, 2) := by decide +kernel
theorem dX12_ahead_107 : decode cX12_ahead 107 = .ok (.iload 4, 2) := by decide +kernel
theorem dX12_ahead_109 : decode cX12_ahead 109 = .ok (.aload_n 0, 1) := by decide +kernel
theorem dX12_ahead_110 : decode cX12_ahead 110 = .ok (.getfield 23, 3) := by decide +kernel
theorem dX12_ahead_113 : decode cX12_ahead 113 = .ok (.iconst 1, 1) := by decide +kernel
theorem dX12_ahead_114 : decode cX12_ahead 114 = .ok (.iaload, 1) := by decide +kernel
theorem dX12_ahead_115 : decode cX12_ahead 115 = .ok (.if_icmp .ge 24, 3) := by decide +kernel
theorem dX12_ahead_118 : decode cX12_ahead 118 = .ok (.iload_n 3, 1) := by decide +kernel
theorem dX12_ahead_119 : decode cX12_ahead 119 = .ok (.aload_n 0, 1) := by decide +kernel
theorem dX12_ahead_120 : decode cX12_ahead 120 = .ok (.getfield 82, 3) := by decide +kernel
theorem dX12_ahead_123 : decode cX12_ahead 123 = .ok (.bipush 16, 2) := by decide +kernel
theorem dX12_ahead_125 : decode cX12_ahead 125 = .ok (.iload 4, 2) := by decide +kernel
theorem dX12_ahead_127 : decode cX12_ahead 127 = .ok (.iadd, 1) := by decide +kernel
theorem dX12_ahead_128 : decode cX12_ahead 128 = .ok (.iaload, 1) := by decide +kernel
theorem dX12_ahead_129 : decode cX12_ahead 129 = .ok (.invokestatic 261, 3) := by decide +kernel
theorem dX12_ahead_132 : decode cX12_ahead 132 = .ok (.istore_n 3, 1) := by decide +kernel
theorem dX12_ahead_133 : decode cX12_ahead 133 = .ok (.iinc 4 1, 3) := by decide +kernel
theorem dX12_ahead_136 : decode cX12_ahead 136 = .ok (.goto (-29), 3) := by decide +kernel
theorem dX12_ahead_139 : decode cX12_ahead 139 = .ok (.iload_n 3, 1) := by decide +kernel
theorem dX12_ahead_140 : decode cX12_ahead 140 = .ok (.ireturn, 1) := by decide +kernel
set_option maxRecDepth 100000 in
theorem T_X12_ahead_0 {G : GE} {d C S : Nat} {ρ : Rs} : Snd G MX12_ahead (d + 1) C S 0 ρ (s_aload 0 (s_iconst 0 (s_putI 11 0 (s_aload 0 (s_iload 1 (s_iconst 0 (s_iconst 60 (s_call G d MX12_in 3 (s_if_eq (s_iconst 1 (s_iconst 1 (s_iconst 2 (s_callV G d MX12_bad 3 11 (s_if_eq (s_aload 0 (s_getR 11 33 (s_aload 0 (s_getR 11 34 (s_call G d MX12_copies 2 (s_iconst 0 (s_istore 3 (fun L st h => E G MX12_ahead (d + 1) C S 53 L st h ρ)))))))) (s_iconst 0 (s_ireturn ρ))))))) (s_iload 2 (s_iconst 0 (s_iconst 2 (s_call G d MX12_in 3 (s_if_ne (s_iconst 0 (s_iconst 1 (s_iconst 2 (s_callV G d MX12_bad 3 11 (s_if_eq (s_aload 0 (s_getR 11 33 (s_aload 0 (s_getR 11 34 (s_call G d MX12_copies 2 (s_iconst 0 (s_istore 3 (fun L st h => E G MX12_ahead (d + 1) C S 53 L st h ρ)))))))) (s_iconst 0 (s_ireturn ρ))))))) (s_iconst 1 (s_iconst 1 (s_iconst 2 (s_callV G d MX12_bad 3 11 (s_if_eq (s_aload 0 (s_getR 11 33 (s_aload 0 (s_getR 11 34 (s_call G d MX12_copies 2 (s_iconst 0 (s_istore 3 (fun L st h => E G MX12_ahead (d + 1) C S 53 L st h ρ)))))))) (s_iconst 0 (s_ireturn ρ))))))))))))))))))))) := (e_aload_n dX12_ahead_0 rfl (e_iconst (v := 0) dX12_ahead_1 (by decide) (e_putI rfl cl_11 (by decide) rfl rfl rfl q_1564 dX12_ahead_2 (e_aload_n dX12_ahead_5 rfl (e_iload_n dX12_ahead_6 rfl (e_iconst (v := 0) dX12_ahead_7 (by decide) (e_bipush (v := 60) dX12_ahead_8 (by decide) (e_callS cal_X12_in q_1739 q_1740 dX12_ahead_10 (e_if_eq (tgt := 25) dX12_ahead_13 (by decide) (e_iconst (v := 1) dX12_ahead_25 (by decide) (e_goto (tgt := 30) dX12_ahead_26 (by decide) (e_iconst (v := 1) dX12_ahead_30 (by decide) (e_iconst (v := 2) dX12_ahead_31 (by decide) (e_callV cl_11 cal_X12_bad q_1742 q_1744 q_53 dX12_ahead_32 (e_if_eq (tgt := 40) dX12_ahead_35 (by decide) (e_aload_n dX12_ahead_40 rfl (e_getR rfl cl_11 (by decide) rfl q_1597 dX12_ahead_41 (e_aload_n dX12_ahead_44 rfl (e_getR rfl cl_11 (by decide) rfl q_1598 dX12_ahead_45 (e_callS cal_X12_copies q_1867 q_1868 dX12_ahead_48 (e_iconst (v := 0) dX12_ahead_51 (by decide) (e_istore_n dX12_ahead_52 rfl (by decide) (fun _ _ _ h9 => h9)))))))) (e_iconst (v := 0) dX12_ahead_38 (by decide) (e_ireturn rfl dX12_ahead_39)))))))) (e_iload_n dX12_ahead_16 rfl (e_iconst (v := 0) dX12_ahead_17 (by decide) (e_iconst (v := 2) dX12_ahead_18 (by decide) (e_callS cal_X12_in q_1739 q_1740 dX12_ahead_19 (e_if_ne (tgt := 29) dX12_ahead_22 (by decide) (e_iconst (v := 0) dX12_ahead_29 (by decide) (e_iconst (v := 1) dX12_ahead_30 (by decide) (e_iconst (v := 2) dX12_ahead_31 (by decide) (e_callV cl_11 cal_X12_bad q_1742 q_1744 q_53 dX12_ahead_32 (e_if_eq (tgt := 40) dX12_ahead_35 (by decide) (e_aload_n dX12_ahead_40 rfl (e_getR rfl cl_11 (by decide) rfl q_1597 dX12_ahead_41 (e_aload_n dX12_ahead_44 rfl (e_getR rfl cl_11 (by decide) rfl q_1598 dX12_ahead_45 (e_callS cal_X12_copies q_1867 q_1868 dX12_ahead_48 (e_iconst (v := 0) dX12_ahead_51 (by decide) (e_istore_n dX12_ahead_52 rfl (by decide) (fun _ _ _ h9 => h9)))))))) (e_iconst (v := 0) dX12_ahead_38 (by decide) (e_ireturn rfl dX12_ahead_39))))))) (e_iconst (v := 1) dX12_ahead_25 (by decide) (e_goto (tgt := 30) dX12_ahead_26 (by decide) (e_iconst (v := 1) dX12_ahead_30 (by decide) (e_iconst (v := 2) dX12_ahead_31 (by decide) (e_callV cl_11 cal_X12_bad q_1742 q_1744 q_53 dX12_ahead_32 (e_if_eq (tgt := 40) dX12_ahead_35 (by decide) (e_aload_n dX12_ahead_40 rfl (e_getR rfl cl_11 (by decide) rfl q_1597 dX12_ahead_41 (e_aload_n dX12_ahead_44 rfl (e_getR rfl cl_11 (by decide) rfl q_1598 dX12_ahead_45 (e_callS cal_X12_copies q_1867 q_1868 dX12_ahead_48 (e_iconst (v := 0) dX12_ahead_51 (by decide) (e_istore_n dX12_ahead_52 rfl (by decide) (fun _ _ _ h9 => h9)))))))) (e_iconst (v := 0) dX12_ahead_38 (by decide) (e_ireturn rfl dX12_ahead_39))))))))))))))))))))))
set_option maxRecDepth 100000 in
theorem T_X12_ahead_53 {G : GE} {d C S : Nat} {ρ : Rs} : Snd G MX12_ahead (d + 1) C S 53 ρ (s_iload 3 (s_iload 1 (s_ic_ge (s_iload 2 (s_if_ne (s_iload 2 (s_iconst 1 (s_ic_ne (s_iconst 0 (s_istore 3 (s_iconst 0 (s_istore 4 (fun L st h => E G MX12_ahead (d + 1) C S 107 L st h ρ))))) (s_aload 0 (s_aload 0 (s_getR 11 34 (s_iconst 32 (s_callV G d MX12_sumOf 2 11 (s_ireturn ρ))))))))) (s_aload 0 (s_aload 0 (s_getR 11 34 (s_callV G d MX12_couplesIn 1 11 (s_ireturn ρ))))))) (s_aload 0 (s_aload 0 (s_getR 11 34 (s_callV G d MX12_yearEnds 1 11 (s_pop (s_iinc 3 1 (fun L st h => E G MX12_ahead (d + 1) C S 53 L st h ρ)))))))))) := (e_iload_n dX12_ahead_53 rfl (e_iload_n dX12_ahead_54 rfl (e_ic_ge (tgt := 73) dX12_ahead_55 (by decide) (e_iload_n dX12_ahead_73 rfl (e_if_ne (tgt := 86) dX12_ahead_74 (by decide) (e_iload_n dX12_ahead_86 rfl (e_iconst (v := 1) dX12_ahead_87 (by decide) (e_ic_ne (tgt := 102) dX12_ahead_88 (by decide) (e_iconst (v := 0) dX12_ahead_102 (by decide) (e_istore_n dX12_ahead_103 rfl (by decide) (e_iconst (v := 0) dX12_ahead_104 (by decide) (e_istore dX12_ahead_105 (by decide) (fun _ _ _ h9 => h9))))) (e_aload_n dX12_ahead_91 rfl (e_aload_n dX12_ahead_92 rfl (e_getR rfl cl_11 (by decide) rfl q_1598 dX12_ahead_93 (e_bipush (v := 32) dX12_ahead_96 (by decide) (e_callV cl_11 cal_X12_sumOf q_1937 q_1939 q_85 dX12_ahead_98 (e_ireturn rfl dX12_ahead_101))))))))) (e_aload_n dX12_ahead_77 rfl (e_aload_n dX12_ahead_78 rfl (e_getR rfl cl_11 (by decide) rfl q_1598 dX12_ahead_79 (e_callV cl_11 cal_X12_couplesIn q_1933 q_1935 q_84 dX12_ahead_82 (e_ireturn rfl dX12_ahead_85))))))) (e_aload_n dX12_ahead_58 rfl (e_aload_n dX12_ahead_59 rfl (e_getR rfl cl_11 (by decide) rfl q_1598 dX12_ahead_60 (e_callV cl_11 cal_X12_yearEnds q_1921 q_1923 q_83 dX12_ahead_63 (e_pop dX12_ahead_66 (e_iinc (v := 1) dX12_ahead_67 (by decide) (by decide) (e_goto (tgt := 53) dX12_ahead_70 (by decide) (fun _ _ _ h9 => h9)))))))))))
set_option maxRecDepth 100000 in
theorem T_X12_ahead_107 {G : GE} {d C S : Nat} {ρ : Rs} : Snd G MX12_ahead (d + 1) C S 107 ρ (s_iload 4 (s_aload 0 (s_getR 11 12 (s_iconst 1 (s_iaload (s_ic_ge (s_iload 3 (s_ireturn ρ)) (s_iload 3 (s_aload 0 (s_getR 11 34 (s_iconst 16 (s_iload 4 (s_iadd (s_iaload (s_call G d MX12_more 2 (s_istore 3 (s_iinc 4 1 (fun L st h => E G MX12_ahead (d + 1) C S 107 L st h ρ))))))))))))))))) := (e_iload dX12_ahead_107 (e_aload_n dX12_ahead_109 rfl (e_getR rfl cl_11 (by decide) rfl q_1576 dX12_ahead_110 (e_iconst (v := 1) dX12_ahead_113 (by decide) (e_iaload dX12_ahead_114 (e_ic_ge (tgt := 139) dX12_ahead_115 (by decide) (e_iload_n dX12_ahead_139 rfl (e_ireturn rfl dX12_ahead_140)) (e_iload_n dX12_ahead_118 rfl (e_aload_n dX12_ahead_119 rfl (e_getR rfl cl_11 (by decide) rfl q_1598 dX12_ahead_120 (e_bipush (v := 16) dX12_ahead_123 (by decide) (e_iload dX12_ahead_125 (e_iadd dX12_ahead_127 (e_iaload dX12_ahead_128 (e_callS cal_X12_more q_1906 q_1907 dX12_ahead_129 (e_istore_n dX12_ahead_132 rfl (by decide) (e_iinc (v := 1) dX12_ahead_133 (by decide) (by decide) (e_goto (tgt := 107) dX12_ahead_136 (by decide) (fun _ _ _ h9 => h9))))))))))))))))))
theorem dX12_draw_0 : decode cX12_draw 0 = .ok (.aload_n 0, 1) := by decide +kernel
theorem dX12_draw_1 : decode cX12_draw 1 = .ok (.aload_n 0, 1) := by decide +kernel
theorem dX12_draw_2 : decode cX12_draw 2 = .ok (.getfield 422, 3) := by decide +kernel
theorem dX12_draw_5 : decode cX12_draw 5 = .ok (.ldc_w 425, 3) := by decide +kernel
theorem dX12_draw_8 : decode cX12_draw 8 = .ok (.imul, 1) := by decide +kernel
theorem dX12_draw_9 : decode cX12_draw 9 = .ok (.sipush 12345, 3) := by decide +kernel
theorem dX12_draw_12 : decode cX12_draw 12 = .ok (.iadd, 1) := by decide +kernel
theorem dX12_draw_13 : decode cX12_draw 13 = .ok (.putfield 422, 3) := by decide +kernel
theorem dX12_draw_16 : decode cX12_draw 16 = .ok (.aload_n 0, 1) := by decide +kernel
theorem dX12_draw_17 : decode cX12_draw 17 = .ok (.getfield 422, 3) := by decide +kernel
theorem dX12_draw_20 : decode cX12_draw 20 = .ok (.bipush 16, 2) := by decide +kernel
theorem dX12_draw_22 : decode cX12_draw 22 = .ok (.ishr, 1) := by decide +kernel
theorem dX12_draw_23 : decode cX12_draw 23 = .ok (.sipush 32767, 3) := by decide +kernel
theorem dX12_draw_26 : decode cX12_draw 26 = .ok (.iand, 1) := by decide +kernel
theorem dX12_draw_27 : decode cX12_draw 27 = .ok (.iload_n 1, 1) := by decide +kernel
theorem dX12_draw_28 : decode cX12_draw 28 = .ok (.irem, 1) := by decide +kernel
theorem dX12_draw_29 : decode cX12_draw 29 = .ok (.ireturn, 1) := by decide +kernel
set_option maxRecDepth 100000 in
theorem T_X12_draw_0 {G : GE} {d C S : Nat} {ρ : Rs} : Snd G MX12_draw d C S 0 ρ (s_aload 0 (s_aload 0 (s_getI 11 52 (s_iconst 1103515245 (s_imul (s_iconst 12345 (s_iadd (s_putI 11 52 (s_aload 0 (s_getI 11 52 (s_iconst 16 (s_ishr (s_iconst 32767 (s_iand (s_iload 1 (s_irem (s_ireturn ρ))))))))))))))))) := (e_aload_n dX12_draw_0 rfl (e_aload_n dX12_draw_1 rfl (e_getI rfl cl_11 (by decide) rfl q_1616 dX12_draw_2 (e_ldcw q_2148 dX12_draw_5 (e_imul dX12_draw_8 (e_sipush (v := 12345) dX12_draw_9 (by decide) (e_iadd dX12_draw_12 (e_putI rfl cl_11 (by decide) rfl rfl rfl q_1616 dX12_draw_13 (e_aload_n dX12_draw_16 rfl (e_getI rfl cl_11 (by decide) rfl q_1616 dX12_draw_17 (e_bipush (v := 16) dX12_draw_20 (by decide) (e_ishr dX12_draw_22 (e_sipush (v := 32767) dX12_draw_23 (by decide) (e_iand dX12_draw_26 (e_iload_n dX12_draw_27 rfl (e_irem dX12_draw_28 (e_ireturn rfl dX12_draw_29)))))))))))))))))
theorem dX12_centuriesBy_0 : decode cX12_centuriesBy 0 = .ok (.aload_n 0, 1) := by decide +kernel
theorem dX12_centuriesBy_1 : decode cX12_centuriesBy 1 = .ok (.getfield 79, 3) := by decide +kernel
theorem dX12_centuriesBy_4 : decode cX12_centuriesBy 4 = .ok (.aload_n 0, 1) := by decide +kernel
theorem dX12_centuriesBy_5 : decode cX12_centuriesBy 5 = .ok (.getfield 82, 3) := by decide +kernel
theorem dX12_centuriesBy_8 : decode cX12_centuriesBy 8 = .ok (.invokestatic 329, 3) := by decide +kernel
theorem dX12_centuriesBy_11 : decode cX12_centuriesBy 11 = .ok (.aload_n 0, 1) := by decide +kernel
theorem dX12_centuriesBy_12 : decode cX12_centuriesBy 12 = .ok (.iload_n 1, 1) := by decide +kernel
theorem dX12_centuriesBy_13 : decode cX12_centuriesBy 13 = .ok (.putfield 422, 3) := by decide +kernel
theorem dX12_centuriesBy_16 : decode cX12_centuriesBy 16 = .ok (.aload_n 0, 1) := by decide +kernel
theorem dX12_centuriesBy_17 : decode cX12_centuriesBy 17 = .ok (.iconst 0, 1) := by decide +kernel
theorem dX12_centuriesBy_18 : decode cX12_centuriesBy 18 = .ok (.putfield 426, 3) := by decide +kernel
theorem dX12_centuriesBy_21 : decode cX12_centuriesBy 21 = .ok (.iconst 0, 1) := by decide +kernel
theorem dX12_centuriesBy_22 : decode cX12_centuriesBy 22 = .ok (.istore 4, 2) := by decide +kernel
theorem dX12_centuriesBy_24 : decode cX12_centuriesBy 24 = .ok (.iload 4, 2) := by decide +kernel
theorem dX12_centuriesBy_26 : decode cX12_centuriesBy 26 = .ok (.iload_n 3, 1) := by decide +kernel
theorem dX12_centuriesBy_27 : decode cX12_centuriesBy 27 = .ok (.if_icmp .ge 71, 3) := by decide +kernel
theorem dX12_centuriesBy_30 : decode cX12_centuriesBy 30 = .ok (.aload_n 0, 1) := by decide +kernel
theorem dX12_centuriesBy_31 : decode cX12_centuriesBy 31 = .ok (.getfield 23, 3) := by decide +kernel
theorem dX12_centuriesBy_34 : decode cX12_centuriesBy 34 = .ok (.iconst 1, 1) := by decide +kernel
theorem dX12_centuriesBy_35 : decode cX12_centuriesBy 35 = .ok (.iaload, 1) := by decide +kernel
theorem dX12_centuriesBy_36 : decode cX12_centuriesBy 36 = .ok (.ifCond .le 47, 3) := by decide +kernel
theorem dX12_centuriesBy_39 : decode cX12_centuriesBy 39 = .ok (.aload_n 0, 1) := by decide +kernel
theorem dX12_centuriesBy_40 : decode cX12_centuriesBy 40 = .ok (.bipush 16, 2) := by decide +kernel
theorem dX12_centuriesBy_42 : decode cX12_centuriesBy 42 = .ok (.invokevirtual 429, 3) := by decide +kernel
theorem dX12_centuriesBy_45 : decode cX12_centuriesBy 45 = .ok (.iload_n 2, 1) := by decide +kernel
theorem dX12_centuriesBy_46 : decode cX12_centuriesBy 46 = .ok (.if_icmp .ge 37, 3) := by decide +kernel
theorem dX12_centuriesBy_49 : decode cX12_centuriesBy 49 = .ok (.aload_n 0, 1) := by decide +kernel
theorem dX12_centuriesBy_50 : decode cX12_centuriesBy 50 = .ok (.dup, 1) := by decide +kernel
theorem dX12_centuriesBy_51 : decode cX12_centuriesBy 51 = .ok (.getfield 426, 3) := by decide +kernel
theorem dX12_centuriesBy_54 : decode cX12_centuriesBy 54 = .ok (.aload_n 0, 1) := by decide +kernel
theorem dX12_centuriesBy_55 : decode cX12_centuriesBy 55 = .ok (.getfield 82, 3) := by decide +kernel
theorem dX12_centuriesBy_58 : decode cX12_centuriesBy 58 = .ok (.aload_n 0, 1) := by decide +kernel
theorem dX12_centuriesBy_59 : decode cX12_centuriesBy 59 = .ok (.aload_n 0, 1) := by decide +kernel
theorem dX12_centuriesBy_60 : decode cX12_centuriesBy 60 = .ok (.getfield 23, 3) := by decide +kernel
theorem dX12_centuriesBy_63 : decode cX12_centuriesBy 63 = .ok (.iconst 1, 1) := by decide +kernel
theorem dX12_centuriesBy_64 : decode cX12_centuriesBy 64 = .ok (.iaload, 1) := by decide +kernel
theorem dX12_centuriesBy_65 : decode cX12_centuriesBy 65 = .ok (.invokevirtual 429, 3) := by decide +kernel
theorem dX12_centuriesBy_68 : decode cX12_centuriesBy 68 = .ok (.invokestatic 305, 3) := by decide +kernel
theorem dX12_centuriesBy_71 : decode cX12_centuriesBy 71 = .ok (.ifCond .eq 7, 3) := by decide +kernel
theorem dX12_centuriesBy_74 : decode cX12_centuriesBy 74 = .ok (.iconst 1, 1) := by decide +kernel
theorem dX12_centuriesBy_75 : decode cX12_centuriesBy 75 = .ok (.goto 4, 3) := by decide +kernel
theorem dX12_centuriesBy_78 : decode cX12_centuriesBy 78 = .ok (.iconst 0, 1) := by decide +kernel
theorem dX12_centuriesBy_79 : decode cX12_centuriesBy 79 = .ok (.iadd, 1) := by decide +kernel
theorem dX12_centuriesBy_80 : decode cX12_centuriesBy 80 = .ok (.putfield 426, 3) := by decide +kernel
theorem dX12_centuriesBy_83 : decode cX12_centuriesBy 83 = .ok (.aload_n 0, 1) := by decide +kernel
theorem dX12_centuriesBy_84 : decode cX12_centuriesBy 84 = .ok (.aload_n 0, 1) := by decide +kernel
theorem dX12_centuriesBy_85 : decode cX12_centuriesBy 85 = .ok (.getfield 82, 3) := by decide +kernel
theorem dX12_centuriesBy_88 : decode cX12_centuriesBy 88 = .ok (.invokevirtual 312, 3) := by decide +kernel
theorem dX12_centuriesBy_91 : decode cX12_centuriesBy 91 = .ok (.pop, 1) := by decide +kernel
theorem dX12_centuriesBy_92 : decode cX12_centuriesBy 92 = .ok (.iinc 4 1, 3) := by decide +kernel
theorem dX12_centuriesBy_95 : decode cX12_centuriesBy 95 = .ok (.goto (-71), 3) := by decide +kernel
theorem dX12_centuriesBy_98 : decode cX12_centuriesBy 98 = .ok (.return_, 1) := by decide +kernel
set_option maxRecDepth 100000 in
theorem T_X12_centuriesBy_0 {G : GE} {d C S : Nat} {ρ : Rs} : Snd G MX12_centuriesBy (d + 1) C S 0 ρ (s_aload 0 (s_getR 11 33 (s_aload 0 (s_getR 11 34 (s_call G d MX12_copies 2 (s_aload 0 (s_iload 1 (s_putI 11 52 (s_aload 0 (s_iconst 0 (s_putI 11 53 (s_iconst 0 (s_istore 4 (fun L st h => E G MX12_centuriesBy (d + 1) C S 24 L st h ρ)))))))))))))) := (e_aload_n dX12_centuriesBy_0 rfl (e_getR rfl cl_11 (by decide) rfl q_1597 dX12_centuriesBy_1 (e_aload_n dX12_centuriesBy_4 rfl (e_getR rfl cl_11 (by decide) rfl q_1598 dX12_centuriesBy_5 (e_callS cal_X12_copies q_1867 q_1868 dX12_centuriesBy_8 (e_aload_n dX12_centuriesBy_11 rfl (e_iload_n dX12_centuriesBy_12 rfl (e_putI rfl cl_11 (by decide) rfl rfl rfl q_1616 dX12_centuriesBy_13 (e_aload_n dX12_centuriesBy_16 rfl (e_iconst (v := 0) dX12_centuriesBy_17 (by decide) (e_putI rfl cl_11 (by decide) rfl rfl rfl q_1617 dX12_centuriesBy_18 (e_iconst (v := 0) dX12_centuriesBy_21 (by decide) (e_istore dX12_centuriesBy_22 (by decide) (fun _ _ _ h9 => h9))))))))))))))
set_option maxRecDepth 100000 in
theorem T_X12_centuriesBy_24 {G : GE} {d C S : Nat} {ρ : Rs} : Snd G MX12_centuriesBy (d + 1) C S 24 ρ (s_iload 4 (s_iload 3 (s_ic_ge (s_return ρ) (s_aload 0 (s_getR 11 12 (s_iconst 1 (s_iaload (s_if_le (s_aload 0 (s_aload 0 (s_getR 11 34 (s_callV G d MX12_yearEnds 1 11 (s_pop (s_iinc 4 1 (fun L st h => E G MX12_centuriesBy (d + 1) C S 24 L st h ρ))))))) (s_aload 0 (s_iconst 16 (s_callV G d MX12_draw 1 11 (s_iload 2 (s_ic_ge (s_aload 0 (s_aload 0 (s_getR 11 34 (s_callV G d MX12_yearEnds 1 11 (s_pop (s_iinc 4 1 (fun L st h => E G MX12_centuriesBy (d + 1) C S 24 L st h ρ))))))) (s_aload 0 (s_dup (s_getI 11 53 (s_aload 0 (s_getR 11 34 (s_aload 0 (s_aload 0 (s_getR 11 12 (s_iconst 1 (s_iaload (s_callV G d MX12_draw 1 11 (s_call G d MX12_quarrels 2 (s_if_eq (s_iconst 0 (s_iadd (s_putI 11 53 (s_aload 0 (s_aload 0 (s_getR 11 34 (s_callV G d MX12_yearEnds 1 11 (s_pop (s_iinc 4 1 (fun L st h => E G MX12_centuriesBy (d + 1) C S 24 L st h ρ)))))))))) (s_iconst 1 (s_iadd (s_putI 11 53 (s_aload 0 (s_aload 0 (s_getR 11 34 (s_callV G d MX12_yearEnds 1 11 (s_pop (s_iinc 4 1 (fun L st h => E G MX12_centuriesBy (d + 1) C S 24 L st h ρ)))))))))))))))))))))))))))))))))))) := (e_iload dX12_centuriesBy_24 (e_iload_n dX12_centuriesBy_26 rfl (e_ic_ge (tgt := 98) dX12_centuriesBy_27 (by decide) (e_return rfl dX12_centuriesBy_98) (e_aload_n dX12_centuriesBy_30 rfl (e_getR rfl cl_11 (by decide) rfl q_1576 dX12_centuriesBy_31 (e_iconst (v := 1) dX12_centuriesBy_34 (by decide) (e_iaload dX12_centuriesBy_35 (e_if_le (tgt := 83) dX12_centuriesBy_36 (by decide) (e_aload_n dX12_centuriesBy_83 rfl (e_aload_n dX12_centuriesBy_84 rfl (e_getR rfl cl_11 (by decide) rfl q_1598 dX12_centuriesBy_85 (e_callV cl_11 cal_X12_yearEnds q_1921 q_1923 q_83 dX12_centuriesBy_88 (e_pop dX12_centuriesBy_91 (e_iinc (v := 1) dX12_centuriesBy_92 (by decide) (by decide) (e_goto (tgt := 24) dX12_centuriesBy_95 (by decide) (fun _ _ _ h9 => h9)))))))) (e_aload_n dX12_centuriesBy_39 rfl (e_bipush (v := 16) dX12_centuriesBy_40 (by decide) (e_callV cl_11 cal_X12_draw q_2144 q_2146 q_106 dX12_centuriesBy_42 (e_iload_n dX12_centuriesBy_45 rfl (e_ic_ge (tgt := 83) dX12_centuriesBy_46 (by decide) (e_aload_n dX12_centuriesBy_83 rfl (e_aload_n dX12_centuriesBy_84 rfl (e_getR rfl cl_11 (by decide) rfl q_1598 dX12_centuriesBy_85 (e_callV cl_11 cal_X12_yearEnds q_1921 q_1923 q_83 dX12_centuriesBy_88 (e_pop dX12_centuriesBy_91 (e_iinc (v := 1) dX12_centuriesBy_92 (by decide) (by decide) (e_goto (tgt := 24) dX12_centuriesBy_95 (by decide) (fun _ _ _ h9 => h9)))))))) (e_aload_n dX12_centuriesBy_49 rfl (e_dup dX12_centuriesBy_50 (e_getI rfl cl_11 (by decide) rfl q_1617 dX12_centuriesBy_51 (e_aload_n dX12_centuriesBy_54 rfl (e_getR rfl cl_11 (by decide) rfl q_1598 dX12_centuriesBy_55 (e_aload_n dX12_centuriesBy_58 rfl (e_aload_n dX12_centuriesBy_59 rfl (e_getR rfl cl_11 (by decide) rfl q_1576 dX12_centuriesBy_60 (e_iconst (v := 1) dX12_centuriesBy_63 (by decide) (e_iaload dX12_centuriesBy_64 (e_callV cl_11 cal_X12_draw q_2144 q_2146 q_106 dX12_centuriesBy_65 (e_callS cal_X12_quarrels q_1915 q_1916 dX12_centuriesBy_68 (e_if_eq (tgt := 78) dX12_centuriesBy_71 (by decide) (e_iconst (v := 0) dX12_centuriesBy_78 (by decide) (e_iadd dX12_centuriesBy_79 (e_putI rfl cl_11 (by decide) rfl rfl rfl q_1617 dX12_centuriesBy_80 (e_aload_n dX12_centuriesBy_83 rfl (e_aload_n dX12_centuriesBy_84 rfl (e_getR rfl cl_11 (by decide) rfl q_1598 dX12_centuriesBy_85 (e_callV cl_11 cal_X12_yearEnds q_1921 q_1923 q_83 dX12_centuriesBy_88 (e_pop dX12_centuriesBy_91 (e_iinc (v := 1) dX12_centuriesBy_92 (by decide) (by decide) (e_goto (tgt := 24) dX12_centuriesBy_95 (by decide) (fun _ _ _ h9 => h9))))))))))) (e_iconst (v := 1) dX12_centuriesBy_74 (by decide) (e_goto (tgt := 79) dX12_centuriesBy_75 (by decide) (e_iadd dX12_centuriesBy_79 (e_putI rfl cl_11 (by decide) rfl rfl rfl q_1617 dX12_centuriesBy_80 (e_aload_n dX12_centuriesBy_83 rfl (e_aload_n dX12_centuriesBy_84 rfl (e_getR rfl cl_11 (by decide) rfl q_1598 dX12_centuriesBy_85 (e_callV cl_11 cal_X12_yearEnds q_1921 q_1923 q_83 dX12_centuriesBy_88 (e_pop dX12_centuriesBy_91 (e_iinc (v := 1) dX12_centuriesBy_92 (by decide) (by decide) (e_goto (tgt := 24) dX12_centuriesBy_95 (by decide) (fun _ _ _ h9 => h9))))))))))))))))))))))))))))))))))))))
theorem dX12_centuries_0 : decode cX12_centuries 0 = .ok (.aload_n 0, 1) := by decide +kernel
theorem dX12_centuries_1 : decode cX12_centuries 1 = .ok (.iconst 0, 1) := by decide +kernel
theorem dX12_centuries_2 : decode cX12_centuries 2 = .ok (.putfield 115, 3) := by decide +kernel
theorem dX12_centuries_5 : decode cX12_centuries 5 = .ok (.aload_n 0, 1) := by decide +kernel
theorem dX12_centuries_6 : decode cX12_centuries 6 = .ok (.iload_n 2, 1) := by decide +kernel
theorem dX12_centuries_7 : decode cX12_centuries 7 = .ok (.iconst 0, 1) := by decide +kernel
theorem dX12_centuries_8 : decode cX12_centuries 8 = .ok (.bipush 16, 2) := by decide +kernel
theorem dX12_centuries_10 : decode cX12_centuries 10 = .ok (.invokestatic 149, 3) := by decide +kernel
theorem dX12_centuries_13 : decode cX12_centuries 13 = .ok (.ifCond .eq 23, 3) := by decide +kernel
theorem dX12_centuries_16 : decode cX12_centuries 16 = .ok (.iload_n 3, 1) := by decide +kernel
theorem dX12_centuries_17 : decode cX12_centuries 17 = .ok (.iconst 1, 1) := by decide +kernel
theorem dX12_centuries_18 : decode cX12_centuries 18 = .ok (.bipush 100, 2) := by decide +kernel
theorem dX12_centuries_20 : decode cX12_centuries 20 = .ok (.invokestatic 149, 3) := by decide +kernel
theorem dX12_centuries_23 : decode cX12_centuries 23 = .ok (.ifCond .eq 13, 3) := by decide +kernel
theorem dX12_centuries_26 : decode cX12_centuries 26 = .ok (.iload 4, 2) := by decide +kernel
theorem dX12_centuries_28 : decode cX12_centuries 28 = .ok (.iconst 0, 1) := by decide +kernel
theorem dX12_centuries_29 : decode cX12_centuries 29 = .ok (.iconst 3, 1) := by decide +kernel
theorem dX12_centuries_30 : decode cX12_centuries 30 = .ok (.invokestatic 149, 3) := by decide +kernel
theorem dX12_centuries_33 : decode cX12_centuries 33 = .ok (.ifCond .ne 7, 3) := by decide +kernel
theorem dX12_centuries_36 : decode cX12_centuries 36 = .ok (.iconst 1, 1) := by decide +kernel
theorem dX12_centuries_37 : decode cX12_centuries 37 = .ok (.goto 4, 3) := by decide +kernel
theorem dX12_centuries_40 : decode cX12_centuries 40 = .ok (.iconst 0, 1) := by decide +kernel
theorem dX12_centuries_41 : decode cX12_centuries 41 = .ok (.iconst 1, 1) := by decide +kernel
theorem dX12_centuries_42 : decode cX12_centuries 42 = .ok (.iconst 2, 1) := by decide +kernel
theorem dX12_centuries_43 : decode cX12_centuries 43 = .ok (.invokevirtual 198, 3) := by decide +kernel
theorem dX12_centuries_46 : decode cX12_centuries 46 = .ok (.ifCond .eq 5, 3) := by decide +kernel
theorem dX12_centuries_49 : decode cX12_centuries 49 = .ok (.iconst 0, 1) := by decide +kernel
theorem dX12_centuries_50 : decode cX12_centuries 50 = .ok (.ireturn, 1) := by decide +kernel
theorem dX12_centuries_51 : decode cX12_centuries 51 = .ok (.aload_n 0, 1) := by decide +kernel
theorem dX12_centuries_52 : decode cX12_centuries 52 = .ok (.iload_n 1, 1) := by decide +kernel
theorem dX12_centuries_53 : decode cX12_centuries 53 = .ok (.iload_n 2, 1) := by decide +kernel
theorem dX12_centuries_54 : decode cX12_centuries 54 = .ok (.iload_n 3, 1) := by decide +kernel
theorem dX12_centuries_55 : decode cX12_centuries 55 = .ok (.invokevirtual 432, 3) := by decide +kernel
theorem dX12_centuries_58 : decode cX12_centuries 58 = .ok (.iload 4, 2) := by decide +kernel
theorem dX12_centuries_60 : decode cX12_centuries 60 = .ok (.ifCond .ne 14, 3) := by decide +kernel
theorem dX12_centuries_63 : decode cX12_centuries 63 = .ok (.aload_n 0, 1) := by decide +kernel
theorem dX12_centuries_64 : decode cX12_centuries 64 = .ok (.aload_n 0, 1) := by decide +kernel
theorem dX12_centuries_65 : decode cX12_centuries 65 = .ok (.getfield 82, 3) := by decide +kernel
theorem dX12_centuries_68 : decode cX12_centuries 68 = .ok (.invokevirtual 333, 3) := by decide +kernel
theorem dX12_centuries_71 : decode cX12_centuries 71 = .ok (.goto 50, 3) := by decide +kernel
theorem dX12_centuries_74 : decode cX12_centuries 74 = .ok (.iload 4, 2) := by decide +kernel
theorem dX12_centuries_76 : decode cX12_centuries 76 = .ok (.iconst 1, 1) := by decide +kernel
theorem dX12_centuries_77 : decode cX12_centuries 77 = .ok (.if_icmp .ne 21, 3) := by decide +kernel
theorem dX12_centuries_80 : decode cX12_centuries 80 = .ok (.aload_n 0, 1) := by decide +kernel
theorem dX12_centuries_81 : decode cX12_centuries 81 = .ok (.getfield 82, 3) := by decide +kernel
theorem dX12_centuries_84 : decode cX12_centuries 84 = .ok (.bipush 41, 2) := by decide +kernel
theorem dX12_centuries_86 : decode cX12_centuries 86 = .ok (.iaload, 1) := by decide +kernel
theorem dX12_centuries_87 : decode cX12_centuries 87 = .ok (.aload_n 0, 1) := by decide +kernel
theorem dX12_centuries_88 : decode cX12_centuries 88 = .ok (.getfield 79, 3) := by decide +kernel
theorem dX12_centuries_91 : decode cX12_centuries 91 = .ok (.bipush 41, 2) := by decide +kernel
theorem dX12_centuries_93 : decode cX12_centuries 93 = .ok (.iaload, 1) := by decide +kernel
theorem dX12_centuries_94 : decode cX12_centuries 94 = .ok (.isub, 1) := by decide +kernel
theorem dX12_centuries_95 : decode cX12_centuries 95 = .ok (.goto 26, 3) := by decide +kernel
theorem dX12_centuries_98 : decode cX12_centuries 98 = .ok (.iload 4, 2) := by decide +kernel
theorem dX12_centuries_100 : decode cX12_centuries 100 = .ok (.iconst 2, 1) := by decide +kernel
theorem dX12_centuries_101 : decode cX12_centuries 101 = .ok (.if_icmp .ne 16, 3) := by decide +kernel
theorem dX12_centuries_104 : decode cX12_centuries 104 = .ok (.aload_n 0, 1) := by decide +kernel
theorem dX12_centuries_105 : decode cX12_centuries 105 = .ok (.aload_n 0, 1) := by decide +kernel
theorem dX12_centuries_106 : decode cX12_centuries 106 = .ok (.getfield 82, 3) := by decide +kernel
theorem dX12_centuries_109 : decode cX12_centuries 109 = .ok (.bipush 32, 2) := by decide +kernel
theorem dX12_centuries_111 : decode cX12_centuries 111 = .ok (.invokevirtual 337, 3) := by decide +kernel
theorem dX12_centuries_114 : decode cX12_centuries 114 = .ok (.goto 7, 3) := by decide +kernel
theorem dX12_centuries_117 : decode cX12_centuries 117 = .ok (.aload_n 0, 1) := by decide +kernel
theorem dX12_centuries_118 : decode cX12_centuries 118 = .ok (.getfield 426, 3) := by decide +kernel
theorem dX12_centuries_121 : decode cX12_centuries 121 = .ok (.ireturn, 1) := by decide +kernel
set_option maxRecDepth 100000 in
theorem T_X12_centuries_0 {G : GE} {d C S : Nat} {ρ : Rs} : Snd G MX12_centuries (d + 1) C S 0 ρ (s_aload 0 (s_iconst 0 (s_putI 11 0 (s_aload 0 (s_iload 2 (s_iconst 0 (s_iconst 16 (s_call G d MX12_in 3 (s_if_eq (s_iconst 1 (fun L st h => E G MX12_centuries (d + 1) C S 41 L st h ρ)) (s_iload 3 (s_iconst 1 (s_iconst 100 (s_call G d MX12_in 3 (s_if_eq (s_iconst 1 (fun L st h => E G MX12_centuries (d + 1) C S 41 L st h ρ)) (s_iload 4 (s_iconst 0 (s_iconst 3 (s_call G d MX12_in 3 (s_if_ne (s_iconst 0 (fun L st h => E G MX12_centuries (d + 1) C S 41 L st h ρ)) (s_iconst 1 (fun L st h => E G MX12_centuries (d + 1) C S 41 L st h ρ))))))))))))))))))))) := (e_aload_n dX12_centuries_0 rfl (e_iconst (v := 0) dX12_centuries_1 (by decide) (e_putI rfl cl_11 (by decide) rfl rfl rfl q_1564 dX12_centuries_2 (e_aload_n dX12_centuries_5 rfl (e_iload_n dX12_centuries_6 rfl (e_iconst (v := 0) dX12_centuries_7 (by decide) (e_bipush (v := 16) dX12_centuries_8 (by decide) (e_callS cal_X12_in q_1739 q_1740 dX12_centuries_10 (e_if_eq (tgt := 36) dX12_centuries_13 (by decide) (e_iconst (v := 1) dX12_centuries_36 (by decide) (e_goto (tgt := 41) dX12_centuries_37 (by decide) (fun _ _ _ h9 => h9))) (e_iload_n dX12_centuries_16 rfl (e_iconst (v := 1) dX12_centuries_17 (by decide) (e_bipush (v := 100) dX12_centuries_18 (by decide) (e_callS cal_X12_in q_1739 q_1740 dX12_centuries_20 (e_if_eq (tgt := 36) dX12_centuries_23 (by decide) (e_iconst (v := 1) dX12_centuries_36 (by decide) (e_goto (tgt := 41) dX12_centuries_37 (by decide) (fun _ _ _ h9 => h9))) (e_iload dX12_centuries_26 (e_iconst (v := 0) dX12_centuries_28 (by decide) (e_iconst (v := 3) dX12_centuries_29 (by decide) (e_callS cal_X12_in q_1739 q_1740 dX12_centuries_30 (e_if_ne (tgt := 40) dX12_centuries_33 (by decide) (e_iconst (v := 0) dX12_centuries_40 (by decide) (fun _ _ _ h9 => h9)) (e_iconst (v := 1) dX12_centuries_36 (by decide) (e_goto (tgt := 41) dX12_centuries_37 (by decide) (fun _ _ _ h9 => h9))))))))))))))))))))))
set_option maxRecDepth 100000 in
theorem T_X12_centuries_41 {G : GE} {d C S : Nat} {ρ : Rs} : Snd G MX12_centuries (d + 1) C S 41 ρ (s_iconst 1 (s_iconst 2 (s_callV G d MX12_bad 3 11 (s_if_eq (s_aload 0 (s_iload 1 (s_iload 2 (s_iload 3 (s_callV G d MX12_centuriesBy 3 11 (s_iload 4 (s_if_ne (s_iload 4 (s_iconst 1 (s_ic_ne (s_iload 4 (s_iconst 2 (s_ic_ne (s_aload 0 (s_getI 11 53 (s_ireturn ρ))) (s_aload 0 (s_aload 0 (s_getR 11 34 (s_iconst 32 (s_callV G d MX12_sumOf 2 11 (s_ireturn ρ))))))))) (s_aload 0 (s_getR 11 34 (s_iconst 41 (s_iaload (s_aload 0 (s_getR 11 33 (s_iconst 41 (s_iaload (s_isub (s_ireturn ρ))))))))))))) (s_aload 0 (s_aload 0 (s_getR 11 34 (s_callV G d MX12_couplesIn 1 11 (s_ireturn ρ)))))))))))) (s_iconst 0 (s_ireturn ρ)))))) := (e_iconst (v := 1) dX12_centuries_41 (by decide) (e_iconst (v := 2) dX12_centuries_42 (by decide) (e_callV cl_11 cal_X12_bad q_1742 q_1744 q_53 dX12_centuries_43 (e_if_eq (tgt := 51) dX12_centuries_46 (by decide) (e_aload_n dX12_centuries_51 rfl (e_iload_n dX12_centuries_52 rfl (e_iload_n dX12_centuries_53 rfl (e_iload_n dX12_centuries_54 rfl (e_callV cl_11 cal_X12_centuriesBy q_2140 q_2142 q_105 dX12_centuries_55 (e_iload dX12_centuries_58 (e_if_ne (tgt := 74) dX12_centuries_60 (by decide) (e_iload dX12_centuries_74 (e_iconst (v := 1) dX12_centuries_76 (by decide) (e_ic_ne (tgt := 98) dX12_centuries_77 (by decide) (e_iload dX12_centuries_98 (e_iconst (v := 2) dX12_centuries_100 (by decide) (e_ic_ne (tgt := 117) dX12_centuries_101 (by decide) (e_aload_n dX12_centuries_117 rfl (e_getI rfl cl_11 (by decide) rfl q_1617 dX12_centuries_118 (e_ireturn rfl dX12_centuries_121))) (e_aload_n dX12_centuries_104 rfl (e_aload_n dX12_centuries_105 rfl (e_getR rfl cl_11 (by decide) rfl q_1598 dX12_centuries_106 (e_bipush (v := 32) dX12_centuries_109 (by decide) (e_callV cl_11 cal_X12_sumOf q_1937 q_1939 q_85 dX12_centuries_111 (e_goto (tgt := 121) dX12_centuries_114 (by decide) (e_ireturn rfl dX12_centuries_121)))))))))) (e_aload_n dX12_centuries_80 rfl (e_getR rfl cl_11 (by decide) rfl q_1598 dX12_centuries_81 (e_bipush (v := 41) dX12_centuries_84 (by decide) (e_iaload dX12_centuries_86 (e_aload_n dX12_centuries_87 rfl (e_getR rfl cl_11 (by decide) rfl q_1597 dX12_centuries_88 (e_bipush (v := 41) dX12_centuries_91 (by decide) (e_iaload dX12_centuries_93 (e_isub dX12_centuries_94 (e_goto (tgt := 121) dX12_centuries_95 (by decide) (e_ireturn rfl dX12_centuries_121)))))))))))))) (e_aload_n dX12_centuries_63 rfl (e_aload_n dX12_centuries_64 rfl (e_getR rfl cl_11 (by decide) rfl q_1598 dX12_centuries_65 (e_callV cl_11 cal_X12_couplesIn q_1933 q_1935 q_84 dX12_centuries_68 (e_goto (tgt := 121) dX12_centuries_71 (by decide) (e_ireturn rfl dX12_centuries_121))))))))))))) (e_iconst (v := 0) dX12_centuries_49 (by decide) (e_ireturn rfl dX12_centuries_50))))))
theorem dX12_span_0 : decode cX12_span 0 = .ok (.aload_n 0, 1) := by decide +kernel
theorem dX12_span_1 : decode cX12_span 1 = .ok (.iconst 0, 1) := by decide +kernel
theorem dX12_span_2 : decode cX12_span 2 = .ok (.putfield 115, 3) := by decide +kernel
theorem dX12_span_5 : decode cX12_span 5 = .ok (.aload_n 0, 1) := by decide +kernel
theorem dX12_span_6 : decode cX12_span 6 = .ok (.iload_n 2, 1) := by decide +kernel
theorem dX12_span_7 : decode cX12_span 7 = .ok (.iconst 1, 1) := by decide +kernel
theorem dX12_span_8 : decode cX12_span 8 = .ok (.bipush 20, 2) := by decide +kernel
theorem dX12_span_10 : decode cX12_span 10 = .ok (.invokestatic 149, 3) := by decide +kernel
theorem dX12_span_13 : decode cX12_span 13 = .ok (.ifCond .eq 43, 3) := by decide +kernel
theorem dX12_span_16 : decode cX12_span 16 = .ok (.iload_n 3, 1) := by decide +kernel
theorem dX12_span_17 : decode cX12_span 17 = .ok (.iconst 0, 1) := by decide +kernel
theorem dX12_span_18 : decode cX12_span 18 = .ok (.bipush 16, 2) := by decide +kernel
theorem dX12_span_20 : decode cX12_span 20 = .ok (.invokestatic 149, 3) := by decide +kernel
theorem dX12_span_23 : decode cX12_span 23 = .ok (.ifCond .eq 33, 3) := by decide +kernel
theorem dX12_span_26 : decode cX12_span 26 = .ok (.iload 4, 2) := by decide +kernel
theorem dX12_span_28 : decode cX12_span 28 = .ok (.iconst 1, 1) := by decide +kernel
theorem dX12_span_29 : decode cX12_span 29 = .ok (.bipush 100, 2) := by decide +kernel
theorem dX12_span_31 : decode cX12_span 31 = .ok (.invokestatic 149, 3) := by decide +kernel
theorem dX12_span_34 : decode cX12_span 34 = .ok (.ifCond .eq 22, 3) := by decide +kernel
theorem dX12_span_37 : decode cX12_span 37 = .ok (.iload 5, 2) := by decide +kernel
theorem dX12_span_39 : decode cX12_span 39 = .ok (.iconst 0, 1) := by decide +kernel
theorem dX12_span_40 : decode cX12_span 40 = .ok (.iconst 2, 1) := by decide +kernel
theorem dX12_span_41 : decode cX12_span 41 = .ok (.invokestatic 149, 3) := by decide +kernel
theorem dX12_span_44 : decode cX12_span 44 = .ok (.ifCond .eq 12, 3) := by decide +kernel
theorem dX12_span_47 : decode cX12_span 47 = .ok (.aload_n 0, 1) := by decide +kernel
theorem dX12_span_48 : decode cX12_span 48 = .ok (.iload 6, 2) := by decide +kernel
theorem dX12_span_50 : decode cX12_span 50 = .ok (.invokevirtual 340, 3) := by decide +kernel
theorem dX12_span_53 : decode cX12_span 53 = .ok (.ifCond .ne 7, 3) := by decide +kernel
theorem dX12_span_56 : decode cX12_span 56 = .ok (.iconst 1, 1) := by decide +kernel
theorem dX12_span_57 : decode cX12_span 57 = .ok (.goto 4, 3) := by decide +kernel
theorem dX12_span_60 : decode cX12_span 60 = .ok (.iconst 0, 1) := by decide +kernel
theorem dX12_span_61 : decode cX12_span 61 = .ok (.iconst 1, 1) := by decide +kernel
theorem dX12_span_62 : decode cX12_span 62 = .ok (.iconst 2, 1) := by decide +kernel
theorem dX12_span_63 : decode cX12_span 63 = .ok (.invokevirtual 198, 3) := by decide +kernel
theorem dX12_span_66 : decode cX12_span 66 = .ok (.ifCond .eq 5, 3) := by decide +kernel
theorem dX12_span_69 : decode cX12_span 69 = .ok (.iconst 0, 1) := by decide +kernel
theorem dX12_span_70 : decode cX12_span 70 = .ok (.ireturn, 1) := by decide +kernel
theorem dX12_span_71 : decode cX12_span 71 = .ok (.iconst (-1), 1) := by decide +kernel
theorem dX12_span_72 : decode cX12_span 72 = .ok (.istore 7, 2) := by decide +kernel
theorem dX12_span_74 : decode cX12_span 74 = .ok (.iconst 0, 1) := by decide +kernel
theorem dX12_span_75 : decode cX12_span 75 = .ok (.istore 8, 2) := by decide +kernel
theorem dX12_span_77 : decode cX12_span 77 = .ok (.iconst 0, 1) := by decide +kernel
theorem dX12_span_78 : decode cX12_span 78 = .ok (.istore 9, 2) := by decide +kernel
theorem dX12_span_80 : decode cX12_span 80 = .ok (.iconst 0, 1) := by decide +kernel
theorem dX12_span_81 : decode cX12_span 81 = .ok (.istore 10, 2) := by decide +kernel
theorem dX12_span_83 : decode cX12_span 83 = .ok (.iload 10, 2) := by decide +kernel
theorem dX12_span_85 : decode cX12_span 85 = .ok (.iload_n 2, 1) := by decide +kernel
theorem dX12_span_86 : decode cX12_span 86 = .ok (.if_icmp .ge 82, 3) := by decide +kernel
theorem dX12_span_89 : decode cX12_span 89 = .ok (.aload_n 0, 1) := by decide +kernel
theorem dX12_span_90 : decode cX12_span 90 = .ok (.iload_n 1, 1) := by decide +kernel
theorem dX12_span_91 : decode cX12_span 91 = .ok (.iload 10, 2) := by decide +kernel
theorem dX12_span_93 : decode cX12_span 93 = .ok (.iadd, 1) := by decide +kernel
theorem dX12_span_94 : decode cX12_span 94 = .ok (.iload_n 3, 1) := by decide +kernel
theorem dX12_span_95 : decode cX12_span 95 = .ok (.iload 4, 2) := by decide +kernel
theorem dX12_span_97 : decode cX12_span 97 = .ok (.invokevirtual 432, 3) := by decide +kernel
theorem dX12_span_100 : decode cX12_span 100 = .ok (.aload_n 0, 1) := by decide +kernel
theorem dX12_span_101 : decode cX12_span 101 = .ok (.aload_n 0, 1) := by decide +kernel
theorem dX12_span_102 : decode cX12_span 102 = .ok (.getfield 82, 3) := by decide +kernel
theorem dX12_span_105 : decode cX12_span 105 = .ok (.invokevirtual 333, 3) := by decide +kernel
theorem dX12_span_108 : decode cX12_span 108 = .ok (.istore 11, 2) := by decide +kernel
theorem dX12_span_110 : decode cX12_span 110 = .ok (.iload 7, 2) := by decide +kernel
theorem dX12_span_112 : decode cX12_span 112 = .ok (.iconst (-1), 1) := by decide +kernel
theorem dX12_span_113 : decode cX12_span 113 = .ok (.if_icmp .ne 8, 3) := by decide +kernel
theorem dX12_span_116 : decode cX12_span 116 = .ok (.iload 11, 2) := by decide +kernel
theorem dX12_span_118 : decode cX12_span 118 = .ok (.goto 10, 3) := by decide +kernel
theorem dX12_span_121 : decode cX12_span 121 = .ok (.iload 7, 2) := by decide +kernel
theorem dX12_span_123 : decode cX12_span 123 = .ok (.iload 11, 2) := by decide +kernel
theorem dX12_span_125 : decode cX12_span 125 = .ok (.invokestatic 258, 3) := by decide +kernel
theorem dX12_span_128 : decode cX12_span 128 = .ok (.istore 7, 2) := by decide +kernel
theorem dX12_span_130 : decode cX12_span 130 = .ok (.iload 8, 2) := by decide +kernel
theorem dX12_span_132 : decode cX12_span 132 = .ok (.iload 11, 2) := by decide +kernel
theorem dX12_span_134 : decode cX12_span 134 = .ok (.invokestatic 261, 3) := by decide +kernel
theorem dX12_span_137 : decode cX12_span 137 = .ok (.istore 8, 2) := by decide +kernel
theorem dX12_span_139 : decode cX12_span 139 = .ok (.iload 9, 2) := by decide +kernel
theorem dX12_span_141 : decode cX12_span 141 = .ok (.aload_n 0, 1) := by decide +kernel
theorem dX12_span_142 : decode cX12_span 142 = .ok (.getfield 82, 3) := by decide +kernel
theorem dX12_span_145 : decode cX12_span 145 = .ok (.iload 6, 2) := by decide +kernel
theorem dX12_span_147 : decode cX12_span 147 = .ok (.invokestatic 289, 3) := by decide +kernel
theorem dX12_span_150 : decode cX12_span 150 = .ok (.iconst (-1), 1) := by decide +kernel
theorem dX12_span_151 : decode cX12_span 151 = .ok (.if_icmp .eq 7, 3) := by decide +kernel
theorem dX12_span_154 : decode cX12_span 154 = .ok (.iconst 1, 1) := by decide +kernel
theorem dX12_span_155 : decode cX12_span 155 = .ok (.goto 4, 3) := by decide +kernel
theorem dX12_span_158 : decode cX12_span 158 = .ok (.iconst 0, 1) := by decide +kernel
theorem dX12_span_159 : decode cX12_span 159 = .ok (.iadd, 1) := by decide +kernel
theorem dX12_span_160 : decode cX12_span 160 = .ok (.istore 9, 2) := by decide +kernel
theorem dX12_span_162 : decode cX12_span 162 = .ok (.iinc 10 1, 3) := by decide +kernel
theorem dX12_span_165 : decode cX12_span 165 = .ok (.goto (-82), 3) := by decide +kernel
theorem dX12_span_168 : decode cX12_span 168 = .ok (.iload 5, 2) := by decide +kernel
theorem dX12_span_170 : decode cX12_span 170 = .ok (.ifCond .ne 8, 3) := by decide +kernel
theorem dX12_span_173 : decode cX12_span 173 = .ok (.iload 7, 2) := by decide +kernel
theorem dX12_span_175 : decode cX12_span 175 = .ok (.goto 16, 3) := by decide +kernel
theorem dX12_span_178 : decode cX12_span 178 = .ok (.iload 5, 2) := by decide +kernel
theorem dX12_span_180 : decode cX12_span 180 = .ok (.iconst 1, 1) := by decide +kernel
theorem dX12_span_181 : decode cX12_span 181 = .ok (.if_icmp .ne 8, 3) := by decide +kernel
theorem dX12_span_184 : decode cX12_span 184 = .ok (.iload 8, 2) := by decide +kernel
theorem dX12_span_186 : decode cX12_span 186 = .ok (.goto 5, 3) := by decide +kernel
theorem dX12_span_189 : decode cX12_span 189 = .ok (.iload 9, 2) := by decide +kernel
theorem dX12_span_191 : decode cX12_span 191 = .ok (.ireturn, 1) := by decide +kernel
set_option maxRecDepth 100000 in
theorem T_X12_span_0 {G : GE} {d C S : Nat} {ρ : Rs} : Snd G MX12_span (d + 1) C S 0 ρ (s_aload 0 (s_iconst 0 (s_putI 11 0 (s_aload 0 (s_iload 2 (s_iconst 1 (s_iconst 20 (s_call G d MX12_in 3 (s_if_eq (s_iconst 1 (s_iconst 1 (s_iconst 2 (s_callV G d MX12_bad 3 11 (s_if_eq (s_iconst (-1) (s_istore 7 (s_iconst 0 (s_istore 8 (s_iconst 0 (s_istore 9 (s_iconst 0 (s_istore 10 (fun L st h => E G MX12_span (d + 1) C S 83 L st h ρ))))))))) (s_iconst 0 (s_ireturn ρ))))))) (s_iload 3 (s_iconst 0 (s_iconst 16 (s_call G d MX12_in 3 (s_if_eq (s_iconst 1 (s_iconst 1 (s_iconst 2 (s_callV G d MX12_bad 3 11 (s_if_eq (s_iconst (-1) (s_istore 7 (s_iconst 0 (s_istore 8 (s_iconst 0 (s_istore 9 (s_iconst 0 (s_istore 10 (fun L st h => E G MX12_span (d + 1) C S 83 L st h ρ))))))))) (s_iconst 0 (s_ireturn ρ))))))) (s_iload 4 (s_iconst 1 (s_iconst 100 (s_call G d MX12_in 3 (s_if_eq (s_iconst 1 (s_iconst 1 (s_iconst 2 (s_callV G d MX12_bad 3 11 (s_if_eq (s_iconst (-1) (s_istore 7 (s_iconst 0 (s_istore 8 (s_iconst 0 (s_istore 9 (s_iconst 0 (s_istore 10 (fun L st h => E G MX12_span (d + 1) C S 83 L st h ρ))))))))) (s_iconst 0 (s_ireturn ρ))))))) (s_iload 5 (s_iconst 0 (s_iconst 2 (s_call G d MX12_in 3 (s_if_eq (s_iconst 1 (s_iconst 1 (s_iconst 2 (s_callV G d MX12_bad 3 11 (s_if_eq (s_iconst (-1) (s_istore 7 (s_iconst 0 (s_istore 8 (s_iconst 0 (s_istore 9 (s_iconst 0 (s_istore 10 (fun L st h => E G MX12_span (d + 1) C S 83 L st h ρ))))))))) (s_iconst 0 (s_ireturn ρ))))))) (s_aload 0 (s_iload 6 (s_callV G d MX12_isStreet 1 11 (s_if_ne (s_iconst 0 (s_iconst 1 (s_iconst 2 (s_callV G d MX12_bad 3 11 (s_if_eq (s_iconst (-1) (s_istore 7 (s_iconst 0 (s_istore 8 (s_iconst 0 (s_istore 9 (s_iconst 0 (s_istore 10 (fun L st h => E G MX12_span (d + 1) C S 83 L st h ρ))))))))) (s_iconst 0 (s_ireturn ρ))))))) (s_iconst 1 (s_iconst 1 (s_iconst 2 (s_callV G d MX12_bad 3 11 (s_if_eq (s_iconst (-1) (s_istore 7 (s_iconst 0 (s_istore 8 (s_iconst 0 (s_istore 9 (s_iconst 0 (s_istore 10 (fun L st h => E G MX12_span (d + 1) C S 83 L st h ρ))))))))) (s_iconst 0 (s_ireturn ρ))))))))))))))))))))))))))))))))))) := (e_aload_n dX12_span_0 rfl (e_iconst (v := 0) dX12_span_1 (by decide) (e_putI rfl cl_11 (by decide) rfl rfl rfl q_1564 dX12_span_2 (e_aload_n dX12_span_5 rfl (e_iload_n dX12_span_6 rfl (e_iconst (v := 1) dX12_span_7 (by decide) (e_bipush (v := 20) dX12_span_8 (by decide) (e_callS cal_X12_in q_1739 q_1740 dX12_span_10 (e_if_eq (tgt := 56) dX12_span_13 (by decide) (e_iconst (v := 1) dX12_span_56 (by decide) (e_goto (tgt := 61) dX12_span_57 (by decide) (e_iconst (v := 1) dX12_span_61 (by decide) (e_iconst (v := 2) dX12_span_62 (by decide) (e_callV cl_11 cal_X12_bad q_1742 q_1744 q_53 dX12_span_63 (e_if_eq (tgt := 71) dX12_span_66 (by decide) (e_iconst (v := (-1)) dX12_span_71 (by decide) (e_istore dX12_span_72 (by decide) (e_iconst (v := 0) dX12_span_74 (by decide) (e_istore dX12_span_75 (by decide) (e_iconst (v := 0) dX12_span_77 (by decide) (e_istore dX12_span_78 (by decide) (e_iconst (v := 0) dX12_span_80 (by decide) (e_istore dX12_span_81 (by decide) (fun _ _ _ h9 => h9))))))))) (e_iconst (v := 0) dX12_span_69 (by decide) (e_ireturn rfl dX12_span_70)))))))) (e_iload_n dX12_span_16 rfl (e_iconst (v := 0) dX12_span_17 (by decide) (e_bipush (v := 16) dX12_span_18 (by decide) (e_callS cal_X12_in q_1739 q_1740 dX12_span_20 (e_if_eq (tgt := 56) dX12_span_23 (by decide) (e_iconst (v := 1) dX12_span_56 (by decide) (e_goto (tgt := 61) dX12_span_57 (by decide) (e_iconst (v := 1) dX12_span_61 (by decide) (e_iconst (v := 2) dX12_span_62 (by decide) (e_callV cl_11 cal_X12_bad q_1742 q_1744 q_53 dX12_span_63 (e_if_eq (tgt := 71) dX12_span_66 (by decide) (e_iconst (v := (-1)) dX12_span_71 (by decide) (e_istore dX12_span_72 (by decide) (e_iconst (v := 0) dX12_span_74 (by decide) (e_istore dX12_span_75 (by decide) (e_iconst (v := 0) dX12_span_77 (by decide) (e_istore dX12_span_78 (by decide) (e_iconst (v := 0) dX12_span_80 (by decide) (e_istore dX12_span_81 (by decide) (fun _ _ _ h9 => h9))))))))) (e_iconst (v := 0) dX12_span_69 (by decide) (e_ireturn rfl dX12_span_70)))))))) (e_iload dX12_span_26 (e_iconst (v := 1) dX12_span_28 (by decide) (e_bipush (v := 100) dX12_span_29 (by decide) (e_callS cal_X12_in q_1739 q_1740 dX12_span_31 (e_if_eq (tgt := 56) dX12_span_34 (by decide) (e_iconst (v := 1) dX12_span_56 (by decide) (e_goto (tgt := 61) dX12_span_57 (by decide) (e_iconst (v := 1) dX12_span_61 (by decide) (e_iconst (v := 2) dX12_span_62 (by decide) (e_callV cl_11 cal_X12_bad q_1742 q_1744 q_53 dX12_span_63 (e_if_eq (tgt := 71) dX12_span_66 (by decide) (e_iconst (v := (-1)) dX12_span_71 (by decide) (e_istore dX12_span_72 (by decide) (e_iconst (v := 0) dX12_span_74 (by decide) (e_istore dX12_span_75 (by decide) (e_iconst (v := 0) dX12_span_77 (by decide) (e_istore dX12_span_78 (by decide) (e_iconst (v := 0) dX12_span_80 (by decide) (e_istore dX12_span_81 (by decide) (fun _ _ _ h9 => h9))))))))) (e_iconst (v := 0) dX12_span_69 (by decide) (e_ireturn rfl dX12_span_70)))))))) (e_iload dX12_span_37 (e_iconst (v := 0) dX12_span_39 (by decide) (e_iconst (v := 2) dX12_span_40 (by decide) (e_callS cal_X12_in q_1739 q_1740 dX12_span_41 (e_if_eq (tgt := 56) dX12_span_44 (by decide) (e_iconst (v := 1) dX12_span_56 (by decide) (e_goto (tgt := 61) dX12_span_57 (by decide) (e_iconst (v := 1) dX12_span_61 (by decide) (e_iconst (v := 2) dX12_span_62 (by decide) (e_callV cl_11 cal_X12_bad q_1742 q_1744 q_53 dX12_span_63 (e_if_eq (tgt := 71) dX12_span_66 (by decide) (e_iconst (v := (-1)) dX12_span_71 (by decide) (e_istore dX12_span_72 (by decide) (e_iconst (v := 0) dX12_span_74 (by decide) (e_istore dX12_span_75 (by decide) (e_iconst (v := 0) dX12_span_77 (by decide) (e_istore dX12_span_78 (by decide) (e_iconst (v := 0) dX12_span_80 (by decide) (e_istore dX12_span_81 (by decide) (fun _ _ _ h9 => h9))))))))) (e_iconst (v := 0) dX12_span_69 (by decide) (e_ireturn rfl dX12_span_70)))))))) (e_aload_n dX12_span_47 rfl (e_iload dX12_span_48 (e_callV cl_11 cal_X12_isStreet q_1945 q_1947 q_86 dX12_span_50 (e_if_ne (tgt := 60) dX12_span_53 (by decide) (e_iconst (v := 0) dX12_span_60 (by decide) (e_iconst (v := 1) dX12_span_61 (by decide) (e_iconst (v := 2) dX12_span_62 (by decide) (e_callV cl_11 cal_X12_bad q_1742 q_1744 q_53 dX12_span_63 (e_if_eq (tgt := 71) dX12_span_66 (by decide) (e_iconst (v := (-1)) dX12_span_71 (by decide) (e_istore dX12_span_72 (by decide) (e_iconst (v := 0) dX12_span_74 (by decide) (e_istore dX12_span_75 (by decide) (e_iconst (v := 0) dX12_span_77 (by decide) (e_istore dX12_span_78 (by decide) (e_iconst (v := 0) dX12_span_80 (by decide) (e_istore dX12_span_81 (by decide) (fun _ _ _ h9 => h9))))))))) (e_iconst (v := 0) dX12_span_69 (by decide) (e_ireturn rfl dX12_span_70))))))) (e_iconst (v := 1) dX12_span_56 (by decide) (e_goto (tgt := 61) dX12_span_57 (by decide) (e_iconst (v := 1) dX12_span_61 (by decide) (e_iconst (v := 2) dX12_span_62 (by decide) (e_callV cl_11 cal_X12_bad q_1742 q_1744 q_53 dX12_span_63 (e_if_eq (tgt := 71) dX12_span_66 (by decide) (e_iconst (v := (-1)) dX12_span_71 (by decide) (e_istore dX12_span_72 (by decide) (e_iconst (v := 0) dX12_span_74 (by decide) (e_istore dX12_span_75 (by decide) (e_iconst (v := 0) dX12_span_77 (by decide) (e_istore dX12_span_78 (by decide) (e_iconst (v := 0) dX12_span_80 (by decide) (e_istore dX12_span_81 (by decide) (fun _ _ _ h9 => h9))))))))) (e_iconst (v := 0) dX12_span_69 (by decide) (e_ireturn rfl dX12_span_70))))))))))))))))))))))))))))))))))))
set_option maxRecDepth 100000 in
theorem T_X12_span_83 {G : GE} {d C S : Nat} {ρ : Rs} : Snd G MX12_span (d + 1) C S 83 ρ (s_iload 10 (s_iload 2 (s_ic_ge (s_iload 5 (s_if_ne (s_iload 5 (s_iconst 1 (s_ic_ne (s_iload 9 (s_ireturn ρ)) (s_iload 8 (s_ireturn ρ))))) (s_iload 7 (s_ireturn ρ)))) (s_aload 0 (s_iload 1 (s_iload 10 (s_iadd (s_iload 3 (s_iload 4 (s_callV G d MX12_centuriesBy 3 11 (s_aload 0 (s_aload 0 (s_getR 11 34 (s_callV G d MX12_couplesIn 1 11 (s_istore 11 (s_iload 7 (s_iconst (-1) (s_ic_ne (s_iload 7 (s_iload 11 (s_call G d MX12_less 2 (s_istore 7 (s_iload 8 (s_iload 11 (s_call G d MX12_more 2 (s_istore 8 (s_iload 9 (s_aload 0 (s_getR 11 34 (s_iload 6 (s_call G d MX12_mateOf 2 (s_iconst (-1) (s_ic_eq (s_iconst 0 (s_iadd (s_istore 9 (s_iinc 10 1 (fun L st h => E G MX12_span (d + 1) C S 83 L st h ρ))))) (s_iconst 1 (s_iadd (s_istore 9 (s_iinc 10 1 (fun L st h => E G MX12_span (d + 1) C S 83 L st h ρ)))))))))))))))))))) (s_iload 11 (s_istore 7 (s_iload 8 (s_iload 11 (s_call G d MX12_more 2 (s_istore 8 (s_iload 9 (s_aload 0 (s_getR 11 34 (s_iload 6 (s_call G d MX12_mateOf 2 (s_iconst (-1) (s_ic_eq (s_iconst 0 (s_iadd (s_istore 9 (s_iinc 10 1 (fun L st h => E G MX12_span (d + 1) C S 83 L st h ρ))))) (s_iconst 1 (s_iadd (s_istore 9 (s_iinc 10 1 (fun L st h => E G MX12_span (d + 1) C S 83 L st h ρ)))))))))))))))))))))))))))))))))))) := (e_iload dX12_span_83 (e_iload_n dX12_span_85 rfl (e_ic_ge (tgt := 168) dX12_span_86 (by decide) (e_iload dX12_span_168 (e_if_ne (tgt := 178) dX12_span_170 (by decide) (e_iload dX12_span_178 (e_iconst (v := 1) dX12_span_180 (by decide) (e_ic_ne (tgt := 189) dX12_span_181 (by decide) (e_iload dX12_span_189 (e_ireturn rfl dX12_span_191)) (e_iload dX12_span_184 (e_goto (tgt := 191) dX12_span_186 (by decide) (e_ireturn rfl dX12_span_191)))))) (e_iload dX12_span_173 (e_goto (tgt := 191) dX12_span_175 (by decide) (e_ireturn rfl dX12_span_191))))) (e_aload_n dX12_span_89 rfl (e_iload_n dX12_span_90 rfl (e_iload dX12_span_91 (e_iadd dX12_span_93 (e_iload_n dX12_span_94 rfl (e_iload dX12_span_95 (e_callV cl_11 cal_X12_centuriesBy q_2140 q_2142 q_105 dX12_span_97 (e_aload_n dX12_span_100 rfl (e_aload_n dX12_span_101 rfl (e_getR rfl cl_11 (by decide) rfl q_1598 dX12_span_102 (e_callV cl_11 cal_X12_couplesIn q_1933 q_1935 q_84 dX12_span_105 (e_istore dX12_span_108 (by decide) (e_iload dX12_span_110 (e_iconst (v := (-1)) dX12_span_112 (by decide) (e_ic_ne (tgt := 121) dX12_span_113 (by decide) (e_iload dX12_span_121 (e_iload dX12_span_123 (e_callS cal_X12_less q_1903 q_1904 dX12_span_125 (e_istore dX12_span_128 (by decide) (e_iload dX12_span_130 (e_iload dX12_span_132 (e_callS cal_X12_more q_1906 q_1907 dX12_span_134 (e_istore dX12_span_137 (by decide) (e_iload dX12_span_139 (e_aload_n dX12_span_141 rfl (e_getR rfl cl_11 (by decide) rfl q_1598 dX12_span_142 (e_iload dX12_span_145 (e_callS cal_X12_mateOf q_1878 q_1879 dX12_span_147 (e_iconst (v := (-1)) dX12_span_150 (by decide) (e_ic_eq (tgt := 158) dX12_span_151 (by decide) (e_iconst (v := 0) dX12_span_158 (by decide) (e_iadd dX12_span_159 (e_istore dX12_span_160 (by decide) (e_iinc (v := 1) dX12_span_162 (by decide) (by decide) (e_goto (tgt := 83) dX12_span_165 (by decide) (fun _ _ _ h9 => h9)))))) (e_iconst (v := 1) dX12_span_154 (by decide) (e_goto (tgt := 159) dX12_span_155 (by decide) (e_iadd dX12_span_159 (e_istore dX12_span_160 (by decide) (e_iinc (v := 1) dX12_span_162 (by decide) (by decide) (e_goto (tgt := 83) dX12_span_165 (by decide) (fun _ _ _ h9 => h9)))))))))))))))))))))) (e_iload dX12_span_116 (e_goto (tgt := 128) dX12_span_118 (by decide) (e_istore dX12_span_128 (by decide) (e_iload dX12_span_130 (e_iload dX12_span_132 (e_callS cal_X12_more q_1906 q_1907 dX12_span_134 (e_istore dX12_span_137 (by decide) (e_iload dX12_span_139 (e_aload_n dX12_span_141 rfl (e_getR rfl cl_11 (by decide) rfl q_1598 dX12_span_142 (e_iload dX12_span_145 (e_callS cal_X12_mateOf q_1878 q_1879 dX12_span_147 (e_iconst (v := (-1)) dX12_span_150 (by decide) (e_ic_eq (tgt := 158) dX12_span_151 (by decide) (e_iconst (v := 0) dX12_span_158 (by decide) (e_iadd dX12_span_159 (e_istore dX12_span_160 (by decide) (e_iinc (v := 1) dX12_span_162 (by decide) (by decide) (e_goto (tgt := 83) dX12_span_165 (by decide) (fun _ _ _ h9 => h9)))))) (e_iconst (v := 1) dX12_span_154 (by decide) (e_goto (tgt := 159) dX12_span_155 (by decide) (e_iadd dX12_span_159 (e_istore dX12_span_160 (by decide) (e_iinc (v := 1) dX12_span_162 (by decide) (by decide) (e_goto (tgt := 83) dX12_span_165 (by decide) (fun _ _ _ h9 => h9)))))))))))))))))))))))))))))))))))))))
theorem dX12_puts_0 : decode cX12_puts 0 = .ok (.iload_n 3, 1) := by decide +kernel
theorem dX12_puts_1 : decode cX12_puts 1 = .ok (.ifCond .ne 10, 3) := by decide +kernel
theorem dX12_puts_4 : decode cX12_puts 4 = .ok (.aload_n 1, 1) := by decide +kernel
theorem dX12_puts_5 : decode cX12_puts 5 = .ok (.aload_n 0, 1) := by decide +kernel
theorem dX12_puts_6 : decode cX12_puts 6 = .ok (.getfield 435, 3) := by decide +kernel
theorem dX12_puts_9 : decode cX12_puts 9 = .ok (.iload_n 2, 1) := by decide +kernel
theorem dX12_puts_10 : decode cX12_puts 10 = .ok (.iastore, 1) := by decide +kernel
theorem dX12_puts_11 : decode cX12_puts 11 = .ok (.aload_n 0, 1) := by decide +kernel
theorem dX12_puts_12 : decode cX12_puts 12 = .ok (.dup, 1) := by decide +kernel
theorem dX12_puts_13 : decode cX12_puts 13 = .ok (.getfield 435, 3) := by decide +kernel
theorem dX12_puts_16 : decode cX12_puts 16 = .ok (.iconst 1, 1) := by decide +kernel
theorem dX12_puts_17 : decode cX12_puts 17 = .ok (.iadd, 1) := by decide +kernel
theorem dX12_puts_18 : decode cX12_puts 18 = .ok (.putfield 435, 3) := by decide +kernel
theorem dX12_puts_21 : decode cX12_puts 21 = .ok (.aload_n 1, 1) := by decide +kernel
theorem dX12_puts_22 : decode cX12_puts 22 = .ok (.aload_n 0, 1) := by decide +kernel
theorem dX12_puts_23 : decode cX12_puts 23 = .ok (.getfield 435, 3) := by decide +kernel
theorem dX12_puts_26 : decode cX12_puts 26 = .ok (.iconst 1, 1) := by decide +kernel
theorem dX12_puts_27 : decode cX12_puts 27 = .ok (.isub, 1) := by decide +kernel
theorem dX12_puts_28 : decode cX12_puts 28 = .ok (.iaload, 1) := by decide +kernel
theorem dX12_puts_29 : decode cX12_puts 29 = .ok (.ireturn, 1) := by decide +kernel
set_option maxRecDepth 100000 in
theorem T_X12_puts_0 {G : GE} {d C S : Nat} {ρ : Rs} : Snd G MX12_puts d C S 0 ρ (s_iload 3 (s_if_ne (s_aload 0 (s_dup (s_getI 11 42 (s_iconst 1 (s_iadd (s_putI 11 42 (s_aload 1 (s_aload 0 (s_getI 11 42 (s_iconst 1 (s_isub (s_iaload (s_ireturn ρ))))))))))))) (s_aload 1 (s_aload 0 (s_getI 11 42 (s_iload 2 (s_iastore (s_aload 0 (s_dup (s_getI 11 42 (s_iconst 1 (s_iadd (s_putI 11 42 (s_aload 1 (s_aload 0 (s_getI 11 42 (s_iconst 1 (s_isub (s_iaload (s_ireturn ρ)))))))))))))))))))) := (e_iload_n dX12_puts_0 rfl (e_if_ne (tgt := 11) dX12_puts_1 (by decide) (e_aload_n dX12_puts_11 rfl (e_dup dX12_puts_12 (e_getI rfl cl_11 (by decide) rfl q_1606 dX12_puts_13 (e_iconst (v := 1) dX12_puts_16 (by decide) (e_iadd dX12_puts_17 (e_putI rfl cl_11 (by decide) rfl rfl rfl q_1606 dX12_puts_18 (e_aload_n dX12_puts_21 rfl (e_aload_n dX12_puts_22 rfl (e_getI rfl cl_11 (by decide) rfl q_1606 dX12_puts_23 (e_iconst (v := 1) dX12_puts_26 (by decide) (e_isub dX12_puts_27 (e_iaload dX12_puts_28 (e_ireturn rfl dX12_puts_29))))))))))))) (e_aload_n dX12_puts_4 rfl (e_aload_n dX12_puts_5 rfl (e_getI rfl cl_11 (by decide) rfl q_1606 dX12_puts_6 (e_iload_n dX12_puts_9 rfl (e_iastore dX12_puts_10 (e_aload_n dX12_puts_11 rfl (e_dup dX12_puts_12 (e_getI rfl cl_11 (by decide) rfl q_1606 dX12_puts_13 (e_iconst (v := 1) dX12_puts_16 (by decide) (e_iadd dX12_puts_17 (e_putI rfl cl_11 (by decide) rfl rfl rfl q_1606 dX12_puts_18 (e_aload_n dX12_puts_21 rfl (e_aload_n dX12_puts_22 rfl (e_getI rfl cl_11 (by decide) rfl q_1606 dX12_puts_23 (e_iconst (v := 1) dX12_puts_26 (by decide) (e_isub dX12_puts_27 (e_iaload dX12_puts_28 (e_ireturn rfl dX12_puts_29))))))))))))))))))))
theorem dX12_putsAll_0 : decode cX12_putsAll 0 = .ok (.aload_n 0, 1) := by decide +kernel
theorem dX12_putsAll_1 : decode cX12_putsAll 1 = .ok (.iconst 0, 1) := by decide +kernel
theorem dX12_putsAll_2 : decode cX12_putsAll 2 = .ok (.putfield 435, 3) := by decide +kernel
theorem dX12_putsAll_5 : decode cX12_putsAll 5 = .ok (.aload_n 0, 1) := by decide +kernel
theorem dX12_putsAll_6 : decode cX12_putsAll 6 = .ok (.aload_n 0, 1) := by decide +kernel
theorem dX12_putsAll_7 : decode cX12_putsAll 7 = .ok (.aload_n 1, 1) := by decide +kernel
theorem dX12_putsAll_8 : decode cX12_putsAll 8 = .ok (.aload_n 0, 1) := by decide +kernel
theorem dX12_putsAll_9 : decode cX12_putsAll 9 = .ok (.getfield 221, 3) := by decide +kernel
theorem dX12_putsAll_12 : decode cX12_putsAll 12 = .ok (.iload_n 2, 1) := by decide +kernel
theorem dX12_putsAll_13 : decode cX12_putsAll 13 = .ok (.invokevirtual 438, 3) := by decide +kernel
theorem dX12_putsAll_16 : decode cX12_putsAll 16 = .ok (.putfield 221, 3) := by decide +kernel
theorem dX12_putsAll_19 : decode cX12_putsAll 19 = .ok (.iconst 0, 1) := by decide +kernel
theorem dX12_putsAll_20 : decode cX12_putsAll 20 = .ok (.istore_n 3, 1) := by decide +kernel
theorem dX12_putsAll_21 : decode cX12_putsAll 21 = .ok (.iload_n 3, 1) := by decide +kernel
theorem dX12_putsAll_22 : decode cX12_putsAll 22 = .ok (.bipush 42, 2) := by decide +kernel
theorem dX12_putsAll_24 : decode cX12_putsAll 24 = .ok (.if_icmp .ge 27, 3) := by decide +kernel
theorem dX12_putsAll_27 : decode cX12_putsAll 27 = .ok (.aload_n 0, 1) := by decide +kernel
theorem dX12_putsAll_28 : decode cX12_putsAll 28 = .ok (.getfield 79, 3) := by decide +kernel
theorem dX12_putsAll_31 : decode cX12_putsAll 31 = .ok (.iload_n 3, 1) := by decide +kernel
theorem dX12_putsAll_32 : decode cX12_putsAll 32 = .ok (.aload_n 0, 1) := by decide +kernel
theorem dX12_putsAll_33 : decode cX12_putsAll 33 = .ok (.aload_n 1, 1) := by decide +kernel
theorem dX12_putsAll_34 : decode cX12_putsAll 34 = .ok (.aload_n 0, 1) := by decide +kernel
theorem dX12_putsAll_35 : decode cX12_putsAll 35 = .ok (.getfield 79, 3) := by decide +kernel
theorem dX12_putsAll_38 : decode cX12_putsAll 38 = .ok (.iload_n 3, 1) := by decide +kernel
theorem dX12_putsAll_39 : decode cX12_putsAll 39 = .ok (.iaload, 1) := by decide +kernel
theorem dX12_putsAll_40 : decode cX12_putsAll 40 = .ok (.iload_n 2, 1) := by decide +kernel
theorem dX12_putsAll_41 : decode cX12_putsAll 41 = .ok (.invokevirtual 438, 3) := by decide +kernel
theorem dX12_putsAll_44 : decode cX12_putsAll 44 = .ok (.iastore, 1) := by decide +kernel
theorem dX12_putsAll_45 : decode cX12_putsAll 45 = .ok (.iinc 3 1, 3) := by decide +kernel
theorem dX12_putsAll_48 : decode cX12_putsAll 48 = .ok (.goto (-27), 3) := by decide +kernel
theorem dX12_putsAll_51 : decode cX12_putsAll 51 = .ok (.iconst 0, 1) := by decide +kernel
theorem dX12_putsAll_52 : decode cX12_putsAll 52 = .ok (.istore_n 3, 1) := by decide +kernel
theorem dX12_putsAll_53 : decode cX12_putsAll 53 = .ok (.iload_n 3, 1) := by decide +kernel
theorem dX12_putsAll_54 : decode cX12_putsAll 54 = .ok (.bipush 16, 2) := by decide +kernel
theorem dX12_putsAll_56 : decode cX12_putsAll 56 = .ok (.if_icmp .ge 49, 3) := by decide +kernel
theorem dX12_putsAll_59 : decode cX12_putsAll 59 = .ok (.iconst 0, 1) := by decide +kernel
theorem dX12_putsAll_60 : decode cX12_putsAll 60 = .ok (.istore 4, 2) := by decide +kernel
theorem dX12_putsAll_62 : decode cX12_putsAll 62 = .ok (.iload 4, 2) := by decide +kernel
theorem dX12_putsAll_64 : decode cX12_putsAll 64 = .ok (.bipush 42, 2) := by decide +kernel
theorem dX12_putsAll_66 : decode cX12_putsAll 66 = .ok (.if_icmp .ge 33, 3) := by decide +kernel
theorem dX12_putsAll_69 : decode cX12_putsAll 69 = .ok (.aload_n 0, 1) := by decide +kernel
theorem dX12_putsAll_70 : decode cX12_putsAll 70 = .ok (.getfield 85, 3) := by decide +kernel
theorem dX12_putsAll_73 : decode cX12_putsAll 73 = .ok (.iload_n 3, 1) := by decide +kernel
theorem dX12_putsAll_74 : decode cX12_putsAll 74 = .ok (.aaload, 1) := by decide +kernel
theorem dX12_putsAll_75 : decode cX12_putsAll 75 = .ok (.iload 4, 2) := by decide +kernel
theorem dX12_putsAll_77 : decode cX12_putsAll 77 = .ok (.aload_n 0, 1) := by decide +kernel
theorem dX12_putsAll_78 : decode cX12_putsAll 78 = .ok (.aload_n 1, 1) := by decide +kernel
theorem dX12_putsAll_79 : decode cX12_putsAll 79 = .ok (.aload_n 0, 1) := by decide +kernel
theorem dX12_putsAll_80 : decode cX12_putsAll 80 = .ok (.getfield 85, 3) := by decide +kernel
theorem dX12_putsAll_83 : decode cX12_putsAll 83 = .ok (.iload_n 3, 1) := by decide +kernel
theorem dX12_putsAll_84 : decode cX12_putsAll 84 = .ok (.aaload, 1) := by decide +kernel
theorem dX12_putsAll_85 : decode cX12_putsAll 85 = .ok (.iload 4, 2) := by decide +kernel
theorem dX12_putsAll_87 : decode cX12_putsAll 87 = .ok (.iaload, 1) := by decide +kernel
theorem dX12_putsAll_88 : decode cX12_putsAll 88 = .ok (.iload_n 2, 1) := by decide +kernel
theorem dX12_putsAll_89 : decode cX12_putsAll 89 = .ok (.invokevirtual 438, 3) := by decide +kernel
theorem dX12_putsAll_92 : decode cX12_putsAll 92 = .ok (.iastore, 1) := by decide +kernel
theorem dX12_putsAll_93 : decode cX12_putsAll 93 = .ok (.iinc 4 1, 3) := by decide +kernel
theorem dX12_putsAll_96 : decode cX12_putsAll 96 = .ok (.goto (-34), 3) := by decide +kernel
theorem dX12_putsAll_99 : decode cX12_putsAll 99 = .ok (.iinc 3 1, 3) := by decide +kernel
theorem dX12_putsAll_102 : decode cX12_putsAll 102 = .ok (.goto (-49), 3) := by decide +kernel
theorem dX12_putsAll_105 : decode cX12_putsAll 105 = .ok (.return_, 1) := by decide +kernel
set_option maxRecDepth 100000 in
theorem T_X12_putsAll_0 {G : GE} {d C S : Nat} {ρ : Rs} : Snd G MX12_putsAll (d + 1) C S 0 ρ (s_aload 0 (s_iconst 0 (s_putI 11 42 (s_aload 0 (s_aload 0 (s_aload 1 (s_aload 0 (s_getI 11 39 (s_iload 2 (s_callV G d MX12_puts 3 11 (s_putI 11 39 (s_iconst 0 (s_istore 3 (fun L st h => E G MX12_putsAll (d + 1) C S 21 L st h ρ)))))))))))))) := (e_aload_n dX12_putsAll_0 rfl (e_iconst (v := 0) dX12_putsAll_1 (by decide) (e_putI rfl cl_11 (by decide) rfl rfl rfl q_1606 dX12_putsAll_2 (e_aload_n dX12_putsAll_5 rfl (e_aload_n dX12_putsAll_6 rfl (e_aload_n dX12_putsAll_7 rfl (e_aload_n dX12_putsAll_8 rfl (e_getI rfl cl_11 (by decide) rfl q_1603 dX12_putsAll_9 (e_iload_n dX12_putsAll_12 rfl (e_callV cl_11 cal_X12_puts q_2161 q_2163 q_108 dX12_putsAll_13 (e_putI rfl cl_11 (by decide) rfl rfl rfl q_1603 dX12_putsAll_16 (e_iconst (v := 0) dX12_putsAll_19 (by decide) (e_istore_n dX12_putsAll_20 rfl (by decide) (fun _ _ _ h9 => h9))))))))))))))
set_option maxRecDepth 100000 in
theorem T_X12_putsAll_21 {G : GE} {d C S : Nat} {ρ : Rs} : Snd G MX12_putsAll (d + 1) C S 21 ρ (s_iload 3 (s_iconst 42 (s_ic_ge (s_iconst 0 (s_istore 3 (fun L st h => E G MX12_putsAll (d + 1) C S 53 L st h ρ))) (s_aload 0 (s_getR 11 33 (s_iload 3 (s_aload 0 (s_aload 1 (s_aload 0 (s_getR 11 33 (s_iload 3 (s_iaload (s_iload 2 (s_callV G d MX12_puts 3 11 (s_iastore (s_iinc 3 1 (fun L st h => E G MX12_putsAll (d + 1) C S 21 L st h ρ))))))))))))))))) := (e_iload_n dX12_putsAll_21 rfl (e_bipush (v := 42) dX12_putsAll_22 (by decide) (e_ic_ge (tgt := 51) dX12_putsAll_24 (by decide) (e_iconst (v := 0) dX12_putsAll_51 (by decide) (e_istore_n dX12_putsAll_52 rfl (by decide) (fun _ _ _ h9 => h9))) (e_aload_n dX12_putsAll_27 rfl (e_getR rfl cl_11 (by decide) rfl q_1597 dX12_putsAll_28 (e_iload_n dX12_putsAll_31 rfl (e_aload_n dX12_putsAll_32 rfl (e_aload_n dX12_putsAll_33 rfl (e_aload_n dX12_putsAll_34 rfl (e_getR rfl cl_11 (by decide) rfl q_1597 dX12_putsAll_35 (e_iload_n dX12_putsAll_38 rfl (e_iaload dX12_putsAll_39 (e_iload_n dX12_putsAll_40 rfl (e_callV cl_11 cal_X12_puts q_2161 q_2163 q_108 dX12_putsAll_41 (e_iastore dX12_putsAll_44 (e_iinc (v := 1) dX12_putsAll_45 (by decide) (by decide) (e_goto (tgt := 21) dX12_putsAll_48 (by decide) (fun _ _ _ h9 => h9))))))))))))))))))
set_option maxRecDepth 100000 in
theorem T_X12_putsAll_53 {G : GE} {d C S : Nat} {ρ : Rs} : Snd G MX12_putsAll (d + 1) C S 53 ρ (s_iload 3 (s_iconst 16 (s_ic_ge (s_return ρ) (s_iconst 0 (s_istore 4 (fun L st h => E G MX12_putsAll (d + 1) C S 62 L st h ρ)))))) := (e_iload_n dX12_putsAll_53 rfl (e_bipush (v := 16) dX12_putsAll_54 (by decide) (e_ic_ge (tgt := 105) dX12_putsAll_56 (by decide) (e_return rfl dX12_putsAll_105) (e_iconst (v := 0) dX12_putsAll_59 (by decide) (e_istore dX12_putsAll_60 (by decide) (fun _ _ _ h9 => h9))))))
set_option maxRecDepth 100000 in
theorem T_X12_putsAll_62 {G : GE} {d C S : Nat} {ρ : Rs} : Snd G MX12_putsAll (d + 1) C S 62 ρ (s_iload 4 (s_iconst 42 (s_ic_ge (s_iinc 3 1 (fun L st h => E G MX12_putsAll (d + 1) C S 53 L st h ρ)) (s_aload 0 (s_getR 11 35 (s_iload 3 (s_aaload (s_iload 4 (s_aload 0 (s_aload 1 (s_aload 0 (s_getR 11 35 (s_iload 3 (s_aaload (s_iload 4 (s_iaload (s_iload 2 (s_callV G d MX12_puts 3 11 (s_iastore (s_iinc 4 1 (fun L st h => E G MX12_putsAll (d + 1) C S 62 L st h ρ))))))))))))))))))))) := (e_iload dX12_putsAll_62 (e_bipush (v := 42) dX12_putsAll_64 (by decide) (e_ic_ge (tgt := 99) dX12_putsAll_66 (by decide) (e_iinc (v := 1) dX12_putsAll_99 (by decide) (by decide) (e_goto (tgt := 53) dX12_putsAll_102 (by decide) (fun _ _ _ h9 => h9))) (e_aload_n dX12_putsAll_69 rfl (e_getR rfl cl_11 (by decide) rfl q_1599 dX12_putsAll_70 (e_iload_n dX12_putsAll_73 rfl (e_aaload dX12_putsAll_74 (e_iload dX12_putsAll_75 (e_aload_n dX12_putsAll_77 rfl (e_aload_n dX12_putsAll_78 rfl (e_aload_n dX12_putsAll_79 rfl (e_getR rfl cl_11 (by decide) rfl q_1599 dX12_putsAll_80 (e_iload_n dX12_putsAll_83 rfl (e_aaload dX12_putsAll_84 (e_iload dX12_putsAll_85 (e_iaload dX12_putsAll_87 (e_iload_n dX12_putsAll_88 rfl (e_callV cl_11 cal_X12_puts q_2161 q_2163 q_108 dX12_putsAll_89 (e_iastore dX12_putsAll_92 (e_iinc (v := 1) dX12_putsAll_93 (by decide) (by decide) (e_goto (tgt := 62) dX12_putsAll_96 (by decide) (fun _ _ _ h9 => h9))))))))))))))))))))))
theorem dX12_image_0 : decode cX12_image 0 = .ok (.aload_n 0, 1) := by decide +kernel
theorem dX12_image_1 : decode cX12_image 1 = .ok (.iconst 0, 1) := by decide +kernel
theorem dX12_image_2 : decode cX12_image 2 = .ok (.putfield 115, 3) := by decide +kernel
theorem dX12_image_5 : decode cX12_image 5 = .ok (.aload_n 0, 1) := by decide +kernel
theorem dX12_image_6 : decode cX12_image 6 = .ok (.getfield 227, 3) := by decide +kernel
theorem dX12_image_9 : decode cX12_image 9 = .ok (.iconst 3, 1) := by decide +kernel
theorem dX12_image_10 : decode cX12_image 10 = .ok (.if_icmp .ne 5, 3) := by decide +kernel
theorem dX12_image_13 : decode cX12_image 13 = .ok (.iconst (-1), 1) := by decide +kernel
theorem dX12_image_14 : decode cX12_image 14 = .ok (.ireturn, 1) := by decide +kernel
theorem dX12_image_15 : decode cX12_image 15 = .ok (.aload_n 0, 1) := by decide +kernel
theorem dX12_image_16 : decode cX12_image 16 = .ok (.aload_n 0, 1) := by decide +kernel
theorem dX12_image_17 : decode cX12_image 17 = .ok (.getfield 88, 3) := by decide +kernel
theorem dX12_image_20 : decode cX12_image 20 = .ok (.aload_n 0, 1) := by decide +kernel
theorem dX12_image_21 : decode cX12_image 21 = .ok (.getfield 227, 3) := by decide +kernel
theorem dX12_image_24 : decode cX12_image 24 = .ok (.aaload, 1) := by decide +kernel
theorem dX12_image_25 : decode cX12_image 25 = .ok (.iconst 0, 1) := by decide +kernel
theorem dX12_image_26 : decode cX12_image 26 = .ok (.invokevirtual 442, 3) := by decide +kernel
theorem dX12_image_29 : decode cX12_image 29 = .ok (.aload_n 0, 1) := by decide +kernel
theorem dX12_image_30 : decode cX12_image 30 = .ok (.dup, 1) := by decide +kernel
theorem dX12_image_31 : decode cX12_image 31 = .ok (.getfield 227, 3) := by decide +kernel
theorem dX12_image_34 : decode cX12_image 34 = .ok (.iconst 1, 1) := by decide +kernel
theorem dX12_image_35 : decode cX12_image 35 = .ok (.iadd, 1) := by decide +kernel
theorem dX12_image_36 : decode cX12_image 36 = .ok (.putfield 227, 3) := by decide +kernel
theorem dX12_image_39 : decode cX12_image 39 = .ok (.aload_n 0, 1) := by decide +kernel
theorem dX12_image_40 : decode cX12_image 40 = .ok (.getfield 227, 3) := by decide +kernel
theorem dX12_image_43 : decode cX12_image 43 = .ok (.ireturn, 1) := by decide +kernel
set_option maxRecDepth 100000 in
theorem T_X12_image_0 {G : GE} {d C S : Nat} {ρ : Rs} : Snd G MX12_image (d + 1) C S 0 ρ (s_aload 0 (s_iconst 0 (s_putI 11 0 (s_aload 0 (s_getI 11 41 (s_iconst 3 (s_ic_ne (s_aload 0 (s_aload 0 (s_getR 11 36 (s_aload 0 (s_getI 11 41 (s_aaload (s_iconst 0 (s_callV G d MX12_putsAll 2 11 (s_aload 0 (s_dup (s_getI 11 41 (s_iconst 1 (s_iadd (s_putI 11 41 (s_aload 0 (s_getI 11 41 (s_ireturn ρ))))))))))))))))) (s_iconst (-1) (s_ireturn ρ))))))))) := (e_aload_n dX12_image_0 rfl (e_iconst (v := 0) dX12_image_1 (by decide) (e_putI rfl cl_11 (by decide) rfl rfl rfl q_1564 dX12_image_2 (e_aload_n dX12_image_5 rfl (e_getI rfl cl_11 (by decide) rfl q_1605 dX12_image_6 (e_iconst (v := 3) dX12_image_9 (by decide) (e_ic_ne (tgt := 15) dX12_image_10 (by decide) (e_aload_n dX12_image_15 rfl (e_aload_n dX12_image_16 rfl (e_getR rfl cl_11 (by decide) rfl q_1600 dX12_image_17 (e_aload_n dX12_image_20 rfl (e_getI rfl cl_11 (by decide) rfl q_1605 dX12_image_21 (e_aaload dX12_image_24 (e_iconst (v := 0) dX12_image_25 (by decide) (e_callV cl_11 cal_X12_putsAll q_2157 q_2159 q_107 dX12_image_26 (e_aload_n dX12_image_29 rfl (e_dup dX12_image_30 (e_getI rfl cl_11 (by decide) rfl q_1605 dX12_image_31 (e_iconst (v := 1) dX12_image_34 (by decide) (e_iadd dX12_image_35 (e_putI rfl cl_11 (by decide) rfl rfl rfl q_1605 dX12_image_36 (e_aload_n dX12_image_39 rfl (e_getI rfl cl_11 (by decide) rfl q_1605 dX12_image_40 (e_ireturn rfl dX12_image_43))))))))))))))))) (e_iconst (v := (-1)) dX12_image_13 (by decide) (e_ireturn rfl dX12_image_14)))))))))
theorem dX12_restore_0 : decode cX12_restore 0 = .ok (.aload_n 0, 1) := by decide +kernel
theorem dX12_restore_1 : decode cX12_restore 1 = .ok (.iconst 0, 1) := by decide +kernel
theorem dX12_restore_2 : decode cX12_restore 2 = .ok (.putfield 115, 3) := by decide +kernel
theorem dX12_restore_5 : decode cX12_restore 5 = .ok (.aload_n 0, 1) := by decide +kernel
theorem dX12_restore_6 : decode cX12_restore 6 = .ok (.getfield 227, 3) := by decide +kernel
theorem dX12_restore_9 : decode cX12_restore 9 = .ok (.ifCond .ne 5, 3) := by decide +kernel
theorem dX12_restore_12 : decode cX12_restore 12 = .ok (.iconst (-1), 1) := by decide +kernel
theorem dX12_restore_13 : decode cX12_restore 13 = .ok (.ireturn, 1) := by decide +kernel
theorem dX12_restore_14 : decode cX12_restore 14 = .ok (.aload_n 0, 1) := by decide +kernel
theorem dX12_restore_15 : decode cX12_restore 15 = .ok (.dup, 1) := by decide +kernel
theorem dX12_restore_16 : decode cX12_restore 16 = .ok (.getfield 227, 3) := by decide +kernel
theorem dX12_restore_19 : decode cX12_restore 19 = .ok (.iconst 1, 1) := by decide +kernel
theorem dX12_restore_20 : decode cX12_restore 20 = .ok (.isub, 1) := by decide +kernel
theorem dX12_restore_21 : decode cX12_restore 21 = .ok (.putfield 227, 3) := by decide +kernel
theorem dX12_restore_24 : decode cX12_restore 24 = .ok (.aload_n 0, 1) := by decide +kernel
theorem dX12_restore_25 : decode cX12_restore 25 = .ok (.aload_n 0, 1) := by decide +kernel
theorem dX12_restore_26 : decode cX12_restore 26 = .ok (.getfield 88, 3) := by decide +kernel
theorem dX12_restore_29 : decode cX12_restore 29 = .ok (.aload_n 0, 1) := by decide +kernel
theorem dX12_restore_30 : decode cX12_restore 30 = .ok (.getfield 227, 3) := by decide +kernel
theorem dX12_restore_33 : decode cX12_restore 33 = .ok (.aaload, 1) := by decide +kernel
theorem dX12_restore_34 : decode cX12_restore 34 = .ok (.iconst 1, 1) := by decide +kernel
theorem dX12_restore_35 : decode cX12_restore 35 = .ok (.invokevirtual 442, 3) := by decide +kernel
theorem dX12_restore_38 : decode cX12_restore 38 = .ok (.aload_n 0, 1) := by decide +kernel
theorem dX12_restore_39 : decode cX12_restore 39 = .ok (.iconst 0, 1) := by decide +kernel
theorem dX12_restore_40 : decode cX12_restore 40 = .ok (.putfield 224, 3) := by decide +kernel
theorem dX12_restore_43 : decode cX12_restore 43 = .ok (.aload_n 0, 1) := by decide +kernel
theorem dX12_restore_44 : decode cX12_restore 44 = .ok (.getfield 227, 3) := by decide +kernel
theorem dX12_restore_47 : decode cX12_restore 47 = .ok (.ireturn, 1) := by decide +kernel
set_option maxRecDepth 100000 in
theorem T_X12_restore_0 {G : GE} {d C S : Nat} {ρ : Rs} : Snd G MX12_restore (d + 1) C S 0 ρ (s_aload 0 (s_iconst 0 (s_putI 11 0 (s_aload 0 (s_getI 11 41 (s_if_ne (s_aload 0 (s_dup (s_getI 11 41 (s_iconst 1 (s_isub (s_putI 11 41 (s_aload 0 (s_aload 0 (s_getR 11 36 (s_aload 0 (s_getI 11 41 (s_aaload (s_iconst 1 (s_callV G d MX12_putsAll 2 11 (s_aload 0 (s_iconst 0 (s_putI 11 40 (s_aload 0 (s_getI 11 41 (s_ireturn ρ)))))))))))))))))))) (s_iconst (-1) (s_ireturn ρ)))))))) := (e_aload_n dX12_restore_0 rfl (e_iconst (v := 0) dX12_restore_1 (by decide) (e_putI rfl cl_11 (by decide) rfl rfl rfl q_1564 dX12_restore_2 (e_aload_n dX12_restore_5 rfl (e_getI rfl cl_11 (by decide) rfl q_1605 dX12_restore_6 (e_if_ne (tgt := 14) dX12_restore_9 (by decide) (e_aload_n dX12_restore_14 rfl (e_dup dX12_restore_15 (e_getI rfl cl_11 (by decide) rfl q_1605 dX12_restore_16 (e_iconst (v := 1) dX12_restore_19 (by decide) (e_isub dX12_restore_20 (e_putI rfl cl_11 (by decide) rfl rfl rfl q_1605 dX12_restore_21 (e_aload_n dX12_restore_24 rfl (e_aload_n dX12_restore_25 rfl (e_getR rfl cl_11 (by decide) rfl q_1600 dX12_restore_26 (e_aload_n dX12_restore_29 rfl (e_getI rfl cl_11 (by decide) rfl q_1605 dX12_restore_30 (e_aaload dX12_restore_33 (e_iconst (v := 1) dX12_restore_34 (by decide) (e_callV cl_11 cal_X12_putsAll q_2157 q_2159 q_107 dX12_restore_35 (e_aload_n dX12_restore_38 rfl (e_iconst (v := 0) dX12_restore_39 (by decide) (e_putI rfl cl_11 (by decide) rfl rfl rfl q_1604 dX12_restore_40 (e_aload_n dX12_restore_43 rfl (e_getI rfl cl_11 (by decide) rfl q_1605 dX12_restore_44 (e_ireturn rfl dX12_restore_47)))))))))))))))))))) (e_iconst (v := (-1)) dX12_restore_12 (by decide) (e_ireturn rfl dX12_restore_13))))))))
theorem dX12_status_0 : decode cX12_status 0 = .ok (.aload_n 0, 1) := by decide +kernel
theorem dX12_status_1 : decode cX12_status 1 = .ok (.iconst 0, 1) := by decide +kernel
theorem dX12_status_2 : decode cX12_status 2 = .ok (.putfield 115, 3) := by decide +kernel
theorem dX12_status_5 : decode cX12_status 5 = .ok (.iload_n 1, 1) := by decide +kernel
theorem dX12_status_6 : decode cX12_status 6 = .ok (.iconst 0, 1) := by decide +kernel
theorem dX12_status_7 : decode cX12_status 7 = .ok (.iconst 2, 1) := by decide +kernel
theorem dX12_status_8 : decode cX12_status 8 = .ok (.invokestatic 149, 3) := by decide +kernel
theorem dX12_status_11 : decode cX12_status 11 = .ok (.ifCond .eq 12, 3) := by decide +kernel
theorem dX12_status_14 : decode cX12_status 14 = .ok (.aload_n 0, 1) := by decide +kernel
theorem dX12_status_15 : decode cX12_status 15 = .ok (.getfield 17, 3) := by decide +kernel
theorem dX12_status_18 : decode cX12_status 18 = .ok (.iload_n 1, 1) := by decide +kernel
theorem dX12_status_19 : decode cX12_status 19 = .ok (.iaload, 1) := by decide +kernel
theorem dX12_status_20 : decode cX12_status 20 = .ok (.goto 4, 3) := by decide +kernel
theorem dX12_status_23 : decode cX12_status 23 = .ok (.iconst (-1), 1) := by decide +kernel
theorem dX12_status_24 : decode cX12_status 24 = .ok (.ireturn, 1) := by decide +kernel
set_option maxRecDepth 100000 in
theorem T_X12_status_0 {G : GE} {d C S : Nat} {ρ : Rs} : Snd G MX12_status (d + 1) C S 0 ρ (s_aload 0 (s_iconst 0 (s_putI 11 0 (s_iload 1 (s_iconst 0 (s_iconst 2 (s_call G d MX12_in 3 (s_if_eq (s_iconst (-1) (s_ireturn ρ)) (s_aload 0 (s_getR 11 10 (s_iload 1 (s_iaload (s_ireturn ρ))))))))))))) := (e_aload_n dX12_status_0 rfl (e_iconst (v := 0) dX12_status_1 (by decide) (e_putI rfl cl_11 (by decide) rfl rfl rfl q_1564 dX12_status_2 (e_iload_n dX12_status_5 rfl (e_iconst (v := 0) dX12_status_6 (by decide) (e_iconst (v := 2) dX12_status_7 (by decide) (e_callS cal_X12_in q_1739 q_1740 dX12_status_8 (e_if_eq (tgt := 23) dX12_status_11 (by decide) (e_iconst (v := (-1)) dX12_status_23 (by decide) (e_ireturn rfl dX12_status_24)) (e_aload_n dX12_status_14 rfl (e_getR rfl cl_11 (by decide) rfl q_1574 dX12_status_15 (e_iload_n dX12_status_18 rfl (e_iaload dX12_status_19 (e_goto (tgt := 24) dX12_status_20 (by decide) (e_ireturn rfl dX12_status_24))))))))))))))
theorem dX12_count_0 : decode cX12_count 0 = .ok (.aload_n 0, 1) := by decide +kernel
theorem dX12_count_1 : decode cX12_count 1 = .ok (.iconst 0, 1) := by decide +kernel
theorem dX12_count_2 : decode cX12_count 2 = .ok (.putfield 115, 3) := by decide +kernel
theorem dX12_count_5 : decode cX12_count 5 = .ok (.iload_n 1, 1) := by decide +kernel
theorem dX12_count_6 : decode cX12_count 6 = .ok (.ifCond .ne 10, 3) := by decide +kernel
theorem dX12_count_9 : decode cX12_count 9 = .ok (.aload_n 0, 1) := by decide +kernel
theorem dX12_count_10 : decode cX12_count 10 = .ok (.getfield 227, 3) := by decide +kernel
theorem dX12_count_13 : decode cX12_count 13 = .ok (.goto 28, 3) := by decide +kernel
theorem dX12_count_16 : decode cX12_count 16 = .ok (.iload_n 1, 1) := by decide +kernel
theorem dX12_count_17 : decode cX12_count 17 = .ok (.iconst 1, 1) := by decide +kernel
theorem dX12_count_18 : decode cX12_count 18 = .ok (.if_icmp .ne 10, 3) := by decide +kernel
theorem dX12_count_21 : decode cX12_count 21 = .ok (.aload_n 0, 1) := by decide +kernel
theorem dX12_count_22 : decode cX12_count 22 = .ok (.getfield 118, 3) := by decide +kernel
theorem dX12_count_25 : decode cX12_count 25 = .ok (.goto 16, 3) := by decide +kernel
theorem dX12_count_28 : decode cX12_count 28 = .ok (.iload_n 1, 1) := by decide +kernel
theorem dX12_count_29 : decode cX12_count 29 = .ok (.iconst 2, 1) := by decide +kernel
theorem dX12_count_30 : decode cX12_count 30 = .ok (.if_icmp .ne 10, 3) := by decide +kernel
theorem dX12_count_33 : decode cX12_count 33 = .ok (.aload_n 0, 1) := by decide +kernel
theorem dX12_count_34 : decode cX12_count 34 = .ok (.getfield 221, 3) := by decide +kernel
theorem dX12_count_37 : decode cX12_count 37 = .ok (.goto 4, 3) := by decide +kernel
theorem dX12_count_40 : decode cX12_count 40 = .ok (.iconst (-1), 1) := by decide +kernel
theorem dX12_count_41 : decode cX12_count 41 = .ok (.ireturn, 1) := by decide +kernel
set_option maxRecDepth 100000 in
theorem T_X12_count_0 {G : GE} {d C S : Nat} {ρ : Rs} : Snd G MX12_count d C S 0 ρ (s_aload 0 (s_iconst 0 (s_putI 11 0 (s_iload 1 (s_if_ne (s_iload 1 (s_iconst 1 (s_ic_ne (s_iload 1 (s_iconst 2 (s_ic_ne (s_iconst (-1) (s_ireturn ρ)) (s_aload 0 (s_getI 11 39 (s_ireturn ρ)))))) (s_aload 0 (s_getI 11 1 (s_ireturn ρ)))))) (s_aload 0 (s_getI 11 41 (s_ireturn ρ)))))))) := (e_aload_n dX12_count_0 rfl (e_iconst (v := 0) dX12_count_1 (by decide) (e_putI rfl cl_11 (by decide) rfl rfl rfl q_1564 dX12_count_2 (e_iload_n dX12_count_5 rfl (e_if_ne (tgt := 16) dX12_count_6 (by decide) (e_iload_n dX12_count_16 rfl (e_iconst (v := 1) dX12_count_17 (by decide) (e_ic_ne (tgt := 28) dX12_count_18 (by decide) (e_iload_n dX12_count_28 rfl (e_iconst (v := 2) dX12_count_29 (by decide) (e_ic_ne (tgt := 40) dX12_count_30 (by decide) (e_iconst (v := (-1)) dX12_count_40 (by decide) (e_ireturn rfl dX12_count_41)) (e_aload_n dX12_count_33 rfl (e_getI rfl cl_11 (by decide) rfl q_1603 dX12_count_34 (e_goto (tgt := 41) dX12_count_37 (by decide) (e_ireturn rfl dX12_count_41))))))) (e_aload_n dX12_count_21 rfl (e_getI rfl cl_11 (by decide) rfl q_1565 dX12_count_22 (e_goto (tgt := 41) dX12_count_25 (by decide) (e_ireturn rfl dX12_count_41))))))) (e_aload_n dX12_count_9 rfl (e_getI rfl cl_11 (by decide) rfl q_1605 dX12_count_10 (e_goto (tgt := 41) dX12_count_13 (by decide) (e_ireturn rfl dX12_count_41)))))))))
