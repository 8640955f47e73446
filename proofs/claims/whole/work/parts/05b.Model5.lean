theorem dX12_round_0 : decode cX12_round 0 = .ok (.aload_n 0, 1) := by decide +kernel
theorem dX12_round_1 : decode cX12_round 1 = .ok (.iconst 0, 1) := by decide +kernel
theorem dX12_round_2 : decode cX12_round 2 = .ok (.putfield 115, 3) := by decide +kernel
theorem dX12_round_5 : decode cX12_round 5 = .ok (.aload_n 0, 1) := by decide +kernel
theorem dX12_round_6 : decode cX12_round 6 = .ok (.iload_n 1, 1) := by decide +kernel
theorem dX12_round_7 : decode cX12_round 7 = .ok (.iconst 0, 1) := by decide +kernel
theorem dX12_round_8 : decode cX12_round 8 = .ok (.iconst 1, 1) := by decide +kernel
theorem dX12_round_9 : decode cX12_round 9 = .ok (.aload_n 0, 1) := by decide +kernel
theorem dX12_round_10 : decode cX12_round 10 = .ok (.getfield 23, 3) := by decide +kernel
theorem dX12_round_13 : decode cX12_round 13 = .ok (.iconst 1, 1) := by decide +kernel
theorem dX12_round_14 : decode cX12_round 14 = .ok (.iaload, 1) := by decide +kernel
theorem dX12_round_15 : decode cX12_round 15 = .ok (.ishl, 1) := by decide +kernel
theorem dX12_round_16 : decode cX12_round 16 = .ok (.iconst 1, 1) := by decide +kernel
theorem dX12_round_17 : decode cX12_round 17 = .ok (.isub, 1) := by decide +kernel
theorem dX12_round_18 : decode cX12_round 18 = .ok (.invokestatic 149, 3) := by decide +kernel
theorem dX12_round_21 : decode cX12_round 21 = .ok (.ifCond .ne 7, 3) := by decide +kernel
theorem dX12_round_24 : decode cX12_round 24 = .ok (.iconst 1, 1) := by decide +kernel
theorem dX12_round_25 : decode cX12_round 25 = .ok (.goto 4, 3) := by decide +kernel
theorem dX12_round_28 : decode cX12_round 28 = .ok (.iconst 0, 1) := by decide +kernel
theorem dX12_round_29 : decode cX12_round 29 = .ok (.iconst 1, 1) := by decide +kernel
theorem dX12_round_30 : decode cX12_round 30 = .ok (.iconst 2, 1) := by decide +kernel
theorem dX12_round_31 : decode cX12_round 31 = .ok (.invokevirtual 198, 3) := by decide +kernel
theorem dX12_round_34 : decode cX12_round 34 = .ok (.ifCond .eq 5, 3) := by decide +kernel
theorem dX12_round_37 : decode cX12_round 37 = .ok (.iconst 0, 1) := by decide +kernel
theorem dX12_round_38 : decode cX12_round 38 = .ok (.ireturn, 1) := by decide +kernel
theorem dX12_round_39 : decode cX12_round 39 = .ok (.iload_n 1, 1) := by decide +kernel
theorem dX12_round_40 : decode cX12_round 40 = .ok (.ifCond .ne 5, 3) := by decide +kernel
theorem dX12_round_43 : decode cX12_round 43 = .ok (.iconst 0, 1) := by decide +kernel
theorem dX12_round_44 : decode cX12_round 44 = .ok (.ireturn, 1) := by decide +kernel
theorem dX12_round_45 : decode cX12_round 45 = .ok (.aload_n 0, 1) := by decide +kernel
theorem dX12_round_46 : decode cX12_round 46 = .ok (.iconst (-1), 1) := by decide +kernel
theorem dX12_round_47 : decode cX12_round 47 = .ok (.invokevirtual 390, 3) := by decide +kernel
theorem dX12_round_50 : decode cX12_round 50 = .ok (.iconst 0, 1) := by decide +kernel
theorem dX12_round_51 : decode cX12_round 51 = .ok (.istore_n 2, 1) := by decide +kernel
theorem dX12_round_52 : decode cX12_round 52 = .ok (.iload_n 1, 1) := by decide +kernel
theorem dX12_round_53 : decode cX12_round 53 = .ok (.iload_n 2, 1) := by decide +kernel
theorem dX12_round_54 : decode cX12_round 54 = .ok (.invokestatic 377, 3) := by decide +kernel
theorem dX12_round_57 : decode cX12_round 57 = .ok (.ifCond .ne 9, 3) := by decide +kernel
theorem dX12_round_60 : decode cX12_round 60 = .ok (.iinc 2 1, 3) := by decide +kernel
theorem dX12_round_63 : decode cX12_round 63 = .ok (.goto (-11), 3) := by decide +kernel
theorem dX12_round_66 : decode cX12_round 66 = .ok (.aload_n 0, 1) := by decide +kernel
theorem dX12_round_67 : decode cX12_round 67 = .ok (.getfield 37, 3) := by decide +kernel
theorem dX12_round_70 : decode cX12_round 70 = .ok (.iload_n 2, 1) := by decide +kernel
theorem dX12_round_71 : decode cX12_round 71 = .ok (.aaload, 1) := by decide +kernel
theorem dX12_round_72 : decode cX12_round 72 = .ok (.iconst 0, 1) := by decide +kernel
theorem dX12_round_73 : decode cX12_round 73 = .ok (.iaload, 1) := by decide +kernel
theorem dX12_round_74 : decode cX12_round 74 = .ok (.istore_n 3, 1) := by decide +kernel
theorem dX12_round_75 : decode cX12_round 75 = .ok (.iconst (-1), 1) := by decide +kernel
theorem dX12_round_76 : decode cX12_round 76 = .ok (.istore 4, 2) := by decide +kernel
theorem dX12_round_78 : decode cX12_round 78 = .ok (.iconst 0, 1) := by decide +kernel
theorem dX12_round_79 : decode cX12_round 79 = .ok (.istore 5, 2) := by decide +kernel
theorem dX12_round_81 : decode cX12_round 81 = .ok (.iload 5, 2) := by decide +kernel
theorem dX12_round_83 : decode cX12_round 83 = .ok (.iconst 1, 1) := by decide +kernel
theorem dX12_round_84 : decode cX12_round 84 = .ok (.aload_n 0, 1) := by decide +kernel
theorem dX12_round_85 : decode cX12_round 85 = .ok (.getfield 23, 3) := by decide +kernel
theorem dX12_round_88 : decode cX12_round 88 = .ok (.iconst 1, 1) := by decide +kernel
theorem dX12_round_89 : decode cX12_round 89 = .ok (.iaload, 1) := by decide +kernel
theorem dX12_round_90 : decode cX12_round 90 = .ok (.ishl, 1) := by decide +kernel
theorem dX12_round_91 : decode cX12_round 91 = .ok (.if_icmp .ge 36, 3) := by decide +kernel
theorem dX12_round_94 : decode cX12_round 94 = .ok (.iconst 0, 1) := by decide +kernel
theorem dX12_round_95 : decode cX12_round 95 = .ok (.istore 6, 2) := by decide +kernel
theorem dX12_round_97 : decode cX12_round 97 = .ok (.iload 6, 2) := by decide +kernel
theorem dX12_round_99 : decode cX12_round 99 = .ok (.bipush 10, 2) := by decide +kernel
theorem dX12_round_101 : decode cX12_round 101 = .ok (.if_icmp .ge 20, 3) := by decide +kernel
theorem dX12_round_104 : decode cX12_round 104 = .ok (.aload_n 0, 1) := by decide +kernel
theorem dX12_round_105 : decode cX12_round 105 = .ok (.getfield 103, 3) := by decide +kernel
theorem dX12_round_108 : decode cX12_round 108 = .ok (.iload 5, 2) := by decide +kernel
theorem dX12_round_110 : decode cX12_round 110 = .ok (.aaload, 1) := by decide +kernel
theorem dX12_round_111 : decode cX12_round 111 = .ok (.iload 6, 2) := by decide +kernel
theorem dX12_round_113 : decode cX12_round 113 = .ok (.iconst (-1), 1) := by decide +kernel
theorem dX12_round_114 : decode cX12_round 114 = .ok (.iastore, 1) := by decide +kernel
theorem dX12_round_115 : decode cX12_round 115 = .ok (.iinc 6 1, 3) := by decide +kernel
theorem dX12_round_118 : decode cX12_round 118 = .ok (.goto (-21), 3) := by decide +kernel
theorem dX12_round_121 : decode cX12_round 121 = .ok (.iinc 5 1, 3) := by decide +kernel
theorem dX12_round_124 : decode cX12_round 124 = .ok (.goto (-43), 3) := by decide +kernel
theorem dX12_round_127 : decode cX12_round 127 = .ok (.aload_n 0, 1) := by decide +kernel
theorem dX12_round_128 : decode cX12_round 128 = .ok (.getfield 103, 3) := by decide +kernel
theorem dX12_round_131 : decode cX12_round 131 = .ok (.iconst 0, 1) := by decide +kernel
theorem dX12_round_132 : decode cX12_round 132 = .ok (.aaload, 1) := by decide +kernel
theorem dX12_round_133 : decode cX12_round 133 = .ok (.iload_n 3, 1) := by decide +kernel
theorem dX12_round_134 : decode cX12_round 134 = .ok (.iconst 0, 1) := by decide +kernel
theorem dX12_round_135 : decode cX12_round 135 = .ok (.iastore, 1) := by decide +kernel
theorem dX12_round_136 : decode cX12_round 136 = .ok (.iconst 0, 1) := by decide +kernel
theorem dX12_round_137 : decode cX12_round 137 = .ok (.istore 5, 2) := by decide +kernel
theorem dX12_round_139 : decode cX12_round 139 = .ok (.iload 5, 2) := by decide +kernel
theorem dX12_round_141 : decode cX12_round 141 = .ok (.iconst 1, 1) := by decide +kernel
theorem dX12_round_142 : decode cX12_round 142 = .ok (.aload_n 0, 1) := by decide +kernel
theorem dX12_round_143 : decode cX12_round 143 = .ok (.getfield 23, 3) := by decide +kernel
theorem dX12_round_146 : decode cX12_round 146 = .ok (.iconst 1, 1) := by decide +kernel
theorem dX12_round_147 : decode cX12_round 147 = .ok (.iaload, 1) := by decide +kernel
theorem dX12_round_148 : decode cX12_round 148 = .ok (.ishl, 1) := by decide +kernel
theorem dX12_round_149 : decode cX12_round 149 = .ok (.if_icmp .ge 48, 3) := by decide +kernel
theorem dX12_round_152 : decode cX12_round 152 = .ok (.iconst 0, 1) := by decide +kernel
theorem dX12_round_153 : decode cX12_round 153 = .ok (.istore 6, 2) := by decide +kernel
theorem dX12_round_155 : decode cX12_round 155 = .ok (.iload 6, 2) := by decide +kernel
theorem dX12_round_157 : decode cX12_round 157 = .ok (.bipush 10, 2) := by decide +kernel
theorem dX12_round_159 : decode cX12_round 159 = .ok (.if_icmp .ge 32, 3) := by decide +kernel
theorem dX12_round_162 : decode cX12_round 162 = .ok (.aload_n 0, 1) := by decide +kernel
theorem dX12_round_163 : decode cX12_round 163 = .ok (.getfield 103, 3) := by decide +kernel
theorem dX12_round_166 : decode cX12_round 166 = .ok (.iload 5, 2) := by decide +kernel
theorem dX12_round_168 : decode cX12_round 168 = .ok (.aaload, 1) := by decide +kernel
theorem dX12_round_169 : decode cX12_round 169 = .ok (.iload 6, 2) := by decide +kernel
theorem dX12_round_171 : decode cX12_round 171 = .ok (.iaload, 1) := by decide +kernel
theorem dX12_round_172 : decode cX12_round 172 = .ok (.iconst (-1), 1) := by decide +kernel
theorem dX12_round_173 : decode cX12_round 173 = .ok (.if_icmp .eq 12, 3) := by decide +kernel
theorem dX12_round_176 : decode cX12_round 176 = .ok (.aload_n 0, 1) := by decide +kernel
theorem dX12_round_177 : decode cX12_round 177 = .ok (.iload_n 1, 1) := by decide +kernel
theorem dX12_round_178 : decode cX12_round 178 = .ok (.iload 5, 2) := by decide +kernel
theorem dX12_round_180 : decode cX12_round 180 = .ok (.iload 6, 2) := by decide +kernel
theorem dX12_round_182 : decode cX12_round 182 = .ok (.invokevirtual 393, 3) := by decide +kernel
theorem dX12_round_185 : decode cX12_round 185 = .ok (.iinc 6 1, 3) := by decide +kernel
theorem dX12_round_188 : decode cX12_round 188 = .ok (.goto (-33), 3) := by decide +kernel
theorem dX12_round_191 : decode cX12_round 191 = .ok (.iinc 5 1, 3) := by decide +kernel
theorem dX12_round_194 : decode cX12_round 194 = .ok (.goto (-55), 3) := by decide +kernel
theorem dX12_round_197 : decode cX12_round 197 = .ok (.iconst 0, 1) := by decide +kernel
theorem dX12_round_198 : decode cX12_round 198 = .ok (.istore 5, 2) := by decide +kernel
theorem dX12_round_200 : decode cX12_round 200 = .ok (.iload 5, 2) := by decide +kernel
theorem dX12_round_202 : decode cX12_round 202 = .ok (.bipush 10, 2) := by decide +kernel
theorem dX12_round_204 : decode cX12_round 204 = .ok (.if_icmp .ge 79, 3) := by decide +kernel
theorem dX12_round_207 : decode cX12_round 207 = .ok (.aload_n 0, 1) := by decide +kernel
theorem dX12_round_208 : decode cX12_round 208 = .ok (.getfield 103, 3) := by decide +kernel
theorem dX12_round_211 : decode cX12_round 211 = .ok (.iload_n 1, 1) := by decide +kernel
theorem dX12_round_212 : decode cX12_round 212 = .ok (.aaload, 1) := by decide +kernel
theorem dX12_round_213 : decode cX12_round 213 = .ok (.iload 5, 2) := by decide +kernel
theorem dX12_round_215 : decode cX12_round 215 = .ok (.iaload, 1) := by decide +kernel
theorem dX12_round_216 : decode cX12_round 216 = .ok (.iconst (-1), 1) := by decide +kernel
theorem dX12_round_217 : decode cX12_round 217 = .ok (.if_icmp .eq 60, 3) := by decide +kernel
theorem dX12_round_220 : decode cX12_round 220 = .ok (.aload_n 0, 1) := by decide +kernel
theorem dX12_round_221 : decode cX12_round 221 = .ok (.getfield 91, 3) := by decide +kernel
theorem dX12_round_224 : decode cX12_round 224 = .ok (.iload 5, 2) := by decide +kernel
theorem dX12_round_226 : decode cX12_round 226 = .ok (.aaload, 1) := by decide +kernel
theorem dX12_round_227 : decode cX12_round 227 = .ok (.iload_n 3, 1) := by decide +kernel
theorem dX12_round_228 : decode cX12_round 228 = .ok (.iaload, 1) := by decide +kernel
theorem dX12_round_229 : decode cX12_round 229 = .ok (.iconst (-1), 1) := by decide +kernel
theorem dX12_round_230 : decode cX12_round 230 = .ok (.if_icmp .ne 6, 3) := by decide +kernel
theorem dX12_round_233 : decode cX12_round 233 = .ok (.goto 44, 3) := by decide +kernel
theorem dX12_round_236 : decode cX12_round 236 = .ok (.aload_n 0, 1) := by decide +kernel
theorem dX12_round_237 : decode cX12_round 237 = .ok (.getfield 103, 3) := by decide +kernel
theorem dX12_round_240 : decode cX12_round 240 = .ok (.iload_n 1, 1) := by decide +kernel
theorem dX12_round_241 : decode cX12_round 241 = .ok (.aaload, 1) := by decide +kernel
theorem dX12_round_242 : decode cX12_round 242 = .ok (.iload 5, 2) := by decide +kernel
theorem dX12_round_244 : decode cX12_round 244 = .ok (.iaload, 1) := by decide +kernel
theorem dX12_round_245 : decode cX12_round 245 = .ok (.aload_n 0, 1) := by decide +kernel
theorem dX12_round_246 : decode cX12_round 246 = .ok (.getfield 91, 3) := by decide +kernel
theorem dX12_round_249 : decode cX12_round 249 = .ok (.iload 5, 2) := by decide +kernel
theorem dX12_round_251 : decode cX12_round 251 = .ok (.aaload, 1) := by decide +kernel
theorem dX12_round_252 : decode cX12_round 252 = .ok (.iload_n 3, 1) := by decide +kernel
theorem dX12_round_253 : decode cX12_round 253 = .ok (.iaload, 1) := by decide +kernel
theorem dX12_round_254 : decode cX12_round 254 = .ok (.iadd, 1) := by decide +kernel
theorem dX12_round_255 : decode cX12_round 255 = .ok (.istore 6, 2) := by decide +kernel
theorem dX12_round_257 : decode cX12_round 257 = .ok (.iload 4, 2) := by decide +kernel
theorem dX12_round_259 : decode cX12_round 259 = .ok (.iconst (-1), 1) := by decide +kernel
theorem dX12_round_260 : decode cX12_round 260 = .ok (.if_icmp .ne 8, 3) := by decide +kernel
theorem dX12_round_263 : decode cX12_round 263 = .ok (.iload 6, 2) := by decide +kernel
theorem dX12_round_265 : decode cX12_round 265 = .ok (.goto 10, 3) := by decide +kernel
theorem dX12_round_268 : decode cX12_round 268 = .ok (.iload 4, 2) := by decide +kernel
theorem dX12_round_270 : decode cX12_round 270 = .ok (.iload 6, 2) := by decide +kernel
theorem dX12_round_272 : decode cX12_round 272 = .ok (.invokestatic 258, 3) := by decide +kernel
theorem dX12_round_275 : decode cX12_round 275 = .ok (.istore 4, 2) := by decide +kernel
theorem dX12_round_277 : decode cX12_round 277 = .ok (.iinc 5 1, 3) := by decide +kernel
theorem dX12_round_280 : decode cX12_round 280 = .ok (.goto (-80), 3) := by decide +kernel
theorem dX12_round_283 : decode cX12_round 283 = .ok (.iload 4, 2) := by decide +kernel
theorem dX12_round_285 : decode cX12_round 285 = .ok (.ireturn, 1) := by decide +kernel
set_option maxRecDepth 100000 in
theorem T_X12_round_0 {G : GE} {d C S : Nat} {P : KI} : Snd G MX12_round (d + 1) C S 0 (RI P) (s_aload 0 (s_iconst 0 (s_putI 11 0 (s_aload 0 (s_iload 1 (s_iconst 0 (s_iconst 1 (s_aload 0 (s_getR 11 12 (s_iconst 1 (s_iaload (s_ishl (s_iconst 1 (s_isub (s_call G d MX12_in 3 (s_if_ne (s_iconst 0 (s_iconst 1 (s_iconst 2 (s_callV G d MX12_bad 3 11 (s_if_eq (s_iload 1 (s_if_ne (s_aload 0 (s_iconst (-1) (s_callV G d MX12_laysWays 1 11 (s_iconst 0 (s_istore 2 (fun L st h => E G MX12_round (d + 1) C S 52 (msk [true, true, true, false, false, false, false] L) st h (RI P))))))) (s_iconst 0 (s_ireturn P)))) (s_iconst 0 (s_ireturn P))))))) (s_iconst 1 (s_iconst 1 (s_iconst 2 (s_callV G d MX12_bad 3 11 (s_if_eq (s_iload 1 (s_if_ne (s_aload 0 (s_iconst (-1) (s_callV G d MX12_laysWays 1 11 (s_iconst 0 (s_istore 2 (fun L st h => E G MX12_round (d + 1) C S 52 (msk [true, true, true, false, false, false, false] L) st h (RI P))))))) (s_iconst 0 (s_ireturn P)))) (s_iconst 0 (s_ireturn P))))))))))))))))))))))) := (e_aload_n dX12_round_0 rfl (e_iconst (v := 0) dX12_round_1 (by decide) (e_putI rfl cl_11 (by decide) rfl rfl rfl q_1564 dX12_round_2 (e_aload_n dX12_round_5 rfl (e_iload_n dX12_round_6 rfl (e_iconst (v := 0) dX12_round_7 (by decide) (e_iconst (v := 1) dX12_round_8 (by decide) (e_aload_n dX12_round_9 rfl (e_getR rfl cl_11 (by decide) rfl q_1576 dX12_round_10 (e_iconst (v := 1) dX12_round_13 (by decide) (e_iaload dX12_round_14 (e_ishl dX12_round_15 (e_iconst (v := 1) dX12_round_16 (by decide) (e_isub dX12_round_17 (e_callS cal_X12_in q_1739 q_1740 dX12_round_18 (e_if_ne (tgt := 28) dX12_round_21 (by decide) (e_iconst (v := 0) dX12_round_28 (by decide) (e_iconst (v := 1) dX12_round_29 (by decide) (e_iconst (v := 2) dX12_round_30 (by decide) (e_callV cl_11 cal_X12_bad q_1742 q_1744 q_53 dX12_round_31 (e_if_eq (tgt := 39) dX12_round_34 (by decide) (e_iload_n dX12_round_39 rfl (e_if_ne (tgt := 45) dX12_round_40 (by decide) (e_aload_n dX12_round_45 rfl (e_iconst (v := (-1)) dX12_round_46 (by decide) (e_callV cl_11 cal_X12_laysWays q_2047 q_2049 q_98 dX12_round_47 (e_iconst (v := 0) dX12_round_50 (by decide) (e_istore_n dX12_round_51 rfl (by decide) (e_msk [true, true, true, false, false, false, false])))))) (e_iconst (v := 0) dX12_round_43 (by decide) (e_ireturn rfl dX12_round_44)))) (e_iconst (v := 0) dX12_round_37 (by decide) (e_ireturn rfl dX12_round_38))))))) (e_iconst (v := 1) dX12_round_24 (by decide) (e_goto (tgt := 29) dX12_round_25 (by decide) (e_iconst (v := 1) dX12_round_29 (by decide) (e_iconst (v := 2) dX12_round_30 (by decide) (e_callV cl_11 cal_X12_bad q_1742 q_1744 q_53 dX12_round_31 (e_if_eq (tgt := 39) dX12_round_34 (by decide) (e_iload_n dX12_round_39 rfl (e_if_ne (tgt := 45) dX12_round_40 (by decide) (e_aload_n dX12_round_45 rfl (e_iconst (v := (-1)) dX12_round_46 (by decide) (e_callV cl_11 cal_X12_laysWays q_2047 q_2049 q_98 dX12_round_47 (e_iconst (v := 0) dX12_round_50 (by decide) (e_istore_n dX12_round_51 rfl (by decide) (e_msk [true, true, true, false, false, false, false])))))) (e_iconst (v := 0) dX12_round_43 (by decide) (e_ireturn rfl dX12_round_44)))) (e_iconst (v := 0) dX12_round_37 (by decide) (e_ireturn rfl dX12_round_38))))))))))))))))))))))))
set_option maxRecDepth 100000 in
theorem V_X12_round_0 {G : GE} {d : Nat} {P : KI} {a : Nat → Nat → Int32} {r : Nat → Nat → Value} {N : Nat} {l0 : Nat} {l1 : Int32} (hs : (tyK l0 = (0, 11) ∧ l0 < N ∧ ∀ a1, a1 = u2 a l0 0 0 → (tyK l0 = (0, 11) ∧ l0 < N ∧ ∃ q2, r l0 12 = .ref q2 ∧ ((tyK q2).1 = 1 ∧ q2 < N ∧ vp_in 1 (tyK q2).2 ∧ Sp G d 0 0 MX12_in [.int l1, .int 0, .int (((1 : Int32) <<< ((a1 q2 (1 : Int32).toNatClampNeg) &&& 31)) - 1)] (a1, r, N) (RI fun v6 a3 r4 n5 => ((¬ v6 = 0 → (tyK l0 = (0, 11) ∧ l0 < n5 ∧ Sp G d 0 0 MX12_bad [.ref l0, .int 0, .int 1, .int 2] (a3, r4, n5) (RI fun v10 a7 r8 n9 => ((v10 = 0 → ((¬ l1 = 0 → (tyK l0 = (0, 11) ∧ l0 < n9 ∧ Sp G d 0 0 MX12_laysWays [.ref l0, .int (-1)] (a7, r8, n9) (RN fun a11 r12 n13 => E G MX12_round (d + 1) 0 0 52 [.ref l0, .int l1, .int 0, .null, .null, .null, .null] [] (a11, r12, n13) (RI P)))) ∧ (l1 = 0 → P 0 a7 r8 n9))) ∧ (¬ v10 = 0 → P 0 a7 r8 n9))))) ∧ (v6 = 0 → (tyK l0 = (0, 11) ∧ l0 < n5 ∧ Sp G d 0 0 MX12_bad [.ref l0, .int 1, .int 1, .int 2] (a3, r4, n5) (RI fun v17 a14 r15 n16 => ((v17 = 0 → ((¬ l1 = 0 → (tyK l0 = (0, 11) ∧ l0 < n16 ∧ Sp G d 0 0 MX12_laysWays [.ref l0, .int (-1)] (a14, r15, n16) (RN fun a18 r19 n20 => E G MX12_round (d + 1) 0 0 52 [.ref l0, .int l1, .int 0, .null, .null, .null, .null] [] (a18, r19, n20) (RI P)))) ∧ (l1 = 0 → P 0 a14 r15 n16))) ∧ (¬ v17 = 0 → P 0 a14 r15 n16))))))))))) : Sp G (d + 1) 0 0 MX12_round [.ref l0, .int l1] (a, r, N) (RI P) := Sp.mk (mc := 0) (ms := 0) [.ref l0, .int l1, .null, .null, .null, .null, .null] rfl rfl rfl rfl (T_X12_round_0 (C := 0) (S := 0) _ _ _ hs)
set_option maxRecDepth 100000 in
theorem T_X12_round_52 {G : GE} {d C S : Nat} {P : KI} : Snd G MX12_round (d + 1) C S 52 (RI P) (s_iload 1 (s_iload 2 (s_call G d MX12_has 2 (s_if_ne (s_aload 0 (s_getR 11 16 (s_iload 2 (s_aaload (s_iconst 0 (s_iaload (s_istore 3 (s_iconst (-1) (s_istore 4 (s_iconst 0 (s_istore 5 (fun L st h => E G MX12_round (d + 1) C S 81 (msk [true, true, false, true, true, true, false] L) st h (RI P))))))))))))) (s_iinc 2 1 (fun L st h => E G MX12_round (d + 1) C S 52 (msk [true, true, true, false, false, false, false] L) st h (RI P))))))) := (e_iload_n dX12_round_52 rfl (e_iload_n dX12_round_53 rfl (e_callS cal_X12_has q_2020 q_2021 dX12_round_54 (e_if_ne (tgt := 66) dX12_round_57 (by decide) (e_aload_n dX12_round_66 rfl (e_getR rfl cl_11 (by decide) rfl q_1580 dX12_round_67 (e_iload_n dX12_round_70 rfl (e_aaload dX12_round_71 (e_iconst (v := 0) dX12_round_72 (by decide) (e_iaload dX12_round_73 (e_istore_n dX12_round_74 rfl (by decide) (e_iconst (v := (-1)) dX12_round_75 (by decide) (e_istore dX12_round_76 (by decide) (e_iconst (v := 0) dX12_round_78 (by decide) (e_istore dX12_round_79 (by decide) (e_msk [true, true, false, true, true, true, false])))))))))))) (e_iinc (v := 1) dX12_round_60 (by decide) (by decide) (e_goto (tgt := 52) dX12_round_63 (by decide) (e_msk [true, true, true, false, false, false, false])))))))
set_option maxRecDepth 100000 in
theorem V_X12_round_52 {G : GE} {d C S : Nat} {P : KI} {a : Nat → Nat → Int32} {r : Nat → Nat → Value} {N : Nat} {l0 : Nat} {l1 : Int32} {l2 : Int32} (hs : Sp G d 0 0 MX12_has [.int l1, .int l2] (a, r, N) (RI fun v4 a1 r2 n3 => ((¬ v4 = 0 → (tyK l0 = (0, 11) ∧ l0 < n3 ∧ ∃ q5, r2 l0 16 = .ref q5 ∧ ((tyK q5).1 = 3 ∧ q5 < n3 ∧ vp_in l2 (tyK q5).2 ∧ ((tyK (q5 + 1 + (l2 : Int32).toNatClampNeg)).1 = 1 ∧ (q5 + 1 + (l2 : Int32).toNatClampNeg) < n3 ∧ vp_in 0 (tyK (q5 + 1 + (l2 : Int32).toNatClampNeg)).2 ∧ E G MX12_round (d + 1) C S 81 [.ref l0, .int l1, .null, .int (a1 (q5 + 1 + (l2 : Int32).toNatClampNeg) (0 : Int32).toNatClampNeg), .int (-1), .int 0, .null] [] (a1, r2, n3) (RI P))))) ∧ (v4 = 0 → E G MX12_round (d + 1) C S 52 [.ref l0, .int l1, .int (l2 + 1), .null, .null, .null, .null] [] (a1, r2, n3) (RI P))))) : E G MX12_round (d + 1) C S 52 [.ref l0, .int l1, .int l2, .null, .null, .null, .null] [] (a, r, N) (RI P) := T_X12_round_52 _ _ _ hs
set_option maxRecDepth 100000 in
theorem T_X12_round_81 {G : GE} {d C S : Nat} {P : KI} : Snd G MX12_round (d + 1) C S 81 (RI P) (s_iload 5 (s_iconst 1 (s_aload 0 (s_getR 11 12 (s_iconst 1 (s_iaload (s_ishl (s_ic_ge (s_aload 0 (s_getR 11 50 (s_iconst 0 (s_aaload (s_iload 3 (s_iconst 0 (s_iastore (s_iconst 0 (s_istore 5 (fun L st h => E G MX12_round (d + 1) C S 139 (msk [true, true, false, true, true, true, false] L) st h (RI P))))))))))) (s_iconst 0 (s_istore 6 (fun L st h => E G MX12_round (d + 1) C S 97 (msk [true, true, false, true, true, true, true] L) st h (RI P)))))))))))) := (e_iload dX12_round_81 (e_iconst (v := 1) dX12_round_83 (by decide) (e_aload_n dX12_round_84 rfl (e_getR rfl cl_11 (by decide) rfl q_1576 dX12_round_85 (e_iconst (v := 1) dX12_round_88 (by decide) (e_iaload dX12_round_89 (e_ishl dX12_round_90 (e_ic_ge (tgt := 127) dX12_round_91 (by decide) (e_aload_n dX12_round_127 rfl (e_getR rfl cl_11 (by decide) rfl q_1614 dX12_round_128 (e_iconst (v := 0) dX12_round_131 (by decide) (e_aaload dX12_round_132 (e_iload_n dX12_round_133 rfl (e_iconst (v := 0) dX12_round_134 (by decide) (e_iastore dX12_round_135 (e_iconst (v := 0) dX12_round_136 (by decide) (e_istore dX12_round_137 (by decide) (e_msk [true, true, false, true, true, true, false])))))))))) (e_iconst (v := 0) dX12_round_94 (by decide) (e_istore dX12_round_95 (by decide) (e_msk [true, true, false, true, true, true, true])))))))))))
set_option maxRecDepth 100000 in
theorem V_X12_round_81 {G : GE} {d C S : Nat} {P : KI} {a : Nat → Nat → Int32} {r : Nat → Nat → Value} {N : Nat} {l0 : Nat} {l1 : Int32} {l3 : Int32} {l4 : Int32} {l5 : Int32} (hs : (tyK l0 = (0, 11) ∧ l0 < N ∧ ∃ q1, r l0 12 = .ref q1 ∧ ((tyK q1).1 = 1 ∧ q1 < N ∧ vp_in 1 (tyK q1).2 ∧ ((((1 : Int32) <<< ((a q1 (1 : Int32).toNatClampNeg) &&& 31)) ≤ l5 → (tyK l0 = (0, 11) ∧ l0 < N ∧ ∃ q2, r l0 50 = .ref q2 ∧ ((tyK q2).1 = 3 ∧ q2 < N ∧ vp_in 0 (tyK q2).2 ∧ ((tyK (q2 + 1 + (0 : Int32).toNatClampNeg)).1 = 1 ∧ (q2 + 1 + (0 : Int32).toNatClampNeg) < N ∧ vp_in l3 (tyK (q2 + 1 + (0 : Int32).toNatClampNeg)).2 ∧ ∀ a3, a3 = u2 a (q2 + 1 + (0 : Int32).toNatClampNeg) (l3 : Int32).toNatClampNeg 0 → E G MX12_round (d + 1) C S 139 [.ref l0, .int l1, .null, .int l3, .int l4, .int 0, .null] [] (a3, r, N) (RI P))))) ∧ (¬ ((1 : Int32) <<< ((a q1 (1 : Int32).toNatClampNeg) &&& 31)) ≤ l5 → E G MX12_round (d + 1) C S 97 [.ref l0, .int l1, .null, .int l3, .int l4, .int l5, .int 0] [] (a, r, N) (RI P)))))) : E G MX12_round (d + 1) C S 81 [.ref l0, .int l1, .null, .int l3, .int l4, .int l5, .null] [] (a, r, N) (RI P) := T_X12_round_81 _ _ _ hs
set_option maxRecDepth 100000 in
theorem T_X12_round_97 {G : GE} {d C S : Nat} {P : KI} : Snd G MX12_round (d + 1) C S 97 (RI P) (s_iload 6 (s_iconst 10 (s_ic_ge (s_iinc 5 1 (fun L st h => E G MX12_round (d + 1) C S 81 (msk [true, true, false, true, true, true, false] L) st h (RI P))) (s_aload 0 (s_getR 11 50 (s_iload 5 (s_aaload (s_iload 6 (s_iconst (-1) (s_iastore (s_iinc 6 1 (fun L st h => E G MX12_round (d + 1) C S 97 (msk [true, true, false, true, true, true, true] L) st h (RI P))))))))))))) := (e_iload dX12_round_97 (e_bipush (v := 10) dX12_round_99 (by decide) (e_ic_ge (tgt := 121) dX12_round_101 (by decide) (e_iinc (v := 1) dX12_round_121 (by decide) (by decide) (e_goto (tgt := 81) dX12_round_124 (by decide) (e_msk [true, true, false, true, true, true, false]))) (e_aload_n dX12_round_104 rfl (e_getR rfl cl_11 (by decide) rfl q_1614 dX12_round_105 (e_iload dX12_round_108 (e_aaload dX12_round_110 (e_iload dX12_round_111 (e_iconst (v := (-1)) dX12_round_113 (by decide) (e_iastore dX12_round_114 (e_iinc (v := 1) dX12_round_115 (by decide) (by decide) (e_goto (tgt := 97) dX12_round_118 (by decide) (e_msk [true, true, false, true, true, true, true])))))))))))))
set_option maxRecDepth 100000 in
theorem V_X12_round_97 {G : GE} {d C S : Nat} {P : KI} {a : Nat → Nat → Int32} {r : Nat → Nat → Value} {N : Nat} {l0 : Nat} {l1 : Int32} {l3 : Int32} {l4 : Int32} {l5 : Int32} {l6 : Int32} (hs : ((10 ≤ l6 → E G MX12_round (d + 1) C S 81 [.ref l0, .int l1, .null, .int l3, .int l4, .int (l5 + 1), .null] [] (a, r, N) (RI P)) ∧ (¬ 10 ≤ l6 → (tyK l0 = (0, 11) ∧ l0 < N ∧ ∃ q1, r l0 50 = .ref q1 ∧ ((tyK q1).1 = 3 ∧ q1 < N ∧ vp_in l5 (tyK q1).2 ∧ ((tyK (q1 + 1 + (l5 : Int32).toNatClampNeg)).1 = 1 ∧ (q1 + 1 + (l5 : Int32).toNatClampNeg) < N ∧ vp_in l6 (tyK (q1 + 1 + (l5 : Int32).toNatClampNeg)).2 ∧ ∀ a2, a2 = u2 a (q1 + 1 + (l5 : Int32).toNatClampNeg) (l6 : Int32).toNatClampNeg (-1) → E G MX12_round (d + 1) C S 97 [.ref l0, .int l1, .null, .int l3, .int l4, .int l5, .int (l6 + 1)] [] (a2, r, N) (RI P))))))) : E G MX12_round (d + 1) C S 97 [.ref l0, .int l1, .null, .int l3, .int l4, .int l5, .int l6] [] (a, r, N) (RI P) := T_X12_round_97 _ _ _ hs
set_option maxRecDepth 100000 in
theorem T_X12_round_139 {G : GE} {d C S : Nat} {P : KI} : Snd G MX12_round (d + 1) C S 139 (RI P) (s_iload 5 (s_iconst 1 (s_aload 0 (s_getR 11 12 (s_iconst 1 (s_iaload (s_ishl (s_ic_ge (s_iconst 0 (s_istore 5 (fun L st h => E G MX12_round (d + 1) C S 200 (msk [true, true, false, true, true, true, false] L) st h (RI P)))) (s_iconst 0 (s_istore 6 (fun L st h => E G MX12_round (d + 1) C S 155 (msk [true, true, false, true, true, true, true] L) st h (RI P)))))))))))) := (e_iload dX12_round_139 (e_iconst (v := 1) dX12_round_141 (by decide) (e_aload_n dX12_round_142 rfl (e_getR rfl cl_11 (by decide) rfl q_1576 dX12_round_143 (e_iconst (v := 1) dX12_round_146 (by decide) (e_iaload dX12_round_147 (e_ishl dX12_round_148 (e_ic_ge (tgt := 197) dX12_round_149 (by decide) (e_iconst (v := 0) dX12_round_197 (by decide) (e_istore dX12_round_198 (by decide) (e_msk [true, true, false, true, true, true, false]))) (e_iconst (v := 0) dX12_round_152 (by decide) (e_istore dX12_round_153 (by decide) (e_msk [true, true, false, true, true, true, true])))))))))))
set_option maxRecDepth 100000 in
theorem V_X12_round_139 {G : GE} {d C S : Nat} {P : KI} {a : Nat → Nat → Int32} {r : Nat → Nat → Value} {N : Nat} {l0 : Nat} {l1 : Int32} {l3 : Int32} {l4 : Int32} {l5 : Int32} (hs : (tyK l0 = (0, 11) ∧ l0 < N ∧ ∃ q1, r l0 12 = .ref q1 ∧ ((tyK q1).1 = 1 ∧ q1 < N ∧ vp_in 1 (tyK q1).2 ∧ ((((1 : Int32) <<< ((a q1 (1 : Int32).toNatClampNeg) &&& 31)) ≤ l5 → E G MX12_round (d + 1) C S 200 [.ref l0, .int l1, .null, .int l3, .int l4, .int 0, .null] [] (a, r, N) (RI P)) ∧ (¬ ((1 : Int32) <<< ((a q1 (1 : Int32).toNatClampNeg) &&& 31)) ≤ l5 → E G MX12_round (d + 1) C S 155 [.ref l0, .int l1, .null, .int l3, .int l4, .int l5, .int 0] [] (a, r, N) (RI P)))))) : E G MX12_round (d + 1) C S 139 [.ref l0, .int l1, .null, .int l3, .int l4, .int l5, .null] [] (a, r, N) (RI P) := T_X12_round_139 _ _ _ hs
set_option maxRecDepth 100000 in
theorem T_X12_round_155 {G : GE} {d C S : Nat} {P : KI} : Snd G MX12_round (d + 1) C S 155 (RI P) (s_iload 6 (s_iconst 10 (s_ic_ge (s_iinc 5 1 (fun L st h => E G MX12_round (d + 1) C S 139 (msk [true, true, false, true, true, true, false] L) st h (RI P))) (s_aload 0 (s_getR 11 50 (s_iload 5 (s_aaload (s_iload 6 (s_iaload (s_iconst (-1) (s_ic_eq (s_iinc 6 1 (fun L st h => E G MX12_round (d + 1) C S 155 (msk [true, true, false, true, true, true, true] L) st h (RI P))) (s_aload 0 (s_iload 1 (s_iload 5 (s_iload 6 (s_callV G d MX12_walksOn 3 11 (s_iinc 6 1 (fun L st h => E G MX12_round (d + 1) C S 155 (msk [true, true, false, true, true, true, true] L) st h (RI P))))))))))))))))))) := (e_iload dX12_round_155 (e_bipush (v := 10) dX12_round_157 (by decide) (e_ic_ge (tgt := 191) dX12_round_159 (by decide) (e_iinc (v := 1) dX12_round_191 (by decide) (by decide) (e_goto (tgt := 139) dX12_round_194 (by decide) (e_msk [true, true, false, true, true, true, false]))) (e_aload_n dX12_round_162 rfl (e_getR rfl cl_11 (by decide) rfl q_1614 dX12_round_163 (e_iload dX12_round_166 (e_aaload dX12_round_168 (e_iload dX12_round_169 (e_iaload dX12_round_171 (e_iconst (v := (-1)) dX12_round_172 (by decide) (e_ic_eq (tgt := 185) dX12_round_173 (by decide) (e_iinc (v := 1) dX12_round_185 (by decide) (by decide) (e_goto (tgt := 155) dX12_round_188 (by decide) (e_msk [true, true, false, true, true, true, true]))) (e_aload_n dX12_round_176 rfl (e_iload_n dX12_round_177 rfl (e_iload dX12_round_178 (e_iload dX12_round_180 (e_callV cl_11 cal_X12_walksOn q_2059 q_2061 q_99 dX12_round_182 (e_iinc (v := 1) dX12_round_185 (by decide) (by decide) (e_goto (tgt := 155) dX12_round_188 (by decide) (e_msk [true, true, false, true, true, true, true])))))))))))))))))))
set_option maxRecDepth 100000 in
theorem V_X12_round_155 {G : GE} {d C S : Nat} {P : KI} {a : Nat → Nat → Int32} {r : Nat → Nat → Value} {N : Nat} {l0 : Nat} {l1 : Int32} {l3 : Int32} {l4 : Int32} {l5 : Int32} {l6 : Int32} (hs : ((10 ≤ l6 → E G MX12_round (d + 1) C S 139 [.ref l0, .int l1, .null, .int l3, .int l4, .int (l5 + 1), .null] [] (a, r, N) (RI P)) ∧ (¬ 10 ≤ l6 → (tyK l0 = (0, 11) ∧ l0 < N ∧ ∃ q1, r l0 50 = .ref q1 ∧ ((tyK q1).1 = 3 ∧ q1 < N ∧ vp_in l5 (tyK q1).2 ∧ ((tyK (q1 + 1 + (l5 : Int32).toNatClampNeg)).1 = 1 ∧ (q1 + 1 + (l5 : Int32).toNatClampNeg) < N ∧ vp_in l6 (tyK (q1 + 1 + (l5 : Int32).toNatClampNeg)).2 ∧ (((a (q1 + 1 + (l5 : Int32).toNatClampNeg) (l6 : Int32).toNatClampNeg) = (-1) → E G MX12_round (d + 1) C S 155 [.ref l0, .int l1, .null, .int l3, .int l4, .int l5, .int (l6 + 1)] [] (a, r, N) (RI P)) ∧ (¬ (a (q1 + 1 + (l5 : Int32).toNatClampNeg) (l6 : Int32).toNatClampNeg) = (-1) → (tyK l0 = (0, 11) ∧ l0 < N ∧ Sp G d 0 0 MX12_walksOn [.ref l0, .int l1, .int l5, .int l6] (a, r, N) (RN fun a2 r3 n4 => E G MX12_round (d + 1) C S 155 [.ref l0, .int l1, .null, .int l3, .int l4, .int l5, .int (l6 + 1)] [] (a2, r3, n4) (RI P))))))))))) : E G MX12_round (d + 1) C S 155 [.ref l0, .int l1, .null, .int l3, .int l4, .int l5, .int l6] [] (a, r, N) (RI P) := T_X12_round_155 _ _ _ hs
set_option maxRecDepth 100000 in
theorem T_X12_round_200 {G : GE} {d C S : Nat} {P : KI} : Snd G MX12_round (d + 1) C S 200 (RI P) (s_iload 5 (s_iconst 10 (s_ic_ge (s_iload 4 (s_ireturn P)) (s_aload 0 (s_getR 11 50 (s_iload 1 (s_aaload (s_iload 5 (s_iaload (s_iconst (-1) (s_ic_eq (s_iinc 5 1 (fun L st h => E G MX12_round (d + 1) C S 200 (msk [true, true, false, true, true, true, false] L) st h (RI P))) (s_aload 0 (s_getR 11 37 (s_iload 5 (s_aaload (s_iload 3 (s_iaload (s_iconst (-1) (s_ic_ne (s_aload 0 (s_getR 11 50 (s_iload 1 (s_aaload (s_iload 5 (s_iaload (s_aload 0 (s_getR 11 37 (s_iload 5 (s_aaload (s_iload 3 (s_iaload (s_iadd (s_istore 6 (s_iload 4 (s_iconst (-1) (s_ic_ne (s_iload 4 (s_iload 6 (s_call G d MX12_less 2 (s_istore 4 (s_iinc 5 1 (fun L st h => E G MX12_round (d + 1) C S 200 (msk [true, true, false, true, true, true, false] L) st h (RI P))))))) (s_iload 6 (s_istore 4 (s_iinc 5 1 (fun L st h => E G MX12_round (d + 1) C S 200 (msk [true, true, false, true, true, true, false] L) st h (RI P)))))))))))))))))))))) (s_iinc 5 1 (fun L st h => E G MX12_round (d + 1) C S 200 (msk [true, true, false, true, true, true, false] L) st h (RI P)))))))))))))))))))))) := (e_iload dX12_round_200 (e_bipush (v := 10) dX12_round_202 (by decide) (e_ic_ge (tgt := 283) dX12_round_204 (by decide) (e_iload dX12_round_283 (e_ireturn rfl dX12_round_285)) (e_aload_n dX12_round_207 rfl (e_getR rfl cl_11 (by decide) rfl q_1614 dX12_round_208 (e_iload_n dX12_round_211 rfl (e_aaload dX12_round_212 (e_iload dX12_round_213 (e_iaload dX12_round_215 (e_iconst (v := (-1)) dX12_round_216 (by decide) (e_ic_eq (tgt := 277) dX12_round_217 (by decide) (e_iinc (v := 1) dX12_round_277 (by decide) (by decide) (e_goto (tgt := 200) dX12_round_280 (by decide) (e_msk [true, true, false, true, true, true, false]))) (e_aload_n dX12_round_220 rfl (e_getR rfl cl_11 (by decide) rfl q_1601 dX12_round_221 (e_iload dX12_round_224 (e_aaload dX12_round_226 (e_iload_n dX12_round_227 rfl (e_iaload dX12_round_228 (e_iconst (v := (-1)) dX12_round_229 (by decide) (e_ic_ne (tgt := 236) dX12_round_230 (by decide) (e_aload_n dX12_round_236 rfl (e_getR rfl cl_11 (by decide) rfl q_1614 dX12_round_237 (e_iload_n dX12_round_240 rfl (e_aaload dX12_round_241 (e_iload dX12_round_242 (e_iaload dX12_round_244 (e_aload_n dX12_round_245 rfl (e_getR rfl cl_11 (by decide) rfl q_1601 dX12_round_246 (e_iload dX12_round_249 (e_aaload dX12_round_251 (e_iload_n dX12_round_252 rfl (e_iaload dX12_round_253 (e_iadd dX12_round_254 (e_istore dX12_round_255 (by decide) (e_iload dX12_round_257 (e_iconst (v := (-1)) dX12_round_259 (by decide) (e_ic_ne (tgt := 268) dX12_round_260 (by decide) (e_iload dX12_round_268 (e_iload dX12_round_270 (e_callS cal_X12_less q_1903 q_1904 dX12_round_272 (e_istore dX12_round_275 (by decide) (e_iinc (v := 1) dX12_round_277 (by decide) (by decide) (e_goto (tgt := 200) dX12_round_280 (by decide) (e_msk [true, true, false, true, true, true, false]))))))) (e_iload dX12_round_263 (e_goto (tgt := 275) dX12_round_265 (by decide) (e_istore dX12_round_275 (by decide) (e_iinc (v := 1) dX12_round_277 (by decide) (by decide) (e_goto (tgt := 200) dX12_round_280 (by decide) (e_msk [true, true, false, true, true, true, false]))))))))))))))))))))))) (e_goto (tgt := 277) dX12_round_233 (by decide) (e_iinc (v := 1) dX12_round_277 (by decide) (by decide) (e_goto (tgt := 200) dX12_round_280 (by decide) (e_msk [true, true, false, true, true, true, false])))))))))))))))))))))))
set_option maxRecDepth 100000 in
theorem V_X12_round_200 {G : GE} {d C S : Nat} {P : KI} {a : Nat → Nat → Int32} {r : Nat → Nat → Value} {N : Nat} {l0 : Nat} {l1 : Int32} {l3 : Int32} {l4 : Int32} {l5 : Int32} (hs : ((10 ≤ l5 → P l4 a r N) ∧ (¬ 10 ≤ l5 → (tyK l0 = (0, 11) ∧ l0 < N ∧ ∃ q1, r l0 50 = .ref q1 ∧ ((tyK q1).1 = 3 ∧ q1 < N ∧ vp_in l1 (tyK q1).2 ∧ ((tyK (q1 + 1 + (l1 : Int32).toNatClampNeg)).1 = 1 ∧ (q1 + 1 + (l1 : Int32).toNatClampNeg) < N ∧ vp_in l5 (tyK (q1 + 1 + (l1 : Int32).toNatClampNeg)).2 ∧ (((a (q1 + 1 + (l1 : Int32).toNatClampNeg) (l5 : Int32).toNatClampNeg) = (-1) → E G MX12_round (d + 1) C S 200 [.ref l0, .int l1, .null, .int l3, .int l4, .int (l5 + 1), .null] [] (a, r, N) (RI P)) ∧ (¬ (a (q1 + 1 + (l1 : Int32).toNatClampNeg) (l5 : Int32).toNatClampNeg) = (-1) → (tyK l0 = (0, 11) ∧ l0 < N ∧ ∃ q2, r l0 37 = .ref q2 ∧ ((tyK q2).1 = 3 ∧ q2 < N ∧ vp_in l5 (tyK q2).2 ∧ ((tyK (q2 + 1 + (l5 : Int32).toNatClampNeg)).1 = 1 ∧ (q2 + 1 + (l5 : Int32).toNatClampNeg) < N ∧ vp_in l3 (tyK (q2 + 1 + (l5 : Int32).toNatClampNeg)).2 ∧ ((¬ (a (q2 + 1 + (l5 : Int32).toNatClampNeg) (l3 : Int32).toNatClampNeg) = (-1) → (tyK l0 = (0, 11) ∧ l0 < N ∧ ∃ q3, r l0 50 = .ref q3 ∧ ((tyK q3).1 = 3 ∧ q3 < N ∧ vp_in l1 (tyK q3).2 ∧ ((tyK (q3 + 1 + (l1 : Int32).toNatClampNeg)).1 = 1 ∧ (q3 + 1 + (l1 : Int32).toNatClampNeg) < N ∧ vp_in l5 (tyK (q3 + 1 + (l1 : Int32).toNatClampNeg)).2 ∧ (tyK l0 = (0, 11) ∧ l0 < N ∧ ∃ q4, r l0 37 = .ref q4 ∧ ((tyK q4).1 = 3 ∧ q4 < N ∧ vp_in l5 (tyK q4).2 ∧ ((tyK (q4 + 1 + (l5 : Int32).toNatClampNeg)).1 = 1 ∧ (q4 + 1 + (l5 : Int32).toNatClampNeg) < N ∧ vp_in l3 (tyK (q4 + 1 + (l5 : Int32).toNatClampNeg)).2 ∧ ((¬ l4 = (-1) → Sp G d 0 0 MX12_less [.int l4, .int ((a (q3 + 1 + (l1 : Int32).toNatClampNeg) (l5 : Int32).toNatClampNeg) + (a (q4 + 1 + (l5 : Int32).toNatClampNeg) (l3 : Int32).toNatClampNeg))] (a, r, N) (RI fun v8 a5 r6 n7 => E G MX12_round (d + 1) C S 200 [.ref l0, .int l1, .null, .int l3, .int v8, .int (l5 + 1), .null] [] (a5, r6, n7) (RI P))) ∧ (l4 = (-1) → E G MX12_round (d + 1) C S 200 [.ref l0, .int l1, .null, .int l3, .int ((a (q3 + 1 + (l1 : Int32).toNatClampNeg) (l5 : Int32).toNatClampNeg) + (a (q4 + 1 + (l5 : Int32).toNatClampNeg) (l3 : Int32).toNatClampNeg)), .int (l5 + 1), .null] [] (a, r, N) (RI P)))))))))) ∧ ((a (q2 + 1 + (l5 : Int32).toNatClampNeg) (l3 : Int32).toNatClampNeg) = (-1) → E G MX12_round (d + 1) C S 200 [.ref l0, .int l1, .null, .int l3, .int l4, .int (l5 + 1), .null] [] (a, r, N) (RI P)))))))))))))) : E G MX12_round (d + 1) C S 200 [.ref l0, .int l1, .null, .int l3, .int l4, .int l5, .null] [] (a, r, N) (RI P) := T_X12_round_200 _ _ _ hs
theorem dX12_walksOn_0 : decode cX12_walksOn 0 = .ok (.iconst 0, 1) := by decide +kernel
theorem dX12_walksOn_1 : decode cX12_walksOn 1 = .ok (.istore 4, 2) := by decide +kernel
theorem dX12_walksOn_3 : decode cX12_walksOn 3 = .ok (.iload 4, 2) := by decide +kernel
theorem dX12_walksOn_5 : decode cX12_walksOn 5 = .ok (.aload_n 0, 1) := by decide +kernel
theorem dX12_walksOn_6 : decode cX12_walksOn 6 = .ok (.getfield 23, 3) := by decide +kernel
theorem dX12_walksOn_9 : decode cX12_walksOn 9 = .ok (.iconst 1, 1) := by decide +kernel
theorem dX12_walksOn_10 : decode cX12_walksOn 10 = .ok (.iaload, 1) := by decide +kernel
theorem dX12_walksOn_11 : decode cX12_walksOn 11 = .ok (.if_icmp .ge 166, 3) := by decide +kernel
theorem dX12_walksOn_14 : decode cX12_walksOn 14 = .ok (.iload_n 1, 1) := by decide +kernel
theorem dX12_walksOn_15 : decode cX12_walksOn 15 = .ok (.iload 4, 2) := by decide +kernel
theorem dX12_walksOn_17 : decode cX12_walksOn 17 = .ok (.invokestatic 377, 3) := by decide +kernel
theorem dX12_walksOn_20 : decode cX12_walksOn 20 = .ok (.ifCond .eq 151, 3) := by decide +kernel
theorem dX12_walksOn_23 : decode cX12_walksOn 23 = .ok (.iload_n 2, 1) := by decide +kernel
theorem dX12_walksOn_24 : decode cX12_walksOn 24 = .ok (.iload 4, 2) := by decide +kernel
theorem dX12_walksOn_26 : decode cX12_walksOn 26 = .ok (.invokestatic 377, 3) := by decide +kernel
theorem dX12_walksOn_29 : decode cX12_walksOn 29 = .ok (.ifCond .eq 6, 3) := by decide +kernel
theorem dX12_walksOn_32 : decode cX12_walksOn 32 = .ok (.goto 139, 3) := by decide +kernel
theorem dX12_walksOn_35 : decode cX12_walksOn 35 = .ok (.iconst 0, 1) := by decide +kernel
theorem dX12_walksOn_36 : decode cX12_walksOn 36 = .ok (.istore 5, 2) := by decide +kernel
theorem dX12_walksOn_38 : decode cX12_walksOn 38 = .ok (.iload 5, 2) := by decide +kernel
theorem dX12_walksOn_40 : decode cX12_walksOn 40 = .ok (.iconst 2, 1) := by decide +kernel
theorem dX12_walksOn_41 : decode cX12_walksOn 41 = .ok (.if_icmp .ge 130, 3) := by decide +kernel
theorem dX12_walksOn_44 : decode cX12_walksOn 44 = .ok (.aload_n 0, 1) := by decide +kernel
theorem dX12_walksOn_45 : decode cX12_walksOn 45 = .ok (.getfield 37, 3) := by decide +kernel
theorem dX12_walksOn_48 : decode cX12_walksOn 48 = .ok (.iload 4, 2) := by decide +kernel
theorem dX12_walksOn_50 : decode cX12_walksOn 50 = .ok (.aaload, 1) := by decide +kernel
theorem dX12_walksOn_51 : decode cX12_walksOn 51 = .ok (.iload 5, 2) := by decide +kernel
theorem dX12_walksOn_53 : decode cX12_walksOn 53 = .ok (.iaload, 1) := by decide +kernel
theorem dX12_walksOn_54 : decode cX12_walksOn 54 = .ok (.istore 6, 2) := by decide +kernel
theorem dX12_walksOn_56 : decode cX12_walksOn 56 = .ok (.aload_n 0, 1) := by decide +kernel
theorem dX12_walksOn_57 : decode cX12_walksOn 57 = .ok (.getfield 37, 3) := by decide +kernel
theorem dX12_walksOn_60 : decode cX12_walksOn 60 = .ok (.iload 4, 2) := by decide +kernel
theorem dX12_walksOn_62 : decode cX12_walksOn 62 = .ok (.aaload, 1) := by decide +kernel
theorem dX12_walksOn_63 : decode cX12_walksOn 63 = .ok (.iconst 1, 1) := by decide +kernel
theorem dX12_walksOn_64 : decode cX12_walksOn 64 = .ok (.iload 5, 2) := by decide +kernel
theorem dX12_walksOn_66 : decode cX12_walksOn 66 = .ok (.isub, 1) := by decide +kernel
theorem dX12_walksOn_67 : decode cX12_walksOn 67 = .ok (.iaload, 1) := by decide +kernel
theorem dX12_walksOn_68 : decode cX12_walksOn 68 = .ok (.istore 7, 2) := by decide +kernel
theorem dX12_walksOn_70 : decode cX12_walksOn 70 = .ok (.iload_n 2, 1) := by decide +kernel
theorem dX12_walksOn_71 : decode cX12_walksOn 71 = .ok (.iconst 1, 1) := by decide +kernel
theorem dX12_walksOn_72 : decode cX12_walksOn 72 = .ok (.iload 4, 2) := by decide +kernel
theorem dX12_walksOn_74 : decode cX12_walksOn 74 = .ok (.ishl, 1) := by decide +kernel
theorem dX12_walksOn_75 : decode cX12_walksOn 75 = .ok (.ior, 1) := by decide +kernel
theorem dX12_walksOn_76 : decode cX12_walksOn 76 = .ok (.istore 8, 2) := by decide +kernel
theorem dX12_walksOn_78 : decode cX12_walksOn 78 = .ok (.aload_n 0, 1) := by decide +kernel
theorem dX12_walksOn_79 : decode cX12_walksOn 79 = .ok (.getfield 91, 3) := by decide +kernel
theorem dX12_walksOn_82 : decode cX12_walksOn 82 = .ok (.iload_n 3, 1) := by decide +kernel
theorem dX12_walksOn_83 : decode cX12_walksOn 83 = .ok (.aaload, 1) := by decide +kernel
theorem dX12_walksOn_84 : decode cX12_walksOn 84 = .ok (.iload 6, 2) := by decide +kernel
theorem dX12_walksOn_86 : decode cX12_walksOn 86 = .ok (.iaload, 1) := by decide +kernel
theorem dX12_walksOn_87 : decode cX12_walksOn 87 = .ok (.iconst (-1), 1) := by decide +kernel
theorem dX12_walksOn_88 : decode cX12_walksOn 88 = .ok (.if_icmp .ne 6, 3) := by decide +kernel
theorem dX12_walksOn_91 : decode cX12_walksOn 91 = .ok (.goto 74, 3) := by decide +kernel
theorem dX12_walksOn_94 : decode cX12_walksOn 94 = .ok (.aload_n 0, 1) := by decide +kernel
theorem dX12_walksOn_95 : decode cX12_walksOn 95 = .ok (.getfield 103, 3) := by decide +kernel
theorem dX12_walksOn_98 : decode cX12_walksOn 98 = .ok (.iload_n 2, 1) := by decide +kernel
theorem dX12_walksOn_99 : decode cX12_walksOn 99 = .ok (.aaload, 1) := by decide +kernel
theorem dX12_walksOn_100 : decode cX12_walksOn 100 = .ok (.iload_n 3, 1) := by decide +kernel
theorem dX12_walksOn_101 : decode cX12_walksOn 101 = .ok (.iaload, 1) := by decide +kernel
theorem dX12_walksOn_102 : decode cX12_walksOn 102 = .ok (.aload_n 0, 1) := by decide +kernel
theorem dX12_walksOn_103 : decode cX12_walksOn 103 = .ok (.getfield 91, 3) := by decide +kernel
theorem dX12_walksOn_106 : decode cX12_walksOn 106 = .ok (.iload_n 3, 1) := by decide +kernel
theorem dX12_walksOn_107 : decode cX12_walksOn 107 = .ok (.aaload, 1) := by decide +kernel
theorem dX12_walksOn_108 : decode cX12_walksOn 108 = .ok (.iload 6, 2) := by decide +kernel
theorem dX12_walksOn_110 : decode cX12_walksOn 110 = .ok (.iaload, 1) := by decide +kernel
theorem dX12_walksOn_111 : decode cX12_walksOn 111 = .ok (.iadd, 1) := by decide +kernel
theorem dX12_walksOn_112 : decode cX12_walksOn 112 = .ok (.aload_n 0, 1) := by decide +kernel
theorem dX12_walksOn_113 : decode cX12_walksOn 113 = .ok (.iload 4, 2) := by decide +kernel
theorem dX12_walksOn_115 : decode cX12_walksOn 115 = .ok (.invokevirtual 283, 3) := by decide +kernel
theorem dX12_walksOn_118 : decode cX12_walksOn 118 = .ok (.iadd, 1) := by decide +kernel
theorem dX12_walksOn_119 : decode cX12_walksOn 119 = .ok (.istore 9, 2) := by decide +kernel
theorem dX12_walksOn_121 : decode cX12_walksOn 121 = .ok (.aload_n 0, 1) := by decide +kernel
theorem dX12_walksOn_122 : decode cX12_walksOn 122 = .ok (.getfield 103, 3) := by decide +kernel
theorem dX12_walksOn_125 : decode cX12_walksOn 125 = .ok (.iload 8, 2) := by decide +kernel
theorem dX12_walksOn_127 : decode cX12_walksOn 127 = .ok (.aaload, 1) := by decide +kernel
theorem dX12_walksOn_128 : decode cX12_walksOn 128 = .ok (.iload 7, 2) := by decide +kernel
theorem dX12_walksOn_130 : decode cX12_walksOn 130 = .ok (.aload_n 0, 1) := by decide +kernel
theorem dX12_walksOn_131 : decode cX12_walksOn 131 = .ok (.getfield 103, 3) := by decide +kernel
theorem dX12_walksOn_134 : decode cX12_walksOn 134 = .ok (.iload 8, 2) := by decide +kernel
theorem dX12_walksOn_136 : decode cX12_walksOn 136 = .ok (.aaload, 1) := by decide +kernel
theorem dX12_walksOn_137 : decode cX12_walksOn 137 = .ok (.iload 7, 2) := by decide +kernel
theorem dX12_walksOn_139 : decode cX12_walksOn 139 = .ok (.iaload, 1) := by decide +kernel
theorem dX12_walksOn_140 : decode cX12_walksOn 140 = .ok (.iconst (-1), 1) := by decide +kernel
theorem dX12_walksOn_141 : decode cX12_walksOn 141 = .ok (.if_icmp .ne 8, 3) := by decide +kernel
theorem dX12_walksOn_144 : decode cX12_walksOn 144 = .ok (.iload 9, 2) := by decide +kernel
theorem dX12_walksOn_146 : decode cX12_walksOn 146 = .ok (.goto 18, 3) := by decide +kernel
theorem dX12_walksOn_149 : decode cX12_walksOn 149 = .ok (.aload_n 0, 1) := by decide +kernel
theorem dX12_walksOn_150 : decode cX12_walksOn 150 = .ok (.getfield 103, 3) := by decide +kernel
theorem dX12_walksOn_153 : decode cX12_walksOn 153 = .ok (.iload 8, 2) := by decide +kernel
theorem dX12_walksOn_155 : decode cX12_walksOn 155 = .ok (.aaload, 1) := by decide +kernel
theorem dX12_walksOn_156 : decode cX12_walksOn 156 = .ok (.iload 7, 2) := by decide +kernel
theorem dX12_walksOn_158 : decode cX12_walksOn 158 = .ok (.iaload, 1) := by decide +kernel
theorem dX12_walksOn_159 : decode cX12_walksOn 159 = .ok (.iload 9, 2) := by decide +kernel
theorem dX12_walksOn_161 : decode cX12_walksOn 161 = .ok (.invokestatic 258, 3) := by decide +kernel
theorem dX12_walksOn_164 : decode cX12_walksOn 164 = .ok (.iastore, 1) := by decide +kernel
theorem dX12_walksOn_165 : decode cX12_walksOn 165 = .ok (.iinc 5 1, 3) := by decide +kernel
theorem dX12_walksOn_168 : decode cX12_walksOn 168 = .ok (.goto (-130), 3) := by decide +kernel
theorem dX12_walksOn_171 : decode cX12_walksOn 171 = .ok (.iinc 4 1, 3) := by decide +kernel
theorem dX12_walksOn_174 : decode cX12_walksOn 174 = .ok (.goto (-171), 3) := by decide +kernel
theorem dX12_walksOn_177 : decode cX12_walksOn 177 = .ok (.return_, 1) := by decide +kernel
set_option maxRecDepth 100000 in
theorem T_X12_walksOn_0 {G : GE} {d C S : Nat} {P : KN} : Snd G MX12_walksOn (d + 1) C S 0 (RN P) (s_iconst 0 (s_istore 4 (fun L st h => E G MX12_walksOn (d + 1) C S 3 (msk [true, true, true, true, true, false, false, false, false, false] L) st h (RN P)))) := (e_iconst (v := 0) dX12_walksOn_0 (by decide) (e_istore dX12_walksOn_1 (by decide) (e_msk [true, true, true, true, true, false, false, false, false, false])))
set_option maxRecDepth 100000 in
theorem V_X12_walksOn_0 {G : GE} {d : Nat} {P : KN} {a : Nat → Nat → Int32} {r : Nat → Nat → Value} {N : Nat} {l0 : Nat} {l1 : Int32} {l2 : Int32} {l3 : Int32} (hs : E G MX12_walksOn (d + 1) 0 0 3 [.ref l0, .int l1, .int l2, .int l3, .int 0, .null, .null, .null, .null, .null] [] (a, r, N) (RN P)) : Sp G (d + 1) 0 0 MX12_walksOn [.ref l0, .int l1, .int l2, .int l3] (a, r, N) (RN P) := Sp.mk (mc := 0) (ms := 0) [.ref l0, .int l1, .int l2, .int l3, .null, .null, .null, .null, .null, .null] rfl rfl rfl rfl (T_X12_walksOn_0 (C := 0) (S := 0) _ _ _ hs)
set_option maxRecDepth 100000 in
theorem T_X12_walksOn_3 {G : GE} {d C S : Nat} {P : KN} : Snd G MX12_walksOn (d + 1) C S 3 (RN P) (s_iload 4 (s_aload 0 (s_getR 11 12 (s_iconst 1 (s_iaload (s_ic_ge (s_return P) (s_iload 1 (s_iload 4 (s_call G d MX12_has 2 (s_if_eq (s_iinc 4 1 (fun L st h => E G MX12_walksOn (d + 1) C S 3 (msk [true, true, true, true, true, false, false, false, false, false] L) st h (RN P))) (s_iload 2 (s_iload 4 (s_call G d MX12_has 2 (s_if_eq (s_iconst 0 (s_istore 5 (fun L st h => E G MX12_walksOn (d + 1) C S 38 (msk [true, true, true, true, true, true, false, false, false, false] L) st h (RN P)))) (s_iinc 4 1 (fun L st h => E G MX12_walksOn (d + 1) C S 3 (msk [true, true, true, true, true, false, false, false, false, false] L) st h (RN P))))))))))))))))) := (e_iload dX12_walksOn_3 (e_aload_n dX12_walksOn_5 rfl (e_getR rfl cl_11 (by decide) rfl q_1576 dX12_walksOn_6 (e_iconst (v := 1) dX12_walksOn_9 (by decide) (e_iaload dX12_walksOn_10 (e_ic_ge (tgt := 177) dX12_walksOn_11 (by decide) (e_return rfl dX12_walksOn_177) (e_iload_n dX12_walksOn_14 rfl (e_iload dX12_walksOn_15 (e_callS cal_X12_has q_2020 q_2021 dX12_walksOn_17 (e_if_eq (tgt := 171) dX12_walksOn_20 (by decide) (e_iinc (v := 1) dX12_walksOn_171 (by decide) (by decide) (e_goto (tgt := 3) dX12_walksOn_174 (by decide) (e_msk [true, true, true, true, true, false, false, false, false, false]))) (e_iload_n dX12_walksOn_23 rfl (e_iload dX12_walksOn_24 (e_callS cal_X12_has q_2020 q_2021 dX12_walksOn_26 (e_if_eq (tgt := 35) dX12_walksOn_29 (by decide) (e_iconst (v := 0) dX12_walksOn_35 (by decide) (e_istore dX12_walksOn_36 (by decide) (e_msk [true, true, true, true, true, true, false, false, false, false]))) (e_goto (tgt := 171) dX12_walksOn_32 (by decide) (e_iinc (v := 1) dX12_walksOn_171 (by decide) (by decide) (e_goto (tgt := 3) dX12_walksOn_174 (by decide) (e_msk [true, true, true, true, true, false, false, false, false, false]))))))))))))))))))
set_option maxRecDepth 100000 in
theorem V_X12_walksOn_3 {G : GE} {d C S : Nat} {P : KN} {a : Nat → Nat → Int32} {r : Nat → Nat → Value} {N : Nat} {l0 : Nat} {l1 : Int32} {l2 : Int32} {l3 : Int32} {l4 : Int32} (hs : (tyK l0 = (0, 11) ∧ l0 < N ∧ ∃ q1, r l0 12 = .ref q1 ∧ ((tyK q1).1 = 1 ∧ q1 < N ∧ vp_in 1 (tyK q1).2 ∧ (((a q1 (1 : Int32).toNatClampNeg) ≤ l4 → P a r N) ∧ (¬ (a q1 (1 : Int32).toNatClampNeg) ≤ l4 → Sp G d 0 0 MX12_has [.int l1, .int l4] (a, r, N) (RI fun v5 a2 r3 n4 => ((v5 = 0 → E G MX12_walksOn (d + 1) C S 3 [.ref l0, .int l1, .int l2, .int l3, .int (l4 + 1), .null, .null, .null, .null, .null] [] (a2, r3, n4) (RN P)) ∧ (¬ v5 = 0 → Sp G d 0 0 MX12_has [.int l2, .int l4] (a2, r3, n4) (RI fun v9 a6 r7 n8 => ((v9 = 0 → E G MX12_walksOn (d + 1) C S 38 [.ref l0, .int l1, .int l2, .int l3, .int l4, .int 0, .null, .null, .null, .null] [] (a6, r7, n8) (RN P)) ∧ (¬ v9 = 0 → E G MX12_walksOn (d + 1) C S 3 [.ref l0, .int l1, .int l2, .int l3, .int (l4 + 1), .null, .null, .null, .null, .null] [] (a6, r7, n8) (RN P)))))))))))) : E G MX12_walksOn (d + 1) C S 3 [.ref l0, .int l1, .int l2, .int l3, .int l4, .null, .null, .null, .null, .null] [] (a, r, N) (RN P) := T_X12_walksOn_3 _ _ _ hs
set_option maxRecDepth 100000 in
theorem T_X12_walksOn_38 {G : GE} {d C S : Nat} {P : KN} : Snd G MX12_walksOn (d + 1) C S 38 (RN P) (s_iload 5 (s_iconst 2 (s_ic_ge (s_iinc 4 1 (fun L st h => E G MX12_walksOn (d + 1) C S 3 (msk [true, true, true, true, true, false, false, false, false, false] L) st h (RN P))) (s_aload 0 (s_getR 11 16 (s_iload 4 (s_aaload (s_iload 5 (s_iaload (s_istore 6 (s_aload 0 (s_getR 11 16 (s_iload 4 (s_aaload (s_iconst 1 (s_iload 5 (s_isub (s_iaload (s_istore 7 (s_iload 2 (s_iconst 1 (s_iload 4 (s_ishl (s_ior (s_istore 8 (s_aload 0 (s_getR 11 37 (s_iload 3 (s_aaload (s_iload 6 (s_iaload (s_iconst (-1) (s_ic_ne (s_aload 0 (s_getR 11 50 (s_iload 2 (s_aaload (s_iload 3 (s_iaload (s_aload 0 (s_getR 11 37 (s_iload 3 (s_aaload (s_iload 6 (s_iaload (s_iadd (s_aload 0 (s_iload 4 (s_callV G d MX12_lengthOf 1 11 (s_iadd (s_istore 9 (s_aload 0 (s_getR 11 50 (s_iload 8 (s_aaload (s_iload 7 (s_aload 0 (s_getR 11 50 (s_iload 8 (s_aaload (s_iload 7 (s_iaload (s_iconst (-1) (s_ic_ne (s_aload 0 (s_getR 11 50 (s_iload 8 (s_aaload (s_iload 7 (s_iaload (s_iload 9 (s_call G d MX12_less 2 (s_iastore (s_iinc 5 1 (fun L st h => E G MX12_walksOn (d + 1) C S 38 (msk [true, true, true, true, true, true, false, false, false, false] L) st h (RN P)))))))))))) (s_iload 9 (s_iastore (s_iinc 5 1 (fun L st h => E G MX12_walksOn (d + 1) C S 38 (msk [true, true, true, true, true, true, false, false, false, false] L) st h (RN P)))))))))))))))))))))))))))))))))))) (s_iinc 5 1 (fun L st h => E G MX12_walksOn (d + 1) C S 38 (msk [true, true, true, true, true, true, false, false, false, false] L) st h (RN P)))))))))))))))))))))))))))))))))))) := (e_iload dX12_walksOn_38 (e_iconst (v := 2) dX12_walksOn_40 (by decide) (e_ic_ge (tgt := 171) dX12_walksOn_41 (by decide) (e_iinc (v := 1) dX12_walksOn_171 (by decide) (by decide) (e_goto (tgt := 3) dX12_walksOn_174 (by decide) (e_msk [true, true, true, true, true, false, false, false, false, false]))) (e_aload_n dX12_walksOn_44 rfl (e_getR rfl cl_11 (by decide) rfl q_1580 dX12_walksOn_45 (e_iload dX12_walksOn_48 (e_aaload dX12_walksOn_50 (e_iload dX12_walksOn_51 (e_iaload dX12_walksOn_53 (e_istore dX12_walksOn_54 (by decide) (e_aload_n dX12_walksOn_56 rfl (e_getR rfl cl_11 (by decide) rfl q_1580 dX12_walksOn_57 (e_iload dX12_walksOn_60 (e_aaload dX12_walksOn_62 (e_iconst (v := 1) dX12_walksOn_63 (by decide) (e_iload dX12_walksOn_64 (e_isub dX12_walksOn_66 (e_iaload dX12_walksOn_67 (e_istore dX12_walksOn_68 (by decide) (e_iload_n dX12_walksOn_70 rfl (e_iconst (v := 1) dX12_walksOn_71 (by decide) (e_iload dX12_walksOn_72 (e_ishl dX12_walksOn_74 (e_ior dX12_walksOn_75 (e_istore dX12_walksOn_76 (by decide) (e_aload_n dX12_walksOn_78 rfl (e_getR rfl cl_11 (by decide) rfl q_1601 dX12_walksOn_79 (e_iload_n dX12_walksOn_82 rfl (e_aaload dX12_walksOn_83 (e_iload dX12_walksOn_84 (e_iaload dX12_walksOn_86 (e_iconst (v := (-1)) dX12_walksOn_87 (by decide) (e_ic_ne (tgt := 94) dX12_walksOn_88 (by decide) (e_aload_n dX12_walksOn_94 rfl (e_getR rfl cl_11 (by decide) rfl q_1614 dX12_walksOn_95 (e_iload_n dX12_walksOn_98 rfl (e_aaload dX12_walksOn_99 (e_iload_n dX12_walksOn_100 rfl (e_iaload dX12_walksOn_101 (e_aload_n dX12_walksOn_102 rfl (e_getR rfl cl_11 (by decide) rfl q_1601 dX12_walksOn_103 (e_iload_n dX12_walksOn_106 rfl (e_aaload dX12_walksOn_107 (e_iload dX12_walksOn_108 (e_iaload dX12_walksOn_110 (e_iadd dX12_walksOn_111 (e_aload_n dX12_walksOn_112 rfl (e_iload dX12_walksOn_113 (e_callV cl_11 cal_X12_lengthOf q_1889 q_1891 q_81 dX12_walksOn_115 (e_iadd dX12_walksOn_118 (e_istore dX12_walksOn_119 (by decide) (e_aload_n dX12_walksOn_121 rfl (e_getR rfl cl_11 (by decide) rfl q_1614 dX12_walksOn_122 (e_iload dX12_walksOn_125 (e_aaload dX12_walksOn_127 (e_iload dX12_walksOn_128 (e_aload_n dX12_walksOn_130 rfl (e_getR rfl cl_11 (by decide) rfl q_1614 dX12_walksOn_131 (e_iload dX12_walksOn_134 (e_aaload dX12_walksOn_136 (e_iload dX12_walksOn_137 (e_iaload dX12_walksOn_139 (e_iconst (v := (-1)) dX12_walksOn_140 (by decide) (e_ic_ne (tgt := 149) dX12_walksOn_141 (by decide) (e_aload_n dX12_walksOn_149 rfl (e_getR rfl cl_11 (by decide) rfl q_1614 dX12_walksOn_150 (e_iload dX12_walksOn_153 (e_aaload dX12_walksOn_155 (e_iload dX12_walksOn_156 (e_iaload dX12_walksOn_158 (e_iload dX12_walksOn_159 (e_callS cal_X12_less q_1903 q_1904 dX12_walksOn_161 (e_iastore dX12_walksOn_164 (e_iinc (v := 1) dX12_walksOn_165 (by decide) (by decide) (e_goto (tgt := 38) dX12_walksOn_168 (by decide) (e_msk [true, true, true, true, true, true, false, false, false, false])))))))))))) (e_iload dX12_walksOn_144 (e_goto (tgt := 164) dX12_walksOn_146 (by decide) (e_iastore dX12_walksOn_164 (e_iinc (v := 1) dX12_walksOn_165 (by decide) (by decide) (e_goto (tgt := 38) dX12_walksOn_168 (by decide) (e_msk [true, true, true, true, true, true, false, false, false, false]))))))))))))))))))))))))))))))))))))) (e_goto (tgt := 165) dX12_walksOn_91 (by decide) (e_iinc (v := 1) dX12_walksOn_165 (by decide) (by decide) (e_goto (tgt := 38) dX12_walksOn_168 (by decide) (e_msk [true, true, true, true, true, true, false, false, false, false])))))))))))))))))))))))))))))))))))))
set_option maxRecDepth 100000 in
theorem V_X12_walksOn_38 {G : GE} {d C S : Nat} {P : KN} {a : Nat → Nat → Int32} {r : Nat → Nat → Value} {N : Nat} {l0 : Nat} {l1 : Int32} {l2 : Int32} {l3 : Int32} {l4 : Int32} {l5 : Int32} (hs : ((2 ≤ l5 → E G MX12_walksOn (d + 1) C S 3 [.ref l0, .int l1, .int l2, .int l3, .int (l4 + 1), .null, .null, .null, .null, .null] [] (a, r, N) (RN P)) ∧ (¬ 2 ≤ l5 → (tyK l0 = (0, 11) ∧ l0 < N ∧ ∃ q1, r l0 16 = .ref q1 ∧ ((tyK q1).1 = 3 ∧ q1 < N ∧ vp_in l4 (tyK q1).2 ∧ ((tyK (q1 + 1 + (l4 : Int32).toNatClampNeg)).1 = 1 ∧ (q1 + 1 + (l4 : Int32).toNatClampNeg) < N ∧ vp_in l5 (tyK (q1 + 1 + (l4 : Int32).toNatClampNeg)).2 ∧ (tyK l0 = (0, 11) ∧ l0 < N ∧ ∃ q2, r l0 16 = .ref q2 ∧ ((tyK q2).1 = 3 ∧ q2 < N ∧ vp_in l4 (tyK q2).2 ∧ ((tyK (q2 + 1 + (l4 : Int32).toNatClampNeg)).1 = 1 ∧ (q2 + 1 + (l4 : Int32).toNatClampNeg) < N ∧ vp_in ((1 : Int32) - l5) (tyK (q2 + 1 + (l4 : Int32).toNatClampNeg)).2 ∧ (tyK l0 = (0, 11) ∧ l0 < N ∧ ∃ q3, r l0 37 = .ref q3 ∧ ((tyK q3).1 = 3 ∧ q3 < N ∧ vp_in l3 (tyK q3).2 ∧ ((tyK (q3 + 1 + (l3 : Int32).toNatClampNeg)).1 = 1 ∧ (q3 + 1 + (l3 : Int32).toNatClampNeg) < N ∧ vp_in (a (q1 + 1 + (l4 : Int32).toNatClampNeg) (l5 : Int32).toNatClampNeg) (tyK (q3 + 1 + (l3 : Int32).toNatClampNeg)).2 ∧ ((¬ (a (q3 + 1 + (l3 : Int32).toNatClampNeg) ((a (q1 + 1 + (l4 : Int32).toNatClampNeg) (l5 : Int32).toNatClampNeg) : Int32).toNatClampNeg) = (-1) → (tyK l0 = (0, 11) ∧ l0 < N ∧ ∃ q4, r l0 50 = .ref q4 ∧ ((tyK q4).1 = 3 ∧ q4 < N ∧ vp_in l2 (tyK q4).2 ∧ ((tyK (q4 + 1 + (l2 : Int32).toNatClampNeg)).1 = 1 ∧ (q4 + 1 + (l2 : Int32).toNatClampNeg) < N ∧ vp_in l3 (tyK (q4 + 1 + (l2 : Int32).toNatClampNeg)).2 ∧ (tyK l0 = (0, 11) ∧ l0 < N ∧ ∃ q5, r l0 37 = .ref q5 ∧ ((tyK q5).1 = 3 ∧ q5 < N ∧ vp_in l3 (tyK q5).2 ∧ ((tyK (q5 + 1 + (l3 : Int32).toNatClampNeg)).1 = 1 ∧ (q5 + 1 + (l3 : Int32).toNatClampNeg) < N ∧ vp_in (a (q1 + 1 + (l4 : Int32).toNatClampNeg) (l5 : Int32).toNatClampNeg) (tyK (q5 + 1 + (l3 : Int32).toNatClampNeg)).2 ∧ (tyK l0 = (0, 11) ∧ l0 < N ∧ Sp G d 0 0 MX12_lengthOf [.ref l0, .int l4] (a, r, N) (RI fun v9 a6 r7 n8 => (tyK l0 = (0, 11) ∧ l0 < n8 ∧ ∃ q10, r7 l0 50 = .ref q10 ∧ ((tyK q10).1 = 3 ∧ q10 < n8 ∧ vp_in (l2 ||| ((1 : Int32) <<< (l4 &&& 31))) (tyK q10).2 ∧ (tyK l0 = (0, 11) ∧ l0 < n8 ∧ ∃ q11, r7 l0 50 = .ref q11 ∧ ((tyK q11).1 = 3 ∧ q11 < n8 ∧ vp_in (l2 ||| ((1 : Int32) <<< (l4 &&& 31))) (tyK q11).2 ∧ ((tyK (q11 + 1 + ((l2 ||| ((1 : Int32) <<< (l4 &&& 31))) : Int32).toNatClampNeg)).1 = 1 ∧ (q11 + 1 + ((l2 ||| ((1 : Int32) <<< (l4 &&& 31))) : Int32).toNatClampNeg) < n8 ∧ vp_in (a (q2 + 1 + (l4 : Int32).toNatClampNeg) (((1 : Int32) - l5) : Int32).toNatClampNeg) (tyK (q11 + 1 + ((l2 ||| ((1 : Int32) <<< (l4 &&& 31))) : Int32).toNatClampNeg)).2 ∧ ((¬ (a6 (q11 + 1 + ((l2 ||| ((1 : Int32) <<< (l4 &&& 31))) : Int32).toNatClampNeg) ((a (q2 + 1 + (l4 : Int32).toNatClampNeg) (((1 : Int32) - l5) : Int32).toNatClampNeg) : Int32).toNatClampNeg) = (-1) → (tyK l0 = (0, 11) ∧ l0 < n8 ∧ ∃ q12, r7 l0 50 = .ref q12 ∧ ((tyK q12).1 = 3 ∧ q12 < n8 ∧ vp_in (l2 ||| ((1 : Int32) <<< (l4 &&& 31))) (tyK q12).2 ∧ ((tyK (q12 + 1 + ((l2 ||| ((1 : Int32) <<< (l4 &&& 31))) : Int32).toNatClampNeg)).1 = 1 ∧ (q12 + 1 + ((l2 ||| ((1 : Int32) <<< (l4 &&& 31))) : Int32).toNatClampNeg) < n8 ∧ vp_in (a (q2 + 1 + (l4 : Int32).toNatClampNeg) (((1 : Int32) - l5) : Int32).toNatClampNeg) (tyK (q12 + 1 + ((l2 ||| ((1 : Int32) <<< (l4 &&& 31))) : Int32).toNatClampNeg)).2 ∧ Sp G d 0 0 MX12_less [.int (a6 (q12 + 1 + ((l2 ||| ((1 : Int32) <<< (l4 &&& 31))) : Int32).toNatClampNeg) ((a (q2 + 1 + (l4 : Int32).toNatClampNeg) (((1 : Int32) - l5) : Int32).toNatClampNeg) : Int32).toNatClampNeg), .int (((a (q4 + 1 + (l2 : Int32).toNatClampNeg) (l3 : Int32).toNatClampNeg) + (a (q5 + 1 + (l3 : Int32).toNatClampNeg) ((a (q1 + 1 + (l4 : Int32).toNatClampNeg) (l5 : Int32).toNatClampNeg) : Int32).toNatClampNeg)) + v9)] (a6, r7, n8) (RI fun v16 a13 r14 n15 => ((tyK (q10 + 1 + ((l2 ||| ((1 : Int32) <<< (l4 &&& 31))) : Int32).toNatClampNeg)).1 = 1 ∧ (q10 + 1 + ((l2 ||| ((1 : Int32) <<< (l4 &&& 31))) : Int32).toNatClampNeg) < n15 ∧ vp_in (a (q2 + 1 + (l4 : Int32).toNatClampNeg) (((1 : Int32) - l5) : Int32).toNatClampNeg) (tyK (q10 + 1 + ((l2 ||| ((1 : Int32) <<< (l4 &&& 31))) : Int32).toNatClampNeg)).2 ∧ ∀ a17, a17 = u2 a13 (q10 + 1 + ((l2 ||| ((1 : Int32) <<< (l4 &&& 31))) : Int32).toNatClampNeg) ((a (q2 + 1 + (l4 : Int32).toNatClampNeg) (((1 : Int32) - l5) : Int32).toNatClampNeg) : Int32).toNatClampNeg v16 → E G MX12_walksOn (d + 1) C S 38 [.ref l0, .int l1, .int l2, .int l3, .int l4, .int (l5 + 1), .null, .null, .null, .null] [] (a17, r14, n15) (RN P))))))) ∧ ((a6 (q11 + 1 + ((l2 ||| ((1 : Int32) <<< (l4 &&& 31))) : Int32).toNatClampNeg) ((a (q2 + 1 + (l4 : Int32).toNatClampNeg) (((1 : Int32) - l5) : Int32).toNatClampNeg) : Int32).toNatClampNeg) = (-1) → ((tyK (q10 + 1 + ((l2 ||| ((1 : Int32) <<< (l4 &&& 31))) : Int32).toNatClampNeg)).1 = 1 ∧ (q10 + 1 + ((l2 ||| ((1 : Int32) <<< (l4 &&& 31))) : Int32).toNatClampNeg) < n8 ∧ vp_in (a (q2 + 1 + (l4 : Int32).toNatClampNeg) (((1 : Int32) - l5) : Int32).toNatClampNeg) (tyK (q10 + 1 + ((l2 ||| ((1 : Int32) <<< (l4 &&& 31))) : Int32).toNatClampNeg)).2 ∧ ∀ a18, a18 = u2 a6 (q10 + 1 + ((l2 ||| ((1 : Int32) <<< (l4 &&& 31))) : Int32).toNatClampNeg) ((a (q2 + 1 + (l4 : Int32).toNatClampNeg) (((1 : Int32) - l5) : Int32).toNatClampNeg) : Int32).toNatClampNeg (((a (q4 + 1 + (l2 : Int32).toNatClampNeg) (l3 : Int32).toNatClampNeg) + (a (q5 + 1 + (l3 : Int32).toNatClampNeg) ((a (q1 + 1 + (l4 : Int32).toNatClampNeg) (l5 : Int32).toNatClampNeg) : Int32).toNatClampNeg)) + v9) → E G MX12_walksOn (d + 1) C S 38 [.ref l0, .int l1, .int l2, .int l3, .int l4, .int (l5 + 1), .null, .null, .null, .null] [] (a18, r7, n8) (RN P)))))))))))))))))) ∧ ((a (q3 + 1 + (l3 : Int32).toNatClampNeg) ((a (q1 + 1 + (l4 : Int32).toNatClampNeg) (l5 : Int32).toNatClampNeg) : Int32).toNatClampNeg) = (-1) → E G MX12_walksOn (d + 1) C S 38 [.ref l0, .int l1, .int l2, .int l3, .int l4, .int (l5 + 1), .null, .null, .null, .null] [] (a, r, N) (RN P))))))))))))))) : E G MX12_walksOn (d + 1) C S 38 [.ref l0, .int l1, .int l2, .int l3, .int l4, .int l5, .null, .null, .null, .null] [] (a, r, N) (RN P) := T_X12_walksOn_38 _ _ _ hs
theorem dX12_bridges_0 : decode cX12_bridges 0 = .ok (.aload_n 0, 1) := by decide +kernel
theorem dX12_bridges_1 : decode cX12_bridges 1 = .ok (.iconst 0, 1) := by decide +kernel
theorem dX12_bridges_2 : decode cX12_bridges 2 = .ok (.putfield 115, 3) := by decide +kernel
theorem dX12_bridges_5 : decode cX12_bridges 5 = .ok (.aload_n 0, 1) := by decide +kernel
theorem dX12_bridges_6 : decode cX12_bridges 6 = .ok (.iload_n 1, 1) := by decide +kernel
theorem dX12_bridges_7 : decode cX12_bridges 7 = .ok (.iconst 0, 1) := by decide +kernel
theorem dX12_bridges_8 : decode cX12_bridges 8 = .ok (.iconst 1, 1) := by decide +kernel
theorem dX12_bridges_9 : decode cX12_bridges 9 = .ok (.invokestatic 149, 3) := by decide +kernel
theorem dX12_bridges_12 : decode cX12_bridges 12 = .ok (.ifCond .ne 7, 3) := by decide +kernel
theorem dX12_bridges_15 : decode cX12_bridges 15 = .ok (.iconst 1, 1) := by decide +kernel
theorem dX12_bridges_16 : decode cX12_bridges 16 = .ok (.goto 4, 3) := by decide +kernel
theorem dX12_bridges_19 : decode cX12_bridges 19 = .ok (.iconst 0, 1) := by decide +kernel
theorem dX12_bridges_20 : decode cX12_bridges 20 = .ok (.iconst 1, 1) := by decide +kernel
theorem dX12_bridges_21 : decode cX12_bridges 21 = .ok (.iconst 2, 1) := by decide +kernel
theorem dX12_bridges_22 : decode cX12_bridges 22 = .ok (.invokevirtual 198, 3) := by decide +kernel
theorem dX12_bridges_25 : decode cX12_bridges 25 = .ok (.ifCond .eq 5, 3) := by decide +kernel
theorem dX12_bridges_28 : decode cX12_bridges 28 = .ok (.iconst 0, 1) := by decide +kernel
theorem dX12_bridges_29 : decode cX12_bridges 29 = .ok (.ireturn, 1) := by decide +kernel
theorem dX12_bridges_30 : decode cX12_bridges 30 = .ok (.iconst 0, 1) := by decide +kernel
theorem dX12_bridges_31 : decode cX12_bridges 31 = .ok (.istore_n 2, 1) := by decide +kernel
theorem dX12_bridges_32 : decode cX12_bridges 32 = .ok (.iconst (-1), 1) := by decide +kernel
theorem dX12_bridges_33 : decode cX12_bridges 33 = .ok (.istore_n 3, 1) := by decide +kernel
theorem dX12_bridges_34 : decode cX12_bridges 34 = .ok (.iconst 0, 1) := by decide +kernel
theorem dX12_bridges_35 : decode cX12_bridges 35 = .ok (.istore 4, 2) := by decide +kernel
theorem dX12_bridges_37 : decode cX12_bridges 37 = .ok (.iload 4, 2) := by decide +kernel
theorem dX12_bridges_39 : decode cX12_bridges 39 = .ok (.aload_n 0, 1) := by decide +kernel
theorem dX12_bridges_40 : decode cX12_bridges 40 = .ok (.getfield 23, 3) := by decide +kernel
theorem dX12_bridges_43 : decode cX12_bridges 43 = .ok (.iconst 1, 1) := by decide +kernel
theorem dX12_bridges_44 : decode cX12_bridges 44 = .ok (.iaload, 1) := by decide +kernel
theorem dX12_bridges_45 : decode cX12_bridges 45 = .ok (.if_icmp .ge 60, 3) := by decide +kernel
theorem dX12_bridges_48 : decode cX12_bridges 48 = .ok (.aload_n 0, 1) := by decide +kernel
theorem dX12_bridges_49 : decode cX12_bridges 49 = .ok (.iload 4, 2) := by decide +kernel
theorem dX12_bridges_51 : decode cX12_bridges 51 = .ok (.invokevirtual 390, 3) := by decide +kernel
theorem dX12_bridges_54 : decode cX12_bridges 54 = .ok (.aload_n 0, 1) := by decide +kernel
theorem dX12_bridges_55 : decode cX12_bridges 55 = .ok (.getfield 91, 3) := by decide +kernel
theorem dX12_bridges_58 : decode cX12_bridges 58 = .ok (.aload_n 0, 1) := by decide +kernel
theorem dX12_bridges_59 : decode cX12_bridges 59 = .ok (.getfield 37, 3) := by decide +kernel
theorem dX12_bridges_62 : decode cX12_bridges 62 = .ok (.iload 4, 2) := by decide +kernel
theorem dX12_bridges_64 : decode cX12_bridges 64 = .ok (.aaload, 1) := by decide +kernel
theorem dX12_bridges_65 : decode cX12_bridges 65 = .ok (.iconst 0, 1) := by decide +kernel
theorem dX12_bridges_66 : decode cX12_bridges 66 = .ok (.iaload, 1) := by decide +kernel
theorem dX12_bridges_67 : decode cX12_bridges 67 = .ok (.aaload, 1) := by decide +kernel
theorem dX12_bridges_68 : decode cX12_bridges 68 = .ok (.aload_n 0, 1) := by decide +kernel
theorem dX12_bridges_69 : decode cX12_bridges 69 = .ok (.getfield 37, 3) := by decide +kernel
theorem dX12_bridges_72 : decode cX12_bridges 72 = .ok (.iload 4, 2) := by decide +kernel
theorem dX12_bridges_74 : decode cX12_bridges 74 = .ok (.aaload, 1) := by decide +kernel
theorem dX12_bridges_75 : decode cX12_bridges 75 = .ok (.iconst 1, 1) := by decide +kernel
theorem dX12_bridges_76 : decode cX12_bridges 76 = .ok (.iaload, 1) := by decide +kernel
theorem dX12_bridges_77 : decode cX12_bridges 77 = .ok (.iaload, 1) := by decide +kernel
theorem dX12_bridges_78 : decode cX12_bridges 78 = .ok (.iconst (-1), 1) := by decide +kernel
theorem dX12_bridges_79 : decode cX12_bridges 79 = .ok (.if_icmp .eq 6, 3) := by decide +kernel
theorem dX12_bridges_82 : decode cX12_bridges 82 = .ok (.goto 17, 3) := by decide +kernel
theorem dX12_bridges_85 : decode cX12_bridges 85 = .ok (.iload_n 2, 1) := by decide +kernel
theorem dX12_bridges_86 : decode cX12_bridges 86 = .ok (.ifCond .ne 8, 3) := by decide +kernel
theorem dX12_bridges_89 : decode cX12_bridges 89 = .ok (.iload 4, 2) := by decide +kernel
theorem dX12_bridges_91 : decode cX12_bridges 91 = .ok (.goto 4, 3) := by decide +kernel
theorem dX12_bridges_94 : decode cX12_bridges 94 = .ok (.iload_n 3, 1) := by decide +kernel
theorem dX12_bridges_95 : decode cX12_bridges 95 = .ok (.istore_n 3, 1) := by decide +kernel
theorem dX12_bridges_96 : decode cX12_bridges 96 = .ok (.iinc 2 1, 3) := by decide +kernel
theorem dX12_bridges_99 : decode cX12_bridges 99 = .ok (.iinc 4 1, 3) := by decide +kernel
theorem dX12_bridges_102 : decode cX12_bridges 102 = .ok (.goto (-65), 3) := by decide +kernel
theorem dX12_bridges_105 : decode cX12_bridges 105 = .ok (.iload_n 1, 1) := by decide +kernel
theorem dX12_bridges_106 : decode cX12_bridges 106 = .ok (.ifCond .ne 7, 3) := by decide +kernel
theorem dX12_bridges_109 : decode cX12_bridges 109 = .ok (.iload_n 2, 1) := by decide +kernel
theorem dX12_bridges_110 : decode cX12_bridges 110 = .ok (.goto 4, 3) := by decide +kernel
theorem dX12_bridges_113 : decode cX12_bridges 113 = .ok (.iload_n 3, 1) := by decide +kernel
theorem dX12_bridges_114 : decode cX12_bridges 114 = .ok (.ireturn, 1) := by decide +kernel
set_option maxRecDepth 100000 in
theorem T_X12_bridges_0 {G : GE} {d C S : Nat} {P : KI} : Snd G MX12_bridges (d + 1) C S 0 (RI P) (s_aload 0 (s_iconst 0 (s_putI 11 0 (s_aload 0 (s_iload 1 (s_iconst 0 (s_iconst 1 (s_call G d MX12_in 3 (s_if_ne (s_iconst 0 (s_iconst 1 (s_iconst 2 (s_callV G d MX12_bad 3 11 (s_if_eq (s_iconst 0 (s_istore 2 (s_iconst (-1) (s_istore 3 (s_iconst 0 (s_istore 4 (fun L st h => E G MX12_bridges (d + 1) C S 37 (msk [true, true, true, true, true] L) st h (RI P)))))))) (s_iconst 0 (s_ireturn P))))))) (s_iconst 1 (s_iconst 1 (s_iconst 2 (s_callV G d MX12_bad 3 11 (s_if_eq (s_iconst 0 (s_istore 2 (s_iconst (-1) (s_istore 3 (s_iconst 0 (s_istore 4 (fun L st h => E G MX12_bridges (d + 1) C S 37 (msk [true, true, true, true, true] L) st h (RI P)))))))) (s_iconst 0 (s_ireturn P)))))))))))))))) := (e_aload_n dX12_bridges_0 rfl (e_iconst (v := 0) dX12_bridges_1 (by decide) (e_putI rfl cl_11 (by decide) rfl rfl rfl q_1564 dX12_bridges_2 (e_aload_n dX12_bridges_5 rfl (e_iload_n dX12_bridges_6 rfl (e_iconst (v := 0) dX12_bridges_7 (by decide) (e_iconst (v := 1) dX12_bridges_8 (by decide) (e_callS cal_X12_in q_1739 q_1740 dX12_bridges_9 (e_if_ne (tgt := 19) dX12_bridges_12 (by decide) (e_iconst (v := 0) dX12_bridges_19 (by decide) (e_iconst (v := 1) dX12_bridges_20 (by decide) (e_iconst (v := 2) dX12_bridges_21 (by decide) (e_callV cl_11 cal_X12_bad q_1742 q_1744 q_53 dX12_bridges_22 (e_if_eq (tgt := 30) dX12_bridges_25 (by decide) (e_iconst (v := 0) dX12_bridges_30 (by decide) (e_istore_n dX12_bridges_31 rfl (by decide) (e_iconst (v := (-1)) dX12_bridges_32 (by decide) (e_istore_n dX12_bridges_33 rfl (by decide) (e_iconst (v := 0) dX12_bridges_34 (by decide) (e_istore dX12_bridges_35 (by decide) (e_msk [true, true, true, true, true]))))))) (e_iconst (v := 0) dX12_bridges_28 (by decide) (e_ireturn rfl dX12_bridges_29))))))) (e_iconst (v := 1) dX12_bridges_15 (by decide) (e_goto (tgt := 20) dX12_bridges_16 (by decide) (e_iconst (v := 1) dX12_bridges_20 (by decide) (e_iconst (v := 2) dX12_bridges_21 (by decide) (e_callV cl_11 cal_X12_bad q_1742 q_1744 q_53 dX12_bridges_22 (e_if_eq (tgt := 30) dX12_bridges_25 (by decide) (e_iconst (v := 0) dX12_bridges_30 (by decide) (e_istore_n dX12_bridges_31 rfl (by decide) (e_iconst (v := (-1)) dX12_bridges_32 (by decide) (e_istore_n dX12_bridges_33 rfl (by decide) (e_iconst (v := 0) dX12_bridges_34 (by decide) (e_istore dX12_bridges_35 (by decide) (e_msk [true, true, true, true, true]))))))) (e_iconst (v := 0) dX12_bridges_28 (by decide) (e_ireturn rfl dX12_bridges_29)))))))))))))))))
set_option maxRecDepth 100000 in
theorem V_X12_bridges_0 {G : GE} {d : Nat} {P : KI} {a : Nat → Nat → Int32} {r : Nat → Nat → Value} {N : Nat} {l0 : Nat} {l1 : Int32} (hs : (tyK l0 = (0, 11) ∧ l0 < N ∧ ∀ a1, a1 = u2 a l0 0 0 → Sp G d 0 0 MX12_in [.int l1, .int 0, .int 1] (a1, r, N) (RI fun v5 a2 r3 n4 => ((¬ v5 = 0 → (tyK l0 = (0, 11) ∧ l0 < n4 ∧ Sp G d 0 0 MX12_bad [.ref l0, .int 0, .int 1, .int 2] (a2, r3, n4) (RI fun v9 a6 r7 n8 => ((v9 = 0 → E G MX12_bridges (d + 1) 0 0 37 [.ref l0, .int l1, .int 0, .int (-1), .int 0] [] (a6, r7, n8) (RI P)) ∧ (¬ v9 = 0 → P 0 a6 r7 n8))))) ∧ (v5 = 0 → (tyK l0 = (0, 11) ∧ l0 < n4 ∧ Sp G d 0 0 MX12_bad [.ref l0, .int 1, .int 1, .int 2] (a2, r3, n4) (RI fun v13 a10 r11 n12 => ((v13 = 0 → E G MX12_bridges (d + 1) 0 0 37 [.ref l0, .int l1, .int 0, .int (-1), .int 0] [] (a10, r11, n12) (RI P)) ∧ (¬ v13 = 0 → P 0 a10 r11 n12))))))))) : Sp G (d + 1) 0 0 MX12_bridges [.ref l0, .int l1] (a, r, N) (RI P) := Sp.mk (mc := 0) (ms := 0) [.ref l0, .int l1, .null, .null, .null] rfl rfl rfl rfl (T_X12_bridges_0 (C := 0) (S := 0) _ _ _ hs)
set_option maxRecDepth 100000 in
theorem T_X12_bridges_37 {G : GE} {d C S : Nat} {P : KI} : Snd G MX12_bridges (d + 1) C S 37 (RI P) (s_iload 4 (s_aload 0 (s_getR 11 12 (s_iconst 1 (s_iaload (s_ic_ge (s_iload 1 (s_if_ne (s_iload 3 (s_ireturn P)) (s_iload 2 (s_ireturn P)))) (s_aload 0 (s_iload 4 (s_callV G d MX12_laysWays 1 11 (s_aload 0 (s_getR 11 37 (s_aload 0 (s_getR 11 16 (s_iload 4 (s_aaload (s_iconst 0 (s_iaload (s_aaload (s_aload 0 (s_getR 11 16 (s_iload 4 (s_aaload (s_iconst 1 (s_iaload (s_iaload (s_iconst (-1) (s_ic_eq (s_iload 2 (s_if_ne (s_iload 3 (s_istore 3 (s_iinc 2 1 (s_iinc 4 1 (fun L st h => E G MX12_bridges (d + 1) C S 37 (msk [true, true, true, true, true] L) st h (RI P)))))) (s_iload 4 (s_istore 3 (s_iinc 2 1 (s_iinc 4 1 (fun L st h => E G MX12_bridges (d + 1) C S 37 (msk [true, true, true, true, true] L) st h (RI P)))))))) (s_iinc 4 1 (fun L st h => E G MX12_bridges (d + 1) C S 37 (msk [true, true, true, true, true] L) st h (RI P)))))))))))))))))))))))))))))) := (e_iload dX12_bridges_37 (e_aload_n dX12_bridges_39 rfl (e_getR rfl cl_11 (by decide) rfl q_1576 dX12_bridges_40 (e_iconst (v := 1) dX12_bridges_43 (by decide) (e_iaload dX12_bridges_44 (e_ic_ge (tgt := 105) dX12_bridges_45 (by decide) (e_iload_n dX12_bridges_105 rfl (e_if_ne (tgt := 113) dX12_bridges_106 (by decide) (e_iload_n dX12_bridges_113 rfl (e_ireturn rfl dX12_bridges_114)) (e_iload_n dX12_bridges_109 rfl (e_goto (tgt := 114) dX12_bridges_110 (by decide) (e_ireturn rfl dX12_bridges_114))))) (e_aload_n dX12_bridges_48 rfl (e_iload dX12_bridges_49 (e_callV cl_11 cal_X12_laysWays q_2047 q_2049 q_98 dX12_bridges_51 (e_aload_n dX12_bridges_54 rfl (e_getR rfl cl_11 (by decide) rfl q_1601 dX12_bridges_55 (e_aload_n dX12_bridges_58 rfl (e_getR rfl cl_11 (by decide) rfl q_1580 dX12_bridges_59 (e_iload dX12_bridges_62 (e_aaload dX12_bridges_64 (e_iconst (v := 0) dX12_bridges_65 (by decide) (e_iaload dX12_bridges_66 (e_aaload dX12_bridges_67 (e_aload_n dX12_bridges_68 rfl (e_getR rfl cl_11 (by decide) rfl q_1580 dX12_bridges_69 (e_iload dX12_bridges_72 (e_aaload dX12_bridges_74 (e_iconst (v := 1) dX12_bridges_75 (by decide) (e_iaload dX12_bridges_76 (e_iaload dX12_bridges_77 (e_iconst (v := (-1)) dX12_bridges_78 (by decide) (e_ic_eq (tgt := 85) dX12_bridges_79 (by decide) (e_iload_n dX12_bridges_85 rfl (e_if_ne (tgt := 94) dX12_bridges_86 (by decide) (e_iload_n dX12_bridges_94 rfl (e_istore_n dX12_bridges_95 rfl (by decide) (e_iinc (v := 1) dX12_bridges_96 (by decide) (by decide) (e_iinc (v := 1) dX12_bridges_99 (by decide) (by decide) (e_goto (tgt := 37) dX12_bridges_102 (by decide) (e_msk [true, true, true, true, true])))))) (e_iload dX12_bridges_89 (e_goto (tgt := 95) dX12_bridges_91 (by decide) (e_istore_n dX12_bridges_95 rfl (by decide) (e_iinc (v := 1) dX12_bridges_96 (by decide) (by decide) (e_iinc (v := 1) dX12_bridges_99 (by decide) (by decide) (e_goto (tgt := 37) dX12_bridges_102 (by decide) (e_msk [true, true, true, true, true]))))))))) (e_goto (tgt := 99) dX12_bridges_82 (by decide) (e_iinc (v := 1) dX12_bridges_99 (by decide) (by decide) (e_goto (tgt := 37) dX12_bridges_102 (by decide) (e_msk [true, true, true, true, true])))))))))))))))))))))))))))))))
set_option maxRecDepth 100000 in
theorem V_X12_bridges_37 {G : GE} {d C S : Nat} {P : KI} {a : Nat → Nat → Int32} {r : Nat → Nat → Value} {N : Nat} {l0 : Nat} {l1 : Int32} {l2 : Int32} {l3 : Int32} {l4 : Int32} (hs : (tyK l0 = (0, 11) ∧ l0 < N ∧ ∃ q1, r l0 12 = .ref q1 ∧ ((tyK q1).1 = 1 ∧ q1 < N ∧ vp_in 1 (tyK q1).2 ∧ (((a q1 (1 : Int32).toNatClampNeg) ≤ l4 → ((¬ l1 = 0 → P l3 a r N) ∧ (l1 = 0 → P l2 a r N))) ∧ (¬ (a q1 (1 : Int32).toNatClampNeg) ≤ l4 → (tyK l0 = (0, 11) ∧ l0 < N ∧ Sp G d 0 0 MX12_laysWays [.ref l0, .int l4] (a, r, N) (RN fun a2 r3 n4 => (tyK l0 = (0, 11) ∧ l0 < n4 ∧ ∃ q5, r3 l0 37 = .ref q5 ∧ (tyK l0 = (0, 11) ∧ l0 < n4 ∧ ∃ q6, r3 l0 16 = .ref q6 ∧ ((tyK q6).1 = 3 ∧ q6 < n4 ∧ vp_in l4 (tyK q6).2 ∧ ((tyK (q6 + 1 + (l4 : Int32).toNatClampNeg)).1 = 1 ∧ (q6 + 1 + (l4 : Int32).toNatClampNeg) < n4 ∧ vp_in 0 (tyK (q6 + 1 + (l4 : Int32).toNatClampNeg)).2 ∧ ((tyK q5).1 = 3 ∧ q5 < n4 ∧ vp_in (a2 (q6 + 1 + (l4 : Int32).toNatClampNeg) (0 : Int32).toNatClampNeg) (tyK q5).2 ∧ (tyK l0 = (0, 11) ∧ l0 < n4 ∧ ∃ q7, r3 l0 16 = .ref q7 ∧ ((tyK q7).1 = 3 ∧ q7 < n4 ∧ vp_in l4 (tyK q7).2 ∧ ((tyK (q7 + 1 + (l4 : Int32).toNatClampNeg)).1 = 1 ∧ (q7 + 1 + (l4 : Int32).toNatClampNeg) < n4 ∧ vp_in 1 (tyK (q7 + 1 + (l4 : Int32).toNatClampNeg)).2 ∧ ((tyK (q5 + 1 + ((a2 (q6 + 1 + (l4 : Int32).toNatClampNeg) (0 : Int32).toNatClampNeg) : Int32).toNatClampNeg)).1 = 1 ∧ (q5 + 1 + ((a2 (q6 + 1 + (l4 : Int32).toNatClampNeg) (0 : Int32).toNatClampNeg) : Int32).toNatClampNeg) < n4 ∧ vp_in (a2 (q7 + 1 + (l4 : Int32).toNatClampNeg) (1 : Int32).toNatClampNeg) (tyK (q5 + 1 + ((a2 (q6 + 1 + (l4 : Int32).toNatClampNeg) (0 : Int32).toNatClampNeg) : Int32).toNatClampNeg)).2 ∧ (((a2 (q5 + 1 + ((a2 (q6 + 1 + (l4 : Int32).toNatClampNeg) (0 : Int32).toNatClampNeg) : Int32).toNatClampNeg) ((a2 (q7 + 1 + (l4 : Int32).toNatClampNeg) (1 : Int32).toNatClampNeg) : Int32).toNatClampNeg) = (-1) → ((¬ l2 = 0 → E G MX12_bridges (d + 1) C S 37 [.ref l0, .int l1, .int (l2 + 1), .int l3, .int (l4 + 1)] [] (a2, r3, n4) (RI P)) ∧ (l2 = 0 → E G MX12_bridges (d + 1) C S 37 [.ref l0, .int l1, .int (l2 + 1), .int l4, .int (l4 + 1)] [] (a2, r3, n4) (RI P)))) ∧ (¬ (a2 (q5 + 1 + ((a2 (q6 + 1 + (l4 : Int32).toNatClampNeg) (0 : Int32).toNatClampNeg) : Int32).toNatClampNeg) ((a2 (q7 + 1 + (l4 : Int32).toNatClampNeg) (1 : Int32).toNatClampNeg) : Int32).toNatClampNeg) = (-1) → E G MX12_bridges (d + 1) C S 37 [.ref l0, .int l1, .int l2, .int l3, .int (l4 + 1)] [] (a2, r3, n4) (RI P))))))))))))))))))) : E G MX12_bridges (d + 1) C S 37 [.ref l0, .int l1, .int l2, .int l3, .int l4] [] (a, r, N) (RI P) := T_X12_bridges_37 _ _ _ hs
theorem dX12_worthOf_0 : decode cX12_worthOf 0 = .ok (.iconst 0, 1) := by decide +kernel
theorem dX12_worthOf_1 : decode cX12_worthOf 1 = .ok (.istore_n 3, 1) := by decide +kernel
theorem dX12_worthOf_2 : decode cX12_worthOf 2 = .ok (.iconst 0, 1) := by decide +kernel
theorem dX12_worthOf_3 : decode cX12_worthOf 3 = .ok (.istore 4, 2) := by decide +kernel
theorem dX12_worthOf_5 : decode cX12_worthOf 5 = .ok (.iload 4, 2) := by decide +kernel
theorem dX12_worthOf_7 : decode cX12_worthOf 7 = .ok (.aload_n 0, 1) := by decide +kernel
theorem dX12_worthOf_8 : decode cX12_worthOf 8 = .ok (.getfield 23, 3) := by decide +kernel
theorem dX12_worthOf_11 : decode cX12_worthOf 11 = .ok (.iconst 2, 1) := by decide +kernel
theorem dX12_worthOf_12 : decode cX12_worthOf 12 = .ok (.iaload, 1) := by decide +kernel
theorem dX12_worthOf_13 : decode cX12_worthOf 13 = .ok (.if_icmp .ge 34, 3) := by decide +kernel
theorem dX12_worthOf_16 : decode cX12_worthOf 16 = .ok (.iload_n 3, 1) := by decide +kernel
theorem dX12_worthOf_17 : decode cX12_worthOf 17 = .ok (.iload_n 1, 1) := by decide +kernel
theorem dX12_worthOf_18 : decode cX12_worthOf 18 = .ok (.iload 4, 2) := by decide +kernel
theorem dX12_worthOf_20 : decode cX12_worthOf 20 = .ok (.invokestatic 377, 3) := by decide +kernel
theorem dX12_worthOf_23 : decode cX12_worthOf 23 = .ok (.ifCond .eq 15, 3) := by decide +kernel
theorem dX12_worthOf_26 : decode cX12_worthOf 26 = .ok (.aload_n 0, 1) := by decide +kernel
theorem dX12_worthOf_27 : decode cX12_worthOf 27 = .ok (.getfield 55, 3) := by decide +kernel
theorem dX12_worthOf_30 : decode cX12_worthOf 30 = .ok (.iload 4, 2) := by decide +kernel
theorem dX12_worthOf_32 : decode cX12_worthOf 32 = .ok (.aaload, 1) := by decide +kernel
theorem dX12_worthOf_33 : decode cX12_worthOf 33 = .ok (.iload_n 2, 1) := by decide +kernel
theorem dX12_worthOf_34 : decode cX12_worthOf 34 = .ok (.iaload, 1) := by decide +kernel
theorem dX12_worthOf_35 : decode cX12_worthOf 35 = .ok (.goto 4, 3) := by decide +kernel
theorem dX12_worthOf_38 : decode cX12_worthOf 38 = .ok (.iconst 0, 1) := by decide +kernel
theorem dX12_worthOf_39 : decode cX12_worthOf 39 = .ok (.iadd, 1) := by decide +kernel
theorem dX12_worthOf_40 : decode cX12_worthOf 40 = .ok (.istore_n 3, 1) := by decide +kernel
theorem dX12_worthOf_41 : decode cX12_worthOf 41 = .ok (.iinc 4 1, 3) := by decide +kernel
theorem dX12_worthOf_44 : decode cX12_worthOf 44 = .ok (.goto (-39), 3) := by decide +kernel
theorem dX12_worthOf_47 : decode cX12_worthOf 47 = .ok (.iload_n 3, 1) := by decide +kernel
theorem dX12_worthOf_48 : decode cX12_worthOf 48 = .ok (.ireturn, 1) := by decide +kernel
set_option maxRecDepth 100000 in
theorem T_X12_worthOf_0 {G : GE} {d C S : Nat} {P : KI} : Snd G MX12_worthOf (d + 1) C S 0 (RI P) (s_iconst 0 (s_istore 3 (s_iconst 0 (s_istore 4 (fun L st h => E G MX12_worthOf (d + 1) C S 5 (msk [true, true, true, true, true] L) st h (RI P)))))) := (e_iconst (v := 0) dX12_worthOf_0 (by decide) (e_istore_n dX12_worthOf_1 rfl (by decide) (e_iconst (v := 0) dX12_worthOf_2 (by decide) (e_istore dX12_worthOf_3 (by decide) (e_msk [true, true, true, true, true])))))
set_option maxRecDepth 100000 in
theorem V_X12_worthOf_0 {G : GE} {d : Nat} {P : KI} {a : Nat → Nat → Int32} {r : Nat → Nat → Value} {N : Nat} {l0 : Nat} {l1 : Int32} {l2 : Int32} (hs : E G MX12_worthOf (d + 1) 0 0 5 [.ref l0, .int l1, .int l2, .int 0, .int 0] [] (a, r, N) (RI P)) : Sp G (d + 1) 0 0 MX12_worthOf [.ref l0, .int l1, .int l2] (a, r, N) (RI P) := Sp.mk (mc := 0) (ms := 0) [.ref l0, .int l1, .int l2, .null, .null] rfl rfl rfl rfl (T_X12_worthOf_0 (C := 0) (S := 0) _ _ _ hs)
set_option maxRecDepth 100000 in
theorem T_X12_worthOf_5 {G : GE} {d C S : Nat} {P : KI} : Snd G MX12_worthOf (d + 1) C S 5 (RI P) (s_iload 4 (s_aload 0 (s_getR 11 12 (s_iconst 2 (s_iaload (s_ic_ge (s_iload 3 (s_ireturn P)) (s_iload 3 (s_iload 1 (s_iload 4 (s_call G d MX12_has 2 (s_if_eq (s_iconst 0 (s_iadd (s_istore 3 (s_iinc 4 1 (fun L st h => E G MX12_worthOf (d + 1) C S 5 (msk [true, true, true, true, true] L) st h (RI P)))))) (s_aload 0 (s_getR 11 22 (s_iload 4 (s_aaload (s_iload 2 (s_iaload (s_iadd (s_istore 3 (s_iinc 4 1 (fun L st h => E G MX12_worthOf (d + 1) C S 5 (msk [true, true, true, true, true] L) st h (RI P)))))))))))))))))))))) := (e_iload dX12_worthOf_5 (e_aload_n dX12_worthOf_7 rfl (e_getR rfl cl_11 (by decide) rfl q_1576 dX12_worthOf_8 (e_iconst (v := 2) dX12_worthOf_11 (by decide) (e_iaload dX12_worthOf_12 (e_ic_ge (tgt := 47) dX12_worthOf_13 (by decide) (e_iload_n dX12_worthOf_47 rfl (e_ireturn rfl dX12_worthOf_48)) (e_iload_n dX12_worthOf_16 rfl (e_iload_n dX12_worthOf_17 rfl (e_iload dX12_worthOf_18 (e_callS cal_X12_has q_2020 q_2021 dX12_worthOf_20 (e_if_eq (tgt := 38) dX12_worthOf_23 (by decide) (e_iconst (v := 0) dX12_worthOf_38 (by decide) (e_iadd dX12_worthOf_39 (e_istore_n dX12_worthOf_40 rfl (by decide) (e_iinc (v := 1) dX12_worthOf_41 (by decide) (by decide) (e_goto (tgt := 5) dX12_worthOf_44 (by decide) (e_msk [true, true, true, true, true])))))) (e_aload_n dX12_worthOf_26 rfl (e_getR rfl cl_11 (by decide) rfl q_1586 dX12_worthOf_27 (e_iload dX12_worthOf_30 (e_aaload dX12_worthOf_32 (e_iload_n dX12_worthOf_33 rfl (e_iaload dX12_worthOf_34 (e_goto (tgt := 39) dX12_worthOf_35 (by decide) (e_iadd dX12_worthOf_39 (e_istore_n dX12_worthOf_40 rfl (by decide) (e_iinc (v := 1) dX12_worthOf_41 (by decide) (by decide) (e_goto (tgt := 5) dX12_worthOf_44 (by decide) (e_msk [true, true, true, true, true])))))))))))))))))))))))
set_option maxRecDepth 100000 in
theorem V_X12_worthOf_5 {G : GE} {d C S : Nat} {P : KI} {a : Nat → Nat → Int32} {r : Nat → Nat → Value} {N : Nat} {l0 : Nat} {l1 : Int32} {l2 : Int32} {l3 : Int32} {l4 : Int32} (hs : (tyK l0 = (0, 11) ∧ l0 < N ∧ ∃ q1, r l0 12 = .ref q1 ∧ ((tyK q1).1 = 1 ∧ q1 < N ∧ vp_in 2 (tyK q1).2 ∧ (((a q1 (2 : Int32).toNatClampNeg) ≤ l4 → P l3 a r N) ∧ (¬ (a q1 (2 : Int32).toNatClampNeg) ≤ l4 → Sp G d 0 0 MX12_has [.int l1, .int l4] (a, r, N) (RI fun v5 a2 r3 n4 => ((v5 = 0 → E G MX12_worthOf (d + 1) C S 5 [.ref l0, .int l1, .int l2, .int (l3 + 0), .int (l4 + 1)] [] (a2, r3, n4) (RI P)) ∧ (¬ v5 = 0 → (tyK l0 = (0, 11) ∧ l0 < n4 ∧ ∃ q6, r3 l0 22 = .ref q6 ∧ ((tyK q6).1 = 3 ∧ q6 < n4 ∧ vp_in l4 (tyK q6).2 ∧ ((tyK (q6 + 1 + (l4 : Int32).toNatClampNeg)).1 = 1 ∧ (q6 + 1 + (l4 : Int32).toNatClampNeg) < n4 ∧ vp_in l2 (tyK (q6 + 1 + (l4 : Int32).toNatClampNeg)).2 ∧ E G MX12_worthOf (d + 1) C S 5 [.ref l0, .int l1, .int l2, .int (l3 + (a2 (q6 + 1 + (l4 : Int32).toNatClampNeg) (l2 : Int32).toNatClampNeg)), .int (l4 + 1)] [] (a2, r3, n4) (RI P)))))))))))) : E G MX12_worthOf (d + 1) C S 5 [.ref l0, .int l1, .int l2, .int l3, .int l4] [] (a, r, N) (RI P) := T_X12_worthOf_5 _ _ _ hs
theorem dX12_fair_0 : decode cX12_fair 0 = .ok (.aload_n 0, 1) := by decide +kernel
theorem dX12_fair_1 : decode cX12_fair 1 = .ok (.iconst 0, 1) := by decide +kernel
theorem dX12_fair_2 : decode cX12_fair 2 = .ok (.putfield 115, 3) := by decide +kernel
theorem dX12_fair_5 : decode cX12_fair 5 = .ok (.aload_n 0, 1) := by decide +kernel
theorem dX12_fair_6 : decode cX12_fair 6 = .ok (.iload_n 1, 1) := by decide +kernel
theorem dX12_fair_7 : decode cX12_fair 7 = .ok (.iconst 0, 1) := by decide +kernel
theorem dX12_fair_8 : decode cX12_fair 8 = .ok (.iconst 1, 1) := by decide +kernel
theorem dX12_fair_9 : decode cX12_fair 9 = .ok (.invokestatic 149, 3) := by decide +kernel
theorem dX12_fair_12 : decode cX12_fair 12 = .ok (.ifCond .ne 7, 3) := by decide +kernel
theorem dX12_fair_15 : decode cX12_fair 15 = .ok (.iconst 1, 1) := by decide +kernel
theorem dX12_fair_16 : decode cX12_fair 16 = .ok (.goto 4, 3) := by decide +kernel
theorem dX12_fair_19 : decode cX12_fair 19 = .ok (.iconst 0, 1) := by decide +kernel
theorem dX12_fair_20 : decode cX12_fair 20 = .ok (.iconst 1, 1) := by decide +kernel
theorem dX12_fair_21 : decode cX12_fair 21 = .ok (.iconst 2, 1) := by decide +kernel
theorem dX12_fair_22 : decode cX12_fair 22 = .ok (.invokevirtual 198, 3) := by decide +kernel
theorem dX12_fair_25 : decode cX12_fair 25 = .ok (.ifCond .eq 5, 3) := by decide +kernel
theorem dX12_fair_28 : decode cX12_fair 28 = .ok (.iconst 0, 1) := by decide +kernel
theorem dX12_fair_29 : decode cX12_fair 29 = .ok (.ireturn, 1) := by decide +kernel
theorem dX12_fair_30 : decode cX12_fair 30 = .ok (.iconst 0, 1) := by decide +kernel
theorem dX12_fair_31 : decode cX12_fair 31 = .ok (.istore_n 2, 1) := by decide +kernel
theorem dX12_fair_32 : decode cX12_fair 32 = .ok (.iconst (-1), 1) := by decide +kernel
theorem dX12_fair_33 : decode cX12_fair 33 = .ok (.istore_n 3, 1) := by decide +kernel
theorem dX12_fair_34 : decode cX12_fair 34 = .ok (.iconst 1, 1) := by decide +kernel
theorem dX12_fair_35 : decode cX12_fair 35 = .ok (.aload_n 0, 1) := by decide +kernel
theorem dX12_fair_36 : decode cX12_fair 36 = .ok (.getfield 23, 3) := by decide +kernel
theorem dX12_fair_39 : decode cX12_fair 39 = .ok (.iconst 2, 1) := by decide +kernel
theorem dX12_fair_40 : decode cX12_fair 40 = .ok (.iaload, 1) := by decide +kernel
theorem dX12_fair_41 : decode cX12_fair 41 = .ok (.ishl, 1) := by decide +kernel
theorem dX12_fair_42 : decode cX12_fair 42 = .ok (.iconst 1, 1) := by decide +kernel
theorem dX12_fair_43 : decode cX12_fair 43 = .ok (.isub, 1) := by decide +kernel
theorem dX12_fair_44 : decode cX12_fair 44 = .ok (.istore 4, 2) := by decide +kernel
theorem dX12_fair_46 : decode cX12_fair 46 = .ok (.iconst 0, 1) := by decide +kernel
theorem dX12_fair_47 : decode cX12_fair 47 = .ok (.istore 5, 2) := by decide +kernel
theorem dX12_fair_49 : decode cX12_fair 49 = .ok (.iload 5, 2) := by decide +kernel
theorem dX12_fair_51 : decode cX12_fair 51 = .ok (.iload 4, 2) := by decide +kernel
theorem dX12_fair_53 : decode cX12_fair 53 = .ok (.if_icmp .gt 70, 3) := by decide +kernel
theorem dX12_fair_56 : decode cX12_fair 56 = .ok (.aload_n 0, 1) := by decide +kernel
theorem dX12_fair_57 : decode cX12_fair 57 = .ok (.iload 5, 2) := by decide +kernel
theorem dX12_fair_59 : decode cX12_fair 59 = .ok (.iconst 0, 1) := by decide +kernel
theorem dX12_fair_60 : decode cX12_fair 60 = .ok (.invokevirtual 397, 3) := by decide +kernel
theorem dX12_fair_63 : decode cX12_fair 63 = .ok (.aload_n 0, 1) := by decide +kernel
theorem dX12_fair_64 : decode cX12_fair 64 = .ok (.iload 4, 2) := by decide +kernel
theorem dX12_fair_66 : decode cX12_fair 66 = .ok (.iload 5, 2) := by decide +kernel
theorem dX12_fair_68 : decode cX12_fair 68 = .ok (.iconst (-1), 1) := by decide +kernel
theorem dX12_fair_69 : decode cX12_fair 69 = .ok (.ixor, 1) := by decide +kernel
theorem dX12_fair_70 : decode cX12_fair 70 = .ok (.iand, 1) := by decide +kernel
theorem dX12_fair_71 : decode cX12_fair 71 = .ok (.iconst 0, 1) := by decide +kernel
theorem dX12_fair_72 : decode cX12_fair 72 = .ok (.invokevirtual 397, 3) := by decide +kernel
theorem dX12_fair_75 : decode cX12_fair 75 = .ok (.if_icmp .lt 42, 3) := by decide +kernel
theorem dX12_fair_78 : decode cX12_fair 78 = .ok (.aload_n 0, 1) := by decide +kernel
theorem dX12_fair_79 : decode cX12_fair 79 = .ok (.iload 4, 2) := by decide +kernel
theorem dX12_fair_81 : decode cX12_fair 81 = .ok (.iload 5, 2) := by decide +kernel
theorem dX12_fair_83 : decode cX12_fair 83 = .ok (.iconst (-1), 1) := by decide +kernel
theorem dX12_fair_84 : decode cX12_fair 84 = .ok (.ixor, 1) := by decide +kernel
theorem dX12_fair_85 : decode cX12_fair 85 = .ok (.iand, 1) := by decide +kernel
theorem dX12_fair_86 : decode cX12_fair 86 = .ok (.iconst 1, 1) := by decide +kernel
theorem dX12_fair_87 : decode cX12_fair 87 = .ok (.invokevirtual 397, 3) := by decide +kernel
theorem dX12_fair_90 : decode cX12_fair 90 = .ok (.aload_n 0, 1) := by decide +kernel
theorem dX12_fair_91 : decode cX12_fair 91 = .ok (.iload 5, 2) := by decide +kernel
theorem dX12_fair_93 : decode cX12_fair 93 = .ok (.iconst 1, 1) := by decide +kernel
theorem dX12_fair_94 : decode cX12_fair 94 = .ok (.invokevirtual 397, 3) := by decide +kernel
theorem dX12_fair_97 : decode cX12_fair 97 = .ok (.if_icmp .ge 6, 3) := by decide +kernel
theorem dX12_fair_100 : decode cX12_fair 100 = .ok (.goto 17, 3) := by decide +kernel
theorem dX12_fair_103 : decode cX12_fair 103 = .ok (.iload_n 2, 1) := by decide +kernel
theorem dX12_fair_104 : decode cX12_fair 104 = .ok (.ifCond .ne 8, 3) := by decide +kernel
theorem dX12_fair_107 : decode cX12_fair 107 = .ok (.iload 5, 2) := by decide +kernel
theorem dX12_fair_109 : decode cX12_fair 109 = .ok (.goto 4, 3) := by decide +kernel
theorem dX12_fair_112 : decode cX12_fair 112 = .ok (.iload_n 3, 1) := by decide +kernel
theorem dX12_fair_113 : decode cX12_fair 113 = .ok (.istore_n 3, 1) := by decide +kernel
theorem dX12_fair_114 : decode cX12_fair 114 = .ok (.iinc 2 1, 3) := by decide +kernel
theorem dX12_fair_117 : decode cX12_fair 117 = .ok (.iinc 5 1, 3) := by decide +kernel
theorem dX12_fair_120 : decode cX12_fair 120 = .ok (.goto (-71), 3) := by decide +kernel
theorem dX12_fair_123 : decode cX12_fair 123 = .ok (.iload_n 1, 1) := by decide +kernel
theorem dX12_fair_124 : decode cX12_fair 124 = .ok (.ifCond .ne 7, 3) := by decide +kernel
theorem dX12_fair_127 : decode cX12_fair 127 = .ok (.iload_n 2, 1) := by decide +kernel
theorem dX12_fair_128 : decode cX12_fair 128 = .ok (.goto 4, 3) := by decide +kernel
theorem dX12_fair_131 : decode cX12_fair 131 = .ok (.iload_n 3, 1) := by decide +kernel
theorem dX12_fair_132 : decode cX12_fair 132 = .ok (.ireturn, 1) := by decide +kernel
set_option maxRecDepth 100000 in
theorem T_X12_fair_0 {G : GE} {d C S : Nat} {P : KI} : Snd G MX12_fair (d + 1) C S 0 (RI P) (s_aload 0 (s_iconst 0 (s_putI 11 0 (s_aload 0 (s_iload 1 (s_iconst 0 (s_iconst 1 (s_call G d MX12_in 3 (s_if_ne (s_iconst 0 (s_iconst 1 (s_iconst 2 (s_callV G d MX12_bad 3 11 (s_if_eq (s_iconst 0 (s_istore 2 (s_iconst (-1) (s_istore 3 (s_iconst 1 (s_aload 0 (s_getR 11 12 (s_iconst 2 (s_iaload (s_ishl (s_iconst 1 (s_isub (s_istore 4 (s_iconst 0 (s_istore 5 (fun L st h => E G MX12_fair (d + 1) C S 49 (msk [true, true, true, true, true, true] L) st h (RI P))))))))))))))))) (s_iconst 0 (s_ireturn P))))))) (s_iconst 1 (s_iconst 1 (s_iconst 2 (s_callV G d MX12_bad 3 11 (s_if_eq (s_iconst 0 (s_istore 2 (s_iconst (-1) (s_istore 3 (s_iconst 1 (s_aload 0 (s_getR 11 12 (s_iconst 2 (s_iaload (s_ishl (s_iconst 1 (s_isub (s_istore 4 (s_iconst 0 (s_istore 5 (fun L st h => E G MX12_fair (d + 1) C S 49 (msk [true, true, true, true, true, true] L) st h (RI P))))))))))))))))) (s_iconst 0 (s_ireturn P)))))))))))))))) := (e_aload_n dX12_fair_0 rfl (e_iconst (v := 0) dX12_fair_1 (by decide) (e_putI rfl cl_11 (by decide) rfl rfl rfl q_1564 dX12_fair_2 (e_aload_n dX12_fair_5 rfl (e_iload_n dX12_fair_6 rfl (e_iconst (v := 0) dX12_fair_7 (by decide) (e_iconst (v := 1) dX12_fair_8 (by decide) (e_callS cal_X12_in q_1739 q_1740 dX12_fair_9 (e_if_ne (tgt := 19) dX12_fair_12 (by decide) (e_iconst (v := 0) dX12_fair_19 (by decide) (e_iconst (v := 1) dX12_fair_20 (by decide) (e_iconst (v := 2) dX12_fair_21 (by decide) (e_callV cl_11 cal_X12_bad q_1742 q_1744 q_53 dX12_fair_22 (e_if_eq (tgt := 30) dX12_fair_25 (by decide) (e_iconst (v := 0) dX12_fair_30 (by decide) (e_istore_n dX12_fair_31 rfl (by decide) (e_iconst (v := (-1)) dX12_fair_32 (by decide) (e_istore_n dX12_fair_33 rfl (by decide) (e_iconst (v := 1) dX12_fair_34 (by decide) (e_aload_n dX12_fair_35 rfl (e_getR rfl cl_11 (by decide) rfl q_1576 dX12_fair_36 (e_iconst (v := 2) dX12_fair_39 (by decide) (e_iaload dX12_fair_40 (e_ishl dX12_fair_41 (e_iconst (v := 1) dX12_fair_42 (by decide) (e_isub dX12_fair_43 (e_istore dX12_fair_44 (by decide) (e_iconst (v := 0) dX12_fair_46 (by decide) (e_istore dX12_fair_47 (by decide) (e_msk [true, true, true, true, true, true])))))))))))))))) (e_iconst (v := 0) dX12_fair_28 (by decide) (e_ireturn rfl dX12_fair_29))))))) (e_iconst (v := 1) dX12_fair_15 (by decide) (e_goto (tgt := 20) dX12_fair_16 (by decide) (e_iconst (v := 1) dX12_fair_20 (by decide) (e_iconst (v := 2) dX12_fair_21 (by decide) (e_callV cl_11 cal_X12_bad q_1742 q_1744 q_53 dX12_fair_22 (e_if_eq (tgt := 30) dX12_fair_25 (by decide) (e_iconst (v := 0) dX12_fair_30 (by decide) (e_istore_n dX12_fair_31 rfl (by decide) (e_iconst (v := (-1)) dX12_fair_32 (by decide) (e_istore_n dX12_fair_33 rfl (by decide) (e_iconst (v := 1) dX12_fair_34 (by decide) (e_aload_n dX12_fair_35 rfl (e_getR rfl cl_11 (by decide) rfl q_1576 dX12_fair_36 (e_iconst (v := 2) dX12_fair_39 (by decide) (e_iaload dX12_fair_40 (e_ishl dX12_fair_41 (e_iconst (v := 1) dX12_fair_42 (by decide) (e_isub dX12_fair_43 (e_istore dX12_fair_44 (by decide) (e_iconst (v := 0) dX12_fair_46 (by decide) (e_istore dX12_fair_47 (by decide) (e_msk [true, true, true, true, true, true])))))))))))))))) (e_iconst (v := 0) dX12_fair_28 (by decide) (e_ireturn rfl dX12_fair_29)))))))))))))))))
set_option maxRecDepth 100000 in
theorem V_X12_fair_0 {G : GE} {d : Nat} {P : KI} {a : Nat → Nat → Int32} {r : Nat → Nat → Value} {N : Nat} {l0 : Nat} {l1 : Int32} (hs : (tyK l0 = (0, 11) ∧ l0 < N ∧ ∀ a1, a1 = u2 a l0 0 0 → Sp G d 0 0 MX12_in [.int l1, .int 0, .int 1] (a1, r, N) (RI fun v5 a2 r3 n4 => ((¬ v5 = 0 → (tyK l0 = (0, 11) ∧ l0 < n4 ∧ Sp G d 0 0 MX12_bad [.ref l0, .int 0, .int 1, .int 2] (a2, r3, n4) (RI fun v9 a6 r7 n8 => ((v9 = 0 → (tyK l0 = (0, 11) ∧ l0 < n8 ∧ ∃ q10, r7 l0 12 = .ref q10 ∧ ((tyK q10).1 = 1 ∧ q10 < n8 ∧ vp_in 2 (tyK q10).2 ∧ E G MX12_fair (d + 1) 0 0 49 [.ref l0, .int l1, .int 0, .int (-1), .int (((1 : Int32) <<< ((a6 q10 (2 : Int32).toNatClampNeg) &&& 31)) - 1), .int 0] [] (a6, r7, n8) (RI P)))) ∧ (¬ v9 = 0 → P 0 a6 r7 n8))))) ∧ (v5 = 0 → (tyK l0 = (0, 11) ∧ l0 < n4 ∧ Sp G d 0 0 MX12_bad [.ref l0, .int 1, .int 1, .int 2] (a2, r3, n4) (RI fun v14 a11 r12 n13 => ((v14 = 0 → (tyK l0 = (0, 11) ∧ l0 < n13 ∧ ∃ q15, r12 l0 12 = .ref q15 ∧ ((tyK q15).1 = 1 ∧ q15 < n13 ∧ vp_in 2 (tyK q15).2 ∧ E G MX12_fair (d + 1) 0 0 49 [.ref l0, .int l1, .int 0, .int (-1), .int (((1 : Int32) <<< ((a11 q15 (2 : Int32).toNatClampNeg) &&& 31)) - 1), .int 0] [] (a11, r12, n13) (RI P)))) ∧ (¬ v14 = 0 → P 0 a11 r12 n13))))))))) : Sp G (d + 1) 0 0 MX12_fair [.ref l0, .int l1] (a, r, N) (RI P) := Sp.mk (mc := 0) (ms := 0) [.ref l0, .int l1, .null, .null, .null, .null] rfl rfl rfl rfl (T_X12_fair_0 (C := 0) (S := 0) _ _ _ hs)
set_option maxRecDepth 100000 in
theorem T_X12_fair_49 {G : GE} {d C S : Nat} {P : KI} : Snd G MX12_fair (d + 1) C S 49 (RI P) (s_iload 5 (s_iload 4 (s_ic_gt (s_iload 1 (s_if_ne (s_iload 3 (s_ireturn P)) (s_iload 2 (s_ireturn P)))) (s_aload 0 (s_iload 5 (s_iconst 0 (s_callV G d MX12_worthOf 2 11 (s_aload 0 (s_iload 4 (s_iload 5 (s_iconst (-1) (s_ixor (s_iand (s_iconst 0 (s_callV G d MX12_worthOf 2 11 (s_ic_lt (s_iinc 5 1 (fun L st h => E G MX12_fair (d + 1) C S 49 (msk [true, true, true, true, true, true] L) st h (RI P))) (s_aload 0 (s_iload 4 (s_iload 5 (s_iconst (-1) (s_ixor (s_iand (s_iconst 1 (s_callV G d MX12_worthOf 2 11 (s_aload 0 (s_iload 5 (s_iconst 1 (s_callV G d MX12_worthOf 2 11 (s_ic_ge (s_iload 2 (s_if_ne (s_iload 3 (s_istore 3 (s_iinc 2 1 (s_iinc 5 1 (fun L st h => E G MX12_fair (d + 1) C S 49 (msk [true, true, true, true, true, true] L) st h (RI P)))))) (s_iload 5 (s_istore 3 (s_iinc 2 1 (s_iinc 5 1 (fun L st h => E G MX12_fair (d + 1) C S 49 (msk [true, true, true, true, true, true] L) st h (RI P)))))))) (s_iinc 5 1 (fun L st h => E G MX12_fair (d + 1) C S 49 (msk [true, true, true, true, true, true] L) st h (RI P)))))))))))))))))))))))))))))))) := (e_iload dX12_fair_49 (e_iload dX12_fair_51 (e_ic_gt (tgt := 123) dX12_fair_53 (by decide) (e_iload_n dX12_fair_123 rfl (e_if_ne (tgt := 131) dX12_fair_124 (by decide) (e_iload_n dX12_fair_131 rfl (e_ireturn rfl dX12_fair_132)) (e_iload_n dX12_fair_127 rfl (e_goto (tgt := 132) dX12_fair_128 (by decide) (e_ireturn rfl dX12_fair_132))))) (e_aload_n dX12_fair_56 rfl (e_iload dX12_fair_57 (e_iconst (v := 0) dX12_fair_59 (by decide) (e_callV cl_11 cal_X12_worthOf q_2071 q_2073 q_100 dX12_fair_60 (e_aload_n dX12_fair_63 rfl (e_iload dX12_fair_64 (e_iload dX12_fair_66 (e_iconst (v := (-1)) dX12_fair_68 (by decide) (e_ixor dX12_fair_69 (e_iand dX12_fair_70 (e_iconst (v := 0) dX12_fair_71 (by decide) (e_callV cl_11 cal_X12_worthOf q_2071 q_2073 q_100 dX12_fair_72 (e_ic_lt (tgt := 117) dX12_fair_75 (by decide) (e_iinc (v := 1) dX12_fair_117 (by decide) (by decide) (e_goto (tgt := 49) dX12_fair_120 (by decide) (e_msk [true, true, true, true, true, true]))) (e_aload_n dX12_fair_78 rfl (e_iload dX12_fair_79 (e_iload dX12_fair_81 (e_iconst (v := (-1)) dX12_fair_83 (by decide) (e_ixor dX12_fair_84 (e_iand dX12_fair_85 (e_iconst (v := 1) dX12_fair_86 (by decide) (e_callV cl_11 cal_X12_worthOf q_2071 q_2073 q_100 dX12_fair_87 (e_aload_n dX12_fair_90 rfl (e_iload dX12_fair_91 (e_iconst (v := 1) dX12_fair_93 (by decide) (e_callV cl_11 cal_X12_worthOf q_2071 q_2073 q_100 dX12_fair_94 (e_ic_ge (tgt := 103) dX12_fair_97 (by decide) (e_iload_n dX12_fair_103 rfl (e_if_ne (tgt := 112) dX12_fair_104 (by decide) (e_iload_n dX12_fair_112 rfl (e_istore_n dX12_fair_113 rfl (by decide) (e_iinc (v := 1) dX12_fair_114 (by decide) (by decide) (e_iinc (v := 1) dX12_fair_117 (by decide) (by decide) (e_goto (tgt := 49) dX12_fair_120 (by decide) (e_msk [true, true, true, true, true, true])))))) (e_iload dX12_fair_107 (e_goto (tgt := 113) dX12_fair_109 (by decide) (e_istore_n dX12_fair_113 rfl (by decide) (e_iinc (v := 1) dX12_fair_114 (by decide) (by decide) (e_iinc (v := 1) dX12_fair_117 (by decide) (by decide) (e_goto (tgt := 49) dX12_fair_120 (by decide) (e_msk [true, true, true, true, true, true]))))))))) (e_goto (tgt := 117) dX12_fair_100 (by decide) (e_iinc (v := 1) dX12_fair_117 (by decide) (by decide) (e_goto (tgt := 49) dX12_fair_120 (by decide) (e_msk [true, true, true, true, true, true])))))))))))))))))))))))))))))))))
set_option maxRecDepth 100000 in
theorem V_X12_fair_49 {G : GE} {d C S : Nat} {P : KI} {a : Nat → Nat → Int32} {r : Nat → Nat → Value} {N : Nat} {l0 : Nat} {l1 : Int32} {l2 : Int32} {l3 : Int32} {l4 : Int32} {l5 : Int32} (hs : ((l4 < l5 → ((¬ l1 = 0 → P l3 a r N) ∧ (l1 = 0 → P l2 a r N))) ∧ (¬ l4 < l5 → (tyK l0 = (0, 11) ∧ l0 < N ∧ Sp G d 0 0 MX12_worthOf [.ref l0, .int l5, .int 0] (a, r, N) (RI fun v4 a1 r2 n3 => (tyK l0 = (0, 11) ∧ l0 < n3 ∧ Sp G d 0 0 MX12_worthOf [.ref l0, .int (l4 &&& (l5 ^^^ (-1))), .int 0] (a1, r2, n3) (RI fun v8 a5 r6 n7 => ((v4 < v8 → E G MX12_fair (d + 1) C S 49 [.ref l0, .int l1, .int l2, .int l3, .int l4, .int (l5 + 1)] [] (a5, r6, n7) (RI P)) ∧ (¬ v4 < v8 → (tyK l0 = (0, 11) ∧ l0 < n7 ∧ Sp G d 0 0 MX12_worthOf [.ref l0, .int (l4 &&& (l5 ^^^ (-1))), .int 1] (a5, r6, n7) (RI fun v12 a9 r10 n11 => (tyK l0 = (0, 11) ∧ l0 < n11 ∧ Sp G d 0 0 MX12_worthOf [.ref l0, .int l5, .int 1] (a9, r10, n11) (RI fun v16 a13 r14 n15 => ((v16 ≤ v12 → ((¬ l2 = 0 → E G MX12_fair (d + 1) C S 49 [.ref l0, .int l1, .int (l2 + 1), .int l3, .int l4, .int (l5 + 1)] [] (a13, r14, n15) (RI P)) ∧ (l2 = 0 → E G MX12_fair (d + 1) C S 49 [.ref l0, .int l1, .int (l2 + 1), .int l5, .int l4, .int (l5 + 1)] [] (a13, r14, n15) (RI P)))) ∧ (¬ v16 ≤ v12 → E G MX12_fair (d + 1) C S 49 [.ref l0, .int l1, .int l2, .int l3, .int l4, .int (l5 + 1)] [] (a13, r14, n15) (RI P)))))))))))))))) : E G MX12_fair (d + 1) C S 49 [.ref l0, .int l1, .int l2, .int l3, .int l4, .int l5] [] (a, r, N) (RI P) := T_X12_fair_49 _ _ _ hs
theorem dX12_even_0 : decode cX12_even 0 = .ok (.aload_n 0, 1) := by decide +kernel
theorem dX12_even_1 : decode cX12_even 1 = .ok (.iconst 0, 1) := by decide +kernel
theorem dX12_even_2 : decode cX12_even 2 = .ok (.putfield 115, 3) := by decide +kernel
theorem dX12_even_5 : decode cX12_even 5 = .ok (.iconst 0, 1) := by decide +kernel
theorem dX12_even_6 : decode cX12_even 6 = .ok (.istore_n 1, 1) := by decide +kernel
theorem dX12_even_7 : decode cX12_even 7 = .ok (.iconst 1, 1) := by decide +kernel
theorem dX12_even_8 : decode cX12_even 8 = .ok (.aload_n 0, 1) := by decide +kernel
theorem dX12_even_9 : decode cX12_even 9 = .ok (.getfield 23, 3) := by decide +kernel
theorem dX12_even_12 : decode cX12_even 12 = .ok (.iconst 2, 1) := by decide +kernel
theorem dX12_even_13 : decode cX12_even 13 = .ok (.iaload, 1) := by decide +kernel
theorem dX12_even_14 : decode cX12_even 14 = .ok (.ishl, 1) := by decide +kernel
theorem dX12_even_15 : decode cX12_even 15 = .ok (.iconst 1, 1) := by decide +kernel
theorem dX12_even_16 : decode cX12_even 16 = .ok (.isub, 1) := by decide +kernel
theorem dX12_even_17 : decode cX12_even 17 = .ok (.istore_n 2, 1) := by decide +kernel
theorem dX12_even_18 : decode cX12_even 18 = .ok (.iconst 0, 1) := by decide +kernel
theorem dX12_even_19 : decode cX12_even 19 = .ok (.istore_n 3, 1) := by decide +kernel
theorem dX12_even_20 : decode cX12_even 20 = .ok (.iload_n 3, 1) := by decide +kernel
theorem dX12_even_21 : decode cX12_even 21 = .ok (.iload_n 2, 1) := by decide +kernel
theorem dX12_even_22 : decode cX12_even 22 = .ok (.if_icmp .gt 33, 3) := by decide +kernel
theorem dX12_even_25 : decode cX12_even 25 = .ok (.iload_n 1, 1) := by decide +kernel
theorem dX12_even_26 : decode cX12_even 26 = .ok (.aload_n 0, 1) := by decide +kernel
theorem dX12_even_27 : decode cX12_even 27 = .ok (.iload_n 3, 1) := by decide +kernel
theorem dX12_even_28 : decode cX12_even 28 = .ok (.iconst 0, 1) := by decide +kernel
theorem dX12_even_29 : decode cX12_even 29 = .ok (.invokevirtual 397, 3) := by decide +kernel
theorem dX12_even_32 : decode cX12_even 32 = .ok (.aload_n 0, 1) := by decide +kernel
theorem dX12_even_33 : decode cX12_even 33 = .ok (.iload_n 2, 1) := by decide +kernel
theorem dX12_even_34 : decode cX12_even 34 = .ok (.iload_n 3, 1) := by decide +kernel
theorem dX12_even_35 : decode cX12_even 35 = .ok (.iconst (-1), 1) := by decide +kernel
theorem dX12_even_36 : decode cX12_even 36 = .ok (.ixor, 1) := by decide +kernel
theorem dX12_even_37 : decode cX12_even 37 = .ok (.iand, 1) := by decide +kernel
theorem dX12_even_38 : decode cX12_even 38 = .ok (.iconst 1, 1) := by decide +kernel
theorem dX12_even_39 : decode cX12_even 39 = .ok (.invokevirtual 397, 3) := by decide +kernel
theorem dX12_even_42 : decode cX12_even 42 = .ok (.invokestatic 258, 3) := by decide +kernel
theorem dX12_even_45 : decode cX12_even 45 = .ok (.invokestatic 261, 3) := by decide +kernel
theorem dX12_even_48 : decode cX12_even 48 = .ok (.istore_n 1, 1) := by decide +kernel
theorem dX12_even_49 : decode cX12_even 49 = .ok (.iinc 3 1, 3) := by decide +kernel
theorem dX12_even_52 : decode cX12_even 52 = .ok (.goto (-32), 3) := by decide +kernel
theorem dX12_even_55 : decode cX12_even 55 = .ok (.iload_n 1, 1) := by decide +kernel
theorem dX12_even_56 : decode cX12_even 56 = .ok (.ireturn, 1) := by decide +kernel
set_option maxRecDepth 100000 in
theorem T_X12_even_0 {G : GE} {d C S : Nat} {P : KI} : Snd G MX12_even (d + 1) C S 0 (RI P) (s_aload 0 (s_iconst 0 (s_putI 11 0 (s_iconst 0 (s_istore 1 (s_iconst 1 (s_aload 0 (s_getR 11 12 (s_iconst 2 (s_iaload (s_ishl (s_iconst 1 (s_isub (s_istore 2 (s_iconst 0 (s_istore 3 (fun L st h => E G MX12_even (d + 1) C S 20 (msk [true, true, true, true] L) st h (RI P)))))))))))))))))) := (e_aload_n dX12_even_0 rfl (e_iconst (v := 0) dX12_even_1 (by decide) (e_putI rfl cl_11 (by decide) rfl rfl rfl q_1564 dX12_even_2 (e_iconst (v := 0) dX12_even_5 (by decide) (e_istore_n dX12_even_6 rfl (by decide) (e_iconst (v := 1) dX12_even_7 (by decide) (e_aload_n dX12_even_8 rfl (e_getR rfl cl_11 (by decide) rfl q_1576 dX12_even_9 (e_iconst (v := 2) dX12_even_12 (by decide) (e_iaload dX12_even_13 (e_ishl dX12_even_14 (e_iconst (v := 1) dX12_even_15 (by decide) (e_isub dX12_even_16 (e_istore_n dX12_even_17 rfl (by decide) (e_iconst (v := 0) dX12_even_18 (by decide) (e_istore_n dX12_even_19 rfl (by decide) (e_msk [true, true, true, true])))))))))))))))))
set_option maxRecDepth 100000 in
theorem V_X12_even_0 {G : GE} {d : Nat} {P : KI} {a : Nat → Nat → Int32} {r : Nat → Nat → Value} {N : Nat} {l0 : Nat} (hs : (tyK l0 = (0, 11) ∧ l0 < N ∧ ∀ a1, a1 = u2 a l0 0 0 → (tyK l0 = (0, 11) ∧ l0 < N ∧ ∃ q2, r l0 12 = .ref q2 ∧ ((tyK q2).1 = 1 ∧ q2 < N ∧ vp_in 2 (tyK q2).2 ∧ E G MX12_even (d + 1) 0 0 20 [.ref l0, .int 0, .int (((1 : Int32) <<< ((a1 q2 (2 : Int32).toNatClampNeg) &&& 31)) - 1), .int 0] [] (a1, r, N) (RI P))))) : Sp G (d + 1) 0 0 MX12_even [.ref l0] (a, r, N) (RI P) := Sp.mk (mc := 0) (ms := 0) [.ref l0, .null, .null, .null] rfl rfl rfl rfl (T_X12_even_0 (C := 0) (S := 0) _ _ _ hs)
set_option maxRecDepth 100000 in
theorem T_X12_even_20 {G : GE} {d C S : Nat} {P : KI} : Snd G MX12_even (d + 1) C S 20 (RI P) (s_iload 3 (s_iload 2 (s_ic_gt (s_iload 1 (s_ireturn P)) (s_iload 1 (s_aload 0 (s_iload 3 (s_iconst 0 (s_callV G d MX12_worthOf 2 11 (s_aload 0 (s_iload 2 (s_iload 3 (s_iconst (-1) (s_ixor (s_iand (s_iconst 1 (s_callV G d MX12_worthOf 2 11 (s_call G d MX12_less 2 (s_call G d MX12_more 2 (s_istore 1 (s_iinc 3 1 (fun L st h => E G MX12_even (d + 1) C S 20 (msk [true, true, true, true] L) st h (RI P)))))))))))))))))))))) := (e_iload_n dX12_even_20 rfl (e_iload_n dX12_even_21 rfl (e_ic_gt (tgt := 55) dX12_even_22 (by decide) (e_iload_n dX12_even_55 rfl (e_ireturn rfl dX12_even_56)) (e_iload_n dX12_even_25 rfl (e_aload_n dX12_even_26 rfl (e_iload_n dX12_even_27 rfl (e_iconst (v := 0) dX12_even_28 (by decide) (e_callV cl_11 cal_X12_worthOf q_2071 q_2073 q_100 dX12_even_29 (e_aload_n dX12_even_32 rfl (e_iload_n dX12_even_33 rfl (e_iload_n dX12_even_34 rfl (e_iconst (v := (-1)) dX12_even_35 (by decide) (e_ixor dX12_even_36 (e_iand dX12_even_37 (e_iconst (v := 1) dX12_even_38 (by decide) (e_callV cl_11 cal_X12_worthOf q_2071 q_2073 q_100 dX12_even_39 (e_callS cal_X12_less q_1903 q_1904 dX12_even_42 (e_callS cal_X12_more q_1906 q_1907 dX12_even_45 (e_istore_n dX12_even_48 rfl (by decide) (e_iinc (v := 1) dX12_even_49 (by decide) (by decide) (e_goto (tgt := 20) dX12_even_52 (by decide) (e_msk [true, true, true, true]))))))))))))))))))))))
set_option maxRecDepth 100000 in
theorem V_X12_even_20 {G : GE} {d C S : Nat} {P : KI} {a : Nat → Nat → Int32} {r : Nat → Nat → Value} {N : Nat} {l0 : Nat} {l1 : Int32} {l2 : Int32} {l3 : Int32} (hs : ((l2 < l3 → P l1 a r N) ∧ (¬ l2 < l3 → (tyK l0 = (0, 11) ∧ l0 < N ∧ Sp G d 0 0 MX12_worthOf [.ref l0, .int l3, .int 0] (a, r, N) (RI fun v4 a1 r2 n3 => (tyK l0 = (0, 11) ∧ l0 < n3 ∧ Sp G d 0 0 MX12_worthOf [.ref l0, .int (l2 &&& (l3 ^^^ (-1))), .int 1] (a1, r2, n3) (RI fun v8 a5 r6 n7 => Sp G d 0 0 MX12_less [.int v4, .int v8] (a5, r6, n7) (RI fun v12 a9 r10 n11 => Sp G d 0 0 MX12_more [.int l1, .int v12] (a9, r10, n11) (RI fun v16 a13 r14 n15 => E G MX12_even (d + 1) C S 20 [.ref l0, .int v16, .int l2, .int (l3 + 1)] [] (a13, r14, n15) (RI P)))))))))) : E G MX12_even (d + 1) C S 20 [.ref l0, .int l1, .int l2, .int l3] [] (a, r, N) (RI P) := T_X12_even_20 _ _ _ hs
theorem dX12_isPosted_0 : decode cX12_isPosted 0 = .ok (.iconst 0, 1) := by decide +kernel
theorem dX12_isPosted_1 : decode cX12_isPosted 1 = .ok (.istore_n 3, 1) := by decide +kernel
theorem dX12_isPosted_2 : decode cX12_isPosted 2 = .ok (.iload_n 3, 1) := by decide +kernel
theorem dX12_isPosted_3 : decode cX12_isPosted 3 = .ok (.aload_n 0, 1) := by decide +kernel
theorem dX12_isPosted_4 : decode cX12_isPosted 4 = .ok (.getfield 218, 3) := by decide +kernel
theorem dX12_isPosted_7 : decode cX12_isPosted 7 = .ok (.if_icmp .ge 36, 3) := by decide +kernel
theorem dX12_isPosted_10 : decode cX12_isPosted 10 = .ok (.aload_n 0, 1) := by decide +kernel
theorem dX12_isPosted_11 : decode cX12_isPosted 11 = .ok (.iload_n 1, 1) := by decide +kernel
theorem dX12_isPosted_12 : decode cX12_isPosted 12 = .ok (.aload_n 0, 1) := by decide +kernel
theorem dX12_isPosted_13 : decode cX12_isPosted 13 = .ok (.getfield 64, 3) := by decide +kernel
theorem dX12_isPosted_16 : decode cX12_isPosted 16 = .ok (.iload_n 3, 1) := by decide +kernel
theorem dX12_isPosted_17 : decode cX12_isPosted 17 = .ok (.aaload, 1) := by decide +kernel
theorem dX12_isPosted_18 : decode cX12_isPosted 18 = .ok (.iconst 0, 1) := by decide +kernel
theorem dX12_isPosted_19 : decode cX12_isPosted 19 = .ok (.iaload, 1) := by decide +kernel
theorem dX12_isPosted_20 : decode cX12_isPosted 20 = .ok (.iload_n 2, 1) := by decide +kernel
theorem dX12_isPosted_21 : decode cX12_isPosted 21 = .ok (.invokevirtual 346, 3) := by decide +kernel
theorem dX12_isPosted_24 : decode cX12_isPosted 24 = .ok (.aload_n 0, 1) := by decide +kernel
theorem dX12_isPosted_25 : decode cX12_isPosted 25 = .ok (.getfield 64, 3) := by decide +kernel
theorem dX12_isPosted_28 : decode cX12_isPosted 28 = .ok (.iload_n 3, 1) := by decide +kernel
theorem dX12_isPosted_29 : decode cX12_isPosted 29 = .ok (.aaload, 1) := by decide +kernel
theorem dX12_isPosted_30 : decode cX12_isPosted 30 = .ok (.iconst 1, 1) := by decide +kernel
theorem dX12_isPosted_31 : decode cX12_isPosted 31 = .ok (.iaload, 1) := by decide +kernel
theorem dX12_isPosted_32 : decode cX12_isPosted 32 = .ok (.if_icmp .eq 5, 3) := by decide +kernel
theorem dX12_isPosted_35 : decode cX12_isPosted 35 = .ok (.iconst 0, 1) := by decide +kernel
theorem dX12_isPosted_36 : decode cX12_isPosted 36 = .ok (.ireturn, 1) := by decide +kernel
theorem dX12_isPosted_37 : decode cX12_isPosted 37 = .ok (.iinc 3 1, 3) := by decide +kernel
theorem dX12_isPosted_40 : decode cX12_isPosted 40 = .ok (.goto (-38), 3) := by decide +kernel
theorem dX12_isPosted_43 : decode cX12_isPosted 43 = .ok (.iconst 1, 1) := by decide +kernel
theorem dX12_isPosted_44 : decode cX12_isPosted 44 = .ok (.ireturn, 1) := by decide +kernel
set_option maxRecDepth 100000 in
theorem T_X12_isPosted_0 {G : GE} {d C S : Nat} {P : KI} : Snd G MX12_isPosted (d + 1) C S 0 (RI P) (s_iconst 0 (s_istore 3 (fun L st h => E G MX12_isPosted (d + 1) C S 2 (msk [true, true, true, true] L) st h (RI P)))) := (e_iconst (v := 0) dX12_isPosted_0 (by decide) (e_istore_n dX12_isPosted_1 rfl (by decide) (e_msk [true, true, true, true])))
set_option maxRecDepth 100000 in
theorem V_X12_isPosted_0 {G : GE} {d : Nat} {P : KI} {a : Nat → Nat → Int32} {r : Nat → Nat → Value} {N : Nat} {l0 : Nat} {l1 : Int32} {l2 : Int32} (hs : E G MX12_isPosted (d + 1) 0 0 2 [.ref l0, .int l1, .int l2, .int 0] [] (a, r, N) (RI P)) : Sp G (d + 1) 0 0 MX12_isPosted [.ref l0, .int l1, .int l2] (a, r, N) (RI P) := Sp.mk (mc := 0) (ms := 0) [.ref l0, .int l1, .int l2, .null] rfl rfl rfl rfl (T_X12_isPosted_0 (C := 0) (S := 0) _ _ _ hs)
set_option maxRecDepth 100000 in
theorem T_X12_isPosted_2 {G : GE} {d C S : Nat} {P : KI} : Snd G MX12_isPosted (d + 1) C S 2 (RI P) (s_iload 3 (s_aload 0 (s_getI 11 38 (s_ic_ge (s_iconst 1 (s_zreturn P)) (s_aload 0 (s_iload 1 (s_aload 0 (s_getR 11 27 (s_iload 3 (s_aaload (s_iconst 0 (s_iaload (s_iload 2 (s_callV G d MX12_houseOf 3 11 (s_aload 0 (s_getR 11 27 (s_iload 3 (s_aaload (s_iconst 1 (s_iaload (s_ic_eq (s_iinc 3 1 (fun L st h => E G MX12_isPosted (d + 1) C S 2 (msk [true, true, true, true] L) st h (RI P))) (s_iconst 0 (s_zreturn P))))))))))))))))))))))) := (e_iload_n dX12_isPosted_2 rfl (e_aload_n dX12_isPosted_3 rfl (e_getI rfl cl_11 (by decide) rfl q_1602 dX12_isPosted_4 (e_ic_ge (tgt := 43) dX12_isPosted_7 (by decide) (e_iconst (v := 1) dX12_isPosted_43 (by decide) (e_zreturn rfl dX12_isPosted_44)) (e_aload_n dX12_isPosted_10 rfl (e_iload_n dX12_isPosted_11 rfl (e_aload_n dX12_isPosted_12 rfl (e_getR rfl cl_11 (by decide) rfl q_1591 dX12_isPosted_13 (e_iload_n dX12_isPosted_16 rfl (e_aaload dX12_isPosted_17 (e_iconst (v := 0) dX12_isPosted_18 (by decide) (e_iaload dX12_isPosted_19 (e_iload_n dX12_isPosted_20 rfl (e_callV cl_11 cal_X12_houseOf q_1976 q_1978 q_89 dX12_isPosted_21 (e_aload_n dX12_isPosted_24 rfl (e_getR rfl cl_11 (by decide) rfl q_1591 dX12_isPosted_25 (e_iload_n dX12_isPosted_28 rfl (e_aaload dX12_isPosted_29 (e_iconst (v := 1) dX12_isPosted_30 (by decide) (e_iaload dX12_isPosted_31 (e_ic_eq (tgt := 37) dX12_isPosted_32 (by decide) (e_iinc (v := 1) dX12_isPosted_37 (by decide) (by decide) (e_goto (tgt := 2) dX12_isPosted_40 (by decide) (e_msk [true, true, true, true]))) (e_iconst (v := 0) dX12_isPosted_35 (by decide) (e_zreturn rfl dX12_isPosted_36)))))))))))))))))))))))
set_option maxRecDepth 100000 in
theorem V_X12_isPosted_2 {G : GE} {d C S : Nat} {P : KI} {a : Nat → Nat → Int32} {r : Nat → Nat → Value} {N : Nat} {l0 : Nat} {l1 : Int32} {l2 : Int32} {l3 : Int32} (hs : (tyK l0 = (0, 11) ∧ l0 < N ∧ (((a l0 38) ≤ l3 → (bz 1 ∧ P 1 a r N)) ∧ (¬ (a l0 38) ≤ l3 → (tyK l0 = (0, 11) ∧ l0 < N ∧ ∃ q1, r l0 27 = .ref q1 ∧ ((tyK q1).1 = 3 ∧ q1 < N ∧ vp_in l3 (tyK q1).2 ∧ ((tyK (q1 + 1 + (l3 : Int32).toNatClampNeg)).1 = 1 ∧ (q1 + 1 + (l3 : Int32).toNatClampNeg) < N ∧ vp_in 0 (tyK (q1 + 1 + (l3 : Int32).toNatClampNeg)).2 ∧ (tyK l0 = (0, 11) ∧ l0 < N ∧ Sp G d 0 0 MX12_houseOf [.ref l0, .int l1, .int (a (q1 + 1 + (l3 : Int32).toNatClampNeg) (0 : Int32).toNatClampNeg), .int l2] (a, r, N) (RI fun v5 a2 r3 n4 => (tyK l0 = (0, 11) ∧ l0 < n4 ∧ ∃ q6, r3 l0 27 = .ref q6 ∧ ((tyK q6).1 = 3 ∧ q6 < n4 ∧ vp_in l3 (tyK q6).2 ∧ ((tyK (q6 + 1 + (l3 : Int32).toNatClampNeg)).1 = 1 ∧ (q6 + 1 + (l3 : Int32).toNatClampNeg) < n4 ∧ vp_in 1 (tyK (q6 + 1 + (l3 : Int32).toNatClampNeg)).2 ∧ ((v5 = (a2 (q6 + 1 + (l3 : Int32).toNatClampNeg) (1 : Int32).toNatClampNeg) → E G MX12_isPosted (d + 1) C S 2 [.ref l0, .int l1, .int l2, .int (l3 + 1)] [] (a2, r3, n4) (RI P)) ∧ (¬ v5 = (a2 (q6 + 1 + (l3 : Int32).toNatClampNeg) (1 : Int32).toNatClampNeg) → (bz 0 ∧ P 0 a2 r3 n4))))))))))))))) : E G MX12_isPosted (d + 1) C S 2 [.ref l0, .int l1, .int l2, .int l3] [] (a, r, N) (RI P) := T_X12_isPosted_2 _ _ _ hs
theorem dX12_matesOf_0 : decode cX12_matesOf 0 = .ok (.aload_n 0, 1) := by decide +kernel
theorem dX12_matesOf_1 : decode cX12_matesOf 1 = .ok (.iload_n 1, 1) := by decide +kernel
theorem dX12_matesOf_2 : decode cX12_matesOf 2 = .ok (.iload_n 2, 1) := by decide +kernel
theorem dX12_matesOf_3 : decode cX12_matesOf 3 = .ok (.invokevirtual 400, 3) := by decide +kernel
theorem dX12_matesOf_6 : decode cX12_matesOf 6 = .ok (.ifCond .ne 5, 3) := by decide +kernel
theorem dX12_matesOf_9 : decode cX12_matesOf 9 = .ok (.iconst 0, 1) := by decide +kernel
theorem dX12_matesOf_10 : decode cX12_matesOf 10 = .ok (.ireturn, 1) := by decide +kernel
theorem dX12_matesOf_11 : decode cX12_matesOf 11 = .ok (.iload_n 2, 1) := by decide +kernel
theorem dX12_matesOf_12 : decode cX12_matesOf 12 = .ok (.ifCond .ne 5, 3) := by decide +kernel
theorem dX12_matesOf_15 : decode cX12_matesOf 15 = .ok (.iconst 1, 1) := by decide +kernel
theorem dX12_matesOf_16 : decode cX12_matesOf 16 = .ok (.ireturn, 1) := by decide +kernel
theorem dX12_matesOf_17 : decode cX12_matesOf 17 = .ok (.iconst 0, 1) := by decide +kernel
theorem dX12_matesOf_18 : decode cX12_matesOf 18 = .ok (.istore_n 3, 1) := by decide +kernel
theorem dX12_matesOf_19 : decode cX12_matesOf 19 = .ok (.iconst 0, 1) := by decide +kernel
theorem dX12_matesOf_20 : decode cX12_matesOf 20 = .ok (.istore 4, 2) := by decide +kernel
theorem dX12_matesOf_22 : decode cX12_matesOf 22 = .ok (.iload 4, 2) := by decide +kernel
theorem dX12_matesOf_24 : decode cX12_matesOf 24 = .ok (.aload_n 0, 1) := by decide +kernel
theorem dX12_matesOf_25 : decode cX12_matesOf 25 = .ok (.getfield 23, 3) := by decide +kernel
theorem dX12_matesOf_28 : decode cX12_matesOf 28 = .ok (.iconst 1, 1) := by decide +kernel
theorem dX12_matesOf_29 : decode cX12_matesOf 29 = .ok (.iaload, 1) := by decide +kernel
theorem dX12_matesOf_30 : decode cX12_matesOf 30 = .ok (.if_icmp .ge 53, 3) := by decide +kernel
theorem dX12_matesOf_33 : decode cX12_matesOf 33 = .ok (.iload_n 3, 1) := by decide +kernel
theorem dX12_matesOf_34 : decode cX12_matesOf 34 = .ok (.iload_n 2, 1) := by decide +kernel
theorem dX12_matesOf_35 : decode cX12_matesOf 35 = .ok (.iconst 1, 1) := by decide +kernel
theorem dX12_matesOf_36 : decode cX12_matesOf 36 = .ok (.if_icmp .ne 17, 3) := by decide +kernel
theorem dX12_matesOf_39 : decode cX12_matesOf 39 = .ok (.aload_n 0, 1) := by decide +kernel
theorem dX12_matesOf_40 : decode cX12_matesOf 40 = .ok (.aload_n 0, 1) := by decide +kernel
theorem dX12_matesOf_41 : decode cX12_matesOf 41 = .ok (.getfield 79, 3) := by decide +kernel
theorem dX12_matesOf_44 : decode cX12_matesOf 44 = .ok (.iload_n 1, 1) := by decide +kernel
theorem dX12_matesOf_45 : decode cX12_matesOf 45 = .ok (.iload 4, 2) := by decide +kernel
theorem dX12_matesOf_47 : decode cX12_matesOf 47 = .ok (.invokevirtual 297, 3) := by decide +kernel
theorem dX12_matesOf_50 : decode cX12_matesOf 50 = .ok (.goto 14, 3) := by decide +kernel
theorem dX12_matesOf_53 : decode cX12_matesOf 53 = .ok (.aload_n 0, 1) := by decide +kernel
theorem dX12_matesOf_54 : decode cX12_matesOf 54 = .ok (.aload_n 0, 1) := by decide +kernel
theorem dX12_matesOf_55 : decode cX12_matesOf 55 = .ok (.getfield 79, 3) := by decide +kernel
theorem dX12_matesOf_58 : decode cX12_matesOf 58 = .ok (.iload 4, 2) := by decide +kernel
theorem dX12_matesOf_60 : decode cX12_matesOf 60 = .ok (.iload_n 1, 1) := by decide +kernel
theorem dX12_matesOf_61 : decode cX12_matesOf 61 = .ok (.invokevirtual 297, 3) := by decide +kernel
theorem dX12_matesOf_64 : decode cX12_matesOf 64 = .ok (.ifCond .ne 10, 3) := by decide +kernel
theorem dX12_matesOf_67 : decode cX12_matesOf 67 = .ok (.iconst 1, 1) := by decide +kernel
theorem dX12_matesOf_68 : decode cX12_matesOf 68 = .ok (.iload 4, 2) := by decide +kernel
theorem dX12_matesOf_70 : decode cX12_matesOf 70 = .ok (.ishl, 1) := by decide +kernel
theorem dX12_matesOf_71 : decode cX12_matesOf 71 = .ok (.goto 4, 3) := by decide +kernel
theorem dX12_matesOf_74 : decode cX12_matesOf 74 = .ok (.iconst 0, 1) := by decide +kernel
theorem dX12_matesOf_75 : decode cX12_matesOf 75 = .ok (.ior, 1) := by decide +kernel
theorem dX12_matesOf_76 : decode cX12_matesOf 76 = .ok (.istore_n 3, 1) := by decide +kernel
theorem dX12_matesOf_77 : decode cX12_matesOf 77 = .ok (.iinc 4 1, 3) := by decide +kernel
theorem dX12_matesOf_80 : decode cX12_matesOf 80 = .ok (.goto (-58), 3) := by decide +kernel
theorem dX12_matesOf_83 : decode cX12_matesOf 83 = .ok (.iload_n 3, 1) := by decide +kernel
theorem dX12_matesOf_84 : decode cX12_matesOf 84 = .ok (.ireturn, 1) := by decide +kernel
set_option maxRecDepth 100000 in
theorem T_X12_matesOf_0 {G : GE} {d C S : Nat} {P : KI} : Snd G MX12_matesOf (d + 1) C S 0 (RI P) (s_aload 0 (s_iload 1 (s_iload 2 (s_callV G d MX12_isPosted 2 11 (s_if_ne (s_iload 2 (s_if_ne (s_iconst 0 (s_istore 3 (s_iconst 0 (s_istore 4 (fun L st h => E G MX12_matesOf (d + 1) C S 22 (msk [true, true, true, true, true] L) st h (RI P)))))) (s_iconst 1 (s_ireturn P)))) (s_iconst 0 (s_ireturn P))))))) := (e_aload_n dX12_matesOf_0 rfl (e_iload_n dX12_matesOf_1 rfl (e_iload_n dX12_matesOf_2 rfl (e_callV cl_11 cal_X12_isPosted q_2087 q_2089 q_102 dX12_matesOf_3 (e_if_ne (tgt := 11) dX12_matesOf_6 (by decide) (e_iload_n dX12_matesOf_11 rfl (e_if_ne (tgt := 17) dX12_matesOf_12 (by decide) (e_iconst (v := 0) dX12_matesOf_17 (by decide) (e_istore_n dX12_matesOf_18 rfl (by decide) (e_iconst (v := 0) dX12_matesOf_19 (by decide) (e_istore dX12_matesOf_20 (by decide) (e_msk [true, true, true, true, true]))))) (e_iconst (v := 1) dX12_matesOf_15 (by decide) (e_ireturn rfl dX12_matesOf_16)))) (e_iconst (v := 0) dX12_matesOf_9 (by decide) (e_ireturn rfl dX12_matesOf_10)))))))
set_option maxRecDepth 100000 in
theorem V_X12_matesOf_0 {G : GE} {d : Nat} {P : KI} {a : Nat → Nat → Int32} {r : Nat → Nat → Value} {N : Nat} {l0 : Nat} {l1 : Int32} {l2 : Int32} (hs : (tyK l0 = (0, 11) ∧ l0 < N ∧ Sp G d 0 0 MX12_isPosted [.ref l0, .int l1, .int l2] (a, r, N) (RI fun v4 a1 r2 n3 => ((¬ v4 = 0 → ((¬ l2 = 0 → E G MX12_matesOf (d + 1) 0 0 22 [.ref l0, .int l1, .int l2, .int 0, .int 0] [] (a1, r2, n3) (RI P)) ∧ (l2 = 0 → P 1 a1 r2 n3))) ∧ (v4 = 0 → P 0 a1 r2 n3))))) : Sp G (d + 1) 0 0 MX12_matesOf [.ref l0, .int l1, .int l2] (a, r, N) (RI P) := Sp.mk (mc := 0) (ms := 0) [.ref l0, .int l1, .int l2, .null, .null] rfl rfl rfl rfl (T_X12_matesOf_0 (C := 0) (S := 0) _ _ _ hs)
set_option maxRecDepth 100000 in
theorem T_X12_matesOf_22 {G : GE} {d C S : Nat} {P : KI} : Snd G MX12_matesOf (d + 1) C S 22 (RI P) (s_iload 4 (s_aload 0 (s_getR 11 12 (s_iconst 1 (s_iaload (s_ic_ge (s_iload 3 (s_ireturn P)) (s_iload 3 (s_iload 2 (s_iconst 1 (s_ic_ne (s_aload 0 (s_aload 0 (s_getR 11 33 (s_iload 4 (s_iload 1 (s_callV G d MX12_bannsOf 3 11 (s_if_ne (s_iconst 0 (s_ior (s_istore 3 (s_iinc 4 1 (fun L st h => E G MX12_matesOf (d + 1) C S 22 (msk [true, true, true, true, true] L) st h (RI P)))))) (s_iconst 1 (s_iload 4 (s_ishl (s_ior (s_istore 3 (s_iinc 4 1 (fun L st h => E G MX12_matesOf (d + 1) C S 22 (msk [true, true, true, true, true] L) st h (RI P))))))))))))))) (s_aload 0 (s_aload 0 (s_getR 11 33 (s_iload 1 (s_iload 4 (s_callV G d MX12_bannsOf 3 11 (s_if_ne (s_iconst 0 (s_ior (s_istore 3 (s_iinc 4 1 (fun L st h => E G MX12_matesOf (d + 1) C S 22 (msk [true, true, true, true, true] L) st h (RI P)))))) (s_iconst 1 (s_iload 4 (s_ishl (s_ior (s_istore 3 (s_iinc 4 1 (fun L st h => E G MX12_matesOf (d + 1) C S 22 (msk [true, true, true, true, true] L) st h (RI P))))))))))))))))))))))))) := (e_iload dX12_matesOf_22 (e_aload_n dX12_matesOf_24 rfl (e_getR rfl cl_11 (by decide) rfl q_1576 dX12_matesOf_25 (e_iconst (v := 1) dX12_matesOf_28 (by decide) (e_iaload dX12_matesOf_29 (e_ic_ge (tgt := 83) dX12_matesOf_30 (by decide) (e_iload_n dX12_matesOf_83 rfl (e_ireturn rfl dX12_matesOf_84)) (e_iload_n dX12_matesOf_33 rfl (e_iload_n dX12_matesOf_34 rfl (e_iconst (v := 1) dX12_matesOf_35 (by decide) (e_ic_ne (tgt := 53) dX12_matesOf_36 (by decide) (e_aload_n dX12_matesOf_53 rfl (e_aload_n dX12_matesOf_54 rfl (e_getR rfl cl_11 (by decide) rfl q_1597 dX12_matesOf_55 (e_iload dX12_matesOf_58 (e_iload_n dX12_matesOf_60 rfl (e_callV cl_11 cal_X12_bannsOf q_1881 q_1883 q_79 dX12_matesOf_61 (e_if_ne (tgt := 74) dX12_matesOf_64 (by decide) (e_iconst (v := 0) dX12_matesOf_74 (by decide) (e_ior dX12_matesOf_75 (e_istore_n dX12_matesOf_76 rfl (by decide) (e_iinc (v := 1) dX12_matesOf_77 (by decide) (by decide) (e_goto (tgt := 22) dX12_matesOf_80 (by decide) (e_msk [true, true, true, true, true])))))) (e_iconst (v := 1) dX12_matesOf_67 (by decide) (e_iload dX12_matesOf_68 (e_ishl dX12_matesOf_70 (e_goto (tgt := 75) dX12_matesOf_71 (by decide) (e_ior dX12_matesOf_75 (e_istore_n dX12_matesOf_76 rfl (by decide) (e_iinc (v := 1) dX12_matesOf_77 (by decide) (by decide) (e_goto (tgt := 22) dX12_matesOf_80 (by decide) (e_msk [true, true, true, true, true])))))))))))))))) (e_aload_n dX12_matesOf_39 rfl (e_aload_n dX12_matesOf_40 rfl (e_getR rfl cl_11 (by decide) rfl q_1597 dX12_matesOf_41 (e_iload_n dX12_matesOf_44 rfl (e_iload dX12_matesOf_45 (e_callV cl_11 cal_X12_bannsOf q_1881 q_1883 q_79 dX12_matesOf_47 (e_goto (tgt := 64) dX12_matesOf_50 (by decide) (e_if_ne (tgt := 74) dX12_matesOf_64 (by decide) (e_iconst (v := 0) dX12_matesOf_74 (by decide) (e_ior dX12_matesOf_75 (e_istore_n dX12_matesOf_76 rfl (by decide) (e_iinc (v := 1) dX12_matesOf_77 (by decide) (by decide) (e_goto (tgt := 22) dX12_matesOf_80 (by decide) (e_msk [true, true, true, true, true])))))) (e_iconst (v := 1) dX12_matesOf_67 (by decide) (e_iload dX12_matesOf_68 (e_ishl dX12_matesOf_70 (e_goto (tgt := 75) dX12_matesOf_71 (by decide) (e_ior dX12_matesOf_75 (e_istore_n dX12_matesOf_76 rfl (by decide) (e_iinc (v := 1) dX12_matesOf_77 (by decide) (by decide) (e_goto (tgt := 22) dX12_matesOf_80 (by decide) (e_msk [true, true, true, true, true])))))))))))))))))))))))))))
set_option maxRecDepth 100000 in
theorem V_X12_matesOf_22 {G : GE} {d C S : Nat} {P : KI} {a : Nat → Nat → Int32} {r : Nat → Nat → Value} {N : Nat} {l0 : Nat} {l1 : Int32} {l2 : Int32} {l3 : Int32} {l4 : Int32} (hs : (tyK l0 = (0, 11) ∧ l0 < N ∧ ∃ q1, r l0 12 = .ref q1 ∧ ((tyK q1).1 = 1 ∧ q1 < N ∧ vp_in 1 (tyK q1).2 ∧ (((a q1 (1 : Int32).toNatClampNeg) ≤ l4 → P l3 a r N) ∧ (¬ (a q1 (1 : Int32).toNatClampNeg) ≤ l4 → ((¬ l2 = 1 → (tyK l0 = (0, 11) ∧ l0 < N ∧ ∃ q2, r l0 33 = .ref q2 ∧ (tyK l0 = (0, 11) ∧ l0 < N ∧ Sp G d 0 0 MX12_bannsOf [.ref l0, .ref q2, .int l4, .int l1] (a, r, N) (RI fun v6 a3 r4 n5 => ((¬ v6 = 0 → E G MX12_matesOf (d + 1) C S 22 [.ref l0, .int l1, .int l2, .int (l3 ||| 0), .int (l4 + 1)] [] (a3, r4, n5) (RI P)) ∧ (v6 = 0 → E G MX12_matesOf (d + 1) C S 22 [.ref l0, .int l1, .int l2, .int (l3 ||| ((1 : Int32) <<< (l4 &&& 31))), .int (l4 + 1)] [] (a3, r4, n5) (RI P))))))) ∧ (l2 = 1 → (tyK l0 = (0, 11) ∧ l0 < N ∧ ∃ q7, r l0 33 = .ref q7 ∧ (tyK l0 = (0, 11) ∧ l0 < N ∧ Sp G d 0 0 MX12_bannsOf [.ref l0, .ref q7, .int l1, .int l4] (a, r, N) (RI fun v11 a8 r9 n10 => ((¬ v11 = 0 → E G MX12_matesOf (d + 1) C S 22 [.ref l0, .int l1, .int l2, .int (l3 ||| 0), .int (l4 + 1)] [] (a8, r9, n10) (RI P)) ∧ (v11 = 0 → E G MX12_matesOf (d + 1) C S 22 [.ref l0, .int l1, .int l2, .int (l3 ||| ((1 : Int32) <<< (l4 &&& 31))), .int (l4 + 1)] [] (a8, r9, n10) (RI P))))))))))))) : E G MX12_matesOf (d + 1) C S 22 [.ref l0, .int l1, .int l2, .int l3, .int l4] [] (a, r, N) (RI P) := T_X12_matesOf_22 _ _ _ hs
theorem dX12_ones_0 : decode cX12_ones 0 = .ok (.iconst 0, 1) := by decide +kernel
theorem dX12_ones_1 : decode cX12_ones 1 = .ok (.istore_n 1, 1) := by decide +kernel
theorem dX12_ones_2 : decode cX12_ones 2 = .ok (.iconst 0, 1) := by decide +kernel
theorem dX12_ones_3 : decode cX12_ones 3 = .ok (.istore_n 2, 1) := by decide +kernel
theorem dX12_ones_4 : decode cX12_ones 4 = .ok (.iload_n 2, 1) := by decide +kernel
theorem dX12_ones_5 : decode cX12_ones 5 = .ok (.bipush 8, 2) := by decide +kernel
theorem dX12_ones_7 : decode cX12_ones 7 = .ok (.if_icmp .ge 17, 3) := by decide +kernel
theorem dX12_ones_10 : decode cX12_ones 10 = .ok (.iload_n 1, 1) := by decide +kernel
theorem dX12_ones_11 : decode cX12_ones 11 = .ok (.iload_n 0, 1) := by decide +kernel
theorem dX12_ones_12 : decode cX12_ones 12 = .ok (.iload_n 2, 1) := by decide +kernel
theorem dX12_ones_13 : decode cX12_ones 13 = .ok (.ishr, 1) := by decide +kernel
theorem dX12_ones_14 : decode cX12_ones 14 = .ok (.iconst 1, 1) := by decide +kernel
theorem dX12_ones_15 : decode cX12_ones 15 = .ok (.iand, 1) := by decide +kernel
theorem dX12_ones_16 : decode cX12_ones 16 = .ok (.iadd, 1) := by decide +kernel
theorem dX12_ones_17 : decode cX12_ones 17 = .ok (.istore_n 1, 1) := by decide +kernel
theorem dX12_ones_18 : decode cX12_ones 18 = .ok (.iinc 2 1, 3) := by decide +kernel
theorem dX12_ones_21 : decode cX12_ones 21 = .ok (.goto (-17), 3) := by decide +kernel
theorem dX12_ones_24 : decode cX12_ones 24 = .ok (.iload_n 1, 1) := by decide +kernel
theorem dX12_ones_25 : decode cX12_ones 25 = .ok (.ireturn, 1) := by decide +kernel
set_option maxRecDepth 100000 in
theorem T_X12_ones_0 {G : GE} {d C S : Nat} {P : KI} : Snd G MX12_ones d C S 0 (RI P) (s_iconst 0 (s_istore 1 (s_iconst 0 (s_istore 2 (fun L st h => E G MX12_ones d C S 4 (msk [true, true, true] L) st h (RI P)))))) := (e_iconst (v := 0) dX12_ones_0 (by decide) (e_istore_n dX12_ones_1 rfl (by decide) (e_iconst (v := 0) dX12_ones_2 (by decide) (e_istore_n dX12_ones_3 rfl (by decide) (e_msk [true, true, true])))))
set_option maxRecDepth 100000 in
theorem V_X12_ones_0 {G : GE} {d : Nat} {P : KI} {a : Nat → Nat → Int32} {r : Nat → Nat → Value} {N : Nat} {l0 : Int32} (hs : E G MX12_ones d 0 0 4 [.int l0, .int 0, .int 0] [] (a, r, N) (RI P)) : Sp G d 0 0 MX12_ones [.int l0] (a, r, N) (RI P) := Sp.mk (mc := 0) (ms := 0) [.int l0, .null, .null] rfl rfl rfl rfl (T_X12_ones_0 (C := 0) (S := 0) _ _ _ hs)
set_option maxRecDepth 100000 in
theorem T_X12_ones_4 {G : GE} {d C S : Nat} {P : KI} : Snd G MX12_ones d C S 4 (RI P) (s_iload 2 (s_iconst 8 (s_ic_ge (s_iload 1 (s_ireturn P)) (s_iload 1 (s_iload 0 (s_iload 2 (s_ishr (s_iconst 1 (s_iand (s_iadd (s_istore 1 (s_iinc 2 1 (fun L st h => E G MX12_ones d C S 4 (msk [true, true, true] L) st h (RI P)))))))))))))) := (e_iload_n dX12_ones_4 rfl (e_bipush (v := 8) dX12_ones_5 (by decide) (e_ic_ge (tgt := 24) dX12_ones_7 (by decide) (e_iload_n dX12_ones_24 rfl (e_ireturn rfl dX12_ones_25)) (e_iload_n dX12_ones_10 rfl (e_iload_n dX12_ones_11 rfl (e_iload_n dX12_ones_12 rfl (e_ishr dX12_ones_13 (e_iconst (v := 1) dX12_ones_14 (by decide) (e_iand dX12_ones_15 (e_iadd dX12_ones_16 (e_istore_n dX12_ones_17 rfl (by decide) (e_iinc (v := 1) dX12_ones_18 (by decide) (by decide) (e_goto (tgt := 4) dX12_ones_21 (by decide) (e_msk [true, true, true]))))))))))))))
set_option maxRecDepth 100000 in
theorem V_X12_ones_4 {G : GE} {d C S : Nat} {P : KI} {a : Nat → Nat → Int32} {r : Nat → Nat → Value} {N : Nat} {l0 : Int32} {l1 : Int32} {l2 : Int32} (hs : ((8 ≤ l2 → P l1 a r N) ∧ (¬ 8 ≤ l2 → E G MX12_ones d C S 4 [.int l0, .int (l1 + ((l0 >>> (l2 &&& 31)) &&& 1)), .int (l2 + 1)] [] (a, r, N) (RI P)))) : E G MX12_ones d C S 4 [.int l0, .int l1, .int l2] [] (a, r, N) (RI P) := T_X12_ones_4 _ _ _ hs
theorem dX12_mates_0 : decode cX12_mates 0 = .ok (.aload_n 0, 1) := by decide +kernel
theorem dX12_mates_1 : decode cX12_mates 1 = .ok (.iconst 0, 1) := by decide +kernel
theorem dX12_mates_2 : decode cX12_mates 2 = .ok (.putfield 115, 3) := by decide +kernel
theorem dX12_mates_5 : decode cX12_mates 5 = .ok (.aload_n 0, 1) := by decide +kernel
theorem dX12_mates_6 : decode cX12_mates 6 = .ok (.aload_n 0, 1) := by decide +kernel
theorem dX12_mates_7 : decode cX12_mates 7 = .ok (.iload_n 1, 1) := by decide +kernel
theorem dX12_mates_8 : decode cX12_mates 8 = .ok (.invokevirtual 340, 3) := by decide +kernel
theorem dX12_mates_11 : decode cX12_mates 11 = .ok (.ifCond .ne 7, 3) := by decide +kernel
theorem dX12_mates_14 : decode cX12_mates 14 = .ok (.iconst 1, 1) := by decide +kernel
theorem dX12_mates_15 : decode cX12_mates 15 = .ok (.goto 4, 3) := by decide +kernel
theorem dX12_mates_18 : decode cX12_mates 18 = .ok (.iconst 0, 1) := by decide +kernel
theorem dX12_mates_19 : decode cX12_mates 19 = .ok (.iconst 1, 1) := by decide +kernel
theorem dX12_mates_20 : decode cX12_mates 20 = .ok (.iconst 1, 1) := by decide +kernel
theorem dX12_mates_21 : decode cX12_mates 21 = .ok (.invokevirtual 198, 3) := by decide +kernel
theorem dX12_mates_24 : decode cX12_mates 24 = .ok (.ifCond .ne 26, 3) := by decide +kernel
theorem dX12_mates_27 : decode cX12_mates 27 = .ok (.aload_n 0, 1) := by decide +kernel
theorem dX12_mates_28 : decode cX12_mates 28 = .ok (.iload_n 2, 1) := by decide +kernel
theorem dX12_mates_29 : decode cX12_mates 29 = .ok (.iconst 0, 1) := by decide +kernel
theorem dX12_mates_30 : decode cX12_mates 30 = .ok (.iconst 3, 1) := by decide +kernel
theorem dX12_mates_31 : decode cX12_mates 31 = .ok (.invokestatic 149, 3) := by decide +kernel
theorem dX12_mates_34 : decode cX12_mates 34 = .ok (.ifCond .ne 7, 3) := by decide +kernel
theorem dX12_mates_37 : decode cX12_mates 37 = .ok (.iconst 1, 1) := by decide +kernel
theorem dX12_mates_38 : decode cX12_mates 38 = .ok (.goto 4, 3) := by decide +kernel
theorem dX12_mates_41 : decode cX12_mates 41 = .ok (.iconst 0, 1) := by decide +kernel
theorem dX12_mates_42 : decode cX12_mates 42 = .ok (.iconst 2, 1) := by decide +kernel
theorem dX12_mates_43 : decode cX12_mates 43 = .ok (.iconst 2, 1) := by decide +kernel
theorem dX12_mates_44 : decode cX12_mates 44 = .ok (.invokevirtual 198, 3) := by decide +kernel
theorem dX12_mates_47 : decode cX12_mates 47 = .ok (.ifCond .eq 5, 3) := by decide +kernel
theorem dX12_mates_50 : decode cX12_mates 50 = .ok (.iconst 0, 1) := by decide +kernel
theorem dX12_mates_51 : decode cX12_mates 51 = .ok (.ireturn, 1) := by decide +kernel
theorem dX12_mates_52 : decode cX12_mates 52 = .ok (.iload_n 2, 1) := by decide +kernel
theorem dX12_mates_53 : decode cX12_mates 53 = .ok (.ifCond .ne 33, 3) := by decide +kernel
theorem dX12_mates_56 : decode cX12_mates 56 = .ok (.aload_n 0, 1) := by decide +kernel
theorem dX12_mates_57 : decode cX12_mates 57 = .ok (.iload_n 1, 1) := by decide +kernel
theorem dX12_mates_58 : decode cX12_mates 58 = .ok (.iconst 0, 1) := by decide +kernel
theorem dX12_mates_59 : decode cX12_mates 59 = .ok (.invokevirtual 403, 3) := by decide +kernel
theorem dX12_mates_62 : decode cX12_mates 62 = .ok (.invokestatic 406, 3) := by decide +kernel
theorem dX12_mates_65 : decode cX12_mates 65 = .ok (.aload_n 0, 1) := by decide +kernel
theorem dX12_mates_66 : decode cX12_mates 66 = .ok (.iload_n 1, 1) := by decide +kernel
theorem dX12_mates_67 : decode cX12_mates 67 = .ok (.iconst 1, 1) := by decide +kernel
theorem dX12_mates_68 : decode cX12_mates 68 = .ok (.invokevirtual 403, 3) := by decide +kernel
theorem dX12_mates_71 : decode cX12_mates 71 = .ok (.invokestatic 406, 3) := by decide +kernel
theorem dX12_mates_74 : decode cX12_mates 74 = .ok (.iadd, 1) := by decide +kernel
theorem dX12_mates_75 : decode cX12_mates 75 = .ok (.aload_n 0, 1) := by decide +kernel
theorem dX12_mates_76 : decode cX12_mates 76 = .ok (.iload_n 1, 1) := by decide +kernel
theorem dX12_mates_77 : decode cX12_mates 77 = .ok (.iconst 2, 1) := by decide +kernel
theorem dX12_mates_78 : decode cX12_mates 78 = .ok (.invokevirtual 403, 3) := by decide +kernel
theorem dX12_mates_81 : decode cX12_mates 81 = .ok (.invokestatic 406, 3) := by decide +kernel
theorem dX12_mates_84 : decode cX12_mates 84 = .ok (.iadd, 1) := by decide +kernel
theorem dX12_mates_85 : decode cX12_mates 85 = .ok (.ireturn, 1) := by decide +kernel
theorem dX12_mates_86 : decode cX12_mates 86 = .ok (.aload_n 0, 1) := by decide +kernel
theorem dX12_mates_87 : decode cX12_mates 87 = .ok (.iload_n 1, 1) := by decide +kernel
theorem dX12_mates_88 : decode cX12_mates 88 = .ok (.iload_n 2, 1) := by decide +kernel
theorem dX12_mates_89 : decode cX12_mates 89 = .ok (.iconst 3, 1) := by decide +kernel
theorem dX12_mates_90 : decode cX12_mates 90 = .ok (.if_icmp .ne 7, 3) := by decide +kernel
theorem dX12_mates_93 : decode cX12_mates 93 = .ok (.iconst 0, 1) := by decide +kernel
theorem dX12_mates_94 : decode cX12_mates 94 = .ok (.goto 4, 3) := by decide +kernel
theorem dX12_mates_97 : decode cX12_mates 97 = .ok (.iload_n 2, 1) := by decide +kernel
theorem dX12_mates_98 : decode cX12_mates 98 = .ok (.invokevirtual 403, 3) := by decide +kernel
theorem dX12_mates_101 : decode cX12_mates 101 = .ok (.ireturn, 1) := by decide +kernel
set_option maxRecDepth 100000 in
theorem T_X12_mates_0 {G : GE} {d C S : Nat} {P : KI} : Snd G MX12_mates (d + 1) C S 0 (RI P) (s_aload 0 (s_iconst 0 (s_putI 11 0 (s_aload 0 (s_aload 0 (s_iload 1 (s_callV G d MX12_isStreet 1 11 (s_if_ne (s_iconst 0 (s_iconst 1 (s_iconst 1 (s_callV G d MX12_bad 3 11 (s_if_ne (s_iconst 0 (s_ireturn P)) (s_aload 0 (s_iload 2 (s_iconst 0 (s_iconst 3 (s_call G d MX12_in 3 (s_if_ne (s_iconst 0 (fun L st h => E G MX12_mates (d + 1) C S 42 (msk [true, true, true] L) st h (RI P))) (s_iconst 1 (fun L st h => E G MX12_mates (d + 1) C S 42 (msk [true, true, true] L) st h (RI P)))))))))))))) (s_iconst 1 (s_iconst 1 (s_iconst 1 (s_callV G d MX12_bad 3 11 (s_if_ne (s_iconst 0 (s_ireturn P)) (s_aload 0 (s_iload 2 (s_iconst 0 (s_iconst 3 (s_call G d MX12_in 3 (s_if_ne (s_iconst 0 (fun L st h => E G MX12_mates (d + 1) C S 42 (msk [true, true, true] L) st h (RI P))) (s_iconst 1 (fun L st h => E G MX12_mates (d + 1) C S 42 (msk [true, true, true] L) st h (RI P)))))))))))))))))))))) := (e_aload_n dX12_mates_0 rfl (e_iconst (v := 0) dX12_mates_1 (by decide) (e_putI rfl cl_11 (by decide) rfl rfl rfl q_1564 dX12_mates_2 (e_aload_n dX12_mates_5 rfl (e_aload_n dX12_mates_6 rfl (e_iload_n dX12_mates_7 rfl (e_callV cl_11 cal_X12_isStreet q_1945 q_1947 q_86 dX12_mates_8 (e_if_ne (tgt := 18) dX12_mates_11 (by decide) (e_iconst (v := 0) dX12_mates_18 (by decide) (e_iconst (v := 1) dX12_mates_19 (by decide) (e_iconst (v := 1) dX12_mates_20 (by decide) (e_callV cl_11 cal_X12_bad q_1742 q_1744 q_53 dX12_mates_21 (e_if_ne (tgt := 50) dX12_mates_24 (by decide) (e_iconst (v := 0) dX12_mates_50 (by decide) (e_ireturn rfl dX12_mates_51)) (e_aload_n dX12_mates_27 rfl (e_iload_n dX12_mates_28 rfl (e_iconst (v := 0) dX12_mates_29 (by decide) (e_iconst (v := 3) dX12_mates_30 (by decide) (e_callS cal_X12_in q_1739 q_1740 dX12_mates_31 (e_if_ne (tgt := 41) dX12_mates_34 (by decide) (e_iconst (v := 0) dX12_mates_41 (by decide) (e_msk [true, true, true])) (e_iconst (v := 1) dX12_mates_37 (by decide) (e_goto (tgt := 42) dX12_mates_38 (by decide) (e_msk [true, true, true])))))))))))))) (e_iconst (v := 1) dX12_mates_14 (by decide) (e_goto (tgt := 19) dX12_mates_15 (by decide) (e_iconst (v := 1) dX12_mates_19 (by decide) (e_iconst (v := 1) dX12_mates_20 (by decide) (e_callV cl_11 cal_X12_bad q_1742 q_1744 q_53 dX12_mates_21 (e_if_ne (tgt := 50) dX12_mates_24 (by decide) (e_iconst (v := 0) dX12_mates_50 (by decide) (e_ireturn rfl dX12_mates_51)) (e_aload_n dX12_mates_27 rfl (e_iload_n dX12_mates_28 rfl (e_iconst (v := 0) dX12_mates_29 (by decide) (e_iconst (v := 3) dX12_mates_30 (by decide) (e_callS cal_X12_in q_1739 q_1740 dX12_mates_31 (e_if_ne (tgt := 41) dX12_mates_34 (by decide) (e_iconst (v := 0) dX12_mates_41 (by decide) (e_msk [true, true, true])) (e_iconst (v := 1) dX12_mates_37 (by decide) (e_goto (tgt := 42) dX12_mates_38 (by decide) (e_msk [true, true, true])))))))))))))))))))))))
set_option maxRecDepth 100000 in
theorem V_X12_mates_0 {G : GE} {d : Nat} {P : KI} {a : Nat → Nat → Int32} {r : Nat → Nat → Value} {N : Nat} {l0 : Nat} {l1 : Int32} {l2 : Int32} (hs : (tyK l0 = (0, 11) ∧ l0 < N ∧ ∀ a1, a1 = u2 a l0 0 0 → (tyK l0 = (0, 11) ∧ l0 < N ∧ Sp G d 0 0 MX12_isStreet [.ref l0, .int l1] (a1, r, N) (RI fun v5 a2 r3 n4 => ((¬ v5 = 0 → (tyK l0 = (0, 11) ∧ l0 < n4 ∧ Sp G d 0 0 MX12_bad [.ref l0, .int 0, .int 1, .int 1] (a2, r3, n4) (RI fun v9 a6 r7 n8 => ((¬ v9 = 0 → P 0 a6 r7 n8) ∧ (v9 = 0 → Sp G d 0 0 MX12_in [.int l2, .int 0, .int 3] (a6, r7, n8) (RI fun v13 a10 r11 n12 => ((¬ v13 = 0 → E G MX12_mates (d + 1) 0 0 42 [.ref l0, .int l1, .int l2] [.int 0, .ref l0] (a10, r11, n12) (RI P)) ∧ (v13 = 0 → E G MX12_mates (d + 1) 0 0 42 [.ref l0, .int l1, .int l2] [.int 1, .ref l0] (a10, r11, n12) (RI P))))))))) ∧ (v5 = 0 → (tyK l0 = (0, 11) ∧ l0 < n4 ∧ Sp G d 0 0 MX12_bad [.ref l0, .int 1, .int 1, .int 1] (a2, r3, n4) (RI fun v17 a14 r15 n16 => ((¬ v17 = 0 → P 0 a14 r15 n16) ∧ (v17 = 0 → Sp G d 0 0 MX12_in [.int l2, .int 0, .int 3] (a14, r15, n16) (RI fun v21 a18 r19 n20 => ((¬ v21 = 0 → E G MX12_mates (d + 1) 0 0 42 [.ref l0, .int l1, .int l2] [.int 0, .ref l0] (a18, r19, n20) (RI P)) ∧ (v21 = 0 → E G MX12_mates (d + 1) 0 0 42 [.ref l0, .int l1, .int l2] [.int 1, .ref l0] (a18, r19, n20) (RI P)))))))))))))) : Sp G (d + 1) 0 0 MX12_mates [.ref l0, .int l1, .int l2] (a, r, N) (RI P) := Sp.mk (mc := 0) (ms := 0) [.ref l0, .int l1, .int l2] rfl rfl rfl rfl (T_X12_mates_0 (C := 0) (S := 0) _ _ _ hs)
set_option maxRecDepth 100000 in
theorem T_X12_mates_42 {G : GE} {d C S : Nat} {P : KI} : Snd G MX12_mates (d + 1) C S 42 (RI P) (s_iconst 2 (s_iconst 2 (s_callV G d MX12_bad 3 11 (s_if_eq (s_iload 2 (s_if_ne (s_aload 0 (s_iload 1 (s_iload 2 (s_iconst 3 (s_ic_ne (s_iload 2 (s_callV G d MX12_matesOf 2 11 (s_ireturn P))) (s_iconst 0 (s_callV G d MX12_matesOf 2 11 (s_ireturn P)))))))) (s_aload 0 (s_iload 1 (s_iconst 0 (s_callV G d MX12_matesOf 2 11 (s_call G d MX12_ones 1 (s_aload 0 (s_iload 1 (s_iconst 1 (s_callV G d MX12_matesOf 2 11 (s_call G d MX12_ones 1 (s_iadd (s_aload 0 (s_iload 1 (s_iconst 2 (s_callV G d MX12_matesOf 2 11 (s_call G d MX12_ones 1 (s_iadd (s_ireturn P)))))))))))))))))))) (s_iconst 0 (s_ireturn P)))))) := (e_iconst (v := 2) dX12_mates_42 (by decide) (e_iconst (v := 2) dX12_mates_43 (by decide) (e_callV cl_11 cal_X12_bad q_1742 q_1744 q_53 dX12_mates_44 (e_if_eq (tgt := 52) dX12_mates_47 (by decide) (e_iload_n dX12_mates_52 rfl (e_if_ne (tgt := 86) dX12_mates_53 (by decide) (e_aload_n dX12_mates_86 rfl (e_iload_n dX12_mates_87 rfl (e_iload_n dX12_mates_88 rfl (e_iconst (v := 3) dX12_mates_89 (by decide) (e_ic_ne (tgt := 97) dX12_mates_90 (by decide) (e_iload_n dX12_mates_97 rfl (e_callV cl_11 cal_X12_matesOf q_2083 q_2085 q_101 dX12_mates_98 (e_ireturn rfl dX12_mates_101))) (e_iconst (v := 0) dX12_mates_93 (by decide) (e_goto (tgt := 98) dX12_mates_94 (by decide) (e_callV cl_11 cal_X12_matesOf q_2083 q_2085 q_101 dX12_mates_98 (e_ireturn rfl dX12_mates_101))))))))) (e_aload_n dX12_mates_56 rfl (e_iload_n dX12_mates_57 rfl (e_iconst (v := 0) dX12_mates_58 (by decide) (e_callV cl_11 cal_X12_matesOf q_2083 q_2085 q_101 dX12_mates_59 (e_callS cal_X12_ones q_2091 q_2092 dX12_mates_62 (e_aload_n dX12_mates_65 rfl (e_iload_n dX12_mates_66 rfl (e_iconst (v := 1) dX12_mates_67 (by decide) (e_callV cl_11 cal_X12_matesOf q_2083 q_2085 q_101 dX12_mates_68 (e_callS cal_X12_ones q_2091 q_2092 dX12_mates_71 (e_iadd dX12_mates_74 (e_aload_n dX12_mates_75 rfl (e_iload_n dX12_mates_76 rfl (e_iconst (v := 2) dX12_mates_77 (by decide) (e_callV cl_11 cal_X12_matesOf q_2083 q_2085 q_101 dX12_mates_78 (e_callS cal_X12_ones q_2091 q_2092 dX12_mates_81 (e_iadd dX12_mates_84 (e_ireturn rfl dX12_mates_85)))))))))))))))))))) (e_iconst (v := 0) dX12_mates_50 (by decide) (e_ireturn rfl dX12_mates_51))))))
set_option maxRecDepth 100000 in
theorem V_X12_mates_42 {G : GE} {d C S : Nat} {P : KI} {a : Nat → Nat → Int32} {r : Nat → Nat → Value} {N : Nat} {l0 : Nat} {l1 : Int32} {l2 : Int32} {s0 : Nat} {s1 : Int32} (hs : (tyK s0 = (0, 11) ∧ s0 < N ∧ Sp G d 0 0 MX12_bad [.ref s0, .int s1, .int 2, .int 2] (a, r, N) (RI fun v4 a1 r2 n3 => ((v4 = 0 → ((¬ l2 = 0 → ((¬ l2 = 3 → (tyK l0 = (0, 11) ∧ l0 < n3 ∧ Sp G d 0 0 MX12_matesOf [.ref l0, .int l1, .int l2] (a1, r2, n3) (RI fun v8 a5 r6 n7 => P v8 a5 r6 n7))) ∧ (l2 = 3 → (tyK l0 = (0, 11) ∧ l0 < n3 ∧ Sp G d 0 0 MX12_matesOf [.ref l0, .int l1, .int 0] (a1, r2, n3) (RI fun v12 a9 r10 n11 => P v12 a9 r10 n11))))) ∧ (l2 = 0 → (tyK l0 = (0, 11) ∧ l0 < n3 ∧ Sp G d 0 0 MX12_matesOf [.ref l0, .int l1, .int 0] (a1, r2, n3) (RI fun v16 a13 r14 n15 => Sp G d 0 0 MX12_ones [.int v16] (a13, r14, n15) (RI fun v20 a17 r18 n19 => (tyK l0 = (0, 11) ∧ l0 < n19 ∧ Sp G d 0 0 MX12_matesOf [.ref l0, .int l1, .int 1] (a17, r18, n19) (RI fun v24 a21 r22 n23 => Sp G d 0 0 MX12_ones [.int v24] (a21, r22, n23) (RI fun v28 a25 r26 n27 => (tyK l0 = (0, 11) ∧ l0 < n27 ∧ Sp G d 0 0 MX12_matesOf [.ref l0, .int l1, .int 2] (a25, r26, n27) (RI fun v32 a29 r30 n31 => Sp G d 0 0 MX12_ones [.int v32] (a29, r30, n31) (RI fun v36 a33 r34 n35 => P ((v20 + v28) + v36) a33 r34 n35)))))))))))) ∧ (¬ v4 = 0 → P 0 a1 r2 n3))))) : E G MX12_mates (d + 1) C S 42 [.ref l0, .int l1, .int l2] [.int s1, .ref s0] (a, r, N) (RI P) := T_X12_mates_42 _ _ _ hs
theorem dX12_look_0 : decode cX12_look 0 = .ok (.aload_n 0, 1) := by decide +kernel
theorem dX12_look_1 : decode cX12_look 1 = .ok (.iconst 0, 1) := by decide +kernel
theorem dX12_look_2 : decode cX12_look 2 = .ok (.putfield 115, 3) := by decide +kernel
theorem dX12_look_5 : decode cX12_look 5 = .ok (.aload_n 0, 1) := by decide +kernel
theorem dX12_look_6 : decode cX12_look 6 = .ok (.aload_n 0, 1) := by decide +kernel
theorem dX12_look_7 : decode cX12_look 7 = .ok (.iload_n 1, 1) := by decide +kernel
theorem dX12_look_8 : decode cX12_look 8 = .ok (.invokevirtual 340, 3) := by decide +kernel
theorem dX12_look_11 : decode cX12_look 11 = .ok (.ifCond .ne 7, 3) := by decide +kernel
theorem dX12_look_14 : decode cX12_look 14 = .ok (.iconst 1, 1) := by decide +kernel
theorem dX12_look_15 : decode cX12_look 15 = .ok (.goto 4, 3) := by decide +kernel
theorem dX12_look_18 : decode cX12_look 18 = .ok (.iconst 0, 1) := by decide +kernel
theorem dX12_look_19 : decode cX12_look 19 = .ok (.iconst 1, 1) := by decide +kernel
theorem dX12_look_20 : decode cX12_look 20 = .ok (.iconst 1, 1) := by decide +kernel
theorem dX12_look_21 : decode cX12_look 21 = .ok (.invokevirtual 198, 3) := by decide +kernel
theorem dX12_look_24 : decode cX12_look 24 = .ok (.ifCond .ne 26, 3) := by decide +kernel
theorem dX12_look_27 : decode cX12_look 27 = .ok (.aload_n 0, 1) := by decide +kernel
theorem dX12_look_28 : decode cX12_look 28 = .ok (.iload_n 2, 1) := by decide +kernel
theorem dX12_look_29 : decode cX12_look 29 = .ok (.iconst 0, 1) := by decide +kernel
theorem dX12_look_30 : decode cX12_look 30 = .ok (.iconst 1, 1) := by decide +kernel
theorem dX12_look_31 : decode cX12_look 31 = .ok (.invokestatic 149, 3) := by decide +kernel
theorem dX12_look_34 : decode cX12_look 34 = .ok (.ifCond .ne 7, 3) := by decide +kernel
theorem dX12_look_37 : decode cX12_look 37 = .ok (.iconst 1, 1) := by decide +kernel
theorem dX12_look_38 : decode cX12_look 38 = .ok (.goto 4, 3) := by decide +kernel
theorem dX12_look_41 : decode cX12_look 41 = .ok (.iconst 0, 1) := by decide +kernel
theorem dX12_look_42 : decode cX12_look 42 = .ok (.iconst 2, 1) := by decide +kernel
theorem dX12_look_43 : decode cX12_look 43 = .ok (.iconst 2, 1) := by decide +kernel
theorem dX12_look_44 : decode cX12_look 44 = .ok (.invokevirtual 198, 3) := by decide +kernel
theorem dX12_look_47 : decode cX12_look 47 = .ok (.ifCond .eq 5, 3) := by decide +kernel
theorem dX12_look_50 : decode cX12_look 50 = .ok (.iconst 0, 1) := by decide +kernel
theorem dX12_look_51 : decode cX12_look 51 = .ok (.ireturn, 1) := by decide +kernel
theorem dX12_look_52 : decode cX12_look 52 = .ok (.iconst (-1), 1) := by decide +kernel
theorem dX12_look_53 : decode cX12_look 53 = .ok (.istore_n 3, 1) := by decide +kernel
theorem dX12_look_54 : decode cX12_look 54 = .ok (.iconst (-1), 1) := by decide +kernel
theorem dX12_look_55 : decode cX12_look 55 = .ok (.istore 4, 2) := by decide +kernel
theorem dX12_look_57 : decode cX12_look 57 = .ok (.iconst 1, 1) := by decide +kernel
theorem dX12_look_58 : decode cX12_look 58 = .ok (.istore 5, 2) := by decide +kernel
theorem dX12_look_60 : decode cX12_look 60 = .ok (.iload 5, 2) := by decide +kernel
theorem dX12_look_62 : decode cX12_look 62 = .ok (.bipush 40, 2) := by decide +kernel
theorem dX12_look_64 : decode cX12_look 64 = .ok (.if_icmp .gt 182, 3) := by decide +kernel
theorem dX12_look_67 : decode cX12_look 67 = .ok (.iconst 0, 1) := by decide +kernel
theorem dX12_look_68 : decode cX12_look 68 = .ok (.istore 6, 2) := by decide +kernel
theorem dX12_look_70 : decode cX12_look 70 = .ok (.iconst 0, 1) := by decide +kernel
theorem dX12_look_71 : decode cX12_look 71 = .ok (.istore 7, 2) := by decide +kernel
theorem dX12_look_73 : decode cX12_look 73 = .ok (.iload 7, 2) := by decide +kernel
theorem dX12_look_75 : decode cX12_look 75 = .ok (.aload_n 0, 1) := by decide +kernel
theorem dX12_look_76 : decode cX12_look 76 = .ok (.getfield 218, 3) := by decide +kernel
theorem dX12_look_79 : decode cX12_look 79 = .ok (.if_icmp .ge 35, 3) := by decide +kernel
theorem dX12_look_82 : decode cX12_look 82 = .ok (.iload 6, 2) := by decide +kernel
theorem dX12_look_84 : decode cX12_look 84 = .ok (.ifCond .ne 17, 3) := by decide +kernel
theorem dX12_look_87 : decode cX12_look 87 = .ok (.aload_n 0, 1) := by decide +kernel
theorem dX12_look_88 : decode cX12_look 88 = .ok (.getfield 64, 3) := by decide +kernel
theorem dX12_look_91 : decode cX12_look 91 = .ok (.iload 7, 2) := by decide +kernel
theorem dX12_look_93 : decode cX12_look 93 = .ok (.aaload, 1) := by decide +kernel
theorem dX12_look_94 : decode cX12_look 94 = .ok (.iconst 0, 1) := by decide +kernel
theorem dX12_look_95 : decode cX12_look 95 = .ok (.iaload, 1) := by decide +kernel
theorem dX12_look_96 : decode cX12_look 96 = .ok (.iload 5, 2) := by decide +kernel
theorem dX12_look_98 : decode cX12_look 98 = .ok (.if_icmp .ne 7, 3) := by decide +kernel
theorem dX12_look_101 : decode cX12_look 101 = .ok (.iconst 1, 1) := by decide +kernel
theorem dX12_look_102 : decode cX12_look 102 = .ok (.goto 4, 3) := by decide +kernel
theorem dX12_look_105 : decode cX12_look 105 = .ok (.iconst 0, 1) := by decide +kernel
theorem dX12_look_106 : decode cX12_look 106 = .ok (.istore 6, 2) := by decide +kernel
theorem dX12_look_108 : decode cX12_look 108 = .ok (.iinc 7 1, 3) := by decide +kernel
theorem dX12_look_111 : decode cX12_look 111 = .ok (.goto (-38), 3) := by decide +kernel
theorem dX12_look_114 : decode cX12_look 114 = .ok (.iconst 0, 1) := by decide +kernel
theorem dX12_look_115 : decode cX12_look 115 = .ok (.istore 7, 2) := by decide +kernel
theorem dX12_look_117 : decode cX12_look 117 = .ok (.iload 7, 2) := by decide +kernel
theorem dX12_look_119 : decode cX12_look 119 = .ok (.bipush 21, 2) := by decide +kernel
theorem dX12_look_121 : decode cX12_look 121 = .ok (.if_icmp .ge 17, 3) := by decide +kernel
theorem dX12_look_124 : decode cX12_look 124 = .ok (.aload_n 0, 1) := by decide +kernel
theorem dX12_look_125 : decode cX12_look 125 = .ok (.getfield 106, 3) := by decide +kernel
theorem dX12_look_128 : decode cX12_look 128 = .ok (.iload 7, 2) := by decide +kernel
theorem dX12_look_130 : decode cX12_look 130 = .ok (.iconst 0, 1) := by decide +kernel
theorem dX12_look_131 : decode cX12_look 131 = .ok (.iastore, 1) := by decide +kernel
theorem dX12_look_132 : decode cX12_look 132 = .ok (.iinc 7 1, 3) := by decide +kernel
theorem dX12_look_135 : decode cX12_look 135 = .ok (.goto (-18), 3) := by decide +kernel
theorem dX12_look_138 : decode cX12_look 138 = .ok (.iconst 0, 1) := by decide +kernel
theorem dX12_look_139 : decode cX12_look 139 = .ok (.istore 7, 2) := by decide +kernel
theorem dX12_look_141 : decode cX12_look 141 = .ok (.iload 7, 2) := by decide +kernel
theorem dX12_look_143 : decode cX12_look 143 = .ok (.iconst 3, 1) := by decide +kernel
theorem dX12_look_144 : decode cX12_look 144 = .ok (.if_icmp .ge 36, 3) := by decide +kernel
theorem dX12_look_147 : decode cX12_look 147 = .ok (.aload_n 0, 1) := by decide +kernel
theorem dX12_look_148 : decode cX12_look 148 = .ok (.getfield 106, 3) := by decide +kernel
theorem dX12_look_151 : decode cX12_look 151 = .ok (.aload_n 0, 1) := by decide +kernel
theorem dX12_look_152 : decode cX12_look 152 = .ok (.iload_n 1, 1) := by decide +kernel
theorem dX12_look_153 : decode cX12_look 153 = .ok (.iload 5, 2) := by decide +kernel
theorem dX12_look_155 : decode cX12_look 155 = .ok (.iload 7, 2) := by decide +kernel
theorem dX12_look_157 : decode cX12_look 157 = .ok (.invokevirtual 346, 3) := by decide +kernel
theorem dX12_look_160 : decode cX12_look 160 = .ok (.dup2, 1) := by decide +kernel
theorem dX12_look_161 : decode cX12_look 161 = .ok (.iaload, 1) := by decide +kernel
theorem dX12_look_162 : decode cX12_look 162 = .ok (.aload_n 0, 1) := by decide +kernel
theorem dX12_look_163 : decode cX12_look 163 = .ok (.iload_n 1, 1) := by decide +kernel
theorem dX12_look_164 : decode cX12_look 164 = .ok (.iload 7, 2) := by decide +kernel
theorem dX12_look_166 : decode cX12_look 166 = .ok (.invokevirtual 403, 3) := by decide +kernel
theorem dX12_look_169 : decode cX12_look 169 = .ok (.invokestatic 406, 3) := by decide +kernel
theorem dX12_look_172 : decode cX12_look 172 = .ok (.iadd, 1) := by decide +kernel
theorem dX12_look_173 : decode cX12_look 173 = .ok (.iastore, 1) := by decide +kernel
theorem dX12_look_174 : decode cX12_look 174 = .ok (.iinc 7 1, 3) := by decide +kernel
theorem dX12_look_177 : decode cX12_look 177 = .ok (.goto (-36), 3) := by decide +kernel
theorem dX12_look_180 : decode cX12_look 180 = .ok (.iconst 0, 1) := by decide +kernel
theorem dX12_look_181 : decode cX12_look 181 = .ok (.istore 7, 2) := by decide +kernel
theorem dX12_look_183 : decode cX12_look 183 = .ok (.iconst 0, 1) := by decide +kernel
theorem dX12_look_184 : decode cX12_look 184 = .ok (.istore 8, 2) := by decide +kernel
theorem dX12_look_186 : decode cX12_look 186 = .ok (.iload 8, 2) := by decide +kernel
theorem dX12_look_188 : decode cX12_look 188 = .ok (.bipush 21, 2) := by decide +kernel
theorem dX12_look_190 : decode cX12_look 190 = .ok (.if_icmp .ge 23, 3) := by decide +kernel
theorem dX12_look_193 : decode cX12_look 193 = .ok (.iload 7, 2) := by decide +kernel
theorem dX12_look_195 : decode cX12_look 195 = .ok (.aload_n 0, 1) := by decide +kernel
theorem dX12_look_196 : decode cX12_look 196 = .ok (.getfield 106, 3) := by decide +kernel
theorem dX12_look_199 : decode cX12_look 199 = .ok (.iload 8, 2) := by decide +kernel
theorem dX12_look_201 : decode cX12_look 201 = .ok (.iaload, 1) := by decide +kernel
theorem dX12_look_202 : decode cX12_look 202 = .ok (.invokestatic 261, 3) := by decide +kernel
theorem dX12_look_205 : decode cX12_look 205 = .ok (.istore 7, 2) := by decide +kernel
theorem dX12_look_207 : decode cX12_look 207 = .ok (.iinc 8 1, 3) := by decide +kernel
theorem dX12_look_210 : decode cX12_look 210 = .ok (.goto (-24), 3) := by decide +kernel
theorem dX12_look_213 : decode cX12_look 213 = .ok (.iload 6, 2) := by decide +kernel
theorem dX12_look_215 : decode cX12_look 215 = .ok (.ifCond .ne 25, 3) := by decide +kernel
theorem dX12_look_218 : decode cX12_look 218 = .ok (.iload_n 3, 1) := by decide +kernel
theorem dX12_look_219 : decode cX12_look 219 = .ok (.iconst (-1), 1) := by decide +kernel
theorem dX12_look_220 : decode cX12_look 220 = .ok (.if_icmp .eq 13, 3) := by decide +kernel
theorem dX12_look_223 : decode cX12_look 223 = .ok (.iload 7, 2) := by decide +kernel
theorem dX12_look_225 : decode cX12_look 225 = .ok (.iload 4, 2) := by decide +kernel
theorem dX12_look_227 : decode cX12_look 227 = .ok (.if_icmp .lt 6, 3) := by decide +kernel
theorem dX12_look_230 : decode cX12_look 230 = .ok (.goto 10, 3) := by decide +kernel
theorem dX12_look_233 : decode cX12_look 233 = .ok (.iload 5, 2) := by decide +kernel
theorem dX12_look_235 : decode cX12_look 235 = .ok (.istore_n 3, 1) := by decide +kernel
theorem dX12_look_236 : decode cX12_look 236 = .ok (.iload 7, 2) := by decide +kernel
theorem dX12_look_238 : decode cX12_look 238 = .ok (.istore 4, 2) := by decide +kernel
theorem dX12_look_240 : decode cX12_look 240 = .ok (.iinc 5 1, 3) := by decide +kernel
theorem dX12_look_243 : decode cX12_look 243 = .ok (.goto (-183), 3) := by decide +kernel
theorem dX12_look_246 : decode cX12_look 246 = .ok (.iload_n 2, 1) := by decide +kernel
theorem dX12_look_247 : decode cX12_look 247 = .ok (.ifCond .ne 7, 3) := by decide +kernel
theorem dX12_look_250 : decode cX12_look 250 = .ok (.iload_n 3, 1) := by decide +kernel
theorem dX12_look_251 : decode cX12_look 251 = .ok (.goto 5, 3) := by decide +kernel
theorem dX12_look_254 : decode cX12_look 254 = .ok (.iload 4, 2) := by decide +kernel
theorem dX12_look_256 : decode cX12_look 256 = .ok (.ireturn, 1) := by decide +kernel
set_option maxRecDepth 100000 in
theorem T_X12_look_0 {G : GE} {d C S : Nat} {P : KI} : Snd G MX12_look (d + 1) C S 0 (RI P) (s_aload 0 (s_iconst 0 (s_putI 11 0 (s_aload 0 (s_aload 0 (s_iload 1 (s_callV G d MX12_isStreet 1 11 (s_if_ne (s_iconst 0 (fun L st h => E G MX12_look (d + 1) C S 19 (msk [true, true, true, false, false, false, false, false, false] L) st h (RI P))) (s_iconst 1 (fun L st h => E G MX12_look (d + 1) C S 19 (msk [true, true, true, false, false, false, false, false, false] L) st h (RI P))))))))))) := (e_aload_n dX12_look_0 rfl (e_iconst (v := 0) dX12_look_1 (by decide) (e_putI rfl cl_11 (by decide) rfl rfl rfl q_1564 dX12_look_2 (e_aload_n dX12_look_5 rfl (e_aload_n dX12_look_6 rfl (e_iload_n dX12_look_7 rfl (e_callV cl_11 cal_X12_isStreet q_1945 q_1947 q_86 dX12_look_8 (e_if_ne (tgt := 18) dX12_look_11 (by decide) (e_iconst (v := 0) dX12_look_18 (by decide) (e_msk [true, true, true, false, false, false, false, false, false])) (e_iconst (v := 1) dX12_look_14 (by decide) (e_goto (tgt := 19) dX12_look_15 (by decide) (e_msk [true, true, true, false, false, false, false, false, false])))))))))))
set_option maxRecDepth 100000 in
theorem V_X12_look_0 {G : GE} {d : Nat} {P : KI} {a : Nat → Nat → Int32} {r : Nat → Nat → Value} {N : Nat} {l0 : Nat} {l1 : Int32} {l2 : Int32} (hs : (tyK l0 = (0, 11) ∧ l0 < N ∧ ∀ a1, a1 = u2 a l0 0 0 → (tyK l0 = (0, 11) ∧ l0 < N ∧ Sp G d 0 0 MX12_isStreet [.ref l0, .int l1] (a1, r, N) (RI fun v5 a2 r3 n4 => ((¬ v5 = 0 → E G MX12_look (d + 1) 0 0 19 [.ref l0, .int l1, .int l2, .null, .null, .null, .null, .null, .null] [.int 0, .ref l0] (a2, r3, n4) (RI P)) ∧ (v5 = 0 → E G MX12_look (d + 1) 0 0 19 [.ref l0, .int l1, .int l2, .null, .null, .null, .null, .null, .null] [.int 1, .ref l0] (a2, r3, n4) (RI P))))))) : Sp G (d + 1) 0 0 MX12_look [.ref l0, .int l1, .int l2] (a, r, N) (RI P) := Sp.mk (mc := 0) (ms := 0) [.ref l0, .int l1, .int l2, .null, .null, .null, .null, .null, .null] rfl rfl rfl rfl (T_X12_look_0 (C := 0) (S := 0) _ _ _ hs)
set_option maxRecDepth 100000 in
theorem T_X12_look_19 {G : GE} {d C S : Nat} {P : KI} : Snd G MX12_look (d + 1) C S 19 (RI P) (s_iconst 1 (s_iconst 1 (s_callV G d MX12_bad 3 11 (s_if_ne (s_iconst 0 (s_ireturn P)) (s_aload 0 (s_iload 2 (s_iconst 0 (s_iconst 1 (s_call G d MX12_in 3 (s_if_ne (s_iconst 0 (s_iconst 2 (s_iconst 2 (s_callV G d MX12_bad 3 11 (s_if_eq (s_iconst (-1) (s_istore 3 (s_iconst (-1) (s_istore 4 (s_iconst 1 (s_istore 5 (fun L st h => E G MX12_look (d + 1) C S 60 (msk [true, true, true, true, true, true, false, false, false] L) st h (RI P)))))))) (s_iconst 0 (s_ireturn P))))))) (s_iconst 1 (s_iconst 2 (s_iconst 2 (s_callV G d MX12_bad 3 11 (s_if_eq (s_iconst (-1) (s_istore 3 (s_iconst (-1) (s_istore 4 (s_iconst 1 (s_istore 5 (fun L st h => E G MX12_look (d + 1) C S 60 (msk [true, true, true, true, true, true, false, false, false] L) st h (RI P)))))))) (s_iconst 0 (s_ireturn P))))))))))))))))) := (e_iconst (v := 1) dX12_look_19 (by decide) (e_iconst (v := 1) dX12_look_20 (by decide) (e_callV cl_11 cal_X12_bad q_1742 q_1744 q_53 dX12_look_21 (e_if_ne (tgt := 50) dX12_look_24 (by decide) (e_iconst (v := 0) dX12_look_50 (by decide) (e_ireturn rfl dX12_look_51)) (e_aload_n dX12_look_27 rfl (e_iload_n dX12_look_28 rfl (e_iconst (v := 0) dX12_look_29 (by decide) (e_iconst (v := 1) dX12_look_30 (by decide) (e_callS cal_X12_in q_1739 q_1740 dX12_look_31 (e_if_ne (tgt := 41) dX12_look_34 (by decide) (e_iconst (v := 0) dX12_look_41 (by decide) (e_iconst (v := 2) dX12_look_42 (by decide) (e_iconst (v := 2) dX12_look_43 (by decide) (e_callV cl_11 cal_X12_bad q_1742 q_1744 q_53 dX12_look_44 (e_if_eq (tgt := 52) dX12_look_47 (by decide) (e_iconst (v := (-1)) dX12_look_52 (by decide) (e_istore_n dX12_look_53 rfl (by decide) (e_iconst (v := (-1)) dX12_look_54 (by decide) (e_istore dX12_look_55 (by decide) (e_iconst (v := 1) dX12_look_57 (by decide) (e_istore dX12_look_58 (by decide) (e_msk [true, true, true, true, true, true, false, false, false]))))))) (e_iconst (v := 0) dX12_look_50 (by decide) (e_ireturn rfl dX12_look_51))))))) (e_iconst (v := 1) dX12_look_37 (by decide) (e_goto (tgt := 42) dX12_look_38 (by decide) (e_iconst (v := 2) dX12_look_42 (by decide) (e_iconst (v := 2) dX12_look_43 (by decide) (e_callV cl_11 cal_X12_bad q_1742 q_1744 q_53 dX12_look_44 (e_if_eq (tgt := 52) dX12_look_47 (by decide) (e_iconst (v := (-1)) dX12_look_52 (by decide) (e_istore_n dX12_look_53 rfl (by decide) (e_iconst (v := (-1)) dX12_look_54 (by decide) (e_istore dX12_look_55 (by decide) (e_iconst (v := 1) dX12_look_57 (by decide) (e_istore dX12_look_58 (by decide) (e_msk [true, true, true, true, true, true, false, false, false]))))))) (e_iconst (v := 0) dX12_look_50 (by decide) (e_ireturn rfl dX12_look_51))))))))))))))))))
set_option maxRecDepth 100000 in
theorem V_X12_look_19 {G : GE} {d C S : Nat} {P : KI} {a : Nat → Nat → Int32} {r : Nat → Nat → Value} {N : Nat} {l0 : Nat} {l1 : Int32} {l2 : Int32} {s0 : Nat} {s1 : Int32} (hs : (tyK s0 = (0, 11) ∧ s0 < N ∧ Sp G d 0 0 MX12_bad [.ref s0, .int s1, .int 1, .int 1] (a, r, N) (RI fun v4 a1 r2 n3 => ((¬ v4 = 0 → P 0 a1 r2 n3) ∧ (v4 = 0 → Sp G d 0 0 MX12_in [.int l2, .int 0, .int 1] (a1, r2, n3) (RI fun v8 a5 r6 n7 => ((¬ v8 = 0 → (tyK l0 = (0, 11) ∧ l0 < n7 ∧ Sp G d 0 0 MX12_bad [.ref l0, .int 0, .int 2, .int 2] (a5, r6, n7) (RI fun v12 a9 r10 n11 => ((v12 = 0 → E G MX12_look (d + 1) C S 60 [.ref l0, .int l1, .int l2, .int (-1), .int (-1), .int 1, .null, .null, .null] [] (a9, r10, n11) (RI P)) ∧ (¬ v12 = 0 → P 0 a9 r10 n11))))) ∧ (v8 = 0 → (tyK l0 = (0, 11) ∧ l0 < n7 ∧ Sp G d 0 0 MX12_bad [.ref l0, .int 1, .int 2, .int 2] (a5, r6, n7) (RI fun v16 a13 r14 n15 => ((v16 = 0 → E G MX12_look (d + 1) C S 60 [.ref l0, .int l1, .int l2, .int (-1), .int (-1), .int 1, .null, .null, .null] [] (a13, r14, n15) (RI P)) ∧ (¬ v16 = 0 → P 0 a13 r14 n15)))))))))))) : E G MX12_look (d + 1) C S 19 [.ref l0, .int l1, .int l2, .null, .null, .null, .null, .null, .null] [.int s1, .ref s0] (a, r, N) (RI P) := T_X12_look_19 _ _ _ hs
set_option maxRecDepth 100000 in
theorem T_X12_look_60 {G : GE} {d C S : Nat} {P : KI} : Snd G MX12_look (d + 1) C S 60 (RI P) (s_iload 5 (s_iconst 40 (s_ic_gt (s_iload 2 (s_if_ne (s_iload 4 (s_ireturn P)) (s_iload 3 (s_ireturn P)))) (s_iconst 0 (s_istore 6 (s_iconst 0 (s_istore 7 (fun L st h => E G MX12_look (d + 1) C S 73 (msk [true, true, true, true, true, true, true, true, false] L) st h (RI P))))))))) := (e_iload dX12_look_60 (e_bipush (v := 40) dX12_look_62 (by decide) (e_ic_gt (tgt := 246) dX12_look_64 (by decide) (e_iload_n dX12_look_246 rfl (e_if_ne (tgt := 254) dX12_look_247 (by decide) (e_iload dX12_look_254 (e_ireturn rfl dX12_look_256)) (e_iload_n dX12_look_250 rfl (e_goto (tgt := 256) dX12_look_251 (by decide) (e_ireturn rfl dX12_look_256))))) (e_iconst (v := 0) dX12_look_67 (by decide) (e_istore dX12_look_68 (by decide) (e_iconst (v := 0) dX12_look_70 (by decide) (e_istore dX12_look_71 (by decide) (e_msk [true, true, true, true, true, true, true, true, false]))))))))
set_option maxRecDepth 100000 in
theorem V_X12_look_60 {G : GE} {d C S : Nat} {P : KI} {a : Nat → Nat → Int32} {r : Nat → Nat → Value} {N : Nat} {l0 : Nat} {l1 : Int32} {l2 : Int32} {l3 : Int32} {l4 : Int32} {l5 : Int32} (hs : ((40 < l5 → ((¬ l2 = 0 → P l4 a r N) ∧ (l2 = 0 → P l3 a r N))) ∧ (¬ 40 < l5 → E G MX12_look (d + 1) C S 73 [.ref l0, .int l1, .int l2, .int l3, .int l4, .int l5, .int 0, .int 0, .null] [] (a, r, N) (RI P)))) : E G MX12_look (d + 1) C S 60 [.ref l0, .int l1, .int l2, .int l3, .int l4, .int l5, .null, .null, .null] [] (a, r, N) (RI P) := T_X12_look_60 _ _ _ hs
set_option maxRecDepth 100000 in
theorem T_X12_look_73 {G : GE} {d C S : Nat} {P : KI} : Snd G MX12_look (d + 1) C S 73 (RI P) (s_iload 7 (s_aload 0 (s_getI 11 38 (s_ic_ge (s_iconst 0 (s_istore 7 (fun L st h => E G MX12_look (d + 1) C S 117 (msk [true, true, true, true, true, true, true, true, false] L) st h (RI P)))) (s_iload 6 (s_if_ne (s_iconst 1 (s_istore 6 (s_iinc 7 1 (fun L st h => E G MX12_look (d + 1) C S 73 (msk [true, true, true, true, true, true, true, true, false] L) st h (RI P))))) (s_aload 0 (s_getR 11 27 (s_iload 7 (s_aaload (s_iconst 0 (s_iaload (s_iload 5 (s_ic_ne (s_iconst 0 (s_istore 6 (s_iinc 7 1 (fun L st h => E G MX12_look (d + 1) C S 73 (msk [true, true, true, true, true, true, true, true, false] L) st h (RI P))))) (s_iconst 1 (s_istore 6 (s_iinc 7 1 (fun L st h => E G MX12_look (d + 1) C S 73 (msk [true, true, true, true, true, true, true, true, false] L) st h (RI P))))))))))))))))))) := (e_iload dX12_look_73 (e_aload_n dX12_look_75 rfl (e_getI rfl cl_11 (by decide) rfl q_1602 dX12_look_76 (e_ic_ge (tgt := 114) dX12_look_79 (by decide) (e_iconst (v := 0) dX12_look_114 (by decide) (e_istore dX12_look_115 (by decide) (e_msk [true, true, true, true, true, true, true, true, false]))) (e_iload dX12_look_82 (e_if_ne (tgt := 101) dX12_look_84 (by decide) (e_iconst (v := 1) dX12_look_101 (by decide) (e_goto (tgt := 106) dX12_look_102 (by decide) (e_istore dX12_look_106 (by decide) (e_iinc (v := 1) dX12_look_108 (by decide) (by decide) (e_goto (tgt := 73) dX12_look_111 (by decide) (e_msk [true, true, true, true, true, true, true, true, false])))))) (e_aload_n dX12_look_87 rfl (e_getR rfl cl_11 (by decide) rfl q_1591 dX12_look_88 (e_iload dX12_look_91 (e_aaload dX12_look_93 (e_iconst (v := 0) dX12_look_94 (by decide) (e_iaload dX12_look_95 (e_iload dX12_look_96 (e_ic_ne (tgt := 105) dX12_look_98 (by decide) (e_iconst (v := 0) dX12_look_105 (by decide) (e_istore dX12_look_106 (by decide) (e_iinc (v := 1) dX12_look_108 (by decide) (by decide) (e_goto (tgt := 73) dX12_look_111 (by decide) (e_msk [true, true, true, true, true, true, true, true, false]))))) (e_iconst (v := 1) dX12_look_101 (by decide) (e_goto (tgt := 106) dX12_look_102 (by decide) (e_istore dX12_look_106 (by decide) (e_iinc (v := 1) dX12_look_108 (by decide) (by decide) (e_goto (tgt := 73) dX12_look_111 (by decide) (e_msk [true, true, true, true, true, true, true, true, false]))))))))))))))))))))
set_option maxRecDepth 100000 in
theorem V_X12_look_73 {G : GE} {d C S : Nat} {P : KI} {a : Nat → Nat → Int32} {r : Nat → Nat → Value} {N : Nat} {l0 : Nat} {l1 : Int32} {l2 : Int32} {l3 : Int32} {l4 : Int32} {l5 : Int32} {l6 : Int32} {l7 : Int32} (hs : (tyK l0 = (0, 11) ∧ l0 < N ∧ (((a l0 38) ≤ l7 → E G MX12_look (d + 1) C S 117 [.ref l0, .int l1, .int l2, .int l3, .int l4, .int l5, .int l6, .int 0, .null] [] (a, r, N) (RI P)) ∧ (¬ (a l0 38) ≤ l7 → ((¬ l6 = 0 → E G MX12_look (d + 1) C S 73 [.ref l0, .int l1, .int l2, .int l3, .int l4, .int l5, .int 1, .int (l7 + 1), .null] [] (a, r, N) (RI P)) ∧ (l6 = 0 → (tyK l0 = (0, 11) ∧ l0 < N ∧ ∃ q1, r l0 27 = .ref q1 ∧ ((tyK q1).1 = 3 ∧ q1 < N ∧ vp_in l7 (tyK q1).2 ∧ ((tyK (q1 + 1 + (l7 : Int32).toNatClampNeg)).1 = 1 ∧ (q1 + 1 + (l7 : Int32).toNatClampNeg) < N ∧ vp_in 0 (tyK (q1 + 1 + (l7 : Int32).toNatClampNeg)).2 ∧ ((¬ (a (q1 + 1 + (l7 : Int32).toNatClampNeg) (0 : Int32).toNatClampNeg) = l5 → E G MX12_look (d + 1) C S 73 [.ref l0, .int l1, .int l2, .int l3, .int l4, .int l5, .int 0, .int (l7 + 1), .null] [] (a, r, N) (RI P)) ∧ ((a (q1 + 1 + (l7 : Int32).toNatClampNeg) (0 : Int32).toNatClampNeg) = l5 → E G MX12_look (d + 1) C S 73 [.ref l0, .int l1, .int l2, .int l3, .int l4, .int l5, .int 1, .int (l7 + 1), .null] [] (a, r, N) (RI P)))))))))))) : E G MX12_look (d + 1) C S 73 [.ref l0, .int l1, .int l2, .int l3, .int l4, .int l5, .int l6, .int l7, .null] [] (a, r, N) (RI P) := T_X12_look_73 _ _ _ hs
set_option maxRecDepth 100000 in
theorem T_X12_look_117 {G : GE} {d C S : Nat} {P : KI} : Snd G MX12_look (d + 1) C S 117 (RI P) (s_iload 7 (s_iconst 21 (s_ic_ge (s_iconst 0 (s_istore 7 (fun L st h => E G MX12_look (d + 1) C S 141 (msk [true, true, true, true, true, true, true, true, false] L) st h (RI P)))) (s_aload 0 (s_getR 11 51 (s_iload 7 (s_iconst 0 (s_iastore (s_iinc 7 1 (fun L st h => E G MX12_look (d + 1) C S 117 (msk [true, true, true, true, true, true, true, true, false] L) st h (RI P))))))))))) := (e_iload dX12_look_117 (e_bipush (v := 21) dX12_look_119 (by decide) (e_ic_ge (tgt := 138) dX12_look_121 (by decide) (e_iconst (v := 0) dX12_look_138 (by decide) (e_istore dX12_look_139 (by decide) (e_msk [true, true, true, true, true, true, true, true, false]))) (e_aload_n dX12_look_124 rfl (e_getR rfl cl_11 (by decide) rfl q_1615 dX12_look_125 (e_iload dX12_look_128 (e_iconst (v := 0) dX12_look_130 (by decide) (e_iastore dX12_look_131 (e_iinc (v := 1) dX12_look_132 (by decide) (by decide) (e_goto (tgt := 117) dX12_look_135 (by decide) (e_msk [true, true, true, true, true, true, true, true, false])))))))))))
set_option maxRecDepth 100000 in
theorem V_X12_look_117 {G : GE} {d C S : Nat} {P : KI} {a : Nat → Nat → Int32} {r : Nat → Nat → Value} {N : Nat} {l0 : Nat} {l1 : Int32} {l2 : Int32} {l3 : Int32} {l4 : Int32} {l5 : Int32} {l6 : Int32} {l7 : Int32} (hs : ((21 ≤ l7 → E G MX12_look (d + 1) C S 141 [.ref l0, .int l1, .int l2, .int l3, .int l4, .int l5, .int l6, .int 0, .null] [] (a, r, N) (RI P)) ∧ (¬ 21 ≤ l7 → (tyK l0 = (0, 11) ∧ l0 < N ∧ ∃ q1, r l0 51 = .ref q1 ∧ ((tyK q1).1 = 1 ∧ q1 < N ∧ vp_in l7 (tyK q1).2 ∧ ∀ a2, a2 = u2 a q1 (l7 : Int32).toNatClampNeg 0 → E G MX12_look (d + 1) C S 117 [.ref l0, .int l1, .int l2, .int l3, .int l4, .int l5, .int l6, .int (l7 + 1), .null] [] (a2, r, N) (RI P)))))) : E G MX12_look (d + 1) C S 117 [.ref l0, .int l1, .int l2, .int l3, .int l4, .int l5, .int l6, .int l7, .null] [] (a, r, N) (RI P) := T_X12_look_117 _ _ _ hs
set_option maxRecDepth 100000 in
theorem T_X12_look_141 {G : GE} {d C S : Nat} {P : KI} : Snd G MX12_look (d + 1) C S 141 (RI P) (s_iload 7 (s_iconst 3 (s_ic_ge (s_iconst 0 (s_istore 7 (s_iconst 0 (s_istore 8 (fun L st h => E G MX12_look (d + 1) C S 186 (msk [true, true, true, true, true, true, true, true, true] L) st h (RI P)))))) (s_aload 0 (s_getR 11 51 (s_aload 0 (s_iload 1 (s_iload 5 (s_iload 7 (s_callV G d MX12_houseOf 3 11 (s_dup2 (s_iaload (s_aload 0 (s_iload 1 (s_iload 7 (s_callV G d MX12_matesOf 2 11 (s_call G d MX12_ones 1 (s_iadd (s_iastore (s_iinc 7 1 (fun L st h => E G MX12_look (d + 1) C S 141 (msk [true, true, true, true, true, true, true, true, false] L) st h (RI P)))))))))))))))))))))) := (e_iload dX12_look_141 (e_iconst (v := 3) dX12_look_143 (by decide) (e_ic_ge (tgt := 180) dX12_look_144 (by decide) (e_iconst (v := 0) dX12_look_180 (by decide) (e_istore dX12_look_181 (by decide) (e_iconst (v := 0) dX12_look_183 (by decide) (e_istore dX12_look_184 (by decide) (e_msk [true, true, true, true, true, true, true, true, true]))))) (e_aload_n dX12_look_147 rfl (e_getR rfl cl_11 (by decide) rfl q_1615 dX12_look_148 (e_aload_n dX12_look_151 rfl (e_iload_n dX12_look_152 rfl (e_iload dX12_look_153 (e_iload dX12_look_155 (e_callV cl_11 cal_X12_houseOf q_1976 q_1978 q_89 dX12_look_157 (e_dup2 dX12_look_160 (e_iaload dX12_look_161 (e_aload_n dX12_look_162 rfl (e_iload_n dX12_look_163 rfl (e_iload dX12_look_164 (e_callV cl_11 cal_X12_matesOf q_2083 q_2085 q_101 dX12_look_166 (e_callS cal_X12_ones q_2091 q_2092 dX12_look_169 (e_iadd dX12_look_172 (e_iastore dX12_look_173 (e_iinc (v := 1) dX12_look_174 (by decide) (by decide) (e_goto (tgt := 141) dX12_look_177 (by decide) (e_msk [true, true, true, true, true, true, true, true, false]))))))))))))))))))))))
set_option maxRecDepth 100000 in
theorem V_X12_look_141 {G : GE} {d C S : Nat} {P : KI} {a : Nat → Nat → Int32} {r : Nat → Nat → Value} {N : Nat} {l0 : Nat} {l1 : Int32} {l2 : Int32} {l3 : Int32} {l4 : Int32} {l5 : Int32} {l6 : Int32} {l7 : Int32} (hs : ((3 ≤ l7 → E G MX12_look (d + 1) C S 186 [.ref l0, .int l1, .int l2, .int l3, .int l4, .int l5, .int l6, .int 0, .int 0] [] (a, r, N) (RI P)) ∧ (¬ 3 ≤ l7 → (tyK l0 = (0, 11) ∧ l0 < N ∧ ∃ q1, r l0 51 = .ref q1 ∧ (tyK l0 = (0, 11) ∧ l0 < N ∧ Sp G d 0 0 MX12_houseOf [.ref l0, .int l1, .int l5, .int l7] (a, r, N) (RI fun v5 a2 r3 n4 => ((tyK q1).1 = 1 ∧ q1 < n4 ∧ vp_in v5 (tyK q1).2 ∧ (tyK l0 = (0, 11) ∧ l0 < n4 ∧ Sp G d 0 0 MX12_matesOf [.ref l0, .int l1, .int l7] (a2, r3, n4) (RI fun v9 a6 r7 n8 => Sp G d 0 0 MX12_ones [.int v9] (a6, r7, n8) (RI fun v13 a10 r11 n12 => ((tyK q1).1 = 1 ∧ q1 < n12 ∧ vp_in v5 (tyK q1).2 ∧ ∀ a14, a14 = u2 a10 q1 (v5 : Int32).toNatClampNeg ((a2 q1 (v5 : Int32).toNatClampNeg) + v13) → E G MX12_look (d + 1) C S 141 [.ref l0, .int l1, .int l2, .int l3, .int l4, .int l5, .int l6, .int (l7 + 1), .null] [] (a14, r11, n12) (RI P)))))))))))) : E G MX12_look (d + 1) C S 141 [.ref l0, .int l1, .int l2, .int l3, .int l4, .int l5, .int l6, .int l7, .null] [] (a, r, N) (RI P) := T_X12_look_141 _ _ _ hs
set_option maxRecDepth 100000 in
theorem T_X12_look_186 {G : GE} {d C S : Nat} {P : KI} : Snd G MX12_look (d + 1) C S 186 (RI P) (s_iload 8 (s_iconst 21 (s_ic_ge (s_iload 6 (s_if_ne (s_iinc 5 1 (fun L st h => E G MX12_look (d + 1) C S 60 (msk [true, true, true, true, true, true, false, false, false] L) st h (RI P))) (s_iload 3 (s_iconst (-1) (s_ic_eq (s_iload 5 (s_istore 3 (s_iload 7 (s_istore 4 (s_iinc 5 1 (fun L st h => E G MX12_look (d + 1) C S 60 (msk [true, true, true, true, true, true, false, false, false] L) st h (RI P))))))) (s_iload 7 (s_iload 4 (s_ic_lt (s_iload 5 (s_istore 3 (s_iload 7 (s_istore 4 (s_iinc 5 1 (fun L st h => E G MX12_look (d + 1) C S 60 (msk [true, true, true, true, true, true, false, false, false] L) st h (RI P))))))) (s_iinc 5 1 (fun L st h => E G MX12_look (d + 1) C S 60 (msk [true, true, true, true, true, true, false, false, false] L) st h (RI P))))))))))) (s_iload 7 (s_aload 0 (s_getR 11 51 (s_iload 8 (s_iaload (s_call G d MX12_more 2 (s_istore 7 (s_iinc 8 1 (fun L st h => E G MX12_look (d + 1) C S 186 (msk [true, true, true, true, true, true, true, true, true] L) st h (RI P))))))))))))) := (e_iload dX12_look_186 (e_bipush (v := 21) dX12_look_188 (by decide) (e_ic_ge (tgt := 213) dX12_look_190 (by decide) (e_iload dX12_look_213 (e_if_ne (tgt := 240) dX12_look_215 (by decide) (e_iinc (v := 1) dX12_look_240 (by decide) (by decide) (e_goto (tgt := 60) dX12_look_243 (by decide) (e_msk [true, true, true, true, true, true, false, false, false]))) (e_iload_n dX12_look_218 rfl (e_iconst (v := (-1)) dX12_look_219 (by decide) (e_ic_eq (tgt := 233) dX12_look_220 (by decide) (e_iload dX12_look_233 (e_istore_n dX12_look_235 rfl (by decide) (e_iload dX12_look_236 (e_istore dX12_look_238 (by decide) (e_iinc (v := 1) dX12_look_240 (by decide) (by decide) (e_goto (tgt := 60) dX12_look_243 (by decide) (e_msk [true, true, true, true, true, true, false, false, false]))))))) (e_iload dX12_look_223 (e_iload dX12_look_225 (e_ic_lt (tgt := 233) dX12_look_227 (by decide) (e_iload dX12_look_233 (e_istore_n dX12_look_235 rfl (by decide) (e_iload dX12_look_236 (e_istore dX12_look_238 (by decide) (e_iinc (v := 1) dX12_look_240 (by decide) (by decide) (e_goto (tgt := 60) dX12_look_243 (by decide) (e_msk [true, true, true, true, true, true, false, false, false]))))))) (e_goto (tgt := 240) dX12_look_230 (by decide) (e_iinc (v := 1) dX12_look_240 (by decide) (by decide) (e_goto (tgt := 60) dX12_look_243 (by decide) (e_msk [true, true, true, true, true, true, false, false, false])))))))))))) (e_iload dX12_look_193 (e_aload_n dX12_look_195 rfl (e_getR rfl cl_11 (by decide) rfl q_1615 dX12_look_196 (e_iload dX12_look_199 (e_iaload dX12_look_201 (e_callS cal_X12_more q_1906 q_1907 dX12_look_202 (e_istore dX12_look_205 (by decide) (e_iinc (v := 1) dX12_look_207 (by decide) (by decide) (e_goto (tgt := 186) dX12_look_210 (by decide) (e_msk [true, true, true, true, true, true, true, true, true])))))))))))))
set_option maxRecDepth 100000 in
theorem V_X12_look_186 {G : GE} {d C S : Nat} {P : KI} {a : Nat → Nat → Int32} {r : Nat → Nat → Value} {N : Nat} {l0 : Nat} {l1 : Int32} {l2 : Int32} {l3 : Int32} {l4 : Int32} {l5 : Int32} {l6 : Int32} {l7 : Int32} {l8 : Int32} (hs : ((21 ≤ l8 → ((¬ l6 = 0 → E G MX12_look (d + 1) C S 60 [.ref l0, .int l1, .int l2, .int l3, .int l4, .int (l5 + 1), .null, .null, .null] [] (a, r, N) (RI P)) ∧ (l6 = 0 → ((l3 = (-1) → E G MX12_look (d + 1) C S 60 [.ref l0, .int l1, .int l2, .int l5, .int l7, .int (l5 + 1), .null, .null, .null] [] (a, r, N) (RI P)) ∧ (¬ l3 = (-1) → ((l7 < l4 → E G MX12_look (d + 1) C S 60 [.ref l0, .int l1, .int l2, .int l5, .int l7, .int (l5 + 1), .null, .null, .null] [] (a, r, N) (RI P)) ∧ (¬ l7 < l4 → E G MX12_look (d + 1) C S 60 [.ref l0, .int l1, .int l2, .int l3, .int l4, .int (l5 + 1), .null, .null, .null] [] (a, r, N) (RI P)))))))) ∧ (¬ 21 ≤ l8 → (tyK l0 = (0, 11) ∧ l0 < N ∧ ∃ q1, r l0 51 = .ref q1 ∧ ((tyK q1).1 = 1 ∧ q1 < N ∧ vp_in l8 (tyK q1).2 ∧ Sp G d 0 0 MX12_more [.int l7, .int (a q1 (l8 : Int32).toNatClampNeg)] (a, r, N) (RI fun v5 a2 r3 n4 => E G MX12_look (d + 1) C S 186 [.ref l0, .int l1, .int l2, .int l3, .int l4, .int l5, .int l6, .int v5, .int (l8 + 1)] [] (a2, r3, n4) (RI P))))))) : E G MX12_look (d + 1) C S 186 [.ref l0, .int l1, .int l2, .int l3, .int l4, .int l5, .int l6, .int l7, .int l8] [] (a, r, N) (RI P) := T_X12_look_186 _ _ _ hs
theorem dX12_right_0 : decode cX12_right 0 = .ok (.aload_n 0, 1) := by decide +kernel
theorem dX12_right_1 : decode cX12_right 1 = .ok (.iconst 0, 1) := by decide +kernel
theorem dX12_right_2 : decode cX12_right 2 = .ok (.putfield 115, 3) := by decide +kernel
theorem dX12_right_5 : decode cX12_right 5 = .ok (.aload_n 0, 1) := by decide +kernel
theorem dX12_right_6 : decode cX12_right 6 = .ok (.aload_n 0, 1) := by decide +kernel
theorem dX12_right_7 : decode cX12_right 7 = .ok (.iload_n 1, 1) := by decide +kernel
theorem dX12_right_8 : decode cX12_right 8 = .ok (.invokevirtual 340, 3) := by decide +kernel
theorem dX12_right_11 : decode cX12_right 11 = .ok (.ifCond .ne 7, 3) := by decide +kernel
theorem dX12_right_14 : decode cX12_right 14 = .ok (.iconst 1, 1) := by decide +kernel
theorem dX12_right_15 : decode cX12_right 15 = .ok (.goto 4, 3) := by decide +kernel
theorem dX12_right_18 : decode cX12_right 18 = .ok (.iconst 0, 1) := by decide +kernel
theorem dX12_right_19 : decode cX12_right 19 = .ok (.iconst 1, 1) := by decide +kernel
theorem dX12_right_20 : decode cX12_right 20 = .ok (.iconst 1, 1) := by decide +kernel
theorem dX12_right_21 : decode cX12_right 21 = .ok (.invokevirtual 198, 3) := by decide +kernel
theorem dX12_right_24 : decode cX12_right 24 = .ok (.ifCond .eq 5, 3) := by decide +kernel
theorem dX12_right_27 : decode cX12_right 27 = .ok (.iconst 0, 1) := by decide +kernel
theorem dX12_right_28 : decode cX12_right 28 = .ok (.ireturn, 1) := by decide +kernel
theorem dX12_right_29 : decode cX12_right 29 = .ok (.iconst 0, 1) := by decide +kernel
theorem dX12_right_30 : decode cX12_right 30 = .ok (.istore_n 2, 1) := by decide +kernel
theorem dX12_right_31 : decode cX12_right 31 = .ok (.iload_n 2, 1) := by decide +kernel
theorem dX12_right_32 : decode cX12_right 32 = .ok (.aload_n 0, 1) := by decide +kernel
theorem dX12_right_33 : decode cX12_right 33 = .ok (.getfield 218, 3) := by decide +kernel
theorem dX12_right_36 : decode cX12_right 36 = .ok (.if_icmp .ge 38, 3) := by decide +kernel
theorem dX12_right_39 : decode cX12_right 39 = .ok (.aload_n 0, 1) := by decide +kernel
theorem dX12_right_40 : decode cX12_right 40 = .ok (.iload_n 1, 1) := by decide +kernel
theorem dX12_right_41 : decode cX12_right 41 = .ok (.aload_n 0, 1) := by decide +kernel
theorem dX12_right_42 : decode cX12_right 42 = .ok (.getfield 64, 3) := by decide +kernel
theorem dX12_right_45 : decode cX12_right 45 = .ok (.iload_n 2, 1) := by decide +kernel
theorem dX12_right_46 : decode cX12_right 46 = .ok (.aaload, 1) := by decide +kernel
theorem dX12_right_47 : decode cX12_right 47 = .ok (.iconst 0, 1) := by decide +kernel
theorem dX12_right_48 : decode cX12_right 48 = .ok (.iaload, 1) := by decide +kernel
theorem dX12_right_49 : decode cX12_right 49 = .ok (.aload_n 0, 1) := by decide +kernel
theorem dX12_right_50 : decode cX12_right 50 = .ok (.iload_n 1, 1) := by decide +kernel
theorem dX12_right_51 : decode cX12_right 51 = .ok (.invokevirtual 343, 3) := by decide +kernel
theorem dX12_right_54 : decode cX12_right 54 = .ok (.invokevirtual 346, 3) := by decide +kernel
theorem dX12_right_57 : decode cX12_right 57 = .ok (.aload_n 0, 1) := by decide +kernel
theorem dX12_right_58 : decode cX12_right 58 = .ok (.getfield 64, 3) := by decide +kernel
theorem dX12_right_61 : decode cX12_right 61 = .ok (.iload_n 2, 1) := by decide +kernel
theorem dX12_right_62 : decode cX12_right 62 = .ok (.aaload, 1) := by decide +kernel
theorem dX12_right_63 : decode cX12_right 63 = .ok (.iconst 1, 1) := by decide +kernel
theorem dX12_right_64 : decode cX12_right 64 = .ok (.iaload, 1) := by decide +kernel
theorem dX12_right_65 : decode cX12_right 65 = .ok (.if_icmp .ne 9, 3) := by decide +kernel
theorem dX12_right_68 : decode cX12_right 68 = .ok (.iinc 2 1, 3) := by decide +kernel
theorem dX12_right_71 : decode cX12_right 71 = .ok (.goto (-40), 3) := by decide +kernel
theorem dX12_right_74 : decode cX12_right 74 = .ok (.iload_n 2, 1) := by decide +kernel
theorem dX12_right_75 : decode cX12_right 75 = .ok (.ireturn, 1) := by decide +kernel
set_option maxRecDepth 100000 in
theorem T_X12_right_0 {G : GE} {d C S : Nat} {P : KI} : Snd G MX12_right (d + 1) C S 0 (RI P) (s_aload 0 (s_iconst 0 (s_putI 11 0 (s_aload 0 (s_aload 0 (s_iload 1 (s_callV G d MX12_isStreet 1 11 (s_if_ne (s_iconst 0 (s_iconst 1 (s_iconst 1 (s_callV G d MX12_bad 3 11 (s_if_eq (s_iconst 0 (s_istore 2 (fun L st h => E G MX12_right (d + 1) C S 31 (msk [true, true, true] L) st h (RI P)))) (s_iconst 0 (s_ireturn P))))))) (s_iconst 1 (s_iconst 1 (s_iconst 1 (s_callV G d MX12_bad 3 11 (s_if_eq (s_iconst 0 (s_istore 2 (fun L st h => E G MX12_right (d + 1) C S 31 (msk [true, true, true] L) st h (RI P)))) (s_iconst 0 (s_ireturn P))))))))))))))) := (e_aload_n dX12_right_0 rfl (e_iconst (v := 0) dX12_right_1 (by decide) (e_putI rfl cl_11 (by decide) rfl rfl rfl q_1564 dX12_right_2 (e_aload_n dX12_right_5 rfl (e_aload_n dX12_right_6 rfl (e_iload_n dX12_right_7 rfl (e_callV cl_11 cal_X12_isStreet q_1945 q_1947 q_86 dX12_right_8 (e_if_ne (tgt := 18) dX12_right_11 (by decide) (e_iconst (v := 0) dX12_right_18 (by decide) (e_iconst (v := 1) dX12_right_19 (by decide) (e_iconst (v := 1) dX12_right_20 (by decide) (e_callV cl_11 cal_X12_bad q_1742 q_1744 q_53 dX12_right_21 (e_if_eq (tgt := 29) dX12_right_24 (by decide) (e_iconst (v := 0) dX12_right_29 (by decide) (e_istore_n dX12_right_30 rfl (by decide) (e_msk [true, true, true]))) (e_iconst (v := 0) dX12_right_27 (by decide) (e_ireturn rfl dX12_right_28))))))) (e_iconst (v := 1) dX12_right_14 (by decide) (e_goto (tgt := 19) dX12_right_15 (by decide) (e_iconst (v := 1) dX12_right_19 (by decide) (e_iconst (v := 1) dX12_right_20 (by decide) (e_callV cl_11 cal_X12_bad q_1742 q_1744 q_53 dX12_right_21 (e_if_eq (tgt := 29) dX12_right_24 (by decide) (e_iconst (v := 0) dX12_right_29 (by decide) (e_istore_n dX12_right_30 rfl (by decide) (e_msk [true, true, true]))) (e_iconst (v := 0) dX12_right_27 (by decide) (e_ireturn rfl dX12_right_28))))))))))))))))
set_option maxRecDepth 100000 in
theorem V_X12_right_0 {G : GE} {d : Nat} {P : KI} {a : Nat → Nat → Int32} {r : Nat → Nat → Value} {N : Nat} {l0 : Nat} {l1 : Int32} (hs : (tyK l0 = (0, 11) ∧ l0 < N ∧ ∀ a1, a1 = u2 a l0 0 0 → (tyK l0 = (0, 11) ∧ l0 < N ∧ Sp G d 0 0 MX12_isStreet [.ref l0, .int l1] (a1, r, N) (RI fun v5 a2 r3 n4 => ((¬ v5 = 0 → (tyK l0 = (0, 11) ∧ l0 < n4 ∧ Sp G d 0 0 MX12_bad [.ref l0, .int 0, .int 1, .int 1] (a2, r3, n4) (RI fun v9 a6 r7 n8 => ((v9 = 0 → E G MX12_right (d + 1) 0 0 31 [.ref l0, .int l1, .int 0] [] (a6, r7, n8) (RI P)) ∧ (¬ v9 = 0 → P 0 a6 r7 n8))))) ∧ (v5 = 0 → (tyK l0 = (0, 11) ∧ l0 < n4 ∧ Sp G d 0 0 MX12_bad [.ref l0, .int 1, .int 1, .int 1] (a2, r3, n4) (RI fun v13 a10 r11 n12 => ((v13 = 0 → E G MX12_right (d + 1) 0 0 31 [.ref l0, .int l1, .int 0] [] (a10, r11, n12) (RI P)) ∧ (¬ v13 = 0 → P 0 a10 r11 n12)))))))))) : Sp G (d + 1) 0 0 MX12_right [.ref l0, .int l1] (a, r, N) (RI P) := Sp.mk (mc := 0) (ms := 0) [.ref l0, .int l1, .null] rfl rfl rfl rfl (T_X12_right_0 (C := 0) (S := 0) _ _ _ hs)
set_option maxRecDepth 100000 in
theorem T_X12_right_31 {G : GE} {d C S : Nat} {P : KI} : Snd G MX12_right (d + 1) C S 31 (RI P) (s_iload 2 (s_aload 0 (s_getI 11 38 (s_ic_ge (s_iload 2 (s_ireturn P)) (s_aload 0 (s_iload 1 (s_aload 0 (s_getR 11 27 (s_iload 2 (s_aaload (s_iconst 0 (s_iaload (s_aload 0 (s_iload 1 (s_callV G d MX12_howNow 1 11 (s_callV G d MX12_houseOf 3 11 (s_aload 0 (s_getR 11 27 (s_iload 2 (s_aaload (s_iconst 1 (s_iaload (s_ic_ne (s_iload 2 (s_ireturn P)) (s_iinc 2 1 (fun L st h => E G MX12_right (d + 1) C S 31 (msk [true, true, true] L) st h (RI P)))))))))))))))))))))))))) := (e_iload_n dX12_right_31 rfl (e_aload_n dX12_right_32 rfl (e_getI rfl cl_11 (by decide) rfl q_1602 dX12_right_33 (e_ic_ge (tgt := 74) dX12_right_36 (by decide) (e_iload_n dX12_right_74 rfl (e_ireturn rfl dX12_right_75)) (e_aload_n dX12_right_39 rfl (e_iload_n dX12_right_40 rfl (e_aload_n dX12_right_41 rfl (e_getR rfl cl_11 (by decide) rfl q_1591 dX12_right_42 (e_iload_n dX12_right_45 rfl (e_aaload dX12_right_46 (e_iconst (v := 0) dX12_right_47 (by decide) (e_iaload dX12_right_48 (e_aload_n dX12_right_49 rfl (e_iload_n dX12_right_50 rfl (e_callV cl_11 cal_X12_howNow q_1961 q_1963 q_87 dX12_right_51 (e_callV cl_11 cal_X12_houseOf q_1976 q_1978 q_89 dX12_right_54 (e_aload_n dX12_right_57 rfl (e_getR rfl cl_11 (by decide) rfl q_1591 dX12_right_58 (e_iload_n dX12_right_61 rfl (e_aaload dX12_right_62 (e_iconst (v := 1) dX12_right_63 (by decide) (e_iaload dX12_right_64 (e_ic_ne (tgt := 74) dX12_right_65 (by decide) (e_iload_n dX12_right_74 rfl (e_ireturn rfl dX12_right_75)) (e_iinc (v := 1) dX12_right_68 (by decide) (by decide) (e_goto (tgt := 31) dX12_right_71 (by decide) (e_msk [true, true, true]))))))))))))))))))))))))))
set_option maxRecDepth 100000 in
theorem V_X12_right_31 {G : GE} {d C S : Nat} {P : KI} {a : Nat → Nat → Int32} {r : Nat → Nat → Value} {N : Nat} {l0 : Nat} {l1 : Int32} {l2 : Int32} (hs : (tyK l0 = (0, 11) ∧ l0 < N ∧ (((a l0 38) ≤ l2 → P l2 a r N) ∧ (¬ (a l0 38) ≤ l2 → (tyK l0 = (0, 11) ∧ l0 < N ∧ ∃ q1, r l0 27 = .ref q1 ∧ ((tyK q1).1 = 3 ∧ q1 < N ∧ vp_in l2 (tyK q1).2 ∧ ((tyK (q1 + 1 + (l2 : Int32).toNatClampNeg)).1 = 1 ∧ (q1 + 1 + (l2 : Int32).toNatClampNeg) < N ∧ vp_in 0 (tyK (q1 + 1 + (l2 : Int32).toNatClampNeg)).2 ∧ (tyK l0 = (0, 11) ∧ l0 < N ∧ Sp G d 0 0 MX12_howNow [.ref l0, .int l1] (a, r, N) (RI fun v5 a2 r3 n4 => (tyK l0 = (0, 11) ∧ l0 < n4 ∧ Sp G d 0 0 MX12_houseOf [.ref l0, .int l1, .int (a (q1 + 1 + (l2 : Int32).toNatClampNeg) (0 : Int32).toNatClampNeg), .int v5] (a2, r3, n4) (RI fun v9 a6 r7 n8 => (tyK l0 = (0, 11) ∧ l0 < n8 ∧ ∃ q10, r7 l0 27 = .ref q10 ∧ ((tyK q10).1 = 3 ∧ q10 < n8 ∧ vp_in l2 (tyK q10).2 ∧ ((tyK (q10 + 1 + (l2 : Int32).toNatClampNeg)).1 = 1 ∧ (q10 + 1 + (l2 : Int32).toNatClampNeg) < n8 ∧ vp_in 1 (tyK (q10 + 1 + (l2 : Int32).toNatClampNeg)).2 ∧ ((¬ v9 = (a6 (q10 + 1 + (l2 : Int32).toNatClampNeg) (1 : Int32).toNatClampNeg) → P l2 a6 r7 n8) ∧ (v9 = (a6 (q10 + 1 + (l2 : Int32).toNatClampNeg) (1 : Int32).toNatClampNeg) → E G MX12_right (d + 1) C S 31 [.ref l0, .int l1, .int (l2 + 1)] [] (a6, r7, n8) (RI P))))))))))))))))) : E G MX12_right (d + 1) C S 31 [.ref l0, .int l1, .int l2] [] (a, r, N) (RI P) := T_X12_right_31 _ _ _ hs
theorem dX12_laneX_0 : decode cX12_laneX 0 = .ok (.aload_n 0, 1) := by decide +kernel
theorem dX12_laneX_1 : decode cX12_laneX 1 = .ok (.getfield 23, 3) := by decide +kernel
theorem dX12_laneX_4 : decode cX12_laneX 4 = .ok (.iconst 3, 1) := by decide +kernel
theorem dX12_laneX_5 : decode cX12_laneX 5 = .ok (.iaload, 1) := by decide +kernel
theorem dX12_laneX_6 : decode cX12_laneX 6 = .ok (.aload_n 0, 1) := by decide +kernel
theorem dX12_laneX_7 : decode cX12_laneX 7 = .ok (.getfield 23, 3) := by decide +kernel
theorem dX12_laneX_10 : decode cX12_laneX 10 = .ok (.iconst 5, 1) := by decide +kernel
theorem dX12_laneX_11 : decode cX12_laneX 11 = .ok (.iaload, 1) := by decide +kernel
theorem dX12_laneX_12 : decode cX12_laneX 12 = .ok (.iload_n 1, 1) := by decide +kernel
theorem dX12_laneX_13 : decode cX12_laneX 13 = .ok (.imul, 1) := by decide +kernel
theorem dX12_laneX_14 : decode cX12_laneX 14 = .ok (.isub, 1) := by decide +kernel
theorem dX12_laneX_15 : decode cX12_laneX 15 = .ok (.ireturn, 1) := by decide +kernel
set_option maxRecDepth 100000 in
theorem T_X12_laneX_0 {G : GE} {d C S : Nat} {P : KI} : Snd G MX12_laneX d C S 0 (RI P) (s_aload 0 (s_getR 11 12 (s_iconst 3 (s_iaload (s_aload 0 (s_getR 11 12 (s_iconst 5 (s_iaload (s_iload 1 (s_imul (s_isub (s_ireturn P)))))))))))) := (e_aload_n dX12_laneX_0 rfl (e_getR rfl cl_11 (by decide) rfl q_1576 dX12_laneX_1 (e_iconst (v := 3) dX12_laneX_4 (by decide) (e_iaload dX12_laneX_5 (e_aload_n dX12_laneX_6 rfl (e_getR rfl cl_11 (by decide) rfl q_1576 dX12_laneX_7 (e_iconst (v := 5) dX12_laneX_10 (by decide) (e_iaload dX12_laneX_11 (e_iload_n dX12_laneX_12 rfl (e_imul dX12_laneX_13 (e_isub dX12_laneX_14 (e_ireturn rfl dX12_laneX_15))))))))))))
set_option maxRecDepth 100000 in
theorem V_X12_laneX_0 {G : GE} {d : Nat} {P : KI} {a : Nat → Nat → Int32} {r : Nat → Nat → Value} {N : Nat} {l0 : Nat} {l1 : Int32} (hs : (tyK l0 = (0, 11) ∧ l0 < N ∧ ∃ q1, r l0 12 = .ref q1 ∧ ((tyK q1).1 = 1 ∧ q1 < N ∧ vp_in 3 (tyK q1).2 ∧ (tyK l0 = (0, 11) ∧ l0 < N ∧ ∃ q2, r l0 12 = .ref q2 ∧ ((tyK q2).1 = 1 ∧ q2 < N ∧ vp_in 5 (tyK q2).2 ∧ P ((a q1 (3 : Int32).toNatClampNeg) - ((a q2 (5 : Int32).toNatClampNeg) * l1)) a r N))))) : Sp G d 0 0 MX12_laneX [.ref l0, .int l1] (a, r, N) (RI P) := Sp.mk (mc := 0) (ms := 0) [.ref l0, .int l1] rfl rfl rfl rfl (T_X12_laneX_0 (C := 0) (S := 0) _ _ _ hs)
theorem dX12_laneIn_0 : decode cX12_laneIn 0 = .ok (.iconst 0, 1) := by decide +kernel
theorem dX12_laneIn_1 : decode cX12_laneIn 1 = .ok (.istore_n 1, 1) := by decide +kernel
theorem dX12_laneIn_2 : decode cX12_laneIn 2 = .ok (.iload_n 1, 1) := by decide +kernel
theorem dX12_laneIn_3 : decode cX12_laneIn 3 = .ok (.bipush 100, 2) := by decide +kernel
theorem dX12_laneIn_5 : decode cX12_laneIn 5 = .ok (.if_icmp .gt 34, 3) := by decide +kernel
theorem dX12_laneIn_8 : decode cX12_laneIn 8 = .ok (.aload_n 0, 1) := by decide +kernel
theorem dX12_laneIn_9 : decode cX12_laneIn 9 = .ok (.aload_n 0, 1) := by decide +kernel
theorem dX12_laneIn_10 : decode cX12_laneIn 10 = .ok (.getfield 79, 3) := by decide +kernel
theorem dX12_laneIn_13 : decode cX12_laneIn 13 = .ok (.bipush 40, 2) := by decide +kernel
theorem dX12_laneIn_15 : decode cX12_laneIn 15 = .ok (.iaload, 1) := by decide +kernel
theorem dX12_laneIn_16 : decode cX12_laneIn 16 = .ok (.iload_n 1, 1) := by decide +kernel
theorem dX12_laneIn_17 : decode cX12_laneIn 17 = .ok (.iadd, 1) := by decide +kernel
theorem dX12_laneIn_18 : decode cX12_laneIn 18 = .ok (.invokevirtual 409, 3) := by decide +kernel
theorem dX12_laneIn_21 : decode cX12_laneIn 21 = .ok (.aload_n 0, 1) := by decide +kernel
theorem dX12_laneIn_22 : decode cX12_laneIn 22 = .ok (.getfield 23, 3) := by decide +kernel
theorem dX12_laneIn_25 : decode cX12_laneIn 25 = .ok (.bipush 7, 2) := by decide +kernel
theorem dX12_laneIn_27 : decode cX12_laneIn 27 = .ok (.iaload, 1) := by decide +kernel
theorem dX12_laneIn_28 : decode cX12_laneIn 28 = .ok (.if_icmp .gt 5, 3) := by decide +kernel
theorem dX12_laneIn_31 : decode cX12_laneIn 31 = .ok (.iload_n 1, 1) := by decide +kernel
theorem dX12_laneIn_32 : decode cX12_laneIn 32 = .ok (.ireturn, 1) := by decide +kernel
theorem dX12_laneIn_33 : decode cX12_laneIn 33 = .ok (.iinc 1 1, 3) := by decide +kernel
theorem dX12_laneIn_36 : decode cX12_laneIn 36 = .ok (.goto (-34), 3) := by decide +kernel
theorem dX12_laneIn_39 : decode cX12_laneIn 39 = .ok (.iconst (-1), 1) := by decide +kernel
theorem dX12_laneIn_40 : decode cX12_laneIn 40 = .ok (.ireturn, 1) := by decide +kernel
set_option maxRecDepth 100000 in
theorem T_X12_laneIn_0 {G : GE} {d C S : Nat} {P : KI} : Snd G MX12_laneIn (d + 1) C S 0 (RI P) (s_iconst 0 (s_istore 1 (fun L st h => E G MX12_laneIn (d + 1) C S 2 (msk [true, true] L) st h (RI P)))) := (e_iconst (v := 0) dX12_laneIn_0 (by decide) (e_istore_n dX12_laneIn_1 rfl (by decide) (e_msk [true, true])))
set_option maxRecDepth 100000 in
theorem V_X12_laneIn_0 {G : GE} {d : Nat} {P : KI} {a : Nat → Nat → Int32} {r : Nat → Nat → Value} {N : Nat} {l0 : Nat} (hs : E G MX12_laneIn (d + 1) 0 0 2 [.ref l0, .int 0] [] (a, r, N) (RI P)) : Sp G (d + 1) 0 0 MX12_laneIn [.ref l0] (a, r, N) (RI P) := Sp.mk (mc := 0) (ms := 0) [.ref l0, .null] rfl rfl rfl rfl (T_X12_laneIn_0 (C := 0) (S := 0) _ _ _ hs)
set_option maxRecDepth 100000 in
theorem T_X12_laneIn_2 {G : GE} {d C S : Nat} {P : KI} : Snd G MX12_laneIn (d + 1) C S 2 (RI P) (s_iload 1 (s_iconst 100 (s_ic_gt (s_iconst (-1) (s_ireturn P)) (s_aload 0 (s_aload 0 (s_getR 11 33 (s_iconst 40 (s_iaload (s_iload 1 (s_iadd (s_callV G d MX12_laneX 1 11 (s_aload 0 (s_getR 11 12 (s_iconst 7 (s_iaload (s_ic_gt (s_iinc 1 1 (fun L st h => E G MX12_laneIn (d + 1) C S 2 (msk [true, true] L) st h (RI P))) (s_iload 1 (s_ireturn P)))))))))))))))))) := (e_iload_n dX12_laneIn_2 rfl (e_bipush (v := 100) dX12_laneIn_3 (by decide) (e_ic_gt (tgt := 39) dX12_laneIn_5 (by decide) (e_iconst (v := (-1)) dX12_laneIn_39 (by decide) (e_ireturn rfl dX12_laneIn_40)) (e_aload_n dX12_laneIn_8 rfl (e_aload_n dX12_laneIn_9 rfl (e_getR rfl cl_11 (by decide) rfl q_1597 dX12_laneIn_10 (e_bipush (v := 40) dX12_laneIn_13 (by decide) (e_iaload dX12_laneIn_15 (e_iload_n dX12_laneIn_16 rfl (e_iadd dX12_laneIn_17 (e_callV cl_11 cal_X12_laneX q_2110 q_2112 q_104 dX12_laneIn_18 (e_aload_n dX12_laneIn_21 rfl (e_getR rfl cl_11 (by decide) rfl q_1576 dX12_laneIn_22 (e_bipush (v := 7) dX12_laneIn_25 (by decide) (e_iaload dX12_laneIn_27 (e_ic_gt (tgt := 33) dX12_laneIn_28 (by decide) (e_iinc (v := 1) dX12_laneIn_33 (by decide) (by decide) (e_goto (tgt := 2) dX12_laneIn_36 (by decide) (e_msk [true, true]))) (e_iload_n dX12_laneIn_31 rfl (e_ireturn rfl dX12_laneIn_32))))))))))))))))))
set_option maxRecDepth 100000 in
theorem V_X12_laneIn_2 {G : GE} {d C S : Nat} {P : KI} {a : Nat → Nat → Int32} {r : Nat → Nat → Value} {N : Nat} {l0 : Nat} {l1 : Int32} (hs : ((100 < l1 → P (-1) a r N) ∧ (¬ 100 < l1 → (tyK l0 = (0, 11) ∧ l0 < N ∧ ∃ q1, r l0 33 = .ref q1 ∧ ((tyK q1).1 = 1 ∧ q1 < N ∧ vp_in 40 (tyK q1).2 ∧ (tyK l0 = (0, 11) ∧ l0 < N ∧ Sp G d 0 0 MX12_laneX [.ref l0, .int ((a q1 (40 : Int32).toNatClampNeg) + l1)] (a, r, N) (RI fun v5 a2 r3 n4 => (tyK l0 = (0, 11) ∧ l0 < n4 ∧ ∃ q6, r3 l0 12 = .ref q6 ∧ ((tyK q6).1 = 1 ∧ q6 < n4 ∧ vp_in 7 (tyK q6).2 ∧ (((a2 q6 (7 : Int32).toNatClampNeg) < v5 → E G MX12_laneIn (d + 1) C S 2 [.ref l0, .int (l1 + 1)] [] (a2, r3, n4) (RI P)) ∧ (¬ (a2 q6 (7 : Int32).toNatClampNeg) < v5 → P l1 a2 r3 n4))))))))))) : E G MX12_laneIn (d + 1) C S 2 [.ref l0, .int l1] [] (a, r, N) (RI P) := T_X12_laneIn_2 _ _ _ hs
theorem dX12_lane_0 : decode cX12_lane 0 = .ok (.aload_n 0, 1) := by decide +kernel
theorem dX12_lane_1 : decode cX12_lane 1 = .ok (.iconst 0, 1) := by decide +kernel
theorem dX12_lane_2 : decode cX12_lane 2 = .ok (.putfield 115, 3) := by decide +kernel
theorem dX12_lane_5 : decode cX12_lane 5 = .ok (.aload_n 0, 1) := by decide +kernel
theorem dX12_lane_6 : decode cX12_lane 6 = .ok (.invokevirtual 412, 3) := by decide +kernel
theorem dX12_lane_9 : decode cX12_lane 9 = .ok (.ireturn, 1) := by decide +kernel
set_option maxRecDepth 100000 in
theorem T_X12_lane_0 {G : GE} {d C S : Nat} {P : KI} : Snd G MX12_lane (d + 1) C S 0 (RI P) (s_aload 0 (s_iconst 0 (s_putI 11 0 (s_aload 0 (s_callV G d MX12_laneIn 0 11 (s_ireturn P)))))) := (e_aload_n dX12_lane_0 rfl (e_iconst (v := 0) dX12_lane_1 (by decide) (e_putI rfl cl_11 (by decide) rfl rfl rfl q_1564 dX12_lane_2 (e_aload_n dX12_lane_5 rfl (e_callV cl_11 cal_X12_laneIn q_2106 q_2108 q_103 dX12_lane_6 (e_ireturn rfl dX12_lane_9))))))
set_option maxRecDepth 100000 in
theorem V_X12_lane_0 {G : GE} {d : Nat} {P : KI} {a : Nat → Nat → Int32} {r : Nat → Nat → Value} {N : Nat} {l0 : Nat} (hs : (tyK l0 = (0, 11) ∧ l0 < N ∧ ∀ a1, a1 = u2 a l0 0 0 → (tyK l0 = (0, 11) ∧ l0 < N ∧ Sp G d 0 0 MX12_laneIn [.ref l0] (a1, r, N) (RI fun v5 a2 r3 n4 => P v5 a2 r3 n4)))) : Sp G (d + 1) 0 0 MX12_lane [.ref l0] (a, r, N) (RI P) := Sp.mk (mc := 0) (ms := 0) [.ref l0] rfl rfl rfl rfl (T_X12_lane_0 (C := 0) (S := 0) _ _ _ hs)
