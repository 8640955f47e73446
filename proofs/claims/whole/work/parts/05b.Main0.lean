theorem dX11_init_0 : decode cX11_init 0 = .ok (.aload_n 0, 1) := by decide +kernel
theorem dX11_init_1 : decode cX11_init 1 = .ok (.invokespecial 1, 3) := by decide +kernel
theorem dX11_init_4 : decode cX11_init 4 = .ok (.aload_n 0, 1) := by decide +kernel
theorem dX11_init_5 : decode cX11_init 5 = .ok (.sipush 600, 3) := by decide +kernel
theorem dX11_init_8 : decode cX11_init 8 = .ok (.newarray .byte, 2) := by decide +kernel
theorem dX11_init_10 : decode cX11_init 10 = .ok (.putfield 9, 3) := by decide +kernel
theorem dX11_init_13 : decode cX11_init 13 = .ok (.aload_n 0, 1) := by decide +kernel
theorem dX11_init_14 : decode cX11_init 14 = .ok (.new 13, 3) := by decide +kernel
theorem dX11_init_17 : decode cX11_init 17 = .ok (.dup, 1) := by decide +kernel
theorem dX11_init_18 : decode cX11_init 18 = .ok (.aload_n 0, 1) := by decide +kernel
theorem dX11_init_19 : decode cX11_init 19 = .ok (.getfield 9, 3) := by decide +kernel
theorem dX11_init_22 : decode cX11_init 22 = .ok (.invokespecial 15, 3) := by decide +kernel
theorem dX11_init_25 : decode cX11_init 25 = .ok (.putfield 18, 3) := by decide +kernel
theorem dX11_init_28 : decode cX11_init 28 = .ok (.aload_n 0, 1) := by decide +kernel
theorem dX11_init_29 : decode cX11_init 29 = .ok (.new 22, 3) := by decide +kernel
theorem dX11_init_32 : decode cX11_init 32 = .ok (.dup, 1) := by decide +kernel
theorem dX11_init_33 : decode cX11_init 33 = .ok (.invokespecial 24, 3) := by decide +kernel
theorem dX11_init_36 : decode cX11_init 36 = .ok (.putfield 25, 3) := by decide +kernel
theorem dX11_init_39 : decode cX11_init 39 = .ok (.aload_n 0, 1) := by decide +kernel
theorem dX11_init_40 : decode cX11_init 40 = .ok (.new 22, 3) := by decide +kernel
theorem dX11_init_43 : decode cX11_init 43 = .ok (.dup, 1) := by decide +kernel
theorem dX11_init_44 : decode cX11_init 44 = .ok (.invokespecial 24, 3) := by decide +kernel
theorem dX11_init_47 : decode cX11_init 47 = .ok (.putfield 29, 3) := by decide +kernel
theorem dX11_init_50 : decode cX11_init 50 = .ok (.aload_n 0, 1) := by decide +kernel
theorem dX11_init_51 : decode cX11_init 51 = .ok (.new 32, 3) := by decide +kernel
theorem dX11_init_54 : decode cX11_init 54 = .ok (.dup, 1) := by decide +kernel
theorem dX11_init_55 : decode cX11_init 55 = .ok (.invokespecial 34, 3) := by decide +kernel
theorem dX11_init_58 : decode cX11_init 58 = .ok (.putfield 35, 3) := by decide +kernel
theorem dX11_init_61 : decode cX11_init 61 = .ok (.aload_n 0, 1) := by decide +kernel
theorem dX11_init_62 : decode cX11_init 62 = .ok (.new 32, 3) := by decide +kernel
theorem dX11_init_65 : decode cX11_init 65 = .ok (.dup, 1) := by decide +kernel
theorem dX11_init_66 : decode cX11_init 66 = .ok (.invokespecial 34, 3) := by decide +kernel
theorem dX11_init_69 : decode cX11_init 69 = .ok (.putfield 39, 3) := by decide +kernel
theorem dX11_init_72 : decode cX11_init 72 = .ok (.aload_n 0, 1) := by decide +kernel
theorem dX11_init_73 : decode cX11_init 73 = .ok (.new 42, 3) := by decide +kernel
theorem dX11_init_76 : decode cX11_init 76 = .ok (.dup, 1) := by decide +kernel
theorem dX11_init_77 : decode cX11_init 77 = .ok (.invokespecial 44, 3) := by decide +kernel
theorem dX11_init_80 : decode cX11_init 80 = .ok (.putfield 45, 3) := by decide +kernel
theorem dX11_init_83 : decode cX11_init 83 = .ok (.aload_n 0, 1) := by decide +kernel
theorem dX11_init_84 : decode cX11_init 84 = .ok (.new 42, 3) := by decide +kernel
theorem dX11_init_87 : decode cX11_init 87 = .ok (.dup, 1) := by decide +kernel
theorem dX11_init_88 : decode cX11_init 88 = .ok (.invokespecial 44, 3) := by decide +kernel
theorem dX11_init_91 : decode cX11_init 91 = .ok (.putfield 49, 3) := by decide +kernel
theorem dX11_init_94 : decode cX11_init 94 = .ok (.aload_n 0, 1) := by decide +kernel
theorem dX11_init_95 : decode cX11_init 95 = .ok (.new 52, 3) := by decide +kernel
theorem dX11_init_98 : decode cX11_init 98 = .ok (.dup, 1) := by decide +kernel
theorem dX11_init_99 : decode cX11_init 99 = .ok (.invokespecial 54, 3) := by decide +kernel
theorem dX11_init_102 : decode cX11_init 102 = .ok (.putfield 55, 3) := by decide +kernel
theorem dX11_init_105 : decode cX11_init 105 = .ok (.aload_n 0, 1) := by decide +kernel
theorem dX11_init_106 : decode cX11_init 106 = .ok (.new 59, 3) := by decide +kernel
theorem dX11_init_109 : decode cX11_init 109 = .ok (.dup, 1) := by decide +kernel
theorem dX11_init_110 : decode cX11_init 110 = .ok (.invokespecial 61, 3) := by decide +kernel
theorem dX11_init_113 : decode cX11_init 113 = .ok (.putfield 62, 3) := by decide +kernel
theorem dX11_init_116 : decode cX11_init 116 = .ok (.aload_n 0, 1) := by decide +kernel
theorem dX11_init_117 : decode cX11_init 117 = .ok (.new 59, 3) := by decide +kernel
theorem dX11_init_120 : decode cX11_init 120 = .ok (.dup, 1) := by decide +kernel
theorem dX11_init_121 : decode cX11_init 121 = .ok (.invokespecial 61, 3) := by decide +kernel
theorem dX11_init_124 : decode cX11_init 124 = .ok (.putfield 66, 3) := by decide +kernel
theorem dX11_init_127 : decode cX11_init 127 = .ok (.aload_n 0, 1) := by decide +kernel
theorem dX11_init_128 : decode cX11_init 128 = .ok (.new 69, 3) := by decide +kernel
theorem dX11_init_131 : decode cX11_init 131 = .ok (.dup, 1) := by decide +kernel
theorem dX11_init_132 : decode cX11_init 132 = .ok (.invokespecial 71, 3) := by decide +kernel
theorem dX11_init_135 : decode cX11_init 135 = .ok (.putfield 72, 3) := by decide +kernel
theorem dX11_init_138 : decode cX11_init 138 = .ok (.aload_n 0, 1) := by decide +kernel
theorem dX11_init_139 : decode cX11_init 139 = .ok (.new 76, 3) := by decide +kernel
theorem dX11_init_142 : decode cX11_init 142 = .ok (.dup, 1) := by decide +kernel
theorem dX11_init_143 : decode cX11_init 143 = .ok (.invokespecial 78, 3) := by decide +kernel
theorem dX11_init_146 : decode cX11_init 146 = .ok (.putfield 79, 3) := by decide +kernel
theorem dX11_init_149 : decode cX11_init 149 = .ok (.aload_n 0, 1) := by decide +kernel
theorem dX11_init_150 : decode cX11_init 150 = .ok (.new 83, 3) := by decide +kernel
theorem dX11_init_153 : decode cX11_init 153 = .ok (.dup, 1) := by decide +kernel
theorem dX11_init_154 : decode cX11_init 154 = .ok (.invokespecial 85, 3) := by decide +kernel
theorem dX11_init_157 : decode cX11_init 157 = .ok (.putfield 86, 3) := by decide +kernel
theorem dX11_init_160 : decode cX11_init 160 = .ok (.aload_n 0, 1) := by decide +kernel
theorem dX11_init_161 : decode cX11_init 161 = .ok (.new 90, 3) := by decide +kernel
theorem dX11_init_164 : decode cX11_init 164 = .ok (.dup, 1) := by decide +kernel
theorem dX11_init_165 : decode cX11_init 165 = .ok (.invokespecial 92, 3) := by decide +kernel
theorem dX11_init_168 : decode cX11_init 168 = .ok (.putfield 93, 3) := by decide +kernel
theorem dX11_init_171 : decode cX11_init 171 = .ok (.aload_n 0, 1) := by decide +kernel
theorem dX11_init_172 : decode cX11_init 172 = .ok (.getfield 62, 3) := by decide +kernel
theorem dX11_init_175 : decode cX11_init 175 = .ok (.aload_n 0, 1) := by decide +kernel
theorem dX11_init_176 : decode cX11_init 176 = .ok (.getfield 25, 3) := by decide +kernel
theorem dX11_init_179 : decode cX11_init 179 = .ok (.invokevirtual 97, 3) := by decide +kernel
theorem dX11_init_182 : decode cX11_init 182 = .ok (.return_, 1) := by decide +kernel
set_option maxRecDepth 100000 in
theorem T_X11_init_0 {G : GE} {d C S : Nat} {ρ : Rs} : Snd G MX11_init (d + 1) (C + 59) (S + 4745) 0 ρ (s_aload 0 (s_objInit (s_aload 0 (s_iconst 600 (fun L st h => p1 st (fun x _ => x.toNatClampNeg = 600) ∧ s_newB (s_putR 10 0 (s_aload 0 (s_new 9 (s_dup (s_aload 0 (s_getR 10 0 (s_callI G d 0 0 MX10_init 1 (s_putR 10 2 (s_aload 0 (s_new 0 (s_dup (s_callI G d 11 148 MX0_init 0 (s_putR 10 3 (s_aload 0 (s_new 0 (s_dup (s_callI G d 11 148 MX0_init 0 (s_putR 10 4 (s_aload 0 (s_new 2 (s_dup (s_callI G d 2 300 MX2_init 0 (s_putR 10 5 (s_aload 0 (s_new 2 (s_dup (s_callI G d 2 300 MX2_init 0 (s_putR 10 6 (s_aload 0 (s_new 5 (s_dup (s_callI G d 2 16 MX5_init 0 (s_putR 10 7 (s_aload 0 (s_new 5 (s_dup (s_callI G d 2 16 MX5_init 0 (s_putR 10 8 (s_aload 0 (s_new 7 (s_dup (s_callI G d 3 150 MX7_init 0 (s_putR 10 9 (s_aload 0 (s_new 4 (s_dup (s_callI G d 1 42 MX4_init 0 (s_putR 10 10 (s_aload 0 (s_new 4 (s_dup (s_callI G d 1 42 MX4_init 0 (s_putR 10 11 (s_aload 0 (s_new 3 (s_dup (s_callI G d 2 2817 MX3_init 0 (s_putR 10 12 (s_aload 0 (s_new 6 (s_dup (s_callI G d 4 32 MX6_init 0 (s_putR 10 13 (s_aload 0 (s_new 8 (s_dup (s_callI G d 1 10 MX8_init 0 (s_putR 10 14 (s_aload 0 (s_new 1 (s_dup (s_callI G d 2 42 MX1_init 0 (s_putR 10 15 (s_aload 0 (s_getR 10 10 (s_aload 0 (s_getR 10 3 (s_callV G d MX4_begin 1 4 (s_return ρ))))))))))))))))))))))))))))))))))))))))))))))))))))))))))))))))))))))))))))))) L st h))))) := (e_aload_n dX11_init_0 rfl (e_objInit q_140 q_141 q_142 dX11_init_1 (e_aload_n dX11_init_4 rfl (e_sipush (v := 600) dX11_init_5 (by decide) (e_newB (N := 600) q_169 (by decide) dX11_init_8 (e_putRF (ty := .array .byte) rfl rfl cl_10 (by decide) rfl rfl rfl (by decide +kernel) (fun _ => ⟨rfl, rfl⟩) q_428 dX11_init_10 (e_aload_n dX11_init_13 rfl (e_new (N := 6) cl_9 q_143 q_144 q_111 dX11_init_14 (e_dup dX11_init_17 (e_aload_n dX11_init_18 rfl (e_getR rfl cl_10 (by decide) rfl q_428 dX11_init_19 (e_callI (mc := 0) (ms := 0) rfl rfl cal_X10_init q_145 q_146 dX11_init_22 (e_putRF (ty := .object "MarriedStreets$Text") rfl rfl cl_10 (by decide) rfl rfl rfl (by decide +kernel) (fun _ => ⟨rfl, rfl⟩) q_430 dX11_init_25 (e_aload_n dX11_init_28 rfl (e_new (N := 19) cl_0 q_170 q_171 q_112 dX11_init_29 (e_dup dX11_init_32 (e_callI (mc := 11) (ms := 148) rfl rfl cal_X0_init q_172 q_173 dX11_init_33 (e_putR (ty := .object "MarriedStreets$City") rfl cl_10 (by decide) rfl rfl (by decide +kernel) (fun _ => ⟨rfl, rfl⟩) q_431 dX11_init_36 (e_aload_n dX11_init_39 rfl (e_new (N := 19) cl_0 q_170 q_171 q_112 dX11_init_40 (e_dup dX11_init_43 (e_callI (mc := 11) (ms := 148) rfl rfl cal_X0_init q_172 q_173 dX11_init_44 (e_putR (ty := .object "MarriedStreets$City") rfl cl_10 (by decide) rfl rfl (by decide +kernel) (fun _ => ⟨rfl, rfl⟩) q_432 dX11_init_47 (e_aload_n dX11_init_50 rfl (e_new (N := 3) cl_2 q_253 q_254 q_114 dX11_init_51 (e_dup dX11_init_54 (e_callIN (mc := 2) (ms := 300) rfl rfl cal_X2_init q_255 q_256 dX11_init_55 (e_putR (ty := .object "MarriedStreets$Law") rfl cl_10 (by decide) rfl rfl (by decide +kernel) (fun _ => ⟨rfl, rfl⟩) q_433 dX11_init_58 (e_aload_n dX11_init_61 rfl (e_new (N := 3) cl_2 q_253 q_254 q_114 dX11_init_62 (e_dup dX11_init_65 (e_callIN (mc := 2) (ms := 300) rfl rfl cal_X2_init q_255 q_256 dX11_init_66 (e_putR (ty := .object "MarriedStreets$Law") rfl cl_10 (by decide) rfl rfl (by decide +kernel) (fun _ => ⟨rfl, rfl⟩) q_434 dX11_init_69 (e_aload_n dX11_init_72 rfl (e_new (N := 3) cl_5 q_269 q_270 q_115 dX11_init_73 (e_dup dX11_init_76 (e_callIN (mc := 2) (ms := 16) rfl rfl cal_X5_init q_271 q_272 dX11_init_77 (e_putR (ty := .object "MarriedStreets$Mail") rfl cl_10 (by decide) rfl rfl (by decide +kernel) (fun _ => ⟨rfl, rfl⟩) q_435 dX11_init_80 (e_aload_n dX11_init_83 rfl (e_new (N := 3) cl_5 q_269 q_270 q_115 dX11_init_84 (e_dup dX11_init_87 (e_callIN (mc := 2) (ms := 16) rfl rfl cal_X5_init q_271 q_272 dX11_init_88 (e_putR (ty := .object "MarriedStreets$Mail") rfl cl_10 (by decide) rfl rfl (by decide +kernel) (fun _ => ⟨rfl, rfl⟩) q_436 dX11_init_91 (e_aload_n dX11_init_94 rfl (e_new (N := 7) cl_7 q_286 q_287 q_116 dX11_init_95 (e_dup dX11_init_98 (e_callIN (mc := 3) (ms := 150) rfl rfl cal_X7_init q_288 q_289 dX11_init_99 (e_putRF (ty := .object "MarriedStreets$Plan") rfl rfl cl_10 (by decide) rfl rfl rfl (by decide +kernel) (fun _ => ⟨rfl, rfl⟩) q_437 dX11_init_102 (e_aload_n dX11_init_105 rfl (e_new (N := 1) cl_4 q_317 q_318 q_117 dX11_init_106 (e_dup dX11_init_109 (e_callIN (mc := 1) (ms := 42) rfl rfl cal_X4_init q_319 q_320 dX11_init_110 (e_putRF (ty := .object "MarriedStreets$Life") rfl rfl cl_10 (by decide) rfl rfl rfl (by decide +kernel) (fun _ => ⟨rfl, rfl⟩) q_438 dX11_init_113 (e_aload_n dX11_init_116 rfl (e_new (N := 1) cl_4 q_317 q_318 q_117 dX11_init_117 (e_dup dX11_init_120 (e_callIN (mc := 1) (ms := 42) rfl rfl cal_X4_init q_319 q_320 dX11_init_121 (e_putRF (ty := .object "MarriedStreets$Life") rfl rfl cl_10 (by decide) rfl rfl rfl (by decide +kernel) (fun _ => ⟨rfl, rfl⟩) q_439 dX11_init_124 (e_aload_n dX11_init_127 rfl (e_new (N := 4) cl_3 q_327 q_328 q_118 dX11_init_128 (e_dup dX11_init_131 (e_callIN (mc := 2) (ms := 2817) rfl rfl cal_X3_init q_329 q_330 dX11_init_132 (e_putRF (ty := .object "MarriedStreets$Ledger") rfl rfl cl_10 (by decide) rfl rfl rfl (by decide +kernel) (fun _ => ⟨rfl, rfl⟩) q_440 dX11_init_135 (e_aload_n dX11_init_138 rfl (e_new (N := 6) cl_6 q_348 q_349 q_119 dX11_init_139 (e_dup dX11_init_142 (e_callIN (mc := 4) (ms := 32) rfl rfl cal_X6_init q_350 q_351 dX11_init_143 (e_putRF (ty := .object "MarriedStreets$Matcher") rfl rfl cl_10 (by decide) rfl rfl rfl (by decide +kernel) (fun _ => ⟨rfl, rfl⟩) q_441 dX11_init_146 (e_aload_n dX11_init_149 rfl (e_new (N := 2) cl_8 q_375 q_376 q_120 dX11_init_150 (e_dup dX11_init_153 (e_callIN (mc := 1) (ms := 10) rfl rfl cal_X8_init q_377 q_378 dX11_init_154 (e_putRF (ty := .object "MarriedStreets$Roads") rfl rfl cl_10 (by decide) rfl rfl rfl (by decide +kernel) (fun _ => ⟨rfl, rfl⟩) q_442 dX11_init_157 (e_aload_n dX11_init_160 rfl (e_new (N := 5) cl_1 q_388 q_389 q_121 dX11_init_161 (e_dup dX11_init_164 (e_callIN (mc := 2) (ms := 42) rfl rfl cal_X1_init q_390 q_391 dX11_init_165 (e_putRF (ty := .object "MarriedStreets$Dowries") rfl rfl cl_10 (by decide) rfl rfl rfl (by decide +kernel) (fun _ => ⟨rfl, rfl⟩) q_443 dX11_init_168 (e_aload_n dX11_init_171 rfl (e_getR rfl cl_10 (by decide) rfl q_438 dX11_init_172 (e_aload_n dX11_init_175 rfl (e_getR rfl cl_10 (by decide) rfl q_431 dX11_init_176 (e_callV cl_4 cal_X4_begin q_413 q_414 q_415 dX11_init_179 (e_return rfl dX11_init_182))))))))))))))))))))))))))))))))))))))))))))))))))))))))))))))))))))))))))))))))))))
theorem dX11_feed_0 : decode cX11_feed 0 = .ok (.aload_n 0, 1) := by decide +kernel
theorem dX11_feed_1 : decode cX11_feed 1 = .ok (.getfield 101, 3) := by decide +kernel
theorem dX11_feed_4 : decode cX11_feed 4 = .ok (.bipush 20, 2) := by decide +kernel
theorem dX11_feed_6 : decode cX11_feed 6 = .ok (.iadd, 1) := by decide +kernel
theorem dX11_feed_7 : decode cX11_feed 7 = .ok (.sipush 600, 3) := by decide +kernel
theorem dX11_feed_10 : decode cX11_feed 10 = .ok (.if_icmp .le 5, 3) := by decide +kernel
theorem dX11_feed_13 : decode cX11_feed 13 = .ok (.iconst (-1), 1) := by decide +kernel
theorem dX11_feed_14 : decode cX11_feed 14 = .ok (.ireturn, 1) := by decide +kernel
theorem dX11_feed_15 : decode cX11_feed 15 = .ok (.aload_n 0, 1) := by decide +kernel
theorem dX11_feed_16 : decode cX11_feed 16 = .ok (.iload_n 1, 1) := by decide +kernel
theorem dX11_feed_17 : decode cX11_feed 17 = .ok (.invokevirtual 105, 3) := by decide +kernel
theorem dX11_feed_20 : decode cX11_feed 20 = .ok (.aload_n 0, 1) := by decide +kernel
theorem dX11_feed_21 : decode cX11_feed 21 = .ok (.iload_n 2, 1) := by decide +kernel
theorem dX11_feed_22 : decode cX11_feed 22 = .ok (.invokevirtual 105, 3) := by decide +kernel
theorem dX11_feed_25 : decode cX11_feed 25 = .ok (.aload_n 0, 1) := by decide +kernel
theorem dX11_feed_26 : decode cX11_feed 26 = .ok (.iload_n 3, 1) := by decide +kernel
theorem dX11_feed_27 : decode cX11_feed 27 = .ok (.invokevirtual 105, 3) := by decide +kernel
theorem dX11_feed_30 : decode cX11_feed 30 = .ok (.aload_n 0, 1) := by decide +kernel
theorem dX11_feed_31 : decode cX11_feed 31 = .ok (.iload 4, 2) := by decide +kernel
theorem dX11_feed_33 : decode cX11_feed 33 = .ok (.invokevirtual 105, 3) := by decide +kernel
theorem dX11_feed_36 : decode cX11_feed 36 = .ok (.aload_n 0, 1) := by decide +kernel
theorem dX11_feed_37 : decode cX11_feed 37 = .ok (.iload 5, 2) := by decide +kernel
theorem dX11_feed_39 : decode cX11_feed 39 = .ok (.invokevirtual 105, 3) := by decide +kernel
theorem dX11_feed_42 : decode cX11_feed 42 = .ok (.aload_n 0, 1) := by decide +kernel
theorem dX11_feed_43 : decode cX11_feed 43 = .ok (.getfield 101, 3) := by decide +kernel
theorem dX11_feed_46 : decode cX11_feed 46 = .ok (.ireturn, 1) := by decide +kernel
set_option maxRecDepth 100000 in
theorem T_X11_feed_0 {G : GE} {d C S : Nat} {ρ : Rs} : Snd G MX11_feed (d + 1) C S 0 ρ (s_aload 0 (s_getI 10 1 (s_iconst 20 (s_iadd (s_iconst 600 (s_ic_le (s_aload 0 (s_iload 1 (s_callV G d MX11_tapeFour 1 10 (s_aload 0 (s_iload 2 (s_callV G d MX11_tapeFour 1 10 (s_aload 0 (s_iload 3 (s_callV G d MX11_tapeFour 1 10 (s_aload 0 (s_iload 4 (s_callV G d MX11_tapeFour 1 10 (s_aload 0 (s_iload 5 (s_callV G d MX11_tapeFour 1 10 (s_aload 0 (s_getI 10 1 (s_ireturn ρ)))))))))))))))))) (s_iconst (-1) (s_ireturn ρ)))))))) := (e_aload_n dX11_feed_0 rfl (e_getI rfl cl_10 (by decide) rfl q_429 dX11_feed_1 (e_bipush (v := 20) dX11_feed_4 (by decide) (e_iadd dX11_feed_6 (e_sipush (v := 600) dX11_feed_7 (by decide) (e_ic_le (tgt := 15) dX11_feed_10 (by decide) (e_aload_n dX11_feed_15 rfl (e_iload_n dX11_feed_16 rfl (e_callV cl_10 cal_X11_tapeFour q_493 q_495 q_0 dX11_feed_17 (e_aload_n dX11_feed_20 rfl (e_iload_n dX11_feed_21 rfl (e_callV cl_10 cal_X11_tapeFour q_493 q_495 q_0 dX11_feed_22 (e_aload_n dX11_feed_25 rfl (e_iload_n dX11_feed_26 rfl (e_callV cl_10 cal_X11_tapeFour q_493 q_495 q_0 dX11_feed_27 (e_aload_n dX11_feed_30 rfl (e_iload dX11_feed_31 (e_callV cl_10 cal_X11_tapeFour q_493 q_495 q_0 dX11_feed_33 (e_aload_n dX11_feed_36 rfl (e_iload dX11_feed_37 (e_callV cl_10 cal_X11_tapeFour q_493 q_495 q_0 dX11_feed_39 (e_aload_n dX11_feed_42 rfl (e_getI rfl cl_10 (by decide) rfl q_429 dX11_feed_43 (e_ireturn rfl dX11_feed_46)))))))))))))))))) (e_iconst (v := (-1)) dX11_feed_13 (by decide) (e_ireturn rfl dX11_feed_14))))))))
theorem dX11_city_0 : decode cX11_city 0 = .ok (.aload_n 0, 1) := by decide +kernel
theorem dX11_city_1 : decode cX11_city 1 = .ok (.iload_n 1, 1) := by decide +kernel
theorem dX11_city_2 : decode cX11_city 2 = .ok (.sipush 600, 3) := by decide +kernel
theorem dX11_city_5 : decode cX11_city 5 = .ok (.invokevirtual 109, 3) := by decide +kernel
theorem dX11_city_8 : decode cX11_city 8 = .ok (.aload_n 0, 1) := by decide +kernel
theorem dX11_city_9 : decode cX11_city 9 = .ok (.getfield 29, 3) := by decide +kernel
theorem dX11_city_12 : decode cX11_city 12 = .ok (.aload_n 0, 1) := by decide +kernel
theorem dX11_city_13 : decode cX11_city 13 = .ok (.getfield 18, 3) := by decide +kernel
theorem dX11_city_16 : decode cX11_city 16 = .ok (.invokevirtual 113, 3) := by decide +kernel
theorem dX11_city_19 : decode cX11_city 19 = .ok (.ifCond .ne 11, 3) := by decide +kernel
theorem dX11_city_22 : decode cX11_city 22 = .ok (.aload_n 0, 1) := by decide +kernel
theorem dX11_city_23 : decode cX11_city 23 = .ok (.getfield 18, 3) := by decide +kernel
theorem dX11_city_26 : decode cX11_city 26 = .ok (.invokevirtual 117, 3) := by decide +kernel
theorem dX11_city_29 : decode cX11_city 29 = .ok (.ireturn, 1) := by decide +kernel
theorem dX11_city_30 : decode cX11_city 30 = .ok (.aload_n 0, 1) := by decide +kernel
theorem dX11_city_31 : decode cX11_city 31 = .ok (.getfield 25, 3) := by decide +kernel
theorem dX11_city_34 : decode cX11_city 34 = .ok (.astore_n 2, 1) := by decide +kernel
theorem dX11_city_35 : decode cX11_city 35 = .ok (.aload_n 0, 1) := by decide +kernel
theorem dX11_city_36 : decode cX11_city 36 = .ok (.aload_n 0, 1) := by decide +kernel
theorem dX11_city_37 : decode cX11_city 37 = .ok (.getfield 29, 3) := by decide +kernel
theorem dX11_city_40 : decode cX11_city 40 = .ok (.putfield 25, 3) := by decide +kernel
theorem dX11_city_43 : decode cX11_city 43 = .ok (.aload_n 0, 1) := by decide +kernel
theorem dX11_city_44 : decode cX11_city 44 = .ok (.aload_n 2, 1) := by decide +kernel
theorem dX11_city_45 : decode cX11_city 45 = .ok (.putfield 29, 3) := by decide +kernel
theorem dX11_city_48 : decode cX11_city 48 = .ok (.aload_n 0, 1) := by decide +kernel
theorem dX11_city_49 : decode cX11_city 49 = .ok (.getfield 35, 3) := by decide +kernel
theorem dX11_city_52 : decode cX11_city 52 = .ok (.invokevirtual 121, 3) := by decide +kernel
theorem dX11_city_55 : decode cX11_city 55 = .ok (.aload_n 0, 1) := by decide +kernel
theorem dX11_city_56 : decode cX11_city 56 = .ok (.getfield 45, 3) := by decide +kernel
theorem dX11_city_59 : decode cX11_city 59 = .ok (.invokevirtual 124, 3) := by decide +kernel
theorem dX11_city_62 : decode cX11_city 62 = .ok (.aload_n 0, 1) := by decide +kernel
theorem dX11_city_63 : decode cX11_city 63 = .ok (.getfield 72, 3) := by decide +kernel
theorem dX11_city_66 : decode cX11_city 66 = .ok (.invokevirtual 125, 3) := by decide +kernel
theorem dX11_city_69 : decode cX11_city 69 = .ok (.aload_n 0, 1) := by decide +kernel
theorem dX11_city_70 : decode cX11_city 70 = .ok (.getfield 62, 3) := by decide +kernel
theorem dX11_city_73 : decode cX11_city 73 = .ok (.aload_n 0, 1) := by decide +kernel
theorem dX11_city_74 : decode cX11_city 74 = .ok (.getfield 25, 3) := by decide +kernel
theorem dX11_city_77 : decode cX11_city 77 = .ok (.invokevirtual 97, 3) := by decide +kernel
theorem dX11_city_80 : decode cX11_city 80 = .ok (.aload_n 0, 1) := by decide +kernel
theorem dX11_city_81 : decode cX11_city 81 = .ok (.iconst 0, 1) := by decide +kernel
theorem dX11_city_82 : decode cX11_city 82 = .ok (.putfield 126, 3) := by decide +kernel
theorem dX11_city_85 : decode cX11_city 85 = .ok (.aload_n 0, 1) := by decide +kernel
theorem dX11_city_86 : decode cX11_city 86 = .ok (.getfield 25, 3) := by decide +kernel
theorem dX11_city_89 : decode cX11_city 89 = .ok (.getfield 129, 3) := by decide +kernel
theorem dX11_city_92 : decode cX11_city 92 = .ok (.ireturn, 1) := by decide +kernel
set_option maxRecDepth 100000 in
theorem T_X11_city_0 {G : GE} {d C S : Nat} {ρ : Rs} : Snd G MX11_city (d + 1) C S 0 ρ (s_aload 0 (s_iload 1 (s_iconst 600 (s_callV G d MX11_openText 2 10 (s_aload 0 (s_getR 10 4 (s_aload 0 (s_getR 10 2 (s_callV G d MX0_readAll 1 0 (s_if_ne (s_aload 0 (s_getR 10 3 (s_astore 2 (s_aload 0 (s_aload 0 (s_getR 10 4 (s_putR 10 3 (s_aload 0 (s_aload 2 (s_putR 10 4 (s_aload 0 (s_getR 10 5 (s_callV G d MX2_clear 0 2 (s_aload 0 (s_getR 10 7 (s_callV G d MX5_clear 0 5 (s_aload 0 (s_getR 10 12 (s_callV G d MX3_clear 0 3 (s_aload 0 (s_getR 10 10 (s_aload 0 (s_getR 10 3 (s_callV G d MX4_begin 1 4 (s_aload 0 (s_iconst 0 (s_putI 10 16 (s_aload 0 (s_getR 10 3 (s_getI 0 1 (s_ireturn ρ))))))))))))))))))))))))))))))) (s_aload 0 (s_getR 10 2 (s_callV G d MX10_answer 0 9 (s_ireturn ρ)))))))))))))) := (e_aload_n dX11_city_0 rfl (e_iload_n dX11_city_1 rfl (e_sipush (v := 600) dX11_city_2 (by decide) (e_callV cl_10 cal_X11_openText q_711 q_713 q_10 dX11_city_5 (e_aload_n dX11_city_8 rfl (e_getR rfl cl_10 (by decide) rfl q_432 dX11_city_9 (e_aload_n dX11_city_12 rfl (e_getR rfl cl_10 (by decide) rfl q_430 dX11_city_13 (e_callV cl_0 cal_X0_readAll q_791 q_792 q_793 dX11_city_16 (e_if_ne (tgt := 30) dX11_city_19 (by decide) (e_aload_n dX11_city_30 rfl (e_getR rfl cl_10 (by decide) rfl q_431 dX11_city_31 (e_astore_n dX11_city_34 rfl (by decide) (e_aload_n dX11_city_35 rfl (e_aload_n dX11_city_36 rfl (e_getR rfl cl_10 (by decide) rfl q_432 dX11_city_37 (e_putR (ty := .object "MarriedStreets$City") rfl cl_10 (by decide) rfl rfl (by decide +kernel) (fun _ => ⟨rfl, rfl⟩) q_431 dX11_city_40 (e_aload_n dX11_city_43 rfl (e_aload_n dX11_city_44 rfl (e_putR (ty := .object "MarriedStreets$City") rfl cl_10 (by decide) rfl rfl (by decide +kernel) (fun _ => ⟨rfl, rfl⟩) q_432 dX11_city_45 (e_aload_n dX11_city_48 rfl (e_getR rfl cl_10 (by decide) rfl q_433 dX11_city_49 (e_callV cl_2 cal_X2_clear q_960 q_961 q_962 dX11_city_52 (e_aload_n dX11_city_55 rfl (e_getR rfl cl_10 (by decide) rfl q_435 dX11_city_56 (e_callV cl_5 cal_X5_clear q_964 q_965 q_966 dX11_city_59 (e_aload_n dX11_city_62 rfl (e_getR rfl cl_10 (by decide) rfl q_440 dX11_city_63 (e_callV cl_3 cal_X3_clear q_968 q_969 q_970 dX11_city_66 (e_aload_n dX11_city_69 rfl (e_getR rfl cl_10 (by decide) rfl q_438 dX11_city_70 (e_aload_n dX11_city_73 rfl (e_getR rfl cl_10 (by decide) rfl q_431 dX11_city_74 (e_callV cl_4 cal_X4_begin q_413 q_414 q_415 dX11_city_77 (e_aload_n dX11_city_80 rfl (e_iconst (v := 0) dX11_city_81 (by decide) (e_putI rfl cl_10 (by decide) rfl rfl rfl q_444 dX11_city_82 (e_aload_n dX11_city_85 rfl (e_getR rfl cl_10 (by decide) rfl q_431 dX11_city_86 (e_getIN rfl cl_0 (by decide) rfl q_192 dX11_city_89 (e_ireturn rfl dX11_city_92))))))))))))))))))))))))))))))) (e_aload_n dX11_city_22 rfl (e_getR rfl cl_10 (by decide) rfl q_430 dX11_city_23 (e_callV cl_9 cal_X10_answer q_956 q_957 q_958 dX11_city_26 (e_ireturn rfl dX11_city_29))))))))))))))
set_option maxRecDepth 100000 in
theorem TX_X11_city_0 {G : GE} {d C S : Nat} {ρ : Rs} : Snd G MX11_city (d + 1) (C + 1) (S + 6) 0 ρ (s_aload 0 (s_iload 1 (s_iconst 600 (s_callVB G d MX11_openText 2 10 ρ (s_aload 0 (s_getR 10 4 (s_aload 0 (s_getR 10 2 (s_callV G d MX0_readAll 1 0 (s_if_ne (s_aload 0 (s_getR 10 3 (s_astore 2 (s_aload 0 (s_aload 0 (s_getR 10 4 (s_putR 10 3 (s_aload 0 (s_aload 2 (s_putR 10 4 (s_aload 0 (s_getR 10 5 (s_callV G d MX2_clear 0 2 (s_aload 0 (s_getR 10 7 (s_callV G d MX5_clear 0 5 (s_aload 0 (s_getR 10 12 (s_callV G d MX3_clear 0 3 (s_aload 0 (s_getR 10 10 (s_aload 0 (s_getR 10 3 (s_callV G d MX4_begin 1 4 (s_aload 0 (s_iconst 0 (s_putI 10 16 (s_aload 0 (s_getR 10 3 (s_getI 0 1 (s_ireturn ρ))))))))))))))))))))))))))))))) (s_aload 0 (s_getR 10 2 (s_callV G d MX10_answer 0 9 (s_ireturn ρ)))))))))))))) := (e_aload_n dX11_city_0 rfl (e_iload_n dX11_city_1 rfl (e_sipush (v := 600) dX11_city_2 (by decide) (e_callVB rfl cl_10 cal_X11_openText q_711 q_713 q_10 dX11_city_5 (e_aload_n dX11_city_8 rfl (e_getR rfl cl_10 (by decide) rfl q_432 dX11_city_9 (e_aload_n dX11_city_12 rfl (e_getR rfl cl_10 (by decide) rfl q_430 dX11_city_13 (e_callV cl_0 cal_X0_readAll q_791 q_792 q_793 dX11_city_16 (e_if_ne (tgt := 30) dX11_city_19 (by decide) (e_aload_n dX11_city_30 rfl (e_getR rfl cl_10 (by decide) rfl q_431 dX11_city_31 (e_astore_n dX11_city_34 rfl (by decide) (e_aload_n dX11_city_35 rfl (e_aload_n dX11_city_36 rfl (e_getR rfl cl_10 (by decide) rfl q_432 dX11_city_37 (e_putR (ty := .object "MarriedStreets$City") rfl cl_10 (by decide) rfl rfl (by decide +kernel) (fun _ => ⟨rfl, rfl⟩) q_431 dX11_city_40 (e_aload_n dX11_city_43 rfl (e_aload_n dX11_city_44 rfl (e_putR (ty := .object "MarriedStreets$City") rfl cl_10 (by decide) rfl rfl (by decide +kernel) (fun _ => ⟨rfl, rfl⟩) q_432 dX11_city_45 (e_aload_n dX11_city_48 rfl (e_getR rfl cl_10 (by decide) rfl q_433 dX11_city_49 (e_callV cl_2 cal_X2_clear q_960 q_961 q_962 dX11_city_52 (e_aload_n dX11_city_55 rfl (e_getR rfl cl_10 (by decide) rfl q_435 dX11_city_56 (e_callV cl_5 cal_X5_clear q_964 q_965 q_966 dX11_city_59 (e_aload_n dX11_city_62 rfl (e_getR rfl cl_10 (by decide) rfl q_440 dX11_city_63 (e_callV cl_3 cal_X3_clear q_968 q_969 q_970 dX11_city_66 (e_aload_n dX11_city_69 rfl (e_getR rfl cl_10 (by decide) rfl q_438 dX11_city_70 (e_aload_n dX11_city_73 rfl (e_getR rfl cl_10 (by decide) rfl q_431 dX11_city_74 (e_callV cl_4 cal_X4_begin q_413 q_414 q_415 dX11_city_77 (e_aload_n dX11_city_80 rfl (e_iconst (v := 0) dX11_city_81 (by decide) (e_putI rfl cl_10 (by decide) rfl rfl rfl q_444 dX11_city_82 (e_aload_n dX11_city_85 rfl (e_getR rfl cl_10 (by decide) rfl q_431 dX11_city_86 (e_getIN rfl cl_0 (by decide) rfl q_192 dX11_city_89 (e_ireturn rfl dX11_city_92))))))))))))))))))))))))))))))) (e_aload_n dX11_city_22 rfl (e_getR rfl cl_10 (by decide) rfl q_430 dX11_city_23 (e_callV cl_9 cal_X10_answer q_956 q_957 q_958 dX11_city_26 (e_ireturn rfl dX11_city_29))))))))))))))
theorem dX11_law_0 : decode cX11_law 0 = .ok (.aload_n 0, 1) := by decide +kernel
theorem dX11_law_1 : decode cX11_law 1 = .ok (.iload_n 1, 1) := by decide +kernel
theorem dX11_law_2 : decode cX11_law 2 = .ok (.sipush 150, 3) := by decide +kernel
theorem dX11_law_5 : decode cX11_law 5 = .ok (.invokevirtual 109, 3) := by decide +kernel
theorem dX11_law_8 : decode cX11_law 8 = .ok (.aload_n 0, 1) := by decide +kernel
theorem dX11_law_9 : decode cX11_law 9 = .ok (.getfield 39, 3) := by decide +kernel
theorem dX11_law_12 : decode cX11_law 12 = .ok (.aload_n 0, 1) := by decide +kernel
theorem dX11_law_13 : decode cX11_law 13 = .ok (.getfield 18, 3) := by decide +kernel
theorem dX11_law_16 : decode cX11_law 16 = .ok (.invokevirtual 132, 3) := by decide +kernel
theorem dX11_law_19 : decode cX11_law 19 = .ok (.ifCond .ne 11, 3) := by decide +kernel
theorem dX11_law_22 : decode cX11_law 22 = .ok (.aload_n 0, 1) := by decide +kernel
theorem dX11_law_23 : decode cX11_law 23 = .ok (.getfield 18, 3) := by decide +kernel
theorem dX11_law_26 : decode cX11_law 26 = .ok (.invokevirtual 117, 3) := by decide +kernel
theorem dX11_law_29 : decode cX11_law 29 = .ok (.ireturn, 1) := by decide +kernel
theorem dX11_law_30 : decode cX11_law 30 = .ok (.aload_n 0, 1) := by decide +kernel
theorem dX11_law_31 : decode cX11_law 31 = .ok (.getfield 35, 3) := by decide +kernel
theorem dX11_law_34 : decode cX11_law 34 = .ok (.astore_n 2, 1) := by decide +kernel
theorem dX11_law_35 : decode cX11_law 35 = .ok (.aload_n 0, 1) := by decide +kernel
theorem dX11_law_36 : decode cX11_law 36 = .ok (.aload_n 0, 1) := by decide +kernel
theorem dX11_law_37 : decode cX11_law 37 = .ok (.getfield 39, 3) := by decide +kernel
theorem dX11_law_40 : decode cX11_law 40 = .ok (.putfield 35, 3) := by decide +kernel
theorem dX11_law_43 : decode cX11_law 43 = .ok (.aload_n 0, 1) := by decide +kernel
theorem dX11_law_44 : decode cX11_law 44 = .ok (.aload_n 2, 1) := by decide +kernel
theorem dX11_law_45 : decode cX11_law 45 = .ok (.putfield 39, 3) := by decide +kernel
theorem dX11_law_48 : decode cX11_law 48 = .ok (.iconst 1, 1) := by decide +kernel
theorem dX11_law_49 : decode cX11_law 49 = .ok (.ireturn, 1) := by decide +kernel
set_option maxRecDepth 100000 in
theorem T_X11_law_0 {G : GE} {d C S : Nat} {ρ : Rs} : Snd G MX11_law (d + 1) C S 0 ρ (s_aload 0 (s_iload 1 (s_iconst 150 (s_callV G d MX11_openText 2 10 (s_aload 0 (s_getR 10 6 (s_aload 0 (s_getR 10 2 (s_callV G d MX2_readAll 1 2 (s_if_ne (s_aload 0 (s_getR 10 5 (s_astore 2 (s_aload 0 (s_aload 0 (s_getR 10 6 (s_putR 10 5 (s_aload 0 (s_aload 2 (s_putR 10 6 (s_iconst 1 (s_ireturn ρ)))))))))))) (s_aload 0 (s_getR 10 2 (s_callV G d MX10_answer 0 9 (s_ireturn ρ)))))))))))))) := (e_aload_n dX11_law_0 rfl (e_iload_n dX11_law_1 rfl (e_sipush (v := 150) dX11_law_2 (by decide) (e_callV cl_10 cal_X11_openText q_711 q_713 q_10 dX11_law_5 (e_aload_n dX11_law_8 rfl (e_getR rfl cl_10 (by decide) rfl q_434 dX11_law_9 (e_aload_n dX11_law_12 rfl (e_getR rfl cl_10 (by decide) rfl q_430 dX11_law_13 (e_callV cl_2 cal_X2_readAll q_979 q_980 q_981 dX11_law_16 (e_if_ne (tgt := 30) dX11_law_19 (by decide) (e_aload_n dX11_law_30 rfl (e_getR rfl cl_10 (by decide) rfl q_433 dX11_law_31 (e_astore_n dX11_law_34 rfl (by decide) (e_aload_n dX11_law_35 rfl (e_aload_n dX11_law_36 rfl (e_getR rfl cl_10 (by decide) rfl q_434 dX11_law_37 (e_putR (ty := .object "MarriedStreets$Law") rfl cl_10 (by decide) rfl rfl (by decide +kernel) (fun _ => ⟨rfl, rfl⟩) q_433 dX11_law_40 (e_aload_n dX11_law_43 rfl (e_aload_n dX11_law_44 rfl (e_putR (ty := .object "MarriedStreets$Law") rfl cl_10 (by decide) rfl rfl (by decide +kernel) (fun _ => ⟨rfl, rfl⟩) q_434 dX11_law_45 (e_iconst (v := 1) dX11_law_48 (by decide) (e_ireturn rfl dX11_law_49)))))))))))) (e_aload_n dX11_law_22 rfl (e_getR rfl cl_10 (by decide) rfl q_430 dX11_law_23 (e_callV cl_9 cal_X10_answer q_956 q_957 q_958 dX11_law_26 (e_ireturn rfl dX11_law_29))))))))))))))
set_option maxRecDepth 100000 in
theorem TX_X11_law_0 {G : GE} {d C S : Nat} {ρ : Rs} : Snd G MX11_law (d + 1) (C + 1) (S + 6) 0 ρ (s_aload 0 (s_iload 1 (s_iconst 150 (s_callVB G d MX11_openText 2 10 ρ (s_aload 0 (s_getR 10 6 (s_aload 0 (s_getR 10 2 (s_callV G d MX2_readAll 1 2 (s_if_ne (s_aload 0 (s_getR 10 5 (s_astore 2 (s_aload 0 (s_aload 0 (s_getR 10 6 (s_putR 10 5 (s_aload 0 (s_aload 2 (s_putR 10 6 (s_iconst 1 (s_ireturn ρ)))))))))))) (s_aload 0 (s_getR 10 2 (s_callV G d MX10_answer 0 9 (s_ireturn ρ)))))))))))))) := (e_aload_n dX11_law_0 rfl (e_iload_n dX11_law_1 rfl (e_sipush (v := 150) dX11_law_2 (by decide) (e_callVB rfl cl_10 cal_X11_openText q_711 q_713 q_10 dX11_law_5 (e_aload_n dX11_law_8 rfl (e_getR rfl cl_10 (by decide) rfl q_434 dX11_law_9 (e_aload_n dX11_law_12 rfl (e_getR rfl cl_10 (by decide) rfl q_430 dX11_law_13 (e_callV cl_2 cal_X2_readAll q_979 q_980 q_981 dX11_law_16 (e_if_ne (tgt := 30) dX11_law_19 (by decide) (e_aload_n dX11_law_30 rfl (e_getR rfl cl_10 (by decide) rfl q_433 dX11_law_31 (e_astore_n dX11_law_34 rfl (by decide) (e_aload_n dX11_law_35 rfl (e_aload_n dX11_law_36 rfl (e_getR rfl cl_10 (by decide) rfl q_434 dX11_law_37 (e_putR (ty := .object "MarriedStreets$Law") rfl cl_10 (by decide) rfl rfl (by decide +kernel) (fun _ => ⟨rfl, rfl⟩) q_433 dX11_law_40 (e_aload_n dX11_law_43 rfl (e_aload_n dX11_law_44 rfl (e_putR (ty := .object "MarriedStreets$Law") rfl cl_10 (by decide) rfl rfl (by decide +kernel) (fun _ => ⟨rfl, rfl⟩) q_434 dX11_law_45 (e_iconst (v := 1) dX11_law_48 (by decide) (e_ireturn rfl dX11_law_49)))))))))))) (e_aload_n dX11_law_22 rfl (e_getR rfl cl_10 (by decide) rfl q_430 dX11_law_23 (e_callV cl_9 cal_X10_answer q_956 q_957 q_958 dX11_law_26 (e_ireturn rfl dX11_law_29))))))))))))))
theorem dX11_work_0 : decode cX11_work 0 = .ok (.aload_n 0, 1) := by decide +kernel
theorem dX11_work_1 : decode cX11_work 1 = .ok (.iload_n 1, 1) := by decide +kernel
theorem dX11_work_2 : decode cX11_work 2 = .ok (.sipush 150, 3) := by decide +kernel
theorem dX11_work_5 : decode cX11_work 5 = .ok (.invokevirtual 109, 3) := by decide +kernel
theorem dX11_work_8 : decode cX11_work 8 = .ok (.aload_n 0, 1) := by decide +kernel
theorem dX11_work_9 : decode cX11_work 9 = .ok (.getfield 72, 3) := by decide +kernel
theorem dX11_work_12 : decode cX11_work 12 = .ok (.invokevirtual 133, 3) := by decide +kernel
theorem dX11_work_15 : decode cX11_work 15 = .ok (.ifCond .eq 6, 3) := by decide +kernel
theorem dX11_work_18 : decode cX11_work 18 = .ok (.bipush (-20), 2) := by decide +kernel
theorem dX11_work_20 : decode cX11_work 20 = .ok (.ireturn, 1) := by decide +kernel
theorem dX11_work_21 : decode cX11_work 21 = .ok (.aload_n 0, 1) := by decide +kernel
theorem dX11_work_22 : decode cX11_work 22 = .ok (.getfield 55, 3) := by decide +kernel
theorem dX11_work_25 : decode cX11_work 25 = .ok (.aload_n 0, 1) := by decide +kernel
theorem dX11_work_26 : decode cX11_work 26 = .ok (.getfield 18, 3) := by decide +kernel
theorem dX11_work_29 : decode cX11_work 29 = .ok (.aload_n 0, 1) := by decide +kernel
theorem dX11_work_30 : decode cX11_work 30 = .ok (.getfield 25, 3) := by decide +kernel
theorem dX11_work_33 : decode cX11_work 33 = .ok (.getfield 129, 3) := by decide +kernel
theorem dX11_work_36 : decode cX11_work 36 = .ok (.invokevirtual 137, 3) := by decide +kernel
theorem dX11_work_39 : decode cX11_work 39 = .ok (.ifCond .ne 11, 3) := by decide +kernel
theorem dX11_work_42 : decode cX11_work 42 = .ok (.aload_n 0, 1) := by decide +kernel
theorem dX11_work_43 : decode cX11_work 43 = .ok (.getfield 18, 3) := by decide +kernel
theorem dX11_work_46 : decode cX11_work 46 = .ok (.invokevirtual 117, 3) := by decide +kernel
theorem dX11_work_49 : decode cX11_work 49 = .ok (.ireturn, 1) := by decide +kernel
theorem dX11_work_50 : decode cX11_work 50 = .ok (.aload_n 0, 1) := by decide +kernel
theorem dX11_work_51 : decode cX11_work 51 = .ok (.getfield 72, 3) := by decide +kernel
theorem dX11_work_54 : decode cX11_work 54 = .ok (.aload_n 0, 1) := by decide +kernel
theorem dX11_work_55 : decode cX11_work 55 = .ok (.getfield 62, 3) := by decide +kernel
theorem dX11_work_58 : decode cX11_work 58 = .ok (.invokevirtual 140, 3) := by decide +kernel
theorem dX11_work_61 : decode cX11_work 61 = .ok (.aload_n 0, 1) := by decide +kernel
theorem dX11_work_62 : decode cX11_work 62 = .ok (.getfield 55, 3) := by decide +kernel
theorem dX11_work_65 : decode cX11_work 65 = .ok (.iconst 0, 1) := by decide +kernel
theorem dX11_work_66 : decode cX11_work 66 = .ok (.aload_n 0, 1) := by decide +kernel
theorem dX11_work_67 : decode cX11_work 67 = .ok (.getfield 55, 3) := by decide +kernel
theorem dX11_work_70 : decode cX11_work 70 = .ok (.getfield 144, 3) := by decide +kernel
theorem dX11_work_73 : decode cX11_work 73 = .ok (.iconst 0, 1) := by decide +kernel
theorem dX11_work_74 : decode cX11_work 74 = .ok (.aload_n 0, 1) := by decide +kernel
theorem dX11_work_75 : decode cX11_work 75 = .ok (.getfield 62, 3) := by decide +kernel
theorem dX11_work_78 : decode cX11_work 78 = .ok (.aload_n 0, 1) := by decide +kernel
theorem dX11_work_79 : decode cX11_work 79 = .ok (.getfield 25, 3) := by decide +kernel
theorem dX11_work_82 : decode cX11_work 82 = .ok (.aload_n 0, 1) := by decide +kernel
theorem dX11_work_83 : decode cX11_work 83 = .ok (.getfield 35, 3) := by decide +kernel
theorem dX11_work_86 : decode cX11_work 86 = .ok (.invokevirtual 147, 3) := by decide +kernel
theorem dX11_work_89 : decode cX11_work 89 = .ok (.aload_n 0, 1) := by decide +kernel
theorem dX11_work_90 : decode cX11_work 90 = .ok (.aload_n 0, 1) := by decide +kernel
theorem dX11_work_91 : decode cX11_work 91 = .ok (.getfield 55, 3) := by decide +kernel
theorem dX11_work_94 : decode cX11_work 94 = .ok (.getfield 151, 3) := by decide +kernel
theorem dX11_work_97 : decode cX11_work 97 = .ok (.putfield 126, 3) := by decide +kernel
theorem dX11_work_100 : decode cX11_work 100 = .ok (.aload_n 0, 1) := by decide +kernel
theorem dX11_work_101 : decode cX11_work 101 = .ok (.getfield 55, 3) := by decide +kernel
theorem dX11_work_104 : decode cX11_work 104 = .ok (.getfield 154, 3) := by decide +kernel
theorem dX11_work_107 : decode cX11_work 107 = .ok (.ireturn, 1) := by decide +kernel
set_option maxRecDepth 100000 in
theorem T_X11_work_0 {G : GE} {d C S : Nat} {ρ : Rs} : Snd G MX11_work (d + 1) C S 0 ρ (s_aload 0 (s_iload 1 (s_iconst 150 (s_callV G d MX11_openText 2 10 (s_aload 0 (s_getR 10 12 (s_callV G d MX3_isFull 0 3 (s_if_eq (s_aload 0 (s_getR 10 9 (s_aload 0 (s_getR 10 2 (s_aload 0 (s_getR 10 3 (s_getI 0 1 (s_callV G d MX7_readAll 2 7 (s_if_ne (s_aload 0 (s_getR 10 12 (s_aload 0 (s_getR 10 10 (s_callV G d MX3_keepWork 1 3 (s_aload 0 (s_getR 10 9 (s_iconst 0 (s_aload 0 (s_getR 10 9 (s_getI 7 3 (s_iconst 0 (s_aload 0 (s_getR 10 10 (s_aload 0 (s_getR 10 3 (s_aload 0 (s_getR 10 5 (s_callV G d MX7_perform 6 7 (s_aload 0 (s_aload 0 (s_getR 10 9 (s_getI 7 6 (s_putI 10 16 (s_aload 0 (s_getR 10 9 (s_getI 7 5 (s_ireturn ρ)))))))))))))))))))))))))))) (s_aload 0 (s_getR 10 2 (s_callV G d MX10_answer 0 9 (s_ireturn ρ))))))))))))) (s_iconst (-20) (s_ireturn ρ)))))))))) := (e_aload_n dX11_work_0 rfl (e_iload_n dX11_work_1 rfl (e_sipush (v := 150) dX11_work_2 (by decide) (e_callV cl_10 cal_X11_openText q_711 q_713 q_10 dX11_work_5 (e_aload_n dX11_work_8 rfl (e_getR rfl cl_10 (by decide) rfl q_440 dX11_work_9 (e_callV cl_3 cal_X3_isFull q_1041 q_1042 q_1043 dX11_work_12 (e_if_eq (tgt := 21) dX11_work_15 (by decide) (e_aload_n dX11_work_21 rfl (e_getR rfl cl_10 (by decide) rfl q_437 dX11_work_22 (e_aload_n dX11_work_25 rfl (e_getR rfl cl_10 (by decide) rfl q_430 dX11_work_26 (e_aload_n dX11_work_29 rfl (e_getR rfl cl_10 (by decide) rfl q_431 dX11_work_30 (e_getIN rfl cl_0 (by decide) rfl q_192 dX11_work_33 (e_callV cl_7 cal_X7_readAll q_1045 q_1046 q_1047 dX11_work_36 (e_if_ne (tgt := 50) dX11_work_39 (by decide) (e_aload_n dX11_work_50 rfl (e_getR rfl cl_10 (by decide) rfl q_440 dX11_work_51 (e_aload_n dX11_work_54 rfl (e_getR rfl cl_10 (by decide) rfl q_438 dX11_work_55 (e_callV cl_3 cal_X3_keepWork q_1082 q_1083 q_1084 dX11_work_58 (e_aload_n dX11_work_61 rfl (e_getR rfl cl_10 (by decide) rfl q_437 dX11_work_62 (e_iconst (v := 0) dX11_work_65 (by decide) (e_aload_n dX11_work_66 rfl (e_getR rfl cl_10 (by decide) rfl q_437 dX11_work_67 (e_getIN rfl cl_7 (by decide) rfl q_296 dX11_work_70 (e_iconst (v := 0) dX11_work_73 (by decide) (e_aload_n dX11_work_74 rfl (e_getR rfl cl_10 (by decide) rfl q_438 dX11_work_75 (e_aload_n dX11_work_78 rfl (e_getR rfl cl_10 (by decide) rfl q_431 dX11_work_79 (e_aload_n dX11_work_82 rfl (e_getR rfl cl_10 (by decide) rfl q_433 dX11_work_83 (e_callVN cl_7 cal_X7_perform q_1086 q_1088 q_32 dX11_work_86 (e_aload_n dX11_work_89 rfl (e_aload_n dX11_work_90 rfl (e_getR rfl cl_10 (by decide) rfl q_437 dX11_work_91 (e_getIN rfl cl_7 (by decide) rfl q_301 dX11_work_94 (e_putI rfl cl_10 (by decide) rfl rfl rfl q_444 dX11_work_97 (e_aload_n dX11_work_100 rfl (e_getR rfl cl_10 (by decide) rfl q_437 dX11_work_101 (e_getIN rfl cl_7 (by decide) rfl q_299 dX11_work_104 (e_ireturn rfl dX11_work_107)))))))))))))))))))))))))))) (e_aload_n dX11_work_42 rfl (e_getR rfl cl_10 (by decide) rfl q_430 dX11_work_43 (e_callV cl_9 cal_X10_answer q_956 q_957 q_958 dX11_work_46 (e_ireturn rfl dX11_work_49))))))))))))) (e_bipush (v := (-20)) dX11_work_18 (by decide) (e_ireturn rfl dX11_work_20))))))))))
set_option maxRecDepth 100000 in
theorem TX_X11_work_0 {G : GE} {d C S : Nat} {ρ : Rs} : Snd G MX11_work (d + 1) (C + 1) (S + 6) 0 ρ (s_aload 0 (s_iload 1 (s_iconst 150 (s_callVB G d MX11_openText 2 10 ρ (s_aload 0 (s_getR 10 12 (s_callV G d MX3_isFull 0 3 (s_if_eq (s_aload 0 (s_getR 10 9 (s_aload 0 (s_getR 10 2 (s_aload 0 (s_getR 10 3 (s_getI 0 1 (s_callV G d MX7_readAll 2 7 (s_if_ne (s_aload 0 (s_getR 10 12 (s_aload 0 (s_getR 10 10 (s_callV G d MX3_keepWork 1 3 (s_aload 0 (s_getR 10 9 (s_iconst 0 (s_aload 0 (s_getR 10 9 (s_getI 7 3 (s_iconst 0 (s_aload 0 (s_getR 10 10 (s_aload 0 (s_getR 10 3 (s_aload 0 (s_getR 10 5 (s_callV G d MX7_perform 6 7 (s_aload 0 (s_aload 0 (s_getR 10 9 (s_getI 7 6 (s_putI 10 16 (s_aload 0 (s_getR 10 9 (s_getI 7 5 (s_ireturn ρ)))))))))))))))))))))))))))) (s_aload 0 (s_getR 10 2 (s_callV G d MX10_answer 0 9 (s_ireturn ρ))))))))))))) (s_iconst (-20) (s_ireturn ρ)))))))))) := (e_aload_n dX11_work_0 rfl (e_iload_n dX11_work_1 rfl (e_sipush (v := 150) dX11_work_2 (by decide) (e_callVB rfl cl_10 cal_X11_openText q_711 q_713 q_10 dX11_work_5 (e_aload_n dX11_work_8 rfl (e_getR rfl cl_10 (by decide) rfl q_440 dX11_work_9 (e_callV cl_3 cal_X3_isFull q_1041 q_1042 q_1043 dX11_work_12 (e_if_eq (tgt := 21) dX11_work_15 (by decide) (e_aload_n dX11_work_21 rfl (e_getR rfl cl_10 (by decide) rfl q_437 dX11_work_22 (e_aload_n dX11_work_25 rfl (e_getR rfl cl_10 (by decide) rfl q_430 dX11_work_26 (e_aload_n dX11_work_29 rfl (e_getR rfl cl_10 (by decide) rfl q_431 dX11_work_30 (e_getIN rfl cl_0 (by decide) rfl q_192 dX11_work_33 (e_callV cl_7 cal_X7_readAll q_1045 q_1046 q_1047 dX11_work_36 (e_if_ne (tgt := 50) dX11_work_39 (by decide) (e_aload_n dX11_work_50 rfl (e_getR rfl cl_10 (by decide) rfl q_440 dX11_work_51 (e_aload_n dX11_work_54 rfl (e_getR rfl cl_10 (by decide) rfl q_438 dX11_work_55 (e_callV cl_3 cal_X3_keepWork q_1082 q_1083 q_1084 dX11_work_58 (e_aload_n dX11_work_61 rfl (e_getR rfl cl_10 (by decide) rfl q_437 dX11_work_62 (e_iconst (v := 0) dX11_work_65 (by decide) (e_aload_n dX11_work_66 rfl (e_getR rfl cl_10 (by decide) rfl q_437 dX11_work_67 (e_getIN rfl cl_7 (by decide) rfl q_296 dX11_work_70 (e_iconst (v := 0) dX11_work_73 (by decide) (e_aload_n dX11_work_74 rfl (e_getR rfl cl_10 (by decide) rfl q_438 dX11_work_75 (e_aload_n dX11_work_78 rfl (e_getR rfl cl_10 (by decide) rfl q_431 dX11_work_79 (e_aload_n dX11_work_82 rfl (e_getR rfl cl_10 (by decide) rfl q_433 dX11_work_83 (e_callVN cl_7 cal_X7_perform q_1086 q_1088 q_32 dX11_work_86 (e_aload_n dX11_work_89 rfl (e_aload_n dX11_work_90 rfl (e_getR rfl cl_10 (by decide) rfl q_437 dX11_work_91 (e_getIN rfl cl_7 (by decide) rfl q_301 dX11_work_94 (e_putI rfl cl_10 (by decide) rfl rfl rfl q_444 dX11_work_97 (e_aload_n dX11_work_100 rfl (e_getR rfl cl_10 (by decide) rfl q_437 dX11_work_101 (e_getIN rfl cl_7 (by decide) rfl q_299 dX11_work_104 (e_ireturn rfl dX11_work_107)))))))))))))))))))))))))))) (e_aload_n dX11_work_42 rfl (e_getR rfl cl_10 (by decide) rfl q_430 dX11_work_43 (e_callV cl_9 cal_X10_answer q_956 q_957 q_958 dX11_work_46 (e_ireturn rfl dX11_work_49))))))))))))) (e_bipush (v := (-20)) dX11_work_18 (by decide) (e_ireturn rfl dX11_work_20))))))))))
theorem dX11_post_0 : decode cX11_post 0 = .ok (.aload_n 0, 1) := by decide +kernel
theorem dX11_post_1 : decode cX11_post 1 = .ok (.iload_n 1, 1) := by decide +kernel
theorem dX11_post_2 : decode cX11_post 2 = .ok (.bipush 100, 2) := by decide +kernel
theorem dX11_post_4 : decode cX11_post 4 = .ok (.invokevirtual 109, 3) := by decide +kernel
theorem dX11_post_7 : decode cX11_post 7 = .ok (.aload_n 0, 1) := by decide +kernel
theorem dX11_post_8 : decode cX11_post 8 = .ok (.getfield 49, 3) := by decide +kernel
theorem dX11_post_11 : decode cX11_post 11 = .ok (.aload_n 0, 1) := by decide +kernel
theorem dX11_post_12 : decode cX11_post 12 = .ok (.getfield 18, 3) := by decide +kernel
theorem dX11_post_15 : decode cX11_post 15 = .ok (.invokevirtual 157, 3) := by decide +kernel
theorem dX11_post_18 : decode cX11_post 18 = .ok (.ifCond .ne 11, 3) := by decide +kernel
theorem dX11_post_21 : decode cX11_post 21 = .ok (.aload_n 0, 1) := by decide +kernel
theorem dX11_post_22 : decode cX11_post 22 = .ok (.getfield 18, 3) := by decide +kernel
theorem dX11_post_25 : decode cX11_post 25 = .ok (.invokevirtual 117, 3) := by decide +kernel
theorem dX11_post_28 : decode cX11_post 28 = .ok (.ireturn, 1) := by decide +kernel
theorem dX11_post_29 : decode cX11_post 29 = .ok (.aload_n 0, 1) := by decide +kernel
theorem dX11_post_30 : decode cX11_post 30 = .ok (.getfield 45, 3) := by decide +kernel
theorem dX11_post_33 : decode cX11_post 33 = .ok (.astore_n 2, 1) := by decide +kernel
theorem dX11_post_34 : decode cX11_post 34 = .ok (.aload_n 0, 1) := by decide +kernel
theorem dX11_post_35 : decode cX11_post 35 = .ok (.aload_n 0, 1) := by decide +kernel
theorem dX11_post_36 : decode cX11_post 36 = .ok (.getfield 49, 3) := by decide +kernel
theorem dX11_post_39 : decode cX11_post 39 = .ok (.putfield 45, 3) := by decide +kernel
theorem dX11_post_42 : decode cX11_post 42 = .ok (.aload_n 0, 1) := by decide +kernel
theorem dX11_post_43 : decode cX11_post 43 = .ok (.aload_n 2, 1) := by decide +kernel
theorem dX11_post_44 : decode cX11_post 44 = .ok (.putfield 49, 3) := by decide +kernel
theorem dX11_post_47 : decode cX11_post 47 = .ok (.aload_n 0, 1) := by decide +kernel
theorem dX11_post_48 : decode cX11_post 48 = .ok (.getfield 45, 3) := by decide +kernel
theorem dX11_post_51 : decode cX11_post 51 = .ok (.getfield 158, 3) := by decide +kernel
theorem dX11_post_54 : decode cX11_post 54 = .ok (.ireturn, 1) := by decide +kernel
set_option maxRecDepth 100000 in
theorem T_X11_post_0 {G : GE} {d C S : Nat} {ρ : Rs} : Snd G MX11_post (d + 1) C S 0 ρ (s_aload 0 (s_iload 1 (s_iconst 100 (s_callV G d MX11_openText 2 10 (s_aload 0 (s_getR 10 8 (s_aload 0 (s_getR 10 2 (s_callV G d MX5_readAll 1 5 (s_if_ne (s_aload 0 (s_getR 10 7 (s_astore 2 (s_aload 0 (s_aload 0 (s_getR 10 8 (s_putR 10 7 (s_aload 0 (s_aload 2 (s_putR 10 8 (s_aload 0 (s_getR 10 7 (s_getI 5 2 (s_ireturn ρ)))))))))))))) (s_aload 0 (s_getR 10 2 (s_callV G d MX10_answer 0 9 (s_ireturn ρ)))))))))))))) := (e_aload_n dX11_post_0 rfl (e_iload_n dX11_post_1 rfl (e_bipush (v := 100) dX11_post_2 (by decide) (e_callV cl_10 cal_X11_openText q_711 q_713 q_10 dX11_post_4 (e_aload_n dX11_post_7 rfl (e_getR rfl cl_10 (by decide) rfl q_436 dX11_post_8 (e_aload_n dX11_post_11 rfl (e_getR rfl cl_10 (by decide) rfl q_430 dX11_post_12 (e_callV cl_5 cal_X5_readAll q_1159 q_1160 q_1161 dX11_post_15 (e_if_ne (tgt := 29) dX11_post_18 (by decide) (e_aload_n dX11_post_29 rfl (e_getR rfl cl_10 (by decide) rfl q_435 dX11_post_30 (e_astore_n dX11_post_33 rfl (by decide) (e_aload_n dX11_post_34 rfl (e_aload_n dX11_post_35 rfl (e_getR rfl cl_10 (by decide) rfl q_436 dX11_post_36 (e_putR (ty := .object "MarriedStreets$Mail") rfl cl_10 (by decide) rfl rfl (by decide +kernel) (fun _ => ⟨rfl, rfl⟩) q_435 dX11_post_39 (e_aload_n dX11_post_42 rfl (e_aload_n dX11_post_43 rfl (e_putR (ty := .object "MarriedStreets$Mail") rfl cl_10 (by decide) rfl rfl (by decide +kernel) (fun _ => ⟨rfl, rfl⟩) q_436 dX11_post_44 (e_aload_n dX11_post_47 rfl (e_getR rfl cl_10 (by decide) rfl q_435 dX11_post_48 (e_getIN rfl cl_5 (by decide) rfl q_278 dX11_post_51 (e_ireturn rfl dX11_post_54)))))))))))))) (e_aload_n dX11_post_21 rfl (e_getR rfl cl_10 (by decide) rfl q_430 dX11_post_22 (e_callV cl_9 cal_X10_answer q_956 q_957 q_958 dX11_post_25 (e_ireturn rfl dX11_post_28))))))))))))))
set_option maxRecDepth 100000 in
theorem TX_X11_post_0 {G : GE} {d C S : Nat} {ρ : Rs} : Snd G MX11_post (d + 1) (C + 1) (S + 6) 0 ρ (s_aload 0 (s_iload 1 (s_iconst 100 (s_callVB G d MX11_openText 2 10 ρ (s_aload 0 (s_getR 10 8 (s_aload 0 (s_getR 10 2 (s_callV G d MX5_readAll 1 5 (s_if_ne (s_aload 0 (s_getR 10 7 (s_astore 2 (s_aload 0 (s_aload 0 (s_getR 10 8 (s_putR 10 7 (s_aload 0 (s_aload 2 (s_putR 10 8 (s_aload 0 (s_getR 10 7 (s_getI 5 2 (s_ireturn ρ)))))))))))))) (s_aload 0 (s_getR 10 2 (s_callV G d MX10_answer 0 9 (s_ireturn ρ)))))))))))))) := (e_aload_n dX11_post_0 rfl (e_iload_n dX11_post_1 rfl (e_bipush (v := 100) dX11_post_2 (by decide) (e_callVB rfl cl_10 cal_X11_openText q_711 q_713 q_10 dX11_post_4 (e_aload_n dX11_post_7 rfl (e_getR rfl cl_10 (by decide) rfl q_436 dX11_post_8 (e_aload_n dX11_post_11 rfl (e_getR rfl cl_10 (by decide) rfl q_430 dX11_post_12 (e_callV cl_5 cal_X5_readAll q_1159 q_1160 q_1161 dX11_post_15 (e_if_ne (tgt := 29) dX11_post_18 (by decide) (e_aload_n dX11_post_29 rfl (e_getR rfl cl_10 (by decide) rfl q_435 dX11_post_30 (e_astore_n dX11_post_33 rfl (by decide) (e_aload_n dX11_post_34 rfl (e_aload_n dX11_post_35 rfl (e_getR rfl cl_10 (by decide) rfl q_436 dX11_post_36 (e_putR (ty := .object "MarriedStreets$Mail") rfl cl_10 (by decide) rfl rfl (by decide +kernel) (fun _ => ⟨rfl, rfl⟩) q_435 dX11_post_39 (e_aload_n dX11_post_42 rfl (e_aload_n dX11_post_43 rfl (e_putR (ty := .object "MarriedStreets$Mail") rfl cl_10 (by decide) rfl rfl (by decide +kernel) (fun _ => ⟨rfl, rfl⟩) q_436 dX11_post_44 (e_aload_n dX11_post_47 rfl (e_getR rfl cl_10 (by decide) rfl q_435 dX11_post_48 (e_getIN rfl cl_5 (by decide) rfl q_278 dX11_post_51 (e_ireturn rfl dX11_post_54)))))))))))))) (e_aload_n dX11_post_21 rfl (e_getR rfl cl_10 (by decide) rfl q_430 dX11_post_22 (e_callV cl_9 cal_X10_answer q_956 q_957 q_958 dX11_post_25 (e_ireturn rfl dX11_post_28))))))))))))))
theorem dX11_fault_0 : decode cX11_fault 0 = .ok (.aload_n 0, 1) := by decide +kernel
theorem dX11_fault_1 : decode cX11_fault 1 = .ok (.getfield 18, 3) := by decide +kernel
theorem dX11_fault_4 : decode cX11_fault 4 = .ok (.getfield 161, 3) := by decide +kernel
theorem dX11_fault_7 : decode cX11_fault 7 = .ok (.ireturn, 1) := by decide +kernel
set_option maxRecDepth 100000 in
theorem T_X11_fault_0 {G : GE} {d C S : Nat} {ρ : Rs} : Snd G MX11_fault d C S 0 ρ (s_aload 0 (s_getR 10 2 (s_getI 9 5 (s_ireturn ρ)))) := (e_aload_n dX11_fault_0 rfl (e_getR rfl cl_10 (by decide) rfl q_430 dX11_fault_1 (e_getIN rfl cl_9 (by decide) rfl q_155 dX11_fault_4 (e_ireturn rfl dX11_fault_7))))
theorem dX11_undo_0 : decode cX11_undo 0 = .ok (.aload_n 0, 1) := by decide +kernel
theorem dX11_undo_1 : decode cX11_undo 1 = .ok (.getfield 72, 3) := by decide +kernel
theorem dX11_undo_4 : decode cX11_undo 4 = .ok (.aload_n 0, 1) := by decide +kernel
theorem dX11_undo_5 : decode cX11_undo 5 = .ok (.getfield 62, 3) := by decide +kernel
theorem dX11_undo_8 : decode cX11_undo 8 = .ok (.invokevirtual 164, 3) := by decide +kernel
theorem dX11_undo_11 : decode cX11_undo 11 = .ok (.ifCond .ne 5, 3) := by decide +kernel
theorem dX11_undo_14 : decode cX11_undo 14 = .ok (.iconst (-1), 1) := by decide +kernel
theorem dX11_undo_15 : decode cX11_undo 15 = .ok (.ireturn, 1) := by decide +kernel
theorem dX11_undo_16 : decode cX11_undo 16 = .ok (.aload_n 0, 1) := by decide +kernel
theorem dX11_undo_17 : decode cX11_undo 17 = .ok (.iconst 0, 1) := by decide +kernel
theorem dX11_undo_18 : decode cX11_undo 18 = .ok (.putfield 126, 3) := by decide +kernel
theorem dX11_undo_21 : decode cX11_undo 21 = .ok (.aload_n 0, 1) := by decide +kernel
theorem dX11_undo_22 : decode cX11_undo 22 = .ok (.getfield 72, 3) := by decide +kernel
theorem dX11_undo_25 : decode cX11_undo 25 = .ok (.getfield 168, 3) := by decide +kernel
theorem dX11_undo_28 : decode cX11_undo 28 = .ok (.ireturn, 1) := by decide +kernel
set_option maxRecDepth 100000 in
theorem T_X11_undo_0 {G : GE} {d C S : Nat} {ρ : Rs} : Snd G MX11_undo (d + 1) C S 0 ρ (s_aload 0 (s_getR 10 12 (s_aload 0 (s_getR 10 10 (s_callV G d MX3_takeWorkBack 1 3 (s_if_ne (s_aload 0 (s_iconst 0 (s_putI 10 16 (s_aload 0 (s_getR 10 12 (s_getI 3 2 (s_ireturn ρ))))))) (s_iconst (-1) (s_ireturn ρ)))))))) := (e_aload_n dX11_undo_0 rfl (e_getR rfl cl_10 (by decide) rfl q_440 dX11_undo_1 (e_aload_n dX11_undo_4 rfl (e_getR rfl cl_10 (by decide) rfl q_438 dX11_undo_5 (e_callV cl_3 cal_X3_takeWorkBack q_505 q_506 q_507 dX11_undo_8 (e_if_ne (tgt := 16) dX11_undo_11 (by decide) (e_aload_n dX11_undo_16 rfl (e_iconst (v := 0) dX11_undo_17 (by decide) (e_putI rfl cl_10 (by decide) rfl rfl rfl q_444 dX11_undo_18 (e_aload_n dX11_undo_21 rfl (e_getR rfl cl_10 (by decide) rfl q_440 dX11_undo_22 (e_getIN rfl cl_3 (by decide) rfl q_336 dX11_undo_25 (e_ireturn rfl dX11_undo_28))))))) (e_iconst (v := (-1)) dX11_undo_14 (by decide) (e_ireturn rfl dX11_undo_15))))))))
theorem dX11_told_0 : decode cX11_told 0 = .ok (.aload_n 0, 1) := by decide +kernel
theorem dX11_told_1 : decode cX11_told 1 = .ok (.iload_n 1, 1) := by decide +kernel
theorem dX11_told_2 : decode cX11_told 2 = .ok (.ifCond .lt 13, 3) := by decide +kernel
theorem dX11_told_5 : decode cX11_told 5 = .ok (.iload_n 1, 1) := by decide +kernel
theorem dX11_told_6 : decode cX11_told 6 = .ok (.bipush 9, 2) := by decide +kernel
theorem dX11_told_8 : decode cX11_told 8 = .ok (.if_icmp .gt 7, 3) := by decide +kernel
theorem dX11_told_11 : decode cX11_told 11 = .ok (.iconst 1, 1) := by decide +kernel
theorem dX11_told_12 : decode cX11_told 12 = .ok (.goto 4, 3) := by decide +kernel
theorem dX11_told_15 : decode cX11_told 15 = .ok (.iconst 0, 1) := by decide +kernel
theorem dX11_told_16 : decode cX11_told 16 = .ok (.invokevirtual 171, 3) := by decide +kernel
theorem dX11_told_19 : decode cX11_told 19 = .ok (.iload_n 1, 1) := by decide +kernel
theorem dX11_told_20 : decode cX11_told 20 = .ok (.tableswitch 121 0 8 #[52, 60, 68, 76, 84, 92, 100, 108, 116], 52) := by decide +kernel
theorem dX11_told_72 : decode cX11_told 72 = .ok (.aload_n 0, 1) := by decide +kernel
theorem dX11_told_73 : decode cX11_told 73 = .ok (.getfield 25, 3) := by decide +kernel
theorem dX11_told_76 : decode cX11_told 76 = .ok (.getfield 175, 3) := by decide +kernel
theorem dX11_told_79 : decode cX11_told 79 = .ok (.ireturn, 1) := by decide +kernel
theorem dX11_told_80 : decode cX11_told 80 = .ok (.aload_n 0, 1) := by decide +kernel
theorem dX11_told_81 : decode cX11_told 81 = .ok (.getfield 25, 3) := by decide +kernel
theorem dX11_told_84 : decode cX11_told 84 = .ok (.getfield 129, 3) := by decide +kernel
theorem dX11_told_87 : decode cX11_told 87 = .ok (.ireturn, 1) := by decide +kernel
theorem dX11_told_88 : decode cX11_told 88 = .ok (.aload_n 0, 1) := by decide +kernel
theorem dX11_told_89 : decode cX11_told 89 = .ok (.getfield 25, 3) := by decide +kernel
theorem dX11_told_92 : decode cX11_told 92 = .ok (.getfield 178, 3) := by decide +kernel
theorem dX11_told_95 : decode cX11_told 95 = .ok (.ireturn, 1) := by decide +kernel
theorem dX11_told_96 : decode cX11_told 96 = .ok (.aload_n 0, 1) := by decide +kernel
theorem dX11_told_97 : decode cX11_told 97 = .ok (.getfield 62, 3) := by decide +kernel
theorem dX11_told_100 : decode cX11_told 100 = .ok (.invokevirtual 181, 3) := by decide +kernel
theorem dX11_told_103 : decode cX11_told 103 = .ok (.ireturn, 1) := by decide +kernel
theorem dX11_told_104 : decode cX11_told 104 = .ok (.aload_n 0, 1) := by decide +kernel
theorem dX11_told_105 : decode cX11_told 105 = .ok (.getfield 62, 3) := by decide +kernel
theorem dX11_told_108 : decode cX11_told 108 = .ok (.invokevirtual 184, 3) := by decide +kernel
theorem dX11_told_111 : decode cX11_told 111 = .ok (.ireturn, 1) := by decide +kernel
theorem dX11_told_112 : decode cX11_told 112 = .ok (.aload_n 0, 1) := by decide +kernel
theorem dX11_told_113 : decode cX11_told 113 = .ok (.getfield 62, 3) := by decide +kernel
theorem dX11_told_116 : decode cX11_told 116 = .ok (.invokevirtual 187, 3) := by decide +kernel
theorem dX11_told_119 : decode cX11_told 119 = .ok (.ireturn, 1) := by decide +kernel
theorem dX11_told_120 : decode cX11_told 120 = .ok (.aload_n 0, 1) := by decide +kernel
theorem dX11_told_121 : decode cX11_told 121 = .ok (.getfield 62, 3) := by decide +kernel
theorem dX11_told_124 : decode cX11_told 124 = .ok (.invokevirtual 190, 3) := by decide +kernel
theorem dX11_told_127 : decode cX11_told 127 = .ok (.ireturn, 1) := by decide +kernel
theorem dX11_told_128 : decode cX11_told 128 = .ok (.aload_n 0, 1) := by decide +kernel
theorem dX11_told_129 : decode cX11_told 129 = .ok (.getfield 45, 3) := by decide +kernel
theorem dX11_told_132 : decode cX11_told 132 = .ok (.getfield 158, 3) := by decide +kernel
theorem dX11_told_135 : decode cX11_told 135 = .ok (.ireturn, 1) := by decide +kernel
theorem dX11_told_136 : decode cX11_told 136 = .ok (.aload_n 0, 1) := by decide +kernel
theorem dX11_told_137 : decode cX11_told 137 = .ok (.getfield 126, 3) := by decide +kernel
theorem dX11_told_140 : decode cX11_told 140 = .ok (.ireturn, 1) := by decide +kernel
theorem dX11_told_141 : decode cX11_told 141 = .ok (.aload_n 0, 1) := by decide +kernel
theorem dX11_told_142 : decode cX11_told 142 = .ok (.getfield 62, 3) := by decide +kernel
theorem dX11_told_145 : decode cX11_told 145 = .ok (.invokevirtual 193, 3) := by decide +kernel
theorem dX11_told_148 : decode cX11_told 148 = .ok (.ireturn, 1) := by decide +kernel
set_option maxRecDepth 100000 in
theorem T_X11_told_0 {G : GE} {d C S : Nat} {ρ : Rs} : Snd G MX11_told (d + 1) C S 0 ρ (s_aload 0 (s_iload 1 (s_if_lt (s_iconst 0 (fun L st h => E G MX11_told (d + 1) C S 16 L st h ρ)) (s_iload 1 (s_iconst 9 (s_ic_gt (s_iconst 0 (fun L st h => E G MX11_told (d + 1) C S 16 L st h ρ)) (s_iconst 1 (fun L st h => E G MX11_told (d + 1) C S 16 L st h ρ)))))))) := (e_aload_n dX11_told_0 rfl (e_iload_n dX11_told_1 rfl (e_if_lt (tgt := 15) dX11_told_2 (by decide) (e_iconst (v := 0) dX11_told_15 (by decide) (fun _ _ _ h9 => h9)) (e_iload_n dX11_told_5 rfl (e_bipush (v := 9) dX11_told_6 (by decide) (e_ic_gt (tgt := 15) dX11_told_8 (by decide) (e_iconst (v := 0) dX11_told_15 (by decide) (fun _ _ _ h9 => h9)) (e_iconst (v := 1) dX11_told_11 (by decide) (e_goto (tgt := 16) dX11_told_12 (by decide) (fun _ _ _ h9 => h9)))))))))
set_option maxRecDepth 100000 in
theorem T_X11_told_16 {G : GE} {d C S : Nat} {ρ : Rs} : Snd G MX11_told (d + 1) C S 16 ρ (s_callV G d MX11_need 1 10 (s_iload 1 (s_switch [(0, (s_aload 0 (s_getR 10 3 (s_getI 0 0 (s_ireturn ρ))))), (1, (s_aload 0 (s_getR 10 3 (s_getI 0 1 (s_ireturn ρ))))), (2, (s_aload 0 (s_getR 10 3 (s_getI 0 2 (s_ireturn ρ))))), (3, (s_aload 0 (s_getR 10 10 (s_callV G d MX4_yearNow 0 4 (s_ireturn ρ))))), (4, (s_aload 0 (s_getR 10 10 (s_callV G d MX4_couples 0 4 (s_ireturn ρ))))), (5, (s_aload 0 (s_getR 10 10 (s_callV G d MX4_allTrees 0 4 (s_ireturn ρ))))), (6, (s_aload 0 (s_getR 10 10 (s_callV G d MX4_allHoles 0 4 (s_ireturn ρ))))), (7, (s_aload 0 (s_getR 10 7 (s_getI 5 2 (s_ireturn ρ))))), (8, (s_aload 0 (s_getI 10 16 (s_ireturn ρ))))] (s_aload 0 (s_getR 10 10 (s_callV G d MX4_partedSoFar 0 4 (s_ireturn ρ))))))) := (e_callV cl_10 cal_X11_need q_715 q_717 q_11 dX11_told_16 (e_iload_n dX11_told_19 rfl (e_tsw (tg := [72, 80, 88, 96, 104, 112, 120, 128, 136]) (td := 141) [0, 1, 2, 3, 4, 5, 6, 7, 8] rfl dX11_told_20 (by decide) (by decide) (by decide +kernel) (by decide +kernel) (swc (t0 := 72) (e_aload_n dX11_told_72 rfl (e_getR rfl cl_10 (by decide) rfl q_431 dX11_told_73 (e_getIN rfl cl_0 (by decide) rfl q_189 dX11_told_76 (e_ireturn rfl dX11_told_79)))) (swc (t0 := 80) (e_aload_n dX11_told_80 rfl (e_getR rfl cl_10 (by decide) rfl q_431 dX11_told_81 (e_getIN rfl cl_0 (by decide) rfl q_192 dX11_told_84 (e_ireturn rfl dX11_told_87)))) (swc (t0 := 88) (e_aload_n dX11_told_88 rfl (e_getR rfl cl_10 (by decide) rfl q_431 dX11_told_89 (e_getIN rfl cl_0 (by decide) rfl q_195 dX11_told_92 (e_ireturn rfl dX11_told_95)))) (swc (t0 := 96) (e_aload_n dX11_told_96 rfl (e_getR rfl cl_10 (by decide) rfl q_438 dX11_told_97 (e_callV cl_4 cal_X4_yearNow q_654 q_582 q_583 dX11_told_100 (e_ireturn rfl dX11_told_103)))) (swc (t0 := 104) (e_aload_n dX11_told_104 rfl (e_getR rfl cl_10 (by decide) rfl q_438 dX11_told_105 (e_callV cl_4 cal_X4_couples q_1184 q_1185 q_1186 dX11_told_108 (e_ireturn rfl dX11_told_111)))) (swc (t0 := 112) (e_aload_n dX11_told_112 rfl (e_getR rfl cl_10 (by decide) rfl q_438 dX11_told_113 (e_callV cl_4 cal_X4_allTrees q_1188 q_1189 q_1190 dX11_told_116 (e_ireturn rfl dX11_told_119)))) (swc (t0 := 120) (e_aload_n dX11_told_120 rfl (e_getR rfl cl_10 (by decide) rfl q_438 dX11_told_121 (e_callV cl_4 cal_X4_allHoles q_1192 q_1193 q_1194 dX11_told_124 (e_ireturn rfl dX11_told_127)))) (swc (t0 := 128) (e_aload_n dX11_told_128 rfl (e_getR rfl cl_10 (by decide) rfl q_435 dX11_told_129 (e_getIN rfl cl_5 (by decide) rfl q_278 dX11_told_132 (e_ireturn rfl dX11_told_135)))) (swc (t0 := 136) (e_aload_n dX11_told_136 rfl (e_getI rfl cl_10 (by decide) rfl q_444 dX11_told_137 (e_ireturn rfl dX11_told_140))) swn))))))))) (e_aload_n dX11_told_141 rfl (e_getR rfl cl_10 (by decide) rfl q_438 dX11_told_142 (e_callV cl_4 cal_X4_partedSoFar q_1196 q_1117 q_1118 dX11_told_145 (e_ireturn rfl dX11_told_148)))))))
set_option maxRecDepth 100000 in
theorem TX_X11_told_0 {G : GE} {d C S : Nat} {ρ : Rs} : Snd G MX11_told (d + 1) (C + 1) (S + 6) 0 ρ (s_aload 0 (s_iload 1 (s_if_lt (s_iconst 0 (fun L st h => E G MX11_told (d + 1) (C + 1) (S + 6) 16 L st h ρ)) (s_iload 1 (s_iconst 9 (s_ic_gt (s_iconst 0 (fun L st h => E G MX11_told (d + 1) (C + 1) (S + 6) 16 L st h ρ)) (s_iconst 1 (fun L st h => E G MX11_told (d + 1) (C + 1) (S + 6) 16 L st h ρ)))))))) := (e_aload_n dX11_told_0 rfl (e_iload_n dX11_told_1 rfl (e_if_lt (tgt := 15) dX11_told_2 (by decide) (e_iconst (v := 0) dX11_told_15 (by decide) (fun _ _ _ h9 => h9)) (e_iload_n dX11_told_5 rfl (e_bipush (v := 9) dX11_told_6 (by decide) (e_ic_gt (tgt := 15) dX11_told_8 (by decide) (e_iconst (v := 0) dX11_told_15 (by decide) (fun _ _ _ h9 => h9)) (e_iconst (v := 1) dX11_told_11 (by decide) (e_goto (tgt := 16) dX11_told_12 (by decide) (fun _ _ _ h9 => h9)))))))))
set_option maxRecDepth 100000 in
theorem TX_X11_told_16 {G : GE} {d C S : Nat} {ρ : Rs} : Snd G MX11_told (d + 1) (C + 1) (S + 6) 16 ρ (s_callVB G d MX11_need 1 10 ρ (s_iload 1 (s_switch [(0, (s_aload 0 (s_getR 10 3 (s_getI 0 0 (s_ireturn ρ))))), (1, (s_aload 0 (s_getR 10 3 (s_getI 0 1 (s_ireturn ρ))))), (2, (s_aload 0 (s_getR 10 3 (s_getI 0 2 (s_ireturn ρ))))), (3, (s_aload 0 (s_getR 10 10 (s_callV G d MX4_yearNow 0 4 (s_ireturn ρ))))), (4, (s_aload 0 (s_getR 10 10 (s_callV G d MX4_couples 0 4 (s_ireturn ρ))))), (5, (s_aload 0 (s_getR 10 10 (s_callV G d MX4_allTrees 0 4 (s_ireturn ρ))))), (6, (s_aload 0 (s_getR 10 10 (s_callV G d MX4_allHoles 0 4 (s_ireturn ρ))))), (7, (s_aload 0 (s_getR 10 7 (s_getI 5 2 (s_ireturn ρ))))), (8, (s_aload 0 (s_getI 10 16 (s_ireturn ρ))))] (s_aload 0 (s_getR 10 10 (s_callV G d MX4_partedSoFar 0 4 (s_ireturn ρ))))))) := (e_callVB rfl cl_10 cal_X11_need q_715 q_717 q_11 dX11_told_16 (e_iload_n dX11_told_19 rfl (e_tsw (tg := [72, 80, 88, 96, 104, 112, 120, 128, 136]) (td := 141) [0, 1, 2, 3, 4, 5, 6, 7, 8] rfl dX11_told_20 (by decide) (by decide) (by decide +kernel) (by decide +kernel) (swc (t0 := 72) (e_aload_n dX11_told_72 rfl (e_getR rfl cl_10 (by decide) rfl q_431 dX11_told_73 (e_getIN rfl cl_0 (by decide) rfl q_189 dX11_told_76 (e_ireturn rfl dX11_told_79)))) (swc (t0 := 80) (e_aload_n dX11_told_80 rfl (e_getR rfl cl_10 (by decide) rfl q_431 dX11_told_81 (e_getIN rfl cl_0 (by decide) rfl q_192 dX11_told_84 (e_ireturn rfl dX11_told_87)))) (swc (t0 := 88) (e_aload_n dX11_told_88 rfl (e_getR rfl cl_10 (by decide) rfl q_431 dX11_told_89 (e_getIN rfl cl_0 (by decide) rfl q_195 dX11_told_92 (e_ireturn rfl dX11_told_95)))) (swc (t0 := 96) (e_aload_n dX11_told_96 rfl (e_getR rfl cl_10 (by decide) rfl q_438 dX11_told_97 (e_callV cl_4 cal_X4_yearNow q_654 q_582 q_583 dX11_told_100 (e_ireturn rfl dX11_told_103)))) (swc (t0 := 104) (e_aload_n dX11_told_104 rfl (e_getR rfl cl_10 (by decide) rfl q_438 dX11_told_105 (e_callV cl_4 cal_X4_couples q_1184 q_1185 q_1186 dX11_told_108 (e_ireturn rfl dX11_told_111)))) (swc (t0 := 112) (e_aload_n dX11_told_112 rfl (e_getR rfl cl_10 (by decide) rfl q_438 dX11_told_113 (e_callV cl_4 cal_X4_allTrees q_1188 q_1189 q_1190 dX11_told_116 (e_ireturn rfl dX11_told_119)))) (swc (t0 := 120) (e_aload_n dX11_told_120 rfl (e_getR rfl cl_10 (by decide) rfl q_438 dX11_told_121 (e_callV cl_4 cal_X4_allHoles q_1192 q_1193 q_1194 dX11_told_124 (e_ireturn rfl dX11_told_127)))) (swc (t0 := 128) (e_aload_n dX11_told_128 rfl (e_getR rfl cl_10 (by decide) rfl q_435 dX11_told_129 (e_getIN rfl cl_5 (by decide) rfl q_278 dX11_told_132 (e_ireturn rfl dX11_told_135)))) (swc (t0 := 136) (e_aload_n dX11_told_136 rfl (e_getI rfl cl_10 (by decide) rfl q_444 dX11_told_137 (e_ireturn rfl dX11_told_140))) swn))))))))) (e_aload_n dX11_told_141 rfl (e_getR rfl cl_10 (by decide) rfl q_438 dX11_told_142 (e_callV cl_4 cal_X4_partedSoFar q_1196 q_1117 q_1118 dX11_told_145 (e_ireturn rfl dX11_told_148)))))))
theorem dX11_street_0 : decode cX11_street 0 = .ok (.aload_n 0, 1) := by decide +kernel
theorem dX11_street_1 : decode cX11_street 1 = .ok (.iload_n 1, 1) := by decide +kernel
theorem dX11_street_2 : decode cX11_street 2 = .ok (.invokevirtual 196, 3) := by decide +kernel
theorem dX11_street_5 : decode cX11_street 5 = .ok (.aload_n 0, 1) := by decide +kernel
theorem dX11_street_6 : decode cX11_street 6 = .ok (.iload_n 2, 1) := by decide +kernel
theorem dX11_street_7 : decode cX11_street 7 = .ok (.ifCond .lt 13, 3) := by decide +kernel
theorem dX11_street_10 : decode cX11_street 10 = .ok (.iload_n 2, 1) := by decide +kernel
theorem dX11_street_11 : decode cX11_street 11 = .ok (.bipush 8, 2) := by decide +kernel
theorem dX11_street_13 : decode cX11_street 13 = .ok (.if_icmp .gt 7, 3) := by decide +kernel
theorem dX11_street_16 : decode cX11_street 16 = .ok (.iconst 1, 1) := by decide +kernel
theorem dX11_street_17 : decode cX11_street 17 = .ok (.goto 4, 3) := by decide +kernel
theorem dX11_street_20 : decode cX11_street 20 = .ok (.iconst 0, 1) := by decide +kernel
theorem dX11_street_21 : decode cX11_street 21 = .ok (.invokevirtual 171, 3) := by decide +kernel
theorem dX11_street_24 : decode cX11_street 24 = .ok (.iload_n 2, 1) := by decide +kernel
theorem dX11_street_25 : decode cX11_street 25 = .ok (.tableswitch 128 0 7 #[47, 56, 65, 74, 83, 92, 101, 119], 47) := by decide +kernel
theorem dX11_street_72 : decode cX11_street 72 = .ok (.aload_n 0, 1) := by decide +kernel
theorem dX11_street_73 : decode cX11_street 73 = .ok (.getfield 25, 3) := by decide +kernel
theorem dX11_street_76 : decode cX11_street 76 = .ok (.iload_n 1, 1) := by decide +kernel
theorem dX11_street_77 : decode cX11_street 77 = .ok (.invokevirtual 199, 3) := by decide +kernel
theorem dX11_street_80 : decode cX11_street 80 = .ok (.ireturn, 1) := by decide +kernel
theorem dX11_street_81 : decode cX11_street 81 = .ok (.aload_n 0, 1) := by decide +kernel
theorem dX11_street_82 : decode cX11_street 82 = .ok (.getfield 25, 3) := by decide +kernel
theorem dX11_street_85 : decode cX11_street 85 = .ok (.iload_n 1, 1) := by decide +kernel
theorem dX11_street_86 : decode cX11_street 86 = .ok (.invokevirtual 203, 3) := by decide +kernel
theorem dX11_street_89 : decode cX11_street 89 = .ok (.ireturn, 1) := by decide +kernel
theorem dX11_street_90 : decode cX11_street 90 = .ok (.aload_n 0, 1) := by decide +kernel
theorem dX11_street_91 : decode cX11_street 91 = .ok (.getfield 25, 3) := by decide +kernel
theorem dX11_street_94 : decode cX11_street 94 = .ok (.iload_n 1, 1) := by decide +kernel
theorem dX11_street_95 : decode cX11_street 95 = .ok (.invokevirtual 206, 3) := by decide +kernel
theorem dX11_street_98 : decode cX11_street 98 = .ok (.ireturn, 1) := by decide +kernel
theorem dX11_street_99 : decode cX11_street 99 = .ok (.aload_n 0, 1) := by decide +kernel
theorem dX11_street_100 : decode cX11_street 100 = .ok (.getfield 62, 3) := by decide +kernel
theorem dX11_street_103 : decode cX11_street 103 = .ok (.iload_n 1, 1) := by decide +kernel
theorem dX11_street_104 : decode cX11_street 104 = .ok (.invokevirtual 209, 3) := by decide +kernel
theorem dX11_street_107 : decode cX11_street 107 = .ok (.ireturn, 1) := by decide +kernel
theorem dX11_street_108 : decode cX11_street 108 = .ok (.aload_n 0, 1) := by decide +kernel
theorem dX11_street_109 : decode cX11_street 109 = .ok (.getfield 25, 3) := by decide +kernel
theorem dX11_street_112 : decode cX11_street 112 = .ok (.iload_n 1, 1) := by decide +kernel
theorem dX11_street_113 : decode cX11_street 113 = .ok (.invokevirtual 212, 3) := by decide +kernel
theorem dX11_street_116 : decode cX11_street 116 = .ok (.ireturn, 1) := by decide +kernel
theorem dX11_street_117 : decode cX11_street 117 = .ok (.aload_n 0, 1) := by decide +kernel
theorem dX11_street_118 : decode cX11_street 118 = .ok (.getfield 62, 3) := by decide +kernel
theorem dX11_street_121 : decode cX11_street 121 = .ok (.iload_n 1, 1) := by decide +kernel
theorem dX11_street_122 : decode cX11_street 122 = .ok (.invokevirtual 215, 3) := by decide +kernel
theorem dX11_street_125 : decode cX11_street 125 = .ok (.ireturn, 1) := by decide +kernel
theorem dX11_street_126 : decode cX11_street 126 = .ok (.aload_n 0, 1) := by decide +kernel
theorem dX11_street_127 : decode cX11_street 127 = .ok (.getfield 62, 3) := by decide +kernel
theorem dX11_street_130 : decode cX11_street 130 = .ok (.iload_n 1, 1) := by decide +kernel
theorem dX11_street_131 : decode cX11_street 131 = .ok (.invokevirtual 218, 3) := by decide +kernel
theorem dX11_street_134 : decode cX11_street 134 = .ok (.iconst 1, 1) := by decide +kernel
theorem dX11_street_135 : decode cX11_street 135 = .ok (.if_icmp .ne 7, 3) := by decide +kernel
theorem dX11_street_138 : decode cX11_street 138 = .ok (.iconst 1, 1) := by decide +kernel
theorem dX11_street_139 : decode cX11_street 139 = .ok (.goto 4, 3) := by decide +kernel
theorem dX11_street_142 : decode cX11_street 142 = .ok (.iconst 0, 1) := by decide +kernel
theorem dX11_street_143 : decode cX11_street 143 = .ok (.ireturn, 1) := by decide +kernel
theorem dX11_street_144 : decode cX11_street 144 = .ok (.aload_n 0, 1) := by decide +kernel
theorem dX11_street_145 : decode cX11_street 145 = .ok (.getfield 62, 3) := by decide +kernel
theorem dX11_street_148 : decode cX11_street 148 = .ok (.iload_n 1, 1) := by decide +kernel
theorem dX11_street_149 : decode cX11_street 149 = .ok (.invokevirtual 221, 3) := by decide +kernel
theorem dX11_street_152 : decode cX11_street 152 = .ok (.ireturn, 1) := by decide +kernel
theorem dX11_street_153 : decode cX11_street 153 = .ok (.aload_n 0, 1) := by decide +kernel
theorem dX11_street_154 : decode cX11_street 154 = .ok (.getfield 62, 3) := by decide +kernel
theorem dX11_street_157 : decode cX11_street 157 = .ok (.iload_n 1, 1) := by decide +kernel
theorem dX11_street_158 : decode cX11_street 158 = .ok (.invokevirtual 224, 3) := by decide +kernel
theorem dX11_street_161 : decode cX11_street 161 = .ok (.ireturn, 1) := by decide +kernel
set_option maxRecDepth 100000 in
theorem T_X11_street_0 {G : GE} {d C S : Nat} {ρ : Rs} : Snd G MX11_street (d + 1) C S 0 ρ (s_aload 0 (s_iload 1 (s_callV G d MX11_needStreet 1 10 (s_aload 0 (s_iload 2 (s_if_lt (s_iconst 0 (fun L st h => E G MX11_street (d + 1) C S 21 L st h ρ)) (s_iload 2 (s_iconst 8 (s_ic_gt (s_iconst 0 (fun L st h => E G MX11_street (d + 1) C S 21 L st h ρ)) (s_iconst 1 (fun L st h => E G MX11_street (d + 1) C S 21 L st h ρ))))))))))) := (e_aload_n dX11_street_0 rfl (e_iload_n dX11_street_1 rfl (e_callV cl_10 cal_X11_needStreet q_1205 q_1207 q_38 dX11_street_2 (e_aload_n dX11_street_5 rfl (e_iload_n dX11_street_6 rfl (e_if_lt (tgt := 20) dX11_street_7 (by decide) (e_iconst (v := 0) dX11_street_20 (by decide) (fun _ _ _ h9 => h9)) (e_iload_n dX11_street_10 rfl (e_bipush (v := 8) dX11_street_11 (by decide) (e_ic_gt (tgt := 20) dX11_street_13 (by decide) (e_iconst (v := 0) dX11_street_20 (by decide) (fun _ _ _ h9 => h9)) (e_iconst (v := 1) dX11_street_16 (by decide) (e_goto (tgt := 21) dX11_street_17 (by decide) (fun _ _ _ h9 => h9))))))))))))
set_option maxRecDepth 100000 in
theorem T_X11_street_21 {G : GE} {d C S : Nat} {ρ : Rs} : Snd G MX11_street (d + 1) C S 21 ρ (s_callV G d MX11_need 1 10 (s_iload 2 (s_switch [(0, (s_aload 0 (s_getR 10 3 (s_iload 1 (s_callV G d MX0_startOf 1 0 (s_ireturn ρ)))))), (1, (s_aload 0 (s_getR 10 3 (s_iload 1 (s_callV G d MX0_endOf 1 0 (s_ireturn ρ)))))), (2, (s_aload 0 (s_getR 10 3 (s_iload 1 (s_callV G d MX0_housesOf 1 0 (s_ireturn ρ)))))), (3, (s_aload 0 (s_getR 10 10 (s_iload 1 (s_callV G d MX4_treesOf 1 4 (s_ireturn ρ)))))), (4, (s_aload 0 (s_getR 10 3 (s_iload 1 (s_callV G d MX0_lengthOf 1 0 (s_ireturn ρ)))))), (5, (s_aload 0 (s_getR 10 10 (s_iload 1 (s_callV G d MX4_mateOf 1 4 (s_ireturn ρ)))))), (6, (s_aload 0 (s_getR 10 10 (s_iload 1 (s_callV G d MX4_roleOf 1 4 (s_iconst 1 (s_ic_ne (s_iconst 0 (s_ireturn ρ)) (s_iconst 1 (s_ireturn ρ))))))))), (7, (s_aload 0 (s_getR 10 10 (s_iload 1 (s_callV G d MX4_yearsOf 1 4 (s_ireturn ρ))))))] (s_aload 0 (s_getR 10 10 (s_iload 1 (s_callV G d MX4_holesOf 1 4 (s_ireturn ρ)))))))) := (e_callV cl_10 cal_X11_need q_715 q_717 q_11 dX11_street_21 (e_iload_n dX11_street_24 rfl (e_tsw (tg := [72, 81, 90, 99, 108, 117, 126, 144]) (td := 153) [0, 1, 2, 3, 4, 5, 6, 7] rfl dX11_street_25 (by decide) (by decide) (by decide +kernel) (by decide +kernel) (swc (t0 := 72) (e_aload_n dX11_street_72 rfl (e_getR rfl cl_10 (by decide) rfl q_431 dX11_street_73 (e_iload_n dX11_street_76 rfl (e_callV cl_0 cal_X0_startOf q_1229 q_1230 q_1231 dX11_street_77 (e_ireturn rfl dX11_street_80))))) (swc (t0 := 81) (e_aload_n dX11_street_81 rfl (e_getR rfl cl_10 (by decide) rfl q_431 dX11_street_82 (e_iload_n dX11_street_85 rfl (e_callV cl_0 cal_X0_endOf q_1233 q_1234 q_1235 dX11_street_86 (e_ireturn rfl dX11_street_89))))) (swc (t0 := 90) (e_aload_n dX11_street_90 rfl (e_getR rfl cl_10 (by decide) rfl q_431 dX11_street_91 (e_iload_n dX11_street_94 rfl (e_callV cl_0 cal_X0_housesOf q_1237 q_562 q_563 dX11_street_95 (e_ireturn rfl dX11_street_98))))) (swc (t0 := 99) (e_aload_n dX11_street_99 rfl (e_getR rfl cl_10 (by decide) rfl q_438 dX11_street_100 (e_iload_n dX11_street_103 rfl (e_callV cl_4 cal_X4_treesOf q_1238 q_566 q_567 dX11_street_104 (e_ireturn rfl dX11_street_107))))) (swc (t0 := 108) (e_aload_n dX11_street_108 rfl (e_getR rfl cl_10 (by decide) rfl q_431 dX11_street_109 (e_iload_n dX11_street_112 rfl (e_callV cl_0 cal_X0_lengthOf q_1239 q_578 q_579 dX11_street_113 (e_ireturn rfl dX11_street_116))))) (swc (t0 := 117) (e_aload_n dX11_street_117 rfl (e_getR rfl cl_10 (by decide) rfl q_438 dX11_street_118 (e_iload_n dX11_street_121 rfl (e_callV cl_4 cal_X4_mateOf q_629 q_531 q_532 dX11_street_122 (e_ireturn rfl dX11_street_125))))) (swc (t0 := 126) (e_aload_n dX11_street_126 rfl (e_getR rfl cl_10 (by decide) rfl q_438 dX11_street_127 (e_iload_n dX11_street_130 rfl (e_callV cl_4 cal_X4_roleOf q_1240 q_1112 q_1113 dX11_street_131 (e_iconst (v := 1) dX11_street_134 (by decide) (e_ic_ne (tgt := 142) dX11_street_135 (by decide) (e_iconst (v := 0) dX11_street_142 (by decide) (e_ireturn rfl dX11_street_143)) (e_iconst (v := 1) dX11_street_138 (by decide) (e_goto (tgt := 143) dX11_street_139 (by decide) (e_ireturn rfl dX11_street_143))))))))) (swc (t0 := 144) (e_aload_n dX11_street_144 rfl (e_getR rfl cl_10 (by decide) rfl q_438 dX11_street_145 (e_iload_n dX11_street_148 rfl (e_callV cl_4 cal_X4_yearsOf q_1241 q_1148 q_1149 dX11_street_149 (e_ireturn rfl dX11_street_152))))) swn)))))))) (e_aload_n dX11_street_153 rfl (e_getR rfl cl_10 (by decide) rfl q_438 dX11_street_154 (e_iload_n dX11_street_157 rfl (e_callV cl_4 cal_X4_holesOf q_1242 q_586 q_587 dX11_street_158 (e_ireturn rfl dX11_street_161))))))))
set_option maxRecDepth 100000 in
theorem TX_X11_street_0 {G : GE} {d C S : Nat} {ρ : Rs} : Snd G MX11_street (d + 1) (C + 1) (S + 6) 0 ρ (s_aload 0 (s_iload 1 (s_callVB G d MX11_needStreet 1 10 ρ (s_aload 0 (s_iload 2 (s_if_lt (s_iconst 0 (fun L st h => E G MX11_street (d + 1) (C + 1) (S + 6) 21 L st h ρ)) (s_iload 2 (s_iconst 8 (s_ic_gt (s_iconst 0 (fun L st h => E G MX11_street (d + 1) (C + 1) (S + 6) 21 L st h ρ)) (s_iconst 1 (fun L st h => E G MX11_street (d + 1) (C + 1) (S + 6) 21 L st h ρ))))))))))) := (e_aload_n dX11_street_0 rfl (e_iload_n dX11_street_1 rfl (e_callVB rfl cl_10 cal_X11_needStreet q_1205 q_1207 q_38 dX11_street_2 (e_aload_n dX11_street_5 rfl (e_iload_n dX11_street_6 rfl (e_if_lt (tgt := 20) dX11_street_7 (by decide) (e_iconst (v := 0) dX11_street_20 (by decide) (fun _ _ _ h9 => h9)) (e_iload_n dX11_street_10 rfl (e_bipush (v := 8) dX11_street_11 (by decide) (e_ic_gt (tgt := 20) dX11_street_13 (by decide) (e_iconst (v := 0) dX11_street_20 (by decide) (fun _ _ _ h9 => h9)) (e_iconst (v := 1) dX11_street_16 (by decide) (e_goto (tgt := 21) dX11_street_17 (by decide) (fun _ _ _ h9 => h9))))))))))))
set_option maxRecDepth 100000 in
theorem TX_X11_street_21 {G : GE} {d C S : Nat} {ρ : Rs} : Snd G MX11_street (d + 1) (C + 1) (S + 6) 21 ρ (s_callVB G d MX11_need 1 10 ρ (s_iload 2 (s_switch [(0, (s_aload 0 (s_getR 10 3 (s_iload 1 (s_callV G d MX0_startOf 1 0 (s_ireturn ρ)))))), (1, (s_aload 0 (s_getR 10 3 (s_iload 1 (s_callV G d MX0_endOf 1 0 (s_ireturn ρ)))))), (2, (s_aload 0 (s_getR 10 3 (s_iload 1 (s_callV G d MX0_housesOf 1 0 (s_ireturn ρ)))))), (3, (s_aload 0 (s_getR 10 10 (s_iload 1 (s_callV G d MX4_treesOf 1 4 (s_ireturn ρ)))))), (4, (s_aload 0 (s_getR 10 3 (s_iload 1 (s_callV G d MX0_lengthOf 1 0 (s_ireturn ρ)))))), (5, (s_aload 0 (s_getR 10 10 (s_iload 1 (s_callV G d MX4_mateOf 1 4 (s_ireturn ρ)))))), (6, (s_aload 0 (s_getR 10 10 (s_iload 1 (s_callV G d MX4_roleOf 1 4 (s_iconst 1 (s_ic_ne (s_iconst 0 (s_ireturn ρ)) (s_iconst 1 (s_ireturn ρ))))))))), (7, (s_aload 0 (s_getR 10 10 (s_iload 1 (s_callV G d MX4_yearsOf 1 4 (s_ireturn ρ))))))] (s_aload 0 (s_getR 10 10 (s_iload 1 (s_callV G d MX4_holesOf 1 4 (s_ireturn ρ)))))))) := (e_callVB rfl cl_10 cal_X11_need q_715 q_717 q_11 dX11_street_21 (e_iload_n dX11_street_24 rfl (e_tsw (tg := [72, 81, 90, 99, 108, 117, 126, 144]) (td := 153) [0, 1, 2, 3, 4, 5, 6, 7] rfl dX11_street_25 (by decide) (by decide) (by decide +kernel) (by decide +kernel) (swc (t0 := 72) (e_aload_n dX11_street_72 rfl (e_getR rfl cl_10 (by decide) rfl q_431 dX11_street_73 (e_iload_n dX11_street_76 rfl (e_callV cl_0 cal_X0_startOf q_1229 q_1230 q_1231 dX11_street_77 (e_ireturn rfl dX11_street_80))))) (swc (t0 := 81) (e_aload_n dX11_street_81 rfl (e_getR rfl cl_10 (by decide) rfl q_431 dX11_street_82 (e_iload_n dX11_street_85 rfl (e_callV cl_0 cal_X0_endOf q_1233 q_1234 q_1235 dX11_street_86 (e_ireturn rfl dX11_street_89))))) (swc (t0 := 90) (e_aload_n dX11_street_90 rfl (e_getR rfl cl_10 (by decide) rfl q_431 dX11_street_91 (e_iload_n dX11_street_94 rfl (e_callV cl_0 cal_X0_housesOf q_1237 q_562 q_563 dX11_street_95 (e_ireturn rfl dX11_street_98))))) (swc (t0 := 99) (e_aload_n dX11_street_99 rfl (e_getR rfl cl_10 (by decide) rfl q_438 dX11_street_100 (e_iload_n dX11_street_103 rfl (e_callV cl_4 cal_X4_treesOf q_1238 q_566 q_567 dX11_street_104 (e_ireturn rfl dX11_street_107))))) (swc (t0 := 108) (e_aload_n dX11_street_108 rfl (e_getR rfl cl_10 (by decide) rfl q_431 dX11_street_109 (e_iload_n dX11_street_112 rfl (e_callV cl_0 cal_X0_lengthOf q_1239 q_578 q_579 dX11_street_113 (e_ireturn rfl dX11_street_116))))) (swc (t0 := 117) (e_aload_n dX11_street_117 rfl (e_getR rfl cl_10 (by decide) rfl q_438 dX11_street_118 (e_iload_n dX11_street_121 rfl (e_callV cl_4 cal_X4_mateOf q_629 q_531 q_532 dX11_street_122 (e_ireturn rfl dX11_street_125))))) (swc (t0 := 126) (e_aload_n dX11_street_126 rfl (e_getR rfl cl_10 (by decide) rfl q_438 dX11_street_127 (e_iload_n dX11_street_130 rfl (e_callV cl_4 cal_X4_roleOf q_1240 q_1112 q_1113 dX11_street_131 (e_iconst (v := 1) dX11_street_134 (by decide) (e_ic_ne (tgt := 142) dX11_street_135 (by decide) (e_iconst (v := 0) dX11_street_142 (by decide) (e_ireturn rfl dX11_street_143)) (e_iconst (v := 1) dX11_street_138 (by decide) (e_goto (tgt := 143) dX11_street_139 (by decide) (e_ireturn rfl dX11_street_143))))))))) (swc (t0 := 144) (e_aload_n dX11_street_144 rfl (e_getR rfl cl_10 (by decide) rfl q_438 dX11_street_145 (e_iload_n dX11_street_148 rfl (e_callV cl_4 cal_X4_yearsOf q_1241 q_1148 q_1149 dX11_street_149 (e_ireturn rfl dX11_street_152))))) swn)))))))) (e_aload_n dX11_street_153 rfl (e_getR rfl cl_10 (by decide) rfl q_438 dX11_street_154 (e_iload_n dX11_street_157 rfl (e_callV cl_4 cal_X4_holesOf q_1242 q_586 q_587 dX11_street_158 (e_ireturn rfl dX11_street_161))))))))
theorem dX11_likes_0 : decode cX11_likes 0 = .ok (.aload_n 0, 1) := by decide +kernel
theorem dX11_likes_1 : decode cX11_likes 1 = .ok (.iload_n 1, 1) := by decide +kernel
theorem dX11_likes_2 : decode cX11_likes 2 = .ok (.invokevirtual 196, 3) := by decide +kernel
theorem dX11_likes_5 : decode cX11_likes 5 = .ok (.aload_n 0, 1) := by decide +kernel
theorem dX11_likes_6 : decode cX11_likes 6 = .ok (.iload_n 2, 1) := by decide +kernel
theorem dX11_likes_7 : decode cX11_likes 7 = .ok (.invokevirtual 196, 3) := by decide +kernel
theorem dX11_likes_10 : decode cX11_likes 10 = .ok (.aload_n 0, 1) := by decide +kernel
theorem dX11_likes_11 : decode cX11_likes 11 = .ok (.iload_n 1, 1) := by decide +kernel
theorem dX11_likes_12 : decode cX11_likes 12 = .ok (.iload_n 2, 1) := by decide +kernel
theorem dX11_likes_13 : decode cX11_likes 13 = .ok (.if_icmp .eq 7, 3) := by decide +kernel
theorem dX11_likes_16 : decode cX11_likes 16 = .ok (.iconst 1, 1) := by decide +kernel
theorem dX11_likes_17 : decode cX11_likes 17 = .ok (.goto 4, 3) := by decide +kernel
theorem dX11_likes_20 : decode cX11_likes 20 = .ok (.iconst 0, 1) := by decide +kernel
theorem dX11_likes_21 : decode cX11_likes 21 = .ok (.invokevirtual 171, 3) := by decide +kernel
theorem dX11_likes_24 : decode cX11_likes 24 = .ok (.aload_n 0, 1) := by decide +kernel
theorem dX11_likes_25 : decode cX11_likes 25 = .ok (.getfield 25, 3) := by decide +kernel
theorem dX11_likes_28 : decode cX11_likes 28 = .ok (.iload_n 1, 1) := by decide +kernel
theorem dX11_likes_29 : decode cX11_likes 29 = .ok (.iload_n 2, 1) := by decide +kernel
theorem dX11_likes_30 : decode cX11_likes 30 = .ok (.invokevirtual 227, 3) := by decide +kernel
theorem dX11_likes_33 : decode cX11_likes 33 = .ok (.ireturn, 1) := by decide +kernel
set_option maxRecDepth 100000 in
theorem T_X11_likes_0 {G : GE} {d C S : Nat} {ρ : Rs} : Snd G MX11_likes (d + 1) C S 0 ρ (s_aload 0 (s_iload 1 (s_callV G d MX11_needStreet 1 10 (s_aload 0 (s_iload 2 (s_callV G d MX11_needStreet 1 10 (s_aload 0 (s_iload 1 (s_iload 2 (s_ic_eq (s_iconst 0 (s_callV G d MX11_need 1 10 (s_aload 0 (s_getR 10 3 (s_iload 1 (s_iload 2 (s_callV G d MX0_liking 2 0 (s_ireturn ρ)))))))) (s_iconst 1 (s_callV G d MX11_need 1 10 (s_aload 0 (s_getR 10 3 (s_iload 1 (s_iload 2 (s_callV G d MX0_liking 2 0 (s_ireturn ρ)))))))))))))))))) := (e_aload_n dX11_likes_0 rfl (e_iload_n dX11_likes_1 rfl (e_callV cl_10 cal_X11_needStreet q_1205 q_1207 q_38 dX11_likes_2 (e_aload_n dX11_likes_5 rfl (e_iload_n dX11_likes_6 rfl (e_callV cl_10 cal_X11_needStreet q_1205 q_1207 q_38 dX11_likes_7 (e_aload_n dX11_likes_10 rfl (e_iload_n dX11_likes_11 rfl (e_iload_n dX11_likes_12 rfl (e_ic_eq (tgt := 20) dX11_likes_13 (by decide) (e_iconst (v := 0) dX11_likes_20 (by decide) (e_callV cl_10 cal_X11_need q_715 q_717 q_11 dX11_likes_21 (e_aload_n dX11_likes_24 rfl (e_getR rfl cl_10 (by decide) rfl q_431 dX11_likes_25 (e_iload_n dX11_likes_28 rfl (e_iload_n dX11_likes_29 rfl (e_callV cl_0 cal_X0_liking q_630 q_570 q_571 dX11_likes_30 (e_ireturn rfl dX11_likes_33)))))))) (e_iconst (v := 1) dX11_likes_16 (by decide) (e_goto (tgt := 21) dX11_likes_17 (by decide) (e_callV cl_10 cal_X11_need q_715 q_717 q_11 dX11_likes_21 (e_aload_n dX11_likes_24 rfl (e_getR rfl cl_10 (by decide) rfl q_431 dX11_likes_25 (e_iload_n dX11_likes_28 rfl (e_iload_n dX11_likes_29 rfl (e_callV cl_0 cal_X0_liking q_630 q_570 q_571 dX11_likes_30 (e_ireturn rfl dX11_likes_33)))))))))))))))))))
set_option maxRecDepth 100000 in
theorem TX_X11_likes_0 {G : GE} {d C S : Nat} {ρ : Rs} : Snd G MX11_likes (d + 1) (C + 1) (S + 6) 0 ρ (s_aload 0 (s_iload 1 (s_callVB G d MX11_needStreet 1 10 ρ (s_aload 0 (s_iload 2 (s_callVB G d MX11_needStreet 1 10 ρ (s_aload 0 (s_iload 1 (s_iload 2 (s_ic_eq (s_iconst 0 (s_callVB G d MX11_need 1 10 ρ (s_aload 0 (s_getR 10 3 (s_iload 1 (s_iload 2 (s_callV G d MX0_liking 2 0 (s_ireturn ρ)))))))) (s_iconst 1 (s_callVB G d MX11_need 1 10 ρ (s_aload 0 (s_getR 10 3 (s_iload 1 (s_iload 2 (s_callV G d MX0_liking 2 0 (s_ireturn ρ)))))))))))))))))) := (e_aload_n dX11_likes_0 rfl (e_iload_n dX11_likes_1 rfl (e_callVB rfl cl_10 cal_X11_needStreet q_1205 q_1207 q_38 dX11_likes_2 (e_aload_n dX11_likes_5 rfl (e_iload_n dX11_likes_6 rfl (e_callVB rfl cl_10 cal_X11_needStreet q_1205 q_1207 q_38 dX11_likes_7 (e_aload_n dX11_likes_10 rfl (e_iload_n dX11_likes_11 rfl (e_iload_n dX11_likes_12 rfl (e_ic_eq (tgt := 20) dX11_likes_13 (by decide) (e_iconst (v := 0) dX11_likes_20 (by decide) (e_callVB rfl cl_10 cal_X11_need q_715 q_717 q_11 dX11_likes_21 (e_aload_n dX11_likes_24 rfl (e_getR rfl cl_10 (by decide) rfl q_431 dX11_likes_25 (e_iload_n dX11_likes_28 rfl (e_iload_n dX11_likes_29 rfl (e_callV cl_0 cal_X0_liking q_630 q_570 q_571 dX11_likes_30 (e_ireturn rfl dX11_likes_33)))))))) (e_iconst (v := 1) dX11_likes_16 (by decide) (e_goto (tgt := 21) dX11_likes_17 (by decide) (e_callVB rfl cl_10 cal_X11_need q_715 q_717 q_11 dX11_likes_21 (e_aload_n dX11_likes_24 rfl (e_getR rfl cl_10 (by decide) rfl q_431 dX11_likes_25 (e_iload_n dX11_likes_28 rfl (e_iload_n dX11_likes_29 rfl (e_callV cl_0 cal_X0_liking q_630 q_570 q_571 dX11_likes_30 (e_ireturn rfl dX11_likes_33)))))))))))))))))))
theorem dX11_banns_0 : decode cX11_banns 0 = .ok (.aload_n 0, 1) := by decide +kernel
theorem dX11_banns_1 : decode cX11_banns 1 = .ok (.iload_n 1, 1) := by decide +kernel
theorem dX11_banns_2 : decode cX11_banns 2 = .ok (.invokevirtual 196, 3) := by decide +kernel
theorem dX11_banns_5 : decode cX11_banns 5 = .ok (.aload_n 0, 1) := by decide +kernel
theorem dX11_banns_6 : decode cX11_banns 6 = .ok (.iload_n 2, 1) := by decide +kernel
theorem dX11_banns_7 : decode cX11_banns 7 = .ok (.invokevirtual 196, 3) := by decide +kernel
theorem dX11_banns_10 : decode cX11_banns 10 = .ok (.aload_n 0, 1) := by decide +kernel
theorem dX11_banns_11 : decode cX11_banns 11 = .ok (.getfield 35, 3) := by decide +kernel
theorem dX11_banns_14 : decode cX11_banns 14 = .ok (.aload_n 0, 1) := by decide +kernel
theorem dX11_banns_15 : decode cX11_banns 15 = .ok (.getfield 25, 3) := by decide +kernel
theorem dX11_banns_18 : decode cX11_banns 18 = .ok (.aload_n 0, 1) := by decide +kernel
theorem dX11_banns_19 : decode cX11_banns 19 = .ok (.getfield 62, 3) := by decide +kernel
theorem dX11_banns_22 : decode cX11_banns 22 = .ok (.iload_n 1, 1) := by decide +kernel
theorem dX11_banns_23 : decode cX11_banns 23 = .ok (.iload_n 2, 1) := by decide +kernel
theorem dX11_banns_24 : decode cX11_banns 24 = .ok (.invokevirtual 231, 3) := by decide +kernel
theorem dX11_banns_27 : decode cX11_banns 27 = .ok (.ireturn, 1) := by decide +kernel
set_option maxRecDepth 100000 in
theorem T_X11_banns_0 {G : GE} {d C S : Nat} {ρ : Rs} : Snd G MX11_banns (d + 1) C S 0 ρ (s_aload 0 (s_iload 1 (s_callV G d MX11_needStreet 1 10 (s_aload 0 (s_iload 2 (s_callV G d MX11_needStreet 1 10 (s_aload 0 (s_getR 10 5 (s_aload 0 (s_getR 10 3 (s_aload 0 (s_getR 10 10 (s_iload 1 (s_iload 2 (s_callV G d MX2_hindrance 4 2 (s_ireturn ρ)))))))))))))))) := (e_aload_n dX11_banns_0 rfl (e_iload_n dX11_banns_1 rfl (e_callV cl_10 cal_X11_needStreet q_1205 q_1207 q_38 dX11_banns_2 (e_aload_n dX11_banns_5 rfl (e_iload_n dX11_banns_6 rfl (e_callV cl_10 cal_X11_needStreet q_1205 q_1207 q_38 dX11_banns_7 (e_aload_n dX11_banns_10 rfl (e_getR rfl cl_10 (by decide) rfl q_433 dX11_banns_11 (e_aload_n dX11_banns_14 rfl (e_getR rfl cl_10 (by decide) rfl q_431 dX11_banns_15 (e_aload_n dX11_banns_18 rfl (e_getR rfl cl_10 (by decide) rfl q_438 dX11_banns_19 (e_iload_n dX11_banns_22 rfl (e_iload_n dX11_banns_23 rfl (e_callV cl_2 cal_X2_hindrance q_631 q_536 q_537 dX11_banns_24 (e_ireturn rfl dX11_banns_27))))))))))))))))
set_option maxRecDepth 100000 in
theorem TX_X11_banns_0 {G : GE} {d C S : Nat} {ρ : Rs} : Snd G MX11_banns (d + 1) (C + 1) (S + 6) 0 ρ (s_aload 0 (s_iload 1 (s_callVB G d MX11_needStreet 1 10 ρ (s_aload 0 (s_iload 2 (s_callVB G d MX11_needStreet 1 10 ρ (s_aload 0 (s_getR 10 5 (s_aload 0 (s_getR 10 3 (s_aload 0 (s_getR 10 10 (s_iload 1 (s_iload 2 (s_callV G d MX2_hindrance 4 2 (s_ireturn ρ)))))))))))))))) := (e_aload_n dX11_banns_0 rfl (e_iload_n dX11_banns_1 rfl (e_callVB rfl cl_10 cal_X11_needStreet q_1205 q_1207 q_38 dX11_banns_2 (e_aload_n dX11_banns_5 rfl (e_iload_n dX11_banns_6 rfl (e_callVB rfl cl_10 cal_X11_needStreet q_1205 q_1207 q_38 dX11_banns_7 (e_aload_n dX11_banns_10 rfl (e_getR rfl cl_10 (by decide) rfl q_433 dX11_banns_11 (e_aload_n dX11_banns_14 rfl (e_getR rfl cl_10 (by decide) rfl q_431 dX11_banns_15 (e_aload_n dX11_banns_18 rfl (e_getR rfl cl_10 (by decide) rfl q_438 dX11_banns_19 (e_iload_n dX11_banns_22 rfl (e_iload_n dX11_banns_23 rfl (e_callV cl_2 cal_X2_hindrance q_631 q_536 q_537 dX11_banns_24 (e_ireturn rfl dX11_banns_27))))))))))))))))
theorem dX11_number_0 : decode cX11_number 0 = .ok (.aload_n 0, 1) := by decide +kernel
theorem dX11_number_1 : decode cX11_number 1 = .ok (.iload_n 1, 1) := by decide +kernel
theorem dX11_number_2 : decode cX11_number 2 = .ok (.invokevirtual 196, 3) := by decide +kernel
theorem dX11_number_5 : decode cX11_number 5 = .ok (.aload_n 0, 1) := by decide +kernel
theorem dX11_number_6 : decode cX11_number 6 = .ok (.iload_n 2, 1) := by decide +kernel
theorem dX11_number_7 : decode cX11_number 7 = .ok (.iconst 1, 1) := by decide +kernel
theorem dX11_number_8 : decode cX11_number 8 = .ok (.if_icmp .lt 19, 3) := by decide +kernel
theorem dX11_number_11 : decode cX11_number 11 = .ok (.iload_n 2, 1) := by decide +kernel
theorem dX11_number_12 : decode cX11_number 12 = .ok (.aload_n 0, 1) := by decide +kernel
theorem dX11_number_13 : decode cX11_number 13 = .ok (.getfield 25, 3) := by decide +kernel
theorem dX11_number_16 : decode cX11_number 16 = .ok (.iload_n 1, 1) := by decide +kernel
theorem dX11_number_17 : decode cX11_number 17 = .ok (.invokevirtual 206, 3) := by decide +kernel
theorem dX11_number_20 : decode cX11_number 20 = .ok (.if_icmp .gt 7, 3) := by decide +kernel
theorem dX11_number_23 : decode cX11_number 23 = .ok (.iconst 1, 1) := by decide +kernel
theorem dX11_number_24 : decode cX11_number 24 = .ok (.goto 4, 3) := by decide +kernel
theorem dX11_number_27 : decode cX11_number 27 = .ok (.iconst 0, 1) := by decide +kernel
theorem dX11_number_28 : decode cX11_number 28 = .ok (.invokevirtual 235, 3) := by decide +kernel
theorem dX11_number_31 : decode cX11_number 31 = .ok (.aload_n 0, 1) := by decide +kernel
theorem dX11_number_32 : decode cX11_number 32 = .ok (.getfield 62, 3) := by decide +kernel
theorem dX11_number_35 : decode cX11_number 35 = .ok (.iload_n 1, 1) := by decide +kernel
theorem dX11_number_36 : decode cX11_number 36 = .ok (.invokevirtual 218, 3) := by decide +kernel
theorem dX11_number_39 : decode cX11_number 39 = .ok (.iload_n 2, 1) := by decide +kernel
theorem dX11_number_40 : decode cX11_number 40 = .ok (.invokestatic 238, 3) := by decide +kernel
theorem dX11_number_43 : decode cX11_number 43 = .ok (.ireturn, 1) := by decide +kernel
set_option maxRecDepth 100000 in
theorem T_X11_number_0 {G : GE} {d C S : Nat} {ρ : Rs} : Snd G MX11_number (d + 1) C S 0 ρ (s_aload 0 (s_iload 1 (s_callV G d MX11_needStreet 1 10 (s_aload 0 (s_iload 2 (s_iconst 1 (s_ic_lt (s_iconst 0 (s_callV G d MX11_needHouse 1 10 (s_aload 0 (s_getR 10 10 (s_iload 1 (s_callV G d MX4_roleOf 1 4 (s_iload 2 (s_call G d MX4_numberOf 2 (s_ireturn ρ))))))))) (s_iload 2 (s_aload 0 (s_getR 10 3 (s_iload 1 (s_callV G d MX0_housesOf 1 0 (s_ic_gt (s_iconst 0 (s_callV G d MX11_needHouse 1 10 (s_aload 0 (s_getR 10 10 (s_iload 1 (s_callV G d MX4_roleOf 1 4 (s_iload 2 (s_call G d MX4_numberOf 2 (s_ireturn ρ))))))))) (s_iconst 1 (s_callV G d MX11_needHouse 1 10 (s_aload 0 (s_getR 10 10 (s_iload 1 (s_callV G d MX4_roleOf 1 4 (s_iload 2 (s_call G d MX4_numberOf 2 (s_ireturn ρ)))))))))))))))))))))) := (e_aload_n dX11_number_0 rfl (e_iload_n dX11_number_1 rfl (e_callV cl_10 cal_X11_needStreet q_1205 q_1207 q_38 dX11_number_2 (e_aload_n dX11_number_5 rfl (e_iload_n dX11_number_6 rfl (e_iconst (v := 1) dX11_number_7 (by decide) (e_ic_lt (tgt := 27) dX11_number_8 (by decide) (e_iconst (v := 0) dX11_number_27 (by decide) (e_callV cl_10 cal_X11_needHouse q_1265 q_1267 q_40 dX11_number_28 (e_aload_n dX11_number_31 rfl (e_getR rfl cl_10 (by decide) rfl q_438 dX11_number_32 (e_iload_n dX11_number_35 rfl (e_callV cl_4 cal_X4_roleOf q_1240 q_1112 q_1113 dX11_number_36 (e_iload_n dX11_number_39 rfl (e_callS cal_X4_numberOf q_1285 q_1286 dX11_number_40 (e_ireturn rfl dX11_number_43))))))))) (e_iload_n dX11_number_11 rfl (e_aload_n dX11_number_12 rfl (e_getR rfl cl_10 (by decide) rfl q_431 dX11_number_13 (e_iload_n dX11_number_16 rfl (e_callV cl_0 cal_X0_housesOf q_1237 q_562 q_563 dX11_number_17 (e_ic_gt (tgt := 27) dX11_number_20 (by decide) (e_iconst (v := 0) dX11_number_27 (by decide) (e_callV cl_10 cal_X11_needHouse q_1265 q_1267 q_40 dX11_number_28 (e_aload_n dX11_number_31 rfl (e_getR rfl cl_10 (by decide) rfl q_438 dX11_number_32 (e_iload_n dX11_number_35 rfl (e_callV cl_4 cal_X4_roleOf q_1240 q_1112 q_1113 dX11_number_36 (e_iload_n dX11_number_39 rfl (e_callS cal_X4_numberOf q_1285 q_1286 dX11_number_40 (e_ireturn rfl dX11_number_43))))))))) (e_iconst (v := 1) dX11_number_23 (by decide) (e_goto (tgt := 28) dX11_number_24 (by decide) (e_callV cl_10 cal_X11_needHouse q_1265 q_1267 q_40 dX11_number_28 (e_aload_n dX11_number_31 rfl (e_getR rfl cl_10 (by decide) rfl q_438 dX11_number_32 (e_iload_n dX11_number_35 rfl (e_callV cl_4 cal_X4_roleOf q_1240 q_1112 q_1113 dX11_number_36 (e_iload_n dX11_number_39 rfl (e_callS cal_X4_numberOf q_1285 q_1286 dX11_number_40 (e_ireturn rfl dX11_number_43)))))))))))))))))))))))
set_option maxRecDepth 100000 in
theorem TX_X11_number_0 {G : GE} {d C S : Nat} {ρ : Rs} : Snd G MX11_number (d + 1) (C + 1) (S + 6) 0 ρ (s_aload 0 (s_iload 1 (s_callVB G d MX11_needStreet 1 10 ρ (s_aload 0 (s_iload 2 (s_iconst 1 (s_ic_lt (s_iconst 0 (s_callVB G d MX11_needHouse 1 10 ρ (s_aload 0 (s_getR 10 10 (s_iload 1 (s_callV G d MX4_roleOf 1 4 (s_iload 2 (s_call G d MX4_numberOf 2 (s_ireturn ρ))))))))) (s_iload 2 (s_aload 0 (s_getR 10 3 (s_iload 1 (s_callV G d MX0_housesOf 1 0 (s_ic_gt (s_iconst 0 (s_callVB G d MX11_needHouse 1 10 ρ (s_aload 0 (s_getR 10 10 (s_iload 1 (s_callV G d MX4_roleOf 1 4 (s_iload 2 (s_call G d MX4_numberOf 2 (s_ireturn ρ))))))))) (s_iconst 1 (s_callVB G d MX11_needHouse 1 10 ρ (s_aload 0 (s_getR 10 10 (s_iload 1 (s_callV G d MX4_roleOf 1 4 (s_iload 2 (s_call G d MX4_numberOf 2 (s_ireturn ρ)))))))))))))))))))))) := (e_aload_n dX11_number_0 rfl (e_iload_n dX11_number_1 rfl (e_callVB rfl cl_10 cal_X11_needStreet q_1205 q_1207 q_38 dX11_number_2 (e_aload_n dX11_number_5 rfl (e_iload_n dX11_number_6 rfl (e_iconst (v := 1) dX11_number_7 (by decide) (e_ic_lt (tgt := 27) dX11_number_8 (by decide) (e_iconst (v := 0) dX11_number_27 (by decide) (e_callVB rfl cl_10 cal_X11_needHouse q_1265 q_1267 q_40 dX11_number_28 (e_aload_n dX11_number_31 rfl (e_getR rfl cl_10 (by decide) rfl q_438 dX11_number_32 (e_iload_n dX11_number_35 rfl (e_callV cl_4 cal_X4_roleOf q_1240 q_1112 q_1113 dX11_number_36 (e_iload_n dX11_number_39 rfl (e_callS cal_X4_numberOf q_1285 q_1286 dX11_number_40 (e_ireturn rfl dX11_number_43))))))))) (e_iload_n dX11_number_11 rfl (e_aload_n dX11_number_12 rfl (e_getR rfl cl_10 (by decide) rfl q_431 dX11_number_13 (e_iload_n dX11_number_16 rfl (e_callV cl_0 cal_X0_housesOf q_1237 q_562 q_563 dX11_number_17 (e_ic_gt (tgt := 27) dX11_number_20 (by decide) (e_iconst (v := 0) dX11_number_27 (by decide) (e_callVB rfl cl_10 cal_X11_needHouse q_1265 q_1267 q_40 dX11_number_28 (e_aload_n dX11_number_31 rfl (e_getR rfl cl_10 (by decide) rfl q_438 dX11_number_32 (e_iload_n dX11_number_35 rfl (e_callV cl_4 cal_X4_roleOf q_1240 q_1112 q_1113 dX11_number_36 (e_iload_n dX11_number_39 rfl (e_callS cal_X4_numberOf q_1285 q_1286 dX11_number_40 (e_ireturn rfl dX11_number_43))))))))) (e_iconst (v := 1) dX11_number_23 (by decide) (e_goto (tgt := 28) dX11_number_24 (by decide) (e_callVB rfl cl_10 cal_X11_needHouse q_1265 q_1267 q_40 dX11_number_28 (e_aload_n dX11_number_31 rfl (e_getR rfl cl_10 (by decide) rfl q_438 dX11_number_32 (e_iload_n dX11_number_35 rfl (e_callV cl_4 cal_X4_roleOf q_1240 q_1112 q_1113 dX11_number_36 (e_iload_n dX11_number_39 rfl (e_callS cal_X4_numberOf q_1285 q_1286 dX11_number_40 (e_ireturn rfl dX11_number_43)))))))))))))))))))))))
theorem dX11_letter_0 : decode cX11_letter 0 = .ok (.aload_n 0, 1) := by decide +kernel
theorem dX11_letter_1 : decode cX11_letter 1 = .ok (.iload_n 1, 1) := by decide +kernel
theorem dX11_letter_2 : decode cX11_letter 2 = .ok (.invokevirtual 196, 3) := by decide +kernel
theorem dX11_letter_5 : decode cX11_letter 5 = .ok (.aload_n 0, 1) := by decide +kernel
theorem dX11_letter_6 : decode cX11_letter 6 = .ok (.iload_n 2, 1) := by decide +kernel
theorem dX11_letter_7 : decode cX11_letter 7 = .ok (.iconst 1, 1) := by decide +kernel
theorem dX11_letter_8 : decode cX11_letter 8 = .ok (.if_icmp .lt 13, 3) := by decide +kernel
theorem dX11_letter_11 : decode cX11_letter 11 = .ok (.iload_n 2, 1) := by decide +kernel
theorem dX11_letter_12 : decode cX11_letter 12 = .ok (.bipush 99, 2) := by decide +kernel
theorem dX11_letter_14 : decode cX11_letter 14 = .ok (.if_icmp .gt 7, 3) := by decide +kernel
theorem dX11_letter_17 : decode cX11_letter 17 = .ok (.iconst 1, 1) := by decide +kernel
theorem dX11_letter_18 : decode cX11_letter 18 = .ok (.goto 4, 3) := by decide +kernel
theorem dX11_letter_21 : decode cX11_letter 21 = .ok (.iconst 0, 1) := by decide +kernel
theorem dX11_letter_22 : decode cX11_letter 22 = .ok (.invokevirtual 171, 3) := by decide +kernel
theorem dX11_letter_25 : decode cX11_letter 25 = .ok (.aload_n 0, 1) := by decide +kernel
theorem dX11_letter_26 : decode cX11_letter 26 = .ok (.iload_n 1, 1) := by decide +kernel
theorem dX11_letter_27 : decode cX11_letter 27 = .ok (.iload_n 2, 1) := by decide +kernel
theorem dX11_letter_28 : decode cX11_letter 28 = .ok (.invokevirtual 241, 3) := by decide +kernel
theorem dX11_letter_31 : decode cX11_letter 31 = .ok (.istore_n 3, 1) := by decide +kernel
theorem dX11_letter_32 : decode cX11_letter 32 = .ok (.iload_n 3, 1) := by decide +kernel
theorem dX11_letter_33 : decode cX11_letter 33 = .ok (.ifCond .le 10, 3) := by decide +kernel
theorem dX11_letter_36 : decode cX11_letter 36 = .ok (.bipush 100, 2) := by decide +kernel
theorem dX11_letter_38 : decode cX11_letter 38 = .ok (.iload_n 1, 1) := by decide +kernel
theorem dX11_letter_39 : decode cX11_letter 39 = .ok (.imul, 1) := by decide +kernel
theorem dX11_letter_40 : decode cX11_letter 40 = .ok (.iload_n 3, 1) := by decide +kernel
theorem dX11_letter_41 : decode cX11_letter 41 = .ok (.iadd, 1) := by decide +kernel
theorem dX11_letter_42 : decode cX11_letter 42 = .ok (.ireturn, 1) := by decide +kernel
theorem dX11_letter_43 : decode cX11_letter 43 = .ok (.aload_n 0, 1) := by decide +kernel
theorem dX11_letter_44 : decode cX11_letter 44 = .ok (.getfield 62, 3) := by decide +kernel
theorem dX11_letter_47 : decode cX11_letter 47 = .ok (.iload_n 1, 1) := by decide +kernel
theorem dX11_letter_48 : decode cX11_letter 48 = .ok (.invokevirtual 215, 3) := by decide +kernel
theorem dX11_letter_51 : decode cX11_letter 51 = .ok (.istore 4, 2) := by decide +kernel
theorem dX11_letter_53 : decode cX11_letter 53 = .ok (.iload 4, 2) := by decide +kernel
theorem dX11_letter_55 : decode cX11_letter 55 = .ok (.iconst (-1), 1) := by decide +kernel
theorem dX11_letter_56 : decode cX11_letter 56 = .ok (.if_icmp .ne 7, 3) := by decide +kernel
theorem dX11_letter_59 : decode cX11_letter 59 = .ok (.iconst 0, 1) := by decide +kernel
theorem dX11_letter_60 : decode cX11_letter 60 = .ok (.goto 10, 3) := by decide +kernel
theorem dX11_letter_63 : decode cX11_letter 63 = .ok (.aload_n 0, 1) := by decide +kernel
theorem dX11_letter_64 : decode cX11_letter 64 = .ok (.iload 4, 2) := by decide +kernel
theorem dX11_letter_66 : decode cX11_letter 66 = .ok (.iload_n 2, 1) := by decide +kernel
theorem dX11_letter_67 : decode cX11_letter 67 = .ok (.invokevirtual 241, 3) := by decide +kernel
theorem dX11_letter_70 : decode cX11_letter 70 = .ok (.istore 5, 2) := by decide +kernel
theorem dX11_letter_72 : decode cX11_letter 72 = .ok (.iload 5, 2) := by decide +kernel
theorem dX11_letter_74 : decode cX11_letter 74 = .ok (.ifCond .le 14, 3) := by decide +kernel
theorem dX11_letter_77 : decode cX11_letter 77 = .ok (.bipush 100, 2) := by decide +kernel
theorem dX11_letter_79 : decode cX11_letter 79 = .ok (.iload 4, 2) := by decide +kernel
theorem dX11_letter_81 : decode cX11_letter 81 = .ok (.imul, 1) := by decide +kernel
theorem dX11_letter_82 : decode cX11_letter 82 = .ok (.iload 5, 2) := by decide +kernel
theorem dX11_letter_84 : decode cX11_letter 84 = .ok (.iadd, 1) := by decide +kernel
theorem dX11_letter_85 : decode cX11_letter 85 = .ok (.goto 4, 3) := by decide +kernel
theorem dX11_letter_88 : decode cX11_letter 88 = .ok (.iconst (-1), 1) := by decide +kernel
theorem dX11_letter_89 : decode cX11_letter 89 = .ok (.ireturn, 1) := by decide +kernel
set_option maxRecDepth 100000 in
theorem T_X11_letter_0 {G : GE} {d C S : Nat} {ρ : Rs} : Snd G MX11_letter (d + 1) C S 0 ρ (s_aload 0 (s_iload 1 (s_callV G d MX11_needStreet 1 10 (s_aload 0 (s_iload 2 (s_iconst 1 (s_ic_lt (s_iconst 0 (fun L st h => E G MX11_letter (d + 1) C S 22 L st h ρ)) (s_iload 2 (s_iconst 99 (s_ic_gt (s_iconst 0 (fun L st h => E G MX11_letter (d + 1) C S 22 L st h ρ)) (s_iconst 1 (fun L st h => E G MX11_letter (d + 1) C S 22 L st h ρ)))))))))))) := (e_aload_n dX11_letter_0 rfl (e_iload_n dX11_letter_1 rfl (e_callV cl_10 cal_X11_needStreet q_1205 q_1207 q_38 dX11_letter_2 (e_aload_n dX11_letter_5 rfl (e_iload_n dX11_letter_6 rfl (e_iconst (v := 1) dX11_letter_7 (by decide) (e_ic_lt (tgt := 21) dX11_letter_8 (by decide) (e_iconst (v := 0) dX11_letter_21 (by decide) (fun _ _ _ h9 => h9)) (e_iload_n dX11_letter_11 rfl (e_bipush (v := 99) dX11_letter_12 (by decide) (e_ic_gt (tgt := 21) dX11_letter_14 (by decide) (e_iconst (v := 0) dX11_letter_21 (by decide) (fun _ _ _ h9 => h9)) (e_iconst (v := 1) dX11_letter_17 (by decide) (e_goto (tgt := 22) dX11_letter_18 (by decide) (fun _ _ _ h9 => h9)))))))))))))
set_option maxRecDepth 100000 in
theorem T_X11_letter_22 {G : GE} {d C S : Nat} {ρ : Rs} : Snd G MX11_letter (d + 1) C S 22 ρ (s_callV G d MX11_need 1 10 (s_aload 0 (s_iload 1 (s_iload 2 (s_callV G d MX11_houseWith 2 10 (s_istore 3 (s_iload 3 (s_if_le (s_aload 0 (s_getR 10 10 (s_iload 1 (s_callV G d MX4_mateOf 1 4 (s_istore 4 (s_iload 4 (s_iconst (-1) (s_ic_ne (s_aload 0 (s_iload 4 (s_iload 2 (s_callV G d MX11_houseWith 2 10 (s_istore 5 (s_iload 5 (s_if_le (s_iconst (-1) (s_ireturn ρ)) (s_iconst 100 (s_iload 4 (s_imul (s_iload 5 (s_iadd (s_ireturn ρ))))))))))))) (s_iconst 0 (s_istore 5 (s_iload 5 (s_if_le (s_iconst (-1) (s_ireturn ρ)) (s_iconst 100 (s_iload 4 (s_imul (s_iload 5 (s_iadd (s_ireturn ρ)))))))))))))))))) (s_iconst 100 (s_iload 1 (s_imul (s_iload 3 (s_iadd (s_ireturn ρ)))))))))))))) := (e_callV cl_10 cal_X11_need q_715 q_717 q_11 dX11_letter_22 (e_aload_n dX11_letter_25 rfl (e_iload_n dX11_letter_26 rfl (e_iload_n dX11_letter_27 rfl (e_callV cl_10 cal_X11_houseWith q_1295 q_1297 q_41 dX11_letter_28 (e_istore_n dX11_letter_31 rfl (by decide) (e_iload_n dX11_letter_32 rfl (e_if_le (tgt := 43) dX11_letter_33 (by decide) (e_aload_n dX11_letter_43 rfl (e_getR rfl cl_10 (by decide) rfl q_438 dX11_letter_44 (e_iload_n dX11_letter_47 rfl (e_callV cl_4 cal_X4_mateOf q_629 q_531 q_532 dX11_letter_48 (e_istore dX11_letter_51 (by decide) (e_iload dX11_letter_53 (e_iconst (v := (-1)) dX11_letter_55 (by decide) (e_ic_ne (tgt := 63) dX11_letter_56 (by decide) (e_aload_n dX11_letter_63 rfl (e_iload dX11_letter_64 (e_iload_n dX11_letter_66 rfl (e_callV cl_10 cal_X11_houseWith q_1295 q_1297 q_41 dX11_letter_67 (e_istore dX11_letter_70 (by decide) (e_iload dX11_letter_72 (e_if_le (tgt := 88) dX11_letter_74 (by decide) (e_iconst (v := (-1)) dX11_letter_88 (by decide) (e_ireturn rfl dX11_letter_89)) (e_bipush (v := 100) dX11_letter_77 (by decide) (e_iload dX11_letter_79 (e_imul dX11_letter_81 (e_iload dX11_letter_82 (e_iadd dX11_letter_84 (e_goto (tgt := 89) dX11_letter_85 (by decide) (e_ireturn rfl dX11_letter_89)))))))))))))) (e_iconst (v := 0) dX11_letter_59 (by decide) (e_goto (tgt := 70) dX11_letter_60 (by decide) (e_istore dX11_letter_70 (by decide) (e_iload dX11_letter_72 (e_if_le (tgt := 88) dX11_letter_74 (by decide) (e_iconst (v := (-1)) dX11_letter_88 (by decide) (e_ireturn rfl dX11_letter_89)) (e_bipush (v := 100) dX11_letter_77 (by decide) (e_iload dX11_letter_79 (e_imul dX11_letter_81 (e_iload dX11_letter_82 (e_iadd dX11_letter_84 (e_goto (tgt := 89) dX11_letter_85 (by decide) (e_ireturn rfl dX11_letter_89)))))))))))))))))))) (e_bipush (v := 100) dX11_letter_36 (by decide) (e_iload_n dX11_letter_38 rfl (e_imul dX11_letter_39 (e_iload_n dX11_letter_40 rfl (e_iadd dX11_letter_41 (e_ireturn rfl dX11_letter_42))))))))))))))
set_option maxRecDepth 100000 in
theorem TX_X11_letter_0 {G : GE} {d C S : Nat} {ρ : Rs} : Snd G MX11_letter (d + 1) (C + 1) (S + 6) 0 ρ (s_aload 0 (s_iload 1 (s_callVB G d MX11_needStreet 1 10 ρ (s_aload 0 (s_iload 2 (s_iconst 1 (s_ic_lt (s_iconst 0 (fun L st h => E G MX11_letter (d + 1) (C + 1) (S + 6) 22 L st h ρ)) (s_iload 2 (s_iconst 99 (s_ic_gt (s_iconst 0 (fun L st h => E G MX11_letter (d + 1) (C + 1) (S + 6) 22 L st h ρ)) (s_iconst 1 (fun L st h => E G MX11_letter (d + 1) (C + 1) (S + 6) 22 L st h ρ)))))))))))) := (e_aload_n dX11_letter_0 rfl (e_iload_n dX11_letter_1 rfl (e_callVB rfl cl_10 cal_X11_needStreet q_1205 q_1207 q_38 dX11_letter_2 (e_aload_n dX11_letter_5 rfl (e_iload_n dX11_letter_6 rfl (e_iconst (v := 1) dX11_letter_7 (by decide) (e_ic_lt (tgt := 21) dX11_letter_8 (by decide) (e_iconst (v := 0) dX11_letter_21 (by decide) (fun _ _ _ h9 => h9)) (e_iload_n dX11_letter_11 rfl (e_bipush (v := 99) dX11_letter_12 (by decide) (e_ic_gt (tgt := 21) dX11_letter_14 (by decide) (e_iconst (v := 0) dX11_letter_21 (by decide) (fun _ _ _ h9 => h9)) (e_iconst (v := 1) dX11_letter_17 (by decide) (e_goto (tgt := 22) dX11_letter_18 (by decide) (fun _ _ _ h9 => h9)))))))))))))
set_option maxRecDepth 100000 in
theorem TX_X11_letter_22 {G : GE} {d C S : Nat} {ρ : Rs} : Snd G MX11_letter (d + 1) (C + 1) (S + 6) 22 ρ (s_callVB G d MX11_need 1 10 ρ (s_aload 0 (s_iload 1 (s_iload 2 (s_callV G d MX11_houseWith 2 10 (s_istore 3 (s_iload 3 (s_if_le (s_aload 0 (s_getR 10 10 (s_iload 1 (s_callV G d MX4_mateOf 1 4 (s_istore 4 (s_iload 4 (s_iconst (-1) (s_ic_ne (s_aload 0 (s_iload 4 (s_iload 2 (s_callV G d MX11_houseWith 2 10 (s_istore 5 (s_iload 5 (s_if_le (s_iconst (-1) (s_ireturn ρ)) (s_iconst 100 (s_iload 4 (s_imul (s_iload 5 (s_iadd (s_ireturn ρ))))))))))))) (s_iconst 0 (s_istore 5 (s_iload 5 (s_if_le (s_iconst (-1) (s_ireturn ρ)) (s_iconst 100 (s_iload 4 (s_imul (s_iload 5 (s_iadd (s_ireturn ρ)))))))))))))))))) (s_iconst 100 (s_iload 1 (s_imul (s_iload 3 (s_iadd (s_ireturn ρ)))))))))))))) := (e_callVB rfl cl_10 cal_X11_need q_715 q_717 q_11 dX11_letter_22 (e_aload_n dX11_letter_25 rfl (e_iload_n dX11_letter_26 rfl (e_iload_n dX11_letter_27 rfl (e_callV cl_10 cal_X11_houseWith q_1295 q_1297 q_41 dX11_letter_28 (e_istore_n dX11_letter_31 rfl (by decide) (e_iload_n dX11_letter_32 rfl (e_if_le (tgt := 43) dX11_letter_33 (by decide) (e_aload_n dX11_letter_43 rfl (e_getR rfl cl_10 (by decide) rfl q_438 dX11_letter_44 (e_iload_n dX11_letter_47 rfl (e_callV cl_4 cal_X4_mateOf q_629 q_531 q_532 dX11_letter_48 (e_istore dX11_letter_51 (by decide) (e_iload dX11_letter_53 (e_iconst (v := (-1)) dX11_letter_55 (by decide) (e_ic_ne (tgt := 63) dX11_letter_56 (by decide) (e_aload_n dX11_letter_63 rfl (e_iload dX11_letter_64 (e_iload_n dX11_letter_66 rfl (e_callV cl_10 cal_X11_houseWith q_1295 q_1297 q_41 dX11_letter_67 (e_istore dX11_letter_70 (by decide) (e_iload dX11_letter_72 (e_if_le (tgt := 88) dX11_letter_74 (by decide) (e_iconst (v := (-1)) dX11_letter_88 (by decide) (e_ireturn rfl dX11_letter_89)) (e_bipush (v := 100) dX11_letter_77 (by decide) (e_iload dX11_letter_79 (e_imul dX11_letter_81 (e_iload dX11_letter_82 (e_iadd dX11_letter_84 (e_goto (tgt := 89) dX11_letter_85 (by decide) (e_ireturn rfl dX11_letter_89)))))))))))))) (e_iconst (v := 0) dX11_letter_59 (by decide) (e_goto (tgt := 70) dX11_letter_60 (by decide) (e_istore dX11_letter_70 (by decide) (e_iload dX11_letter_72 (e_if_le (tgt := 88) dX11_letter_74 (by decide) (e_iconst (v := (-1)) dX11_letter_88 (by decide) (e_ireturn rfl dX11_letter_89)) (e_bipush (v := 100) dX11_letter_77 (by decide) (e_iload dX11_letter_79 (e_imul dX11_letter_81 (e_iload dX11_letter_82 (e_iadd dX11_letter_84 (e_goto (tgt := 89) dX11_letter_85 (by decide) (e_ireturn rfl dX11_letter_89)))))))))))))))))))) (e_bipush (v := 100) dX11_letter_36 (by decide) (e_iload_n dX11_letter_38 rfl (e_imul dX11_letter_39 (e_iload_n dX11_letter_40 rfl (e_iadd dX11_letter_41 (e_ireturn rfl dX11_letter_42))))))))))))))
theorem dX11_last_0 : decode cX11_last 0 = .ok (.aload_n 0, 1) := by decide +kernel
theorem dX11_last_1 : decode cX11_last 1 = .ok (.iload_n 1, 1) := by decide +kernel
theorem dX11_last_2 : decode cX11_last 2 = .ok (.invokevirtual 196, 3) := by decide +kernel
theorem dX11_last_5 : decode cX11_last 5 = .ok (.aload_n 0, 1) := by decide +kernel
theorem dX11_last_6 : decode cX11_last 6 = .ok (.iload_n 1, 1) := by decide +kernel
theorem dX11_last_7 : decode cX11_last 7 = .ok (.invokevirtual 244, 3) := by decide +kernel
theorem dX11_last_10 : decode cX11_last 10 = .ok (.ireturn, 1) := by decide +kernel
set_option maxRecDepth 100000 in
theorem T_X11_last_0 {G : GE} {d C S : Nat} {ρ : Rs} : Snd G MX11_last (d + 1) C S 0 ρ (s_aload 0 (s_iload 1 (s_callV G d MX11_needStreet 1 10 (s_aload 0 (s_iload 1 (s_callV G d MX11_greatestNumber 1 10 (s_ireturn ρ))))))) := (e_aload_n dX11_last_0 rfl (e_iload_n dX11_last_1 rfl (e_callV cl_10 cal_X11_needStreet q_1205 q_1207 q_38 dX11_last_2 (e_aload_n dX11_last_5 rfl (e_iload_n dX11_last_6 rfl (e_callV cl_10 cal_X11_greatestNumber q_1310 q_1312 q_42 dX11_last_7 (e_ireturn rfl dX11_last_10)))))))
set_option maxRecDepth 100000 in
theorem TX_X11_last_0 {G : GE} {d C S : Nat} {ρ : Rs} : Snd G MX11_last (d + 1) (C + 1) (S + 6) 0 ρ (s_aload 0 (s_iload 1 (s_callVB G d MX11_needStreet 1 10 ρ (s_aload 0 (s_iload 1 (s_callV G d MX11_greatestNumber 1 10 (s_ireturn ρ))))))) := (e_aload_n dX11_last_0 rfl (e_iload_n dX11_last_1 rfl (e_callVB rfl cl_10 cal_X11_needStreet q_1205 q_1207 q_38 dX11_last_2 (e_aload_n dX11_last_5 rfl (e_iload_n dX11_last_6 rfl (e_callV cl_10 cal_X11_greatestNumber q_1310 q_1312 q_42 dX11_last_7 (e_ireturn rfl dX11_last_10)))))))
theorem dX11_missing_0 : decode cX11_missing 0 = .ok (.aload_n 0, 1) := by decide +kernel
theorem dX11_missing_1 : decode cX11_missing 1 = .ok (.iload_n 1, 1) := by decide +kernel
theorem dX11_missing_2 : decode cX11_missing 2 = .ok (.invokevirtual 196, 3) := by decide +kernel
theorem dX11_missing_5 : decode cX11_missing 5 = .ok (.aload_n 0, 1) := by decide +kernel
theorem dX11_missing_6 : decode cX11_missing 6 = .ok (.getfield 62, 3) := by decide +kernel
theorem dX11_missing_9 : decode cX11_missing 9 = .ok (.iload_n 1, 1) := by decide +kernel
theorem dX11_missing_10 : decode cX11_missing 10 = .ok (.invokevirtual 215, 3) := by decide +kernel
theorem dX11_missing_13 : decode cX11_missing 13 = .ok (.istore_n 2, 1) := by decide +kernel
theorem dX11_missing_14 : decode cX11_missing 14 = .ok (.aload_n 0, 1) := by decide +kernel
theorem dX11_missing_15 : decode cX11_missing 15 = .ok (.getfield 25, 3) := by decide +kernel
theorem dX11_missing_18 : decode cX11_missing 18 = .ok (.iload_n 1, 1) := by decide +kernel
theorem dX11_missing_19 : decode cX11_missing 19 = .ok (.invokevirtual 206, 3) := by decide +kernel
theorem dX11_missing_22 : decode cX11_missing 22 = .ok (.iload_n 2, 1) := by decide +kernel
theorem dX11_missing_23 : decode cX11_missing 23 = .ok (.iconst (-1), 1) := by decide +kernel
theorem dX11_missing_24 : decode cX11_missing 24 = .ok (.if_icmp .ne 7, 3) := by decide +kernel
theorem dX11_missing_27 : decode cX11_missing 27 = .ok (.iconst 0, 1) := by decide +kernel
theorem dX11_missing_28 : decode cX11_missing 28 = .ok (.goto 11, 3) := by decide +kernel
theorem dX11_missing_31 : decode cX11_missing 31 = .ok (.aload_n 0, 1) := by decide +kernel
theorem dX11_missing_32 : decode cX11_missing 32 = .ok (.getfield 25, 3) := by decide +kernel
theorem dX11_missing_35 : decode cX11_missing 35 = .ok (.iload_n 2, 1) := by decide +kernel
theorem dX11_missing_36 : decode cX11_missing 36 = .ok (.invokevirtual 206, 3) := by decide +kernel
theorem dX11_missing_39 : decode cX11_missing 39 = .ok (.iadd, 1) := by decide +kernel
theorem dX11_missing_40 : decode cX11_missing 40 = .ok (.istore_n 3, 1) := by decide +kernel
theorem dX11_missing_41 : decode cX11_missing 41 = .ok (.aload_n 0, 1) := by decide +kernel
theorem dX11_missing_42 : decode cX11_missing 42 = .ok (.iload_n 1, 1) := by decide +kernel
theorem dX11_missing_43 : decode cX11_missing 43 = .ok (.invokevirtual 244, 3) := by decide +kernel
theorem dX11_missing_46 : decode cX11_missing 46 = .ok (.iload_n 3, 1) := by decide +kernel
theorem dX11_missing_47 : decode cX11_missing 47 = .ok (.isub, 1) := by decide +kernel
theorem dX11_missing_48 : decode cX11_missing 48 = .ok (.ireturn, 1) := by decide +kernel
set_option maxRecDepth 100000 in
theorem T_X11_missing_0 {G : GE} {d C S : Nat} {ρ : Rs} : Snd G MX11_missing (d + 1) C S 0 ρ (s_aload 0 (s_iload 1 (s_callV G d MX11_needStreet 1 10 (s_aload 0 (s_getR 10 10 (s_iload 1 (s_callV G d MX4_mateOf 1 4 (s_istore 2 (s_aload 0 (s_getR 10 3 (s_iload 1 (s_callV G d MX0_housesOf 1 0 (s_iload 2 (s_iconst (-1) (s_ic_ne (s_aload 0 (s_getR 10 3 (s_iload 2 (s_callV G d MX0_housesOf 1 0 (s_iadd (s_istore 3 (s_aload 0 (s_iload 1 (s_callV G d MX11_greatestNumber 1 10 (s_iload 3 (s_isub (s_ireturn ρ)))))))))))) (s_iconst 0 (s_iadd (s_istore 3 (s_aload 0 (s_iload 1 (s_callV G d MX11_greatestNumber 1 10 (s_iload 3 (s_isub (s_ireturn ρ)))))))))))))))))))))))) := (e_aload_n dX11_missing_0 rfl (e_iload_n dX11_missing_1 rfl (e_callV cl_10 cal_X11_needStreet q_1205 q_1207 q_38 dX11_missing_2 (e_aload_n dX11_missing_5 rfl (e_getR rfl cl_10 (by decide) rfl q_438 dX11_missing_6 (e_iload_n dX11_missing_9 rfl (e_callV cl_4 cal_X4_mateOf q_629 q_531 q_532 dX11_missing_10 (e_istore_n dX11_missing_13 rfl (by decide) (e_aload_n dX11_missing_14 rfl (e_getR rfl cl_10 (by decide) rfl q_431 dX11_missing_15 (e_iload_n dX11_missing_18 rfl (e_callV cl_0 cal_X0_housesOf q_1237 q_562 q_563 dX11_missing_19 (e_iload_n dX11_missing_22 rfl (e_iconst (v := (-1)) dX11_missing_23 (by decide) (e_ic_ne (tgt := 31) dX11_missing_24 (by decide) (e_aload_n dX11_missing_31 rfl (e_getR rfl cl_10 (by decide) rfl q_431 dX11_missing_32 (e_iload_n dX11_missing_35 rfl (e_callV cl_0 cal_X0_housesOf q_1237 q_562 q_563 dX11_missing_36 (e_iadd dX11_missing_39 (e_istore_n dX11_missing_40 rfl (by decide) (e_aload_n dX11_missing_41 rfl (e_iload_n dX11_missing_42 rfl (e_callV cl_10 cal_X11_greatestNumber q_1310 q_1312 q_42 dX11_missing_43 (e_iload_n dX11_missing_46 rfl (e_isub dX11_missing_47 (e_ireturn rfl dX11_missing_48)))))))))))) (e_iconst (v := 0) dX11_missing_27 (by decide) (e_goto (tgt := 39) dX11_missing_28 (by decide) (e_iadd dX11_missing_39 (e_istore_n dX11_missing_40 rfl (by decide) (e_aload_n dX11_missing_41 rfl (e_iload_n dX11_missing_42 rfl (e_callV cl_10 cal_X11_greatestNumber q_1310 q_1312 q_42 dX11_missing_43 (e_iload_n dX11_missing_46 rfl (e_isub dX11_missing_47 (e_ireturn rfl dX11_missing_48)))))))))))))))))))))))))
set_option maxRecDepth 100000 in
theorem TX_X11_missing_0 {G : GE} {d C S : Nat} {ρ : Rs} : Snd G MX11_missing (d + 1) (C + 1) (S + 6) 0 ρ (s_aload 0 (s_iload 1 (s_callVB G d MX11_needStreet 1 10 ρ (s_aload 0 (s_getR 10 10 (s_iload 1 (s_callV G d MX4_mateOf 1 4 (s_istore 2 (s_aload 0 (s_getR 10 3 (s_iload 1 (s_callV G d MX0_housesOf 1 0 (s_iload 2 (s_iconst (-1) (s_ic_ne (s_aload 0 (s_getR 10 3 (s_iload 2 (s_callV G d MX0_housesOf 1 0 (s_iadd (s_istore 3 (s_aload 0 (s_iload 1 (s_callV G d MX11_greatestNumber 1 10 (s_iload 3 (s_isub (s_ireturn ρ)))))))))))) (s_iconst 0 (s_iadd (s_istore 3 (s_aload 0 (s_iload 1 (s_callV G d MX11_greatestNumber 1 10 (s_iload 3 (s_isub (s_ireturn ρ)))))))))))))))))))))))) := (e_aload_n dX11_missing_0 rfl (e_iload_n dX11_missing_1 rfl (e_callVB rfl cl_10 cal_X11_needStreet q_1205 q_1207 q_38 dX11_missing_2 (e_aload_n dX11_missing_5 rfl (e_getR rfl cl_10 (by decide) rfl q_438 dX11_missing_6 (e_iload_n dX11_missing_9 rfl (e_callV cl_4 cal_X4_mateOf q_629 q_531 q_532 dX11_missing_10 (e_istore_n dX11_missing_13 rfl (by decide) (e_aload_n dX11_missing_14 rfl (e_getR rfl cl_10 (by decide) rfl q_431 dX11_missing_15 (e_iload_n dX11_missing_18 rfl (e_callV cl_0 cal_X0_housesOf q_1237 q_562 q_563 dX11_missing_19 (e_iload_n dX11_missing_22 rfl (e_iconst (v := (-1)) dX11_missing_23 (by decide) (e_ic_ne (tgt := 31) dX11_missing_24 (by decide) (e_aload_n dX11_missing_31 rfl (e_getR rfl cl_10 (by decide) rfl q_431 dX11_missing_32 (e_iload_n dX11_missing_35 rfl (e_callV cl_0 cal_X0_housesOf q_1237 q_562 q_563 dX11_missing_36 (e_iadd dX11_missing_39 (e_istore_n dX11_missing_40 rfl (by decide) (e_aload_n dX11_missing_41 rfl (e_iload_n dX11_missing_42 rfl (e_callV cl_10 cal_X11_greatestNumber q_1310 q_1312 q_42 dX11_missing_43 (e_iload_n dX11_missing_46 rfl (e_isub dX11_missing_47 (e_ireturn rfl dX11_missing_48)))))))))))) (e_iconst (v := 0) dX11_missing_27 (by decide) (e_goto (tgt := 39) dX11_missing_28 (by decide) (e_iadd dX11_missing_39 (e_istore_n dX11_missing_40 rfl (by decide) (e_aload_n dX11_missing_41 rfl (e_iload_n dX11_missing_42 rfl (e_callV cl_10 cal_X11_greatestNumber q_1310 q_1312 q_42 dX11_missing_43 (e_iload_n dX11_missing_46 rfl (e_isub dX11_missing_47 (e_ireturn rfl dX11_missing_48)))))))))))))))))))))))))
theorem dX11_stable_0 : decode cX11_stable 0 = .ok (.aload_n 0, 1) := by decide +kernel
theorem dX11_stable_1 : decode cX11_stable 1 = .ok (.getfield 79, 3) := by decide +kernel
theorem dX11_stable_4 : decode cX11_stable 4 = .ok (.aload_n 0, 1) := by decide +kernel
theorem dX11_stable_5 : decode cX11_stable 5 = .ok (.getfield 25, 3) := by decide +kernel
theorem dX11_stable_8 : decode cX11_stable 8 = .ok (.aload_n 0, 1) := by decide +kernel
theorem dX11_stable_9 : decode cX11_stable 9 = .ok (.getfield 62, 3) := by decide +kernel
theorem dX11_stable_12 : decode cX11_stable 12 = .ok (.aload_n 0, 1) := by decide +kernel
theorem dX11_stable_13 : decode cX11_stable 13 = .ok (.getfield 35, 3) := by decide +kernel
theorem dX11_stable_16 : decode cX11_stable 16 = .ok (.invokevirtual 247, 3) := by decide +kernel
theorem dX11_stable_19 : decode cX11_stable 19 = .ok (.aload_n 0, 1) := by decide +kernel
theorem dX11_stable_20 : decode cX11_stable 20 = .ok (.getfield 79, 3) := by decide +kernel
theorem dX11_stable_23 : decode cX11_stable 23 = .ok (.getfield 251, 3) := by decide +kernel
theorem dX11_stable_26 : decode cX11_stable 26 = .ok (.ireturn, 1) := by decide +kernel
set_option maxRecDepth 100000 in
theorem T_X11_stable_0 {G : GE} {d C S : Nat} {ρ : Rs} : Snd G MX11_stable (d + 1) C S 0 ρ (s_aload 0 (s_getR 10 13 (s_aload 0 (s_getR 10 3 (s_aload 0 (s_getR 10 10 (s_aload 0 (s_getR 10 5 (s_callV G d MX6_findAll 3 6 (s_aload 0 (s_getR 10 13 (s_getI 6 4 (s_ireturn ρ))))))))))))) := (e_aload_n dX11_stable_0 rfl (e_getR rfl cl_10 (by decide) rfl q_441 dX11_stable_1 (e_aload_n dX11_stable_4 rfl (e_getR rfl cl_10 (by decide) rfl q_431 dX11_stable_5 (e_aload_n dX11_stable_8 rfl (e_getR rfl cl_10 (by decide) rfl q_438 dX11_stable_9 (e_aload_n dX11_stable_12 rfl (e_getR rfl cl_10 (by decide) rfl q_433 dX11_stable_13 (e_callV cl_6 cal_X6_findAll q_522 q_523 q_524 dX11_stable_16 (e_aload_n dX11_stable_19 rfl (e_getR rfl cl_10 (by decide) rfl q_441 dX11_stable_20 (e_getIN rfl cl_6 (by decide) rfl q_359 dX11_stable_23 (e_ireturn rfl dX11_stable_26)))))))))))))
theorem dX11_stableFor_0 : decode cX11_stableFor 0 = .ok (.aload_n 0, 1) := by decide +kernel
theorem dX11_stableFor_1 : decode cX11_stableFor 1 = .ok (.iload_n 1, 1) := by decide +kernel
theorem dX11_stableFor_2 : decode cX11_stableFor 2 = .ok (.invokevirtual 196, 3) := by decide +kernel
theorem dX11_stableFor_5 : decode cX11_stableFor 5 = .ok (.aload_n 0, 1) := by decide +kernel
theorem dX11_stableFor_6 : decode cX11_stableFor 6 = .ok (.getfield 79, 3) := by decide +kernel
theorem dX11_stableFor_9 : decode cX11_stableFor 9 = .ok (.aload_n 0, 1) := by decide +kernel
theorem dX11_stableFor_10 : decode cX11_stableFor 10 = .ok (.getfield 25, 3) := by decide +kernel
theorem dX11_stableFor_13 : decode cX11_stableFor 13 = .ok (.aload_n 0, 1) := by decide +kernel
theorem dX11_stableFor_14 : decode cX11_stableFor 14 = .ok (.getfield 62, 3) := by decide +kernel
theorem dX11_stableFor_17 : decode cX11_stableFor 17 = .ok (.aload_n 0, 1) := by decide +kernel
theorem dX11_stableFor_18 : decode cX11_stableFor 18 = .ok (.getfield 35, 3) := by decide +kernel
theorem dX11_stableFor_21 : decode cX11_stableFor 21 = .ok (.invokevirtual 247, 3) := by decide +kernel
theorem dX11_stableFor_24 : decode cX11_stableFor 24 = .ok (.aload_n 0, 1) := by decide +kernel
theorem dX11_stableFor_25 : decode cX11_stableFor 25 = .ok (.getfield 79, 3) := by decide +kernel
theorem dX11_stableFor_28 : decode cX11_stableFor 28 = .ok (.iload_n 1, 1) := by decide +kernel
theorem dX11_stableFor_29 : decode cX11_stableFor 29 = .ok (.invokevirtual 254, 3) := by decide +kernel
theorem dX11_stableFor_32 : decode cX11_stableFor 32 = .ok (.ireturn, 1) := by decide +kernel
set_option maxRecDepth 100000 in
theorem T_X11_stableFor_0 {G : GE} {d C S : Nat} {ρ : Rs} : Snd G MX11_stableFor (d + 1) C S 0 ρ (s_aload 0 (s_iload 1 (s_callV G d MX11_needStreet 1 10 (s_aload 0 (s_getR 10 13 (s_aload 0 (s_getR 10 3 (s_aload 0 (s_getR 10 10 (s_aload 0 (s_getR 10 5 (s_callV G d MX6_findAll 3 6 (s_aload 0 (s_getR 10 13 (s_iload 1 (s_callV G d MX6_firstStableMate 1 6 (s_ireturn ρ))))))))))))))))) := (e_aload_n dX11_stableFor_0 rfl (e_iload_n dX11_stableFor_1 rfl (e_callV cl_10 cal_X11_needStreet q_1205 q_1207 q_38 dX11_stableFor_2 (e_aload_n dX11_stableFor_5 rfl (e_getR rfl cl_10 (by decide) rfl q_441 dX11_stableFor_6 (e_aload_n dX11_stableFor_9 rfl (e_getR rfl cl_10 (by decide) rfl q_431 dX11_stableFor_10 (e_aload_n dX11_stableFor_13 rfl (e_getR rfl cl_10 (by decide) rfl q_438 dX11_stableFor_14 (e_aload_n dX11_stableFor_17 rfl (e_getR rfl cl_10 (by decide) rfl q_433 dX11_stableFor_18 (e_callV cl_6 cal_X6_findAll q_522 q_523 q_524 dX11_stableFor_21 (e_aload_n dX11_stableFor_24 rfl (e_getR rfl cl_10 (by decide) rfl q_441 dX11_stableFor_25 (e_iload_n dX11_stableFor_28 rfl (e_callV cl_6 cal_X6_firstStableMate q_1328 q_1329 q_1330 dX11_stableFor_29 (e_ireturn rfl dX11_stableFor_32)))))))))))))))))
set_option maxRecDepth 100000 in
theorem TX_X11_stableFor_0 {G : GE} {d C S : Nat} {ρ : Rs} : Snd G MX11_stableFor (d + 1) (C + 1) (S + 6) 0 ρ (s_aload 0 (s_iload 1 (s_callVB G d MX11_needStreet 1 10 ρ (s_aload 0 (s_getR 10 13 (s_aload 0 (s_getR 10 3 (s_aload 0 (s_getR 10 10 (s_aload 0 (s_getR 10 5 (s_callV G d MX6_findAll 3 6 (s_aload 0 (s_getR 10 13 (s_iload 1 (s_callV G d MX6_firstStableMate 1 6 (s_ireturn ρ))))))))))))))))) := (e_aload_n dX11_stableFor_0 rfl (e_iload_n dX11_stableFor_1 rfl (e_callVB rfl cl_10 cal_X11_needStreet q_1205 q_1207 q_38 dX11_stableFor_2 (e_aload_n dX11_stableFor_5 rfl (e_getR rfl cl_10 (by decide) rfl q_441 dX11_stableFor_6 (e_aload_n dX11_stableFor_9 rfl (e_getR rfl cl_10 (by decide) rfl q_431 dX11_stableFor_10 (e_aload_n dX11_stableFor_13 rfl (e_getR rfl cl_10 (by decide) rfl q_438 dX11_stableFor_14 (e_aload_n dX11_stableFor_17 rfl (e_getR rfl cl_10 (by decide) rfl q_433 dX11_stableFor_18 (e_callV cl_6 cal_X6_findAll q_522 q_523 q_524 dX11_stableFor_21 (e_aload_n dX11_stableFor_24 rfl (e_getR rfl cl_10 (by decide) rfl q_441 dX11_stableFor_25 (e_iload_n dX11_stableFor_28 rfl (e_callV cl_6 cal_X6_firstStableMate q_1328 q_1329 q_1330 dX11_stableFor_29 (e_ireturn rfl dX11_stableFor_32)))))))))))))))))
theorem dX11_best_0 : decode cX11_best 0 = .ok (.aload_n 0, 1) := by decide +kernel
theorem dX11_best_1 : decode cX11_best 1 = .ok (.getfield 79, 3) := by decide +kernel
theorem dX11_best_4 : decode cX11_best 4 = .ok (.aload_n 0, 1) := by decide +kernel
theorem dX11_best_5 : decode cX11_best 5 = .ok (.getfield 25, 3) := by decide +kernel
theorem dX11_best_8 : decode cX11_best 8 = .ok (.aload_n 0, 1) := by decide +kernel
theorem dX11_best_9 : decode cX11_best 9 = .ok (.getfield 62, 3) := by decide +kernel
theorem dX11_best_12 : decode cX11_best 12 = .ok (.aload_n 0, 1) := by decide +kernel
theorem dX11_best_13 : decode cX11_best 13 = .ok (.getfield 35, 3) := by decide +kernel
theorem dX11_best_16 : decode cX11_best 16 = .ok (.invokevirtual 247, 3) := by decide +kernel
theorem dX11_best_19 : decode cX11_best 19 = .ok (.aload_n 0, 1) := by decide +kernel
theorem dX11_best_20 : decode cX11_best 20 = .ok (.getfield 79, 3) := by decide +kernel
theorem dX11_best_23 : decode cX11_best 23 = .ok (.getfield 257, 3) := by decide +kernel
theorem dX11_best_26 : decode cX11_best 26 = .ok (.ireturn, 1) := by decide +kernel
set_option maxRecDepth 100000 in
theorem T_X11_best_0 {G : GE} {d C S : Nat} {ρ : Rs} : Snd G MX11_best (d + 1) C S 0 ρ (s_aload 0 (s_getR 10 13 (s_aload 0 (s_getR 10 3 (s_aload 0 (s_getR 10 10 (s_aload 0 (s_getR 10 5 (s_callV G d MX6_findAll 3 6 (s_aload 0 (s_getR 10 13 (s_getI 6 5 (s_ireturn ρ))))))))))))) := (e_aload_n dX11_best_0 rfl (e_getR rfl cl_10 (by decide) rfl q_441 dX11_best_1 (e_aload_n dX11_best_4 rfl (e_getR rfl cl_10 (by decide) rfl q_431 dX11_best_5 (e_aload_n dX11_best_8 rfl (e_getR rfl cl_10 (by decide) rfl q_438 dX11_best_9 (e_aload_n dX11_best_12 rfl (e_getR rfl cl_10 (by decide) rfl q_433 dX11_best_13 (e_callV cl_6 cal_X6_findAll q_522 q_523 q_524 dX11_best_16 (e_aload_n dX11_best_19 rfl (e_getR rfl cl_10 (by decide) rfl q_441 dX11_best_20 (e_getIN rfl cl_6 (by decide) rfl q_361 dX11_best_23 (e_ireturn rfl dX11_best_26)))))))))))))
theorem dX11_bestFor_0 : decode cX11_bestFor 0 = .ok (.aload_n 0, 1) := by decide +kernel
theorem dX11_bestFor_1 : decode cX11_bestFor 1 = .ok (.iload_n 1, 1) := by decide +kernel
theorem dX11_bestFor_2 : decode cX11_bestFor 2 = .ok (.invokevirtual 196, 3) := by decide +kernel
theorem dX11_bestFor_5 : decode cX11_bestFor 5 = .ok (.aload_n 0, 1) := by decide +kernel
theorem dX11_bestFor_6 : decode cX11_bestFor 6 = .ok (.getfield 79, 3) := by decide +kernel
theorem dX11_bestFor_9 : decode cX11_bestFor 9 = .ok (.aload_n 0, 1) := by decide +kernel
theorem dX11_bestFor_10 : decode cX11_bestFor 10 = .ok (.getfield 25, 3) := by decide +kernel
theorem dX11_bestFor_13 : decode cX11_bestFor 13 = .ok (.aload_n 0, 1) := by decide +kernel
theorem dX11_bestFor_14 : decode cX11_bestFor 14 = .ok (.getfield 62, 3) := by decide +kernel
theorem dX11_bestFor_17 : decode cX11_bestFor 17 = .ok (.aload_n 0, 1) := by decide +kernel
theorem dX11_bestFor_18 : decode cX11_bestFor 18 = .ok (.getfield 35, 3) := by decide +kernel
theorem dX11_bestFor_21 : decode cX11_bestFor 21 = .ok (.invokevirtual 247, 3) := by decide +kernel
theorem dX11_bestFor_24 : decode cX11_bestFor 24 = .ok (.aload_n 0, 1) := by decide +kernel
theorem dX11_bestFor_25 : decode cX11_bestFor 25 = .ok (.getfield 79, 3) := by decide +kernel
theorem dX11_bestFor_28 : decode cX11_bestFor 28 = .ok (.iload_n 1, 1) := by decide +kernel
theorem dX11_bestFor_29 : decode cX11_bestFor 29 = .ok (.invokevirtual 260, 3) := by decide +kernel
theorem dX11_bestFor_32 : decode cX11_bestFor 32 = .ok (.ireturn, 1) := by decide +kernel
set_option maxRecDepth 100000 in
theorem T_X11_bestFor_0 {G : GE} {d C S : Nat} {ρ : Rs} : Snd G MX11_bestFor (d + 1) C S 0 ρ (s_aload 0 (s_iload 1 (s_callV G d MX11_needStreet 1 10 (s_aload 0 (s_getR 10 13 (s_aload 0 (s_getR 10 3 (s_aload 0 (s_getR 10 10 (s_aload 0 (s_getR 10 5 (s_callV G d MX6_findAll 3 6 (s_aload 0 (s_getR 10 13 (s_iload 1 (s_callV G d MX6_warmestMate 1 6 (s_ireturn ρ))))))))))))))))) := (e_aload_n dX11_bestFor_0 rfl (e_iload_n dX11_bestFor_1 rfl (e_callV cl_10 cal_X11_needStreet q_1205 q_1207 q_38 dX11_bestFor_2 (e_aload_n dX11_bestFor_5 rfl (e_getR rfl cl_10 (by decide) rfl q_441 dX11_bestFor_6 (e_aload_n dX11_bestFor_9 rfl (e_getR rfl cl_10 (by decide) rfl q_431 dX11_bestFor_10 (e_aload_n dX11_bestFor_13 rfl (e_getR rfl cl_10 (by decide) rfl q_438 dX11_bestFor_14 (e_aload_n dX11_bestFor_17 rfl (e_getR rfl cl_10 (by decide) rfl q_433 dX11_bestFor_18 (e_callV cl_6 cal_X6_findAll q_522 q_523 q_524 dX11_bestFor_21 (e_aload_n dX11_bestFor_24 rfl (e_getR rfl cl_10 (by decide) rfl q_441 dX11_bestFor_25 (e_iload_n dX11_bestFor_28 rfl (e_callV cl_6 cal_X6_warmestMate q_1339 q_1340 q_1341 dX11_bestFor_29 (e_ireturn rfl dX11_bestFor_32)))))))))))))))))
set_option maxRecDepth 100000 in
theorem TX_X11_bestFor_0 {G : GE} {d C S : Nat} {ρ : Rs} : Snd G MX11_bestFor (d + 1) (C + 1) (S + 6) 0 ρ (s_aload 0 (s_iload 1 (s_callVB G d MX11_needStreet 1 10 ρ (s_aload 0 (s_getR 10 13 (s_aload 0 (s_getR 10 3 (s_aload 0 (s_getR 10 10 (s_aload 0 (s_getR 10 5 (s_callV G d MX6_findAll 3 6 (s_aload 0 (s_getR 10 13 (s_iload 1 (s_callV G d MX6_warmestMate 1 6 (s_ireturn ρ))))))))))))))))) := (e_aload_n dX11_bestFor_0 rfl (e_iload_n dX11_bestFor_1 rfl (e_callVB rfl cl_10 cal_X11_needStreet q_1205 q_1207 q_38 dX11_bestFor_2 (e_aload_n dX11_bestFor_5 rfl (e_getR rfl cl_10 (by decide) rfl q_441 dX11_bestFor_6 (e_aload_n dX11_bestFor_9 rfl (e_getR rfl cl_10 (by decide) rfl q_431 dX11_bestFor_10 (e_aload_n dX11_bestFor_13 rfl (e_getR rfl cl_10 (by decide) rfl q_438 dX11_bestFor_14 (e_aload_n dX11_bestFor_17 rfl (e_getR rfl cl_10 (by decide) rfl q_433 dX11_bestFor_18 (e_callV cl_6 cal_X6_findAll q_522 q_523 q_524 dX11_bestFor_21 (e_aload_n dX11_bestFor_24 rfl (e_getR rfl cl_10 (by decide) rfl q_441 dX11_bestFor_25 (e_iload_n dX11_bestFor_28 rfl (e_callV cl_6 cal_X6_warmestMate q_1339 q_1340 q_1341 dX11_bestFor_29 (e_ireturn rfl dX11_bestFor_32)))))))))))))))))
theorem dX11_tempted_0 : decode cX11_tempted 0 = .ok (.iconst 0, 1) := by decide +kernel
theorem dX11_tempted_1 : decode cX11_tempted 1 = .ok (.istore_n 1, 1) := by decide +kernel
theorem dX11_tempted_2 : decode cX11_tempted 2 = .ok (.iload_n 1, 1) := by decide +kernel
theorem dX11_tempted_3 : decode cX11_tempted 3 = .ok (.aload_n 0, 1) := by decide +kernel
theorem dX11_tempted_4 : decode cX11_tempted 4 = .ok (.getfield 25, 3) := by decide +kernel
theorem dX11_tempted_7 : decode cX11_tempted 7 = .ok (.getfield 129, 3) := by decide +kernel
theorem dX11_tempted_10 : decode cX11_tempted 10 = .ok (.if_icmp .ge 46, 3) := by decide +kernel
theorem dX11_tempted_13 : decode cX11_tempted 13 = .ok (.iload_n 1, 1) := by decide +kernel
theorem dX11_tempted_14 : decode cX11_tempted 14 = .ok (.iconst 1, 1) := by decide +kernel
theorem dX11_tempted_15 : decode cX11_tempted 15 = .ok (.iadd, 1) := by decide +kernel
theorem dX11_tempted_16 : decode cX11_tempted 16 = .ok (.istore_n 2, 1) := by decide +kernel
theorem dX11_tempted_17 : decode cX11_tempted 17 = .ok (.iload_n 2, 1) := by decide +kernel
theorem dX11_tempted_18 : decode cX11_tempted 18 = .ok (.aload_n 0, 1) := by decide +kernel
theorem dX11_tempted_19 : decode cX11_tempted 19 = .ok (.getfield 25, 3) := by decide +kernel
theorem dX11_tempted_22 : decode cX11_tempted 22 = .ok (.getfield 129, 3) := by decide +kernel
theorem dX11_tempted_25 : decode cX11_tempted 25 = .ok (.if_icmp .ge 25, 3) := by decide +kernel
theorem dX11_tempted_28 : decode cX11_tempted 28 = .ok (.aload_n 0, 1) := by decide +kernel
theorem dX11_tempted_29 : decode cX11_tempted 29 = .ok (.iload_n 1, 1) := by decide +kernel
theorem dX11_tempted_30 : decode cX11_tempted 30 = .ok (.iload_n 2, 1) := by decide +kernel
theorem dX11_tempted_31 : decode cX11_tempted 31 = .ok (.invokevirtual 263, 3) := by decide +kernel
theorem dX11_tempted_34 : decode cX11_tempted 34 = .ok (.ifCond .eq 10, 3) := by decide +kernel
theorem dX11_tempted_37 : decode cX11_tempted 37 = .ok (.bipush 10, 2) := by decide +kernel
theorem dX11_tempted_39 : decode cX11_tempted 39 = .ok (.iload_n 1, 1) := by decide +kernel
theorem dX11_tempted_40 : decode cX11_tempted 40 = .ok (.imul, 1) := by decide +kernel
theorem dX11_tempted_41 : decode cX11_tempted 41 = .ok (.iload_n 2, 1) := by decide +kernel
theorem dX11_tempted_42 : decode cX11_tempted 42 = .ok (.iadd, 1) := by decide +kernel
theorem dX11_tempted_43 : decode cX11_tempted 43 = .ok (.ireturn, 1) := by decide +kernel
theorem dX11_tempted_44 : decode cX11_tempted 44 = .ok (.iinc 2 1, 3) := by decide +kernel
theorem dX11_tempted_47 : decode cX11_tempted 47 = .ok (.goto (-30), 3) := by decide +kernel
theorem dX11_tempted_50 : decode cX11_tempted 50 = .ok (.iinc 1 1, 3) := by decide +kernel
theorem dX11_tempted_53 : decode cX11_tempted 53 = .ok (.goto (-51), 3) := by decide +kernel
theorem dX11_tempted_56 : decode cX11_tempted 56 = .ok (.iconst (-1), 1) := by decide +kernel
theorem dX11_tempted_57 : decode cX11_tempted 57 = .ok (.ireturn, 1) := by decide +kernel
set_option maxRecDepth 100000 in
theorem T_X11_tempted_0 {G : GE} {d C S : Nat} {ρ : Rs} : Snd G MX11_tempted (d + 1) C S 0 ρ (s_iconst 0 (s_istore 1 (fun L st h => E G MX11_tempted (d + 1) C S 2 L st h ρ))) := (e_iconst (v := 0) dX11_tempted_0 (by decide) (e_istore_n dX11_tempted_1 rfl (by decide) (fun _ _ _ h9 => h9)))
set_option maxRecDepth 100000 in
theorem T_X11_tempted_2 {G : GE} {d C S : Nat} {ρ : Rs} : Snd G MX11_tempted (d + 1) C S 2 ρ (s_iload 1 (s_aload 0 (s_getR 10 3 (s_getI 0 1 (s_ic_ge (s_iconst (-1) (s_ireturn ρ)) (s_iload 1 (s_iconst 1 (s_iadd (s_istore 2 (fun L st h => E G MX11_tempted (d + 1) C S 17 L st h ρ)))))))))) := (e_iload_n dX11_tempted_2 rfl (e_aload_n dX11_tempted_3 rfl (e_getR rfl cl_10 (by decide) rfl q_431 dX11_tempted_4 (e_getIN rfl cl_0 (by decide) rfl q_192 dX11_tempted_7 (e_ic_ge (tgt := 56) dX11_tempted_10 (by decide) (e_iconst (v := (-1)) dX11_tempted_56 (by decide) (e_ireturn rfl dX11_tempted_57)) (e_iload_n dX11_tempted_13 rfl (e_iconst (v := 1) dX11_tempted_14 (by decide) (e_iadd dX11_tempted_15 (e_istore_n dX11_tempted_16 rfl (by decide) (fun _ _ _ h9 => h9))))))))))
set_option maxRecDepth 100000 in
theorem T_X11_tempted_17 {G : GE} {d C S : Nat} {ρ : Rs} : Snd G MX11_tempted (d + 1) C S 17 ρ (s_iload 2 (s_aload 0 (s_getR 10 3 (s_getI 0 1 (s_ic_ge (s_iinc 1 1 (fun L st h => E G MX11_tempted (d + 1) C S 2 L st h ρ)) (s_aload 0 (s_iload 1 (s_iload 2 (s_callV G d MX11_wouldLeave 2 10 (s_if_eq (s_iinc 2 1 (fun L st h => E G MX11_tempted (d + 1) C S 17 L st h ρ)) (s_iconst 10 (s_iload 1 (s_imul (s_iload 2 (s_iadd (s_ireturn ρ)))))))))))))))) := (e_iload_n dX11_tempted_17 rfl (e_aload_n dX11_tempted_18 rfl (e_getR rfl cl_10 (by decide) rfl q_431 dX11_tempted_19 (e_getIN rfl cl_0 (by decide) rfl q_192 dX11_tempted_22 (e_ic_ge (tgt := 50) dX11_tempted_25 (by decide) (e_iinc (v := 1) dX11_tempted_50 (by decide) (by decide) (e_goto (tgt := 2) dX11_tempted_53 (by decide) (fun _ _ _ h9 => h9))) (e_aload_n dX11_tempted_28 rfl (e_iload_n dX11_tempted_29 rfl (e_iload_n dX11_tempted_30 rfl (e_callV cl_10 cal_X11_wouldLeave q_625 q_627 q_8 dX11_tempted_31 (e_if_eq (tgt := 44) dX11_tempted_34 (by decide) (e_iinc (v := 1) dX11_tempted_44 (by decide) (by decide) (e_goto (tgt := 17) dX11_tempted_47 (by decide) (fun _ _ _ h9 => h9))) (e_bipush (v := 10) dX11_tempted_37 (by decide) (e_iload_n dX11_tempted_39 rfl (e_imul dX11_tempted_40 (e_iload_n dX11_tempted_41 rfl (e_iadd dX11_tempted_42 (e_ireturn rfl dX11_tempted_43))))))))))))))))
theorem dX11_way_0 : decode cX11_way 0 = .ok (.aload_n 0, 1) := by decide +kernel
theorem dX11_way_1 : decode cX11_way 1 = .ok (.iload_n 1, 1) := by decide +kernel
theorem dX11_way_2 : decode cX11_way 2 = .ok (.invokevirtual 267, 3) := by decide +kernel
theorem dX11_way_5 : decode cX11_way 5 = .ok (.aload_n 0, 1) := by decide +kernel
theorem dX11_way_6 : decode cX11_way 6 = .ok (.iload_n 2, 1) := by decide +kernel
theorem dX11_way_7 : decode cX11_way 7 = .ok (.invokevirtual 267, 3) := by decide +kernel
theorem dX11_way_10 : decode cX11_way 10 = .ok (.aload_n 0, 1) := by decide +kernel
theorem dX11_way_11 : decode cX11_way 11 = .ok (.getfield 86, 3) := by decide +kernel
theorem dX11_way_14 : decode cX11_way 14 = .ok (.aload_n 0, 1) := by decide +kernel
theorem dX11_way_15 : decode cX11_way 15 = .ok (.getfield 25, 3) := by decide +kernel
theorem dX11_way_18 : decode cX11_way 18 = .ok (.iload_n 1, 1) := by decide +kernel
theorem dX11_way_19 : decode cX11_way 19 = .ok (.iconst (-1), 1) := by decide +kernel
theorem dX11_way_20 : decode cX11_way 20 = .ok (.invokevirtual 270, 3) := by decide +kernel
theorem dX11_way_23 : decode cX11_way 23 = .ok (.aload_n 0, 1) := by decide +kernel
theorem dX11_way_24 : decode cX11_way 24 = .ok (.getfield 86, 3) := by decide +kernel
theorem dX11_way_27 : decode cX11_way 27 = .ok (.iload_n 2, 1) := by decide +kernel
theorem dX11_way_28 : decode cX11_way 28 = .ok (.invokevirtual 274, 3) := by decide +kernel
theorem dX11_way_31 : decode cX11_way 31 = .ok (.ireturn, 1) := by decide +kernel
set_option maxRecDepth 100000 in
theorem T_X11_way_0 {G : GE} {d C S : Nat} {ρ : Rs} : Snd G MX11_way (d + 1) C S 0 ρ (s_aload 0 (s_iload 1 (s_callV G d MX11_needCorner 1 10 (s_aload 0 (s_iload 2 (s_callV G d MX11_needCorner 1 10 (s_aload 0 (s_getR 10 14 (s_aload 0 (s_getR 10 3 (s_iload 1 (s_iconst (-1) (s_callV G d MX8_spread 3 8 (s_aload 0 (s_getR 10 14 (s_iload 2 (s_callV G d MX8_stepsTo 1 8 (s_ireturn ρ)))))))))))))))))) := (e_aload_n dX11_way_0 rfl (e_iload_n dX11_way_1 rfl (e_callV cl_10 cal_X11_needCorner q_1350 q_1352 q_43 dX11_way_2 (e_aload_n dX11_way_5 rfl (e_iload_n dX11_way_6 rfl (e_callV cl_10 cal_X11_needCorner q_1350 q_1352 q_43 dX11_way_7 (e_aload_n dX11_way_10 rfl (e_getR rfl cl_10 (by decide) rfl q_442 dX11_way_11 (e_aload_n dX11_way_14 rfl (e_getR rfl cl_10 (by decide) rfl q_431 dX11_way_15 (e_iload_n dX11_way_18 rfl (e_iconst (v := (-1)) dX11_way_19 (by decide) (e_callV cl_8 cal_X8_spread q_1354 q_1355 q_1356 dX11_way_20 (e_aload_n dX11_way_23 rfl (e_getR rfl cl_10 (by decide) rfl q_442 dX11_way_24 (e_iload_n dX11_way_27 rfl (e_callV cl_8 cal_X8_stepsTo q_1370 q_1371 q_1372 dX11_way_28 (e_ireturn rfl dX11_way_31))))))))))))))))))
set_option maxRecDepth 100000 in
theorem TX_X11_way_0 {G : GE} {d C S : Nat} {ρ : Rs} : Snd G MX11_way (d + 1) (C + 1) (S + 6) 0 ρ (s_aload 0 (s_iload 1 (s_callVB G d MX11_needCorner 1 10 ρ (s_aload 0 (s_iload 2 (s_callVB G d MX11_needCorner 1 10 ρ (s_aload 0 (s_getR 10 14 (s_aload 0 (s_getR 10 3 (s_iload 1 (s_iconst (-1) (s_callV G d MX8_spread 3 8 (s_aload 0 (s_getR 10 14 (s_iload 2 (s_callV G d MX8_stepsTo 1 8 (s_ireturn ρ)))))))))))))))))) := (e_aload_n dX11_way_0 rfl (e_iload_n dX11_way_1 rfl (e_callVB rfl cl_10 cal_X11_needCorner q_1350 q_1352 q_43 dX11_way_2 (e_aload_n dX11_way_5 rfl (e_iload_n dX11_way_6 rfl (e_callVB rfl cl_10 cal_X11_needCorner q_1350 q_1352 q_43 dX11_way_7 (e_aload_n dX11_way_10 rfl (e_getR rfl cl_10 (by decide) rfl q_442 dX11_way_11 (e_aload_n dX11_way_14 rfl (e_getR rfl cl_10 (by decide) rfl q_431 dX11_way_15 (e_iload_n dX11_way_18 rfl (e_iconst (v := (-1)) dX11_way_19 (by decide) (e_callV cl_8 cal_X8_spread q_1354 q_1355 q_1356 dX11_way_20 (e_aload_n dX11_way_23 rfl (e_getR rfl cl_10 (by decide) rfl q_442 dX11_way_24 (e_iload_n dX11_way_27 rfl (e_callV cl_8 cal_X8_stepsTo q_1370 q_1371 q_1372 dX11_way_28 (e_ireturn rfl dX11_way_31))))))))))))))))))
theorem dX11_round_0 : decode cX11_round 0 = .ok (.aload_n 0, 1) := by decide +kernel
theorem dX11_round_1 : decode cX11_round 1 = .ok (.iload_n 1, 1) := by decide +kernel
theorem dX11_round_2 : decode cX11_round 2 = .ok (.ifCond .lt 20, 3) := by decide +kernel
theorem dX11_round_5 : decode cX11_round 5 = .ok (.iload_n 1, 1) := by decide +kernel
theorem dX11_round_6 : decode cX11_round 6 = .ok (.iconst 1, 1) := by decide +kernel
theorem dX11_round_7 : decode cX11_round 7 = .ok (.aload_n 0, 1) := by decide +kernel
theorem dX11_round_8 : decode cX11_round 8 = .ok (.getfield 25, 3) := by decide +kernel
theorem dX11_round_11 : decode cX11_round 11 = .ok (.getfield 129, 3) := by decide +kernel
theorem dX11_round_14 : decode cX11_round 14 = .ok (.ishl, 1) := by decide +kernel
theorem dX11_round_15 : decode cX11_round 15 = .ok (.if_icmp .ge 7, 3) := by decide +kernel
theorem dX11_round_18 : decode cX11_round 18 = .ok (.iconst 1, 1) := by decide +kernel
theorem dX11_round_19 : decode cX11_round 19 = .ok (.goto 4, 3) := by decide +kernel
theorem dX11_round_22 : decode cX11_round 22 = .ok (.iconst 0, 1) := by decide +kernel
theorem dX11_round_23 : decode cX11_round 23 = .ok (.invokevirtual 171, 3) := by decide +kernel
theorem dX11_round_26 : decode cX11_round 26 = .ok (.aload_n 0, 1) := by decide +kernel
theorem dX11_round_27 : decode cX11_round 27 = .ok (.getfield 86, 3) := by decide +kernel
theorem dX11_round_30 : decode cX11_round 30 = .ok (.aload_n 0, 1) := by decide +kernel
theorem dX11_round_31 : decode cX11_round 31 = .ok (.getfield 25, 3) := by decide +kernel
theorem dX11_round_34 : decode cX11_round 34 = .ok (.iload_n 1, 1) := by decide +kernel
theorem dX11_round_35 : decode cX11_round 35 = .ok (.invokevirtual 277, 3) := by decide +kernel
theorem dX11_round_38 : decode cX11_round 38 = .ok (.ireturn, 1) := by decide +kernel
set_option maxRecDepth 100000 in
theorem T_X11_round_0 {G : GE} {d C S : Nat} {ρ : Rs} : Snd G MX11_round (d + 1) C S 0 ρ (s_aload 0 (s_iload 1 (s_if_lt (s_iconst 0 (s_callV G d MX11_need 1 10 (s_aload 0 (s_getR 10 14 (s_aload 0 (s_getR 10 3 (s_iload 1 (s_callV G d MX8_shortestRound 2 8 (s_ireturn ρ))))))))) (s_iload 1 (s_iconst 1 (s_aload 0 (s_getR 10 3 (s_getI 0 1 (s_ishl (s_ic_ge (s_iconst 0 (s_callV G d MX11_need 1 10 (s_aload 0 (s_getR 10 14 (s_aload 0 (s_getR 10 3 (s_iload 1 (s_callV G d MX8_shortestRound 2 8 (s_ireturn ρ))))))))) (s_iconst 1 (s_callV G d MX11_need 1 10 (s_aload 0 (s_getR 10 14 (s_aload 0 (s_getR 10 3 (s_iload 1 (s_callV G d MX8_shortestRound 2 8 (s_ireturn ρ))))))))))))))))))) := (e_aload_n dX11_round_0 rfl (e_iload_n dX11_round_1 rfl (e_if_lt (tgt := 22) dX11_round_2 (by decide) (e_iconst (v := 0) dX11_round_22 (by decide) (e_callV cl_10 cal_X11_need q_715 q_717 q_11 dX11_round_23 (e_aload_n dX11_round_26 rfl (e_getR rfl cl_10 (by decide) rfl q_442 dX11_round_27 (e_aload_n dX11_round_30 rfl (e_getR rfl cl_10 (by decide) rfl q_431 dX11_round_31 (e_iload_n dX11_round_34 rfl (e_callV cl_8 cal_X8_shortestRound q_1381 q_1382 q_1383 dX11_round_35 (e_ireturn rfl dX11_round_38))))))))) (e_iload_n dX11_round_5 rfl (e_iconst (v := 1) dX11_round_6 (by decide) (e_aload_n dX11_round_7 rfl (e_getR rfl cl_10 (by decide) rfl q_431 dX11_round_8 (e_getIN rfl cl_0 (by decide) rfl q_192 dX11_round_11 (e_ishl dX11_round_14 (e_ic_ge (tgt := 22) dX11_round_15 (by decide) (e_iconst (v := 0) dX11_round_22 (by decide) (e_callV cl_10 cal_X11_need q_715 q_717 q_11 dX11_round_23 (e_aload_n dX11_round_26 rfl (e_getR rfl cl_10 (by decide) rfl q_442 dX11_round_27 (e_aload_n dX11_round_30 rfl (e_getR rfl cl_10 (by decide) rfl q_431 dX11_round_31 (e_iload_n dX11_round_34 rfl (e_callV cl_8 cal_X8_shortestRound q_1381 q_1382 q_1383 dX11_round_35 (e_ireturn rfl dX11_round_38))))))))) (e_iconst (v := 1) dX11_round_18 (by decide) (e_goto (tgt := 23) dX11_round_19 (by decide) (e_callV cl_10 cal_X11_need q_715 q_717 q_11 dX11_round_23 (e_aload_n dX11_round_26 rfl (e_getR rfl cl_10 (by decide) rfl q_442 dX11_round_27 (e_aload_n dX11_round_30 rfl (e_getR rfl cl_10 (by decide) rfl q_431 dX11_round_31 (e_iload_n dX11_round_34 rfl (e_callV cl_8 cal_X8_shortestRound q_1381 q_1382 q_1383 dX11_round_35 (e_ireturn rfl dX11_round_38))))))))))))))))))))
set_option maxRecDepth 100000 in
theorem TX_X11_round_0 {G : GE} {d C S : Nat} {ρ : Rs} : Snd G MX11_round (d + 1) (C + 1) (S + 6) 0 ρ (s_aload 0 (s_iload 1 (s_if_lt (s_iconst 0 (s_callVB G d MX11_need 1 10 ρ (s_aload 0 (s_getR 10 14 (s_aload 0 (s_getR 10 3 (s_iload 1 (s_callV G d MX8_shortestRound 2 8 (s_ireturn ρ))))))))) (s_iload 1 (s_iconst 1 (s_aload 0 (s_getR 10 3 (s_getI 0 1 (s_ishl (s_ic_ge (s_iconst 0 (s_callVB G d MX11_need 1 10 ρ (s_aload 0 (s_getR 10 14 (s_aload 0 (s_getR 10 3 (s_iload 1 (s_callV G d MX8_shortestRound 2 8 (s_ireturn ρ))))))))) (s_iconst 1 (s_callVB G d MX11_need 1 10 ρ (s_aload 0 (s_getR 10 14 (s_aload 0 (s_getR 10 3 (s_iload 1 (s_callV G d MX8_shortestRound 2 8 (s_ireturn ρ))))))))))))))))))) := (e_aload_n dX11_round_0 rfl (e_iload_n dX11_round_1 rfl (e_if_lt (tgt := 22) dX11_round_2 (by decide) (e_iconst (v := 0) dX11_round_22 (by decide) (e_callVB rfl cl_10 cal_X11_need q_715 q_717 q_11 dX11_round_23 (e_aload_n dX11_round_26 rfl (e_getR rfl cl_10 (by decide) rfl q_442 dX11_round_27 (e_aload_n dX11_round_30 rfl (e_getR rfl cl_10 (by decide) rfl q_431 dX11_round_31 (e_iload_n dX11_round_34 rfl (e_callV cl_8 cal_X8_shortestRound q_1381 q_1382 q_1383 dX11_round_35 (e_ireturn rfl dX11_round_38))))))))) (e_iload_n dX11_round_5 rfl (e_iconst (v := 1) dX11_round_6 (by decide) (e_aload_n dX11_round_7 rfl (e_getR rfl cl_10 (by decide) rfl q_431 dX11_round_8 (e_getIN rfl cl_0 (by decide) rfl q_192 dX11_round_11 (e_ishl dX11_round_14 (e_ic_ge (tgt := 22) dX11_round_15 (by decide) (e_iconst (v := 0) dX11_round_22 (by decide) (e_callVB rfl cl_10 cal_X11_need q_715 q_717 q_11 dX11_round_23 (e_aload_n dX11_round_26 rfl (e_getR rfl cl_10 (by decide) rfl q_442 dX11_round_27 (e_aload_n dX11_round_30 rfl (e_getR rfl cl_10 (by decide) rfl q_431 dX11_round_31 (e_iload_n dX11_round_34 rfl (e_callV cl_8 cal_X8_shortestRound q_1381 q_1382 q_1383 dX11_round_35 (e_ireturn rfl dX11_round_38))))))))) (e_iconst (v := 1) dX11_round_18 (by decide) (e_goto (tgt := 23) dX11_round_19 (by decide) (e_callVB rfl cl_10 cal_X11_need q_715 q_717 q_11 dX11_round_23 (e_aload_n dX11_round_26 rfl (e_getR rfl cl_10 (by decide) rfl q_442 dX11_round_27 (e_aload_n dX11_round_30 rfl (e_getR rfl cl_10 (by decide) rfl q_431 dX11_round_31 (e_iload_n dX11_round_34 rfl (e_callV cl_8 cal_X8_shortestRound q_1381 q_1382 q_1383 dX11_round_35 (e_ireturn rfl dX11_round_38))))))))))))))))))))
theorem dX11_reach_0 : decode cX11_reach 0 = .ok (.aload_n 0, 1) := by decide +kernel
theorem dX11_reach_1 : decode cX11_reach 1 = .ok (.iload_n 1, 1) := by decide +kernel
theorem dX11_reach_2 : decode cX11_reach 2 = .ok (.invokevirtual 267, 3) := by decide +kernel
theorem dX11_reach_5 : decode cX11_reach 5 = .ok (.aload_n 0, 1) := by decide +kernel
theorem dX11_reach_6 : decode cX11_reach 6 = .ok (.getfield 86, 3) := by decide +kernel
theorem dX11_reach_9 : decode cX11_reach 9 = .ok (.aload_n 0, 1) := by decide +kernel
theorem dX11_reach_10 : decode cX11_reach 10 = .ok (.getfield 25, 3) := by decide +kernel
theorem dX11_reach_13 : decode cX11_reach 13 = .ok (.iload_n 1, 1) := by decide +kernel
theorem dX11_reach_14 : decode cX11_reach 14 = .ok (.iconst (-1), 1) := by decide +kernel
theorem dX11_reach_15 : decode cX11_reach 15 = .ok (.invokevirtual 270, 3) := by decide +kernel
theorem dX11_reach_18 : decode cX11_reach 18 = .ok (.iconst 0, 1) := by decide +kernel
theorem dX11_reach_19 : decode cX11_reach 19 = .ok (.istore_n 2, 1) := by decide +kernel
theorem dX11_reach_20 : decode cX11_reach 20 = .ok (.iconst 0, 1) := by decide +kernel
theorem dX11_reach_21 : decode cX11_reach 21 = .ok (.istore_n 3, 1) := by decide +kernel
theorem dX11_reach_22 : decode cX11_reach 22 = .ok (.iload_n 3, 1) := by decide +kernel
theorem dX11_reach_23 : decode cX11_reach 23 = .ok (.aload_n 0, 1) := by decide +kernel
theorem dX11_reach_24 : decode cX11_reach 24 = .ok (.getfield 25, 3) := by decide +kernel
theorem dX11_reach_27 : decode cX11_reach 27 = .ok (.getfield 175, 3) := by decide +kernel
theorem dX11_reach_30 : decode cX11_reach 30 = .ok (.if_icmp .ge 27, 3) := by decide +kernel
theorem dX11_reach_33 : decode cX11_reach 33 = .ok (.aload_n 0, 1) := by decide +kernel
theorem dX11_reach_34 : decode cX11_reach 34 = .ok (.getfield 86, 3) := by decide +kernel
theorem dX11_reach_37 : decode cX11_reach 37 = .ok (.iload_n 3, 1) := by decide +kernel
theorem dX11_reach_38 : decode cX11_reach 38 = .ok (.invokevirtual 274, 3) := by decide +kernel
theorem dX11_reach_41 : decode cX11_reach 41 = .ok (.iconst (-1), 1) := by decide +kernel
theorem dX11_reach_42 : decode cX11_reach 42 = .ok (.if_icmp .eq 9, 3) := by decide +kernel
theorem dX11_reach_45 : decode cX11_reach 45 = .ok (.iload_n 2, 1) := by decide +kernel
theorem dX11_reach_46 : decode cX11_reach 46 = .ok (.iconst 1, 1) := by decide +kernel
theorem dX11_reach_47 : decode cX11_reach 47 = .ok (.iload_n 3, 1) := by decide +kernel
theorem dX11_reach_48 : decode cX11_reach 48 = .ok (.ishl, 1) := by decide +kernel
theorem dX11_reach_49 : decode cX11_reach 49 = .ok (.ior, 1) := by decide +kernel
theorem dX11_reach_50 : decode cX11_reach 50 = .ok (.istore_n 2, 1) := by decide +kernel
theorem dX11_reach_51 : decode cX11_reach 51 = .ok (.iinc 3 1, 3) := by decide +kernel
theorem dX11_reach_54 : decode cX11_reach 54 = .ok (.goto (-32), 3) := by decide +kernel
theorem dX11_reach_57 : decode cX11_reach 57 = .ok (.iload_n 2, 1) := by decide +kernel
theorem dX11_reach_58 : decode cX11_reach 58 = .ok (.ireturn, 1) := by decide +kernel
set_option maxRecDepth 100000 in
theorem T_X11_reach_0 {G : GE} {d C S : Nat} {ρ : Rs} : Snd G MX11_reach (d + 1) C S 0 ρ (s_aload 0 (s_iload 1 (s_callV G d MX11_needCorner 1 10 (s_aload 0 (s_getR 10 14 (s_aload 0 (s_getR 10 3 (s_iload 1 (s_iconst (-1) (s_callV G d MX8_spread 3 8 (s_iconst 0 (s_istore 2 (s_iconst 0 (s_istore 3 (fun L st h => E G MX11_reach (d + 1) C S 22 L st h ρ))))))))))))))) := (e_aload_n dX11_reach_0 rfl (e_iload_n dX11_reach_1 rfl (e_callV cl_10 cal_X11_needCorner q_1350 q_1352 q_43 dX11_reach_2 (e_aload_n dX11_reach_5 rfl (e_getR rfl cl_10 (by decide) rfl q_442 dX11_reach_6 (e_aload_n dX11_reach_9 rfl (e_getR rfl cl_10 (by decide) rfl q_431 dX11_reach_10 (e_iload_n dX11_reach_13 rfl (e_iconst (v := (-1)) dX11_reach_14 (by decide) (e_callV cl_8 cal_X8_spread q_1354 q_1355 q_1356 dX11_reach_15 (e_iconst (v := 0) dX11_reach_18 (by decide) (e_istore_n dX11_reach_19 rfl (by decide) (e_iconst (v := 0) dX11_reach_20 (by decide) (e_istore_n dX11_reach_21 rfl (by decide) (fun _ _ _ h9 => h9)))))))))))))))
set_option maxRecDepth 100000 in
theorem T_X11_reach_22 {G : GE} {d C S : Nat} {ρ : Rs} : Snd G MX11_reach (d + 1) C S 22 ρ (s_iload 3 (s_aload 0 (s_getR 10 3 (s_getI 0 0 (s_ic_ge (s_iload 2 (s_ireturn ρ)) (s_aload 0 (s_getR 10 14 (s_iload 3 (s_callV G d MX8_stepsTo 1 8 (s_iconst (-1) (s_ic_eq (s_iinc 3 1 (fun L st h => E G MX11_reach (d + 1) C S 22 L st h ρ)) (s_iload 2 (s_iconst 1 (s_iload 3 (s_ishl (s_ior (s_istore 2 (s_iinc 3 1 (fun L st h => E G MX11_reach (d + 1) C S 22 L st h ρ))))))))))))))))))) := (e_iload_n dX11_reach_22 rfl (e_aload_n dX11_reach_23 rfl (e_getR rfl cl_10 (by decide) rfl q_431 dX11_reach_24 (e_getIN rfl cl_0 (by decide) rfl q_189 dX11_reach_27 (e_ic_ge (tgt := 57) dX11_reach_30 (by decide) (e_iload_n dX11_reach_57 rfl (e_ireturn rfl dX11_reach_58)) (e_aload_n dX11_reach_33 rfl (e_getR rfl cl_10 (by decide) rfl q_442 dX11_reach_34 (e_iload_n dX11_reach_37 rfl (e_callV cl_8 cal_X8_stepsTo q_1370 q_1371 q_1372 dX11_reach_38 (e_iconst (v := (-1)) dX11_reach_41 (by decide) (e_ic_eq (tgt := 51) dX11_reach_42 (by decide) (e_iinc (v := 1) dX11_reach_51 (by decide) (by decide) (e_goto (tgt := 22) dX11_reach_54 (by decide) (fun _ _ _ h9 => h9))) (e_iload_n dX11_reach_45 rfl (e_iconst (v := 1) dX11_reach_46 (by decide) (e_iload_n dX11_reach_47 rfl (e_ishl dX11_reach_48 (e_ior dX11_reach_49 (e_istore_n dX11_reach_50 rfl (by decide) (e_iinc (v := 1) dX11_reach_51 (by decide) (by decide) (e_goto (tgt := 22) dX11_reach_54 (by decide) (fun _ _ _ h9 => h9))))))))))))))))))))
set_option maxRecDepth 100000 in
theorem TX_X11_reach_0 {G : GE} {d C S : Nat} {ρ : Rs} : Snd G MX11_reach (d + 1) (C + 1) (S + 6) 0 ρ (s_aload 0 (s_iload 1 (s_callVB G d MX11_needCorner 1 10 ρ (s_aload 0 (s_getR 10 14 (s_aload 0 (s_getR 10 3 (s_iload 1 (s_iconst (-1) (s_callV G d MX8_spread 3 8 (s_iconst 0 (s_istore 2 (s_iconst 0 (s_istore 3 (fun L st h => E G MX11_reach (d + 1) (C + 1) (S + 6) 22 L st h ρ))))))))))))))) := (e_aload_n dX11_reach_0 rfl (e_iload_n dX11_reach_1 rfl (e_callVB rfl cl_10 cal_X11_needCorner q_1350 q_1352 q_43 dX11_reach_2 (e_aload_n dX11_reach_5 rfl (e_getR rfl cl_10 (by decide) rfl q_442 dX11_reach_6 (e_aload_n dX11_reach_9 rfl (e_getR rfl cl_10 (by decide) rfl q_431 dX11_reach_10 (e_iload_n dX11_reach_13 rfl (e_iconst (v := (-1)) dX11_reach_14 (by decide) (e_callV cl_8 cal_X8_spread q_1354 q_1355 q_1356 dX11_reach_15 (e_iconst (v := 0) dX11_reach_18 (by decide) (e_istore_n dX11_reach_19 rfl (by decide) (e_iconst (v := 0) dX11_reach_20 (by decide) (e_istore_n dX11_reach_21 rfl (by decide) (fun _ _ _ h9 => h9)))))))))))))))
set_option maxRecDepth 100000 in
theorem TX_X11_reach_22 {G : GE} {d C S : Nat} {ρ : Rs} : Snd G MX11_reach (d + 1) (C + 1) (S + 6) 22 ρ (s_iload 3 (s_aload 0 (s_getR 10 3 (s_getI 0 0 (s_ic_ge (s_iload 2 (s_ireturn ρ)) (s_aload 0 (s_getR 10 14 (s_iload 3 (s_callV G d MX8_stepsTo 1 8 (s_iconst (-1) (s_ic_eq (s_iinc 3 1 (fun L st h => E G MX11_reach (d + 1) (C + 1) (S + 6) 22 L st h ρ)) (s_iload 2 (s_iconst 1 (s_iload 3 (s_ishl (s_ior (s_istore 2 (s_iinc 3 1 (fun L st h => E G MX11_reach (d + 1) (C + 1) (S + 6) 22 L st h ρ))))))))))))))))))) := (e_iload_n dX11_reach_22 rfl (e_aload_n dX11_reach_23 rfl (e_getR rfl cl_10 (by decide) rfl q_431 dX11_reach_24 (e_getIN rfl cl_0 (by decide) rfl q_189 dX11_reach_27 (e_ic_ge (tgt := 57) dX11_reach_30 (by decide) (e_iload_n dX11_reach_57 rfl (e_ireturn rfl dX11_reach_58)) (e_aload_n dX11_reach_33 rfl (e_getR rfl cl_10 (by decide) rfl q_442 dX11_reach_34 (e_iload_n dX11_reach_37 rfl (e_callV cl_8 cal_X8_stepsTo q_1370 q_1371 q_1372 dX11_reach_38 (e_iconst (v := (-1)) dX11_reach_41 (by decide) (e_ic_eq (tgt := 51) dX11_reach_42 (by decide) (e_iinc (v := 1) dX11_reach_51 (by decide) (by decide) (e_goto (tgt := 22) dX11_reach_54 (by decide) (fun _ _ _ h9 => h9))) (e_iload_n dX11_reach_45 rfl (e_iconst (v := 1) dX11_reach_46 (by decide) (e_iload_n dX11_reach_47 rfl (e_ishl dX11_reach_48 (e_ior dX11_reach_49 (e_istore_n dX11_reach_50 rfl (by decide) (e_iinc (v := 1) dX11_reach_51 (by decide) (by decide) (e_goto (tgt := 22) dX11_reach_54 (by decide) (fun _ _ _ h9 => h9))))))))))))))))))))
theorem dX11_bridges_0 : decode cX11_bridges 0 = .ok (.aload_n 0, 1) := by decide +kernel
theorem dX11_bridges_1 : decode cX11_bridges 1 = .ok (.iload_n 1, 1) := by decide +kernel
theorem dX11_bridges_2 : decode cX11_bridges 2 = .ok (.ifCond .eq 8, 3) := by decide +kernel
theorem dX11_bridges_5 : decode cX11_bridges 5 = .ok (.iload_n 1, 1) := by decide +kernel
theorem dX11_bridges_6 : decode cX11_bridges 6 = .ok (.iconst 1, 1) := by decide +kernel
theorem dX11_bridges_7 : decode cX11_bridges 7 = .ok (.if_icmp .ne 7, 3) := by decide +kernel
theorem dX11_bridges_10 : decode cX11_bridges 10 = .ok (.iconst 1, 1) := by decide +kernel
theorem dX11_bridges_11 : decode cX11_bridges 11 = .ok (.goto 4, 3) := by decide +kernel
theorem dX11_bridges_14 : decode cX11_bridges 14 = .ok (.iconst 0, 1) := by decide +kernel
theorem dX11_bridges_15 : decode cX11_bridges 15 = .ok (.invokevirtual 171, 3) := by decide +kernel
theorem dX11_bridges_18 : decode cX11_bridges 18 = .ok (.iconst 0, 1) := by decide +kernel
theorem dX11_bridges_19 : decode cX11_bridges 19 = .ok (.istore_n 2, 1) := by decide +kernel
theorem dX11_bridges_20 : decode cX11_bridges 20 = .ok (.iconst (-1), 1) := by decide +kernel
theorem dX11_bridges_21 : decode cX11_bridges 21 = .ok (.istore_n 3, 1) := by decide +kernel
theorem dX11_bridges_22 : decode cX11_bridges 22 = .ok (.aload_n 0, 1) := by decide +kernel
theorem dX11_bridges_23 : decode cX11_bridges 23 = .ok (.getfield 25, 3) := by decide +kernel
theorem dX11_bridges_26 : decode cX11_bridges 26 = .ok (.getfield 129, 3) := by decide +kernel
theorem dX11_bridges_29 : decode cX11_bridges 29 = .ok (.iconst 1, 1) := by decide +kernel
theorem dX11_bridges_30 : decode cX11_bridges 30 = .ok (.isub, 1) := by decide +kernel
theorem dX11_bridges_31 : decode cX11_bridges 31 = .ok (.istore 4, 2) := by decide +kernel
theorem dX11_bridges_33 : decode cX11_bridges 33 = .ok (.iload 4, 2) := by decide +kernel
theorem dX11_bridges_35 : decode cX11_bridges 35 = .ok (.ifCond .lt 57, 3) := by decide +kernel
theorem dX11_bridges_38 : decode cX11_bridges 38 = .ok (.aload_n 0, 1) := by decide +kernel
theorem dX11_bridges_39 : decode cX11_bridges 39 = .ok (.getfield 86, 3) := by decide +kernel
theorem dX11_bridges_42 : decode cX11_bridges 42 = .ok (.aload_n 0, 1) := by decide +kernel
theorem dX11_bridges_43 : decode cX11_bridges 43 = .ok (.getfield 25, 3) := by decide +kernel
theorem dX11_bridges_46 : decode cX11_bridges 46 = .ok (.aload_n 0, 1) := by decide +kernel
theorem dX11_bridges_47 : decode cX11_bridges 47 = .ok (.getfield 25, 3) := by decide +kernel
theorem dX11_bridges_50 : decode cX11_bridges 50 = .ok (.iload 4, 2) := by decide +kernel
theorem dX11_bridges_52 : decode cX11_bridges 52 = .ok (.invokevirtual 199, 3) := by decide +kernel
theorem dX11_bridges_55 : decode cX11_bridges 55 = .ok (.iload 4, 2) := by decide +kernel
theorem dX11_bridges_57 : decode cX11_bridges 57 = .ok (.invokevirtual 270, 3) := by decide +kernel
theorem dX11_bridges_60 : decode cX11_bridges 60 = .ok (.aload_n 0, 1) := by decide +kernel
theorem dX11_bridges_61 : decode cX11_bridges 61 = .ok (.getfield 86, 3) := by decide +kernel
theorem dX11_bridges_64 : decode cX11_bridges 64 = .ok (.aload_n 0, 1) := by decide +kernel
theorem dX11_bridges_65 : decode cX11_bridges 65 = .ok (.getfield 25, 3) := by decide +kernel
theorem dX11_bridges_68 : decode cX11_bridges 68 = .ok (.iload 4, 2) := by decide +kernel
theorem dX11_bridges_70 : decode cX11_bridges 70 = .ok (.invokevirtual 203, 3) := by decide +kernel
theorem dX11_bridges_73 : decode cX11_bridges 73 = .ok (.invokevirtual 274, 3) := by decide +kernel
theorem dX11_bridges_76 : decode cX11_bridges 76 = .ok (.iconst (-1), 1) := by decide +kernel
theorem dX11_bridges_77 : decode cX11_bridges 77 = .ok (.if_icmp .ne 9, 3) := by decide +kernel
theorem dX11_bridges_80 : decode cX11_bridges 80 = .ok (.iinc 2 1, 3) := by decide +kernel
theorem dX11_bridges_83 : decode cX11_bridges 83 = .ok (.iload 4, 2) := by decide +kernel
theorem dX11_bridges_85 : decode cX11_bridges 85 = .ok (.istore_n 3, 1) := by decide +kernel
theorem dX11_bridges_86 : decode cX11_bridges 86 = .ok (.iinc 4 (-1), 3) := by decide +kernel
theorem dX11_bridges_89 : decode cX11_bridges 89 = .ok (.goto (-56), 3) := by decide +kernel
theorem dX11_bridges_92 : decode cX11_bridges 92 = .ok (.iload_n 1, 1) := by decide +kernel
theorem dX11_bridges_93 : decode cX11_bridges 93 = .ok (.ifCond .ne 7, 3) := by decide +kernel
theorem dX11_bridges_96 : decode cX11_bridges 96 = .ok (.iload_n 2, 1) := by decide +kernel
theorem dX11_bridges_97 : decode cX11_bridges 97 = .ok (.goto 4, 3) := by decide +kernel
theorem dX11_bridges_100 : decode cX11_bridges 100 = .ok (.iload_n 3, 1) := by decide +kernel
theorem dX11_bridges_101 : decode cX11_bridges 101 = .ok (.ireturn, 1) := by decide +kernel
set_option maxRecDepth 100000 in
theorem T_X11_bridges_0 {G : GE} {d C S : Nat} {ρ : Rs} : Snd G MX11_bridges (d + 1) C S 0 ρ (s_aload 0 (s_iload 1 (s_if_eq (s_iconst 1 (s_callV G d MX11_need 1 10 (s_iconst 0 (s_istore 2 (s_iconst (-1) (s_istore 3 (s_aload 0 (s_getR 10 3 (s_getI 0 1 (s_iconst 1 (s_isub (s_istore 4 (fun L st h => E G MX11_bridges (d + 1) C S 33 L st h ρ))))))))))))) (s_iload 1 (s_iconst 1 (s_ic_ne (s_iconst 0 (s_callV G d MX11_need 1 10 (s_iconst 0 (s_istore 2 (s_iconst (-1) (s_istore 3 (s_aload 0 (s_getR 10 3 (s_getI 0 1 (s_iconst 1 (s_isub (s_istore 4 (fun L st h => E G MX11_bridges (d + 1) C S 33 L st h ρ))))))))))))) (s_iconst 1 (s_callV G d MX11_need 1 10 (s_iconst 0 (s_istore 2 (s_iconst (-1) (s_istore 3 (s_aload 0 (s_getR 10 3 (s_getI 0 1 (s_iconst 1 (s_isub (s_istore 4 (fun L st h => E G MX11_bridges (d + 1) C S 33 L st h ρ))))))))))))))))))) := (e_aload_n dX11_bridges_0 rfl (e_iload_n dX11_bridges_1 rfl (e_if_eq (tgt := 10) dX11_bridges_2 (by decide) (e_iconst (v := 1) dX11_bridges_10 (by decide) (e_goto (tgt := 15) dX11_bridges_11 (by decide) (e_callV cl_10 cal_X11_need q_715 q_717 q_11 dX11_bridges_15 (e_iconst (v := 0) dX11_bridges_18 (by decide) (e_istore_n dX11_bridges_19 rfl (by decide) (e_iconst (v := (-1)) dX11_bridges_20 (by decide) (e_istore_n dX11_bridges_21 rfl (by decide) (e_aload_n dX11_bridges_22 rfl (e_getR rfl cl_10 (by decide) rfl q_431 dX11_bridges_23 (e_getIN rfl cl_0 (by decide) rfl q_192 dX11_bridges_26 (e_iconst (v := 1) dX11_bridges_29 (by decide) (e_isub dX11_bridges_30 (e_istore dX11_bridges_31 (by decide) (fun _ _ _ h9 => h9)))))))))))))) (e_iload_n dX11_bridges_5 rfl (e_iconst (v := 1) dX11_bridges_6 (by decide) (e_ic_ne (tgt := 14) dX11_bridges_7 (by decide) (e_iconst (v := 0) dX11_bridges_14 (by decide) (e_callV cl_10 cal_X11_need q_715 q_717 q_11 dX11_bridges_15 (e_iconst (v := 0) dX11_bridges_18 (by decide) (e_istore_n dX11_bridges_19 rfl (by decide) (e_iconst (v := (-1)) dX11_bridges_20 (by decide) (e_istore_n dX11_bridges_21 rfl (by decide) (e_aload_n dX11_bridges_22 rfl (e_getR rfl cl_10 (by decide) rfl q_431 dX11_bridges_23 (e_getIN rfl cl_0 (by decide) rfl q_192 dX11_bridges_26 (e_iconst (v := 1) dX11_bridges_29 (by decide) (e_isub dX11_bridges_30 (e_istore dX11_bridges_31 (by decide) (fun _ _ _ h9 => h9))))))))))))) (e_iconst (v := 1) dX11_bridges_10 (by decide) (e_goto (tgt := 15) dX11_bridges_11 (by decide) (e_callV cl_10 cal_X11_need q_715 q_717 q_11 dX11_bridges_15 (e_iconst (v := 0) dX11_bridges_18 (by decide) (e_istore_n dX11_bridges_19 rfl (by decide) (e_iconst (v := (-1)) dX11_bridges_20 (by decide) (e_istore_n dX11_bridges_21 rfl (by decide) (e_aload_n dX11_bridges_22 rfl (e_getR rfl cl_10 (by decide) rfl q_431 dX11_bridges_23 (e_getIN rfl cl_0 (by decide) rfl q_192 dX11_bridges_26 (e_iconst (v := 1) dX11_bridges_29 (by decide) (e_isub dX11_bridges_30 (e_istore dX11_bridges_31 (by decide) (fun _ _ _ h9 => h9))))))))))))))))))))
set_option maxRecDepth 100000 in
theorem T_X11_bridges_33 {G : GE} {d C S : Nat} {ρ : Rs} : Snd G MX11_bridges (d + 1) C S 33 ρ (s_iload 4 (s_if_lt (s_iload 1 (s_if_ne (s_iload 3 (s_ireturn ρ)) (s_iload 2 (s_ireturn ρ)))) (s_aload 0 (s_getR 10 14 (s_aload 0 (s_getR 10 3 (s_aload 0 (s_getR 10 3 (s_iload 4 (s_callV G d MX0_startOf 1 0 (s_iload 4 (s_callV G d MX8_spread 3 8 (s_aload 0 (s_getR 10 14 (s_aload 0 (s_getR 10 3 (s_iload 4 (s_callV G d MX0_endOf 1 0 (s_callV G d MX8_stepsTo 1 8 (s_iconst (-1) (s_ic_ne (s_iinc 4 (-1) (fun L st h => E G MX11_bridges (d + 1) C S 33 L st h ρ)) (s_iinc 2 1 (s_iload 4 (s_istore 3 (s_iinc 4 (-1) (fun L st h => E G MX11_bridges (d + 1) C S 33 L st h ρ)))))))))))))))))))))))))) := (e_iload dX11_bridges_33 (e_if_lt (tgt := 92) dX11_bridges_35 (by decide) (e_iload_n dX11_bridges_92 rfl (e_if_ne (tgt := 100) dX11_bridges_93 (by decide) (e_iload_n dX11_bridges_100 rfl (e_ireturn rfl dX11_bridges_101)) (e_iload_n dX11_bridges_96 rfl (e_goto (tgt := 101) dX11_bridges_97 (by decide) (e_ireturn rfl dX11_bridges_101))))) (e_aload_n dX11_bridges_38 rfl (e_getR rfl cl_10 (by decide) rfl q_442 dX11_bridges_39 (e_aload_n dX11_bridges_42 rfl (e_getR rfl cl_10 (by decide) rfl q_431 dX11_bridges_43 (e_aload_n dX11_bridges_46 rfl (e_getR rfl cl_10 (by decide) rfl q_431 dX11_bridges_47 (e_iload dX11_bridges_50 (e_callV cl_0 cal_X0_startOf q_1229 q_1230 q_1231 dX11_bridges_52 (e_iload dX11_bridges_55 (e_callV cl_8 cal_X8_spread q_1354 q_1355 q_1356 dX11_bridges_57 (e_aload_n dX11_bridges_60 rfl (e_getR rfl cl_10 (by decide) rfl q_442 dX11_bridges_61 (e_aload_n dX11_bridges_64 rfl (e_getR rfl cl_10 (by decide) rfl q_431 dX11_bridges_65 (e_iload dX11_bridges_68 (e_callV cl_0 cal_X0_endOf q_1233 q_1234 q_1235 dX11_bridges_70 (e_callV cl_8 cal_X8_stepsTo q_1370 q_1371 q_1372 dX11_bridges_73 (e_iconst (v := (-1)) dX11_bridges_76 (by decide) (e_ic_ne (tgt := 86) dX11_bridges_77 (by decide) (e_iinc (v := (-1)) dX11_bridges_86 (by decide) (by decide) (e_goto (tgt := 33) dX11_bridges_89 (by decide) (fun _ _ _ h9 => h9))) (e_iinc (v := 1) dX11_bridges_80 (by decide) (by decide) (e_iload dX11_bridges_83 (e_istore_n dX11_bridges_85 rfl (by decide) (e_iinc (v := (-1)) dX11_bridges_86 (by decide) (by decide) (e_goto (tgt := 33) dX11_bridges_89 (by decide) (fun _ _ _ h9 => h9)))))))))))))))))))))))))))
set_option maxRecDepth 100000 in
theorem TX_X11_bridges_0 {G : GE} {d C S : Nat} {ρ : Rs} : Snd G MX11_bridges (d + 1) (C + 1) (S + 6) 0 ρ (s_aload 0 (s_iload 1 (s_if_eq (s_iconst 1 (s_callVB G d MX11_need 1 10 ρ (s_iconst 0 (s_istore 2 (s_iconst (-1) (s_istore 3 (s_aload 0 (s_getR 10 3 (s_getI 0 1 (s_iconst 1 (s_isub (s_istore 4 (fun L st h => E G MX11_bridges (d + 1) (C + 1) (S + 6) 33 L st h ρ))))))))))))) (s_iload 1 (s_iconst 1 (s_ic_ne (s_iconst 0 (s_callVB G d MX11_need 1 10 ρ (s_iconst 0 (s_istore 2 (s_iconst (-1) (s_istore 3 (s_aload 0 (s_getR 10 3 (s_getI 0 1 (s_iconst 1 (s_isub (s_istore 4 (fun L st h => E G MX11_bridges (d + 1) (C + 1) (S + 6) 33 L st h ρ))))))))))))) (s_iconst 1 (s_callVB G d MX11_need 1 10 ρ (s_iconst 0 (s_istore 2 (s_iconst (-1) (s_istore 3 (s_aload 0 (s_getR 10 3 (s_getI 0 1 (s_iconst 1 (s_isub (s_istore 4 (fun L st h => E G MX11_bridges (d + 1) (C + 1) (S + 6) 33 L st h ρ))))))))))))))))))) := (e_aload_n dX11_bridges_0 rfl (e_iload_n dX11_bridges_1 rfl (e_if_eq (tgt := 10) dX11_bridges_2 (by decide) (e_iconst (v := 1) dX11_bridges_10 (by decide) (e_goto (tgt := 15) dX11_bridges_11 (by decide) (e_callVB rfl cl_10 cal_X11_need q_715 q_717 q_11 dX11_bridges_15 (e_iconst (v := 0) dX11_bridges_18 (by decide) (e_istore_n dX11_bridges_19 rfl (by decide) (e_iconst (v := (-1)) dX11_bridges_20 (by decide) (e_istore_n dX11_bridges_21 rfl (by decide) (e_aload_n dX11_bridges_22 rfl (e_getR rfl cl_10 (by decide) rfl q_431 dX11_bridges_23 (e_getIN rfl cl_0 (by decide) rfl q_192 dX11_bridges_26 (e_iconst (v := 1) dX11_bridges_29 (by decide) (e_isub dX11_bridges_30 (e_istore dX11_bridges_31 (by decide) (fun _ _ _ h9 => h9)))))))))))))) (e_iload_n dX11_bridges_5 rfl (e_iconst (v := 1) dX11_bridges_6 (by decide) (e_ic_ne (tgt := 14) dX11_bridges_7 (by decide) (e_iconst (v := 0) dX11_bridges_14 (by decide) (e_callVB rfl cl_10 cal_X11_need q_715 q_717 q_11 dX11_bridges_15 (e_iconst (v := 0) dX11_bridges_18 (by decide) (e_istore_n dX11_bridges_19 rfl (by decide) (e_iconst (v := (-1)) dX11_bridges_20 (by decide) (e_istore_n dX11_bridges_21 rfl (by decide) (e_aload_n dX11_bridges_22 rfl (e_getR rfl cl_10 (by decide) rfl q_431 dX11_bridges_23 (e_getIN rfl cl_0 (by decide) rfl q_192 dX11_bridges_26 (e_iconst (v := 1) dX11_bridges_29 (by decide) (e_isub dX11_bridges_30 (e_istore dX11_bridges_31 (by decide) (fun _ _ _ h9 => h9))))))))))))) (e_iconst (v := 1) dX11_bridges_10 (by decide) (e_goto (tgt := 15) dX11_bridges_11 (by decide) (e_callVB rfl cl_10 cal_X11_need q_715 q_717 q_11 dX11_bridges_15 (e_iconst (v := 0) dX11_bridges_18 (by decide) (e_istore_n dX11_bridges_19 rfl (by decide) (e_iconst (v := (-1)) dX11_bridges_20 (by decide) (e_istore_n dX11_bridges_21 rfl (by decide) (e_aload_n dX11_bridges_22 rfl (e_getR rfl cl_10 (by decide) rfl q_431 dX11_bridges_23 (e_getIN rfl cl_0 (by decide) rfl q_192 dX11_bridges_26 (e_iconst (v := 1) dX11_bridges_29 (by decide) (e_isub dX11_bridges_30 (e_istore dX11_bridges_31 (by decide) (fun _ _ _ h9 => h9))))))))))))))))))))
set_option maxRecDepth 100000 in
theorem TX_X11_bridges_33 {G : GE} {d C S : Nat} {ρ : Rs} : Snd G MX11_bridges (d + 1) (C + 1) (S + 6) 33 ρ (s_iload 4 (s_if_lt (s_iload 1 (s_if_ne (s_iload 3 (s_ireturn ρ)) (s_iload 2 (s_ireturn ρ)))) (s_aload 0 (s_getR 10 14 (s_aload 0 (s_getR 10 3 (s_aload 0 (s_getR 10 3 (s_iload 4 (s_callV G d MX0_startOf 1 0 (s_iload 4 (s_callV G d MX8_spread 3 8 (s_aload 0 (s_getR 10 14 (s_aload 0 (s_getR 10 3 (s_iload 4 (s_callV G d MX0_endOf 1 0 (s_callV G d MX8_stepsTo 1 8 (s_iconst (-1) (s_ic_ne (s_iinc 4 (-1) (fun L st h => E G MX11_bridges (d + 1) (C + 1) (S + 6) 33 L st h ρ)) (s_iinc 2 1 (s_iload 4 (s_istore 3 (s_iinc 4 (-1) (fun L st h => E G MX11_bridges (d + 1) (C + 1) (S + 6) 33 L st h ρ)))))))))))))))))))))))))) := (e_iload dX11_bridges_33 (e_if_lt (tgt := 92) dX11_bridges_35 (by decide) (e_iload_n dX11_bridges_92 rfl (e_if_ne (tgt := 100) dX11_bridges_93 (by decide) (e_iload_n dX11_bridges_100 rfl (e_ireturn rfl dX11_bridges_101)) (e_iload_n dX11_bridges_96 rfl (e_goto (tgt := 101) dX11_bridges_97 (by decide) (e_ireturn rfl dX11_bridges_101))))) (e_aload_n dX11_bridges_38 rfl (e_getR rfl cl_10 (by decide) rfl q_442 dX11_bridges_39 (e_aload_n dX11_bridges_42 rfl (e_getR rfl cl_10 (by decide) rfl q_431 dX11_bridges_43 (e_aload_n dX11_bridges_46 rfl (e_getR rfl cl_10 (by decide) rfl q_431 dX11_bridges_47 (e_iload dX11_bridges_50 (e_callV cl_0 cal_X0_startOf q_1229 q_1230 q_1231 dX11_bridges_52 (e_iload dX11_bridges_55 (e_callV cl_8 cal_X8_spread q_1354 q_1355 q_1356 dX11_bridges_57 (e_aload_n dX11_bridges_60 rfl (e_getR rfl cl_10 (by decide) rfl q_442 dX11_bridges_61 (e_aload_n dX11_bridges_64 rfl (e_getR rfl cl_10 (by decide) rfl q_431 dX11_bridges_65 (e_iload dX11_bridges_68 (e_callV cl_0 cal_X0_endOf q_1233 q_1234 q_1235 dX11_bridges_70 (e_callV cl_8 cal_X8_stepsTo q_1370 q_1371 q_1372 dX11_bridges_73 (e_iconst (v := (-1)) dX11_bridges_76 (by decide) (e_ic_ne (tgt := 86) dX11_bridges_77 (by decide) (e_iinc (v := (-1)) dX11_bridges_86 (by decide) (by decide) (e_goto (tgt := 33) dX11_bridges_89 (by decide) (fun _ _ _ h9 => h9))) (e_iinc (v := 1) dX11_bridges_80 (by decide) (by decide) (e_iload dX11_bridges_83 (e_istore_n dX11_bridges_85 rfl (by decide) (e_iinc (v := (-1)) dX11_bridges_86 (by decide) (by decide) (e_goto (tgt := 33) dX11_bridges_89 (by decide) (fun _ _ _ h9 => h9)))))))))))))))))))))))))))
theorem dX11_fair_0 : decode cX11_fair 0 = .ok (.aload_n 0, 1) := by decide +kernel
theorem dX11_fair_1 : decode cX11_fair 1 = .ok (.iload_n 1, 1) := by decide +kernel
theorem dX11_fair_2 : decode cX11_fair 2 = .ok (.ifCond .eq 8, 3) := by decide +kernel
theorem dX11_fair_5 : decode cX11_fair 5 = .ok (.iload_n 1, 1) := by decide +kernel
theorem dX11_fair_6 : decode cX11_fair 6 = .ok (.iconst 1, 1) := by decide +kernel
theorem dX11_fair_7 : decode cX11_fair 7 = .ok (.if_icmp .ne 7, 3) := by decide +kernel
theorem dX11_fair_10 : decode cX11_fair 10 = .ok (.iconst 1, 1) := by decide +kernel
theorem dX11_fair_11 : decode cX11_fair 11 = .ok (.goto 4, 3) := by decide +kernel
theorem dX11_fair_14 : decode cX11_fair 14 = .ok (.iconst 0, 1) := by decide +kernel
theorem dX11_fair_15 : decode cX11_fair 15 = .ok (.invokevirtual 171, 3) := by decide +kernel
theorem dX11_fair_18 : decode cX11_fair 18 = .ok (.iconst 1, 1) := by decide +kernel
theorem dX11_fair_19 : decode cX11_fair 19 = .ok (.aload_n 0, 1) := by decide +kernel
theorem dX11_fair_20 : decode cX11_fair 20 = .ok (.getfield 25, 3) := by decide +kernel
theorem dX11_fair_23 : decode cX11_fair 23 = .ok (.getfield 178, 3) := by decide +kernel
theorem dX11_fair_26 : decode cX11_fair 26 = .ok (.ishl, 1) := by decide +kernel
theorem dX11_fair_27 : decode cX11_fair 27 = .ok (.iconst 1, 1) := by decide +kernel
theorem dX11_fair_28 : decode cX11_fair 28 = .ok (.isub, 1) := by decide +kernel
theorem dX11_fair_29 : decode cX11_fair 29 = .ok (.istore_n 2, 1) := by decide +kernel
theorem dX11_fair_30 : decode cX11_fair 30 = .ok (.iconst 0, 1) := by decide +kernel
theorem dX11_fair_31 : decode cX11_fair 31 = .ok (.istore_n 3, 1) := by decide +kernel
theorem dX11_fair_32 : decode cX11_fair 32 = .ok (.iconst (-1), 1) := by decide +kernel
theorem dX11_fair_33 : decode cX11_fair 33 = .ok (.istore 4, 2) := by decide +kernel
theorem dX11_fair_35 : decode cX11_fair 35 = .ok (.iload_n 2, 1) := by decide +kernel
theorem dX11_fair_36 : decode cX11_fair 36 = .ok (.istore 5, 2) := by decide +kernel
theorem dX11_fair_38 : decode cX11_fair 38 = .ok (.iload 5, 2) := by decide +kernel
theorem dX11_fair_40 : decode cX11_fair 40 = .ok (.ifCond .lt 66, 3) := by decide +kernel
theorem dX11_fair_43 : decode cX11_fair 43 = .ok (.iload_n 2, 1) := by decide +kernel
theorem dX11_fair_44 : decode cX11_fair 44 = .ok (.iload 5, 2) := by decide +kernel
theorem dX11_fair_46 : decode cX11_fair 46 = .ok (.iconst (-1), 1) := by decide +kernel
theorem dX11_fair_47 : decode cX11_fair 47 = .ok (.ixor, 1) := by decide +kernel
theorem dX11_fair_48 : decode cX11_fair 48 = .ok (.iand, 1) := by decide +kernel
theorem dX11_fair_49 : decode cX11_fair 49 = .ok (.istore 6, 2) := by decide +kernel
theorem dX11_fair_51 : decode cX11_fair 51 = .ok (.aload_n 0, 1) := by decide +kernel
theorem dX11_fair_52 : decode cX11_fair 52 = .ok (.getfield 25, 3) := by decide +kernel
theorem dX11_fair_55 : decode cX11_fair 55 = .ok (.iload 5, 2) := by decide +kernel
theorem dX11_fair_57 : decode cX11_fair 57 = .ok (.invokevirtual 281, 3) := by decide +kernel
theorem dX11_fair_60 : decode cX11_fair 60 = .ok (.aload_n 0, 1) := by decide +kernel
theorem dX11_fair_61 : decode cX11_fair 61 = .ok (.getfield 25, 3) := by decide +kernel
theorem dX11_fair_64 : decode cX11_fair 64 = .ok (.iload 6, 2) := by decide +kernel
theorem dX11_fair_66 : decode cX11_fair 66 = .ok (.invokevirtual 281, 3) := by decide +kernel
theorem dX11_fair_69 : decode cX11_fair 69 = .ok (.if_icmp .lt 31, 3) := by decide +kernel
theorem dX11_fair_72 : decode cX11_fair 72 = .ok (.aload_n 0, 1) := by decide +kernel
theorem dX11_fair_73 : decode cX11_fair 73 = .ok (.getfield 25, 3) := by decide +kernel
theorem dX11_fair_76 : decode cX11_fair 76 = .ok (.iload 6, 2) := by decide +kernel
theorem dX11_fair_78 : decode cX11_fair 78 = .ok (.invokevirtual 284, 3) := by decide +kernel
theorem dX11_fair_81 : decode cX11_fair 81 = .ok (.aload_n 0, 1) := by decide +kernel
theorem dX11_fair_82 : decode cX11_fair 82 = .ok (.getfield 25, 3) := by decide +kernel
theorem dX11_fair_85 : decode cX11_fair 85 = .ok (.iload 5, 2) := by decide +kernel
theorem dX11_fair_87 : decode cX11_fair 87 = .ok (.invokevirtual 284, 3) := by decide +kernel
theorem dX11_fair_90 : decode cX11_fair 90 = .ok (.if_icmp .lt 10, 3) := by decide +kernel
theorem dX11_fair_93 : decode cX11_fair 93 = .ok (.iinc 3 1, 3) := by decide +kernel
theorem dX11_fair_96 : decode cX11_fair 96 = .ok (.iload 5, 2) := by decide +kernel
theorem dX11_fair_98 : decode cX11_fair 98 = .ok (.istore 4, 2) := by decide +kernel
theorem dX11_fair_100 : decode cX11_fair 100 = .ok (.iinc 5 (-1), 3) := by decide +kernel
theorem dX11_fair_103 : decode cX11_fair 103 = .ok (.goto (-65), 3) := by decide +kernel
theorem dX11_fair_106 : decode cX11_fair 106 = .ok (.iload_n 1, 1) := by decide +kernel
theorem dX11_fair_107 : decode cX11_fair 107 = .ok (.ifCond .ne 7, 3) := by decide +kernel
theorem dX11_fair_110 : decode cX11_fair 110 = .ok (.iload_n 3, 1) := by decide +kernel
theorem dX11_fair_111 : decode cX11_fair 111 = .ok (.goto 5, 3) := by decide +kernel
theorem dX11_fair_114 : decode cX11_fair 114 = .ok (.iload 4, 2) := by decide +kernel
theorem dX11_fair_116 : decode cX11_fair 116 = .ok (.ireturn, 1) := by decide +kernel
set_option maxRecDepth 100000 in
theorem T_X11_fair_0 {G : GE} {d C S : Nat} {ρ : Rs} : Snd G MX11_fair (d + 1) C S 0 ρ (s_aload 0 (s_iload 1 (s_if_eq (s_iconst 1 (s_callV G d MX11_need 1 10 (s_iconst 1 (s_aload 0 (s_getR 10 3 (s_getI 0 2 (s_ishl (s_iconst 1 (s_isub (s_istore 2 (s_iconst 0 (s_istore 3 (s_iconst (-1) (s_istore 4 (s_iload 2 (s_istore 5 (fun L st h => E G MX11_fair (d + 1) C S 38 L st h ρ))))))))))))))))) (s_iload 1 (s_iconst 1 (s_ic_ne (s_iconst 0 (s_callV G d MX11_need 1 10 (s_iconst 1 (s_aload 0 (s_getR 10 3 (s_getI 0 2 (s_ishl (s_iconst 1 (s_isub (s_istore 2 (s_iconst 0 (s_istore 3 (s_iconst (-1) (s_istore 4 (s_iload 2 (s_istore 5 (fun L st h => E G MX11_fair (d + 1) C S 38 L st h ρ))))))))))))))))) (s_iconst 1 (s_callV G d MX11_need 1 10 (s_iconst 1 (s_aload 0 (s_getR 10 3 (s_getI 0 2 (s_ishl (s_iconst 1 (s_isub (s_istore 2 (s_iconst 0 (s_istore 3 (s_iconst (-1) (s_istore 4 (s_iload 2 (s_istore 5 (fun L st h => E G MX11_fair (d + 1) C S 38 L st h ρ))))))))))))))))))))))) := (e_aload_n dX11_fair_0 rfl (e_iload_n dX11_fair_1 rfl (e_if_eq (tgt := 10) dX11_fair_2 (by decide) (e_iconst (v := 1) dX11_fair_10 (by decide) (e_goto (tgt := 15) dX11_fair_11 (by decide) (e_callV cl_10 cal_X11_need q_715 q_717 q_11 dX11_fair_15 (e_iconst (v := 1) dX11_fair_18 (by decide) (e_aload_n dX11_fair_19 rfl (e_getR rfl cl_10 (by decide) rfl q_431 dX11_fair_20 (e_getIN rfl cl_0 (by decide) rfl q_195 dX11_fair_23 (e_ishl dX11_fair_26 (e_iconst (v := 1) dX11_fair_27 (by decide) (e_isub dX11_fair_28 (e_istore_n dX11_fair_29 rfl (by decide) (e_iconst (v := 0) dX11_fair_30 (by decide) (e_istore_n dX11_fair_31 rfl (by decide) (e_iconst (v := (-1)) dX11_fair_32 (by decide) (e_istore dX11_fair_33 (by decide) (e_iload_n dX11_fair_35 rfl (e_istore dX11_fair_36 (by decide) (fun _ _ _ h9 => h9)))))))))))))))))) (e_iload_n dX11_fair_5 rfl (e_iconst (v := 1) dX11_fair_6 (by decide) (e_ic_ne (tgt := 14) dX11_fair_7 (by decide) (e_iconst (v := 0) dX11_fair_14 (by decide) (e_callV cl_10 cal_X11_need q_715 q_717 q_11 dX11_fair_15 (e_iconst (v := 1) dX11_fair_18 (by decide) (e_aload_n dX11_fair_19 rfl (e_getR rfl cl_10 (by decide) rfl q_431 dX11_fair_20 (e_getIN rfl cl_0 (by decide) rfl q_195 dX11_fair_23 (e_ishl dX11_fair_26 (e_iconst (v := 1) dX11_fair_27 (by decide) (e_isub dX11_fair_28 (e_istore_n dX11_fair_29 rfl (by decide) (e_iconst (v := 0) dX11_fair_30 (by decide) (e_istore_n dX11_fair_31 rfl (by decide) (e_iconst (v := (-1)) dX11_fair_32 (by decide) (e_istore dX11_fair_33 (by decide) (e_iload_n dX11_fair_35 rfl (e_istore dX11_fair_36 (by decide) (fun _ _ _ h9 => h9))))))))))))))))) (e_iconst (v := 1) dX11_fair_10 (by decide) (e_goto (tgt := 15) dX11_fair_11 (by decide) (e_callV cl_10 cal_X11_need q_715 q_717 q_11 dX11_fair_15 (e_iconst (v := 1) dX11_fair_18 (by decide) (e_aload_n dX11_fair_19 rfl (e_getR rfl cl_10 (by decide) rfl q_431 dX11_fair_20 (e_getIN rfl cl_0 (by decide) rfl q_195 dX11_fair_23 (e_ishl dX11_fair_26 (e_iconst (v := 1) dX11_fair_27 (by decide) (e_isub dX11_fair_28 (e_istore_n dX11_fair_29 rfl (by decide) (e_iconst (v := 0) dX11_fair_30 (by decide) (e_istore_n dX11_fair_31 rfl (by decide) (e_iconst (v := (-1)) dX11_fair_32 (by decide) (e_istore dX11_fair_33 (by decide) (e_iload_n dX11_fair_35 rfl (e_istore dX11_fair_36 (by decide) (fun _ _ _ h9 => h9))))))))))))))))))))))))
set_option maxRecDepth 100000 in
theorem T_X11_fair_38 {G : GE} {d C S : Nat} {ρ : Rs} : Snd G MX11_fair (d + 1) C S 38 ρ (s_iload 5 (s_if_lt (s_iload 1 (s_if_ne (s_iload 4 (s_ireturn ρ)) (s_iload 3 (s_ireturn ρ)))) (s_iload 2 (s_iload 5 (s_iconst (-1) (s_ixor (s_iand (s_istore 6 (s_aload 0 (s_getR 10 3 (s_iload 5 (s_callV G d MX0_worthToOne 1 0 (s_aload 0 (s_getR 10 3 (s_iload 6 (s_callV G d MX0_worthToOne 1 0 (s_ic_lt (s_iinc 5 (-1) (fun L st h => E G MX11_fair (d + 1) C S 38 L st h ρ)) (s_aload 0 (s_getR 10 3 (s_iload 6 (s_callV G d MX0_worthToOther 1 0 (s_aload 0 (s_getR 10 3 (s_iload 5 (s_callV G d MX0_worthToOther 1 0 (s_ic_lt (s_iinc 5 (-1) (fun L st h => E G MX11_fair (d + 1) C S 38 L st h ρ)) (s_iinc 3 1 (s_iload 5 (s_istore 4 (s_iinc 5 (-1) (fun L st h => E G MX11_fair (d + 1) C S 38 L st h ρ))))))))))))))))))))))))))))))) := (e_iload dX11_fair_38 (e_if_lt (tgt := 106) dX11_fair_40 (by decide) (e_iload_n dX11_fair_106 rfl (e_if_ne (tgt := 114) dX11_fair_107 (by decide) (e_iload dX11_fair_114 (e_ireturn rfl dX11_fair_116)) (e_iload_n dX11_fair_110 rfl (e_goto (tgt := 116) dX11_fair_111 (by decide) (e_ireturn rfl dX11_fair_116))))) (e_iload_n dX11_fair_43 rfl (e_iload dX11_fair_44 (e_iconst (v := (-1)) dX11_fair_46 (by decide) (e_ixor dX11_fair_47 (e_iand dX11_fair_48 (e_istore dX11_fair_49 (by decide) (e_aload_n dX11_fair_51 rfl (e_getR rfl cl_10 (by decide) rfl q_431 dX11_fair_52 (e_iload dX11_fair_55 (e_callV cl_0 cal_X0_worthToOne q_636 q_637 q_638 dX11_fair_57 (e_aload_n dX11_fair_60 rfl (e_getR rfl cl_10 (by decide) rfl q_431 dX11_fair_61 (e_iload dX11_fair_64 (e_callV cl_0 cal_X0_worthToOne q_636 q_637 q_638 dX11_fair_66 (e_ic_lt (tgt := 100) dX11_fair_69 (by decide) (e_iinc (v := (-1)) dX11_fair_100 (by decide) (by decide) (e_goto (tgt := 38) dX11_fair_103 (by decide) (fun _ _ _ h9 => h9))) (e_aload_n dX11_fair_72 rfl (e_getR rfl cl_10 (by decide) rfl q_431 dX11_fair_73 (e_iload dX11_fair_76 (e_callV cl_0 cal_X0_worthToOther q_644 q_645 q_646 dX11_fair_78 (e_aload_n dX11_fair_81 rfl (e_getR rfl cl_10 (by decide) rfl q_431 dX11_fair_82 (e_iload dX11_fair_85 (e_callV cl_0 cal_X0_worthToOther q_644 q_645 q_646 dX11_fair_87 (e_ic_lt (tgt := 100) dX11_fair_90 (by decide) (e_iinc (v := (-1)) dX11_fair_100 (by decide) (by decide) (e_goto (tgt := 38) dX11_fair_103 (by decide) (fun _ _ _ h9 => h9))) (e_iinc (v := 1) dX11_fair_93 (by decide) (by decide) (e_iload dX11_fair_96 (e_istore dX11_fair_98 (by decide) (e_iinc (v := (-1)) dX11_fair_100 (by decide) (by decide) (e_goto (tgt := 38) dX11_fair_103 (by decide) (fun _ _ _ h9 => h9))))))))))))))))))))))))))))))))
set_option maxRecDepth 100000 in
theorem TX_X11_fair_0 {G : GE} {d C S : Nat} {ρ : Rs} : Snd G MX11_fair (d + 1) (C + 1) (S + 6) 0 ρ (s_aload 0 (s_iload 1 (s_if_eq (s_iconst 1 (s_callVB G d MX11_need 1 10 ρ (s_iconst 1 (s_aload 0 (s_getR 10 3 (s_getI 0 2 (s_ishl (s_iconst 1 (s_isub (s_istore 2 (s_iconst 0 (s_istore 3 (s_iconst (-1) (s_istore 4 (s_iload 2 (s_istore 5 (fun L st h => E G MX11_fair (d + 1) (C + 1) (S + 6) 38 L st h ρ))))))))))))))))) (s_iload 1 (s_iconst 1 (s_ic_ne (s_iconst 0 (s_callVB G d MX11_need 1 10 ρ (s_iconst 1 (s_aload 0 (s_getR 10 3 (s_getI 0 2 (s_ishl (s_iconst 1 (s_isub (s_istore 2 (s_iconst 0 (s_istore 3 (s_iconst (-1) (s_istore 4 (s_iload 2 (s_istore 5 (fun L st h => E G MX11_fair (d + 1) (C + 1) (S + 6) 38 L st h ρ))))))))))))))))) (s_iconst 1 (s_callVB G d MX11_need 1 10 ρ (s_iconst 1 (s_aload 0 (s_getR 10 3 (s_getI 0 2 (s_ishl (s_iconst 1 (s_isub (s_istore 2 (s_iconst 0 (s_istore 3 (s_iconst (-1) (s_istore 4 (s_iload 2 (s_istore 5 (fun L st h => E G MX11_fair (d + 1) (C + 1) (S + 6) 38 L st h ρ))))))))))))))))))))))) := (e_aload_n dX11_fair_0 rfl (e_iload_n dX11_fair_1 rfl (e_if_eq (tgt := 10) dX11_fair_2 (by decide) (e_iconst (v := 1) dX11_fair_10 (by decide) (e_goto (tgt := 15) dX11_fair_11 (by decide) (e_callVB rfl cl_10 cal_X11_need q_715 q_717 q_11 dX11_fair_15 (e_iconst (v := 1) dX11_fair_18 (by decide) (e_aload_n dX11_fair_19 rfl (e_getR rfl cl_10 (by decide) rfl q_431 dX11_fair_20 (e_getIN rfl cl_0 (by decide) rfl q_195 dX11_fair_23 (e_ishl dX11_fair_26 (e_iconst (v := 1) dX11_fair_27 (by decide) (e_isub dX11_fair_28 (e_istore_n dX11_fair_29 rfl (by decide) (e_iconst (v := 0) dX11_fair_30 (by decide) (e_istore_n dX11_fair_31 rfl (by decide) (e_iconst (v := (-1)) dX11_fair_32 (by decide) (e_istore dX11_fair_33 (by decide) (e_iload_n dX11_fair_35 rfl (e_istore dX11_fair_36 (by decide) (fun _ _ _ h9 => h9)))))))))))))))))) (e_iload_n dX11_fair_5 rfl (e_iconst (v := 1) dX11_fair_6 (by decide) (e_ic_ne (tgt := 14) dX11_fair_7 (by decide) (e_iconst (v := 0) dX11_fair_14 (by decide) (e_callVB rfl cl_10 cal_X11_need q_715 q_717 q_11 dX11_fair_15 (e_iconst (v := 1) dX11_fair_18 (by decide) (e_aload_n dX11_fair_19 rfl (e_getR rfl cl_10 (by decide) rfl q_431 dX11_fair_20 (e_getIN rfl cl_0 (by decide) rfl q_195 dX11_fair_23 (e_ishl dX11_fair_26 (e_iconst (v := 1) dX11_fair_27 (by decide) (e_isub dX11_fair_28 (e_istore_n dX11_fair_29 rfl (by decide) (e_iconst (v := 0) dX11_fair_30 (by decide) (e_istore_n dX11_fair_31 rfl (by decide) (e_iconst (v := (-1)) dX11_fair_32 (by decide) (e_istore dX11_fair_33 (by decide) (e_iload_n dX11_fair_35 rfl (e_istore dX11_fair_36 (by decide) (fun _ _ _ h9 => h9))))))))))))))))) (e_iconst (v := 1) dX11_fair_10 (by decide) (e_goto (tgt := 15) dX11_fair_11 (by decide) (e_callVB rfl cl_10 cal_X11_need q_715 q_717 q_11 dX11_fair_15 (e_iconst (v := 1) dX11_fair_18 (by decide) (e_aload_n dX11_fair_19 rfl (e_getR rfl cl_10 (by decide) rfl q_431 dX11_fair_20 (e_getIN rfl cl_0 (by decide) rfl q_195 dX11_fair_23 (e_ishl dX11_fair_26 (e_iconst (v := 1) dX11_fair_27 (by decide) (e_isub dX11_fair_28 (e_istore_n dX11_fair_29 rfl (by decide) (e_iconst (v := 0) dX11_fair_30 (by decide) (e_istore_n dX11_fair_31 rfl (by decide) (e_iconst (v := (-1)) dX11_fair_32 (by decide) (e_istore dX11_fair_33 (by decide) (e_iload_n dX11_fair_35 rfl (e_istore dX11_fair_36 (by decide) (fun _ _ _ h9 => h9))))))))))))))))))))))))
set_option maxRecDepth 100000 in
theorem TX_X11_fair_38 {G : GE} {d C S : Nat} {ρ : Rs} : Snd G MX11_fair (d + 1) (C + 1) (S + 6) 38 ρ (s_iload 5 (s_if_lt (s_iload 1 (s_if_ne (s_iload 4 (s_ireturn ρ)) (s_iload 3 (s_ireturn ρ)))) (s_iload 2 (s_iload 5 (s_iconst (-1) (s_ixor (s_iand (s_istore 6 (s_aload 0 (s_getR 10 3 (s_iload 5 (s_callV G d MX0_worthToOne 1 0 (s_aload 0 (s_getR 10 3 (s_iload 6 (s_callV G d MX0_worthToOne 1 0 (s_ic_lt (s_iinc 5 (-1) (fun L st h => E G MX11_fair (d + 1) (C + 1) (S + 6) 38 L st h ρ)) (s_aload 0 (s_getR 10 3 (s_iload 6 (s_callV G d MX0_worthToOther 1 0 (s_aload 0 (s_getR 10 3 (s_iload 5 (s_callV G d MX0_worthToOther 1 0 (s_ic_lt (s_iinc 5 (-1) (fun L st h => E G MX11_fair (d + 1) (C + 1) (S + 6) 38 L st h ρ)) (s_iinc 3 1 (s_iload 5 (s_istore 4 (s_iinc 5 (-1) (fun L st h => E G MX11_fair (d + 1) (C + 1) (S + 6) 38 L st h ρ))))))))))))))))))))))))))))))) := (e_iload dX11_fair_38 (e_if_lt (tgt := 106) dX11_fair_40 (by decide) (e_iload_n dX11_fair_106 rfl (e_if_ne (tgt := 114) dX11_fair_107 (by decide) (e_iload dX11_fair_114 (e_ireturn rfl dX11_fair_116)) (e_iload_n dX11_fair_110 rfl (e_goto (tgt := 116) dX11_fair_111 (by decide) (e_ireturn rfl dX11_fair_116))))) (e_iload_n dX11_fair_43 rfl (e_iload dX11_fair_44 (e_iconst (v := (-1)) dX11_fair_46 (by decide) (e_ixor dX11_fair_47 (e_iand dX11_fair_48 (e_istore dX11_fair_49 (by decide) (e_aload_n dX11_fair_51 rfl (e_getR rfl cl_10 (by decide) rfl q_431 dX11_fair_52 (e_iload dX11_fair_55 (e_callV cl_0 cal_X0_worthToOne q_636 q_637 q_638 dX11_fair_57 (e_aload_n dX11_fair_60 rfl (e_getR rfl cl_10 (by decide) rfl q_431 dX11_fair_61 (e_iload dX11_fair_64 (e_callV cl_0 cal_X0_worthToOne q_636 q_637 q_638 dX11_fair_66 (e_ic_lt (tgt := 100) dX11_fair_69 (by decide) (e_iinc (v := (-1)) dX11_fair_100 (by decide) (by decide) (e_goto (tgt := 38) dX11_fair_103 (by decide) (fun _ _ _ h9 => h9))) (e_aload_n dX11_fair_72 rfl (e_getR rfl cl_10 (by decide) rfl q_431 dX11_fair_73 (e_iload dX11_fair_76 (e_callV cl_0 cal_X0_worthToOther q_644 q_645 q_646 dX11_fair_78 (e_aload_n dX11_fair_81 rfl (e_getR rfl cl_10 (by decide) rfl q_431 dX11_fair_82 (e_iload dX11_fair_85 (e_callV cl_0 cal_X0_worthToOther q_644 q_645 q_646 dX11_fair_87 (e_ic_lt (tgt := 100) dX11_fair_90 (by decide) (e_iinc (v := (-1)) dX11_fair_100 (by decide) (by decide) (e_goto (tgt := 38) dX11_fair_103 (by decide) (fun _ _ _ h9 => h9))) (e_iinc (v := 1) dX11_fair_93 (by decide) (by decide) (e_iload dX11_fair_96 (e_istore dX11_fair_98 (by decide) (e_iinc (v := (-1)) dX11_fair_100 (by decide) (by decide) (e_goto (tgt := 38) dX11_fair_103 (by decide) (fun _ _ _ h9 => h9))))))))))))))))))))))))))))))))
theorem dX11_even_0 : decode cX11_even 0 = .ok (.iconst 1, 1) := by decide +kernel
theorem dX11_even_1 : decode cX11_even 1 = .ok (.aload_n 0, 1) := by decide +kernel
theorem dX11_even_2 : decode cX11_even 2 = .ok (.getfield 25, 3) := by decide +kernel
theorem dX11_even_5 : decode cX11_even 5 = .ok (.getfield 178, 3) := by decide +kernel
theorem dX11_even_8 : decode cX11_even 8 = .ok (.ishl, 1) := by decide +kernel
theorem dX11_even_9 : decode cX11_even 9 = .ok (.iconst 1, 1) := by decide +kernel
theorem dX11_even_10 : decode cX11_even 10 = .ok (.isub, 1) := by decide +kernel
theorem dX11_even_11 : decode cX11_even 11 = .ok (.istore_n 1, 1) := by decide +kernel
theorem dX11_even_12 : decode cX11_even 12 = .ok (.iconst 0, 1) := by decide +kernel
theorem dX11_even_13 : decode cX11_even 13 = .ok (.istore_n 2, 1) := by decide +kernel
theorem dX11_even_14 : decode cX11_even 14 = .ok (.iconst 0, 1) := by decide +kernel
theorem dX11_even_15 : decode cX11_even 15 = .ok (.istore_n 3, 1) := by decide +kernel
theorem dX11_even_16 : decode cX11_even 16 = .ok (.iload_n 3, 1) := by decide +kernel
theorem dX11_even_17 : decode cX11_even 17 = .ok (.iload_n 1, 1) := by decide +kernel
theorem dX11_even_18 : decode cX11_even 18 = .ok (.if_icmp .gt 41, 3) := by decide +kernel
theorem dX11_even_21 : decode cX11_even 21 = .ok (.aload_n 0, 1) := by decide +kernel
theorem dX11_even_22 : decode cX11_even 22 = .ok (.getfield 25, 3) := by decide +kernel
theorem dX11_even_25 : decode cX11_even 25 = .ok (.iload_n 3, 1) := by decide +kernel
theorem dX11_even_26 : decode cX11_even 26 = .ok (.invokevirtual 281, 3) := by decide +kernel
theorem dX11_even_29 : decode cX11_even 29 = .ok (.aload_n 0, 1) := by decide +kernel
theorem dX11_even_30 : decode cX11_even 30 = .ok (.getfield 25, 3) := by decide +kernel
theorem dX11_even_33 : decode cX11_even 33 = .ok (.iload_n 1, 1) := by decide +kernel
theorem dX11_even_34 : decode cX11_even 34 = .ok (.iload_n 3, 1) := by decide +kernel
theorem dX11_even_35 : decode cX11_even 35 = .ok (.iconst (-1), 1) := by decide +kernel
theorem dX11_even_36 : decode cX11_even 36 = .ok (.ixor, 1) := by decide +kernel
theorem dX11_even_37 : decode cX11_even 37 = .ok (.iand, 1) := by decide +kernel
theorem dX11_even_38 : decode cX11_even 38 = .ok (.invokevirtual 284, 3) := by decide +kernel
theorem dX11_even_41 : decode cX11_even 41 = .ok (.invokestatic 287, 3) := by decide +kernel
theorem dX11_even_44 : decode cX11_even 44 = .ok (.istore 4, 2) := by decide +kernel
theorem dX11_even_46 : decode cX11_even 46 = .ok (.iload_n 2, 1) := by decide +kernel
theorem dX11_even_47 : decode cX11_even 47 = .ok (.iload 4, 2) := by decide +kernel
theorem dX11_even_49 : decode cX11_even 49 = .ok (.invokestatic 292, 3) := by decide +kernel
theorem dX11_even_52 : decode cX11_even 52 = .ok (.istore_n 2, 1) := by decide +kernel
theorem dX11_even_53 : decode cX11_even 53 = .ok (.iinc 3 1, 3) := by decide +kernel
theorem dX11_even_56 : decode cX11_even 56 = .ok (.goto (-40), 3) := by decide +kernel
theorem dX11_even_59 : decode cX11_even 59 = .ok (.iload_n 2, 1) := by decide +kernel
theorem dX11_even_60 : decode cX11_even 60 = .ok (.ireturn, 1) := by decide +kernel
set_option maxRecDepth 100000 in
theorem T_X11_even_0 {G : GE} {d C S : Nat} {ρ : Rs} : Snd G MX11_even (d + 1) C S 0 ρ (s_iconst 1 (s_aload 0 (s_getR 10 3 (s_getI 0 2 (s_ishl (s_iconst 1 (s_isub (s_istore 1 (s_iconst 0 (s_istore 2 (s_iconst 0 (s_istore 3 (fun L st h => E G MX11_even (d + 1) C S 16 L st h ρ))))))))))))) := (e_iconst (v := 1) dX11_even_0 (by decide) (e_aload_n dX11_even_1 rfl (e_getR rfl cl_10 (by decide) rfl q_431 dX11_even_2 (e_getIN rfl cl_0 (by decide) rfl q_195 dX11_even_5 (e_ishl dX11_even_8 (e_iconst (v := 1) dX11_even_9 (by decide) (e_isub dX11_even_10 (e_istore_n dX11_even_11 rfl (by decide) (e_iconst (v := 0) dX11_even_12 (by decide) (e_istore_n dX11_even_13 rfl (by decide) (e_iconst (v := 0) dX11_even_14 (by decide) (e_istore_n dX11_even_15 rfl (by decide) (fun _ _ _ h9 => h9)))))))))))))
set_option maxRecDepth 100000 in
theorem T_X11_even_16 {G : GE} {d C S : Nat} {ρ : Rs} : Snd G MX11_even (d + 1) C S 16 ρ (s_iload 3 (s_iload 1 (s_ic_gt (s_iload 2 (s_ireturn ρ)) (s_aload 0 (s_getR 10 3 (s_iload 3 (s_callV G d MX0_worthToOne 1 0 (s_aload 0 (s_getR 10 3 (s_iload 1 (s_iload 3 (s_iconst (-1) (s_ixor (s_iand (s_callV G d MX0_worthToOther 1 0 (s_min (s_istore 4 (s_iload 2 (s_iload 4 (s_max (s_istore 2 (s_iinc 3 1 (fun L st h => E G MX11_even (d + 1) C S 16 L st h ρ))))))))))))))))))))))) := (e_iload_n dX11_even_16 rfl (e_iload_n dX11_even_17 rfl (e_ic_gt (tgt := 59) dX11_even_18 (by decide) (e_iload_n dX11_even_59 rfl (e_ireturn rfl dX11_even_60)) (e_aload_n dX11_even_21 rfl (e_getR rfl cl_10 (by decide) rfl q_431 dX11_even_22 (e_iload_n dX11_even_25 rfl (e_callV cl_0 cal_X0_worthToOne q_636 q_637 q_638 dX11_even_26 (e_aload_n dX11_even_29 rfl (e_getR rfl cl_10 (by decide) rfl q_431 dX11_even_30 (e_iload_n dX11_even_33 rfl (e_iload_n dX11_even_34 rfl (e_iconst (v := (-1)) dX11_even_35 (by decide) (e_ixor dX11_even_36 (e_iand dX11_even_37 (e_callV cl_0 cal_X0_worthToOther q_644 q_645 q_646 dX11_even_38 (e_min q_648 q_552 q_127 q_553 dX11_even_41 (e_istore dX11_even_44 (by decide) (e_iload_n dX11_even_46 rfl (e_iload dX11_even_47 (e_max q_649 q_555 q_127 q_556 dX11_even_49 (e_istore_n dX11_even_52 rfl (by decide) (e_iinc (v := 1) dX11_even_53 (by decide) (by decide) (e_goto (tgt := 16) dX11_even_56 (by decide) (fun _ _ _ h9 => h9))))))))))))))))))))))))
