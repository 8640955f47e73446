theorem dX12_init_0 : decode cX12_init 0 = .ok (.aload_n 0, 1) := by decide +kernel
theorem dX12_init_1 : decode cX12_init 1 = .ok (.invokespecial 1, 3) := by decide +kernel
theorem dX12_init_4 : decode cX12_init 4 = .ok (.aload_n 0, 1) := by decide +kernel
theorem dX12_init_5 : decode cX12_init 5 = .ok (.iconst (-1), 1) := by decide +kernel
theorem dX12_init_6 : decode cX12_init 6 = .ok (.putfield 9, 3) := by decide +kernel
theorem dX12_init_9 : decode cX12_init 9 = .ok (.aload_n 0, 1) := by decide +kernel
theorem dX12_init_10 : decode cX12_init 10 = .ok (.sipush 600, 3) := by decide +kernel
theorem dX12_init_13 : decode cX12_init 13 = .ok (.newarray .int, 2) := by decide +kernel
theorem dX12_init_15 : decode cX12_init 15 = .ok (.putfield 13, 3) := by decide +kernel
theorem dX12_init_18 : decode cX12_init 18 = .ok (.aload_n 0, 1) := by decide +kernel
theorem dX12_init_19 : decode cX12_init 19 = .ok (.iconst 3, 1) := by decide +kernel
theorem dX12_init_20 : decode cX12_init 20 = .ok (.newarray .int, 2) := by decide +kernel
theorem dX12_init_22 : decode cX12_init 22 = .ok (.putfield 17, 3) := by decide +kernel
theorem dX12_init_25 : decode cX12_init 25 = .ok (.aload_n 0, 1) := by decide +kernel
theorem dX12_init_26 : decode cX12_init 26 = .ok (.bipush 8, 2) := by decide +kernel
theorem dX12_init_28 : decode cX12_init 28 = .ok (.newarray .int, 2) := by decide +kernel
theorem dX12_init_30 : decode cX12_init 30 = .ok (.putfield 20, 3) := by decide +kernel
theorem dX12_init_33 : decode cX12_init 33 = .ok (.aload_n 0, 1) := by decide +kernel
theorem dX12_init_34 : decode cX12_init 34 = .ok (.bipush 8, 2) := by decide +kernel
theorem dX12_init_36 : decode cX12_init 36 = .ok (.newarray .int, 2) := by decide +kernel
theorem dX12_init_38 : decode cX12_init 38 = .ok (.putfield 23, 3) := by decide +kernel
theorem dX12_init_41 : decode cX12_init 41 = .ok (.aload_n 0, 1) := by decide +kernel
theorem dX12_init_42 : decode cX12_init 42 = .ok (.bipush 10, 2) := by decide +kernel
theorem dX12_init_44 : decode cX12_init 44 = .ok (.iconst 2, 1) := by decide +kernel
theorem dX12_init_45 : decode cX12_init 45 = .ok (.multianewarray 26 2, 4) := by decide +kernel
theorem dX12_init_49 : decode cX12_init 49 = .ok (.putfield 28, 3) := by decide +kernel
theorem dX12_init_52 : decode cX12_init 52 = .ok (.aload_n 0, 1) := by decide +kernel
theorem dX12_init_53 : decode cX12_init 53 = .ok (.bipush 10, 2) := by decide +kernel
theorem dX12_init_55 : decode cX12_init 55 = .ok (.iconst 2, 1) := by decide +kernel
theorem dX12_init_56 : decode cX12_init 56 = .ok (.multianewarray 26 2, 4) := by decide +kernel
theorem dX12_init_60 : decode cX12_init 60 = .ok (.putfield 31, 3) := by decide +kernel
theorem dX12_init_63 : decode cX12_init 63 = .ok (.aload_n 0, 1) := by decide +kernel
theorem dX12_init_64 : decode cX12_init 64 = .ok (.bipush 8, 2) := by decide +kernel
theorem dX12_init_66 : decode cX12_init 66 = .ok (.iconst 4, 1) := by decide +kernel
theorem dX12_init_67 : decode cX12_init 67 = .ok (.multianewarray 26 2, 4) := by decide +kernel
theorem dX12_init_71 : decode cX12_init 71 = .ok (.putfield 34, 3) := by decide +kernel
theorem dX12_init_74 : decode cX12_init 74 = .ok (.aload_n 0, 1) := by decide +kernel
theorem dX12_init_75 : decode cX12_init 75 = .ok (.bipush 8, 2) := by decide +kernel
theorem dX12_init_77 : decode cX12_init 77 = .ok (.iconst 4, 1) := by decide +kernel
theorem dX12_init_78 : decode cX12_init 78 = .ok (.multianewarray 26 2, 4) := by decide +kernel
theorem dX12_init_82 : decode cX12_init 82 = .ok (.putfield 37, 3) := by decide +kernel
theorem dX12_init_85 : decode cX12_init 85 = .ok (.aload_n 0, 1) := by decide +kernel
theorem dX12_init_86 : decode cX12_init 86 = .ok (.bipush 8, 2) := by decide +kernel
theorem dX12_init_88 : decode cX12_init 88 = .ok (.bipush 8, 2) := by decide +kernel
theorem dX12_init_90 : decode cX12_init 90 = .ok (.multianewarray 26 2, 4) := by decide +kernel
theorem dX12_init_94 : decode cX12_init 94 = .ok (.putfield 40, 3) := by decide +kernel
theorem dX12_init_97 : decode cX12_init 97 = .ok (.aload_n 0, 1) := by decide +kernel
theorem dX12_init_98 : decode cX12_init 98 = .ok (.bipush 8, 2) := by decide +kernel
theorem dX12_init_100 : decode cX12_init 100 = .ok (.bipush 8, 2) := by decide +kernel
theorem dX12_init_102 : decode cX12_init 102 = .ok (.multianewarray 26 2, 4) := by decide +kernel
theorem dX12_init_106 : decode cX12_init 106 = .ok (.putfield 43, 3) := by decide +kernel
theorem dX12_init_109 : decode cX12_init 109 = .ok (.aload_n 0, 1) := by decide +kernel
theorem dX12_init_110 : decode cX12_init 110 = .ok (.bipush 8, 2) := by decide +kernel
theorem dX12_init_112 : decode cX12_init 112 = .ok (.bipush 8, 2) := by decide +kernel
theorem dX12_init_114 : decode cX12_init 114 = .ok (.multianewarray 26 2, 4) := by decide +kernel
theorem dX12_init_118 : decode cX12_init 118 = .ok (.putfield 46, 3) := by decide +kernel
theorem dX12_init_121 : decode cX12_init 121 = .ok (.aload_n 0, 1) := by decide +kernel
theorem dX12_init_122 : decode cX12_init 122 = .ok (.bipush 8, 2) := by decide +kernel
theorem dX12_init_124 : decode cX12_init 124 = .ok (.bipush 8, 2) := by decide +kernel
theorem dX12_init_126 : decode cX12_init 126 = .ok (.multianewarray 26 2, 4) := by decide +kernel
theorem dX12_init_130 : decode cX12_init 130 = .ok (.putfield 49, 3) := by decide +kernel
theorem dX12_init_133 : decode cX12_init 133 = .ok (.aload_n 0, 1) := by decide +kernel
theorem dX12_init_134 : decode cX12_init 134 = .ok (.bipush 8, 2) := by decide +kernel
theorem dX12_init_136 : decode cX12_init 136 = .ok (.iconst 2, 1) := by decide +kernel
theorem dX12_init_137 : decode cX12_init 137 = .ok (.multianewarray 26 2, 4) := by decide +kernel
theorem dX12_init_141 : decode cX12_init 141 = .ok (.putfield 52, 3) := by decide +kernel
theorem dX12_init_144 : decode cX12_init 144 = .ok (.aload_n 0, 1) := by decide +kernel
theorem dX12_init_145 : decode cX12_init 145 = .ok (.bipush 8, 2) := by decide +kernel
theorem dX12_init_147 : decode cX12_init 147 = .ok (.iconst 2, 1) := by decide +kernel
theorem dX12_init_148 : decode cX12_init 148 = .ok (.multianewarray 26 2, 4) := by decide +kernel
theorem dX12_init_152 : decode cX12_init 152 = .ok (.putfield 55, 3) := by decide +kernel
theorem dX12_init_155 : decode cX12_init 155 = .ok (.aload_n 0, 1) := by decide +kernel
theorem dX12_init_156 : decode cX12_init 156 = .ok (.sipush 160, 3) := by decide +kernel
theorem dX12_init_159 : decode cX12_init 159 = .ok (.iconst 2, 1) := by decide +kernel
theorem dX12_init_160 : decode cX12_init 160 = .ok (.multianewarray 26 2, 4) := by decide +kernel
theorem dX12_init_164 : decode cX12_init 164 = .ok (.putfield 58, 3) := by decide +kernel
theorem dX12_init_167 : decode cX12_init 167 = .ok (.aload_n 0, 1) := by decide +kernel
theorem dX12_init_168 : decode cX12_init 168 = .ok (.sipush 160, 3) := by decide +kernel
theorem dX12_init_171 : decode cX12_init 171 = .ok (.iconst 2, 1) := by decide +kernel
theorem dX12_init_172 : decode cX12_init 172 = .ok (.multianewarray 26 2, 4) := by decide +kernel
theorem dX12_init_176 : decode cX12_init 176 = .ok (.putfield 61, 3) := by decide +kernel
theorem dX12_init_179 : decode cX12_init 179 = .ok (.aload_n 0, 1) := by decide +kernel
theorem dX12_init_180 : decode cX12_init 180 = .ok (.bipush 8, 2) := by decide +kernel
theorem dX12_init_182 : decode cX12_init 182 = .ok (.iconst 2, 1) := by decide +kernel
theorem dX12_init_183 : decode cX12_init 183 = .ok (.multianewarray 26 2, 4) := by decide +kernel
theorem dX12_init_187 : decode cX12_init 187 = .ok (.putfield 64, 3) := by decide +kernel
theorem dX12_init_190 : decode cX12_init 190 = .ok (.aload_n 0, 1) := by decide +kernel
theorem dX12_init_191 : decode cX12_init 191 = .ok (.bipush 8, 2) := by decide +kernel
theorem dX12_init_193 : decode cX12_init 193 = .ok (.iconst 2, 1) := by decide +kernel
theorem dX12_init_194 : decode cX12_init 194 = .ok (.multianewarray 26 2, 4) := by decide +kernel
theorem dX12_init_198 : decode cX12_init 198 = .ok (.putfield 67, 3) := by decide +kernel
theorem dX12_init_201 : decode cX12_init 201 = .ok (.aload_n 0, 1) := by decide +kernel
theorem dX12_init_202 : decode cX12_init 202 = .ok (.sipush 160, 3) := by decide +kernel
theorem dX12_init_205 : decode cX12_init 205 = .ok (.newarray .int, 2) := by decide +kernel
theorem dX12_init_207 : decode cX12_init 207 = .ok (.putfield 70, 3) := by decide +kernel
theorem dX12_init_210 : decode cX12_init 210 = .ok (.aload_n 0, 1) := by decide +kernel
theorem dX12_init_211 : decode cX12_init 211 = .ok (.bipush 9, 2) := by decide +kernel
theorem dX12_init_213 : decode cX12_init 213 = .ok (.newarray .int, 2) := by decide +kernel
theorem dX12_init_215 : decode cX12_init 215 = .ok (.putfield 73, 3) := by decide +kernel
theorem dX12_init_218 : decode cX12_init 218 = .ok (.aload_n 0, 1) := by decide +kernel
theorem dX12_init_219 : decode cX12_init 219 = .ok (.bipush 80, 2) := by decide +kernel
theorem dX12_init_221 : decode cX12_init 221 = .ok (.iconst 4, 1) := by decide +kernel
theorem dX12_init_222 : decode cX12_init 222 = .ok (.multianewarray 26 2, 4) := by decide +kernel
theorem dX12_init_226 : decode cX12_init 226 = .ok (.putfield 76, 3) := by decide +kernel
theorem dX12_init_229 : decode cX12_init 229 = .ok (.aload_n 0, 1) := by decide +kernel
theorem dX12_init_230 : decode cX12_init 230 = .ok (.bipush 42, 2) := by decide +kernel
theorem dX12_init_232 : decode cX12_init 232 = .ok (.newarray .int, 2) := by decide +kernel
theorem dX12_init_234 : decode cX12_init 234 = .ok (.putfield 79, 3) := by decide +kernel
theorem dX12_init_237 : decode cX12_init 237 = .ok (.aload_n 0, 1) := by decide +kernel
theorem dX12_init_238 : decode cX12_init 238 = .ok (.bipush 42, 2) := by decide +kernel
theorem dX12_init_240 : decode cX12_init 240 = .ok (.newarray .int, 2) := by decide +kernel
theorem dX12_init_242 : decode cX12_init 242 = .ok (.putfield 82, 3) := by decide +kernel
theorem dX12_init_245 : decode cX12_init 245 = .ok (.aload_n 0, 1) := by decide +kernel
theorem dX12_init_246 : decode cX12_init 246 = .ok (.bipush 16, 2) := by decide +kernel
theorem dX12_init_248 : decode cX12_init 248 = .ok (.bipush 42, 2) := by decide +kernel
theorem dX12_init_250 : decode cX12_init 250 = .ok (.multianewarray 26 2, 4) := by decide +kernel
theorem dX12_init_254 : decode cX12_init 254 = .ok (.putfield 85, 3) := by decide +kernel
theorem dX12_init_257 : decode cX12_init 257 = .ok (.aload_n 0, 1) := by decide +kernel
theorem dX12_init_258 : decode cX12_init 258 = .ok (.iconst 3, 1) := by decide +kernel
theorem dX12_init_259 : decode cX12_init 259 = .ok (.sipush 715, 3) := by decide +kernel
theorem dX12_init_262 : decode cX12_init 262 = .ok (.multianewarray 26 2, 4) := by decide +kernel
theorem dX12_init_266 : decode cX12_init 266 = .ok (.putfield 88, 3) := by decide +kernel
theorem dX12_init_269 : decode cX12_init 269 = .ok (.aload_n 0, 1) := by decide +kernel
theorem dX12_init_270 : decode cX12_init 270 = .ok (.bipush 10, 2) := by decide +kernel
theorem dX12_init_272 : decode cX12_init 272 = .ok (.bipush 10, 2) := by decide +kernel
theorem dX12_init_274 : decode cX12_init 274 = .ok (.multianewarray 26 2, 4) := by decide +kernel
theorem dX12_init_278 : decode cX12_init 278 = .ok (.putfield 91, 3) := by decide +kernel
theorem dX12_init_281 : decode cX12_init 281 = .ok (.aload_n 0, 1) := by decide +kernel
theorem dX12_init_282 : decode cX12_init 282 = .ok (.bipush 8, 2) := by decide +kernel
theorem dX12_init_284 : decode cX12_init 284 = .ok (.newarray .int, 2) := by decide +kernel
theorem dX12_init_286 : decode cX12_init 286 = .ok (.putfield 94, 3) := by decide +kernel
theorem dX12_init_289 : decode cX12_init 289 = .ok (.aload_n 0, 1) := by decide +kernel
theorem dX12_init_290 : decode cX12_init 290 = .ok (.bipush 8, 2) := by decide +kernel
theorem dX12_init_292 : decode cX12_init 292 = .ok (.newarray .int, 2) := by decide +kernel
theorem dX12_init_294 : decode cX12_init 294 = .ok (.putfield 97, 3) := by decide +kernel
theorem dX12_init_297 : decode cX12_init 297 = .ok (.aload_n 0, 1) := by decide +kernel
theorem dX12_init_298 : decode cX12_init 298 = .ok (.bipush 8, 2) := by decide +kernel
theorem dX12_init_300 : decode cX12_init 300 = .ok (.newarray .int, 2) := by decide +kernel
theorem dX12_init_302 : decode cX12_init 302 = .ok (.putfield 100, 3) := by decide +kernel
theorem dX12_init_305 : decode cX12_init 305 = .ok (.aload_n 0, 1) := by decide +kernel
theorem dX12_init_306 : decode cX12_init 306 = .ok (.sipush 256, 3) := by decide +kernel
theorem dX12_init_309 : decode cX12_init 309 = .ok (.bipush 10, 2) := by decide +kernel
theorem dX12_init_311 : decode cX12_init 311 = .ok (.multianewarray 26 2, 4) := by decide +kernel
theorem dX12_init_315 : decode cX12_init 315 = .ok (.putfield 103, 3) := by decide +kernel
theorem dX12_init_318 : decode cX12_init 318 = .ok (.aload_n 0, 1) := by decide +kernel
theorem dX12_init_319 : decode cX12_init 319 = .ok (.bipush 21, 2) := by decide +kernel
theorem dX12_init_321 : decode cX12_init 321 = .ok (.newarray .int, 2) := by decide +kernel
theorem dX12_init_323 : decode cX12_init 323 = .ok (.putfield 106, 3) := by decide +kernel
theorem dX12_init_326 : decode cX12_init 326 = .ok (.aload_n 0, 1) := by decide +kernel
theorem dX12_init_327 : decode cX12_init 327 = .ok (.invokevirtual 109, 3) := by decide +kernel
theorem dX12_init_330 : decode cX12_init 330 = .ok (.aload_n 0, 1) := by decide +kernel
theorem dX12_init_331 : decode cX12_init 331 = .ok (.invokevirtual 112, 3) := by decide +kernel
theorem dX12_init_334 : decode cX12_init 334 = .ok (.return_, 1) := by decide +kernel
set_option maxRecDepth 100000 in
theorem T_X12_init_0 {G : GE} {d C S : Nat} {ρ : Rs} : Snd G MX12_init (d + 1) (C + 816) (S + 8563) 0 ρ (s_aload 0 (s_objInit (s_aload 0 (s_iconst (-1) (s_putI 11 3 (s_aload 0 (s_iconst 600 (fun L st h => p1 st (fun x _ => x.toNatClampNeg = 600) ∧ s_newI (s_putR 11 9 (s_aload 0 (s_iconst 3 (fun L st h => p1 st (fun x _ => x.toNatClampNeg = 3) ∧ s_newI (s_putR 11 10 (s_aload 0 (s_iconst 8 (fun L st h => p1 st (fun x _ => x.toNatClampNeg = 8) ∧ s_newI (s_putR 11 11 (s_aload 0 (s_iconst 8 (fun L st h => p1 st (fun x _ => x.toNatClampNeg = 8) ∧ s_newI (s_putR 11 12 (s_aload 0 (s_iconst 10 (s_iconst 2 (s_grid 10 2 (s_putR 11 13 (s_aload 0 (s_iconst 10 (s_iconst 2 (s_grid 10 2 (s_putR 11 14 (s_aload 0 (s_iconst 8 (s_iconst 4 (s_grid 8 4 (s_putR 11 15 (s_aload 0 (s_iconst 8 (s_iconst 4 (s_grid 8 4 (s_putR 11 16 (s_aload 0 (s_iconst 8 (s_iconst 8 (s_grid 8 8 (s_putR 11 17 (s_aload 0 (s_iconst 8 (s_iconst 8 (s_grid 8 8 (s_putR 11 18 (s_aload 0 (s_iconst 8 (s_iconst 8 (s_grid 8 8 (s_putR 11 19 (s_aload 0 (s_iconst 8 (s_iconst 8 (s_grid 8 8 (s_putR 11 20 (s_aload 0 (s_iconst 8 (s_iconst 2 (s_grid 8 2 (s_putR 11 21 (s_aload 0 (s_iconst 8 (s_iconst 2 (s_grid 8 2 (s_putR 11 22 (s_aload 0 (s_iconst 160 (s_iconst 2 (s_grid 160 2 (s_putR 11 25 (s_aload 0 (s_iconst 160 (s_iconst 2 (s_grid 160 2 (s_putR 11 26 (s_aload 0 (s_iconst 8 (s_iconst 2 (s_grid 8 2 (s_putR 11 27 (s_aload 0 (s_iconst 8 (s_iconst 2 (s_grid 8 2 (s_putR 11 28 (s_aload 0 (s_iconst 160 (fun L st h => p1 st (fun x _ => x.toNatClampNeg = 160) ∧ s_newI (s_putR 11 29 (s_aload 0 (s_iconst 9 (fun L st h => p1 st (fun x _ => x.toNatClampNeg = 9) ∧ s_newI (s_putR 11 30 (s_aload 0 (s_iconst 80 (s_iconst 4 (s_grid 80 4 (s_putR 11 31 (s_aload 0 (s_iconst 42 (fun L st h => p1 st (fun x _ => x.toNatClampNeg = 42) ∧ s_newI (s_putR 11 33 (s_aload 0 (s_iconst 42 (fun L st h => p1 st (fun x _ => x.toNatClampNeg = 42) ∧ s_newI (s_putR 11 34 (s_aload 0 (s_iconst 16 (s_iconst 42 (s_grid 16 42 (s_putR 11 35 (s_aload 0 (s_iconst 3 (s_iconst 715 (s_grid 3 715 (s_putR 11 36 (s_aload 0 (s_iconst 10 (s_iconst 10 (s_grid 10 10 (s_putR 11 37 (s_aload 0 (s_iconst 8 (fun L st h => p1 st (fun x _ => x.toNatClampNeg = 8) ∧ s_newI (s_putR 11 45 (s_aload 0 (s_iconst 8 (fun L st h => p1 st (fun x _ => x.toNatClampNeg = 8) ∧ s_newI (s_putR 11 46 (s_aload 0 (s_iconst 8 (fun L st h => p1 st (fun x _ => x.toNatClampNeg = 8) ∧ s_newI (s_putR 11 47 (s_aload 0 (s_iconst 256 (s_iconst 10 (s_grid 256 10 (s_putR 11 50 (s_aload 0 (s_iconst 21 (fun L st h => p1 st (fun x _ => x.toNatClampNeg = 21) ∧ s_newI (s_putR 11 51 (s_aload 0 (s_callV G d MX12_tellsNothing 0 11 (s_aload 0 (s_callV G d MX12_stands 0 11 (s_return ρ)))))) L st h))))))))) L st h)))) L st h)))) L st h))))))))))))))))))) L st h)))) L st h))))))))) L st h)))) L st h)))))))))))))))))))))))))))))))))))))))))))))))))))))))))))))))))))))))))) L st h)))) L st h)))) L st h)))) L st h)))))))) := (e_aload_n dX12_init_0 rfl (e_objInit q_1550 q_141 q_142 dX12_init_1 (e_aload_n dX12_init_4 rfl (e_iconst (v := (-1)) dX12_init_5 (by decide) (e_putI rfl cl_11 (by decide) rfl rfl rfl q_1567 dX12_init_6 (e_aload_n dX12_init_9 rfl (e_sipush (v := 600) dX12_init_10 (by decide) (e_newI (N := 600) q_252 (by decide) dX12_init_13 (e_putRF (ty := .array .int) rfl rfl cl_11 (by decide) rfl rfl rfl (by decide +kernel) (fun _ => ⟨rfl, rfl⟩) q_1573 dX12_init_15 (e_aload_n dX12_init_18 rfl (e_iconst (v := 3) dX12_init_19 (by decide) (e_newI (N := 3) q_252 (by decide) dX12_init_20 (e_putRF (ty := .array .int) rfl rfl cl_11 (by decide) rfl rfl rfl (by decide +kernel) (fun _ => ⟨rfl, rfl⟩) q_1574 dX12_init_22 (e_aload_n dX12_init_25 rfl (e_bipush (v := 8) dX12_init_26 (by decide) (e_newI (N := 8) q_252 (by decide) dX12_init_28 (e_putRF (ty := .array .int) rfl rfl cl_11 (by decide) rfl rfl rfl (by decide +kernel) (fun _ => ⟨rfl, rfl⟩) q_1575 dX12_init_30 (e_aload_n dX12_init_33 rfl (e_bipush (v := 8) dX12_init_34 (by decide) (e_newI (N := 8) q_252 (by decide) dX12_init_36 (e_putRF (ty := .array .int) rfl rfl cl_11 (by decide) rfl rfl rfl (by decide +kernel) (fun _ => ⟨rfl, rfl⟩) q_1576 dX12_init_38 (e_aload_n dX12_init_41 rfl (e_bipush (v := 10) dX12_init_42 (by decide) (e_iconst (v := 2) dX12_init_44 (by decide) (e_gridL (n := 10) (m := 2) (c := 11) (s := 30) (by decide) (by decide) q_1551 q_252 (by decide) (by decide) dX12_init_45 (e_putRF (ty := .array (.array .int)) rfl rfl cl_11 (by decide) rfl rfl rfl (by decide +kernel) (fun _ => ⟨rfl, rfl⟩) q_1577 dX12_init_49 (e_aload_n dX12_init_52 rfl (e_bipush (v := 10) dX12_init_53 (by decide) (e_iconst (v := 2) dX12_init_55 (by decide) (e_gridL (n := 10) (m := 2) (c := 11) (s := 30) (by decide) (by decide) q_1551 q_252 (by decide) (by decide) dX12_init_56 (e_putRF (ty := .array (.array .int)) rfl rfl cl_11 (by decide) rfl rfl rfl (by decide +kernel) (fun _ => ⟨rfl, rfl⟩) q_1578 dX12_init_60 (e_aload_n dX12_init_63 rfl (e_bipush (v := 8) dX12_init_64 (by decide) (e_iconst (v := 4) dX12_init_66 (by decide) (e_gridL (n := 8) (m := 4) (c := 9) (s := 40) (by decide) (by decide) q_1551 q_252 (by decide) (by decide) dX12_init_67 (e_putRF (ty := .array (.array .int)) rfl rfl cl_11 (by decide) rfl rfl rfl (by decide +kernel) (fun _ => ⟨rfl, rfl⟩) q_1579 dX12_init_71 (e_aload_n dX12_init_74 rfl (e_bipush (v := 8) dX12_init_75 (by decide) (e_iconst (v := 4) dX12_init_77 (by decide) (e_gridL (n := 8) (m := 4) (c := 9) (s := 40) (by decide) (by decide) q_1551 q_252 (by decide) (by decide) dX12_init_78 (e_putRF (ty := .array (.array .int)) rfl rfl cl_11 (by decide) rfl rfl rfl (by decide +kernel) (fun _ => ⟨rfl, rfl⟩) q_1580 dX12_init_82 (e_aload_n dX12_init_85 rfl (e_bipush (v := 8) dX12_init_86 (by decide) (e_bipush (v := 8) dX12_init_88 (by decide) (e_gridL (n := 8) (m := 8) (c := 9) (s := 72) (by decide) (by decide) q_1551 q_252 (by decide) (by decide) dX12_init_90 (e_putRF (ty := .array (.array .int)) rfl rfl cl_11 (by decide) rfl rfl rfl (by decide +kernel) (fun _ => ⟨rfl, rfl⟩) q_1581 dX12_init_94 (e_aload_n dX12_init_97 rfl (e_bipush (v := 8) dX12_init_98 (by decide) (e_bipush (v := 8) dX12_init_100 (by decide) (e_gridL (n := 8) (m := 8) (c := 9) (s := 72) (by decide) (by decide) q_1551 q_252 (by decide) (by decide) dX12_init_102 (e_putRF (ty := .array (.array .int)) rfl rfl cl_11 (by decide) rfl rfl rfl (by decide +kernel) (fun _ => ⟨rfl, rfl⟩) q_1582 dX12_init_106 (e_aload_n dX12_init_109 rfl (e_bipush (v := 8) dX12_init_110 (by decide) (e_bipush (v := 8) dX12_init_112 (by decide) (e_gridL (n := 8) (m := 8) (c := 9) (s := 72) (by decide) (by decide) q_1551 q_252 (by decide) (by decide) dX12_init_114 (e_putRF (ty := .array (.array .int)) rfl rfl cl_11 (by decide) rfl rfl rfl (by decide +kernel) (fun _ => ⟨rfl, rfl⟩) q_1583 dX12_init_118 (e_aload_n dX12_init_121 rfl (e_bipush (v := 8) dX12_init_122 (by decide) (e_bipush (v := 8) dX12_init_124 (by decide) (e_gridL (n := 8) (m := 8) (c := 9) (s := 72) (by decide) (by decide) q_1551 q_252 (by decide) (by decide) dX12_init_126 (e_putRF (ty := .array (.array .int)) rfl rfl cl_11 (by decide) rfl rfl rfl (by decide +kernel) (fun _ => ⟨rfl, rfl⟩) q_1584 dX12_init_130 (e_aload_n dX12_init_133 rfl (e_bipush (v := 8) dX12_init_134 (by decide) (e_iconst (v := 2) dX12_init_136 (by decide) (e_gridL (n := 8) (m := 2) (c := 9) (s := 24) (by decide) (by decide) q_1551 q_252 (by decide) (by decide) dX12_init_137 (e_putRF (ty := .array (.array .int)) rfl rfl cl_11 (by decide) rfl rfl rfl (by decide +kernel) (fun _ => ⟨rfl, rfl⟩) q_1585 dX12_init_141 (e_aload_n dX12_init_144 rfl (e_bipush (v := 8) dX12_init_145 (by decide) (e_iconst (v := 2) dX12_init_147 (by decide) (e_gridL (n := 8) (m := 2) (c := 9) (s := 24) (by decide) (by decide) q_1551 q_252 (by decide) (by decide) dX12_init_148 (e_putRF (ty := .array (.array .int)) rfl rfl cl_11 (by decide) rfl rfl rfl (by decide +kernel) (fun _ => ⟨rfl, rfl⟩) q_1586 dX12_init_152 (e_aload_n dX12_init_155 rfl (e_sipush (v := 160) dX12_init_156 (by decide) (e_iconst (v := 2) dX12_init_159 (by decide) (e_gridL (n := 160) (m := 2) (c := 161) (s := 480) (by decide) (by decide) q_1551 q_252 (by decide) (by decide) dX12_init_160 (e_putRF (ty := .array (.array .int)) rfl rfl cl_11 (by decide) rfl rfl rfl (by decide +kernel) (fun _ => ⟨rfl, rfl⟩) q_1589 dX12_init_164 (e_aload_n dX12_init_167 rfl (e_sipush (v := 160) dX12_init_168 (by decide) (e_iconst (v := 2) dX12_init_171 (by decide) (e_gridL (n := 160) (m := 2) (c := 161) (s := 480) (by decide) (by decide) q_1551 q_252 (by decide) (by decide) dX12_init_172 (e_putRF (ty := .array (.array .int)) rfl rfl cl_11 (by decide) rfl rfl rfl (by decide +kernel) (fun _ => ⟨rfl, rfl⟩) q_1590 dX12_init_176 (e_aload_n dX12_init_179 rfl (e_bipush (v := 8) dX12_init_180 (by decide) (e_iconst (v := 2) dX12_init_182 (by decide) (e_gridL (n := 8) (m := 2) (c := 9) (s := 24) (by decide) (by decide) q_1551 q_252 (by decide) (by decide) dX12_init_183 (e_putRF (ty := .array (.array .int)) rfl rfl cl_11 (by decide) rfl rfl rfl (by decide +kernel) (fun _ => ⟨rfl, rfl⟩) q_1591 dX12_init_187 (e_aload_n dX12_init_190 rfl (e_bipush (v := 8) dX12_init_191 (by decide) (e_iconst (v := 2) dX12_init_193 (by decide) (e_gridL (n := 8) (m := 2) (c := 9) (s := 24) (by decide) (by decide) q_1551 q_252 (by decide) (by decide) dX12_init_194 (e_putRF (ty := .array (.array .int)) rfl rfl cl_11 (by decide) rfl rfl rfl (by decide +kernel) (fun _ => ⟨rfl, rfl⟩) q_1592 dX12_init_198 (e_aload_n dX12_init_201 rfl (e_sipush (v := 160) dX12_init_202 (by decide) (e_newI (N := 160) q_252 (by decide) dX12_init_205 (e_putRF (ty := .array .int) rfl rfl cl_11 (by decide) rfl rfl rfl (by decide +kernel) (fun _ => ⟨rfl, rfl⟩) q_1593 dX12_init_207 (e_aload_n dX12_init_210 rfl (e_bipush (v := 9) dX12_init_211 (by decide) (e_newI (N := 9) q_252 (by decide) dX12_init_213 (e_putRF (ty := .array .int) rfl rfl cl_11 (by decide) rfl rfl rfl (by decide +kernel) (fun _ => ⟨rfl, rfl⟩) q_1594 dX12_init_215 (e_aload_n dX12_init_218 rfl (e_bipush (v := 80) dX12_init_219 (by decide) (e_iconst (v := 4) dX12_init_221 (by decide) (e_gridL (n := 80) (m := 4) (c := 81) (s := 400) (by decide) (by decide) q_1551 q_252 (by decide) (by decide) dX12_init_222 (e_putRF (ty := .array (.array .int)) rfl rfl cl_11 (by decide) rfl rfl rfl (by decide +kernel) (fun _ => ⟨rfl, rfl⟩) q_1595 dX12_init_226 (e_aload_n dX12_init_229 rfl (e_bipush (v := 42) dX12_init_230 (by decide) (e_newI (N := 42) q_252 (by decide) dX12_init_232 (e_putRF (ty := .array .int) rfl rfl cl_11 (by decide) rfl rfl rfl (by decide +kernel) (fun _ => ⟨rfl, rfl⟩) q_1597 dX12_init_234 (e_aload_n dX12_init_237 rfl (e_bipush (v := 42) dX12_init_238 (by decide) (e_newI (N := 42) q_252 (by decide) dX12_init_240 (e_putRF (ty := .array .int) rfl rfl cl_11 (by decide) rfl rfl rfl (by decide +kernel) (fun _ => ⟨rfl, rfl⟩) q_1598 dX12_init_242 (e_aload_n dX12_init_245 rfl (e_bipush (v := 16) dX12_init_246 (by decide) (e_bipush (v := 42) dX12_init_248 (by decide) (e_gridL (n := 16) (m := 42) (c := 17) (s := 688) (by decide) (by decide) q_1551 q_252 (by decide) (by decide) dX12_init_250 (e_putRF (ty := .array (.array .int)) rfl rfl cl_11 (by decide) rfl rfl rfl (by decide +kernel) (fun _ => ⟨rfl, rfl⟩) q_1599 dX12_init_254 (e_aload_n dX12_init_257 rfl (e_iconst (v := 3) dX12_init_258 (by decide) (e_sipush (v := 715) dX12_init_259 (by decide) (e_gridL (n := 3) (m := 715) (c := 4) (s := 2148) (by decide) (by decide) q_1551 q_252 (by decide) (by decide) dX12_init_262 (e_putRF (ty := .array (.array .int)) rfl rfl cl_11 (by decide) rfl rfl rfl (by decide +kernel) (fun _ => ⟨rfl, rfl⟩) q_1600 dX12_init_266 (e_aload_n dX12_init_269 rfl (e_bipush (v := 10) dX12_init_270 (by decide) (e_bipush (v := 10) dX12_init_272 (by decide) (e_gridL (n := 10) (m := 10) (c := 11) (s := 110) (by decide) (by decide) q_1551 q_252 (by decide) (by decide) dX12_init_274 (e_putRF (ty := .array (.array .int)) rfl rfl cl_11 (by decide) rfl rfl rfl (by decide +kernel) (fun _ => ⟨rfl, rfl⟩) q_1601 dX12_init_278 (e_aload_n dX12_init_281 rfl (e_bipush (v := 8) dX12_init_282 (by decide) (e_newI (N := 8) q_252 (by decide) dX12_init_284 (e_putRF (ty := .array .int) rfl rfl cl_11 (by decide) rfl rfl rfl (by decide +kernel) (fun _ => ⟨rfl, rfl⟩) q_1609 dX12_init_286 (e_aload_n dX12_init_289 rfl (e_bipush (v := 8) dX12_init_290 (by decide) (e_newI (N := 8) q_252 (by decide) dX12_init_292 (e_putRF (ty := .array .int) rfl rfl cl_11 (by decide) rfl rfl rfl (by decide +kernel) (fun _ => ⟨rfl, rfl⟩) q_1610 dX12_init_294 (e_aload_n dX12_init_297 rfl (e_bipush (v := 8) dX12_init_298 (by decide) (e_newI (N := 8) q_252 (by decide) dX12_init_300 (e_putRF (ty := .array .int) rfl rfl cl_11 (by decide) rfl rfl rfl (by decide +kernel) (fun _ => ⟨rfl, rfl⟩) q_1611 dX12_init_302 (e_aload_n dX12_init_305 rfl (e_sipush (v := 256) dX12_init_306 (by decide) (e_bipush (v := 10) dX12_init_309 (by decide) (e_gridL (n := 256) (m := 10) (c := 257) (s := 2816) (by decide) (by decide) q_1551 q_252 (by decide) (by decide) dX12_init_311 (e_putRF (ty := .array (.array .int)) rfl rfl cl_11 (by decide) rfl rfl rfl (by decide +kernel) (fun _ => ⟨rfl, rfl⟩) q_1614 dX12_init_315 (e_aload_n dX12_init_318 rfl (e_bipush (v := 21) dX12_init_319 (by decide) (e_newI (N := 21) q_252 (by decide) dX12_init_321 (e_putRF (ty := .array .int) rfl rfl cl_11 (by decide) rfl rfl rfl (by decide +kernel) (fun _ => ⟨rfl, rfl⟩) q_1615 dX12_init_323 (e_aload_n dX12_init_326 rfl (e_callV cl_11 cal_X12_tellsNothing q_1553 q_1555 q_51 dX12_init_327 (e_aload_n dX12_init_330 rfl (e_callV cl_11 cal_X12_stands q_1557 q_1559 q_52 dX12_init_331 (e_return rfl dX12_init_334)))))))))))))))))))))))))))))))))))))))))))))))))))))))))))))))))))))))))))))))))))))))))))))))))))))))))))))))))))))))))))))))))))))))))))))))))))))))))
theorem dX12_tellsNothing_0 : decode cX12_tellsNothing 0 = .ok (.iconst 0, 1) := by decide +kernel
theorem dX12_tellsNothing_1 : decode cX12_tellsNothing 1 = .ok (.istore_n 1, 1) := by decide +kernel
theorem dX12_tellsNothing_2 : decode cX12_tellsNothing 2 = .ok (.iload_n 1, 1) := by decide +kernel
theorem dX12_tellsNothing_3 : decode cX12_tellsNothing 3 = .ok (.bipush 8, 2) := by decide +kernel
theorem dX12_tellsNothing_5 : decode cX12_tellsNothing 5 = .ok (.if_icmp .ge 16, 3) := by decide +kernel
theorem dX12_tellsNothing_8 : decode cX12_tellsNothing 8 = .ok (.aload_n 0, 1) := by decide +kernel
theorem dX12_tellsNothing_9 : decode cX12_tellsNothing 9 = .ok (.getfield 20, 3) := by decide +kernel
theorem dX12_tellsNothing_12 : decode cX12_tellsNothing 12 = .ok (.iload_n 1, 1) := by decide +kernel
theorem dX12_tellsNothing_13 : decode cX12_tellsNothing 13 = .ok (.iconst 0, 1) := by decide +kernel
theorem dX12_tellsNothing_14 : decode cX12_tellsNothing 14 = .ok (.iastore, 1) := by decide +kernel
theorem dX12_tellsNothing_15 : decode cX12_tellsNothing 15 = .ok (.iinc 1 1, 3) := by decide +kernel
theorem dX12_tellsNothing_18 : decode cX12_tellsNothing 18 = .ok (.goto (-16), 3) := by decide +kernel
theorem dX12_tellsNothing_21 : decode cX12_tellsNothing 21 = .ok (.aload_n 0, 1) := by decide +kernel
theorem dX12_tellsNothing_22 : decode cX12_tellsNothing 22 = .ok (.getfield 20, 3) := by decide +kernel
theorem dX12_tellsNothing_25 : decode cX12_tellsNothing 25 = .ok (.iconst 3, 1) := by decide +kernel
theorem dX12_tellsNothing_26 : decode cX12_tellsNothing 26 = .ok (.bipush 30, 2) := by decide +kernel
theorem dX12_tellsNothing_28 : decode cX12_tellsNothing 28 = .ok (.iastore, 1) := by decide +kernel
theorem dX12_tellsNothing_29 : decode cX12_tellsNothing 29 = .ok (.aload_n 0, 1) := by decide +kernel
theorem dX12_tellsNothing_30 : decode cX12_tellsNothing 30 = .ok (.getfield 20, 3) := by decide +kernel
theorem dX12_tellsNothing_33 : decode cX12_tellsNothing 33 = .ok (.iconst 5, 1) := by decide +kernel
theorem dX12_tellsNothing_34 : decode cX12_tellsNothing 34 = .ok (.iconst 1, 1) := by decide +kernel
theorem dX12_tellsNothing_35 : decode cX12_tellsNothing 35 = .ok (.iastore, 1) := by decide +kernel
theorem dX12_tellsNothing_36 : decode cX12_tellsNothing 36 = .ok (.iconst 0, 1) := by decide +kernel
theorem dX12_tellsNothing_37 : decode cX12_tellsNothing 37 = .ok (.istore_n 1, 1) := by decide +kernel
theorem dX12_tellsNothing_38 : decode cX12_tellsNothing 38 = .ok (.iload_n 1, 1) := by decide +kernel
theorem dX12_tellsNothing_39 : decode cX12_tellsNothing 39 = .ok (.bipush 8, 2) := by decide +kernel
theorem dX12_tellsNothing_41 : decode cX12_tellsNothing 41 = .ok (.if_icmp .ge 41, 3) := by decide +kernel
theorem dX12_tellsNothing_44 : decode cX12_tellsNothing 44 = .ok (.iconst 0, 1) := by decide +kernel
theorem dX12_tellsNothing_45 : decode cX12_tellsNothing 45 = .ok (.istore_n 2, 1) := by decide +kernel
theorem dX12_tellsNothing_46 : decode cX12_tellsNothing 46 = .ok (.iload_n 2, 1) := by decide +kernel
theorem dX12_tellsNothing_47 : decode cX12_tellsNothing 47 = .ok (.bipush 8, 2) := by decide +kernel
theorem dX12_tellsNothing_49 : decode cX12_tellsNothing 49 = .ok (.if_icmp .ge 27, 3) := by decide +kernel
theorem dX12_tellsNothing_52 : decode cX12_tellsNothing 52 = .ok (.aload_n 0, 1) := by decide +kernel
theorem dX12_tellsNothing_53 : decode cX12_tellsNothing 53 = .ok (.getfield 40, 3) := by decide +kernel
theorem dX12_tellsNothing_56 : decode cX12_tellsNothing 56 = .ok (.iload_n 1, 1) := by decide +kernel
theorem dX12_tellsNothing_57 : decode cX12_tellsNothing 57 = .ok (.aaload, 1) := by decide +kernel
theorem dX12_tellsNothing_58 : decode cX12_tellsNothing 58 = .ok (.iload_n 2, 1) := by decide +kernel
theorem dX12_tellsNothing_59 : decode cX12_tellsNothing 59 = .ok (.iconst 5, 1) := by decide +kernel
theorem dX12_tellsNothing_60 : decode cX12_tellsNothing 60 = .ok (.iastore, 1) := by decide +kernel
theorem dX12_tellsNothing_61 : decode cX12_tellsNothing 61 = .ok (.aload_n 0, 1) := by decide +kernel
theorem dX12_tellsNothing_62 : decode cX12_tellsNothing 62 = .ok (.getfield 46, 3) := by decide +kernel
theorem dX12_tellsNothing_65 : decode cX12_tellsNothing 65 = .ok (.iload_n 1, 1) := by decide +kernel
theorem dX12_tellsNothing_66 : decode cX12_tellsNothing 66 = .ok (.aaload, 1) := by decide +kernel
theorem dX12_tellsNothing_67 : decode cX12_tellsNothing 67 = .ok (.iload_n 2, 1) := by decide +kernel
theorem dX12_tellsNothing_68 : decode cX12_tellsNothing 68 = .ok (.iconst 0, 1) := by decide +kernel
theorem dX12_tellsNothing_69 : decode cX12_tellsNothing 69 = .ok (.iastore, 1) := by decide +kernel
theorem dX12_tellsNothing_70 : decode cX12_tellsNothing 70 = .ok (.iinc 2 1, 3) := by decide +kernel
theorem dX12_tellsNothing_73 : decode cX12_tellsNothing 73 = .ok (.goto (-27), 3) := by decide +kernel
theorem dX12_tellsNothing_76 : decode cX12_tellsNothing 76 = .ok (.iinc 1 1, 3) := by decide +kernel
theorem dX12_tellsNothing_79 : decode cX12_tellsNothing 79 = .ok (.goto (-41), 3) := by decide +kernel
theorem dX12_tellsNothing_82 : decode cX12_tellsNothing 82 = .ok (.return_, 1) := by decide +kernel
set_option maxRecDepth 100000 in
theorem T_X12_tellsNothing_0 {G : GE} {d C S : Nat} {ρ : Rs} : Snd G MX12_tellsNothing d C S 0 ρ (s_iconst 0 (s_istore 1 (fun L st h => E G MX12_tellsNothing d C S 2 L st h ρ))) := (e_iconst (v := 0) dX12_tellsNothing_0 (by decide) (e_istore_n dX12_tellsNothing_1 rfl (by decide) (fun _ _ _ h9 => h9)))
set_option maxRecDepth 100000 in
theorem T_X12_tellsNothing_2 {G : GE} {d C S : Nat} {ρ : Rs} : Snd G MX12_tellsNothing d C S 2 ρ (s_iload 1 (s_iconst 8 (s_ic_ge (s_aload 0 (s_getR 11 11 (s_iconst 3 (s_iconst 30 (s_iastore (s_aload 0 (s_getR 11 11 (s_iconst 5 (s_iconst 1 (s_iastore (s_iconst 0 (s_istore 1 (fun L st h => E G MX12_tellsNothing d C S 38 L st h ρ))))))))))))) (s_aload 0 (s_getR 11 11 (s_iload 1 (s_iconst 0 (s_iastore (s_iinc 1 1 (fun L st h => E G MX12_tellsNothing d C S 2 L st h ρ)))))))))) := (e_iload_n dX12_tellsNothing_2 rfl (e_bipush (v := 8) dX12_tellsNothing_3 (by decide) (e_ic_ge (tgt := 21) dX12_tellsNothing_5 (by decide) (e_aload_n dX12_tellsNothing_21 rfl (e_getR rfl cl_11 (by decide) rfl q_1575 dX12_tellsNothing_22 (e_iconst (v := 3) dX12_tellsNothing_25 (by decide) (e_bipush (v := 30) dX12_tellsNothing_26 (by decide) (e_iastore dX12_tellsNothing_28 (e_aload_n dX12_tellsNothing_29 rfl (e_getR rfl cl_11 (by decide) rfl q_1575 dX12_tellsNothing_30 (e_iconst (v := 5) dX12_tellsNothing_33 (by decide) (e_iconst (v := 1) dX12_tellsNothing_34 (by decide) (e_iastore dX12_tellsNothing_35 (e_iconst (v := 0) dX12_tellsNothing_36 (by decide) (e_istore_n dX12_tellsNothing_37 rfl (by decide) (fun _ _ _ h9 => h9))))))))))))) (e_aload_n dX12_tellsNothing_8 rfl (e_getR rfl cl_11 (by decide) rfl q_1575 dX12_tellsNothing_9 (e_iload_n dX12_tellsNothing_12 rfl (e_iconst (v := 0) dX12_tellsNothing_13 (by decide) (e_iastore dX12_tellsNothing_14 (e_iinc (v := 1) dX12_tellsNothing_15 (by decide) (by decide) (e_goto (tgt := 2) dX12_tellsNothing_18 (by decide) (fun _ _ _ h9 => h9)))))))))))
set_option maxRecDepth 100000 in
theorem T_X12_tellsNothing_38 {G : GE} {d C S : Nat} {ρ : Rs} : Snd G MX12_tellsNothing d C S 38 ρ (s_iload 1 (s_iconst 8 (s_ic_ge (s_return ρ) (s_iconst 0 (s_istore 2 (fun L st h => E G MX12_tellsNothing d C S 46 L st h ρ)))))) := (e_iload_n dX12_tellsNothing_38 rfl (e_bipush (v := 8) dX12_tellsNothing_39 (by decide) (e_ic_ge (tgt := 82) dX12_tellsNothing_41 (by decide) (e_return rfl dX12_tellsNothing_82) (e_iconst (v := 0) dX12_tellsNothing_44 (by decide) (e_istore_n dX12_tellsNothing_45 rfl (by decide) (fun _ _ _ h9 => h9))))))
set_option maxRecDepth 100000 in
theorem T_X12_tellsNothing_46 {G : GE} {d C S : Nat} {ρ : Rs} : Snd G MX12_tellsNothing d C S 46 ρ (s_iload 2 (s_iconst 8 (s_ic_ge (s_iinc 1 1 (fun L st h => E G MX12_tellsNothing d C S 38 L st h ρ)) (s_aload 0 (s_getR 11 17 (s_iload 1 (s_aaload (s_iload 2 (s_iconst 5 (s_iastore (s_aload 0 (s_getR 11 19 (s_iload 1 (s_aaload (s_iload 2 (s_iconst 0 (s_iastore (s_iinc 2 1 (fun L st h => E G MX12_tellsNothing d C S 46 L st h ρ))))))))))))))))))) := (e_iload_n dX12_tellsNothing_46 rfl (e_bipush (v := 8) dX12_tellsNothing_47 (by decide) (e_ic_ge (tgt := 76) dX12_tellsNothing_49 (by decide) (e_iinc (v := 1) dX12_tellsNothing_76 (by decide) (by decide) (e_goto (tgt := 38) dX12_tellsNothing_79 (by decide) (fun _ _ _ h9 => h9))) (e_aload_n dX12_tellsNothing_52 rfl (e_getR rfl cl_11 (by decide) rfl q_1581 dX12_tellsNothing_53 (e_iload_n dX12_tellsNothing_56 rfl (e_aaload dX12_tellsNothing_57 (e_iload_n dX12_tellsNothing_58 rfl (e_iconst (v := 5) dX12_tellsNothing_59 (by decide) (e_iastore dX12_tellsNothing_60 (e_aload_n dX12_tellsNothing_61 rfl (e_getR rfl cl_11 (by decide) rfl q_1583 dX12_tellsNothing_62 (e_iload_n dX12_tellsNothing_65 rfl (e_aaload dX12_tellsNothing_66 (e_iload_n dX12_tellsNothing_67 rfl (e_iconst (v := 0) dX12_tellsNothing_68 (by decide) (e_iastore dX12_tellsNothing_69 (e_iinc (v := 1) dX12_tellsNothing_70 (by decide) (by decide) (e_goto (tgt := 46) dX12_tellsNothing_73 (by decide) (fun _ _ _ h9 => h9))))))))))))))))))))
theorem dX12_thrown_0 : decode cX12_thrown 0 = .ok (.aload_n 0, 1) := by decide +kernel
theorem dX12_thrown_1 : decode cX12_thrown 1 = .ok (.getfield 115, 3) := by decide +kernel
theorem dX12_thrown_4 : decode cX12_thrown 4 = .ok (.ireturn, 1) := by decide +kernel
set_option maxRecDepth 100000 in
theorem T_X12_thrown_0 {G : GE} {d C S : Nat} {ρ : Rs} : Snd G MX12_thrown d C S 0 ρ (s_aload 0 (s_getI 11 0 (s_ireturn ρ))) := (e_aload_n dX12_thrown_0 rfl (e_getI rfl cl_11 (by decide) rfl q_1564 dX12_thrown_1 (e_ireturn rfl dX12_thrown_4)))
theorem dX12_bad_0 : decode cX12_bad 0 = .ok (.iload_n 1, 1) := by decide +kernel
theorem dX12_bad_1 : decode cX12_bad 1 = .ok (.ifCond .eq 25, 3) := by decide +kernel
theorem dX12_bad_4 : decode cX12_bad 4 = .ok (.aload_n 0, 1) := by decide +kernel
theorem dX12_bad_5 : decode cX12_bad 5 = .ok (.getfield 115, 3) := by decide +kernel
theorem dX12_bad_8 : decode cX12_bad 8 = .ok (.ifCond .ne 18, 3) := by decide +kernel
theorem dX12_bad_11 : decode cX12_bad 11 = .ok (.aload_n 0, 1) := by decide +kernel
theorem dX12_bad_12 : decode cX12_bad 12 = .ok (.iload_n 2, 1) := by decide +kernel
theorem dX12_bad_13 : decode cX12_bad 13 = .ok (.putfield 115, 3) := by decide +kernel
theorem dX12_bad_16 : decode cX12_bad 16 = .ok (.aload_n 0, 1) := by decide +kernel
theorem dX12_bad_17 : decode cX12_bad 17 = .ok (.getfield 17, 3) := by decide +kernel
theorem dX12_bad_20 : decode cX12_bad 20 = .ok (.iload_n 3, 1) := by decide +kernel
theorem dX12_bad_21 : decode cX12_bad 21 = .ok (.dup2, 1) := by decide +kernel
theorem dX12_bad_22 : decode cX12_bad 22 = .ok (.iaload, 1) := by decide +kernel
theorem dX12_bad_23 : decode cX12_bad 23 = .ok (.iconst 1, 1) := by decide +kernel
theorem dX12_bad_24 : decode cX12_bad 24 = .ok (.iadd, 1) := by decide +kernel
theorem dX12_bad_25 : decode cX12_bad 25 = .ok (.iastore, 1) := by decide +kernel
theorem dX12_bad_26 : decode cX12_bad 26 = .ok (.aload_n 0, 1) := by decide +kernel
theorem dX12_bad_27 : decode cX12_bad 27 = .ok (.getfield 115, 3) := by decide +kernel
theorem dX12_bad_30 : decode cX12_bad 30 = .ok (.ifCond .eq 7, 3) := by decide +kernel
theorem dX12_bad_33 : decode cX12_bad 33 = .ok (.iconst 1, 1) := by decide +kernel
theorem dX12_bad_34 : decode cX12_bad 34 = .ok (.goto 4, 3) := by decide +kernel
theorem dX12_bad_37 : decode cX12_bad 37 = .ok (.iconst 0, 1) := by decide +kernel
theorem dX12_bad_38 : decode cX12_bad 38 = .ok (.ireturn, 1) := by decide +kernel
set_option maxRecDepth 100000 in
theorem T_X12_bad_0 {G : GE} {d C S : Nat} {ρ : Rs} : Snd G MX12_bad d C S 0 ρ (s_iload 1 (s_if_eq (s_aload 0 (s_getI 11 0 (s_if_eq (s_iconst 0 (s_zreturn ρ)) (s_iconst 1 (s_zreturn ρ))))) (s_aload 0 (s_getI 11 0 (s_if_ne (s_aload 0 (s_getI 11 0 (s_if_eq (s_iconst 0 (s_zreturn ρ)) (s_iconst 1 (s_zreturn ρ))))) (s_aload 0 (s_iload 2 (s_putI 11 0 (s_aload 0 (s_getR 11 10 (s_iload 3 (s_dup2 (s_iaload (s_iconst 1 (s_iadd (s_iastore (s_aload 0 (s_getI 11 0 (s_if_eq (s_iconst 0 (s_zreturn ρ)) (s_iconst 1 (s_zreturn ρ))))))))))))))))))))) := (e_iload_n dX12_bad_0 rfl (e_if_eq (tgt := 26) dX12_bad_1 (by decide) (e_aload_n dX12_bad_26 rfl (e_getI rfl cl_11 (by decide) rfl q_1564 dX12_bad_27 (e_if_eq (tgt := 37) dX12_bad_30 (by decide) (e_iconst (v := 0) dX12_bad_37 (by decide) (e_zreturn rfl dX12_bad_38)) (e_iconst (v := 1) dX12_bad_33 (by decide) (e_goto (tgt := 38) dX12_bad_34 (by decide) (e_zreturn rfl dX12_bad_38)))))) (e_aload_n dX12_bad_4 rfl (e_getI rfl cl_11 (by decide) rfl q_1564 dX12_bad_5 (e_if_ne (tgt := 26) dX12_bad_8 (by decide) (e_aload_n dX12_bad_26 rfl (e_getI rfl cl_11 (by decide) rfl q_1564 dX12_bad_27 (e_if_eq (tgt := 37) dX12_bad_30 (by decide) (e_iconst (v := 0) dX12_bad_37 (by decide) (e_zreturn rfl dX12_bad_38)) (e_iconst (v := 1) dX12_bad_33 (by decide) (e_goto (tgt := 38) dX12_bad_34 (by decide) (e_zreturn rfl dX12_bad_38)))))) (e_aload_n dX12_bad_11 rfl (e_iload_n dX12_bad_12 rfl (e_putI rfl cl_11 (by decide) rfl rfl rfl q_1564 dX12_bad_13 (e_aload_n dX12_bad_16 rfl (e_getR rfl cl_11 (by decide) rfl q_1574 dX12_bad_17 (e_iload_n dX12_bad_20 rfl (e_dup2 dX12_bad_21 (e_iaload dX12_bad_22 (e_iconst (v := 1) dX12_bad_23 (by decide) (e_iadd dX12_bad_24 (e_iastore dX12_bad_25 (e_aload_n dX12_bad_26 rfl (e_getI rfl cl_11 (by decide) rfl q_1564 dX12_bad_27 (e_if_eq (tgt := 37) dX12_bad_30 (by decide) (e_iconst (v := 0) dX12_bad_37 (by decide) (e_zreturn rfl dX12_bad_38)) (e_iconst (v := 1) dX12_bad_33 (by decide) (e_goto (tgt := 38) dX12_bad_34 (by decide) (e_zreturn rfl dX12_bad_38))))))))))))))))))))))
theorem dX12_in_0 : decode cX12_in 0 = .ok (.iload_n 0, 1) := by decide +kernel
theorem dX12_in_1 : decode cX12_in 1 = .ok (.iload_n 1, 1) := by decide +kernel
theorem dX12_in_2 : decode cX12_in 2 = .ok (.if_icmp .lt 12, 3) := by decide +kernel
theorem dX12_in_5 : decode cX12_in 5 = .ok (.iload_n 0, 1) := by decide +kernel
theorem dX12_in_6 : decode cX12_in 6 = .ok (.iload_n 2, 1) := by decide +kernel
theorem dX12_in_7 : decode cX12_in 7 = .ok (.if_icmp .gt 7, 3) := by decide +kernel
theorem dX12_in_10 : decode cX12_in 10 = .ok (.iconst 1, 1) := by decide +kernel
theorem dX12_in_11 : decode cX12_in 11 = .ok (.goto 4, 3) := by decide +kernel
theorem dX12_in_14 : decode cX12_in 14 = .ok (.iconst 0, 1) := by decide +kernel
theorem dX12_in_15 : decode cX12_in 15 = .ok (.ireturn, 1) := by decide +kernel
set_option maxRecDepth 100000 in
theorem T_X12_in_0 {G : GE} {d C S : Nat} {ρ : Rs} : Snd G MX12_in d C S 0 ρ (s_iload 0 (s_iload 1 (s_ic_lt (s_iconst 0 (s_zreturn ρ)) (s_iload 0 (s_iload 2 (s_ic_gt (s_iconst 0 (s_zreturn ρ)) (s_iconst 1 (s_zreturn ρ)))))))) := (e_iload_n dX12_in_0 rfl (e_iload_n dX12_in_1 rfl (e_ic_lt (tgt := 14) dX12_in_2 (by decide) (e_iconst (v := 0) dX12_in_14 (by decide) (e_zreturn rfl dX12_in_15)) (e_iload_n dX12_in_5 rfl (e_iload_n dX12_in_6 rfl (e_ic_gt (tgt := 14) dX12_in_7 (by decide) (e_iconst (v := 0) dX12_in_14 (by decide) (e_zreturn rfl dX12_in_15)) (e_iconst (v := 1) dX12_in_10 (by decide) (e_goto (tgt := 15) dX12_in_11 (by decide) (e_zreturn rfl dX12_in_15)))))))))
theorem dX12_less_0 : decode cX12_less 0 = .ok (.iload_n 0, 1) := by decide +kernel
theorem dX12_less_1 : decode cX12_less 1 = .ok (.iload_n 1, 1) := by decide +kernel
theorem dX12_less_2 : decode cX12_less 2 = .ok (.if_icmp .ge 7, 3) := by decide +kernel
theorem dX12_less_5 : decode cX12_less 5 = .ok (.iload_n 0, 1) := by decide +kernel
theorem dX12_less_6 : decode cX12_less 6 = .ok (.goto 4, 3) := by decide +kernel
theorem dX12_less_9 : decode cX12_less 9 = .ok (.iload_n 1, 1) := by decide +kernel
theorem dX12_less_10 : decode cX12_less 10 = .ok (.ireturn, 1) := by decide +kernel
set_option maxRecDepth 100000 in
theorem T_X12_less_0 {G : GE} {d C S : Nat} {ρ : Rs} : Snd G MX12_less d C S 0 ρ (s_iload 0 (s_iload 1 (s_ic_ge (s_iload 1 (s_ireturn ρ)) (s_iload 0 (s_ireturn ρ))))) := (e_iload_n dX12_less_0 rfl (e_iload_n dX12_less_1 rfl (e_ic_ge (tgt := 9) dX12_less_2 (by decide) (e_iload_n dX12_less_9 rfl (e_ireturn rfl dX12_less_10)) (e_iload_n dX12_less_5 rfl (e_goto (tgt := 10) dX12_less_6 (by decide) (e_ireturn rfl dX12_less_10))))))
theorem dX12_more_0 : decode cX12_more 0 = .ok (.iload_n 0, 1) := by decide +kernel
theorem dX12_more_1 : decode cX12_more 1 = .ok (.iload_n 1, 1) := by decide +kernel
theorem dX12_more_2 : decode cX12_more 2 = .ok (.if_icmp .le 7, 3) := by decide +kernel
theorem dX12_more_5 : decode cX12_more 5 = .ok (.iload_n 0, 1) := by decide +kernel
theorem dX12_more_6 : decode cX12_more 6 = .ok (.goto 4, 3) := by decide +kernel
theorem dX12_more_9 : decode cX12_more 9 = .ok (.iload_n 1, 1) := by decide +kernel
theorem dX12_more_10 : decode cX12_more 10 = .ok (.ireturn, 1) := by decide +kernel
set_option maxRecDepth 100000 in
theorem T_X12_more_0 {G : GE} {d C S : Nat} {ρ : Rs} : Snd G MX12_more d C S 0 ρ (s_iload 0 (s_iload 1 (s_ic_le (s_iload 1 (s_ireturn ρ)) (s_iload 0 (s_ireturn ρ))))) := (e_iload_n dX12_more_0 rfl (e_iload_n dX12_more_1 rfl (e_ic_le (tgt := 9) dX12_more_2 (by decide) (e_iload_n dX12_more_9 rfl (e_ireturn rfl dX12_more_10)) (e_iload_n dX12_more_5 rfl (e_goto (tgt := 10) dX12_more_6 (by decide) (e_ireturn rfl dX12_more_10))))))
theorem dX12_away_0 : decode cX12_away 0 = .ok (.iload_n 0, 1) := by decide +kernel
theorem dX12_away_1 : decode cX12_away 1 = .ok (.iload_n 1, 1) := by decide +kernel
theorem dX12_away_2 : decode cX12_away 2 = .ok (.if_icmp .le 9, 3) := by decide +kernel
theorem dX12_away_5 : decode cX12_away 5 = .ok (.iload_n 0, 1) := by decide +kernel
theorem dX12_away_6 : decode cX12_away 6 = .ok (.iload_n 1, 1) := by decide +kernel
theorem dX12_away_7 : decode cX12_away 7 = .ok (.isub, 1) := by decide +kernel
theorem dX12_away_8 : decode cX12_away 8 = .ok (.goto 6, 3) := by decide +kernel
theorem dX12_away_11 : decode cX12_away 11 = .ok (.iload_n 1, 1) := by decide +kernel
theorem dX12_away_12 : decode cX12_away 12 = .ok (.iload_n 0, 1) := by decide +kernel
theorem dX12_away_13 : decode cX12_away 13 = .ok (.isub, 1) := by decide +kernel
theorem dX12_away_14 : decode cX12_away 14 = .ok (.ireturn, 1) := by decide +kernel
set_option maxRecDepth 100000 in
theorem T_X12_away_0 {G : GE} {d C S : Nat} {ρ : Rs} : Snd G MX12_away d C S 0 ρ (s_iload 0 (s_iload 1 (s_ic_le (s_iload 1 (s_iload 0 (s_isub (s_ireturn ρ)))) (s_iload 0 (s_iload 1 (s_isub (s_ireturn ρ))))))) := (e_iload_n dX12_away_0 rfl (e_iload_n dX12_away_1 rfl (e_ic_le (tgt := 11) dX12_away_2 (by decide) (e_iload_n dX12_away_11 rfl (e_iload_n dX12_away_12 rfl (e_isub dX12_away_13 (e_ireturn rfl dX12_away_14)))) (e_iload_n dX12_away_5 rfl (e_iload_n dX12_away_6 rfl (e_isub dX12_away_7 (e_goto (tgt := 14) dX12_away_8 (by decide) (e_ireturn rfl dX12_away_14))))))))
theorem dX12_has_0 : decode cX12_has 0 = .ok (.iload_n 0, 1) := by decide +kernel
theorem dX12_has_1 : decode cX12_has 1 = .ok (.iload_n 1, 1) := by decide +kernel
theorem dX12_has_2 : decode cX12_has 2 = .ok (.ishr, 1) := by decide +kernel
theorem dX12_has_3 : decode cX12_has 3 = .ok (.iconst 1, 1) := by decide +kernel
theorem dX12_has_4 : decode cX12_has 4 = .ok (.iand, 1) := by decide +kernel
theorem dX12_has_5 : decode cX12_has 5 = .ok (.iconst 1, 1) := by decide +kernel
theorem dX12_has_6 : decode cX12_has 6 = .ok (.if_icmp .ne 7, 3) := by decide +kernel
theorem dX12_has_9 : decode cX12_has 9 = .ok (.iconst 1, 1) := by decide +kernel
theorem dX12_has_10 : decode cX12_has 10 = .ok (.goto 4, 3) := by decide +kernel
theorem dX12_has_13 : decode cX12_has 13 = .ok (.iconst 0, 1) := by decide +kernel
theorem dX12_has_14 : decode cX12_has 14 = .ok (.ireturn, 1) := by decide +kernel
set_option maxRecDepth 100000 in
theorem T_X12_has_0 {G : GE} {d C S : Nat} {ρ : Rs} : Snd G MX12_has d C S 0 ρ (s_iload 0 (s_iload 1 (s_ishr (s_iconst 1 (s_iand (s_iconst 1 (s_ic_ne (s_iconst 0 (s_zreturn ρ)) (s_iconst 1 (s_zreturn ρ))))))))) := (e_iload_n dX12_has_0 rfl (e_iload_n dX12_has_1 rfl (e_ishr dX12_has_2 (e_iconst (v := 1) dX12_has_3 (by decide) (e_iand dX12_has_4 (e_iconst (v := 1) dX12_has_5 (by decide) (e_ic_ne (tgt := 13) dX12_has_6 (by decide) (e_iconst (v := 0) dX12_has_13 (by decide) (e_zreturn rfl dX12_has_14)) (e_iconst (v := 1) dX12_has_9 (by decide) (e_goto (tgt := 14) dX12_has_10 (by decide) (e_zreturn rfl dX12_has_14))))))))))
theorem dX12_feed_0 : decode cX12_feed 0 = .ok (.aload_n 0, 1) := by decide +kernel
theorem dX12_feed_1 : decode cX12_feed 1 = .ok (.iconst 0, 1) := by decide +kernel
theorem dX12_feed_2 : decode cX12_feed 2 = .ok (.putfield 115, 3) := by decide +kernel
theorem dX12_feed_5 : decode cX12_feed 5 = .ok (.aload_n 0, 1) := by decide +kernel
theorem dX12_feed_6 : decode cX12_feed 6 = .ok (.getfield 118, 3) := by decide +kernel
theorem dX12_feed_9 : decode cX12_feed 9 = .ok (.bipush 20, 2) := by decide +kernel
theorem dX12_feed_11 : decode cX12_feed 11 = .ok (.iadd, 1) := by decide +kernel
theorem dX12_feed_12 : decode cX12_feed 12 = .ok (.sipush 600, 3) := by decide +kernel
theorem dX12_feed_15 : decode cX12_feed 15 = .ok (.if_icmp .le 5, 3) := by decide +kernel
theorem dX12_feed_18 : decode cX12_feed 18 = .ok (.iconst (-1), 1) := by decide +kernel
theorem dX12_feed_19 : decode cX12_feed 19 = .ok (.ireturn, 1) := by decide +kernel
theorem dX12_feed_20 : decode cX12_feed 20 = .ok (.iconst 0, 1) := by decide +kernel
theorem dX12_feed_21 : decode cX12_feed 21 = .ok (.istore 6, 2) := by decide +kernel
theorem dX12_feed_23 : decode cX12_feed 23 = .ok (.iload 6, 2) := by decide +kernel
theorem dX12_feed_25 : decode cX12_feed 25 = .ok (.bipush 20, 2) := by decide +kernel
theorem dX12_feed_27 : decode cX12_feed 27 = .ok (.if_icmp .ge 93, 3) := by decide +kernel
theorem dX12_feed_30 : decode cX12_feed 30 = .ok (.iload 6, 2) := by decide +kernel
theorem dX12_feed_32 : decode cX12_feed 32 = .ok (.iconst 4, 1) := by decide +kernel
theorem dX12_feed_33 : decode cX12_feed 33 = .ok (.if_icmp .ge 7, 3) := by decide +kernel
theorem dX12_feed_36 : decode cX12_feed 36 = .ok (.iload_n 1, 1) := by decide +kernel
theorem dX12_feed_37 : decode cX12_feed 37 = .ok (.goto 39, 3) := by decide +kernel
theorem dX12_feed_40 : decode cX12_feed 40 = .ok (.iload 6, 2) := by decide +kernel
theorem dX12_feed_42 : decode cX12_feed 42 = .ok (.bipush 8, 2) := by decide +kernel
theorem dX12_feed_44 : decode cX12_feed 44 = .ok (.if_icmp .ge 7, 3) := by decide +kernel
theorem dX12_feed_47 : decode cX12_feed 47 = .ok (.iload_n 2, 1) := by decide +kernel
theorem dX12_feed_48 : decode cX12_feed 48 = .ok (.goto 28, 3) := by decide +kernel
theorem dX12_feed_51 : decode cX12_feed 51 = .ok (.iload 6, 2) := by decide +kernel
theorem dX12_feed_53 : decode cX12_feed 53 = .ok (.bipush 12, 2) := by decide +kernel
theorem dX12_feed_55 : decode cX12_feed 55 = .ok (.if_icmp .ge 7, 3) := by decide +kernel
theorem dX12_feed_58 : decode cX12_feed 58 = .ok (.iload_n 3, 1) := by decide +kernel
theorem dX12_feed_59 : decode cX12_feed 59 = .ok (.goto 17, 3) := by decide +kernel
theorem dX12_feed_62 : decode cX12_feed 62 = .ok (.iload 6, 2) := by decide +kernel
theorem dX12_feed_64 : decode cX12_feed 64 = .ok (.bipush 16, 2) := by decide +kernel
theorem dX12_feed_66 : decode cX12_feed 66 = .ok (.if_icmp .ge 8, 3) := by decide +kernel
theorem dX12_feed_69 : decode cX12_feed 69 = .ok (.iload 4, 2) := by decide +kernel
theorem dX12_feed_71 : decode cX12_feed 71 = .ok (.goto 5, 3) := by decide +kernel
theorem dX12_feed_74 : decode cX12_feed 74 = .ok (.iload 5, 2) := by decide +kernel
theorem dX12_feed_76 : decode cX12_feed 76 = .ok (.istore 7, 2) := by decide +kernel
theorem dX12_feed_78 : decode cX12_feed 78 = .ok (.aload_n 0, 1) := by decide +kernel
theorem dX12_feed_79 : decode cX12_feed 79 = .ok (.getfield 13, 3) := by decide +kernel
theorem dX12_feed_82 : decode cX12_feed 82 = .ok (.aload_n 0, 1) := by decide +kernel
theorem dX12_feed_83 : decode cX12_feed 83 = .ok (.getfield 118, 3) := by decide +kernel
theorem dX12_feed_86 : decode cX12_feed 86 = .ok (.iload 7, 2) := by decide +kernel
theorem dX12_feed_88 : decode cX12_feed 88 = .ok (.bipush 24, 2) := by decide +kernel
theorem dX12_feed_90 : decode cX12_feed 90 = .ok (.bipush 8, 2) := by decide +kernel
theorem dX12_feed_92 : decode cX12_feed 92 = .ok (.iload 6, 2) := by decide +kernel
theorem dX12_feed_94 : decode cX12_feed 94 = .ok (.iconst 4, 1) := by decide +kernel
theorem dX12_feed_95 : decode cX12_feed 95 = .ok (.irem, 1) := by decide +kernel
theorem dX12_feed_96 : decode cX12_feed 96 = .ok (.imul, 1) := by decide +kernel
theorem dX12_feed_97 : decode cX12_feed 97 = .ok (.isub, 1) := by decide +kernel
theorem dX12_feed_98 : decode cX12_feed 98 = .ok (.ishr, 1) := by decide +kernel
theorem dX12_feed_99 : decode cX12_feed 99 = .ok (.sipush 255, 3) := by decide +kernel
theorem dX12_feed_102 : decode cX12_feed 102 = .ok (.iand, 1) := by decide +kernel
theorem dX12_feed_103 : decode cX12_feed 103 = .ok (.iastore, 1) := by decide +kernel
theorem dX12_feed_104 : decode cX12_feed 104 = .ok (.aload_n 0, 1) := by decide +kernel
theorem dX12_feed_105 : decode cX12_feed 105 = .ok (.dup, 1) := by decide +kernel
theorem dX12_feed_106 : decode cX12_feed 106 = .ok (.getfield 118, 3) := by decide +kernel
theorem dX12_feed_109 : decode cX12_feed 109 = .ok (.iconst 1, 1) := by decide +kernel
theorem dX12_feed_110 : decode cX12_feed 110 = .ok (.iadd, 1) := by decide +kernel
theorem dX12_feed_111 : decode cX12_feed 111 = .ok (.putfield 118, 3) := by decide +kernel
theorem dX12_feed_114 : decode cX12_feed 114 = .ok (.iinc 6 1, 3) := by decide +kernel
theorem dX12_feed_117 : decode cX12_feed 117 = .ok (.goto (-94), 3) := by decide +kernel
theorem dX12_feed_120 : decode cX12_feed 120 = .ok (.aload_n 0, 1) := by decide +kernel
theorem dX12_feed_121 : decode cX12_feed 121 = .ok (.getfield 118, 3) := by decide +kernel
theorem dX12_feed_124 : decode cX12_feed 124 = .ok (.ireturn, 1) := by decide +kernel
set_option maxRecDepth 100000 in
theorem T_X12_feed_0 {G : GE} {d C S : Nat} {ρ : Rs} : Snd G MX12_feed d C S 0 ρ (s_aload 0 (s_iconst 0 (s_putI 11 0 (s_aload 0 (s_getI 11 1 (s_iconst 20 (s_iadd (s_iconst 600 (s_ic_le (s_iconst 0 (s_istore 6 (fun L st h => E G MX12_feed d C S 23 L st h ρ))) (s_iconst (-1) (s_ireturn ρ))))))))))) := (e_aload_n dX12_feed_0 rfl (e_iconst (v := 0) dX12_feed_1 (by decide) (e_putI rfl cl_11 (by decide) rfl rfl rfl q_1564 dX12_feed_2 (e_aload_n dX12_feed_5 rfl (e_getI rfl cl_11 (by decide) rfl q_1565 dX12_feed_6 (e_bipush (v := 20) dX12_feed_9 (by decide) (e_iadd dX12_feed_11 (e_sipush (v := 600) dX12_feed_12 (by decide) (e_ic_le (tgt := 20) dX12_feed_15 (by decide) (e_iconst (v := 0) dX12_feed_20 (by decide) (e_istore dX12_feed_21 (by decide) (fun _ _ _ h9 => h9))) (e_iconst (v := (-1)) dX12_feed_18 (by decide) (e_ireturn rfl dX12_feed_19)))))))))))
set_option maxRecDepth 100000 in
theorem T_X12_feed_23 {G : GE} {d C S : Nat} {ρ : Rs} : Snd G MX12_feed d C S 23 ρ (s_iload 6 (s_iconst 20 (s_ic_ge (s_aload 0 (s_getI 11 1 (s_ireturn ρ))) (s_iload 6 (s_iconst 4 (s_ic_ge (s_iload 6 (s_iconst 8 (s_ic_ge (s_iload 6 (s_iconst 12 (s_ic_ge (s_iload 6 (s_iconst 16 (s_ic_ge (s_iload 5 (s_istore 7 (s_aload 0 (s_getR 11 9 (s_aload 0 (s_getI 11 1 (s_iload 7 (s_iconst 24 (s_iconst 8 (s_iload 6 (s_iconst 4 (s_irem (s_imul (s_isub (s_ishr (s_iconst 255 (s_iand (s_iastore (s_aload 0 (s_dup (s_getI 11 1 (s_iconst 1 (s_iadd (s_putI 11 1 (s_iinc 6 1 (fun L st h => E G MX12_feed d C S 23 L st h ρ)))))))))))))))))))))))))) (s_iload 4 (s_istore 7 (s_aload 0 (s_getR 11 9 (s_aload 0 (s_getI 11 1 (s_iload 7 (s_iconst 24 (s_iconst 8 (s_iload 6 (s_iconst 4 (s_irem (s_imul (s_isub (s_ishr (s_iconst 255 (s_iand (s_iastore (s_aload 0 (s_dup (s_getI 11 1 (s_iconst 1 (s_iadd (s_putI 11 1 (s_iinc 6 1 (fun L st h => E G MX12_feed d C S 23 L st h ρ))))))))))))))))))))))))))))) (s_iload 3 (s_istore 7 (s_aload 0 (s_getR 11 9 (s_aload 0 (s_getI 11 1 (s_iload 7 (s_iconst 24 (s_iconst 8 (s_iload 6 (s_iconst 4 (s_irem (s_imul (s_isub (s_ishr (s_iconst 255 (s_iand (s_iastore (s_aload 0 (s_dup (s_getI 11 1 (s_iconst 1 (s_iadd (s_putI 11 1 (s_iinc 6 1 (fun L st h => E G MX12_feed d C S 23 L st h ρ))))))))))))))))))))))))))))) (s_iload 2 (s_istore 7 (s_aload 0 (s_getR 11 9 (s_aload 0 (s_getI 11 1 (s_iload 7 (s_iconst 24 (s_iconst 8 (s_iload 6 (s_iconst 4 (s_irem (s_imul (s_isub (s_ishr (s_iconst 255 (s_iand (s_iastore (s_aload 0 (s_dup (s_getI 11 1 (s_iconst 1 (s_iadd (s_putI 11 1 (s_iinc 6 1 (fun L st h => E G MX12_feed d C S 23 L st h ρ))))))))))))))))))))))))))))) (s_iload 1 (s_istore 7 (s_aload 0 (s_getR 11 9 (s_aload 0 (s_getI 11 1 (s_iload 7 (s_iconst 24 (s_iconst 8 (s_iload 6 (s_iconst 4 (s_irem (s_imul (s_isub (s_ishr (s_iconst 255 (s_iand (s_iastore (s_aload 0 (s_dup (s_getI 11 1 (s_iconst 1 (s_iadd (s_putI 11 1 (s_iinc 6 1 (fun L st h => E G MX12_feed d C S 23 L st h ρ)))))))))))))))))))))))))))))))) := (e_iload dX12_feed_23 (e_bipush (v := 20) dX12_feed_25 (by decide) (e_ic_ge (tgt := 120) dX12_feed_27 (by decide) (e_aload_n dX12_feed_120 rfl (e_getI rfl cl_11 (by decide) rfl q_1565 dX12_feed_121 (e_ireturn rfl dX12_feed_124))) (e_iload dX12_feed_30 (e_iconst (v := 4) dX12_feed_32 (by decide) (e_ic_ge (tgt := 40) dX12_feed_33 (by decide) (e_iload dX12_feed_40 (e_bipush (v := 8) dX12_feed_42 (by decide) (e_ic_ge (tgt := 51) dX12_feed_44 (by decide) (e_iload dX12_feed_51 (e_bipush (v := 12) dX12_feed_53 (by decide) (e_ic_ge (tgt := 62) dX12_feed_55 (by decide) (e_iload dX12_feed_62 (e_bipush (v := 16) dX12_feed_64 (by decide) (e_ic_ge (tgt := 74) dX12_feed_66 (by decide) (e_iload dX12_feed_74 (e_istore dX12_feed_76 (by decide) (e_aload_n dX12_feed_78 rfl (e_getR rfl cl_11 (by decide) rfl q_1573 dX12_feed_79 (e_aload_n dX12_feed_82 rfl (e_getI rfl cl_11 (by decide) rfl q_1565 dX12_feed_83 (e_iload dX12_feed_86 (e_bipush (v := 24) dX12_feed_88 (by decide) (e_bipush (v := 8) dX12_feed_90 (by decide) (e_iload dX12_feed_92 (e_iconst (v := 4) dX12_feed_94 (by decide) (e_irem dX12_feed_95 (e_imul dX12_feed_96 (e_isub dX12_feed_97 (e_ishr dX12_feed_98 (e_sipush (v := 255) dX12_feed_99 (by decide) (e_iand dX12_feed_102 (e_iastore dX12_feed_103 (e_aload_n dX12_feed_104 rfl (e_dup dX12_feed_105 (e_getI rfl cl_11 (by decide) rfl q_1565 dX12_feed_106 (e_iconst (v := 1) dX12_feed_109 (by decide) (e_iadd dX12_feed_110 (e_putI rfl cl_11 (by decide) rfl rfl rfl q_1565 dX12_feed_111 (e_iinc (v := 1) dX12_feed_114 (by decide) (by decide) (e_goto (tgt := 23) dX12_feed_117 (by decide) (fun _ _ _ h9 => h9))))))))))))))))))))))))))) (e_iload dX12_feed_69 (e_goto (tgt := 76) dX12_feed_71 (by decide) (e_istore dX12_feed_76 (by decide) (e_aload_n dX12_feed_78 rfl (e_getR rfl cl_11 (by decide) rfl q_1573 dX12_feed_79 (e_aload_n dX12_feed_82 rfl (e_getI rfl cl_11 (by decide) rfl q_1565 dX12_feed_83 (e_iload dX12_feed_86 (e_bipush (v := 24) dX12_feed_88 (by decide) (e_bipush (v := 8) dX12_feed_90 (by decide) (e_iload dX12_feed_92 (e_iconst (v := 4) dX12_feed_94 (by decide) (e_irem dX12_feed_95 (e_imul dX12_feed_96 (e_isub dX12_feed_97 (e_ishr dX12_feed_98 (e_sipush (v := 255) dX12_feed_99 (by decide) (e_iand dX12_feed_102 (e_iastore dX12_feed_103 (e_aload_n dX12_feed_104 rfl (e_dup dX12_feed_105 (e_getI rfl cl_11 (by decide) rfl q_1565 dX12_feed_106 (e_iconst (v := 1) dX12_feed_109 (by decide) (e_iadd dX12_feed_110 (e_putI rfl cl_11 (by decide) rfl rfl rfl q_1565 dX12_feed_111 (e_iinc (v := 1) dX12_feed_114 (by decide) (by decide) (e_goto (tgt := 23) dX12_feed_117 (by decide) (fun _ _ _ h9 => h9))))))))))))))))))))))))))))))) (e_iload_n dX12_feed_58 rfl (e_goto (tgt := 76) dX12_feed_59 (by decide) (e_istore dX12_feed_76 (by decide) (e_aload_n dX12_feed_78 rfl (e_getR rfl cl_11 (by decide) rfl q_1573 dX12_feed_79 (e_aload_n dX12_feed_82 rfl (e_getI rfl cl_11 (by decide) rfl q_1565 dX12_feed_83 (e_iload dX12_feed_86 (e_bipush (v := 24) dX12_feed_88 (by decide) (e_bipush (v := 8) dX12_feed_90 (by decide) (e_iload dX12_feed_92 (e_iconst (v := 4) dX12_feed_94 (by decide) (e_irem dX12_feed_95 (e_imul dX12_feed_96 (e_isub dX12_feed_97 (e_ishr dX12_feed_98 (e_sipush (v := 255) dX12_feed_99 (by decide) (e_iand dX12_feed_102 (e_iastore dX12_feed_103 (e_aload_n dX12_feed_104 rfl (e_dup dX12_feed_105 (e_getI rfl cl_11 (by decide) rfl q_1565 dX12_feed_106 (e_iconst (v := 1) dX12_feed_109 (by decide) (e_iadd dX12_feed_110 (e_putI rfl cl_11 (by decide) rfl rfl rfl q_1565 dX12_feed_111 (e_iinc (v := 1) dX12_feed_114 (by decide) (by decide) (e_goto (tgt := 23) dX12_feed_117 (by decide) (fun _ _ _ h9 => h9))))))))))))))))))))))))))))))) (e_iload_n dX12_feed_47 rfl (e_goto (tgt := 76) dX12_feed_48 (by decide) (e_istore dX12_feed_76 (by decide) (e_aload_n dX12_feed_78 rfl (e_getR rfl cl_11 (by decide) rfl q_1573 dX12_feed_79 (e_aload_n dX12_feed_82 rfl (e_getI rfl cl_11 (by decide) rfl q_1565 dX12_feed_83 (e_iload dX12_feed_86 (e_bipush (v := 24) dX12_feed_88 (by decide) (e_bipush (v := 8) dX12_feed_90 (by decide) (e_iload dX12_feed_92 (e_iconst (v := 4) dX12_feed_94 (by decide) (e_irem dX12_feed_95 (e_imul dX12_feed_96 (e_isub dX12_feed_97 (e_ishr dX12_feed_98 (e_sipush (v := 255) dX12_feed_99 (by decide) (e_iand dX12_feed_102 (e_iastore dX12_feed_103 (e_aload_n dX12_feed_104 rfl (e_dup dX12_feed_105 (e_getI rfl cl_11 (by decide) rfl q_1565 dX12_feed_106 (e_iconst (v := 1) dX12_feed_109 (by decide) (e_iadd dX12_feed_110 (e_putI rfl cl_11 (by decide) rfl rfl rfl q_1565 dX12_feed_111 (e_iinc (v := 1) dX12_feed_114 (by decide) (by decide) (e_goto (tgt := 23) dX12_feed_117 (by decide) (fun _ _ _ h9 => h9))))))))))))))))))))))))))))))) (e_iload_n dX12_feed_36 rfl (e_goto (tgt := 76) dX12_feed_37 (by decide) (e_istore dX12_feed_76 (by decide) (e_aload_n dX12_feed_78 rfl (e_getR rfl cl_11 (by decide) rfl q_1573 dX12_feed_79 (e_aload_n dX12_feed_82 rfl (e_getI rfl cl_11 (by decide) rfl q_1565 dX12_feed_83 (e_iload dX12_feed_86 (e_bipush (v := 24) dX12_feed_88 (by decide) (e_bipush (v := 8) dX12_feed_90 (by decide) (e_iload dX12_feed_92 (e_iconst (v := 4) dX12_feed_94 (by decide) (e_irem dX12_feed_95 (e_imul dX12_feed_96 (e_isub dX12_feed_97 (e_ishr dX12_feed_98 (e_sipush (v := 255) dX12_feed_99 (by decide) (e_iand dX12_feed_102 (e_iastore dX12_feed_103 (e_aload_n dX12_feed_104 rfl (e_dup dX12_feed_105 (e_getI rfl cl_11 (by decide) rfl q_1565 dX12_feed_106 (e_iconst (v := 1) dX12_feed_109 (by decide) (e_iadd dX12_feed_110 (e_putI rfl cl_11 (by decide) rfl rfl rfl q_1565 dX12_feed_111 (e_iinc (v := 1) dX12_feed_114 (by decide) (by decide) (e_goto (tgt := 23) dX12_feed_117 (by decide) (fun _ _ _ h9 => h9))))))))))))))))))))))))))))))))))
theorem dX12_byteAt_0 : decode cX12_byteAt 0 = .ok (.iload_n 1, 1) := by decide +kernel
theorem dX12_byteAt_1 : decode cX12_byteAt 1 = .ok (.aload_n 0, 1) := by decide +kernel
theorem dX12_byteAt_2 : decode cX12_byteAt 2 = .ok (.getfield 121, 3) := by decide +kernel
theorem dX12_byteAt_5 : decode cX12_byteAt 5 = .ok (.if_icmp .lt 7, 3) := by decide +kernel
theorem dX12_byteAt_8 : decode cX12_byteAt 8 = .ok (.iconst (-1), 1) := by decide +kernel
theorem dX12_byteAt_9 : decode cX12_byteAt 9 = .ok (.goto 9, 3) := by decide +kernel
theorem dX12_byteAt_12 : decode cX12_byteAt 12 = .ok (.aload_n 0, 1) := by decide +kernel
theorem dX12_byteAt_13 : decode cX12_byteAt 13 = .ok (.getfield 13, 3) := by decide +kernel
theorem dX12_byteAt_16 : decode cX12_byteAt 16 = .ok (.iload_n 1, 1) := by decide +kernel
theorem dX12_byteAt_17 : decode cX12_byteAt 17 = .ok (.iaload, 1) := by decide +kernel
theorem dX12_byteAt_18 : decode cX12_byteAt 18 = .ok (.ireturn, 1) := by decide +kernel
set_option maxRecDepth 100000 in
theorem T_X12_byteAt_0 {G : GE} {d C S : Nat} {ρ : Rs} : Snd G MX12_byteAt d C S 0 ρ (s_iload 1 (s_aload 0 (s_getI 11 2 (s_ic_lt (s_aload 0 (s_getR 11 9 (s_iload 1 (s_iaload (s_ireturn ρ))))) (s_iconst (-1) (s_ireturn ρ)))))) := (e_iload_n dX12_byteAt_0 rfl (e_aload_n dX12_byteAt_1 rfl (e_getI rfl cl_11 (by decide) rfl q_1566 dX12_byteAt_2 (e_ic_lt (tgt := 12) dX12_byteAt_5 (by decide) (e_aload_n dX12_byteAt_12 rfl (e_getR rfl cl_11 (by decide) rfl q_1573 dX12_byteAt_13 (e_iload_n dX12_byteAt_16 rfl (e_iaload dX12_byteAt_17 (e_ireturn rfl dX12_byteAt_18))))) (e_iconst (v := (-1)) dX12_byteAt_8 (by decide) (e_goto (tgt := 18) dX12_byteAt_9 (by decide) (e_ireturn rfl dX12_byteAt_18)))))))
theorem dX12_blanks_0 : decode cX12_blanks 0 = .ok (.aload_n 0, 1) := by decide +kernel
theorem dX12_blanks_1 : decode cX12_blanks 1 = .ok (.aload_n 0, 1) := by decide +kernel
theorem dX12_blanks_2 : decode cX12_blanks 2 = .ok (.getfield 124, 3) := by decide +kernel
theorem dX12_blanks_5 : decode cX12_blanks 5 = .ok (.invokevirtual 127, 3) := by decide +kernel
theorem dX12_blanks_8 : decode cX12_blanks 8 = .ok (.bipush 32, 2) := by decide +kernel
theorem dX12_blanks_10 : decode cX12_blanks 10 = .ok (.if_icmp .ne 16, 3) := by decide +kernel
theorem dX12_blanks_13 : decode cX12_blanks 13 = .ok (.aload_n 0, 1) := by decide +kernel
theorem dX12_blanks_14 : decode cX12_blanks 14 = .ok (.dup, 1) := by decide +kernel
theorem dX12_blanks_15 : decode cX12_blanks 15 = .ok (.getfield 124, 3) := by decide +kernel
theorem dX12_blanks_18 : decode cX12_blanks 18 = .ok (.iconst 1, 1) := by decide +kernel
theorem dX12_blanks_19 : decode cX12_blanks 19 = .ok (.iadd, 1) := by decide +kernel
theorem dX12_blanks_20 : decode cX12_blanks 20 = .ok (.putfield 124, 3) := by decide +kernel
theorem dX12_blanks_23 : decode cX12_blanks 23 = .ok (.goto (-23), 3) := by decide +kernel
theorem dX12_blanks_26 : decode cX12_blanks 26 = .ok (.return_, 1) := by decide +kernel
set_option maxRecDepth 100000 in
theorem T_X12_blanks_0 {G : GE} {d C S : Nat} {ρ : Rs} : Snd G MX12_blanks (d + 1) C S 0 ρ (s_aload 0 (s_aload 0 (s_getI 11 4 (s_callV G d MX12_byteAt 1 11 (s_iconst 32 (s_ic_ne (s_return ρ) (s_aload 0 (s_dup (s_getI 11 4 (s_iconst 1 (s_iadd (s_putI 11 4 (fun L st h => E G MX12_blanks (d + 1) C S 0 L st h ρ))))))))))))) := (e_aload_n dX12_blanks_0 rfl (e_aload_n dX12_blanks_1 rfl (e_getI rfl cl_11 (by decide) rfl q_1568 dX12_blanks_2 (e_callV cl_11 cal_X12_byteAt q_1754 q_1756 q_56 dX12_blanks_5 (e_bipush (v := 32) dX12_blanks_8 (by decide) (e_ic_ne (tgt := 26) dX12_blanks_10 (by decide) (e_return rfl dX12_blanks_26) (e_aload_n dX12_blanks_13 rfl (e_dup dX12_blanks_14 (e_getI rfl cl_11 (by decide) rfl q_1568 dX12_blanks_15 (e_iconst (v := 1) dX12_blanks_18 (by decide) (e_iadd dX12_blanks_19 (e_putI rfl cl_11 (by decide) rfl rfl rfl q_1568 dX12_blanks_20 (e_goto (tgt := 0) dX12_blanks_23 (by decide) (fun _ _ _ h9 => h9))))))))))))))
theorem dX12_wrong_0 : decode cX12_wrong 0 = .ok (.aload_n 0, 1) := by decide +kernel
theorem dX12_wrong_1 : decode cX12_wrong 1 = .ok (.getfield 131, 3) := by decide +kernel
theorem dX12_wrong_4 : decode cX12_wrong 4 = .ok (.ifCond .ne 13, 3) := by decide +kernel
theorem dX12_wrong_7 : decode cX12_wrong 7 = .ok (.aload_n 0, 1) := by decide +kernel
theorem dX12_wrong_8 : decode cX12_wrong 8 = .ok (.iload_n 1, 1) := by decide +kernel
theorem dX12_wrong_9 : decode cX12_wrong 9 = .ok (.putfield 131, 3) := by decide +kernel
theorem dX12_wrong_12 : decode cX12_wrong 12 = .ok (.aload_n 0, 1) := by decide +kernel
theorem dX12_wrong_13 : decode cX12_wrong 13 = .ok (.iload_n 2, 1) := by decide +kernel
theorem dX12_wrong_14 : decode cX12_wrong 14 = .ok (.putfield 134, 3) := by decide +kernel
theorem dX12_wrong_17 : decode cX12_wrong 17 = .ok (.return_, 1) := by decide +kernel
set_option maxRecDepth 100000 in
theorem T_X12_wrong_0 {G : GE} {d C S : Nat} {ρ : Rs} : Snd G MX12_wrong d C S 0 ρ (s_aload 0 (s_getI 11 5 (s_if_ne (s_return ρ) (s_aload 0 (s_iload 1 (s_putI 11 5 (s_aload 0 (s_iload 2 (s_putI 11 6 (s_return ρ)))))))))) := (e_aload_n dX12_wrong_0 rfl (e_getI rfl cl_11 (by decide) rfl q_1569 dX12_wrong_1 (e_if_ne (tgt := 17) dX12_wrong_4 (by decide) (e_return rfl dX12_wrong_17) (e_aload_n dX12_wrong_7 rfl (e_iload_n dX12_wrong_8 rfl (e_putI rfl cl_11 (by decide) rfl rfl rfl q_1569 dX12_wrong_9 (e_aload_n dX12_wrong_12 rfl (e_iload_n dX12_wrong_13 rfl (e_putI rfl cl_11 (by decide) rfl rfl rfl q_1570 dX12_wrong_14 (e_return rfl dX12_wrong_17))))))))))
theorem dX12_isDigit_0 : decode cX12_isDigit 0 = .ok (.iload_n 0, 1) := by decide +kernel
theorem dX12_isDigit_1 : decode cX12_isDigit 1 = .ok (.bipush 48, 2) := by decide +kernel
theorem dX12_isDigit_3 : decode cX12_isDigit 3 = .ok (.if_icmp .lt 13, 3) := by decide +kernel
theorem dX12_isDigit_6 : decode cX12_isDigit 6 = .ok (.iload_n 0, 1) := by decide +kernel
theorem dX12_isDigit_7 : decode cX12_isDigit 7 = .ok (.bipush 57, 2) := by decide +kernel
theorem dX12_isDigit_9 : decode cX12_isDigit 9 = .ok (.if_icmp .gt 7, 3) := by decide +kernel
theorem dX12_isDigit_12 : decode cX12_isDigit 12 = .ok (.iconst 1, 1) := by decide +kernel
theorem dX12_isDigit_13 : decode cX12_isDigit 13 = .ok (.goto 4, 3) := by decide +kernel
theorem dX12_isDigit_16 : decode cX12_isDigit 16 = .ok (.iconst 0, 1) := by decide +kernel
theorem dX12_isDigit_17 : decode cX12_isDigit 17 = .ok (.ireturn, 1) := by decide +kernel
set_option maxRecDepth 100000 in
theorem T_X12_isDigit_0 {G : GE} {d C S : Nat} {ρ : Rs} : Snd G MX12_isDigit d C S 0 ρ (s_iload 0 (s_iconst 48 (s_ic_lt (s_iconst 0 (s_zreturn ρ)) (s_iload 0 (s_iconst 57 (s_ic_gt (s_iconst 0 (s_zreturn ρ)) (s_iconst 1 (s_zreturn ρ)))))))) := (e_iload_n dX12_isDigit_0 rfl (e_bipush (v := 48) dX12_isDigit_1 (by decide) (e_ic_lt (tgt := 16) dX12_isDigit_3 (by decide) (e_iconst (v := 0) dX12_isDigit_16 (by decide) (e_zreturn rfl dX12_isDigit_17)) (e_iload_n dX12_isDigit_6 rfl (e_bipush (v := 57) dX12_isDigit_7 (by decide) (e_ic_gt (tgt := 16) dX12_isDigit_9 (by decide) (e_iconst (v := 0) dX12_isDigit_16 (by decide) (e_zreturn rfl dX12_isDigit_17)) (e_iconst (v := 1) dX12_isDigit_12 (by decide) (e_goto (tgt := 17) dX12_isDigit_13 (by decide) (e_zreturn rfl dX12_isDigit_17)))))))))
theorem dX12_isSmall_0 : decode cX12_isSmall 0 = .ok (.iload_n 0, 1) := by decide +kernel
theorem dX12_isSmall_1 : decode cX12_isSmall 1 = .ok (.bipush 97, 2) := by decide +kernel
theorem dX12_isSmall_3 : decode cX12_isSmall 3 = .ok (.if_icmp .lt 13, 3) := by decide +kernel
theorem dX12_isSmall_6 : decode cX12_isSmall 6 = .ok (.iload_n 0, 1) := by decide +kernel
theorem dX12_isSmall_7 : decode cX12_isSmall 7 = .ok (.bipush 122, 2) := by decide +kernel
theorem dX12_isSmall_9 : decode cX12_isSmall 9 = .ok (.if_icmp .gt 7, 3) := by decide +kernel
theorem dX12_isSmall_12 : decode cX12_isSmall 12 = .ok (.iconst 1, 1) := by decide +kernel
theorem dX12_isSmall_13 : decode cX12_isSmall 13 = .ok (.goto 4, 3) := by decide +kernel
theorem dX12_isSmall_16 : decode cX12_isSmall 16 = .ok (.iconst 0, 1) := by decide +kernel
theorem dX12_isSmall_17 : decode cX12_isSmall 17 = .ok (.ireturn, 1) := by decide +kernel
set_option maxRecDepth 100000 in
theorem T_X12_isSmall_0 {G : GE} {d C S : Nat} {ρ : Rs} : Snd G MX12_isSmall d C S 0 ρ (s_iload 0 (s_iconst 97 (s_ic_lt (s_iconst 0 (s_zreturn ρ)) (s_iload 0 (s_iconst 122 (s_ic_gt (s_iconst 0 (s_zreturn ρ)) (s_iconst 1 (s_zreturn ρ)))))))) := (e_iload_n dX12_isSmall_0 rfl (e_bipush (v := 97) dX12_isSmall_1 (by decide) (e_ic_lt (tgt := 16) dX12_isSmall_3 (by decide) (e_iconst (v := 0) dX12_isSmall_16 (by decide) (e_zreturn rfl dX12_isSmall_17)) (e_iload_n dX12_isSmall_6 rfl (e_bipush (v := 122) dX12_isSmall_7 (by decide) (e_ic_gt (tgt := 16) dX12_isSmall_9 (by decide) (e_iconst (v := 0) dX12_isSmall_16 (by decide) (e_zreturn rfl dX12_isSmall_17)) (e_iconst (v := 1) dX12_isSmall_12 (by decide) (e_goto (tgt := 17) dX12_isSmall_13 (by decide) (e_zreturn rfl dX12_isSmall_17)))))))))
theorem dX12_numberHere_0 : decode cX12_numberHere 0 = .ok (.aload_n 0, 1) := by decide +kernel
theorem dX12_numberHere_1 : decode cX12_numberHere 1 = .ok (.getfield 131, 3) := by decide +kernel
theorem dX12_numberHere_4 : decode cX12_numberHere 4 = .ok (.ifCond .eq 5, 3) := by decide +kernel
theorem dX12_numberHere_7 : decode cX12_numberHere 7 = .ok (.iconst 0, 1) := by decide +kernel
theorem dX12_numberHere_8 : decode cX12_numberHere 8 = .ok (.ireturn, 1) := by decide +kernel
theorem dX12_numberHere_9 : decode cX12_numberHere 9 = .ok (.aload_n 0, 1) := by decide +kernel
theorem dX12_numberHere_10 : decode cX12_numberHere 10 = .ok (.invokevirtual 137, 3) := by decide +kernel
theorem dX12_numberHere_13 : decode cX12_numberHere 13 = .ok (.aload_n 0, 1) := by decide +kernel
theorem dX12_numberHere_14 : decode cX12_numberHere 14 = .ok (.getfield 124, 3) := by decide +kernel
theorem dX12_numberHere_17 : decode cX12_numberHere 17 = .ok (.istore_n 3, 1) := by decide +kernel
theorem dX12_numberHere_18 : decode cX12_numberHere 18 = .ok (.iconst 0, 1) := by decide +kernel
theorem dX12_numberHere_19 : decode cX12_numberHere 19 = .ok (.istore 4, 2) := by decide +kernel
theorem dX12_numberHere_21 : decode cX12_numberHere 21 = .ok (.aload_n 0, 1) := by decide +kernel
theorem dX12_numberHere_22 : decode cX12_numberHere 22 = .ok (.aload_n 0, 1) := by decide +kernel
theorem dX12_numberHere_23 : decode cX12_numberHere 23 = .ok (.getfield 124, 3) := by decide +kernel
theorem dX12_numberHere_26 : decode cX12_numberHere 26 = .ok (.invokevirtual 127, 3) := by decide +kernel
theorem dX12_numberHere_29 : decode cX12_numberHere 29 = .ok (.invokestatic 140, 3) := by decide +kernel
theorem dX12_numberHere_32 : decode cX12_numberHere 32 = .ok (.ifCond .ne 12, 3) := by decide +kernel
theorem dX12_numberHere_35 : decode cX12_numberHere 35 = .ok (.aload_n 0, 1) := by decide +kernel
theorem dX12_numberHere_36 : decode cX12_numberHere 36 = .ok (.iconst 1, 1) := by decide +kernel
theorem dX12_numberHere_37 : decode cX12_numberHere 37 = .ok (.aload_n 0, 1) := by decide +kernel
theorem dX12_numberHere_38 : decode cX12_numberHere 38 = .ok (.getfield 124, 3) := by decide +kernel
theorem dX12_numberHere_41 : decode cX12_numberHere 41 = .ok (.invokevirtual 144, 3) := by decide +kernel
theorem dX12_numberHere_44 : decode cX12_numberHere 44 = .ok (.aload_n 0, 1) := by decide +kernel
theorem dX12_numberHere_45 : decode cX12_numberHere 45 = .ok (.aload_n 0, 1) := by decide +kernel
theorem dX12_numberHere_46 : decode cX12_numberHere 46 = .ok (.getfield 124, 3) := by decide +kernel
theorem dX12_numberHere_49 : decode cX12_numberHere 49 = .ok (.invokevirtual 127, 3) := by decide +kernel
theorem dX12_numberHere_52 : decode cX12_numberHere 52 = .ok (.invokestatic 140, 3) := by decide +kernel
theorem dX12_numberHere_55 : decode cX12_numberHere 55 = .ok (.ifCond .eq 51, 3) := by decide +kernel
theorem dX12_numberHere_58 : decode cX12_numberHere 58 = .ok (.bipush 10, 2) := by decide +kernel
theorem dX12_numberHere_60 : decode cX12_numberHere 60 = .ok (.iload 4, 2) := by decide +kernel
theorem dX12_numberHere_62 : decode cX12_numberHere 62 = .ok (.imul, 1) := by decide +kernel
theorem dX12_numberHere_63 : decode cX12_numberHere 63 = .ok (.aload_n 0, 1) := by decide +kernel
theorem dX12_numberHere_64 : decode cX12_numberHere 64 = .ok (.aload_n 0, 1) := by decide +kernel
theorem dX12_numberHere_65 : decode cX12_numberHere 65 = .ok (.getfield 124, 3) := by decide +kernel
theorem dX12_numberHere_68 : decode cX12_numberHere 68 = .ok (.invokevirtual 127, 3) := by decide +kernel
theorem dX12_numberHere_71 : decode cX12_numberHere 71 = .ok (.iadd, 1) := by decide +kernel
theorem dX12_numberHere_72 : decode cX12_numberHere 72 = .ok (.bipush 48, 2) := by decide +kernel
theorem dX12_numberHere_74 : decode cX12_numberHere 74 = .ok (.isub, 1) := by decide +kernel
theorem dX12_numberHere_75 : decode cX12_numberHere 75 = .ok (.istore 4, 2) := by decide +kernel
theorem dX12_numberHere_77 : decode cX12_numberHere 77 = .ok (.iload 4, 2) := by decide +kernel
theorem dX12_numberHere_79 : decode cX12_numberHere 79 = .ok (.ldc 148, 2) := by decide +kernel
theorem dX12_numberHere_81 : decode cX12_numberHere 81 = .ok (.if_icmp .le 8, 3) := by decide +kernel
theorem dX12_numberHere_84 : decode cX12_numberHere 84 = .ok (.ldc 148, 2) := by decide +kernel
theorem dX12_numberHere_86 : decode cX12_numberHere 86 = .ok (.goto 5, 3) := by decide +kernel
theorem dX12_numberHere_89 : decode cX12_numberHere 89 = .ok (.iload 4, 2) := by decide +kernel
theorem dX12_numberHere_91 : decode cX12_numberHere 91 = .ok (.istore 4, 2) := by decide +kernel
theorem dX12_numberHere_93 : decode cX12_numberHere 93 = .ok (.aload_n 0, 1) := by decide +kernel
theorem dX12_numberHere_94 : decode cX12_numberHere 94 = .ok (.dup, 1) := by decide +kernel
theorem dX12_numberHere_95 : decode cX12_numberHere 95 = .ok (.getfield 124, 3) := by decide +kernel
theorem dX12_numberHere_98 : decode cX12_numberHere 98 = .ok (.iconst 1, 1) := by decide +kernel
theorem dX12_numberHere_99 : decode cX12_numberHere 99 = .ok (.iadd, 1) := by decide +kernel
theorem dX12_numberHere_100 : decode cX12_numberHere 100 = .ok (.putfield 124, 3) := by decide +kernel
theorem dX12_numberHere_103 : decode cX12_numberHere 103 = .ok (.goto (-59), 3) := by decide +kernel
theorem dX12_numberHere_106 : decode cX12_numberHere 106 = .ok (.iload 4, 2) := by decide +kernel
theorem dX12_numberHere_108 : decode cX12_numberHere 108 = .ok (.iload_n 1, 1) := by decide +kernel
theorem dX12_numberHere_109 : decode cX12_numberHere 109 = .ok (.iload_n 2, 1) := by decide +kernel
theorem dX12_numberHere_110 : decode cX12_numberHere 110 = .ok (.invokestatic 149, 3) := by decide +kernel
theorem dX12_numberHere_113 : decode cX12_numberHere 113 = .ok (.ifCond .ne 9, 3) := by decide +kernel
theorem dX12_numberHere_116 : decode cX12_numberHere 116 = .ok (.aload_n 0, 1) := by decide +kernel
theorem dX12_numberHere_117 : decode cX12_numberHere 117 = .ok (.iconst 2, 1) := by decide +kernel
theorem dX12_numberHere_118 : decode cX12_numberHere 118 = .ok (.iload_n 3, 1) := by decide +kernel
theorem dX12_numberHere_119 : decode cX12_numberHere 119 = .ok (.invokevirtual 144, 3) := by decide +kernel
theorem dX12_numberHere_122 : decode cX12_numberHere 122 = .ok (.aload_n 0, 1) := by decide +kernel
theorem dX12_numberHere_123 : decode cX12_numberHere 123 = .ok (.getfield 131, 3) := by decide +kernel
theorem dX12_numberHere_126 : decode cX12_numberHere 126 = .ok (.ifCond .ne 8, 3) := by decide +kernel
theorem dX12_numberHere_129 : decode cX12_numberHere 129 = .ok (.iload 4, 2) := by decide +kernel
theorem dX12_numberHere_131 : decode cX12_numberHere 131 = .ok (.goto 4, 3) := by decide +kernel
theorem dX12_numberHere_134 : decode cX12_numberHere 134 = .ok (.iconst 0, 1) := by decide +kernel
theorem dX12_numberHere_135 : decode cX12_numberHere 135 = .ok (.ireturn, 1) := by decide +kernel
set_option maxRecDepth 100000 in
theorem T_X12_numberHere_0 {G : GE} {d C S : Nat} {ρ : Rs} : Snd G MX12_numberHere (d + 1) C S 0 ρ (s_aload 0 (s_getI 11 5 (s_if_eq (s_aload 0 (s_callV G d MX12_blanks 0 11 (s_aload 0 (s_getI 11 4 (s_istore 3 (s_iconst 0 (s_istore 4 (s_aload 0 (s_aload 0 (s_getI 11 4 (s_callV G d MX12_byteAt 1 11 (s_call G d MX12_isDigit 1 (s_if_ne (fun L st h => E G MX12_numberHere (d + 1) C S 44 L st h ρ) (s_aload 0 (s_iconst 1 (s_aload 0 (s_getI 11 4 (s_callV G d MX12_wrong 2 11 (fun L st h => E G MX12_numberHere (d + 1) C S 44 L st h ρ))))))))))))))))))) (s_iconst 0 (s_ireturn ρ))))) := (e_aload_n dX12_numberHere_0 rfl (e_getI rfl cl_11 (by decide) rfl q_1569 dX12_numberHere_1 (e_if_eq (tgt := 9) dX12_numberHere_4 (by decide) (e_aload_n dX12_numberHere_9 rfl (e_callV cl_11 cal_X12_blanks q_1750 q_1752 q_55 dX12_numberHere_10 (e_aload_n dX12_numberHere_13 rfl (e_getI rfl cl_11 (by decide) rfl q_1568 dX12_numberHere_14 (e_istore_n dX12_numberHere_17 rfl (by decide) (e_iconst (v := 0) dX12_numberHere_18 (by decide) (e_istore dX12_numberHere_19 (by decide) (e_aload_n dX12_numberHere_21 rfl (e_aload_n dX12_numberHere_22 rfl (e_getI rfl cl_11 (by decide) rfl q_1568 dX12_numberHere_23 (e_callV cl_11 cal_X12_byteAt q_1754 q_1756 q_56 dX12_numberHere_26 (e_callS cal_X12_isDigit q_1795 q_1796 dX12_numberHere_29 (e_if_ne (tgt := 44) dX12_numberHere_32 (by decide) (fun _ _ _ h9 => h9) (e_aload_n dX12_numberHere_35 rfl (e_iconst (v := 1) dX12_numberHere_36 (by decide) (e_aload_n dX12_numberHere_37 rfl (e_getI rfl cl_11 (by decide) rfl q_1568 dX12_numberHere_38 (e_callV cl_11 cal_X12_wrong q_1783 q_1785 q_61 dX12_numberHere_41 (fun _ _ _ h9 => h9))))))))))))))))))) (e_iconst (v := 0) dX12_numberHere_7 (by decide) (e_ireturn rfl dX12_numberHere_8)))))
set_option maxRecDepth 100000 in
theorem T_X12_numberHere_44 {G : GE} {d C S : Nat} {ρ : Rs} : Snd G MX12_numberHere (d + 1) C S 44 ρ (s_aload 0 (s_aload 0 (s_getI 11 4 (s_callV G d MX12_byteAt 1 11 (s_call G d MX12_isDigit 1 (s_if_eq (s_iload 4 (s_iload 1 (s_iload 2 (s_call G d MX12_in 3 (s_if_ne (s_aload 0 (s_getI 11 5 (s_if_ne (s_iconst 0 (s_ireturn ρ)) (s_iload 4 (s_ireturn ρ))))) (s_aload 0 (s_iconst 2 (s_iload 3 (s_callV G d MX12_wrong 2 11 (s_aload 0 (s_getI 11 5 (s_if_ne (s_iconst 0 (s_ireturn ρ)) (s_iload 4 (s_ireturn ρ)))))))))))))) (s_iconst 10 (s_iload 4 (s_imul (s_aload 0 (s_aload 0 (s_getI 11 4 (s_callV G d MX12_byteAt 1 11 (s_iadd (s_iconst 48 (s_isub (s_istore 4 (s_iload 4 (s_iconst 100000 (s_ic_le (s_iload 4 (s_istore 4 (s_aload 0 (s_dup (s_getI 11 4 (s_iconst 1 (s_iadd (s_putI 11 4 (fun L st h => E G MX12_numberHere (d + 1) C S 44 L st h ρ))))))))) (s_iconst 100000 (s_istore 4 (s_aload 0 (s_dup (s_getI 11 4 (s_iconst 1 (s_iadd (s_putI 11 4 (fun L st h => E G MX12_numberHere (d + 1) C S 44 L st h ρ))))))))))))))))))))))))))))) := (e_aload_n dX12_numberHere_44 rfl (e_aload_n dX12_numberHere_45 rfl (e_getI rfl cl_11 (by decide) rfl q_1568 dX12_numberHere_46 (e_callV cl_11 cal_X12_byteAt q_1754 q_1756 q_56 dX12_numberHere_49 (e_callS cal_X12_isDigit q_1795 q_1796 dX12_numberHere_52 (e_if_eq (tgt := 106) dX12_numberHere_55 (by decide) (e_iload dX12_numberHere_106 (e_iload_n dX12_numberHere_108 rfl (e_iload_n dX12_numberHere_109 rfl (e_callS cal_X12_in q_1739 q_1740 dX12_numberHere_110 (e_if_ne (tgt := 122) dX12_numberHere_113 (by decide) (e_aload_n dX12_numberHere_122 rfl (e_getI rfl cl_11 (by decide) rfl q_1569 dX12_numberHere_123 (e_if_ne (tgt := 134) dX12_numberHere_126 (by decide) (e_iconst (v := 0) dX12_numberHere_134 (by decide) (e_ireturn rfl dX12_numberHere_135)) (e_iload dX12_numberHere_129 (e_goto (tgt := 135) dX12_numberHere_131 (by decide) (e_ireturn rfl dX12_numberHere_135)))))) (e_aload_n dX12_numberHere_116 rfl (e_iconst (v := 2) dX12_numberHere_117 (by decide) (e_iload_n dX12_numberHere_118 rfl (e_callV cl_11 cal_X12_wrong q_1783 q_1785 q_61 dX12_numberHere_119 (e_aload_n dX12_numberHere_122 rfl (e_getI rfl cl_11 (by decide) rfl q_1569 dX12_numberHere_123 (e_if_ne (tgt := 134) dX12_numberHere_126 (by decide) (e_iconst (v := 0) dX12_numberHere_134 (by decide) (e_ireturn rfl dX12_numberHere_135)) (e_iload dX12_numberHere_129 (e_goto (tgt := 135) dX12_numberHere_131 (by decide) (e_ireturn rfl dX12_numberHere_135))))))))))))))) (e_bipush (v := 10) dX12_numberHere_58 (by decide) (e_iload dX12_numberHere_60 (e_imul dX12_numberHere_62 (e_aload_n dX12_numberHere_63 rfl (e_aload_n dX12_numberHere_64 rfl (e_getI rfl cl_11 (by decide) rfl q_1568 dX12_numberHere_65 (e_callV cl_11 cal_X12_byteAt q_1754 q_1756 q_56 dX12_numberHere_68 (e_iadd dX12_numberHere_71 (e_bipush (v := 48) dX12_numberHere_72 (by decide) (e_isub dX12_numberHere_74 (e_istore dX12_numberHere_75 (by decide) (e_iload dX12_numberHere_77 (e_ldc q_1798 dX12_numberHere_79 (e_ic_le (tgt := 89) dX12_numberHere_81 (by decide) (e_iload dX12_numberHere_89 (e_istore dX12_numberHere_91 (by decide) (e_aload_n dX12_numberHere_93 rfl (e_dup dX12_numberHere_94 (e_getI rfl cl_11 (by decide) rfl q_1568 dX12_numberHere_95 (e_iconst (v := 1) dX12_numberHere_98 (by decide) (e_iadd dX12_numberHere_99 (e_putI rfl cl_11 (by decide) rfl rfl rfl q_1568 dX12_numberHere_100 (e_goto (tgt := 44) dX12_numberHere_103 (by decide) (fun _ _ _ h9 => h9)))))))))) (e_ldc q_1798 dX12_numberHere_84 (e_goto (tgt := 91) dX12_numberHere_86 (by decide) (e_istore dX12_numberHere_91 (by decide) (e_aload_n dX12_numberHere_93 rfl (e_dup dX12_numberHere_94 (e_getI rfl cl_11 (by decide) rfl q_1568 dX12_numberHere_95 (e_iconst (v := 1) dX12_numberHere_98 (by decide) (e_iadd dX12_numberHere_99 (e_putI rfl cl_11 (by decide) rfl rfl rfl q_1568 dX12_numberHere_100 (e_goto (tgt := 44) dX12_numberHere_103 (by decide) (fun _ _ _ h9 => h9)))))))))))))))))))))))))))))))
theorem dX12_wordHere_0 : decode cX12_wordHere 0 = .ok (.aload_n 0, 1) := by decide +kernel
theorem dX12_wordHere_1 : decode cX12_wordHere 1 = .ok (.invokevirtual 137, 3) := by decide +kernel
theorem dX12_wordHere_4 : decode cX12_wordHere 4 = .ok (.lconst 0, 1) := by decide +kernel
theorem dX12_wordHere_5 : decode cX12_wordHere 5 = .ok (.lstore_n 1, 1) := by decide +kernel
theorem dX12_wordHere_6 : decode cX12_wordHere 6 = .ok (.iconst 0, 1) := by decide +kernel
theorem dX12_wordHere_7 : decode cX12_wordHere 7 = .ok (.istore_n 3, 1) := by decide +kernel
theorem dX12_wordHere_8 : decode cX12_wordHere 8 = .ok (.aload_n 0, 1) := by decide +kernel
theorem dX12_wordHere_9 : decode cX12_wordHere 9 = .ok (.aload_n 0, 1) := by decide +kernel
theorem dX12_wordHere_10 : decode cX12_wordHere 10 = .ok (.getfield 124, 3) := by decide +kernel
theorem dX12_wordHere_13 : decode cX12_wordHere 13 = .ok (.iload_n 3, 1) := by decide +kernel
theorem dX12_wordHere_14 : decode cX12_wordHere 14 = .ok (.iadd, 1) := by decide +kernel
theorem dX12_wordHere_15 : decode cX12_wordHere 15 = .ok (.invokevirtual 127, 3) := by decide +kernel
theorem dX12_wordHere_18 : decode cX12_wordHere 18 = .ok (.invokestatic 153, 3) := by decide +kernel
theorem dX12_wordHere_21 : decode cX12_wordHere 21 = .ok (.ifCond .eq 43, 3) := by decide +kernel
theorem dX12_wordHere_24 : decode cX12_wordHere 24 = .ok (.iload_n 3, 1) := by decide +kernel
theorem dX12_wordHere_25 : decode cX12_wordHere 25 = .ok (.bipush 7, 2) := by decide +kernel
theorem dX12_wordHere_27 : decode cX12_wordHere 27 = .ok (.if_icmp .ge 29, 3) := by decide +kernel
theorem dX12_wordHere_30 : decode cX12_wordHere 30 = .ok (.ldc2_w 156, 3) := by decide +kernel
theorem dX12_wordHere_33 : decode cX12_wordHere 33 = .ok (.lload_n 1, 1) := by decide +kernel
theorem dX12_wordHere_34 : decode cX12_wordHere 34 = .ok (.lmul, 1) := by decide +kernel
theorem dX12_wordHere_35 : decode cX12_wordHere 35 = .ok (.aload_n 0, 1) := by decide +kernel
theorem dX12_wordHere_36 : decode cX12_wordHere 36 = .ok (.aload_n 0, 1) := by decide +kernel
theorem dX12_wordHere_37 : decode cX12_wordHere 37 = .ok (.getfield 124, 3) := by decide +kernel
theorem dX12_wordHere_40 : decode cX12_wordHere 40 = .ok (.iload_n 3, 1) := by decide +kernel
theorem dX12_wordHere_41 : decode cX12_wordHere 41 = .ok (.iadd, 1) := by decide +kernel
theorem dX12_wordHere_42 : decode cX12_wordHere 42 = .ok (.invokevirtual 127, 3) := by decide +kernel
theorem dX12_wordHere_45 : decode cX12_wordHere 45 = .ok (.i2l, 1) := by decide +kernel
theorem dX12_wordHere_46 : decode cX12_wordHere 46 = .ok (.ladd, 1) := by decide +kernel
theorem dX12_wordHere_47 : decode cX12_wordHere 47 = .ok (.ldc2_w 158, 3) := by decide +kernel
theorem dX12_wordHere_50 : decode cX12_wordHere 50 = .ok (.lsub, 1) := by decide +kernel
theorem dX12_wordHere_51 : decode cX12_wordHere 51 = .ok (.lconst 1, 1) := by decide +kernel
theorem dX12_wordHere_52 : decode cX12_wordHere 52 = .ok (.ladd, 1) := by decide +kernel
theorem dX12_wordHere_53 : decode cX12_wordHere 53 = .ok (.goto 4, 3) := by decide +kernel
theorem dX12_wordHere_56 : decode cX12_wordHere 56 = .ok (.lload_n 1, 1) := by decide +kernel
theorem dX12_wordHere_57 : decode cX12_wordHere 57 = .ok (.lstore_n 1, 1) := by decide +kernel
theorem dX12_wordHere_58 : decode cX12_wordHere 58 = .ok (.iinc 3 1, 3) := by decide +kernel
theorem dX12_wordHere_61 : decode cX12_wordHere 61 = .ok (.goto (-53), 3) := by decide +kernel
theorem dX12_wordHere_64 : decode cX12_wordHere 64 = .ok (.iload_n 3, 1) := by decide +kernel
theorem dX12_wordHere_65 : decode cX12_wordHere 65 = .ok (.bipush 7, 2) := by decide +kernel
theorem dX12_wordHere_67 : decode cX12_wordHere 67 = .ok (.if_icmp .le 9, 3) := by decide +kernel
theorem dX12_wordHere_70 : decode cX12_wordHere 70 = .ok (.ldc2_w 160, 3) := by decide +kernel
theorem dX12_wordHere_73 : decode cX12_wordHere 73 = .ok (.goto 4, 3) := by decide +kernel
theorem dX12_wordHere_76 : decode cX12_wordHere 76 = .ok (.lload_n 1, 1) := by decide +kernel
theorem dX12_wordHere_77 : decode cX12_wordHere 77 = .ok (.lreturn, 1) := by decide +kernel
set_option maxRecDepth 100000 in
theorem T_X12_wordHere_0 {G : GE} {d C S : Nat} {ρ : Rs} : Snd G MX12_wordHere (d + 1) C S 0 ρ (s_aload 0 (s_callV G d MX12_blanks 0 11 (s_lconst 0 (s_lstore 1 (s_iconst 0 (s_istore 3 (fun L st h => E G MX12_wordHere (d + 1) C S 8 L st h ρ))))))) := (e_aload_n dX12_wordHere_0 rfl (e_callV cl_11 cal_X12_blanks q_1750 q_1752 q_55 dX12_wordHere_1 (e_lconst (v := 0) dX12_wordHere_4 (by decide) (e_lstore_n dX12_wordHere_5 rfl (by decide) (e_iconst (v := 0) dX12_wordHere_6 (by decide) (e_istore_n dX12_wordHere_7 rfl (by decide) (fun _ _ _ h9 => h9)))))))
set_option maxRecDepth 100000 in
theorem T_X12_wordHere_8 {G : GE} {d C S : Nat} {ρ : Rs} : Snd G MX12_wordHere (d + 1) C S 8 ρ (s_aload 0 (s_aload 0 (s_getI 11 4 (s_iload 3 (s_iadd (s_callV G d MX12_byteAt 1 11 (s_call G d MX12_isSmall 1 (s_if_eq (s_iload 3 (s_iconst 7 (s_ic_le (s_lload 1 (s_lreturn ρ)) (s_lconst (-1) (s_lreturn ρ))))) (s_iload 3 (s_iconst 7 (s_ic_ge (s_lload 1 (s_lstore 1 (s_iinc 3 1 (fun L st h => E G MX12_wordHere (d + 1) C S 8 L st h ρ)))) (s_lconst 27 (s_lload 1 (s_lmul (s_aload 0 (s_aload 0 (s_getI 11 4 (s_iload 3 (s_iadd (s_callV G d MX12_byteAt 1 11 (s_i2l (s_ladd (s_lconst 97 (s_lsub (s_lconst 1 (s_ladd (s_lstore 1 (s_iinc 3 1 (fun L st h => E G MX12_wordHere (d + 1) C S 8 L st h ρ))))))))))))))))))))))))))))) := (e_aload_n dX12_wordHere_8 rfl (e_aload_n dX12_wordHere_9 rfl (e_getI rfl cl_11 (by decide) rfl q_1568 dX12_wordHere_10 (e_iload_n dX12_wordHere_13 rfl (e_iadd dX12_wordHere_14 (e_callV cl_11 cal_X12_byteAt q_1754 q_1756 q_56 dX12_wordHere_15 (e_callS cal_X12_isSmall q_1774 q_1775 dX12_wordHere_18 (e_if_eq (tgt := 64) dX12_wordHere_21 (by decide) (e_iload_n dX12_wordHere_64 rfl (e_bipush (v := 7) dX12_wordHere_65 (by decide) (e_ic_le (tgt := 76) dX12_wordHere_67 (by decide) (e_lload_n dX12_wordHere_76 rfl (e_lreturn rfl dX12_wordHere_77)) (e_ldc2 q_1779 dX12_wordHere_70 (e_goto (tgt := 77) dX12_wordHere_73 (by decide) (e_lreturn rfl dX12_wordHere_77)))))) (e_iload_n dX12_wordHere_24 rfl (e_bipush (v := 7) dX12_wordHere_25 (by decide) (e_ic_ge (tgt := 56) dX12_wordHere_27 (by decide) (e_lload_n dX12_wordHere_56 rfl (e_lstore_n dX12_wordHere_57 rfl (by decide) (e_iinc (v := 1) dX12_wordHere_58 (by decide) (by decide) (e_goto (tgt := 8) dX12_wordHere_61 (by decide) (fun _ _ _ h9 => h9))))) (e_ldc2 q_1777 dX12_wordHere_30 (e_lload_n dX12_wordHere_33 rfl (e_lmul dX12_wordHere_34 (e_aload_n dX12_wordHere_35 rfl (e_aload_n dX12_wordHere_36 rfl (e_getI rfl cl_11 (by decide) rfl q_1568 dX12_wordHere_37 (e_iload_n dX12_wordHere_40 rfl (e_iadd dX12_wordHere_41 (e_callV cl_11 cal_X12_byteAt q_1754 q_1756 q_56 dX12_wordHere_42 (e_i2l dX12_wordHere_45 (e_ladd dX12_wordHere_46 (e_ldc2 q_1778 dX12_wordHere_47 (e_lsub dX12_wordHere_50 (e_lconst (v := 1) dX12_wordHere_51 (by decide) (e_ladd dX12_wordHere_52 (e_goto (tgt := 57) dX12_wordHere_53 (by decide) (e_lstore_n dX12_wordHere_57 rfl (by decide) (e_iinc (v := 1) dX12_wordHere_58 (by decide) (by decide) (e_goto (tgt := 8) dX12_wordHere_61 (by decide) (fun _ _ _ h9 => h9)))))))))))))))))))))))))))))))
theorem dX12_seven_0 : decode cX12_seven 0 = .ok (.ldc2_w 156, 3) := by decide +kernel
theorem dX12_seven_3 : decode cX12_seven 3 = .ok (.ldc2_w 156, 3) := by decide +kernel
theorem dX12_seven_6 : decode cX12_seven 6 = .ok (.iload_n 0, 1) := by decide +kernel
theorem dX12_seven_7 : decode cX12_seven 7 = .ok (.i2l, 1) := by decide +kernel
theorem dX12_seven_8 : decode cX12_seven 8 = .ok (.lmul, 1) := by decide +kernel
theorem dX12_seven_9 : decode cX12_seven 9 = .ok (.iload_n 1, 1) := by decide +kernel
theorem dX12_seven_10 : decode cX12_seven 10 = .ok (.i2l, 1) := by decide +kernel
theorem dX12_seven_11 : decode cX12_seven 11 = .ok (.ladd, 1) := by decide +kernel
theorem dX12_seven_12 : decode cX12_seven 12 = .ok (.lmul, 1) := by decide +kernel
theorem dX12_seven_13 : decode cX12_seven 13 = .ok (.iload_n 2, 1) := by decide +kernel
theorem dX12_seven_14 : decode cX12_seven 14 = .ok (.i2l, 1) := by decide +kernel
theorem dX12_seven_15 : decode cX12_seven 15 = .ok (.ladd, 1) := by decide +kernel
theorem dX12_seven_16 : decode cX12_seven 16 = .ok (.lstore 7, 2) := by decide +kernel
theorem dX12_seven_18 : decode cX12_seven 18 = .ok (.iload_n 3, 1) := by decide +kernel
theorem dX12_seven_19 : decode cX12_seven 19 = .ok (.ifCond .ne 8, 3) := by decide +kernel
theorem dX12_seven_22 : decode cX12_seven 22 = .ok (.lload 7, 2) := by decide +kernel
theorem dX12_seven_24 : decode cX12_seven 24 = .ok (.goto 12, 3) := by decide +kernel
theorem dX12_seven_27 : decode cX12_seven 27 = .ok (.ldc2_w 156, 3) := by decide +kernel
theorem dX12_seven_30 : decode cX12_seven 30 = .ok (.lload 7, 2) := by decide +kernel
theorem dX12_seven_32 : decode cX12_seven 32 = .ok (.lmul, 1) := by decide +kernel
theorem dX12_seven_33 : decode cX12_seven 33 = .ok (.iload_n 3, 1) := by decide +kernel
theorem dX12_seven_34 : decode cX12_seven 34 = .ok (.i2l, 1) := by decide +kernel
theorem dX12_seven_35 : decode cX12_seven 35 = .ok (.ladd, 1) := by decide +kernel
theorem dX12_seven_36 : decode cX12_seven 36 = .ok (.lstore 7, 2) := by decide +kernel
theorem dX12_seven_38 : decode cX12_seven 38 = .ok (.iload 4, 2) := by decide +kernel
theorem dX12_seven_40 : decode cX12_seven 40 = .ok (.ifCond .ne 8, 3) := by decide +kernel
theorem dX12_seven_43 : decode cX12_seven 43 = .ok (.lload 7, 2) := by decide +kernel
theorem dX12_seven_45 : decode cX12_seven 45 = .ok (.goto 13, 3) := by decide +kernel
theorem dX12_seven_48 : decode cX12_seven 48 = .ok (.ldc2_w 156, 3) := by decide +kernel
theorem dX12_seven_51 : decode cX12_seven 51 = .ok (.lload 7, 2) := by decide +kernel
theorem dX12_seven_53 : decode cX12_seven 53 = .ok (.lmul, 1) := by decide +kernel
theorem dX12_seven_54 : decode cX12_seven 54 = .ok (.iload 4, 2) := by decide +kernel
theorem dX12_seven_56 : decode cX12_seven 56 = .ok (.i2l, 1) := by decide +kernel
theorem dX12_seven_57 : decode cX12_seven 57 = .ok (.ladd, 1) := by decide +kernel
theorem dX12_seven_58 : decode cX12_seven 58 = .ok (.lstore 7, 2) := by decide +kernel
theorem dX12_seven_60 : decode cX12_seven 60 = .ok (.iload 5, 2) := by decide +kernel
theorem dX12_seven_62 : decode cX12_seven 62 = .ok (.ifCond .ne 8, 3) := by decide +kernel
theorem dX12_seven_65 : decode cX12_seven 65 = .ok (.lload 7, 2) := by decide +kernel
theorem dX12_seven_67 : decode cX12_seven 67 = .ok (.goto 13, 3) := by decide +kernel
theorem dX12_seven_70 : decode cX12_seven 70 = .ok (.ldc2_w 156, 3) := by decide +kernel
theorem dX12_seven_73 : decode cX12_seven 73 = .ok (.lload 7, 2) := by decide +kernel
theorem dX12_seven_75 : decode cX12_seven 75 = .ok (.lmul, 1) := by decide +kernel
theorem dX12_seven_76 : decode cX12_seven 76 = .ok (.iload 5, 2) := by decide +kernel
theorem dX12_seven_78 : decode cX12_seven 78 = .ok (.i2l, 1) := by decide +kernel
theorem dX12_seven_79 : decode cX12_seven 79 = .ok (.ladd, 1) := by decide +kernel
theorem dX12_seven_80 : decode cX12_seven 80 = .ok (.lstore 7, 2) := by decide +kernel
theorem dX12_seven_82 : decode cX12_seven 82 = .ok (.iload 6, 2) := by decide +kernel
theorem dX12_seven_84 : decode cX12_seven 84 = .ok (.ifCond .ne 8, 3) := by decide +kernel
theorem dX12_seven_87 : decode cX12_seven 87 = .ok (.lload 7, 2) := by decide +kernel
theorem dX12_seven_89 : decode cX12_seven 89 = .ok (.goto 13, 3) := by decide +kernel
theorem dX12_seven_92 : decode cX12_seven 92 = .ok (.ldc2_w 156, 3) := by decide +kernel
theorem dX12_seven_95 : decode cX12_seven 95 = .ok (.lload 7, 2) := by decide +kernel
theorem dX12_seven_97 : decode cX12_seven 97 = .ok (.lmul, 1) := by decide +kernel
theorem dX12_seven_98 : decode cX12_seven 98 = .ok (.iload 6, 2) := by decide +kernel
theorem dX12_seven_100 : decode cX12_seven 100 = .ok (.i2l, 1) := by decide +kernel
theorem dX12_seven_101 : decode cX12_seven 101 = .ok (.ladd, 1) := by decide +kernel
theorem dX12_seven_102 : decode cX12_seven 102 = .ok (.lreturn, 1) := by decide +kernel
set_option maxRecDepth 100000 in
theorem T_X12_seven_0 {G : GE} {d C S : Nat} {ρ : Rs} : Snd G MX12_seven d C S 0 ρ (s_lconst 27 (s_lconst 27 (s_iload 0 (s_i2l (s_lmul (s_iload 1 (s_i2l (s_ladd (s_lmul (s_iload 2 (s_i2l (s_ladd (s_lstore 7 (s_iload 3 (s_if_ne (s_lconst 27 (s_lload 7 (s_lmul (s_iload 3 (s_i2l (s_ladd (s_lstore 7 (s_iload 4 (s_if_ne (s_lconst 27 (s_lload 7 (s_lmul (s_iload 4 (s_i2l (s_ladd (fun L st h => E G MX12_seven d C S 58 L st h ρ))))))) (s_lload 7 (fun L st h => E G MX12_seven d C S 58 L st h ρ))))))))))) (s_lload 7 (s_lstore 7 (s_iload 4 (s_if_ne (s_lconst 27 (s_lload 7 (s_lmul (s_iload 4 (s_i2l (s_ladd (fun L st h => E G MX12_seven d C S 58 L st h ρ))))))) (s_lload 7 (fun L st h => E G MX12_seven d C S 58 L st h ρ))))))))))))))))))))) := (e_ldc2 q_1777 dX12_seven_0 (e_ldc2 q_1777 dX12_seven_3 (e_iload_n dX12_seven_6 rfl (e_i2l dX12_seven_7 (e_lmul dX12_seven_8 (e_iload_n dX12_seven_9 rfl (e_i2l dX12_seven_10 (e_ladd dX12_seven_11 (e_lmul dX12_seven_12 (e_iload_n dX12_seven_13 rfl (e_i2l dX12_seven_14 (e_ladd dX12_seven_15 (e_lstore dX12_seven_16 (by decide) (e_iload_n dX12_seven_18 rfl (e_if_ne (tgt := 27) dX12_seven_19 (by decide) (e_ldc2 q_1777 dX12_seven_27 (e_lload dX12_seven_30 (e_lmul dX12_seven_32 (e_iload_n dX12_seven_33 rfl (e_i2l dX12_seven_34 (e_ladd dX12_seven_35 (e_lstore dX12_seven_36 (by decide) (e_iload dX12_seven_38 (e_if_ne (tgt := 48) dX12_seven_40 (by decide) (e_ldc2 q_1777 dX12_seven_48 (e_lload dX12_seven_51 (e_lmul dX12_seven_53 (e_iload dX12_seven_54 (e_i2l dX12_seven_56 (e_ladd dX12_seven_57 (fun _ _ _ h9 => h9))))))) (e_lload dX12_seven_43 (e_goto (tgt := 58) dX12_seven_45 (by decide) (fun _ _ _ h9 => h9)))))))))))) (e_lload dX12_seven_22 (e_goto (tgt := 36) dX12_seven_24 (by decide) (e_lstore dX12_seven_36 (by decide) (e_iload dX12_seven_38 (e_if_ne (tgt := 48) dX12_seven_40 (by decide) (e_ldc2 q_1777 dX12_seven_48 (e_lload dX12_seven_51 (e_lmul dX12_seven_53 (e_iload dX12_seven_54 (e_i2l dX12_seven_56 (e_ladd dX12_seven_57 (fun _ _ _ h9 => h9))))))) (e_lload dX12_seven_43 (e_goto (tgt := 58) dX12_seven_45 (by decide) (fun _ _ _ h9 => h9)))))))))))))))))))))))
set_option maxRecDepth 100000 in
theorem T_X12_seven_58 {G : GE} {d C S : Nat} {ρ : Rs} : Snd G MX12_seven d C S 58 ρ (s_lstore 7 (s_iload 5 (s_if_ne (s_lconst 27 (s_lload 7 (s_lmul (s_iload 5 (s_i2l (s_ladd (s_lstore 7 (s_iload 6 (s_if_ne (s_lconst 27 (s_lload 7 (s_lmul (s_iload 6 (s_i2l (s_ladd (s_lreturn ρ))))))) (s_lload 7 (s_lreturn ρ))))))))))) (s_lload 7 (s_lstore 7 (s_iload 6 (s_if_ne (s_lconst 27 (s_lload 7 (s_lmul (s_iload 6 (s_i2l (s_ladd (s_lreturn ρ))))))) (s_lload 7 (s_lreturn ρ))))))))) := (e_lstore dX12_seven_58 (by decide) (e_iload dX12_seven_60 (e_if_ne (tgt := 70) dX12_seven_62 (by decide) (e_ldc2 q_1777 dX12_seven_70 (e_lload dX12_seven_73 (e_lmul dX12_seven_75 (e_iload dX12_seven_76 (e_i2l dX12_seven_78 (e_ladd dX12_seven_79 (e_lstore dX12_seven_80 (by decide) (e_iload dX12_seven_82 (e_if_ne (tgt := 92) dX12_seven_84 (by decide) (e_ldc2 q_1777 dX12_seven_92 (e_lload dX12_seven_95 (e_lmul dX12_seven_97 (e_iload dX12_seven_98 (e_i2l dX12_seven_100 (e_ladd dX12_seven_101 (e_lreturn rfl dX12_seven_102))))))) (e_lload dX12_seven_87 (e_goto (tgt := 102) dX12_seven_89 (by decide) (e_lreturn rfl dX12_seven_102)))))))))))) (e_lload dX12_seven_65 (e_goto (tgt := 80) dX12_seven_67 (by decide) (e_lstore dX12_seven_80 (by decide) (e_iload dX12_seven_82 (e_if_ne (tgt := 92) dX12_seven_84 (by decide) (e_ldc2 q_1777 dX12_seven_92 (e_lload dX12_seven_95 (e_lmul dX12_seven_97 (e_iload dX12_seven_98 (e_i2l dX12_seven_100 (e_ladd dX12_seven_101 (e_lreturn rfl dX12_seven_102))))))) (e_lload dX12_seven_87 (e_goto (tgt := 102) dX12_seven_89 (by decide) (e_lreturn rfl dX12_seven_102)))))))))))
theorem dX12_isWord_0 : decode cX12_isWord 0 = .ok (.aload_n 0, 1) := by decide +kernel
theorem dX12_isWord_1 : decode cX12_isWord 1 = .ok (.getfield 131, 3) := by decide +kernel
theorem dX12_isWord_4 : decode cX12_isWord 4 = .ok (.ifCond .ne 29, 3) := by decide +kernel
theorem dX12_isWord_7 : decode cX12_isWord 7 = .ok (.aload_n 0, 1) := by decide +kernel
theorem dX12_isWord_8 : decode cX12_isWord 8 = .ok (.invokevirtual 162, 3) := by decide +kernel
theorem dX12_isWord_11 : decode cX12_isWord 11 = .ok (.iload_n 1, 1) := by decide +kernel
theorem dX12_isWord_12 : decode cX12_isWord 12 = .ok (.iload_n 2, 1) := by decide +kernel
theorem dX12_isWord_13 : decode cX12_isWord 13 = .ok (.iload_n 3, 1) := by decide +kernel
theorem dX12_isWord_14 : decode cX12_isWord 14 = .ok (.iload 4, 2) := by decide +kernel
theorem dX12_isWord_16 : decode cX12_isWord 16 = .ok (.iload 5, 2) := by decide +kernel
theorem dX12_isWord_18 : decode cX12_isWord 18 = .ok (.iload 6, 2) := by decide +kernel
theorem dX12_isWord_20 : decode cX12_isWord 20 = .ok (.iload 7, 2) := by decide +kernel
theorem dX12_isWord_22 : decode cX12_isWord 22 = .ok (.invokestatic 166, 3) := by decide +kernel
theorem dX12_isWord_25 : decode cX12_isWord 25 = .ok (.lcmp, 1) := by decide +kernel
theorem dX12_isWord_26 : decode cX12_isWord 26 = .ok (.ifCond .ne 7, 3) := by decide +kernel
theorem dX12_isWord_29 : decode cX12_isWord 29 = .ok (.iconst 1, 1) := by decide +kernel
theorem dX12_isWord_30 : decode cX12_isWord 30 = .ok (.goto 4, 3) := by decide +kernel
theorem dX12_isWord_33 : decode cX12_isWord 33 = .ok (.iconst 0, 1) := by decide +kernel
theorem dX12_isWord_34 : decode cX12_isWord 34 = .ok (.ireturn, 1) := by decide +kernel
set_option maxRecDepth 100000 in
theorem T_X12_isWord_0 {G : GE} {d C S : Nat} {ρ : Rs} : Snd G MX12_isWord (d + 1) C S 0 ρ (s_aload 0 (s_getI 11 5 (s_if_ne (s_iconst 0 (s_zreturn ρ)) (s_aload 0 (s_callV G d MX12_wordHere 0 11 (s_iload 1 (s_iload 2 (s_iload 3 (s_iload 4 (s_iload 5 (s_iload 6 (s_iload 7 (s_call G d MX12_seven 7 (s_lcmp (s_if_ne (s_iconst 0 (s_zreturn ρ)) (s_iconst 1 (s_zreturn ρ))))))))))))))))) := (e_aload_n dX12_isWord_0 rfl (e_getI rfl cl_11 (by decide) rfl q_1569 dX12_isWord_1 (e_if_ne (tgt := 33) dX12_isWord_4 (by decide) (e_iconst (v := 0) dX12_isWord_33 (by decide) (e_zreturn rfl dX12_isWord_34)) (e_aload_n dX12_isWord_7 rfl (e_callV cl_11 cal_X12_wordHere q_1770 q_1772 q_60 dX12_isWord_8 (e_iload_n dX12_isWord_11 rfl (e_iload_n dX12_isWord_12 rfl (e_iload_n dX12_isWord_13 rfl (e_iload dX12_isWord_14 (e_iload dX12_isWord_16 (e_iload dX12_isWord_18 (e_iload dX12_isWord_20 (e_callS cal_X12_seven q_1780 q_1781 dX12_isWord_22 (e_lcmp dX12_isWord_25 (e_if_ne (tgt := 33) dX12_isWord_26 (by decide) (e_iconst (v := 0) dX12_isWord_33 (by decide) (e_zreturn rfl dX12_isWord_34)) (e_iconst (v := 1) dX12_isWord_29 (by decide) (e_goto (tgt := 34) dX12_isWord_30 (by decide) (e_zreturn rfl dX12_isWord_34))))))))))))))))))
theorem dX12_skipWord_0 : decode cX12_skipWord 0 = .ok (.aload_n 0, 1) := by decide +kernel
theorem dX12_skipWord_1 : decode cX12_skipWord 1 = .ok (.aload_n 0, 1) := by decide +kernel
theorem dX12_skipWord_2 : decode cX12_skipWord 2 = .ok (.getfield 124, 3) := by decide +kernel
theorem dX12_skipWord_5 : decode cX12_skipWord 5 = .ok (.invokevirtual 127, 3) := by decide +kernel
theorem dX12_skipWord_8 : decode cX12_skipWord 8 = .ok (.invokestatic 153, 3) := by decide +kernel
theorem dX12_skipWord_11 : decode cX12_skipWord 11 = .ok (.ifCond .eq 16, 3) := by decide +kernel
theorem dX12_skipWord_14 : decode cX12_skipWord 14 = .ok (.aload_n 0, 1) := by decide +kernel
theorem dX12_skipWord_15 : decode cX12_skipWord 15 = .ok (.dup, 1) := by decide +kernel
theorem dX12_skipWord_16 : decode cX12_skipWord 16 = .ok (.getfield 124, 3) := by decide +kernel
theorem dX12_skipWord_19 : decode cX12_skipWord 19 = .ok (.iconst 1, 1) := by decide +kernel
theorem dX12_skipWord_20 : decode cX12_skipWord 20 = .ok (.iadd, 1) := by decide +kernel
theorem dX12_skipWord_21 : decode cX12_skipWord 21 = .ok (.putfield 124, 3) := by decide +kernel
theorem dX12_skipWord_24 : decode cX12_skipWord 24 = .ok (.goto (-24), 3) := by decide +kernel
theorem dX12_skipWord_27 : decode cX12_skipWord 27 = .ok (.return_, 1) := by decide +kernel
set_option maxRecDepth 100000 in
theorem T_X12_skipWord_0 {G : GE} {d C S : Nat} {ρ : Rs} : Snd G MX12_skipWord (d + 1) C S 0 ρ (s_aload 0 (s_aload 0 (s_getI 11 4 (s_callV G d MX12_byteAt 1 11 (s_call G d MX12_isSmall 1 (s_if_eq (s_return ρ) (s_aload 0 (s_dup (s_getI 11 4 (s_iconst 1 (s_iadd (s_putI 11 4 (fun L st h => E G MX12_skipWord (d + 1) C S 0 L st h ρ))))))))))))) := (e_aload_n dX12_skipWord_0 rfl (e_aload_n dX12_skipWord_1 rfl (e_getI rfl cl_11 (by decide) rfl q_1568 dX12_skipWord_2 (e_callV cl_11 cal_X12_byteAt q_1754 q_1756 q_56 dX12_skipWord_5 (e_callS cal_X12_isSmall q_1774 q_1775 dX12_skipWord_8 (e_if_eq (tgt := 27) dX12_skipWord_11 (by decide) (e_return rfl dX12_skipWord_27) (e_aload_n dX12_skipWord_14 rfl (e_dup dX12_skipWord_15 (e_getI rfl cl_11 (by decide) rfl q_1568 dX12_skipWord_16 (e_iconst (v := 1) dX12_skipWord_19 (by decide) (e_iadd dX12_skipWord_20 (e_putI rfl cl_11 (by decide) rfl rfl rfl q_1568 dX12_skipWord_21 (e_goto (tgt := 0) dX12_skipWord_24 (by decide) (fun _ _ _ h9 => h9))))))))))))))
theorem dX12_takes_0 : decode cX12_takes 0 = .ok (.aload_n 0, 1) := by decide +kernel
theorem dX12_takes_1 : decode cX12_takes 1 = .ok (.iload_n 1, 1) := by decide +kernel
theorem dX12_takes_2 : decode cX12_takes 2 = .ok (.iload_n 2, 1) := by decide +kernel
theorem dX12_takes_3 : decode cX12_takes 3 = .ok (.iload_n 3, 1) := by decide +kernel
theorem dX12_takes_4 : decode cX12_takes 4 = .ok (.iload 4, 2) := by decide +kernel
theorem dX12_takes_6 : decode cX12_takes 6 = .ok (.iload 5, 2) := by decide +kernel
theorem dX12_takes_8 : decode cX12_takes 8 = .ok (.iload 6, 2) := by decide +kernel
theorem dX12_takes_10 : decode cX12_takes 10 = .ok (.iload 7, 2) := by decide +kernel
theorem dX12_takes_12 : decode cX12_takes 12 = .ok (.invokevirtual 170, 3) := by decide +kernel
theorem dX12_takes_15 : decode cX12_takes 15 = .ok (.istore 8, 2) := by decide +kernel
theorem dX12_takes_17 : decode cX12_takes 17 = .ok (.iload 8, 2) := by decide +kernel
theorem dX12_takes_19 : decode cX12_takes 19 = .ok (.ifCond .eq 7, 3) := by decide +kernel
theorem dX12_takes_22 : decode cX12_takes 22 = .ok (.aload_n 0, 1) := by decide +kernel
theorem dX12_takes_23 : decode cX12_takes 23 = .ok (.invokevirtual 174, 3) := by decide +kernel
theorem dX12_takes_26 : decode cX12_takes 26 = .ok (.iload 8, 2) := by decide +kernel
theorem dX12_takes_28 : decode cX12_takes 28 = .ok (.ireturn, 1) := by decide +kernel
set_option maxRecDepth 100000 in
theorem T_X12_takes_0 {G : GE} {d C S : Nat} {ρ : Rs} : Snd G MX12_takes (d + 1) C S 0 ρ (s_aload 0 (s_iload 1 (s_iload 2 (s_iload 3 (s_iload 4 (s_iload 5 (s_iload 6 (s_iload 7 (s_callV G d MX12_isWord 7 11 (s_istore 8 (s_iload 8 (s_if_eq (s_iload 8 (s_zreturn ρ)) (s_aload 0 (s_callV G d MX12_skipWord 0 11 (s_iload 8 (s_zreturn ρ)))))))))))))))) := (e_aload_n dX12_takes_0 rfl (e_iload_n dX12_takes_1 rfl (e_iload_n dX12_takes_2 rfl (e_iload_n dX12_takes_3 rfl (e_iload dX12_takes_4 (e_iload dX12_takes_6 (e_iload dX12_takes_8 (e_iload dX12_takes_10 (e_callV cl_11 cal_X12_isWord q_1766 q_1768 q_59 dX12_takes_12 (e_istore dX12_takes_15 (by decide) (e_iload dX12_takes_17 (e_if_eq (tgt := 26) dX12_takes_19 (by decide) (e_iload dX12_takes_26 (e_zreturn rfl dX12_takes_28)) (e_aload_n dX12_takes_22 rfl (e_callV cl_11 cal_X12_skipWord q_1787 q_1789 q_62 dX12_takes_23 (e_iload dX12_takes_26 (e_zreturn rfl dX12_takes_28))))))))))))))))
theorem dX12_sign_0 : decode cX12_sign 0 = .ok (.aload_n 0, 1) := by decide +kernel
theorem dX12_sign_1 : decode cX12_sign 1 = .ok (.getfield 131, 3) := by decide +kernel
theorem dX12_sign_4 : decode cX12_sign 4 = .ok (.ifCond .eq 4, 3) := by decide +kernel
theorem dX12_sign_7 : decode cX12_sign 7 = .ok (.return_, 1) := by decide +kernel
theorem dX12_sign_8 : decode cX12_sign 8 = .ok (.aload_n 0, 1) := by decide +kernel
theorem dX12_sign_9 : decode cX12_sign 9 = .ok (.invokevirtual 137, 3) := by decide +kernel
theorem dX12_sign_12 : decode cX12_sign 12 = .ok (.aload_n 0, 1) := by decide +kernel
theorem dX12_sign_13 : decode cX12_sign 13 = .ok (.aload_n 0, 1) := by decide +kernel
theorem dX12_sign_14 : decode cX12_sign 14 = .ok (.getfield 124, 3) := by decide +kernel
theorem dX12_sign_17 : decode cX12_sign 17 = .ok (.invokevirtual 127, 3) := by decide +kernel
theorem dX12_sign_20 : decode cX12_sign 20 = .ok (.iload_n 1, 1) := by decide +kernel
theorem dX12_sign_21 : decode cX12_sign 21 = .ok (.if_icmp .ne 16, 3) := by decide +kernel
theorem dX12_sign_24 : decode cX12_sign 24 = .ok (.aload_n 0, 1) := by decide +kernel
theorem dX12_sign_25 : decode cX12_sign 25 = .ok (.dup, 1) := by decide +kernel
theorem dX12_sign_26 : decode cX12_sign 26 = .ok (.getfield 124, 3) := by decide +kernel
theorem dX12_sign_29 : decode cX12_sign 29 = .ok (.iconst 1, 1) := by decide +kernel
theorem dX12_sign_30 : decode cX12_sign 30 = .ok (.iadd, 1) := by decide +kernel
theorem dX12_sign_31 : decode cX12_sign 31 = .ok (.putfield 124, 3) := by decide +kernel
theorem dX12_sign_34 : decode cX12_sign 34 = .ok (.goto 12, 3) := by decide +kernel
theorem dX12_sign_37 : decode cX12_sign 37 = .ok (.aload_n 0, 1) := by decide +kernel
theorem dX12_sign_38 : decode cX12_sign 38 = .ok (.iconst 1, 1) := by decide +kernel
theorem dX12_sign_39 : decode cX12_sign 39 = .ok (.aload_n 0, 1) := by decide +kernel
theorem dX12_sign_40 : decode cX12_sign 40 = .ok (.getfield 124, 3) := by decide +kernel
theorem dX12_sign_43 : decode cX12_sign 43 = .ok (.invokevirtual 144, 3) := by decide +kernel
theorem dX12_sign_46 : decode cX12_sign 46 = .ok (.return_, 1) := by decide +kernel
set_option maxRecDepth 100000 in
theorem T_X12_sign_0 {G : GE} {d C S : Nat} {ρ : Rs} : Snd G MX12_sign (d + 1) C S 0 ρ (s_aload 0 (s_getI 11 5 (s_if_eq (s_aload 0 (s_callV G d MX12_blanks 0 11 (s_aload 0 (s_aload 0 (s_getI 11 4 (s_callV G d MX12_byteAt 1 11 (s_iload 1 (s_ic_ne (s_aload 0 (s_iconst 1 (s_aload 0 (s_getI 11 4 (s_callV G d MX12_wrong 2 11 (s_return ρ)))))) (s_aload 0 (s_dup (s_getI 11 4 (s_iconst 1 (s_iadd (s_putI 11 4 (s_return ρ))))))))))))))) (s_return ρ)))) := (e_aload_n dX12_sign_0 rfl (e_getI rfl cl_11 (by decide) rfl q_1569 dX12_sign_1 (e_if_eq (tgt := 8) dX12_sign_4 (by decide) (e_aload_n dX12_sign_8 rfl (e_callV cl_11 cal_X12_blanks q_1750 q_1752 q_55 dX12_sign_9 (e_aload_n dX12_sign_12 rfl (e_aload_n dX12_sign_13 rfl (e_getI rfl cl_11 (by decide) rfl q_1568 dX12_sign_14 (e_callV cl_11 cal_X12_byteAt q_1754 q_1756 q_56 dX12_sign_17 (e_iload_n dX12_sign_20 rfl (e_ic_ne (tgt := 37) dX12_sign_21 (by decide) (e_aload_n dX12_sign_37 rfl (e_iconst (v := 1) dX12_sign_38 (by decide) (e_aload_n dX12_sign_39 rfl (e_getI rfl cl_11 (by decide) rfl q_1568 dX12_sign_40 (e_callV cl_11 cal_X12_wrong q_1783 q_1785 q_61 dX12_sign_43 (e_return rfl dX12_sign_46)))))) (e_aload_n dX12_sign_24 rfl (e_dup dX12_sign_25 (e_getI rfl cl_11 (by decide) rfl q_1568 dX12_sign_26 (e_iconst (v := 1) dX12_sign_29 (by decide) (e_iadd dX12_sign_30 (e_putI rfl cl_11 (by decide) rfl rfl rfl q_1568 dX12_sign_31 (e_goto (tgt := 46) dX12_sign_34 (by decide) (e_return rfl dX12_sign_46)))))))))))))))) (e_return rfl dX12_sign_7))))
theorem dX12_takesSign_0 : decode cX12_takesSign 0 = .ok (.aload_n 0, 1) := by decide +kernel
theorem dX12_takesSign_1 : decode cX12_takesSign 1 = .ok (.getfield 131, 3) := by decide +kernel
theorem dX12_takesSign_4 : decode cX12_takesSign 4 = .ok (.ifCond .eq 5, 3) := by decide +kernel
theorem dX12_takesSign_7 : decode cX12_takesSign 7 = .ok (.iconst 0, 1) := by decide +kernel
theorem dX12_takesSign_8 : decode cX12_takesSign 8 = .ok (.ireturn, 1) := by decide +kernel
theorem dX12_takesSign_9 : decode cX12_takesSign 9 = .ok (.aload_n 0, 1) := by decide +kernel
theorem dX12_takesSign_10 : decode cX12_takesSign 10 = .ok (.invokevirtual 137, 3) := by decide +kernel
theorem dX12_takesSign_13 : decode cX12_takesSign 13 = .ok (.aload_n 0, 1) := by decide +kernel
theorem dX12_takesSign_14 : decode cX12_takesSign 14 = .ok (.aload_n 0, 1) := by decide +kernel
theorem dX12_takesSign_15 : decode cX12_takesSign 15 = .ok (.getfield 124, 3) := by decide +kernel
theorem dX12_takesSign_18 : decode cX12_takesSign 18 = .ok (.invokevirtual 127, 3) := by decide +kernel
theorem dX12_takesSign_21 : decode cX12_takesSign 21 = .ok (.iload_n 1, 1) := by decide +kernel
theorem dX12_takesSign_22 : decode cX12_takesSign 22 = .ok (.if_icmp .ne 7, 3) := by decide +kernel
theorem dX12_takesSign_25 : decode cX12_takesSign 25 = .ok (.iconst 1, 1) := by decide +kernel
theorem dX12_takesSign_26 : decode cX12_takesSign 26 = .ok (.goto 4, 3) := by decide +kernel
theorem dX12_takesSign_29 : decode cX12_takesSign 29 = .ok (.iconst 0, 1) := by decide +kernel
theorem dX12_takesSign_30 : decode cX12_takesSign 30 = .ok (.istore_n 2, 1) := by decide +kernel
theorem dX12_takesSign_31 : decode cX12_takesSign 31 = .ok (.iload_n 2, 1) := by decide +kernel
theorem dX12_takesSign_32 : decode cX12_takesSign 32 = .ok (.ifCond .eq 13, 3) := by decide +kernel
theorem dX12_takesSign_35 : decode cX12_takesSign 35 = .ok (.aload_n 0, 1) := by decide +kernel
theorem dX12_takesSign_36 : decode cX12_takesSign 36 = .ok (.dup, 1) := by decide +kernel
theorem dX12_takesSign_37 : decode cX12_takesSign 37 = .ok (.getfield 124, 3) := by decide +kernel
theorem dX12_takesSign_40 : decode cX12_takesSign 40 = .ok (.iconst 1, 1) := by decide +kernel
theorem dX12_takesSign_41 : decode cX12_takesSign 41 = .ok (.iadd, 1) := by decide +kernel
theorem dX12_takesSign_42 : decode cX12_takesSign 42 = .ok (.putfield 124, 3) := by decide +kernel
theorem dX12_takesSign_45 : decode cX12_takesSign 45 = .ok (.iload_n 2, 1) := by decide +kernel
theorem dX12_takesSign_46 : decode cX12_takesSign 46 = .ok (.ireturn, 1) := by decide +kernel
set_option maxRecDepth 100000 in
theorem T_X12_takesSign_0 {G : GE} {d C S : Nat} {ρ : Rs} : Snd G MX12_takesSign (d + 1) C S 0 ρ (s_aload 0 (s_getI 11 5 (s_if_eq (s_aload 0 (s_callV G d MX12_blanks 0 11 (s_aload 0 (s_aload 0 (s_getI 11 4 (s_callV G d MX12_byteAt 1 11 (s_iload 1 (s_ic_ne (s_iconst 0 (s_istore 2 (s_iload 2 (s_if_eq (s_iload 2 (s_zreturn ρ)) (s_aload 0 (s_dup (s_getI 11 4 (s_iconst 1 (s_iadd (s_putI 11 4 (s_iload 2 (s_zreturn ρ)))))))))))) (s_iconst 1 (s_istore 2 (s_iload 2 (s_if_eq (s_iload 2 (s_zreturn ρ)) (s_aload 0 (s_dup (s_getI 11 4 (s_iconst 1 (s_iadd (s_putI 11 4 (s_iload 2 (s_zreturn ρ)))))))))))))))))))) (s_iconst 0 (s_zreturn ρ))))) := (e_aload_n dX12_takesSign_0 rfl (e_getI rfl cl_11 (by decide) rfl q_1569 dX12_takesSign_1 (e_if_eq (tgt := 9) dX12_takesSign_4 (by decide) (e_aload_n dX12_takesSign_9 rfl (e_callV cl_11 cal_X12_blanks q_1750 q_1752 q_55 dX12_takesSign_10 (e_aload_n dX12_takesSign_13 rfl (e_aload_n dX12_takesSign_14 rfl (e_getI rfl cl_11 (by decide) rfl q_1568 dX12_takesSign_15 (e_callV cl_11 cal_X12_byteAt q_1754 q_1756 q_56 dX12_takesSign_18 (e_iload_n dX12_takesSign_21 rfl (e_ic_ne (tgt := 29) dX12_takesSign_22 (by decide) (e_iconst (v := 0) dX12_takesSign_29 (by decide) (e_istore_n dX12_takesSign_30 rfl (by decide) (e_iload_n dX12_takesSign_31 rfl (e_if_eq (tgt := 45) dX12_takesSign_32 (by decide) (e_iload_n dX12_takesSign_45 rfl (e_zreturn rfl dX12_takesSign_46)) (e_aload_n dX12_takesSign_35 rfl (e_dup dX12_takesSign_36 (e_getI rfl cl_11 (by decide) rfl q_1568 dX12_takesSign_37 (e_iconst (v := 1) dX12_takesSign_40 (by decide) (e_iadd dX12_takesSign_41 (e_putI rfl cl_11 (by decide) rfl rfl rfl q_1568 dX12_takesSign_42 (e_iload_n dX12_takesSign_45 rfl (e_zreturn rfl dX12_takesSign_46)))))))))))) (e_iconst (v := 1) dX12_takesSign_25 (by decide) (e_goto (tgt := 30) dX12_takesSign_26 (by decide) (e_istore_n dX12_takesSign_30 rfl (by decide) (e_iload_n dX12_takesSign_31 rfl (e_if_eq (tgt := 45) dX12_takesSign_32 (by decide) (e_iload_n dX12_takesSign_45 rfl (e_zreturn rfl dX12_takesSign_46)) (e_aload_n dX12_takesSign_35 rfl (e_dup dX12_takesSign_36 (e_getI rfl cl_11 (by decide) rfl q_1568 dX12_takesSign_37 (e_iconst (v := 1) dX12_takesSign_40 (by decide) (e_iadd dX12_takesSign_41 (e_putI rfl cl_11 (by decide) rfl rfl rfl q_1568 dX12_takesSign_42 (e_iload_n dX12_takesSign_45 rfl (e_zreturn rfl dX12_takesSign_46))))))))))))))))))))) (e_iconst (v := 0) dX12_takesSign_7 (by decide) (e_zreturn rfl dX12_takesSign_8)))))
theorem dX12_starts_0 : decode cX12_starts 0 = .ok (.aload_n 0, 1) := by decide +kernel
theorem dX12_starts_1 : decode cX12_starts 1 = .ok (.iconst 0, 1) := by decide +kernel
theorem dX12_starts_2 : decode cX12_starts 2 = .ok (.putfield 118, 3) := by decide +kernel
theorem dX12_starts_5 : decode cX12_starts 5 = .ok (.aload_n 0, 1) := by decide +kernel
theorem dX12_starts_6 : decode cX12_starts 6 = .ok (.iload_n 1, 1) := by decide +kernel
theorem dX12_starts_7 : decode cX12_starts 7 = .ok (.putfield 121, 3) := by decide +kernel
theorem dX12_starts_10 : decode cX12_starts 10 = .ok (.aload_n 0, 1) := by decide +kernel
theorem dX12_starts_11 : decode cX12_starts 11 = .ok (.iconst 0, 1) := by decide +kernel
theorem dX12_starts_12 : decode cX12_starts 12 = .ok (.putfield 124, 3) := by decide +kernel
theorem dX12_starts_15 : decode cX12_starts 15 = .ok (.aload_n 0, 1) := by decide +kernel
theorem dX12_starts_16 : decode cX12_starts 16 = .ok (.iconst 0, 1) := by decide +kernel
theorem dX12_starts_17 : decode cX12_starts 17 = .ok (.putfield 131, 3) := by decide +kernel
theorem dX12_starts_20 : decode cX12_starts 20 = .ok (.aload_n 0, 1) := by decide +kernel
theorem dX12_starts_21 : decode cX12_starts 21 = .ok (.iconst (-1), 1) := by decide +kernel
theorem dX12_starts_22 : decode cX12_starts 22 = .ok (.putfield 134, 3) := by decide +kernel
theorem dX12_starts_25 : decode cX12_starts 25 = .ok (.aload_n 0, 1) := by decide +kernel
theorem dX12_starts_26 : decode cX12_starts 26 = .ok (.iconst 0, 1) := by decide +kernel
theorem dX12_starts_27 : decode cX12_starts 27 = .ok (.putfield 177, 3) := by decide +kernel
theorem dX12_starts_30 : decode cX12_starts 30 = .ok (.aload_n 0, 1) := by decide +kernel
theorem dX12_starts_31 : decode cX12_starts 31 = .ok (.iconst 0, 1) := by decide +kernel
theorem dX12_starts_32 : decode cX12_starts 32 = .ok (.putfield 180, 3) := by decide +kernel
theorem dX12_starts_35 : decode cX12_starts 35 = .ok (.aload_n 0, 1) := by decide +kernel
theorem dX12_starts_36 : decode cX12_starts 36 = .ok (.invokevirtual 137, 3) := by decide +kernel
theorem dX12_starts_39 : decode cX12_starts 39 = .ok (.return_, 1) := by decide +kernel
set_option maxRecDepth 100000 in
theorem T_X12_starts_0 {G : GE} {d C S : Nat} {ρ : Rs} : Snd G MX12_starts (d + 1) C S 0 ρ (s_aload 0 (s_iconst 0 (s_putI 11 1 (s_aload 0 (s_iload 1 (s_putI 11 2 (s_aload 0 (s_iconst 0 (s_putI 11 4 (s_aload 0 (s_iconst 0 (s_putI 11 5 (s_aload 0 (s_iconst (-1) (s_putI 11 6 (s_aload 0 (s_iconst 0 (s_putI 11 7 (s_aload 0 (s_iconst 0 (s_putI 11 8 (s_aload 0 (s_callV G d MX12_blanks 0 11 (s_return ρ)))))))))))))))))))))))) := (e_aload_n dX12_starts_0 rfl (e_iconst (v := 0) dX12_starts_1 (by decide) (e_putI rfl cl_11 (by decide) rfl rfl rfl q_1565 dX12_starts_2 (e_aload_n dX12_starts_5 rfl (e_iload_n dX12_starts_6 rfl (e_putI rfl cl_11 (by decide) rfl rfl rfl q_1566 dX12_starts_7 (e_aload_n dX12_starts_10 rfl (e_iconst (v := 0) dX12_starts_11 (by decide) (e_putI rfl cl_11 (by decide) rfl rfl rfl q_1568 dX12_starts_12 (e_aload_n dX12_starts_15 rfl (e_iconst (v := 0) dX12_starts_16 (by decide) (e_putI rfl cl_11 (by decide) rfl rfl rfl q_1569 dX12_starts_17 (e_aload_n dX12_starts_20 rfl (e_iconst (v := (-1)) dX12_starts_21 (by decide) (e_putI rfl cl_11 (by decide) rfl rfl rfl q_1570 dX12_starts_22 (e_aload_n dX12_starts_25 rfl (e_iconst (v := 0) dX12_starts_26 (by decide) (e_putI rfl cl_11 (by decide) rfl rfl rfl q_1571 dX12_starts_27 (e_aload_n dX12_starts_30 rfl (e_iconst (v := 0) dX12_starts_31 (by decide) (e_putI rfl cl_11 (by decide) rfl rfl rfl q_1572 dX12_starts_32 (e_aload_n dX12_starts_35 rfl (e_callV cl_11 cal_X12_blanks q_1750 q_1752 q_55 dX12_starts_36 (e_return rfl dX12_starts_39))))))))))))))))))))))))
theorem dX12_ends_0 : decode cX12_ends 0 = .ok (.aload_n 0, 1) := by decide +kernel
theorem dX12_ends_1 : decode cX12_ends 1 = .ok (.aload_n 0, 1) := by decide +kernel
theorem dX12_ends_2 : decode cX12_ends 2 = .ok (.getfield 134, 3) := by decide +kernel
theorem dX12_ends_5 : decode cX12_ends 5 = .ok (.putfield 9, 3) := by decide +kernel
theorem dX12_ends_8 : decode cX12_ends 8 = .ok (.aload_n 0, 1) := by decide +kernel
theorem dX12_ends_9 : decode cX12_ends 9 = .ok (.getfield 131, 3) := by decide +kernel
theorem dX12_ends_12 : decode cX12_ends 12 = .ok (.bipush 10, 2) := by decide +kernel
theorem dX12_ends_14 : decode cX12_ends 14 = .ok (.isub, 1) := by decide +kernel
theorem dX12_ends_15 : decode cX12_ends 15 = .ok (.ireturn, 1) := by decide +kernel
set_option maxRecDepth 100000 in
theorem T_X12_ends_0 {G : GE} {d C S : Nat} {ρ : Rs} : Snd G MX12_ends d C S 0 ρ (s_aload 0 (s_aload 0 (s_getI 11 6 (s_putI 11 3 (s_aload 0 (s_getI 11 5 (s_iconst 10 (s_isub (s_ireturn ρ))))))))) := (e_aload_n dX12_ends_0 rfl (e_aload_n dX12_ends_1 rfl (e_getI rfl cl_11 (by decide) rfl q_1570 dX12_ends_2 (e_putI rfl cl_11 (by decide) rfl rfl rfl q_1567 dX12_ends_5 (e_aload_n dX12_ends_8 rfl (e_getI rfl cl_11 (by decide) rfl q_1569 dX12_ends_9 (e_bipush (v := 10) dX12_ends_12 (by decide) (e_isub dX12_ends_14 (e_ireturn rfl dX12_ends_15)))))))))
theorem dX12_kindHere_0 : decode cX12_kindHere 0 = .ok (.aload_n 0, 1) := by decide +kernel
theorem dX12_kindHere_1 : decode cX12_kindHere 1 = .ok (.iconst 3, 1) := by decide +kernel
theorem dX12_kindHere_2 : decode cX12_kindHere 2 = .ok (.bipush 15, 2) := by decide +kernel
theorem dX12_kindHere_4 : decode cX12_kindHere 4 = .ok (.bipush 18, 2) := by decide +kernel
theorem dX12_kindHere_6 : decode cX12_kindHere 6 = .ok (.bipush 14, 2) := by decide +kernel
theorem dX12_kindHere_8 : decode cX12_kindHere 8 = .ok (.iconst 5, 1) := by decide +kernel
theorem dX12_kindHere_9 : decode cX12_kindHere 9 = .ok (.bipush 18, 2) := by decide +kernel
theorem dX12_kindHere_11 : decode cX12_kindHere 11 = .ok (.iconst 0, 1) := by decide +kernel
theorem dX12_kindHere_12 : decode cX12_kindHere 12 = .ok (.invokevirtual 170, 3) := by decide +kernel
theorem dX12_kindHere_15 : decode cX12_kindHere 15 = .ok (.ifCond .eq 5, 3) := by decide +kernel
theorem dX12_kindHere_18 : decode cX12_kindHere 18 = .ok (.iconst 0, 1) := by decide +kernel
theorem dX12_kindHere_19 : decode cX12_kindHere 19 = .ok (.ireturn, 1) := by decide +kernel
theorem dX12_kindHere_20 : decode cX12_kindHere 20 = .ok (.aload_n 0, 1) := by decide +kernel
theorem dX12_kindHere_21 : decode cX12_kindHere 21 = .ok (.bipush 19, 2) := by decide +kernel
theorem dX12_kindHere_23 : decode cX12_kindHere 23 = .ok (.bipush 20, 2) := by decide +kernel
theorem dX12_kindHere_25 : decode cX12_kindHere 25 = .ok (.bipush 18, 2) := by decide +kernel
theorem dX12_kindHere_27 : decode cX12_kindHere 27 = .ok (.iconst 5, 1) := by decide +kernel
theorem dX12_kindHere_28 : decode cX12_kindHere 28 = .ok (.iconst 5, 1) := by decide +kernel
theorem dX12_kindHere_29 : decode cX12_kindHere 29 = .ok (.bipush 20, 2) := by decide +kernel
theorem dX12_kindHere_31 : decode cX12_kindHere 31 = .ok (.iconst 0, 1) := by decide +kernel
theorem dX12_kindHere_32 : decode cX12_kindHere 32 = .ok (.invokevirtual 170, 3) := by decide +kernel
theorem dX12_kindHere_35 : decode cX12_kindHere 35 = .ok (.ifCond .eq 5, 3) := by decide +kernel
theorem dX12_kindHere_38 : decode cX12_kindHere 38 = .ok (.iconst 1, 1) := by decide +kernel
theorem dX12_kindHere_39 : decode cX12_kindHere 39 = .ok (.ireturn, 1) := by decide +kernel
theorem dX12_kindHere_40 : decode cX12_kindHere 40 = .ok (.aload_n 0, 1) := by decide +kernel
theorem dX12_kindHere_41 : decode cX12_kindHere 41 = .ok (.bipush 7, 2) := by decide +kernel
theorem dX12_kindHere_43 : decode cX12_kindHere 43 = .ok (.bipush 15, 2) := by decide +kernel
theorem dX12_kindHere_45 : decode cX12_kindHere 45 = .ok (.bipush 15, 2) := by decide +kernel
theorem dX12_kindHere_47 : decode cX12_kindHere 47 = .ok (.iconst 4, 1) := by decide +kernel
theorem dX12_kindHere_48 : decode cX12_kindHere 48 = .ok (.iconst 0, 1) := by decide +kernel
theorem dX12_kindHere_49 : decode cX12_kindHere 49 = .ok (.iconst 0, 1) := by decide +kernel
theorem dX12_kindHere_50 : decode cX12_kindHere 50 = .ok (.iconst 0, 1) := by decide +kernel
theorem dX12_kindHere_51 : decode cX12_kindHere 51 = .ok (.invokevirtual 170, 3) := by decide +kernel
theorem dX12_kindHere_54 : decode cX12_kindHere 54 = .ok (.ifCond .eq 5, 3) := by decide +kernel
theorem dX12_kindHere_57 : decode cX12_kindHere 57 = .ok (.iconst 2, 1) := by decide +kernel
theorem dX12_kindHere_58 : decode cX12_kindHere 58 = .ok (.ireturn, 1) := by decide +kernel
theorem dX12_kindHere_59 : decode cX12_kindHere 59 = .ok (.aload_n 0, 1) := by decide +kernel
theorem dX12_kindHere_60 : decode cX12_kindHere 60 = .ok (.bipush 12, 2) := by decide +kernel
theorem dX12_kindHere_62 : decode cX12_kindHere 62 = .ok (.bipush 9, 2) := by decide +kernel
theorem dX12_kindHere_64 : decode cX12_kindHere 64 = .ok (.bipush 11, 2) := by decide +kernel
theorem dX12_kindHere_66 : decode cX12_kindHere 66 = .ok (.iconst 5, 1) := by decide +kernel
theorem dX12_kindHere_67 : decode cX12_kindHere 67 = .ok (.bipush 19, 2) := by decide +kernel
theorem dX12_kindHere_69 : decode cX12_kindHere 69 = .ok (.iconst 0, 1) := by decide +kernel
theorem dX12_kindHere_70 : decode cX12_kindHere 70 = .ok (.iconst 0, 1) := by decide +kernel
theorem dX12_kindHere_71 : decode cX12_kindHere 71 = .ok (.invokevirtual 170, 3) := by decide +kernel
theorem dX12_kindHere_74 : decode cX12_kindHere 74 = .ok (.ifCond .eq 5, 3) := by decide +kernel
theorem dX12_kindHere_77 : decode cX12_kindHere 77 = .ok (.iconst 3, 1) := by decide +kernel
theorem dX12_kindHere_78 : decode cX12_kindHere 78 = .ok (.ireturn, 1) := by decide +kernel
theorem dX12_kindHere_79 : decode cX12_kindHere 79 = .ok (.aload_n 0, 1) := by decide +kernel
theorem dX12_kindHere_80 : decode cX12_kindHere 80 = .ok (.bipush 14, 2) := by decide +kernel
theorem dX12_kindHere_82 : decode cX12_kindHere 82 = .ok (.iconst 5, 1) := by decide +kernel
theorem dX12_kindHere_83 : decode cX12_kindHere 83 = .ok (.bipush 22, 2) := by decide +kernel
theorem dX12_kindHere_85 : decode cX12_kindHere 85 = .ok (.iconst 5, 1) := by decide +kernel
theorem dX12_kindHere_86 : decode cX12_kindHere 86 = .ok (.bipush 18, 2) := by decide +kernel
theorem dX12_kindHere_88 : decode cX12_kindHere 88 = .ok (.iconst 0, 1) := by decide +kernel
theorem dX12_kindHere_89 : decode cX12_kindHere 89 = .ok (.iconst 0, 1) := by decide +kernel
theorem dX12_kindHere_90 : decode cX12_kindHere 90 = .ok (.invokevirtual 170, 3) := by decide +kernel
theorem dX12_kindHere_93 : decode cX12_kindHere 93 = .ok (.ifCond .eq 5, 3) := by decide +kernel
theorem dX12_kindHere_96 : decode cX12_kindHere 96 = .ok (.iconst 4, 1) := by decide +kernel
theorem dX12_kindHere_97 : decode cX12_kindHere 97 = .ok (.ireturn, 1) := by decide +kernel
theorem dX12_kindHere_98 : decode cX12_kindHere 98 = .ok (.aload_n 0, 1) := by decide +kernel
theorem dX12_kindHere_99 : decode cX12_kindHere 99 = .ok (.bipush 12, 2) := by decide +kernel
theorem dX12_kindHere_101 : decode cX12_kindHere 101 = .ok (.iconst 1, 1) := by decide +kernel
theorem dX12_kindHere_102 : decode cX12_kindHere 102 = .ok (.bipush 14, 2) := by decide +kernel
theorem dX12_kindHere_104 : decode cX12_kindHere 104 = .ok (.iconst 5, 1) := by decide +kernel
theorem dX12_kindHere_105 : decode cX12_kindHere 105 = .ok (.iconst 0, 1) := by decide +kernel
theorem dX12_kindHere_106 : decode cX12_kindHere 106 = .ok (.iconst 0, 1) := by decide +kernel
theorem dX12_kindHere_107 : decode cX12_kindHere 107 = .ok (.iconst 0, 1) := by decide +kernel
theorem dX12_kindHere_108 : decode cX12_kindHere 108 = .ok (.invokevirtual 170, 3) := by decide +kernel
theorem dX12_kindHere_111 : decode cX12_kindHere 111 = .ok (.ifCond .eq 5, 3) := by decide +kernel
theorem dX12_kindHere_114 : decode cX12_kindHere 114 = .ok (.iconst 5, 1) := by decide +kernel
theorem dX12_kindHere_115 : decode cX12_kindHere 115 = .ok (.ireturn, 1) := by decide +kernel
theorem dX12_kindHere_116 : decode cX12_kindHere 116 = .ok (.aload_n 0, 1) := by decide +kernel
theorem dX12_kindHere_117 : decode cX12_kindHere 117 = .ok (.bipush 18, 2) := by decide +kernel
theorem dX12_kindHere_119 : decode cX12_kindHere 119 = .ok (.bipush 9, 2) := by decide +kernel
theorem dX12_kindHere_121 : decode cX12_kindHere 121 = .ok (.bipush 22, 2) := by decide +kernel
theorem dX12_kindHere_123 : decode cX12_kindHere 123 = .ok (.iconst 5, 1) := by decide +kernel
theorem dX12_kindHere_124 : decode cX12_kindHere 124 = .ok (.bipush 18, 2) := by decide +kernel
theorem dX12_kindHere_126 : decode cX12_kindHere 126 = .ok (.iconst 0, 1) := by decide +kernel
theorem dX12_kindHere_127 : decode cX12_kindHere 127 = .ok (.iconst 0, 1) := by decide +kernel
theorem dX12_kindHere_128 : decode cX12_kindHere 128 = .ok (.invokevirtual 170, 3) := by decide +kernel
theorem dX12_kindHere_131 : decode cX12_kindHere 131 = .ok (.ifCond .eq 8, 3) := by decide +kernel
theorem dX12_kindHere_134 : decode cX12_kindHere 134 = .ok (.bipush 6, 2) := by decide +kernel
theorem dX12_kindHere_136 : decode cX12_kindHere 136 = .ok (.goto 4, 3) := by decide +kernel
theorem dX12_kindHere_139 : decode cX12_kindHere 139 = .ok (.iconst (-1), 1) := by decide +kernel
theorem dX12_kindHere_140 : decode cX12_kindHere 140 = .ok (.ireturn, 1) := by decide +kernel
set_option maxRecDepth 100000 in
theorem T_X12_kindHere_0 {G : GE} {d C S : Nat} {ρ : Rs} : Snd G MX12_kindHere (d + 1) C S 0 ρ (s_aload 0 (s_iconst 3 (s_iconst 15 (s_iconst 18 (s_iconst 14 (s_iconst 5 (s_iconst 18 (s_iconst 0 (s_callV G d MX12_isWord 7 11 (s_if_eq (s_aload 0 (s_iconst 19 (s_iconst 20 (s_iconst 18 (s_iconst 5 (s_iconst 5 (s_iconst 20 (s_iconst 0 (s_callV G d MX12_isWord 7 11 (s_if_eq (s_aload 0 (s_iconst 7 (s_iconst 15 (s_iconst 15 (s_iconst 4 (s_iconst 0 (s_iconst 0 (s_iconst 0 (s_callV G d MX12_isWord 7 11 (s_if_eq (s_aload 0 (s_iconst 12 (s_iconst 9 (s_iconst 11 (s_iconst 5 (s_iconst 19 (s_iconst 0 (s_iconst 0 (s_callV G d MX12_isWord 7 11 (s_if_eq (s_aload 0 (s_iconst 14 (s_iconst 5 (s_iconst 22 (s_iconst 5 (s_iconst 18 (s_iconst 0 (s_iconst 0 (s_callV G d MX12_isWord 7 11 (s_if_eq (s_aload 0 (s_iconst 12 (s_iconst 1 (s_iconst 14 (s_iconst 5 (s_iconst 0 (s_iconst 0 (s_iconst 0 (s_callV G d MX12_isWord 7 11 (s_if_eq (s_aload 0 (s_iconst 18 (s_iconst 9 (s_iconst 22 (s_iconst 5 (s_iconst 18 (s_iconst 0 (s_iconst 0 (s_callV G d MX12_isWord 7 11 (s_if_eq (s_iconst (-1) (s_ireturn ρ)) (s_iconst 6 (s_ireturn ρ)))))))))))) (s_iconst 5 (s_ireturn ρ)))))))))))) (s_iconst 4 (s_ireturn ρ)))))))))))) (s_iconst 3 (s_ireturn ρ)))))))))))) (s_iconst 2 (s_ireturn ρ)))))))))))) (s_iconst 1 (s_ireturn ρ)))))))))))) (s_iconst 0 (s_ireturn ρ)))))))))))) := (e_aload_n dX12_kindHere_0 rfl (e_iconst (v := 3) dX12_kindHere_1 (by decide) (e_bipush (v := 15) dX12_kindHere_2 (by decide) (e_bipush (v := 18) dX12_kindHere_4 (by decide) (e_bipush (v := 14) dX12_kindHere_6 (by decide) (e_iconst (v := 5) dX12_kindHere_8 (by decide) (e_bipush (v := 18) dX12_kindHere_9 (by decide) (e_iconst (v := 0) dX12_kindHere_11 (by decide) (e_callV cl_11 cal_X12_isWord q_1766 q_1768 q_59 dX12_kindHere_12 (e_if_eq (tgt := 20) dX12_kindHere_15 (by decide) (e_aload_n dX12_kindHere_20 rfl (e_bipush (v := 19) dX12_kindHere_21 (by decide) (e_bipush (v := 20) dX12_kindHere_23 (by decide) (e_bipush (v := 18) dX12_kindHere_25 (by decide) (e_iconst (v := 5) dX12_kindHere_27 (by decide) (e_iconst (v := 5) dX12_kindHere_28 (by decide) (e_bipush (v := 20) dX12_kindHere_29 (by decide) (e_iconst (v := 0) dX12_kindHere_31 (by decide) (e_callV cl_11 cal_X12_isWord q_1766 q_1768 q_59 dX12_kindHere_32 (e_if_eq (tgt := 40) dX12_kindHere_35 (by decide) (e_aload_n dX12_kindHere_40 rfl (e_bipush (v := 7) dX12_kindHere_41 (by decide) (e_bipush (v := 15) dX12_kindHere_43 (by decide) (e_bipush (v := 15) dX12_kindHere_45 (by decide) (e_iconst (v := 4) dX12_kindHere_47 (by decide) (e_iconst (v := 0) dX12_kindHere_48 (by decide) (e_iconst (v := 0) dX12_kindHere_49 (by decide) (e_iconst (v := 0) dX12_kindHere_50 (by decide) (e_callV cl_11 cal_X12_isWord q_1766 q_1768 q_59 dX12_kindHere_51 (e_if_eq (tgt := 59) dX12_kindHere_54 (by decide) (e_aload_n dX12_kindHere_59 rfl (e_bipush (v := 12) dX12_kindHere_60 (by decide) (e_bipush (v := 9) dX12_kindHere_62 (by decide) (e_bipush (v := 11) dX12_kindHere_64 (by decide) (e_iconst (v := 5) dX12_kindHere_66 (by decide) (e_bipush (v := 19) dX12_kindHere_67 (by decide) (e_iconst (v := 0) dX12_kindHere_69 (by decide) (e_iconst (v := 0) dX12_kindHere_70 (by decide) (e_callV cl_11 cal_X12_isWord q_1766 q_1768 q_59 dX12_kindHere_71 (e_if_eq (tgt := 79) dX12_kindHere_74 (by decide) (e_aload_n dX12_kindHere_79 rfl (e_bipush (v := 14) dX12_kindHere_80 (by decide) (e_iconst (v := 5) dX12_kindHere_82 (by decide) (e_bipush (v := 22) dX12_kindHere_83 (by decide) (e_iconst (v := 5) dX12_kindHere_85 (by decide) (e_bipush (v := 18) dX12_kindHere_86 (by decide) (e_iconst (v := 0) dX12_kindHere_88 (by decide) (e_iconst (v := 0) dX12_kindHere_89 (by decide) (e_callV cl_11 cal_X12_isWord q_1766 q_1768 q_59 dX12_kindHere_90 (e_if_eq (tgt := 98) dX12_kindHere_93 (by decide) (e_aload_n dX12_kindHere_98 rfl (e_bipush (v := 12) dX12_kindHere_99 (by decide) (e_iconst (v := 1) dX12_kindHere_101 (by decide) (e_bipush (v := 14) dX12_kindHere_102 (by decide) (e_iconst (v := 5) dX12_kindHere_104 (by decide) (e_iconst (v := 0) dX12_kindHere_105 (by decide) (e_iconst (v := 0) dX12_kindHere_106 (by decide) (e_iconst (v := 0) dX12_kindHere_107 (by decide) (e_callV cl_11 cal_X12_isWord q_1766 q_1768 q_59 dX12_kindHere_108 (e_if_eq (tgt := 116) dX12_kindHere_111 (by decide) (e_aload_n dX12_kindHere_116 rfl (e_bipush (v := 18) dX12_kindHere_117 (by decide) (e_bipush (v := 9) dX12_kindHere_119 (by decide) (e_bipush (v := 22) dX12_kindHere_121 (by decide) (e_iconst (v := 5) dX12_kindHere_123 (by decide) (e_bipush (v := 18) dX12_kindHere_124 (by decide) (e_iconst (v := 0) dX12_kindHere_126 (by decide) (e_iconst (v := 0) dX12_kindHere_127 (by decide) (e_callV cl_11 cal_X12_isWord q_1766 q_1768 q_59 dX12_kindHere_128 (e_if_eq (tgt := 139) dX12_kindHere_131 (by decide) (e_iconst (v := (-1)) dX12_kindHere_139 (by decide) (e_ireturn rfl dX12_kindHere_140)) (e_bipush (v := 6) dX12_kindHere_134 (by decide) (e_goto (tgt := 140) dX12_kindHere_136 (by decide) (e_ireturn rfl dX12_kindHere_140))))))))))))) (e_iconst (v := 5) dX12_kindHere_114 (by decide) (e_ireturn rfl dX12_kindHere_115)))))))))))) (e_iconst (v := 4) dX12_kindHere_96 (by decide) (e_ireturn rfl dX12_kindHere_97)))))))))))) (e_iconst (v := 3) dX12_kindHere_77 (by decide) (e_ireturn rfl dX12_kindHere_78)))))))))))) (e_iconst (v := 2) dX12_kindHere_57 (by decide) (e_ireturn rfl dX12_kindHere_58)))))))))))) (e_iconst (v := 1) dX12_kindHere_38 (by decide) (e_ireturn rfl dX12_kindHere_39)))))))))))) (e_iconst (v := 0) dX12_kindHere_18 (by decide) (e_ireturn rfl dX12_kindHere_19))))))))))))
theorem dX12_otherHere_0 : decode cX12_otherHere 0 = .ok (.aload_n 0, 1) := by decide +kernel
theorem dX12_otherHere_1 : decode cX12_otherHere 1 = .ok (.getfield 131, 3) := by decide +kernel
theorem dX12_otherHere_4 : decode cX12_otherHere 4 = .ok (.ifCond .eq 5, 3) := by decide +kernel
theorem dX12_otherHere_7 : decode cX12_otherHere 7 = .ok (.iconst 0, 1) := by decide +kernel
theorem dX12_otherHere_8 : decode cX12_otherHere 8 = .ok (.ireturn, 1) := by decide +kernel
theorem dX12_otherHere_9 : decode cX12_otherHere 9 = .ok (.aload_n 0, 1) := by decide +kernel
theorem dX12_otherHere_10 : decode cX12_otherHere 10 = .ok (.invokevirtual 137, 3) := by decide +kernel
theorem dX12_otherHere_13 : decode cX12_otherHere 13 = .ok (.aload_n 0, 1) := by decide +kernel
theorem dX12_otherHere_14 : decode cX12_otherHere 14 = .ok (.getfield 124, 3) := by decide +kernel
theorem dX12_otherHere_17 : decode cX12_otherHere 17 = .ok (.istore_n 3, 1) := by decide +kernel
theorem dX12_otherHere_18 : decode cX12_otherHere 18 = .ok (.aload_n 0, 1) := by decide +kernel
theorem dX12_otherHere_19 : decode cX12_otherHere 19 = .ok (.iconst 0, 1) := by decide +kernel
theorem dX12_otherHere_20 : decode cX12_otherHere 20 = .ok (.iload_n 2, 1) := by decide +kernel
theorem dX12_otherHere_21 : decode cX12_otherHere 21 = .ok (.iconst 1, 1) := by decide +kernel
theorem dX12_otherHere_22 : decode cX12_otherHere 22 = .ok (.isub, 1) := by decide +kernel
theorem dX12_otherHere_23 : decode cX12_otherHere 23 = .ok (.invokevirtual 183, 3) := by decide +kernel
theorem dX12_otherHere_26 : decode cX12_otherHere 26 = .ok (.istore 4, 2) := by decide +kernel
theorem dX12_otherHere_28 : decode cX12_otherHere 28 = .ok (.aload_n 0, 1) := by decide +kernel
theorem dX12_otherHere_29 : decode cX12_otherHere 29 = .ok (.getfield 131, 3) := by decide +kernel
theorem dX12_otherHere_32 : decode cX12_otherHere 32 = .ok (.ifCond .ne 15, 3) := by decide +kernel
theorem dX12_otherHere_35 : decode cX12_otherHere 35 = .ok (.iload 4, 2) := by decide +kernel
theorem dX12_otherHere_37 : decode cX12_otherHere 37 = .ok (.iload_n 1, 1) := by decide +kernel
theorem dX12_otherHere_38 : decode cX12_otherHere 38 = .ok (.if_icmp .ne 9, 3) := by decide +kernel
theorem dX12_otherHere_41 : decode cX12_otherHere 41 = .ok (.aload_n 0, 1) := by decide +kernel
theorem dX12_otherHere_42 : decode cX12_otherHere 42 = .ok (.iconst 2, 1) := by decide +kernel
theorem dX12_otherHere_43 : decode cX12_otherHere 43 = .ok (.iload_n 3, 1) := by decide +kernel
theorem dX12_otherHere_44 : decode cX12_otherHere 44 = .ok (.invokevirtual 144, 3) := by decide +kernel
theorem dX12_otherHere_47 : decode cX12_otherHere 47 = .ok (.iload 4, 2) := by decide +kernel
theorem dX12_otherHere_49 : decode cX12_otherHere 49 = .ok (.ireturn, 1) := by decide +kernel
set_option maxRecDepth 100000 in
theorem T_X12_otherHere_0 {G : GE} {d C S : Nat} {ρ : Rs} : Snd G MX12_otherHere (d + 1) C S 0 ρ (s_aload 0 (s_getI 11 5 (s_if_eq (s_aload 0 (s_callV G d MX12_blanks 0 11 (s_aload 0 (s_getI 11 4 (s_istore 3 (s_aload 0 (s_iconst 0 (s_iload 2 (s_iconst 1 (s_isub (s_callV G d MX12_numberHere 2 11 (s_istore 4 (s_aload 0 (s_getI 11 5 (s_if_ne (s_iload 4 (s_ireturn ρ)) (s_iload 4 (s_iload 1 (s_ic_ne (s_iload 4 (s_ireturn ρ)) (s_aload 0 (s_iconst 2 (s_iload 3 (s_callV G d MX12_wrong 2 11 (s_iload 4 (s_ireturn ρ)))))))))))))))))))))))) (s_iconst 0 (s_ireturn ρ))))) := (e_aload_n dX12_otherHere_0 rfl (e_getI rfl cl_11 (by decide) rfl q_1569 dX12_otherHere_1 (e_if_eq (tgt := 9) dX12_otherHere_4 (by decide) (e_aload_n dX12_otherHere_9 rfl (e_callV cl_11 cal_X12_blanks q_1750 q_1752 q_55 dX12_otherHere_10 (e_aload_n dX12_otherHere_13 rfl (e_getI rfl cl_11 (by decide) rfl q_1568 dX12_otherHere_14 (e_istore_n dX12_otherHere_17 rfl (by decide) (e_aload_n dX12_otherHere_18 rfl (e_iconst (v := 0) dX12_otherHere_19 (by decide) (e_iload_n dX12_otherHere_20 rfl (e_iconst (v := 1) dX12_otherHere_21 (by decide) (e_isub dX12_otherHere_22 (e_callV cl_11 cal_X12_numberHere q_1791 q_1793 q_63 dX12_otherHere_23 (e_istore dX12_otherHere_26 (by decide) (e_aload_n dX12_otherHere_28 rfl (e_getI rfl cl_11 (by decide) rfl q_1569 dX12_otherHere_29 (e_if_ne (tgt := 47) dX12_otherHere_32 (by decide) (e_iload dX12_otherHere_47 (e_ireturn rfl dX12_otherHere_49)) (e_iload dX12_otherHere_35 (e_iload_n dX12_otherHere_37 rfl (e_ic_ne (tgt := 47) dX12_otherHere_38 (by decide) (e_iload dX12_otherHere_47 (e_ireturn rfl dX12_otherHere_49)) (e_aload_n dX12_otherHere_41 rfl (e_iconst (v := 2) dX12_otherHere_42 (by decide) (e_iload_n dX12_otherHere_43 rfl (e_callV cl_11 cal_X12_wrong q_1783 q_1785 q_61 dX12_otherHere_44 (e_iload dX12_otherHere_47 (e_ireturn rfl dX12_otherHere_49)))))))))))))))))))))))) (e_iconst (v := 0) dX12_otherHere_7 (by decide) (e_ireturn rfl dX12_otherHere_8)))))
