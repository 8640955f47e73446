theorem dX12_clause_0 : decode cX12_clause 0 = .ok (.aload_n 0, 1) := by decide +kernel
theorem dX12_clause_1 : decode cX12_clause 1 = .ok (.invokevirtual 187, 3) := by decide +kernel
theorem dX12_clause_4 : decode cX12_clause 4 = .ok (.istore_n 1, 1) := by decide +kernel
theorem dX12_clause_5 : decode cX12_clause 5 = .ok (.iload_n 1, 1) := by decide +kernel
theorem dX12_clause_6 : decode cX12_clause 6 = .ok (.iconst (-1), 1) := by decide +kernel
theorem dX12_clause_7 : decode cX12_clause 7 = .ok (.if_icmp .ne 15, 3) := by decide +kernel
theorem dX12_clause_10 : decode cX12_clause 10 = .ok (.aload_n 0, 1) := by decide +kernel
theorem dX12_clause_11 : decode cX12_clause 11 = .ok (.iconst 1, 1) := by decide +kernel
theorem dX12_clause_12 : decode cX12_clause 12 = .ok (.aload_n 0, 1) := by decide +kernel
theorem dX12_clause_13 : decode cX12_clause 13 = .ok (.getfield 124, 3) := by decide +kernel
theorem dX12_clause_16 : decode cX12_clause 16 = .ok (.invokevirtual 144, 3) := by decide +kernel
theorem dX12_clause_19 : decode cX12_clause 19 = .ok (.goto 68, 3) := by decide +kernel
theorem dX12_clause_22 : decode cX12_clause 22 = .ok (.aload_n 0, 1) := by decide +kernel
theorem dX12_clause_23 : decode cX12_clause 23 = .ok (.getfield 177, 3) := by decide +kernel
theorem dX12_clause_26 : decode cX12_clause 26 = .ok (.bipush 60, 2) := by decide +kernel
theorem dX12_clause_28 : decode cX12_clause 28 = .ok (.if_icmp .eq 50, 3) := by decide +kernel
theorem dX12_clause_31 : decode cX12_clause 31 = .ok (.iload_n 1, 1) := by decide +kernel
theorem dX12_clause_32 : decode cX12_clause 32 = .ok (.ifCond .ne 14, 3) := by decide +kernel
theorem dX12_clause_35 : decode cX12_clause 35 = .ok (.aload_n 0, 1) := by decide +kernel
theorem dX12_clause_36 : decode cX12_clause 36 = .ok (.getfield 20, 3) := by decide +kernel
theorem dX12_clause_39 : decode cX12_clause 39 = .ok (.iconst 0, 1) := by decide +kernel
theorem dX12_clause_40 : decode cX12_clause 40 = .ok (.iaload, 1) := by decide +kernel
theorem dX12_clause_41 : decode cX12_clause 41 = .ok (.bipush 10, 2) := by decide +kernel
theorem dX12_clause_43 : decode cX12_clause 43 = .ok (.if_icmp .eq 35, 3) := by decide +kernel
theorem dX12_clause_46 : decode cX12_clause 46 = .ok (.iload_n 1, 1) := by decide +kernel
theorem dX12_clause_47 : decode cX12_clause 47 = .ok (.iconst 1, 1) := by decide +kernel
theorem dX12_clause_48 : decode cX12_clause 48 = .ok (.if_icmp .ne 14, 3) := by decide +kernel
theorem dX12_clause_51 : decode cX12_clause 51 = .ok (.aload_n 0, 1) := by decide +kernel
theorem dX12_clause_52 : decode cX12_clause 52 = .ok (.getfield 20, 3) := by decide +kernel
theorem dX12_clause_55 : decode cX12_clause 55 = .ok (.iconst 1, 1) := by decide +kernel
theorem dX12_clause_56 : decode cX12_clause 56 = .ok (.iaload, 1) := by decide +kernel
theorem dX12_clause_57 : decode cX12_clause 57 = .ok (.bipush 8, 2) := by decide +kernel
theorem dX12_clause_59 : decode cX12_clause 59 = .ok (.if_icmp .eq 19, 3) := by decide +kernel
theorem dX12_clause_62 : decode cX12_clause 62 = .ok (.iload_n 1, 1) := by decide +kernel
theorem dX12_clause_63 : decode cX12_clause 63 = .ok (.iconst 2, 1) := by decide +kernel
theorem dX12_clause_64 : decode cX12_clause 64 = .ok (.if_icmp .ne 23, 3) := by decide +kernel
theorem dX12_clause_67 : decode cX12_clause 67 = .ok (.aload_n 0, 1) := by decide +kernel
theorem dX12_clause_68 : decode cX12_clause 68 = .ok (.getfield 20, 3) := by decide +kernel
theorem dX12_clause_71 : decode cX12_clause 71 = .ok (.iconst 2, 1) := by decide +kernel
theorem dX12_clause_72 : decode cX12_clause 72 = .ok (.iaload, 1) := by decide +kernel
theorem dX12_clause_73 : decode cX12_clause 73 = .ok (.bipush 8, 2) := by decide +kernel
theorem dX12_clause_75 : decode cX12_clause 75 = .ok (.if_icmp .ne 12, 3) := by decide +kernel
theorem dX12_clause_78 : decode cX12_clause 78 = .ok (.aload_n 0, 1) := by decide +kernel
theorem dX12_clause_79 : decode cX12_clause 79 = .ok (.iconst 3, 1) := by decide +kernel
theorem dX12_clause_80 : decode cX12_clause 80 = .ok (.aload_n 0, 1) := by decide +kernel
theorem dX12_clause_81 : decode cX12_clause 81 = .ok (.getfield 124, 3) := by decide +kernel
theorem dX12_clause_84 : decode cX12_clause 84 = .ok (.invokevirtual 144, 3) := by decide +kernel
theorem dX12_clause_87 : decode cX12_clause 87 = .ok (.aload_n 0, 1) := by decide +kernel
theorem dX12_clause_88 : decode cX12_clause 88 = .ok (.getfield 131, 3) := by decide +kernel
theorem dX12_clause_91 : decode cX12_clause 91 = .ok (.ifCond .eq 4, 3) := by decide +kernel
theorem dX12_clause_94 : decode cX12_clause 94 = .ok (.return_, 1) := by decide +kernel
theorem dX12_clause_95 : decode cX12_clause 95 = .ok (.aload_n 0, 1) := by decide +kernel
theorem dX12_clause_96 : decode cX12_clause 96 = .ok (.invokevirtual 174, 3) := by decide +kernel
theorem dX12_clause_99 : decode cX12_clause 99 = .ok (.aload_n 0, 1) := by decide +kernel
theorem dX12_clause_100 : decode cX12_clause 100 = .ok (.dup, 1) := by decide +kernel
theorem dX12_clause_101 : decode cX12_clause 101 = .ok (.getfield 177, 3) := by decide +kernel
theorem dX12_clause_104 : decode cX12_clause 104 = .ok (.iconst 1, 1) := by decide +kernel
theorem dX12_clause_105 : decode cX12_clause 105 = .ok (.iadd, 1) := by decide +kernel
theorem dX12_clause_106 : decode cX12_clause 106 = .ok (.putfield 177, 3) := by decide +kernel
theorem dX12_clause_109 : decode cX12_clause 109 = .ok (.iload_n 1, 1) := by decide +kernel
theorem dX12_clause_110 : decode cX12_clause 110 = .ok (.tableswitch 365 0 5 #[38, 73, 140, 175, 230, 287], 38) := by decide +kernel
theorem dX12_clause_148 : decode cX12_clause 148 = .ok (.aload_n 0, 1) := by decide +kernel
theorem dX12_clause_149 : decode cX12_clause 149 = .ok (.getfield 28, 3) := by decide +kernel
theorem dX12_clause_152 : decode cX12_clause 152 = .ok (.aload_n 0, 1) := by decide +kernel
theorem dX12_clause_153 : decode cX12_clause 153 = .ok (.getfield 20, 3) := by decide +kernel
theorem dX12_clause_156 : decode cX12_clause 156 = .ok (.iconst 0, 1) := by decide +kernel
theorem dX12_clause_157 : decode cX12_clause 157 = .ok (.iaload, 1) := by decide +kernel
theorem dX12_clause_158 : decode cX12_clause 158 = .ok (.aaload, 1) := by decide +kernel
theorem dX12_clause_159 : decode cX12_clause 159 = .ok (.astore_n 2, 1) := by decide +kernel
theorem dX12_clause_160 : decode cX12_clause 160 = .ok (.aload_n 2, 1) := by decide +kernel
theorem dX12_clause_161 : decode cX12_clause 161 = .ok (.iconst 0, 1) := by decide +kernel
theorem dX12_clause_162 : decode cX12_clause 162 = .ok (.aload_n 0, 1) := by decide +kernel
theorem dX12_clause_163 : decode cX12_clause 163 = .ok (.iconst 0, 1) := by decide +kernel
theorem dX12_clause_164 : decode cX12_clause 164 = .ok (.bipush 60, 2) := by decide +kernel
theorem dX12_clause_166 : decode cX12_clause 166 = .ok (.invokevirtual 183, 3) := by decide +kernel
theorem dX12_clause_169 : decode cX12_clause 169 = .ok (.iastore, 1) := by decide +kernel
theorem dX12_clause_170 : decode cX12_clause 170 = .ok (.aload_n 2, 1) := by decide +kernel
theorem dX12_clause_171 : decode cX12_clause 171 = .ok (.iconst 1, 1) := by decide +kernel
theorem dX12_clause_172 : decode cX12_clause 172 = .ok (.aload_n 0, 1) := by decide +kernel
theorem dX12_clause_173 : decode cX12_clause 173 = .ok (.iconst 0, 1) := by decide +kernel
theorem dX12_clause_174 : decode cX12_clause 174 = .ok (.bipush 60, 2) := by decide +kernel
theorem dX12_clause_176 : decode cX12_clause 176 = .ok (.invokevirtual 183, 3) := by decide +kernel
theorem dX12_clause_179 : decode cX12_clause 179 = .ok (.iastore, 1) := by decide +kernel
theorem dX12_clause_180 : decode cX12_clause 180 = .ok (.goto 321, 3) := by decide +kernel
theorem dX12_clause_183 : decode cX12_clause 183 = .ok (.aload_n 0, 1) := by decide +kernel
theorem dX12_clause_184 : decode cX12_clause 184 = .ok (.getfield 34, 3) := by decide +kernel
theorem dX12_clause_187 : decode cX12_clause 187 = .ok (.aload_n 0, 1) := by decide +kernel
theorem dX12_clause_188 : decode cX12_clause 188 = .ok (.getfield 20, 3) := by decide +kernel
theorem dX12_clause_191 : decode cX12_clause 191 = .ok (.iconst 1, 1) := by decide +kernel
theorem dX12_clause_192 : decode cX12_clause 192 = .ok (.iaload, 1) := by decide +kernel
theorem dX12_clause_193 : decode cX12_clause 193 = .ok (.aaload, 1) := by decide +kernel
theorem dX12_clause_194 : decode cX12_clause 194 = .ok (.astore_n 2, 1) := by decide +kernel
theorem dX12_clause_195 : decode cX12_clause 195 = .ok (.aload_n 2, 1) := by decide +kernel
theorem dX12_clause_196 : decode cX12_clause 196 = .ok (.iconst 0, 1) := by decide +kernel
theorem dX12_clause_197 : decode cX12_clause 197 = .ok (.aload_n 0, 1) := by decide +kernel
theorem dX12_clause_198 : decode cX12_clause 198 = .ok (.iconst 0, 1) := by decide +kernel
theorem dX12_clause_199 : decode cX12_clause 199 = .ok (.aload_n 0, 1) := by decide +kernel
theorem dX12_clause_200 : decode cX12_clause 200 = .ok (.getfield 20, 3) := by decide +kernel
theorem dX12_clause_203 : decode cX12_clause 203 = .ok (.iconst 0, 1) := by decide +kernel
theorem dX12_clause_204 : decode cX12_clause 204 = .ok (.iaload, 1) := by decide +kernel
theorem dX12_clause_205 : decode cX12_clause 205 = .ok (.iconst 1, 1) := by decide +kernel
theorem dX12_clause_206 : decode cX12_clause 206 = .ok (.isub, 1) := by decide +kernel
theorem dX12_clause_207 : decode cX12_clause 207 = .ok (.invokevirtual 183, 3) := by decide +kernel
theorem dX12_clause_210 : decode cX12_clause 210 = .ok (.iastore, 1) := by decide +kernel
theorem dX12_clause_211 : decode cX12_clause 211 = .ok (.aload_n 2, 1) := by decide +kernel
theorem dX12_clause_212 : decode cX12_clause 212 = .ok (.iconst 1, 1) := by decide +kernel
theorem dX12_clause_213 : decode cX12_clause 213 = .ok (.aload_n 0, 1) := by decide +kernel
theorem dX12_clause_214 : decode cX12_clause 214 = .ok (.aload_n 2, 1) := by decide +kernel
theorem dX12_clause_215 : decode cX12_clause 215 = .ok (.iconst 0, 1) := by decide +kernel
theorem dX12_clause_216 : decode cX12_clause 216 = .ok (.iaload, 1) := by decide +kernel
theorem dX12_clause_217 : decode cX12_clause 217 = .ok (.aload_n 0, 1) := by decide +kernel
theorem dX12_clause_218 : decode cX12_clause 218 = .ok (.getfield 20, 3) := by decide +kernel
theorem dX12_clause_221 : decode cX12_clause 221 = .ok (.iconst 0, 1) := by decide +kernel
theorem dX12_clause_222 : decode cX12_clause 222 = .ok (.iaload, 1) := by decide +kernel
theorem dX12_clause_223 : decode cX12_clause 223 = .ok (.invokevirtual 191, 3) := by decide +kernel
theorem dX12_clause_226 : decode cX12_clause 226 = .ok (.iastore, 1) := by decide +kernel
theorem dX12_clause_227 : decode cX12_clause 227 = .ok (.aload_n 2, 1) := by decide +kernel
theorem dX12_clause_228 : decode cX12_clause 228 = .ok (.iconst 2, 1) := by decide +kernel
theorem dX12_clause_229 : decode cX12_clause 229 = .ok (.aload_n 0, 1) := by decide +kernel
theorem dX12_clause_230 : decode cX12_clause 230 = .ok (.iconst 1, 1) := by decide +kernel
theorem dX12_clause_231 : decode cX12_clause 231 = .ok (.bipush 20, 2) := by decide +kernel
theorem dX12_clause_233 : decode cX12_clause 233 = .ok (.invokevirtual 183, 3) := by decide +kernel
theorem dX12_clause_236 : decode cX12_clause 236 = .ok (.iastore, 1) := by decide +kernel
theorem dX12_clause_237 : decode cX12_clause 237 = .ok (.aload_n 2, 1) := by decide +kernel
theorem dX12_clause_238 : decode cX12_clause 238 = .ok (.iconst 3, 1) := by decide +kernel
theorem dX12_clause_239 : decode cX12_clause 239 = .ok (.aload_n 0, 1) := by decide +kernel
theorem dX12_clause_240 : decode cX12_clause 240 = .ok (.iconst 0, 1) := by decide +kernel
theorem dX12_clause_241 : decode cX12_clause 241 = .ok (.bipush 20, 2) := by decide +kernel
theorem dX12_clause_243 : decode cX12_clause 243 = .ok (.invokevirtual 183, 3) := by decide +kernel
theorem dX12_clause_246 : decode cX12_clause 246 = .ok (.iastore, 1) := by decide +kernel
theorem dX12_clause_247 : decode cX12_clause 247 = .ok (.goto 254, 3) := by decide +kernel
theorem dX12_clause_250 : decode cX12_clause 250 = .ok (.aload_n 0, 1) := by decide +kernel
theorem dX12_clause_251 : decode cX12_clause 251 = .ok (.getfield 52, 3) := by decide +kernel
theorem dX12_clause_254 : decode cX12_clause 254 = .ok (.aload_n 0, 1) := by decide +kernel
theorem dX12_clause_255 : decode cX12_clause 255 = .ok (.getfield 20, 3) := by decide +kernel
theorem dX12_clause_258 : decode cX12_clause 258 = .ok (.iconst 2, 1) := by decide +kernel
theorem dX12_clause_259 : decode cX12_clause 259 = .ok (.iaload, 1) := by decide +kernel
theorem dX12_clause_260 : decode cX12_clause 260 = .ok (.aaload, 1) := by decide +kernel
theorem dX12_clause_261 : decode cX12_clause 261 = .ok (.astore_n 2, 1) := by decide +kernel
theorem dX12_clause_262 : decode cX12_clause 262 = .ok (.aload_n 2, 1) := by decide +kernel
theorem dX12_clause_263 : decode cX12_clause 263 = .ok (.iconst 0, 1) := by decide +kernel
theorem dX12_clause_264 : decode cX12_clause 264 = .ok (.aload_n 0, 1) := by decide +kernel
theorem dX12_clause_265 : decode cX12_clause 265 = .ok (.iconst 0, 1) := by decide +kernel
theorem dX12_clause_266 : decode cX12_clause 266 = .ok (.bipush 9, 2) := by decide +kernel
theorem dX12_clause_268 : decode cX12_clause 268 = .ok (.invokevirtual 183, 3) := by decide +kernel
theorem dX12_clause_271 : decode cX12_clause 271 = .ok (.iastore, 1) := by decide +kernel
theorem dX12_clause_272 : decode cX12_clause 272 = .ok (.aload_n 2, 1) := by decide +kernel
theorem dX12_clause_273 : decode cX12_clause 273 = .ok (.iconst 1, 1) := by decide +kernel
theorem dX12_clause_274 : decode cX12_clause 274 = .ok (.aload_n 0, 1) := by decide +kernel
theorem dX12_clause_275 : decode cX12_clause 275 = .ok (.iconst 0, 1) := by decide +kernel
theorem dX12_clause_276 : decode cX12_clause 276 = .ok (.bipush 9, 2) := by decide +kernel
theorem dX12_clause_278 : decode cX12_clause 278 = .ok (.invokevirtual 183, 3) := by decide +kernel
theorem dX12_clause_281 : decode cX12_clause 281 = .ok (.iastore, 1) := by decide +kernel
theorem dX12_clause_282 : decode cX12_clause 282 = .ok (.goto 219, 3) := by decide +kernel
theorem dX12_clause_285 : decode cX12_clause 285 = .ok (.aload_n 0, 1) := by decide +kernel
theorem dX12_clause_286 : decode cX12_clause 286 = .ok (.iconst 0, 1) := by decide +kernel
theorem dX12_clause_287 : decode cX12_clause 287 = .ok (.aload_n 0, 1) := by decide +kernel
theorem dX12_clause_288 : decode cX12_clause 288 = .ok (.getfield 20, 3) := by decide +kernel
theorem dX12_clause_291 : decode cX12_clause 291 = .ok (.iconst 1, 1) := by decide +kernel
theorem dX12_clause_292 : decode cX12_clause 292 = .ok (.iaload, 1) := by decide +kernel
theorem dX12_clause_293 : decode cX12_clause 293 = .ok (.iconst 1, 1) := by decide +kernel
theorem dX12_clause_294 : decode cX12_clause 294 = .ok (.isub, 1) := by decide +kernel
theorem dX12_clause_295 : decode cX12_clause 295 = .ok (.invokevirtual 183, 3) := by decide +kernel
theorem dX12_clause_298 : decode cX12_clause 298 = .ok (.istore_n 2, 1) := by decide +kernel
theorem dX12_clause_299 : decode cX12_clause 299 = .ok (.aload_n 0, 1) := by decide +kernel
theorem dX12_clause_300 : decode cX12_clause 300 = .ok (.iload_n 2, 1) := by decide +kernel
theorem dX12_clause_301 : decode cX12_clause 301 = .ok (.aload_n 0, 1) := by decide +kernel
theorem dX12_clause_302 : decode cX12_clause 302 = .ok (.getfield 20, 3) := by decide +kernel
theorem dX12_clause_305 : decode cX12_clause 305 = .ok (.iconst 1, 1) := by decide +kernel
theorem dX12_clause_306 : decode cX12_clause 306 = .ok (.iaload, 1) := by decide +kernel
theorem dX12_clause_307 : decode cX12_clause 307 = .ok (.invokevirtual 191, 3) := by decide +kernel
theorem dX12_clause_310 : decode cX12_clause 310 = .ok (.istore_n 3, 1) := by decide +kernel
theorem dX12_clause_311 : decode cX12_clause 311 = .ok (.aload_n 0, 1) := by decide +kernel
theorem dX12_clause_312 : decode cX12_clause 312 = .ok (.iconst 0, 1) := by decide +kernel
theorem dX12_clause_313 : decode cX12_clause 313 = .ok (.bipush 9, 2) := by decide +kernel
theorem dX12_clause_315 : decode cX12_clause 315 = .ok (.invokevirtual 183, 3) := by decide +kernel
theorem dX12_clause_318 : decode cX12_clause 318 = .ok (.istore 4, 2) := by decide +kernel
theorem dX12_clause_320 : decode cX12_clause 320 = .ok (.aload_n 0, 1) := by decide +kernel
theorem dX12_clause_321 : decode cX12_clause 321 = .ok (.getfield 131, 3) := by decide +kernel
theorem dX12_clause_324 : decode cX12_clause 324 = .ok (.ifCond .ne 177, 3) := by decide +kernel
theorem dX12_clause_327 : decode cX12_clause 327 = .ok (.aload_n 0, 1) := by decide +kernel
theorem dX12_clause_328 : decode cX12_clause 328 = .ok (.getfield 40, 3) := by decide +kernel
theorem dX12_clause_331 : decode cX12_clause 331 = .ok (.iload_n 2, 1) := by decide +kernel
theorem dX12_clause_332 : decode cX12_clause 332 = .ok (.aaload, 1) := by decide +kernel
theorem dX12_clause_333 : decode cX12_clause 333 = .ok (.iload_n 3, 1) := by decide +kernel
theorem dX12_clause_334 : decode cX12_clause 334 = .ok (.iload 4, 2) := by decide +kernel
theorem dX12_clause_336 : decode cX12_clause 336 = .ok (.iastore, 1) := by decide +kernel
theorem dX12_clause_337 : decode cX12_clause 337 = .ok (.goto 164, 3) := by decide +kernel
theorem dX12_clause_340 : decode cX12_clause 340 = .ok (.aload_n 0, 1) := by decide +kernel
theorem dX12_clause_341 : decode cX12_clause 341 = .ok (.iconst 0, 1) := by decide +kernel
theorem dX12_clause_342 : decode cX12_clause 342 = .ok (.aload_n 0, 1) := by decide +kernel
theorem dX12_clause_343 : decode cX12_clause 343 = .ok (.getfield 20, 3) := by decide +kernel
theorem dX12_clause_346 : decode cX12_clause 346 = .ok (.iconst 1, 1) := by decide +kernel
theorem dX12_clause_347 : decode cX12_clause 347 = .ok (.iaload, 1) := by decide +kernel
theorem dX12_clause_348 : decode cX12_clause 348 = .ok (.iconst 1, 1) := by decide +kernel
theorem dX12_clause_349 : decode cX12_clause 349 = .ok (.isub, 1) := by decide +kernel
theorem dX12_clause_350 : decode cX12_clause 350 = .ok (.invokevirtual 183, 3) := by decide +kernel
theorem dX12_clause_353 : decode cX12_clause 353 = .ok (.istore_n 2, 1) := by decide +kernel
theorem dX12_clause_354 : decode cX12_clause 354 = .ok (.aload_n 0, 1) := by decide +kernel
theorem dX12_clause_355 : decode cX12_clause 355 = .ok (.iload_n 2, 1) := by decide +kernel
theorem dX12_clause_356 : decode cX12_clause 356 = .ok (.aload_n 0, 1) := by decide +kernel
theorem dX12_clause_357 : decode cX12_clause 357 = .ok (.getfield 20, 3) := by decide +kernel
theorem dX12_clause_360 : decode cX12_clause 360 = .ok (.iconst 1, 1) := by decide +kernel
theorem dX12_clause_361 : decode cX12_clause 361 = .ok (.iaload, 1) := by decide +kernel
theorem dX12_clause_362 : decode cX12_clause 362 = .ok (.invokevirtual 191, 3) := by decide +kernel
theorem dX12_clause_365 : decode cX12_clause 365 = .ok (.istore_n 3, 1) := by decide +kernel
theorem dX12_clause_366 : decode cX12_clause 366 = .ok (.aload_n 0, 1) := by decide +kernel
theorem dX12_clause_367 : decode cX12_clause 367 = .ok (.getfield 131, 3) := by decide +kernel
theorem dX12_clause_370 : decode cX12_clause 370 = .ok (.ifCond .eq 6, 3) := by decide +kernel
theorem dX12_clause_373 : decode cX12_clause 373 = .ok (.goto 128, 3) := by decide +kernel
theorem dX12_clause_376 : decode cX12_clause 376 = .ok (.aload_n 0, 1) := by decide +kernel
theorem dX12_clause_377 : decode cX12_clause 377 = .ok (.getfield 46, 3) := by decide +kernel
theorem dX12_clause_380 : decode cX12_clause 380 = .ok (.iload_n 2, 1) := by decide +kernel
theorem dX12_clause_381 : decode cX12_clause 381 = .ok (.aaload, 1) := by decide +kernel
theorem dX12_clause_382 : decode cX12_clause 382 = .ok (.iload_n 3, 1) := by decide +kernel
theorem dX12_clause_383 : decode cX12_clause 383 = .ok (.iconst 1, 1) := by decide +kernel
theorem dX12_clause_384 : decode cX12_clause 384 = .ok (.iastore, 1) := by decide +kernel
theorem dX12_clause_385 : decode cX12_clause 385 = .ok (.aload_n 0, 1) := by decide +kernel
theorem dX12_clause_386 : decode cX12_clause 386 = .ok (.getfield 46, 3) := by decide +kernel
theorem dX12_clause_389 : decode cX12_clause 389 = .ok (.iload_n 3, 1) := by decide +kernel
theorem dX12_clause_390 : decode cX12_clause 390 = .ok (.aaload, 1) := by decide +kernel
theorem dX12_clause_391 : decode cX12_clause 391 = .ok (.iload_n 2, 1) := by decide +kernel
theorem dX12_clause_392 : decode cX12_clause 392 = .ok (.iconst 1, 1) := by decide +kernel
theorem dX12_clause_393 : decode cX12_clause 393 = .ok (.iastore, 1) := by decide +kernel
theorem dX12_clause_394 : decode cX12_clause 394 = .ok (.goto 107, 3) := by decide +kernel
theorem dX12_clause_397 : decode cX12_clause 397 = .ok (.aload_n 0, 1) := by decide +kernel
theorem dX12_clause_398 : decode cX12_clause 398 = .ok (.iconst 0, 1) := by decide +kernel
theorem dX12_clause_399 : decode cX12_clause 399 = .ok (.bipush 60, 2) := by decide +kernel
theorem dX12_clause_401 : decode cX12_clause 401 = .ok (.invokevirtual 183, 3) := by decide +kernel
theorem dX12_clause_404 : decode cX12_clause 404 = .ok (.istore_n 2, 1) := by decide +kernel
theorem dX12_clause_405 : decode cX12_clause 405 = .ok (.aload_n 0, 1) := by decide +kernel
theorem dX12_clause_406 : decode cX12_clause 406 = .ok (.iconst 0, 1) := by decide +kernel
theorem dX12_clause_407 : decode cX12_clause 407 = .ok (.bipush 60, 2) := by decide +kernel
theorem dX12_clause_409 : decode cX12_clause 409 = .ok (.invokevirtual 183, 3) := by decide +kernel
theorem dX12_clause_412 : decode cX12_clause 412 = .ok (.istore_n 3, 1) := by decide +kernel
theorem dX12_clause_413 : decode cX12_clause 413 = .ok (.aload_n 0, 1) := by decide +kernel
theorem dX12_clause_414 : decode cX12_clause 414 = .ok (.iconst 0, 1) := by decide +kernel
theorem dX12_clause_415 : decode cX12_clause 415 = .ok (.bipush 9, 2) := by decide +kernel
theorem dX12_clause_417 : decode cX12_clause 417 = .ok (.invokevirtual 183, 3) := by decide +kernel
theorem dX12_clause_420 : decode cX12_clause 420 = .ok (.istore 4, 2) := by decide +kernel
theorem dX12_clause_422 : decode cX12_clause 422 = .ok (.aload_n 0, 1) := by decide +kernel
theorem dX12_clause_423 : decode cX12_clause 423 = .ok (.iconst 0, 1) := by decide +kernel
theorem dX12_clause_424 : decode cX12_clause 424 = .ok (.bipush 9, 2) := by decide +kernel
theorem dX12_clause_426 : decode cX12_clause 426 = .ok (.invokevirtual 183, 3) := by decide +kernel
theorem dX12_clause_429 : decode cX12_clause 429 = .ok (.istore 5, 2) := by decide +kernel
theorem dX12_clause_431 : decode cX12_clause 431 = .ok (.aload_n 0, 1) := by decide +kernel
theorem dX12_clause_432 : decode cX12_clause 432 = .ok (.getfield 131, 3) := by decide +kernel
theorem dX12_clause_435 : decode cX12_clause 435 = .ok (.ifCond .eq 6, 3) := by decide +kernel
theorem dX12_clause_438 : decode cX12_clause 438 = .ok (.goto 63, 3) := by decide +kernel
theorem dX12_clause_441 : decode cX12_clause 441 = .ok (.aload_n 0, 1) := by decide +kernel
theorem dX12_clause_442 : decode cX12_clause 442 = .ok (.getfield 20, 3) := by decide +kernel
theorem dX12_clause_445 : decode cX12_clause 445 = .ok (.iconst 3, 1) := by decide +kernel
theorem dX12_clause_446 : decode cX12_clause 446 = .ok (.iload_n 2, 1) := by decide +kernel
theorem dX12_clause_447 : decode cX12_clause 447 = .ok (.iastore, 1) := by decide +kernel
theorem dX12_clause_448 : decode cX12_clause 448 = .ok (.aload_n 0, 1) := by decide +kernel
theorem dX12_clause_449 : decode cX12_clause 449 = .ok (.getfield 20, 3) := by decide +kernel
theorem dX12_clause_452 : decode cX12_clause 452 = .ok (.iconst 4, 1) := by decide +kernel
theorem dX12_clause_453 : decode cX12_clause 453 = .ok (.iload_n 3, 1) := by decide +kernel
theorem dX12_clause_454 : decode cX12_clause 454 = .ok (.iastore, 1) := by decide +kernel
theorem dX12_clause_455 : decode cX12_clause 455 = .ok (.aload_n 0, 1) := by decide +kernel
theorem dX12_clause_456 : decode cX12_clause 456 = .ok (.getfield 20, 3) := by decide +kernel
theorem dX12_clause_459 : decode cX12_clause 459 = .ok (.iconst 5, 1) := by decide +kernel
theorem dX12_clause_460 : decode cX12_clause 460 = .ok (.iload 4, 2) := by decide +kernel
theorem dX12_clause_462 : decode cX12_clause 462 = .ok (.iastore, 1) := by decide +kernel
theorem dX12_clause_463 : decode cX12_clause 463 = .ok (.aload_n 0, 1) := by decide +kernel
theorem dX12_clause_464 : decode cX12_clause 464 = .ok (.getfield 20, 3) := by decide +kernel
theorem dX12_clause_467 : decode cX12_clause 467 = .ok (.bipush 6, 2) := by decide +kernel
theorem dX12_clause_469 : decode cX12_clause 469 = .ok (.iload 5, 2) := by decide +kernel
theorem dX12_clause_471 : decode cX12_clause 471 = .ok (.iastore, 1) := by decide +kernel
theorem dX12_clause_472 : decode cX12_clause 472 = .ok (.goto 29, 3) := by decide +kernel
theorem dX12_clause_475 : decode cX12_clause 475 = .ok (.aload_n 0, 1) := by decide +kernel
theorem dX12_clause_476 : decode cX12_clause 476 = .ok (.iconst 0, 1) := by decide +kernel
theorem dX12_clause_477 : decode cX12_clause 477 = .ok (.bipush 60, 2) := by decide +kernel
theorem dX12_clause_479 : decode cX12_clause 479 = .ok (.invokevirtual 183, 3) := by decide +kernel
theorem dX12_clause_482 : decode cX12_clause 482 = .ok (.istore_n 2, 1) := by decide +kernel
theorem dX12_clause_483 : decode cX12_clause 483 = .ok (.aload_n 0, 1) := by decide +kernel
theorem dX12_clause_484 : decode cX12_clause 484 = .ok (.getfield 131, 3) := by decide +kernel
theorem dX12_clause_487 : decode cX12_clause 487 = .ok (.ifCond .ne 14, 3) := by decide +kernel
theorem dX12_clause_490 : decode cX12_clause 490 = .ok (.aload_n 0, 1) := by decide +kernel
theorem dX12_clause_491 : decode cX12_clause 491 = .ok (.getfield 20, 3) := by decide +kernel
theorem dX12_clause_494 : decode cX12_clause 494 = .ok (.bipush 7, 2) := by decide +kernel
theorem dX12_clause_496 : decode cX12_clause 496 = .ok (.iload_n 2, 1) := by decide +kernel
theorem dX12_clause_497 : decode cX12_clause 497 = .ok (.iastore, 1) := by decide +kernel
theorem dX12_clause_498 : decode cX12_clause 498 = .ok (.goto 3, 3) := by decide +kernel
theorem dX12_clause_501 : decode cX12_clause 501 = .ok (.iload_n 1, 1) := by decide +kernel
theorem dX12_clause_502 : decode cX12_clause 502 = .ok (.iconst 3, 1) := by decide +kernel
theorem dX12_clause_503 : decode cX12_clause 503 = .ok (.if_icmp .ge 24, 3) := by decide +kernel
theorem dX12_clause_506 : decode cX12_clause 506 = .ok (.aload_n 0, 1) := by decide +kernel
theorem dX12_clause_507 : decode cX12_clause 507 = .ok (.getfield 20, 3) := by decide +kernel
theorem dX12_clause_510 : decode cX12_clause 510 = .ok (.iload_n 1, 1) := by decide +kernel
theorem dX12_clause_511 : decode cX12_clause 511 = .ok (.dup2, 1) := by decide +kernel
theorem dX12_clause_512 : decode cX12_clause 512 = .ok (.iaload, 1) := by decide +kernel
theorem dX12_clause_513 : decode cX12_clause 513 = .ok (.aload_n 0, 1) := by decide +kernel
theorem dX12_clause_514 : decode cX12_clause 514 = .ok (.getfield 131, 3) := by decide +kernel
theorem dX12_clause_517 : decode cX12_clause 517 = .ok (.ifCond .ne 7, 3) := by decide +kernel
theorem dX12_clause_520 : decode cX12_clause 520 = .ok (.iconst 1, 1) := by decide +kernel
theorem dX12_clause_521 : decode cX12_clause 521 = .ok (.goto 4, 3) := by decide +kernel
theorem dX12_clause_524 : decode cX12_clause 524 = .ok (.iconst 0, 1) := by decide +kernel
theorem dX12_clause_525 : decode cX12_clause 525 = .ok (.iadd, 1) := by decide +kernel
theorem dX12_clause_526 : decode cX12_clause 526 = .ok (.iastore, 1) := by decide +kernel
theorem dX12_clause_527 : decode cX12_clause 527 = .ok (.aload_n 0, 1) := by decide +kernel
theorem dX12_clause_528 : decode cX12_clause 528 = .ok (.bipush 59, 2) := by decide +kernel
theorem dX12_clause_530 : decode cX12_clause 530 = .ok (.invokevirtual 194, 3) := by decide +kernel
theorem dX12_clause_533 : decode cX12_clause 533 = .ok (.return_, 1) := by decide +kernel
set_option maxRecDepth 100000 in
theorem T_X12_clause_0 {G : GE} {d C S : Nat} {P : KN} : Snd G MX12_clause (d + 1) C S 0 (RN P) (s_aload 0 (s_callV G d MX12_kindHere 0 11 (s_istore 1 (s_iload 1 (s_iconst (-1) (s_ic_ne (s_aload 0 (s_getI 11 7 (s_iconst 60 (s_ic_eq (s_aload 0 (s_iconst 3 (s_aload 0 (s_getI 11 4 (s_callV G d MX12_wrong 2 11 (fun L st h => E G MX12_clause (d + 1) C S 87 (msk [true, true, false, false, false, false] L) st h (RN P))))))) (s_iload 1 (s_if_ne (fun L st h => E G MX12_clause (d + 1) C S 46 (msk [true, true, false, false, false, false] L) st h (RN P)) (s_aload 0 (s_getR 11 11 (s_iconst 0 (s_iaload (s_iconst 10 (s_ic_eq (s_aload 0 (s_iconst 3 (s_aload 0 (s_getI 11 4 (s_callV G d MX12_wrong 2 11 (fun L st h => E G MX12_clause (d + 1) C S 87 (msk [true, true, false, false, false, false] L) st h (RN P))))))) (fun L st h => E G MX12_clause (d + 1) C S 46 (msk [true, true, false, false, false, false] L) st h (RN P)))))))))))))) (s_aload 0 (s_iconst 1 (s_aload 0 (s_getI 11 4 (s_callV G d MX12_wrong 2 11 (fun L st h => E G MX12_clause (d + 1) C S 87 (msk [true, true, false, false, false, false] L) st h (RN P))))))))))))) := (e_aload_n dX12_clause_0 rfl (e_callV cl_11 cal_X12_kindHere q_1762 q_1764 q_58 dX12_clause_1 (e_istore_n dX12_clause_4 rfl (by decide) (e_iload_n dX12_clause_5 rfl (e_iconst (v := (-1)) dX12_clause_6 (by decide) (e_ic_ne (tgt := 22) dX12_clause_7 (by decide) (e_aload_n dX12_clause_22 rfl (e_getI rfl cl_11 (by decide) rfl q_1571 dX12_clause_23 (e_bipush (v := 60) dX12_clause_26 (by decide) (e_ic_eq (tgt := 78) dX12_clause_28 (by decide) (e_aload_n dX12_clause_78 rfl (e_iconst (v := 3) dX12_clause_79 (by decide) (e_aload_n dX12_clause_80 rfl (e_getI rfl cl_11 (by decide) rfl q_1568 dX12_clause_81 (e_callV cl_11 cal_X12_wrong q_1783 q_1785 q_61 dX12_clause_84 (e_msk [true, true, false, false, false, false])))))) (e_iload_n dX12_clause_31 rfl (e_if_ne (tgt := 46) dX12_clause_32 (by decide) (e_msk [true, true, false, false, false, false]) (e_aload_n dX12_clause_35 rfl (e_getR rfl cl_11 (by decide) rfl q_1575 dX12_clause_36 (e_iconst (v := 0) dX12_clause_39 (by decide) (e_iaload dX12_clause_40 (e_bipush (v := 10) dX12_clause_41 (by decide) (e_ic_eq (tgt := 78) dX12_clause_43 (by decide) (e_aload_n dX12_clause_78 rfl (e_iconst (v := 3) dX12_clause_79 (by decide) (e_aload_n dX12_clause_80 rfl (e_getI rfl cl_11 (by decide) rfl q_1568 dX12_clause_81 (e_callV cl_11 cal_X12_wrong q_1783 q_1785 q_61 dX12_clause_84 (e_msk [true, true, false, false, false, false])))))) (e_msk [true, true, false, false, false, false]))))))))))))) (e_aload_n dX12_clause_10 rfl (e_iconst (v := 1) dX12_clause_11 (by decide) (e_aload_n dX12_clause_12 rfl (e_getI rfl cl_11 (by decide) rfl q_1568 dX12_clause_13 (e_callV cl_11 cal_X12_wrong q_1783 q_1785 q_61 dX12_clause_16 (e_goto (tgt := 87) dX12_clause_19 (by decide) (e_msk [true, true, false, false, false, false])))))))))))))
set_option maxRecDepth 100000 in
theorem V_X12_clause_0 {G : GE} {d : Nat} {P : KN} {a : Nat → Nat → Int32} {r : Nat → Nat → Value} {N : Nat} {l0 : Nat} (hs : (tyK l0 = (0, 11) ∧ l0 < N ∧ Sp G d 0 0 MX12_kindHere [.ref l0] (a, r, N) (RI fun v4 a1 r2 n3 => ((¬ v4 = (-1) → (tyK l0 = (0, 11) ∧ l0 < n3 ∧ (((a1 l0 7) = 60 → (tyK l0 = (0, 11) ∧ l0 < n3 ∧ (tyK l0 = (0, 11) ∧ l0 < n3 ∧ Sp G d 0 0 MX12_wrong [.ref l0, .int 3, .int (a1 l0 4)] (a1, r2, n3) (RN fun a5 r6 n7 => E G MX12_clause (d + 1) 0 0 87 [.ref l0, .int v4, .null, .null, .null, .null] [] (a5, r6, n7) (RN P))))) ∧ (¬ (a1 l0 7) = 60 → ((¬ v4 = 0 → E G MX12_clause (d + 1) 0 0 46 [.ref l0, .int v4, .null, .null, .null, .null] [] (a1, r2, n3) (RN P)) ∧ (v4 = 0 → (tyK l0 = (0, 11) ∧ l0 < n3 ∧ ∃ q8, r2 l0 11 = .ref q8 ∧ ((tyK q8).1 = 1 ∧ q8 < n3 ∧ vp_in 0 (tyK q8).2 ∧ (((a1 q8 (0 : Int32).toNatClampNeg) = 10 → (tyK l0 = (0, 11) ∧ l0 < n3 ∧ (tyK l0 = (0, 11) ∧ l0 < n3 ∧ Sp G d 0 0 MX12_wrong [.ref l0, .int 3, .int (a1 l0 4)] (a1, r2, n3) (RN fun a9 r10 n11 => E G MX12_clause (d + 1) 0 0 87 [.ref l0, .int v4, .null, .null, .null, .null] [] (a9, r10, n11) (RN P))))) ∧ (¬ (a1 q8 (0 : Int32).toNatClampNeg) = 10 → E G MX12_clause (d + 1) 0 0 46 [.ref l0, .int v4, .null, .null, .null, .null] [] (a1, r2, n3) (RN P))))))))))) ∧ (v4 = (-1) → (tyK l0 = (0, 11) ∧ l0 < n3 ∧ (tyK l0 = (0, 11) ∧ l0 < n3 ∧ Sp G d 0 0 MX12_wrong [.ref l0, .int 1, .int (a1 l0 4)] (a1, r2, n3) (RN fun a12 r13 n14 => E G MX12_clause (d + 1) 0 0 87 [.ref l0, .int v4, .null, .null, .null, .null] [] (a12, r13, n14) (RN P))))))))) : Sp G (d + 1) 0 0 MX12_clause [.ref l0] (a, r, N) (RN P) := Sp.mk (mc := 0) (ms := 0) [.ref l0, .null, .null, .null, .null, .null] rfl rfl rfl rfl (T_X12_clause_0 (C := 0) (S := 0) _ _ _ hs)
set_option maxRecDepth 100000 in
theorem T_X12_clause_46 {G : GE} {d C S : Nat} {P : KN} : Snd G MX12_clause (d + 1) C S 46 (RN P) (s_iload 1 (s_iconst 1 (s_ic_ne (s_iload 1 (s_iconst 2 (s_ic_ne (fun L st h => E G MX12_clause (d + 1) C S 87 (msk [true, true, false, false, false, false] L) st h (RN P)) (s_aload 0 (s_getR 11 11 (s_iconst 2 (s_iaload (s_iconst 8 (s_ic_ne (fun L st h => E G MX12_clause (d + 1) C S 87 (msk [true, true, false, false, false, false] L) st h (RN P)) (s_aload 0 (s_iconst 3 (s_aload 0 (s_getI 11 4 (s_callV G d MX12_wrong 2 11 (fun L st h => E G MX12_clause (d + 1) C S 87 (msk [true, true, false, false, false, false] L) st h (RN P)))))))))))))))) (s_aload 0 (s_getR 11 11 (s_iconst 1 (s_iaload (s_iconst 8 (s_ic_eq (s_aload 0 (s_iconst 3 (s_aload 0 (s_getI 11 4 (s_callV G d MX12_wrong 2 11 (fun L st h => E G MX12_clause (d + 1) C S 87 (msk [true, true, false, false, false, false] L) st h (RN P))))))) (s_iload 1 (s_iconst 2 (s_ic_ne (fun L st h => E G MX12_clause (d + 1) C S 87 (msk [true, true, false, false, false, false] L) st h (RN P)) (s_aload 0 (s_getR 11 11 (s_iconst 2 (s_iaload (s_iconst 8 (s_ic_ne (fun L st h => E G MX12_clause (d + 1) C S 87 (msk [true, true, false, false, false, false] L) st h (RN P)) (s_aload 0 (s_iconst 3 (s_aload 0 (s_getI 11 4 (s_callV G d MX12_wrong 2 11 (fun L st h => E G MX12_clause (d + 1) C S 87 (msk [true, true, false, false, false, false] L) st h (RN P))))))))))))))))))))))))) := (e_iload_n dX12_clause_46 rfl (e_iconst (v := 1) dX12_clause_47 (by decide) (e_ic_ne (tgt := 62) dX12_clause_48 (by decide) (e_iload_n dX12_clause_62 rfl (e_iconst (v := 2) dX12_clause_63 (by decide) (e_ic_ne (tgt := 87) dX12_clause_64 (by decide) (e_msk [true, true, false, false, false, false]) (e_aload_n dX12_clause_67 rfl (e_getR rfl cl_11 (by decide) rfl q_1575 dX12_clause_68 (e_iconst (v := 2) dX12_clause_71 (by decide) (e_iaload dX12_clause_72 (e_bipush (v := 8) dX12_clause_73 (by decide) (e_ic_ne (tgt := 87) dX12_clause_75 (by decide) (e_msk [true, true, false, false, false, false]) (e_aload_n dX12_clause_78 rfl (e_iconst (v := 3) dX12_clause_79 (by decide) (e_aload_n dX12_clause_80 rfl (e_getI rfl cl_11 (by decide) rfl q_1568 dX12_clause_81 (e_callV cl_11 cal_X12_wrong q_1783 q_1785 q_61 dX12_clause_84 (e_msk [true, true, false, false, false, false]))))))))))))))) (e_aload_n dX12_clause_51 rfl (e_getR rfl cl_11 (by decide) rfl q_1575 dX12_clause_52 (e_iconst (v := 1) dX12_clause_55 (by decide) (e_iaload dX12_clause_56 (e_bipush (v := 8) dX12_clause_57 (by decide) (e_ic_eq (tgt := 78) dX12_clause_59 (by decide) (e_aload_n dX12_clause_78 rfl (e_iconst (v := 3) dX12_clause_79 (by decide) (e_aload_n dX12_clause_80 rfl (e_getI rfl cl_11 (by decide) rfl q_1568 dX12_clause_81 (e_callV cl_11 cal_X12_wrong q_1783 q_1785 q_61 dX12_clause_84 (e_msk [true, true, false, false, false, false])))))) (e_iload_n dX12_clause_62 rfl (e_iconst (v := 2) dX12_clause_63 (by decide) (e_ic_ne (tgt := 87) dX12_clause_64 (by decide) (e_msk [true, true, false, false, false, false]) (e_aload_n dX12_clause_67 rfl (e_getR rfl cl_11 (by decide) rfl q_1575 dX12_clause_68 (e_iconst (v := 2) dX12_clause_71 (by decide) (e_iaload dX12_clause_72 (e_bipush (v := 8) dX12_clause_73 (by decide) (e_ic_ne (tgt := 87) dX12_clause_75 (by decide) (e_msk [true, true, false, false, false, false]) (e_aload_n dX12_clause_78 rfl (e_iconst (v := 3) dX12_clause_79 (by decide) (e_aload_n dX12_clause_80 rfl (e_getI rfl cl_11 (by decide) rfl q_1568 dX12_clause_81 (e_callV cl_11 cal_X12_wrong q_1783 q_1785 q_61 dX12_clause_84 (e_msk [true, true, false, false, false, false]))))))))))))))))))))))))
set_option maxRecDepth 100000 in
theorem V_X12_clause_46 {G : GE} {d C S : Nat} {P : KN} {a : Nat → Nat → Int32} {r : Nat → Nat → Value} {N : Nat} {l0 : Nat} {l1 : Int32} (hs : ((¬ l1 = 1 → ((¬ l1 = 2 → E G MX12_clause (d + 1) C S 87 [.ref l0, .int l1, .null, .null, .null, .null] [] (a, r, N) (RN P)) ∧ (l1 = 2 → (tyK l0 = (0, 11) ∧ l0 < N ∧ ∃ q1, r l0 11 = .ref q1 ∧ ((tyK q1).1 = 1 ∧ q1 < N ∧ vp_in 2 (tyK q1).2 ∧ ((¬ (a q1 (2 : Int32).toNatClampNeg) = 8 → E G MX12_clause (d + 1) C S 87 [.ref l0, .int l1, .null, .null, .null, .null] [] (a, r, N) (RN P)) ∧ ((a q1 (2 : Int32).toNatClampNeg) = 8 → (tyK l0 = (0, 11) ∧ l0 < N ∧ (tyK l0 = (0, 11) ∧ l0 < N ∧ Sp G d 0 0 MX12_wrong [.ref l0, .int 3, .int (a l0 4)] (a, r, N) (RN fun a2 r3 n4 => E G MX12_clause (d + 1) C S 87 [.ref l0, .int l1, .null, .null, .null, .null] [] (a2, r3, n4) (RN P))))))))))) ∧ (l1 = 1 → (tyK l0 = (0, 11) ∧ l0 < N ∧ ∃ q5, r l0 11 = .ref q5 ∧ ((tyK q5).1 = 1 ∧ q5 < N ∧ vp_in 1 (tyK q5).2 ∧ (((a q5 (1 : Int32).toNatClampNeg) = 8 → (tyK l0 = (0, 11) ∧ l0 < N ∧ (tyK l0 = (0, 11) ∧ l0 < N ∧ Sp G d 0 0 MX12_wrong [.ref l0, .int 3, .int (a l0 4)] (a, r, N) (RN fun a6 r7 n8 => E G MX12_clause (d + 1) C S 87 [.ref l0, .int l1, .null, .null, .null, .null] [] (a6, r7, n8) (RN P))))) ∧ (¬ (a q5 (1 : Int32).toNatClampNeg) = 8 → ((¬ l1 = 2 → E G MX12_clause (d + 1) C S 87 [.ref l0, .int l1, .null, .null, .null, .null] [] (a, r, N) (RN P)) ∧ (l1 = 2 → (tyK l0 = (0, 11) ∧ l0 < N ∧ ∃ q9, r l0 11 = .ref q9 ∧ ((tyK q9).1 = 1 ∧ q9 < N ∧ vp_in 2 (tyK q9).2 ∧ ((¬ (a q9 (2 : Int32).toNatClampNeg) = 8 → E G MX12_clause (d + 1) C S 87 [.ref l0, .int l1, .null, .null, .null, .null] [] (a, r, N) (RN P)) ∧ ((a q9 (2 : Int32).toNatClampNeg) = 8 → (tyK l0 = (0, 11) ∧ l0 < N ∧ (tyK l0 = (0, 11) ∧ l0 < N ∧ Sp G d 0 0 MX12_wrong [.ref l0, .int 3, .int (a l0 4)] (a, r, N) (RN fun a10 r11 n12 => E G MX12_clause (d + 1) C S 87 [.ref l0, .int l1, .null, .null, .null, .null] [] (a10, r11, n12) (RN P))))))))))))))))) : E G MX12_clause (d + 1) C S 46 [.ref l0, .int l1, .null, .null, .null, .null] [] (a, r, N) (RN P) := T_X12_clause_46 _ _ _ hs
set_option maxRecDepth 100000 in
theorem T_X12_clause_87 {G : GE} {d C S : Nat} {P : KN} : Snd G MX12_clause (d + 1) C S 87 (RN P) (s_aload 0 (s_getI 11 5 (s_if_eq (s_aload 0 (s_callV G d MX12_skipWord 0 11 (s_aload 0 (s_dup (s_getI 11 7 (s_iconst 1 (s_iadd (s_putI 11 7 (s_iload 1 (s_switch [(0, (s_aload 0 (s_getR 11 13 (s_aload 0 (s_getR 11 11 (s_iconst 0 (s_iaload (s_aaload (s_astore 2 (s_aload 2 (s_iconst 0 (s_aload 0 (s_iconst 0 (s_iconst 60 (s_callV G d MX12_numberHere 2 11 (s_iastore (s_aload 2 (s_iconst 1 (s_aload 0 (s_iconst 0 (s_iconst 60 (s_callV G d MX12_numberHere 2 11 (s_iastore (fun L st h => E G MX12_clause (d + 1) C S 501 (msk [true, true, false, false, false, false] L) st h (RN P))))))))))))))))))))))))), (1, (s_aload 0 (s_getR 11 15 (s_aload 0 (s_getR 11 11 (s_iconst 1 (s_iaload (s_aaload (s_astore 2 (s_aload 2 (s_iconst 0 (s_aload 0 (s_iconst 0 (s_aload 0 (s_getR 11 11 (s_iconst 0 (s_iaload (s_iconst 1 (s_isub (s_callV G d MX12_numberHere 2 11 (s_iastore (s_aload 2 (s_iconst 1 (s_aload 0 (s_aload 2 (s_iconst 0 (s_iaload (s_aload 0 (s_getR 11 11 (s_iconst 0 (s_iaload (s_callV G d MX12_otherHere 2 11 (s_iastore (s_aload 2 (s_iconst 2 (s_aload 0 (s_iconst 1 (s_iconst 20 (s_callV G d MX12_numberHere 2 11 (s_iastore (s_aload 2 (s_iconst 3 (s_aload 0 (s_iconst 0 (s_iconst 20 (s_callV G d MX12_numberHere 2 11 (s_iastore (fun L st h => E G MX12_clause (d + 1) C S 501 (msk [true, true, false, false, false, false] L) st h (RN P))))))))))))))))))))))))))))))))))))))))))))))))), (2, (s_aload 0 (s_getR 11 21 (s_aload 0 (s_getR 11 11 (s_iconst 2 (s_iaload (s_aaload (s_astore 2 (s_aload 2 (s_iconst 0 (s_aload 0 (s_iconst 0 (s_iconst 9 (s_callV G d MX12_numberHere 2 11 (s_iastore (s_aload 2 (s_iconst 1 (s_aload 0 (s_iconst 0 (s_iconst 9 (s_callV G d MX12_numberHere 2 11 (s_iastore (fun L st h => E G MX12_clause (d + 1) C S 501 (msk [true, true, false, false, false, false] L) st h (RN P))))))))))))))))))))))))), (3, (s_aload 0 (s_iconst 0 (s_aload 0 (s_getR 11 11 (s_iconst 1 (s_iaload (s_iconst 1 (s_isub (s_callV G d MX12_numberHere 2 11 (s_istore 2 (s_aload 0 (s_iload 2 (s_aload 0 (s_getR 11 11 (s_iconst 1 (s_iaload (s_callV G d MX12_otherHere 2 11 (s_istore 3 (s_aload 0 (s_iconst 0 (s_iconst 9 (s_callV G d MX12_numberHere 2 11 (s_istore 4 (s_aload 0 (s_getI 11 5 (s_if_ne (fun L st h => E G MX12_clause (d + 1) C S 501 (msk [true, true, false, false, false, false] L) st h (RN P)) (s_aload 0 (s_getR 11 17 (s_iload 2 (s_aaload (s_iload 3 (s_iload 4 (s_iastore (fun L st h => E G MX12_clause (d + 1) C S 501 (msk [true, true, false, false, false, false] L) st h (RN P)))))))))))))))))))))))))))))))))))), (4, (s_aload 0 (s_iconst 0 (s_aload 0 (s_getR 11 11 (s_iconst 1 (s_iaload (s_iconst 1 (s_isub (s_callV G d MX12_numberHere 2 11 (s_istore 2 (s_aload 0 (s_iload 2 (s_aload 0 (s_getR 11 11 (s_iconst 1 (s_iaload (s_callV G d MX12_otherHere 2 11 (s_istore 3 (s_aload 0 (s_getI 11 5 (s_if_eq (s_aload 0 (s_getR 11 19 (s_iload 2 (s_aaload (s_iload 3 (s_iconst 1 (s_iastore (s_aload 0 (s_getR 11 19 (s_iload 3 (s_aaload (s_iload 2 (s_iconst 1 (s_iastore (fun L st h => E G MX12_clause (d + 1) C S 501 (msk [true, true, false, false, false, false] L) st h (RN P)))))))))))))))) (fun L st h => E G MX12_clause (d + 1) C S 501 (msk [true, true, false, false, false, false] L) st h (RN P)))))))))))))))))))))))), (5, (s_aload 0 (s_iconst 0 (s_iconst 60 (s_callV G d MX12_numberHere 2 11 (s_istore 2 (s_aload 0 (s_iconst 0 (s_iconst 60 (s_callV G d MX12_numberHere 2 11 (s_istore 3 (s_aload 0 (s_iconst 0 (s_iconst 9 (s_callV G d MX12_numberHere 2 11 (s_istore 4 (s_aload 0 (s_iconst 0 (s_iconst 9 (s_callV G d MX12_numberHere 2 11 (s_istore 5 (s_aload 0 (s_getI 11 5 (s_if_eq (s_aload 0 (s_getR 11 11 (s_iconst 3 (s_iload 2 (s_iastore (s_aload 0 (s_getR 11 11 (s_iconst 4 (s_iload 3 (s_iastore (s_aload 0 (s_getR 11 11 (s_iconst 5 (s_iload 4 (s_iastore (s_aload 0 (s_getR 11 11 (s_iconst 6 (s_iload 5 (s_iastore (fun L st h => E G MX12_clause (d + 1) C S 501 (msk [true, true, false, false, false, false] L) st h (RN P)))))))))))))))))))))) (fun L st h => E G MX12_clause (d + 1) C S 501 (msk [true, true, false, false, false, false] L) st h (RN P))))))))))))))))))))))))))] (s_aload 0 (s_iconst 0 (s_iconst 60 (s_callV G d MX12_numberHere 2 11 (s_istore 2 (s_aload 0 (s_getI 11 5 (s_if_ne (fun L st h => E G MX12_clause (d + 1) C S 501 (msk [true, true, false, false, false, false] L) st h (RN P)) (s_aload 0 (s_getR 11 11 (s_iconst 7 (s_iload 2 (s_iastore (fun L st h => E G MX12_clause (d + 1) C S 501 (msk [true, true, false, false, false, false] L) st h (RN P))))))))))))))))))))))))) (s_return P)))) := (e_aload_n dX12_clause_87 rfl (e_getI rfl cl_11 (by decide) rfl q_1569 dX12_clause_88 (e_if_eq (tgt := 95) dX12_clause_91 (by decide) (e_aload_n dX12_clause_95 rfl (e_callV cl_11 cal_X12_skipWord q_1787 q_1789 q_62 dX12_clause_96 (e_aload_n dX12_clause_99 rfl (e_dup dX12_clause_100 (e_getI rfl cl_11 (by decide) rfl q_1571 dX12_clause_101 (e_iconst (v := 1) dX12_clause_104 (by decide) (e_iadd dX12_clause_105 (e_putI rfl cl_11 (by decide) rfl rfl rfl q_1571 dX12_clause_106 (e_iload_n dX12_clause_109 rfl (e_tsw (tg := [148, 183, 250, 285, 340, 397]) (td := 475) [0, 1, 2, 3, 4, 5] rfl dX12_clause_110 (by decide) (by decide) (by decide +kernel) (by decide +kernel) (swc (t0 := 148) (e_aload_n dX12_clause_148 rfl (e_getR rfl cl_11 (by decide) rfl q_1577 dX12_clause_149 (e_aload_n dX12_clause_152 rfl (e_getR rfl cl_11 (by decide) rfl q_1575 dX12_clause_153 (e_iconst (v := 0) dX12_clause_156 (by decide) (e_iaload dX12_clause_157 (e_aaload dX12_clause_158 (e_astore_n dX12_clause_159 rfl (by decide) (e_aload_n dX12_clause_160 rfl (e_iconst (v := 0) dX12_clause_161 (by decide) (e_aload_n dX12_clause_162 rfl (e_iconst (v := 0) dX12_clause_163 (by decide) (e_bipush (v := 60) dX12_clause_164 (by decide) (e_callV cl_11 cal_X12_numberHere q_1791 q_1793 q_63 dX12_clause_166 (e_iastore dX12_clause_169 (e_aload_n dX12_clause_170 rfl (e_iconst (v := 1) dX12_clause_171 (by decide) (e_aload_n dX12_clause_172 rfl (e_iconst (v := 0) dX12_clause_173 (by decide) (e_bipush (v := 60) dX12_clause_174 (by decide) (e_callV cl_11 cal_X12_numberHere q_1791 q_1793 q_63 dX12_clause_176 (e_iastore dX12_clause_179 (e_goto (tgt := 501) dX12_clause_180 (by decide) (e_msk [true, true, false, false, false, false])))))))))))))))))))))))) (swc (t0 := 183) (e_aload_n dX12_clause_183 rfl (e_getR rfl cl_11 (by decide) rfl q_1579 dX12_clause_184 (e_aload_n dX12_clause_187 rfl (e_getR rfl cl_11 (by decide) rfl q_1575 dX12_clause_188 (e_iconst (v := 1) dX12_clause_191 (by decide) (e_iaload dX12_clause_192 (e_aaload dX12_clause_193 (e_astore_n dX12_clause_194 rfl (by decide) (e_aload_n dX12_clause_195 rfl (e_iconst (v := 0) dX12_clause_196 (by decide) (e_aload_n dX12_clause_197 rfl (e_iconst (v := 0) dX12_clause_198 (by decide) (e_aload_n dX12_clause_199 rfl (e_getR rfl cl_11 (by decide) rfl q_1575 dX12_clause_200 (e_iconst (v := 0) dX12_clause_203 (by decide) (e_iaload dX12_clause_204 (e_iconst (v := 1) dX12_clause_205 (by decide) (e_isub dX12_clause_206 (e_callV cl_11 cal_X12_numberHere q_1791 q_1793 q_63 dX12_clause_207 (e_iastore dX12_clause_210 (e_aload_n dX12_clause_211 rfl (e_iconst (v := 1) dX12_clause_212 (by decide) (e_aload_n dX12_clause_213 rfl (e_aload_n dX12_clause_214 rfl (e_iconst (v := 0) dX12_clause_215 (by decide) (e_iaload dX12_clause_216 (e_aload_n dX12_clause_217 rfl (e_getR rfl cl_11 (by decide) rfl q_1575 dX12_clause_218 (e_iconst (v := 0) dX12_clause_221 (by decide) (e_iaload dX12_clause_222 (e_callV cl_11 cal_X12_otherHere q_1799 q_1801 q_64 dX12_clause_223 (e_iastore dX12_clause_226 (e_aload_n dX12_clause_227 rfl (e_iconst (v := 2) dX12_clause_228 (by decide) (e_aload_n dX12_clause_229 rfl (e_iconst (v := 1) dX12_clause_230 (by decide) (e_bipush (v := 20) dX12_clause_231 (by decide) (e_callV cl_11 cal_X12_numberHere q_1791 q_1793 q_63 dX12_clause_233 (e_iastore dX12_clause_236 (e_aload_n dX12_clause_237 rfl (e_iconst (v := 3) dX12_clause_238 (by decide) (e_aload_n dX12_clause_239 rfl (e_iconst (v := 0) dX12_clause_240 (by decide) (e_bipush (v := 20) dX12_clause_241 (by decide) (e_callV cl_11 cal_X12_numberHere q_1791 q_1793 q_63 dX12_clause_243 (e_iastore dX12_clause_246 (e_goto (tgt := 501) dX12_clause_247 (by decide) (e_msk [true, true, false, false, false, false])))))))))))))))))))))))))))))))))))))))))))))))) (swc (t0 := 250) (e_aload_n dX12_clause_250 rfl (e_getR rfl cl_11 (by decide) rfl q_1585 dX12_clause_251 (e_aload_n dX12_clause_254 rfl (e_getR rfl cl_11 (by decide) rfl q_1575 dX12_clause_255 (e_iconst (v := 2) dX12_clause_258 (by decide) (e_iaload dX12_clause_259 (e_aaload dX12_clause_260 (e_astore_n dX12_clause_261 rfl (by decide) (e_aload_n dX12_clause_262 rfl (e_iconst (v := 0) dX12_clause_263 (by decide) (e_aload_n dX12_clause_264 rfl (e_iconst (v := 0) dX12_clause_265 (by decide) (e_bipush (v := 9) dX12_clause_266 (by decide) (e_callV cl_11 cal_X12_numberHere q_1791 q_1793 q_63 dX12_clause_268 (e_iastore dX12_clause_271 (e_aload_n dX12_clause_272 rfl (e_iconst (v := 1) dX12_clause_273 (by decide) (e_aload_n dX12_clause_274 rfl (e_iconst (v := 0) dX12_clause_275 (by decide) (e_bipush (v := 9) dX12_clause_276 (by decide) (e_callV cl_11 cal_X12_numberHere q_1791 q_1793 q_63 dX12_clause_278 (e_iastore dX12_clause_281 (e_goto (tgt := 501) dX12_clause_282 (by decide) (e_msk [true, true, false, false, false, false])))))))))))))))))))))))) (swc (t0 := 285) (e_aload_n dX12_clause_285 rfl (e_iconst (v := 0) dX12_clause_286 (by decide) (e_aload_n dX12_clause_287 rfl (e_getR rfl cl_11 (by decide) rfl q_1575 dX12_clause_288 (e_iconst (v := 1) dX12_clause_291 (by decide) (e_iaload dX12_clause_292 (e_iconst (v := 1) dX12_clause_293 (by decide) (e_isub dX12_clause_294 (e_callV cl_11 cal_X12_numberHere q_1791 q_1793 q_63 dX12_clause_295 (e_istore_n dX12_clause_298 rfl (by decide) (e_aload_n dX12_clause_299 rfl (e_iload_n dX12_clause_300 rfl (e_aload_n dX12_clause_301 rfl (e_getR rfl cl_11 (by decide) rfl q_1575 dX12_clause_302 (e_iconst (v := 1) dX12_clause_305 (by decide) (e_iaload dX12_clause_306 (e_callV cl_11 cal_X12_otherHere q_1799 q_1801 q_64 dX12_clause_307 (e_istore_n dX12_clause_310 rfl (by decide) (e_aload_n dX12_clause_311 rfl (e_iconst (v := 0) dX12_clause_312 (by decide) (e_bipush (v := 9) dX12_clause_313 (by decide) (e_callV cl_11 cal_X12_numberHere q_1791 q_1793 q_63 dX12_clause_315 (e_istore dX12_clause_318 (by decide) (e_aload_n dX12_clause_320 rfl (e_getI rfl cl_11 (by decide) rfl q_1569 dX12_clause_321 (e_if_ne (tgt := 501) dX12_clause_324 (by decide) (e_msk [true, true, false, false, false, false]) (e_aload_n dX12_clause_327 rfl (e_getR rfl cl_11 (by decide) rfl q_1581 dX12_clause_328 (e_iload_n dX12_clause_331 rfl (e_aaload dX12_clause_332 (e_iload_n dX12_clause_333 rfl (e_iload dX12_clause_334 (e_iastore dX12_clause_336 (e_goto (tgt := 501) dX12_clause_337 (by decide) (e_msk [true, true, false, false, false, false]))))))))))))))))))))))))))))))))))) (swc (t0 := 340) (e_aload_n dX12_clause_340 rfl (e_iconst (v := 0) dX12_clause_341 (by decide) (e_aload_n dX12_clause_342 rfl (e_getR rfl cl_11 (by decide) rfl q_1575 dX12_clause_343 (e_iconst (v := 1) dX12_clause_346 (by decide) (e_iaload dX12_clause_347 (e_iconst (v := 1) dX12_clause_348 (by decide) (e_isub dX12_clause_349 (e_callV cl_11 cal_X12_numberHere q_1791 q_1793 q_63 dX12_clause_350 (e_istore_n dX12_clause_353 rfl (by decide) (e_aload_n dX12_clause_354 rfl (e_iload_n dX12_clause_355 rfl (e_aload_n dX12_clause_356 rfl (e_getR rfl cl_11 (by decide) rfl q_1575 dX12_clause_357 (e_iconst (v := 1) dX12_clause_360 (by decide) (e_iaload dX12_clause_361 (e_callV cl_11 cal_X12_otherHere q_1799 q_1801 q_64 dX12_clause_362 (e_istore_n dX12_clause_365 rfl (by decide) (e_aload_n dX12_clause_366 rfl (e_getI rfl cl_11 (by decide) rfl q_1569 dX12_clause_367 (e_if_eq (tgt := 376) dX12_clause_370 (by decide) (e_aload_n dX12_clause_376 rfl (e_getR rfl cl_11 (by decide) rfl q_1583 dX12_clause_377 (e_iload_n dX12_clause_380 rfl (e_aaload dX12_clause_381 (e_iload_n dX12_clause_382 rfl (e_iconst (v := 1) dX12_clause_383 (by decide) (e_iastore dX12_clause_384 (e_aload_n dX12_clause_385 rfl (e_getR rfl cl_11 (by decide) rfl q_1583 dX12_clause_386 (e_iload_n dX12_clause_389 rfl (e_aaload dX12_clause_390 (e_iload_n dX12_clause_391 rfl (e_iconst (v := 1) dX12_clause_392 (by decide) (e_iastore dX12_clause_393 (e_goto (tgt := 501) dX12_clause_394 (by decide) (e_msk [true, true, false, false, false, false])))))))))))))))) (e_goto (tgt := 501) dX12_clause_373 (by decide) (e_msk [true, true, false, false, false, false]))))))))))))))))))))))) (swc (t0 := 397) (e_aload_n dX12_clause_397 rfl (e_iconst (v := 0) dX12_clause_398 (by decide) (e_bipush (v := 60) dX12_clause_399 (by decide) (e_callV cl_11 cal_X12_numberHere q_1791 q_1793 q_63 dX12_clause_401 (e_istore_n dX12_clause_404 rfl (by decide) (e_aload_n dX12_clause_405 rfl (e_iconst (v := 0) dX12_clause_406 (by decide) (e_bipush (v := 60) dX12_clause_407 (by decide) (e_callV cl_11 cal_X12_numberHere q_1791 q_1793 q_63 dX12_clause_409 (e_istore_n dX12_clause_412 rfl (by decide) (e_aload_n dX12_clause_413 rfl (e_iconst (v := 0) dX12_clause_414 (by decide) (e_bipush (v := 9) dX12_clause_415 (by decide) (e_callV cl_11 cal_X12_numberHere q_1791 q_1793 q_63 dX12_clause_417 (e_istore dX12_clause_420 (by decide) (e_aload_n dX12_clause_422 rfl (e_iconst (v := 0) dX12_clause_423 (by decide) (e_bipush (v := 9) dX12_clause_424 (by decide) (e_callV cl_11 cal_X12_numberHere q_1791 q_1793 q_63 dX12_clause_426 (e_istore dX12_clause_429 (by decide) (e_aload_n dX12_clause_431 rfl (e_getI rfl cl_11 (by decide) rfl q_1569 dX12_clause_432 (e_if_eq (tgt := 441) dX12_clause_435 (by decide) (e_aload_n dX12_clause_441 rfl (e_getR rfl cl_11 (by decide) rfl q_1575 dX12_clause_442 (e_iconst (v := 3) dX12_clause_445 (by decide) (e_iload_n dX12_clause_446 rfl (e_iastore dX12_clause_447 (e_aload_n dX12_clause_448 rfl (e_getR rfl cl_11 (by decide) rfl q_1575 dX12_clause_449 (e_iconst (v := 4) dX12_clause_452 (by decide) (e_iload_n dX12_clause_453 rfl (e_iastore dX12_clause_454 (e_aload_n dX12_clause_455 rfl (e_getR rfl cl_11 (by decide) rfl q_1575 dX12_clause_456 (e_iconst (v := 5) dX12_clause_459 (by decide) (e_iload dX12_clause_460 (e_iastore dX12_clause_462 (e_aload_n dX12_clause_463 rfl (e_getR rfl cl_11 (by decide) rfl q_1575 dX12_clause_464 (e_bipush (v := 6) dX12_clause_467 (by decide) (e_iload dX12_clause_469 (e_iastore dX12_clause_471 (e_goto (tgt := 501) dX12_clause_472 (by decide) (e_msk [true, true, false, false, false, false])))))))))))))))))))))) (e_goto (tgt := 501) dX12_clause_438 (by decide) (e_msk [true, true, false, false, false, false]))))))))))))))))))))))))) swn)))))) (e_aload_n dX12_clause_475 rfl (e_iconst (v := 0) dX12_clause_476 (by decide) (e_bipush (v := 60) dX12_clause_477 (by decide) (e_callV cl_11 cal_X12_numberHere q_1791 q_1793 q_63 dX12_clause_479 (e_istore_n dX12_clause_482 rfl (by decide) (e_aload_n dX12_clause_483 rfl (e_getI rfl cl_11 (by decide) rfl q_1569 dX12_clause_484 (e_if_ne (tgt := 501) dX12_clause_487 (by decide) (e_msk [true, true, false, false, false, false]) (e_aload_n dX12_clause_490 rfl (e_getR rfl cl_11 (by decide) rfl q_1575 dX12_clause_491 (e_bipush (v := 7) dX12_clause_494 (by decide) (e_iload_n dX12_clause_496 rfl (e_iastore dX12_clause_497 (e_goto (tgt := 501) dX12_clause_498 (by decide) (e_msk [true, true, false, false, false, false]))))))))))))))))))))))))) (e_return rfl dX12_clause_94))))
set_option maxRecDepth 100000 in
theorem V_X12_clause_87 {G : GE} {d C S : Nat} {P : KN} {a : Nat → Nat → Int32} {r : Nat → Nat → Value} {N : Nat} {l0 : Nat} {l1 : Int32} (hs : (tyK l0 = (0, 11) ∧ l0 < N ∧ (((a l0 5) = 0 → (tyK l0 = (0, 11) ∧ l0 < N ∧ Sp G d 0 0 MX12_skipWord [.ref l0] (a, r, N) (RN fun a1 r2 n3 => (tyK l0 = (0, 11) ∧ l0 < n3 ∧ (tyK l0 = (0, 11) ∧ l0 < n3 ∧ ∀ a4, a4 = u2 a1 l0 7 ((a1 l0 7) + 1) → ((l1 = 0 → (tyK l0 = (0, 11) ∧ l0 < n3 ∧ ∃ q5, r2 l0 13 = .ref q5 ∧ (tyK l0 = (0, 11) ∧ l0 < n3 ∧ ∃ q6, r2 l0 11 = .ref q6 ∧ ((tyK q6).1 = 1 ∧ q6 < n3 ∧ vp_in 0 (tyK q6).2 ∧ ((tyK q5).1 = 3 ∧ q5 < n3 ∧ vp_in (a4 q6 (0 : Int32).toNatClampNeg) (tyK q5).2 ∧ (tyK l0 = (0, 11) ∧ l0 < n3 ∧ Sp G d 0 0 MX12_numberHere [.ref l0, .int 0, .int 60] (a4, r2, n3) (RI fun v10 a7 r8 n9 => ((tyK (q5 + 1 + ((a4 q6 (0 : Int32).toNatClampNeg) : Int32).toNatClampNeg)).1 = 1 ∧ (q5 + 1 + ((a4 q6 (0 : Int32).toNatClampNeg) : Int32).toNatClampNeg) < n9 ∧ vp_in 0 (tyK (q5 + 1 + ((a4 q6 (0 : Int32).toNatClampNeg) : Int32).toNatClampNeg)).2 ∧ ∀ a11, a11 = u2 a7 (q5 + 1 + ((a4 q6 (0 : Int32).toNatClampNeg) : Int32).toNatClampNeg) (0 : Int32).toNatClampNeg v10 → (tyK l0 = (0, 11) ∧ l0 < n9 ∧ Sp G d 0 0 MX12_numberHere [.ref l0, .int 0, .int 60] (a11, r8, n9) (RI fun v15 a12 r13 n14 => ((tyK (q5 + 1 + ((a4 q6 (0 : Int32).toNatClampNeg) : Int32).toNatClampNeg)).1 = 1 ∧ (q5 + 1 + ((a4 q6 (0 : Int32).toNatClampNeg) : Int32).toNatClampNeg) < n14 ∧ vp_in 1 (tyK (q5 + 1 + ((a4 q6 (0 : Int32).toNatClampNeg) : Int32).toNatClampNeg)).2 ∧ ∀ a16, a16 = u2 a12 (q5 + 1 + ((a4 q6 (0 : Int32).toNatClampNeg) : Int32).toNatClampNeg) (1 : Int32).toNatClampNeg v15 → E G MX12_clause (d + 1) C S 501 [.ref l0, .int l1, .null, .null, .null, .null] [] (a16, r13, n14) (RN P)))))))))))) ∧ (¬ l1 = 0 → ((l1 = 1 → (tyK l0 = (0, 11) ∧ l0 < n3 ∧ ∃ q17, r2 l0 15 = .ref q17 ∧ (tyK l0 = (0, 11) ∧ l0 < n3 ∧ ∃ q18, r2 l0 11 = .ref q18 ∧ ((tyK q18).1 = 1 ∧ q18 < n3 ∧ vp_in 1 (tyK q18).2 ∧ ((tyK q17).1 = 3 ∧ q17 < n3 ∧ vp_in (a4 q18 (1 : Int32).toNatClampNeg) (tyK q17).2 ∧ (tyK l0 = (0, 11) ∧ l0 < n3 ∧ ∃ q19, r2 l0 11 = .ref q19 ∧ ((tyK q19).1 = 1 ∧ q19 < n3 ∧ vp_in 0 (tyK q19).2 ∧ (tyK l0 = (0, 11) ∧ l0 < n3 ∧ Sp G d 0 0 MX12_numberHere [.ref l0, .int 0, .int ((a4 q19 (0 : Int32).toNatClampNeg) - 1)] (a4, r2, n3) (RI fun v23 a20 r21 n22 => ((tyK (q17 + 1 + ((a4 q18 (1 : Int32).toNatClampNeg) : Int32).toNatClampNeg)).1 = 1 ∧ (q17 + 1 + ((a4 q18 (1 : Int32).toNatClampNeg) : Int32).toNatClampNeg) < n22 ∧ vp_in 0 (tyK (q17 + 1 + ((a4 q18 (1 : Int32).toNatClampNeg) : Int32).toNatClampNeg)).2 ∧ ∀ a24, a24 = u2 a20 (q17 + 1 + ((a4 q18 (1 : Int32).toNatClampNeg) : Int32).toNatClampNeg) (0 : Int32).toNatClampNeg v23 → ((tyK (q17 + 1 + ((a4 q18 (1 : Int32).toNatClampNeg) : Int32).toNatClampNeg)).1 = 1 ∧ (q17 + 1 + ((a4 q18 (1 : Int32).toNatClampNeg) : Int32).toNatClampNeg) < n22 ∧ vp_in 0 (tyK (q17 + 1 + ((a4 q18 (1 : Int32).toNatClampNeg) : Int32).toNatClampNeg)).2 ∧ (tyK l0 = (0, 11) ∧ l0 < n22 ∧ ∃ q25, r21 l0 11 = .ref q25 ∧ ((tyK q25).1 = 1 ∧ q25 < n22 ∧ vp_in 0 (tyK q25).2 ∧ (tyK l0 = (0, 11) ∧ l0 < n22 ∧ Sp G d 0 0 MX12_otherHere [.ref l0, .int (a24 (q17 + 1 + ((a4 q18 (1 : Int32).toNatClampNeg) : Int32).toNatClampNeg) (0 : Int32).toNatClampNeg), .int (a24 q25 (0 : Int32).toNatClampNeg)] (a24, r21, n22) (RI fun v29 a26 r27 n28 => ((tyK (q17 + 1 + ((a4 q18 (1 : Int32).toNatClampNeg) : Int32).toNatClampNeg)).1 = 1 ∧ (q17 + 1 + ((a4 q18 (1 : Int32).toNatClampNeg) : Int32).toNatClampNeg) < n28 ∧ vp_in 1 (tyK (q17 + 1 + ((a4 q18 (1 : Int32).toNatClampNeg) : Int32).toNatClampNeg)).2 ∧ ∀ a30, a30 = u2 a26 (q17 + 1 + ((a4 q18 (1 : Int32).toNatClampNeg) : Int32).toNatClampNeg) (1 : Int32).toNatClampNeg v29 → (tyK l0 = (0, 11) ∧ l0 < n28 ∧ Sp G d 0 0 MX12_numberHere [.ref l0, .int 1, .int 20] (a30, r27, n28) (RI fun v34 a31 r32 n33 => ((tyK (q17 + 1 + ((a4 q18 (1 : Int32).toNatClampNeg) : Int32).toNatClampNeg)).1 = 1 ∧ (q17 + 1 + ((a4 q18 (1 : Int32).toNatClampNeg) : Int32).toNatClampNeg) < n33 ∧ vp_in 2 (tyK (q17 + 1 + ((a4 q18 (1 : Int32).toNatClampNeg) : Int32).toNatClampNeg)).2 ∧ ∀ a35, a35 = u2 a31 (q17 + 1 + ((a4 q18 (1 : Int32).toNatClampNeg) : Int32).toNatClampNeg) (2 : Int32).toNatClampNeg v34 → (tyK l0 = (0, 11) ∧ l0 < n33 ∧ Sp G d 0 0 MX12_numberHere [.ref l0, .int 0, .int 20] (a35, r32, n33) (RI fun v39 a36 r37 n38 => ((tyK (q17 + 1 + ((a4 q18 (1 : Int32).toNatClampNeg) : Int32).toNatClampNeg)).1 = 1 ∧ (q17 + 1 + ((a4 q18 (1 : Int32).toNatClampNeg) : Int32).toNatClampNeg) < n38 ∧ vp_in 3 (tyK (q17 + 1 + ((a4 q18 (1 : Int32).toNatClampNeg) : Int32).toNatClampNeg)).2 ∧ ∀ a40, a40 = u2 a36 (q17 + 1 + ((a4 q18 (1 : Int32).toNatClampNeg) : Int32).toNatClampNeg) (3 : Int32).toNatClampNeg v39 → E G MX12_clause (d + 1) C S 501 [.ref l0, .int l1, .null, .null, .null, .null] [] (a40, r37, n38) (RN P))))))))))))))))))))))) ∧ (¬ l1 = 1 → ((l1 = 2 → (tyK l0 = (0, 11) ∧ l0 < n3 ∧ ∃ q41, r2 l0 21 = .ref q41 ∧ (tyK l0 = (0, 11) ∧ l0 < n3 ∧ ∃ q42, r2 l0 11 = .ref q42 ∧ ((tyK q42).1 = 1 ∧ q42 < n3 ∧ vp_in 2 (tyK q42).2 ∧ ((tyK q41).1 = 3 ∧ q41 < n3 ∧ vp_in (a4 q42 (2 : Int32).toNatClampNeg) (tyK q41).2 ∧ (tyK l0 = (0, 11) ∧ l0 < n3 ∧ Sp G d 0 0 MX12_numberHere [.ref l0, .int 0, .int 9] (a4, r2, n3) (RI fun v46 a43 r44 n45 => ((tyK (q41 + 1 + ((a4 q42 (2 : Int32).toNatClampNeg) : Int32).toNatClampNeg)).1 = 1 ∧ (q41 + 1 + ((a4 q42 (2 : Int32).toNatClampNeg) : Int32).toNatClampNeg) < n45 ∧ vp_in 0 (tyK (q41 + 1 + ((a4 q42 (2 : Int32).toNatClampNeg) : Int32).toNatClampNeg)).2 ∧ ∀ a47, a47 = u2 a43 (q41 + 1 + ((a4 q42 (2 : Int32).toNatClampNeg) : Int32).toNatClampNeg) (0 : Int32).toNatClampNeg v46 → (tyK l0 = (0, 11) ∧ l0 < n45 ∧ Sp G d 0 0 MX12_numberHere [.ref l0, .int 0, .int 9] (a47, r44, n45) (RI fun v51 a48 r49 n50 => ((tyK (q41 + 1 + ((a4 q42 (2 : Int32).toNatClampNeg) : Int32).toNatClampNeg)).1 = 1 ∧ (q41 + 1 + ((a4 q42 (2 : Int32).toNatClampNeg) : Int32).toNatClampNeg) < n50 ∧ vp_in 1 (tyK (q41 + 1 + ((a4 q42 (2 : Int32).toNatClampNeg) : Int32).toNatClampNeg)).2 ∧ ∀ a52, a52 = u2 a48 (q41 + 1 + ((a4 q42 (2 : Int32).toNatClampNeg) : Int32).toNatClampNeg) (1 : Int32).toNatClampNeg v51 → E G MX12_clause (d + 1) C S 501 [.ref l0, .int l1, .null, .null, .null, .null] [] (a52, r49, n50) (RN P)))))))))))) ∧ (¬ l1 = 2 → ((l1 = 3 → (tyK l0 = (0, 11) ∧ l0 < n3 ∧ ∃ q53, r2 l0 11 = .ref q53 ∧ ((tyK q53).1 = 1 ∧ q53 < n3 ∧ vp_in 1 (tyK q53).2 ∧ (tyK l0 = (0, 11) ∧ l0 < n3 ∧ Sp G d 0 0 MX12_numberHere [.ref l0, .int 0, .int ((a4 q53 (1 : Int32).toNatClampNeg) - 1)] (a4, r2, n3) (RI fun v57 a54 r55 n56 => (tyK l0 = (0, 11) ∧ l0 < n56 ∧ ∃ q58, r55 l0 11 = .ref q58 ∧ ((tyK q58).1 = 1 ∧ q58 < n56 ∧ vp_in 1 (tyK q58).2 ∧ (tyK l0 = (0, 11) ∧ l0 < n56 ∧ Sp G d 0 0 MX12_otherHere [.ref l0, .int v57, .int (a54 q58 (1 : Int32).toNatClampNeg)] (a54, r55, n56) (RI fun v62 a59 r60 n61 => (tyK l0 = (0, 11) ∧ l0 < n61 ∧ Sp G d 0 0 MX12_numberHere [.ref l0, .int 0, .int 9] (a59, r60, n61) (RI fun v66 a63 r64 n65 => (tyK l0 = (0, 11) ∧ l0 < n65 ∧ ((¬ (a63 l0 5) = 0 → E G MX12_clause (d + 1) C S 501 [.ref l0, .int l1, .null, .null, .null, .null] [] (a63, r64, n65) (RN P)) ∧ ((a63 l0 5) = 0 → (tyK l0 = (0, 11) ∧ l0 < n65 ∧ ∃ q67, r64 l0 17 = .ref q67 ∧ ((tyK q67).1 = 3 ∧ q67 < n65 ∧ vp_in v57 (tyK q67).2 ∧ ((tyK (q67 + 1 + (v57 : Int32).toNatClampNeg)).1 = 1 ∧ (q67 + 1 + (v57 : Int32).toNatClampNeg) < n65 ∧ vp_in v62 (tyK (q67 + 1 + (v57 : Int32).toNatClampNeg)).2 ∧ ∀ a68, a68 = u2 a63 (q67 + 1 + (v57 : Int32).toNatClampNeg) (v62 : Int32).toNatClampNeg v66 → E G MX12_clause (d + 1) C S 501 [.ref l0, .int l1, .null, .null, .null, .null] [] (a68, r64, n65) (RN P)))))))))))))))))) ∧ (¬ l1 = 3 → ((l1 = 4 → (tyK l0 = (0, 11) ∧ l0 < n3 ∧ ∃ q69, r2 l0 11 = .ref q69 ∧ ((tyK q69).1 = 1 ∧ q69 < n3 ∧ vp_in 1 (tyK q69).2 ∧ (tyK l0 = (0, 11) ∧ l0 < n3 ∧ Sp G d 0 0 MX12_numberHere [.ref l0, .int 0, .int ((a4 q69 (1 : Int32).toNatClampNeg) - 1)] (a4, r2, n3) (RI fun v73 a70 r71 n72 => (tyK l0 = (0, 11) ∧ l0 < n72 ∧ ∃ q74, r71 l0 11 = .ref q74 ∧ ((tyK q74).1 = 1 ∧ q74 < n72 ∧ vp_in 1 (tyK q74).2 ∧ (tyK l0 = (0, 11) ∧ l0 < n72 ∧ Sp G d 0 0 MX12_otherHere [.ref l0, .int v73, .int (a70 q74 (1 : Int32).toNatClampNeg)] (a70, r71, n72) (RI fun v78 a75 r76 n77 => (tyK l0 = (0, 11) ∧ l0 < n77 ∧ (((a75 l0 5) = 0 → (tyK l0 = (0, 11) ∧ l0 < n77 ∧ ∃ q79, r76 l0 19 = .ref q79 ∧ ((tyK q79).1 = 3 ∧ q79 < n77 ∧ vp_in v73 (tyK q79).2 ∧ ((tyK (q79 + 1 + (v73 : Int32).toNatClampNeg)).1 = 1 ∧ (q79 + 1 + (v73 : Int32).toNatClampNeg) < n77 ∧ vp_in v78 (tyK (q79 + 1 + (v73 : Int32).toNatClampNeg)).2 ∧ ∀ a80, a80 = u2 a75 (q79 + 1 + (v73 : Int32).toNatClampNeg) (v78 : Int32).toNatClampNeg 1 → (tyK l0 = (0, 11) ∧ l0 < n77 ∧ ∃ q81, r76 l0 19 = .ref q81 ∧ ((tyK q81).1 = 3 ∧ q81 < n77 ∧ vp_in v78 (tyK q81).2 ∧ ((tyK (q81 + 1 + (v78 : Int32).toNatClampNeg)).1 = 1 ∧ (q81 + 1 + (v78 : Int32).toNatClampNeg) < n77 ∧ vp_in v73 (tyK (q81 + 1 + (v78 : Int32).toNatClampNeg)).2 ∧ ∀ a82, a82 = u2 a80 (q81 + 1 + (v78 : Int32).toNatClampNeg) (v73 : Int32).toNatClampNeg 1 → E G MX12_clause (d + 1) C S 501 [.ref l0, .int l1, .null, .null, .null, .null] [] (a82, r76, n77) (RN P)))))))) ∧ (¬ (a75 l0 5) = 0 → E G MX12_clause (d + 1) C S 501 [.ref l0, .int l1, .null, .null, .null, .null] [] (a75, r76, n77) (RN P))))))))))))) ∧ (¬ l1 = 4 → ((l1 = 5 → (tyK l0 = (0, 11) ∧ l0 < n3 ∧ Sp G d 0 0 MX12_numberHere [.ref l0, .int 0, .int 60] (a4, r2, n3) (RI fun v86 a83 r84 n85 => (tyK l0 = (0, 11) ∧ l0 < n85 ∧ Sp G d 0 0 MX12_numberHere [.ref l0, .int 0, .int 60] (a83, r84, n85) (RI fun v90 a87 r88 n89 => (tyK l0 = (0, 11) ∧ l0 < n89 ∧ Sp G d 0 0 MX12_numberHere [.ref l0, .int 0, .int 9] (a87, r88, n89) (RI fun v94 a91 r92 n93 => (tyK l0 = (0, 11) ∧ l0 < n93 ∧ Sp G d 0 0 MX12_numberHere [.ref l0, .int 0, .int 9] (a91, r92, n93) (RI fun v98 a95 r96 n97 => (tyK l0 = (0, 11) ∧ l0 < n97 ∧ (((a95 l0 5) = 0 → (tyK l0 = (0, 11) ∧ l0 < n97 ∧ ∃ q99, r96 l0 11 = .ref q99 ∧ ((tyK q99).1 = 1 ∧ q99 < n97 ∧ vp_in 3 (tyK q99).2 ∧ ∀ a100, a100 = u2 a95 q99 (3 : Int32).toNatClampNeg v86 → (tyK l0 = (0, 11) ∧ l0 < n97 ∧ ∃ q101, r96 l0 11 = .ref q101 ∧ ((tyK q101).1 = 1 ∧ q101 < n97 ∧ vp_in 4 (tyK q101).2 ∧ ∀ a102, a102 = u2 a100 q101 (4 : Int32).toNatClampNeg v90 → (tyK l0 = (0, 11) ∧ l0 < n97 ∧ ∃ q103, r96 l0 11 = .ref q103 ∧ ((tyK q103).1 = 1 ∧ q103 < n97 ∧ vp_in 5 (tyK q103).2 ∧ ∀ a104, a104 = u2 a102 q103 (5 : Int32).toNatClampNeg v94 → (tyK l0 = (0, 11) ∧ l0 < n97 ∧ ∃ q105, r96 l0 11 = .ref q105 ∧ ((tyK q105).1 = 1 ∧ q105 < n97 ∧ vp_in 6 (tyK q105).2 ∧ ∀ a106, a106 = u2 a104 q105 (6 : Int32).toNatClampNeg v98 → E G MX12_clause (d + 1) C S 501 [.ref l0, .int l1, .null, .null, .null, .null] [] (a106, r96, n97) (RN P)))))))))) ∧ (¬ (a95 l0 5) = 0 → E G MX12_clause (d + 1) C S 501 [.ref l0, .int l1, .null, .null, .null, .null] [] (a95, r96, n97) (RN P))))))))))))) ∧ (¬ l1 = 5 → (tyK l0 = (0, 11) ∧ l0 < n3 ∧ Sp G d 0 0 MX12_numberHere [.ref l0, .int 0, .int 60] (a4, r2, n3) (RI fun v110 a107 r108 n109 => (tyK l0 = (0, 11) ∧ l0 < n109 ∧ ((¬ (a107 l0 5) = 0 → E G MX12_clause (d + 1) C S 501 [.ref l0, .int l1, .null, .null, .null, .null] [] (a107, r108, n109) (RN P)) ∧ ((a107 l0 5) = 0 → (tyK l0 = (0, 11) ∧ l0 < n109 ∧ ∃ q111, r108 l0 11 = .ref q111 ∧ ((tyK q111).1 = 1 ∧ q111 < n109 ∧ vp_in 7 (tyK q111).2 ∧ ∀ a112, a112 = u2 a107 q111 (7 : Int32).toNatClampNeg v110 → E G MX12_clause (d + 1) C S 501 [.ref l0, .int l1, .null, .null, .null, .null] [] (a112, r108, n109) (RN P))))))))))))))))))))))))) ∧ (¬ (a l0 5) = 0 → P a r N)))) : E G MX12_clause (d + 1) C S 87 [.ref l0, .int l1, .null, .null, .null, .null] [] (a, r, N) (RN P) := T_X12_clause_87 _ _ _ hs
set_option maxRecDepth 100000 in
theorem T_X12_clause_501 {G : GE} {d C S : Nat} {P : KN} : Snd G MX12_clause (d + 1) C S 501 (RN P) (s_iload 1 (s_iconst 3 (s_ic_ge (s_aload 0 (s_iconst 59 (s_callV G d MX12_sign 1 11 (s_return P)))) (s_aload 0 (s_getR 11 11 (s_iload 1 (s_dup2 (s_iaload (s_aload 0 (s_getI 11 5 (s_if_ne (s_iconst 0 (s_iadd (s_iastore (s_aload 0 (s_iconst 59 (s_callV G d MX12_sign 1 11 (s_return P))))))) (s_iconst 1 (s_iadd (s_iastore (s_aload 0 (s_iconst 59 (s_callV G d MX12_sign 1 11 (s_return P)))))))))))))))))) := (e_iload_n dX12_clause_501 rfl (e_iconst (v := 3) dX12_clause_502 (by decide) (e_ic_ge (tgt := 527) dX12_clause_503 (by decide) (e_aload_n dX12_clause_527 rfl (e_bipush (v := 59) dX12_clause_528 (by decide) (e_callV cl_11 cal_X12_sign q_1803 q_1805 q_65 dX12_clause_530 (e_return rfl dX12_clause_533)))) (e_aload_n dX12_clause_506 rfl (e_getR rfl cl_11 (by decide) rfl q_1575 dX12_clause_507 (e_iload_n dX12_clause_510 rfl (e_dup2 dX12_clause_511 (e_iaload dX12_clause_512 (e_aload_n dX12_clause_513 rfl (e_getI rfl cl_11 (by decide) rfl q_1569 dX12_clause_514 (e_if_ne (tgt := 524) dX12_clause_517 (by decide) (e_iconst (v := 0) dX12_clause_524 (by decide) (e_iadd dX12_clause_525 (e_iastore dX12_clause_526 (e_aload_n dX12_clause_527 rfl (e_bipush (v := 59) dX12_clause_528 (by decide) (e_callV cl_11 cal_X12_sign q_1803 q_1805 q_65 dX12_clause_530 (e_return rfl dX12_clause_533))))))) (e_iconst (v := 1) dX12_clause_520 (by decide) (e_goto (tgt := 525) dX12_clause_521 (by decide) (e_iadd dX12_clause_525 (e_iastore dX12_clause_526 (e_aload_n dX12_clause_527 rfl (e_bipush (v := 59) dX12_clause_528 (by decide) (e_callV cl_11 cal_X12_sign q_1803 q_1805 q_65 dX12_clause_530 (e_return rfl dX12_clause_533)))))))))))))))))))
set_option maxRecDepth 100000 in
theorem V_X12_clause_501 {G : GE} {d C S : Nat} {P : KN} {a : Nat → Nat → Int32} {r : Nat → Nat → Value} {N : Nat} {l0 : Nat} {l1 : Int32} (hs : ((3 ≤ l1 → (tyK l0 = (0, 11) ∧ l0 < N ∧ Sp G d 0 0 MX12_sign [.ref l0, .int 59] (a, r, N) (RN fun a1 r2 n3 => P a1 r2 n3))) ∧ (¬ 3 ≤ l1 → (tyK l0 = (0, 11) ∧ l0 < N ∧ ∃ q4, r l0 11 = .ref q4 ∧ ((tyK q4).1 = 1 ∧ q4 < N ∧ vp_in l1 (tyK q4).2 ∧ (tyK l0 = (0, 11) ∧ l0 < N ∧ ((¬ (a l0 5) = 0 → ((tyK q4).1 = 1 ∧ q4 < N ∧ vp_in l1 (tyK q4).2 ∧ ∀ a5, a5 = u2 a q4 (l1 : Int32).toNatClampNeg ((a q4 (l1 : Int32).toNatClampNeg) + 0) → (tyK l0 = (0, 11) ∧ l0 < N ∧ Sp G d 0 0 MX12_sign [.ref l0, .int 59] (a5, r, N) (RN fun a6 r7 n8 => P a6 r7 n8)))) ∧ ((a l0 5) = 0 → ((tyK q4).1 = 1 ∧ q4 < N ∧ vp_in l1 (tyK q4).2 ∧ ∀ a9, a9 = u2 a q4 (l1 : Int32).toNatClampNeg ((a q4 (l1 : Int32).toNatClampNeg) + 1) → (tyK l0 = (0, 11) ∧ l0 < N ∧ Sp G d 0 0 MX12_sign [.ref l0, .int 59] (a9, r, N) (RN fun a10 r11 n12 => P a10 r11 n12))))))))))) : E G MX12_clause (d + 1) C S 501 [.ref l0, .int l1, .null, .null, .null, .null] [] (a, r, N) (RN P) := T_X12_clause_501 _ _ _ hs
theorem dX12_city_0 : decode cX12_city 0 = .ok (.aload_n 0, 1) := by decide +kernel
theorem dX12_city_1 : decode cX12_city 1 = .ok (.iconst 0, 1) := by decide +kernel
theorem dX12_city_2 : decode cX12_city 2 = .ok (.putfield 115, 3) := by decide +kernel
theorem dX12_city_5 : decode cX12_city 5 = .ok (.aload_n 0, 1) := by decide +kernel
theorem dX12_city_6 : decode cX12_city 6 = .ok (.iload_n 1, 1) := by decide +kernel
theorem dX12_city_7 : decode cX12_city 7 = .ok (.iconst 0, 1) := by decide +kernel
theorem dX12_city_8 : decode cX12_city 8 = .ok (.aload_n 0, 1) := by decide +kernel
theorem dX12_city_9 : decode cX12_city 9 = .ok (.getfield 118, 3) := by decide +kernel
theorem dX12_city_12 : decode cX12_city 12 = .ok (.invokestatic 149, 3) := by decide +kernel
theorem dX12_city_15 : decode cX12_city 15 = .ok (.ifCond .ne 7, 3) := by decide +kernel
theorem dX12_city_18 : decode cX12_city 18 = .ok (.iconst 1, 1) := by decide +kernel
theorem dX12_city_19 : decode cX12_city 19 = .ok (.goto 4, 3) := by decide +kernel
theorem dX12_city_22 : decode cX12_city 22 = .ok (.iconst 0, 1) := by decide +kernel
theorem dX12_city_23 : decode cX12_city 23 = .ok (.iconst 1, 1) := by decide +kernel
theorem dX12_city_24 : decode cX12_city 24 = .ok (.iconst 2, 1) := by decide +kernel
theorem dX12_city_25 : decode cX12_city 25 = .ok (.invokevirtual 198, 3) := by decide +kernel
theorem dX12_city_28 : decode cX12_city 28 = .ok (.ifCond .eq 5, 3) := by decide +kernel
theorem dX12_city_31 : decode cX12_city 31 = .ok (.iconst 0, 1) := by decide +kernel
theorem dX12_city_32 : decode cX12_city 32 = .ok (.ireturn, 1) := by decide +kernel
theorem dX12_city_33 : decode cX12_city 33 = .ok (.aload_n 0, 1) := by decide +kernel
theorem dX12_city_34 : decode cX12_city 34 = .ok (.iload_n 1, 1) := by decide +kernel
theorem dX12_city_35 : decode cX12_city 35 = .ok (.invokevirtual 202, 3) := by decide +kernel
theorem dX12_city_38 : decode cX12_city 38 = .ok (.aload_n 0, 1) := by decide +kernel
theorem dX12_city_39 : decode cX12_city 39 = .ok (.invokevirtual 109, 3) := by decide +kernel
theorem dX12_city_42 : decode cX12_city 42 = .ok (.aload_n 0, 1) := by decide +kernel
theorem dX12_city_43 : decode cX12_city 43 = .ok (.getfield 131, 3) := by decide +kernel
theorem dX12_city_46 : decode cX12_city 46 = .ok (.ifCond .ne 25, 3) := by decide +kernel
theorem dX12_city_49 : decode cX12_city 49 = .ok (.aload_n 0, 1) := by decide +kernel
theorem dX12_city_50 : decode cX12_city 50 = .ok (.getfield 124, 3) := by decide +kernel
theorem dX12_city_53 : decode cX12_city 53 = .ok (.aload_n 0, 1) := by decide +kernel
theorem dX12_city_54 : decode cX12_city 54 = .ok (.getfield 121, 3) := by decide +kernel
theorem dX12_city_57 : decode cX12_city 57 = .ok (.if_icmp .ge 14, 3) := by decide +kernel
theorem dX12_city_60 : decode cX12_city 60 = .ok (.aload_n 0, 1) := by decide +kernel
theorem dX12_city_61 : decode cX12_city 61 = .ok (.invokevirtual 205, 3) := by decide +kernel
theorem dX12_city_64 : decode cX12_city 64 = .ok (.aload_n 0, 1) := by decide +kernel
theorem dX12_city_65 : decode cX12_city 65 = .ok (.invokevirtual 137, 3) := by decide +kernel
theorem dX12_city_68 : decode cX12_city 68 = .ok (.goto (-26), 3) := by decide +kernel
theorem dX12_city_71 : decode cX12_city 71 = .ok (.aload_n 0, 1) := by decide +kernel
theorem dX12_city_72 : decode cX12_city 72 = .ok (.getfield 131, 3) := by decide +kernel
theorem dX12_city_75 : decode cX12_city 75 = .ok (.ifCond .eq 8, 3) := by decide +kernel
theorem dX12_city_78 : decode cX12_city 78 = .ok (.aload_n 0, 1) := by decide +kernel
theorem dX12_city_79 : decode cX12_city 79 = .ok (.invokevirtual 208, 3) := by decide +kernel
theorem dX12_city_82 : decode cX12_city 82 = .ok (.ireturn, 1) := by decide +kernel
theorem dX12_city_83 : decode cX12_city 83 = .ok (.aload_n 0, 1) := by decide +kernel
theorem dX12_city_84 : decode cX12_city 84 = .ok (.iconst (-1), 1) := by decide +kernel
theorem dX12_city_85 : decode cX12_city 85 = .ok (.putfield 9, 3) := by decide +kernel
theorem dX12_city_88 : decode cX12_city 88 = .ok (.aload_n 0, 1) := by decide +kernel
theorem dX12_city_89 : decode cX12_city 89 = .ok (.invokevirtual 112, 3) := by decide +kernel
theorem dX12_city_92 : decode cX12_city 92 = .ok (.aload_n 0, 1) := by decide +kernel
theorem dX12_city_93 : decode cX12_city 93 = .ok (.getfield 23, 3) := by decide +kernel
theorem dX12_city_96 : decode cX12_city 96 = .ok (.iconst 1, 1) := by decide +kernel
theorem dX12_city_97 : decode cX12_city 97 = .ok (.iaload, 1) := by decide +kernel
theorem dX12_city_98 : decode cX12_city 98 = .ok (.ireturn, 1) := by decide +kernel
set_option maxRecDepth 100000 in
theorem T_X12_city_0 {G : GE} {d C S : Nat} {P : KI} : Snd G MX12_city (d + 1) C S 0 (RI P) (s_aload 0 (s_iconst 0 (s_putI 11 0 (s_aload 0 (s_iload 1 (s_iconst 0 (s_aload 0 (s_getI 11 1 (s_call G d MX12_in 3 (s_if_ne (s_iconst 0 (s_iconst 1 (s_iconst 2 (s_callV G d MX12_bad 3 11 (s_if_eq (s_aload 0 (s_iload 1 (s_callV G d MX12_starts 1 11 (s_aload 0 (s_callV G d MX12_tellsNothing 0 11 (fun L st h => E G MX12_city (d + 1) C S 42 (msk [true, false] L) st h (RI P))))))) (s_iconst 0 (s_ireturn P))))))) (s_iconst 1 (s_iconst 1 (s_iconst 2 (s_callV G d MX12_bad 3 11 (s_if_eq (s_aload 0 (s_iload 1 (s_callV G d MX12_starts 1 11 (s_aload 0 (s_callV G d MX12_tellsNothing 0 11 (fun L st h => E G MX12_city (d + 1) C S 42 (msk [true, false] L) st h (RI P))))))) (s_iconst 0 (s_ireturn P))))))))))))))))) := (e_aload_n dX12_city_0 rfl (e_iconst (v := 0) dX12_city_1 (by decide) (e_putI rfl cl_11 (by decide) rfl rfl rfl q_1564 dX12_city_2 (e_aload_n dX12_city_5 rfl (e_iload_n dX12_city_6 rfl (e_iconst (v := 0) dX12_city_7 (by decide) (e_aload_n dX12_city_8 rfl (e_getI rfl cl_11 (by decide) rfl q_1565 dX12_city_9 (e_callS cal_X12_in q_1739 q_1740 dX12_city_12 (e_if_ne (tgt := 22) dX12_city_15 (by decide) (e_iconst (v := 0) dX12_city_22 (by decide) (e_iconst (v := 1) dX12_city_23 (by decide) (e_iconst (v := 2) dX12_city_24 (by decide) (e_callV cl_11 cal_X12_bad q_1742 q_1744 q_53 dX12_city_25 (e_if_eq (tgt := 33) dX12_city_28 (by decide) (e_aload_n dX12_city_33 rfl (e_iload_n dX12_city_34 rfl (e_callV cl_11 cal_X12_starts q_1746 q_1748 q_54 dX12_city_35 (e_aload_n dX12_city_38 rfl (e_callV cl_11 cal_X12_tellsNothing q_1553 q_1555 q_51 dX12_city_39 (e_msk [true, false])))))) (e_iconst (v := 0) dX12_city_31 (by decide) (e_ireturn rfl dX12_city_32))))))) (e_iconst (v := 1) dX12_city_18 (by decide) (e_goto (tgt := 23) dX12_city_19 (by decide) (e_iconst (v := 1) dX12_city_23 (by decide) (e_iconst (v := 2) dX12_city_24 (by decide) (e_callV cl_11 cal_X12_bad q_1742 q_1744 q_53 dX12_city_25 (e_if_eq (tgt := 33) dX12_city_28 (by decide) (e_aload_n dX12_city_33 rfl (e_iload_n dX12_city_34 rfl (e_callV cl_11 cal_X12_starts q_1746 q_1748 q_54 dX12_city_35 (e_aload_n dX12_city_38 rfl (e_callV cl_11 cal_X12_tellsNothing q_1553 q_1555 q_51 dX12_city_39 (e_msk [true, false])))))) (e_iconst (v := 0) dX12_city_31 (by decide) (e_ireturn rfl dX12_city_32))))))))))))))))))
set_option maxRecDepth 100000 in
theorem V_X12_city_0 {G : GE} {d : Nat} {P : KI} {a : Nat → Nat → Int32} {r : Nat → Nat → Value} {N : Nat} {l0 : Nat} {l1 : Int32} (hs : (tyK l0 = (0, 11) ∧ l0 < N ∧ ∀ a1, a1 = u2 a l0 0 0 → (tyK l0 = (0, 11) ∧ l0 < N ∧ Sp G d 0 0 MX12_in [.int l1, .int 0, .int (a1 l0 1)] (a1, r, N) (RI fun v5 a2 r3 n4 => ((¬ v5 = 0 → (tyK l0 = (0, 11) ∧ l0 < n4 ∧ Sp G d 0 0 MX12_bad [.ref l0, .int 0, .int 1, .int 2] (a2, r3, n4) (RI fun v9 a6 r7 n8 => ((v9 = 0 → (tyK l0 = (0, 11) ∧ l0 < n8 ∧ Sp G d 0 0 MX12_starts [.ref l0, .int l1] (a6, r7, n8) (RN fun a10 r11 n12 => (tyK l0 = (0, 11) ∧ l0 < n12 ∧ Sp G d 0 0 MX12_tellsNothing [.ref l0] (a10, r11, n12) (RN fun a13 r14 n15 => E G MX12_city (d + 1) 0 0 42 [.ref l0, .null] [] (a13, r14, n15) (RI P)))))) ∧ (¬ v9 = 0 → P 0 a6 r7 n8))))) ∧ (v5 = 0 → (tyK l0 = (0, 11) ∧ l0 < n4 ∧ Sp G d 0 0 MX12_bad [.ref l0, .int 1, .int 1, .int 2] (a2, r3, n4) (RI fun v19 a16 r17 n18 => ((v19 = 0 → (tyK l0 = (0, 11) ∧ l0 < n18 ∧ Sp G d 0 0 MX12_starts [.ref l0, .int l1] (a16, r17, n18) (RN fun a20 r21 n22 => (tyK l0 = (0, 11) ∧ l0 < n22 ∧ Sp G d 0 0 MX12_tellsNothing [.ref l0] (a20, r21, n22) (RN fun a23 r24 n25 => E G MX12_city (d + 1) 0 0 42 [.ref l0, .null] [] (a23, r24, n25) (RI P)))))) ∧ (¬ v19 = 0 → P 0 a16 r17 n18)))))))))) : Sp G (d + 1) 0 0 MX12_city [.ref l0, .int l1] (a, r, N) (RI P) := Sp.mk (mc := 0) (ms := 0) [.ref l0, .int l1] rfl rfl rfl rfl (T_X12_city_0 (C := 0) (S := 0) _ _ _ hs)
set_option maxRecDepth 100000 in
theorem T_X12_city_42 {G : GE} {d C S : Nat} {P : KI} : Snd G MX12_city (d + 1) C S 42 (RI P) (s_aload 0 (s_getI 11 5 (s_if_ne (s_aload 0 (s_getI 11 5 (s_if_eq (s_aload 0 (s_iconst (-1) (s_putI 11 3 (s_aload 0 (s_callV G d MX12_stands 0 11 (s_aload 0 (s_getR 11 12 (s_iconst 1 (s_iaload (s_ireturn P)))))))))) (s_aload 0 (s_callV G d MX12_ends 0 11 (s_ireturn P)))))) (s_aload 0 (s_getI 11 4 (s_aload 0 (s_getI 11 2 (s_ic_ge (s_aload 0 (s_getI 11 5 (s_if_eq (s_aload 0 (s_iconst (-1) (s_putI 11 3 (s_aload 0 (s_callV G d MX12_stands 0 11 (s_aload 0 (s_getR 11 12 (s_iconst 1 (s_iaload (s_ireturn P)))))))))) (s_aload 0 (s_callV G d MX12_ends 0 11 (s_ireturn P)))))) (s_aload 0 (s_callV G d MX12_clause 0 11 (s_aload 0 (s_callV G d MX12_blanks 0 11 (fun L st h => E G MX12_city (d + 1) C S 42 (msk [true, false] L) st h (RI P)))))))))))))) := (e_aload_n dX12_city_42 rfl (e_getI rfl cl_11 (by decide) rfl q_1569 dX12_city_43 (e_if_ne (tgt := 71) dX12_city_46 (by decide) (e_aload_n dX12_city_71 rfl (e_getI rfl cl_11 (by decide) rfl q_1569 dX12_city_72 (e_if_eq (tgt := 83) dX12_city_75 (by decide) (e_aload_n dX12_city_83 rfl (e_iconst (v := (-1)) dX12_city_84 (by decide) (e_putI rfl cl_11 (by decide) rfl rfl rfl q_1567 dX12_city_85 (e_aload_n dX12_city_88 rfl (e_callV cl_11 cal_X12_stands q_1557 q_1559 q_52 dX12_city_89 (e_aload_n dX12_city_92 rfl (e_getR rfl cl_11 (by decide) rfl q_1576 dX12_city_93 (e_iconst (v := 1) dX12_city_96 (by decide) (e_iaload dX12_city_97 (e_ireturn rfl dX12_city_98)))))))))) (e_aload_n dX12_city_78 rfl (e_callV cl_11 cal_X12_ends q_1807 q_1809 q_66 dX12_city_79 (e_ireturn rfl dX12_city_82)))))) (e_aload_n dX12_city_49 rfl (e_getI rfl cl_11 (by decide) rfl q_1568 dX12_city_50 (e_aload_n dX12_city_53 rfl (e_getI rfl cl_11 (by decide) rfl q_1566 dX12_city_54 (e_ic_ge (tgt := 71) dX12_city_57 (by decide) (e_aload_n dX12_city_71 rfl (e_getI rfl cl_11 (by decide) rfl q_1569 dX12_city_72 (e_if_eq (tgt := 83) dX12_city_75 (by decide) (e_aload_n dX12_city_83 rfl (e_iconst (v := (-1)) dX12_city_84 (by decide) (e_putI rfl cl_11 (by decide) rfl rfl rfl q_1567 dX12_city_85 (e_aload_n dX12_city_88 rfl (e_callV cl_11 cal_X12_stands q_1557 q_1559 q_52 dX12_city_89 (e_aload_n dX12_city_92 rfl (e_getR rfl cl_11 (by decide) rfl q_1576 dX12_city_93 (e_iconst (v := 1) dX12_city_96 (by decide) (e_iaload dX12_city_97 (e_ireturn rfl dX12_city_98)))))))))) (e_aload_n dX12_city_78 rfl (e_callV cl_11 cal_X12_ends q_1807 q_1809 q_66 dX12_city_79 (e_ireturn rfl dX12_city_82)))))) (e_aload_n dX12_city_60 rfl (e_callV cl_11 cal_X12_clause q_1758 q_1760 q_57 dX12_city_61 (e_aload_n dX12_city_64 rfl (e_callV cl_11 cal_X12_blanks q_1750 q_1752 q_55 dX12_city_65 (e_goto (tgt := 42) dX12_city_68 (by decide) (e_msk [true, false]))))))))))))))
set_option maxRecDepth 100000 in
theorem V_X12_city_42 {G : GE} {d C S : Nat} {P : KI} {a : Nat → Nat → Int32} {r : Nat → Nat → Value} {N : Nat} {l0 : Nat} (hs : (tyK l0 = (0, 11) ∧ l0 < N ∧ ((¬ (a l0 5) = 0 → (tyK l0 = (0, 11) ∧ l0 < N ∧ (((a l0 5) = 0 → (tyK l0 = (0, 11) ∧ l0 < N ∧ ∀ a1, a1 = u2 a l0 3 (-1) → (tyK l0 = (0, 11) ∧ l0 < N ∧ Sp G d 0 0 MX12_stands [.ref l0] (a1, r, N) (RN fun a2 r3 n4 => (tyK l0 = (0, 11) ∧ l0 < n4 ∧ ∃ q5, r3 l0 12 = .ref q5 ∧ ((tyK q5).1 = 1 ∧ q5 < n4 ∧ vp_in 1 (tyK q5).2 ∧ P (a2 q5 (1 : Int32).toNatClampNeg) a2 r3 n4)))))) ∧ (¬ (a l0 5) = 0 → (tyK l0 = (0, 11) ∧ l0 < N ∧ Sp G d 0 0 MX12_ends [.ref l0] (a, r, N) (RI fun v9 a6 r7 n8 => P v9 a6 r7 n8)))))) ∧ ((a l0 5) = 0 → (tyK l0 = (0, 11) ∧ l0 < N ∧ (tyK l0 = (0, 11) ∧ l0 < N ∧ (((a l0 2) ≤ (a l0 4) → (tyK l0 = (0, 11) ∧ l0 < N ∧ (((a l0 5) = 0 → (tyK l0 = (0, 11) ∧ l0 < N ∧ ∀ a10, a10 = u2 a l0 3 (-1) → (tyK l0 = (0, 11) ∧ l0 < N ∧ Sp G d 0 0 MX12_stands [.ref l0] (a10, r, N) (RN fun a11 r12 n13 => (tyK l0 = (0, 11) ∧ l0 < n13 ∧ ∃ q14, r12 l0 12 = .ref q14 ∧ ((tyK q14).1 = 1 ∧ q14 < n13 ∧ vp_in 1 (tyK q14).2 ∧ P (a11 q14 (1 : Int32).toNatClampNeg) a11 r12 n13)))))) ∧ (¬ (a l0 5) = 0 → (tyK l0 = (0, 11) ∧ l0 < N ∧ Sp G d 0 0 MX12_ends [.ref l0] (a, r, N) (RI fun v18 a15 r16 n17 => P v18 a15 r16 n17)))))) ∧ (¬ (a l0 2) ≤ (a l0 4) → (tyK l0 = (0, 11) ∧ l0 < N ∧ Sp G d 0 0 MX12_clause [.ref l0] (a, r, N) (RN fun a19 r20 n21 => (tyK l0 = (0, 11) ∧ l0 < n21 ∧ Sp G d 0 0 MX12_blanks [.ref l0] (a19, r20, n21) (RN fun a22 r23 n24 => E G MX12_city (d + 1) C S 42 [.ref l0, .null] [] (a22, r23, n24) (RI P))))))))))))) : E G MX12_city (d + 1) C S 42 [.ref l0, .null] [] (a, r, N) (RI P) := T_X12_city_42 _ _ _ hs
theorem dX12_lays_0 : decode cX12_lays 0 = .ok (.iconst 0, 1) := by decide +kernel
theorem dX12_lays_1 : decode cX12_lays 1 = .ok (.istore_n 3, 1) := by decide +kernel
theorem dX12_lays_2 : decode cX12_lays 2 = .ok (.iload_n 3, 1) := by decide +kernel
theorem dX12_lays_3 : decode cX12_lays 3 = .ok (.iload_n 2, 1) := by decide +kernel
theorem dX12_lays_4 : decode cX12_lays 4 = .ok (.if_icmp .ge 39, 3) := by decide +kernel
theorem dX12_lays_7 : decode cX12_lays 7 = .ok (.iconst 0, 1) := by decide +kernel
theorem dX12_lays_8 : decode cX12_lays 8 = .ok (.istore 4, 2) := by decide +kernel
theorem dX12_lays_10 : decode cX12_lays 10 = .ok (.iload 4, 2) := by decide +kernel
theorem dX12_lays_12 : decode cX12_lays 12 = .ok (.aload_n 1, 1) := by decide +kernel
theorem dX12_lays_13 : decode cX12_lays 13 = .ok (.iload_n 3, 1) := by decide +kernel
theorem dX12_lays_14 : decode cX12_lays 14 = .ok (.aaload, 1) := by decide +kernel
theorem dX12_lays_15 : decode cX12_lays 15 = .ok (.arraylength, 1) := by decide +kernel
theorem dX12_lays_16 : decode cX12_lays 16 = .ok (.if_icmp .ge 21, 3) := by decide +kernel
theorem dX12_lays_19 : decode cX12_lays 19 = .ok (.aload_n 1, 1) := by decide +kernel
theorem dX12_lays_20 : decode cX12_lays 20 = .ok (.iload_n 3, 1) := by decide +kernel
theorem dX12_lays_21 : decode cX12_lays 21 = .ok (.aaload, 1) := by decide +kernel
theorem dX12_lays_22 : decode cX12_lays 22 = .ok (.iload 4, 2) := by decide +kernel
theorem dX12_lays_24 : decode cX12_lays 24 = .ok (.aload_n 0, 1) := by decide +kernel
theorem dX12_lays_25 : decode cX12_lays 25 = .ok (.iload_n 3, 1) := by decide +kernel
theorem dX12_lays_26 : decode cX12_lays 26 = .ok (.aaload, 1) := by decide +kernel
theorem dX12_lays_27 : decode cX12_lays 27 = .ok (.iload 4, 2) := by decide +kernel
theorem dX12_lays_29 : decode cX12_lays 29 = .ok (.iaload, 1) := by decide +kernel
theorem dX12_lays_30 : decode cX12_lays 30 = .ok (.iastore, 1) := by decide +kernel
theorem dX12_lays_31 : decode cX12_lays 31 = .ok (.iinc 4 1, 3) := by decide +kernel
theorem dX12_lays_34 : decode cX12_lays 34 = .ok (.goto (-24), 3) := by decide +kernel
theorem dX12_lays_37 : decode cX12_lays 37 = .ok (.iinc 3 1, 3) := by decide +kernel
theorem dX12_lays_40 : decode cX12_lays 40 = .ok (.goto (-38), 3) := by decide +kernel
theorem dX12_lays_43 : decode cX12_lays 43 = .ok (.return_, 1) := by decide +kernel
set_option maxRecDepth 100000 in
theorem T_X12_lays_0 {G : GE} {d C S : Nat} {P : KN} : Snd G MX12_lays d C S 0 (RN P) (s_iconst 0 (s_istore 3 (fun L st h => E G MX12_lays d C S 2 (msk [true, true, true, true, false] L) st h (RN P)))) := (e_iconst (v := 0) dX12_lays_0 (by decide) (e_istore_n dX12_lays_1 rfl (by decide) (e_msk [true, true, true, true, false])))
set_option maxRecDepth 100000 in
theorem V_X12_lays_0 {G : GE} {d : Nat} {P : KN} {a : Nat → Nat → Int32} {r : Nat → Nat → Value} {N : Nat} {l0 : Nat} {l1 : Nat} {l2 : Int32} (hs : E G MX12_lays d 0 0 2 [.ref l0, .ref l1, .int l2, .int 0, .null] [] (a, r, N) (RN P)) : Sp G d 0 0 MX12_lays [.ref l0, .ref l1, .int l2] (a, r, N) (RN P) := Sp.mk (mc := 0) (ms := 0) [.ref l0, .ref l1, .int l2, .null, .null] rfl rfl rfl rfl (T_X12_lays_0 (C := 0) (S := 0) _ _ _ hs)
set_option maxRecDepth 100000 in
theorem T_X12_lays_2 {G : GE} {d C S : Nat} {P : KN} : Snd G MX12_lays d C S 2 (RN P) (s_iload 3 (s_iload 2 (s_ic_ge (s_return P) (s_iconst 0 (s_istore 4 (fun L st h => E G MX12_lays d C S 10 (msk [true, true, true, true, true] L) st h (RN P))))))) := (e_iload_n dX12_lays_2 rfl (e_iload_n dX12_lays_3 rfl (e_ic_ge (tgt := 43) dX12_lays_4 (by decide) (e_return rfl dX12_lays_43) (e_iconst (v := 0) dX12_lays_7 (by decide) (e_istore dX12_lays_8 (by decide) (e_msk [true, true, true, true, true]))))))
set_option maxRecDepth 100000 in
theorem V_X12_lays_2 {G : GE} {d C S : Nat} {P : KN} {a : Nat → Nat → Int32} {r : Nat → Nat → Value} {N : Nat} {l0 : Nat} {l1 : Nat} {l2 : Int32} {l3 : Int32} (hs : ((l2 ≤ l3 → P a r N) ∧ (¬ l2 ≤ l3 → E G MX12_lays d C S 10 [.ref l0, .ref l1, .int l2, .int l3, .int 0] [] (a, r, N) (RN P)))) : E G MX12_lays d C S 2 [.ref l0, .ref l1, .int l2, .int l3, .null] [] (a, r, N) (RN P) := T_X12_lays_2 _ _ _ hs
set_option maxRecDepth 100000 in
theorem T_X12_lays_10 {G : GE} {d C S : Nat} {P : KN} : Snd G MX12_lays d C S 10 (RN P) (s_iload 4 (s_aload 1 (s_iload 3 (s_aaload (s_alen (s_ic_ge (s_iinc 3 1 (fun L st h => E G MX12_lays d C S 2 (msk [true, true, true, true, false] L) st h (RN P))) (s_aload 1 (s_iload 3 (s_aaload (s_iload 4 (s_aload 0 (s_iload 3 (s_aaload (s_iload 4 (s_iaload (s_iastore (s_iinc 4 1 (fun L st h => E G MX12_lays d C S 10 (msk [true, true, true, true, true] L) st h (RN P))))))))))))))))))) := (e_iload dX12_lays_10 (e_aload_n dX12_lays_12 rfl (e_iload_n dX12_lays_13 rfl (e_aaload dX12_lays_14 (e_alen dX12_lays_15 (e_ic_ge (tgt := 37) dX12_lays_16 (by decide) (e_iinc (v := 1) dX12_lays_37 (by decide) (by decide) (e_goto (tgt := 2) dX12_lays_40 (by decide) (e_msk [true, true, true, true, false]))) (e_aload_n dX12_lays_19 rfl (e_iload_n dX12_lays_20 rfl (e_aaload dX12_lays_21 (e_iload dX12_lays_22 (e_aload_n dX12_lays_24 rfl (e_iload_n dX12_lays_25 rfl (e_aaload dX12_lays_26 (e_iload dX12_lays_27 (e_iaload dX12_lays_29 (e_iastore dX12_lays_30 (e_iinc (v := 1) dX12_lays_31 (by decide) (by decide) (e_goto (tgt := 10) dX12_lays_34 (by decide) (e_msk [true, true, true, true, true])))))))))))))))))))
set_option maxRecDepth 100000 in
theorem V_X12_lays_10 {G : GE} {d C S : Nat} {P : KN} {a : Nat → Nat → Int32} {r : Nat → Nat → Value} {N : Nat} {l0 : Nat} {l1 : Nat} {l2 : Int32} {l3 : Int32} {l4 : Int32} (hs : ((tyK l1).1 = 3 ∧ l1 < N ∧ vp_in l3 (tyK l1).2 ∧ (((tyK (l1 + 1 + (l3 : Int32).toNatClampNeg)).1 = 1 ∨ (tyK (l1 + 1 + (l3 : Int32).toNatClampNeg)).1 = 2) ∧ (l1 + 1 + (l3 : Int32).toNatClampNeg) < N ∧ (((Int32.ofNat (tyK (l1 + 1 + (l3 : Int32).toNatClampNeg)).2) ≤ l4 → E G MX12_lays d C S 2 [.ref l0, .ref l1, .int l2, .int (l3 + 1), .null] [] (a, r, N) (RN P)) ∧ (¬ (Int32.ofNat (tyK (l1 + 1 + (l3 : Int32).toNatClampNeg)).2) ≤ l4 → ((tyK l1).1 = 3 ∧ l1 < N ∧ vp_in l3 (tyK l1).2 ∧ ((tyK l0).1 = 3 ∧ l0 < N ∧ vp_in l3 (tyK l0).2 ∧ ((tyK (l0 + 1 + (l3 : Int32).toNatClampNeg)).1 = 1 ∧ (l0 + 1 + (l3 : Int32).toNatClampNeg) < N ∧ vp_in l4 (tyK (l0 + 1 + (l3 : Int32).toNatClampNeg)).2 ∧ ((tyK (l1 + 1 + (l3 : Int32).toNatClampNeg)).1 = 1 ∧ (l1 + 1 + (l3 : Int32).toNatClampNeg) < N ∧ vp_in l4 (tyK (l1 + 1 + (l3 : Int32).toNatClampNeg)).2 ∧ ∀ a1, a1 = u2 a (l1 + 1 + (l3 : Int32).toNatClampNeg) (l4 : Int32).toNatClampNeg (a (l0 + 1 + (l3 : Int32).toNatClampNeg) (l4 : Int32).toNatClampNeg) → E G MX12_lays d C S 10 [.ref l0, .ref l1, .int l2, .int l3, .int (l4 + 1)] [] (a1, r, N) (RN P)))))))))) : E G MX12_lays d C S 10 [.ref l0, .ref l1, .int l2, .int l3, .int l4] [] (a, r, N) (RN P) := T_X12_lays_10 _ _ _ hs
theorem dX12_copies_0 : decode cX12_copies 0 = .ok (.iconst 0, 1) := by decide +kernel
theorem dX12_copies_1 : decode cX12_copies 1 = .ok (.istore_n 2, 1) := by decide +kernel
theorem dX12_copies_2 : decode cX12_copies 2 = .ok (.iload_n 2, 1) := by decide +kernel
theorem dX12_copies_3 : decode cX12_copies 3 = .ok (.bipush 42, 2) := by decide +kernel
theorem dX12_copies_5 : decode cX12_copies 5 = .ok (.if_icmp .ge 15, 3) := by decide +kernel
theorem dX12_copies_8 : decode cX12_copies 8 = .ok (.aload_n 1, 1) := by decide +kernel
theorem dX12_copies_9 : decode cX12_copies 9 = .ok (.iload_n 2, 1) := by decide +kernel
theorem dX12_copies_10 : decode cX12_copies 10 = .ok (.aload_n 0, 1) := by decide +kernel
theorem dX12_copies_11 : decode cX12_copies 11 = .ok (.iload_n 2, 1) := by decide +kernel
theorem dX12_copies_12 : decode cX12_copies 12 = .ok (.iaload, 1) := by decide +kernel
theorem dX12_copies_13 : decode cX12_copies 13 = .ok (.iastore, 1) := by decide +kernel
theorem dX12_copies_14 : decode cX12_copies 14 = .ok (.iinc 2 1, 3) := by decide +kernel
theorem dX12_copies_17 : decode cX12_copies 17 = .ok (.goto (-15), 3) := by decide +kernel
theorem dX12_copies_20 : decode cX12_copies 20 = .ok (.return_, 1) := by decide +kernel
set_option maxRecDepth 100000 in
theorem T_X12_copies_0 {G : GE} {d C S : Nat} {P : KN} : Snd G MX12_copies d C S 0 (RN P) (s_iconst 0 (s_istore 2 (fun L st h => E G MX12_copies d C S 2 (msk [true, true, true] L) st h (RN P)))) := (e_iconst (v := 0) dX12_copies_0 (by decide) (e_istore_n dX12_copies_1 rfl (by decide) (e_msk [true, true, true])))
set_option maxRecDepth 100000 in
theorem V_X12_copies_0 {G : GE} {d : Nat} {P : KN} {a : Nat → Nat → Int32} {r : Nat → Nat → Value} {N : Nat} {l0 : Nat} {l1 : Nat} (hs : E G MX12_copies d 0 0 2 [.ref l0, .ref l1, .int 0] [] (a, r, N) (RN P)) : Sp G d 0 0 MX12_copies [.ref l0, .ref l1] (a, r, N) (RN P) := Sp.mk (mc := 0) (ms := 0) [.ref l0, .ref l1, .null] rfl rfl rfl rfl (T_X12_copies_0 (C := 0) (S := 0) _ _ _ hs)
set_option maxRecDepth 100000 in
theorem T_X12_copies_2 {G : GE} {d C S : Nat} {P : KN} : Snd G MX12_copies d C S 2 (RN P) (s_iload 2 (s_iconst 42 (s_ic_ge (s_return P) (s_aload 1 (s_iload 2 (s_aload 0 (s_iload 2 (s_iaload (s_iastore (s_iinc 2 1 (fun L st h => E G MX12_copies d C S 2 (msk [true, true, true] L) st h (RN P)))))))))))) := (e_iload_n dX12_copies_2 rfl (e_bipush (v := 42) dX12_copies_3 (by decide) (e_ic_ge (tgt := 20) dX12_copies_5 (by decide) (e_return rfl dX12_copies_20) (e_aload_n dX12_copies_8 rfl (e_iload_n dX12_copies_9 rfl (e_aload_n dX12_copies_10 rfl (e_iload_n dX12_copies_11 rfl (e_iaload dX12_copies_12 (e_iastore dX12_copies_13 (e_iinc (v := 1) dX12_copies_14 (by decide) (by decide) (e_goto (tgt := 2) dX12_copies_17 (by decide) (e_msk [true, true, true]))))))))))))
set_option maxRecDepth 100000 in
theorem V_X12_copies_2 {G : GE} {d C S : Nat} {P : KN} {a : Nat → Nat → Int32} {r : Nat → Nat → Value} {N : Nat} {l0 : Nat} {l1 : Nat} {l2 : Int32} (hs : ((42 ≤ l2 → P a r N) ∧ (¬ 42 ≤ l2 → ((tyK l0).1 = 1 ∧ l0 < N ∧ vp_in l2 (tyK l0).2 ∧ ((tyK l1).1 = 1 ∧ l1 < N ∧ vp_in l2 (tyK l1).2 ∧ ∀ a1, a1 = u2 a l1 (l2 : Int32).toNatClampNeg (a l0 (l2 : Int32).toNatClampNeg) → E G MX12_copies d C S 2 [.ref l0, .ref l1, .int (l2 + 1)] [] (a1, r, N) (RN P)))))) : E G MX12_copies d C S 2 [.ref l0, .ref l1, .int l2] [] (a, r, N) (RN P) := T_X12_copies_2 _ _ _ hs
theorem dX12_stands_0 : decode cX12_stands 0 = .ok (.iconst 0, 1) := by decide +kernel
theorem dX12_stands_1 : decode cX12_stands 1 = .ok (.istore_n 1, 1) := by decide +kernel
theorem dX12_stands_2 : decode cX12_stands 2 = .ok (.iload_n 1, 1) := by decide +kernel
theorem dX12_stands_3 : decode cX12_stands 3 = .ok (.bipush 8, 2) := by decide +kernel
theorem dX12_stands_5 : decode cX12_stands 5 = .ok (.if_icmp .ge 21, 3) := by decide +kernel
theorem dX12_stands_8 : decode cX12_stands 8 = .ok (.aload_n 0, 1) := by decide +kernel
theorem dX12_stands_9 : decode cX12_stands 9 = .ok (.getfield 23, 3) := by decide +kernel
theorem dX12_stands_12 : decode cX12_stands 12 = .ok (.iload_n 1, 1) := by decide +kernel
theorem dX12_stands_13 : decode cX12_stands 13 = .ok (.aload_n 0, 1) := by decide +kernel
theorem dX12_stands_14 : decode cX12_stands 14 = .ok (.getfield 20, 3) := by decide +kernel
theorem dX12_stands_17 : decode cX12_stands 17 = .ok (.iload_n 1, 1) := by decide +kernel
theorem dX12_stands_18 : decode cX12_stands 18 = .ok (.iaload, 1) := by decide +kernel
theorem dX12_stands_19 : decode cX12_stands 19 = .ok (.iastore, 1) := by decide +kernel
theorem dX12_stands_20 : decode cX12_stands 20 = .ok (.iinc 1 1, 3) := by decide +kernel
theorem dX12_stands_23 : decode cX12_stands 23 = .ok (.goto (-21), 3) := by decide +kernel
theorem dX12_stands_26 : decode cX12_stands 26 = .ok (.aload_n 0, 1) := by decide +kernel
theorem dX12_stands_27 : decode cX12_stands 27 = .ok (.getfield 28, 3) := by decide +kernel
theorem dX12_stands_30 : decode cX12_stands 30 = .ok (.aload_n 0, 1) := by decide +kernel
theorem dX12_stands_31 : decode cX12_stands 31 = .ok (.getfield 31, 3) := by decide +kernel
theorem dX12_stands_34 : decode cX12_stands 34 = .ok (.aload_n 0, 1) := by decide +kernel
theorem dX12_stands_35 : decode cX12_stands 35 = .ok (.getfield 23, 3) := by decide +kernel
theorem dX12_stands_38 : decode cX12_stands 38 = .ok (.iconst 0, 1) := by decide +kernel
theorem dX12_stands_39 : decode cX12_stands 39 = .ok (.iaload, 1) := by decide +kernel
theorem dX12_stands_40 : decode cX12_stands 40 = .ok (.invokestatic 211, 3) := by decide +kernel
theorem dX12_stands_43 : decode cX12_stands 43 = .ok (.aload_n 0, 1) := by decide +kernel
theorem dX12_stands_44 : decode cX12_stands 44 = .ok (.getfield 34, 3) := by decide +kernel
theorem dX12_stands_47 : decode cX12_stands 47 = .ok (.aload_n 0, 1) := by decide +kernel
theorem dX12_stands_48 : decode cX12_stands 48 = .ok (.getfield 37, 3) := by decide +kernel
theorem dX12_stands_51 : decode cX12_stands 51 = .ok (.aload_n 0, 1) := by decide +kernel
theorem dX12_stands_52 : decode cX12_stands 52 = .ok (.getfield 23, 3) := by decide +kernel
theorem dX12_stands_55 : decode cX12_stands 55 = .ok (.iconst 1, 1) := by decide +kernel
theorem dX12_stands_56 : decode cX12_stands 56 = .ok (.iaload, 1) := by decide +kernel
theorem dX12_stands_57 : decode cX12_stands 57 = .ok (.invokestatic 211, 3) := by decide +kernel
theorem dX12_stands_60 : decode cX12_stands 60 = .ok (.aload_n 0, 1) := by decide +kernel
theorem dX12_stands_61 : decode cX12_stands 61 = .ok (.getfield 52, 3) := by decide +kernel
theorem dX12_stands_64 : decode cX12_stands 64 = .ok (.aload_n 0, 1) := by decide +kernel
theorem dX12_stands_65 : decode cX12_stands 65 = .ok (.getfield 55, 3) := by decide +kernel
theorem dX12_stands_68 : decode cX12_stands 68 = .ok (.aload_n 0, 1) := by decide +kernel
theorem dX12_stands_69 : decode cX12_stands 69 = .ok (.getfield 23, 3) := by decide +kernel
theorem dX12_stands_72 : decode cX12_stands 72 = .ok (.iconst 2, 1) := by decide +kernel
theorem dX12_stands_73 : decode cX12_stands 73 = .ok (.iaload, 1) := by decide +kernel
theorem dX12_stands_74 : decode cX12_stands 74 = .ok (.invokestatic 211, 3) := by decide +kernel
theorem dX12_stands_77 : decode cX12_stands 77 = .ok (.aload_n 0, 1) := by decide +kernel
theorem dX12_stands_78 : decode cX12_stands 78 = .ok (.getfield 40, 3) := by decide +kernel
theorem dX12_stands_81 : decode cX12_stands 81 = .ok (.aload_n 0, 1) := by decide +kernel
theorem dX12_stands_82 : decode cX12_stands 82 = .ok (.getfield 43, 3) := by decide +kernel
theorem dX12_stands_85 : decode cX12_stands 85 = .ok (.bipush 8, 2) := by decide +kernel
theorem dX12_stands_87 : decode cX12_stands 87 = .ok (.invokestatic 211, 3) := by decide +kernel
theorem dX12_stands_90 : decode cX12_stands 90 = .ok (.aload_n 0, 1) := by decide +kernel
theorem dX12_stands_91 : decode cX12_stands 91 = .ok (.getfield 46, 3) := by decide +kernel
theorem dX12_stands_94 : decode cX12_stands 94 = .ok (.aload_n 0, 1) := by decide +kernel
theorem dX12_stands_95 : decode cX12_stands 95 = .ok (.getfield 49, 3) := by decide +kernel
theorem dX12_stands_98 : decode cX12_stands 98 = .ok (.bipush 8, 2) := by decide +kernel
theorem dX12_stands_100 : decode cX12_stands 100 = .ok (.invokestatic 211, 3) := by decide +kernel
theorem dX12_stands_103 : decode cX12_stands 103 = .ok (.iconst 0, 1) := by decide +kernel
theorem dX12_stands_104 : decode cX12_stands 104 = .ok (.istore_n 1, 1) := by decide +kernel
theorem dX12_stands_105 : decode cX12_stands 105 = .ok (.iload_n 1, 1) := by decide +kernel
theorem dX12_stands_106 : decode cX12_stands 106 = .ok (.bipush 42, 2) := by decide +kernel
theorem dX12_stands_108 : decode cX12_stands 108 = .ok (.if_icmp .ge 26, 3) := by decide +kernel
theorem dX12_stands_111 : decode cX12_stands 111 = .ok (.aload_n 0, 1) := by decide +kernel
theorem dX12_stands_112 : decode cX12_stands 112 = .ok (.getfield 79, 3) := by decide +kernel
theorem dX12_stands_115 : decode cX12_stands 115 = .ok (.iload_n 1, 1) := by decide +kernel
theorem dX12_stands_116 : decode cX12_stands 116 = .ok (.iload_n 1, 1) := by decide +kernel
theorem dX12_stands_117 : decode cX12_stands 117 = .ok (.bipush 8, 2) := by decide +kernel
theorem dX12_stands_119 : decode cX12_stands 119 = .ok (.if_icmp .ge 7, 3) := by decide +kernel
theorem dX12_stands_122 : decode cX12_stands 122 = .ok (.iconst (-1), 1) := by decide +kernel
theorem dX12_stands_123 : decode cX12_stands 123 = .ok (.goto 4, 3) := by decide +kernel
theorem dX12_stands_126 : decode cX12_stands 126 = .ok (.iconst 0, 1) := by decide +kernel
theorem dX12_stands_127 : decode cX12_stands 127 = .ok (.iastore, 1) := by decide +kernel
theorem dX12_stands_128 : decode cX12_stands 128 = .ok (.iinc 1 1, 3) := by decide +kernel
theorem dX12_stands_131 : decode cX12_stands 131 = .ok (.goto (-26), 3) := by decide +kernel
theorem dX12_stands_134 : decode cX12_stands 134 = .ok (.iconst 0, 1) := by decide +kernel
theorem dX12_stands_135 : decode cX12_stands 135 = .ok (.istore_n 1, 1) := by decide +kernel
theorem dX12_stands_136 : decode cX12_stands 136 = .ok (.iload_n 1, 1) := by decide +kernel
theorem dX12_stands_137 : decode cX12_stands 137 = .ok (.aload_n 0, 1) := by decide +kernel
theorem dX12_stands_138 : decode cX12_stands 138 = .ok (.getfield 23, 3) := by decide +kernel
theorem dX12_stands_141 : decode cX12_stands 141 = .ok (.iconst 1, 1) := by decide +kernel
theorem dX12_stands_142 : decode cX12_stands 142 = .ok (.iaload, 1) := by decide +kernel
theorem dX12_stands_143 : decode cX12_stands 143 = .ok (.if_icmp .ge 26, 3) := by decide +kernel
theorem dX12_stands_146 : decode cX12_stands 146 = .ok (.aload_n 0, 1) := by decide +kernel
theorem dX12_stands_147 : decode cX12_stands 147 = .ok (.getfield 79, 3) := by decide +kernel
theorem dX12_stands_150 : decode cX12_stands 150 = .ok (.bipush 24, 2) := by decide +kernel
theorem dX12_stands_152 : decode cX12_stands 152 = .ok (.iload_n 1, 1) := by decide +kernel
theorem dX12_stands_153 : decode cX12_stands 153 = .ok (.iadd, 1) := by decide +kernel
theorem dX12_stands_154 : decode cX12_stands 154 = .ok (.aload_n 0, 1) := by decide +kernel
theorem dX12_stands_155 : decode cX12_stands 155 = .ok (.getfield 37, 3) := by decide +kernel
theorem dX12_stands_158 : decode cX12_stands 158 = .ok (.iload_n 1, 1) := by decide +kernel
theorem dX12_stands_159 : decode cX12_stands 159 = .ok (.aaload, 1) := by decide +kernel
theorem dX12_stands_160 : decode cX12_stands 160 = .ok (.iconst 3, 1) := by decide +kernel
theorem dX12_stands_161 : decode cX12_stands 161 = .ok (.iaload, 1) := by decide +kernel
theorem dX12_stands_162 : decode cX12_stands 162 = .ok (.iastore, 1) := by decide +kernel
theorem dX12_stands_163 : decode cX12_stands 163 = .ok (.iinc 1 1, 3) := by decide +kernel
theorem dX12_stands_166 : decode cX12_stands 166 = .ok (.goto (-30), 3) := by decide +kernel
theorem dX12_stands_169 : decode cX12_stands 169 = .ok (.aload_n 0, 1) := by decide +kernel
theorem dX12_stands_170 : decode cX12_stands 170 = .ok (.iconst 0, 1) := by decide +kernel
theorem dX12_stands_171 : decode cX12_stands 171 = .ok (.putfield 215, 3) := by decide +kernel
theorem dX12_stands_174 : decode cX12_stands 174 = .ok (.aload_n 0, 1) := by decide +kernel
theorem dX12_stands_175 : decode cX12_stands 175 = .ok (.iconst 0, 1) := by decide +kernel
theorem dX12_stands_176 : decode cX12_stands 176 = .ok (.putfield 218, 3) := by decide +kernel
theorem dX12_stands_179 : decode cX12_stands 179 = .ok (.aload_n 0, 1) := by decide +kernel
theorem dX12_stands_180 : decode cX12_stands 180 = .ok (.iconst 0, 1) := by decide +kernel
theorem dX12_stands_181 : decode cX12_stands 181 = .ok (.putfield 221, 3) := by decide +kernel
theorem dX12_stands_184 : decode cX12_stands 184 = .ok (.aload_n 0, 1) := by decide +kernel
theorem dX12_stands_185 : decode cX12_stands 185 = .ok (.iconst 0, 1) := by decide +kernel
theorem dX12_stands_186 : decode cX12_stands 186 = .ok (.putfield 224, 3) := by decide +kernel
theorem dX12_stands_189 : decode cX12_stands 189 = .ok (.aload_n 0, 1) := by decide +kernel
theorem dX12_stands_190 : decode cX12_stands 190 = .ok (.iconst 0, 1) := by decide +kernel
theorem dX12_stands_191 : decode cX12_stands 191 = .ok (.putfield 227, 3) := by decide +kernel
theorem dX12_stands_194 : decode cX12_stands 194 = .ok (.return_, 1) := by decide +kernel
set_option maxRecDepth 100000 in
theorem T_X12_stands_0 {G : GE} {d C S : Nat} {P : KN} : Snd G MX12_stands (d + 1) C S 0 (RN P) (s_iconst 0 (s_istore 1 (fun L st h => E G MX12_stands (d + 1) C S 2 (msk [true, true] L) st h (RN P)))) := (e_iconst (v := 0) dX12_stands_0 (by decide) (e_istore_n dX12_stands_1 rfl (by decide) (e_msk [true, true])))
set_option maxRecDepth 100000 in
theorem V_X12_stands_0 {G : GE} {d : Nat} {P : KN} {a : Nat → Nat → Int32} {r : Nat → Nat → Value} {N : Nat} {l0 : Nat} (hs : E G MX12_stands (d + 1) 0 0 2 [.ref l0, .int 0] [] (a, r, N) (RN P)) : Sp G (d + 1) 0 0 MX12_stands [.ref l0] (a, r, N) (RN P) := Sp.mk (mc := 0) (ms := 0) [.ref l0, .null] rfl rfl rfl rfl (T_X12_stands_0 (C := 0) (S := 0) _ _ _ hs)
set_option maxRecDepth 100000 in
theorem T_X12_stands_2 {G : GE} {d C S : Nat} {P : KN} : Snd G MX12_stands (d + 1) C S 2 (RN P) (s_iload 1 (s_iconst 8 (s_ic_ge (s_aload 0 (s_getR 11 13 (s_aload 0 (s_getR 11 14 (s_aload 0 (s_getR 11 12 (s_iconst 0 (s_iaload (s_call G d MX12_lays 3 (s_aload 0 (s_getR 11 15 (s_aload 0 (s_getR 11 16 (s_aload 0 (s_getR 11 12 (s_iconst 1 (s_iaload (s_call G d MX12_lays 3 (s_aload 0 (s_getR 11 21 (s_aload 0 (s_getR 11 22 (s_aload 0 (s_getR 11 12 (s_iconst 2 (s_iaload (s_call G d MX12_lays 3 (s_aload 0 (s_getR 11 17 (s_aload 0 (s_getR 11 18 (s_iconst 8 (s_call G d MX12_lays 3 (s_aload 0 (s_getR 11 19 (s_aload 0 (s_getR 11 20 (s_iconst 8 (s_call G d MX12_lays 3 (s_iconst 0 (s_istore 1 (fun L st h => E G MX12_stands (d + 1) C S 105 (msk [true, true] L) st h (RN P))))))))))))))))))))))))))))))))))))))))))) (s_aload 0 (s_getR 11 12 (s_iload 1 (s_aload 0 (s_getR 11 11 (s_iload 1 (s_iaload (s_iastore (s_iinc 1 1 (fun L st h => E G MX12_stands (d + 1) C S 2 (msk [true, true] L) st h (RN P)))))))))))))) := (e_iload_n dX12_stands_2 rfl (e_bipush (v := 8) dX12_stands_3 (by decide) (e_ic_ge (tgt := 26) dX12_stands_5 (by decide) (e_aload_n dX12_stands_26 rfl (e_getR rfl cl_11 (by decide) rfl q_1577 dX12_stands_27 (e_aload_n dX12_stands_30 rfl (e_getR rfl cl_11 (by decide) rfl q_1578 dX12_stands_31 (e_aload_n dX12_stands_34 rfl (e_getR rfl cl_11 (by decide) rfl q_1576 dX12_stands_35 (e_iconst (v := 0) dX12_stands_38 (by decide) (e_iaload dX12_stands_39 (e_callS cal_X12_lays q_1561 q_1562 dX12_stands_40 (e_aload_n dX12_stands_43 rfl (e_getR rfl cl_11 (by decide) rfl q_1579 dX12_stands_44 (e_aload_n dX12_stands_47 rfl (e_getR rfl cl_11 (by decide) rfl q_1580 dX12_stands_48 (e_aload_n dX12_stands_51 rfl (e_getR rfl cl_11 (by decide) rfl q_1576 dX12_stands_52 (e_iconst (v := 1) dX12_stands_55 (by decide) (e_iaload dX12_stands_56 (e_callS cal_X12_lays q_1561 q_1562 dX12_stands_57 (e_aload_n dX12_stands_60 rfl (e_getR rfl cl_11 (by decide) rfl q_1585 dX12_stands_61 (e_aload_n dX12_stands_64 rfl (e_getR rfl cl_11 (by decide) rfl q_1586 dX12_stands_65 (e_aload_n dX12_stands_68 rfl (e_getR rfl cl_11 (by decide) rfl q_1576 dX12_stands_69 (e_iconst (v := 2) dX12_stands_72 (by decide) (e_iaload dX12_stands_73 (e_callS cal_X12_lays q_1561 q_1562 dX12_stands_74 (e_aload_n dX12_stands_77 rfl (e_getR rfl cl_11 (by decide) rfl q_1581 dX12_stands_78 (e_aload_n dX12_stands_81 rfl (e_getR rfl cl_11 (by decide) rfl q_1582 dX12_stands_82 (e_bipush (v := 8) dX12_stands_85 (by decide) (e_callS cal_X12_lays q_1561 q_1562 dX12_stands_87 (e_aload_n dX12_stands_90 rfl (e_getR rfl cl_11 (by decide) rfl q_1583 dX12_stands_91 (e_aload_n dX12_stands_94 rfl (e_getR rfl cl_11 (by decide) rfl q_1584 dX12_stands_95 (e_bipush (v := 8) dX12_stands_98 (by decide) (e_callS cal_X12_lays q_1561 q_1562 dX12_stands_100 (e_iconst (v := 0) dX12_stands_103 (by decide) (e_istore_n dX12_stands_104 rfl (by decide) (e_msk [true, true])))))))))))))))))))))))))))))))))))))))))) (e_aload_n dX12_stands_8 rfl (e_getR rfl cl_11 (by decide) rfl q_1576 dX12_stands_9 (e_iload_n dX12_stands_12 rfl (e_aload_n dX12_stands_13 rfl (e_getR rfl cl_11 (by decide) rfl q_1575 dX12_stands_14 (e_iload_n dX12_stands_17 rfl (e_iaload dX12_stands_18 (e_iastore dX12_stands_19 (e_iinc (v := 1) dX12_stands_20 (by decide) (by decide) (e_goto (tgt := 2) dX12_stands_23 (by decide) (e_msk [true, true]))))))))))))))
set_option maxRecDepth 100000 in
theorem V_X12_stands_2 {G : GE} {d C S : Nat} {P : KN} {a : Nat → Nat → Int32} {r : Nat → Nat → Value} {N : Nat} {l0 : Nat} {l1 : Int32} (hs : ((8 ≤ l1 → (tyK l0 = (0, 11) ∧ l0 < N ∧ ∃ q1, r l0 13 = .ref q1 ∧ (tyK l0 = (0, 11) ∧ l0 < N ∧ ∃ q2, r l0 14 = .ref q2 ∧ (tyK l0 = (0, 11) ∧ l0 < N ∧ ∃ q3, r l0 12 = .ref q3 ∧ ((tyK q3).1 = 1 ∧ q3 < N ∧ vp_in 0 (tyK q3).2 ∧ Sp G d 0 0 MX12_lays [.ref q1, .ref q2, .int (a q3 (0 : Int32).toNatClampNeg)] (a, r, N) (RN fun a4 r5 n6 => (tyK l0 = (0, 11) ∧ l0 < n6 ∧ ∃ q7, r5 l0 15 = .ref q7 ∧ (tyK l0 = (0, 11) ∧ l0 < n6 ∧ ∃ q8, r5 l0 16 = .ref q8 ∧ (tyK l0 = (0, 11) ∧ l0 < n6 ∧ ∃ q9, r5 l0 12 = .ref q9 ∧ ((tyK q9).1 = 1 ∧ q9 < n6 ∧ vp_in 1 (tyK q9).2 ∧ Sp G d 0 0 MX12_lays [.ref q7, .ref q8, .int (a4 q9 (1 : Int32).toNatClampNeg)] (a4, r5, n6) (RN fun a10 r11 n12 => (tyK l0 = (0, 11) ∧ l0 < n12 ∧ ∃ q13, r11 l0 21 = .ref q13 ∧ (tyK l0 = (0, 11) ∧ l0 < n12 ∧ ∃ q14, r11 l0 22 = .ref q14 ∧ (tyK l0 = (0, 11) ∧ l0 < n12 ∧ ∃ q15, r11 l0 12 = .ref q15 ∧ ((tyK q15).1 = 1 ∧ q15 < n12 ∧ vp_in 2 (tyK q15).2 ∧ Sp G d 0 0 MX12_lays [.ref q13, .ref q14, .int (a10 q15 (2 : Int32).toNatClampNeg)] (a10, r11, n12) (RN fun a16 r17 n18 => (tyK l0 = (0, 11) ∧ l0 < n18 ∧ ∃ q19, r17 l0 17 = .ref q19 ∧ (tyK l0 = (0, 11) ∧ l0 < n18 ∧ ∃ q20, r17 l0 18 = .ref q20 ∧ Sp G d 0 0 MX12_lays [.ref q19, .ref q20, .int 8] (a16, r17, n18) (RN fun a21 r22 n23 => (tyK l0 = (0, 11) ∧ l0 < n23 ∧ ∃ q24, r22 l0 19 = .ref q24 ∧ (tyK l0 = (0, 11) ∧ l0 < n23 ∧ ∃ q25, r22 l0 20 = .ref q25 ∧ Sp G d 0 0 MX12_lays [.ref q24, .ref q25, .int 8] (a21, r22, n23) (RN fun a26 r27 n28 => E G MX12_stands (d + 1) C S 105 [.ref l0, .int 0] [] (a26, r27, n28) (RN P))))))))))))))))))))))) ∧ (¬ 8 ≤ l1 → (tyK l0 = (0, 11) ∧ l0 < N ∧ ∃ q29, r l0 12 = .ref q29 ∧ (tyK l0 = (0, 11) ∧ l0 < N ∧ ∃ q30, r l0 11 = .ref q30 ∧ ((tyK q30).1 = 1 ∧ q30 < N ∧ vp_in l1 (tyK q30).2 ∧ ((tyK q29).1 = 1 ∧ q29 < N ∧ vp_in l1 (tyK q29).2 ∧ ∀ a31, a31 = u2 a q29 (l1 : Int32).toNatClampNeg (a q30 (l1 : Int32).toNatClampNeg) → E G MX12_stands (d + 1) C S 2 [.ref l0, .int (l1 + 1)] [] (a31, r, N) (RN P)))))))) : E G MX12_stands (d + 1) C S 2 [.ref l0, .int l1] [] (a, r, N) (RN P) := T_X12_stands_2 _ _ _ hs
set_option maxRecDepth 100000 in
theorem T_X12_stands_105 {G : GE} {d C S : Nat} {P : KN} : Snd G MX12_stands (d + 1) C S 105 (RN P) (s_iload 1 (s_iconst 42 (s_ic_ge (s_iconst 0 (s_istore 1 (fun L st h => E G MX12_stands (d + 1) C S 136 (msk [true, true] L) st h (RN P)))) (s_aload 0 (s_getR 11 33 (s_iload 1 (s_iload 1 (s_iconst 8 (s_ic_ge (s_iconst 0 (s_iastore (s_iinc 1 1 (fun L st h => E G MX12_stands (d + 1) C S 105 (msk [true, true] L) st h (RN P))))) (s_iconst (-1) (s_iastore (s_iinc 1 1 (fun L st h => E G MX12_stands (d + 1) C S 105 (msk [true, true] L) st h (RN P)))))))))))))) := (e_iload_n dX12_stands_105 rfl (e_bipush (v := 42) dX12_stands_106 (by decide) (e_ic_ge (tgt := 134) dX12_stands_108 (by decide) (e_iconst (v := 0) dX12_stands_134 (by decide) (e_istore_n dX12_stands_135 rfl (by decide) (e_msk [true, true]))) (e_aload_n dX12_stands_111 rfl (e_getR rfl cl_11 (by decide) rfl q_1597 dX12_stands_112 (e_iload_n dX12_stands_115 rfl (e_iload_n dX12_stands_116 rfl (e_bipush (v := 8) dX12_stands_117 (by decide) (e_ic_ge (tgt := 126) dX12_stands_119 (by decide) (e_iconst (v := 0) dX12_stands_126 (by decide) (e_iastore dX12_stands_127 (e_iinc (v := 1) dX12_stands_128 (by decide) (by decide) (e_goto (tgt := 105) dX12_stands_131 (by decide) (e_msk [true, true]))))) (e_iconst (v := (-1)) dX12_stands_122 (by decide) (e_goto (tgt := 127) dX12_stands_123 (by decide) (e_iastore dX12_stands_127 (e_iinc (v := 1) dX12_stands_128 (by decide) (by decide) (e_goto (tgt := 105) dX12_stands_131 (by decide) (e_msk [true, true])))))))))))))))
set_option maxRecDepth 100000 in
theorem V_X12_stands_105 {G : GE} {d C S : Nat} {P : KN} {a : Nat → Nat → Int32} {r : Nat → Nat → Value} {N : Nat} {l0 : Nat} {l1 : Int32} (hs : ((42 ≤ l1 → E G MX12_stands (d + 1) C S 136 [.ref l0, .int 0] [] (a, r, N) (RN P)) ∧ (¬ 42 ≤ l1 → (tyK l0 = (0, 11) ∧ l0 < N ∧ ∃ q1, r l0 33 = .ref q1 ∧ ((8 ≤ l1 → ((tyK q1).1 = 1 ∧ q1 < N ∧ vp_in l1 (tyK q1).2 ∧ ∀ a2, a2 = u2 a q1 (l1 : Int32).toNatClampNeg 0 → E G MX12_stands (d + 1) C S 105 [.ref l0, .int (l1 + 1)] [] (a2, r, N) (RN P))) ∧ (¬ 8 ≤ l1 → ((tyK q1).1 = 1 ∧ q1 < N ∧ vp_in l1 (tyK q1).2 ∧ ∀ a3, a3 = u2 a q1 (l1 : Int32).toNatClampNeg (-1) → E G MX12_stands (d + 1) C S 105 [.ref l0, .int (l1 + 1)] [] (a3, r, N) (RN P)))))))) : E G MX12_stands (d + 1) C S 105 [.ref l0, .int l1] [] (a, r, N) (RN P) := T_X12_stands_105 _ _ _ hs
set_option maxRecDepth 100000 in
theorem T_X12_stands_136 {G : GE} {d C S : Nat} {P : KN} : Snd G MX12_stands (d + 1) C S 136 (RN P) (s_iload 1 (s_aload 0 (s_getR 11 12 (s_iconst 1 (s_iaload (s_ic_ge (s_aload 0 (s_iconst 0 (s_putI 11 23 (s_aload 0 (s_iconst 0 (s_putI 11 38 (s_aload 0 (s_iconst 0 (s_putI 11 39 (s_aload 0 (s_iconst 0 (s_putI 11 40 (s_aload 0 (s_iconst 0 (s_putI 11 41 (s_return P)))))))))))))))) (s_aload 0 (s_getR 11 33 (s_iconst 24 (s_iload 1 (s_iadd (s_aload 0 (s_getR 11 16 (s_iload 1 (s_aaload (s_iconst 3 (s_iaload (s_iastore (s_iinc 1 1 (fun L st h => E G MX12_stands (d + 1) C S 136 (msk [true, true] L) st h (RN P))))))))))))))))))))) := (e_iload_n dX12_stands_136 rfl (e_aload_n dX12_stands_137 rfl (e_getR rfl cl_11 (by decide) rfl q_1576 dX12_stands_138 (e_iconst (v := 1) dX12_stands_141 (by decide) (e_iaload dX12_stands_142 (e_ic_ge (tgt := 169) dX12_stands_143 (by decide) (e_aload_n dX12_stands_169 rfl (e_iconst (v := 0) dX12_stands_170 (by decide) (e_putI rfl cl_11 (by decide) rfl rfl rfl q_1587 dX12_stands_171 (e_aload_n dX12_stands_174 rfl (e_iconst (v := 0) dX12_stands_175 (by decide) (e_putI rfl cl_11 (by decide) rfl rfl rfl q_1602 dX12_stands_176 (e_aload_n dX12_stands_179 rfl (e_iconst (v := 0) dX12_stands_180 (by decide) (e_putI rfl cl_11 (by decide) rfl rfl rfl q_1603 dX12_stands_181 (e_aload_n dX12_stands_184 rfl (e_iconst (v := 0) dX12_stands_185 (by decide) (e_putI rfl cl_11 (by decide) rfl rfl rfl q_1604 dX12_stands_186 (e_aload_n dX12_stands_189 rfl (e_iconst (v := 0) dX12_stands_190 (by decide) (e_putI rfl cl_11 (by decide) rfl rfl rfl q_1605 dX12_stands_191 (e_return rfl dX12_stands_194)))))))))))))))) (e_aload_n dX12_stands_146 rfl (e_getR rfl cl_11 (by decide) rfl q_1597 dX12_stands_147 (e_bipush (v := 24) dX12_stands_150 (by decide) (e_iload_n dX12_stands_152 rfl (e_iadd dX12_stands_153 (e_aload_n dX12_stands_154 rfl (e_getR rfl cl_11 (by decide) rfl q_1580 dX12_stands_155 (e_iload_n dX12_stands_158 rfl (e_aaload dX12_stands_159 (e_iconst (v := 3) dX12_stands_160 (by decide) (e_iaload dX12_stands_161 (e_iastore dX12_stands_162 (e_iinc (v := 1) dX12_stands_163 (by decide) (by decide) (e_goto (tgt := 136) dX12_stands_166 (by decide) (e_msk [true, true])))))))))))))))))))))
set_option maxRecDepth 100000 in
theorem V_X12_stands_136 {G : GE} {d C S : Nat} {P : KN} {a : Nat → Nat → Int32} {r : Nat → Nat → Value} {N : Nat} {l0 : Nat} {l1 : Int32} (hs : (tyK l0 = (0, 11) ∧ l0 < N ∧ ∃ q1, r l0 12 = .ref q1 ∧ ((tyK q1).1 = 1 ∧ q1 < N ∧ vp_in 1 (tyK q1).2 ∧ (((a q1 (1 : Int32).toNatClampNeg) ≤ l1 → (tyK l0 = (0, 11) ∧ l0 < N ∧ ∀ a2, a2 = u2 a l0 23 0 → (tyK l0 = (0, 11) ∧ l0 < N ∧ ∀ a3, a3 = u2 a2 l0 38 0 → (tyK l0 = (0, 11) ∧ l0 < N ∧ ∀ a4, a4 = u2 a3 l0 39 0 → (tyK l0 = (0, 11) ∧ l0 < N ∧ ∀ a5, a5 = u2 a4 l0 40 0 → (tyK l0 = (0, 11) ∧ l0 < N ∧ ∀ a6, a6 = u2 a5 l0 41 0 → P a6 r N)))))) ∧ (¬ (a q1 (1 : Int32).toNatClampNeg) ≤ l1 → (tyK l0 = (0, 11) ∧ l0 < N ∧ ∃ q7, r l0 33 = .ref q7 ∧ (tyK l0 = (0, 11) ∧ l0 < N ∧ ∃ q8, r l0 16 = .ref q8 ∧ ((tyK q8).1 = 3 ∧ q8 < N ∧ vp_in l1 (tyK q8).2 ∧ ((tyK (q8 + 1 + (l1 : Int32).toNatClampNeg)).1 = 1 ∧ (q8 + 1 + (l1 : Int32).toNatClampNeg) < N ∧ vp_in 3 (tyK (q8 + 1 + (l1 : Int32).toNatClampNeg)).2 ∧ ((tyK q7).1 = 1 ∧ q7 < N ∧ vp_in ((24 : Int32) + l1) (tyK q7).2 ∧ ∀ a9, a9 = u2 a q7 (((24 : Int32) + l1) : Int32).toNatClampNeg (a (q8 + 1 + (l1 : Int32).toNatClampNeg) (3 : Int32).toNatClampNeg) → E G MX12_stands (d + 1) C S 136 [.ref l0, .int (l1 + 1)] [] (a9, r, N) (RN P))))))))))) : E G MX12_stands (d + 1) C S 136 [.ref l0, .int l1] [] (a, r, N) (RN P) := T_X12_stands_136 _ _ _ hs
theorem dX12_notes_0 : decode cX12_notes 0 = .ok (.aload_n 0, 1) := by decide +kernel
theorem dX12_notes_1 : decode cX12_notes 1 = .ok (.getfield 131, 3) := by decide +kernel
theorem dX12_notes_4 : decode cX12_notes 4 = .ok (.ifCond .eq 4, 3) := by decide +kernel
theorem dX12_notes_7 : decode cX12_notes 7 = .ok (.return_, 1) := by decide +kernel
theorem dX12_notes_8 : decode cX12_notes 8 = .ok (.aload_n 0, 1) := by decide +kernel
theorem dX12_notes_9 : decode cX12_notes 9 = .ok (.getfield 61, 3) := by decide +kernel
theorem dX12_notes_12 : decode cX12_notes 12 = .ok (.aload_n 0, 1) := by decide +kernel
theorem dX12_notes_13 : decode cX12_notes 13 = .ok (.getfield 230, 3) := by decide +kernel
theorem dX12_notes_16 : decode cX12_notes 16 = .ok (.aaload, 1) := by decide +kernel
theorem dX12_notes_17 : decode cX12_notes 17 = .ok (.iconst 0, 1) := by decide +kernel
theorem dX12_notes_18 : decode cX12_notes 18 = .ok (.iload_n 1, 1) := by decide +kernel
theorem dX12_notes_19 : decode cX12_notes 19 = .ok (.iastore, 1) := by decide +kernel
theorem dX12_notes_20 : decode cX12_notes 20 = .ok (.aload_n 0, 1) := by decide +kernel
theorem dX12_notes_21 : decode cX12_notes 21 = .ok (.getfield 61, 3) := by decide +kernel
theorem dX12_notes_24 : decode cX12_notes 24 = .ok (.aload_n 0, 1) := by decide +kernel
theorem dX12_notes_25 : decode cX12_notes 25 = .ok (.getfield 230, 3) := by decide +kernel
theorem dX12_notes_28 : decode cX12_notes 28 = .ok (.aaload, 1) := by decide +kernel
theorem dX12_notes_29 : decode cX12_notes 29 = .ok (.iconst 1, 1) := by decide +kernel
theorem dX12_notes_30 : decode cX12_notes 30 = .ok (.iload_n 2, 1) := by decide +kernel
theorem dX12_notes_31 : decode cX12_notes 31 = .ok (.iastore, 1) := by decide +kernel
theorem dX12_notes_32 : decode cX12_notes 32 = .ok (.aload_n 0, 1) := by decide +kernel
theorem dX12_notes_33 : decode cX12_notes 33 = .ok (.dup, 1) := by decide +kernel
theorem dX12_notes_34 : decode cX12_notes 34 = .ok (.getfield 230, 3) := by decide +kernel
theorem dX12_notes_37 : decode cX12_notes 37 = .ok (.iconst 1, 1) := by decide +kernel
theorem dX12_notes_38 : decode cX12_notes 38 = .ok (.iadd, 1) := by decide +kernel
theorem dX12_notes_39 : decode cX12_notes 39 = .ok (.putfield 230, 3) := by decide +kernel
theorem dX12_notes_42 : decode cX12_notes 42 = .ok (.return_, 1) := by decide +kernel
set_option maxRecDepth 100000 in
theorem T_X12_notes_0 {G : GE} {d C S : Nat} {P : KN} : Snd G MX12_notes d C S 0 (RN P) (s_aload 0 (s_getI 11 5 (s_if_eq (s_aload 0 (s_getR 11 26 (s_aload 0 (s_getI 11 24 (s_aaload (s_iconst 0 (s_iload 1 (s_iastore (s_aload 0 (s_getR 11 26 (s_aload 0 (s_getI 11 24 (s_aaload (s_iconst 1 (s_iload 2 (s_iastore (s_aload 0 (s_dup (s_getI 11 24 (s_iconst 1 (s_iadd (s_putI 11 24 (s_return P))))))))))))))))))))))) (s_return P)))) := (e_aload_n dX12_notes_0 rfl (e_getI rfl cl_11 (by decide) rfl q_1569 dX12_notes_1 (e_if_eq (tgt := 8) dX12_notes_4 (by decide) (e_aload_n dX12_notes_8 rfl (e_getR rfl cl_11 (by decide) rfl q_1590 dX12_notes_9 (e_aload_n dX12_notes_12 rfl (e_getI rfl cl_11 (by decide) rfl q_1588 dX12_notes_13 (e_aaload dX12_notes_16 (e_iconst (v := 0) dX12_notes_17 (by decide) (e_iload_n dX12_notes_18 rfl (e_iastore dX12_notes_19 (e_aload_n dX12_notes_20 rfl (e_getR rfl cl_11 (by decide) rfl q_1590 dX12_notes_21 (e_aload_n dX12_notes_24 rfl (e_getI rfl cl_11 (by decide) rfl q_1588 dX12_notes_25 (e_aaload dX12_notes_28 (e_iconst (v := 1) dX12_notes_29 (by decide) (e_iload_n dX12_notes_30 rfl (e_iastore dX12_notes_31 (e_aload_n dX12_notes_32 rfl (e_dup dX12_notes_33 (e_getI rfl cl_11 (by decide) rfl q_1588 dX12_notes_34 (e_iconst (v := 1) dX12_notes_37 (by decide) (e_iadd dX12_notes_38 (e_putI rfl cl_11 (by decide) rfl rfl rfl q_1588 dX12_notes_39 (e_return rfl dX12_notes_42))))))))))))))))))))))) (e_return rfl dX12_notes_7))))
set_option maxRecDepth 100000 in
theorem V_X12_notes_0 {G : GE} {d : Nat} {P : KN} {a : Nat → Nat → Int32} {r : Nat → Nat → Value} {N : Nat} {l0 : Nat} {l1 : Int32} {l2 : Int32} (hs : (tyK l0 = (0, 11) ∧ l0 < N ∧ (((a l0 5) = 0 → (tyK l0 = (0, 11) ∧ l0 < N ∧ ∃ q1, r l0 26 = .ref q1 ∧ (tyK l0 = (0, 11) ∧ l0 < N ∧ ((tyK q1).1 = 3 ∧ q1 < N ∧ vp_in (a l0 24) (tyK q1).2 ∧ ((tyK (q1 + 1 + ((a l0 24) : Int32).toNatClampNeg)).1 = 1 ∧ (q1 + 1 + ((a l0 24) : Int32).toNatClampNeg) < N ∧ vp_in 0 (tyK (q1 + 1 + ((a l0 24) : Int32).toNatClampNeg)).2 ∧ ∀ a2, a2 = u2 a (q1 + 1 + ((a l0 24) : Int32).toNatClampNeg) (0 : Int32).toNatClampNeg l1 → (tyK l0 = (0, 11) ∧ l0 < N ∧ ∃ q3, r l0 26 = .ref q3 ∧ (tyK l0 = (0, 11) ∧ l0 < N ∧ ((tyK q3).1 = 3 ∧ q3 < N ∧ vp_in (a2 l0 24) (tyK q3).2 ∧ ((tyK (q3 + 1 + ((a2 l0 24) : Int32).toNatClampNeg)).1 = 1 ∧ (q3 + 1 + ((a2 l0 24) : Int32).toNatClampNeg) < N ∧ vp_in 1 (tyK (q3 + 1 + ((a2 l0 24) : Int32).toNatClampNeg)).2 ∧ ∀ a4, a4 = u2 a2 (q3 + 1 + ((a2 l0 24) : Int32).toNatClampNeg) (1 : Int32).toNatClampNeg l2 → (tyK l0 = (0, 11) ∧ l0 < N ∧ (tyK l0 = (0, 11) ∧ l0 < N ∧ ∀ a5, a5 = u2 a4 l0 24 ((a4 l0 24) + 1) → P a5 r N))))))))))) ∧ (¬ (a l0 5) = 0 → P a r N)))) : Sp G d 0 0 MX12_notes [.ref l0, .int l1, .int l2] (a, r, N) (RN P) := Sp.mk (mc := 0) (ms := 0) [.ref l0, .int l1, .int l2] rfl rfl rfl rfl (T_X12_notes_0 (C := 0) (S := 0) _ _ _ hs)
theorem dX12_opens_0 : decode cX12_opens 0 = .ok (.aload_n 0, 1) := by decide +kernel
theorem dX12_opens_1 : decode cX12_opens 1 = .ok (.getfield 131, 3) := by decide +kernel
theorem dX12_opens_4 : decode cX12_opens 4 = .ok (.ifCond .ne 24, 3) := by decide +kernel
theorem dX12_opens_7 : decode cX12_opens 7 = .ok (.aload_n 0, 1) := by decide +kernel
theorem dX12_opens_8 : decode cX12_opens 8 = .ok (.getfield 180, 3) := by decide +kernel
theorem dX12_opens_11 : decode cX12_opens 11 = .ok (.bipush 6, 2) := by decide +kernel
theorem dX12_opens_13 : decode cX12_opens 13 = .ok (.if_icmp .ne 15, 3) := by decide +kernel
theorem dX12_opens_16 : decode cX12_opens 16 = .ok (.aload_n 0, 1) := by decide +kernel
theorem dX12_opens_17 : decode cX12_opens 17 = .ok (.iconst 3, 1) := by decide +kernel
theorem dX12_opens_18 : decode cX12_opens 18 = .ok (.aload_n 0, 1) := by decide +kernel
theorem dX12_opens_19 : decode cX12_opens 19 = .ok (.getfield 124, 3) := by decide +kernel
theorem dX12_opens_22 : decode cX12_opens 22 = .ok (.invokevirtual 144, 3) := by decide +kernel
theorem dX12_opens_25 : decode cX12_opens 25 = .ok (.goto 20, 3) := by decide +kernel
theorem dX12_opens_28 : decode cX12_opens 28 = .ok (.aload_n 0, 1) := by decide +kernel
theorem dX12_opens_29 : decode cX12_opens 29 = .ok (.getfield 131, 3) := by decide +kernel
theorem dX12_opens_32 : decode cX12_opens 32 = .ok (.ifCond .ne 13, 3) := by decide +kernel
theorem dX12_opens_35 : decode cX12_opens 35 = .ok (.aload_n 0, 1) := by decide +kernel
theorem dX12_opens_36 : decode cX12_opens 36 = .ok (.dup, 1) := by decide +kernel
theorem dX12_opens_37 : decode cX12_opens 37 = .ok (.getfield 180, 3) := by decide +kernel
theorem dX12_opens_40 : decode cX12_opens 40 = .ok (.iconst 1, 1) := by decide +kernel
theorem dX12_opens_41 : decode cX12_opens 41 = .ok (.iadd, 1) := by decide +kernel
theorem dX12_opens_42 : decode cX12_opens 42 = .ok (.putfield 180, 3) := by decide +kernel
theorem dX12_opens_45 : decode cX12_opens 45 = .ok (.aload_n 0, 1) := by decide +kernel
theorem dX12_opens_46 : decode cX12_opens 46 = .ok (.getfield 131, 3) := by decide +kernel
theorem dX12_opens_49 : decode cX12_opens 49 = .ok (.ifCond .ne 7, 3) := by decide +kernel
theorem dX12_opens_52 : decode cX12_opens 52 = .ok (.iconst 1, 1) := by decide +kernel
theorem dX12_opens_53 : decode cX12_opens 53 = .ok (.goto 4, 3) := by decide +kernel
theorem dX12_opens_56 : decode cX12_opens 56 = .ok (.iconst 0, 1) := by decide +kernel
theorem dX12_opens_57 : decode cX12_opens 57 = .ok (.ireturn, 1) := by decide +kernel
set_option maxRecDepth 100000 in
theorem T_X12_opens_0 {G : GE} {d C S : Nat} {P : KI} : Snd G MX12_opens (d + 1) C S 0 (RI P) (s_aload 0 (s_getI 11 5 (s_if_ne (s_aload 0 (s_getI 11 5 (s_if_ne (s_aload 0 (s_getI 11 5 (s_if_ne (s_iconst 0 (s_zreturn P)) (s_iconst 1 (s_zreturn P))))) (s_aload 0 (s_dup (s_getI 11 8 (s_iconst 1 (s_iadd (s_putI 11 8 (s_aload 0 (s_getI 11 5 (s_if_ne (s_iconst 0 (s_zreturn P)) (s_iconst 1 (s_zreturn P)))))))))))))) (s_aload 0 (s_getI 11 8 (s_iconst 6 (s_ic_ne (s_aload 0 (s_getI 11 5 (s_if_ne (s_aload 0 (s_getI 11 5 (s_if_ne (s_iconst 0 (s_zreturn P)) (s_iconst 1 (s_zreturn P))))) (s_aload 0 (s_dup (s_getI 11 8 (s_iconst 1 (s_iadd (s_putI 11 8 (s_aload 0 (s_getI 11 5 (s_if_ne (s_iconst 0 (s_zreturn P)) (s_iconst 1 (s_zreturn P)))))))))))))) (s_aload 0 (s_iconst 3 (s_aload 0 (s_getI 11 4 (s_callV G d MX12_wrong 2 11 (s_aload 0 (s_getI 11 5 (s_if_ne (s_iconst 0 (s_zreturn P)) (s_iconst 1 (s_zreturn P))))))))))))))))) := (e_aload_n dX12_opens_0 rfl (e_getI rfl cl_11 (by decide) rfl q_1569 dX12_opens_1 (e_if_ne (tgt := 28) dX12_opens_4 (by decide) (e_aload_n dX12_opens_28 rfl (e_getI rfl cl_11 (by decide) rfl q_1569 dX12_opens_29 (e_if_ne (tgt := 45) dX12_opens_32 (by decide) (e_aload_n dX12_opens_45 rfl (e_getI rfl cl_11 (by decide) rfl q_1569 dX12_opens_46 (e_if_ne (tgt := 56) dX12_opens_49 (by decide) (e_iconst (v := 0) dX12_opens_56 (by decide) (e_zreturn rfl dX12_opens_57)) (e_iconst (v := 1) dX12_opens_52 (by decide) (e_goto (tgt := 57) dX12_opens_53 (by decide) (e_zreturn rfl dX12_opens_57)))))) (e_aload_n dX12_opens_35 rfl (e_dup dX12_opens_36 (e_getI rfl cl_11 (by decide) rfl q_1572 dX12_opens_37 (e_iconst (v := 1) dX12_opens_40 (by decide) (e_iadd dX12_opens_41 (e_putI rfl cl_11 (by decide) rfl rfl rfl q_1572 dX12_opens_42 (e_aload_n dX12_opens_45 rfl (e_getI rfl cl_11 (by decide) rfl q_1569 dX12_opens_46 (e_if_ne (tgt := 56) dX12_opens_49 (by decide) (e_iconst (v := 0) dX12_opens_56 (by decide) (e_zreturn rfl dX12_opens_57)) (e_iconst (v := 1) dX12_opens_52 (by decide) (e_goto (tgt := 57) dX12_opens_53 (by decide) (e_zreturn rfl dX12_opens_57))))))))))))))) (e_aload_n dX12_opens_7 rfl (e_getI rfl cl_11 (by decide) rfl q_1572 dX12_opens_8 (e_bipush (v := 6) dX12_opens_11 (by decide) (e_ic_ne (tgt := 28) dX12_opens_13 (by decide) (e_aload_n dX12_opens_28 rfl (e_getI rfl cl_11 (by decide) rfl q_1569 dX12_opens_29 (e_if_ne (tgt := 45) dX12_opens_32 (by decide) (e_aload_n dX12_opens_45 rfl (e_getI rfl cl_11 (by decide) rfl q_1569 dX12_opens_46 (e_if_ne (tgt := 56) dX12_opens_49 (by decide) (e_iconst (v := 0) dX12_opens_56 (by decide) (e_zreturn rfl dX12_opens_57)) (e_iconst (v := 1) dX12_opens_52 (by decide) (e_goto (tgt := 57) dX12_opens_53 (by decide) (e_zreturn rfl dX12_opens_57)))))) (e_aload_n dX12_opens_35 rfl (e_dup dX12_opens_36 (e_getI rfl cl_11 (by decide) rfl q_1572 dX12_opens_37 (e_iconst (v := 1) dX12_opens_40 (by decide) (e_iadd dX12_opens_41 (e_putI rfl cl_11 (by decide) rfl rfl rfl q_1572 dX12_opens_42 (e_aload_n dX12_opens_45 rfl (e_getI rfl cl_11 (by decide) rfl q_1569 dX12_opens_46 (e_if_ne (tgt := 56) dX12_opens_49 (by decide) (e_iconst (v := 0) dX12_opens_56 (by decide) (e_zreturn rfl dX12_opens_57)) (e_iconst (v := 1) dX12_opens_52 (by decide) (e_goto (tgt := 57) dX12_opens_53 (by decide) (e_zreturn rfl dX12_opens_57))))))))))))))) (e_aload_n dX12_opens_16 rfl (e_iconst (v := 3) dX12_opens_17 (by decide) (e_aload_n dX12_opens_18 rfl (e_getI rfl cl_11 (by decide) rfl q_1568 dX12_opens_19 (e_callV cl_11 cal_X12_wrong q_1783 q_1785 q_61 dX12_opens_22 (e_goto (tgt := 45) dX12_opens_25 (by decide) (e_aload_n dX12_opens_45 rfl (e_getI rfl cl_11 (by decide) rfl q_1569 dX12_opens_46 (e_if_ne (tgt := 56) dX12_opens_49 (by decide) (e_iconst (v := 0) dX12_opens_56 (by decide) (e_zreturn rfl dX12_opens_57)) (e_iconst (v := 1) dX12_opens_52 (by decide) (e_goto (tgt := 57) dX12_opens_53 (by decide) (e_zreturn rfl dX12_opens_57)))))))))))))))))))
set_option maxRecDepth 100000 in
theorem V_X12_opens_0 {G : GE} {d : Nat} {P : KI} {a : Nat → Nat → Int32} {r : Nat → Nat → Value} {N : Nat} {l0 : Nat} (hs : (tyK l0 = (0, 11) ∧ l0 < N ∧ ((¬ (a l0 5) = 0 → (tyK l0 = (0, 11) ∧ l0 < N ∧ ((¬ (a l0 5) = 0 → (tyK l0 = (0, 11) ∧ l0 < N ∧ ((¬ (a l0 5) = 0 → (bz 0 ∧ P 0 a r N)) ∧ ((a l0 5) = 0 → (bz 1 ∧ P 1 a r N))))) ∧ ((a l0 5) = 0 → (tyK l0 = (0, 11) ∧ l0 < N ∧ (tyK l0 = (0, 11) ∧ l0 < N ∧ ∀ a1, a1 = u2 a l0 8 ((a l0 8) + 1) → (tyK l0 = (0, 11) ∧ l0 < N ∧ ((¬ (a1 l0 5) = 0 → (bz 0 ∧ P 0 a1 r N)) ∧ ((a1 l0 5) = 0 → (bz 1 ∧ P 1 a1 r N)))))))))) ∧ ((a l0 5) = 0 → (tyK l0 = (0, 11) ∧ l0 < N ∧ ((¬ (a l0 8) = 6 → (tyK l0 = (0, 11) ∧ l0 < N ∧ ((¬ (a l0 5) = 0 → (tyK l0 = (0, 11) ∧ l0 < N ∧ ((¬ (a l0 5) = 0 → (bz 0 ∧ P 0 a r N)) ∧ ((a l0 5) = 0 → (bz 1 ∧ P 1 a r N))))) ∧ ((a l0 5) = 0 → (tyK l0 = (0, 11) ∧ l0 < N ∧ (tyK l0 = (0, 11) ∧ l0 < N ∧ ∀ a2, a2 = u2 a l0 8 ((a l0 8) + 1) → (tyK l0 = (0, 11) ∧ l0 < N ∧ ((¬ (a2 l0 5) = 0 → (bz 0 ∧ P 0 a2 r N)) ∧ ((a2 l0 5) = 0 → (bz 1 ∧ P 1 a2 r N)))))))))) ∧ ((a l0 8) = 6 → (tyK l0 = (0, 11) ∧ l0 < N ∧ (tyK l0 = (0, 11) ∧ l0 < N ∧ Sp G d 0 0 MX12_wrong [.ref l0, .int 3, .int (a l0 4)] (a, r, N) (RN fun a3 r4 n5 => (tyK l0 = (0, 11) ∧ l0 < n5 ∧ ((¬ (a3 l0 5) = 0 → (bz 0 ∧ P 0 a3 r4 n5)) ∧ ((a3 l0 5) = 0 → (bz 1 ∧ P 1 a3 r4 n5)))))))))))))) : Sp G (d + 1) 0 0 MX12_opens [.ref l0] (a, r, N) (RI P) := Sp.mk (mc := 0) (ms := 0) [.ref l0] rfl rfl rfl rfl (T_X12_opens_0 (C := 0) (S := 0) _ _ _ hs)
theorem dX12_sum_0 : decode cX12_sum 0 = .ok (.aload_n 0, 1) := by decide +kernel
theorem dX12_sum_1 : decode cX12_sum 1 = .ok (.invokevirtual 233, 3) := by decide +kernel
theorem dX12_sum_4 : decode cX12_sum 4 = .ok (.aload_n 0, 1) := by decide +kernel
theorem dX12_sum_5 : decode cX12_sum 5 = .ok (.getfield 131, 3) := by decide +kernel
theorem dX12_sum_8 : decode cX12_sum 8 = .ok (.ifCond .ne 50, 3) := by decide +kernel
theorem dX12_sum_11 : decode cX12_sum 11 = .ok (.aload_n 0, 1) := by decide +kernel
theorem dX12_sum_12 : decode cX12_sum 12 = .ok (.bipush 43, 2) := by decide +kernel
theorem dX12_sum_14 : decode cX12_sum 14 = .ok (.invokevirtual 236, 3) := by decide +kernel
theorem dX12_sum_17 : decode cX12_sum 17 = .ok (.ifCond .eq 7, 3) := by decide +kernel
theorem dX12_sum_20 : decode cX12_sum 20 = .ok (.iconst 2, 1) := by decide +kernel
theorem dX12_sum_21 : decode cX12_sum 21 = .ok (.goto 17, 3) := by decide +kernel
theorem dX12_sum_24 : decode cX12_sum 24 = .ok (.aload_n 0, 1) := by decide +kernel
theorem dX12_sum_25 : decode cX12_sum 25 = .ok (.bipush 45, 2) := by decide +kernel
theorem dX12_sum_27 : decode cX12_sum 27 = .ok (.invokevirtual 236, 3) := by decide +kernel
theorem dX12_sum_30 : decode cX12_sum 30 = .ok (.ifCond .eq 7, 3) := by decide +kernel
theorem dX12_sum_33 : decode cX12_sum 33 = .ok (.iconst 3, 1) := by decide +kernel
theorem dX12_sum_34 : decode cX12_sum 34 = .ok (.goto 4, 3) := by decide +kernel
theorem dX12_sum_37 : decode cX12_sum 37 = .ok (.iconst (-1), 1) := by decide +kernel
theorem dX12_sum_38 : decode cX12_sum 38 = .ok (.istore_n 1, 1) := by decide +kernel
theorem dX12_sum_39 : decode cX12_sum 39 = .ok (.iload_n 1, 1) := by decide +kernel
theorem dX12_sum_40 : decode cX12_sum 40 = .ok (.iconst (-1), 1) := by decide +kernel
theorem dX12_sum_41 : decode cX12_sum 41 = .ok (.if_icmp .ne 4, 3) := by decide +kernel
theorem dX12_sum_44 : decode cX12_sum 44 = .ok (.return_, 1) := by decide +kernel
theorem dX12_sum_45 : decode cX12_sum 45 = .ok (.aload_n 0, 1) := by decide +kernel
theorem dX12_sum_46 : decode cX12_sum 46 = .ok (.invokevirtual 233, 3) := by decide +kernel
theorem dX12_sum_49 : decode cX12_sum 49 = .ok (.aload_n 0, 1) := by decide +kernel
theorem dX12_sum_50 : decode cX12_sum 50 = .ok (.iload_n 1, 1) := by decide +kernel
theorem dX12_sum_51 : decode cX12_sum 51 = .ok (.iconst 0, 1) := by decide +kernel
theorem dX12_sum_52 : decode cX12_sum 52 = .ok (.invokevirtual 239, 3) := by decide +kernel
theorem dX12_sum_55 : decode cX12_sum 55 = .ok (.goto (-51), 3) := by decide +kernel
theorem dX12_sum_58 : decode cX12_sum 58 = .ok (.return_, 1) := by decide +kernel
set_option maxRecDepth 100000 in
theorem T_X12_sum_0 {G : GE} {d C S : Nat} {P : KN} : Snd G MX12_sum (d + 1) C S 0 (RN P) (s_aload 0 (s_callV G d MX12_product 0 11 (fun L st h => E G MX12_sum (d + 1) C S 4 (msk [true, false] L) st h (RN P)))) := (e_aload_n dX12_sum_0 rfl (e_callV cl_11 cal_X12_product q_1819 q_1821 q_68 dX12_sum_1 (e_msk [true, false])))
set_option maxRecDepth 100000 in
theorem V_X12_sum_0 {G : GE} {d : Nat} {P : KN} {a : Nat → Nat → Int32} {r : Nat → Nat → Value} {N : Nat} {l0 : Nat} (hs : (tyK l0 = (0, 11) ∧ l0 < N ∧ Sp G d 0 0 MX12_product [.ref l0] (a, r, N) (RN fun a1 r2 n3 => E G MX12_sum (d + 1) 0 0 4 [.ref l0, .null] [] (a1, r2, n3) (RN P)))) : Sp G (d + 1) 0 0 MX12_sum [.ref l0] (a, r, N) (RN P) := Sp.mk (mc := 0) (ms := 0) [.ref l0, .null] rfl rfl rfl rfl (T_X12_sum_0 (C := 0) (S := 0) _ _ _ hs)
set_option maxRecDepth 100000 in
theorem T_X12_sum_4 {G : GE} {d C S : Nat} {P : KN} : Snd G MX12_sum (d + 1) C S 4 (RN P) (s_aload 0 (s_getI 11 5 (s_if_ne (s_return P) (s_aload 0 (s_iconst 43 (s_callV G d MX12_takesSign 1 11 (s_if_eq (s_aload 0 (s_iconst 45 (s_callV G d MX12_takesSign 1 11 (s_if_eq (s_iconst (-1) (s_istore 1 (s_iload 1 (s_iconst (-1) (s_ic_ne (s_aload 0 (s_callV G d MX12_product 0 11 (s_aload 0 (s_iload 1 (s_iconst 0 (s_callV G d MX12_notes 2 11 (fun L st h => E G MX12_sum (d + 1) C S 4 (msk [true, false] L) st h (RN P)))))))) (s_return P)))))) (s_iconst 3 (s_istore 1 (s_iload 1 (s_iconst (-1) (s_ic_ne (s_aload 0 (s_callV G d MX12_product 0 11 (s_aload 0 (s_iload 1 (s_iconst 0 (s_callV G d MX12_notes 2 11 (fun L st h => E G MX12_sum (d + 1) C S 4 (msk [true, false] L) st h (RN P)))))))) (s_return P)))))))))) (s_iconst 2 (s_istore 1 (s_iload 1 (s_iconst (-1) (s_ic_ne (s_aload 0 (s_callV G d MX12_product 0 11 (s_aload 0 (s_iload 1 (s_iconst 0 (s_callV G d MX12_notes 2 11 (fun L st h => E G MX12_sum (d + 1) C S 4 (msk [true, false] L) st h (RN P)))))))) (s_return P))))))))))))) := (e_aload_n dX12_sum_4 rfl (e_getI rfl cl_11 (by decide) rfl q_1569 dX12_sum_5 (e_if_ne (tgt := 58) dX12_sum_8 (by decide) (e_return rfl dX12_sum_58) (e_aload_n dX12_sum_11 rfl (e_bipush (v := 43) dX12_sum_12 (by decide) (e_callV cl_11 cal_X12_takesSign q_1843 q_1845 q_74 dX12_sum_14 (e_if_eq (tgt := 24) dX12_sum_17 (by decide) (e_aload_n dX12_sum_24 rfl (e_bipush (v := 45) dX12_sum_25 (by decide) (e_callV cl_11 cal_X12_takesSign q_1843 q_1845 q_74 dX12_sum_27 (e_if_eq (tgt := 37) dX12_sum_30 (by decide) (e_iconst (v := (-1)) dX12_sum_37 (by decide) (e_istore_n dX12_sum_38 rfl (by decide) (e_iload_n dX12_sum_39 rfl (e_iconst (v := (-1)) dX12_sum_40 (by decide) (e_ic_ne (tgt := 45) dX12_sum_41 (by decide) (e_aload_n dX12_sum_45 rfl (e_callV cl_11 cal_X12_product q_1819 q_1821 q_68 dX12_sum_46 (e_aload_n dX12_sum_49 rfl (e_iload_n dX12_sum_50 rfl (e_iconst (v := 0) dX12_sum_51 (by decide) (e_callV cl_11 cal_X12_notes q_1831 q_1833 q_71 dX12_sum_52 (e_goto (tgt := 4) dX12_sum_55 (by decide) (e_msk [true, false])))))))) (e_return rfl dX12_sum_44)))))) (e_iconst (v := 3) dX12_sum_33 (by decide) (e_goto (tgt := 38) dX12_sum_34 (by decide) (e_istore_n dX12_sum_38 rfl (by decide) (e_iload_n dX12_sum_39 rfl (e_iconst (v := (-1)) dX12_sum_40 (by decide) (e_ic_ne (tgt := 45) dX12_sum_41 (by decide) (e_aload_n dX12_sum_45 rfl (e_callV cl_11 cal_X12_product q_1819 q_1821 q_68 dX12_sum_46 (e_aload_n dX12_sum_49 rfl (e_iload_n dX12_sum_50 rfl (e_iconst (v := 0) dX12_sum_51 (by decide) (e_callV cl_11 cal_X12_notes q_1831 q_1833 q_71 dX12_sum_52 (e_goto (tgt := 4) dX12_sum_55 (by decide) (e_msk [true, false])))))))) (e_return rfl dX12_sum_44))))))))))) (e_iconst (v := 2) dX12_sum_20 (by decide) (e_goto (tgt := 38) dX12_sum_21 (by decide) (e_istore_n dX12_sum_38 rfl (by decide) (e_iload_n dX12_sum_39 rfl (e_iconst (v := (-1)) dX12_sum_40 (by decide) (e_ic_ne (tgt := 45) dX12_sum_41 (by decide) (e_aload_n dX12_sum_45 rfl (e_callV cl_11 cal_X12_product q_1819 q_1821 q_68 dX12_sum_46 (e_aload_n dX12_sum_49 rfl (e_iload_n dX12_sum_50 rfl (e_iconst (v := 0) dX12_sum_51 (by decide) (e_callV cl_11 cal_X12_notes q_1831 q_1833 q_71 dX12_sum_52 (e_goto (tgt := 4) dX12_sum_55 (by decide) (e_msk [true, false])))))))) (e_return rfl dX12_sum_44))))))))))))))
set_option maxRecDepth 100000 in
theorem V_X12_sum_4 {G : GE} {d C S : Nat} {P : KN} {a : Nat → Nat → Int32} {r : Nat → Nat → Value} {N : Nat} {l0 : Nat} (hs : (tyK l0 = (0, 11) ∧ l0 < N ∧ ((¬ (a l0 5) = 0 → P a r N) ∧ ((a l0 5) = 0 → (tyK l0 = (0, 11) ∧ l0 < N ∧ Sp G d 0 0 MX12_takesSign [.ref l0, .int 43] (a, r, N) (RI fun v4 a1 r2 n3 => ((v4 = 0 → (tyK l0 = (0, 11) ∧ l0 < n3 ∧ Sp G d 0 0 MX12_takesSign [.ref l0, .int 45] (a1, r2, n3) (RI fun v8 a5 r6 n7 => ((v8 = 0 → ((¬ ((-1) : Int32) = (-1) → (tyK l0 = (0, 11) ∧ l0 < n7 ∧ Sp G d 0 0 MX12_product [.ref l0] (a5, r6, n7) (RN fun a9 r10 n11 => (tyK l0 = (0, 11) ∧ l0 < n11 ∧ Sp G d 0 0 MX12_notes [.ref l0, .int (-1), .int 0] (a9, r10, n11) (RN fun a12 r13 n14 => E G MX12_sum (d + 1) C S 4 [.ref l0, .null] [] (a12, r13, n14) (RN P)))))) ∧ (((-1) : Int32) = (-1) → P a5 r6 n7))) ∧ (¬ v8 = 0 → ((¬ (3 : Int32) = (-1) → (tyK l0 = (0, 11) ∧ l0 < n7 ∧ Sp G d 0 0 MX12_product [.ref l0] (a5, r6, n7) (RN fun a15 r16 n17 => (tyK l0 = (0, 11) ∧ l0 < n17 ∧ Sp G d 0 0 MX12_notes [.ref l0, .int 3, .int 0] (a15, r16, n17) (RN fun a18 r19 n20 => E G MX12_sum (d + 1) C S 4 [.ref l0, .null] [] (a18, r19, n20) (RN P)))))) ∧ ((3 : Int32) = (-1) → P a5 r6 n7))))))) ∧ (¬ v4 = 0 → ((¬ (2 : Int32) = (-1) → (tyK l0 = (0, 11) ∧ l0 < n3 ∧ Sp G d 0 0 MX12_product [.ref l0] (a1, r2, n3) (RN fun a21 r22 n23 => (tyK l0 = (0, 11) ∧ l0 < n23 ∧ Sp G d 0 0 MX12_notes [.ref l0, .int 2, .int 0] (a21, r22, n23) (RN fun a24 r25 n26 => E G MX12_sum (d + 1) C S 4 [.ref l0, .null] [] (a24, r25, n26) (RN P)))))) ∧ ((2 : Int32) = (-1) → P a1 r2 n3)))))))))) : E G MX12_sum (d + 1) C S 4 [.ref l0, .null] [] (a, r, N) (RN P) := T_X12_sum_4 _ _ _ hs
theorem dX12_product_0 : decode cX12_product 0 = .ok (.aload_n 0, 1) := by decide +kernel
theorem dX12_product_1 : decode cX12_product 1 = .ok (.invokevirtual 242, 3) := by decide +kernel
theorem dX12_product_4 : decode cX12_product 4 = .ok (.aload_n 0, 1) := by decide +kernel
theorem dX12_product_5 : decode cX12_product 5 = .ok (.getfield 131, 3) := by decide +kernel
theorem dX12_product_8 : decode cX12_product 8 = .ok (.ifCond .ne 50, 3) := by decide +kernel
theorem dX12_product_11 : decode cX12_product 11 = .ok (.aload_n 0, 1) := by decide +kernel
theorem dX12_product_12 : decode cX12_product 12 = .ok (.bipush 42, 2) := by decide +kernel
theorem dX12_product_14 : decode cX12_product 14 = .ok (.invokevirtual 236, 3) := by decide +kernel
theorem dX12_product_17 : decode cX12_product 17 = .ok (.ifCond .eq 7, 3) := by decide +kernel
theorem dX12_product_20 : decode cX12_product 20 = .ok (.iconst 4, 1) := by decide +kernel
theorem dX12_product_21 : decode cX12_product 21 = .ok (.goto 17, 3) := by decide +kernel
theorem dX12_product_24 : decode cX12_product 24 = .ok (.aload_n 0, 1) := by decide +kernel
theorem dX12_product_25 : decode cX12_product 25 = .ok (.bipush 47, 2) := by decide +kernel
theorem dX12_product_27 : decode cX12_product 27 = .ok (.invokevirtual 236, 3) := by decide +kernel
theorem dX12_product_30 : decode cX12_product 30 = .ok (.ifCond .eq 7, 3) := by decide +kernel
theorem dX12_product_33 : decode cX12_product 33 = .ok (.iconst 5, 1) := by decide +kernel
theorem dX12_product_34 : decode cX12_product 34 = .ok (.goto 4, 3) := by decide +kernel
theorem dX12_product_37 : decode cX12_product 37 = .ok (.iconst (-1), 1) := by decide +kernel
theorem dX12_product_38 : decode cX12_product 38 = .ok (.istore_n 1, 1) := by decide +kernel
theorem dX12_product_39 : decode cX12_product 39 = .ok (.iload_n 1, 1) := by decide +kernel
theorem dX12_product_40 : decode cX12_product 40 = .ok (.iconst (-1), 1) := by decide +kernel
theorem dX12_product_41 : decode cX12_product 41 = .ok (.if_icmp .ne 4, 3) := by decide +kernel
theorem dX12_product_44 : decode cX12_product 44 = .ok (.return_, 1) := by decide +kernel
theorem dX12_product_45 : decode cX12_product 45 = .ok (.aload_n 0, 1) := by decide +kernel
theorem dX12_product_46 : decode cX12_product 46 = .ok (.invokevirtual 242, 3) := by decide +kernel
theorem dX12_product_49 : decode cX12_product 49 = .ok (.aload_n 0, 1) := by decide +kernel
theorem dX12_product_50 : decode cX12_product 50 = .ok (.iload_n 1, 1) := by decide +kernel
theorem dX12_product_51 : decode cX12_product 51 = .ok (.iconst 0, 1) := by decide +kernel
theorem dX12_product_52 : decode cX12_product 52 = .ok (.invokevirtual 239, 3) := by decide +kernel
theorem dX12_product_55 : decode cX12_product 55 = .ok (.goto (-51), 3) := by decide +kernel
theorem dX12_product_58 : decode cX12_product 58 = .ok (.return_, 1) := by decide +kernel
set_option maxRecDepth 100000 in
theorem T_X12_product_0 {G : GE} {d C S : Nat} {P : KN} : Snd G MX12_product (d + 1) C S 0 (RN P) (s_aload 0 (s_callV G d MX12_one 0 11 (fun L st h => E G MX12_product (d + 1) C S 4 (msk [true, false] L) st h (RN P)))) := (e_aload_n dX12_product_0 rfl (e_callV cl_11 cal_X12_one q_1823 q_1825 q_69 dX12_product_1 (e_msk [true, false])))
set_option maxRecDepth 100000 in
theorem V_X12_product_0 {G : GE} {d : Nat} {P : KN} {a : Nat → Nat → Int32} {r : Nat → Nat → Value} {N : Nat} {l0 : Nat} (hs : (tyK l0 = (0, 11) ∧ l0 < N ∧ Sp G d 0 0 MX12_one [.ref l0] (a, r, N) (RN fun a1 r2 n3 => E G MX12_product (d + 1) 0 0 4 [.ref l0, .null] [] (a1, r2, n3) (RN P)))) : Sp G (d + 1) 0 0 MX12_product [.ref l0] (a, r, N) (RN P) := Sp.mk (mc := 0) (ms := 0) [.ref l0, .null] rfl rfl rfl rfl (T_X12_product_0 (C := 0) (S := 0) _ _ _ hs)
set_option maxRecDepth 100000 in
theorem T_X12_product_4 {G : GE} {d C S : Nat} {P : KN} : Snd G MX12_product (d + 1) C S 4 (RN P) (s_aload 0 (s_getI 11 5 (s_if_ne (s_return P) (s_aload 0 (s_iconst 42 (s_callV G d MX12_takesSign 1 11 (s_if_eq (s_aload 0 (s_iconst 47 (s_callV G d MX12_takesSign 1 11 (s_if_eq (s_iconst (-1) (s_istore 1 (s_iload 1 (s_iconst (-1) (s_ic_ne (s_aload 0 (s_callV G d MX12_one 0 11 (s_aload 0 (s_iload 1 (s_iconst 0 (s_callV G d MX12_notes 2 11 (fun L st h => E G MX12_product (d + 1) C S 4 (msk [true, false] L) st h (RN P)))))))) (s_return P)))))) (s_iconst 5 (s_istore 1 (s_iload 1 (s_iconst (-1) (s_ic_ne (s_aload 0 (s_callV G d MX12_one 0 11 (s_aload 0 (s_iload 1 (s_iconst 0 (s_callV G d MX12_notes 2 11 (fun L st h => E G MX12_product (d + 1) C S 4 (msk [true, false] L) st h (RN P)))))))) (s_return P)))))))))) (s_iconst 4 (s_istore 1 (s_iload 1 (s_iconst (-1) (s_ic_ne (s_aload 0 (s_callV G d MX12_one 0 11 (s_aload 0 (s_iload 1 (s_iconst 0 (s_callV G d MX12_notes 2 11 (fun L st h => E G MX12_product (d + 1) C S 4 (msk [true, false] L) st h (RN P)))))))) (s_return P))))))))))))) := (e_aload_n dX12_product_4 rfl (e_getI rfl cl_11 (by decide) rfl q_1569 dX12_product_5 (e_if_ne (tgt := 58) dX12_product_8 (by decide) (e_return rfl dX12_product_58) (e_aload_n dX12_product_11 rfl (e_bipush (v := 42) dX12_product_12 (by decide) (e_callV cl_11 cal_X12_takesSign q_1843 q_1845 q_74 dX12_product_14 (e_if_eq (tgt := 24) dX12_product_17 (by decide) (e_aload_n dX12_product_24 rfl (e_bipush (v := 47) dX12_product_25 (by decide) (e_callV cl_11 cal_X12_takesSign q_1843 q_1845 q_74 dX12_product_27 (e_if_eq (tgt := 37) dX12_product_30 (by decide) (e_iconst (v := (-1)) dX12_product_37 (by decide) (e_istore_n dX12_product_38 rfl (by decide) (e_iload_n dX12_product_39 rfl (e_iconst (v := (-1)) dX12_product_40 (by decide) (e_ic_ne (tgt := 45) dX12_product_41 (by decide) (e_aload_n dX12_product_45 rfl (e_callV cl_11 cal_X12_one q_1823 q_1825 q_69 dX12_product_46 (e_aload_n dX12_product_49 rfl (e_iload_n dX12_product_50 rfl (e_iconst (v := 0) dX12_product_51 (by decide) (e_callV cl_11 cal_X12_notes q_1831 q_1833 q_71 dX12_product_52 (e_goto (tgt := 4) dX12_product_55 (by decide) (e_msk [true, false])))))))) (e_return rfl dX12_product_44)))))) (e_iconst (v := 5) dX12_product_33 (by decide) (e_goto (tgt := 38) dX12_product_34 (by decide) (e_istore_n dX12_product_38 rfl (by decide) (e_iload_n dX12_product_39 rfl (e_iconst (v := (-1)) dX12_product_40 (by decide) (e_ic_ne (tgt := 45) dX12_product_41 (by decide) (e_aload_n dX12_product_45 rfl (e_callV cl_11 cal_X12_one q_1823 q_1825 q_69 dX12_product_46 (e_aload_n dX12_product_49 rfl (e_iload_n dX12_product_50 rfl (e_iconst (v := 0) dX12_product_51 (by decide) (e_callV cl_11 cal_X12_notes q_1831 q_1833 q_71 dX12_product_52 (e_goto (tgt := 4) dX12_product_55 (by decide) (e_msk [true, false])))))))) (e_return rfl dX12_product_44))))))))))) (e_iconst (v := 4) dX12_product_20 (by decide) (e_goto (tgt := 38) dX12_product_21 (by decide) (e_istore_n dX12_product_38 rfl (by decide) (e_iload_n dX12_product_39 rfl (e_iconst (v := (-1)) dX12_product_40 (by decide) (e_ic_ne (tgt := 45) dX12_product_41 (by decide) (e_aload_n dX12_product_45 rfl (e_callV cl_11 cal_X12_one q_1823 q_1825 q_69 dX12_product_46 (e_aload_n dX12_product_49 rfl (e_iload_n dX12_product_50 rfl (e_iconst (v := 0) dX12_product_51 (by decide) (e_callV cl_11 cal_X12_notes q_1831 q_1833 q_71 dX12_product_52 (e_goto (tgt := 4) dX12_product_55 (by decide) (e_msk [true, false])))))))) (e_return rfl dX12_product_44))))))))))))))
set_option maxRecDepth 100000 in
theorem V_X12_product_4 {G : GE} {d C S : Nat} {P : KN} {a : Nat → Nat → Int32} {r : Nat → Nat → Value} {N : Nat} {l0 : Nat} (hs : (tyK l0 = (0, 11) ∧ l0 < N ∧ ((¬ (a l0 5) = 0 → P a r N) ∧ ((a l0 5) = 0 → (tyK l0 = (0, 11) ∧ l0 < N ∧ Sp G d 0 0 MX12_takesSign [.ref l0, .int 42] (a, r, N) (RI fun v4 a1 r2 n3 => ((v4 = 0 → (tyK l0 = (0, 11) ∧ l0 < n3 ∧ Sp G d 0 0 MX12_takesSign [.ref l0, .int 47] (a1, r2, n3) (RI fun v8 a5 r6 n7 => ((v8 = 0 → ((¬ ((-1) : Int32) = (-1) → (tyK l0 = (0, 11) ∧ l0 < n7 ∧ Sp G d 0 0 MX12_one [.ref l0] (a5, r6, n7) (RN fun a9 r10 n11 => (tyK l0 = (0, 11) ∧ l0 < n11 ∧ Sp G d 0 0 MX12_notes [.ref l0, .int (-1), .int 0] (a9, r10, n11) (RN fun a12 r13 n14 => E G MX12_product (d + 1) C S 4 [.ref l0, .null] [] (a12, r13, n14) (RN P)))))) ∧ (((-1) : Int32) = (-1) → P a5 r6 n7))) ∧ (¬ v8 = 0 → ((¬ (5 : Int32) = (-1) → (tyK l0 = (0, 11) ∧ l0 < n7 ∧ Sp G d 0 0 MX12_one [.ref l0] (a5, r6, n7) (RN fun a15 r16 n17 => (tyK l0 = (0, 11) ∧ l0 < n17 ∧ Sp G d 0 0 MX12_notes [.ref l0, .int 5, .int 0] (a15, r16, n17) (RN fun a18 r19 n20 => E G MX12_product (d + 1) C S 4 [.ref l0, .null] [] (a18, r19, n20) (RN P)))))) ∧ ((5 : Int32) = (-1) → P a5 r6 n7))))))) ∧ (¬ v4 = 0 → ((¬ (4 : Int32) = (-1) → (tyK l0 = (0, 11) ∧ l0 < n3 ∧ Sp G d 0 0 MX12_one [.ref l0] (a1, r2, n3) (RN fun a21 r22 n23 => (tyK l0 = (0, 11) ∧ l0 < n23 ∧ Sp G d 0 0 MX12_notes [.ref l0, .int 4, .int 0] (a21, r22, n23) (RN fun a24 r25 n26 => E G MX12_product (d + 1) C S 4 [.ref l0, .null] [] (a24, r25, n26) (RN P)))))) ∧ ((4 : Int32) = (-1) → P a1 r2 n3)))))))))) : E G MX12_product (d + 1) C S 4 [.ref l0, .null] [] (a, r, N) (RN P) := T_X12_product_4 _ _ _ hs
theorem dX12_knownHere_0 : decode cX12_knownHere 0 = .ok (.aload_n 0, 1) := by decide +kernel
theorem dX12_knownHere_1 : decode cX12_knownHere 1 = .ok (.bipush 8, 2) := by decide +kernel
theorem dX12_knownHere_3 : decode cX12_knownHere 3 = .ok (.iconst 5, 1) := by decide +kernel
theorem dX12_knownHere_4 : decode cX12_knownHere 4 = .ok (.bipush 18, 2) := by decide +kernel
theorem dX12_knownHere_6 : decode cX12_knownHere 6 = .ok (.bipush 19, 2) := by decide +kernel
theorem dX12_knownHere_8 : decode cX12_knownHere 8 = .ok (.iconst 0, 1) := by decide +kernel
theorem dX12_knownHere_9 : decode cX12_knownHere 9 = .ok (.iconst 0, 1) := by decide +kernel
theorem dX12_knownHere_10 : decode cX12_knownHere 10 = .ok (.iconst 0, 1) := by decide +kernel
theorem dX12_knownHere_11 : decode cX12_knownHere 11 = .ok (.invokevirtual 245, 3) := by decide +kernel
theorem dX12_knownHere_14 : decode cX12_knownHere 14 = .ok (.ifCond .eq 5, 3) := by decide +kernel
theorem dX12_knownHere_17 : decode cX12_knownHere 17 = .ok (.iconst 0, 1) := by decide +kernel
theorem dX12_knownHere_18 : decode cX12_knownHere 18 = .ok (.ireturn, 1) := by decide +kernel
theorem dX12_knownHere_19 : decode cX12_knownHere 19 = .ok (.aload_n 0, 1) := by decide +kernel
theorem dX12_knownHere_20 : decode cX12_knownHere 20 = .ok (.bipush 8, 2) := by decide +kernel
theorem dX12_knownHere_22 : decode cX12_knownHere 22 = .ok (.bipush 9, 2) := by decide +kernel
theorem dX12_knownHere_24 : decode cX12_knownHere 24 = .ok (.bipush 19, 2) := by decide +kernel
theorem dX12_knownHere_26 : decode cX12_knownHere 26 = .ok (.iconst 0, 1) := by decide +kernel
theorem dX12_knownHere_27 : decode cX12_knownHere 27 = .ok (.iconst 0, 1) := by decide +kernel
theorem dX12_knownHere_28 : decode cX12_knownHere 28 = .ok (.iconst 0, 1) := by decide +kernel
theorem dX12_knownHere_29 : decode cX12_knownHere 29 = .ok (.iconst 0, 1) := by decide +kernel
theorem dX12_knownHere_30 : decode cX12_knownHere 30 = .ok (.invokevirtual 245, 3) := by decide +kernel
theorem dX12_knownHere_33 : decode cX12_knownHere 33 = .ok (.ifCond .eq 5, 3) := by decide +kernel
theorem dX12_knownHere_36 : decode cX12_knownHere 36 = .ok (.iconst 1, 1) := by decide +kernel
theorem dX12_knownHere_37 : decode cX12_knownHere 37 = .ok (.ireturn, 1) := by decide +kernel
theorem dX12_knownHere_38 : decode cX12_knownHere 38 = .ok (.aload_n 0, 1) := by decide +kernel
theorem dX12_knownHere_39 : decode cX12_knownHere 39 = .ok (.bipush 20, 2) := by decide +kernel
theorem dX12_knownHere_41 : decode cX12_knownHere 41 = .ok (.bipush 18, 2) := by decide +kernel
theorem dX12_knownHere_43 : decode cX12_knownHere 43 = .ok (.iconst 5, 1) := by decide +kernel
theorem dX12_knownHere_44 : decode cX12_knownHere 44 = .ok (.iconst 5, 1) := by decide +kernel
theorem dX12_knownHere_45 : decode cX12_knownHere 45 = .ok (.bipush 19, 2) := by decide +kernel
theorem dX12_knownHere_47 : decode cX12_knownHere 47 = .ok (.iconst 0, 1) := by decide +kernel
theorem dX12_knownHere_48 : decode cX12_knownHere 48 = .ok (.iconst 0, 1) := by decide +kernel
theorem dX12_knownHere_49 : decode cX12_knownHere 49 = .ok (.invokevirtual 245, 3) := by decide +kernel
theorem dX12_knownHere_52 : decode cX12_knownHere 52 = .ok (.ifCond .eq 5, 3) := by decide +kernel
theorem dX12_knownHere_55 : decode cX12_knownHere 55 = .ok (.iconst 2, 1) := by decide +kernel
theorem dX12_knownHere_56 : decode cX12_knownHere 56 = .ok (.ireturn, 1) := by decide +kernel
theorem dX12_knownHere_57 : decode cX12_knownHere 57 = .ok (.aload_n 0, 1) := by decide +kernel
theorem dX12_knownHere_58 : decode cX12_knownHere 58 = .ok (.bipush 12, 2) := by decide +kernel
theorem dX12_knownHere_60 : decode cX12_knownHere 60 = .ok (.bipush 9, 2) := by decide +kernel
theorem dX12_knownHere_62 : decode cX12_knownHere 62 = .ok (.bipush 11, 2) := by decide +kernel
theorem dX12_knownHere_64 : decode cX12_knownHere 64 = .ok (.iconst 5, 1) := by decide +kernel
theorem dX12_knownHere_65 : decode cX12_knownHere 65 = .ok (.bipush 19, 2) := by decide +kernel
theorem dX12_knownHere_67 : decode cX12_knownHere 67 = .ok (.iconst 0, 1) := by decide +kernel
theorem dX12_knownHere_68 : decode cX12_knownHere 68 = .ok (.iconst 0, 1) := by decide +kernel
theorem dX12_knownHere_69 : decode cX12_knownHere 69 = .ok (.invokevirtual 245, 3) := by decide +kernel
theorem dX12_knownHere_72 : decode cX12_knownHere 72 = .ok (.ifCond .eq 5, 3) := by decide +kernel
theorem dX12_knownHere_75 : decode cX12_knownHere 75 = .ok (.iconst 3, 1) := by decide +kernel
theorem dX12_knownHere_76 : decode cX12_knownHere 76 = .ok (.ireturn, 1) := by decide +kernel
theorem dX12_knownHere_77 : decode cX12_knownHere 77 = .ok (.aload_n 0, 1) := by decide +kernel
theorem dX12_knownHere_78 : decode cX12_knownHere 78 = .ok (.bipush 12, 2) := by decide +kernel
theorem dX12_knownHere_80 : decode cX12_knownHere 80 = .ok (.bipush 9, 2) := by decide +kernel
theorem dX12_knownHere_82 : decode cX12_knownHere 82 = .ok (.bipush 11, 2) := by decide +kernel
theorem dX12_knownHere_84 : decode cX12_knownHere 84 = .ok (.iconst 5, 1) := by decide +kernel
theorem dX12_knownHere_85 : decode cX12_knownHere 85 = .ok (.iconst 4, 1) := by decide +kernel
theorem dX12_knownHere_86 : decode cX12_knownHere 86 = .ok (.iconst 0, 1) := by decide +kernel
theorem dX12_knownHere_87 : decode cX12_knownHere 87 = .ok (.iconst 0, 1) := by decide +kernel
theorem dX12_knownHere_88 : decode cX12_knownHere 88 = .ok (.invokevirtual 245, 3) := by decide +kernel
theorem dX12_knownHere_91 : decode cX12_knownHere 91 = .ok (.ifCond .eq 5, 3) := by decide +kernel
theorem dX12_knownHere_94 : decode cX12_knownHere 94 = .ok (.iconst 4, 1) := by decide +kernel
theorem dX12_knownHere_95 : decode cX12_knownHere 95 = .ok (.ireturn, 1) := by decide +kernel
theorem dX12_knownHere_96 : decode cX12_knownHere 96 = .ok (.aload_n 0, 1) := by decide +kernel
theorem dX12_knownHere_97 : decode cX12_knownHere 97 = .ok (.iconst 3, 1) := by decide +kernel
theorem dX12_knownHere_98 : decode cX12_knownHere 98 = .ok (.bipush 18, 2) := by decide +kernel
theorem dX12_knownHere_100 : decode cX12_knownHere 100 = .ok (.bipush 15, 2) := by decide +kernel
theorem dX12_knownHere_102 : decode cX12_knownHere 102 = .ok (.bipush 19, 2) := by decide +kernel
theorem dX12_knownHere_104 : decode cX12_knownHere 104 = .ok (.bipush 19, 2) := by decide +kernel
theorem dX12_knownHere_106 : decode cX12_knownHere 106 = .ok (.iconst 0, 1) := by decide +kernel
theorem dX12_knownHere_107 : decode cX12_knownHere 107 = .ok (.iconst 0, 1) := by decide +kernel
theorem dX12_knownHere_108 : decode cX12_knownHere 108 = .ok (.invokevirtual 245, 3) := by decide +kernel
theorem dX12_knownHere_111 : decode cX12_knownHere 111 = .ok (.ifCond .eq 5, 3) := by decide +kernel
theorem dX12_knownHere_114 : decode cX12_knownHere 114 = .ok (.iconst 5, 1) := by decide +kernel
theorem dX12_knownHere_115 : decode cX12_knownHere 115 = .ok (.ireturn, 1) := by decide +kernel
theorem dX12_knownHere_116 : decode cX12_knownHere 116 = .ok (.aload_n 0, 1) := by decide +kernel
theorem dX12_knownHere_117 : decode cX12_knownHere 117 = .ok (.bipush 12, 2) := by decide +kernel
theorem dX12_knownHere_119 : decode cX12_knownHere 119 = .ok (.iconst 5, 1) := by decide +kernel
theorem dX12_knownHere_120 : decode cX12_knownHere 120 = .ok (.bipush 14, 2) := by decide +kernel
theorem dX12_knownHere_122 : decode cX12_knownHere 122 = .ok (.bipush 7, 2) := by decide +kernel
theorem dX12_knownHere_124 : decode cX12_knownHere 124 = .ok (.bipush 20, 2) := by decide +kernel
theorem dX12_knownHere_126 : decode cX12_knownHere 126 = .ok (.bipush 8, 2) := by decide +kernel
theorem dX12_knownHere_128 : decode cX12_knownHere 128 = .ok (.iconst 0, 1) := by decide +kernel
theorem dX12_knownHere_129 : decode cX12_knownHere 129 = .ok (.invokevirtual 245, 3) := by decide +kernel
theorem dX12_knownHere_132 : decode cX12_knownHere 132 = .ok (.ifCond .eq 6, 3) := by decide +kernel
theorem dX12_knownHere_135 : decode cX12_knownHere 135 = .ok (.bipush 6, 2) := by decide +kernel
theorem dX12_knownHere_137 : decode cX12_knownHere 137 = .ok (.ireturn, 1) := by decide +kernel
theorem dX12_knownHere_138 : decode cX12_knownHere 138 = .ok (.aload_n 0, 1) := by decide +kernel
theorem dX12_knownHere_139 : decode cX12_knownHere 139 = .ok (.bipush 25, 2) := by decide +kernel
theorem dX12_knownHere_141 : decode cX12_knownHere 141 = .ok (.iconst 5, 1) := by decide +kernel
theorem dX12_knownHere_142 : decode cX12_knownHere 142 = .ok (.iconst 1, 1) := by decide +kernel
theorem dX12_knownHere_143 : decode cX12_knownHere 143 = .ok (.bipush 18, 2) := by decide +kernel
theorem dX12_knownHere_145 : decode cX12_knownHere 145 = .ok (.iconst 0, 1) := by decide +kernel
theorem dX12_knownHere_146 : decode cX12_knownHere 146 = .ok (.iconst 0, 1) := by decide +kernel
theorem dX12_knownHere_147 : decode cX12_knownHere 147 = .ok (.iconst 0, 1) := by decide +kernel
theorem dX12_knownHere_148 : decode cX12_knownHere 148 = .ok (.invokevirtual 245, 3) := by decide +kernel
theorem dX12_knownHere_151 : decode cX12_knownHere 151 = .ok (.ifCond .eq 6, 3) := by decide +kernel
theorem dX12_knownHere_154 : decode cX12_knownHere 154 = .ok (.bipush 7, 2) := by decide +kernel
theorem dX12_knownHere_156 : decode cX12_knownHere 156 = .ok (.ireturn, 1) := by decide +kernel
theorem dX12_knownHere_157 : decode cX12_knownHere 157 = .ok (.aload_n 0, 1) := by decide +kernel
theorem dX12_knownHere_158 : decode cX12_knownHere 158 = .ok (.bipush 8, 2) := by decide +kernel
theorem dX12_knownHere_160 : decode cX12_knownHere 160 = .ok (.bipush 15, 2) := by decide +kernel
theorem dX12_knownHere_162 : decode cX12_knownHere 162 = .ok (.bipush 12, 2) := by decide +kernel
theorem dX12_knownHere_164 : decode cX12_knownHere 164 = .ok (.iconst 5, 1) := by decide +kernel
theorem dX12_knownHere_165 : decode cX12_knownHere 165 = .ok (.bipush 19, 2) := by decide +kernel
theorem dX12_knownHere_167 : decode cX12_knownHere 167 = .ok (.iconst 0, 1) := by decide +kernel
theorem dX12_knownHere_168 : decode cX12_knownHere 168 = .ok (.iconst 0, 1) := by decide +kernel
theorem dX12_knownHere_169 : decode cX12_knownHere 169 = .ok (.invokevirtual 245, 3) := by decide +kernel
theorem dX12_knownHere_172 : decode cX12_knownHere 172 = .ok (.ifCond .eq 8, 3) := by decide +kernel
theorem dX12_knownHere_175 : decode cX12_knownHere 175 = .ok (.bipush 8, 2) := by decide +kernel
theorem dX12_knownHere_177 : decode cX12_knownHere 177 = .ok (.goto 4, 3) := by decide +kernel
theorem dX12_knownHere_180 : decode cX12_knownHere 180 = .ok (.iconst (-1), 1) := by decide +kernel
theorem dX12_knownHere_181 : decode cX12_knownHere 181 = .ok (.ireturn, 1) := by decide +kernel
set_option maxRecDepth 100000 in
theorem T_X12_knownHere_0 {G : GE} {d C S : Nat} {P : KI} : Snd G MX12_knownHere (d + 1) C S 0 (RI P) (s_aload 0 (s_iconst 8 (s_iconst 5 (s_iconst 18 (s_iconst 19 (s_iconst 0 (s_iconst 0 (s_iconst 0 (s_callV G d MX12_takes 7 11 (s_if_eq (s_aload 0 (s_iconst 8 (s_iconst 9 (s_iconst 19 (s_iconst 0 (s_iconst 0 (s_iconst 0 (s_iconst 0 (s_callV G d MX12_takes 7 11 (s_if_eq (s_aload 0 (s_iconst 20 (s_iconst 18 (s_iconst 5 (s_iconst 5 (s_iconst 19 (s_iconst 0 (s_iconst 0 (s_callV G d MX12_takes 7 11 (s_if_eq (s_aload 0 (s_iconst 12 (s_iconst 9 (s_iconst 11 (s_iconst 5 (s_iconst 19 (s_iconst 0 (s_iconst 0 (s_callV G d MX12_takes 7 11 (s_if_eq (s_aload 0 (s_iconst 12 (s_iconst 9 (s_iconst 11 (s_iconst 5 (s_iconst 4 (s_iconst 0 (s_iconst 0 (s_callV G d MX12_takes 7 11 (s_if_eq (s_aload 0 (s_iconst 3 (s_iconst 18 (s_iconst 15 (s_iconst 19 (s_iconst 19 (s_iconst 0 (s_iconst 0 (s_callV G d MX12_takes 7 11 (s_if_eq (s_aload 0 (s_iconst 12 (s_iconst 5 (s_iconst 14 (s_iconst 7 (s_iconst 20 (s_iconst 8 (s_iconst 0 (s_callV G d MX12_takes 7 11 (s_if_eq (s_aload 0 (s_iconst 25 (s_iconst 5 (s_iconst 1 (s_iconst 18 (s_iconst 0 (s_iconst 0 (s_iconst 0 (s_callV G d MX12_takes 7 11 (s_if_eq (s_aload 0 (s_iconst 8 (s_iconst 15 (s_iconst 12 (s_iconst 5 (s_iconst 19 (s_iconst 0 (s_iconst 0 (s_callV G d MX12_takes 7 11 (s_if_eq (s_iconst (-1) (s_ireturn P)) (s_iconst 8 (s_ireturn P)))))))))))) (s_iconst 7 (s_ireturn P)))))))))))) (s_iconst 6 (s_ireturn P)))))))))))) (s_iconst 5 (s_ireturn P)))))))))))) (s_iconst 4 (s_ireturn P)))))))))))) (s_iconst 3 (s_ireturn P)))))))))))) (s_iconst 2 (s_ireturn P)))))))))))) (s_iconst 1 (s_ireturn P)))))))))))) (s_iconst 0 (s_ireturn P)))))))))))) := (e_aload_n dX12_knownHere_0 rfl (e_bipush (v := 8) dX12_knownHere_1 (by decide) (e_iconst (v := 5) dX12_knownHere_3 (by decide) (e_bipush (v := 18) dX12_knownHere_4 (by decide) (e_bipush (v := 19) dX12_knownHere_6 (by decide) (e_iconst (v := 0) dX12_knownHere_8 (by decide) (e_iconst (v := 0) dX12_knownHere_9 (by decide) (e_iconst (v := 0) dX12_knownHere_10 (by decide) (e_callV cl_11 cal_X12_takes q_1839 q_1841 q_73 dX12_knownHere_11 (e_if_eq (tgt := 19) dX12_knownHere_14 (by decide) (e_aload_n dX12_knownHere_19 rfl (e_bipush (v := 8) dX12_knownHere_20 (by decide) (e_bipush (v := 9) dX12_knownHere_22 (by decide) (e_bipush (v := 19) dX12_knownHere_24 (by decide) (e_iconst (v := 0) dX12_knownHere_26 (by decide) (e_iconst (v := 0) dX12_knownHere_27 (by decide) (e_iconst (v := 0) dX12_knownHere_28 (by decide) (e_iconst (v := 0) dX12_knownHere_29 (by decide) (e_callV cl_11 cal_X12_takes q_1839 q_1841 q_73 dX12_knownHere_30 (e_if_eq (tgt := 38) dX12_knownHere_33 (by decide) (e_aload_n dX12_knownHere_38 rfl (e_bipush (v := 20) dX12_knownHere_39 (by decide) (e_bipush (v := 18) dX12_knownHere_41 (by decide) (e_iconst (v := 5) dX12_knownHere_43 (by decide) (e_iconst (v := 5) dX12_knownHere_44 (by decide) (e_bipush (v := 19) dX12_knownHere_45 (by decide) (e_iconst (v := 0) dX12_knownHere_47 (by decide) (e_iconst (v := 0) dX12_knownHere_48 (by decide) (e_callV cl_11 cal_X12_takes q_1839 q_1841 q_73 dX12_knownHere_49 (e_if_eq (tgt := 57) dX12_knownHere_52 (by decide) (e_aload_n dX12_knownHere_57 rfl (e_bipush (v := 12) dX12_knownHere_58 (by decide) (e_bipush (v := 9) dX12_knownHere_60 (by decide) (e_bipush (v := 11) dX12_knownHere_62 (by decide) (e_iconst (v := 5) dX12_knownHere_64 (by decide) (e_bipush (v := 19) dX12_knownHere_65 (by decide) (e_iconst (v := 0) dX12_knownHere_67 (by decide) (e_iconst (v := 0) dX12_knownHere_68 (by decide) (e_callV cl_11 cal_X12_takes q_1839 q_1841 q_73 dX12_knownHere_69 (e_if_eq (tgt := 77) dX12_knownHere_72 (by decide) (e_aload_n dX12_knownHere_77 rfl (e_bipush (v := 12) dX12_knownHere_78 (by decide) (e_bipush (v := 9) dX12_knownHere_80 (by decide) (e_bipush (v := 11) dX12_knownHere_82 (by decide) (e_iconst (v := 5) dX12_knownHere_84 (by decide) (e_iconst (v := 4) dX12_knownHere_85 (by decide) (e_iconst (v := 0) dX12_knownHere_86 (by decide) (e_iconst (v := 0) dX12_knownHere_87 (by decide) (e_callV cl_11 cal_X12_takes q_1839 q_1841 q_73 dX12_knownHere_88 (e_if_eq (tgt := 96) dX12_knownHere_91 (by decide) (e_aload_n dX12_knownHere_96 rfl (e_iconst (v := 3) dX12_knownHere_97 (by decide) (e_bipush (v := 18) dX12_knownHere_98 (by decide) (e_bipush (v := 15) dX12_knownHere_100 (by decide) (e_bipush (v := 19) dX12_knownHere_102 (by decide) (e_bipush (v := 19) dX12_knownHere_104 (by decide) (e_iconst (v := 0) dX12_knownHere_106 (by decide) (e_iconst (v := 0) dX12_knownHere_107 (by decide) (e_callV cl_11 cal_X12_takes q_1839 q_1841 q_73 dX12_knownHere_108 (e_if_eq (tgt := 116) dX12_knownHere_111 (by decide) (e_aload_n dX12_knownHere_116 rfl (e_bipush (v := 12) dX12_knownHere_117 (by decide) (e_iconst (v := 5) dX12_knownHere_119 (by decide) (e_bipush (v := 14) dX12_knownHere_120 (by decide) (e_bipush (v := 7) dX12_knownHere_122 (by decide) (e_bipush (v := 20) dX12_knownHere_124 (by decide) (e_bipush (v := 8) dX12_knownHere_126 (by decide) (e_iconst (v := 0) dX12_knownHere_128 (by decide) (e_callV cl_11 cal_X12_takes q_1839 q_1841 q_73 dX12_knownHere_129 (e_if_eq (tgt := 138) dX12_knownHere_132 (by decide) (e_aload_n dX12_knownHere_138 rfl (e_bipush (v := 25) dX12_knownHere_139 (by decide) (e_iconst (v := 5) dX12_knownHere_141 (by decide) (e_iconst (v := 1) dX12_knownHere_142 (by decide) (e_bipush (v := 18) dX12_knownHere_143 (by decide) (e_iconst (v := 0) dX12_knownHere_145 (by decide) (e_iconst (v := 0) dX12_knownHere_146 (by decide) (e_iconst (v := 0) dX12_knownHere_147 (by decide) (e_callV cl_11 cal_X12_takes q_1839 q_1841 q_73 dX12_knownHere_148 (e_if_eq (tgt := 157) dX12_knownHere_151 (by decide) (e_aload_n dX12_knownHere_157 rfl (e_bipush (v := 8) dX12_knownHere_158 (by decide) (e_bipush (v := 15) dX12_knownHere_160 (by decide) (e_bipush (v := 12) dX12_knownHere_162 (by decide) (e_iconst (v := 5) dX12_knownHere_164 (by decide) (e_bipush (v := 19) dX12_knownHere_165 (by decide) (e_iconst (v := 0) dX12_knownHere_167 (by decide) (e_iconst (v := 0) dX12_knownHere_168 (by decide) (e_callV cl_11 cal_X12_takes q_1839 q_1841 q_73 dX12_knownHere_169 (e_if_eq (tgt := 180) dX12_knownHere_172 (by decide) (e_iconst (v := (-1)) dX12_knownHere_180 (by decide) (e_ireturn rfl dX12_knownHere_181)) (e_bipush (v := 8) dX12_knownHere_175 (by decide) (e_goto (tgt := 181) dX12_knownHere_177 (by decide) (e_ireturn rfl dX12_knownHere_181))))))))))))) (e_bipush (v := 7) dX12_knownHere_154 (by decide) (e_ireturn rfl dX12_knownHere_156)))))))))))) (e_bipush (v := 6) dX12_knownHere_135 (by decide) (e_ireturn rfl dX12_knownHere_137)))))))))))) (e_iconst (v := 5) dX12_knownHere_114 (by decide) (e_ireturn rfl dX12_knownHere_115)))))))))))) (e_iconst (v := 4) dX12_knownHere_94 (by decide) (e_ireturn rfl dX12_knownHere_95)))))))))))) (e_iconst (v := 3) dX12_knownHere_75 (by decide) (e_ireturn rfl dX12_knownHere_76)))))))))))) (e_iconst (v := 2) dX12_knownHere_55 (by decide) (e_ireturn rfl dX12_knownHere_56)))))))))))) (e_iconst (v := 1) dX12_knownHere_36 (by decide) (e_ireturn rfl dX12_knownHere_37)))))))))))) (e_iconst (v := 0) dX12_knownHere_17 (by decide) (e_ireturn rfl dX12_knownHere_18))))))))))))
set_option maxRecDepth 100000 in
theorem V_X12_knownHere_0 {G : GE} {d : Nat} {P : KI} {a : Nat → Nat → Int32} {r : Nat → Nat → Value} {N : Nat} {l0 : Nat} (hs : (tyK l0 = (0, 11) ∧ l0 < N ∧ Sp G d 0 0 MX12_takes [.ref l0, .int 8, .int 5, .int 18, .int 19, .int 0, .int 0, .int 0] (a, r, N) (RI fun v4 a1 r2 n3 => ((v4 = 0 → (tyK l0 = (0, 11) ∧ l0 < n3 ∧ Sp G d 0 0 MX12_takes [.ref l0, .int 8, .int 9, .int 19, .int 0, .int 0, .int 0, .int 0] (a1, r2, n3) (RI fun v8 a5 r6 n7 => ((v8 = 0 → (tyK l0 = (0, 11) ∧ l0 < n7 ∧ Sp G d 0 0 MX12_takes [.ref l0, .int 20, .int 18, .int 5, .int 5, .int 19, .int 0, .int 0] (a5, r6, n7) (RI fun v12 a9 r10 n11 => ((v12 = 0 → (tyK l0 = (0, 11) ∧ l0 < n11 ∧ Sp G d 0 0 MX12_takes [.ref l0, .int 12, .int 9, .int 11, .int 5, .int 19, .int 0, .int 0] (a9, r10, n11) (RI fun v16 a13 r14 n15 => ((v16 = 0 → (tyK l0 = (0, 11) ∧ l0 < n15 ∧ Sp G d 0 0 MX12_takes [.ref l0, .int 12, .int 9, .int 11, .int 5, .int 4, .int 0, .int 0] (a13, r14, n15) (RI fun v20 a17 r18 n19 => ((v20 = 0 → (tyK l0 = (0, 11) ∧ l0 < n19 ∧ Sp G d 0 0 MX12_takes [.ref l0, .int 3, .int 18, .int 15, .int 19, .int 19, .int 0, .int 0] (a17, r18, n19) (RI fun v24 a21 r22 n23 => ((v24 = 0 → (tyK l0 = (0, 11) ∧ l0 < n23 ∧ Sp G d 0 0 MX12_takes [.ref l0, .int 12, .int 5, .int 14, .int 7, .int 20, .int 8, .int 0] (a21, r22, n23) (RI fun v28 a25 r26 n27 => ((v28 = 0 → (tyK l0 = (0, 11) ∧ l0 < n27 ∧ Sp G d 0 0 MX12_takes [.ref l0, .int 25, .int 5, .int 1, .int 18, .int 0, .int 0, .int 0] (a25, r26, n27) (RI fun v32 a29 r30 n31 => ((v32 = 0 → (tyK l0 = (0, 11) ∧ l0 < n31 ∧ Sp G d 0 0 MX12_takes [.ref l0, .int 8, .int 15, .int 12, .int 5, .int 19, .int 0, .int 0] (a29, r30, n31) (RI fun v36 a33 r34 n35 => ((v36 = 0 → P (-1) a33 r34 n35) ∧ (¬ v36 = 0 → P 8 a33 r34 n35))))) ∧ (¬ v32 = 0 → P 7 a29 r30 n31))))) ∧ (¬ v28 = 0 → P 6 a25 r26 n27))))) ∧ (¬ v24 = 0 → P 5 a21 r22 n23))))) ∧ (¬ v20 = 0 → P 4 a17 r18 n19))))) ∧ (¬ v16 = 0 → P 3 a13 r14 n15))))) ∧ (¬ v12 = 0 → P 2 a9 r10 n11))))) ∧ (¬ v8 = 0 → P 1 a5 r6 n7))))) ∧ (¬ v4 = 0 → P 0 a1 r2 n3))))) : Sp G (d + 1) 0 0 MX12_knownHere [.ref l0] (a, r, N) (RI P) := Sp.mk (mc := 0) (ms := 0) [.ref l0] rfl rfl rfl rfl (T_X12_knownHere_0 (C := 0) (S := 0) _ _ _ hs)
theorem dX12_one_0 : decode cX12_one 0 = .ok (.aload_n 0, 1) := by decide +kernel
theorem dX12_one_1 : decode cX12_one 1 = .ok (.getfield 131, 3) := by decide +kernel
theorem dX12_one_4 : decode cX12_one 4 = .ok (.ifCond .eq 4, 3) := by decide +kernel
theorem dX12_one_7 : decode cX12_one 7 = .ok (.return_, 1) := by decide +kernel
theorem dX12_one_8 : decode cX12_one 8 = .ok (.aload_n 0, 1) := by decide +kernel
theorem dX12_one_9 : decode cX12_one 9 = .ok (.invokevirtual 137, 3) := by decide +kernel
theorem dX12_one_12 : decode cX12_one 12 = .ok (.aload_n 0, 1) := by decide +kernel
theorem dX12_one_13 : decode cX12_one 13 = .ok (.bipush 12, 2) := by decide +kernel
theorem dX12_one_15 : decode cX12_one 15 = .ok (.iconst 5, 1) := by decide +kernel
theorem dX12_one_16 : decode cX12_one 16 = .ok (.iconst 1, 1) := by decide +kernel
theorem dX12_one_17 : decode cX12_one 17 = .ok (.bipush 19, 2) := by decide +kernel
theorem dX12_one_19 : decode cX12_one 19 = .ok (.bipush 20, 2) := by decide +kernel
theorem dX12_one_21 : decode cX12_one 21 = .ok (.iconst 0, 1) := by decide +kernel
theorem dX12_one_22 : decode cX12_one 22 = .ok (.iconst 0, 1) := by decide +kernel
theorem dX12_one_23 : decode cX12_one 23 = .ok (.invokevirtual 170, 3) := by decide +kernel
theorem dX12_one_26 : decode cX12_one 26 = .ok (.ifCond .eq 8, 3) := by decide +kernel
theorem dX12_one_29 : decode cX12_one 29 = .ok (.bipush 6, 2) := by decide +kernel
theorem dX12_one_31 : decode cX12_one 31 = .ok (.goto 27, 3) := by decide +kernel
theorem dX12_one_34 : decode cX12_one 34 = .ok (.aload_n 0, 1) := by decide +kernel
theorem dX12_one_35 : decode cX12_one 35 = .ok (.bipush 13, 2) := by decide +kernel
theorem dX12_one_37 : decode cX12_one 37 = .ok (.bipush 15, 2) := by decide +kernel
theorem dX12_one_39 : decode cX12_one 39 = .ok (.bipush 19, 2) := by decide +kernel
theorem dX12_one_41 : decode cX12_one 41 = .ok (.bipush 20, 2) := by decide +kernel
theorem dX12_one_43 : decode cX12_one 43 = .ok (.iconst 0, 1) := by decide +kernel
theorem dX12_one_44 : decode cX12_one 44 = .ok (.iconst 0, 1) := by decide +kernel
theorem dX12_one_45 : decode cX12_one 45 = .ok (.iconst 0, 1) := by decide +kernel
theorem dX12_one_46 : decode cX12_one 46 = .ok (.invokevirtual 170, 3) := by decide +kernel
theorem dX12_one_49 : decode cX12_one 49 = .ok (.ifCond .eq 8, 3) := by decide +kernel
theorem dX12_one_52 : decode cX12_one 52 = .ok (.bipush 7, 2) := by decide +kernel
theorem dX12_one_54 : decode cX12_one 54 = .ok (.goto 4, 3) := by decide +kernel
theorem dX12_one_57 : decode cX12_one 57 = .ok (.iconst (-1), 1) := by decide +kernel
theorem dX12_one_58 : decode cX12_one 58 = .ok (.istore_n 1, 1) := by decide +kernel
theorem dX12_one_59 : decode cX12_one 59 = .ok (.iload_n 1, 1) := by decide +kernel
theorem dX12_one_60 : decode cX12_one 60 = .ok (.iconst (-1), 1) := by decide +kernel
theorem dX12_one_61 : decode cX12_one 61 = .ok (.if_icmp .eq 58, 3) := by decide +kernel
theorem dX12_one_64 : decode cX12_one 64 = .ok (.aload_n 0, 1) := by decide +kernel
theorem dX12_one_65 : decode cX12_one 65 = .ok (.invokevirtual 248, 3) := by decide +kernel
theorem dX12_one_68 : decode cX12_one 68 = .ok (.ifCond .ne 4, 3) := by decide +kernel
theorem dX12_one_71 : decode cX12_one 71 = .ok (.return_, 1) := by decide +kernel
theorem dX12_one_72 : decode cX12_one 72 = .ok (.aload_n 0, 1) := by decide +kernel
theorem dX12_one_73 : decode cX12_one 73 = .ok (.invokevirtual 174, 3) := by decide +kernel
theorem dX12_one_76 : decode cX12_one 76 = .ok (.aload_n 0, 1) := by decide +kernel
theorem dX12_one_77 : decode cX12_one 77 = .ok (.bipush 91, 2) := by decide +kernel
theorem dX12_one_79 : decode cX12_one 79 = .ok (.invokevirtual 194, 3) := by decide +kernel
theorem dX12_one_82 : decode cX12_one 82 = .ok (.aload_n 0, 1) := by decide +kernel
theorem dX12_one_83 : decode cX12_one 83 = .ok (.invokevirtual 252, 3) := by decide +kernel
theorem dX12_one_86 : decode cX12_one 86 = .ok (.aload_n 0, 1) := by decide +kernel
theorem dX12_one_87 : decode cX12_one 87 = .ok (.bipush 44, 2) := by decide +kernel
theorem dX12_one_89 : decode cX12_one 89 = .ok (.invokevirtual 194, 3) := by decide +kernel
theorem dX12_one_92 : decode cX12_one 92 = .ok (.aload_n 0, 1) := by decide +kernel
theorem dX12_one_93 : decode cX12_one 93 = .ok (.invokevirtual 252, 3) := by decide +kernel
theorem dX12_one_96 : decode cX12_one 96 = .ok (.aload_n 0, 1) := by decide +kernel
theorem dX12_one_97 : decode cX12_one 97 = .ok (.bipush 93, 2) := by decide +kernel
theorem dX12_one_99 : decode cX12_one 99 = .ok (.invokevirtual 194, 3) := by decide +kernel
theorem dX12_one_102 : decode cX12_one 102 = .ok (.aload_n 0, 1) := by decide +kernel
theorem dX12_one_103 : decode cX12_one 103 = .ok (.iload_n 1, 1) := by decide +kernel
theorem dX12_one_104 : decode cX12_one 104 = .ok (.iconst 0, 1) := by decide +kernel
theorem dX12_one_105 : decode cX12_one 105 = .ok (.invokevirtual 239, 3) := by decide +kernel
theorem dX12_one_108 : decode cX12_one 108 = .ok (.aload_n 0, 1) := by decide +kernel
theorem dX12_one_109 : decode cX12_one 109 = .ok (.dup, 1) := by decide +kernel
theorem dX12_one_110 : decode cX12_one 110 = .ok (.getfield 180, 3) := by decide +kernel
theorem dX12_one_113 : decode cX12_one 113 = .ok (.iconst 1, 1) := by decide +kernel
theorem dX12_one_114 : decode cX12_one 114 = .ok (.isub, 1) := by decide +kernel
theorem dX12_one_115 : decode cX12_one 115 = .ok (.putfield 180, 3) := by decide +kernel
theorem dX12_one_118 : decode cX12_one 118 = .ok (.return_, 1) := by decide +kernel
theorem dX12_one_119 : decode cX12_one 119 = .ok (.aload_n 0, 1) := by decide +kernel
theorem dX12_one_120 : decode cX12_one 120 = .ok (.aload_n 0, 1) := by decide +kernel
theorem dX12_one_121 : decode cX12_one 121 = .ok (.getfield 124, 3) := by decide +kernel
theorem dX12_one_124 : decode cX12_one 124 = .ok (.invokevirtual 127, 3) := by decide +kernel
theorem dX12_one_127 : decode cX12_one 127 = .ok (.bipush 40, 2) := by decide +kernel
theorem dX12_one_129 : decode cX12_one 129 = .ok (.if_icmp .ne 42, 3) := by decide +kernel
theorem dX12_one_132 : decode cX12_one 132 = .ok (.aload_n 0, 1) := by decide +kernel
theorem dX12_one_133 : decode cX12_one 133 = .ok (.invokevirtual 248, 3) := by decide +kernel
theorem dX12_one_136 : decode cX12_one 136 = .ok (.ifCond .ne 4, 3) := by decide +kernel
theorem dX12_one_139 : decode cX12_one 139 = .ok (.return_, 1) := by decide +kernel
theorem dX12_one_140 : decode cX12_one 140 = .ok (.aload_n 0, 1) := by decide +kernel
theorem dX12_one_141 : decode cX12_one 141 = .ok (.dup, 1) := by decide +kernel
theorem dX12_one_142 : decode cX12_one 142 = .ok (.getfield 124, 3) := by decide +kernel
theorem dX12_one_145 : decode cX12_one 145 = .ok (.iconst 1, 1) := by decide +kernel
theorem dX12_one_146 : decode cX12_one 146 = .ok (.iadd, 1) := by decide +kernel
theorem dX12_one_147 : decode cX12_one 147 = .ok (.putfield 124, 3) := by decide +kernel
theorem dX12_one_150 : decode cX12_one 150 = .ok (.aload_n 0, 1) := by decide +kernel
theorem dX12_one_151 : decode cX12_one 151 = .ok (.invokevirtual 252, 3) := by decide +kernel
theorem dX12_one_154 : decode cX12_one 154 = .ok (.aload_n 0, 1) := by decide +kernel
theorem dX12_one_155 : decode cX12_one 155 = .ok (.bipush 41, 2) := by decide +kernel
theorem dX12_one_157 : decode cX12_one 157 = .ok (.invokevirtual 194, 3) := by decide +kernel
theorem dX12_one_160 : decode cX12_one 160 = .ok (.aload_n 0, 1) := by decide +kernel
theorem dX12_one_161 : decode cX12_one 161 = .ok (.dup, 1) := by decide +kernel
theorem dX12_one_162 : decode cX12_one 162 = .ok (.getfield 180, 3) := by decide +kernel
theorem dX12_one_165 : decode cX12_one 165 = .ok (.iconst 1, 1) := by decide +kernel
theorem dX12_one_166 : decode cX12_one 166 = .ok (.isub, 1) := by decide +kernel
theorem dX12_one_167 : decode cX12_one 167 = .ok (.putfield 180, 3) := by decide +kernel
theorem dX12_one_170 : decode cX12_one 170 = .ok (.return_, 1) := by decide +kernel
theorem dX12_one_171 : decode cX12_one 171 = .ok (.aload_n 0, 1) := by decide +kernel
theorem dX12_one_172 : decode cX12_one 172 = .ok (.invokevirtual 255, 3) := by decide +kernel
theorem dX12_one_175 : decode cX12_one 175 = .ok (.istore_n 2, 1) := by decide +kernel
theorem dX12_one_176 : decode cX12_one 176 = .ok (.iload_n 2, 1) := by decide +kernel
theorem dX12_one_177 : decode cX12_one 177 = .ok (.iconst (-1), 1) := by decide +kernel
theorem dX12_one_178 : decode cX12_one 178 = .ok (.if_icmp .eq 12, 3) := by decide +kernel
theorem dX12_one_181 : decode cX12_one 181 = .ok (.aload_n 0, 1) := by decide +kernel
theorem dX12_one_182 : decode cX12_one 182 = .ok (.iconst 1, 1) := by decide +kernel
theorem dX12_one_183 : decode cX12_one 183 = .ok (.iload_n 2, 1) := by decide +kernel
theorem dX12_one_184 : decode cX12_one 184 = .ok (.invokevirtual 239, 3) := by decide +kernel
theorem dX12_one_187 : decode cX12_one 187 = .ok (.goto 16, 3) := by decide +kernel
theorem dX12_one_190 : decode cX12_one 190 = .ok (.aload_n 0, 1) := by decide +kernel
theorem dX12_one_191 : decode cX12_one 191 = .ok (.iconst 0, 1) := by decide +kernel
theorem dX12_one_192 : decode cX12_one 192 = .ok (.aload_n 0, 1) := by decide +kernel
theorem dX12_one_193 : decode cX12_one 193 = .ok (.iconst 0, 1) := by decide +kernel
theorem dX12_one_194 : decode cX12_one 194 = .ok (.sipush 999, 3) := by decide +kernel
theorem dX12_one_197 : decode cX12_one 197 = .ok (.invokevirtual 183, 3) := by decide +kernel
theorem dX12_one_200 : decode cX12_one 200 = .ok (.invokevirtual 239, 3) := by decide +kernel
theorem dX12_one_203 : decode cX12_one 203 = .ok (.return_, 1) := by decide +kernel
set_option maxRecDepth 100000 in
theorem T_X12_one_0 {G : GE} {d C S : Nat} {P : KN} : Snd G MX12_one (d + 1) C S 0 (RN P) (s_aload 0 (s_getI 11 5 (s_if_eq (s_aload 0 (s_callV G d MX12_blanks 0 11 (s_aload 0 (s_iconst 12 (s_iconst 5 (s_iconst 1 (s_iconst 19 (s_iconst 20 (s_iconst 0 (s_iconst 0 (s_callV G d MX12_isWord 7 11 (s_if_eq (s_aload 0 (s_iconst 13 (s_iconst 15 (s_iconst 19 (s_iconst 20 (s_iconst 0 (s_iconst 0 (s_iconst 0 (s_callV G d MX12_isWord 7 11 (s_if_eq (s_iconst (-1) (fun L st h => E G MX12_one (d + 1) C S 58 (msk [true, false, false] L) st h (RN P))) (s_iconst 7 (fun L st h => E G MX12_one (d + 1) C S 58 (msk [true, false, false] L) st h (RN P))))))))))))) (s_iconst 6 (fun L st h => E G MX12_one (d + 1) C S 58 (msk [true, false, false] L) st h (RN P))))))))))))))) (s_return P)))) := (e_aload_n dX12_one_0 rfl (e_getI rfl cl_11 (by decide) rfl q_1569 dX12_one_1 (e_if_eq (tgt := 8) dX12_one_4 (by decide) (e_aload_n dX12_one_8 rfl (e_callV cl_11 cal_X12_blanks q_1750 q_1752 q_55 dX12_one_9 (e_aload_n dX12_one_12 rfl (e_bipush (v := 12) dX12_one_13 (by decide) (e_iconst (v := 5) dX12_one_15 (by decide) (e_iconst (v := 1) dX12_one_16 (by decide) (e_bipush (v := 19) dX12_one_17 (by decide) (e_bipush (v := 20) dX12_one_19 (by decide) (e_iconst (v := 0) dX12_one_21 (by decide) (e_iconst (v := 0) dX12_one_22 (by decide) (e_callV cl_11 cal_X12_isWord q_1766 q_1768 q_59 dX12_one_23 (e_if_eq (tgt := 34) dX12_one_26 (by decide) (e_aload_n dX12_one_34 rfl (e_bipush (v := 13) dX12_one_35 (by decide) (e_bipush (v := 15) dX12_one_37 (by decide) (e_bipush (v := 19) dX12_one_39 (by decide) (e_bipush (v := 20) dX12_one_41 (by decide) (e_iconst (v := 0) dX12_one_43 (by decide) (e_iconst (v := 0) dX12_one_44 (by decide) (e_iconst (v := 0) dX12_one_45 (by decide) (e_callV cl_11 cal_X12_isWord q_1766 q_1768 q_59 dX12_one_46 (e_if_eq (tgt := 57) dX12_one_49 (by decide) (e_iconst (v := (-1)) dX12_one_57 (by decide) (e_msk [true, false, false])) (e_bipush (v := 7) dX12_one_52 (by decide) (e_goto (tgt := 58) dX12_one_54 (by decide) (e_msk [true, false, false]))))))))))))) (e_bipush (v := 6) dX12_one_29 (by decide) (e_goto (tgt := 58) dX12_one_31 (by decide) (e_msk [true, false, false]))))))))))))))) (e_return rfl dX12_one_7))))
set_option maxRecDepth 100000 in
theorem V_X12_one_0 {G : GE} {d : Nat} {P : KN} {a : Nat → Nat → Int32} {r : Nat → Nat → Value} {N : Nat} {l0 : Nat} (hs : (tyK l0 = (0, 11) ∧ l0 < N ∧ (((a l0 5) = 0 → (tyK l0 = (0, 11) ∧ l0 < N ∧ Sp G d 0 0 MX12_blanks [.ref l0] (a, r, N) (RN fun a1 r2 n3 => (tyK l0 = (0, 11) ∧ l0 < n3 ∧ Sp G d 0 0 MX12_isWord [.ref l0, .int 12, .int 5, .int 1, .int 19, .int 20, .int 0, .int 0] (a1, r2, n3) (RI fun v7 a4 r5 n6 => ((v7 = 0 → (tyK l0 = (0, 11) ∧ l0 < n6 ∧ Sp G d 0 0 MX12_isWord [.ref l0, .int 13, .int 15, .int 19, .int 20, .int 0, .int 0, .int 0] (a4, r5, n6) (RI fun v11 a8 r9 n10 => ((v11 = 0 → E G MX12_one (d + 1) 0 0 58 [.ref l0, .null, .null] [.int (-1)] (a8, r9, n10) (RN P)) ∧ (¬ v11 = 0 → E G MX12_one (d + 1) 0 0 58 [.ref l0, .null, .null] [.int 7] (a8, r9, n10) (RN P)))))) ∧ (¬ v7 = 0 → E G MX12_one (d + 1) 0 0 58 [.ref l0, .null, .null] [.int 6] (a4, r5, n6) (RN P)))))))) ∧ (¬ (a l0 5) = 0 → P a r N)))) : Sp G (d + 1) 0 0 MX12_one [.ref l0] (a, r, N) (RN P) := Sp.mk (mc := 0) (ms := 0) [.ref l0, .null, .null] rfl rfl rfl rfl (T_X12_one_0 (C := 0) (S := 0) _ _ _ hs)
set_option maxRecDepth 100000 in
theorem T_X12_one_58 {G : GE} {d C S : Nat} {P : KN} : Snd G MX12_one (d + 1) C S 58 (RN P) (s_istore 1 (s_iload 1 (s_iconst (-1) (s_ic_eq (s_aload 0 (s_aload 0 (s_getI 11 4 (s_callV G d MX12_byteAt 1 11 (s_iconst 40 (s_ic_ne (s_aload 0 (s_callV G d MX12_knownHere 0 11 (s_istore 2 (s_iload 2 (s_iconst (-1) (s_ic_eq (s_aload 0 (s_iconst 0 (s_aload 0 (s_iconst 0 (s_iconst 999 (s_callV G d MX12_numberHere 2 11 (s_callV G d MX12_notes 2 11 (s_return P)))))))) (s_aload 0 (s_iconst 1 (s_iload 2 (s_callV G d MX12_notes 2 11 (s_return P))))))))))) (s_aload 0 (s_callV G d MX12_opens 0 11 (s_if_ne (s_aload 0 (s_dup (s_getI 11 4 (s_iconst 1 (s_iadd (s_putI 11 4 (s_aload 0 (s_callV G d MX12_sum 0 11 (s_aload 0 (s_iconst 41 (s_callV G d MX12_sign 1 11 (s_aload 0 (s_dup (s_getI 11 8 (s_iconst 1 (s_isub (s_putI 11 8 (s_return P)))))))))))))))))) (s_return P)))))))))) (s_aload 0 (s_callV G d MX12_opens 0 11 (s_if_ne (s_aload 0 (s_callV G d MX12_skipWord 0 11 (s_aload 0 (s_iconst 91 (s_callV G d MX12_sign 1 11 (s_aload 0 (s_callV G d MX12_sum 0 11 (s_aload 0 (s_iconst 44 (s_callV G d MX12_sign 1 11 (s_aload 0 (s_callV G d MX12_sum 0 11 (s_aload 0 (s_iconst 93 (s_callV G d MX12_sign 1 11 (s_aload 0 (s_iload 1 (s_iconst 0 (s_callV G d MX12_notes 2 11 (s_aload 0 (s_dup (s_getI 11 8 (s_iconst 1 (s_isub (s_putI 11 8 (s_return P)))))))))))))))))))))))))) (s_return P)))))))) := (e_istore_n dX12_one_58 rfl (by decide) (e_iload_n dX12_one_59 rfl (e_iconst (v := (-1)) dX12_one_60 (by decide) (e_ic_eq (tgt := 119) dX12_one_61 (by decide) (e_aload_n dX12_one_119 rfl (e_aload_n dX12_one_120 rfl (e_getI rfl cl_11 (by decide) rfl q_1568 dX12_one_121 (e_callV cl_11 cal_X12_byteAt q_1754 q_1756 q_56 dX12_one_124 (e_bipush (v := 40) dX12_one_127 (by decide) (e_ic_ne (tgt := 171) dX12_one_129 (by decide) (e_aload_n dX12_one_171 rfl (e_callV cl_11 cal_X12_knownHere q_1835 q_1837 q_72 dX12_one_172 (e_istore_n dX12_one_175 rfl (by decide) (e_iload_n dX12_one_176 rfl (e_iconst (v := (-1)) dX12_one_177 (by decide) (e_ic_eq (tgt := 190) dX12_one_178 (by decide) (e_aload_n dX12_one_190 rfl (e_iconst (v := 0) dX12_one_191 (by decide) (e_aload_n dX12_one_192 rfl (e_iconst (v := 0) dX12_one_193 (by decide) (e_sipush (v := 999) dX12_one_194 (by decide) (e_callV cl_11 cal_X12_numberHere q_1791 q_1793 q_63 dX12_one_197 (e_callV cl_11 cal_X12_notes q_1831 q_1833 q_71 dX12_one_200 (e_return rfl dX12_one_203)))))))) (e_aload_n dX12_one_181 rfl (e_iconst (v := 1) dX12_one_182 (by decide) (e_iload_n dX12_one_183 rfl (e_callV cl_11 cal_X12_notes q_1831 q_1833 q_71 dX12_one_184 (e_goto (tgt := 203) dX12_one_187 (by decide) (e_return rfl dX12_one_203)))))))))))) (e_aload_n dX12_one_132 rfl (e_callV cl_11 cal_X12_opens q_1827 q_1829 q_70 dX12_one_133 (e_if_ne (tgt := 140) dX12_one_136 (by decide) (e_aload_n dX12_one_140 rfl (e_dup dX12_one_141 (e_getI rfl cl_11 (by decide) rfl q_1568 dX12_one_142 (e_iconst (v := 1) dX12_one_145 (by decide) (e_iadd dX12_one_146 (e_putI rfl cl_11 (by decide) rfl rfl rfl q_1568 dX12_one_147 (e_aload_n dX12_one_150 rfl (e_callV cl_11 cal_X12_sum q_1815 q_1817 q_67 dX12_one_151 (e_aload_n dX12_one_154 rfl (e_bipush (v := 41) dX12_one_155 (by decide) (e_callV cl_11 cal_X12_sign q_1803 q_1805 q_65 dX12_one_157 (e_aload_n dX12_one_160 rfl (e_dup dX12_one_161 (e_getI rfl cl_11 (by decide) rfl q_1572 dX12_one_162 (e_iconst (v := 1) dX12_one_165 (by decide) (e_isub dX12_one_166 (e_putI rfl cl_11 (by decide) rfl rfl rfl q_1572 dX12_one_167 (e_return rfl dX12_one_170)))))))))))))))))) (e_return rfl dX12_one_139)))))))))) (e_aload_n dX12_one_64 rfl (e_callV cl_11 cal_X12_opens q_1827 q_1829 q_70 dX12_one_65 (e_if_ne (tgt := 72) dX12_one_68 (by decide) (e_aload_n dX12_one_72 rfl (e_callV cl_11 cal_X12_skipWord q_1787 q_1789 q_62 dX12_one_73 (e_aload_n dX12_one_76 rfl (e_bipush (v := 91) dX12_one_77 (by decide) (e_callV cl_11 cal_X12_sign q_1803 q_1805 q_65 dX12_one_79 (e_aload_n dX12_one_82 rfl (e_callV cl_11 cal_X12_sum q_1815 q_1817 q_67 dX12_one_83 (e_aload_n dX12_one_86 rfl (e_bipush (v := 44) dX12_one_87 (by decide) (e_callV cl_11 cal_X12_sign q_1803 q_1805 q_65 dX12_one_89 (e_aload_n dX12_one_92 rfl (e_callV cl_11 cal_X12_sum q_1815 q_1817 q_67 dX12_one_93 (e_aload_n dX12_one_96 rfl (e_bipush (v := 93) dX12_one_97 (by decide) (e_callV cl_11 cal_X12_sign q_1803 q_1805 q_65 dX12_one_99 (e_aload_n dX12_one_102 rfl (e_iload_n dX12_one_103 rfl (e_iconst (v := 0) dX12_one_104 (by decide) (e_callV cl_11 cal_X12_notes q_1831 q_1833 q_71 dX12_one_105 (e_aload_n dX12_one_108 rfl (e_dup dX12_one_109 (e_getI rfl cl_11 (by decide) rfl q_1572 dX12_one_110 (e_iconst (v := 1) dX12_one_113 (by decide) (e_isub dX12_one_114 (e_putI rfl cl_11 (by decide) rfl rfl rfl q_1572 dX12_one_115 (e_return rfl dX12_one_118)))))))))))))))))))))))))) (e_return rfl dX12_one_71))))))))
set_option maxRecDepth 100000 in
theorem V_X12_one_58 {G : GE} {d C S : Nat} {P : KN} {a : Nat → Nat → Int32} {r : Nat → Nat → Value} {N : Nat} {l0 : Nat} {s0 : Int32} (hs : ((s0 = (-1) → (tyK l0 = (0, 11) ∧ l0 < N ∧ (tyK l0 = (0, 11) ∧ l0 < N ∧ Sp G d 0 0 MX12_byteAt [.ref l0, .int (a l0 4)] (a, r, N) (RI fun v4 a1 r2 n3 => ((¬ v4 = 40 → (tyK l0 = (0, 11) ∧ l0 < n3 ∧ Sp G d 0 0 MX12_knownHere [.ref l0] (a1, r2, n3) (RI fun v8 a5 r6 n7 => ((v8 = (-1) → (tyK l0 = (0, 11) ∧ l0 < n7 ∧ Sp G d 0 0 MX12_numberHere [.ref l0, .int 0, .int 999] (a5, r6, n7) (RI fun v12 a9 r10 n11 => (tyK l0 = (0, 11) ∧ l0 < n11 ∧ Sp G d 0 0 MX12_notes [.ref l0, .int 0, .int v12] (a9, r10, n11) (RN fun a13 r14 n15 => P a13 r14 n15))))) ∧ (¬ v8 = (-1) → (tyK l0 = (0, 11) ∧ l0 < n7 ∧ Sp G d 0 0 MX12_notes [.ref l0, .int 1, .int v8] (a5, r6, n7) (RN fun a16 r17 n18 => P a16 r17 n18))))))) ∧ (v4 = 40 → (tyK l0 = (0, 11) ∧ l0 < n3 ∧ Sp G d 0 0 MX12_opens [.ref l0] (a1, r2, n3) (RI fun v22 a19 r20 n21 => ((¬ v22 = 0 → (tyK l0 = (0, 11) ∧ l0 < n21 ∧ (tyK l0 = (0, 11) ∧ l0 < n21 ∧ ∀ a23, a23 = u2 a19 l0 4 ((a19 l0 4) + 1) → (tyK l0 = (0, 11) ∧ l0 < n21 ∧ Sp G d 0 0 MX12_sum [.ref l0] (a23, r20, n21) (RN fun a24 r25 n26 => (tyK l0 = (0, 11) ∧ l0 < n26 ∧ Sp G d 0 0 MX12_sign [.ref l0, .int 41] (a24, r25, n26) (RN fun a27 r28 n29 => (tyK l0 = (0, 11) ∧ l0 < n29 ∧ (tyK l0 = (0, 11) ∧ l0 < n29 ∧ ∀ a30, a30 = u2 a27 l0 8 ((a27 l0 8) - 1) → P a30 r28 n29))))))))) ∧ (v22 = 0 → P a19 r20 n21)))))))))) ∧ (¬ s0 = (-1) → (tyK l0 = (0, 11) ∧ l0 < N ∧ Sp G d 0 0 MX12_opens [.ref l0] (a, r, N) (RI fun v34 a31 r32 n33 => ((¬ v34 = 0 → (tyK l0 = (0, 11) ∧ l0 < n33 ∧ Sp G d 0 0 MX12_skipWord [.ref l0] (a31, r32, n33) (RN fun a35 r36 n37 => (tyK l0 = (0, 11) ∧ l0 < n37 ∧ Sp G d 0 0 MX12_sign [.ref l0, .int 91] (a35, r36, n37) (RN fun a38 r39 n40 => (tyK l0 = (0, 11) ∧ l0 < n40 ∧ Sp G d 0 0 MX12_sum [.ref l0] (a38, r39, n40) (RN fun a41 r42 n43 => (tyK l0 = (0, 11) ∧ l0 < n43 ∧ Sp G d 0 0 MX12_sign [.ref l0, .int 44] (a41, r42, n43) (RN fun a44 r45 n46 => (tyK l0 = (0, 11) ∧ l0 < n46 ∧ Sp G d 0 0 MX12_sum [.ref l0] (a44, r45, n46) (RN fun a47 r48 n49 => (tyK l0 = (0, 11) ∧ l0 < n49 ∧ Sp G d 0 0 MX12_sign [.ref l0, .int 93] (a47, r48, n49) (RN fun a50 r51 n52 => (tyK l0 = (0, 11) ∧ l0 < n52 ∧ Sp G d 0 0 MX12_notes [.ref l0, .int s0, .int 0] (a50, r51, n52) (RN fun a53 r54 n55 => (tyK l0 = (0, 11) ∧ l0 < n55 ∧ (tyK l0 = (0, 11) ∧ l0 < n55 ∧ ∀ a56, a56 = u2 a53 l0 8 ((a53 l0 8) - 1) → P a56 r54 n55))))))))))))))))) ∧ (v34 = 0 → P a31 r32 n33))))))) : E G MX12_one (d + 1) C S 58 [.ref l0, .null, .null] [.int s0] (a, r, N) (RN P) := T_X12_one_58 _ _ _ hs
