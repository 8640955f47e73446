theorem dL_law__0 : decode cL_law_ 0 = .ok (.new 8, 3) := by decide +kernel
theorem dL_law__3 : decode cL_law_ 3 = .ok (.dup, 1) := by decide +kernel
theorem dL_law__4 : decode cL_law_ 4 = .ok (.invokespecial 101, 3) := by decide +kernel
theorem dL_law__7 : decode cL_law_ 7 = .ok (.astore_n 1, 1) := by decide +kernel
theorem dL_law__8 : decode cL_law_ 8 = .ok (.new 102, 3) := by decide +kernel
theorem dL_law__11 : decode cL_law_ 11 = .ok (.dup, 1) := by decide +kernel
theorem dL_law__12 : decode cL_law_ 12 = .ok (.invokespecial 104, 3) := by decide +kernel
theorem dL_law__15 : decode cL_law_ 15 = .ok (.astore_n 2, 1) := by decide +kernel
theorem dL_law__16 : decode cL_law_ 16 = .ok (.iconst 1, 1) := by decide +kernel
theorem dL_law__17 : decode cL_law_ 17 = .ok (.newarray .long, 2) := by decide +kernel
theorem dL_law__19 : decode cL_law_ 19 = .ok (.astore_n 3, 1) := by decide +kernel
theorem dL_law__20 : decode cL_law_ 20 = .ok (.iconst 0, 1) := by decide +kernel
theorem dL_law__21 : decode cL_law_ 21 = .ok (.istore 4, 2) := by decide +kernel
theorem dL_law__23 : decode cL_law_ 23 = .ok (.iload 4, 2) := by decide +kernel
theorem dL_law__25 : decode cL_law_ 25 = .ok (.aload_n 0, 1) := by decide +kernel
theorem dL_law__26 : decode cL_law_ 26 = .ok (.arraylength, 1) := by decide +kernel
theorem dL_law__27 : decode cL_law_ 27 = .ok (.bipush 7, 2) := by decide +kernel
theorem dL_law__29 : decode cL_law_ 29 = .ok (.isub, 1) := by decide +kernel
theorem dL_law__30 : decode cL_law_ 30 = .ok (.if_icmp .gt 2223, 3) := by decide +kernel
theorem dL_law__33 : decode cL_law_ 33 = .ok (.aload_n 0, 1) := by decide +kernel
theorem dL_law__34 : decode cL_law_ 34 = .ok (.iload 4, 2) := by decide +kernel
theorem dL_law__36 : decode cL_law_ 36 = .ok (.iaload, 1) := by decide +kernel
theorem dL_law__37 : decode cL_law_ 37 = .ok (.bipush 63, 2) := by decide +kernel
theorem dL_law__39 : decode cL_law_ 39 = .ok (.iand, 1) := by decide +kernel
theorem dL_law__40 : decode cL_law_ 40 = .ok (.tableswitch 2207 0 39 #[176, 249, 305, 361, 417, 473, 486, 499, 555, 623, 691, 759, 827, 895, 951, 1007, 1020, 1076, 1089, 1145, 1158, 1226, 1282, 1338, 1394, 1450, 1463, 1531, 1599, 1655, 1668, 1681, 1773, 1853, 1921, 2013, 2131, 2144, 2157, 2182], 176) := by decide +kernel
theorem dL_law__216 : decode cL_law_ 216 = .ok (.aload_n 1, 1) := by decide +kernel
theorem dL_law__217 : decode cL_law_ 217 = .ok (.aload_n 0, 1) := by decide +kernel
theorem dL_law__218 : decode cL_law_ 218 = .ok (.iload 4, 2) := by decide +kernel
theorem dL_law__220 : decode cL_law_ 220 = .ok (.iconst 1, 1) := by decide +kernel
theorem dL_law__221 : decode cL_law_ 221 = .ok (.iadd, 1) := by decide +kernel
theorem dL_law__222 : decode cL_law_ 222 = .ok (.iaload, 1) := by decide +kernel
theorem dL_law__223 : decode cL_law_ 223 = .ok (.aload_n 0, 1) := by decide +kernel
theorem dL_law__224 : decode cL_law_ 224 = .ok (.iload 4, 2) := by decide +kernel
theorem dL_law__226 : decode cL_law_ 226 = .ok (.iconst 2, 1) := by decide +kernel
theorem dL_law__227 : decode cL_law_ 227 = .ok (.iadd, 1) := by decide +kernel
theorem dL_law__228 : decode cL_law_ 228 = .ok (.iaload, 1) := by decide +kernel
theorem dL_law__229 : decode cL_law_ 229 = .ok (.aload_n 0, 1) := by decide +kernel
theorem dL_law__230 : decode cL_law_ 230 = .ok (.iload 4, 2) := by decide +kernel
theorem dL_law__232 : decode cL_law_ 232 = .ok (.iconst 3, 1) := by decide +kernel
theorem dL_law__233 : decode cL_law_ 233 = .ok (.iadd, 1) := by decide +kernel
theorem dL_law__234 : decode cL_law_ 234 = .ok (.iaload, 1) := by decide +kernel
theorem dL_law__235 : decode cL_law_ 235 = .ok (.aload_n 0, 1) := by decide +kernel
theorem dL_law__236 : decode cL_law_ 236 = .ok (.iload 4, 2) := by decide +kernel
theorem dL_law__238 : decode cL_law_ 238 = .ok (.iconst 4, 1) := by decide +kernel
theorem dL_law__239 : decode cL_law_ 239 = .ok (.iadd, 1) := by decide +kernel
theorem dL_law__240 : decode cL_law_ 240 = .ok (.iaload, 1) := by decide +kernel
theorem dL_law__241 : decode cL_law_ 241 = .ok (.aload_n 0, 1) := by decide +kernel
theorem dL_law__242 : decode cL_law_ 242 = .ok (.iload 4, 2) := by decide +kernel
theorem dL_law__244 : decode cL_law_ 244 = .ok (.iconst 5, 1) := by decide +kernel
theorem dL_law__245 : decode cL_law_ 245 = .ok (.iadd, 1) := by decide +kernel
theorem dL_law__246 : decode cL_law_ 246 = .ok (.iaload, 1) := by decide +kernel
theorem dL_law__247 : decode cL_law_ 247 = .ok (.invokevirtual 105, 3) := by decide +kernel
theorem dL_law__250 : decode cL_law_ 250 = .ok (.aload_n 2, 1) := by decide +kernel
theorem dL_law__251 : decode cL_law_ 251 = .ok (.aload_n 0, 1) := by decide +kernel
theorem dL_law__252 : decode cL_law_ 252 = .ok (.iload 4, 2) := by decide +kernel
theorem dL_law__254 : decode cL_law_ 254 = .ok (.iconst 1, 1) := by decide +kernel
theorem dL_law__255 : decode cL_law_ 255 = .ok (.iadd, 1) := by decide +kernel
theorem dL_law__256 : decode cL_law_ 256 = .ok (.iaload, 1) := by decide +kernel
theorem dL_law__257 : decode cL_law_ 257 = .ok (.aload_n 0, 1) := by decide +kernel
theorem dL_law__258 : decode cL_law_ 258 = .ok (.iload 4, 2) := by decide +kernel
theorem dL_law__260 : decode cL_law_ 260 = .ok (.iconst 2, 1) := by decide +kernel
theorem dL_law__261 : decode cL_law_ 261 = .ok (.iadd, 1) := by decide +kernel
theorem dL_law__262 : decode cL_law_ 262 = .ok (.iaload, 1) := by decide +kernel
theorem dL_law__263 : decode cL_law_ 263 = .ok (.aload_n 0, 1) := by decide +kernel
theorem dL_law__264 : decode cL_law_ 264 = .ok (.iload 4, 2) := by decide +kernel
theorem dL_law__266 : decode cL_law_ 266 = .ok (.iconst 3, 1) := by decide +kernel
theorem dL_law__267 : decode cL_law_ 267 = .ok (.iadd, 1) := by decide +kernel
theorem dL_law__268 : decode cL_law_ 268 = .ok (.iaload, 1) := by decide +kernel
theorem dL_law__269 : decode cL_law_ 269 = .ok (.aload_n 0, 1) := by decide +kernel
theorem dL_law__270 : decode cL_law_ 270 = .ok (.iload 4, 2) := by decide +kernel
theorem dL_law__272 : decode cL_law_ 272 = .ok (.iconst 4, 1) := by decide +kernel
theorem dL_law__273 : decode cL_law_ 273 = .ok (.iadd, 1) := by decide +kernel
theorem dL_law__274 : decode cL_law_ 274 = .ok (.iaload, 1) := by decide +kernel
theorem dL_law__275 : decode cL_law_ 275 = .ok (.aload_n 0, 1) := by decide +kernel
theorem dL_law__276 : decode cL_law_ 276 = .ok (.iload 4, 2) := by decide +kernel
theorem dL_law__278 : decode cL_law_ 278 = .ok (.iconst 5, 1) := by decide +kernel
theorem dL_law__279 : decode cL_law_ 279 = .ok (.iadd, 1) := by decide +kernel
theorem dL_law__280 : decode cL_law_ 280 = .ok (.iaload, 1) := by decide +kernel
theorem dL_law__281 : decode cL_law_ 281 = .ok (.invokevirtual 109, 3) := by decide +kernel
theorem dL_law__284 : decode cL_law_ 284 = .ok (.if_icmp .eq 1963, 3) := by decide +kernel
theorem dL_law__287 : decode cL_law_ 287 = .ok (.iconst 0, 1) := by decide +kernel
theorem dL_law__288 : decode cL_law_ 288 = .ok (.ireturn, 1) := by decide +kernel
theorem dL_law__289 : decode cL_law_ 289 = .ok (.aload_n 1, 1) := by decide +kernel
theorem dL_law__290 : decode cL_law_ 290 = .ok (.aload_n 0, 1) := by decide +kernel
theorem dL_law__291 : decode cL_law_ 291 = .ok (.iload 4, 2) := by decide +kernel
theorem dL_law__293 : decode cL_law_ 293 = .ok (.iconst 1, 1) := by decide +kernel
theorem dL_law__294 : decode cL_law_ 294 = .ok (.iadd, 1) := by decide +kernel
theorem dL_law__295 : decode cL_law_ 295 = .ok (.iaload, 1) := by decide +kernel
theorem dL_law__296 : decode cL_law_ 296 = .ok (.aload_n 3, 1) := by decide +kernel
theorem dL_law__297 : decode cL_law_ 297 = .ok (.invokestatic 110, 3) := by decide +kernel
theorem dL_law__300 : decode cL_law_ 300 = .ok (.istore 5, 2) := by decide +kernel
theorem dL_law__302 : decode cL_law_ 302 = .ok (.aload_n 2, 1) := by decide +kernel
theorem dL_law__303 : decode cL_law_ 303 = .ok (.aload_n 0, 1) := by decide +kernel
theorem dL_law__304 : decode cL_law_ 304 = .ok (.iload 4, 2) := by decide +kernel
theorem dL_law__306 : decode cL_law_ 306 = .ok (.iconst 1, 1) := by decide +kernel
theorem dL_law__307 : decode cL_law_ 307 = .ok (.iadd, 1) := by decide +kernel
theorem dL_law__308 : decode cL_law_ 308 = .ok (.iaload, 1) := by decide +kernel
theorem dL_law__309 : decode cL_law_ 309 = .ok (.invokevirtual 115, 3) := by decide +kernel
theorem dL_law__312 : decode cL_law_ 312 = .ok (.istore 6, 2) := by decide +kernel
theorem dL_law__314 : decode cL_law_ 314 = .ok (.aload_n 2, 1) := by decide +kernel
theorem dL_law__315 : decode cL_law_ 315 = .ok (.invokevirtual 116, 3) := by decide +kernel
theorem dL_law__318 : decode cL_law_ 318 = .ok (.iload 5, 2) := by decide +kernel
theorem dL_law__320 : decode cL_law_ 320 = .ok (.if_icmp .eq 5, 3) := by decide +kernel
theorem dL_law__323 : decode cL_law_ 323 = .ok (.iconst 0, 1) := by decide +kernel
theorem dL_law__324 : decode cL_law_ 324 = .ok (.ireturn, 1) := by decide +kernel
theorem dL_law__325 : decode cL_law_ 325 = .ok (.iload 5, 2) := by decide +kernel
theorem dL_law__327 : decode cL_law_ 327 = .ok (.ifCond .ne 15, 3) := by decide +kernel
theorem dL_law__330 : decode cL_law_ 330 = .ok (.aload_n 3, 1) := by decide +kernel
theorem dL_law__331 : decode cL_law_ 331 = .ok (.iconst 0, 1) := by decide +kernel
theorem dL_law__332 : decode cL_law_ 332 = .ok (.laload, 1) := by decide +kernel
theorem dL_law__333 : decode cL_law_ 333 = .ok (.iload 6, 2) := by decide +kernel
theorem dL_law__335 : decode cL_law_ 335 = .ok (.i2l, 1) := by decide +kernel
theorem dL_law__336 : decode cL_law_ 336 = .ok (.lcmp, 1) := by decide +kernel
theorem dL_law__337 : decode cL_law_ 337 = .ok (.ifCond .eq 5, 3) := by decide +kernel
theorem dL_law__340 : decode cL_law_ 340 = .ok (.iconst 0, 1) := by decide +kernel
theorem dL_law__341 : decode cL_law_ 341 = .ok (.ireturn, 1) := by decide +kernel
theorem dL_law__342 : decode cL_law_ 342 = .ok (.goto 1905, 3) := by decide +kernel
theorem dL_law__345 : decode cL_law_ 345 = .ok (.aload_n 1, 1) := by decide +kernel
theorem dL_law__346 : decode cL_law_ 346 = .ok (.aload_n 0, 1) := by decide +kernel
theorem dL_law__347 : decode cL_law_ 347 = .ok (.iload 4, 2) := by decide +kernel
theorem dL_law__349 : decode cL_law_ 349 = .ok (.iconst 1, 1) := by decide +kernel
theorem dL_law__350 : decode cL_law_ 350 = .ok (.iadd, 1) := by decide +kernel
theorem dL_law__351 : decode cL_law_ 351 = .ok (.iaload, 1) := by decide +kernel
theorem dL_law__352 : decode cL_law_ 352 = .ok (.aload_n 3, 1) := by decide +kernel
theorem dL_law__353 : decode cL_law_ 353 = .ok (.invokestatic 120, 3) := by decide +kernel
theorem dL_law__356 : decode cL_law_ 356 = .ok (.istore 5, 2) := by decide +kernel
theorem dL_law__358 : decode cL_law_ 358 = .ok (.aload_n 2, 1) := by decide +kernel
theorem dL_law__359 : decode cL_law_ 359 = .ok (.aload_n 0, 1) := by decide +kernel
theorem dL_law__360 : decode cL_law_ 360 = .ok (.iload 4, 2) := by decide +kernel
theorem dL_law__362 : decode cL_law_ 362 = .ok (.iconst 1, 1) := by decide +kernel
theorem dL_law__363 : decode cL_law_ 363 = .ok (.iadd, 1) := by decide +kernel
theorem dL_law__364 : decode cL_law_ 364 = .ok (.iaload, 1) := by decide +kernel
theorem dL_law__365 : decode cL_law_ 365 = .ok (.invokevirtual 122, 3) := by decide +kernel
theorem dL_law__368 : decode cL_law_ 368 = .ok (.istore 6, 2) := by decide +kernel
theorem dL_law__370 : decode cL_law_ 370 = .ok (.aload_n 2, 1) := by decide +kernel
theorem dL_law__371 : decode cL_law_ 371 = .ok (.invokevirtual 116, 3) := by decide +kernel
theorem dL_law__374 : decode cL_law_ 374 = .ok (.iload 5, 2) := by decide +kernel
theorem dL_law__376 : decode cL_law_ 376 = .ok (.if_icmp .eq 5, 3) := by decide +kernel
theorem dL_law__379 : decode cL_law_ 379 = .ok (.iconst 0, 1) := by decide +kernel
theorem dL_law__380 : decode cL_law_ 380 = .ok (.ireturn, 1) := by decide +kernel
theorem dL_law__381 : decode cL_law_ 381 = .ok (.iload 5, 2) := by decide +kernel
theorem dL_law__383 : decode cL_law_ 383 = .ok (.ifCond .ne 15, 3) := by decide +kernel
theorem dL_law__386 : decode cL_law_ 386 = .ok (.aload_n 3, 1) := by decide +kernel
theorem dL_law__387 : decode cL_law_ 387 = .ok (.iconst 0, 1) := by decide +kernel
theorem dL_law__388 : decode cL_law_ 388 = .ok (.laload, 1) := by decide +kernel
theorem dL_law__389 : decode cL_law_ 389 = .ok (.iload 6, 2) := by decide +kernel
theorem dL_law__391 : decode cL_law_ 391 = .ok (.i2l, 1) := by decide +kernel
theorem dL_law__392 : decode cL_law_ 392 = .ok (.lcmp, 1) := by decide +kernel
theorem dL_law__393 : decode cL_law_ 393 = .ok (.ifCond .eq 5, 3) := by decide +kernel
theorem dL_law__396 : decode cL_law_ 396 = .ok (.iconst 0, 1) := by decide +kernel
theorem dL_law__397 : decode cL_law_ 397 = .ok (.ireturn, 1) := by decide +kernel
theorem dL_law__398 : decode cL_law_ 398 = .ok (.goto 1849, 3) := by decide +kernel
theorem dL_law__401 : decode cL_law_ 401 = .ok (.aload_n 1, 1) := by decide +kernel
theorem dL_law__402 : decode cL_law_ 402 = .ok (.aload_n 0, 1) := by decide +kernel
theorem dL_law__403 : decode cL_law_ 403 = .ok (.iload 4, 2) := by decide +kernel
theorem dL_law__405 : decode cL_law_ 405 = .ok (.iconst 1, 1) := by decide +kernel
theorem dL_law__406 : decode cL_law_ 406 = .ok (.iadd, 1) := by decide +kernel
theorem dL_law__407 : decode cL_law_ 407 = .ok (.iaload, 1) := by decide +kernel
theorem dL_law__408 : decode cL_law_ 408 = .ok (.aload_n 3, 1) := by decide +kernel
theorem dL_law__409 : decode cL_law_ 409 = .ok (.invokestatic 123, 3) := by decide +kernel
theorem dL_law__412 : decode cL_law_ 412 = .ok (.istore 5, 2) := by decide +kernel
theorem dL_law__414 : decode cL_law_ 414 = .ok (.aload_n 2, 1) := by decide +kernel
theorem dL_law__415 : decode cL_law_ 415 = .ok (.aload_n 0, 1) := by decide +kernel
theorem dL_law__416 : decode cL_law_ 416 = .ok (.iload 4, 2) := by decide +kernel
theorem dL_law__418 : decode cL_law_ 418 = .ok (.iconst 1, 1) := by decide +kernel
theorem dL_law__419 : decode cL_law_ 419 = .ok (.iadd, 1) := by decide +kernel
theorem dL_law__420 : decode cL_law_ 420 = .ok (.iaload, 1) := by decide +kernel
theorem dL_law__421 : decode cL_law_ 421 = .ok (.invokevirtual 125, 3) := by decide +kernel
theorem dL_law__424 : decode cL_law_ 424 = .ok (.istore 6, 2) := by decide +kernel
theorem dL_law__426 : decode cL_law_ 426 = .ok (.aload_n 2, 1) := by decide +kernel
theorem dL_law__427 : decode cL_law_ 427 = .ok (.invokevirtual 116, 3) := by decide +kernel
theorem dL_law__430 : decode cL_law_ 430 = .ok (.iload 5, 2) := by decide +kernel
theorem dL_law__432 : decode cL_law_ 432 = .ok (.if_icmp .eq 5, 3) := by decide +kernel
theorem dL_law__435 : decode cL_law_ 435 = .ok (.iconst 0, 1) := by decide +kernel
theorem dL_law__436 : decode cL_law_ 436 = .ok (.ireturn, 1) := by decide +kernel
theorem dL_law__437 : decode cL_law_ 437 = .ok (.iload 5, 2) := by decide +kernel
theorem dL_law__439 : decode cL_law_ 439 = .ok (.ifCond .ne 15, 3) := by decide +kernel
theorem dL_law__442 : decode cL_law_ 442 = .ok (.aload_n 3, 1) := by decide +kernel
theorem dL_law__443 : decode cL_law_ 443 = .ok (.iconst 0, 1) := by decide +kernel
theorem dL_law__444 : decode cL_law_ 444 = .ok (.laload, 1) := by decide +kernel
theorem dL_law__445 : decode cL_law_ 445 = .ok (.iload 6, 2) := by decide +kernel
theorem dL_law__447 : decode cL_law_ 447 = .ok (.i2l, 1) := by decide +kernel
theorem dL_law__448 : decode cL_law_ 448 = .ok (.lcmp, 1) := by decide +kernel
theorem dL_law__449 : decode cL_law_ 449 = .ok (.ifCond .eq 5, 3) := by decide +kernel
theorem dL_law__452 : decode cL_law_ 452 = .ok (.iconst 0, 1) := by decide +kernel
theorem dL_law__453 : decode cL_law_ 453 = .ok (.ireturn, 1) := by decide +kernel
theorem dL_law__454 : decode cL_law_ 454 = .ok (.goto 1793, 3) := by decide +kernel
theorem dL_law__457 : decode cL_law_ 457 = .ok (.aload_n 1, 1) := by decide +kernel
theorem dL_law__458 : decode cL_law_ 458 = .ok (.aload_n 0, 1) := by decide +kernel
theorem dL_law__459 : decode cL_law_ 459 = .ok (.iload 4, 2) := by decide +kernel
theorem dL_law__461 : decode cL_law_ 461 = .ok (.iconst 1, 1) := by decide +kernel
theorem dL_law__462 : decode cL_law_ 462 = .ok (.iadd, 1) := by decide +kernel
theorem dL_law__463 : decode cL_law_ 463 = .ok (.iaload, 1) := by decide +kernel
theorem dL_law__464 : decode cL_law_ 464 = .ok (.aload_n 3, 1) := by decide +kernel
theorem dL_law__465 : decode cL_law_ 465 = .ok (.invokestatic 126, 3) := by decide +kernel
theorem dL_law__468 : decode cL_law_ 468 = .ok (.istore 5, 2) := by decide +kernel
theorem dL_law__470 : decode cL_law_ 470 = .ok (.aload_n 2, 1) := by decide +kernel
theorem dL_law__471 : decode cL_law_ 471 = .ok (.aload_n 0, 1) := by decide +kernel
theorem dL_law__472 : decode cL_law_ 472 = .ok (.iload 4, 2) := by decide +kernel
theorem dL_law__474 : decode cL_law_ 474 = .ok (.iconst 1, 1) := by decide +kernel
theorem dL_law__475 : decode cL_law_ 475 = .ok (.iadd, 1) := by decide +kernel
theorem dL_law__476 : decode cL_law_ 476 = .ok (.iaload, 1) := by decide +kernel
theorem dL_law__477 : decode cL_law_ 477 = .ok (.invokevirtual 128, 3) := by decide +kernel
theorem dL_law__480 : decode cL_law_ 480 = .ok (.istore 6, 2) := by decide +kernel
theorem dL_law__482 : decode cL_law_ 482 = .ok (.aload_n 2, 1) := by decide +kernel
theorem dL_law__483 : decode cL_law_ 483 = .ok (.invokevirtual 116, 3) := by decide +kernel
theorem dL_law__486 : decode cL_law_ 486 = .ok (.iload 5, 2) := by decide +kernel
theorem dL_law__488 : decode cL_law_ 488 = .ok (.if_icmp .eq 5, 3) := by decide +kernel
theorem dL_law__491 : decode cL_law_ 491 = .ok (.iconst 0, 1) := by decide +kernel
theorem dL_law__492 : decode cL_law_ 492 = .ok (.ireturn, 1) := by decide +kernel
theorem dL_law__493 : decode cL_law_ 493 = .ok (.iload 5, 2) := by decide +kernel
theorem dL_law__495 : decode cL_law_ 495 = .ok (.ifCond .ne 15, 3) := by decide +kernel
theorem dL_law__498 : decode cL_law_ 498 = .ok (.aload_n 3, 1) := by decide +kernel
theorem dL_law__499 : decode cL_law_ 499 = .ok (.iconst 0, 1) := by decide +kernel
theorem dL_law__500 : decode cL_law_ 500 = .ok (.laload, 1) := by decide +kernel
theorem dL_law__501 : decode cL_law_ 501 = .ok (.iload 6, 2) := by decide +kernel
theorem dL_law__503 : decode cL_law_ 503 = .ok (.i2l, 1) := by decide +kernel
theorem dL_law__504 : decode cL_law_ 504 = .ok (.lcmp, 1) := by decide +kernel
theorem dL_law__505 : decode cL_law_ 505 = .ok (.ifCond .eq 5, 3) := by decide +kernel
theorem dL_law__508 : decode cL_law_ 508 = .ok (.iconst 0, 1) := by decide +kernel
theorem dL_law__509 : decode cL_law_ 509 = .ok (.ireturn, 1) := by decide +kernel
theorem dL_law__510 : decode cL_law_ 510 = .ok (.goto 1737, 3) := by decide +kernel
theorem dL_law__513 : decode cL_law_ 513 = .ok (.aload_n 1, 1) := by decide +kernel
theorem dL_law__514 : decode cL_law_ 514 = .ok (.invokevirtual 129, 3) := by decide +kernel
theorem dL_law__517 : decode cL_law_ 517 = .ok (.aload_n 2, 1) := by decide +kernel
theorem dL_law__518 : decode cL_law_ 518 = .ok (.invokevirtual 132, 3) := by decide +kernel
theorem dL_law__521 : decode cL_law_ 521 = .ok (.if_icmp .eq 1726, 3) := by decide +kernel
theorem dL_law__524 : decode cL_law_ 524 = .ok (.iconst 0, 1) := by decide +kernel
theorem dL_law__525 : decode cL_law_ 525 = .ok (.ireturn, 1) := by decide +kernel
theorem dL_law__526 : decode cL_law_ 526 = .ok (.aload_n 1, 1) := by decide +kernel
theorem dL_law__527 : decode cL_law_ 527 = .ok (.invokevirtual 133, 3) := by decide +kernel
theorem dL_law__530 : decode cL_law_ 530 = .ok (.aload_n 2, 1) := by decide +kernel
theorem dL_law__531 : decode cL_law_ 531 = .ok (.invokevirtual 136, 3) := by decide +kernel
theorem dL_law__534 : decode cL_law_ 534 = .ok (.if_icmp .eq 1713, 3) := by decide +kernel
theorem dL_law__537 : decode cL_law_ 537 = .ok (.iconst 0, 1) := by decide +kernel
theorem dL_law__538 : decode cL_law_ 538 = .ok (.ireturn, 1) := by decide +kernel
theorem dL_law__539 : decode cL_law_ 539 = .ok (.aload_n 1, 1) := by decide +kernel
theorem dL_law__540 : decode cL_law_ 540 = .ok (.aload_n 0, 1) := by decide +kernel
theorem dL_law__541 : decode cL_law_ 541 = .ok (.iload 4, 2) := by decide +kernel
theorem dL_law__543 : decode cL_law_ 543 = .ok (.iconst 1, 1) := by decide +kernel
theorem dL_law__544 : decode cL_law_ 544 = .ok (.iadd, 1) := by decide +kernel
theorem dL_law__545 : decode cL_law_ 545 = .ok (.iaload, 1) := by decide +kernel
theorem dL_law__546 : decode cL_law_ 546 = .ok (.aload_n 3, 1) := by decide +kernel
theorem dL_law__547 : decode cL_law_ 547 = .ok (.invokestatic 137, 3) := by decide +kernel
theorem dL_law__550 : decode cL_law_ 550 = .ok (.istore 5, 2) := by decide +kernel
theorem dL_law__552 : decode cL_law_ 552 = .ok (.aload_n 2, 1) := by decide +kernel
theorem dL_law__553 : decode cL_law_ 553 = .ok (.aload_n 0, 1) := by decide +kernel
theorem dL_law__554 : decode cL_law_ 554 = .ok (.iload 4, 2) := by decide +kernel
theorem dL_law__556 : decode cL_law_ 556 = .ok (.iconst 1, 1) := by decide +kernel
theorem dL_law__557 : decode cL_law_ 557 = .ok (.iadd, 1) := by decide +kernel
theorem dL_law__558 : decode cL_law_ 558 = .ok (.iaload, 1) := by decide +kernel
theorem dL_law__559 : decode cL_law_ 559 = .ok (.invokevirtual 139, 3) := by decide +kernel
theorem dL_law__562 : decode cL_law_ 562 = .ok (.istore 6, 2) := by decide +kernel
theorem dL_law__564 : decode cL_law_ 564 = .ok (.aload_n 2, 1) := by decide +kernel
theorem dL_law__565 : decode cL_law_ 565 = .ok (.invokevirtual 116, 3) := by decide +kernel
theorem dL_law__568 : decode cL_law_ 568 = .ok (.iload 5, 2) := by decide +kernel
theorem dL_law__570 : decode cL_law_ 570 = .ok (.if_icmp .eq 5, 3) := by decide +kernel
theorem dL_law__573 : decode cL_law_ 573 = .ok (.iconst 0, 1) := by decide +kernel
theorem dL_law__574 : decode cL_law_ 574 = .ok (.ireturn, 1) := by decide +kernel
theorem dL_law__575 : decode cL_law_ 575 = .ok (.iload 5, 2) := by decide +kernel
theorem dL_law__577 : decode cL_law_ 577 = .ok (.ifCond .ne 15, 3) := by decide +kernel
theorem dL_law__580 : decode cL_law_ 580 = .ok (.aload_n 3, 1) := by decide +kernel
theorem dL_law__581 : decode cL_law_ 581 = .ok (.iconst 0, 1) := by decide +kernel
theorem dL_law__582 : decode cL_law_ 582 = .ok (.laload, 1) := by decide +kernel
theorem dL_law__583 : decode cL_law_ 583 = .ok (.iload 6, 2) := by decide +kernel
theorem dL_law__585 : decode cL_law_ 585 = .ok (.i2l, 1) := by decide +kernel
theorem dL_law__586 : decode cL_law_ 586 = .ok (.lcmp, 1) := by decide +kernel
theorem dL_law__587 : decode cL_law_ 587 = .ok (.ifCond .eq 5, 3) := by decide +kernel
theorem dL_law__590 : decode cL_law_ 590 = .ok (.iconst 0, 1) := by decide +kernel
theorem dL_law__591 : decode cL_law_ 591 = .ok (.ireturn, 1) := by decide +kernel
theorem dL_law__592 : decode cL_law_ 592 = .ok (.goto 1655, 3) := by decide +kernel
theorem dL_law__595 : decode cL_law_ 595 = .ok (.aload_n 1, 1) := by decide +kernel
theorem dL_law__596 : decode cL_law_ 596 = .ok (.aload_n 0, 1) := by decide +kernel
theorem dL_law__597 : decode cL_law_ 597 = .ok (.iload 4, 2) := by decide +kernel
theorem dL_law__599 : decode cL_law_ 599 = .ok (.iconst 1, 1) := by decide +kernel
theorem dL_law__600 : decode cL_law_ 600 = .ok (.iadd, 1) := by decide +kernel
theorem dL_law__601 : decode cL_law_ 601 = .ok (.iaload, 1) := by decide +kernel
theorem dL_law__602 : decode cL_law_ 602 = .ok (.aload_n 0, 1) := by decide +kernel
theorem dL_law__603 : decode cL_law_ 603 = .ok (.iload 4, 2) := by decide +kernel
theorem dL_law__605 : decode cL_law_ 605 = .ok (.iconst 2, 1) := by decide +kernel
theorem dL_law__606 : decode cL_law_ 606 = .ok (.iadd, 1) := by decide +kernel
theorem dL_law__607 : decode cL_law_ 607 = .ok (.iaload, 1) := by decide +kernel
theorem dL_law__608 : decode cL_law_ 608 = .ok (.aload_n 3, 1) := by decide +kernel
theorem dL_law__609 : decode cL_law_ 609 = .ok (.invokestatic 140, 3) := by decide +kernel
theorem dL_law__612 : decode cL_law_ 612 = .ok (.istore 5, 2) := by decide +kernel
theorem dL_law__614 : decode cL_law_ 614 = .ok (.aload_n 2, 1) := by decide +kernel
theorem dL_law__615 : decode cL_law_ 615 = .ok (.aload_n 0, 1) := by decide +kernel
theorem dL_law__616 : decode cL_law_ 616 = .ok (.iload 4, 2) := by decide +kernel
theorem dL_law__618 : decode cL_law_ 618 = .ok (.iconst 1, 1) := by decide +kernel
theorem dL_law__619 : decode cL_law_ 619 = .ok (.iadd, 1) := by decide +kernel
theorem dL_law__620 : decode cL_law_ 620 = .ok (.iaload, 1) := by decide +kernel
theorem dL_law__621 : decode cL_law_ 621 = .ok (.aload_n 0, 1) := by decide +kernel
theorem dL_law__622 : decode cL_law_ 622 = .ok (.iload 4, 2) := by decide +kernel
theorem dL_law__624 : decode cL_law_ 624 = .ok (.iconst 2, 1) := by decide +kernel
theorem dL_law__625 : decode cL_law_ 625 = .ok (.iadd, 1) := by decide +kernel
theorem dL_law__626 : decode cL_law_ 626 = .ok (.iaload, 1) := by decide +kernel
theorem dL_law__627 : decode cL_law_ 627 = .ok (.invokevirtual 143, 3) := by decide +kernel
theorem dL_law__630 : decode cL_law_ 630 = .ok (.istore 6, 2) := by decide +kernel
theorem dL_law__632 : decode cL_law_ 632 = .ok (.aload_n 2, 1) := by decide +kernel
theorem dL_law__633 : decode cL_law_ 633 = .ok (.invokevirtual 116, 3) := by decide +kernel
theorem dL_law__636 : decode cL_law_ 636 = .ok (.iload 5, 2) := by decide +kernel
theorem dL_law__638 : decode cL_law_ 638 = .ok (.if_icmp .eq 5, 3) := by decide +kernel
theorem dL_law__641 : decode cL_law_ 641 = .ok (.iconst 0, 1) := by decide +kernel
theorem dL_law__642 : decode cL_law_ 642 = .ok (.ireturn, 1) := by decide +kernel
theorem dL_law__643 : decode cL_law_ 643 = .ok (.iload 5, 2) := by decide +kernel
theorem dL_law__645 : decode cL_law_ 645 = .ok (.ifCond .ne 15, 3) := by decide +kernel
theorem dL_law__648 : decode cL_law_ 648 = .ok (.aload_n 3, 1) := by decide +kernel
theorem dL_law__649 : decode cL_law_ 649 = .ok (.iconst 0, 1) := by decide +kernel
theorem dL_law__650 : decode cL_law_ 650 = .ok (.laload, 1) := by decide +kernel
theorem dL_law__651 : decode cL_law_ 651 = .ok (.iload 6, 2) := by decide +kernel
theorem dL_law__653 : decode cL_law_ 653 = .ok (.i2l, 1) := by decide +kernel
theorem dL_law__654 : decode cL_law_ 654 = .ok (.lcmp, 1) := by decide +kernel
theorem dL_law__655 : decode cL_law_ 655 = .ok (.ifCond .eq 5, 3) := by decide +kernel
theorem dL_law__658 : decode cL_law_ 658 = .ok (.iconst 0, 1) := by decide +kernel
theorem dL_law__659 : decode cL_law_ 659 = .ok (.ireturn, 1) := by decide +kernel
theorem dL_law__660 : decode cL_law_ 660 = .ok (.goto 1587, 3) := by decide +kernel
theorem dL_law__663 : decode cL_law_ 663 = .ok (.aload_n 1, 1) := by decide +kernel
theorem dL_law__664 : decode cL_law_ 664 = .ok (.aload_n 0, 1) := by decide +kernel
theorem dL_law__665 : decode cL_law_ 665 = .ok (.iload 4, 2) := by decide +kernel
theorem dL_law__667 : decode cL_law_ 667 = .ok (.iconst 1, 1) := by decide +kernel
theorem dL_law__668 : decode cL_law_ 668 = .ok (.iadd, 1) := by decide +kernel
theorem dL_law__669 : decode cL_law_ 669 = .ok (.iaload, 1) := by decide +kernel
theorem dL_law__670 : decode cL_law_ 670 = .ok (.aload_n 0, 1) := by decide +kernel
theorem dL_law__671 : decode cL_law_ 671 = .ok (.iload 4, 2) := by decide +kernel
theorem dL_law__673 : decode cL_law_ 673 = .ok (.iconst 2, 1) := by decide +kernel
theorem dL_law__674 : decode cL_law_ 674 = .ok (.iadd, 1) := by decide +kernel
theorem dL_law__675 : decode cL_law_ 675 = .ok (.iaload, 1) := by decide +kernel
theorem dL_law__676 : decode cL_law_ 676 = .ok (.aload_n 3, 1) := by decide +kernel
theorem dL_law__677 : decode cL_law_ 677 = .ok (.invokestatic 144, 3) := by decide +kernel
theorem dL_law__680 : decode cL_law_ 680 = .ok (.istore 5, 2) := by decide +kernel
theorem dL_law__682 : decode cL_law_ 682 = .ok (.aload_n 2, 1) := by decide +kernel
theorem dL_law__683 : decode cL_law_ 683 = .ok (.aload_n 0, 1) := by decide +kernel
theorem dL_law__684 : decode cL_law_ 684 = .ok (.iload 4, 2) := by decide +kernel
theorem dL_law__686 : decode cL_law_ 686 = .ok (.iconst 1, 1) := by decide +kernel
theorem dL_law__687 : decode cL_law_ 687 = .ok (.iadd, 1) := by decide +kernel
theorem dL_law__688 : decode cL_law_ 688 = .ok (.iaload, 1) := by decide +kernel
theorem dL_law__689 : decode cL_law_ 689 = .ok (.aload_n 0, 1) := by decide +kernel
theorem dL_law__690 : decode cL_law_ 690 = .ok (.iload 4, 2) := by decide +kernel
theorem dL_law__692 : decode cL_law_ 692 = .ok (.iconst 2, 1) := by decide +kernel
theorem dL_law__693 : decode cL_law_ 693 = .ok (.iadd, 1) := by decide +kernel
theorem dL_law__694 : decode cL_law_ 694 = .ok (.iaload, 1) := by decide +kernel
theorem dL_law__695 : decode cL_law_ 695 = .ok (.invokevirtual 146, 3) := by decide +kernel
theorem dL_law__698 : decode cL_law_ 698 = .ok (.istore 6, 2) := by decide +kernel
theorem dL_law__700 : decode cL_law_ 700 = .ok (.aload_n 2, 1) := by decide +kernel
theorem dL_law__701 : decode cL_law_ 701 = .ok (.invokevirtual 116, 3) := by decide +kernel
theorem dL_law__704 : decode cL_law_ 704 = .ok (.iload 5, 2) := by decide +kernel
theorem dL_law__706 : decode cL_law_ 706 = .ok (.if_icmp .eq 5, 3) := by decide +kernel
theorem dL_law__709 : decode cL_law_ 709 = .ok (.iconst 0, 1) := by decide +kernel
theorem dL_law__710 : decode cL_law_ 710 = .ok (.ireturn, 1) := by decide +kernel
theorem dL_law__711 : decode cL_law_ 711 = .ok (.iload 5, 2) := by decide +kernel
theorem dL_law__713 : decode cL_law_ 713 = .ok (.ifCond .ne 15, 3) := by decide +kernel
theorem dL_law__716 : decode cL_law_ 716 = .ok (.aload_n 3, 1) := by decide +kernel
theorem dL_law__717 : decode cL_law_ 717 = .ok (.iconst 0, 1) := by decide +kernel
theorem dL_law__718 : decode cL_law_ 718 = .ok (.laload, 1) := by decide +kernel
theorem dL_law__719 : decode cL_law_ 719 = .ok (.iload 6, 2) := by decide +kernel
theorem dL_law__721 : decode cL_law_ 721 = .ok (.i2l, 1) := by decide +kernel
theorem dL_law__722 : decode cL_law_ 722 = .ok (.lcmp, 1) := by decide +kernel
theorem dL_law__723 : decode cL_law_ 723 = .ok (.ifCond .eq 5, 3) := by decide +kernel
theorem dL_law__726 : decode cL_law_ 726 = .ok (.iconst 0, 1) := by decide +kernel
theorem dL_law__727 : decode cL_law_ 727 = .ok (.ireturn, 1) := by decide +kernel
theorem dL_law__728 : decode cL_law_ 728 = .ok (.goto 1519, 3) := by decide +kernel
theorem dL_law__731 : decode cL_law_ 731 = .ok (.aload_n 1, 1) := by decide +kernel
theorem dL_law__732 : decode cL_law_ 732 = .ok (.aload_n 0, 1) := by decide +kernel
theorem dL_law__733 : decode cL_law_ 733 = .ok (.iload 4, 2) := by decide +kernel
theorem dL_law__735 : decode cL_law_ 735 = .ok (.iconst 1, 1) := by decide +kernel
theorem dL_law__736 : decode cL_law_ 736 = .ok (.iadd, 1) := by decide +kernel
theorem dL_law__737 : decode cL_law_ 737 = .ok (.iaload, 1) := by decide +kernel
theorem dL_law__738 : decode cL_law_ 738 = .ok (.aload_n 0, 1) := by decide +kernel
theorem dL_law__739 : decode cL_law_ 739 = .ok (.iload 4, 2) := by decide +kernel
theorem dL_law__741 : decode cL_law_ 741 = .ok (.iconst 2, 1) := by decide +kernel
theorem dL_law__742 : decode cL_law_ 742 = .ok (.iadd, 1) := by decide +kernel
theorem dL_law__743 : decode cL_law_ 743 = .ok (.iaload, 1) := by decide +kernel
theorem dL_law__744 : decode cL_law_ 744 = .ok (.aload_n 3, 1) := by decide +kernel
theorem dL_law__745 : decode cL_law_ 745 = .ok (.invokestatic 147, 3) := by decide +kernel
theorem dL_law__748 : decode cL_law_ 748 = .ok (.istore 5, 2) := by decide +kernel
theorem dL_law__750 : decode cL_law_ 750 = .ok (.aload_n 2, 1) := by decide +kernel
theorem dL_law__751 : decode cL_law_ 751 = .ok (.aload_n 0, 1) := by decide +kernel
theorem dL_law__752 : decode cL_law_ 752 = .ok (.iload 4, 2) := by decide +kernel
theorem dL_law__754 : decode cL_law_ 754 = .ok (.iconst 1, 1) := by decide +kernel
theorem dL_law__755 : decode cL_law_ 755 = .ok (.iadd, 1) := by decide +kernel
theorem dL_law__756 : decode cL_law_ 756 = .ok (.iaload, 1) := by decide +kernel
theorem dL_law__757 : decode cL_law_ 757 = .ok (.aload_n 0, 1) := by decide +kernel
theorem dL_law__758 : decode cL_law_ 758 = .ok (.iload 4, 2) := by decide +kernel
theorem dL_law__760 : decode cL_law_ 760 = .ok (.iconst 2, 1) := by decide +kernel
theorem dL_law__761 : decode cL_law_ 761 = .ok (.iadd, 1) := by decide +kernel
theorem dL_law__762 : decode cL_law_ 762 = .ok (.iaload, 1) := by decide +kernel
theorem dL_law__763 : decode cL_law_ 763 = .ok (.invokevirtual 149, 3) := by decide +kernel
theorem dL_law__766 : decode cL_law_ 766 = .ok (.istore 6, 2) := by decide +kernel
theorem dL_law__768 : decode cL_law_ 768 = .ok (.aload_n 2, 1) := by decide +kernel
theorem dL_law__769 : decode cL_law_ 769 = .ok (.invokevirtual 116, 3) := by decide +kernel
theorem dL_law__772 : decode cL_law_ 772 = .ok (.iload 5, 2) := by decide +kernel
theorem dL_law__774 : decode cL_law_ 774 = .ok (.if_icmp .eq 5, 3) := by decide +kernel
theorem dL_law__777 : decode cL_law_ 777 = .ok (.iconst 0, 1) := by decide +kernel
theorem dL_law__778 : decode cL_law_ 778 = .ok (.ireturn, 1) := by decide +kernel
theorem dL_law__779 : decode cL_law_ 779 = .ok (.iload 5, 2) := by decide +kernel
theorem dL_law__781 : decode cL_law_ 781 = .ok (.ifCond .ne 15, 3) := by decide +kernel
theorem dL_law__784 : decode cL_law_ 784 = .ok (.aload_n 3, 1) := by decide +kernel
theorem dL_law__785 : decode cL_law_ 785 = .ok (.iconst 0, 1) := by decide +kernel
theorem dL_law__786 : decode cL_law_ 786 = .ok (.laload, 1) := by decide +kernel
theorem dL_law__787 : decode cL_law_ 787 = .ok (.iload 6, 2) := by decide +kernel
theorem dL_law__789 : decode cL_law_ 789 = .ok (.i2l, 1) := by decide +kernel
theorem dL_law__790 : decode cL_law_ 790 = .ok (.lcmp, 1) := by decide +kernel
theorem dL_law__791 : decode cL_law_ 791 = .ok (.ifCond .eq 5, 3) := by decide +kernel
theorem dL_law__794 : decode cL_law_ 794 = .ok (.iconst 0, 1) := by decide +kernel
theorem dL_law__795 : decode cL_law_ 795 = .ok (.ireturn, 1) := by decide +kernel
theorem dL_law__796 : decode cL_law_ 796 = .ok (.goto 1451, 3) := by decide +kernel
theorem dL_law__799 : decode cL_law_ 799 = .ok (.aload_n 1, 1) := by decide +kernel
theorem dL_law__800 : decode cL_law_ 800 = .ok (.aload_n 0, 1) := by decide +kernel
theorem dL_law__801 : decode cL_law_ 801 = .ok (.iload 4, 2) := by decide +kernel
theorem dL_law__803 : decode cL_law_ 803 = .ok (.iconst 1, 1) := by decide +kernel
theorem dL_law__804 : decode cL_law_ 804 = .ok (.iadd, 1) := by decide +kernel
theorem dL_law__805 : decode cL_law_ 805 = .ok (.iaload, 1) := by decide +kernel
theorem dL_law__806 : decode cL_law_ 806 = .ok (.aload_n 0, 1) := by decide +kernel
theorem dL_law__807 : decode cL_law_ 807 = .ok (.iload 4, 2) := by decide +kernel
theorem dL_law__809 : decode cL_law_ 809 = .ok (.iconst 2, 1) := by decide +kernel
theorem dL_law__810 : decode cL_law_ 810 = .ok (.iadd, 1) := by decide +kernel
theorem dL_law__811 : decode cL_law_ 811 = .ok (.iaload, 1) := by decide +kernel
theorem dL_law__812 : decode cL_law_ 812 = .ok (.aload_n 3, 1) := by decide +kernel
theorem dL_law__813 : decode cL_law_ 813 = .ok (.invokestatic 150, 3) := by decide +kernel
theorem dL_law__816 : decode cL_law_ 816 = .ok (.istore 5, 2) := by decide +kernel
theorem dL_law__818 : decode cL_law_ 818 = .ok (.aload_n 2, 1) := by decide +kernel
theorem dL_law__819 : decode cL_law_ 819 = .ok (.aload_n 0, 1) := by decide +kernel
theorem dL_law__820 : decode cL_law_ 820 = .ok (.iload 4, 2) := by decide +kernel
theorem dL_law__822 : decode cL_law_ 822 = .ok (.iconst 1, 1) := by decide +kernel
theorem dL_law__823 : decode cL_law_ 823 = .ok (.iadd, 1) := by decide +kernel
theorem dL_law__824 : decode cL_law_ 824 = .ok (.iaload, 1) := by decide +kernel
theorem dL_law__825 : decode cL_law_ 825 = .ok (.aload_n 0, 1) := by decide +kernel
theorem dL_law__826 : decode cL_law_ 826 = .ok (.iload 4, 2) := by decide +kernel
theorem dL_law__828 : decode cL_law_ 828 = .ok (.iconst 2, 1) := by decide +kernel
theorem dL_law__829 : decode cL_law_ 829 = .ok (.iadd, 1) := by decide +kernel
theorem dL_law__830 : decode cL_law_ 830 = .ok (.iaload, 1) := by decide +kernel
theorem dL_law__831 : decode cL_law_ 831 = .ok (.invokevirtual 152, 3) := by decide +kernel
theorem dL_law__834 : decode cL_law_ 834 = .ok (.istore 6, 2) := by decide +kernel
theorem dL_law__836 : decode cL_law_ 836 = .ok (.aload_n 2, 1) := by decide +kernel
theorem dL_law__837 : decode cL_law_ 837 = .ok (.invokevirtual 116, 3) := by decide +kernel
theorem dL_law__840 : decode cL_law_ 840 = .ok (.iload 5, 2) := by decide +kernel
theorem dL_law__842 : decode cL_law_ 842 = .ok (.if_icmp .eq 5, 3) := by decide +kernel
theorem dL_law__845 : decode cL_law_ 845 = .ok (.iconst 0, 1) := by decide +kernel
theorem dL_law__846 : decode cL_law_ 846 = .ok (.ireturn, 1) := by decide +kernel
theorem dL_law__847 : decode cL_law_ 847 = .ok (.iload 5, 2) := by decide +kernel
theorem dL_law__849 : decode cL_law_ 849 = .ok (.ifCond .ne 15, 3) := by decide +kernel
theorem dL_law__852 : decode cL_law_ 852 = .ok (.aload_n 3, 1) := by decide +kernel
theorem dL_law__853 : decode cL_law_ 853 = .ok (.iconst 0, 1) := by decide +kernel
theorem dL_law__854 : decode cL_law_ 854 = .ok (.laload, 1) := by decide +kernel
theorem dL_law__855 : decode cL_law_ 855 = .ok (.iload 6, 2) := by decide +kernel
theorem dL_law__857 : decode cL_law_ 857 = .ok (.i2l, 1) := by decide +kernel
theorem dL_law__858 : decode cL_law_ 858 = .ok (.lcmp, 1) := by decide +kernel
theorem dL_law__859 : decode cL_law_ 859 = .ok (.ifCond .eq 5, 3) := by decide +kernel
theorem dL_law__862 : decode cL_law_ 862 = .ok (.iconst 0, 1) := by decide +kernel
theorem dL_law__863 : decode cL_law_ 863 = .ok (.ireturn, 1) := by decide +kernel
theorem dL_law__864 : decode cL_law_ 864 = .ok (.goto 1383, 3) := by decide +kernel
theorem dL_law__867 : decode cL_law_ 867 = .ok (.aload_n 1, 1) := by decide +kernel
theorem dL_law__868 : decode cL_law_ 868 = .ok (.aload_n 0, 1) := by decide +kernel
theorem dL_law__869 : decode cL_law_ 869 = .ok (.iload 4, 2) := by decide +kernel
theorem dL_law__871 : decode cL_law_ 871 = .ok (.iconst 1, 1) := by decide +kernel
theorem dL_law__872 : decode cL_law_ 872 = .ok (.iadd, 1) := by decide +kernel
theorem dL_law__873 : decode cL_law_ 873 = .ok (.iaload, 1) := by decide +kernel
theorem dL_law__874 : decode cL_law_ 874 = .ok (.aload_n 0, 1) := by decide +kernel
theorem dL_law__875 : decode cL_law_ 875 = .ok (.iload 4, 2) := by decide +kernel
theorem dL_law__877 : decode cL_law_ 877 = .ok (.iconst 2, 1) := by decide +kernel
theorem dL_law__878 : decode cL_law_ 878 = .ok (.iadd, 1) := by decide +kernel
theorem dL_law__879 : decode cL_law_ 879 = .ok (.iaload, 1) := by decide +kernel
theorem dL_law__880 : decode cL_law_ 880 = .ok (.aload_n 3, 1) := by decide +kernel
theorem dL_law__881 : decode cL_law_ 881 = .ok (.invokestatic 153, 3) := by decide +kernel
theorem dL_law__884 : decode cL_law_ 884 = .ok (.istore 5, 2) := by decide +kernel
theorem dL_law__886 : decode cL_law_ 886 = .ok (.aload_n 2, 1) := by decide +kernel
theorem dL_law__887 : decode cL_law_ 887 = .ok (.aload_n 0, 1) := by decide +kernel
theorem dL_law__888 : decode cL_law_ 888 = .ok (.iload 4, 2) := by decide +kernel
theorem dL_law__890 : decode cL_law_ 890 = .ok (.iconst 1, 1) := by decide +kernel
theorem dL_law__891 : decode cL_law_ 891 = .ok (.iadd, 1) := by decide +kernel
theorem dL_law__892 : decode cL_law_ 892 = .ok (.iaload, 1) := by decide +kernel
theorem dL_law__893 : decode cL_law_ 893 = .ok (.aload_n 0, 1) := by decide +kernel
theorem dL_law__894 : decode cL_law_ 894 = .ok (.iload 4, 2) := by decide +kernel
theorem dL_law__896 : decode cL_law_ 896 = .ok (.iconst 2, 1) := by decide +kernel
theorem dL_law__897 : decode cL_law_ 897 = .ok (.iadd, 1) := by decide +kernel
theorem dL_law__898 : decode cL_law_ 898 = .ok (.iaload, 1) := by decide +kernel
theorem dL_law__899 : decode cL_law_ 899 = .ok (.invokevirtual 155, 3) := by decide +kernel
theorem dL_law__902 : decode cL_law_ 902 = .ok (.istore 6, 2) := by decide +kernel
theorem dL_law__904 : decode cL_law_ 904 = .ok (.aload_n 2, 1) := by decide +kernel
theorem dL_law__905 : decode cL_law_ 905 = .ok (.invokevirtual 116, 3) := by decide +kernel
theorem dL_law__908 : decode cL_law_ 908 = .ok (.iload 5, 2) := by decide +kernel
theorem dL_law__910 : decode cL_law_ 910 = .ok (.if_icmp .eq 5, 3) := by decide +kernel
theorem dL_law__913 : decode cL_law_ 913 = .ok (.iconst 0, 1) := by decide +kernel
theorem dL_law__914 : decode cL_law_ 914 = .ok (.ireturn, 1) := by decide +kernel
theorem dL_law__915 : decode cL_law_ 915 = .ok (.iload 5, 2) := by decide +kernel
theorem dL_law__917 : decode cL_law_ 917 = .ok (.ifCond .ne 15, 3) := by decide +kernel
theorem dL_law__920 : decode cL_law_ 920 = .ok (.aload_n 3, 1) := by decide +kernel
theorem dL_law__921 : decode cL_law_ 921 = .ok (.iconst 0, 1) := by decide +kernel
theorem dL_law__922 : decode cL_law_ 922 = .ok (.laload, 1) := by decide +kernel
theorem dL_law__923 : decode cL_law_ 923 = .ok (.iload 6, 2) := by decide +kernel
theorem dL_law__925 : decode cL_law_ 925 = .ok (.i2l, 1) := by decide +kernel
theorem dL_law__926 : decode cL_law_ 926 = .ok (.lcmp, 1) := by decide +kernel
theorem dL_law__927 : decode cL_law_ 927 = .ok (.ifCond .eq 5, 3) := by decide +kernel
theorem dL_law__930 : decode cL_law_ 930 = .ok (.iconst 0, 1) := by decide +kernel
theorem dL_law__931 : decode cL_law_ 931 = .ok (.ireturn, 1) := by decide +kernel
theorem dL_law__932 : decode cL_law_ 932 = .ok (.goto 1315, 3) := by decide +kernel
theorem dL_law__935 : decode cL_law_ 935 = .ok (.aload_n 1, 1) := by decide +kernel
theorem dL_law__936 : decode cL_law_ 936 = .ok (.aload_n 0, 1) := by decide +kernel
theorem dL_law__937 : decode cL_law_ 937 = .ok (.iload 4, 2) := by decide +kernel
theorem dL_law__939 : decode cL_law_ 939 = .ok (.iconst 1, 1) := by decide +kernel
theorem dL_law__940 : decode cL_law_ 940 = .ok (.iadd, 1) := by decide +kernel
theorem dL_law__941 : decode cL_law_ 941 = .ok (.iaload, 1) := by decide +kernel
theorem dL_law__942 : decode cL_law_ 942 = .ok (.aload_n 3, 1) := by decide +kernel
theorem dL_law__943 : decode cL_law_ 943 = .ok (.invokestatic 156, 3) := by decide +kernel
theorem dL_law__946 : decode cL_law_ 946 = .ok (.istore 5, 2) := by decide +kernel
theorem dL_law__948 : decode cL_law_ 948 = .ok (.aload_n 2, 1) := by decide +kernel
theorem dL_law__949 : decode cL_law_ 949 = .ok (.aload_n 0, 1) := by decide +kernel
theorem dL_law__950 : decode cL_law_ 950 = .ok (.iload 4, 2) := by decide +kernel
theorem dL_law__952 : decode cL_law_ 952 = .ok (.iconst 1, 1) := by decide +kernel
theorem dL_law__953 : decode cL_law_ 953 = .ok (.iadd, 1) := by decide +kernel
theorem dL_law__954 : decode cL_law_ 954 = .ok (.iaload, 1) := by decide +kernel
theorem dL_law__955 : decode cL_law_ 955 = .ok (.invokevirtual 158, 3) := by decide +kernel
theorem dL_law__958 : decode cL_law_ 958 = .ok (.istore 6, 2) := by decide +kernel
theorem dL_law__960 : decode cL_law_ 960 = .ok (.aload_n 2, 1) := by decide +kernel
theorem dL_law__961 : decode cL_law_ 961 = .ok (.invokevirtual 116, 3) := by decide +kernel
theorem dL_law__964 : decode cL_law_ 964 = .ok (.iload 5, 2) := by decide +kernel
theorem dL_law__966 : decode cL_law_ 966 = .ok (.if_icmp .eq 5, 3) := by decide +kernel
theorem dL_law__969 : decode cL_law_ 969 = .ok (.iconst 0, 1) := by decide +kernel
theorem dL_law__970 : decode cL_law_ 970 = .ok (.ireturn, 1) := by decide +kernel
theorem dL_law__971 : decode cL_law_ 971 = .ok (.iload 5, 2) := by decide +kernel
theorem dL_law__973 : decode cL_law_ 973 = .ok (.ifCond .ne 15, 3) := by decide +kernel
theorem dL_law__976 : decode cL_law_ 976 = .ok (.aload_n 3, 1) := by decide +kernel
theorem dL_law__977 : decode cL_law_ 977 = .ok (.iconst 0, 1) := by decide +kernel
theorem dL_law__978 : decode cL_law_ 978 = .ok (.laload, 1) := by decide +kernel
theorem dL_law__979 : decode cL_law_ 979 = .ok (.iload 6, 2) := by decide +kernel
theorem dL_law__981 : decode cL_law_ 981 = .ok (.i2l, 1) := by decide +kernel
theorem dL_law__982 : decode cL_law_ 982 = .ok (.lcmp, 1) := by decide +kernel
theorem dL_law__983 : decode cL_law_ 983 = .ok (.ifCond .eq 5, 3) := by decide +kernel
theorem dL_law__986 : decode cL_law_ 986 = .ok (.iconst 0, 1) := by decide +kernel
theorem dL_law__987 : decode cL_law_ 987 = .ok (.ireturn, 1) := by decide +kernel
theorem dL_law__988 : decode cL_law_ 988 = .ok (.goto 1259, 3) := by decide +kernel
theorem dL_law__991 : decode cL_law_ 991 = .ok (.aload_n 1, 1) := by decide +kernel
theorem dL_law__992 : decode cL_law_ 992 = .ok (.aload_n 0, 1) := by decide +kernel
theorem dL_law__993 : decode cL_law_ 993 = .ok (.iload 4, 2) := by decide +kernel
theorem dL_law__995 : decode cL_law_ 995 = .ok (.iconst 1, 1) := by decide +kernel
theorem dL_law__996 : decode cL_law_ 996 = .ok (.iadd, 1) := by decide +kernel
theorem dL_law__997 : decode cL_law_ 997 = .ok (.iaload, 1) := by decide +kernel
theorem dL_law__998 : decode cL_law_ 998 = .ok (.aload_n 3, 1) := by decide +kernel
theorem dL_law__999 : decode cL_law_ 999 = .ok (.invokestatic 159, 3) := by decide +kernel
theorem dL_law__1002 : decode cL_law_ 1002 = .ok (.istore 5, 2) := by decide +kernel
theorem dL_law__1004 : decode cL_law_ 1004 = .ok (.aload_n 2, 1) := by decide +kernel
theorem dL_law__1005 : decode cL_law_ 1005 = .ok (.aload_n 0, 1) := by decide +kernel
theorem dL_law__1006 : decode cL_law_ 1006 = .ok (.iload 4, 2) := by decide +kernel
theorem dL_law__1008 : decode cL_law_ 1008 = .ok (.iconst 1, 1) := by decide +kernel
theorem dL_law__1009 : decode cL_law_ 1009 = .ok (.iadd, 1) := by decide +kernel
theorem dL_law__1010 : decode cL_law_ 1010 = .ok (.iaload, 1) := by decide +kernel
theorem dL_law__1011 : decode cL_law_ 1011 = .ok (.invokevirtual 161, 3) := by decide +kernel
theorem dL_law__1014 : decode cL_law_ 1014 = .ok (.istore 6, 2) := by decide +kernel
theorem dL_law__1016 : decode cL_law_ 1016 = .ok (.aload_n 2, 1) := by decide +kernel
theorem dL_law__1017 : decode cL_law_ 1017 = .ok (.invokevirtual 116, 3) := by decide +kernel
theorem dL_law__1020 : decode cL_law_ 1020 = .ok (.iload 5, 2) := by decide +kernel
theorem dL_law__1022 : decode cL_law_ 1022 = .ok (.if_icmp .eq 5, 3) := by decide +kernel
theorem dL_law__1025 : decode cL_law_ 1025 = .ok (.iconst 0, 1) := by decide +kernel
theorem dL_law__1026 : decode cL_law_ 1026 = .ok (.ireturn, 1) := by decide +kernel
theorem dL_law__1027 : decode cL_law_ 1027 = .ok (.iload 5, 2) := by decide +kernel
theorem dL_law__1029 : decode cL_law_ 1029 = .ok (.ifCond .ne 15, 3) := by decide +kernel
theorem dL_law__1032 : decode cL_law_ 1032 = .ok (.aload_n 3, 1) := by decide +kernel
theorem dL_law__1033 : decode cL_law_ 1033 = .ok (.iconst 0, 1) := by decide +kernel
theorem dL_law__1034 : decode cL_law_ 1034 = .ok (.laload, 1) := by decide +kernel
theorem dL_law__1035 : decode cL_law_ 1035 = .ok (.iload 6, 2) := by decide +kernel
theorem dL_law__1037 : decode cL_law_ 1037 = .ok (.i2l, 1) := by decide +kernel
theorem dL_law__1038 : decode cL_law_ 1038 = .ok (.lcmp, 1) := by decide +kernel
theorem dL_law__1039 : decode cL_law_ 1039 = .ok (.ifCond .eq 5, 3) := by decide +kernel
theorem dL_law__1042 : decode cL_law_ 1042 = .ok (.iconst 0, 1) := by decide +kernel
theorem dL_law__1043 : decode cL_law_ 1043 = .ok (.ireturn, 1) := by decide +kernel
theorem dL_law__1044 : decode cL_law_ 1044 = .ok (.goto 1203, 3) := by decide +kernel
theorem dL_law__1047 : decode cL_law_ 1047 = .ok (.aload_n 1, 1) := by decide +kernel
theorem dL_law__1048 : decode cL_law_ 1048 = .ok (.invokevirtual 162, 3) := by decide +kernel
theorem dL_law__1051 : decode cL_law_ 1051 = .ok (.aload_n 2, 1) := by decide +kernel
theorem dL_law__1052 : decode cL_law_ 1052 = .ok (.invokevirtual 165, 3) := by decide +kernel
theorem dL_law__1055 : decode cL_law_ 1055 = .ok (.if_icmp .eq 1192, 3) := by decide +kernel
theorem dL_law__1058 : decode cL_law_ 1058 = .ok (.iconst 0, 1) := by decide +kernel
theorem dL_law__1059 : decode cL_law_ 1059 = .ok (.ireturn, 1) := by decide +kernel
theorem dL_law__1060 : decode cL_law_ 1060 = .ok (.aload_n 1, 1) := by decide +kernel
theorem dL_law__1061 : decode cL_law_ 1061 = .ok (.aload_n 0, 1) := by decide +kernel
theorem dL_law__1062 : decode cL_law_ 1062 = .ok (.iload 4, 2) := by decide +kernel
theorem dL_law__1064 : decode cL_law_ 1064 = .ok (.iconst 1, 1) := by decide +kernel
theorem dL_law__1065 : decode cL_law_ 1065 = .ok (.iadd, 1) := by decide +kernel
theorem dL_law__1066 : decode cL_law_ 1066 = .ok (.iaload, 1) := by decide +kernel
theorem dL_law__1067 : decode cL_law_ 1067 = .ok (.aload_n 3, 1) := by decide +kernel
theorem dL_law__1068 : decode cL_law_ 1068 = .ok (.invokestatic 166, 3) := by decide +kernel
theorem dL_law__1071 : decode cL_law_ 1071 = .ok (.istore 5, 2) := by decide +kernel
theorem dL_law__1073 : decode cL_law_ 1073 = .ok (.aload_n 2, 1) := by decide +kernel
theorem dL_law__1074 : decode cL_law_ 1074 = .ok (.aload_n 0, 1) := by decide +kernel
theorem dL_law__1075 : decode cL_law_ 1075 = .ok (.iload 4, 2) := by decide +kernel
theorem dL_law__1077 : decode cL_law_ 1077 = .ok (.iconst 1, 1) := by decide +kernel
theorem dL_law__1078 : decode cL_law_ 1078 = .ok (.iadd, 1) := by decide +kernel
theorem dL_law__1079 : decode cL_law_ 1079 = .ok (.iaload, 1) := by decide +kernel
theorem dL_law__1080 : decode cL_law_ 1080 = .ok (.invokevirtual 168, 3) := by decide +kernel
theorem dL_law__1083 : decode cL_law_ 1083 = .ok (.istore 6, 2) := by decide +kernel
theorem dL_law__1085 : decode cL_law_ 1085 = .ok (.aload_n 2, 1) := by decide +kernel
theorem dL_law__1086 : decode cL_law_ 1086 = .ok (.invokevirtual 116, 3) := by decide +kernel
theorem dL_law__1089 : decode cL_law_ 1089 = .ok (.iload 5, 2) := by decide +kernel
theorem dL_law__1091 : decode cL_law_ 1091 = .ok (.if_icmp .eq 5, 3) := by decide +kernel
theorem dL_law__1094 : decode cL_law_ 1094 = .ok (.iconst 0, 1) := by decide +kernel
theorem dL_law__1095 : decode cL_law_ 1095 = .ok (.ireturn, 1) := by decide +kernel
theorem dL_law__1096 : decode cL_law_ 1096 = .ok (.iload 5, 2) := by decide +kernel
theorem dL_law__1098 : decode cL_law_ 1098 = .ok (.ifCond .ne 15, 3) := by decide +kernel
theorem dL_law__1101 : decode cL_law_ 1101 = .ok (.aload_n 3, 1) := by decide +kernel
theorem dL_law__1102 : decode cL_law_ 1102 = .ok (.iconst 0, 1) := by decide +kernel
theorem dL_law__1103 : decode cL_law_ 1103 = .ok (.laload, 1) := by decide +kernel
theorem dL_law__1104 : decode cL_law_ 1104 = .ok (.iload 6, 2) := by decide +kernel
theorem dL_law__1106 : decode cL_law_ 1106 = .ok (.i2l, 1) := by decide +kernel
theorem dL_law__1107 : decode cL_law_ 1107 = .ok (.lcmp, 1) := by decide +kernel
theorem dL_law__1108 : decode cL_law_ 1108 = .ok (.ifCond .eq 5, 3) := by decide +kernel
theorem dL_law__1111 : decode cL_law_ 1111 = .ok (.iconst 0, 1) := by decide +kernel
theorem dL_law__1112 : decode cL_law_ 1112 = .ok (.ireturn, 1) := by decide +kernel
theorem dL_law__1113 : decode cL_law_ 1113 = .ok (.goto 1134, 3) := by decide +kernel
theorem dL_law__1116 : decode cL_law_ 1116 = .ok (.aload_n 1, 1) := by decide +kernel
theorem dL_law__1117 : decode cL_law_ 1117 = .ok (.invokevirtual 169, 3) := by decide +kernel
theorem dL_law__1120 : decode cL_law_ 1120 = .ok (.aload_n 2, 1) := by decide +kernel
theorem dL_law__1121 : decode cL_law_ 1121 = .ok (.invokevirtual 172, 3) := by decide +kernel
theorem dL_law__1124 : decode cL_law_ 1124 = .ok (.if_icmp .eq 1123, 3) := by decide +kernel
theorem dL_law__1127 : decode cL_law_ 1127 = .ok (.iconst 0, 1) := by decide +kernel
theorem dL_law__1128 : decode cL_law_ 1128 = .ok (.ireturn, 1) := by decide +kernel
theorem dL_law__1129 : decode cL_law_ 1129 = .ok (.aload_n 1, 1) := by decide +kernel
theorem dL_law__1130 : decode cL_law_ 1130 = .ok (.aload_n 0, 1) := by decide +kernel
theorem dL_law__1131 : decode cL_law_ 1131 = .ok (.iload 4, 2) := by decide +kernel
theorem dL_law__1133 : decode cL_law_ 1133 = .ok (.iconst 1, 1) := by decide +kernel
theorem dL_law__1134 : decode cL_law_ 1134 = .ok (.iadd, 1) := by decide +kernel
theorem dL_law__1135 : decode cL_law_ 1135 = .ok (.iaload, 1) := by decide +kernel
theorem dL_law__1136 : decode cL_law_ 1136 = .ok (.aload_n 3, 1) := by decide +kernel
theorem dL_law__1137 : decode cL_law_ 1137 = .ok (.invokestatic 173, 3) := by decide +kernel
theorem dL_law__1140 : decode cL_law_ 1140 = .ok (.istore 5, 2) := by decide +kernel
theorem dL_law__1142 : decode cL_law_ 1142 = .ok (.aload_n 2, 1) := by decide +kernel
theorem dL_law__1143 : decode cL_law_ 1143 = .ok (.aload_n 0, 1) := by decide +kernel
theorem dL_law__1144 : decode cL_law_ 1144 = .ok (.iload 4, 2) := by decide +kernel
theorem dL_law__1146 : decode cL_law_ 1146 = .ok (.iconst 1, 1) := by decide +kernel
theorem dL_law__1147 : decode cL_law_ 1147 = .ok (.iadd, 1) := by decide +kernel
theorem dL_law__1148 : decode cL_law_ 1148 = .ok (.iaload, 1) := by decide +kernel
theorem dL_law__1149 : decode cL_law_ 1149 = .ok (.invokevirtual 175, 3) := by decide +kernel
theorem dL_law__1152 : decode cL_law_ 1152 = .ok (.istore 6, 2) := by decide +kernel
theorem dL_law__1154 : decode cL_law_ 1154 = .ok (.aload_n 2, 1) := by decide +kernel
theorem dL_law__1155 : decode cL_law_ 1155 = .ok (.invokevirtual 116, 3) := by decide +kernel
theorem dL_law__1158 : decode cL_law_ 1158 = .ok (.iload 5, 2) := by decide +kernel
theorem dL_law__1160 : decode cL_law_ 1160 = .ok (.if_icmp .eq 5, 3) := by decide +kernel
theorem dL_law__1163 : decode cL_law_ 1163 = .ok (.iconst 0, 1) := by decide +kernel
theorem dL_law__1164 : decode cL_law_ 1164 = .ok (.ireturn, 1) := by decide +kernel
theorem dL_law__1165 : decode cL_law_ 1165 = .ok (.iload 5, 2) := by decide +kernel
theorem dL_law__1167 : decode cL_law_ 1167 = .ok (.ifCond .ne 15, 3) := by decide +kernel
theorem dL_law__1170 : decode cL_law_ 1170 = .ok (.aload_n 3, 1) := by decide +kernel
theorem dL_law__1171 : decode cL_law_ 1171 = .ok (.iconst 0, 1) := by decide +kernel
theorem dL_law__1172 : decode cL_law_ 1172 = .ok (.laload, 1) := by decide +kernel
theorem dL_law__1173 : decode cL_law_ 1173 = .ok (.iload 6, 2) := by decide +kernel
theorem dL_law__1175 : decode cL_law_ 1175 = .ok (.i2l, 1) := by decide +kernel
theorem dL_law__1176 : decode cL_law_ 1176 = .ok (.lcmp, 1) := by decide +kernel
theorem dL_law__1177 : decode cL_law_ 1177 = .ok (.ifCond .eq 5, 3) := by decide +kernel
theorem dL_law__1180 : decode cL_law_ 1180 = .ok (.iconst 0, 1) := by decide +kernel
theorem dL_law__1181 : decode cL_law_ 1181 = .ok (.ireturn, 1) := by decide +kernel
theorem dL_law__1182 : decode cL_law_ 1182 = .ok (.goto 1065, 3) := by decide +kernel
theorem dL_law__1185 : decode cL_law_ 1185 = .ok (.aload_n 1, 1) := by decide +kernel
theorem dL_law__1186 : decode cL_law_ 1186 = .ok (.invokevirtual 176, 3) := by decide +kernel
theorem dL_law__1189 : decode cL_law_ 1189 = .ok (.aload_n 2, 1) := by decide +kernel
theorem dL_law__1190 : decode cL_law_ 1190 = .ok (.invokevirtual 179, 3) := by decide +kernel
theorem dL_law__1193 : decode cL_law_ 1193 = .ok (.if_icmp .eq 1054, 3) := by decide +kernel
theorem dL_law__1196 : decode cL_law_ 1196 = .ok (.iconst 0, 1) := by decide +kernel
theorem dL_law__1197 : decode cL_law_ 1197 = .ok (.ireturn, 1) := by decide +kernel
theorem dL_law__1198 : decode cL_law_ 1198 = .ok (.aload_n 1, 1) := by decide +kernel
theorem dL_law__1199 : decode cL_law_ 1199 = .ok (.aload_n 0, 1) := by decide +kernel
theorem dL_law__1200 : decode cL_law_ 1200 = .ok (.iload 4, 2) := by decide +kernel
theorem dL_law__1202 : decode cL_law_ 1202 = .ok (.iconst 1, 1) := by decide +kernel
theorem dL_law__1203 : decode cL_law_ 1203 = .ok (.iadd, 1) := by decide +kernel
theorem dL_law__1204 : decode cL_law_ 1204 = .ok (.iaload, 1) := by decide +kernel
theorem dL_law__1205 : decode cL_law_ 1205 = .ok (.aload_n 0, 1) := by decide +kernel
theorem dL_law__1206 : decode cL_law_ 1206 = .ok (.iload 4, 2) := by decide +kernel
theorem dL_law__1208 : decode cL_law_ 1208 = .ok (.iconst 2, 1) := by decide +kernel
theorem dL_law__1209 : decode cL_law_ 1209 = .ok (.iadd, 1) := by decide +kernel
theorem dL_law__1210 : decode cL_law_ 1210 = .ok (.iaload, 1) := by decide +kernel
theorem dL_law__1211 : decode cL_law_ 1211 = .ok (.aload_n 3, 1) := by decide +kernel
theorem dL_law__1212 : decode cL_law_ 1212 = .ok (.invokestatic 180, 3) := by decide +kernel
theorem dL_law__1215 : decode cL_law_ 1215 = .ok (.istore 5, 2) := by decide +kernel
theorem dL_law__1217 : decode cL_law_ 1217 = .ok (.aload_n 2, 1) := by decide +kernel
theorem dL_law__1218 : decode cL_law_ 1218 = .ok (.aload_n 0, 1) := by decide +kernel
theorem dL_law__1219 : decode cL_law_ 1219 = .ok (.iload 4, 2) := by decide +kernel
theorem dL_law__1221 : decode cL_law_ 1221 = .ok (.iconst 1, 1) := by decide +kernel
theorem dL_law__1222 : decode cL_law_ 1222 = .ok (.iadd, 1) := by decide +kernel
theorem dL_law__1223 : decode cL_law_ 1223 = .ok (.iaload, 1) := by decide +kernel
theorem dL_law__1224 : decode cL_law_ 1224 = .ok (.aload_n 0, 1) := by decide +kernel
theorem dL_law__1225 : decode cL_law_ 1225 = .ok (.iload 4, 2) := by decide +kernel
theorem dL_law__1227 : decode cL_law_ 1227 = .ok (.iconst 2, 1) := by decide +kernel
theorem dL_law__1228 : decode cL_law_ 1228 = .ok (.iadd, 1) := by decide +kernel
theorem dL_law__1229 : decode cL_law_ 1229 = .ok (.iaload, 1) := by decide +kernel
theorem dL_law__1230 : decode cL_law_ 1230 = .ok (.invokevirtual 182, 3) := by decide +kernel
theorem dL_law__1233 : decode cL_law_ 1233 = .ok (.istore 6, 2) := by decide +kernel
theorem dL_law__1235 : decode cL_law_ 1235 = .ok (.aload_n 2, 1) := by decide +kernel
theorem dL_law__1236 : decode cL_law_ 1236 = .ok (.invokevirtual 116, 3) := by decide +kernel
theorem dL_law__1239 : decode cL_law_ 1239 = .ok (.iload 5, 2) := by decide +kernel
theorem dL_law__1241 : decode cL_law_ 1241 = .ok (.if_icmp .eq 5, 3) := by decide +kernel
theorem dL_law__1244 : decode cL_law_ 1244 = .ok (.iconst 0, 1) := by decide +kernel
theorem dL_law__1245 : decode cL_law_ 1245 = .ok (.ireturn, 1) := by decide +kernel
theorem dL_law__1246 : decode cL_law_ 1246 = .ok (.iload 5, 2) := by decide +kernel
theorem dL_law__1248 : decode cL_law_ 1248 = .ok (.ifCond .ne 15, 3) := by decide +kernel
theorem dL_law__1251 : decode cL_law_ 1251 = .ok (.aload_n 3, 1) := by decide +kernel
theorem dL_law__1252 : decode cL_law_ 1252 = .ok (.iconst 0, 1) := by decide +kernel
theorem dL_law__1253 : decode cL_law_ 1253 = .ok (.laload, 1) := by decide +kernel
theorem dL_law__1254 : decode cL_law_ 1254 = .ok (.iload 6, 2) := by decide +kernel
theorem dL_law__1256 : decode cL_law_ 1256 = .ok (.i2l, 1) := by decide +kernel
theorem dL_law__1257 : decode cL_law_ 1257 = .ok (.lcmp, 1) := by decide +kernel
theorem dL_law__1258 : decode cL_law_ 1258 = .ok (.ifCond .eq 5, 3) := by decide +kernel
theorem dL_law__1261 : decode cL_law_ 1261 = .ok (.iconst 0, 1) := by decide +kernel
theorem dL_law__1262 : decode cL_law_ 1262 = .ok (.ireturn, 1) := by decide +kernel
theorem dL_law__1263 : decode cL_law_ 1263 = .ok (.goto 984, 3) := by decide +kernel
theorem dL_law__1266 : decode cL_law_ 1266 = .ok (.aload_n 1, 1) := by decide +kernel
theorem dL_law__1267 : decode cL_law_ 1267 = .ok (.aload_n 0, 1) := by decide +kernel
theorem dL_law__1268 : decode cL_law_ 1268 = .ok (.iload 4, 2) := by decide +kernel
theorem dL_law__1270 : decode cL_law_ 1270 = .ok (.iconst 1, 1) := by decide +kernel
theorem dL_law__1271 : decode cL_law_ 1271 = .ok (.iadd, 1) := by decide +kernel
theorem dL_law__1272 : decode cL_law_ 1272 = .ok (.iaload, 1) := by decide +kernel
theorem dL_law__1273 : decode cL_law_ 1273 = .ok (.aload_n 3, 1) := by decide +kernel
theorem dL_law__1274 : decode cL_law_ 1274 = .ok (.invokestatic 183, 3) := by decide +kernel
theorem dL_law__1277 : decode cL_law_ 1277 = .ok (.istore 5, 2) := by decide +kernel
theorem dL_law__1279 : decode cL_law_ 1279 = .ok (.aload_n 2, 1) := by decide +kernel
theorem dL_law__1280 : decode cL_law_ 1280 = .ok (.aload_n 0, 1) := by decide +kernel
theorem dL_law__1281 : decode cL_law_ 1281 = .ok (.iload 4, 2) := by decide +kernel
theorem dL_law__1283 : decode cL_law_ 1283 = .ok (.iconst 1, 1) := by decide +kernel
theorem dL_law__1284 : decode cL_law_ 1284 = .ok (.iadd, 1) := by decide +kernel
theorem dL_law__1285 : decode cL_law_ 1285 = .ok (.iaload, 1) := by decide +kernel
theorem dL_law__1286 : decode cL_law_ 1286 = .ok (.invokevirtual 185, 3) := by decide +kernel
theorem dL_law__1289 : decode cL_law_ 1289 = .ok (.istore 6, 2) := by decide +kernel
theorem dL_law__1291 : decode cL_law_ 1291 = .ok (.aload_n 2, 1) := by decide +kernel
theorem dL_law__1292 : decode cL_law_ 1292 = .ok (.invokevirtual 116, 3) := by decide +kernel
theorem dL_law__1295 : decode cL_law_ 1295 = .ok (.iload 5, 2) := by decide +kernel
theorem dL_law__1297 : decode cL_law_ 1297 = .ok (.if_icmp .eq 5, 3) := by decide +kernel
theorem dL_law__1300 : decode cL_law_ 1300 = .ok (.iconst 0, 1) := by decide +kernel
theorem dL_law__1301 : decode cL_law_ 1301 = .ok (.ireturn, 1) := by decide +kernel
theorem dL_law__1302 : decode cL_law_ 1302 = .ok (.iload 5, 2) := by decide +kernel
theorem dL_law__1304 : decode cL_law_ 1304 = .ok (.ifCond .ne 15, 3) := by decide +kernel
theorem dL_law__1307 : decode cL_law_ 1307 = .ok (.aload_n 3, 1) := by decide +kernel
theorem dL_law__1308 : decode cL_law_ 1308 = .ok (.iconst 0, 1) := by decide +kernel
theorem dL_law__1309 : decode cL_law_ 1309 = .ok (.laload, 1) := by decide +kernel
theorem dL_law__1310 : decode cL_law_ 1310 = .ok (.iload 6, 2) := by decide +kernel
theorem dL_law__1312 : decode cL_law_ 1312 = .ok (.i2l, 1) := by decide +kernel
theorem dL_law__1313 : decode cL_law_ 1313 = .ok (.lcmp, 1) := by decide +kernel
theorem dL_law__1314 : decode cL_law_ 1314 = .ok (.ifCond .eq 5, 3) := by decide +kernel
theorem dL_law__1317 : decode cL_law_ 1317 = .ok (.iconst 0, 1) := by decide +kernel
theorem dL_law__1318 : decode cL_law_ 1318 = .ok (.ireturn, 1) := by decide +kernel
theorem dL_law__1319 : decode cL_law_ 1319 = .ok (.goto 928, 3) := by decide +kernel
theorem dL_law__1322 : decode cL_law_ 1322 = .ok (.aload_n 1, 1) := by decide +kernel
theorem dL_law__1323 : decode cL_law_ 1323 = .ok (.aload_n 0, 1) := by decide +kernel
theorem dL_law__1324 : decode cL_law_ 1324 = .ok (.iload 4, 2) := by decide +kernel
theorem dL_law__1326 : decode cL_law_ 1326 = .ok (.iconst 1, 1) := by decide +kernel
theorem dL_law__1327 : decode cL_law_ 1327 = .ok (.iadd, 1) := by decide +kernel
theorem dL_law__1328 : decode cL_law_ 1328 = .ok (.iaload, 1) := by decide +kernel
theorem dL_law__1329 : decode cL_law_ 1329 = .ok (.aload_n 3, 1) := by decide +kernel
theorem dL_law__1330 : decode cL_law_ 1330 = .ok (.invokestatic 186, 3) := by decide +kernel
theorem dL_law__1333 : decode cL_law_ 1333 = .ok (.istore 5, 2) := by decide +kernel
theorem dL_law__1335 : decode cL_law_ 1335 = .ok (.aload_n 2, 1) := by decide +kernel
theorem dL_law__1336 : decode cL_law_ 1336 = .ok (.aload_n 0, 1) := by decide +kernel
theorem dL_law__1337 : decode cL_law_ 1337 = .ok (.iload 4, 2) := by decide +kernel
theorem dL_law__1339 : decode cL_law_ 1339 = .ok (.iconst 1, 1) := by decide +kernel
theorem dL_law__1340 : decode cL_law_ 1340 = .ok (.iadd, 1) := by decide +kernel
theorem dL_law__1341 : decode cL_law_ 1341 = .ok (.iaload, 1) := by decide +kernel
theorem dL_law__1342 : decode cL_law_ 1342 = .ok (.invokevirtual 188, 3) := by decide +kernel
theorem dL_law__1345 : decode cL_law_ 1345 = .ok (.istore 6, 2) := by decide +kernel
theorem dL_law__1347 : decode cL_law_ 1347 = .ok (.aload_n 2, 1) := by decide +kernel
theorem dL_law__1348 : decode cL_law_ 1348 = .ok (.invokevirtual 116, 3) := by decide +kernel
theorem dL_law__1351 : decode cL_law_ 1351 = .ok (.iload 5, 2) := by decide +kernel
theorem dL_law__1353 : decode cL_law_ 1353 = .ok (.if_icmp .eq 5, 3) := by decide +kernel
theorem dL_law__1356 : decode cL_law_ 1356 = .ok (.iconst 0, 1) := by decide +kernel
theorem dL_law__1357 : decode cL_law_ 1357 = .ok (.ireturn, 1) := by decide +kernel
theorem dL_law__1358 : decode cL_law_ 1358 = .ok (.iload 5, 2) := by decide +kernel
theorem dL_law__1360 : decode cL_law_ 1360 = .ok (.ifCond .ne 15, 3) := by decide +kernel
theorem dL_law__1363 : decode cL_law_ 1363 = .ok (.aload_n 3, 1) := by decide +kernel
theorem dL_law__1364 : decode cL_law_ 1364 = .ok (.iconst 0, 1) := by decide +kernel
theorem dL_law__1365 : decode cL_law_ 1365 = .ok (.laload, 1) := by decide +kernel
theorem dL_law__1366 : decode cL_law_ 1366 = .ok (.iload 6, 2) := by decide +kernel
theorem dL_law__1368 : decode cL_law_ 1368 = .ok (.i2l, 1) := by decide +kernel
theorem dL_law__1369 : decode cL_law_ 1369 = .ok (.lcmp, 1) := by decide +kernel
theorem dL_law__1370 : decode cL_law_ 1370 = .ok (.ifCond .eq 5, 3) := by decide +kernel
theorem dL_law__1373 : decode cL_law_ 1373 = .ok (.iconst 0, 1) := by decide +kernel
theorem dL_law__1374 : decode cL_law_ 1374 = .ok (.ireturn, 1) := by decide +kernel
theorem dL_law__1375 : decode cL_law_ 1375 = .ok (.goto 872, 3) := by decide +kernel
theorem dL_law__1378 : decode cL_law_ 1378 = .ok (.aload_n 1, 1) := by decide +kernel
theorem dL_law__1379 : decode cL_law_ 1379 = .ok (.aload_n 0, 1) := by decide +kernel
theorem dL_law__1380 : decode cL_law_ 1380 = .ok (.iload 4, 2) := by decide +kernel
theorem dL_law__1382 : decode cL_law_ 1382 = .ok (.iconst 1, 1) := by decide +kernel
theorem dL_law__1383 : decode cL_law_ 1383 = .ok (.iadd, 1) := by decide +kernel
theorem dL_law__1384 : decode cL_law_ 1384 = .ok (.iaload, 1) := by decide +kernel
theorem dL_law__1385 : decode cL_law_ 1385 = .ok (.aload_n 3, 1) := by decide +kernel
theorem dL_law__1386 : decode cL_law_ 1386 = .ok (.invokestatic 189, 3) := by decide +kernel
theorem dL_law__1389 : decode cL_law_ 1389 = .ok (.istore 5, 2) := by decide +kernel
theorem dL_law__1391 : decode cL_law_ 1391 = .ok (.aload_n 2, 1) := by decide +kernel
theorem dL_law__1392 : decode cL_law_ 1392 = .ok (.aload_n 0, 1) := by decide +kernel
theorem dL_law__1393 : decode cL_law_ 1393 = .ok (.iload 4, 2) := by decide +kernel
theorem dL_law__1395 : decode cL_law_ 1395 = .ok (.iconst 1, 1) := by decide +kernel
theorem dL_law__1396 : decode cL_law_ 1396 = .ok (.iadd, 1) := by decide +kernel
theorem dL_law__1397 : decode cL_law_ 1397 = .ok (.iaload, 1) := by decide +kernel
theorem dL_law__1398 : decode cL_law_ 1398 = .ok (.invokevirtual 191, 3) := by decide +kernel
theorem dL_law__1401 : decode cL_law_ 1401 = .ok (.istore 6, 2) := by decide +kernel
theorem dL_law__1403 : decode cL_law_ 1403 = .ok (.aload_n 2, 1) := by decide +kernel
theorem dL_law__1404 : decode cL_law_ 1404 = .ok (.invokevirtual 116, 3) := by decide +kernel
theorem dL_law__1407 : decode cL_law_ 1407 = .ok (.iload 5, 2) := by decide +kernel
theorem dL_law__1409 : decode cL_law_ 1409 = .ok (.if_icmp .eq 5, 3) := by decide +kernel
theorem dL_law__1412 : decode cL_law_ 1412 = .ok (.iconst 0, 1) := by decide +kernel
theorem dL_law__1413 : decode cL_law_ 1413 = .ok (.ireturn, 1) := by decide +kernel
theorem dL_law__1414 : decode cL_law_ 1414 = .ok (.iload 5, 2) := by decide +kernel
theorem dL_law__1416 : decode cL_law_ 1416 = .ok (.ifCond .ne 15, 3) := by decide +kernel
theorem dL_law__1419 : decode cL_law_ 1419 = .ok (.aload_n 3, 1) := by decide +kernel
theorem dL_law__1420 : decode cL_law_ 1420 = .ok (.iconst 0, 1) := by decide +kernel
theorem dL_law__1421 : decode cL_law_ 1421 = .ok (.laload, 1) := by decide +kernel
theorem dL_law__1422 : decode cL_law_ 1422 = .ok (.iload 6, 2) := by decide +kernel
theorem dL_law__1424 : decode cL_law_ 1424 = .ok (.i2l, 1) := by decide +kernel
theorem dL_law__1425 : decode cL_law_ 1425 = .ok (.lcmp, 1) := by decide +kernel
theorem dL_law__1426 : decode cL_law_ 1426 = .ok (.ifCond .eq 5, 3) := by decide +kernel
theorem dL_law__1429 : decode cL_law_ 1429 = .ok (.iconst 0, 1) := by decide +kernel
theorem dL_law__1430 : decode cL_law_ 1430 = .ok (.ireturn, 1) := by decide +kernel
theorem dL_law__1431 : decode cL_law_ 1431 = .ok (.goto 816, 3) := by decide +kernel
theorem dL_law__1434 : decode cL_law_ 1434 = .ok (.aload_n 1, 1) := by decide +kernel
theorem dL_law__1435 : decode cL_law_ 1435 = .ok (.aload_n 0, 1) := by decide +kernel
theorem dL_law__1436 : decode cL_law_ 1436 = .ok (.iload 4, 2) := by decide +kernel
theorem dL_law__1438 : decode cL_law_ 1438 = .ok (.iconst 1, 1) := by decide +kernel
theorem dL_law__1439 : decode cL_law_ 1439 = .ok (.iadd, 1) := by decide +kernel
theorem dL_law__1440 : decode cL_law_ 1440 = .ok (.iaload, 1) := by decide +kernel
theorem dL_law__1441 : decode cL_law_ 1441 = .ok (.aload_n 3, 1) := by decide +kernel
theorem dL_law__1442 : decode cL_law_ 1442 = .ok (.invokestatic 192, 3) := by decide +kernel
theorem dL_law__1445 : decode cL_law_ 1445 = .ok (.istore 5, 2) := by decide +kernel
theorem dL_law__1447 : decode cL_law_ 1447 = .ok (.aload_n 2, 1) := by decide +kernel
theorem dL_law__1448 : decode cL_law_ 1448 = .ok (.aload_n 0, 1) := by decide +kernel
theorem dL_law__1449 : decode cL_law_ 1449 = .ok (.iload 4, 2) := by decide +kernel
theorem dL_law__1451 : decode cL_law_ 1451 = .ok (.iconst 1, 1) := by decide +kernel
theorem dL_law__1452 : decode cL_law_ 1452 = .ok (.iadd, 1) := by decide +kernel
theorem dL_law__1453 : decode cL_law_ 1453 = .ok (.iaload, 1) := by decide +kernel
theorem dL_law__1454 : decode cL_law_ 1454 = .ok (.invokevirtual 194, 3) := by decide +kernel
theorem dL_law__1457 : decode cL_law_ 1457 = .ok (.istore 6, 2) := by decide +kernel
theorem dL_law__1459 : decode cL_law_ 1459 = .ok (.aload_n 2, 1) := by decide +kernel
theorem dL_law__1460 : decode cL_law_ 1460 = .ok (.invokevirtual 116, 3) := by decide +kernel
theorem dL_law__1463 : decode cL_law_ 1463 = .ok (.iload 5, 2) := by decide +kernel
theorem dL_law__1465 : decode cL_law_ 1465 = .ok (.if_icmp .eq 5, 3) := by decide +kernel
theorem dL_law__1468 : decode cL_law_ 1468 = .ok (.iconst 0, 1) := by decide +kernel
theorem dL_law__1469 : decode cL_law_ 1469 = .ok (.ireturn, 1) := by decide +kernel
theorem dL_law__1470 : decode cL_law_ 1470 = .ok (.iload 5, 2) := by decide +kernel
theorem dL_law__1472 : decode cL_law_ 1472 = .ok (.ifCond .ne 15, 3) := by decide +kernel
theorem dL_law__1475 : decode cL_law_ 1475 = .ok (.aload_n 3, 1) := by decide +kernel
theorem dL_law__1476 : decode cL_law_ 1476 = .ok (.iconst 0, 1) := by decide +kernel
theorem dL_law__1477 : decode cL_law_ 1477 = .ok (.laload, 1) := by decide +kernel
theorem dL_law__1478 : decode cL_law_ 1478 = .ok (.iload 6, 2) := by decide +kernel
theorem dL_law__1480 : decode cL_law_ 1480 = .ok (.i2l, 1) := by decide +kernel
theorem dL_law__1481 : decode cL_law_ 1481 = .ok (.lcmp, 1) := by decide +kernel
theorem dL_law__1482 : decode cL_law_ 1482 = .ok (.ifCond .eq 5, 3) := by decide +kernel
theorem dL_law__1485 : decode cL_law_ 1485 = .ok (.iconst 0, 1) := by decide +kernel
theorem dL_law__1486 : decode cL_law_ 1486 = .ok (.ireturn, 1) := by decide +kernel
theorem dL_law__1487 : decode cL_law_ 1487 = .ok (.goto 760, 3) := by decide +kernel
theorem dL_law__1490 : decode cL_law_ 1490 = .ok (.aload_n 1, 1) := by decide +kernel
theorem dL_law__1491 : decode cL_law_ 1491 = .ok (.invokevirtual 195, 3) := by decide +kernel
theorem dL_law__1494 : decode cL_law_ 1494 = .ok (.aload_n 2, 1) := by decide +kernel
theorem dL_law__1495 : decode cL_law_ 1495 = .ok (.invokevirtual 198, 3) := by decide +kernel
theorem dL_law__1498 : decode cL_law_ 1498 = .ok (.if_icmp .eq 749, 3) := by decide +kernel
theorem dL_law__1501 : decode cL_law_ 1501 = .ok (.iconst 0, 1) := by decide +kernel
theorem dL_law__1502 : decode cL_law_ 1502 = .ok (.ireturn, 1) := by decide +kernel
theorem dL_law__1503 : decode cL_law_ 1503 = .ok (.aload_n 1, 1) := by decide +kernel
theorem dL_law__1504 : decode cL_law_ 1504 = .ok (.aload_n 0, 1) := by decide +kernel
theorem dL_law__1505 : decode cL_law_ 1505 = .ok (.iload 4, 2) := by decide +kernel
theorem dL_law__1507 : decode cL_law_ 1507 = .ok (.iconst 1, 1) := by decide +kernel
theorem dL_law__1508 : decode cL_law_ 1508 = .ok (.iadd, 1) := by decide +kernel
theorem dL_law__1509 : decode cL_law_ 1509 = .ok (.iaload, 1) := by decide +kernel
theorem dL_law__1510 : decode cL_law_ 1510 = .ok (.aload_n 0, 1) := by decide +kernel
theorem dL_law__1511 : decode cL_law_ 1511 = .ok (.iload 4, 2) := by decide +kernel
theorem dL_law__1513 : decode cL_law_ 1513 = .ok (.iconst 2, 1) := by decide +kernel
theorem dL_law__1514 : decode cL_law_ 1514 = .ok (.iadd, 1) := by decide +kernel
theorem dL_law__1515 : decode cL_law_ 1515 = .ok (.iaload, 1) := by decide +kernel
theorem dL_law__1516 : decode cL_law_ 1516 = .ok (.aload_n 3, 1) := by decide +kernel
theorem dL_law__1517 : decode cL_law_ 1517 = .ok (.invokestatic 199, 3) := by decide +kernel
theorem dL_law__1520 : decode cL_law_ 1520 = .ok (.istore 5, 2) := by decide +kernel
theorem dL_law__1522 : decode cL_law_ 1522 = .ok (.aload_n 2, 1) := by decide +kernel
theorem dL_law__1523 : decode cL_law_ 1523 = .ok (.aload_n 0, 1) := by decide +kernel
theorem dL_law__1524 : decode cL_law_ 1524 = .ok (.iload 4, 2) := by decide +kernel
theorem dL_law__1526 : decode cL_law_ 1526 = .ok (.iconst 1, 1) := by decide +kernel
theorem dL_law__1527 : decode cL_law_ 1527 = .ok (.iadd, 1) := by decide +kernel
theorem dL_law__1528 : decode cL_law_ 1528 = .ok (.iaload, 1) := by decide +kernel
theorem dL_law__1529 : decode cL_law_ 1529 = .ok (.aload_n 0, 1) := by decide +kernel
theorem dL_law__1530 : decode cL_law_ 1530 = .ok (.iload 4, 2) := by decide +kernel
theorem dL_law__1532 : decode cL_law_ 1532 = .ok (.iconst 2, 1) := by decide +kernel
theorem dL_law__1533 : decode cL_law_ 1533 = .ok (.iadd, 1) := by decide +kernel
theorem dL_law__1534 : decode cL_law_ 1534 = .ok (.iaload, 1) := by decide +kernel
theorem dL_law__1535 : decode cL_law_ 1535 = .ok (.invokevirtual 201, 3) := by decide +kernel
theorem dL_law__1538 : decode cL_law_ 1538 = .ok (.istore 6, 2) := by decide +kernel
theorem dL_law__1540 : decode cL_law_ 1540 = .ok (.aload_n 2, 1) := by decide +kernel
theorem dL_law__1541 : decode cL_law_ 1541 = .ok (.invokevirtual 116, 3) := by decide +kernel
theorem dL_law__1544 : decode cL_law_ 1544 = .ok (.iload 5, 2) := by decide +kernel
theorem dL_law__1546 : decode cL_law_ 1546 = .ok (.if_icmp .eq 5, 3) := by decide +kernel
theorem dL_law__1549 : decode cL_law_ 1549 = .ok (.iconst 0, 1) := by decide +kernel
theorem dL_law__1550 : decode cL_law_ 1550 = .ok (.ireturn, 1) := by decide +kernel
theorem dL_law__1551 : decode cL_law_ 1551 = .ok (.iload 5, 2) := by decide +kernel
theorem dL_law__1553 : decode cL_law_ 1553 = .ok (.ifCond .ne 15, 3) := by decide +kernel
theorem dL_law__1556 : decode cL_law_ 1556 = .ok (.aload_n 3, 1) := by decide +kernel
theorem dL_law__1557 : decode cL_law_ 1557 = .ok (.iconst 0, 1) := by decide +kernel
theorem dL_law__1558 : decode cL_law_ 1558 = .ok (.laload, 1) := by decide +kernel
theorem dL_law__1559 : decode cL_law_ 1559 = .ok (.iload 6, 2) := by decide +kernel
theorem dL_law__1561 : decode cL_law_ 1561 = .ok (.i2l, 1) := by decide +kernel
theorem dL_law__1562 : decode cL_law_ 1562 = .ok (.lcmp, 1) := by decide +kernel
theorem dL_law__1563 : decode cL_law_ 1563 = .ok (.ifCond .eq 5, 3) := by decide +kernel
theorem dL_law__1566 : decode cL_law_ 1566 = .ok (.iconst 0, 1) := by decide +kernel
theorem dL_law__1567 : decode cL_law_ 1567 = .ok (.ireturn, 1) := by decide +kernel
theorem dL_law__1568 : decode cL_law_ 1568 = .ok (.goto 679, 3) := by decide +kernel
theorem dL_law__1571 : decode cL_law_ 1571 = .ok (.aload_n 1, 1) := by decide +kernel
theorem dL_law__1572 : decode cL_law_ 1572 = .ok (.aload_n 0, 1) := by decide +kernel
theorem dL_law__1573 : decode cL_law_ 1573 = .ok (.iload 4, 2) := by decide +kernel
theorem dL_law__1575 : decode cL_law_ 1575 = .ok (.iconst 1, 1) := by decide +kernel
theorem dL_law__1576 : decode cL_law_ 1576 = .ok (.iadd, 1) := by decide +kernel
theorem dL_law__1577 : decode cL_law_ 1577 = .ok (.iaload, 1) := by decide +kernel
theorem dL_law__1578 : decode cL_law_ 1578 = .ok (.aload_n 0, 1) := by decide +kernel
theorem dL_law__1579 : decode cL_law_ 1579 = .ok (.iload 4, 2) := by decide +kernel
theorem dL_law__1581 : decode cL_law_ 1581 = .ok (.iconst 2, 1) := by decide +kernel
theorem dL_law__1582 : decode cL_law_ 1582 = .ok (.iadd, 1) := by decide +kernel
theorem dL_law__1583 : decode cL_law_ 1583 = .ok (.iaload, 1) := by decide +kernel
theorem dL_law__1584 : decode cL_law_ 1584 = .ok (.aload_n 3, 1) := by decide +kernel
theorem dL_law__1585 : decode cL_law_ 1585 = .ok (.invokestatic 202, 3) := by decide +kernel
theorem dL_law__1588 : decode cL_law_ 1588 = .ok (.istore 5, 2) := by decide +kernel
theorem dL_law__1590 : decode cL_law_ 1590 = .ok (.aload_n 2, 1) := by decide +kernel
theorem dL_law__1591 : decode cL_law_ 1591 = .ok (.aload_n 0, 1) := by decide +kernel
theorem dL_law__1592 : decode cL_law_ 1592 = .ok (.iload 4, 2) := by decide +kernel
theorem dL_law__1594 : decode cL_law_ 1594 = .ok (.iconst 1, 1) := by decide +kernel
theorem dL_law__1595 : decode cL_law_ 1595 = .ok (.iadd, 1) := by decide +kernel
theorem dL_law__1596 : decode cL_law_ 1596 = .ok (.iaload, 1) := by decide +kernel
theorem dL_law__1597 : decode cL_law_ 1597 = .ok (.aload_n 0, 1) := by decide +kernel
theorem dL_law__1598 : decode cL_law_ 1598 = .ok (.iload 4, 2) := by decide +kernel
theorem dL_law__1600 : decode cL_law_ 1600 = .ok (.iconst 2, 1) := by decide +kernel
theorem dL_law__1601 : decode cL_law_ 1601 = .ok (.iadd, 1) := by decide +kernel
theorem dL_law__1602 : decode cL_law_ 1602 = .ok (.iaload, 1) := by decide +kernel
theorem dL_law__1603 : decode cL_law_ 1603 = .ok (.invokevirtual 204, 3) := by decide +kernel
theorem dL_law__1606 : decode cL_law_ 1606 = .ok (.istore 6, 2) := by decide +kernel
theorem dL_law__1608 : decode cL_law_ 1608 = .ok (.aload_n 2, 1) := by decide +kernel
theorem dL_law__1609 : decode cL_law_ 1609 = .ok (.invokevirtual 116, 3) := by decide +kernel
theorem dL_law__1612 : decode cL_law_ 1612 = .ok (.iload 5, 2) := by decide +kernel
theorem dL_law__1614 : decode cL_law_ 1614 = .ok (.if_icmp .eq 5, 3) := by decide +kernel
theorem dL_law__1617 : decode cL_law_ 1617 = .ok (.iconst 0, 1) := by decide +kernel
theorem dL_law__1618 : decode cL_law_ 1618 = .ok (.ireturn, 1) := by decide +kernel
theorem dL_law__1619 : decode cL_law_ 1619 = .ok (.iload 5, 2) := by decide +kernel
theorem dL_law__1621 : decode cL_law_ 1621 = .ok (.ifCond .ne 15, 3) := by decide +kernel
theorem dL_law__1624 : decode cL_law_ 1624 = .ok (.aload_n 3, 1) := by decide +kernel
theorem dL_law__1625 : decode cL_law_ 1625 = .ok (.iconst 0, 1) := by decide +kernel
theorem dL_law__1626 : decode cL_law_ 1626 = .ok (.laload, 1) := by decide +kernel
theorem dL_law__1627 : decode cL_law_ 1627 = .ok (.iload 6, 2) := by decide +kernel
theorem dL_law__1629 : decode cL_law_ 1629 = .ok (.i2l, 1) := by decide +kernel
theorem dL_law__1630 : decode cL_law_ 1630 = .ok (.lcmp, 1) := by decide +kernel
theorem dL_law__1631 : decode cL_law_ 1631 = .ok (.ifCond .eq 5, 3) := by decide +kernel
theorem dL_law__1634 : decode cL_law_ 1634 = .ok (.iconst 0, 1) := by decide +kernel
theorem dL_law__1635 : decode cL_law_ 1635 = .ok (.ireturn, 1) := by decide +kernel
theorem dL_law__1636 : decode cL_law_ 1636 = .ok (.goto 611, 3) := by decide +kernel
theorem dL_law__1639 : decode cL_law_ 1639 = .ok (.aload_n 1, 1) := by decide +kernel
theorem dL_law__1640 : decode cL_law_ 1640 = .ok (.aload_n 0, 1) := by decide +kernel
theorem dL_law__1641 : decode cL_law_ 1641 = .ok (.iload 4, 2) := by decide +kernel
theorem dL_law__1643 : decode cL_law_ 1643 = .ok (.iconst 1, 1) := by decide +kernel
theorem dL_law__1644 : decode cL_law_ 1644 = .ok (.iadd, 1) := by decide +kernel
theorem dL_law__1645 : decode cL_law_ 1645 = .ok (.iaload, 1) := by decide +kernel
theorem dL_law__1646 : decode cL_law_ 1646 = .ok (.aload_n 3, 1) := by decide +kernel
theorem dL_law__1647 : decode cL_law_ 1647 = .ok (.invokestatic 205, 3) := by decide +kernel
theorem dL_law__1650 : decode cL_law_ 1650 = .ok (.istore 5, 2) := by decide +kernel
theorem dL_law__1652 : decode cL_law_ 1652 = .ok (.aload_n 2, 1) := by decide +kernel
theorem dL_law__1653 : decode cL_law_ 1653 = .ok (.aload_n 0, 1) := by decide +kernel
theorem dL_law__1654 : decode cL_law_ 1654 = .ok (.iload 4, 2) := by decide +kernel
theorem dL_law__1656 : decode cL_law_ 1656 = .ok (.iconst 1, 1) := by decide +kernel
theorem dL_law__1657 : decode cL_law_ 1657 = .ok (.iadd, 1) := by decide +kernel
theorem dL_law__1658 : decode cL_law_ 1658 = .ok (.iaload, 1) := by decide +kernel
theorem dL_law__1659 : decode cL_law_ 1659 = .ok (.invokevirtual 207, 3) := by decide +kernel
theorem dL_law__1662 : decode cL_law_ 1662 = .ok (.istore 6, 2) := by decide +kernel
theorem dL_law__1664 : decode cL_law_ 1664 = .ok (.aload_n 2, 1) := by decide +kernel
theorem dL_law__1665 : decode cL_law_ 1665 = .ok (.invokevirtual 116, 3) := by decide +kernel
theorem dL_law__1668 : decode cL_law_ 1668 = .ok (.iload 5, 2) := by decide +kernel
theorem dL_law__1670 : decode cL_law_ 1670 = .ok (.if_icmp .eq 5, 3) := by decide +kernel
theorem dL_law__1673 : decode cL_law_ 1673 = .ok (.iconst 0, 1) := by decide +kernel
theorem dL_law__1674 : decode cL_law_ 1674 = .ok (.ireturn, 1) := by decide +kernel
theorem dL_law__1675 : decode cL_law_ 1675 = .ok (.iload 5, 2) := by decide +kernel
theorem dL_law__1677 : decode cL_law_ 1677 = .ok (.ifCond .ne 15, 3) := by decide +kernel
theorem dL_law__1680 : decode cL_law_ 1680 = .ok (.aload_n 3, 1) := by decide +kernel
theorem dL_law__1681 : decode cL_law_ 1681 = .ok (.iconst 0, 1) := by decide +kernel
theorem dL_law__1682 : decode cL_law_ 1682 = .ok (.laload, 1) := by decide +kernel
theorem dL_law__1683 : decode cL_law_ 1683 = .ok (.iload 6, 2) := by decide +kernel
theorem dL_law__1685 : decode cL_law_ 1685 = .ok (.i2l, 1) := by decide +kernel
theorem dL_law__1686 : decode cL_law_ 1686 = .ok (.lcmp, 1) := by decide +kernel
theorem dL_law__1687 : decode cL_law_ 1687 = .ok (.ifCond .eq 5, 3) := by decide +kernel
theorem dL_law__1690 : decode cL_law_ 1690 = .ok (.iconst 0, 1) := by decide +kernel
theorem dL_law__1691 : decode cL_law_ 1691 = .ok (.ireturn, 1) := by decide +kernel
theorem dL_law__1692 : decode cL_law_ 1692 = .ok (.goto 555, 3) := by decide +kernel
theorem dL_law__1695 : decode cL_law_ 1695 = .ok (.aload_n 1, 1) := by decide +kernel
theorem dL_law__1696 : decode cL_law_ 1696 = .ok (.invokevirtual 208, 3) := by decide +kernel
theorem dL_law__1699 : decode cL_law_ 1699 = .ok (.aload_n 2, 1) := by decide +kernel
theorem dL_law__1700 : decode cL_law_ 1700 = .ok (.invokevirtual 211, 3) := by decide +kernel
theorem dL_law__1703 : decode cL_law_ 1703 = .ok (.if_icmp .eq 544, 3) := by decide +kernel
theorem dL_law__1706 : decode cL_law_ 1706 = .ok (.iconst 0, 1) := by decide +kernel
theorem dL_law__1707 : decode cL_law_ 1707 = .ok (.ireturn, 1) := by decide +kernel
theorem dL_law__1708 : decode cL_law_ 1708 = .ok (.aload_n 1, 1) := by decide +kernel
theorem dL_law__1709 : decode cL_law_ 1709 = .ok (.invokevirtual 212, 3) := by decide +kernel
theorem dL_law__1712 : decode cL_law_ 1712 = .ok (.aload_n 2, 1) := by decide +kernel
theorem dL_law__1713 : decode cL_law_ 1713 = .ok (.invokevirtual 215, 3) := by decide +kernel
theorem dL_law__1716 : decode cL_law_ 1716 = .ok (.if_icmp .eq 531, 3) := by decide +kernel
theorem dL_law__1719 : decode cL_law_ 1719 = .ok (.iconst 0, 1) := by decide +kernel
theorem dL_law__1720 : decode cL_law_ 1720 = .ok (.ireturn, 1) := by decide +kernel
theorem dL_law__1721 : decode cL_law_ 1721 = .ok (.aload_n 1, 1) := by decide +kernel
theorem dL_law__1722 : decode cL_law_ 1722 = .ok (.aload_n 0, 1) := by decide +kernel
theorem dL_law__1723 : decode cL_law_ 1723 = .ok (.iload 4, 2) := by decide +kernel
theorem dL_law__1725 : decode cL_law_ 1725 = .ok (.iconst 1, 1) := by decide +kernel
theorem dL_law__1726 : decode cL_law_ 1726 = .ok (.iadd, 1) := by decide +kernel
theorem dL_law__1727 : decode cL_law_ 1727 = .ok (.iaload, 1) := by decide +kernel
theorem dL_law__1728 : decode cL_law_ 1728 = .ok (.aload_n 0, 1) := by decide +kernel
theorem dL_law__1729 : decode cL_law_ 1729 = .ok (.iload 4, 2) := by decide +kernel
theorem dL_law__1731 : decode cL_law_ 1731 = .ok (.iconst 2, 1) := by decide +kernel
theorem dL_law__1732 : decode cL_law_ 1732 = .ok (.iadd, 1) := by decide +kernel
theorem dL_law__1733 : decode cL_law_ 1733 = .ok (.iaload, 1) := by decide +kernel
theorem dL_law__1734 : decode cL_law_ 1734 = .ok (.aload_n 0, 1) := by decide +kernel
theorem dL_law__1735 : decode cL_law_ 1735 = .ok (.iload 4, 2) := by decide +kernel
theorem dL_law__1737 : decode cL_law_ 1737 = .ok (.iconst 3, 1) := by decide +kernel
theorem dL_law__1738 : decode cL_law_ 1738 = .ok (.iadd, 1) := by decide +kernel
theorem dL_law__1739 : decode cL_law_ 1739 = .ok (.iaload, 1) := by decide +kernel
theorem dL_law__1740 : decode cL_law_ 1740 = .ok (.aload_n 0, 1) := by decide +kernel
theorem dL_law__1741 : decode cL_law_ 1741 = .ok (.iload 4, 2) := by decide +kernel
theorem dL_law__1743 : decode cL_law_ 1743 = .ok (.iconst 4, 1) := by decide +kernel
theorem dL_law__1744 : decode cL_law_ 1744 = .ok (.iadd, 1) := by decide +kernel
theorem dL_law__1745 : decode cL_law_ 1745 = .ok (.iaload, 1) := by decide +kernel
theorem dL_law__1746 : decode cL_law_ 1746 = .ok (.aload_n 3, 1) := by decide +kernel
theorem dL_law__1747 : decode cL_law_ 1747 = .ok (.invokestatic 216, 3) := by decide +kernel
theorem dL_law__1750 : decode cL_law_ 1750 = .ok (.istore 5, 2) := by decide +kernel
theorem dL_law__1752 : decode cL_law_ 1752 = .ok (.aload_n 2, 1) := by decide +kernel
theorem dL_law__1753 : decode cL_law_ 1753 = .ok (.aload_n 0, 1) := by decide +kernel
theorem dL_law__1754 : decode cL_law_ 1754 = .ok (.iload 4, 2) := by decide +kernel
theorem dL_law__1756 : decode cL_law_ 1756 = .ok (.iconst 1, 1) := by decide +kernel
theorem dL_law__1757 : decode cL_law_ 1757 = .ok (.iadd, 1) := by decide +kernel
theorem dL_law__1758 : decode cL_law_ 1758 = .ok (.iaload, 1) := by decide +kernel
theorem dL_law__1759 : decode cL_law_ 1759 = .ok (.aload_n 0, 1) := by decide +kernel
theorem dL_law__1760 : decode cL_law_ 1760 = .ok (.iload 4, 2) := by decide +kernel
theorem dL_law__1762 : decode cL_law_ 1762 = .ok (.iconst 2, 1) := by decide +kernel
theorem dL_law__1763 : decode cL_law_ 1763 = .ok (.iadd, 1) := by decide +kernel
theorem dL_law__1764 : decode cL_law_ 1764 = .ok (.iaload, 1) := by decide +kernel
theorem dL_law__1765 : decode cL_law_ 1765 = .ok (.aload_n 0, 1) := by decide +kernel
theorem dL_law__1766 : decode cL_law_ 1766 = .ok (.iload 4, 2) := by decide +kernel
theorem dL_law__1768 : decode cL_law_ 1768 = .ok (.iconst 3, 1) := by decide +kernel
theorem dL_law__1769 : decode cL_law_ 1769 = .ok (.iadd, 1) := by decide +kernel
theorem dL_law__1770 : decode cL_law_ 1770 = .ok (.iaload, 1) := by decide +kernel
theorem dL_law__1771 : decode cL_law_ 1771 = .ok (.aload_n 0, 1) := by decide +kernel
theorem dL_law__1772 : decode cL_law_ 1772 = .ok (.iload 4, 2) := by decide +kernel
theorem dL_law__1774 : decode cL_law_ 1774 = .ok (.iconst 4, 1) := by decide +kernel
theorem dL_law__1775 : decode cL_law_ 1775 = .ok (.iadd, 1) := by decide +kernel
theorem dL_law__1776 : decode cL_law_ 1776 = .ok (.iaload, 1) := by decide +kernel
theorem dL_law__1777 : decode cL_law_ 1777 = .ok (.invokevirtual 219, 3) := by decide +kernel
theorem dL_law__1780 : decode cL_law_ 1780 = .ok (.istore 6, 2) := by decide +kernel
theorem dL_law__1782 : decode cL_law_ 1782 = .ok (.aload_n 2, 1) := by decide +kernel
theorem dL_law__1783 : decode cL_law_ 1783 = .ok (.invokevirtual 116, 3) := by decide +kernel
theorem dL_law__1786 : decode cL_law_ 1786 = .ok (.iload 5, 2) := by decide +kernel
theorem dL_law__1788 : decode cL_law_ 1788 = .ok (.if_icmp .eq 5, 3) := by decide +kernel
theorem dL_law__1791 : decode cL_law_ 1791 = .ok (.iconst 0, 1) := by decide +kernel
theorem dL_law__1792 : decode cL_law_ 1792 = .ok (.ireturn, 1) := by decide +kernel
theorem dL_law__1793 : decode cL_law_ 1793 = .ok (.iload 5, 2) := by decide +kernel
theorem dL_law__1795 : decode cL_law_ 1795 = .ok (.ifCond .ne 15, 3) := by decide +kernel
theorem dL_law__1798 : decode cL_law_ 1798 = .ok (.aload_n 3, 1) := by decide +kernel
theorem dL_law__1799 : decode cL_law_ 1799 = .ok (.iconst 0, 1) := by decide +kernel
theorem dL_law__1800 : decode cL_law_ 1800 = .ok (.laload, 1) := by decide +kernel
theorem dL_law__1801 : decode cL_law_ 1801 = .ok (.iload 6, 2) := by decide +kernel
theorem dL_law__1803 : decode cL_law_ 1803 = .ok (.i2l, 1) := by decide +kernel
theorem dL_law__1804 : decode cL_law_ 1804 = .ok (.lcmp, 1) := by decide +kernel
theorem dL_law__1805 : decode cL_law_ 1805 = .ok (.ifCond .eq 5, 3) := by decide +kernel
theorem dL_law__1808 : decode cL_law_ 1808 = .ok (.iconst 0, 1) := by decide +kernel
theorem dL_law__1809 : decode cL_law_ 1809 = .ok (.ireturn, 1) := by decide +kernel
theorem dL_law__1810 : decode cL_law_ 1810 = .ok (.goto 437, 3) := by decide +kernel
theorem dL_law__1813 : decode cL_law_ 1813 = .ok (.aload_n 1, 1) := by decide +kernel
theorem dL_law__1814 : decode cL_law_ 1814 = .ok (.aload_n 0, 1) := by decide +kernel
theorem dL_law__1815 : decode cL_law_ 1815 = .ok (.iload 4, 2) := by decide +kernel
theorem dL_law__1817 : decode cL_law_ 1817 = .ok (.iconst 1, 1) := by decide +kernel
theorem dL_law__1818 : decode cL_law_ 1818 = .ok (.iadd, 1) := by decide +kernel
theorem dL_law__1819 : decode cL_law_ 1819 = .ok (.iaload, 1) := by decide +kernel
theorem dL_law__1820 : decode cL_law_ 1820 = .ok (.aload_n 0, 1) := by decide +kernel
theorem dL_law__1821 : decode cL_law_ 1821 = .ok (.iload 4, 2) := by decide +kernel
theorem dL_law__1823 : decode cL_law_ 1823 = .ok (.iconst 2, 1) := by decide +kernel
theorem dL_law__1824 : decode cL_law_ 1824 = .ok (.iadd, 1) := by decide +kernel
theorem dL_law__1825 : decode cL_law_ 1825 = .ok (.iaload, 1) := by decide +kernel
theorem dL_law__1826 : decode cL_law_ 1826 = .ok (.aload_n 0, 1) := by decide +kernel
theorem dL_law__1827 : decode cL_law_ 1827 = .ok (.iload 4, 2) := by decide +kernel
theorem dL_law__1829 : decode cL_law_ 1829 = .ok (.iconst 3, 1) := by decide +kernel
theorem dL_law__1830 : decode cL_law_ 1830 = .ok (.iadd, 1) := by decide +kernel
theorem dL_law__1831 : decode cL_law_ 1831 = .ok (.iaload, 1) := by decide +kernel
theorem dL_law__1832 : decode cL_law_ 1832 = .ok (.aload_n 3, 1) := by decide +kernel
theorem dL_law__1833 : decode cL_law_ 1833 = .ok (.invokestatic 220, 3) := by decide +kernel
theorem dL_law__1836 : decode cL_law_ 1836 = .ok (.istore 5, 2) := by decide +kernel
theorem dL_law__1838 : decode cL_law_ 1838 = .ok (.aload_n 2, 1) := by decide +kernel
theorem dL_law__1839 : decode cL_law_ 1839 = .ok (.aload_n 0, 1) := by decide +kernel
theorem dL_law__1840 : decode cL_law_ 1840 = .ok (.iload 4, 2) := by decide +kernel
theorem dL_law__1842 : decode cL_law_ 1842 = .ok (.iconst 1, 1) := by decide +kernel
theorem dL_law__1843 : decode cL_law_ 1843 = .ok (.iadd, 1) := by decide +kernel
theorem dL_law__1844 : decode cL_law_ 1844 = .ok (.iaload, 1) := by decide +kernel
theorem dL_law__1845 : decode cL_law_ 1845 = .ok (.aload_n 0, 1) := by decide +kernel
theorem dL_law__1846 : decode cL_law_ 1846 = .ok (.iload 4, 2) := by decide +kernel
theorem dL_law__1848 : decode cL_law_ 1848 = .ok (.iconst 2, 1) := by decide +kernel
theorem dL_law__1849 : decode cL_law_ 1849 = .ok (.iadd, 1) := by decide +kernel
theorem dL_law__1850 : decode cL_law_ 1850 = .ok (.iaload, 1) := by decide +kernel
theorem dL_law__1851 : decode cL_law_ 1851 = .ok (.aload_n 0, 1) := by decide +kernel
theorem dL_law__1852 : decode cL_law_ 1852 = .ok (.iload 4, 2) := by decide +kernel
theorem dL_law__1854 : decode cL_law_ 1854 = .ok (.iconst 3, 1) := by decide +kernel
theorem dL_law__1855 : decode cL_law_ 1855 = .ok (.iadd, 1) := by decide +kernel
theorem dL_law__1856 : decode cL_law_ 1856 = .ok (.iaload, 1) := by decide +kernel
theorem dL_law__1857 : decode cL_law_ 1857 = .ok (.invokevirtual 223, 3) := by decide +kernel
theorem dL_law__1860 : decode cL_law_ 1860 = .ok (.istore 6, 2) := by decide +kernel
theorem dL_law__1862 : decode cL_law_ 1862 = .ok (.aload_n 2, 1) := by decide +kernel
theorem dL_law__1863 : decode cL_law_ 1863 = .ok (.invokevirtual 116, 3) := by decide +kernel
theorem dL_law__1866 : decode cL_law_ 1866 = .ok (.iload 5, 2) := by decide +kernel
theorem dL_law__1868 : decode cL_law_ 1868 = .ok (.if_icmp .eq 5, 3) := by decide +kernel
theorem dL_law__1871 : decode cL_law_ 1871 = .ok (.iconst 0, 1) := by decide +kernel
theorem dL_law__1872 : decode cL_law_ 1872 = .ok (.ireturn, 1) := by decide +kernel
theorem dL_law__1873 : decode cL_law_ 1873 = .ok (.iload 5, 2) := by decide +kernel
theorem dL_law__1875 : decode cL_law_ 1875 = .ok (.ifCond .ne 15, 3) := by decide +kernel
theorem dL_law__1878 : decode cL_law_ 1878 = .ok (.aload_n 3, 1) := by decide +kernel
theorem dL_law__1879 : decode cL_law_ 1879 = .ok (.iconst 0, 1) := by decide +kernel
theorem dL_law__1880 : decode cL_law_ 1880 = .ok (.laload, 1) := by decide +kernel
theorem dL_law__1881 : decode cL_law_ 1881 = .ok (.iload 6, 2) := by decide +kernel
theorem dL_law__1883 : decode cL_law_ 1883 = .ok (.i2l, 1) := by decide +kernel
theorem dL_law__1884 : decode cL_law_ 1884 = .ok (.lcmp, 1) := by decide +kernel
theorem dL_law__1885 : decode cL_law_ 1885 = .ok (.ifCond .eq 5, 3) := by decide +kernel
theorem dL_law__1888 : decode cL_law_ 1888 = .ok (.iconst 0, 1) := by decide +kernel
theorem dL_law__1889 : decode cL_law_ 1889 = .ok (.ireturn, 1) := by decide +kernel
theorem dL_law__1890 : decode cL_law_ 1890 = .ok (.goto 357, 3) := by decide +kernel
theorem dL_law__1893 : decode cL_law_ 1893 = .ok (.aload_n 1, 1) := by decide +kernel
theorem dL_law__1894 : decode cL_law_ 1894 = .ok (.aload_n 0, 1) := by decide +kernel
theorem dL_law__1895 : decode cL_law_ 1895 = .ok (.iload 4, 2) := by decide +kernel
theorem dL_law__1897 : decode cL_law_ 1897 = .ok (.iconst 1, 1) := by decide +kernel
theorem dL_law__1898 : decode cL_law_ 1898 = .ok (.iadd, 1) := by decide +kernel
theorem dL_law__1899 : decode cL_law_ 1899 = .ok (.iaload, 1) := by decide +kernel
theorem dL_law__1900 : decode cL_law_ 1900 = .ok (.aload_n 0, 1) := by decide +kernel
theorem dL_law__1901 : decode cL_law_ 1901 = .ok (.iload 4, 2) := by decide +kernel
theorem dL_law__1903 : decode cL_law_ 1903 = .ok (.iconst 2, 1) := by decide +kernel
theorem dL_law__1904 : decode cL_law_ 1904 = .ok (.iadd, 1) := by decide +kernel
theorem dL_law__1905 : decode cL_law_ 1905 = .ok (.iaload, 1) := by decide +kernel
theorem dL_law__1906 : decode cL_law_ 1906 = .ok (.aload_n 3, 1) := by decide +kernel
theorem dL_law__1907 : decode cL_law_ 1907 = .ok (.invokestatic 224, 3) := by decide +kernel
theorem dL_law__1910 : decode cL_law_ 1910 = .ok (.istore 5, 2) := by decide +kernel
theorem dL_law__1912 : decode cL_law_ 1912 = .ok (.aload_n 2, 1) := by decide +kernel
theorem dL_law__1913 : decode cL_law_ 1913 = .ok (.aload_n 0, 1) := by decide +kernel
theorem dL_law__1914 : decode cL_law_ 1914 = .ok (.iload 4, 2) := by decide +kernel
theorem dL_law__1916 : decode cL_law_ 1916 = .ok (.iconst 1, 1) := by decide +kernel
theorem dL_law__1917 : decode cL_law_ 1917 = .ok (.iadd, 1) := by decide +kernel
theorem dL_law__1918 : decode cL_law_ 1918 = .ok (.iaload, 1) := by decide +kernel
theorem dL_law__1919 : decode cL_law_ 1919 = .ok (.aload_n 0, 1) := by decide +kernel
theorem dL_law__1920 : decode cL_law_ 1920 = .ok (.iload 4, 2) := by decide +kernel
theorem dL_law__1922 : decode cL_law_ 1922 = .ok (.iconst 2, 1) := by decide +kernel
theorem dL_law__1923 : decode cL_law_ 1923 = .ok (.iadd, 1) := by decide +kernel
theorem dL_law__1924 : decode cL_law_ 1924 = .ok (.iaload, 1) := by decide +kernel
theorem dL_law__1925 : decode cL_law_ 1925 = .ok (.invokevirtual 226, 3) := by decide +kernel
theorem dL_law__1928 : decode cL_law_ 1928 = .ok (.istore 6, 2) := by decide +kernel
theorem dL_law__1930 : decode cL_law_ 1930 = .ok (.aload_n 2, 1) := by decide +kernel
theorem dL_law__1931 : decode cL_law_ 1931 = .ok (.invokevirtual 116, 3) := by decide +kernel
theorem dL_law__1934 : decode cL_law_ 1934 = .ok (.iload 5, 2) := by decide +kernel
theorem dL_law__1936 : decode cL_law_ 1936 = .ok (.if_icmp .eq 5, 3) := by decide +kernel
theorem dL_law__1939 : decode cL_law_ 1939 = .ok (.iconst 0, 1) := by decide +kernel
theorem dL_law__1940 : decode cL_law_ 1940 = .ok (.ireturn, 1) := by decide +kernel
theorem dL_law__1941 : decode cL_law_ 1941 = .ok (.iload 5, 2) := by decide +kernel
theorem dL_law__1943 : decode cL_law_ 1943 = .ok (.ifCond .ne 15, 3) := by decide +kernel
theorem dL_law__1946 : decode cL_law_ 1946 = .ok (.aload_n 3, 1) := by decide +kernel
theorem dL_law__1947 : decode cL_law_ 1947 = .ok (.iconst 0, 1) := by decide +kernel
theorem dL_law__1948 : decode cL_law_ 1948 = .ok (.laload, 1) := by decide +kernel
theorem dL_law__1949 : decode cL_law_ 1949 = .ok (.iload 6, 2) := by decide +kernel
theorem dL_law__1951 : decode cL_law_ 1951 = .ok (.i2l, 1) := by decide +kernel
theorem dL_law__1952 : decode cL_law_ 1952 = .ok (.lcmp, 1) := by decide +kernel
theorem dL_law__1953 : decode cL_law_ 1953 = .ok (.ifCond .eq 5, 3) := by decide +kernel
theorem dL_law__1956 : decode cL_law_ 1956 = .ok (.iconst 0, 1) := by decide +kernel
theorem dL_law__1957 : decode cL_law_ 1957 = .ok (.ireturn, 1) := by decide +kernel
theorem dL_law__1958 : decode cL_law_ 1958 = .ok (.goto 289, 3) := by decide +kernel
theorem dL_law__1961 : decode cL_law_ 1961 = .ok (.aload_n 1, 1) := by decide +kernel
theorem dL_law__1962 : decode cL_law_ 1962 = .ok (.aload_n 0, 1) := by decide +kernel
theorem dL_law__1963 : decode cL_law_ 1963 = .ok (.iload 4, 2) := by decide +kernel
theorem dL_law__1965 : decode cL_law_ 1965 = .ok (.iconst 1, 1) := by decide +kernel
theorem dL_law__1966 : decode cL_law_ 1966 = .ok (.iadd, 1) := by decide +kernel
theorem dL_law__1967 : decode cL_law_ 1967 = .ok (.iaload, 1) := by decide +kernel
theorem dL_law__1968 : decode cL_law_ 1968 = .ok (.aload_n 0, 1) := by decide +kernel
theorem dL_law__1969 : decode cL_law_ 1969 = .ok (.iload 4, 2) := by decide +kernel
theorem dL_law__1971 : decode cL_law_ 1971 = .ok (.iconst 2, 1) := by decide +kernel
theorem dL_law__1972 : decode cL_law_ 1972 = .ok (.iadd, 1) := by decide +kernel
theorem dL_law__1973 : decode cL_law_ 1973 = .ok (.iaload, 1) := by decide +kernel
theorem dL_law__1974 : decode cL_law_ 1974 = .ok (.aload_n 0, 1) := by decide +kernel
theorem dL_law__1975 : decode cL_law_ 1975 = .ok (.iload 4, 2) := by decide +kernel
theorem dL_law__1977 : decode cL_law_ 1977 = .ok (.iconst 3, 1) := by decide +kernel
theorem dL_law__1978 : decode cL_law_ 1978 = .ok (.iadd, 1) := by decide +kernel
theorem dL_law__1979 : decode cL_law_ 1979 = .ok (.iaload, 1) := by decide +kernel
theorem dL_law__1980 : decode cL_law_ 1980 = .ok (.aload_n 0, 1) := by decide +kernel
theorem dL_law__1981 : decode cL_law_ 1981 = .ok (.iload 4, 2) := by decide +kernel
theorem dL_law__1983 : decode cL_law_ 1983 = .ok (.iconst 4, 1) := by decide +kernel
theorem dL_law__1984 : decode cL_law_ 1984 = .ok (.iadd, 1) := by decide +kernel
theorem dL_law__1985 : decode cL_law_ 1985 = .ok (.iaload, 1) := by decide +kernel
theorem dL_law__1986 : decode cL_law_ 1986 = .ok (.aload_n 3, 1) := by decide +kernel
theorem dL_law__1987 : decode cL_law_ 1987 = .ok (.invokestatic 227, 3) := by decide +kernel
theorem dL_law__1990 : decode cL_law_ 1990 = .ok (.istore 5, 2) := by decide +kernel
theorem dL_law__1992 : decode cL_law_ 1992 = .ok (.aload_n 2, 1) := by decide +kernel
theorem dL_law__1993 : decode cL_law_ 1993 = .ok (.aload_n 0, 1) := by decide +kernel
theorem dL_law__1994 : decode cL_law_ 1994 = .ok (.iload 4, 2) := by decide +kernel
theorem dL_law__1996 : decode cL_law_ 1996 = .ok (.iconst 1, 1) := by decide +kernel
theorem dL_law__1997 : decode cL_law_ 1997 = .ok (.iadd, 1) := by decide +kernel
theorem dL_law__1998 : decode cL_law_ 1998 = .ok (.iaload, 1) := by decide +kernel
theorem dL_law__1999 : decode cL_law_ 1999 = .ok (.aload_n 0, 1) := by decide +kernel
theorem dL_law__2000 : decode cL_law_ 2000 = .ok (.iload 4, 2) := by decide +kernel
theorem dL_law__2002 : decode cL_law_ 2002 = .ok (.iconst 2, 1) := by decide +kernel
theorem dL_law__2003 : decode cL_law_ 2003 = .ok (.iadd, 1) := by decide +kernel
theorem dL_law__2004 : decode cL_law_ 2004 = .ok (.iaload, 1) := by decide +kernel
theorem dL_law__2005 : decode cL_law_ 2005 = .ok (.aload_n 0, 1) := by decide +kernel
theorem dL_law__2006 : decode cL_law_ 2006 = .ok (.iload 4, 2) := by decide +kernel
theorem dL_law__2008 : decode cL_law_ 2008 = .ok (.iconst 3, 1) := by decide +kernel
theorem dL_law__2009 : decode cL_law_ 2009 = .ok (.iadd, 1) := by decide +kernel
theorem dL_law__2010 : decode cL_law_ 2010 = .ok (.iaload, 1) := by decide +kernel
theorem dL_law__2011 : decode cL_law_ 2011 = .ok (.aload_n 0, 1) := by decide +kernel
theorem dL_law__2012 : decode cL_law_ 2012 = .ok (.iload 4, 2) := by decide +kernel
theorem dL_law__2014 : decode cL_law_ 2014 = .ok (.iconst 4, 1) := by decide +kernel
theorem dL_law__2015 : decode cL_law_ 2015 = .ok (.iadd, 1) := by decide +kernel
theorem dL_law__2016 : decode cL_law_ 2016 = .ok (.iaload, 1) := by decide +kernel
theorem dL_law__2017 : decode cL_law_ 2017 = .ok (.invokevirtual 229, 3) := by decide +kernel
theorem dL_law__2020 : decode cL_law_ 2020 = .ok (.istore 6, 2) := by decide +kernel
theorem dL_law__2022 : decode cL_law_ 2022 = .ok (.aload_n 2, 1) := by decide +kernel
theorem dL_law__2023 : decode cL_law_ 2023 = .ok (.invokevirtual 116, 3) := by decide +kernel
theorem dL_law__2026 : decode cL_law_ 2026 = .ok (.iload 5, 2) := by decide +kernel
theorem dL_law__2028 : decode cL_law_ 2028 = .ok (.if_icmp .eq 5, 3) := by decide +kernel
theorem dL_law__2031 : decode cL_law_ 2031 = .ok (.iconst 0, 1) := by decide +kernel
theorem dL_law__2032 : decode cL_law_ 2032 = .ok (.ireturn, 1) := by decide +kernel
theorem dL_law__2033 : decode cL_law_ 2033 = .ok (.iload 5, 2) := by decide +kernel
theorem dL_law__2035 : decode cL_law_ 2035 = .ok (.ifCond .ne 15, 3) := by decide +kernel
theorem dL_law__2038 : decode cL_law_ 2038 = .ok (.aload_n 3, 1) := by decide +kernel
theorem dL_law__2039 : decode cL_law_ 2039 = .ok (.iconst 0, 1) := by decide +kernel
theorem dL_law__2040 : decode cL_law_ 2040 = .ok (.laload, 1) := by decide +kernel
theorem dL_law__2041 : decode cL_law_ 2041 = .ok (.iload 6, 2) := by decide +kernel
theorem dL_law__2043 : decode cL_law_ 2043 = .ok (.i2l, 1) := by decide +kernel
theorem dL_law__2044 : decode cL_law_ 2044 = .ok (.lcmp, 1) := by decide +kernel
theorem dL_law__2045 : decode cL_law_ 2045 = .ok (.ifCond .eq 5, 3) := by decide +kernel
theorem dL_law__2048 : decode cL_law_ 2048 = .ok (.iconst 0, 1) := by decide +kernel
theorem dL_law__2049 : decode cL_law_ 2049 = .ok (.ireturn, 1) := by decide +kernel
theorem dL_law__2050 : decode cL_law_ 2050 = .ok (.goto 197, 3) := by decide +kernel
theorem dL_law__2053 : decode cL_law_ 2053 = .ok (.aload_n 1, 1) := by decide +kernel
theorem dL_law__2054 : decode cL_law_ 2054 = .ok (.aload_n 0, 1) := by decide +kernel
theorem dL_law__2055 : decode cL_law_ 2055 = .ok (.iload 4, 2) := by decide +kernel
theorem dL_law__2057 : decode cL_law_ 2057 = .ok (.iconst 1, 1) := by decide +kernel
theorem dL_law__2058 : decode cL_law_ 2058 = .ok (.iadd, 1) := by decide +kernel
theorem dL_law__2059 : decode cL_law_ 2059 = .ok (.iaload, 1) := by decide +kernel
theorem dL_law__2060 : decode cL_law_ 2060 = .ok (.aload_n 0, 1) := by decide +kernel
theorem dL_law__2061 : decode cL_law_ 2061 = .ok (.iload 4, 2) := by decide +kernel
theorem dL_law__2063 : decode cL_law_ 2063 = .ok (.iconst 2, 1) := by decide +kernel
theorem dL_law__2064 : decode cL_law_ 2064 = .ok (.iadd, 1) := by decide +kernel
theorem dL_law__2065 : decode cL_law_ 2065 = .ok (.iaload, 1) := by decide +kernel
theorem dL_law__2066 : decode cL_law_ 2066 = .ok (.aload_n 0, 1) := by decide +kernel
theorem dL_law__2067 : decode cL_law_ 2067 = .ok (.iload 4, 2) := by decide +kernel
theorem dL_law__2069 : decode cL_law_ 2069 = .ok (.iconst 3, 1) := by decide +kernel
theorem dL_law__2070 : decode cL_law_ 2070 = .ok (.iadd, 1) := by decide +kernel
theorem dL_law__2071 : decode cL_law_ 2071 = .ok (.iaload, 1) := by decide +kernel
theorem dL_law__2072 : decode cL_law_ 2072 = .ok (.aload_n 0, 1) := by decide +kernel
theorem dL_law__2073 : decode cL_law_ 2073 = .ok (.iload 4, 2) := by decide +kernel
theorem dL_law__2075 : decode cL_law_ 2075 = .ok (.iconst 4, 1) := by decide +kernel
theorem dL_law__2076 : decode cL_law_ 2076 = .ok (.iadd, 1) := by decide +kernel
theorem dL_law__2077 : decode cL_law_ 2077 = .ok (.iaload, 1) := by decide +kernel
theorem dL_law__2078 : decode cL_law_ 2078 = .ok (.aload_n 0, 1) := by decide +kernel
theorem dL_law__2079 : decode cL_law_ 2079 = .ok (.iload 4, 2) := by decide +kernel
theorem dL_law__2081 : decode cL_law_ 2081 = .ok (.iconst 5, 1) := by decide +kernel
theorem dL_law__2082 : decode cL_law_ 2082 = .ok (.iadd, 1) := by decide +kernel
theorem dL_law__2083 : decode cL_law_ 2083 = .ok (.iaload, 1) := by decide +kernel
theorem dL_law__2084 : decode cL_law_ 2084 = .ok (.aload_n 0, 1) := by decide +kernel
theorem dL_law__2085 : decode cL_law_ 2085 = .ok (.iload 4, 2) := by decide +kernel
theorem dL_law__2087 : decode cL_law_ 2087 = .ok (.bipush 6, 2) := by decide +kernel
theorem dL_law__2089 : decode cL_law_ 2089 = .ok (.iadd, 1) := by decide +kernel
theorem dL_law__2090 : decode cL_law_ 2090 = .ok (.iaload, 1) := by decide +kernel
theorem dL_law__2091 : decode cL_law_ 2091 = .ok (.aload_n 3, 1) := by decide +kernel
theorem dL_law__2092 : decode cL_law_ 2092 = .ok (.invokestatic 230, 3) := by decide +kernel
theorem dL_law__2095 : decode cL_law_ 2095 = .ok (.istore 5, 2) := by decide +kernel
theorem dL_law__2097 : decode cL_law_ 2097 = .ok (.aload_n 2, 1) := by decide +kernel
theorem dL_law__2098 : decode cL_law_ 2098 = .ok (.aload_n 0, 1) := by decide +kernel
theorem dL_law__2099 : decode cL_law_ 2099 = .ok (.iload 4, 2) := by decide +kernel
theorem dL_law__2101 : decode cL_law_ 2101 = .ok (.iconst 1, 1) := by decide +kernel
theorem dL_law__2102 : decode cL_law_ 2102 = .ok (.iadd, 1) := by decide +kernel
theorem dL_law__2103 : decode cL_law_ 2103 = .ok (.iaload, 1) := by decide +kernel
theorem dL_law__2104 : decode cL_law_ 2104 = .ok (.aload_n 0, 1) := by decide +kernel
theorem dL_law__2105 : decode cL_law_ 2105 = .ok (.iload 4, 2) := by decide +kernel
theorem dL_law__2107 : decode cL_law_ 2107 = .ok (.iconst 2, 1) := by decide +kernel
theorem dL_law__2108 : decode cL_law_ 2108 = .ok (.iadd, 1) := by decide +kernel
theorem dL_law__2109 : decode cL_law_ 2109 = .ok (.iaload, 1) := by decide +kernel
theorem dL_law__2110 : decode cL_law_ 2110 = .ok (.aload_n 0, 1) := by decide +kernel
theorem dL_law__2111 : decode cL_law_ 2111 = .ok (.iload 4, 2) := by decide +kernel
theorem dL_law__2113 : decode cL_law_ 2113 = .ok (.iconst 3, 1) := by decide +kernel
theorem dL_law__2114 : decode cL_law_ 2114 = .ok (.iadd, 1) := by decide +kernel
theorem dL_law__2115 : decode cL_law_ 2115 = .ok (.iaload, 1) := by decide +kernel
theorem dL_law__2116 : decode cL_law_ 2116 = .ok (.aload_n 0, 1) := by decide +kernel
theorem dL_law__2117 : decode cL_law_ 2117 = .ok (.iload 4, 2) := by decide +kernel
theorem dL_law__2119 : decode cL_law_ 2119 = .ok (.iconst 4, 1) := by decide +kernel
theorem dL_law__2120 : decode cL_law_ 2120 = .ok (.iadd, 1) := by decide +kernel
theorem dL_law__2121 : decode cL_law_ 2121 = .ok (.iaload, 1) := by decide +kernel
theorem dL_law__2122 : decode cL_law_ 2122 = .ok (.aload_n 0, 1) := by decide +kernel
theorem dL_law__2123 : decode cL_law_ 2123 = .ok (.iload 4, 2) := by decide +kernel
theorem dL_law__2125 : decode cL_law_ 2125 = .ok (.iconst 5, 1) := by decide +kernel
theorem dL_law__2126 : decode cL_law_ 2126 = .ok (.iadd, 1) := by decide +kernel
theorem dL_law__2127 : decode cL_law_ 2127 = .ok (.iaload, 1) := by decide +kernel
theorem dL_law__2128 : decode cL_law_ 2128 = .ok (.aload_n 0, 1) := by decide +kernel
theorem dL_law__2129 : decode cL_law_ 2129 = .ok (.iload 4, 2) := by decide +kernel
theorem dL_law__2131 : decode cL_law_ 2131 = .ok (.bipush 6, 2) := by decide +kernel
theorem dL_law__2133 : decode cL_law_ 2133 = .ok (.iadd, 1) := by decide +kernel
theorem dL_law__2134 : decode cL_law_ 2134 = .ok (.iaload, 1) := by decide +kernel
theorem dL_law__2135 : decode cL_law_ 2135 = .ok (.invokevirtual 233, 3) := by decide +kernel
theorem dL_law__2138 : decode cL_law_ 2138 = .ok (.istore 6, 2) := by decide +kernel
theorem dL_law__2140 : decode cL_law_ 2140 = .ok (.aload_n 2, 1) := by decide +kernel
theorem dL_law__2141 : decode cL_law_ 2141 = .ok (.invokevirtual 116, 3) := by decide +kernel
theorem dL_law__2144 : decode cL_law_ 2144 = .ok (.iload 5, 2) := by decide +kernel
theorem dL_law__2146 : decode cL_law_ 2146 = .ok (.if_icmp .eq 5, 3) := by decide +kernel
theorem dL_law__2149 : decode cL_law_ 2149 = .ok (.iconst 0, 1) := by decide +kernel
theorem dL_law__2150 : decode cL_law_ 2150 = .ok (.ireturn, 1) := by decide +kernel
theorem dL_law__2151 : decode cL_law_ 2151 = .ok (.iload 5, 2) := by decide +kernel
theorem dL_law__2153 : decode cL_law_ 2153 = .ok (.ifCond .ne 15, 3) := by decide +kernel
theorem dL_law__2156 : decode cL_law_ 2156 = .ok (.aload_n 3, 1) := by decide +kernel
theorem dL_law__2157 : decode cL_law_ 2157 = .ok (.iconst 0, 1) := by decide +kernel
theorem dL_law__2158 : decode cL_law_ 2158 = .ok (.laload, 1) := by decide +kernel
theorem dL_law__2159 : decode cL_law_ 2159 = .ok (.iload 6, 2) := by decide +kernel
theorem dL_law__2161 : decode cL_law_ 2161 = .ok (.i2l, 1) := by decide +kernel
theorem dL_law__2162 : decode cL_law_ 2162 = .ok (.lcmp, 1) := by decide +kernel
theorem dL_law__2163 : decode cL_law_ 2163 = .ok (.ifCond .eq 5, 3) := by decide +kernel
theorem dL_law__2166 : decode cL_law_ 2166 = .ok (.iconst 0, 1) := by decide +kernel
theorem dL_law__2167 : decode cL_law_ 2167 = .ok (.ireturn, 1) := by decide +kernel
theorem dL_law__2168 : decode cL_law_ 2168 = .ok (.goto 79, 3) := by decide +kernel
theorem dL_law__2171 : decode cL_law_ 2171 = .ok (.aload_n 1, 1) := by decide +kernel
theorem dL_law__2172 : decode cL_law_ 2172 = .ok (.invokevirtual 234, 3) := by decide +kernel
theorem dL_law__2175 : decode cL_law_ 2175 = .ok (.aload_n 2, 1) := by decide +kernel
theorem dL_law__2176 : decode cL_law_ 2176 = .ok (.invokevirtual 237, 3) := by decide +kernel
theorem dL_law__2179 : decode cL_law_ 2179 = .ok (.if_icmp .eq 68, 3) := by decide +kernel
theorem dL_law__2182 : decode cL_law_ 2182 = .ok (.iconst 0, 1) := by decide +kernel
theorem dL_law__2183 : decode cL_law_ 2183 = .ok (.ireturn, 1) := by decide +kernel
theorem dL_law__2184 : decode cL_law_ 2184 = .ok (.aload_n 1, 1) := by decide +kernel
theorem dL_law__2185 : decode cL_law_ 2185 = .ok (.invokevirtual 238, 3) := by decide +kernel
theorem dL_law__2188 : decode cL_law_ 2188 = .ok (.aload_n 2, 1) := by decide +kernel
theorem dL_law__2189 : decode cL_law_ 2189 = .ok (.invokevirtual 241, 3) := by decide +kernel
theorem dL_law__2192 : decode cL_law_ 2192 = .ok (.if_icmp .eq 55, 3) := by decide +kernel
theorem dL_law__2195 : decode cL_law_ 2195 = .ok (.iconst 0, 1) := by decide +kernel
theorem dL_law__2196 : decode cL_law_ 2196 = .ok (.ireturn, 1) := by decide +kernel
theorem dL_law__2197 : decode cL_law_ 2197 = .ok (.aload_n 1, 1) := by decide +kernel
theorem dL_law__2198 : decode cL_law_ 2198 = .ok (.aload_n 0, 1) := by decide +kernel
theorem dL_law__2199 : decode cL_law_ 2199 = .ok (.iload 4, 2) := by decide +kernel
theorem dL_law__2201 : decode cL_law_ 2201 = .ok (.iconst 1, 1) := by decide +kernel
theorem dL_law__2202 : decode cL_law_ 2202 = .ok (.iadd, 1) := by decide +kernel
theorem dL_law__2203 : decode cL_law_ 2203 = .ok (.iaload, 1) := by decide +kernel
theorem dL_law__2204 : decode cL_law_ 2204 = .ok (.invokevirtual 242, 3) := by decide +kernel
theorem dL_law__2207 : decode cL_law_ 2207 = .ok (.aload_n 2, 1) := by decide +kernel
theorem dL_law__2208 : decode cL_law_ 2208 = .ok (.aload_n 0, 1) := by decide +kernel
theorem dL_law__2209 : decode cL_law_ 2209 = .ok (.iload 4, 2) := by decide +kernel
theorem dL_law__2211 : decode cL_law_ 2211 = .ok (.iconst 1, 1) := by decide +kernel
theorem dL_law__2212 : decode cL_law_ 2212 = .ok (.iadd, 1) := by decide +kernel
theorem dL_law__2213 : decode cL_law_ 2213 = .ok (.iaload, 1) := by decide +kernel
theorem dL_law__2214 : decode cL_law_ 2214 = .ok (.invokevirtual 245, 3) := by decide +kernel
theorem dL_law__2217 : decode cL_law_ 2217 = .ok (.if_icmp .eq 30, 3) := by decide +kernel
theorem dL_law__2220 : decode cL_law_ 2220 = .ok (.iconst 0, 1) := by decide +kernel
theorem dL_law__2221 : decode cL_law_ 2221 = .ok (.ireturn, 1) := by decide +kernel
theorem dL_law__2222 : decode cL_law_ 2222 = .ok (.aload_n 1, 1) := by decide +kernel
theorem dL_law__2223 : decode cL_law_ 2223 = .ok (.aload_n 0, 1) := by decide +kernel
theorem dL_law__2224 : decode cL_law_ 2224 = .ok (.iload 4, 2) := by decide +kernel
theorem dL_law__2226 : decode cL_law_ 2226 = .ok (.iconst 1, 1) := by decide +kernel
theorem dL_law__2227 : decode cL_law_ 2227 = .ok (.iadd, 1) := by decide +kernel
theorem dL_law__2228 : decode cL_law_ 2228 = .ok (.iaload, 1) := by decide +kernel
theorem dL_law__2229 : decode cL_law_ 2229 = .ok (.invokevirtual 246, 3) := by decide +kernel
theorem dL_law__2232 : decode cL_law_ 2232 = .ok (.aload_n 2, 1) := by decide +kernel
theorem dL_law__2233 : decode cL_law_ 2233 = .ok (.aload_n 0, 1) := by decide +kernel
theorem dL_law__2234 : decode cL_law_ 2234 = .ok (.iload 4, 2) := by decide +kernel
theorem dL_law__2236 : decode cL_law_ 2236 = .ok (.iconst 1, 1) := by decide +kernel
theorem dL_law__2237 : decode cL_law_ 2237 = .ok (.iadd, 1) := by decide +kernel
theorem dL_law__2238 : decode cL_law_ 2238 = .ok (.iaload, 1) := by decide +kernel
theorem dL_law__2239 : decode cL_law_ 2239 = .ok (.invokevirtual 249, 3) := by decide +kernel
theorem dL_law__2242 : decode cL_law_ 2242 = .ok (.if_icmp .eq 5, 3) := by decide +kernel
theorem dL_law__2245 : decode cL_law_ 2245 = .ok (.iconst 0, 1) := by decide +kernel
theorem dL_law__2246 : decode cL_law_ 2246 = .ok (.ireturn, 1) := by decide +kernel
theorem dL_law__2247 : decode cL_law_ 2247 = .ok (.iinc 4 7, 3) := by decide +kernel
theorem dL_law__2250 : decode cL_law_ 2250 = .ok (.goto (-2227), 3) := by decide +kernel
theorem dL_law__2253 : decode cL_law_ 2253 = .ok (.iconst 1, 1) := by decide +kernel
theorem dL_law__2254 : decode cL_law_ 2254 = .ok (.ireturn, 1) := by decide +kernel
