theorem dJ6_bitCount_0f7a4_0 : decode cJ6_bitCount_0f7a4 0 = .ok (.iload_n 0, 1) := by decide +kernel
theorem dJ6_bitCount_0f7a4_1 : decode cJ6_bitCount_0f7a4 1 = .ok (.iload_n 0, 1) := by decide +kernel
theorem dJ6_bitCount_0f7a4_2 : decode cJ6_bitCount_0f7a4 2 = .ok (.iconst 1, 1) := by decide +kernel
theorem dJ6_bitCount_0f7a4_3 : decode cJ6_bitCount_0f7a4 3 = .ok (.iushr, 1) := by decide +kernel
theorem dJ6_bitCount_0f7a4_4 : decode cJ6_bitCount_0f7a4 4 = .ok (.ldc_w 265, 3) := by decide +kernel
theorem dJ6_bitCount_0f7a4_7 : decode cJ6_bitCount_0f7a4 7 = .ok (.iand, 1) := by decide +kernel
theorem dJ6_bitCount_0f7a4_8 : decode cJ6_bitCount_0f7a4 8 = .ok (.isub, 1) := by decide +kernel
theorem dJ6_bitCount_0f7a4_9 : decode cJ6_bitCount_0f7a4 9 = .ok (.istore_n 0, 1) := by decide +kernel
theorem dJ6_bitCount_0f7a4_10 : decode cJ6_bitCount_0f7a4 10 = .ok (.iload_n 0, 1) := by decide +kernel
theorem dJ6_bitCount_0f7a4_11 : decode cJ6_bitCount_0f7a4 11 = .ok (.ldc_w 266, 3) := by decide +kernel
theorem dJ6_bitCount_0f7a4_14 : decode cJ6_bitCount_0f7a4 14 = .ok (.iand, 1) := by decide +kernel
theorem dJ6_bitCount_0f7a4_15 : decode cJ6_bitCount_0f7a4 15 = .ok (.iload_n 0, 1) := by decide +kernel
theorem dJ6_bitCount_0f7a4_16 : decode cJ6_bitCount_0f7a4 16 = .ok (.iconst 2, 1) := by decide +kernel
theorem dJ6_bitCount_0f7a4_17 : decode cJ6_bitCount_0f7a4 17 = .ok (.iushr, 1) := by decide +kernel
theorem dJ6_bitCount_0f7a4_18 : decode cJ6_bitCount_0f7a4 18 = .ok (.ldc_w 266, 3) := by decide +kernel
theorem dJ6_bitCount_0f7a4_21 : decode cJ6_bitCount_0f7a4 21 = .ok (.iand, 1) := by decide +kernel
theorem dJ6_bitCount_0f7a4_22 : decode cJ6_bitCount_0f7a4 22 = .ok (.iadd, 1) := by decide +kernel
theorem dJ6_bitCount_0f7a4_23 : decode cJ6_bitCount_0f7a4 23 = .ok (.istore_n 0, 1) := by decide +kernel
theorem dJ6_bitCount_0f7a4_24 : decode cJ6_bitCount_0f7a4 24 = .ok (.iload_n 0, 1) := by decide +kernel
theorem dJ6_bitCount_0f7a4_25 : decode cJ6_bitCount_0f7a4 25 = .ok (.iload_n 0, 1) := by decide +kernel
theorem dJ6_bitCount_0f7a4_26 : decode cJ6_bitCount_0f7a4 26 = .ok (.iconst 4, 1) := by decide +kernel
theorem dJ6_bitCount_0f7a4_27 : decode cJ6_bitCount_0f7a4 27 = .ok (.iushr, 1) := by decide +kernel
theorem dJ6_bitCount_0f7a4_28 : decode cJ6_bitCount_0f7a4 28 = .ok (.iadd, 1) := by decide +kernel
theorem dJ6_bitCount_0f7a4_29 : decode cJ6_bitCount_0f7a4 29 = .ok (.ldc_w 267, 3) := by decide +kernel
theorem dJ6_bitCount_0f7a4_32 : decode cJ6_bitCount_0f7a4 32 = .ok (.iand, 1) := by decide +kernel
theorem dJ6_bitCount_0f7a4_33 : decode cJ6_bitCount_0f7a4 33 = .ok (.istore_n 0, 1) := by decide +kernel
theorem dJ6_bitCount_0f7a4_34 : decode cJ6_bitCount_0f7a4 34 = .ok (.iload_n 0, 1) := by decide +kernel
theorem dJ6_bitCount_0f7a4_35 : decode cJ6_bitCount_0f7a4 35 = .ok (.iload_n 0, 1) := by decide +kernel
theorem dJ6_bitCount_0f7a4_36 : decode cJ6_bitCount_0f7a4 36 = .ok (.bipush 8, 2) := by decide +kernel
theorem dJ6_bitCount_0f7a4_38 : decode cJ6_bitCount_0f7a4 38 = .ok (.iushr, 1) := by decide +kernel
theorem dJ6_bitCount_0f7a4_39 : decode cJ6_bitCount_0f7a4 39 = .ok (.iadd, 1) := by decide +kernel
theorem dJ6_bitCount_0f7a4_40 : decode cJ6_bitCount_0f7a4 40 = .ok (.istore_n 0, 1) := by decide +kernel
theorem dJ6_bitCount_0f7a4_41 : decode cJ6_bitCount_0f7a4 41 = .ok (.iload_n 0, 1) := by decide +kernel
theorem dJ6_bitCount_0f7a4_42 : decode cJ6_bitCount_0f7a4 42 = .ok (.iload_n 0, 1) := by decide +kernel
theorem dJ6_bitCount_0f7a4_43 : decode cJ6_bitCount_0f7a4 43 = .ok (.bipush 16, 2) := by decide +kernel
theorem dJ6_bitCount_0f7a4_45 : decode cJ6_bitCount_0f7a4 45 = .ok (.iushr, 1) := by decide +kernel
theorem dJ6_bitCount_0f7a4_46 : decode cJ6_bitCount_0f7a4 46 = .ok (.iadd, 1) := by decide +kernel
theorem dJ6_bitCount_0f7a4_47 : decode cJ6_bitCount_0f7a4 47 = .ok (.istore_n 0, 1) := by decide +kernel
theorem dJ6_bitCount_0f7a4_48 : decode cJ6_bitCount_0f7a4 48 = .ok (.iload_n 0, 1) := by decide +kernel
theorem dJ6_bitCount_0f7a4_49 : decode cJ6_bitCount_0f7a4 49 = .ok (.bipush 63, 2) := by decide +kernel
theorem dJ6_bitCount_0f7a4_51 : decode cJ6_bitCount_0f7a4 51 = .ok (.iand, 1) := by decide +kernel
theorem dJ6_bitCount_0f7a4_52 : decode cJ6_bitCount_0f7a4 52 = .ok (.ireturn, 1) := by decide +kernel
set_option maxRecDepth 100000 in
theorem T_J6_bitCount_0f7a4_0 {G : GE} {d C S : Nat} {P : KI} : Snd G MJ6_bitCount_0f7a4 d C S 0 (RI P) (s_iload 0 (s_iload 0 (s_iconst 1 (s_iushr (s_iconst 1431655765 (s_iand (s_isub (s_istore 0 (s_iload 0 (s_iconst 858993459 (s_iand (s_iload 0 (s_iconst 2 (s_iushr (s_iconst 858993459 (s_iand (s_iadd (s_istore 0 (s_iload 0 (s_iload 0 (s_iconst 4 (s_iushr (s_iadd (s_iconst 252645135 (s_iand (s_istore 0 (s_iload 0 (s_iload 0 (s_iconst 8 (s_iushr (s_iadd (s_istore 0 (s_iload 0 (s_iload 0 (s_iconst 16 (s_iushr (s_iadd (s_istore 0 (s_iload 0 (s_iconst 63 (s_iand (s_ireturn P)))))))))))))))))))))))))))))))))))))))))) := (e_iload_n dJ6_bitCount_0f7a4_0 rfl (e_iload_n dJ6_bitCount_0f7a4_1 rfl (e_iconst (v := 1) dJ6_bitCount_0f7a4_2 (by decide) (e_iushr dJ6_bitCount_0f7a4_3 (e_ldcw q_1440 dJ6_bitCount_0f7a4_4 (e_iand dJ6_bitCount_0f7a4_7 (e_isub dJ6_bitCount_0f7a4_8 (e_istore_n dJ6_bitCount_0f7a4_9 rfl (by decide) (e_iload_n dJ6_bitCount_0f7a4_10 rfl (e_ldcw q_1441 dJ6_bitCount_0f7a4_11 (e_iand dJ6_bitCount_0f7a4_14 (e_iload_n dJ6_bitCount_0f7a4_15 rfl (e_iconst (v := 2) dJ6_bitCount_0f7a4_16 (by decide) (e_iushr dJ6_bitCount_0f7a4_17 (e_ldcw q_1441 dJ6_bitCount_0f7a4_18 (e_iand dJ6_bitCount_0f7a4_21 (e_iadd dJ6_bitCount_0f7a4_22 (e_istore_n dJ6_bitCount_0f7a4_23 rfl (by decide) (e_iload_n dJ6_bitCount_0f7a4_24 rfl (e_iload_n dJ6_bitCount_0f7a4_25 rfl (e_iconst (v := 4) dJ6_bitCount_0f7a4_26 (by decide) (e_iushr dJ6_bitCount_0f7a4_27 (e_iadd dJ6_bitCount_0f7a4_28 (e_ldcw q_1442 dJ6_bitCount_0f7a4_29 (e_iand dJ6_bitCount_0f7a4_32 (e_istore_n dJ6_bitCount_0f7a4_33 rfl (by decide) (e_iload_n dJ6_bitCount_0f7a4_34 rfl (e_iload_n dJ6_bitCount_0f7a4_35 rfl (e_bipush (v := 8) dJ6_bitCount_0f7a4_36 (by decide) (e_iushr dJ6_bitCount_0f7a4_38 (e_iadd dJ6_bitCount_0f7a4_39 (e_istore_n dJ6_bitCount_0f7a4_40 rfl (by decide) (e_iload_n dJ6_bitCount_0f7a4_41 rfl (e_iload_n dJ6_bitCount_0f7a4_42 rfl (e_bipush (v := 16) dJ6_bitCount_0f7a4_43 (by decide) (e_iushr dJ6_bitCount_0f7a4_45 (e_iadd dJ6_bitCount_0f7a4_46 (e_istore_n dJ6_bitCount_0f7a4_47 rfl (by decide) (e_iload_n dJ6_bitCount_0f7a4_48 rfl (e_bipush (v := 63) dJ6_bitCount_0f7a4_49 (by decide) (e_iand dJ6_bitCount_0f7a4_51 (e_ireturn rfl dJ6_bitCount_0f7a4_52))))))))))))))))))))))))))))))))))))))))))
set_option maxRecDepth 100000 in
theorem V_J6_bitCount_0f7a4_0 {G : GE} {d C S : Nat} {P : KI} {a : Nat → Nat → Int32} {r : Nat → Nat → Value} {N : Nat} {l0 : Int32} (hs : P ((((((((l0 - ((((l0).toUInt32 >>> (((1 : Int32)).toUInt32 &&& Int32.toUInt32 31)).toInt32) &&& 1431655765)) &&& 858993459) + (((((l0 - ((((l0).toUInt32 >>> (((1 : Int32)).toUInt32 &&& Int32.toUInt32 31)).toInt32) &&& 1431655765))).toUInt32 >>> (((2 : Int32)).toUInt32 &&& Int32.toUInt32 31)).toInt32) &&& 858993459)) + ((((((l0 - ((((l0).toUInt32 >>> (((1 : Int32)).toUInt32 &&& Int32.toUInt32 31)).toInt32) &&& 1431655765)) &&& 858993459) + (((((l0 - ((((l0).toUInt32 >>> (((1 : Int32)).toUInt32 &&& Int32.toUInt32 31)).toInt32) &&& 1431655765))).toUInt32 >>> (((2 : Int32)).toUInt32 &&& Int32.toUInt32 31)).toInt32) &&& 858993459))).toUInt32 >>> (((4 : Int32)).toUInt32 &&& Int32.toUInt32 31)).toInt32)) &&& 252645135) + ((((((((l0 - ((((l0).toUInt32 >>> (((1 : Int32)).toUInt32 &&& Int32.toUInt32 31)).toInt32) &&& 1431655765)) &&& 858993459) + (((((l0 - ((((l0).toUInt32 >>> (((1 : Int32)).toUInt32 &&& Int32.toUInt32 31)).toInt32) &&& 1431655765))).toUInt32 >>> (((2 : Int32)).toUInt32 &&& Int32.toUInt32 31)).toInt32) &&& 858993459)) + ((((((l0 - ((((l0).toUInt32 >>> (((1 : Int32)).toUInt32 &&& Int32.toUInt32 31)).toInt32) &&& 1431655765)) &&& 858993459) + (((((l0 - ((((l0).toUInt32 >>> (((1 : Int32)).toUInt32 &&& Int32.toUInt32 31)).toInt32) &&& 1431655765))).toUInt32 >>> (((2 : Int32)).toUInt32 &&& Int32.toUInt32 31)).toInt32) &&& 858993459))).toUInt32 >>> (((4 : Int32)).toUInt32 &&& Int32.toUInt32 31)).toInt32)) &&& 252645135)).toUInt32 >>> (((8 : Int32)).toUInt32 &&& Int32.toUInt32 31)).toInt32)) + (((((((((l0 - ((((l0).toUInt32 >>> (((1 : Int32)).toUInt32 &&& Int32.toUInt32 31)).toInt32) &&& 1431655765)) &&& 858993459) + (((((l0 - ((((l0).toUInt32 >>> (((1 : Int32)).toUInt32 &&& Int32.toUInt32 31)).toInt32) &&& 1431655765))).toUInt32 >>> (((2 : Int32)).toUInt32 &&& Int32.toUInt32 31)).toInt32) &&& 858993459)) + ((((((l0 - ((((l0).toUInt32 >>> (((1 : Int32)).toUInt32 &&& Int32.toUInt32 31)).toInt32) &&& 1431655765)) &&& 858993459) + (((((l0 - ((((l0).toUInt32 >>> (((1 : Int32)).toUInt32 &&& Int32.toUInt32 31)).toInt32) &&& 1431655765))).toUInt32 >>> (((2 : Int32)).toUInt32 &&& Int32.toUInt32 31)).toInt32) &&& 858993459))).toUInt32 >>> (((4 : Int32)).toUInt32 &&& Int32.toUInt32 31)).toInt32)) &&& 252645135) + ((((((((l0 - ((((l0).toUInt32 >>> (((1 : Int32)).toUInt32 &&& Int32.toUInt32 31)).toInt32) &&& 1431655765)) &&& 858993459) + (((((l0 - ((((l0).toUInt32 >>> (((1 : Int32)).toUInt32 &&& Int32.toUInt32 31)).toInt32) &&& 1431655765))).toUInt32 >>> (((2 : Int32)).toUInt32 &&& Int32.toUInt32 31)).toInt32) &&& 858993459)) + ((((((l0 - ((((l0).toUInt32 >>> (((1 : Int32)).toUInt32 &&& Int32.toUInt32 31)).toInt32) &&& 1431655765)) &&& 858993459) + (((((l0 - ((((l0).toUInt32 >>> (((1 : Int32)).toUInt32 &&& Int32.toUInt32 31)).toInt32) &&& 1431655765))).toUInt32 >>> (((2 : Int32)).toUInt32 &&& Int32.toUInt32 31)).toInt32) &&& 858993459))).toUInt32 >>> (((4 : Int32)).toUInt32 &&& Int32.toUInt32 31)).toInt32)) &&& 252645135)).toUInt32 >>> (((8 : Int32)).toUInt32 &&& Int32.toUInt32 31)).toInt32))).toUInt32 >>> (((16 : Int32)).toUInt32 &&& Int32.toUInt32 31)).toInt32)) &&& 63) a r N) : E G MJ6_bitCount_0f7a4 d C S 0 [.int l0] [] (a, r, N) (RI P) := T_J6_bitCount_0f7a4_0 _ _ _ hs
theorem dJ0_charAt_5068e_0 : decode cJ0_charAt_5068e 0 = .ok (.aload_n 0, 1) := by decide +kernel
theorem dJ0_charAt_5068e_1 : decode cJ0_charAt_5068e 1 = .ok (.invokevirtual 492, 3) := by decide +kernel
theorem dJ0_charAt_5068e_4 : decode cJ0_charAt_5068e 4 = .ok (.ifCond .eq 12, 3) := by decide +kernel
theorem dJ0_charAt_5068e_7 : decode cJ0_charAt_5068e 7 = .ok (.aload_n 0, 1) := by decide +kernel
theorem dJ0_charAt_5068e_8 : decode cJ0_charAt_5068e 8 = .ok (.getfield 9, 3) := by decide +kernel
theorem dJ0_charAt_5068e_11 : decode cJ0_charAt_5068e 11 = .ok (.iload_n 1, 1) := by decide +kernel
theorem dJ0_charAt_5068e_12 : decode cJ0_charAt_5068e 12 = .ok (.invokestatic 495, 3) := by decide +kernel
theorem dJ0_charAt_5068e_15 : decode cJ0_charAt_5068e 15 = .ok (.ireturn, 1) := by decide +kernel
theorem dJ0_charAt_5068e_16 : decode cJ0_charAt_5068e 16 = .ok (.aload_n 0, 1) := by decide +kernel
theorem dJ0_charAt_5068e_17 : decode cJ0_charAt_5068e 17 = .ok (.getfield 9, 3) := by decide +kernel
theorem dJ0_charAt_5068e_20 : decode cJ0_charAt_5068e 20 = .ok (.iload_n 1, 1) := by decide +kernel
theorem dJ0_charAt_5068e_21 : decode cJ0_charAt_5068e 21 = .ok (.invokestatic 498, 3) := by decide +kernel
theorem dJ0_charAt_5068e_24 : decode cJ0_charAt_5068e 24 = .ok (.ireturn, 1) := by decide +kernel
set_option maxRecDepth 100000 in
theorem T_J0_charAt_5068e_0 {G : GE} {d C S : Nat} {P : KI} : Snd G MJ0_charAt_5068e (d + 1) C S 0 (RI P) (s_aload 0 (s_callT G d MJ0_isLatin1_aae02 0 (s_if_eq (fun L st h => E G MJ0_charAt_5068e (d + 1) C S 16 (msk [true, true] L) st h (RI P)) (s_aload 0 (s_getV (s_iload 1 (s_call G d MJ1_charAt_3b067 2 (s_nreturn .char P)))))))) := (e_aload_n dJ0_charAt_5068e_0 rfl (e_callT rfl cal_J0_isLatin1_aae02 q_840 q_841 q_842 dJ0_charAt_5068e_1 (e_if_eq (tgt := 16) dJ0_charAt_5068e_4 (by decide) (e_msk [true, true]) (e_aload_n dJ0_charAt_5068e_7 rfl (e_getV q_2196 dJ0_charAt_5068e_8 (e_iload_n dJ0_charAt_5068e_11 rfl (e_callS cal_J1_charAt_3b067 q_844 q_845 dJ0_charAt_5068e_12 (e_nreturn rfl dJ0_charAt_5068e_15))))))))
set_option maxRecDepth 100000 in
theorem V_J0_charAt_5068e_0 {G : GE} {d C S : Nat} {P : KI} {a : Nat → Nat → Int32} {r : Nat → Nat → Value} {N : Nat} {l0 : UInt32} {l1 : Int32} (hs : (1 ≤ (l0 : UInt32).toNat ∧ (l0 : UInt32).toNat ≤ strN ∧ Sp G d 0 0 MJ0_isLatin1_aae02 [.float l0] (a, r, N) (RI fun v4 a1 r2 n3 => ((v4 = 0 → E G MJ0_charAt_5068e (d + 1) C S 16 [.float l0, .int l1] [] (a1, r2, n3) (RI P)) ∧ (¬ v4 = 0 → (∃ i5, i5 < strN ∧ (l0 : UInt32).toNat = i5 + 1 ∧ ∀ g6 : UInt32, g6.toNat = 100 + i5 → Sp G d 0 0 MJ1_charAt_3b067 [.float g6, .int l1] (a1, r2, n3) (RI fun v10 a7 r8 n9 => (narrow .char (.int v10) = .int v10 ∧ P v10 a7 r8 n9)))))))) : E G MJ0_charAt_5068e (d + 1) C S 0 [.float l0, .int l1] [] (a, r, N) (RI P) := T_J0_charAt_5068e_0 _ _ _ hs
theorem dJ0_checkIndex_df160_0 : decode cJ0_checkIndex_df160 0 = .ok (.iload_n 0, 1) := by decide +kernel
theorem dJ0_checkIndex_df160_1 : decode cJ0_checkIndex_df160 1 = .ok (.iload_n 1, 1) := by decide +kernel
theorem dJ0_checkIndex_df160_2 : decode cJ0_checkIndex_df160 2 = .ok (.getstatic 1053, 3) := by decide +kernel
theorem dJ0_checkIndex_df160_5 : decode cJ0_checkIndex_df160 5 = .ok (.invokestatic 1059, 3) := by decide +kernel
theorem dJ0_checkIndex_df160_8 : decode cJ0_checkIndex_df160 8 = .ok (.pop, 1) := by decide +kernel
theorem dJ0_checkIndex_df160_9 : decode cJ0_checkIndex_df160 9 = .ok (.return_, 1) := by decide +kernel
set_option maxRecDepth 100000 in
theorem T_J0_checkIndex_df160_0 {G : GE} {d C S : Nat} {P : KN} : Snd G MJ0_checkIndex_df160 (d + 1) C S 0 (RN P) (s_iload 0 (s_iload 1 (s_gsF G (s_call G d MJ3_checkIndex_8e157 3 (s_pop (s_return P)))))) := (e_iload_n dJ0_checkIndex_df160_0 rfl (e_iload_n dJ0_checkIndex_df160_1 rfl (e_gsF q_850 dJ0_checkIndex_df160_2 (e_callS cal_J3_checkIndex_8e157 q_852 q_853 dJ0_checkIndex_df160_5 (e_pop dJ0_checkIndex_df160_8 (e_return rfl dJ0_checkIndex_df160_9))))))
set_option maxRecDepth 100000 in
theorem V_J0_checkIndex_df160_0 {G : GE} {d C S : Nat} {P : KN} {a : Nat → Nat → Int32} {r : Nat → Nat → Value} {N : Nat} {l0 : Int32} {l1 : Int32} (hs : Sp G d 0 0 MJ3_checkIndex_8e157 [.int l0, .int l1, (gF G)] (a, r, N) (RI fun v4 a1 r2 n3 => P a1 r2 n3)) : E G MJ0_checkIndex_df160 (d + 1) C S 0 [.int l0, .int l1] [] (a, r, N) (RN P) := T_J0_checkIndex_df160_0 _ _ _ hs
theorem dJ0_coder_7d493_0 : decode cJ0_coder_7d493 0 = .ok (.getstatic 38, 3) := by decide +kernel
theorem dJ0_coder_7d493_3 : decode cJ0_coder_7d493 3 = .ok (.ifCond .eq 10, 3) := by decide +kernel
theorem dJ0_coder_7d493_6 : decode cJ0_coder_7d493 6 = .ok (.aload_n 0, 1) := by decide +kernel
theorem dJ0_coder_7d493_7 : decode cJ0_coder_7d493 7 = .ok (.getfield 15, 3) := by decide +kernel
theorem dJ0_coder_7d493_10 : decode cJ0_coder_7d493 10 = .ok (.goto 4, 3) := by decide +kernel
theorem dJ0_coder_7d493_13 : decode cJ0_coder_7d493 13 = .ok (.iconst 1, 1) := by decide +kernel
theorem dJ0_coder_7d493_14 : decode cJ0_coder_7d493 14 = .ok (.ireturn, 1) := by decide +kernel
set_option maxRecDepth 100000 in
theorem T_J0_coder_7d493_0 {G : GE} {d C S : Nat} {P : KI} : Snd G MJ0_coder_7d493 d C S 0 (RI P) (s_gsZ (s_if_eq (s_iconst 1 (s_nreturn .byte P)) (s_aload 0 (s_getC (s_nreturn .byte P))))) := (e_gsZ q_834 dJ0_coder_7d493_0 (e_if_eq (tgt := 13) dJ0_coder_7d493_3 (by decide) (e_iconst (v := 1) dJ0_coder_7d493_13 (by decide) (e_nreturn rfl dJ0_coder_7d493_14)) (e_aload_n dJ0_coder_7d493_6 rfl (e_getC q_2197 dJ0_coder_7d493_7 (e_goto (tgt := 14) dJ0_coder_7d493_10 (by decide) (e_nreturn rfl dJ0_coder_7d493_14))))))
set_option maxRecDepth 100000 in
theorem V_J0_coder_7d493_0 {G : GE} {d C S : Nat} {P : KI} {a : Nat → Nat → Int32} {r : Nat → Nat → Value} {N : Nat} {l0 : UInt32} (hs : (((1 : Int32) = 0 → (narrow .byte (.int 1) = .int 1 ∧ P 1 a r N)) ∧ (¬ (1 : Int32) = 0 → (1 ≤ (l0 : UInt32).toNat ∧ (l0 : UInt32).toNat ≤ strN ∧ (narrow .byte (.int 0) = .int 0 ∧ P 0 a r N))))) : E G MJ0_coder_7d493 d C S 0 [.float l0] [] (a, r, N) (RI P) := T_J0_coder_7d493_0 _ _ _ hs
theorem dJ0_isLatin1_aae02_0 : decode cJ0_isLatin1_aae02 0 = .ok (.getstatic 38, 3) := by decide +kernel
theorem dJ0_isLatin1_aae02_3 : decode cJ0_isLatin1_aae02 3 = .ok (.ifCond .eq 14, 3) := by decide +kernel
theorem dJ0_isLatin1_aae02_6 : decode cJ0_isLatin1_aae02 6 = .ok (.aload_n 0, 1) := by decide +kernel
theorem dJ0_isLatin1_aae02_7 : decode cJ0_isLatin1_aae02 7 = .ok (.getfield 15, 3) := by decide +kernel
theorem dJ0_isLatin1_aae02_10 : decode cJ0_isLatin1_aae02 10 = .ok (.ifCond .ne 7, 3) := by decide +kernel
theorem dJ0_isLatin1_aae02_13 : decode cJ0_isLatin1_aae02 13 = .ok (.iconst 1, 1) := by decide +kernel
theorem dJ0_isLatin1_aae02_14 : decode cJ0_isLatin1_aae02 14 = .ok (.goto 4, 3) := by decide +kernel
theorem dJ0_isLatin1_aae02_17 : decode cJ0_isLatin1_aae02 17 = .ok (.iconst 0, 1) := by decide +kernel
theorem dJ0_isLatin1_aae02_18 : decode cJ0_isLatin1_aae02 18 = .ok (.ireturn, 1) := by decide +kernel
set_option maxRecDepth 100000 in
theorem T_J0_isLatin1_aae02_0 {G : GE} {d C S : Nat} {P : KI} : Snd G MJ0_isLatin1_aae02 d C S 0 (RI P) (s_gsZ (s_if_eq (s_iconst 0 (s_zreturn P)) (s_aload 0 (s_getC (s_if_ne (s_iconst 0 (s_zreturn P)) (s_iconst 1 (s_zreturn P))))))) := (e_gsZ q_834 dJ0_isLatin1_aae02_0 (e_if_eq (tgt := 17) dJ0_isLatin1_aae02_3 (by decide) (e_iconst (v := 0) dJ0_isLatin1_aae02_17 (by decide) (e_zreturn rfl dJ0_isLatin1_aae02_18)) (e_aload_n dJ0_isLatin1_aae02_6 rfl (e_getC q_2197 dJ0_isLatin1_aae02_7 (e_if_ne (tgt := 17) dJ0_isLatin1_aae02_10 (by decide) (e_iconst (v := 0) dJ0_isLatin1_aae02_17 (by decide) (e_zreturn rfl dJ0_isLatin1_aae02_18)) (e_iconst (v := 1) dJ0_isLatin1_aae02_13 (by decide) (e_goto (tgt := 18) dJ0_isLatin1_aae02_14 (by decide) (e_zreturn rfl dJ0_isLatin1_aae02_18))))))))
set_option maxRecDepth 100000 in
theorem V_J0_isLatin1_aae02_0 {G : GE} {d C S : Nat} {P : KI} {a : Nat → Nat → Int32} {r : Nat → Nat → Value} {N : Nat} {l0 : UInt32} (hs : (((1 : Int32) = 0 → (bz 0 ∧ P 0 a r N)) ∧ (¬ (1 : Int32) = 0 → (1 ≤ (l0 : UInt32).toNat ∧ (l0 : UInt32).toNat ≤ strN ∧ ((¬ (0 : Int32) = 0 → (bz 0 ∧ P 0 a r N)) ∧ ((0 : Int32) = 0 → (bz 1 ∧ P 1 a r N))))))) : E G MJ0_isLatin1_aae02 d C S 0 [.float l0] [] (a, r, N) (RI P) := T_J0_isLatin1_aae02_0 _ _ _ hs
theorem dJ0_length_8abf5_0 : decode cJ0_length_8abf5 0 = .ok (.aload_n 0, 1) := by decide +kernel
theorem dJ0_length_8abf5_1 : decode cJ0_length_8abf5 1 = .ok (.getfield 9, 3) := by decide +kernel
theorem dJ0_length_8abf5_4 : decode cJ0_length_8abf5 4 = .ok (.arraylength, 1) := by decide +kernel
theorem dJ0_length_8abf5_5 : decode cJ0_length_8abf5 5 = .ok (.aload_n 0, 1) := by decide +kernel
theorem dJ0_length_8abf5_6 : decode cJ0_length_8abf5 6 = .ok (.invokevirtual 335, 3) := by decide +kernel
theorem dJ0_length_8abf5_9 : decode cJ0_length_8abf5 9 = .ok (.ishr, 1) := by decide +kernel
theorem dJ0_length_8abf5_10 : decode cJ0_length_8abf5 10 = .ok (.ireturn, 1) := by decide +kernel
set_option maxRecDepth 100000 in
theorem T_J0_length_8abf5_0 {G : GE} {d C S : Nat} {P : KI} : Snd G MJ0_length_8abf5 (d + 1) C S 0 (RI P) (s_aload 0 (s_getV (s_alenT (s_aload 0 (s_callT G d MJ0_coder_7d493 0 (s_ishr (s_ireturn P))))))) := (e_aload_n dJ0_length_8abf5_0 rfl (e_getV q_2196 dJ0_length_8abf5_1 (e_alenT dJ0_length_8abf5_4 (e_aload_n dJ0_length_8abf5_5 rfl (e_callT rfl cal_J0_coder_7d493 q_830 q_831 q_832 dJ0_length_8abf5_6 (e_ishr dJ0_length_8abf5_9 (e_ireturn rfl dJ0_length_8abf5_10)))))))
set_option maxRecDepth 100000 in
theorem V_J0_length_8abf5_0 {G : GE} {d C S : Nat} {P : KI} {a : Nat → Nat → Int32} {r : Nat → Nat → Value} {N : Nat} {l0 : UInt32} (hs : (∃ i1, i1 < strN ∧ (l0 : UInt32).toNat = i1 + 1 ∧ ∀ g2 : UInt32, g2.toNat = 100 + i1 → (∃ i3, i3 < strN ∧ (g2 : UInt32).toNat = 100 + i3 ∧ (1 ≤ (l0 : UInt32).toNat ∧ (l0 : UInt32).toNat ≤ strN ∧ Sp G d 0 0 MJ0_coder_7d493 [.float l0] (a, r, N) (RI fun v7 a4 r5 n6 => P ((Int32.ofNat (strLen.getD i3 0)) >>> (v7 &&& 31)) a4 r5 n6))))) : E G MJ0_length_8abf5 (d + 1) C S 0 [.float l0] [] (a, r, N) (RI P) := T_J0_length_8abf5_0 _ _ _ hs
theorem dJ1_charAt_3b067_0 : decode cJ1_charAt_3b067 0 = .ok (.iload_n 1, 1) := by decide +kernel
theorem dJ1_charAt_3b067_1 : decode cJ1_charAt_3b067 1 = .ok (.aload_n 0, 1) := by decide +kernel
theorem dJ1_charAt_3b067_2 : decode cJ1_charAt_3b067 2 = .ok (.arraylength, 1) := by decide +kernel
theorem dJ1_charAt_3b067_3 : decode cJ1_charAt_3b067 3 = .ok (.invokestatic 9, 3) := by decide +kernel
theorem dJ1_charAt_3b067_6 : decode cJ1_charAt_3b067 6 = .ok (.aload_n 0, 1) := by decide +kernel
theorem dJ1_charAt_3b067_7 : decode cJ1_charAt_3b067 7 = .ok (.iload_n 1, 1) := by decide +kernel
theorem dJ1_charAt_3b067_8 : decode cJ1_charAt_3b067 8 = .ok (.baload, 1) := by decide +kernel
theorem dJ1_charAt_3b067_9 : decode cJ1_charAt_3b067 9 = .ok (.sipush 255, 3) := by decide +kernel
theorem dJ1_charAt_3b067_12 : decode cJ1_charAt_3b067 12 = .ok (.iand, 1) := by decide +kernel
theorem dJ1_charAt_3b067_13 : decode cJ1_charAt_3b067 13 = .ok (.i2c, 1) := by decide +kernel
theorem dJ1_charAt_3b067_14 : decode cJ1_charAt_3b067 14 = .ok (.ireturn, 1) := by decide +kernel
set_option maxRecDepth 100000 in
theorem T_J1_charAt_3b067_0 {G : GE} {d C S : Nat} {P : KI} : Snd G MJ1_charAt_3b067 (d + 1) C S 0 (RI P) (s_iload 1 (s_aload 0 (s_alenT (s_call G d MJ0_checkIndex_df160 2 (s_aload 0 (s_iload 1 (s_baloadT (s_iconst 255 (s_iand (s_i2c (s_nreturn .char P))))))))))) := (e_iload_n dJ1_charAt_3b067_0 rfl (e_aload_n dJ1_charAt_3b067_1 rfl (e_alenT dJ1_charAt_3b067_2 (e_callS cal_J0_checkIndex_df160 q_847 q_848 dJ1_charAt_3b067_3 (e_aload_n dJ1_charAt_3b067_6 rfl (e_iload_n dJ1_charAt_3b067_7 rfl (e_baloadT dJ1_charAt_3b067_8 (e_sipush (v := 255) dJ1_charAt_3b067_9 (by decide) (e_iand dJ1_charAt_3b067_12 (e_i2c dJ1_charAt_3b067_13 (e_nreturn rfl dJ1_charAt_3b067_14)))))))))))
set_option maxRecDepth 100000 in
theorem V_J1_charAt_3b067_0 {G : GE} {d C S : Nat} {P : KI} {a : Nat → Nat → Int32} {r : Nat → Nat → Value} {N : Nat} {l0 : UInt32} {l1 : Int32} (hs : (∃ i1, i1 < strN ∧ (l0 : UInt32).toNat = 100 + i1 ∧ Sp G d 0 0 MJ0_checkIndex_df160 [.int l1, .int (Int32.ofNat (strLen.getD i1 0))] (a, r, N) (RN fun a2 r3 n4 => (∃ i5, i5 < strN ∧ (l0 : UInt32).toNat = 100 + i5 ∧ vp_in l1 (strLen.getD i5 0) ∧ (narrow .char (.int ((((((strByt.getD i5 []).getD (l1 : Int32).toNatClampNeg 0) &&& 255) : Int32).toUInt32 % 65536).toInt32)) = .int ((((((strByt.getD i5 []).getD (l1 : Int32).toNatClampNeg 0) &&& 255) : Int32).toUInt32 % 65536).toInt32) ∧ P ((((((strByt.getD i5 []).getD (l1 : Int32).toNatClampNeg 0) &&& 255) : Int32).toUInt32 % 65536).toInt32) a2 r3 n4))))) : E G MJ1_charAt_3b067 (d + 1) C S 0 [.float l0, .int l1] [] (a, r, N) (RI P) := T_J1_charAt_3b067_0 _ _ _ hs
theorem dJ3_checkIndex_8e157_0 : decode cJ3_checkIndex_8e157 0 = .ok (.iload_n 0, 1) := by decide +kernel
theorem dJ3_checkIndex_8e157_1 : decode cJ3_checkIndex_8e157 1 = .ok (.ifCond .lt 8, 3) := by decide +kernel
theorem dJ3_checkIndex_8e157_4 : decode cJ3_checkIndex_8e157 4 = .ok (.iload_n 0, 1) := by decide +kernel
theorem dJ3_checkIndex_8e157_5 : decode cJ3_checkIndex_8e157 5 = .ok (.iload_n 1, 1) := by decide +kernel
theorem dJ3_checkIndex_8e157_6 : decode cJ3_checkIndex_8e157 6 = .ok (.if_icmp .lt 10, 3) := by decide +kernel
theorem dJ3_checkIndex_8e157_9 : decode cJ3_checkIndex_8e157 9 = .ok (.aload_n 2, 1) := by decide +kernel
theorem dJ3_checkIndex_8e157_10 : decode cJ3_checkIndex_8e157 10 = .ok (.iload_n 0, 1) := by decide +kernel
theorem dJ3_checkIndex_8e157_11 : decode cJ3_checkIndex_8e157 11 = .ok (.iload_n 1, 1) := by decide +kernel
theorem dJ3_checkIndex_8e157_12 : decode cJ3_checkIndex_8e157 12 = .ok (.invokestatic 95, 3) := by decide +kernel
theorem dJ3_checkIndex_8e157_15 : decode cJ3_checkIndex_8e157 15 = .ok (.athrow, 1) := by decide +kernel
theorem dJ3_checkIndex_8e157_16 : decode cJ3_checkIndex_8e157 16 = .ok (.iload_n 0, 1) := by decide +kernel
theorem dJ3_checkIndex_8e157_17 : decode cJ3_checkIndex_8e157 17 = .ok (.ireturn, 1) := by decide +kernel
set_option maxRecDepth 100000 in
theorem T_J3_checkIndex_8e157_0 {G : GE} {d C S : Nat} {P : KI} : Snd G MJ3_checkIndex_8e157 (d + 1) C S 0 (RI P) (s_iload 0 (s_if_lt (fun L st h => E G MJ3_checkIndex_8e157 (d + 1) C S 9 (msk [true, true, true] L) st h (RI P)) (s_iload 0 (s_iload 1 (s_ic_lt (s_iload 0 (s_ireturn P)) (fun L st h => E G MJ3_checkIndex_8e157 (d + 1) C S 9 (msk [true, true, true] L) st h (RI P))))))) := (e_iload_n dJ3_checkIndex_8e157_0 rfl (e_if_lt (tgt := 9) dJ3_checkIndex_8e157_1 (by decide) (e_msk [true, true, true]) (e_iload_n dJ3_checkIndex_8e157_4 rfl (e_iload_n dJ3_checkIndex_8e157_5 rfl (e_ic_lt (tgt := 16) dJ3_checkIndex_8e157_6 (by decide) (e_iload_n dJ3_checkIndex_8e157_16 rfl (e_ireturn rfl dJ3_checkIndex_8e157_17)) (e_msk [true, true, true]))))))
set_option maxRecDepth 100000 in
theorem V_J3_checkIndex_8e157_0 {G : GE} {d C S : Nat} {P : KI} {a : Nat → Nat → Int32} {r : Nat → Nat → Value} {N : Nat} {l0 : Int32} {l1 : Int32} {l2 : Value} (hs : ((l0 < 0 → E G MJ3_checkIndex_8e157 (d + 1) C S 9 [.int l0, .int l1, l2] [] (a, r, N) (RI P)) ∧ (¬ l0 < 0 → ((l0 < l1 → P l0 a r N) ∧ (¬ l0 < l1 → E G MJ3_checkIndex_8e157 (d + 1) C S 9 [.int l0, .int l1, l2] [] (a, r, N) (RI P)))))) : E G MJ3_checkIndex_8e157 (d + 1) C S 0 [.int l0, .int l1, l2] [] (a, r, N) (RI P) := T_J3_checkIndex_8e157_0 _ _ _ hs
