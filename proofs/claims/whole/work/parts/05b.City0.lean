theorem dX0_init_0 : decode cX0_init 0 = .ok (.aload_n 0, 1) := by decide +kernel
theorem dX0_init_1 : decode cX0_init 1 = .ok (.invokespecial 3, 3) := by decide +kernel
theorem dX0_init_4 : decode cX0_init 4 = .ok (.aload_n 0, 1) := by decide +kernel
theorem dX0_init_5 : decode cX0_init 5 = .ok (.bipush 10, 2) := by decide +kernel
theorem dX0_init_7 : decode cX0_init 7 = .ok (.newarray .int, 2) := by decide +kernel
theorem dX0_init_9 : decode cX0_init 9 = .ok (.putfield 11, 3) := by decide +kernel
theorem dX0_init_12 : decode cX0_init 12 = .ok (.aload_n 0, 1) := by decide +kernel
theorem dX0_init_13 : decode cX0_init 13 = .ok (.bipush 10, 2) := by decide +kernel
theorem dX0_init_15 : decode cX0_init 15 = .ok (.newarray .int, 2) := by decide +kernel
theorem dX0_init_17 : decode cX0_init 17 = .ok (.putfield 15, 3) := by decide +kernel
theorem dX0_init_20 : decode cX0_init 20 = .ok (.aload_n 0, 1) := by decide +kernel
theorem dX0_init_21 : decode cX0_init 21 = .ok (.bipush 8, 2) := by decide +kernel
theorem dX0_init_23 : decode cX0_init 23 = .ok (.newarray .int, 2) := by decide +kernel
theorem dX0_init_25 : decode cX0_init 25 = .ok (.putfield 18, 3) := by decide +kernel
theorem dX0_init_28 : decode cX0_init 28 = .ok (.aload_n 0, 1) := by decide +kernel
theorem dX0_init_29 : decode cX0_init 29 = .ok (.bipush 8, 2) := by decide +kernel
theorem dX0_init_31 : decode cX0_init 31 = .ok (.newarray .int, 2) := by decide +kernel
theorem dX0_init_33 : decode cX0_init 33 = .ok (.putfield 21, 3) := by decide +kernel
theorem dX0_init_36 : decode cX0_init 36 = .ok (.aload_n 0, 1) := by decide +kernel
theorem dX0_init_37 : decode cX0_init 37 = .ok (.bipush 8, 2) := by decide +kernel
theorem dX0_init_39 : decode cX0_init 39 = .ok (.newarray .int, 2) := by decide +kernel
theorem dX0_init_41 : decode cX0_init 41 = .ok (.putfield 24, 3) := by decide +kernel
theorem dX0_init_44 : decode cX0_init 44 = .ok (.aload_n 0, 1) := by decide +kernel
theorem dX0_init_45 : decode cX0_init 45 = .ok (.bipush 8, 2) := by decide +kernel
theorem dX0_init_47 : decode cX0_init 47 = .ok (.newarray .int, 2) := by decide +kernel
theorem dX0_init_49 : decode cX0_init 49 = .ok (.putfield 27, 3) := by decide +kernel
theorem dX0_init_52 : decode cX0_init 52 = .ok (.aload_n 0, 1) := by decide +kernel
theorem dX0_init_53 : decode cX0_init 53 = .ok (.bipush 8, 2) := by decide +kernel
theorem dX0_init_55 : decode cX0_init 55 = .ok (.newarray .int, 2) := by decide +kernel
theorem dX0_init_57 : decode cX0_init 57 = .ok (.putfield 30, 3) := by decide +kernel
theorem dX0_init_60 : decode cX0_init 60 = .ok (.aload_n 0, 1) := by decide +kernel
theorem dX0_init_61 : decode cX0_init 61 = .ok (.bipush 64, 2) := by decide +kernel
theorem dX0_init_63 : decode cX0_init 63 = .ok (.newarray .int, 2) := by decide +kernel
theorem dX0_init_65 : decode cX0_init 65 = .ok (.putfield 33, 3) := by decide +kernel
theorem dX0_init_68 : decode cX0_init 68 = .ok (.aload_n 0, 1) := by decide +kernel
theorem dX0_init_69 : decode cX0_init 69 = .ok (.bipush 8, 2) := by decide +kernel
theorem dX0_init_71 : decode cX0_init 71 = .ok (.newarray .int, 2) := by decide +kernel
theorem dX0_init_73 : decode cX0_init 73 = .ok (.putfield 36, 3) := by decide +kernel
theorem dX0_init_76 : decode cX0_init 76 = .ok (.aload_n 0, 1) := by decide +kernel
theorem dX0_init_77 : decode cX0_init 77 = .ok (.bipush 8, 2) := by decide +kernel
theorem dX0_init_79 : decode cX0_init 79 = .ok (.newarray .int, 2) := by decide +kernel
theorem dX0_init_81 : decode cX0_init 81 = .ok (.putfield 39, 3) := by decide +kernel
theorem dX0_init_84 : decode cX0_init 84 = .ok (.aload_n 0, 1) := by decide +kernel
theorem dX0_init_85 : decode cX0_init 85 = .ok (.bipush 8, 2) := by decide +kernel
theorem dX0_init_87 : decode cX0_init 87 = .ok (.newarray .int, 2) := by decide +kernel
theorem dX0_init_89 : decode cX0_init 89 = .ok (.putfield 42, 3) := by decide +kernel
theorem dX0_init_92 : decode cX0_init 92 = .ok (.aload_n 0, 1) := by decide +kernel
theorem dX0_init_93 : decode cX0_init 93 = .ok (.invokevirtual 45, 3) := by decide +kernel
theorem dX0_init_96 : decode cX0_init 96 = .ok (.return_, 1) := by decide +kernel
set_option maxRecDepth 100000 in
theorem T_X0_init_0 {G : GE} {d C S : Nat} {P : KN} : Snd G MX0_init (d + 1) (C + 11) (S + 148) 0 (RN P) (s_aload 0 (s_objInit (s_aload 0 (s_iconst 10 (fun L st h => p1 st (fun x _ => x.toNatClampNeg = 10) ∧ s_newI (s_putR 0 4 (s_aload 0 (s_iconst 10 (fun L st h => p1 st (fun x _ => x.toNatClampNeg = 10) ∧ s_newI (s_putR 0 5 (s_aload 0 (s_iconst 8 (fun L st h => p1 st (fun x _ => x.toNatClampNeg = 8) ∧ s_newI (s_putR 0 6 (s_aload 0 (s_iconst 8 (fun L st h => p1 st (fun x _ => x.toNatClampNeg = 8) ∧ s_newI (s_putR 0 7 (s_aload 0 (s_iconst 8 (fun L st h => p1 st (fun x _ => x.toNatClampNeg = 8) ∧ s_newI (s_putR 0 8 (s_aload 0 (s_iconst 8 (fun L st h => p1 st (fun x _ => x.toNatClampNeg = 8) ∧ s_newI (s_putR 0 9 (s_aload 0 (s_iconst 8 (fun L st h => p1 st (fun x _ => x.toNatClampNeg = 8) ∧ s_newI (s_putR 0 10 (s_aload 0 (s_iconst 64 (fun L st h => p1 st (fun x _ => x.toNatClampNeg = 64) ∧ s_newI (s_putR 0 11 (s_aload 0 (s_iconst 8 (fun L st h => p1 st (fun x _ => x.toNatClampNeg = 8) ∧ s_newI (s_putR 0 12 (s_aload 0 (s_iconst 8 (fun L st h => p1 st (fun x _ => x.toNatClampNeg = 8) ∧ s_newI (s_putR 0 13 (s_aload 0 (s_iconst 8 (fun L st h => p1 st (fun x _ => x.toNatClampNeg = 8) ∧ s_newI (s_putR 0 14 (s_aload 0 (s_callV G d MX0_clear 0 0 (s_return P)))) L st h)))) L st h)))) L st h)))) L st h)))) L st h)))) L st h)))) L st h)))) L st h)))) L st h)))) L st h)))) L st h))))) := (e_aload_n dX0_init_0 rfl (e_objInit q_175 q_141 q_142 dX0_init_1 (e_aload_n dX0_init_4 rfl (e_bipush (v := 10) dX0_init_5 (by decide) (e_newI (N := 10) q_252 (by decide) dX0_init_7 (e_putRF (ty := .array .int) rfl rfl cl_0 (by decide) rfl rfl rfl (by decide +kernel) (fun _ => ⟨rfl, rfl⟩) q_198 dX0_init_9 (e_aload_n dX0_init_12 rfl (e_bipush (v := 10) dX0_init_13 (by decide) (e_newI (N := 10) q_252 (by decide) dX0_init_15 (e_putRF (ty := .array .int) rfl rfl cl_0 (by decide) rfl rfl rfl (by decide +kernel) (fun _ => ⟨rfl, rfl⟩) q_199 dX0_init_17 (e_aload_n dX0_init_20 rfl (e_bipush (v := 8) dX0_init_21 (by decide) (e_newI (N := 8) q_252 (by decide) dX0_init_23 (e_putRF (ty := .array .int) rfl rfl cl_0 (by decide) rfl rfl rfl (by decide +kernel) (fun _ => ⟨rfl, rfl⟩) q_200 dX0_init_25 (e_aload_n dX0_init_28 rfl (e_bipush (v := 8) dX0_init_29 (by decide) (e_newI (N := 8) q_252 (by decide) dX0_init_31 (e_putRF (ty := .array .int) rfl rfl cl_0 (by decide) rfl rfl rfl (by decide +kernel) (fun _ => ⟨rfl, rfl⟩) q_201 dX0_init_33 (e_aload_n dX0_init_36 rfl (e_bipush (v := 8) dX0_init_37 (by decide) (e_newI (N := 8) q_252 (by decide) dX0_init_39 (e_putRF (ty := .array .int) rfl rfl cl_0 (by decide) rfl rfl rfl (by decide +kernel) (fun _ => ⟨rfl, rfl⟩) q_202 dX0_init_41 (e_aload_n dX0_init_44 rfl (e_bipush (v := 8) dX0_init_45 (by decide) (e_newI (N := 8) q_252 (by decide) dX0_init_47 (e_putRF (ty := .array .int) rfl rfl cl_0 (by decide) rfl rfl rfl (by decide +kernel) (fun _ => ⟨rfl, rfl⟩) q_203 dX0_init_49 (e_aload_n dX0_init_52 rfl (e_bipush (v := 8) dX0_init_53 (by decide) (e_newI (N := 8) q_252 (by decide) dX0_init_55 (e_putRF (ty := .array .int) rfl rfl cl_0 (by decide) rfl rfl rfl (by decide +kernel) (fun _ => ⟨rfl, rfl⟩) q_204 dX0_init_57 (e_aload_n dX0_init_60 rfl (e_bipush (v := 64) dX0_init_61 (by decide) (e_newI (N := 64) q_252 (by decide) dX0_init_63 (e_putRF (ty := .array .int) rfl rfl cl_0 (by decide) rfl rfl rfl (by decide +kernel) (fun _ => ⟨rfl, rfl⟩) q_205 dX0_init_65 (e_aload_n dX0_init_68 rfl (e_bipush (v := 8) dX0_init_69 (by decide) (e_newI (N := 8) q_252 (by decide) dX0_init_71 (e_putRF (ty := .array .int) rfl rfl cl_0 (by decide) rfl rfl rfl (by decide +kernel) (fun _ => ⟨rfl, rfl⟩) q_206 dX0_init_73 (e_aload_n dX0_init_76 rfl (e_bipush (v := 8) dX0_init_77 (by decide) (e_newI (N := 8) q_252 (by decide) dX0_init_79 (e_putRF (ty := .array .int) rfl rfl cl_0 (by decide) rfl rfl rfl (by decide +kernel) (fun _ => ⟨rfl, rfl⟩) q_207 dX0_init_81 (e_aload_n dX0_init_84 rfl (e_bipush (v := 8) dX0_init_85 (by decide) (e_newI (N := 8) q_252 (by decide) dX0_init_87 (e_putRF (ty := .array .int) rfl rfl cl_0 (by decide) rfl rfl rfl (by decide +kernel) (fun _ => ⟨rfl, rfl⟩) q_208 dX0_init_89 (e_aload_n dX0_init_92 rfl (e_callV cl_0 cal_X0_clear q_176 q_177 q_178 dX0_init_93 (e_return rfl dX0_init_96)))))))))))))))))))))))))))))))))))))))))))))))))
set_option maxRecDepth 100000 in
theorem V_X0_init_0 {G : GE} {d : Nat} {P : KN} {a : Nat → Nat → Int32} {r : Nat → Nat → Value} {N : Nat} {l0 : Nat} (hs : ((10 : Int32).toNatClampNeg = 10 ∧ N < nK ∧ tyK N = (1, (10 : Int32).toNatClampNeg) ∧ ¬ (10 : Int32) < 0 ∧ (∀ j, a N j = 0) ∧ (tyK l0 = (0, 0) ∧ l0 < (N + 1) ∧ ∀ r1, r1 = u2V r l0 4 (.ref N) → ((10 : Int32).toNatClampNeg = 10 ∧ (N + 1) < nK ∧ tyK (N + 1) = (1, (10 : Int32).toNatClampNeg) ∧ ¬ (10 : Int32) < 0 ∧ (∀ j, a (N + 1) j = 0) ∧ (tyK l0 = (0, 0) ∧ l0 < ((N + 1) + 1) ∧ ∀ r2, r2 = u2V r1 l0 5 (.ref (N + 1)) → ((8 : Int32).toNatClampNeg = 8 ∧ ((N + 1) + 1) < nK ∧ tyK ((N + 1) + 1) = (1, (8 : Int32).toNatClampNeg) ∧ ¬ (8 : Int32) < 0 ∧ (∀ j, a ((N + 1) + 1) j = 0) ∧ (tyK l0 = (0, 0) ∧ l0 < (((N + 1) + 1) + 1) ∧ ∀ r3, r3 = u2V r2 l0 6 (.ref ((N + 1) + 1)) → ((8 : Int32).toNatClampNeg = 8 ∧ (((N + 1) + 1) + 1) < nK ∧ tyK (((N + 1) + 1) + 1) = (1, (8 : Int32).toNatClampNeg) ∧ ¬ (8 : Int32) < 0 ∧ (∀ j, a (((N + 1) + 1) + 1) j = 0) ∧ (tyK l0 = (0, 0) ∧ l0 < ((((N + 1) + 1) + 1) + 1) ∧ ∀ r4, r4 = u2V r3 l0 7 (.ref (((N + 1) + 1) + 1)) → ((8 : Int32).toNatClampNeg = 8 ∧ ((((N + 1) + 1) + 1) + 1) < nK ∧ tyK ((((N + 1) + 1) + 1) + 1) = (1, (8 : Int32).toNatClampNeg) ∧ ¬ (8 : Int32) < 0 ∧ (∀ j, a ((((N + 1) + 1) + 1) + 1) j = 0) ∧ (tyK l0 = (0, 0) ∧ l0 < (((((N + 1) + 1) + 1) + 1) + 1) ∧ ∀ r5, r5 = u2V r4 l0 8 (.ref ((((N + 1) + 1) + 1) + 1)) → ((8 : Int32).toNatClampNeg = 8 ∧ (((((N + 1) + 1) + 1) + 1) + 1) < nK ∧ tyK (((((N + 1) + 1) + 1) + 1) + 1) = (1, (8 : Int32).toNatClampNeg) ∧ ¬ (8 : Int32) < 0 ∧ (∀ j, a (((((N + 1) + 1) + 1) + 1) + 1) j = 0) ∧ (tyK l0 = (0, 0) ∧ l0 < ((((((N + 1) + 1) + 1) + 1) + 1) + 1) ∧ ∀ r6, r6 = u2V r5 l0 9 (.ref (((((N + 1) + 1) + 1) + 1) + 1)) → ((8 : Int32).toNatClampNeg = 8 ∧ ((((((N + 1) + 1) + 1) + 1) + 1) + 1) < nK ∧ tyK ((((((N + 1) + 1) + 1) + 1) + 1) + 1) = (1, (8 : Int32).toNatClampNeg) ∧ ¬ (8 : Int32) < 0 ∧ (∀ j, a ((((((N + 1) + 1) + 1) + 1) + 1) + 1) j = 0) ∧ (tyK l0 = (0, 0) ∧ l0 < (((((((N + 1) + 1) + 1) + 1) + 1) + 1) + 1) ∧ ∀ r7, r7 = u2V r6 l0 10 (.ref ((((((N + 1) + 1) + 1) + 1) + 1) + 1)) → ((64 : Int32).toNatClampNeg = 64 ∧ (((((((N + 1) + 1) + 1) + 1) + 1) + 1) + 1) < nK ∧ tyK (((((((N + 1) + 1) + 1) + 1) + 1) + 1) + 1) = (1, (64 : Int32).toNatClampNeg) ∧ ¬ (64 : Int32) < 0 ∧ (∀ j, a (((((((N + 1) + 1) + 1) + 1) + 1) + 1) + 1) j = 0) ∧ (tyK l0 = (0, 0) ∧ l0 < ((((((((N + 1) + 1) + 1) + 1) + 1) + 1) + 1) + 1) ∧ ∀ r8, r8 = u2V r7 l0 11 (.ref (((((((N + 1) + 1) + 1) + 1) + 1) + 1) + 1)) → ((8 : Int32).toNatClampNeg = 8 ∧ ((((((((N + 1) + 1) + 1) + 1) + 1) + 1) + 1) + 1) < nK ∧ tyK ((((((((N + 1) + 1) + 1) + 1) + 1) + 1) + 1) + 1) = (1, (8 : Int32).toNatClampNeg) ∧ ¬ (8 : Int32) < 0 ∧ (∀ j, a ((((((((N + 1) + 1) + 1) + 1) + 1) + 1) + 1) + 1) j = 0) ∧ (tyK l0 = (0, 0) ∧ l0 < (((((((((N + 1) + 1) + 1) + 1) + 1) + 1) + 1) + 1) + 1) ∧ ∀ r9, r9 = u2V r8 l0 12 (.ref ((((((((N + 1) + 1) + 1) + 1) + 1) + 1) + 1) + 1)) → ((8 : Int32).toNatClampNeg = 8 ∧ (((((((((N + 1) + 1) + 1) + 1) + 1) + 1) + 1) + 1) + 1) < nK ∧ tyK (((((((((N + 1) + 1) + 1) + 1) + 1) + 1) + 1) + 1) + 1) = (1, (8 : Int32).toNatClampNeg) ∧ ¬ (8 : Int32) < 0 ∧ (∀ j, a (((((((((N + 1) + 1) + 1) + 1) + 1) + 1) + 1) + 1) + 1) j = 0) ∧ (tyK l0 = (0, 0) ∧ l0 < ((((((((((N + 1) + 1) + 1) + 1) + 1) + 1) + 1) + 1) + 1) + 1) ∧ ∀ r10, r10 = u2V r9 l0 13 (.ref (((((((((N + 1) + 1) + 1) + 1) + 1) + 1) + 1) + 1) + 1)) → ((8 : Int32).toNatClampNeg = 8 ∧ ((((((((((N + 1) + 1) + 1) + 1) + 1) + 1) + 1) + 1) + 1) + 1) < nK ∧ tyK ((((((((((N + 1) + 1) + 1) + 1) + 1) + 1) + 1) + 1) + 1) + 1) = (1, (8 : Int32).toNatClampNeg) ∧ ¬ (8 : Int32) < 0 ∧ (∀ j, a ((((((((((N + 1) + 1) + 1) + 1) + 1) + 1) + 1) + 1) + 1) + 1) j = 0) ∧ (tyK l0 = (0, 0) ∧ l0 < (((((((((((N + 1) + 1) + 1) + 1) + 1) + 1) + 1) + 1) + 1) + 1) + 1) ∧ ∀ r11, r11 = u2V r10 l0 14 (.ref ((((((((((N + 1) + 1) + 1) + 1) + 1) + 1) + 1) + 1) + 1) + 1)) → (tyK l0 = (0, 0) ∧ l0 < (((((((((((N + 1) + 1) + 1) + 1) + 1) + 1) + 1) + 1) + 1) + 1) + 1) ∧ Sp G d 0 0 MX0_clear [.ref l0] (a, r11, (((((((((((N + 1) + 1) + 1) + 1) + 1) + 1) + 1) + 1) + 1) + 1) + 1)) (RN fun a12 r13 n14 => P a12 r13 n14))))))))))))))))))))))))) : Sp G (d + 1) 11 148 MX0_init [.ref l0] (a, r, N) (RN P) := Sp.mk (mc := (0 + 11)) (ms := (0 + 148)) [.ref l0] rfl rfl rfl rfl (T_X0_init_0 (C := 0) (S := 0) _ _ _ hs)
theorem dX0_clear_0 : decode cX0_clear 0 = .ok (.aload_n 0, 1) := by decide +kernel
theorem dX0_clear_1 : decode cX0_clear 1 = .ok (.iconst 0, 1) := by decide +kernel
theorem dX0_clear_2 : decode cX0_clear 2 = .ok (.putfield 48, 3) := by decide +kernel
theorem dX0_clear_5 : decode cX0_clear 5 = .ok (.aload_n 0, 1) := by decide +kernel
theorem dX0_clear_6 : decode cX0_clear 6 = .ok (.iconst 0, 1) := by decide +kernel
theorem dX0_clear_7 : decode cX0_clear 7 = .ok (.putfield 52, 3) := by decide +kernel
theorem dX0_clear_10 : decode cX0_clear 10 = .ok (.aload_n 0, 1) := by decide +kernel
theorem dX0_clear_11 : decode cX0_clear 11 = .ok (.iconst 0, 1) := by decide +kernel
theorem dX0_clear_12 : decode cX0_clear 12 = .ok (.putfield 55, 3) := by decide +kernel
theorem dX0_clear_15 : decode cX0_clear 15 = .ok (.aload_n 0, 1) := by decide +kernel
theorem dX0_clear_16 : decode cX0_clear 16 = .ok (.iconst 0, 1) := by decide +kernel
theorem dX0_clear_17 : decode cX0_clear 17 = .ok (.putfield 58, 3) := by decide +kernel
theorem dX0_clear_20 : decode cX0_clear 20 = .ok (.aload_n 0, 1) := by decide +kernel
theorem dX0_clear_21 : decode cX0_clear 21 = .ok (.getfield 33, 3) := by decide +kernel
theorem dX0_clear_24 : decode cX0_clear 24 = .ok (.iconst 5, 1) := by decide +kernel
theorem dX0_clear_25 : decode cX0_clear 25 = .ok (.invokestatic 61, 3) := by decide +kernel
theorem dX0_clear_28 : decode cX0_clear 28 = .ok (.aload_n 0, 1) := by decide +kernel
theorem dX0_clear_29 : decode cX0_clear 29 = .ok (.getfield 36, 3) := by decide +kernel
theorem dX0_clear_32 : decode cX0_clear 32 = .ok (.iconst 0, 1) := by decide +kernel
theorem dX0_clear_33 : decode cX0_clear 33 = .ok (.invokestatic 61, 3) := by decide +kernel
theorem dX0_clear_36 : decode cX0_clear 36 = .ok (.aload_n 0, 1) := by decide +kernel
theorem dX0_clear_37 : decode cX0_clear 37 = .ok (.bipush 30, 2) := by decide +kernel
theorem dX0_clear_39 : decode cX0_clear 39 = .ok (.iconst 0, 1) := by decide +kernel
theorem dX0_clear_40 : decode cX0_clear 40 = .ok (.iconst 1, 1) := by decide +kernel
theorem dX0_clear_41 : decode cX0_clear 41 = .ok (.iconst 0, 1) := by decide +kernel
theorem dX0_clear_42 : decode cX0_clear 42 = .ok (.invokevirtual 67, 3) := by decide +kernel
theorem dX0_clear_45 : decode cX0_clear 45 = .ok (.return_, 1) := by decide +kernel
set_option maxRecDepth 100000 in
theorem T_X0_clear_0 {G : GE} {d C S : Nat} {P : KN} : Snd G MX0_clear (d + 1) C S 0 (RN P) (s_aload 0 (s_iconst 0 (s_putI 0 0 (s_aload 0 (s_iconst 0 (s_putI 0 1 (s_aload 0 (s_iconst 0 (s_putI 0 2 (s_aload 0 (s_iconst 0 (s_putI 0 3 (s_aload 0 (s_getR 0 11 (s_iconst 5 (s_call G d MX9_fill 2 (s_aload 0 (s_getR 0 12 (s_iconst 0 (s_call G d MX9_fill 2 (s_aload 0 (s_iconst 30 (s_iconst 0 (s_iconst 1 (s_iconst 0 (s_callV G d MX0_setLane 4 0 (s_return P))))))))))))))))))))))))))) := (e_aload_n dX0_clear_0 rfl (e_iconst (v := 0) dX0_clear_1 (by decide) (e_putI rfl cl_0 (by decide) rfl rfl rfl q_187 dX0_clear_2 (e_aload_n dX0_clear_5 rfl (e_iconst (v := 0) dX0_clear_6 (by decide) (e_putI rfl cl_0 (by decide) rfl rfl rfl q_190 dX0_clear_7 (e_aload_n dX0_clear_10 rfl (e_iconst (v := 0) dX0_clear_11 (by decide) (e_putI rfl cl_0 (by decide) rfl rfl rfl q_194 dX0_clear_12 (e_aload_n dX0_clear_15 rfl (e_iconst (v := 0) dX0_clear_16 (by decide) (e_putI rfl cl_0 (by decide) rfl rfl rfl q_196 dX0_clear_17 (e_aload_n dX0_clear_20 rfl (e_getR rfl cl_0 (by decide) rfl q_205 dX0_clear_21 (e_iconst (v := 5) dX0_clear_24 (by decide) (e_callS cal_X9_fill q_180 q_181 dX0_clear_25 (e_aload_n dX0_clear_28 rfl (e_getR rfl cl_0 (by decide) rfl q_206 dX0_clear_29 (e_iconst (v := 0) dX0_clear_32 (by decide) (e_callS cal_X9_fill q_180 q_181 dX0_clear_33 (e_aload_n dX0_clear_36 rfl (e_bipush (v := 30) dX0_clear_37 (by decide) (e_iconst (v := 0) dX0_clear_39 (by decide) (e_iconst (v := 1) dX0_clear_40 (by decide) (e_iconst (v := 0) dX0_clear_41 (by decide) (e_callV cl_0 cal_X0_setLane q_183 q_184 q_185 dX0_clear_42 (e_return rfl dX0_clear_45)))))))))))))))))))))))))))
set_option maxRecDepth 100000 in
theorem V_X0_clear_0 {G : GE} {d : Nat} {P : KN} {a : Nat → Nat → Int32} {r : Nat → Nat → Value} {N : Nat} {l0 : Nat} (hs : (tyK l0 = (0, 0) ∧ l0 < N ∧ ∀ a1, a1 = u2 a l0 0 0 → (tyK l0 = (0, 0) ∧ l0 < N ∧ ∀ a2, a2 = u2 a1 l0 1 0 → (tyK l0 = (0, 0) ∧ l0 < N ∧ ∀ a3, a3 = u2 a2 l0 2 0 → (tyK l0 = (0, 0) ∧ l0 < N ∧ ∀ a4, a4 = u2 a3 l0 3 0 → (tyK l0 = (0, 0) ∧ l0 < N ∧ ∃ q5, r l0 11 = .ref q5 ∧ Sp G d 0 0 MX9_fill [.ref q5, .int 5] (a4, r, N) (RN fun a6 r7 n8 => (tyK l0 = (0, 0) ∧ l0 < n8 ∧ ∃ q9, r7 l0 12 = .ref q9 ∧ Sp G d 0 0 MX9_fill [.ref q9, .int 0] (a6, r7, n8) (RN fun a10 r11 n12 => (tyK l0 = (0, 0) ∧ l0 < n12 ∧ Sp G d 0 0 MX0_setLane [.ref l0, .int 30, .int 0, .int 1, .int 0] (a10, r11, n12) (RN fun a13 r14 n15 => P a13 r14 n15))))))))))) : Sp G (d + 1) 0 0 MX0_clear [.ref l0] (a, r, N) (RN P) := Sp.mk (mc := 0) (ms := 0) [.ref l0] rfl rfl rfl rfl (T_X0_clear_0 (C := 0) (S := 0) _ _ _ hs)
theorem dX0_readAll_0 : decode cX0_readAll 0 = .ok (.aload_n 0, 1) := by decide +kernel
theorem dX0_readAll_1 : decode cX0_readAll 1 = .ok (.invokevirtual 45, 3) := by decide +kernel
theorem dX0_readAll_4 : decode cX0_readAll 4 = .ok (.iconst 0, 1) := by decide +kernel
theorem dX0_readAll_5 : decode cX0_readAll 5 = .ok (.istore_n 2, 1) := by decide +kernel
theorem dX0_readAll_6 : decode cX0_readAll 6 = .ok (.iload_n 2, 1) := by decide +kernel
theorem dX0_readAll_7 : decode cX0_readAll 7 = .ok (.bipush 60, 2) := by decide +kernel
theorem dX0_readAll_9 : decode cX0_readAll 9 = .ok (.if_icmp .gt 27, 3) := by decide +kernel
theorem dX0_readAll_12 : decode cX0_readAll 12 = .ok (.aload_n 1, 1) := by decide +kernel
theorem dX0_readAll_13 : decode cX0_readAll 13 = .ok (.invokevirtual 71, 3) := by decide +kernel
theorem dX0_readAll_16 : decode cX0_readAll 16 = .ok (.ifCond .ne 20, 3) := by decide +kernel
theorem dX0_readAll_19 : decode cX0_readAll 19 = .ok (.aload_n 0, 1) := by decide +kernel
theorem dX0_readAll_20 : decode cX0_readAll 20 = .ok (.aload_n 1, 1) := by decide +kernel
theorem dX0_readAll_21 : decode cX0_readAll 21 = .ok (.iload_n 2, 1) := by decide +kernel
theorem dX0_readAll_22 : decode cX0_readAll 22 = .ok (.invokevirtual 77, 3) := by decide +kernel
theorem dX0_readAll_25 : decode cX0_readAll 25 = .ok (.ifCond .ne 5, 3) := by decide +kernel
theorem dX0_readAll_28 : decode cX0_readAll 28 = .ok (.iconst 0, 1) := by decide +kernel
theorem dX0_readAll_29 : decode cX0_readAll 29 = .ok (.ireturn, 1) := by decide +kernel
theorem dX0_readAll_30 : decode cX0_readAll 30 = .ok (.iinc 2 1, 3) := by decide +kernel
theorem dX0_readAll_33 : decode cX0_readAll 33 = .ok (.goto (-27), 3) := by decide +kernel
theorem dX0_readAll_36 : decode cX0_readAll 36 = .ok (.iconst 1, 1) := by decide +kernel
theorem dX0_readAll_37 : decode cX0_readAll 37 = .ok (.ireturn, 1) := by decide +kernel
set_option maxRecDepth 100000 in
theorem T_X0_readAll_0 {G : GE} {d C S : Nat} {P : KI} : Snd G MX0_readAll (d + 1) C S 0 (RI P) (s_aload 0 (s_callV G d MX0_clear 0 0 (s_iconst 0 (s_istore 2 (fun L st h => E G MX0_readAll (d + 1) C S 6 (msk [true, true, true] L) st h (RI P)))))) := (e_aload_n dX0_readAll_0 rfl (e_callV cl_0 cal_X0_clear q_176 q_177 q_178 dX0_readAll_1 (e_iconst (v := 0) dX0_readAll_4 (by decide) (e_istore_n dX0_readAll_5 rfl (by decide) (e_msk [true, true, true])))))
set_option maxRecDepth 100000 in
theorem V_X0_readAll_0 {G : GE} {d : Nat} {P : KI} {a : Nat → Nat → Int32} {r : Nat → Nat → Value} {N : Nat} {l0 : Nat} {l1 : Nat} (hs : (tyK l0 = (0, 0) ∧ l0 < N ∧ Sp G d 0 0 MX0_clear [.ref l0] (a, r, N) (RN fun a1 r2 n3 => E G MX0_readAll (d + 1) 0 0 6 [.ref l0, .ref l1, .int 0] [] (a1, r2, n3) (RI P)))) : Sp G (d + 1) 0 0 MX0_readAll [.ref l0, .ref l1] (a, r, N) (RI P) := Sp.mk (mc := 0) (ms := 0) [.ref l0, .ref l1, .null] rfl rfl rfl rfl (T_X0_readAll_0 (C := 0) (S := 0) _ _ _ hs)
set_option maxRecDepth 100000 in
theorem T_X0_readAll_6 {G : GE} {d C S : Nat} {P : KI} : Snd G MX0_readAll (d + 1) C S 6 (RI P) (s_iload 2 (s_iconst 60 (s_ic_gt (s_iconst 1 (s_zreturn P)) (s_aload 1 (s_callV G d MX10_atEnd 0 9 (s_if_ne (s_iconst 1 (s_zreturn P)) (s_aload 0 (s_aload 1 (s_iload 2 (s_callV G d MX0_readClause 2 0 (s_if_ne (s_iinc 2 1 (fun L st h => E G MX0_readAll (d + 1) C S 6 (msk [true, true, true] L) st h (RI P))) (s_iconst 0 (s_zreturn P))))))))))))) := (e_iload_n dX0_readAll_6 rfl (e_bipush (v := 60) dX0_readAll_7 (by decide) (e_ic_gt (tgt := 36) dX0_readAll_9 (by decide) (e_iconst (v := 1) dX0_readAll_36 (by decide) (e_zreturn rfl dX0_readAll_37)) (e_aload_n dX0_readAll_12 rfl (e_callV cl_9 cal_X10_atEnd q_795 q_796 q_797 dX0_readAll_13 (e_if_ne (tgt := 36) dX0_readAll_16 (by decide) (e_iconst (v := 1) dX0_readAll_36 (by decide) (e_zreturn rfl dX0_readAll_37)) (e_aload_n dX0_readAll_19 rfl (e_aload_n dX0_readAll_20 rfl (e_iload_n dX0_readAll_21 rfl (e_callV cl_0 cal_X0_readClause q_803 q_805 q_14 dX0_readAll_22 (e_if_ne (tgt := 30) dX0_readAll_25 (by decide) (e_iinc (v := 1) dX0_readAll_30 (by decide) (by decide) (e_goto (tgt := 6) dX0_readAll_33 (by decide) (e_msk [true, true, true]))) (e_iconst (v := 0) dX0_readAll_28 (by decide) (e_zreturn rfl dX0_readAll_29)))))))))))))
set_option maxRecDepth 100000 in
theorem V_X0_readAll_6 {G : GE} {d C S : Nat} {P : KI} {a : Nat → Nat → Int32} {r : Nat → Nat → Value} {N : Nat} {l0 : Nat} {l1 : Nat} {l2 : Int32} (hs : ((60 < l2 → (bz 1 ∧ P 1 a r N)) ∧ (¬ 60 < l2 → (tyK l1 = (0, 9) ∧ l1 < N ∧ Sp G d 0 0 MX10_atEnd [.ref l1] (a, r, N) (RI fun v4 a1 r2 n3 => ((¬ v4 = 0 → (bz 1 ∧ P 1 a1 r2 n3)) ∧ (v4 = 0 → (tyK l0 = (0, 0) ∧ l0 < n3 ∧ Sp G d 0 0 MX0_readClause [.ref l0, .ref l1, .int l2] (a1, r2, n3) (RI fun v8 a5 r6 n7 => ((¬ v8 = 0 → E G MX0_readAll (d + 1) C S 6 [.ref l0, .ref l1, .int (l2 + 1)] [] (a5, r6, n7) (RI P)) ∧ (v8 = 0 → (bz 0 ∧ P 0 a5 r6 n7)))))))))))) : E G MX0_readAll (d + 1) C S 6 [.ref l0, .ref l1, .int l2] [] (a, r, N) (RI P) := T_X0_readAll_6 _ _ _ hs
theorem dX0_readClause_0 : decode cX0_readClause 0 = .ok (.aload_n 1, 1) := by decide +kernel
theorem dX0_readClause_1 : decode cX0_readClause 1 = .ok (.invokevirtual 81, 3) := by decide +kernel
theorem dX0_readClause_4 : decode cX0_readClause 4 = .ok (.aload_n 1, 1) := by decide +kernel
theorem dX0_readClause_5 : decode cX0_readClause 5 = .ok (.invokestatic 84, 3) := by decide +kernel
theorem dX0_readClause_8 : decode cX0_readClause 8 = .ok (.istore_n 3, 1) := by decide +kernel
theorem dX0_readClause_9 : decode cX0_readClause 9 = .ok (.iload_n 3, 1) := by decide +kernel
theorem dX0_readClause_10 : decode cX0_readClause 10 = .ok (.ifCond .ne 9, 3) := by decide +kernel
theorem dX0_readClause_13 : decode cX0_readClause 13 = .ok (.aload_n 1, 1) := by decide +kernel
theorem dX0_readClause_14 : decode cX0_readClause 14 = .ok (.iconst 1, 1) := by decide +kernel
theorem dX0_readClause_15 : decode cX0_readClause 15 = .ok (.invokevirtual 88, 3) := by decide +kernel
theorem dX0_readClause_18 : decode cX0_readClause 18 = .ok (.ireturn, 1) := by decide +kernel
theorem dX0_readClause_19 : decode cX0_readClause 19 = .ok (.iload_n 2, 1) := by decide +kernel
theorem dX0_readClause_20 : decode cX0_readClause 20 = .ok (.bipush 60, 2) := by decide +kernel
theorem dX0_readClause_22 : decode cX0_readClause 22 = .ok (.if_icmp .ge 11, 3) := by decide +kernel
theorem dX0_readClause_25 : decode cX0_readClause 25 = .ok (.aload_n 0, 1) := by decide +kernel
theorem dX0_readClause_26 : decode cX0_readClause 26 = .ok (.iload_n 3, 1) := by decide +kernel
theorem dX0_readClause_27 : decode cX0_readClause 27 = .ok (.invokevirtual 92, 3) := by decide +kernel
theorem dX0_readClause_30 : decode cX0_readClause 30 = .ok (.ifCond .eq 9, 3) := by decide +kernel
theorem dX0_readClause_33 : decode cX0_readClause 33 = .ok (.aload_n 1, 1) := by decide +kernel
theorem dX0_readClause_34 : decode cX0_readClause 34 = .ok (.iconst 3, 1) := by decide +kernel
theorem dX0_readClause_35 : decode cX0_readClause 35 = .ok (.invokevirtual 88, 3) := by decide +kernel
theorem dX0_readClause_38 : decode cX0_readClause 38 = .ok (.ireturn, 1) := by decide +kernel
theorem dX0_readClause_39 : decode cX0_readClause 39 = .ok (.iload_n 3, 1) := by decide +kernel
theorem dX0_readClause_40 : decode cX0_readClause 40 = .ok (.tableswitch 100 1 6 #[40, 50, 60, 70, 80, 90], 40) := by decide +kernel
theorem dX0_readClause_80 : decode cX0_readClause 80 = .ok (.aload_n 0, 1) := by decide +kernel
theorem dX0_readClause_81 : decode cX0_readClause 81 = .ok (.aload_n 1, 1) := by decide +kernel
theorem dX0_readClause_82 : decode cX0_readClause 82 = .ok (.invokevirtual 95, 3) := by decide +kernel
theorem dX0_readClause_85 : decode cX0_readClause 85 = .ok (.istore 4, 2) := by decide +kernel
theorem dX0_readClause_87 : decode cX0_readClause 87 = .ok (.goto 60, 3) := by decide +kernel
theorem dX0_readClause_90 : decode cX0_readClause 90 = .ok (.aload_n 0, 1) := by decide +kernel
theorem dX0_readClause_91 : decode cX0_readClause 91 = .ok (.aload_n 1, 1) := by decide +kernel
theorem dX0_readClause_92 : decode cX0_readClause 92 = .ok (.invokevirtual 99, 3) := by decide +kernel
theorem dX0_readClause_95 : decode cX0_readClause 95 = .ok (.istore 4, 2) := by decide +kernel
theorem dX0_readClause_97 : decode cX0_readClause 97 = .ok (.goto 50, 3) := by decide +kernel
theorem dX0_readClause_100 : decode cX0_readClause 100 = .ok (.aload_n 0, 1) := by decide +kernel
theorem dX0_readClause_101 : decode cX0_readClause 101 = .ok (.aload_n 1, 1) := by decide +kernel
theorem dX0_readClause_102 : decode cX0_readClause 102 = .ok (.invokevirtual 102, 3) := by decide +kernel
theorem dX0_readClause_105 : decode cX0_readClause 105 = .ok (.istore 4, 2) := by decide +kernel
theorem dX0_readClause_107 : decode cX0_readClause 107 = .ok (.goto 40, 3) := by decide +kernel
theorem dX0_readClause_110 : decode cX0_readClause 110 = .ok (.aload_n 0, 1) := by decide +kernel
theorem dX0_readClause_111 : decode cX0_readClause 111 = .ok (.aload_n 1, 1) := by decide +kernel
theorem dX0_readClause_112 : decode cX0_readClause 112 = .ok (.invokevirtual 105, 3) := by decide +kernel
theorem dX0_readClause_115 : decode cX0_readClause 115 = .ok (.istore 4, 2) := by decide +kernel
theorem dX0_readClause_117 : decode cX0_readClause 117 = .ok (.goto 30, 3) := by decide +kernel
theorem dX0_readClause_120 : decode cX0_readClause 120 = .ok (.aload_n 0, 1) := by decide +kernel
theorem dX0_readClause_121 : decode cX0_readClause 121 = .ok (.aload_n 1, 1) := by decide +kernel
theorem dX0_readClause_122 : decode cX0_readClause 122 = .ok (.invokevirtual 108, 3) := by decide +kernel
theorem dX0_readClause_125 : decode cX0_readClause 125 = .ok (.istore 4, 2) := by decide +kernel
theorem dX0_readClause_127 : decode cX0_readClause 127 = .ok (.goto 20, 3) := by decide +kernel
theorem dX0_readClause_130 : decode cX0_readClause 130 = .ok (.aload_n 0, 1) := by decide +kernel
theorem dX0_readClause_131 : decode cX0_readClause 131 = .ok (.aload_n 1, 1) := by decide +kernel
theorem dX0_readClause_132 : decode cX0_readClause 132 = .ok (.invokevirtual 111, 3) := by decide +kernel
theorem dX0_readClause_135 : decode cX0_readClause 135 = .ok (.istore 4, 2) := by decide +kernel
theorem dX0_readClause_137 : decode cX0_readClause 137 = .ok (.goto 10, 3) := by decide +kernel
theorem dX0_readClause_140 : decode cX0_readClause 140 = .ok (.aload_n 0, 1) := by decide +kernel
theorem dX0_readClause_141 : decode cX0_readClause 141 = .ok (.aload_n 1, 1) := by decide +kernel
theorem dX0_readClause_142 : decode cX0_readClause 142 = .ok (.invokevirtual 114, 3) := by decide +kernel
theorem dX0_readClause_145 : decode cX0_readClause 145 = .ok (.istore 4, 2) := by decide +kernel
theorem dX0_readClause_147 : decode cX0_readClause 147 = .ok (.iload 4, 2) := by decide +kernel
theorem dX0_readClause_149 : decode cX0_readClause 149 = .ok (.ifCond .eq 16, 3) := by decide +kernel
theorem dX0_readClause_152 : decode cX0_readClause 152 = .ok (.aload_n 1, 1) := by decide +kernel
theorem dX0_readClause_153 : decode cX0_readClause 153 = .ok (.bipush 59, 2) := by decide +kernel
theorem dX0_readClause_155 : decode cX0_readClause 155 = .ok (.invokevirtual 117, 3) := by decide +kernel
theorem dX0_readClause_158 : decode cX0_readClause 158 = .ok (.ifCond .eq 7, 3) := by decide +kernel
theorem dX0_readClause_161 : decode cX0_readClause 161 = .ok (.iconst 1, 1) := by decide +kernel
theorem dX0_readClause_162 : decode cX0_readClause 162 = .ok (.goto 4, 3) := by decide +kernel
theorem dX0_readClause_165 : decode cX0_readClause 165 = .ok (.iconst 0, 1) := by decide +kernel
theorem dX0_readClause_166 : decode cX0_readClause 166 = .ok (.ireturn, 1) := by decide +kernel
set_option maxRecDepth 100000 in
theorem T_X0_readClause_0 {G : GE} {d C S : Nat} {P : KI} : Snd G MX0_readClause (d + 1) C S 0 (RI P) (s_aload 1 (s_callV G d MX10_readWord 0 9 (s_aload 1 (s_call G d MX0_kindOf 1 (s_istore 3 (s_iload 3 (s_if_ne (s_iload 2 (s_iconst 60 (s_ic_ge (s_aload 1 (s_iconst 3 (s_callV G d MX10_mark 1 9 (s_zreturn P)))) (s_aload 0 (s_iload 3 (s_callV G d MX0_isFull 1 0 (s_if_eq (s_iload 3 (s_switch [(1, (s_aload 0 (s_aload 1 (s_callV G d MX0_readCorner 1 0 (s_istore 4 (s_iload 4 (s_if_eq (s_iconst 0 (s_zreturn P)) (s_aload 1 (s_iconst 59 (s_callV G d MX10_take 1 9 (s_if_eq (s_iconst 0 (s_zreturn P)) (s_iconst 1 (s_zreturn P))))))))))))), (2, (s_aload 0 (s_aload 1 (s_callV G d MX0_readStreet 1 0 (s_istore 4 (s_iload 4 (s_if_eq (s_iconst 0 (s_zreturn P)) (s_aload 1 (s_iconst 59 (s_callV G d MX10_take 1 9 (s_if_eq (s_iconst 0 (s_zreturn P)) (s_iconst 1 (s_zreturn P))))))))))))), (3, (s_aload 0 (s_aload 1 (s_callV G d MX0_readLikes 1 0 (s_istore 4 (s_iload 4 (s_if_eq (s_iconst 0 (s_zreturn P)) (s_aload 1 (s_iconst 59 (s_callV G d MX10_take 1 9 (s_if_eq (s_iconst 0 (s_zreturn P)) (s_iconst 1 (s_zreturn P))))))))))))), (4, (s_aload 0 (s_aload 1 (s_callV G d MX0_readNever 1 0 (s_istore 4 (s_iload 4 (s_if_eq (s_iconst 0 (s_zreturn P)) (s_aload 1 (s_iconst 59 (s_callV G d MX10_take 1 9 (s_if_eq (s_iconst 0 (s_zreturn P)) (s_iconst 1 (s_zreturn P))))))))))))), (5, (s_aload 0 (s_aload 1 (s_callV G d MX0_readGood 1 0 (s_istore 4 (s_iload 4 (s_if_eq (s_iconst 0 (s_zreturn P)) (s_aload 1 (s_iconst 59 (s_callV G d MX10_take 1 9 (s_if_eq (s_iconst 0 (s_zreturn P)) (s_iconst 1 (s_zreturn P))))))))))))), (6, (s_aload 0 (s_aload 1 (s_callV G d MX0_readLane 1 0 (s_istore 4 (s_iload 4 (s_if_eq (s_iconst 0 (s_zreturn P)) (s_aload 1 (s_iconst 59 (s_callV G d MX10_take 1 9 (s_if_eq (s_iconst 0 (s_zreturn P)) (s_iconst 1 (s_zreturn P)))))))))))))] (s_aload 0 (s_aload 1 (s_callV G d MX0_readRiver 1 0 (s_istore 4 (s_iload 4 (s_if_eq (s_iconst 0 (s_zreturn P)) (s_aload 1 (s_iconst 59 (s_callV G d MX10_take 1 9 (s_if_eq (s_iconst 0 (s_zreturn P)) (s_iconst 1 (s_zreturn P)))))))))))))) (s_aload 1 (s_iconst 3 (s_callV G d MX10_mark 1 9 (s_zreturn P))))))))))) (s_aload 1 (s_iconst 1 (s_callV G d MX10_mark 1 9 (s_zreturn P))))))))))) := (e_aload_n dX0_readClause_0 rfl (e_callV cl_9 cal_X10_readWord q_807 q_808 q_809 dX0_readClause_1 (e_aload_n dX0_readClause_4 rfl (e_callS cal_X0_kindOf q_818 q_819 dX0_readClause_5 (e_istore_n dX0_readClause_8 rfl (by decide) (e_iload_n dX0_readClause_9 rfl (e_if_ne (tgt := 19) dX0_readClause_10 (by decide) (e_iload_n dX0_readClause_19 rfl (e_bipush (v := 60) dX0_readClause_20 (by decide) (e_ic_ge (tgt := 33) dX0_readClause_22 (by decide) (e_aload_n dX0_readClause_33 rfl (e_iconst (v := 3) dX0_readClause_34 (by decide) (e_callV cl_9 cal_X10_mark q_880 q_881 q_882 dX0_readClause_35 (e_zreturn rfl dX0_readClause_38)))) (e_aload_n dX0_readClause_25 rfl (e_iload_n dX0_readClause_26 rfl (e_callV cl_0 cal_X0_isFull q_884 q_886 q_16 dX0_readClause_27 (e_if_eq (tgt := 39) dX0_readClause_30 (by decide) (e_iload_n dX0_readClause_39 rfl (e_tsw (tg := [80, 90, 100, 110, 120, 130]) (td := 140) [1, 2, 3, 4, 5, 6] rfl dX0_readClause_40 (by decide) (by decide) (by decide +kernel) (by decide +kernel) (swc (t0 := 80) (e_aload_n dX0_readClause_80 rfl (e_aload_n dX0_readClause_81 rfl (e_callV cl_0 cal_X0_readCorner q_888 q_890 q_17 dX0_readClause_82 (e_istore dX0_readClause_85 (by decide) (e_goto (tgt := 147) dX0_readClause_87 (by decide) (e_iload dX0_readClause_147 (e_if_eq (tgt := 165) dX0_readClause_149 (by decide) (e_iconst (v := 0) dX0_readClause_165 (by decide) (e_zreturn rfl dX0_readClause_166)) (e_aload_n dX0_readClause_152 rfl (e_bipush (v := 59) dX0_readClause_153 (by decide) (e_callV cl_9 cal_X10_take q_952 q_953 q_954 dX0_readClause_155 (e_if_eq (tgt := 165) dX0_readClause_158 (by decide) (e_iconst (v := 0) dX0_readClause_165 (by decide) (e_zreturn rfl dX0_readClause_166)) (e_iconst (v := 1) dX0_readClause_161 (by decide) (e_goto (tgt := 166) dX0_readClause_162 (by decide) (e_zreturn rfl dX0_readClause_166)))))))))))))) (swc (t0 := 90) (e_aload_n dX0_readClause_90 rfl (e_aload_n dX0_readClause_91 rfl (e_callV cl_0 cal_X0_readStreet q_906 q_908 q_18 dX0_readClause_92 (e_istore dX0_readClause_95 (by decide) (e_goto (tgt := 147) dX0_readClause_97 (by decide) (e_iload dX0_readClause_147 (e_if_eq (tgt := 165) dX0_readClause_149 (by decide) (e_iconst (v := 0) dX0_readClause_165 (by decide) (e_zreturn rfl dX0_readClause_166)) (e_aload_n dX0_readClause_152 rfl (e_bipush (v := 59) dX0_readClause_153 (by decide) (e_callV cl_9 cal_X10_take q_952 q_953 q_954 dX0_readClause_155 (e_if_eq (tgt := 165) dX0_readClause_158 (by decide) (e_iconst (v := 0) dX0_readClause_165 (by decide) (e_zreturn rfl dX0_readClause_166)) (e_iconst (v := 1) dX0_readClause_161 (by decide) (e_goto (tgt := 166) dX0_readClause_162 (by decide) (e_zreturn rfl dX0_readClause_166)))))))))))))) (swc (t0 := 100) (e_aload_n dX0_readClause_100 rfl (e_aload_n dX0_readClause_101 rfl (e_callV cl_0 cal_X0_readLikes q_920 q_922 q_19 dX0_readClause_102 (e_istore dX0_readClause_105 (by decide) (e_goto (tgt := 147) dX0_readClause_107 (by decide) (e_iload dX0_readClause_147 (e_if_eq (tgt := 165) dX0_readClause_149 (by decide) (e_iconst (v := 0) dX0_readClause_165 (by decide) (e_zreturn rfl dX0_readClause_166)) (e_aload_n dX0_readClause_152 rfl (e_bipush (v := 59) dX0_readClause_153 (by decide) (e_callV cl_9 cal_X10_take q_952 q_953 q_954 dX0_readClause_155 (e_if_eq (tgt := 165) dX0_readClause_158 (by decide) (e_iconst (v := 0) dX0_readClause_165 (by decide) (e_zreturn rfl dX0_readClause_166)) (e_iconst (v := 1) dX0_readClause_161 (by decide) (e_goto (tgt := 166) dX0_readClause_162 (by decide) (e_zreturn rfl dX0_readClause_166)))))))))))))) (swc (t0 := 110) (e_aload_n dX0_readClause_110 rfl (e_aload_n dX0_readClause_111 rfl (e_callV cl_0 cal_X0_readNever q_928 q_930 q_20 dX0_readClause_112 (e_istore dX0_readClause_115 (by decide) (e_goto (tgt := 147) dX0_readClause_117 (by decide) (e_iload dX0_readClause_147 (e_if_eq (tgt := 165) dX0_readClause_149 (by decide) (e_iconst (v := 0) dX0_readClause_165 (by decide) (e_zreturn rfl dX0_readClause_166)) (e_aload_n dX0_readClause_152 rfl (e_bipush (v := 59) dX0_readClause_153 (by decide) (e_callV cl_9 cal_X10_take q_952 q_953 q_954 dX0_readClause_155 (e_if_eq (tgt := 165) dX0_readClause_158 (by decide) (e_iconst (v := 0) dX0_readClause_165 (by decide) (e_zreturn rfl dX0_readClause_166)) (e_iconst (v := 1) dX0_readClause_161 (by decide) (e_goto (tgt := 166) dX0_readClause_162 (by decide) (e_zreturn rfl dX0_readClause_166)))))))))))))) (swc (t0 := 120) (e_aload_n dX0_readClause_120 rfl (e_aload_n dX0_readClause_121 rfl (e_callV cl_0 cal_X0_readGood q_936 q_938 q_21 dX0_readClause_122 (e_istore dX0_readClause_125 (by decide) (e_goto (tgt := 147) dX0_readClause_127 (by decide) (e_iload dX0_readClause_147 (e_if_eq (tgt := 165) dX0_readClause_149 (by decide) (e_iconst (v := 0) dX0_readClause_165 (by decide) (e_zreturn rfl dX0_readClause_166)) (e_aload_n dX0_readClause_152 rfl (e_bipush (v := 59) dX0_readClause_153 (by decide) (e_callV cl_9 cal_X10_take q_952 q_953 q_954 dX0_readClause_155 (e_if_eq (tgt := 165) dX0_readClause_158 (by decide) (e_iconst (v := 0) dX0_readClause_165 (by decide) (e_zreturn rfl dX0_readClause_166)) (e_iconst (v := 1) dX0_readClause_161 (by decide) (e_goto (tgt := 166) dX0_readClause_162 (by decide) (e_zreturn rfl dX0_readClause_166)))))))))))))) (swc (t0 := 130) (e_aload_n dX0_readClause_130 rfl (e_aload_n dX0_readClause_131 rfl (e_callV cl_0 cal_X0_readLane q_944 q_946 q_22 dX0_readClause_132 (e_istore dX0_readClause_135 (by decide) (e_goto (tgt := 147) dX0_readClause_137 (by decide) (e_iload dX0_readClause_147 (e_if_eq (tgt := 165) dX0_readClause_149 (by decide) (e_iconst (v := 0) dX0_readClause_165 (by decide) (e_zreturn rfl dX0_readClause_166)) (e_aload_n dX0_readClause_152 rfl (e_bipush (v := 59) dX0_readClause_153 (by decide) (e_callV cl_9 cal_X10_take q_952 q_953 q_954 dX0_readClause_155 (e_if_eq (tgt := 165) dX0_readClause_158 (by decide) (e_iconst (v := 0) dX0_readClause_165 (by decide) (e_zreturn rfl dX0_readClause_166)) (e_iconst (v := 1) dX0_readClause_161 (by decide) (e_goto (tgt := 166) dX0_readClause_162 (by decide) (e_zreturn rfl dX0_readClause_166)))))))))))))) swn)))))) (e_aload_n dX0_readClause_140 rfl (e_aload_n dX0_readClause_141 rfl (e_callV cl_0 cal_X0_readRiver q_948 q_950 q_23 dX0_readClause_142 (e_istore dX0_readClause_145 (by decide) (e_iload dX0_readClause_147 (e_if_eq (tgt := 165) dX0_readClause_149 (by decide) (e_iconst (v := 0) dX0_readClause_165 (by decide) (e_zreturn rfl dX0_readClause_166)) (e_aload_n dX0_readClause_152 rfl (e_bipush (v := 59) dX0_readClause_153 (by decide) (e_callV cl_9 cal_X10_take q_952 q_953 q_954 dX0_readClause_155 (e_if_eq (tgt := 165) dX0_readClause_158 (by decide) (e_iconst (v := 0) dX0_readClause_165 (by decide) (e_zreturn rfl dX0_readClause_166)) (e_iconst (v := 1) dX0_readClause_161 (by decide) (e_goto (tgt := 166) dX0_readClause_162 (by decide) (e_zreturn rfl dX0_readClause_166))))))))))))))) (e_aload_n dX0_readClause_33 rfl (e_iconst (v := 3) dX0_readClause_34 (by decide) (e_callV cl_9 cal_X10_mark q_880 q_881 q_882 dX0_readClause_35 (e_zreturn rfl dX0_readClause_38))))))))))) (e_aload_n dX0_readClause_13 rfl (e_iconst (v := 1) dX0_readClause_14 (by decide) (e_callV cl_9 cal_X10_mark q_880 q_881 q_882 dX0_readClause_15 (e_zreturn rfl dX0_readClause_18)))))))))))
set_option maxRecDepth 100000 in
theorem V_X0_readClause_0 {G : GE} {d : Nat} {P : KI} {a : Nat → Nat → Int32} {r : Nat → Nat → Value} {N : Nat} {l0 : Nat} {l1 : Nat} {l2 : Int32} (hs : (tyK l1 = (0, 9) ∧ l1 < N ∧ Sp G d 0 0 MX10_readWord [.ref l1] (a, r, N) (RN fun a1 r2 n3 => Sp G d 0 0 MX0_kindOf [.ref l1] (a1, r2, n3) (RI fun v7 a4 r5 n6 => ((¬ v7 = 0 → ((60 ≤ l2 → (tyK l1 = (0, 9) ∧ l1 < n6 ∧ Sp G d 0 0 MX10_mark [.ref l1, .int 3] (a4, r5, n6) (RI fun v11 a8 r9 n10 => (bz v11 ∧ P v11 a8 r9 n10)))) ∧ (¬ 60 ≤ l2 → (tyK l0 = (0, 0) ∧ l0 < n6 ∧ Sp G d 0 0 MX0_isFull [.ref l0, .int v7] (a4, r5, n6) (RI fun v15 a12 r13 n14 => ((v15 = 0 → ((v7 = 1 → (tyK l0 = (0, 0) ∧ l0 < n14 ∧ Sp G d 0 0 MX0_readCorner [.ref l0, .ref l1] (a12, r13, n14) (RI fun v19 a16 r17 n18 => ((v19 = 0 → (bz 0 ∧ P 0 a16 r17 n18)) ∧ (¬ v19 = 0 → (tyK l1 = (0, 9) ∧ l1 < n18 ∧ Sp G d 0 0 MX10_take [.ref l1, .int 59] (a16, r17, n18) (RI fun v23 a20 r21 n22 => ((v23 = 0 → (bz 0 ∧ P 0 a20 r21 n22)) ∧ (¬ v23 = 0 → (bz 1 ∧ P 1 a20 r21 n22)))))))))) ∧ (¬ v7 = 1 → ((v7 = 2 → (tyK l0 = (0, 0) ∧ l0 < n14 ∧ Sp G d 0 0 MX0_readStreet [.ref l0, .ref l1] (a12, r13, n14) (RI fun v27 a24 r25 n26 => ((v27 = 0 → (bz 0 ∧ P 0 a24 r25 n26)) ∧ (¬ v27 = 0 → (tyK l1 = (0, 9) ∧ l1 < n26 ∧ Sp G d 0 0 MX10_take [.ref l1, .int 59] (a24, r25, n26) (RI fun v31 a28 r29 n30 => ((v31 = 0 → (bz 0 ∧ P 0 a28 r29 n30)) ∧ (¬ v31 = 0 → (bz 1 ∧ P 1 a28 r29 n30)))))))))) ∧ (¬ v7 = 2 → ((v7 = 3 → (tyK l0 = (0, 0) ∧ l0 < n14 ∧ Sp G d 0 0 MX0_readLikes [.ref l0, .ref l1] (a12, r13, n14) (RI fun v35 a32 r33 n34 => ((v35 = 0 → (bz 0 ∧ P 0 a32 r33 n34)) ∧ (¬ v35 = 0 → (tyK l1 = (0, 9) ∧ l1 < n34 ∧ Sp G d 0 0 MX10_take [.ref l1, .int 59] (a32, r33, n34) (RI fun v39 a36 r37 n38 => ((v39 = 0 → (bz 0 ∧ P 0 a36 r37 n38)) ∧ (¬ v39 = 0 → (bz 1 ∧ P 1 a36 r37 n38)))))))))) ∧ (¬ v7 = 3 → ((v7 = 4 → (tyK l0 = (0, 0) ∧ l0 < n14 ∧ Sp G d 0 0 MX0_readNever [.ref l0, .ref l1] (a12, r13, n14) (RI fun v43 a40 r41 n42 => ((v43 = 0 → (bz 0 ∧ P 0 a40 r41 n42)) ∧ (¬ v43 = 0 → (tyK l1 = (0, 9) ∧ l1 < n42 ∧ Sp G d 0 0 MX10_take [.ref l1, .int 59] (a40, r41, n42) (RI fun v47 a44 r45 n46 => ((v47 = 0 → (bz 0 ∧ P 0 a44 r45 n46)) ∧ (¬ v47 = 0 → (bz 1 ∧ P 1 a44 r45 n46)))))))))) ∧ (¬ v7 = 4 → ((v7 = 5 → (tyK l0 = (0, 0) ∧ l0 < n14 ∧ Sp G d 0 0 MX0_readGood [.ref l0, .ref l1] (a12, r13, n14) (RI fun v51 a48 r49 n50 => ((v51 = 0 → (bz 0 ∧ P 0 a48 r49 n50)) ∧ (¬ v51 = 0 → (tyK l1 = (0, 9) ∧ l1 < n50 ∧ Sp G d 0 0 MX10_take [.ref l1, .int 59] (a48, r49, n50) (RI fun v55 a52 r53 n54 => ((v55 = 0 → (bz 0 ∧ P 0 a52 r53 n54)) ∧ (¬ v55 = 0 → (bz 1 ∧ P 1 a52 r53 n54)))))))))) ∧ (¬ v7 = 5 → ((v7 = 6 → (tyK l0 = (0, 0) ∧ l0 < n14 ∧ Sp G d 0 0 MX0_readLane [.ref l0, .ref l1] (a12, r13, n14) (RI fun v59 a56 r57 n58 => ((v59 = 0 → (bz 0 ∧ P 0 a56 r57 n58)) ∧ (¬ v59 = 0 → (tyK l1 = (0, 9) ∧ l1 < n58 ∧ Sp G d 0 0 MX10_take [.ref l1, .int 59] (a56, r57, n58) (RI fun v63 a60 r61 n62 => ((v63 = 0 → (bz 0 ∧ P 0 a60 r61 n62)) ∧ (¬ v63 = 0 → (bz 1 ∧ P 1 a60 r61 n62)))))))))) ∧ (¬ v7 = 6 → (tyK l0 = (0, 0) ∧ l0 < n14 ∧ Sp G d 0 0 MX0_readRiver [.ref l0, .ref l1] (a12, r13, n14) (RI fun v67 a64 r65 n66 => ((v67 = 0 → (bz 0 ∧ P 0 a64 r65 n66)) ∧ (¬ v67 = 0 → (tyK l1 = (0, 9) ∧ l1 < n66 ∧ Sp G d 0 0 MX10_take [.ref l1, .int 59] (a64, r65, n66) (RI fun v71 a68 r69 n70 => ((v71 = 0 → (bz 0 ∧ P 0 a68 r69 n70)) ∧ (¬ v71 = 0 → (bz 1 ∧ P 1 a68 r69 n70)))))))))))))))))))))) ∧ (¬ v15 = 0 → (tyK l1 = (0, 9) ∧ l1 < n14 ∧ Sp G d 0 0 MX10_mark [.ref l1, .int 3] (a12, r13, n14) (RI fun v75 a72 r73 n74 => (bz v75 ∧ P v75 a72 r73 n74)))))))))) ∧ (v7 = 0 → (tyK l1 = (0, 9) ∧ l1 < n6 ∧ Sp G d 0 0 MX10_mark [.ref l1, .int 1] (a4, r5, n6) (RI fun v79 a76 r77 n78 => (bz v79 ∧ P v79 a76 r77 n78))))))))) : Sp G (d + 1) 0 0 MX0_readClause [.ref l0, .ref l1, .int l2] (a, r, N) (RI P) := Sp.mk (mc := 0) (ms := 0) [.ref l0, .ref l1, .int l2, .null, .null] rfl rfl rfl rfl (T_X0_readClause_0 (C := 0) (S := 0) _ _ _ hs)
theorem dX0_kindOf_0 : decode cX0_kindOf 0 = .ok (.aload_n 0, 1) := by decide +kernel
theorem dX0_kindOf_1 : decode cX0_kindOf 1 = .ok (.ldc 121, 2) := by decide +kernel
theorem dX0_kindOf_3 : decode cX0_kindOf 3 = .ok (.invokevirtual 123, 3) := by decide +kernel
theorem dX0_kindOf_6 : decode cX0_kindOf 6 = .ok (.ifCond .eq 5, 3) := by decide +kernel
theorem dX0_kindOf_9 : decode cX0_kindOf 9 = .ok (.iconst 1, 1) := by decide +kernel
theorem dX0_kindOf_10 : decode cX0_kindOf 10 = .ok (.ireturn, 1) := by decide +kernel
theorem dX0_kindOf_11 : decode cX0_kindOf 11 = .ok (.aload_n 0, 1) := by decide +kernel
theorem dX0_kindOf_12 : decode cX0_kindOf 12 = .ok (.ldc 127, 2) := by decide +kernel
theorem dX0_kindOf_14 : decode cX0_kindOf 14 = .ok (.invokevirtual 123, 3) := by decide +kernel
theorem dX0_kindOf_17 : decode cX0_kindOf 17 = .ok (.ifCond .eq 5, 3) := by decide +kernel
theorem dX0_kindOf_20 : decode cX0_kindOf 20 = .ok (.iconst 2, 1) := by decide +kernel
theorem dX0_kindOf_21 : decode cX0_kindOf 21 = .ok (.ireturn, 1) := by decide +kernel
theorem dX0_kindOf_22 : decode cX0_kindOf 22 = .ok (.aload_n 0, 1) := by decide +kernel
theorem dX0_kindOf_23 : decode cX0_kindOf 23 = .ok (.ldc 129, 2) := by decide +kernel
theorem dX0_kindOf_25 : decode cX0_kindOf 25 = .ok (.invokevirtual 123, 3) := by decide +kernel
theorem dX0_kindOf_28 : decode cX0_kindOf 28 = .ok (.ifCond .eq 5, 3) := by decide +kernel
theorem dX0_kindOf_31 : decode cX0_kindOf 31 = .ok (.iconst 3, 1) := by decide +kernel
theorem dX0_kindOf_32 : decode cX0_kindOf 32 = .ok (.ireturn, 1) := by decide +kernel
theorem dX0_kindOf_33 : decode cX0_kindOf 33 = .ok (.aload_n 0, 1) := by decide +kernel
theorem dX0_kindOf_34 : decode cX0_kindOf 34 = .ok (.ldc 131, 2) := by decide +kernel
theorem dX0_kindOf_36 : decode cX0_kindOf 36 = .ok (.invokevirtual 123, 3) := by decide +kernel
theorem dX0_kindOf_39 : decode cX0_kindOf 39 = .ok (.ifCond .eq 5, 3) := by decide +kernel
theorem dX0_kindOf_42 : decode cX0_kindOf 42 = .ok (.iconst 4, 1) := by decide +kernel
theorem dX0_kindOf_43 : decode cX0_kindOf 43 = .ok (.ireturn, 1) := by decide +kernel
theorem dX0_kindOf_44 : decode cX0_kindOf 44 = .ok (.aload_n 0, 1) := by decide +kernel
theorem dX0_kindOf_45 : decode cX0_kindOf 45 = .ok (.ldc 133, 2) := by decide +kernel
theorem dX0_kindOf_47 : decode cX0_kindOf 47 = .ok (.invokevirtual 123, 3) := by decide +kernel
theorem dX0_kindOf_50 : decode cX0_kindOf 50 = .ok (.ifCond .eq 5, 3) := by decide +kernel
theorem dX0_kindOf_53 : decode cX0_kindOf 53 = .ok (.iconst 5, 1) := by decide +kernel
theorem dX0_kindOf_54 : decode cX0_kindOf 54 = .ok (.ireturn, 1) := by decide +kernel
theorem dX0_kindOf_55 : decode cX0_kindOf 55 = .ok (.aload_n 0, 1) := by decide +kernel
theorem dX0_kindOf_56 : decode cX0_kindOf 56 = .ok (.ldc 135, 2) := by decide +kernel
theorem dX0_kindOf_58 : decode cX0_kindOf 58 = .ok (.invokevirtual 123, 3) := by decide +kernel
theorem dX0_kindOf_61 : decode cX0_kindOf 61 = .ok (.ifCond .eq 6, 3) := by decide +kernel
theorem dX0_kindOf_64 : decode cX0_kindOf 64 = .ok (.bipush 6, 2) := by decide +kernel
theorem dX0_kindOf_66 : decode cX0_kindOf 66 = .ok (.ireturn, 1) := by decide +kernel
theorem dX0_kindOf_67 : decode cX0_kindOf 67 = .ok (.aload_n 0, 1) := by decide +kernel
theorem dX0_kindOf_68 : decode cX0_kindOf 68 = .ok (.ldc 137, 2) := by decide +kernel
theorem dX0_kindOf_70 : decode cX0_kindOf 70 = .ok (.invokevirtual 123, 3) := by decide +kernel
theorem dX0_kindOf_73 : decode cX0_kindOf 73 = .ok (.ifCond .eq 8, 3) := by decide +kernel
theorem dX0_kindOf_76 : decode cX0_kindOf 76 = .ok (.bipush 7, 2) := by decide +kernel
theorem dX0_kindOf_78 : decode cX0_kindOf 78 = .ok (.goto 4, 3) := by decide +kernel
theorem dX0_kindOf_81 : decode cX0_kindOf 81 = .ok (.iconst 0, 1) := by decide +kernel
theorem dX0_kindOf_82 : decode cX0_kindOf 82 = .ok (.ireturn, 1) := by decide +kernel
set_option maxRecDepth 100000 in
theorem T_X0_kindOf_0 {G : GE} {d C S : Nat} {P : KI} : Snd G MX0_kindOf (d + 1) C S 0 (RI P) (s_aload 0 (s_ldcS 2 (s_callV G d MX10_wordIs 1 9 (s_if_eq (s_aload 0 (s_ldcS 3 (s_callV G d MX10_wordIs 1 9 (s_if_eq (s_aload 0 (s_ldcS 4 (s_callV G d MX10_wordIs 1 9 (s_if_eq (s_aload 0 (s_ldcS 5 (s_callV G d MX10_wordIs 1 9 (s_if_eq (s_aload 0 (s_ldcS 6 (s_callV G d MX10_wordIs 1 9 (s_if_eq (s_aload 0 (s_ldcS 7 (s_callV G d MX10_wordIs 1 9 (s_if_eq (s_aload 0 (s_ldcS 8 (s_callV G d MX10_wordIs 1 9 (s_if_eq (s_iconst 0 (s_ireturn P)) (s_iconst 7 (s_ireturn P)))))) (s_iconst 6 (s_ireturn P)))))) (s_iconst 5 (s_ireturn P)))))) (s_iconst 4 (s_ireturn P)))))) (s_iconst 3 (s_ireturn P)))))) (s_iconst 2 (s_ireturn P)))))) (s_iconst 1 (s_ireturn P)))))) := (e_aload_n dX0_kindOf_0 rfl (e_ldcS (text := "corner") (sn := 1) (by decide +kernel) (by decide) dX0_kindOf_1 (e_callV cl_9 cal_X10_wordIs q_822 q_823 q_824 dX0_kindOf_3 (e_if_eq (tgt := 11) dX0_kindOf_6 (by decide) (e_aload_n dX0_kindOf_11 rfl (e_ldcS (text := "street") (sn := 2) (by decide +kernel) (by decide) dX0_kindOf_12 (e_callV cl_9 cal_X10_wordIs q_822 q_823 q_824 dX0_kindOf_14 (e_if_eq (tgt := 22) dX0_kindOf_17 (by decide) (e_aload_n dX0_kindOf_22 rfl (e_ldcS (text := "likes") (sn := 3) (by decide +kernel) (by decide) dX0_kindOf_23 (e_callV cl_9 cal_X10_wordIs q_822 q_823 q_824 dX0_kindOf_25 (e_if_eq (tgt := 33) dX0_kindOf_28 (by decide) (e_aload_n dX0_kindOf_33 rfl (e_ldcS (text := "never") (sn := 4) (by decide +kernel) (by decide) dX0_kindOf_34 (e_callV cl_9 cal_X10_wordIs q_822 q_823 q_824 dX0_kindOf_36 (e_if_eq (tgt := 44) dX0_kindOf_39 (by decide) (e_aload_n dX0_kindOf_44 rfl (e_ldcS (text := "good") (sn := 5) (by decide +kernel) (by decide) dX0_kindOf_45 (e_callV cl_9 cal_X10_wordIs q_822 q_823 q_824 dX0_kindOf_47 (e_if_eq (tgt := 55) dX0_kindOf_50 (by decide) (e_aload_n dX0_kindOf_55 rfl (e_ldcS (text := "lane") (sn := 6) (by decide +kernel) (by decide) dX0_kindOf_56 (e_callV cl_9 cal_X10_wordIs q_822 q_823 q_824 dX0_kindOf_58 (e_if_eq (tgt := 67) dX0_kindOf_61 (by decide) (e_aload_n dX0_kindOf_67 rfl (e_ldcS (text := "river") (sn := 7) (by decide +kernel) (by decide) dX0_kindOf_68 (e_callV cl_9 cal_X10_wordIs q_822 q_823 q_824 dX0_kindOf_70 (e_if_eq (tgt := 81) dX0_kindOf_73 (by decide) (e_iconst (v := 0) dX0_kindOf_81 (by decide) (e_ireturn rfl dX0_kindOf_82)) (e_bipush (v := 7) dX0_kindOf_76 (by decide) (e_goto (tgt := 82) dX0_kindOf_78 (by decide) (e_ireturn rfl dX0_kindOf_82))))))) (e_bipush (v := 6) dX0_kindOf_64 (by decide) (e_ireturn rfl dX0_kindOf_66)))))) (e_iconst (v := 5) dX0_kindOf_53 (by decide) (e_ireturn rfl dX0_kindOf_54)))))) (e_iconst (v := 4) dX0_kindOf_42 (by decide) (e_ireturn rfl dX0_kindOf_43)))))) (e_iconst (v := 3) dX0_kindOf_31 (by decide) (e_ireturn rfl dX0_kindOf_32)))))) (e_iconst (v := 2) dX0_kindOf_20 (by decide) (e_ireturn rfl dX0_kindOf_21)))))) (e_iconst (v := 1) dX0_kindOf_9 (by decide) (e_ireturn rfl dX0_kindOf_10))))))
set_option maxRecDepth 100000 in
theorem V_X0_kindOf_0 {G : GE} {d : Nat} {P : KI} {a : Nat → Nat → Int32} {r : Nat → Nat → Value} {N : Nat} {l0 : Nat} (hs : (tyK l0 = (0, 9) ∧ l0 < N ∧ Sp G d 0 0 MX10_wordIs [.ref l0, .float 2] (a, r, N) (RI fun v4 a1 r2 n3 => ((v4 = 0 → (tyK l0 = (0, 9) ∧ l0 < n3 ∧ Sp G d 0 0 MX10_wordIs [.ref l0, .float 3] (a1, r2, n3) (RI fun v8 a5 r6 n7 => ((v8 = 0 → (tyK l0 = (0, 9) ∧ l0 < n7 ∧ Sp G d 0 0 MX10_wordIs [.ref l0, .float 4] (a5, r6, n7) (RI fun v12 a9 r10 n11 => ((v12 = 0 → (tyK l0 = (0, 9) ∧ l0 < n11 ∧ Sp G d 0 0 MX10_wordIs [.ref l0, .float 5] (a9, r10, n11) (RI fun v16 a13 r14 n15 => ((v16 = 0 → (tyK l0 = (0, 9) ∧ l0 < n15 ∧ Sp G d 0 0 MX10_wordIs [.ref l0, .float 6] (a13, r14, n15) (RI fun v20 a17 r18 n19 => ((v20 = 0 → (tyK l0 = (0, 9) ∧ l0 < n19 ∧ Sp G d 0 0 MX10_wordIs [.ref l0, .float 7] (a17, r18, n19) (RI fun v24 a21 r22 n23 => ((v24 = 0 → (tyK l0 = (0, 9) ∧ l0 < n23 ∧ Sp G d 0 0 MX10_wordIs [.ref l0, .float 8] (a21, r22, n23) (RI fun v28 a25 r26 n27 => ((v28 = 0 → P 0 a25 r26 n27) ∧ (¬ v28 = 0 → P 7 a25 r26 n27))))) ∧ (¬ v24 = 0 → P 6 a21 r22 n23))))) ∧ (¬ v20 = 0 → P 5 a17 r18 n19))))) ∧ (¬ v16 = 0 → P 4 a13 r14 n15))))) ∧ (¬ v12 = 0 → P 3 a9 r10 n11))))) ∧ (¬ v8 = 0 → P 2 a5 r6 n7))))) ∧ (¬ v4 = 0 → P 1 a1 r2 n3))))) : Sp G (d + 1) 0 0 MX0_kindOf [.ref l0] (a, r, N) (RI P) := Sp.mk (mc := 0) (ms := 0) [.ref l0] rfl rfl rfl rfl (T_X0_kindOf_0 (C := 0) (S := 0) _ _ _ hs)
theorem dX0_isFull_0 : decode cX0_isFull 0 = .ok (.iload_n 1, 1) := by decide +kernel
theorem dX0_isFull_1 : decode cX0_isFull 1 = .ok (.iconst 1, 1) := by decide +kernel
theorem dX0_isFull_2 : decode cX0_isFull 2 = .ok (.if_icmp .ne 12, 3) := by decide +kernel
theorem dX0_isFull_5 : decode cX0_isFull 5 = .ok (.aload_n 0, 1) := by decide +kernel
theorem dX0_isFull_6 : decode cX0_isFull 6 = .ok (.getfield 48, 3) := by decide +kernel
theorem dX0_isFull_9 : decode cX0_isFull 9 = .ok (.bipush 10, 2) := by decide +kernel
theorem dX0_isFull_11 : decode cX0_isFull 11 = .ok (.if_icmp .ge 31, 3) := by decide +kernel
theorem dX0_isFull_14 : decode cX0_isFull 14 = .ok (.iload_n 1, 1) := by decide +kernel
theorem dX0_isFull_15 : decode cX0_isFull 15 = .ok (.iconst 2, 1) := by decide +kernel
theorem dX0_isFull_16 : decode cX0_isFull 16 = .ok (.if_icmp .ne 12, 3) := by decide +kernel
theorem dX0_isFull_19 : decode cX0_isFull 19 = .ok (.aload_n 0, 1) := by decide +kernel
theorem dX0_isFull_20 : decode cX0_isFull 20 = .ok (.getfield 52, 3) := by decide +kernel
theorem dX0_isFull_23 : decode cX0_isFull 23 = .ok (.bipush 8, 2) := by decide +kernel
theorem dX0_isFull_25 : decode cX0_isFull 25 = .ok (.if_icmp .ge 17, 3) := by decide +kernel
theorem dX0_isFull_28 : decode cX0_isFull 28 = .ok (.iload_n 1, 1) := by decide +kernel
theorem dX0_isFull_29 : decode cX0_isFull 29 = .ok (.iconst 5, 1) := by decide +kernel
theorem dX0_isFull_30 : decode cX0_isFull 30 = .ok (.if_icmp .ne 16, 3) := by decide +kernel
theorem dX0_isFull_33 : decode cX0_isFull 33 = .ok (.aload_n 0, 1) := by decide +kernel
theorem dX0_isFull_34 : decode cX0_isFull 34 = .ok (.getfield 55, 3) := by decide +kernel
theorem dX0_isFull_37 : decode cX0_isFull 37 = .ok (.bipush 8, 2) := by decide +kernel
theorem dX0_isFull_39 : decode cX0_isFull 39 = .ok (.if_icmp .lt 7, 3) := by decide +kernel
theorem dX0_isFull_42 : decode cX0_isFull 42 = .ok (.iconst 1, 1) := by decide +kernel
theorem dX0_isFull_43 : decode cX0_isFull 43 = .ok (.goto 4, 3) := by decide +kernel
theorem dX0_isFull_46 : decode cX0_isFull 46 = .ok (.iconst 0, 1) := by decide +kernel
theorem dX0_isFull_47 : decode cX0_isFull 47 = .ok (.ireturn, 1) := by decide +kernel
set_option maxRecDepth 100000 in
theorem T_X0_isFull_0 {G : GE} {d C S : Nat} {P : KI} : Snd G MX0_isFull d C S 0 (RI P) (s_iload 1 (s_iconst 1 (s_ic_ne (fun L st h => E G MX0_isFull d C S 14 (msk [true, true] L) st h (RI P)) (s_aload 0 (s_getI 0 0 (s_iconst 10 (s_ic_ge (s_iconst 1 (s_zreturn P)) (fun L st h => E G MX0_isFull d C S 14 (msk [true, true] L) st h (RI P))))))))) := (e_iload_n dX0_isFull_0 rfl (e_iconst (v := 1) dX0_isFull_1 (by decide) (e_ic_ne (tgt := 14) dX0_isFull_2 (by decide) (e_msk [true, true]) (e_aload_n dX0_isFull_5 rfl (e_getI rfl cl_0 (by decide) rfl q_187 dX0_isFull_6 (e_bipush (v := 10) dX0_isFull_9 (by decide) (e_ic_ge (tgt := 42) dX0_isFull_11 (by decide) (e_iconst (v := 1) dX0_isFull_42 (by decide) (e_goto (tgt := 47) dX0_isFull_43 (by decide) (e_zreturn rfl dX0_isFull_47))) (e_msk [true, true]))))))))
set_option maxRecDepth 100000 in
theorem V_X0_isFull_0 {G : GE} {d : Nat} {P : KI} {a : Nat → Nat → Int32} {r : Nat → Nat → Value} {N : Nat} {l0 : Nat} {l1 : Int32} (hs : ((¬ l1 = 1 → E G MX0_isFull d 0 0 14 [.ref l0, .int l1] [] (a, r, N) (RI P)) ∧ (l1 = 1 → (tyK l0 = (0, 0) ∧ l0 < N ∧ ((10 ≤ (a l0 0) → (bz 1 ∧ P 1 a r N)) ∧ (¬ 10 ≤ (a l0 0) → E G MX0_isFull d 0 0 14 [.ref l0, .int l1] [] (a, r, N) (RI P))))))) : Sp G d 0 0 MX0_isFull [.ref l0, .int l1] (a, r, N) (RI P) := Sp.mk (mc := 0) (ms := 0) [.ref l0, .int l1] rfl rfl rfl rfl (T_X0_isFull_0 (C := 0) (S := 0) _ _ _ hs)
set_option maxRecDepth 100000 in
theorem T_X0_isFull_14 {G : GE} {d C S : Nat} {P : KI} : Snd G MX0_isFull d C S 14 (RI P) (s_iload 1 (s_iconst 2 (s_ic_ne (s_iload 1 (s_iconst 5 (s_ic_ne (s_iconst 0 (s_zreturn P)) (s_aload 0 (s_getI 0 2 (s_iconst 8 (s_ic_lt (s_iconst 0 (s_zreturn P)) (s_iconst 1 (s_zreturn P))))))))) (s_aload 0 (s_getI 0 1 (s_iconst 8 (s_ic_ge (s_iconst 1 (s_zreturn P)) (s_iload 1 (s_iconst 5 (s_ic_ne (s_iconst 0 (s_zreturn P)) (s_aload 0 (s_getI 0 2 (s_iconst 8 (s_ic_lt (s_iconst 0 (s_zreturn P)) (s_iconst 1 (s_zreturn P)))))))))))))))) := (e_iload_n dX0_isFull_14 rfl (e_iconst (v := 2) dX0_isFull_15 (by decide) (e_ic_ne (tgt := 28) dX0_isFull_16 (by decide) (e_iload_n dX0_isFull_28 rfl (e_iconst (v := 5) dX0_isFull_29 (by decide) (e_ic_ne (tgt := 46) dX0_isFull_30 (by decide) (e_iconst (v := 0) dX0_isFull_46 (by decide) (e_zreturn rfl dX0_isFull_47)) (e_aload_n dX0_isFull_33 rfl (e_getI rfl cl_0 (by decide) rfl q_194 dX0_isFull_34 (e_bipush (v := 8) dX0_isFull_37 (by decide) (e_ic_lt (tgt := 46) dX0_isFull_39 (by decide) (e_iconst (v := 0) dX0_isFull_46 (by decide) (e_zreturn rfl dX0_isFull_47)) (e_iconst (v := 1) dX0_isFull_42 (by decide) (e_goto (tgt := 47) dX0_isFull_43 (by decide) (e_zreturn rfl dX0_isFull_47)))))))))) (e_aload_n dX0_isFull_19 rfl (e_getI rfl cl_0 (by decide) rfl q_190 dX0_isFull_20 (e_bipush (v := 8) dX0_isFull_23 (by decide) (e_ic_ge (tgt := 42) dX0_isFull_25 (by decide) (e_iconst (v := 1) dX0_isFull_42 (by decide) (e_goto (tgt := 47) dX0_isFull_43 (by decide) (e_zreturn rfl dX0_isFull_47))) (e_iload_n dX0_isFull_28 rfl (e_iconst (v := 5) dX0_isFull_29 (by decide) (e_ic_ne (tgt := 46) dX0_isFull_30 (by decide) (e_iconst (v := 0) dX0_isFull_46 (by decide) (e_zreturn rfl dX0_isFull_47)) (e_aload_n dX0_isFull_33 rfl (e_getI rfl cl_0 (by decide) rfl q_194 dX0_isFull_34 (e_bipush (v := 8) dX0_isFull_37 (by decide) (e_ic_lt (tgt := 46) dX0_isFull_39 (by decide) (e_iconst (v := 0) dX0_isFull_46 (by decide) (e_zreturn rfl dX0_isFull_47)) (e_iconst (v := 1) dX0_isFull_42 (by decide) (e_goto (tgt := 47) dX0_isFull_43 (by decide) (e_zreturn rfl dX0_isFull_47)))))))))))))))))
set_option maxRecDepth 100000 in
theorem V_X0_isFull_14 {G : GE} {d C S : Nat} {P : KI} {a : Nat → Nat → Int32} {r : Nat → Nat → Value} {N : Nat} {l0 : Nat} {l1 : Int32} (hs : ((¬ l1 = 2 → ((¬ l1 = 5 → (bz 0 ∧ P 0 a r N)) ∧ (l1 = 5 → (tyK l0 = (0, 0) ∧ l0 < N ∧ (((a l0 2) < 8 → (bz 0 ∧ P 0 a r N)) ∧ (¬ (a l0 2) < 8 → (bz 1 ∧ P 1 a r N))))))) ∧ (l1 = 2 → (tyK l0 = (0, 0) ∧ l0 < N ∧ ((8 ≤ (a l0 1) → (bz 1 ∧ P 1 a r N)) ∧ (¬ 8 ≤ (a l0 1) → ((¬ l1 = 5 → (bz 0 ∧ P 0 a r N)) ∧ (l1 = 5 → (tyK l0 = (0, 0) ∧ l0 < N ∧ (((a l0 2) < 8 → (bz 0 ∧ P 0 a r N)) ∧ (¬ (a l0 2) < 8 → (bz 1 ∧ P 1 a r N)))))))))))) : E G MX0_isFull d C S 14 [.ref l0, .int l1] [] (a, r, N) (RI P) := T_X0_isFull_14 _ _ _ hs
theorem dX0_readCorner_0 : decode cX0_readCorner 0 = .ok (.aload_n 1, 1) := by decide +kernel
theorem dX0_readCorner_1 : decode cX0_readCorner 1 = .ok (.iconst 0, 1) := by decide +kernel
theorem dX0_readCorner_2 : decode cX0_readCorner 2 = .ok (.bipush 60, 2) := by decide +kernel
theorem dX0_readCorner_4 : decode cX0_readCorner 4 = .ok (.invokevirtual 138, 3) := by decide +kernel
theorem dX0_readCorner_7 : decode cX0_readCorner 7 = .ok (.istore_n 2, 1) := by decide +kernel
theorem dX0_readCorner_8 : decode cX0_readCorner 8 = .ok (.iload_n 2, 1) := by decide +kernel
theorem dX0_readCorner_9 : decode cX0_readCorner 9 = .ok (.iconst (-1), 1) := by decide +kernel
theorem dX0_readCorner_10 : decode cX0_readCorner 10 = .ok (.if_icmp .ne 7, 3) := by decide +kernel
theorem dX0_readCorner_13 : decode cX0_readCorner 13 = .ok (.iconst (-1), 1) := by decide +kernel
theorem dX0_readCorner_14 : decode cX0_readCorner 14 = .ok (.goto 10, 3) := by decide +kernel
theorem dX0_readCorner_17 : decode cX0_readCorner 17 = .ok (.aload_n 1, 1) := by decide +kernel
theorem dX0_readCorner_18 : decode cX0_readCorner 18 = .ok (.iconst 0, 1) := by decide +kernel
theorem dX0_readCorner_19 : decode cX0_readCorner 19 = .ok (.bipush 60, 2) := by decide +kernel
theorem dX0_readCorner_21 : decode cX0_readCorner 21 = .ok (.invokevirtual 138, 3) := by decide +kernel
theorem dX0_readCorner_24 : decode cX0_readCorner 24 = .ok (.istore_n 3, 1) := by decide +kernel
theorem dX0_readCorner_25 : decode cX0_readCorner 25 = .ok (.iload_n 3, 1) := by decide +kernel
theorem dX0_readCorner_26 : decode cX0_readCorner 26 = .ok (.iconst (-1), 1) := by decide +kernel
theorem dX0_readCorner_27 : decode cX0_readCorner 27 = .ok (.if_icmp .ne 5, 3) := by decide +kernel
theorem dX0_readCorner_30 : decode cX0_readCorner 30 = .ok (.iconst 0, 1) := by decide +kernel
theorem dX0_readCorner_31 : decode cX0_readCorner 31 = .ok (.ireturn, 1) := by decide +kernel
theorem dX0_readCorner_32 : decode cX0_readCorner 32 = .ok (.aload_n 0, 1) := by decide +kernel
theorem dX0_readCorner_33 : decode cX0_readCorner 33 = .ok (.iload_n 2, 1) := by decide +kernel
theorem dX0_readCorner_34 : decode cX0_readCorner 34 = .ok (.iload_n 3, 1) := by decide +kernel
theorem dX0_readCorner_35 : decode cX0_readCorner 35 = .ok (.invokevirtual 142, 3) := by decide +kernel
theorem dX0_readCorner_38 : decode cX0_readCorner 38 = .ok (.iconst 1, 1) := by decide +kernel
theorem dX0_readCorner_39 : decode cX0_readCorner 39 = .ok (.ireturn, 1) := by decide +kernel
set_option maxRecDepth 100000 in
theorem T_X0_readCorner_0 {G : GE} {d C S : Nat} {P : KI} : Snd G MX0_readCorner (d + 1) C S 0 (RI P) (s_aload 1 (s_iconst 0 (s_iconst 60 (s_callV G d MX10_readNumber 2 9 (s_istore 2 (s_iload 2 (s_iconst (-1) (s_ic_ne (s_aload 1 (s_iconst 0 (s_iconst 60 (s_callV G d MX10_readNumber 2 9 (s_istore 3 (s_iload 3 (s_iconst (-1) (s_ic_ne (s_aload 0 (s_iload 2 (s_iload 3 (s_callV G d MX0_addCorner 2 0 (s_iconst 1 (s_zreturn P)))))) (s_iconst 0 (s_zreturn P)))))))))) (s_iconst (-1) (s_istore 3 (s_iload 3 (s_iconst (-1) (s_ic_ne (s_aload 0 (s_iload 2 (s_iload 3 (s_callV G d MX0_addCorner 2 0 (s_iconst 1 (s_zreturn P)))))) (s_iconst 0 (s_zreturn P))))))))))))))) := (e_aload_n dX0_readCorner_0 rfl (e_iconst (v := 0) dX0_readCorner_1 (by decide) (e_bipush (v := 60) dX0_readCorner_2 (by decide) (e_callV cl_9 cal_X10_readNumber q_892 q_893 q_894 dX0_readCorner_4 (e_istore_n dX0_readCorner_7 rfl (by decide) (e_iload_n dX0_readCorner_8 rfl (e_iconst (v := (-1)) dX0_readCorner_9 (by decide) (e_ic_ne (tgt := 17) dX0_readCorner_10 (by decide) (e_aload_n dX0_readCorner_17 rfl (e_iconst (v := 0) dX0_readCorner_18 (by decide) (e_bipush (v := 60) dX0_readCorner_19 (by decide) (e_callV cl_9 cal_X10_readNumber q_892 q_893 q_894 dX0_readCorner_21 (e_istore_n dX0_readCorner_24 rfl (by decide) (e_iload_n dX0_readCorner_25 rfl (e_iconst (v := (-1)) dX0_readCorner_26 (by decide) (e_ic_ne (tgt := 32) dX0_readCorner_27 (by decide) (e_aload_n dX0_readCorner_32 rfl (e_iload_n dX0_readCorner_33 rfl (e_iload_n dX0_readCorner_34 rfl (e_callV cl_0 cal_X0_addCorner q_901 q_902 q_903 dX0_readCorner_35 (e_iconst (v := 1) dX0_readCorner_38 (by decide) (e_zreturn rfl dX0_readCorner_39)))))) (e_iconst (v := 0) dX0_readCorner_30 (by decide) (e_zreturn rfl dX0_readCorner_31)))))))))) (e_iconst (v := (-1)) dX0_readCorner_13 (by decide) (e_goto (tgt := 24) dX0_readCorner_14 (by decide) (e_istore_n dX0_readCorner_24 rfl (by decide) (e_iload_n dX0_readCorner_25 rfl (e_iconst (v := (-1)) dX0_readCorner_26 (by decide) (e_ic_ne (tgt := 32) dX0_readCorner_27 (by decide) (e_aload_n dX0_readCorner_32 rfl (e_iload_n dX0_readCorner_33 rfl (e_iload_n dX0_readCorner_34 rfl (e_callV cl_0 cal_X0_addCorner q_901 q_902 q_903 dX0_readCorner_35 (e_iconst (v := 1) dX0_readCorner_38 (by decide) (e_zreturn rfl dX0_readCorner_39)))))) (e_iconst (v := 0) dX0_readCorner_30 (by decide) (e_zreturn rfl dX0_readCorner_31))))))))))))))))
set_option maxRecDepth 100000 in
theorem V_X0_readCorner_0 {G : GE} {d : Nat} {P : KI} {a : Nat → Nat → Int32} {r : Nat → Nat → Value} {N : Nat} {l0 : Nat} {l1 : Nat} (hs : (tyK l1 = (0, 9) ∧ l1 < N ∧ Sp G d 0 0 MX10_readNumber [.ref l1, .int 0, .int 60] (a, r, N) (RI fun v4 a1 r2 n3 => ((¬ v4 = (-1) → (tyK l1 = (0, 9) ∧ l1 < n3 ∧ Sp G d 0 0 MX10_readNumber [.ref l1, .int 0, .int 60] (a1, r2, n3) (RI fun v8 a5 r6 n7 => ((¬ v8 = (-1) → (tyK l0 = (0, 0) ∧ l0 < n7 ∧ Sp G d 0 0 MX0_addCorner [.ref l0, .int v4, .int v8] (a5, r6, n7) (RN fun a9 r10 n11 => (bz 1 ∧ P 1 a9 r10 n11)))) ∧ (v8 = (-1) → (bz 0 ∧ P 0 a5 r6 n7)))))) ∧ (v4 = (-1) → ((¬ ((-1) : Int32) = (-1) → (tyK l0 = (0, 0) ∧ l0 < n3 ∧ Sp G d 0 0 MX0_addCorner [.ref l0, .int v4, .int (-1)] (a1, r2, n3) (RN fun a12 r13 n14 => (bz 1 ∧ P 1 a12 r13 n14)))) ∧ (((-1) : Int32) = (-1) → (bz 0 ∧ P 0 a1 r2 n3)))))))) : Sp G (d + 1) 0 0 MX0_readCorner [.ref l0, .ref l1] (a, r, N) (RI P) := Sp.mk (mc := 0) (ms := 0) [.ref l0, .ref l1, .null, .null] rfl rfl rfl rfl (T_X0_readCorner_0 (C := 0) (S := 0) _ _ _ hs)
theorem dX0_readStreet_0 : decode cX0_readStreet 0 = .ok (.aload_n 1, 1) := by decide +kernel
theorem dX0_readStreet_1 : decode cX0_readStreet 1 = .ok (.iconst 0, 1) := by decide +kernel
theorem dX0_readStreet_2 : decode cX0_readStreet 2 = .ok (.aload_n 0, 1) := by decide +kernel
theorem dX0_readStreet_3 : decode cX0_readStreet 3 = .ok (.getfield 48, 3) := by decide +kernel
theorem dX0_readStreet_6 : decode cX0_readStreet 6 = .ok (.iconst 1, 1) := by decide +kernel
theorem dX0_readStreet_7 : decode cX0_readStreet 7 = .ok (.isub, 1) := by decide +kernel
theorem dX0_readStreet_8 : decode cX0_readStreet 8 = .ok (.invokevirtual 138, 3) := by decide +kernel
theorem dX0_readStreet_11 : decode cX0_readStreet 11 = .ok (.istore_n 2, 1) := by decide +kernel
theorem dX0_readStreet_12 : decode cX0_readStreet 12 = .ok (.iload_n 2, 1) := by decide +kernel
theorem dX0_readStreet_13 : decode cX0_readStreet 13 = .ok (.iconst (-1), 1) := by decide +kernel
theorem dX0_readStreet_14 : decode cX0_readStreet 14 = .ok (.if_icmp .ne 7, 3) := by decide +kernel
theorem dX0_readStreet_17 : decode cX0_readStreet 17 = .ok (.iconst (-1), 1) := by decide +kernel
theorem dX0_readStreet_18 : decode cX0_readStreet 18 = .ok (.goto 12, 3) := by decide +kernel
theorem dX0_readStreet_21 : decode cX0_readStreet 21 = .ok (.aload_n 1, 1) := by decide +kernel
theorem dX0_readStreet_22 : decode cX0_readStreet 22 = .ok (.iload_n 2, 1) := by decide +kernel
theorem dX0_readStreet_23 : decode cX0_readStreet 23 = .ok (.aload_n 0, 1) := by decide +kernel
theorem dX0_readStreet_24 : decode cX0_readStreet 24 = .ok (.getfield 48, 3) := by decide +kernel
theorem dX0_readStreet_27 : decode cX0_readStreet 27 = .ok (.invokestatic 146, 3) := by decide +kernel
theorem dX0_readStreet_30 : decode cX0_readStreet 30 = .ok (.istore_n 3, 1) := by decide +kernel
theorem dX0_readStreet_31 : decode cX0_readStreet 31 = .ok (.iload_n 3, 1) := by decide +kernel
theorem dX0_readStreet_32 : decode cX0_readStreet 32 = .ok (.iconst (-1), 1) := by decide +kernel
theorem dX0_readStreet_33 : decode cX0_readStreet 33 = .ok (.if_icmp .ne 7, 3) := by decide +kernel
theorem dX0_readStreet_36 : decode cX0_readStreet 36 = .ok (.iconst (-1), 1) := by decide +kernel
theorem dX0_readStreet_37 : decode cX0_readStreet 37 = .ok (.goto 10, 3) := by decide +kernel
theorem dX0_readStreet_40 : decode cX0_readStreet 40 = .ok (.aload_n 1, 1) := by decide +kernel
theorem dX0_readStreet_41 : decode cX0_readStreet 41 = .ok (.iconst 1, 1) := by decide +kernel
theorem dX0_readStreet_42 : decode cX0_readStreet 42 = .ok (.bipush 20, 2) := by decide +kernel
theorem dX0_readStreet_44 : decode cX0_readStreet 44 = .ok (.invokevirtual 138, 3) := by decide +kernel
theorem dX0_readStreet_47 : decode cX0_readStreet 47 = .ok (.istore 4, 2) := by decide +kernel
theorem dX0_readStreet_49 : decode cX0_readStreet 49 = .ok (.iload 4, 2) := by decide +kernel
theorem dX0_readStreet_51 : decode cX0_readStreet 51 = .ok (.iconst (-1), 1) := by decide +kernel
theorem dX0_readStreet_52 : decode cX0_readStreet 52 = .ok (.if_icmp .ne 7, 3) := by decide +kernel
theorem dX0_readStreet_55 : decode cX0_readStreet 55 = .ok (.iconst (-1), 1) := by decide +kernel
theorem dX0_readStreet_56 : decode cX0_readStreet 56 = .ok (.goto 10, 3) := by decide +kernel
theorem dX0_readStreet_59 : decode cX0_readStreet 59 = .ok (.aload_n 1, 1) := by decide +kernel
theorem dX0_readStreet_60 : decode cX0_readStreet 60 = .ok (.iconst 0, 1) := by decide +kernel
theorem dX0_readStreet_61 : decode cX0_readStreet 61 = .ok (.bipush 20, 2) := by decide +kernel
theorem dX0_readStreet_63 : decode cX0_readStreet 63 = .ok (.invokevirtual 138, 3) := by decide +kernel
theorem dX0_readStreet_66 : decode cX0_readStreet 66 = .ok (.istore 5, 2) := by decide +kernel
theorem dX0_readStreet_68 : decode cX0_readStreet 68 = .ok (.iload 5, 2) := by decide +kernel
theorem dX0_readStreet_70 : decode cX0_readStreet 70 = .ok (.iconst (-1), 1) := by decide +kernel
theorem dX0_readStreet_71 : decode cX0_readStreet 71 = .ok (.if_icmp .ne 5, 3) := by decide +kernel
theorem dX0_readStreet_74 : decode cX0_readStreet 74 = .ok (.iconst 0, 1) := by decide +kernel
theorem dX0_readStreet_75 : decode cX0_readStreet 75 = .ok (.ireturn, 1) := by decide +kernel
theorem dX0_readStreet_76 : decode cX0_readStreet 76 = .ok (.aload_n 0, 1) := by decide +kernel
theorem dX0_readStreet_77 : decode cX0_readStreet 77 = .ok (.iload_n 2, 1) := by decide +kernel
theorem dX0_readStreet_78 : decode cX0_readStreet 78 = .ok (.iload_n 3, 1) := by decide +kernel
theorem dX0_readStreet_79 : decode cX0_readStreet 79 = .ok (.iload 4, 2) := by decide +kernel
theorem dX0_readStreet_81 : decode cX0_readStreet 81 = .ok (.iload 5, 2) := by decide +kernel
theorem dX0_readStreet_83 : decode cX0_readStreet 83 = .ok (.invokevirtual 150, 3) := by decide +kernel
theorem dX0_readStreet_86 : decode cX0_readStreet 86 = .ok (.iconst 1, 1) := by decide +kernel
theorem dX0_readStreet_87 : decode cX0_readStreet 87 = .ok (.ireturn, 1) := by decide +kernel
set_option maxRecDepth 100000 in
theorem T_X0_readStreet_0 {G : GE} {d C S : Nat} {P : KI} : Snd G MX0_readStreet (d + 1) C S 0 (RI P) (s_aload 1 (s_iconst 0 (s_aload 0 (s_getI 0 0 (s_iconst 1 (s_isub (s_callV G d MX10_readNumber 2 9 (s_istore 2 (s_iload 2 (s_iconst (-1) (s_ic_ne (s_aload 1 (s_iload 2 (s_aload 0 (s_getI 0 0 (s_call G d MX0_another 3 (s_istore 3 (s_iload 3 (s_iconst (-1) (s_ic_ne (s_aload 1 (s_iconst 1 (s_iconst 20 (s_callV G d MX10_readNumber 2 9 (fun L st h => E G MX0_readStreet (d + 1) C S 47 (msk [true, true, true, true, false, false] L) st h (RI P)))))) (s_iconst (-1) (fun L st h => E G MX0_readStreet (d + 1) C S 47 (msk [true, true, true, true, false, false] L) st h (RI P)))))))))))) (s_iconst (-1) (s_istore 3 (s_iload 3 (s_iconst (-1) (s_ic_ne (s_aload 1 (s_iconst 1 (s_iconst 20 (s_callV G d MX10_readNumber 2 9 (fun L st h => E G MX0_readStreet (d + 1) C S 47 (msk [true, true, true, true, false, false] L) st h (RI P)))))) (s_iconst (-1) (fun L st h => E G MX0_readStreet (d + 1) C S 47 (msk [true, true, true, true, false, false] L) st h (RI P))))))))))))))))))) := (e_aload_n dX0_readStreet_0 rfl (e_iconst (v := 0) dX0_readStreet_1 (by decide) (e_aload_n dX0_readStreet_2 rfl (e_getI rfl cl_0 (by decide) rfl q_187 dX0_readStreet_3 (e_iconst (v := 1) dX0_readStreet_6 (by decide) (e_isub dX0_readStreet_7 (e_callV cl_9 cal_X10_readNumber q_892 q_893 q_894 dX0_readStreet_8 (e_istore_n dX0_readStreet_11 rfl (by decide) (e_iload_n dX0_readStreet_12 rfl (e_iconst (v := (-1)) dX0_readStreet_13 (by decide) (e_ic_ne (tgt := 21) dX0_readStreet_14 (by decide) (e_aload_n dX0_readStreet_21 rfl (e_iload_n dX0_readStreet_22 rfl (e_aload_n dX0_readStreet_23 rfl (e_getI rfl cl_0 (by decide) rfl q_187 dX0_readStreet_24 (e_callS cal_X0_another q_910 q_911 dX0_readStreet_27 (e_istore_n dX0_readStreet_30 rfl (by decide) (e_iload_n dX0_readStreet_31 rfl (e_iconst (v := (-1)) dX0_readStreet_32 (by decide) (e_ic_ne (tgt := 40) dX0_readStreet_33 (by decide) (e_aload_n dX0_readStreet_40 rfl (e_iconst (v := 1) dX0_readStreet_41 (by decide) (e_bipush (v := 20) dX0_readStreet_42 (by decide) (e_callV cl_9 cal_X10_readNumber q_892 q_893 q_894 dX0_readStreet_44 (e_msk [true, true, true, true, false, false]))))) (e_iconst (v := (-1)) dX0_readStreet_36 (by decide) (e_goto (tgt := 47) dX0_readStreet_37 (by decide) (e_msk [true, true, true, true, false, false])))))))))))) (e_iconst (v := (-1)) dX0_readStreet_17 (by decide) (e_goto (tgt := 30) dX0_readStreet_18 (by decide) (e_istore_n dX0_readStreet_30 rfl (by decide) (e_iload_n dX0_readStreet_31 rfl (e_iconst (v := (-1)) dX0_readStreet_32 (by decide) (e_ic_ne (tgt := 40) dX0_readStreet_33 (by decide) (e_aload_n dX0_readStreet_40 rfl (e_iconst (v := 1) dX0_readStreet_41 (by decide) (e_bipush (v := 20) dX0_readStreet_42 (by decide) (e_callV cl_9 cal_X10_readNumber q_892 q_893 q_894 dX0_readStreet_44 (e_msk [true, true, true, true, false, false]))))) (e_iconst (v := (-1)) dX0_readStreet_36 (by decide) (e_goto (tgt := 47) dX0_readStreet_37 (by decide) (e_msk [true, true, true, true, false, false]))))))))))))))))))))
set_option maxRecDepth 100000 in
theorem V_X0_readStreet_0 {G : GE} {d : Nat} {P : KI} {a : Nat → Nat → Int32} {r : Nat → Nat → Value} {N : Nat} {l0 : Nat} {l1 : Nat} (hs : (tyK l0 = (0, 0) ∧ l0 < N ∧ (tyK l1 = (0, 9) ∧ l1 < N ∧ Sp G d 0 0 MX10_readNumber [.ref l1, .int 0, .int ((a l0 0) - 1)] (a, r, N) (RI fun v4 a1 r2 n3 => ((¬ v4 = (-1) → (tyK l0 = (0, 0) ∧ l0 < n3 ∧ Sp G d 0 0 MX0_another [.ref l1, .int v4, .int (a1 l0 0)] (a1, r2, n3) (RI fun v8 a5 r6 n7 => ((¬ v8 = (-1) → (tyK l1 = (0, 9) ∧ l1 < n7 ∧ Sp G d 0 0 MX10_readNumber [.ref l1, .int 1, .int 20] (a5, r6, n7) (RI fun v12 a9 r10 n11 => E G MX0_readStreet (d + 1) 0 0 47 [.ref l0, .ref l1, .int v4, .int v8, .null, .null] [.int v12] (a9, r10, n11) (RI P)))) ∧ (v8 = (-1) → E G MX0_readStreet (d + 1) 0 0 47 [.ref l0, .ref l1, .int v4, .int v8, .null, .null] [.int (-1)] (a5, r6, n7) (RI P)))))) ∧ (v4 = (-1) → ((¬ ((-1) : Int32) = (-1) → (tyK l1 = (0, 9) ∧ l1 < n3 ∧ Sp G d 0 0 MX10_readNumber [.ref l1, .int 1, .int 20] (a1, r2, n3) (RI fun v16 a13 r14 n15 => E G MX0_readStreet (d + 1) 0 0 47 [.ref l0, .ref l1, .int v4, .int (-1), .null, .null] [.int v16] (a13, r14, n15) (RI P)))) ∧ (((-1) : Int32) = (-1) → E G MX0_readStreet (d + 1) 0 0 47 [.ref l0, .ref l1, .int v4, .int (-1), .null, .null] [.int (-1)] (a1, r2, n3) (RI P))))))))) : Sp G (d + 1) 0 0 MX0_readStreet [.ref l0, .ref l1] (a, r, N) (RI P) := Sp.mk (mc := 0) (ms := 0) [.ref l0, .ref l1, .null, .null, .null, .null] rfl rfl rfl rfl (T_X0_readStreet_0 (C := 0) (S := 0) _ _ _ hs)
set_option maxRecDepth 100000 in
theorem T_X0_readStreet_47 {G : GE} {d C S : Nat} {P : KI} : Snd G MX0_readStreet (d + 1) C S 47 (RI P) (s_istore 4 (s_iload 4 (s_iconst (-1) (s_ic_ne (s_aload 1 (s_iconst 0 (s_iconst 20 (s_callV G d MX10_readNumber 2 9 (s_istore 5 (s_iload 5 (s_iconst (-1) (s_ic_ne (s_aload 0 (s_iload 2 (s_iload 3 (s_iload 4 (s_iload 5 (s_callV G d MX0_addStreet 4 0 (s_iconst 1 (s_zreturn P)))))))) (s_iconst 0 (s_zreturn P)))))))))) (s_iconst (-1) (s_istore 5 (s_iload 5 (s_iconst (-1) (s_ic_ne (s_aload 0 (s_iload 2 (s_iload 3 (s_iload 4 (s_iload 5 (s_callV G d MX0_addStreet 4 0 (s_iconst 1 (s_zreturn P)))))))) (s_iconst 0 (s_zreturn P))))))))))) := (e_istore dX0_readStreet_47 (by decide) (e_iload dX0_readStreet_49 (e_iconst (v := (-1)) dX0_readStreet_51 (by decide) (e_ic_ne (tgt := 59) dX0_readStreet_52 (by decide) (e_aload_n dX0_readStreet_59 rfl (e_iconst (v := 0) dX0_readStreet_60 (by decide) (e_bipush (v := 20) dX0_readStreet_61 (by decide) (e_callV cl_9 cal_X10_readNumber q_892 q_893 q_894 dX0_readStreet_63 (e_istore dX0_readStreet_66 (by decide) (e_iload dX0_readStreet_68 (e_iconst (v := (-1)) dX0_readStreet_70 (by decide) (e_ic_ne (tgt := 76) dX0_readStreet_71 (by decide) (e_aload_n dX0_readStreet_76 rfl (e_iload_n dX0_readStreet_77 rfl (e_iload_n dX0_readStreet_78 rfl (e_iload dX0_readStreet_79 (e_iload dX0_readStreet_81 (e_callV cl_0 cal_X0_addStreet q_913 q_914 q_915 dX0_readStreet_83 (e_iconst (v := 1) dX0_readStreet_86 (by decide) (e_zreturn rfl dX0_readStreet_87)))))))) (e_iconst (v := 0) dX0_readStreet_74 (by decide) (e_zreturn rfl dX0_readStreet_75)))))))))) (e_iconst (v := (-1)) dX0_readStreet_55 (by decide) (e_goto (tgt := 66) dX0_readStreet_56 (by decide) (e_istore dX0_readStreet_66 (by decide) (e_iload dX0_readStreet_68 (e_iconst (v := (-1)) dX0_readStreet_70 (by decide) (e_ic_ne (tgt := 76) dX0_readStreet_71 (by decide) (e_aload_n dX0_readStreet_76 rfl (e_iload_n dX0_readStreet_77 rfl (e_iload_n dX0_readStreet_78 rfl (e_iload dX0_readStreet_79 (e_iload dX0_readStreet_81 (e_callV cl_0 cal_X0_addStreet q_913 q_914 q_915 dX0_readStreet_83 (e_iconst (v := 1) dX0_readStreet_86 (by decide) (e_zreturn rfl dX0_readStreet_87)))))))) (e_iconst (v := 0) dX0_readStreet_74 (by decide) (e_zreturn rfl dX0_readStreet_75))))))))))))
set_option maxRecDepth 100000 in
theorem V_X0_readStreet_47 {G : GE} {d C S : Nat} {P : KI} {a : Nat → Nat → Int32} {r : Nat → Nat → Value} {N : Nat} {l0 : Nat} {l1 : Nat} {l2 : Int32} {l3 : Int32} {s0 : Int32} (hs : ((¬ s0 = (-1) → (tyK l1 = (0, 9) ∧ l1 < N ∧ Sp G d 0 0 MX10_readNumber [.ref l1, .int 0, .int 20] (a, r, N) (RI fun v4 a1 r2 n3 => ((¬ v4 = (-1) → (tyK l0 = (0, 0) ∧ l0 < n3 ∧ Sp G d 0 0 MX0_addStreet [.ref l0, .int l2, .int l3, .int s0, .int v4] (a1, r2, n3) (RN fun a5 r6 n7 => (bz 1 ∧ P 1 a5 r6 n7)))) ∧ (v4 = (-1) → (bz 0 ∧ P 0 a1 r2 n3)))))) ∧ (s0 = (-1) → ((¬ ((-1) : Int32) = (-1) → (tyK l0 = (0, 0) ∧ l0 < N ∧ Sp G d 0 0 MX0_addStreet [.ref l0, .int l2, .int l3, .int s0, .int (-1)] (a, r, N) (RN fun a8 r9 n10 => (bz 1 ∧ P 1 a8 r9 n10)))) ∧ (((-1) : Int32) = (-1) → (bz 0 ∧ P 0 a r N)))))) : E G MX0_readStreet (d + 1) C S 47 [.ref l0, .ref l1, .int l2, .int l3, .null, .null] [.int s0] (a, r, N) (RI P) := T_X0_readStreet_47 _ _ _ hs
theorem dX0_readLikes_0 : decode cX0_readLikes 0 = .ok (.aload_n 1, 1) := by decide +kernel
theorem dX0_readLikes_1 : decode cX0_readLikes 1 = .ok (.iconst 0, 1) := by decide +kernel
theorem dX0_readLikes_2 : decode cX0_readLikes 2 = .ok (.aload_n 0, 1) := by decide +kernel
theorem dX0_readLikes_3 : decode cX0_readLikes 3 = .ok (.getfield 52, 3) := by decide +kernel
theorem dX0_readLikes_6 : decode cX0_readLikes 6 = .ok (.iconst 1, 1) := by decide +kernel
theorem dX0_readLikes_7 : decode cX0_readLikes 7 = .ok (.isub, 1) := by decide +kernel
theorem dX0_readLikes_8 : decode cX0_readLikes 8 = .ok (.invokevirtual 138, 3) := by decide +kernel
theorem dX0_readLikes_11 : decode cX0_readLikes 11 = .ok (.istore_n 2, 1) := by decide +kernel
theorem dX0_readLikes_12 : decode cX0_readLikes 12 = .ok (.iload_n 2, 1) := by decide +kernel
theorem dX0_readLikes_13 : decode cX0_readLikes 13 = .ok (.iconst (-1), 1) := by decide +kernel
theorem dX0_readLikes_14 : decode cX0_readLikes 14 = .ok (.if_icmp .ne 7, 3) := by decide +kernel
theorem dX0_readLikes_17 : decode cX0_readLikes 17 = .ok (.iconst (-1), 1) := by decide +kernel
theorem dX0_readLikes_18 : decode cX0_readLikes 18 = .ok (.goto 12, 3) := by decide +kernel
theorem dX0_readLikes_21 : decode cX0_readLikes 21 = .ok (.aload_n 1, 1) := by decide +kernel
theorem dX0_readLikes_22 : decode cX0_readLikes 22 = .ok (.iload_n 2, 1) := by decide +kernel
theorem dX0_readLikes_23 : decode cX0_readLikes 23 = .ok (.aload_n 0, 1) := by decide +kernel
theorem dX0_readLikes_24 : decode cX0_readLikes 24 = .ok (.getfield 52, 3) := by decide +kernel
theorem dX0_readLikes_27 : decode cX0_readLikes 27 = .ok (.invokestatic 146, 3) := by decide +kernel
theorem dX0_readLikes_30 : decode cX0_readLikes 30 = .ok (.istore_n 3, 1) := by decide +kernel
theorem dX0_readLikes_31 : decode cX0_readLikes 31 = .ok (.iload_n 3, 1) := by decide +kernel
theorem dX0_readLikes_32 : decode cX0_readLikes 32 = .ok (.iconst (-1), 1) := by decide +kernel
theorem dX0_readLikes_33 : decode cX0_readLikes 33 = .ok (.if_icmp .ne 7, 3) := by decide +kernel
theorem dX0_readLikes_36 : decode cX0_readLikes 36 = .ok (.iconst (-1), 1) := by decide +kernel
theorem dX0_readLikes_37 : decode cX0_readLikes 37 = .ok (.goto 10, 3) := by decide +kernel
theorem dX0_readLikes_40 : decode cX0_readLikes 40 = .ok (.aload_n 1, 1) := by decide +kernel
theorem dX0_readLikes_41 : decode cX0_readLikes 41 = .ok (.iconst 0, 1) := by decide +kernel
theorem dX0_readLikes_42 : decode cX0_readLikes 42 = .ok (.bipush 9, 2) := by decide +kernel
theorem dX0_readLikes_44 : decode cX0_readLikes 44 = .ok (.invokevirtual 138, 3) := by decide +kernel
theorem dX0_readLikes_47 : decode cX0_readLikes 47 = .ok (.istore 4, 2) := by decide +kernel
theorem dX0_readLikes_49 : decode cX0_readLikes 49 = .ok (.iload 4, 2) := by decide +kernel
theorem dX0_readLikes_51 : decode cX0_readLikes 51 = .ok (.iconst (-1), 1) := by decide +kernel
theorem dX0_readLikes_52 : decode cX0_readLikes 52 = .ok (.if_icmp .ne 5, 3) := by decide +kernel
theorem dX0_readLikes_55 : decode cX0_readLikes 55 = .ok (.iconst 0, 1) := by decide +kernel
theorem dX0_readLikes_56 : decode cX0_readLikes 56 = .ok (.ireturn, 1) := by decide +kernel
theorem dX0_readLikes_57 : decode cX0_readLikes 57 = .ok (.aload_n 0, 1) := by decide +kernel
theorem dX0_readLikes_58 : decode cX0_readLikes 58 = .ok (.iload_n 2, 1) := by decide +kernel
theorem dX0_readLikes_59 : decode cX0_readLikes 59 = .ok (.iload_n 3, 1) := by decide +kernel
theorem dX0_readLikes_60 : decode cX0_readLikes 60 = .ok (.iload 4, 2) := by decide +kernel
theorem dX0_readLikes_62 : decode cX0_readLikes 62 = .ok (.invokevirtual 153, 3) := by decide +kernel
theorem dX0_readLikes_65 : decode cX0_readLikes 65 = .ok (.iconst 1, 1) := by decide +kernel
theorem dX0_readLikes_66 : decode cX0_readLikes 66 = .ok (.ireturn, 1) := by decide +kernel
set_option maxRecDepth 100000 in
theorem T_X0_readLikes_0 {G : GE} {d C S : Nat} {P : KI} : Snd G MX0_readLikes (d + 1) C S 0 (RI P) (s_aload 1 (s_iconst 0 (s_aload 0 (s_getI 0 1 (s_iconst 1 (s_isub (s_callV G d MX10_readNumber 2 9 (s_istore 2 (s_iload 2 (s_iconst (-1) (s_ic_ne (s_aload 1 (s_iload 2 (s_aload 0 (s_getI 0 1 (s_call G d MX0_another 3 (fun L st h => E G MX0_readLikes (d + 1) C S 30 (msk [true, true, true, false, false] L) st h (RI P))))))) (s_iconst (-1) (fun L st h => E G MX0_readLikes (d + 1) C S 30 (msk [true, true, true, false, false] L) st h (RI P)))))))))))))) := (e_aload_n dX0_readLikes_0 rfl (e_iconst (v := 0) dX0_readLikes_1 (by decide) (e_aload_n dX0_readLikes_2 rfl (e_getI rfl cl_0 (by decide) rfl q_190 dX0_readLikes_3 (e_iconst (v := 1) dX0_readLikes_6 (by decide) (e_isub dX0_readLikes_7 (e_callV cl_9 cal_X10_readNumber q_892 q_893 q_894 dX0_readLikes_8 (e_istore_n dX0_readLikes_11 rfl (by decide) (e_iload_n dX0_readLikes_12 rfl (e_iconst (v := (-1)) dX0_readLikes_13 (by decide) (e_ic_ne (tgt := 21) dX0_readLikes_14 (by decide) (e_aload_n dX0_readLikes_21 rfl (e_iload_n dX0_readLikes_22 rfl (e_aload_n dX0_readLikes_23 rfl (e_getI rfl cl_0 (by decide) rfl q_190 dX0_readLikes_24 (e_callS cal_X0_another q_910 q_911 dX0_readLikes_27 (e_msk [true, true, true, false, false])))))) (e_iconst (v := (-1)) dX0_readLikes_17 (by decide) (e_goto (tgt := 30) dX0_readLikes_18 (by decide) (e_msk [true, true, true, false, false]))))))))))))))
set_option maxRecDepth 100000 in
theorem V_X0_readLikes_0 {G : GE} {d : Nat} {P : KI} {a : Nat → Nat → Int32} {r : Nat → Nat → Value} {N : Nat} {l0 : Nat} {l1 : Nat} (hs : (tyK l0 = (0, 0) ∧ l0 < N ∧ (tyK l1 = (0, 9) ∧ l1 < N ∧ Sp G d 0 0 MX10_readNumber [.ref l1, .int 0, .int ((a l0 1) - 1)] (a, r, N) (RI fun v4 a1 r2 n3 => ((¬ v4 = (-1) → (tyK l0 = (0, 0) ∧ l0 < n3 ∧ Sp G d 0 0 MX0_another [.ref l1, .int v4, .int (a1 l0 1)] (a1, r2, n3) (RI fun v8 a5 r6 n7 => E G MX0_readLikes (d + 1) 0 0 30 [.ref l0, .ref l1, .int v4, .null, .null] [.int v8] (a5, r6, n7) (RI P)))) ∧ (v4 = (-1) → E G MX0_readLikes (d + 1) 0 0 30 [.ref l0, .ref l1, .int v4, .null, .null] [.int (-1)] (a1, r2, n3) (RI P))))))) : Sp G (d + 1) 0 0 MX0_readLikes [.ref l0, .ref l1] (a, r, N) (RI P) := Sp.mk (mc := 0) (ms := 0) [.ref l0, .ref l1, .null, .null, .null] rfl rfl rfl rfl (T_X0_readLikes_0 (C := 0) (S := 0) _ _ _ hs)
set_option maxRecDepth 100000 in
theorem T_X0_readLikes_30 {G : GE} {d C S : Nat} {P : KI} : Snd G MX0_readLikes (d + 1) C S 30 (RI P) (s_istore 3 (s_iload 3 (s_iconst (-1) (s_ic_ne (s_aload 1 (s_iconst 0 (s_iconst 9 (s_callV G d MX10_readNumber 2 9 (s_istore 4 (s_iload 4 (s_iconst (-1) (s_ic_ne (s_aload 0 (s_iload 2 (s_iload 3 (s_iload 4 (s_callV G d MX0_setLiking 3 0 (s_iconst 1 (s_zreturn P))))))) (s_iconst 0 (s_zreturn P)))))))))) (s_iconst (-1) (s_istore 4 (s_iload 4 (s_iconst (-1) (s_ic_ne (s_aload 0 (s_iload 2 (s_iload 3 (s_iload 4 (s_callV G d MX0_setLiking 3 0 (s_iconst 1 (s_zreturn P))))))) (s_iconst 0 (s_zreturn P))))))))))) := (e_istore_n dX0_readLikes_30 rfl (by decide) (e_iload_n dX0_readLikes_31 rfl (e_iconst (v := (-1)) dX0_readLikes_32 (by decide) (e_ic_ne (tgt := 40) dX0_readLikes_33 (by decide) (e_aload_n dX0_readLikes_40 rfl (e_iconst (v := 0) dX0_readLikes_41 (by decide) (e_bipush (v := 9) dX0_readLikes_42 (by decide) (e_callV cl_9 cal_X10_readNumber q_892 q_893 q_894 dX0_readLikes_44 (e_istore dX0_readLikes_47 (by decide) (e_iload dX0_readLikes_49 (e_iconst (v := (-1)) dX0_readLikes_51 (by decide) (e_ic_ne (tgt := 57) dX0_readLikes_52 (by decide) (e_aload_n dX0_readLikes_57 rfl (e_iload_n dX0_readLikes_58 rfl (e_iload_n dX0_readLikes_59 rfl (e_iload dX0_readLikes_60 (e_callV cl_0 cal_X0_setLiking q_924 q_925 q_926 dX0_readLikes_62 (e_iconst (v := 1) dX0_readLikes_65 (by decide) (e_zreturn rfl dX0_readLikes_66))))))) (e_iconst (v := 0) dX0_readLikes_55 (by decide) (e_zreturn rfl dX0_readLikes_56)))))))))) (e_iconst (v := (-1)) dX0_readLikes_36 (by decide) (e_goto (tgt := 47) dX0_readLikes_37 (by decide) (e_istore dX0_readLikes_47 (by decide) (e_iload dX0_readLikes_49 (e_iconst (v := (-1)) dX0_readLikes_51 (by decide) (e_ic_ne (tgt := 57) dX0_readLikes_52 (by decide) (e_aload_n dX0_readLikes_57 rfl (e_iload_n dX0_readLikes_58 rfl (e_iload_n dX0_readLikes_59 rfl (e_iload dX0_readLikes_60 (e_callV cl_0 cal_X0_setLiking q_924 q_925 q_926 dX0_readLikes_62 (e_iconst (v := 1) dX0_readLikes_65 (by decide) (e_zreturn rfl dX0_readLikes_66))))))) (e_iconst (v := 0) dX0_readLikes_55 (by decide) (e_zreturn rfl dX0_readLikes_56))))))))))))
set_option maxRecDepth 100000 in
theorem V_X0_readLikes_30 {G : GE} {d C S : Nat} {P : KI} {a : Nat → Nat → Int32} {r : Nat → Nat → Value} {N : Nat} {l0 : Nat} {l1 : Nat} {l2 : Int32} {s0 : Int32} (hs : ((¬ s0 = (-1) → (tyK l1 = (0, 9) ∧ l1 < N ∧ Sp G d 0 0 MX10_readNumber [.ref l1, .int 0, .int 9] (a, r, N) (RI fun v4 a1 r2 n3 => ((¬ v4 = (-1) → (tyK l0 = (0, 0) ∧ l0 < n3 ∧ Sp G d 0 0 MX0_setLiking [.ref l0, .int l2, .int s0, .int v4] (a1, r2, n3) (RN fun a5 r6 n7 => (bz 1 ∧ P 1 a5 r6 n7)))) ∧ (v4 = (-1) → (bz 0 ∧ P 0 a1 r2 n3)))))) ∧ (s0 = (-1) → ((¬ ((-1) : Int32) = (-1) → (tyK l0 = (0, 0) ∧ l0 < N ∧ Sp G d 0 0 MX0_setLiking [.ref l0, .int l2, .int s0, .int (-1)] (a, r, N) (RN fun a8 r9 n10 => (bz 1 ∧ P 1 a8 r9 n10)))) ∧ (((-1) : Int32) = (-1) → (bz 0 ∧ P 0 a r N)))))) : E G MX0_readLikes (d + 1) C S 30 [.ref l0, .ref l1, .int l2, .null, .null] [.int s0] (a, r, N) (RI P) := T_X0_readLikes_30 _ _ _ hs
theorem dX0_readNever_0 : decode cX0_readNever 0 = .ok (.aload_n 1, 1) := by decide +kernel
theorem dX0_readNever_1 : decode cX0_readNever 1 = .ok (.iconst 0, 1) := by decide +kernel
theorem dX0_readNever_2 : decode cX0_readNever 2 = .ok (.aload_n 0, 1) := by decide +kernel
theorem dX0_readNever_3 : decode cX0_readNever 3 = .ok (.getfield 52, 3) := by decide +kernel
theorem dX0_readNever_6 : decode cX0_readNever 6 = .ok (.iconst 1, 1) := by decide +kernel
theorem dX0_readNever_7 : decode cX0_readNever 7 = .ok (.isub, 1) := by decide +kernel
theorem dX0_readNever_8 : decode cX0_readNever 8 = .ok (.invokevirtual 138, 3) := by decide +kernel
theorem dX0_readNever_11 : decode cX0_readNever 11 = .ok (.istore_n 2, 1) := by decide +kernel
theorem dX0_readNever_12 : decode cX0_readNever 12 = .ok (.iload_n 2, 1) := by decide +kernel
theorem dX0_readNever_13 : decode cX0_readNever 13 = .ok (.iconst (-1), 1) := by decide +kernel
theorem dX0_readNever_14 : decode cX0_readNever 14 = .ok (.if_icmp .ne 7, 3) := by decide +kernel
theorem dX0_readNever_17 : decode cX0_readNever 17 = .ok (.iconst (-1), 1) := by decide +kernel
theorem dX0_readNever_18 : decode cX0_readNever 18 = .ok (.goto 12, 3) := by decide +kernel
theorem dX0_readNever_21 : decode cX0_readNever 21 = .ok (.aload_n 1, 1) := by decide +kernel
theorem dX0_readNever_22 : decode cX0_readNever 22 = .ok (.iload_n 2, 1) := by decide +kernel
theorem dX0_readNever_23 : decode cX0_readNever 23 = .ok (.aload_n 0, 1) := by decide +kernel
theorem dX0_readNever_24 : decode cX0_readNever 24 = .ok (.getfield 52, 3) := by decide +kernel
theorem dX0_readNever_27 : decode cX0_readNever 27 = .ok (.invokestatic 146, 3) := by decide +kernel
theorem dX0_readNever_30 : decode cX0_readNever 30 = .ok (.istore_n 3, 1) := by decide +kernel
theorem dX0_readNever_31 : decode cX0_readNever 31 = .ok (.iload_n 3, 1) := by decide +kernel
theorem dX0_readNever_32 : decode cX0_readNever 32 = .ok (.iconst (-1), 1) := by decide +kernel
theorem dX0_readNever_33 : decode cX0_readNever 33 = .ok (.if_icmp .ne 5, 3) := by decide +kernel
theorem dX0_readNever_36 : decode cX0_readNever 36 = .ok (.iconst 0, 1) := by decide +kernel
theorem dX0_readNever_37 : decode cX0_readNever 37 = .ok (.ireturn, 1) := by decide +kernel
theorem dX0_readNever_38 : decode cX0_readNever 38 = .ok (.aload_n 0, 1) := by decide +kernel
theorem dX0_readNever_39 : decode cX0_readNever 39 = .ok (.iload_n 2, 1) := by decide +kernel
theorem dX0_readNever_40 : decode cX0_readNever 40 = .ok (.iload_n 3, 1) := by decide +kernel
theorem dX0_readNever_41 : decode cX0_readNever 41 = .ok (.invokevirtual 157, 3) := by decide +kernel
theorem dX0_readNever_44 : decode cX0_readNever 44 = .ok (.iconst 1, 1) := by decide +kernel
theorem dX0_readNever_45 : decode cX0_readNever 45 = .ok (.ireturn, 1) := by decide +kernel
set_option maxRecDepth 100000 in
theorem T_X0_readNever_0 {G : GE} {d C S : Nat} {P : KI} : Snd G MX0_readNever (d + 1) C S 0 (RI P) (s_aload 1 (s_iconst 0 (s_aload 0 (s_getI 0 1 (s_iconst 1 (s_isub (s_callV G d MX10_readNumber 2 9 (s_istore 2 (s_iload 2 (s_iconst (-1) (s_ic_ne (s_aload 1 (s_iload 2 (s_aload 0 (s_getI 0 1 (s_call G d MX0_another 3 (s_istore 3 (s_iload 3 (s_iconst (-1) (s_ic_ne (s_aload 0 (s_iload 2 (s_iload 3 (s_callV G d MX0_forbid 2 0 (s_iconst 1 (s_zreturn P)))))) (s_iconst 0 (s_zreturn P))))))))))) (s_iconst (-1) (s_istore 3 (s_iload 3 (s_iconst (-1) (s_ic_ne (s_aload 0 (s_iload 2 (s_iload 3 (s_callV G d MX0_forbid 2 0 (s_iconst 1 (s_zreturn P)))))) (s_iconst 0 (s_zreturn P)))))))))))))))))) := (e_aload_n dX0_readNever_0 rfl (e_iconst (v := 0) dX0_readNever_1 (by decide) (e_aload_n dX0_readNever_2 rfl (e_getI rfl cl_0 (by decide) rfl q_190 dX0_readNever_3 (e_iconst (v := 1) dX0_readNever_6 (by decide) (e_isub dX0_readNever_7 (e_callV cl_9 cal_X10_readNumber q_892 q_893 q_894 dX0_readNever_8 (e_istore_n dX0_readNever_11 rfl (by decide) (e_iload_n dX0_readNever_12 rfl (e_iconst (v := (-1)) dX0_readNever_13 (by decide) (e_ic_ne (tgt := 21) dX0_readNever_14 (by decide) (e_aload_n dX0_readNever_21 rfl (e_iload_n dX0_readNever_22 rfl (e_aload_n dX0_readNever_23 rfl (e_getI rfl cl_0 (by decide) rfl q_190 dX0_readNever_24 (e_callS cal_X0_another q_910 q_911 dX0_readNever_27 (e_istore_n dX0_readNever_30 rfl (by decide) (e_iload_n dX0_readNever_31 rfl (e_iconst (v := (-1)) dX0_readNever_32 (by decide) (e_ic_ne (tgt := 38) dX0_readNever_33 (by decide) (e_aload_n dX0_readNever_38 rfl (e_iload_n dX0_readNever_39 rfl (e_iload_n dX0_readNever_40 rfl (e_callV cl_0 cal_X0_forbid q_932 q_933 q_934 dX0_readNever_41 (e_iconst (v := 1) dX0_readNever_44 (by decide) (e_zreturn rfl dX0_readNever_45)))))) (e_iconst (v := 0) dX0_readNever_36 (by decide) (e_zreturn rfl dX0_readNever_37))))))))))) (e_iconst (v := (-1)) dX0_readNever_17 (by decide) (e_goto (tgt := 30) dX0_readNever_18 (by decide) (e_istore_n dX0_readNever_30 rfl (by decide) (e_iload_n dX0_readNever_31 rfl (e_iconst (v := (-1)) dX0_readNever_32 (by decide) (e_ic_ne (tgt := 38) dX0_readNever_33 (by decide) (e_aload_n dX0_readNever_38 rfl (e_iload_n dX0_readNever_39 rfl (e_iload_n dX0_readNever_40 rfl (e_callV cl_0 cal_X0_forbid q_932 q_933 q_934 dX0_readNever_41 (e_iconst (v := 1) dX0_readNever_44 (by decide) (e_zreturn rfl dX0_readNever_45)))))) (e_iconst (v := 0) dX0_readNever_36 (by decide) (e_zreturn rfl dX0_readNever_37)))))))))))))))))))
set_option maxRecDepth 100000 in
theorem V_X0_readNever_0 {G : GE} {d : Nat} {P : KI} {a : Nat → Nat → Int32} {r : Nat → Nat → Value} {N : Nat} {l0 : Nat} {l1 : Nat} (hs : (tyK l0 = (0, 0) ∧ l0 < N ∧ (tyK l1 = (0, 9) ∧ l1 < N ∧ Sp G d 0 0 MX10_readNumber [.ref l1, .int 0, .int ((a l0 1) - 1)] (a, r, N) (RI fun v4 a1 r2 n3 => ((¬ v4 = (-1) → (tyK l0 = (0, 0) ∧ l0 < n3 ∧ Sp G d 0 0 MX0_another [.ref l1, .int v4, .int (a1 l0 1)] (a1, r2, n3) (RI fun v8 a5 r6 n7 => ((¬ v8 = (-1) → (tyK l0 = (0, 0) ∧ l0 < n7 ∧ Sp G d 0 0 MX0_forbid [.ref l0, .int v4, .int v8] (a5, r6, n7) (RN fun a9 r10 n11 => (bz 1 ∧ P 1 a9 r10 n11)))) ∧ (v8 = (-1) → (bz 0 ∧ P 0 a5 r6 n7)))))) ∧ (v4 = (-1) → ((¬ ((-1) : Int32) = (-1) → (tyK l0 = (0, 0) ∧ l0 < n3 ∧ Sp G d 0 0 MX0_forbid [.ref l0, .int v4, .int (-1)] (a1, r2, n3) (RN fun a12 r13 n14 => (bz 1 ∧ P 1 a12 r13 n14)))) ∧ (((-1) : Int32) = (-1) → (bz 0 ∧ P 0 a1 r2 n3))))))))) : Sp G (d + 1) 0 0 MX0_readNever [.ref l0, .ref l1] (a, r, N) (RI P) := Sp.mk (mc := 0) (ms := 0) [.ref l0, .ref l1, .null, .null] rfl rfl rfl rfl (T_X0_readNever_0 (C := 0) (S := 0) _ _ _ hs)
theorem dX0_readGood_0 : decode cX0_readGood 0 = .ok (.aload_n 1, 1) := by decide +kernel
theorem dX0_readGood_1 : decode cX0_readGood 1 = .ok (.iconst 0, 1) := by decide +kernel
theorem dX0_readGood_2 : decode cX0_readGood 2 = .ok (.bipush 9, 2) := by decide +kernel
theorem dX0_readGood_4 : decode cX0_readGood 4 = .ok (.invokevirtual 138, 3) := by decide +kernel
theorem dX0_readGood_7 : decode cX0_readGood 7 = .ok (.istore_n 2, 1) := by decide +kernel
theorem dX0_readGood_8 : decode cX0_readGood 8 = .ok (.iload_n 2, 1) := by decide +kernel
theorem dX0_readGood_9 : decode cX0_readGood 9 = .ok (.iconst (-1), 1) := by decide +kernel
theorem dX0_readGood_10 : decode cX0_readGood 10 = .ok (.if_icmp .ne 7, 3) := by decide +kernel
theorem dX0_readGood_13 : decode cX0_readGood 13 = .ok (.iconst (-1), 1) := by decide +kernel
theorem dX0_readGood_14 : decode cX0_readGood 14 = .ok (.goto 10, 3) := by decide +kernel
theorem dX0_readGood_17 : decode cX0_readGood 17 = .ok (.aload_n 1, 1) := by decide +kernel
theorem dX0_readGood_18 : decode cX0_readGood 18 = .ok (.iconst 0, 1) := by decide +kernel
theorem dX0_readGood_19 : decode cX0_readGood 19 = .ok (.bipush 9, 2) := by decide +kernel
theorem dX0_readGood_21 : decode cX0_readGood 21 = .ok (.invokevirtual 138, 3) := by decide +kernel
theorem dX0_readGood_24 : decode cX0_readGood 24 = .ok (.istore_n 3, 1) := by decide +kernel
theorem dX0_readGood_25 : decode cX0_readGood 25 = .ok (.iload_n 3, 1) := by decide +kernel
theorem dX0_readGood_26 : decode cX0_readGood 26 = .ok (.iconst (-1), 1) := by decide +kernel
theorem dX0_readGood_27 : decode cX0_readGood 27 = .ok (.if_icmp .ne 5, 3) := by decide +kernel
theorem dX0_readGood_30 : decode cX0_readGood 30 = .ok (.iconst 0, 1) := by decide +kernel
theorem dX0_readGood_31 : decode cX0_readGood 31 = .ok (.ireturn, 1) := by decide +kernel
theorem dX0_readGood_32 : decode cX0_readGood 32 = .ok (.aload_n 0, 1) := by decide +kernel
theorem dX0_readGood_33 : decode cX0_readGood 33 = .ok (.iload_n 2, 1) := by decide +kernel
theorem dX0_readGood_34 : decode cX0_readGood 34 = .ok (.iload_n 3, 1) := by decide +kernel
theorem dX0_readGood_35 : decode cX0_readGood 35 = .ok (.invokevirtual 160, 3) := by decide +kernel
theorem dX0_readGood_38 : decode cX0_readGood 38 = .ok (.iconst 1, 1) := by decide +kernel
theorem dX0_readGood_39 : decode cX0_readGood 39 = .ok (.ireturn, 1) := by decide +kernel
set_option maxRecDepth 100000 in
theorem T_X0_readGood_0 {G : GE} {d C S : Nat} {P : KI} : Snd G MX0_readGood (d + 1) C S 0 (RI P) (s_aload 1 (s_iconst 0 (s_iconst 9 (s_callV G d MX10_readNumber 2 9 (s_istore 2 (s_iload 2 (s_iconst (-1) (s_ic_ne (s_aload 1 (s_iconst 0 (s_iconst 9 (s_callV G d MX10_readNumber 2 9 (s_istore 3 (s_iload 3 (s_iconst (-1) (s_ic_ne (s_aload 0 (s_iload 2 (s_iload 3 (s_callV G d MX0_addGood 2 0 (s_iconst 1 (s_zreturn P)))))) (s_iconst 0 (s_zreturn P)))))))))) (s_iconst (-1) (s_istore 3 (s_iload 3 (s_iconst (-1) (s_ic_ne (s_aload 0 (s_iload 2 (s_iload 3 (s_callV G d MX0_addGood 2 0 (s_iconst 1 (s_zreturn P)))))) (s_iconst 0 (s_zreturn P))))))))))))))) := (e_aload_n dX0_readGood_0 rfl (e_iconst (v := 0) dX0_readGood_1 (by decide) (e_bipush (v := 9) dX0_readGood_2 (by decide) (e_callV cl_9 cal_X10_readNumber q_892 q_893 q_894 dX0_readGood_4 (e_istore_n dX0_readGood_7 rfl (by decide) (e_iload_n dX0_readGood_8 rfl (e_iconst (v := (-1)) dX0_readGood_9 (by decide) (e_ic_ne (tgt := 17) dX0_readGood_10 (by decide) (e_aload_n dX0_readGood_17 rfl (e_iconst (v := 0) dX0_readGood_18 (by decide) (e_bipush (v := 9) dX0_readGood_19 (by decide) (e_callV cl_9 cal_X10_readNumber q_892 q_893 q_894 dX0_readGood_21 (e_istore_n dX0_readGood_24 rfl (by decide) (e_iload_n dX0_readGood_25 rfl (e_iconst (v := (-1)) dX0_readGood_26 (by decide) (e_ic_ne (tgt := 32) dX0_readGood_27 (by decide) (e_aload_n dX0_readGood_32 rfl (e_iload_n dX0_readGood_33 rfl (e_iload_n dX0_readGood_34 rfl (e_callV cl_0 cal_X0_addGood q_940 q_941 q_942 dX0_readGood_35 (e_iconst (v := 1) dX0_readGood_38 (by decide) (e_zreturn rfl dX0_readGood_39)))))) (e_iconst (v := 0) dX0_readGood_30 (by decide) (e_zreturn rfl dX0_readGood_31)))))))))) (e_iconst (v := (-1)) dX0_readGood_13 (by decide) (e_goto (tgt := 24) dX0_readGood_14 (by decide) (e_istore_n dX0_readGood_24 rfl (by decide) (e_iload_n dX0_readGood_25 rfl (e_iconst (v := (-1)) dX0_readGood_26 (by decide) (e_ic_ne (tgt := 32) dX0_readGood_27 (by decide) (e_aload_n dX0_readGood_32 rfl (e_iload_n dX0_readGood_33 rfl (e_iload_n dX0_readGood_34 rfl (e_callV cl_0 cal_X0_addGood q_940 q_941 q_942 dX0_readGood_35 (e_iconst (v := 1) dX0_readGood_38 (by decide) (e_zreturn rfl dX0_readGood_39)))))) (e_iconst (v := 0) dX0_readGood_30 (by decide) (e_zreturn rfl dX0_readGood_31))))))))))))))))
set_option maxRecDepth 100000 in
theorem V_X0_readGood_0 {G : GE} {d : Nat} {P : KI} {a : Nat → Nat → Int32} {r : Nat → Nat → Value} {N : Nat} {l0 : Nat} {l1 : Nat} (hs : (tyK l1 = (0, 9) ∧ l1 < N ∧ Sp G d 0 0 MX10_readNumber [.ref l1, .int 0, .int 9] (a, r, N) (RI fun v4 a1 r2 n3 => ((¬ v4 = (-1) → (tyK l1 = (0, 9) ∧ l1 < n3 ∧ Sp G d 0 0 MX10_readNumber [.ref l1, .int 0, .int 9] (a1, r2, n3) (RI fun v8 a5 r6 n7 => ((¬ v8 = (-1) → (tyK l0 = (0, 0) ∧ l0 < n7 ∧ Sp G d 0 0 MX0_addGood [.ref l0, .int v4, .int v8] (a5, r6, n7) (RN fun a9 r10 n11 => (bz 1 ∧ P 1 a9 r10 n11)))) ∧ (v8 = (-1) → (bz 0 ∧ P 0 a5 r6 n7)))))) ∧ (v4 = (-1) → ((¬ ((-1) : Int32) = (-1) → (tyK l0 = (0, 0) ∧ l0 < n3 ∧ Sp G d 0 0 MX0_addGood [.ref l0, .int v4, .int (-1)] (a1, r2, n3) (RN fun a12 r13 n14 => (bz 1 ∧ P 1 a12 r13 n14)))) ∧ (((-1) : Int32) = (-1) → (bz 0 ∧ P 0 a1 r2 n3)))))))) : Sp G (d + 1) 0 0 MX0_readGood [.ref l0, .ref l1] (a, r, N) (RI P) := Sp.mk (mc := 0) (ms := 0) [.ref l0, .ref l1, .null, .null] rfl rfl rfl rfl (T_X0_readGood_0 (C := 0) (S := 0) _ _ _ hs)
theorem dX0_readLane_0 : decode cX0_readLane 0 = .ok (.aload_n 1, 1) := by decide +kernel
theorem dX0_readLane_1 : decode cX0_readLane 1 = .ok (.iconst 0, 1) := by decide +kernel
theorem dX0_readLane_2 : decode cX0_readLane 2 = .ok (.bipush 60, 2) := by decide +kernel
theorem dX0_readLane_4 : decode cX0_readLane 4 = .ok (.invokevirtual 138, 3) := by decide +kernel
theorem dX0_readLane_7 : decode cX0_readLane 7 = .ok (.istore_n 2, 1) := by decide +kernel
theorem dX0_readLane_8 : decode cX0_readLane 8 = .ok (.iload_n 2, 1) := by decide +kernel
theorem dX0_readLane_9 : decode cX0_readLane 9 = .ok (.iconst (-1), 1) := by decide +kernel
theorem dX0_readLane_10 : decode cX0_readLane 10 = .ok (.if_icmp .ne 7, 3) := by decide +kernel
theorem dX0_readLane_13 : decode cX0_readLane 13 = .ok (.iconst (-1), 1) := by decide +kernel
theorem dX0_readLane_14 : decode cX0_readLane 14 = .ok (.goto 10, 3) := by decide +kernel
theorem dX0_readLane_17 : decode cX0_readLane 17 = .ok (.aload_n 1, 1) := by decide +kernel
theorem dX0_readLane_18 : decode cX0_readLane 18 = .ok (.iconst 0, 1) := by decide +kernel
theorem dX0_readLane_19 : decode cX0_readLane 19 = .ok (.bipush 60, 2) := by decide +kernel
theorem dX0_readLane_21 : decode cX0_readLane 21 = .ok (.invokevirtual 138, 3) := by decide +kernel
theorem dX0_readLane_24 : decode cX0_readLane 24 = .ok (.istore_n 3, 1) := by decide +kernel
theorem dX0_readLane_25 : decode cX0_readLane 25 = .ok (.iload_n 3, 1) := by decide +kernel
theorem dX0_readLane_26 : decode cX0_readLane 26 = .ok (.iconst (-1), 1) := by decide +kernel
theorem dX0_readLane_27 : decode cX0_readLane 27 = .ok (.if_icmp .ne 7, 3) := by decide +kernel
theorem dX0_readLane_30 : decode cX0_readLane 30 = .ok (.iconst (-1), 1) := by decide +kernel
theorem dX0_readLane_31 : decode cX0_readLane 31 = .ok (.goto 10, 3) := by decide +kernel
theorem dX0_readLane_34 : decode cX0_readLane 34 = .ok (.aload_n 1, 1) := by decide +kernel
theorem dX0_readLane_35 : decode cX0_readLane 35 = .ok (.iconst 0, 1) := by decide +kernel
theorem dX0_readLane_36 : decode cX0_readLane 36 = .ok (.bipush 9, 2) := by decide +kernel
theorem dX0_readLane_38 : decode cX0_readLane 38 = .ok (.invokevirtual 138, 3) := by decide +kernel
theorem dX0_readLane_41 : decode cX0_readLane 41 = .ok (.istore 4, 2) := by decide +kernel
theorem dX0_readLane_43 : decode cX0_readLane 43 = .ok (.iload 4, 2) := by decide +kernel
theorem dX0_readLane_45 : decode cX0_readLane 45 = .ok (.iconst (-1), 1) := by decide +kernel
theorem dX0_readLane_46 : decode cX0_readLane 46 = .ok (.if_icmp .ne 7, 3) := by decide +kernel
theorem dX0_readLane_49 : decode cX0_readLane 49 = .ok (.iconst (-1), 1) := by decide +kernel
theorem dX0_readLane_50 : decode cX0_readLane 50 = .ok (.goto 10, 3) := by decide +kernel
theorem dX0_readLane_53 : decode cX0_readLane 53 = .ok (.aload_n 1, 1) := by decide +kernel
theorem dX0_readLane_54 : decode cX0_readLane 54 = .ok (.iconst 0, 1) := by decide +kernel
theorem dX0_readLane_55 : decode cX0_readLane 55 = .ok (.bipush 9, 2) := by decide +kernel
theorem dX0_readLane_57 : decode cX0_readLane 57 = .ok (.invokevirtual 138, 3) := by decide +kernel
theorem dX0_readLane_60 : decode cX0_readLane 60 = .ok (.istore 5, 2) := by decide +kernel
theorem dX0_readLane_62 : decode cX0_readLane 62 = .ok (.iload 5, 2) := by decide +kernel
theorem dX0_readLane_64 : decode cX0_readLane 64 = .ok (.iconst (-1), 1) := by decide +kernel
theorem dX0_readLane_65 : decode cX0_readLane 65 = .ok (.if_icmp .ne 5, 3) := by decide +kernel
theorem dX0_readLane_68 : decode cX0_readLane 68 = .ok (.iconst 0, 1) := by decide +kernel
theorem dX0_readLane_69 : decode cX0_readLane 69 = .ok (.ireturn, 1) := by decide +kernel
theorem dX0_readLane_70 : decode cX0_readLane 70 = .ok (.aload_n 0, 1) := by decide +kernel
theorem dX0_readLane_71 : decode cX0_readLane 71 = .ok (.iload_n 2, 1) := by decide +kernel
theorem dX0_readLane_72 : decode cX0_readLane 72 = .ok (.iload_n 3, 1) := by decide +kernel
theorem dX0_readLane_73 : decode cX0_readLane 73 = .ok (.iload 4, 2) := by decide +kernel
theorem dX0_readLane_75 : decode cX0_readLane 75 = .ok (.iload 5, 2) := by decide +kernel
theorem dX0_readLane_77 : decode cX0_readLane 77 = .ok (.invokevirtual 67, 3) := by decide +kernel
theorem dX0_readLane_80 : decode cX0_readLane 80 = .ok (.iconst 1, 1) := by decide +kernel
theorem dX0_readLane_81 : decode cX0_readLane 81 = .ok (.ireturn, 1) := by decide +kernel
set_option maxRecDepth 100000 in
theorem T_X0_readLane_0 {G : GE} {d C S : Nat} {P : KI} : Snd G MX0_readLane (d + 1) C S 0 (RI P) (s_aload 1 (s_iconst 0 (s_iconst 60 (s_callV G d MX10_readNumber 2 9 (s_istore 2 (s_iload 2 (s_iconst (-1) (s_ic_ne (s_aload 1 (s_iconst 0 (s_iconst 60 (s_callV G d MX10_readNumber 2 9 (s_istore 3 (s_iload 3 (s_iconst (-1) (s_ic_ne (s_aload 1 (s_iconst 0 (s_iconst 9 (s_callV G d MX10_readNumber 2 9 (fun L st h => E G MX0_readLane (d + 1) C S 41 (msk [true, true, true, true, false, false] L) st h (RI P)))))) (s_iconst (-1) (fun L st h => E G MX0_readLane (d + 1) C S 41 (msk [true, true, true, true, false, false] L) st h (RI P))))))))))) (s_iconst (-1) (s_istore 3 (s_iload 3 (s_iconst (-1) (s_ic_ne (s_aload 1 (s_iconst 0 (s_iconst 9 (s_callV G d MX10_readNumber 2 9 (fun L st h => E G MX0_readLane (d + 1) C S 41 (msk [true, true, true, true, false, false] L) st h (RI P)))))) (s_iconst (-1) (fun L st h => E G MX0_readLane (d + 1) C S 41 (msk [true, true, true, true, false, false] L) st h (RI P)))))))))))))))) := (e_aload_n dX0_readLane_0 rfl (e_iconst (v := 0) dX0_readLane_1 (by decide) (e_bipush (v := 60) dX0_readLane_2 (by decide) (e_callV cl_9 cal_X10_readNumber q_892 q_893 q_894 dX0_readLane_4 (e_istore_n dX0_readLane_7 rfl (by decide) (e_iload_n dX0_readLane_8 rfl (e_iconst (v := (-1)) dX0_readLane_9 (by decide) (e_ic_ne (tgt := 17) dX0_readLane_10 (by decide) (e_aload_n dX0_readLane_17 rfl (e_iconst (v := 0) dX0_readLane_18 (by decide) (e_bipush (v := 60) dX0_readLane_19 (by decide) (e_callV cl_9 cal_X10_readNumber q_892 q_893 q_894 dX0_readLane_21 (e_istore_n dX0_readLane_24 rfl (by decide) (e_iload_n dX0_readLane_25 rfl (e_iconst (v := (-1)) dX0_readLane_26 (by decide) (e_ic_ne (tgt := 34) dX0_readLane_27 (by decide) (e_aload_n dX0_readLane_34 rfl (e_iconst (v := 0) dX0_readLane_35 (by decide) (e_bipush (v := 9) dX0_readLane_36 (by decide) (e_callV cl_9 cal_X10_readNumber q_892 q_893 q_894 dX0_readLane_38 (e_msk [true, true, true, true, false, false]))))) (e_iconst (v := (-1)) dX0_readLane_30 (by decide) (e_goto (tgt := 41) dX0_readLane_31 (by decide) (e_msk [true, true, true, true, false, false]))))))))))) (e_iconst (v := (-1)) dX0_readLane_13 (by decide) (e_goto (tgt := 24) dX0_readLane_14 (by decide) (e_istore_n dX0_readLane_24 rfl (by decide) (e_iload_n dX0_readLane_25 rfl (e_iconst (v := (-1)) dX0_readLane_26 (by decide) (e_ic_ne (tgt := 34) dX0_readLane_27 (by decide) (e_aload_n dX0_readLane_34 rfl (e_iconst (v := 0) dX0_readLane_35 (by decide) (e_bipush (v := 9) dX0_readLane_36 (by decide) (e_callV cl_9 cal_X10_readNumber q_892 q_893 q_894 dX0_readLane_38 (e_msk [true, true, true, true, false, false]))))) (e_iconst (v := (-1)) dX0_readLane_30 (by decide) (e_goto (tgt := 41) dX0_readLane_31 (by decide) (e_msk [true, true, true, true, false, false])))))))))))))))))
set_option maxRecDepth 100000 in
theorem V_X0_readLane_0 {G : GE} {d : Nat} {P : KI} {a : Nat → Nat → Int32} {r : Nat → Nat → Value} {N : Nat} {l0 : Nat} {l1 : Nat} (hs : (tyK l1 = (0, 9) ∧ l1 < N ∧ Sp G d 0 0 MX10_readNumber [.ref l1, .int 0, .int 60] (a, r, N) (RI fun v4 a1 r2 n3 => ((¬ v4 = (-1) → (tyK l1 = (0, 9) ∧ l1 < n3 ∧ Sp G d 0 0 MX10_readNumber [.ref l1, .int 0, .int 60] (a1, r2, n3) (RI fun v8 a5 r6 n7 => ((¬ v8 = (-1) → (tyK l1 = (0, 9) ∧ l1 < n7 ∧ Sp G d 0 0 MX10_readNumber [.ref l1, .int 0, .int 9] (a5, r6, n7) (RI fun v12 a9 r10 n11 => E G MX0_readLane (d + 1) 0 0 41 [.ref l0, .ref l1, .int v4, .int v8, .null, .null] [.int v12] (a9, r10, n11) (RI P)))) ∧ (v8 = (-1) → E G MX0_readLane (d + 1) 0 0 41 [.ref l0, .ref l1, .int v4, .int v8, .null, .null] [.int (-1)] (a5, r6, n7) (RI P)))))) ∧ (v4 = (-1) → ((¬ ((-1) : Int32) = (-1) → (tyK l1 = (0, 9) ∧ l1 < n3 ∧ Sp G d 0 0 MX10_readNumber [.ref l1, .int 0, .int 9] (a1, r2, n3) (RI fun v16 a13 r14 n15 => E G MX0_readLane (d + 1) 0 0 41 [.ref l0, .ref l1, .int v4, .int (-1), .null, .null] [.int v16] (a13, r14, n15) (RI P)))) ∧ (((-1) : Int32) = (-1) → E G MX0_readLane (d + 1) 0 0 41 [.ref l0, .ref l1, .int v4, .int (-1), .null, .null] [.int (-1)] (a1, r2, n3) (RI P)))))))) : Sp G (d + 1) 0 0 MX0_readLane [.ref l0, .ref l1] (a, r, N) (RI P) := Sp.mk (mc := 0) (ms := 0) [.ref l0, .ref l1, .null, .null, .null, .null] rfl rfl rfl rfl (T_X0_readLane_0 (C := 0) (S := 0) _ _ _ hs)
set_option maxRecDepth 100000 in
theorem T_X0_readLane_41 {G : GE} {d C S : Nat} {P : KI} : Snd G MX0_readLane (d + 1) C S 41 (RI P) (s_istore 4 (s_iload 4 (s_iconst (-1) (s_ic_ne (s_aload 1 (s_iconst 0 (s_iconst 9 (s_callV G d MX10_readNumber 2 9 (s_istore 5 (s_iload 5 (s_iconst (-1) (s_ic_ne (s_aload 0 (s_iload 2 (s_iload 3 (s_iload 4 (s_iload 5 (s_callV G d MX0_setLane 4 0 (s_iconst 1 (s_zreturn P)))))))) (s_iconst 0 (s_zreturn P)))))))))) (s_iconst (-1) (s_istore 5 (s_iload 5 (s_iconst (-1) (s_ic_ne (s_aload 0 (s_iload 2 (s_iload 3 (s_iload 4 (s_iload 5 (s_callV G d MX0_setLane 4 0 (s_iconst 1 (s_zreturn P)))))))) (s_iconst 0 (s_zreturn P))))))))))) := (e_istore dX0_readLane_41 (by decide) (e_iload dX0_readLane_43 (e_iconst (v := (-1)) dX0_readLane_45 (by decide) (e_ic_ne (tgt := 53) dX0_readLane_46 (by decide) (e_aload_n dX0_readLane_53 rfl (e_iconst (v := 0) dX0_readLane_54 (by decide) (e_bipush (v := 9) dX0_readLane_55 (by decide) (e_callV cl_9 cal_X10_readNumber q_892 q_893 q_894 dX0_readLane_57 (e_istore dX0_readLane_60 (by decide) (e_iload dX0_readLane_62 (e_iconst (v := (-1)) dX0_readLane_64 (by decide) (e_ic_ne (tgt := 70) dX0_readLane_65 (by decide) (e_aload_n dX0_readLane_70 rfl (e_iload_n dX0_readLane_71 rfl (e_iload_n dX0_readLane_72 rfl (e_iload dX0_readLane_73 (e_iload dX0_readLane_75 (e_callV cl_0 cal_X0_setLane q_183 q_184 q_185 dX0_readLane_77 (e_iconst (v := 1) dX0_readLane_80 (by decide) (e_zreturn rfl dX0_readLane_81)))))))) (e_iconst (v := 0) dX0_readLane_68 (by decide) (e_zreturn rfl dX0_readLane_69)))))))))) (e_iconst (v := (-1)) dX0_readLane_49 (by decide) (e_goto (tgt := 60) dX0_readLane_50 (by decide) (e_istore dX0_readLane_60 (by decide) (e_iload dX0_readLane_62 (e_iconst (v := (-1)) dX0_readLane_64 (by decide) (e_ic_ne (tgt := 70) dX0_readLane_65 (by decide) (e_aload_n dX0_readLane_70 rfl (e_iload_n dX0_readLane_71 rfl (e_iload_n dX0_readLane_72 rfl (e_iload dX0_readLane_73 (e_iload dX0_readLane_75 (e_callV cl_0 cal_X0_setLane q_183 q_184 q_185 dX0_readLane_77 (e_iconst (v := 1) dX0_readLane_80 (by decide) (e_zreturn rfl dX0_readLane_81)))))))) (e_iconst (v := 0) dX0_readLane_68 (by decide) (e_zreturn rfl dX0_readLane_69))))))))))))
set_option maxRecDepth 100000 in
theorem V_X0_readLane_41 {G : GE} {d C S : Nat} {P : KI} {a : Nat → Nat → Int32} {r : Nat → Nat → Value} {N : Nat} {l0 : Nat} {l1 : Nat} {l2 : Int32} {l3 : Int32} {s0 : Int32} (hs : ((¬ s0 = (-1) → (tyK l1 = (0, 9) ∧ l1 < N ∧ Sp G d 0 0 MX10_readNumber [.ref l1, .int 0, .int 9] (a, r, N) (RI fun v4 a1 r2 n3 => ((¬ v4 = (-1) → (tyK l0 = (0, 0) ∧ l0 < n3 ∧ Sp G d 0 0 MX0_setLane [.ref l0, .int l2, .int l3, .int s0, .int v4] (a1, r2, n3) (RN fun a5 r6 n7 => (bz 1 ∧ P 1 a5 r6 n7)))) ∧ (v4 = (-1) → (bz 0 ∧ P 0 a1 r2 n3)))))) ∧ (s0 = (-1) → ((¬ ((-1) : Int32) = (-1) → (tyK l0 = (0, 0) ∧ l0 < N ∧ Sp G d 0 0 MX0_setLane [.ref l0, .int l2, .int l3, .int s0, .int (-1)] (a, r, N) (RN fun a8 r9 n10 => (bz 1 ∧ P 1 a8 r9 n10)))) ∧ (((-1) : Int32) = (-1) → (bz 0 ∧ P 0 a r N)))))) : E G MX0_readLane (d + 1) C S 41 [.ref l0, .ref l1, .int l2, .int l3, .null, .null] [.int s0] (a, r, N) (RI P) := T_X0_readLane_41 _ _ _ hs
theorem dX0_readRiver_0 : decode cX0_readRiver 0 = .ok (.aload_n 1, 1) := by decide +kernel
theorem dX0_readRiver_1 : decode cX0_readRiver 1 = .ok (.iconst 0, 1) := by decide +kernel
theorem dX0_readRiver_2 : decode cX0_readRiver 2 = .ok (.bipush 60, 2) := by decide +kernel
theorem dX0_readRiver_4 : decode cX0_readRiver 4 = .ok (.invokevirtual 138, 3) := by decide +kernel
theorem dX0_readRiver_7 : decode cX0_readRiver 7 = .ok (.istore_n 2, 1) := by decide +kernel
theorem dX0_readRiver_8 : decode cX0_readRiver 8 = .ok (.iload_n 2, 1) := by decide +kernel
theorem dX0_readRiver_9 : decode cX0_readRiver 9 = .ok (.iconst (-1), 1) := by decide +kernel
theorem dX0_readRiver_10 : decode cX0_readRiver 10 = .ok (.if_icmp .ne 5, 3) := by decide +kernel
theorem dX0_readRiver_13 : decode cX0_readRiver 13 = .ok (.iconst 0, 1) := by decide +kernel
theorem dX0_readRiver_14 : decode cX0_readRiver 14 = .ok (.ireturn, 1) := by decide +kernel
theorem dX0_readRiver_15 : decode cX0_readRiver 15 = .ok (.aload_n 0, 1) := by decide +kernel
theorem dX0_readRiver_16 : decode cX0_readRiver 16 = .ok (.iload_n 2, 1) := by decide +kernel
theorem dX0_readRiver_17 : decode cX0_readRiver 17 = .ok (.putfield 58, 3) := by decide +kernel
theorem dX0_readRiver_20 : decode cX0_readRiver 20 = .ok (.iconst 1, 1) := by decide +kernel
theorem dX0_readRiver_21 : decode cX0_readRiver 21 = .ok (.ireturn, 1) := by decide +kernel
set_option maxRecDepth 100000 in
theorem T_X0_readRiver_0 {G : GE} {d C S : Nat} {P : KI} : Snd G MX0_readRiver (d + 1) C S 0 (RI P) (s_aload 1 (s_iconst 0 (s_iconst 60 (s_callV G d MX10_readNumber 2 9 (s_istore 2 (s_iload 2 (s_iconst (-1) (s_ic_ne (s_aload 0 (s_iload 2 (s_putI 0 3 (s_iconst 1 (s_zreturn P))))) (s_iconst 0 (s_zreturn P)))))))))) := (e_aload_n dX0_readRiver_0 rfl (e_iconst (v := 0) dX0_readRiver_1 (by decide) (e_bipush (v := 60) dX0_readRiver_2 (by decide) (e_callV cl_9 cal_X10_readNumber q_892 q_893 q_894 dX0_readRiver_4 (e_istore_n dX0_readRiver_7 rfl (by decide) (e_iload_n dX0_readRiver_8 rfl (e_iconst (v := (-1)) dX0_readRiver_9 (by decide) (e_ic_ne (tgt := 15) dX0_readRiver_10 (by decide) (e_aload_n dX0_readRiver_15 rfl (e_iload_n dX0_readRiver_16 rfl (e_putI rfl cl_0 (by decide) rfl rfl rfl q_196 dX0_readRiver_17 (e_iconst (v := 1) dX0_readRiver_20 (by decide) (e_zreturn rfl dX0_readRiver_21))))) (e_iconst (v := 0) dX0_readRiver_13 (by decide) (e_zreturn rfl dX0_readRiver_14))))))))))
set_option maxRecDepth 100000 in
theorem V_X0_readRiver_0 {G : GE} {d : Nat} {P : KI} {a : Nat → Nat → Int32} {r : Nat → Nat → Value} {N : Nat} {l0 : Nat} {l1 : Nat} (hs : (tyK l1 = (0, 9) ∧ l1 < N ∧ Sp G d 0 0 MX10_readNumber [.ref l1, .int 0, .int 60] (a, r, N) (RI fun v4 a1 r2 n3 => ((¬ v4 = (-1) → (tyK l0 = (0, 0) ∧ l0 < n3 ∧ ∀ a5, a5 = u2 a1 l0 3 v4 → (bz 1 ∧ P 1 a5 r2 n3))) ∧ (v4 = (-1) → (bz 0 ∧ P 0 a1 r2 n3)))))) : Sp G (d + 1) 0 0 MX0_readRiver [.ref l0, .ref l1] (a, r, N) (RI P) := Sp.mk (mc := 0) (ms := 0) [.ref l0, .ref l1, .null] rfl rfl rfl rfl (T_X0_readRiver_0 (C := 0) (S := 0) _ _ _ hs)
theorem dX0_another_0 : decode cX0_another 0 = .ok (.aload_n 0, 1) := by decide +kernel
theorem dX0_another_1 : decode cX0_another 1 = .ok (.iconst 0, 1) := by decide +kernel
theorem dX0_another_2 : decode cX0_another 2 = .ok (.iload_n 2, 1) := by decide +kernel
theorem dX0_another_3 : decode cX0_another 3 = .ok (.iconst 1, 1) := by decide +kernel
theorem dX0_another_4 : decode cX0_another 4 = .ok (.isub, 1) := by decide +kernel
theorem dX0_another_5 : decode cX0_another 5 = .ok (.invokevirtual 138, 3) := by decide +kernel
theorem dX0_another_8 : decode cX0_another 8 = .ok (.istore_n 3, 1) := by decide +kernel
theorem dX0_another_9 : decode cX0_another 9 = .ok (.iload_n 3, 1) := by decide +kernel
theorem dX0_another_10 : decode cX0_another 10 = .ok (.iload_n 1, 1) := by decide +kernel
theorem dX0_another_11 : decode cX0_another 11 = .ok (.if_icmp .ne 16, 3) := by decide +kernel
theorem dX0_another_14 : decode cX0_another 14 = .ok (.iload_n 3, 1) := by decide +kernel
theorem dX0_another_15 : decode cX0_another 15 = .ok (.iconst (-1), 1) := by decide +kernel
theorem dX0_another_16 : decode cX0_another 16 = .ok (.if_icmp .eq 11, 3) := by decide +kernel
theorem dX0_another_19 : decode cX0_another 19 = .ok (.aload_n 0, 1) := by decide +kernel
theorem dX0_another_20 : decode cX0_another 20 = .ok (.iconst 2, 1) := by decide +kernel
theorem dX0_another_21 : decode cX0_another 21 = .ok (.invokevirtual 88, 3) := by decide +kernel
theorem dX0_another_24 : decode cX0_another 24 = .ok (.pop, 1) := by decide +kernel
theorem dX0_another_25 : decode cX0_another 25 = .ok (.iconst (-1), 1) := by decide +kernel
theorem dX0_another_26 : decode cX0_another 26 = .ok (.ireturn, 1) := by decide +kernel
theorem dX0_another_27 : decode cX0_another 27 = .ok (.iload_n 3, 1) := by decide +kernel
theorem dX0_another_28 : decode cX0_another 28 = .ok (.ireturn, 1) := by decide +kernel
set_option maxRecDepth 100000 in
theorem T_X0_another_0 {G : GE} {d C S : Nat} {P : KI} : Snd G MX0_another (d + 1) C S 0 (RI P) (s_aload 0 (s_iconst 0 (s_iload 2 (s_iconst 1 (s_isub (s_callV G d MX10_readNumber 2 9 (s_istore 3 (s_iload 3 (s_iload 1 (s_ic_ne (s_iload 3 (s_ireturn P)) (s_iload 3 (s_iconst (-1) (s_ic_eq (s_iload 3 (s_ireturn P)) (s_aload 0 (s_iconst 2 (s_callV G d MX10_mark 1 9 (s_pop (s_iconst (-1) (s_ireturn P))))))))))))))))))) := (e_aload_n dX0_another_0 rfl (e_iconst (v := 0) dX0_another_1 (by decide) (e_iload_n dX0_another_2 rfl (e_iconst (v := 1) dX0_another_3 (by decide) (e_isub dX0_another_4 (e_callV cl_9 cal_X10_readNumber q_892 q_893 q_894 dX0_another_5 (e_istore_n dX0_another_8 rfl (by decide) (e_iload_n dX0_another_9 rfl (e_iload_n dX0_another_10 rfl (e_ic_ne (tgt := 27) dX0_another_11 (by decide) (e_iload_n dX0_another_27 rfl (e_ireturn rfl dX0_another_28)) (e_iload_n dX0_another_14 rfl (e_iconst (v := (-1)) dX0_another_15 (by decide) (e_ic_eq (tgt := 27) dX0_another_16 (by decide) (e_iload_n dX0_another_27 rfl (e_ireturn rfl dX0_another_28)) (e_aload_n dX0_another_19 rfl (e_iconst (v := 2) dX0_another_20 (by decide) (e_callV cl_9 cal_X10_mark q_880 q_881 q_882 dX0_another_21 (e_pop dX0_another_24 (e_iconst (v := (-1)) dX0_another_25 (by decide) (e_ireturn rfl dX0_another_26)))))))))))))))))))
set_option maxRecDepth 100000 in
theorem V_X0_another_0 {G : GE} {d : Nat} {P : KI} {a : Nat → Nat → Int32} {r : Nat → Nat → Value} {N : Nat} {l0 : Nat} {l1 : Int32} {l2 : Int32} (hs : (tyK l0 = (0, 9) ∧ l0 < N ∧ Sp G d 0 0 MX10_readNumber [.ref l0, .int 0, .int (l2 - 1)] (a, r, N) (RI fun v4 a1 r2 n3 => ((¬ v4 = l1 → P v4 a1 r2 n3) ∧ (v4 = l1 → ((v4 = (-1) → P v4 a1 r2 n3) ∧ (¬ v4 = (-1) → (tyK l0 = (0, 9) ∧ l0 < n3 ∧ Sp G d 0 0 MX10_mark [.ref l0, .int 2] (a1, r2, n3) (RI fun v8 a5 r6 n7 => P (-1) a5 r6 n7))))))))) : Sp G (d + 1) 0 0 MX0_another [.ref l0, .int l1, .int l2] (a, r, N) (RI P) := Sp.mk (mc := 0) (ms := 0) [.ref l0, .int l1, .int l2, .null] rfl rfl rfl rfl (T_X0_another_0 (C := 0) (S := 0) _ _ _ hs)
theorem dX0_addCorner_0 : decode cX0_addCorner 0 = .ok (.aload_n 0, 1) := by decide +kernel
theorem dX0_addCorner_1 : decode cX0_addCorner 1 = .ok (.getfield 11, 3) := by decide +kernel
theorem dX0_addCorner_4 : decode cX0_addCorner 4 = .ok (.aload_n 0, 1) := by decide +kernel
theorem dX0_addCorner_5 : decode cX0_addCorner 5 = .ok (.getfield 48, 3) := by decide +kernel
theorem dX0_addCorner_8 : decode cX0_addCorner 8 = .ok (.iload_n 1, 1) := by decide +kernel
theorem dX0_addCorner_9 : decode cX0_addCorner 9 = .ok (.invokestatic 163, 3) := by decide +kernel
theorem dX0_addCorner_12 : decode cX0_addCorner 12 = .ok (.aload_n 0, 1) := by decide +kernel
theorem dX0_addCorner_13 : decode cX0_addCorner 13 = .ok (.getfield 15, 3) := by decide +kernel
theorem dX0_addCorner_16 : decode cX0_addCorner 16 = .ok (.aload_n 0, 1) := by decide +kernel
theorem dX0_addCorner_17 : decode cX0_addCorner 17 = .ok (.getfield 48, 3) := by decide +kernel
theorem dX0_addCorner_20 : decode cX0_addCorner 20 = .ok (.iload_n 2, 1) := by decide +kernel
theorem dX0_addCorner_21 : decode cX0_addCorner 21 = .ok (.invokestatic 163, 3) := by decide +kernel
theorem dX0_addCorner_24 : decode cX0_addCorner 24 = .ok (.aload_n 0, 1) := by decide +kernel
theorem dX0_addCorner_25 : decode cX0_addCorner 25 = .ok (.dup, 1) := by decide +kernel
theorem dX0_addCorner_26 : decode cX0_addCorner 26 = .ok (.getfield 48, 3) := by decide +kernel
theorem dX0_addCorner_29 : decode cX0_addCorner 29 = .ok (.iconst 1, 1) := by decide +kernel
theorem dX0_addCorner_30 : decode cX0_addCorner 30 = .ok (.iadd, 1) := by decide +kernel
theorem dX0_addCorner_31 : decode cX0_addCorner 31 = .ok (.putfield 48, 3) := by decide +kernel
theorem dX0_addCorner_34 : decode cX0_addCorner 34 = .ok (.return_, 1) := by decide +kernel
set_option maxRecDepth 100000 in
theorem T_X0_addCorner_0 {G : GE} {d C S : Nat} {P : KN} : Snd G MX0_addCorner (d + 1) C S 0 (RN P) (s_aload 0 (s_getR 0 4 (s_aload 0 (s_getI 0 0 (s_iload 1 (s_call G d MX9_put 3 (s_aload 0 (s_getR 0 5 (s_aload 0 (s_getI 0 0 (s_iload 2 (s_call G d MX9_put 3 (s_aload 0 (s_dup (s_getI 0 0 (s_iconst 1 (s_iadd (s_putI 0 0 (s_return P))))))))))))))))))) := (e_aload_n dX0_addCorner_0 rfl (e_getR rfl cl_0 (by decide) rfl q_198 dX0_addCorner_1 (e_aload_n dX0_addCorner_4 rfl (e_getI rfl cl_0 (by decide) rfl q_187 dX0_addCorner_5 (e_iload_n dX0_addCorner_8 rfl (e_callS cal_X9_put q_905 q_419 dX0_addCorner_9 (e_aload_n dX0_addCorner_12 rfl (e_getR rfl cl_0 (by decide) rfl q_199 dX0_addCorner_13 (e_aload_n dX0_addCorner_16 rfl (e_getI rfl cl_0 (by decide) rfl q_187 dX0_addCorner_17 (e_iload_n dX0_addCorner_20 rfl (e_callS cal_X9_put q_905 q_419 dX0_addCorner_21 (e_aload_n dX0_addCorner_24 rfl (e_dup dX0_addCorner_25 (e_getI rfl cl_0 (by decide) rfl q_187 dX0_addCorner_26 (e_iconst (v := 1) dX0_addCorner_29 (by decide) (e_iadd dX0_addCorner_30 (e_putI rfl cl_0 (by decide) rfl rfl rfl q_187 dX0_addCorner_31 (e_return rfl dX0_addCorner_34)))))))))))))))))))
set_option maxRecDepth 100000 in
theorem V_X0_addCorner_0 {G : GE} {d : Nat} {P : KN} {a : Nat → Nat → Int32} {r : Nat → Nat → Value} {N : Nat} {l0 : Nat} {l1 : Int32} {l2 : Int32} (hs : (tyK l0 = (0, 0) ∧ l0 < N ∧ ∃ q1, r l0 4 = .ref q1 ∧ (tyK l0 = (0, 0) ∧ l0 < N ∧ Sp G d 0 0 MX9_put [.ref q1, .int (a l0 0), .int l1] (a, r, N) (RN fun a2 r3 n4 => (tyK l0 = (0, 0) ∧ l0 < n4 ∧ ∃ q5, r3 l0 5 = .ref q5 ∧ (tyK l0 = (0, 0) ∧ l0 < n4 ∧ Sp G d 0 0 MX9_put [.ref q5, .int (a2 l0 0), .int l2] (a2, r3, n4) (RN fun a6 r7 n8 => (tyK l0 = (0, 0) ∧ l0 < n8 ∧ (tyK l0 = (0, 0) ∧ l0 < n8 ∧ ∀ a9, a9 = u2 a6 l0 0 ((a6 l0 0) + 1) → P a9 r7 n8))))))))) : Sp G (d + 1) 0 0 MX0_addCorner [.ref l0, .int l1, .int l2] (a, r, N) (RN P) := Sp.mk (mc := 0) (ms := 0) [.ref l0, .int l1, .int l2] rfl rfl rfl rfl (T_X0_addCorner_0 (C := 0) (S := 0) _ _ _ hs)
theorem dX0_addStreet_0 : decode cX0_addStreet 0 = .ok (.aload_n 0, 1) := by decide +kernel
theorem dX0_addStreet_1 : decode cX0_addStreet 1 = .ok (.getfield 18, 3) := by decide +kernel
theorem dX0_addStreet_4 : decode cX0_addStreet 4 = .ok (.aload_n 0, 1) := by decide +kernel
theorem dX0_addStreet_5 : decode cX0_addStreet 5 = .ok (.getfield 52, 3) := by decide +kernel
theorem dX0_addStreet_8 : decode cX0_addStreet 8 = .ok (.iload_n 1, 1) := by decide +kernel
theorem dX0_addStreet_9 : decode cX0_addStreet 9 = .ok (.invokestatic 163, 3) := by decide +kernel
theorem dX0_addStreet_12 : decode cX0_addStreet 12 = .ok (.aload_n 0, 1) := by decide +kernel
theorem dX0_addStreet_13 : decode cX0_addStreet 13 = .ok (.getfield 21, 3) := by decide +kernel
theorem dX0_addStreet_16 : decode cX0_addStreet 16 = .ok (.aload_n 0, 1) := by decide +kernel
theorem dX0_addStreet_17 : decode cX0_addStreet 17 = .ok (.getfield 52, 3) := by decide +kernel
theorem dX0_addStreet_20 : decode cX0_addStreet 20 = .ok (.iload_n 2, 1) := by decide +kernel
theorem dX0_addStreet_21 : decode cX0_addStreet 21 = .ok (.invokestatic 163, 3) := by decide +kernel
theorem dX0_addStreet_24 : decode cX0_addStreet 24 = .ok (.aload_n 0, 1) := by decide +kernel
theorem dX0_addStreet_25 : decode cX0_addStreet 25 = .ok (.getfield 24, 3) := by decide +kernel
theorem dX0_addStreet_28 : decode cX0_addStreet 28 = .ok (.aload_n 0, 1) := by decide +kernel
theorem dX0_addStreet_29 : decode cX0_addStreet 29 = .ok (.getfield 52, 3) := by decide +kernel
theorem dX0_addStreet_32 : decode cX0_addStreet 32 = .ok (.iload_n 3, 1) := by decide +kernel
theorem dX0_addStreet_33 : decode cX0_addStreet 33 = .ok (.invokestatic 163, 3) := by decide +kernel
theorem dX0_addStreet_36 : decode cX0_addStreet 36 = .ok (.aload_n 0, 1) := by decide +kernel
theorem dX0_addStreet_37 : decode cX0_addStreet 37 = .ok (.getfield 27, 3) := by decide +kernel
theorem dX0_addStreet_40 : decode cX0_addStreet 40 = .ok (.aload_n 0, 1) := by decide +kernel
theorem dX0_addStreet_41 : decode cX0_addStreet 41 = .ok (.getfield 52, 3) := by decide +kernel
theorem dX0_addStreet_44 : decode cX0_addStreet 44 = .ok (.iload 4, 2) := by decide +kernel
theorem dX0_addStreet_46 : decode cX0_addStreet 46 = .ok (.invokestatic 163, 3) := by decide +kernel
theorem dX0_addStreet_49 : decode cX0_addStreet 49 = .ok (.aload_n 0, 1) := by decide +kernel
theorem dX0_addStreet_50 : decode cX0_addStreet 50 = .ok (.getfield 30, 3) := by decide +kernel
theorem dX0_addStreet_53 : decode cX0_addStreet 53 = .ok (.aload_n 0, 1) := by decide +kernel
theorem dX0_addStreet_54 : decode cX0_addStreet 54 = .ok (.getfield 52, 3) := by decide +kernel
theorem dX0_addStreet_57 : decode cX0_addStreet 57 = .ok (.aload_n 0, 1) := by decide +kernel
theorem dX0_addStreet_58 : decode cX0_addStreet 58 = .ok (.getfield 11, 3) := by decide +kernel
theorem dX0_addStreet_61 : decode cX0_addStreet 61 = .ok (.iload_n 1, 1) := by decide +kernel
theorem dX0_addStreet_62 : decode cX0_addStreet 62 = .ok (.invokestatic 167, 3) := by decide +kernel
theorem dX0_addStreet_65 : decode cX0_addStreet 65 = .ok (.aload_n 0, 1) := by decide +kernel
theorem dX0_addStreet_66 : decode cX0_addStreet 66 = .ok (.getfield 11, 3) := by decide +kernel
theorem dX0_addStreet_69 : decode cX0_addStreet 69 = .ok (.iload_n 2, 1) := by decide +kernel
theorem dX0_addStreet_70 : decode cX0_addStreet 70 = .ok (.invokestatic 167, 3) := by decide +kernel
theorem dX0_addStreet_73 : decode cX0_addStreet 73 = .ok (.isub, 1) := by decide +kernel
theorem dX0_addStreet_74 : decode cX0_addStreet 74 = .ok (.invokestatic 171, 3) := by decide +kernel
theorem dX0_addStreet_77 : decode cX0_addStreet 77 = .ok (.aload_n 0, 1) := by decide +kernel
theorem dX0_addStreet_78 : decode cX0_addStreet 78 = .ok (.getfield 15, 3) := by decide +kernel
theorem dX0_addStreet_81 : decode cX0_addStreet 81 = .ok (.iload_n 1, 1) := by decide +kernel
theorem dX0_addStreet_82 : decode cX0_addStreet 82 = .ok (.invokestatic 167, 3) := by decide +kernel
theorem dX0_addStreet_85 : decode cX0_addStreet 85 = .ok (.aload_n 0, 1) := by decide +kernel
theorem dX0_addStreet_86 : decode cX0_addStreet 86 = .ok (.getfield 15, 3) := by decide +kernel
theorem dX0_addStreet_89 : decode cX0_addStreet 89 = .ok (.iload_n 2, 1) := by decide +kernel
theorem dX0_addStreet_90 : decode cX0_addStreet 90 = .ok (.invokestatic 167, 3) := by decide +kernel
theorem dX0_addStreet_93 : decode cX0_addStreet 93 = .ok (.isub, 1) := by decide +kernel
theorem dX0_addStreet_94 : decode cX0_addStreet 94 = .ok (.invokestatic 171, 3) := by decide +kernel
theorem dX0_addStreet_97 : decode cX0_addStreet 97 = .ok (.iadd, 1) := by decide +kernel
theorem dX0_addStreet_98 : decode cX0_addStreet 98 = .ok (.invokestatic 163, 3) := by decide +kernel
theorem dX0_addStreet_101 : decode cX0_addStreet 101 = .ok (.aload_n 0, 1) := by decide +kernel
theorem dX0_addStreet_102 : decode cX0_addStreet 102 = .ok (.dup, 1) := by decide +kernel
theorem dX0_addStreet_103 : decode cX0_addStreet 103 = .ok (.getfield 52, 3) := by decide +kernel
theorem dX0_addStreet_106 : decode cX0_addStreet 106 = .ok (.iconst 1, 1) := by decide +kernel
theorem dX0_addStreet_107 : decode cX0_addStreet 107 = .ok (.iadd, 1) := by decide +kernel
theorem dX0_addStreet_108 : decode cX0_addStreet 108 = .ok (.putfield 52, 3) := by decide +kernel
theorem dX0_addStreet_111 : decode cX0_addStreet 111 = .ok (.return_, 1) := by decide +kernel
set_option maxRecDepth 100000 in
theorem T_X0_addStreet_0 {G : GE} {d C S : Nat} {P : KN} : Snd G MX0_addStreet (d + 1) C S 0 (RN P) (s_aload 0 (s_getR 0 6 (s_aload 0 (s_getI 0 1 (s_iload 1 (s_call G d MX9_put 3 (s_aload 0 (s_getR 0 7 (s_aload 0 (s_getI 0 1 (s_iload 2 (s_call G d MX9_put 3 (s_aload 0 (s_getR 0 8 (s_aload 0 (s_getI 0 1 (s_iload 3 (s_call G d MX9_put 3 (s_aload 0 (s_getR 0 9 (s_aload 0 (s_getI 0 1 (s_iload 4 (s_call G d MX9_put 3 (s_aload 0 (s_getR 0 10 (s_aload 0 (s_getI 0 1 (s_aload 0 (s_getR 0 4 (s_iload 1 (s_call G d MX9_at 2 (s_aload 0 (s_getR 0 4 (s_iload 2 (s_call G d MX9_at 2 (s_isub (s_abs (s_aload 0 (s_getR 0 5 (s_iload 1 (s_call G d MX9_at 2 (s_aload 0 (s_getR 0 5 (s_iload 2 (s_call G d MX9_at 2 (s_isub (s_abs (s_iadd (s_call G d MX9_put 3 (s_aload 0 (s_dup (s_getI 0 1 (s_iconst 1 (s_iadd (s_putI 0 1 (s_return P))))))))))))))))))))))))))))))))))))))))))))))))))))))))) := (e_aload_n dX0_addStreet_0 rfl (e_getR rfl cl_0 (by decide) rfl q_200 dX0_addStreet_1 (e_aload_n dX0_addStreet_4 rfl (e_getI rfl cl_0 (by decide) rfl q_190 dX0_addStreet_5 (e_iload_n dX0_addStreet_8 rfl (e_callS cal_X9_put q_905 q_419 dX0_addStreet_9 (e_aload_n dX0_addStreet_12 rfl (e_getR rfl cl_0 (by decide) rfl q_201 dX0_addStreet_13 (e_aload_n dX0_addStreet_16 rfl (e_getI rfl cl_0 (by decide) rfl q_190 dX0_addStreet_17 (e_iload_n dX0_addStreet_20 rfl (e_callS cal_X9_put q_905 q_419 dX0_addStreet_21 (e_aload_n dX0_addStreet_24 rfl (e_getR rfl cl_0 (by decide) rfl q_202 dX0_addStreet_25 (e_aload_n dX0_addStreet_28 rfl (e_getI rfl cl_0 (by decide) rfl q_190 dX0_addStreet_29 (e_iload_n dX0_addStreet_32 rfl (e_callS cal_X9_put q_905 q_419 dX0_addStreet_33 (e_aload_n dX0_addStreet_36 rfl (e_getR rfl cl_0 (by decide) rfl q_203 dX0_addStreet_37 (e_aload_n dX0_addStreet_40 rfl (e_getI rfl cl_0 (by decide) rfl q_190 dX0_addStreet_41 (e_iload dX0_addStreet_44 (e_callS cal_X9_put q_905 q_419 dX0_addStreet_46 (e_aload_n dX0_addStreet_49 rfl (e_getR rfl cl_0 (by decide) rfl q_204 dX0_addStreet_50 (e_aload_n dX0_addStreet_53 rfl (e_getI rfl cl_0 (by decide) rfl q_190 dX0_addStreet_54 (e_aload_n dX0_addStreet_57 rfl (e_getR rfl cl_0 (by decide) rfl q_198 dX0_addStreet_58 (e_iload_n dX0_addStreet_61 rfl (e_callS cal_X9_at q_425 q_426 dX0_addStreet_62 (e_aload_n dX0_addStreet_65 rfl (e_getR rfl cl_0 (by decide) rfl q_198 dX0_addStreet_66 (e_iload_n dX0_addStreet_69 rfl (e_callS cal_X9_at q_425 q_426 dX0_addStreet_70 (e_isub dX0_addStreet_73 (e_abs q_917 q_918 q_127 q_919 dX0_addStreet_74 (e_aload_n dX0_addStreet_77 rfl (e_getR rfl cl_0 (by decide) rfl q_199 dX0_addStreet_78 (e_iload_n dX0_addStreet_81 rfl (e_callS cal_X9_at q_425 q_426 dX0_addStreet_82 (e_aload_n dX0_addStreet_85 rfl (e_getR rfl cl_0 (by decide) rfl q_199 dX0_addStreet_86 (e_iload_n dX0_addStreet_89 rfl (e_callS cal_X9_at q_425 q_426 dX0_addStreet_90 (e_isub dX0_addStreet_93 (e_abs q_917 q_918 q_127 q_919 dX0_addStreet_94 (e_iadd dX0_addStreet_97 (e_callS cal_X9_put q_905 q_419 dX0_addStreet_98 (e_aload_n dX0_addStreet_101 rfl (e_dup dX0_addStreet_102 (e_getI rfl cl_0 (by decide) rfl q_190 dX0_addStreet_103 (e_iconst (v := 1) dX0_addStreet_106 (by decide) (e_iadd dX0_addStreet_107 (e_putI rfl cl_0 (by decide) rfl rfl rfl q_190 dX0_addStreet_108 (e_return rfl dX0_addStreet_111)))))))))))))))))))))))))))))))))))))))))))))))))))))))))
set_option maxRecDepth 100000 in
theorem V_X0_addStreet_0 {G : GE} {d : Nat} {P : KN} {a : Nat → Nat → Int32} {r : Nat → Nat → Value} {N : Nat} {l0 : Nat} {l1 : Int32} {l2 : Int32} {l3 : Int32} {l4 : Int32} (hs : (tyK l0 = (0, 0) ∧ l0 < N ∧ ∃ q1, r l0 6 = .ref q1 ∧ (tyK l0 = (0, 0) ∧ l0 < N ∧ Sp G d 0 0 MX9_put [.ref q1, .int (a l0 1), .int l1] (a, r, N) (RN fun a2 r3 n4 => (tyK l0 = (0, 0) ∧ l0 < n4 ∧ ∃ q5, r3 l0 7 = .ref q5 ∧ (tyK l0 = (0, 0) ∧ l0 < n4 ∧ Sp G d 0 0 MX9_put [.ref q5, .int (a2 l0 1), .int l2] (a2, r3, n4) (RN fun a6 r7 n8 => (tyK l0 = (0, 0) ∧ l0 < n8 ∧ ∃ q9, r7 l0 8 = .ref q9 ∧ (tyK l0 = (0, 0) ∧ l0 < n8 ∧ Sp G d 0 0 MX9_put [.ref q9, .int (a6 l0 1), .int l3] (a6, r7, n8) (RN fun a10 r11 n12 => (tyK l0 = (0, 0) ∧ l0 < n12 ∧ ∃ q13, r11 l0 9 = .ref q13 ∧ (tyK l0 = (0, 0) ∧ l0 < n12 ∧ Sp G d 0 0 MX9_put [.ref q13, .int (a10 l0 1), .int l4] (a10, r11, n12) (RN fun a14 r15 n16 => (tyK l0 = (0, 0) ∧ l0 < n16 ∧ ∃ q17, r15 l0 10 = .ref q17 ∧ (tyK l0 = (0, 0) ∧ l0 < n16 ∧ (tyK l0 = (0, 0) ∧ l0 < n16 ∧ ∃ q18, r15 l0 4 = .ref q18 ∧ Sp G d 0 0 MX9_at [.ref q18, .int l1] (a14, r15, n16) (RI fun v22 a19 r20 n21 => (tyK l0 = (0, 0) ∧ l0 < n21 ∧ ∃ q23, r20 l0 4 = .ref q23 ∧ Sp G d 0 0 MX9_at [.ref q23, .int l2] (a19, r20, n21) (RI fun v27 a24 r25 n26 => (tyK l0 = (0, 0) ∧ l0 < n26 ∧ ∃ q28, r25 l0 5 = .ref q28 ∧ Sp G d 0 0 MX9_at [.ref q28, .int l1] (a24, r25, n26) (RI fun v32 a29 r30 n31 => (tyK l0 = (0, 0) ∧ l0 < n31 ∧ ∃ q33, r30 l0 5 = .ref q33 ∧ Sp G d 0 0 MX9_at [.ref q33, .int l2] (a29, r30, n31) (RI fun v37 a34 r35 n36 => Sp G d 0 0 MX9_put [.ref q17, .int (a14 l0 1), .int ((if 0 ≤ (v22 - v27) then (v22 - v27) else 0 - (v22 - v27)) + (if 0 ≤ (v32 - v37) then (v32 - v37) else 0 - (v32 - v37)))] (a34, r35, n36) (RN fun a38 r39 n40 => (tyK l0 = (0, 0) ∧ l0 < n40 ∧ (tyK l0 = (0, 0) ∧ l0 < n40 ∧ ∀ a41, a41 = u2 a38 l0 1 ((a38 l0 1) + 1) → P a41 r39 n40)))))))))))))))))))))))))) : Sp G (d + 1) 0 0 MX0_addStreet [.ref l0, .int l1, .int l2, .int l3, .int l4] (a, r, N) (RN P) := Sp.mk (mc := 0) (ms := 0) [.ref l0, .int l1, .int l2, .int l3, .int l4] rfl rfl rfl rfl (T_X0_addStreet_0 (C := 0) (S := 0) _ _ _ hs)
theorem dX0_addGood_0 : decode cX0_addGood 0 = .ok (.aload_n 0, 1) := by decide +kernel
theorem dX0_addGood_1 : decode cX0_addGood 1 = .ok (.getfield 39, 3) := by decide +kernel
theorem dX0_addGood_4 : decode cX0_addGood 4 = .ok (.aload_n 0, 1) := by decide +kernel
theorem dX0_addGood_5 : decode cX0_addGood 5 = .ok (.getfield 55, 3) := by decide +kernel
theorem dX0_addGood_8 : decode cX0_addGood 8 = .ok (.iload_n 1, 1) := by decide +kernel
theorem dX0_addGood_9 : decode cX0_addGood 9 = .ok (.invokestatic 163, 3) := by decide +kernel
theorem dX0_addGood_12 : decode cX0_addGood 12 = .ok (.aload_n 0, 1) := by decide +kernel
theorem dX0_addGood_13 : decode cX0_addGood 13 = .ok (.getfield 42, 3) := by decide +kernel
theorem dX0_addGood_16 : decode cX0_addGood 16 = .ok (.aload_n 0, 1) := by decide +kernel
theorem dX0_addGood_17 : decode cX0_addGood 17 = .ok (.getfield 55, 3) := by decide +kernel
theorem dX0_addGood_20 : decode cX0_addGood 20 = .ok (.iload_n 2, 1) := by decide +kernel
theorem dX0_addGood_21 : decode cX0_addGood 21 = .ok (.invokestatic 163, 3) := by decide +kernel
theorem dX0_addGood_24 : decode cX0_addGood 24 = .ok (.aload_n 0, 1) := by decide +kernel
theorem dX0_addGood_25 : decode cX0_addGood 25 = .ok (.dup, 1) := by decide +kernel
theorem dX0_addGood_26 : decode cX0_addGood 26 = .ok (.getfield 55, 3) := by decide +kernel
theorem dX0_addGood_29 : decode cX0_addGood 29 = .ok (.iconst 1, 1) := by decide +kernel
theorem dX0_addGood_30 : decode cX0_addGood 30 = .ok (.iadd, 1) := by decide +kernel
theorem dX0_addGood_31 : decode cX0_addGood 31 = .ok (.putfield 55, 3) := by decide +kernel
theorem dX0_addGood_34 : decode cX0_addGood 34 = .ok (.return_, 1) := by decide +kernel
set_option maxRecDepth 100000 in
theorem T_X0_addGood_0 {G : GE} {d C S : Nat} {P : KN} : Snd G MX0_addGood (d + 1) C S 0 (RN P) (s_aload 0 (s_getR 0 13 (s_aload 0 (s_getI 0 2 (s_iload 1 (s_call G d MX9_put 3 (s_aload 0 (s_getR 0 14 (s_aload 0 (s_getI 0 2 (s_iload 2 (s_call G d MX9_put 3 (s_aload 0 (s_dup (s_getI 0 2 (s_iconst 1 (s_iadd (s_putI 0 2 (s_return P))))))))))))))))))) := (e_aload_n dX0_addGood_0 rfl (e_getR rfl cl_0 (by decide) rfl q_207 dX0_addGood_1 (e_aload_n dX0_addGood_4 rfl (e_getI rfl cl_0 (by decide) rfl q_194 dX0_addGood_5 (e_iload_n dX0_addGood_8 rfl (e_callS cal_X9_put q_905 q_419 dX0_addGood_9 (e_aload_n dX0_addGood_12 rfl (e_getR rfl cl_0 (by decide) rfl q_208 dX0_addGood_13 (e_aload_n dX0_addGood_16 rfl (e_getI rfl cl_0 (by decide) rfl q_194 dX0_addGood_17 (e_iload_n dX0_addGood_20 rfl (e_callS cal_X9_put q_905 q_419 dX0_addGood_21 (e_aload_n dX0_addGood_24 rfl (e_dup dX0_addGood_25 (e_getI rfl cl_0 (by decide) rfl q_194 dX0_addGood_26 (e_iconst (v := 1) dX0_addGood_29 (by decide) (e_iadd dX0_addGood_30 (e_putI rfl cl_0 (by decide) rfl rfl rfl q_194 dX0_addGood_31 (e_return rfl dX0_addGood_34)))))))))))))))))))
set_option maxRecDepth 100000 in
theorem V_X0_addGood_0 {G : GE} {d : Nat} {P : KN} {a : Nat → Nat → Int32} {r : Nat → Nat → Value} {N : Nat} {l0 : Nat} {l1 : Int32} {l2 : Int32} (hs : (tyK l0 = (0, 0) ∧ l0 < N ∧ ∃ q1, r l0 13 = .ref q1 ∧ (tyK l0 = (0, 0) ∧ l0 < N ∧ Sp G d 0 0 MX9_put [.ref q1, .int (a l0 2), .int l1] (a, r, N) (RN fun a2 r3 n4 => (tyK l0 = (0, 0) ∧ l0 < n4 ∧ ∃ q5, r3 l0 14 = .ref q5 ∧ (tyK l0 = (0, 0) ∧ l0 < n4 ∧ Sp G d 0 0 MX9_put [.ref q5, .int (a2 l0 2), .int l2] (a2, r3, n4) (RN fun a6 r7 n8 => (tyK l0 = (0, 0) ∧ l0 < n8 ∧ (tyK l0 = (0, 0) ∧ l0 < n8 ∧ ∀ a9, a9 = u2 a6 l0 2 ((a6 l0 2) + 1) → P a9 r7 n8))))))))) : Sp G (d + 1) 0 0 MX0_addGood [.ref l0, .int l1, .int l2] (a, r, N) (RN P) := Sp.mk (mc := 0) (ms := 0) [.ref l0, .int l1, .int l2] rfl rfl rfl rfl (T_X0_addGood_0 (C := 0) (S := 0) _ _ _ hs)
theorem dX0_setLiking_0 : decode cX0_setLiking 0 = .ok (.aload_n 0, 1) := by decide +kernel
theorem dX0_setLiking_1 : decode cX0_setLiking 1 = .ok (.getfield 33, 3) := by decide +kernel
theorem dX0_setLiking_4 : decode cX0_setLiking 4 = .ok (.iload_n 1, 1) := by decide +kernel
theorem dX0_setLiking_5 : decode cX0_setLiking 5 = .ok (.bipush 8, 2) := by decide +kernel
theorem dX0_setLiking_7 : decode cX0_setLiking 7 = .ok (.imul, 1) := by decide +kernel
theorem dX0_setLiking_8 : decode cX0_setLiking 8 = .ok (.iload_n 2, 1) := by decide +kernel
theorem dX0_setLiking_9 : decode cX0_setLiking 9 = .ok (.iadd, 1) := by decide +kernel
theorem dX0_setLiking_10 : decode cX0_setLiking 10 = .ok (.iload_n 3, 1) := by decide +kernel
theorem dX0_setLiking_11 : decode cX0_setLiking 11 = .ok (.invokestatic 163, 3) := by decide +kernel
theorem dX0_setLiking_14 : decode cX0_setLiking 14 = .ok (.return_, 1) := by decide +kernel
set_option maxRecDepth 100000 in
theorem T_X0_setLiking_0 {G : GE} {d C S : Nat} {P : KN} : Snd G MX0_setLiking (d + 1) C S 0 (RN P) (s_aload 0 (s_getR 0 11 (s_iload 1 (s_iconst 8 (s_imul (s_iload 2 (s_iadd (s_iload 3 (s_call G d MX9_put 3 (s_return P)))))))))) := (e_aload_n dX0_setLiking_0 rfl (e_getR rfl cl_0 (by decide) rfl q_205 dX0_setLiking_1 (e_iload_n dX0_setLiking_4 rfl (e_bipush (v := 8) dX0_setLiking_5 (by decide) (e_imul dX0_setLiking_7 (e_iload_n dX0_setLiking_8 rfl (e_iadd dX0_setLiking_9 (e_iload_n dX0_setLiking_10 rfl (e_callS cal_X9_put q_905 q_419 dX0_setLiking_11 (e_return rfl dX0_setLiking_14))))))))))
set_option maxRecDepth 100000 in
theorem V_X0_setLiking_0 {G : GE} {d : Nat} {P : KN} {a : Nat → Nat → Int32} {r : Nat → Nat → Value} {N : Nat} {l0 : Nat} {l1 : Int32} {l2 : Int32} {l3 : Int32} (hs : (tyK l0 = (0, 0) ∧ l0 < N ∧ ∃ q1, r l0 11 = .ref q1 ∧ Sp G d 0 0 MX9_put [.ref q1, .int ((l1 * 8) + l2), .int l3] (a, r, N) (RN fun a2 r3 n4 => P a2 r3 n4))) : Sp G (d + 1) 0 0 MX0_setLiking [.ref l0, .int l1, .int l2, .int l3] (a, r, N) (RN P) := Sp.mk (mc := 0) (ms := 0) [.ref l0, .int l1, .int l2, .int l3] rfl rfl rfl rfl (T_X0_setLiking_0 (C := 0) (S := 0) _ _ _ hs)
theorem dX0_forbid_0 : decode cX0_forbid 0 = .ok (.aload_n 0, 1) := by decide +kernel
theorem dX0_forbid_1 : decode cX0_forbid 1 = .ok (.getfield 36, 3) := by decide +kernel
theorem dX0_forbid_4 : decode cX0_forbid 4 = .ok (.iload_n 1, 1) := by decide +kernel
theorem dX0_forbid_5 : decode cX0_forbid 5 = .ok (.aload_n 0, 1) := by decide +kernel
theorem dX0_forbid_6 : decode cX0_forbid 6 = .ok (.getfield 36, 3) := by decide +kernel
theorem dX0_forbid_9 : decode cX0_forbid 9 = .ok (.iload_n 1, 1) := by decide +kernel
theorem dX0_forbid_10 : decode cX0_forbid 10 = .ok (.invokestatic 167, 3) := by decide +kernel
theorem dX0_forbid_13 : decode cX0_forbid 13 = .ok (.iconst 1, 1) := by decide +kernel
theorem dX0_forbid_14 : decode cX0_forbid 14 = .ok (.iload_n 2, 1) := by decide +kernel
theorem dX0_forbid_15 : decode cX0_forbid 15 = .ok (.ishl, 1) := by decide +kernel
theorem dX0_forbid_16 : decode cX0_forbid 16 = .ok (.ior, 1) := by decide +kernel
theorem dX0_forbid_17 : decode cX0_forbid 17 = .ok (.invokestatic 163, 3) := by decide +kernel
theorem dX0_forbid_20 : decode cX0_forbid 20 = .ok (.aload_n 0, 1) := by decide +kernel
theorem dX0_forbid_21 : decode cX0_forbid 21 = .ok (.getfield 36, 3) := by decide +kernel
theorem dX0_forbid_24 : decode cX0_forbid 24 = .ok (.iload_n 2, 1) := by decide +kernel
theorem dX0_forbid_25 : decode cX0_forbid 25 = .ok (.aload_n 0, 1) := by decide +kernel
theorem dX0_forbid_26 : decode cX0_forbid 26 = .ok (.getfield 36, 3) := by decide +kernel
theorem dX0_forbid_29 : decode cX0_forbid 29 = .ok (.iload_n 2, 1) := by decide +kernel
theorem dX0_forbid_30 : decode cX0_forbid 30 = .ok (.invokestatic 167, 3) := by decide +kernel
theorem dX0_forbid_33 : decode cX0_forbid 33 = .ok (.iconst 1, 1) := by decide +kernel
theorem dX0_forbid_34 : decode cX0_forbid 34 = .ok (.iload_n 1, 1) := by decide +kernel
theorem dX0_forbid_35 : decode cX0_forbid 35 = .ok (.ishl, 1) := by decide +kernel
theorem dX0_forbid_36 : decode cX0_forbid 36 = .ok (.ior, 1) := by decide +kernel
theorem dX0_forbid_37 : decode cX0_forbid 37 = .ok (.invokestatic 163, 3) := by decide +kernel
theorem dX0_forbid_40 : decode cX0_forbid 40 = .ok (.return_, 1) := by decide +kernel
set_option maxRecDepth 100000 in
theorem T_X0_forbid_0 {G : GE} {d C S : Nat} {P : KN} : Snd G MX0_forbid (d + 1) C S 0 (RN P) (s_aload 0 (s_getR 0 12 (s_iload 1 (s_aload 0 (s_getR 0 12 (s_iload 1 (s_call G d MX9_at 2 (s_iconst 1 (s_iload 2 (s_ishl (s_ior (s_call G d MX9_put 3 (s_aload 0 (s_getR 0 12 (s_iload 2 (s_aload 0 (s_getR 0 12 (s_iload 2 (s_call G d MX9_at 2 (s_iconst 1 (s_iload 1 (s_ishl (s_ior (s_call G d MX9_put 3 (s_return P))))))))))))))))))))))))) := (e_aload_n dX0_forbid_0 rfl (e_getR rfl cl_0 (by decide) rfl q_206 dX0_forbid_1 (e_iload_n dX0_forbid_4 rfl (e_aload_n dX0_forbid_5 rfl (e_getR rfl cl_0 (by decide) rfl q_206 dX0_forbid_6 (e_iload_n dX0_forbid_9 rfl (e_callS cal_X9_at q_425 q_426 dX0_forbid_10 (e_iconst (v := 1) dX0_forbid_13 (by decide) (e_iload_n dX0_forbid_14 rfl (e_ishl dX0_forbid_15 (e_ior dX0_forbid_16 (e_callS cal_X9_put q_905 q_419 dX0_forbid_17 (e_aload_n dX0_forbid_20 rfl (e_getR rfl cl_0 (by decide) rfl q_206 dX0_forbid_21 (e_iload_n dX0_forbid_24 rfl (e_aload_n dX0_forbid_25 rfl (e_getR rfl cl_0 (by decide) rfl q_206 dX0_forbid_26 (e_iload_n dX0_forbid_29 rfl (e_callS cal_X9_at q_425 q_426 dX0_forbid_30 (e_iconst (v := 1) dX0_forbid_33 (by decide) (e_iload_n dX0_forbid_34 rfl (e_ishl dX0_forbid_35 (e_ior dX0_forbid_36 (e_callS cal_X9_put q_905 q_419 dX0_forbid_37 (e_return rfl dX0_forbid_40)))))))))))))))))))))))))
set_option maxRecDepth 100000 in
theorem V_X0_forbid_0 {G : GE} {d : Nat} {P : KN} {a : Nat → Nat → Int32} {r : Nat → Nat → Value} {N : Nat} {l0 : Nat} {l1 : Int32} {l2 : Int32} (hs : (tyK l0 = (0, 0) ∧ l0 < N ∧ ∃ q1, r l0 12 = .ref q1 ∧ (tyK l0 = (0, 0) ∧ l0 < N ∧ ∃ q2, r l0 12 = .ref q2 ∧ Sp G d 0 0 MX9_at [.ref q2, .int l1] (a, r, N) (RI fun v6 a3 r4 n5 => Sp G d 0 0 MX9_put [.ref q1, .int l1, .int (v6 ||| ((1 : Int32) <<< (l2 &&& 31)))] (a3, r4, n5) (RN fun a7 r8 n9 => (tyK l0 = (0, 0) ∧ l0 < n9 ∧ ∃ q10, r8 l0 12 = .ref q10 ∧ (tyK l0 = (0, 0) ∧ l0 < n9 ∧ ∃ q11, r8 l0 12 = .ref q11 ∧ Sp G d 0 0 MX9_at [.ref q11, .int l2] (a7, r8, n9) (RI fun v15 a12 r13 n14 => Sp G d 0 0 MX9_put [.ref q10, .int l2, .int (v15 ||| ((1 : Int32) <<< (l1 &&& 31)))] (a12, r13, n14) (RN fun a16 r17 n18 => P a16 r17 n18))))))))) : Sp G (d + 1) 0 0 MX0_forbid [.ref l0, .int l1, .int l2] (a, r, N) (RN P) := Sp.mk (mc := 0) (ms := 0) [.ref l0, .int l1, .int l2] rfl rfl rfl rfl (T_X0_forbid_0 (C := 0) (S := 0) _ _ _ hs)
theorem dX0_setLane_0 : decode cX0_setLane 0 = .ok (.aload_n 0, 1) := by decide +kernel
theorem dX0_setLane_1 : decode cX0_setLane 1 = .ok (.iload_n 1, 1) := by decide +kernel
theorem dX0_setLane_2 : decode cX0_setLane 2 = .ok (.putfield 177, 3) := by decide +kernel
theorem dX0_setLane_5 : decode cX0_setLane 5 = .ok (.aload_n 0, 1) := by decide +kernel
theorem dX0_setLane_6 : decode cX0_setLane 6 = .ok (.iload_n 2, 1) := by decide +kernel
theorem dX0_setLane_7 : decode cX0_setLane 7 = .ok (.putfield 180, 3) := by decide +kernel
theorem dX0_setLane_10 : decode cX0_setLane 10 = .ok (.aload_n 0, 1) := by decide +kernel
theorem dX0_setLane_11 : decode cX0_setLane 11 = .ok (.iload_n 3, 1) := by decide +kernel
theorem dX0_setLane_12 : decode cX0_setLane 12 = .ok (.putfield 183, 3) := by decide +kernel
theorem dX0_setLane_15 : decode cX0_setLane 15 = .ok (.aload_n 0, 1) := by decide +kernel
theorem dX0_setLane_16 : decode cX0_setLane 16 = .ok (.iload 4, 2) := by decide +kernel
theorem dX0_setLane_18 : decode cX0_setLane 18 = .ok (.putfield 186, 3) := by decide +kernel
theorem dX0_setLane_21 : decode cX0_setLane 21 = .ok (.return_, 1) := by decide +kernel
set_option maxRecDepth 100000 in
theorem T_X0_setLane_0 {G : GE} {d C S : Nat} {P : KN} : Snd G MX0_setLane d C S 0 (RN P) (s_aload 0 (s_iload 1 (s_putI 0 15 (s_aload 0 (s_iload 2 (s_putI 0 16 (s_aload 0 (s_iload 3 (s_putI 0 17 (s_aload 0 (s_iload 4 (s_putI 0 18 (s_return P))))))))))))) := (e_aload_n dX0_setLane_0 rfl (e_iload_n dX0_setLane_1 rfl (e_putI rfl cl_0 (by decide) rfl rfl rfl q_209 dX0_setLane_2 (e_aload_n dX0_setLane_5 rfl (e_iload_n dX0_setLane_6 rfl (e_putI rfl cl_0 (by decide) rfl rfl rfl q_210 dX0_setLane_7 (e_aload_n dX0_setLane_10 rfl (e_iload_n dX0_setLane_11 rfl (e_putI rfl cl_0 (by decide) rfl rfl rfl q_211 dX0_setLane_12 (e_aload_n dX0_setLane_15 rfl (e_iload dX0_setLane_16 (e_putI rfl cl_0 (by decide) rfl rfl rfl q_212 dX0_setLane_18 (e_return rfl dX0_setLane_21)))))))))))))
set_option maxRecDepth 100000 in
theorem V_X0_setLane_0 {G : GE} {d : Nat} {P : KN} {a : Nat → Nat → Int32} {r : Nat → Nat → Value} {N : Nat} {l0 : Nat} {l1 : Int32} {l2 : Int32} {l3 : Int32} {l4 : Int32} (hs : (tyK l0 = (0, 0) ∧ l0 < N ∧ ∀ a1, a1 = u2 a l0 15 l1 → (tyK l0 = (0, 0) ∧ l0 < N ∧ ∀ a2, a2 = u2 a1 l0 16 l2 → (tyK l0 = (0, 0) ∧ l0 < N ∧ ∀ a3, a3 = u2 a2 l0 17 l3 → (tyK l0 = (0, 0) ∧ l0 < N ∧ ∀ a4, a4 = u2 a3 l0 18 l4 → P a4 r N))))) : Sp G d 0 0 MX0_setLane [.ref l0, .int l1, .int l2, .int l3, .int l4] (a, r, N) (RN P) := Sp.mk (mc := 0) (ms := 0) [.ref l0, .int l1, .int l2, .int l3, .int l4] rfl rfl rfl rfl (T_X0_setLane_0 (C := 0) (S := 0) _ _ _ hs)
theorem dX0_startOf_0 : decode cX0_startOf 0 = .ok (.aload_n 0, 1) := by decide +kernel
theorem dX0_startOf_1 : decode cX0_startOf 1 = .ok (.getfield 18, 3) := by decide +kernel
theorem dX0_startOf_4 : decode cX0_startOf 4 = .ok (.iload_n 1, 1) := by decide +kernel
theorem dX0_startOf_5 : decode cX0_startOf 5 = .ok (.invokestatic 167, 3) := by decide +kernel
theorem dX0_startOf_8 : decode cX0_startOf 8 = .ok (.ireturn, 1) := by decide +kernel
set_option maxRecDepth 100000 in
theorem T_X0_startOf_0 {G : GE} {d C S : Nat} {P : KI} : Snd G MX0_startOf (d + 1) C S 0 (RI P) (s_aload 0 (s_getR 0 6 (s_iload 1 (s_call G d MX9_at 2 (s_ireturn P))))) := (e_aload_n dX0_startOf_0 rfl (e_getR rfl cl_0 (by decide) rfl q_200 dX0_startOf_1 (e_iload_n dX0_startOf_4 rfl (e_callS cal_X9_at q_425 q_426 dX0_startOf_5 (e_ireturn rfl dX0_startOf_8)))))
set_option maxRecDepth 100000 in
theorem V_X0_startOf_0 {G : GE} {d : Nat} {P : KI} {a : Nat → Nat → Int32} {r : Nat → Nat → Value} {N : Nat} {l0 : Nat} {l1 : Int32} (hs : (tyK l0 = (0, 0) ∧ l0 < N ∧ ∃ q1, r l0 6 = .ref q1 ∧ Sp G d 0 0 MX9_at [.ref q1, .int l1] (a, r, N) (RI fun v5 a2 r3 n4 => P v5 a2 r3 n4))) : Sp G (d + 1) 0 0 MX0_startOf [.ref l0, .int l1] (a, r, N) (RI P) := Sp.mk (mc := 0) (ms := 0) [.ref l0, .int l1] rfl rfl rfl rfl (T_X0_startOf_0 (C := 0) (S := 0) _ _ _ hs)
theorem dX0_endOf_0 : decode cX0_endOf 0 = .ok (.aload_n 0, 1) := by decide +kernel
theorem dX0_endOf_1 : decode cX0_endOf 1 = .ok (.getfield 21, 3) := by decide +kernel
theorem dX0_endOf_4 : decode cX0_endOf 4 = .ok (.iload_n 1, 1) := by decide +kernel
theorem dX0_endOf_5 : decode cX0_endOf 5 = .ok (.invokestatic 167, 3) := by decide +kernel
theorem dX0_endOf_8 : decode cX0_endOf 8 = .ok (.ireturn, 1) := by decide +kernel
set_option maxRecDepth 100000 in
theorem T_X0_endOf_0 {G : GE} {d C S : Nat} {P : KI} : Snd G MX0_endOf (d + 1) C S 0 (RI P) (s_aload 0 (s_getR 0 7 (s_iload 1 (s_call G d MX9_at 2 (s_ireturn P))))) := (e_aload_n dX0_endOf_0 rfl (e_getR rfl cl_0 (by decide) rfl q_201 dX0_endOf_1 (e_iload_n dX0_endOf_4 rfl (e_callS cal_X9_at q_425 q_426 dX0_endOf_5 (e_ireturn rfl dX0_endOf_8)))))
set_option maxRecDepth 100000 in
theorem V_X0_endOf_0 {G : GE} {d : Nat} {P : KI} {a : Nat → Nat → Int32} {r : Nat → Nat → Value} {N : Nat} {l0 : Nat} {l1 : Int32} (hs : (tyK l0 = (0, 0) ∧ l0 < N ∧ ∃ q1, r l0 7 = .ref q1 ∧ Sp G d 0 0 MX9_at [.ref q1, .int l1] (a, r, N) (RI fun v5 a2 r3 n4 => P v5 a2 r3 n4))) : Sp G (d + 1) 0 0 MX0_endOf [.ref l0, .int l1] (a, r, N) (RI P) := Sp.mk (mc := 0) (ms := 0) [.ref l0, .int l1] rfl rfl rfl rfl (T_X0_endOf_0 (C := 0) (S := 0) _ _ _ hs)
theorem dX0_housesOf_0 : decode cX0_housesOf 0 = .ok (.aload_n 0, 1) := by decide +kernel
theorem dX0_housesOf_1 : decode cX0_housesOf 1 = .ok (.getfield 24, 3) := by decide +kernel
theorem dX0_housesOf_4 : decode cX0_housesOf 4 = .ok (.iload_n 1, 1) := by decide +kernel
theorem dX0_housesOf_5 : decode cX0_housesOf 5 = .ok (.invokestatic 167, 3) := by decide +kernel
theorem dX0_housesOf_8 : decode cX0_housesOf 8 = .ok (.ireturn, 1) := by decide +kernel
set_option maxRecDepth 100000 in
theorem T_X0_housesOf_0 {G : GE} {d C S : Nat} {P : KI} : Snd G MX0_housesOf (d + 1) C S 0 (RI P) (s_aload 0 (s_getR 0 8 (s_iload 1 (s_call G d MX9_at 2 (s_ireturn P))))) := (e_aload_n dX0_housesOf_0 rfl (e_getR rfl cl_0 (by decide) rfl q_202 dX0_housesOf_1 (e_iload_n dX0_housesOf_4 rfl (e_callS cal_X9_at q_425 q_426 dX0_housesOf_5 (e_ireturn rfl dX0_housesOf_8)))))
set_option maxRecDepth 100000 in
theorem V_X0_housesOf_0 {G : GE} {d : Nat} {P : KI} {a : Nat → Nat → Int32} {r : Nat → Nat → Value} {N : Nat} {l0 : Nat} {l1 : Int32} (hs : (tyK l0 = (0, 0) ∧ l0 < N ∧ ∃ q1, r l0 8 = .ref q1 ∧ Sp G d 0 0 MX9_at [.ref q1, .int l1] (a, r, N) (RI fun v5 a2 r3 n4 => P v5 a2 r3 n4))) : Sp G (d + 1) 0 0 MX0_housesOf [.ref l0, .int l1] (a, r, N) (RI P) := Sp.mk (mc := 0) (ms := 0) [.ref l0, .int l1] rfl rfl rfl rfl (T_X0_housesOf_0 (C := 0) (S := 0) _ _ _ hs)
theorem dX0_firstTreesOf_0 : decode cX0_firstTreesOf 0 = .ok (.iload_n 1, 1) := by decide +kernel
theorem dX0_firstTreesOf_1 : decode cX0_firstTreesOf 1 = .ok (.aload_n 0, 1) := by decide +kernel
theorem dX0_firstTreesOf_2 : decode cX0_firstTreesOf 2 = .ok (.getfield 52, 3) := by decide +kernel
theorem dX0_firstTreesOf_5 : decode cX0_firstTreesOf 5 = .ok (.if_icmp .ge 14, 3) := by decide +kernel
theorem dX0_firstTreesOf_8 : decode cX0_firstTreesOf 8 = .ok (.aload_n 0, 1) := by decide +kernel
theorem dX0_firstTreesOf_9 : decode cX0_firstTreesOf 9 = .ok (.getfield 27, 3) := by decide +kernel
theorem dX0_firstTreesOf_12 : decode cX0_firstTreesOf 12 = .ok (.iload_n 1, 1) := by decide +kernel
theorem dX0_firstTreesOf_13 : decode cX0_firstTreesOf 13 = .ok (.invokestatic 167, 3) := by decide +kernel
theorem dX0_firstTreesOf_16 : decode cX0_firstTreesOf 16 = .ok (.goto 4, 3) := by decide +kernel
theorem dX0_firstTreesOf_19 : decode cX0_firstTreesOf 19 = .ok (.iconst 0, 1) := by decide +kernel
theorem dX0_firstTreesOf_20 : decode cX0_firstTreesOf 20 = .ok (.ireturn, 1) := by decide +kernel
set_option maxRecDepth 100000 in
theorem T_X0_firstTreesOf_0 {G : GE} {d C S : Nat} {P : KI} : Snd G MX0_firstTreesOf (d + 1) C S 0 (RI P) (s_iload 1 (s_aload 0 (s_getI 0 1 (s_ic_ge (s_iconst 0 (s_ireturn P)) (s_aload 0 (s_getR 0 9 (s_iload 1 (s_call G d MX9_at 2 (s_ireturn P))))))))) := (e_iload_n dX0_firstTreesOf_0 rfl (e_aload_n dX0_firstTreesOf_1 rfl (e_getI rfl cl_0 (by decide) rfl q_190 dX0_firstTreesOf_2 (e_ic_ge (tgt := 19) dX0_firstTreesOf_5 (by decide) (e_iconst (v := 0) dX0_firstTreesOf_19 (by decide) (e_ireturn rfl dX0_firstTreesOf_20)) (e_aload_n dX0_firstTreesOf_8 rfl (e_getR rfl cl_0 (by decide) rfl q_203 dX0_firstTreesOf_9 (e_iload_n dX0_firstTreesOf_12 rfl (e_callS cal_X9_at q_425 q_426 dX0_firstTreesOf_13 (e_goto (tgt := 20) dX0_firstTreesOf_16 (by decide) (e_ireturn rfl dX0_firstTreesOf_20))))))))))
set_option maxRecDepth 100000 in
theorem V_X0_firstTreesOf_0 {G : GE} {d : Nat} {P : KI} {a : Nat → Nat → Int32} {r : Nat → Nat → Value} {N : Nat} {l0 : Nat} {l1 : Int32} (hs : (tyK l0 = (0, 0) ∧ l0 < N ∧ (((a l0 1) ≤ l1 → P 0 a r N) ∧ (¬ (a l0 1) ≤ l1 → (tyK l0 = (0, 0) ∧ l0 < N ∧ ∃ q1, r l0 9 = .ref q1 ∧ Sp G d 0 0 MX9_at [.ref q1, .int l1] (a, r, N) (RI fun v5 a2 r3 n4 => P v5 a2 r3 n4)))))) : Sp G (d + 1) 0 0 MX0_firstTreesOf [.ref l0, .int l1] (a, r, N) (RI P) := Sp.mk (mc := 0) (ms := 0) [.ref l0, .int l1] rfl rfl rfl rfl (T_X0_firstTreesOf_0 (C := 0) (S := 0) _ _ _ hs)
theorem dX0_lengthOf_0 : decode cX0_lengthOf 0 = .ok (.aload_n 0, 1) := by decide +kernel
theorem dX0_lengthOf_1 : decode cX0_lengthOf 1 = .ok (.getfield 30, 3) := by decide +kernel
theorem dX0_lengthOf_4 : decode cX0_lengthOf 4 = .ok (.iload_n 1, 1) := by decide +kernel
theorem dX0_lengthOf_5 : decode cX0_lengthOf 5 = .ok (.invokestatic 167, 3) := by decide +kernel
theorem dX0_lengthOf_8 : decode cX0_lengthOf 8 = .ok (.ireturn, 1) := by decide +kernel
set_option maxRecDepth 100000 in
theorem T_X0_lengthOf_0 {G : GE} {d C S : Nat} {P : KI} : Snd G MX0_lengthOf (d + 1) C S 0 (RI P) (s_aload 0 (s_getR 0 10 (s_iload 1 (s_call G d MX9_at 2 (s_ireturn P))))) := (e_aload_n dX0_lengthOf_0 rfl (e_getR rfl cl_0 (by decide) rfl q_204 dX0_lengthOf_1 (e_iload_n dX0_lengthOf_4 rfl (e_callS cal_X9_at q_425 q_426 dX0_lengthOf_5 (e_ireturn rfl dX0_lengthOf_8)))))
set_option maxRecDepth 100000 in
theorem V_X0_lengthOf_0 {G : GE} {d : Nat} {P : KI} {a : Nat → Nat → Int32} {r : Nat → Nat → Value} {N : Nat} {l0 : Nat} {l1 : Int32} (hs : (tyK l0 = (0, 0) ∧ l0 < N ∧ ∃ q1, r l0 10 = .ref q1 ∧ Sp G d 0 0 MX9_at [.ref q1, .int l1] (a, r, N) (RI fun v5 a2 r3 n4 => P v5 a2 r3 n4))) : Sp G (d + 1) 0 0 MX0_lengthOf [.ref l0, .int l1] (a, r, N) (RI P) := Sp.mk (mc := 0) (ms := 0) [.ref l0, .int l1] rfl rfl rfl rfl (T_X0_lengthOf_0 (C := 0) (S := 0) _ _ _ hs)
theorem dX0_liking_0 : decode cX0_liking 0 = .ok (.iload_n 2, 1) := by decide +kernel
theorem dX0_liking_1 : decode cX0_liking 1 = .ok (.iconst (-1), 1) := by decide +kernel
theorem dX0_liking_2 : decode cX0_liking 2 = .ok (.if_icmp .ne 7, 3) := by decide +kernel
theorem dX0_liking_5 : decode cX0_liking 5 = .ok (.iconst 0, 1) := by decide +kernel
theorem dX0_liking_6 : decode cX0_liking 6 = .ok (.goto 16, 3) := by decide +kernel
theorem dX0_liking_9 : decode cX0_liking 9 = .ok (.aload_n 0, 1) := by decide +kernel
theorem dX0_liking_10 : decode cX0_liking 10 = .ok (.getfield 33, 3) := by decide +kernel
theorem dX0_liking_13 : decode cX0_liking 13 = .ok (.iload_n 1, 1) := by decide +kernel
theorem dX0_liking_14 : decode cX0_liking 14 = .ok (.bipush 8, 2) := by decide +kernel
theorem dX0_liking_16 : decode cX0_liking 16 = .ok (.imul, 1) := by decide +kernel
theorem dX0_liking_17 : decode cX0_liking 17 = .ok (.iload_n 2, 1) := by decide +kernel
theorem dX0_liking_18 : decode cX0_liking 18 = .ok (.iadd, 1) := by decide +kernel
theorem dX0_liking_19 : decode cX0_liking 19 = .ok (.invokestatic 167, 3) := by decide +kernel
theorem dX0_liking_22 : decode cX0_liking 22 = .ok (.ireturn, 1) := by decide +kernel
set_option maxRecDepth 100000 in
theorem T_X0_liking_0 {G : GE} {d C S : Nat} {P : KI} : Snd G MX0_liking (d + 1) C S 0 (RI P) (s_iload 2 (s_iconst (-1) (s_ic_ne (s_aload 0 (s_getR 0 11 (s_iload 1 (s_iconst 8 (s_imul (s_iload 2 (s_iadd (s_call G d MX9_at 2 (s_ireturn P))))))))) (s_iconst 0 (s_ireturn P))))) := (e_iload_n dX0_liking_0 rfl (e_iconst (v := (-1)) dX0_liking_1 (by decide) (e_ic_ne (tgt := 9) dX0_liking_2 (by decide) (e_aload_n dX0_liking_9 rfl (e_getR rfl cl_0 (by decide) rfl q_205 dX0_liking_10 (e_iload_n dX0_liking_13 rfl (e_bipush (v := 8) dX0_liking_14 (by decide) (e_imul dX0_liking_16 (e_iload_n dX0_liking_17 rfl (e_iadd dX0_liking_18 (e_callS cal_X9_at q_425 q_426 dX0_liking_19 (e_ireturn rfl dX0_liking_22))))))))) (e_iconst (v := 0) dX0_liking_5 (by decide) (e_goto (tgt := 22) dX0_liking_6 (by decide) (e_ireturn rfl dX0_liking_22))))))
set_option maxRecDepth 100000 in
theorem V_X0_liking_0 {G : GE} {d : Nat} {P : KI} {a : Nat → Nat → Int32} {r : Nat → Nat → Value} {N : Nat} {l0 : Nat} {l1 : Int32} {l2 : Int32} (hs : ((¬ l2 = (-1) → (tyK l0 = (0, 0) ∧ l0 < N ∧ ∃ q1, r l0 11 = .ref q1 ∧ Sp G d 0 0 MX9_at [.ref q1, .int ((l1 * 8) + l2)] (a, r, N) (RI fun v5 a2 r3 n4 => P v5 a2 r3 n4))) ∧ (l2 = (-1) → P 0 a r N))) : Sp G (d + 1) 0 0 MX0_liking [.ref l0, .int l1, .int l2] (a, r, N) (RI P) := Sp.mk (mc := 0) (ms := 0) [.ref l0, .int l1, .int l2] rfl rfl rfl rfl (T_X0_liking_0 (C := 0) (S := 0) _ _ _ hs)
theorem dX0_isNever_0 : decode cX0_isNever 0 = .ok (.aload_n 0, 1) := by decide +kernel
theorem dX0_isNever_1 : decode cX0_isNever 1 = .ok (.getfield 36, 3) := by decide +kernel
theorem dX0_isNever_4 : decode cX0_isNever 4 = .ok (.iload_n 1, 1) := by decide +kernel
theorem dX0_isNever_5 : decode cX0_isNever 5 = .ok (.invokestatic 167, 3) := by decide +kernel
theorem dX0_isNever_8 : decode cX0_isNever 8 = .ok (.iload_n 2, 1) := by decide +kernel
theorem dX0_isNever_9 : decode cX0_isNever 9 = .ok (.ishr, 1) := by decide +kernel
theorem dX0_isNever_10 : decode cX0_isNever 10 = .ok (.iconst 1, 1) := by decide +kernel
theorem dX0_isNever_11 : decode cX0_isNever 11 = .ok (.iand, 1) := by decide +kernel
theorem dX0_isNever_12 : decode cX0_isNever 12 = .ok (.iconst 1, 1) := by decide +kernel
theorem dX0_isNever_13 : decode cX0_isNever 13 = .ok (.if_icmp .ne 7, 3) := by decide +kernel
theorem dX0_isNever_16 : decode cX0_isNever 16 = .ok (.iconst 1, 1) := by decide +kernel
theorem dX0_isNever_17 : decode cX0_isNever 17 = .ok (.goto 4, 3) := by decide +kernel
theorem dX0_isNever_20 : decode cX0_isNever 20 = .ok (.iconst 0, 1) := by decide +kernel
theorem dX0_isNever_21 : decode cX0_isNever 21 = .ok (.ireturn, 1) := by decide +kernel
set_option maxRecDepth 100000 in
theorem T_X0_isNever_0 {G : GE} {d C S : Nat} {P : KI} : Snd G MX0_isNever (d + 1) C S 0 (RI P) (s_aload 0 (s_getR 0 12 (s_iload 1 (s_call G d MX9_at 2 (s_iload 2 (s_ishr (s_iconst 1 (s_iand (s_iconst 1 (s_ic_ne (s_iconst 0 (s_zreturn P)) (s_iconst 1 (s_zreturn P)))))))))))) := (e_aload_n dX0_isNever_0 rfl (e_getR rfl cl_0 (by decide) rfl q_206 dX0_isNever_1 (e_iload_n dX0_isNever_4 rfl (e_callS cal_X9_at q_425 q_426 dX0_isNever_5 (e_iload_n dX0_isNever_8 rfl (e_ishr dX0_isNever_9 (e_iconst (v := 1) dX0_isNever_10 (by decide) (e_iand dX0_isNever_11 (e_iconst (v := 1) dX0_isNever_12 (by decide) (e_ic_ne (tgt := 20) dX0_isNever_13 (by decide) (e_iconst (v := 0) dX0_isNever_20 (by decide) (e_zreturn rfl dX0_isNever_21)) (e_iconst (v := 1) dX0_isNever_16 (by decide) (e_goto (tgt := 21) dX0_isNever_17 (by decide) (e_zreturn rfl dX0_isNever_21)))))))))))))
set_option maxRecDepth 100000 in
theorem V_X0_isNever_0 {G : GE} {d : Nat} {P : KI} {a : Nat → Nat → Int32} {r : Nat → Nat → Value} {N : Nat} {l0 : Nat} {l1 : Int32} {l2 : Int32} (hs : (tyK l0 = (0, 0) ∧ l0 < N ∧ ∃ q1, r l0 12 = .ref q1 ∧ Sp G d 0 0 MX9_at [.ref q1, .int l1] (a, r, N) (RI fun v5 a2 r3 n4 => ((¬ ((v5 >>> (l2 &&& 31)) &&& 1) = 1 → (bz 0 ∧ P 0 a2 r3 n4)) ∧ (((v5 >>> (l2 &&& 31)) &&& 1) = 1 → (bz 1 ∧ P 1 a2 r3 n4)))))) : Sp G (d + 1) 0 0 MX0_isNever [.ref l0, .int l1, .int l2] (a, r, N) (RI P) := Sp.mk (mc := 0) (ms := 0) [.ref l0, .int l1, .int l2] rfl rfl rfl rfl (T_X0_isNever_0 (C := 0) (S := 0) _ _ _ hs)
theorem dX0_commonCorners_0 : decode cX0_commonCorners 0 = .ok (.aload_n 0, 1) := by decide +kernel
theorem dX0_commonCorners_1 : decode cX0_commonCorners 1 = .ok (.getfield 18, 3) := by decide +kernel
theorem dX0_commonCorners_4 : decode cX0_commonCorners 4 = .ok (.iload_n 2, 1) := by decide +kernel
theorem dX0_commonCorners_5 : decode cX0_commonCorners 5 = .ok (.invokestatic 167, 3) := by decide +kernel
theorem dX0_commonCorners_8 : decode cX0_commonCorners 8 = .ok (.istore_n 3, 1) := by decide +kernel
theorem dX0_commonCorners_9 : decode cX0_commonCorners 9 = .ok (.aload_n 0, 1) := by decide +kernel
theorem dX0_commonCorners_10 : decode cX0_commonCorners 10 = .ok (.getfield 21, 3) := by decide +kernel
theorem dX0_commonCorners_13 : decode cX0_commonCorners 13 = .ok (.iload_n 2, 1) := by decide +kernel
theorem dX0_commonCorners_14 : decode cX0_commonCorners 14 = .ok (.invokestatic 167, 3) := by decide +kernel
theorem dX0_commonCorners_17 : decode cX0_commonCorners 17 = .ok (.istore 4, 2) := by decide +kernel
theorem dX0_commonCorners_19 : decode cX0_commonCorners 19 = .ok (.aload_n 0, 1) := by decide +kernel
theorem dX0_commonCorners_20 : decode cX0_commonCorners 20 = .ok (.getfield 18, 3) := by decide +kernel
theorem dX0_commonCorners_23 : decode cX0_commonCorners 23 = .ok (.iload_n 1, 1) := by decide +kernel
theorem dX0_commonCorners_24 : decode cX0_commonCorners 24 = .ok (.invokestatic 167, 3) := by decide +kernel
theorem dX0_commonCorners_27 : decode cX0_commonCorners 27 = .ok (.istore 5, 2) := by decide +kernel
theorem dX0_commonCorners_29 : decode cX0_commonCorners 29 = .ok (.aload_n 0, 1) := by decide +kernel
theorem dX0_commonCorners_30 : decode cX0_commonCorners 30 = .ok (.getfield 21, 3) := by decide +kernel
theorem dX0_commonCorners_33 : decode cX0_commonCorners 33 = .ok (.iload_n 1, 1) := by decide +kernel
theorem dX0_commonCorners_34 : decode cX0_commonCorners 34 = .ok (.invokestatic 167, 3) := by decide +kernel
theorem dX0_commonCorners_37 : decode cX0_commonCorners 37 = .ok (.istore 6, 2) := by decide +kernel
theorem dX0_commonCorners_39 : decode cX0_commonCorners 39 = .ok (.iload 5, 2) := by decide +kernel
theorem dX0_commonCorners_41 : decode cX0_commonCorners 41 = .ok (.iload_n 3, 1) := by decide +kernel
theorem dX0_commonCorners_42 : decode cX0_commonCorners 42 = .ok (.if_icmp .eq 10, 3) := by decide +kernel
theorem dX0_commonCorners_45 : decode cX0_commonCorners 45 = .ok (.iload 5, 2) := by decide +kernel
theorem dX0_commonCorners_47 : decode cX0_commonCorners 47 = .ok (.iload 4, 2) := by decide +kernel
theorem dX0_commonCorners_49 : decode cX0_commonCorners 49 = .ok (.if_icmp .ne 7, 3) := by decide +kernel
theorem dX0_commonCorners_52 : decode cX0_commonCorners 52 = .ok (.iconst 1, 1) := by decide +kernel
theorem dX0_commonCorners_53 : decode cX0_commonCorners 53 = .ok (.goto 4, 3) := by decide +kernel
theorem dX0_commonCorners_56 : decode cX0_commonCorners 56 = .ok (.iconst 0, 1) := by decide +kernel
theorem dX0_commonCorners_57 : decode cX0_commonCorners 57 = .ok (.iload 6, 2) := by decide +kernel
theorem dX0_commonCorners_59 : decode cX0_commonCorners 59 = .ok (.iload_n 3, 1) := by decide +kernel
theorem dX0_commonCorners_60 : decode cX0_commonCorners 60 = .ok (.if_icmp .eq 10, 3) := by decide +kernel
theorem dX0_commonCorners_63 : decode cX0_commonCorners 63 = .ok (.iload 6, 2) := by decide +kernel
theorem dX0_commonCorners_65 : decode cX0_commonCorners 65 = .ok (.iload 4, 2) := by decide +kernel
theorem dX0_commonCorners_67 : decode cX0_commonCorners 67 = .ok (.if_icmp .ne 7, 3) := by decide +kernel
theorem dX0_commonCorners_70 : decode cX0_commonCorners 70 = .ok (.iconst 1, 1) := by decide +kernel
theorem dX0_commonCorners_71 : decode cX0_commonCorners 71 = .ok (.goto 4, 3) := by decide +kernel
theorem dX0_commonCorners_74 : decode cX0_commonCorners 74 = .ok (.iconst 0, 1) := by decide +kernel
theorem dX0_commonCorners_75 : decode cX0_commonCorners 75 = .ok (.iadd, 1) := by decide +kernel
theorem dX0_commonCorners_76 : decode cX0_commonCorners 76 = .ok (.ireturn, 1) := by decide +kernel
set_option maxRecDepth 100000 in
theorem T_X0_commonCorners_0 {G : GE} {d C S : Nat} {P : KI} : Snd G MX0_commonCorners (d + 1) C S 0 (RI P) (s_aload 0 (s_getR 0 6 (s_iload 2 (s_call G d MX9_at 2 (s_istore 3 (s_aload 0 (s_getR 0 7 (s_iload 2 (s_call G d MX9_at 2 (s_istore 4 (s_aload 0 (s_getR 0 6 (s_iload 1 (s_call G d MX9_at 2 (s_istore 5 (s_aload 0 (s_getR 0 7 (s_iload 1 (s_call G d MX9_at 2 (s_istore 6 (s_iload 5 (s_iload 3 (s_ic_eq (s_iconst 1 (s_iload 6 (s_iload 3 (s_ic_eq (s_iconst 1 (s_iadd (s_ireturn P))) (s_iload 6 (s_iload 4 (s_ic_ne (s_iconst 0 (s_iadd (s_ireturn P))) (s_iconst 1 (s_iadd (s_ireturn P)))))))))) (s_iload 5 (s_iload 4 (s_ic_ne (s_iconst 0 (s_iload 6 (s_iload 3 (s_ic_eq (s_iconst 1 (s_iadd (s_ireturn P))) (s_iload 6 (s_iload 4 (s_ic_ne (s_iconst 0 (s_iadd (s_ireturn P))) (s_iconst 1 (s_iadd (s_ireturn P)))))))))) (s_iconst 1 (s_iload 6 (s_iload 3 (s_ic_eq (s_iconst 1 (s_iadd (s_ireturn P))) (s_iload 6 (s_iload 4 (s_ic_ne (s_iconst 0 (s_iadd (s_ireturn P))) (s_iconst 1 (s_iadd (s_ireturn P)))))))))))))))))))))))))))))))))))) := (e_aload_n dX0_commonCorners_0 rfl (e_getR rfl cl_0 (by decide) rfl q_200 dX0_commonCorners_1 (e_iload_n dX0_commonCorners_4 rfl (e_callS cal_X9_at q_425 q_426 dX0_commonCorners_5 (e_istore_n dX0_commonCorners_8 rfl (by decide) (e_aload_n dX0_commonCorners_9 rfl (e_getR rfl cl_0 (by decide) rfl q_201 dX0_commonCorners_10 (e_iload_n dX0_commonCorners_13 rfl (e_callS cal_X9_at q_425 q_426 dX0_commonCorners_14 (e_istore dX0_commonCorners_17 (by decide) (e_aload_n dX0_commonCorners_19 rfl (e_getR rfl cl_0 (by decide) rfl q_200 dX0_commonCorners_20 (e_iload_n dX0_commonCorners_23 rfl (e_callS cal_X9_at q_425 q_426 dX0_commonCorners_24 (e_istore dX0_commonCorners_27 (by decide) (e_aload_n dX0_commonCorners_29 rfl (e_getR rfl cl_0 (by decide) rfl q_201 dX0_commonCorners_30 (e_iload_n dX0_commonCorners_33 rfl (e_callS cal_X9_at q_425 q_426 dX0_commonCorners_34 (e_istore dX0_commonCorners_37 (by decide) (e_iload dX0_commonCorners_39 (e_iload_n dX0_commonCorners_41 rfl (e_ic_eq (tgt := 52) dX0_commonCorners_42 (by decide) (e_iconst (v := 1) dX0_commonCorners_52 (by decide) (e_goto (tgt := 57) dX0_commonCorners_53 (by decide) (e_iload dX0_commonCorners_57 (e_iload_n dX0_commonCorners_59 rfl (e_ic_eq (tgt := 70) dX0_commonCorners_60 (by decide) (e_iconst (v := 1) dX0_commonCorners_70 (by decide) (e_goto (tgt := 75) dX0_commonCorners_71 (by decide) (e_iadd dX0_commonCorners_75 (e_ireturn rfl dX0_commonCorners_76)))) (e_iload dX0_commonCorners_63 (e_iload dX0_commonCorners_65 (e_ic_ne (tgt := 74) dX0_commonCorners_67 (by decide) (e_iconst (v := 0) dX0_commonCorners_74 (by decide) (e_iadd dX0_commonCorners_75 (e_ireturn rfl dX0_commonCorners_76))) (e_iconst (v := 1) dX0_commonCorners_70 (by decide) (e_goto (tgt := 75) dX0_commonCorners_71 (by decide) (e_iadd dX0_commonCorners_75 (e_ireturn rfl dX0_commonCorners_76)))))))))))) (e_iload dX0_commonCorners_45 (e_iload dX0_commonCorners_47 (e_ic_ne (tgt := 56) dX0_commonCorners_49 (by decide) (e_iconst (v := 0) dX0_commonCorners_56 (by decide) (e_iload dX0_commonCorners_57 (e_iload_n dX0_commonCorners_59 rfl (e_ic_eq (tgt := 70) dX0_commonCorners_60 (by decide) (e_iconst (v := 1) dX0_commonCorners_70 (by decide) (e_goto (tgt := 75) dX0_commonCorners_71 (by decide) (e_iadd dX0_commonCorners_75 (e_ireturn rfl dX0_commonCorners_76)))) (e_iload dX0_commonCorners_63 (e_iload dX0_commonCorners_65 (e_ic_ne (tgt := 74) dX0_commonCorners_67 (by decide) (e_iconst (v := 0) dX0_commonCorners_74 (by decide) (e_iadd dX0_commonCorners_75 (e_ireturn rfl dX0_commonCorners_76))) (e_iconst (v := 1) dX0_commonCorners_70 (by decide) (e_goto (tgt := 75) dX0_commonCorners_71 (by decide) (e_iadd dX0_commonCorners_75 (e_ireturn rfl dX0_commonCorners_76))))))))))) (e_iconst (v := 1) dX0_commonCorners_52 (by decide) (e_goto (tgt := 57) dX0_commonCorners_53 (by decide) (e_iload dX0_commonCorners_57 (e_iload_n dX0_commonCorners_59 rfl (e_ic_eq (tgt := 70) dX0_commonCorners_60 (by decide) (e_iconst (v := 1) dX0_commonCorners_70 (by decide) (e_goto (tgt := 75) dX0_commonCorners_71 (by decide) (e_iadd dX0_commonCorners_75 (e_ireturn rfl dX0_commonCorners_76)))) (e_iload dX0_commonCorners_63 (e_iload dX0_commonCorners_65 (e_ic_ne (tgt := 74) dX0_commonCorners_67 (by decide) (e_iconst (v := 0) dX0_commonCorners_74 (by decide) (e_iadd dX0_commonCorners_75 (e_ireturn rfl dX0_commonCorners_76))) (e_iconst (v := 1) dX0_commonCorners_70 (by decide) (e_goto (tgt := 75) dX0_commonCorners_71 (by decide) (e_iadd dX0_commonCorners_75 (e_ireturn rfl dX0_commonCorners_76))))))))))))))))))))))))))))))))))))))
set_option maxRecDepth 100000 in
theorem V_X0_commonCorners_0 {G : GE} {d : Nat} {P : KI} {a : Nat → Nat → Int32} {r : Nat → Nat → Value} {N : Nat} {l0 : Nat} {l1 : Int32} {l2 : Int32} (hs : (tyK l0 = (0, 0) ∧ l0 < N ∧ ∃ q1, r l0 6 = .ref q1 ∧ Sp G d 0 0 MX9_at [.ref q1, .int l2] (a, r, N) (RI fun v5 a2 r3 n4 => (tyK l0 = (0, 0) ∧ l0 < n4 ∧ ∃ q6, r3 l0 7 = .ref q6 ∧ Sp G d 0 0 MX9_at [.ref q6, .int l2] (a2, r3, n4) (RI fun v10 a7 r8 n9 => (tyK l0 = (0, 0) ∧ l0 < n9 ∧ ∃ q11, r8 l0 6 = .ref q11 ∧ Sp G d 0 0 MX9_at [.ref q11, .int l1] (a7, r8, n9) (RI fun v15 a12 r13 n14 => (tyK l0 = (0, 0) ∧ l0 < n14 ∧ ∃ q16, r13 l0 7 = .ref q16 ∧ Sp G d 0 0 MX9_at [.ref q16, .int l1] (a12, r13, n14) (RI fun v20 a17 r18 n19 => ((v15 = v5 → ((v20 = v5 → P ((1 : Int32) + 1) a17 r18 n19) ∧ (¬ v20 = v5 → ((¬ v20 = v10 → P ((1 : Int32) + 0) a17 r18 n19) ∧ (v20 = v10 → P ((1 : Int32) + 1) a17 r18 n19))))) ∧ (¬ v15 = v5 → ((¬ v15 = v10 → ((v20 = v5 → P ((0 : Int32) + 1) a17 r18 n19) ∧ (¬ v20 = v5 → ((¬ v20 = v10 → P ((0 : Int32) + 0) a17 r18 n19) ∧ (v20 = v10 → P ((0 : Int32) + 1) a17 r18 n19))))) ∧ (v15 = v10 → ((v20 = v5 → P ((1 : Int32) + 1) a17 r18 n19) ∧ (¬ v20 = v5 → ((¬ v20 = v10 → P ((1 : Int32) + 0) a17 r18 n19) ∧ (v20 = v10 → P ((1 : Int32) + 1) a17 r18 n19))))))))))))))))) : Sp G (d + 1) 0 0 MX0_commonCorners [.ref l0, .int l1, .int l2] (a, r, N) (RI P) := Sp.mk (mc := 0) (ms := 0) [.ref l0, .int l1, .int l2, .null, .null, .null, .null] rfl rfl rfl rfl (T_X0_commonCorners_0 (C := 0) (S := 0) _ _ _ hs)
theorem dX0_worthToOne_0 : decode cX0_worthToOne 0 = .ok (.aload_n 0, 1) := by decide +kernel
theorem dX0_worthToOne_1 : decode cX0_worthToOne 1 = .ok (.aload_n 0, 1) := by decide +kernel
theorem dX0_worthToOne_2 : decode cX0_worthToOne 2 = .ok (.getfield 39, 3) := by decide +kernel
theorem dX0_worthToOne_5 : decode cX0_worthToOne 5 = .ok (.iload_n 1, 1) := by decide +kernel
theorem dX0_worthToOne_6 : decode cX0_worthToOne 6 = .ok (.invokevirtual 189, 3) := by decide +kernel
theorem dX0_worthToOne_9 : decode cX0_worthToOne 9 = .ok (.ireturn, 1) := by decide +kernel
set_option maxRecDepth 100000 in
theorem T_X0_worthToOne_0 {G : GE} {d C S : Nat} {P : KI} : Snd G MX0_worthToOne (d + 1) C S 0 (RI P) (s_aload 0 (s_aload 0 (s_getR 0 13 (s_iload 1 (s_callV G d MX0_worth 2 0 (s_ireturn P)))))) := (e_aload_n dX0_worthToOne_0 rfl (e_aload_n dX0_worthToOne_1 rfl (e_getR rfl cl_0 (by decide) rfl q_207 dX0_worthToOne_2 (e_iload_n dX0_worthToOne_5 rfl (e_callV cl_0 cal_X0_worth q_640 q_642 q_9 dX0_worthToOne_6 (e_ireturn rfl dX0_worthToOne_9))))))
set_option maxRecDepth 100000 in
theorem V_X0_worthToOne_0 {G : GE} {d : Nat} {P : KI} {a : Nat → Nat → Int32} {r : Nat → Nat → Value} {N : Nat} {l0 : Nat} {l1 : Int32} (hs : (tyK l0 = (0, 0) ∧ l0 < N ∧ ∃ q1, r l0 13 = .ref q1 ∧ (tyK l0 = (0, 0) ∧ l0 < N ∧ Sp G d 0 0 MX0_worth [.ref l0, .ref q1, .int l1] (a, r, N) (RI fun v5 a2 r3 n4 => P v5 a2 r3 n4)))) : Sp G (d + 1) 0 0 MX0_worthToOne [.ref l0, .int l1] (a, r, N) (RI P) := Sp.mk (mc := 0) (ms := 0) [.ref l0, .int l1] rfl rfl rfl rfl (T_X0_worthToOne_0 (C := 0) (S := 0) _ _ _ hs)
theorem dX0_worthToOther_0 : decode cX0_worthToOther 0 = .ok (.aload_n 0, 1) := by decide +kernel
theorem dX0_worthToOther_1 : decode cX0_worthToOther 1 = .ok (.aload_n 0, 1) := by decide +kernel
theorem dX0_worthToOther_2 : decode cX0_worthToOther 2 = .ok (.getfield 42, 3) := by decide +kernel
theorem dX0_worthToOther_5 : decode cX0_worthToOther 5 = .ok (.iload_n 1, 1) := by decide +kernel
theorem dX0_worthToOther_6 : decode cX0_worthToOther 6 = .ok (.invokevirtual 189, 3) := by decide +kernel
theorem dX0_worthToOther_9 : decode cX0_worthToOther 9 = .ok (.ireturn, 1) := by decide +kernel
set_option maxRecDepth 100000 in
theorem T_X0_worthToOther_0 {G : GE} {d C S : Nat} {P : KI} : Snd G MX0_worthToOther (d + 1) C S 0 (RI P) (s_aload 0 (s_aload 0 (s_getR 0 14 (s_iload 1 (s_callV G d MX0_worth 2 0 (s_ireturn P)))))) := (e_aload_n dX0_worthToOther_0 rfl (e_aload_n dX0_worthToOther_1 rfl (e_getR rfl cl_0 (by decide) rfl q_208 dX0_worthToOther_2 (e_iload_n dX0_worthToOther_5 rfl (e_callV cl_0 cal_X0_worth q_640 q_642 q_9 dX0_worthToOther_6 (e_ireturn rfl dX0_worthToOther_9))))))
set_option maxRecDepth 100000 in
theorem V_X0_worthToOther_0 {G : GE} {d : Nat} {P : KI} {a : Nat → Nat → Int32} {r : Nat → Nat → Value} {N : Nat} {l0 : Nat} {l1 : Int32} (hs : (tyK l0 = (0, 0) ∧ l0 < N ∧ ∃ q1, r l0 14 = .ref q1 ∧ (tyK l0 = (0, 0) ∧ l0 < N ∧ Sp G d 0 0 MX0_worth [.ref l0, .ref q1, .int l1] (a, r, N) (RI fun v5 a2 r3 n4 => P v5 a2 r3 n4)))) : Sp G (d + 1) 0 0 MX0_worthToOther [.ref l0, .int l1] (a, r, N) (RI P) := Sp.mk (mc := 0) (ms := 0) [.ref l0, .int l1] rfl rfl rfl rfl (T_X0_worthToOther_0 (C := 0) (S := 0) _ _ _ hs)
theorem dX0_worth_0 : decode cX0_worth 0 = .ok (.iconst 0, 1) := by decide +kernel
theorem dX0_worth_1 : decode cX0_worth 1 = .ok (.istore_n 3, 1) := by decide +kernel
theorem dX0_worth_2 : decode cX0_worth 2 = .ok (.iconst 0, 1) := by decide +kernel
theorem dX0_worth_3 : decode cX0_worth 3 = .ok (.istore 4, 2) := by decide +kernel
theorem dX0_worth_5 : decode cX0_worth 5 = .ok (.iload 4, 2) := by decide +kernel
theorem dX0_worth_7 : decode cX0_worth 7 = .ok (.aload_n 0, 1) := by decide +kernel
theorem dX0_worth_8 : decode cX0_worth 8 = .ok (.getfield 55, 3) := by decide +kernel
theorem dX0_worth_11 : decode cX0_worth 11 = .ok (.if_icmp .ge 25, 3) := by decide +kernel
theorem dX0_worth_14 : decode cX0_worth 14 = .ok (.iload_n 3, 1) := by decide +kernel
theorem dX0_worth_15 : decode cX0_worth 15 = .ok (.iload_n 2, 1) := by decide +kernel
theorem dX0_worth_16 : decode cX0_worth 16 = .ok (.iload 4, 2) := by decide +kernel
theorem dX0_worth_18 : decode cX0_worth 18 = .ok (.ishr, 1) := by decide +kernel
theorem dX0_worth_19 : decode cX0_worth 19 = .ok (.iconst 1, 1) := by decide +kernel
theorem dX0_worth_20 : decode cX0_worth 20 = .ok (.iand, 1) := by decide +kernel
theorem dX0_worth_21 : decode cX0_worth 21 = .ok (.aload_n 1, 1) := by decide +kernel
theorem dX0_worth_22 : decode cX0_worth 22 = .ok (.iload 4, 2) := by decide +kernel
theorem dX0_worth_24 : decode cX0_worth 24 = .ok (.invokestatic 167, 3) := by decide +kernel
theorem dX0_worth_27 : decode cX0_worth 27 = .ok (.imul, 1) := by decide +kernel
theorem dX0_worth_28 : decode cX0_worth 28 = .ok (.iadd, 1) := by decide +kernel
theorem dX0_worth_29 : decode cX0_worth 29 = .ok (.istore_n 3, 1) := by decide +kernel
theorem dX0_worth_30 : decode cX0_worth 30 = .ok (.iinc 4 1, 3) := by decide +kernel
theorem dX0_worth_33 : decode cX0_worth 33 = .ok (.goto (-28), 3) := by decide +kernel
theorem dX0_worth_36 : decode cX0_worth 36 = .ok (.iload_n 3, 1) := by decide +kernel
theorem dX0_worth_37 : decode cX0_worth 37 = .ok (.ireturn, 1) := by decide +kernel
set_option maxRecDepth 100000 in
theorem T_X0_worth_0 {G : GE} {d C S : Nat} {P : KI} : Snd G MX0_worth (d + 1) C S 0 (RI P) (s_iconst 0 (s_istore 3 (s_iconst 0 (s_istore 4 (fun L st h => E G MX0_worth (d + 1) C S 5 (msk [true, true, true, true, true] L) st h (RI P)))))) := (e_iconst (v := 0) dX0_worth_0 (by decide) (e_istore_n dX0_worth_1 rfl (by decide) (e_iconst (v := 0) dX0_worth_2 (by decide) (e_istore dX0_worth_3 (by decide) (e_msk [true, true, true, true, true])))))
set_option maxRecDepth 100000 in
theorem V_X0_worth_0 {G : GE} {d : Nat} {P : KI} {a : Nat → Nat → Int32} {r : Nat → Nat → Value} {N : Nat} {l0 : Nat} {l1 : Nat} {l2 : Int32} (hs : E G MX0_worth (d + 1) 0 0 5 [.ref l0, .ref l1, .int l2, .int 0, .int 0] [] (a, r, N) (RI P)) : Sp G (d + 1) 0 0 MX0_worth [.ref l0, .ref l1, .int l2] (a, r, N) (RI P) := Sp.mk (mc := 0) (ms := 0) [.ref l0, .ref l1, .int l2, .null, .null] rfl rfl rfl rfl (T_X0_worth_0 (C := 0) (S := 0) _ _ _ hs)
set_option maxRecDepth 100000 in
theorem T_X0_worth_5 {G : GE} {d C S : Nat} {P : KI} : Snd G MX0_worth (d + 1) C S 5 (RI P) (s_iload 4 (s_aload 0 (s_getI 0 2 (s_ic_ge (s_iload 3 (s_ireturn P)) (s_iload 3 (s_iload 2 (s_iload 4 (s_ishr (s_iconst 1 (s_iand (s_aload 1 (s_iload 4 (s_call G d MX9_at 2 (s_imul (s_iadd (s_istore 3 (s_iinc 4 1 (fun L st h => E G MX0_worth (d + 1) C S 5 (msk [true, true, true, true, true] L) st h (RI P))))))))))))))))))) := (e_iload dX0_worth_5 (e_aload_n dX0_worth_7 rfl (e_getI rfl cl_0 (by decide) rfl q_194 dX0_worth_8 (e_ic_ge (tgt := 36) dX0_worth_11 (by decide) (e_iload_n dX0_worth_36 rfl (e_ireturn rfl dX0_worth_37)) (e_iload_n dX0_worth_14 rfl (e_iload_n dX0_worth_15 rfl (e_iload dX0_worth_16 (e_ishr dX0_worth_18 (e_iconst (v := 1) dX0_worth_19 (by decide) (e_iand dX0_worth_20 (e_aload_n dX0_worth_21 rfl (e_iload dX0_worth_22 (e_callS cal_X9_at q_425 q_426 dX0_worth_24 (e_imul dX0_worth_27 (e_iadd dX0_worth_28 (e_istore_n dX0_worth_29 rfl (by decide) (e_iinc (v := 1) dX0_worth_30 (by decide) (by decide) (e_goto (tgt := 5) dX0_worth_33 (by decide) (e_msk [true, true, true, true, true])))))))))))))))))))
set_option maxRecDepth 100000 in
theorem V_X0_worth_5 {G : GE} {d C S : Nat} {P : KI} {a : Nat → Nat → Int32} {r : Nat → Nat → Value} {N : Nat} {l0 : Nat} {l1 : Nat} {l2 : Int32} {l3 : Int32} {l4 : Int32} (hs : (tyK l0 = (0, 0) ∧ l0 < N ∧ (((a l0 2) ≤ l4 → P l3 a r N) ∧ (¬ (a l0 2) ≤ l4 → Sp G d 0 0 MX9_at [.ref l1, .int l4] (a, r, N) (RI fun v4 a1 r2 n3 => E G MX0_worth (d + 1) C S 5 [.ref l0, .ref l1, .int l2, .int (l3 + (((l2 >>> (l4 &&& 31)) &&& 1) * v4)), .int (l4 + 1)] [] (a1, r2, n3) (RI P)))))) : E G MX0_worth (d + 1) C S 5 [.ref l0, .ref l1, .int l2, .int l3, .int l4] [] (a, r, N) (RI P) := T_X0_worth_5 _ _ _ hs
theorem dX0_laneX_0 : decode cX0_laneX 0 = .ok (.aload_n 0, 1) := by decide +kernel
theorem dX0_laneX_1 : decode cX0_laneX 1 = .ok (.getfield 177, 3) := by decide +kernel
theorem dX0_laneX_4 : decode cX0_laneX 4 = .ok (.aload_n 0, 1) := by decide +kernel
theorem dX0_laneX_5 : decode cX0_laneX 5 = .ok (.getfield 183, 3) := by decide +kernel
theorem dX0_laneX_8 : decode cX0_laneX 8 = .ok (.iload_n 1, 1) := by decide +kernel
theorem dX0_laneX_9 : decode cX0_laneX 9 = .ok (.imul, 1) := by decide +kernel
theorem dX0_laneX_10 : decode cX0_laneX 10 = .ok (.isub, 1) := by decide +kernel
theorem dX0_laneX_11 : decode cX0_laneX 11 = .ok (.ireturn, 1) := by decide +kernel
set_option maxRecDepth 100000 in
theorem T_X0_laneX_0 {G : GE} {d C S : Nat} {P : KI} : Snd G MX0_laneX d C S 0 (RI P) (s_aload 0 (s_getI 0 15 (s_aload 0 (s_getI 0 17 (s_iload 1 (s_imul (s_isub (s_ireturn P)))))))) := (e_aload_n dX0_laneX_0 rfl (e_getI rfl cl_0 (by decide) rfl q_209 dX0_laneX_1 (e_aload_n dX0_laneX_4 rfl (e_getI rfl cl_0 (by decide) rfl q_211 dX0_laneX_5 (e_iload_n dX0_laneX_8 rfl (e_imul dX0_laneX_9 (e_isub dX0_laneX_10 (e_ireturn rfl dX0_laneX_11))))))))
set_option maxRecDepth 100000 in
theorem V_X0_laneX_0 {G : GE} {d : Nat} {P : KI} {a : Nat → Nat → Int32} {r : Nat → Nat → Value} {N : Nat} {l0 : Nat} {l1 : Int32} (hs : (tyK l0 = (0, 0) ∧ l0 < N ∧ (tyK l0 = (0, 0) ∧ l0 < N ∧ P ((a l0 15) - ((a l0 17) * l1)) a r N))) : Sp G d 0 0 MX0_laneX [.ref l0, .int l1] (a, r, N) (RI P) := Sp.mk (mc := 0) (ms := 0) [.ref l0, .int l1] rfl rfl rfl rfl (T_X0_laneX_0 (C := 0) (S := 0) _ _ _ hs)
theorem dX0_laneY_0 : decode cX0_laneY 0 = .ok (.aload_n 0, 1) := by decide +kernel
theorem dX0_laneY_1 : decode cX0_laneY 1 = .ok (.getfield 180, 3) := by decide +kernel
theorem dX0_laneY_4 : decode cX0_laneY 4 = .ok (.aload_n 0, 1) := by decide +kernel
theorem dX0_laneY_5 : decode cX0_laneY 5 = .ok (.getfield 186, 3) := by decide +kernel
theorem dX0_laneY_8 : decode cX0_laneY 8 = .ok (.iload_n 1, 1) := by decide +kernel
theorem dX0_laneY_9 : decode cX0_laneY 9 = .ok (.imul, 1) := by decide +kernel
theorem dX0_laneY_10 : decode cX0_laneY 10 = .ok (.iadd, 1) := by decide +kernel
theorem dX0_laneY_11 : decode cX0_laneY 11 = .ok (.ireturn, 1) := by decide +kernel
set_option maxRecDepth 100000 in
theorem T_X0_laneY_0 {G : GE} {d C S : Nat} {P : KI} : Snd G MX0_laneY d C S 0 (RI P) (s_aload 0 (s_getI 0 16 (s_aload 0 (s_getI 0 18 (s_iload 1 (s_imul (s_iadd (s_ireturn P)))))))) := (e_aload_n dX0_laneY_0 rfl (e_getI rfl cl_0 (by decide) rfl q_210 dX0_laneY_1 (e_aload_n dX0_laneY_4 rfl (e_getI rfl cl_0 (by decide) rfl q_212 dX0_laneY_5 (e_iload_n dX0_laneY_8 rfl (e_imul dX0_laneY_9 (e_iadd dX0_laneY_10 (e_ireturn rfl dX0_laneY_11))))))))
set_option maxRecDepth 100000 in
theorem V_X0_laneY_0 {G : GE} {d : Nat} {P : KI} {a : Nat → Nat → Int32} {r : Nat → Nat → Value} {N : Nat} {l0 : Nat} {l1 : Int32} (hs : (tyK l0 = (0, 0) ∧ l0 < N ∧ (tyK l0 = (0, 0) ∧ l0 < N ∧ P ((a l0 16) + ((a l0 18) * l1)) a r N))) : Sp G d 0 0 MX0_laneY [.ref l0, .int l1] (a, r, N) (RI P) := Sp.mk (mc := 0) (ms := 0) [.ref l0, .int l1] rfl rfl rfl rfl (T_X0_laneY_0 (C := 0) (S := 0) _ _ _ hs)
theorem dX0_cornersAt_0 : decode cX0_cornersAt 0 = .ok (.iconst 0, 1) := by decide +kernel
theorem dX0_cornersAt_1 : decode cX0_cornersAt 1 = .ok (.istore_n 3, 1) := by decide +kernel
theorem dX0_cornersAt_2 : decode cX0_cornersAt 2 = .ok (.iconst 0, 1) := by decide +kernel
theorem dX0_cornersAt_3 : decode cX0_cornersAt 3 = .ok (.istore 4, 2) := by decide +kernel
theorem dX0_cornersAt_5 : decode cX0_cornersAt 5 = .ok (.iload 4, 2) := by decide +kernel
theorem dX0_cornersAt_7 : decode cX0_cornersAt 7 = .ok (.aload_n 0, 1) := by decide +kernel
theorem dX0_cornersAt_8 : decode cX0_cornersAt 8 = .ok (.getfield 48, 3) := by decide +kernel
theorem dX0_cornersAt_11 : decode cX0_cornersAt 11 = .ok (.if_icmp .ge 42, 3) := by decide +kernel
theorem dX0_cornersAt_14 : decode cX0_cornersAt 14 = .ok (.aload_n 0, 1) := by decide +kernel
theorem dX0_cornersAt_15 : decode cX0_cornersAt 15 = .ok (.getfield 11, 3) := by decide +kernel
theorem dX0_cornersAt_18 : decode cX0_cornersAt 18 = .ok (.iload 4, 2) := by decide +kernel
theorem dX0_cornersAt_20 : decode cX0_cornersAt 20 = .ok (.invokestatic 167, 3) := by decide +kernel
theorem dX0_cornersAt_23 : decode cX0_cornersAt 23 = .ok (.iload_n 1, 1) := by decide +kernel
theorem dX0_cornersAt_24 : decode cX0_cornersAt 24 = .ok (.if_icmp .ne 23, 3) := by decide +kernel
theorem dX0_cornersAt_27 : decode cX0_cornersAt 27 = .ok (.aload_n 0, 1) := by decide +kernel
theorem dX0_cornersAt_28 : decode cX0_cornersAt 28 = .ok (.getfield 15, 3) := by decide +kernel
theorem dX0_cornersAt_31 : decode cX0_cornersAt 31 = .ok (.iload 4, 2) := by decide +kernel
theorem dX0_cornersAt_33 : decode cX0_cornersAt 33 = .ok (.invokestatic 167, 3) := by decide +kernel
theorem dX0_cornersAt_36 : decode cX0_cornersAt 36 = .ok (.iload_n 2, 1) := by decide +kernel
theorem dX0_cornersAt_37 : decode cX0_cornersAt 37 = .ok (.if_icmp .ne 10, 3) := by decide +kernel
theorem dX0_cornersAt_40 : decode cX0_cornersAt 40 = .ok (.iload_n 3, 1) := by decide +kernel
theorem dX0_cornersAt_41 : decode cX0_cornersAt 41 = .ok (.iconst 1, 1) := by decide +kernel
theorem dX0_cornersAt_42 : decode cX0_cornersAt 42 = .ok (.iload 4, 2) := by decide +kernel
theorem dX0_cornersAt_44 : decode cX0_cornersAt 44 = .ok (.ishl, 1) := by decide +kernel
theorem dX0_cornersAt_45 : decode cX0_cornersAt 45 = .ok (.ior, 1) := by decide +kernel
theorem dX0_cornersAt_46 : decode cX0_cornersAt 46 = .ok (.istore_n 3, 1) := by decide +kernel
theorem dX0_cornersAt_47 : decode cX0_cornersAt 47 = .ok (.iinc 4 1, 3) := by decide +kernel
theorem dX0_cornersAt_50 : decode cX0_cornersAt 50 = .ok (.goto (-45), 3) := by decide +kernel
theorem dX0_cornersAt_53 : decode cX0_cornersAt 53 = .ok (.iload_n 3, 1) := by decide +kernel
theorem dX0_cornersAt_54 : decode cX0_cornersAt 54 = .ok (.ireturn, 1) := by decide +kernel
set_option maxRecDepth 100000 in
theorem T_X0_cornersAt_0 {G : GE} {d C S : Nat} {P : KI} : Snd G MX0_cornersAt (d + 1) C S 0 (RI P) (s_iconst 0 (s_istore 3 (s_iconst 0 (s_istore 4 (fun L st h => E G MX0_cornersAt (d + 1) C S 5 (msk [true, true, true, true, true] L) st h (RI P)))))) := (e_iconst (v := 0) dX0_cornersAt_0 (by decide) (e_istore_n dX0_cornersAt_1 rfl (by decide) (e_iconst (v := 0) dX0_cornersAt_2 (by decide) (e_istore dX0_cornersAt_3 (by decide) (e_msk [true, true, true, true, true])))))
set_option maxRecDepth 100000 in
theorem V_X0_cornersAt_0 {G : GE} {d : Nat} {P : KI} {a : Nat → Nat → Int32} {r : Nat → Nat → Value} {N : Nat} {l0 : Nat} {l1 : Int32} {l2 : Int32} (hs : E G MX0_cornersAt (d + 1) 0 0 5 [.ref l0, .int l1, .int l2, .int 0, .int 0] [] (a, r, N) (RI P)) : Sp G (d + 1) 0 0 MX0_cornersAt [.ref l0, .int l1, .int l2] (a, r, N) (RI P) := Sp.mk (mc := 0) (ms := 0) [.ref l0, .int l1, .int l2, .null, .null] rfl rfl rfl rfl (T_X0_cornersAt_0 (C := 0) (S := 0) _ _ _ hs)
set_option maxRecDepth 100000 in
theorem T_X0_cornersAt_5 {G : GE} {d C S : Nat} {P : KI} : Snd G MX0_cornersAt (d + 1) C S 5 (RI P) (s_iload 4 (s_aload 0 (s_getI 0 0 (s_ic_ge (s_iload 3 (s_ireturn P)) (s_aload 0 (s_getR 0 4 (s_iload 4 (s_call G d MX9_at 2 (s_iload 1 (s_ic_ne (s_iinc 4 1 (fun L st h => E G MX0_cornersAt (d + 1) C S 5 (msk [true, true, true, true, true] L) st h (RI P))) (s_aload 0 (s_getR 0 5 (s_iload 4 (s_call G d MX9_at 2 (s_iload 2 (s_ic_ne (s_iinc 4 1 (fun L st h => E G MX0_cornersAt (d + 1) C S 5 (msk [true, true, true, true, true] L) st h (RI P))) (s_iload 3 (s_iconst 1 (s_iload 4 (s_ishl (s_ior (s_istore 3 (s_iinc 4 1 (fun L st h => E G MX0_cornersAt (d + 1) C S 5 (msk [true, true, true, true, true] L) st h (RI P))))))))))))))))))))))))) := (e_iload dX0_cornersAt_5 (e_aload_n dX0_cornersAt_7 rfl (e_getI rfl cl_0 (by decide) rfl q_187 dX0_cornersAt_8 (e_ic_ge (tgt := 53) dX0_cornersAt_11 (by decide) (e_iload_n dX0_cornersAt_53 rfl (e_ireturn rfl dX0_cornersAt_54)) (e_aload_n dX0_cornersAt_14 rfl (e_getR rfl cl_0 (by decide) rfl q_198 dX0_cornersAt_15 (e_iload dX0_cornersAt_18 (e_callS cal_X9_at q_425 q_426 dX0_cornersAt_20 (e_iload_n dX0_cornersAt_23 rfl (e_ic_ne (tgt := 47) dX0_cornersAt_24 (by decide) (e_iinc (v := 1) dX0_cornersAt_47 (by decide) (by decide) (e_goto (tgt := 5) dX0_cornersAt_50 (by decide) (e_msk [true, true, true, true, true]))) (e_aload_n dX0_cornersAt_27 rfl (e_getR rfl cl_0 (by decide) rfl q_199 dX0_cornersAt_28 (e_iload dX0_cornersAt_31 (e_callS cal_X9_at q_425 q_426 dX0_cornersAt_33 (e_iload_n dX0_cornersAt_36 rfl (e_ic_ne (tgt := 47) dX0_cornersAt_37 (by decide) (e_iinc (v := 1) dX0_cornersAt_47 (by decide) (by decide) (e_goto (tgt := 5) dX0_cornersAt_50 (by decide) (e_msk [true, true, true, true, true]))) (e_iload_n dX0_cornersAt_40 rfl (e_iconst (v := 1) dX0_cornersAt_41 (by decide) (e_iload dX0_cornersAt_42 (e_ishl dX0_cornersAt_44 (e_ior dX0_cornersAt_45 (e_istore_n dX0_cornersAt_46 rfl (by decide) (e_iinc (v := 1) dX0_cornersAt_47 (by decide) (by decide) (e_goto (tgt := 5) dX0_cornersAt_50 (by decide) (e_msk [true, true, true, true, true])))))))))))))))))))))))))
set_option maxRecDepth 100000 in
theorem V_X0_cornersAt_5 {G : GE} {d C S : Nat} {P : KI} {a : Nat → Nat → Int32} {r : Nat → Nat → Value} {N : Nat} {l0 : Nat} {l1 : Int32} {l2 : Int32} {l3 : Int32} {l4 : Int32} (hs : (tyK l0 = (0, 0) ∧ l0 < N ∧ (((a l0 0) ≤ l4 → P l3 a r N) ∧ (¬ (a l0 0) ≤ l4 → (tyK l0 = (0, 0) ∧ l0 < N ∧ ∃ q1, r l0 4 = .ref q1 ∧ Sp G d 0 0 MX9_at [.ref q1, .int l4] (a, r, N) (RI fun v5 a2 r3 n4 => ((¬ v5 = l1 → E G MX0_cornersAt (d + 1) C S 5 [.ref l0, .int l1, .int l2, .int l3, .int (l4 + 1)] [] (a2, r3, n4) (RI P)) ∧ (v5 = l1 → (tyK l0 = (0, 0) ∧ l0 < n4 ∧ ∃ q6, r3 l0 5 = .ref q6 ∧ Sp G d 0 0 MX9_at [.ref q6, .int l4] (a2, r3, n4) (RI fun v10 a7 r8 n9 => ((¬ v10 = l2 → E G MX0_cornersAt (d + 1) C S 5 [.ref l0, .int l1, .int l2, .int l3, .int (l4 + 1)] [] (a7, r8, n9) (RI P)) ∧ (v10 = l2 → E G MX0_cornersAt (d + 1) C S 5 [.ref l0, .int l1, .int l2, .int (l3 ||| ((1 : Int32) <<< (l4 &&& 31))), .int (l4 + 1)] [] (a7, r8, n9) (RI P))))))))))))) : E G MX0_cornersAt (d + 1) C S 5 [.ref l0, .int l1, .int l2, .int l3, .int l4] [] (a, r, N) (RI P) := T_X0_cornersAt_5 _ _ _ hs
