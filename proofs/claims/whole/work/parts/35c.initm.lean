/-! The reference's constructor -/
section INM
variable {G : GE} {d : Nat} {a : IA}
abbrev lc_61 : List (Nat × Nat × Nat) := (60, 9, 61) :: lc_60
abbrev lc_62 : List (Nat × Nat × Nat) := (60, 10, 62) :: lc_61
abbrev lc_63 : List (Nat × Nat × Nat) := (60, 11, 63) :: lc_62
abbrev lc_64 : List (Nat × Nat × Nat) := (60, 12, 64) :: lc_63
abbrev lc_65 : List (Nat × Nat × Nat) := (60, 13, 65) :: lc_64
abbrev lc_66 : List (Nat × Nat × Nat) := (60, 14, 76) :: lc_65
abbrev lc_67 : List (Nat × Nat × Nat) := (60, 15, 87) :: lc_66
abbrev lc_68 : List (Nat × Nat × Nat) := (60, 16, 96) :: lc_67
abbrev lc_69 : List (Nat × Nat × Nat) := (60, 17, 105) :: lc_68
abbrev lc_70 : List (Nat × Nat × Nat) := (60, 18, 114) :: lc_69
abbrev lc_71 : List (Nat × Nat × Nat) := (60, 19, 123) :: lc_70
abbrev lc_72 : List (Nat × Nat × Nat) := (60, 20, 132) :: lc_71
abbrev lc_73 : List (Nat × Nat × Nat) := (60, 21, 141) :: lc_72
abbrev lc_74 : List (Nat × Nat × Nat) := (60, 22, 150) :: lc_73
abbrev lc_75 : List (Nat × Nat × Nat) := (60, 25, 159) :: lc_74
abbrev lc_76 : List (Nat × Nat × Nat) := (60, 26, 320) :: lc_75
abbrev lc_77 : List (Nat × Nat × Nat) := (60, 27, 481) :: lc_76
abbrev lc_78 : List (Nat × Nat × Nat) := (60, 28, 490) :: lc_77
abbrev lc_79 : List (Nat × Nat × Nat) := (60, 29, 499) :: lc_78
abbrev lc_80 : List (Nat × Nat × Nat) := (60, 30, 500) :: lc_79
abbrev lc_81 : List (Nat × Nat × Nat) := (60, 31, 501) :: lc_80
abbrev lc_82 : List (Nat × Nat × Nat) := (60, 33, 582) :: lc_81
abbrev lc_83 : List (Nat × Nat × Nat) := (60, 34, 583) :: lc_82
abbrev lc_84 : List (Nat × Nat × Nat) := (60, 35, 584) :: lc_83
abbrev lc_85 : List (Nat × Nat × Nat) := (60, 36, 601) :: lc_84
abbrev lc_86 : List (Nat × Nat × Nat) := (60, 37, 605) :: lc_85
abbrev lc_87 : List (Nat × Nat × Nat) := (60, 45, 616) :: lc_86
abbrev lc_88 : List (Nat × Nat × Nat) := (60, 46, 617) :: lc_87
abbrev lc_89 : List (Nat × Nat × Nat) := (60, 47, 618) :: lc_88
abbrev lc_90 : List (Nat × Nat × Nat) := (60, 50, 619) :: lc_89
abbrev lc_91 : List (Nat × Nat × Nat) := (60, 51, 876) :: lc_90
theorem rk_all : Rk (mkR lc_91) := by
  intro q j
  unfold refC
  split
  all_goals first
    | exact fun h => absurd rfl h
    | exact fun _ => mkR_get (by decide +kernel)
set_option maxRecDepth 100000 in
theorem i_X12 {P : KN} (hz : Bz a 61) (hp : ∀ a1 a2, mCl (u2 a 60 3 (-1)) a1 → mStd 0 0 0 a1 a2 → P a2 (mkR lc_91) 877) : Sp G (d + 2) 816 8563 MX12_init [.ref 60] (a, mkR lc_60, 61) (RN P) := by
  refine V_X12_init_0 ⟨rfl, by decide, fun a1 g1 => ?_⟩
  subst g1
  have hz : Bz (u2 a 60 3 (-1)) 61 := hz.u2 (by decide)
  refine ⟨by decide +kernel, by decide, by decide +kernel, by decide +kernel, hz _ (by decide), rfl, by decide, fun r1 e1 => ⟨by decide +kernel, by decide, by decide +kernel, by decide +kernel, hz _ (by decide), rfl, by decide, fun r2 e2 => ⟨by decide +kernel, by decide, by decide +kernel, by decide +kernel, hz _ (by decide), rfl, by decide, fun r3 e3 => ⟨by decide +kernel, by decide, by decide +kernel, by decide +kernel, hz _ (by decide), rfl, by decide, fun r4 e4 => ⟨by decide +kernel, by decide +kernel, by decide +kernel, by decide +kernel, by decide, by decide +kernel, tyR_readCorner, fun i _ => hz _ (by omega), rfl, by decide, fun r5 e5 => ⟨by decide +kernel, by decide +kernel, by decide +kernel, by decide +kernel, by decide, by decide +kernel, tyR_corner, fun i _ => hz _ (by omega), rfl, by decide, fun r6 e6 => ⟨by decide +kernel, by decide +kernel, by decide +kernel, by decide +kernel, by decide, by decide +kernel, tyR_readStreet, fun i _ => hz _ (by omega), rfl, by decide, fun r7 e7 => ⟨by decide +kernel, by decide +kernel, by decide +kernel, by decide +kernel, by decide, by decide +kernel, tyR_street, fun i _ => hz _ (by omega), rfl, by decide, fun r8 e8 => ⟨by decide +kernel, by decide +kernel, by decide +kernel, by decide +kernel, by decide, by decide +kernel, tyR_readLikes, fun i _ => hz _ (by omega), rfl, by decide, fun r9 e9 => ⟨by decide +kernel, by decide +kernel, by decide +kernel, by decide +kernel, by decide, by decide +kernel, tyR_likes, fun i _ => hz _ (by omega), rfl, by decide, fun r10 e10 => ⟨by decide +kernel, by decide +kernel, by decide +kernel, by decide +kernel, by decide, by decide +kernel, tyR_readNever, fun i _ => hz _ (by omega), rfl, by decide, fun r11 e11 => ⟨by decide +kernel, by decide +kernel, by decide +kernel, by decide +kernel, by decide, by decide +kernel, tyR_never, fun i _ => hz _ (by omega), rfl, by decide, fun r12 e12 => ⟨by decide +kernel, by decide +kernel, by decide +kernel, by decide +kernel, by decide, by decide +kernel, tyR_readGood, fun i _ => hz _ (by omega), rfl, by decide, fun r13 e13 => ⟨by decide +kernel, by decide +kernel, by decide +kernel, by decide +kernel, by decide, by decide +kernel, tyR_good, fun i _ => hz _ (by omega), rfl, by decide, fun r14 e14 => ⟨by decide +kernel, by decide +kernel, by decide +kernel, by decide +kernel, by decide, by decide +kernel, tyR_law, fun i _ => hz _ (by omega), rfl, by decide, fun r15 e15 => ⟨by decide +kernel, by decide +kernel, by decide +kernel, by decide +kernel, by decide, by decide +kernel, tyR_readLaw, fun i _ => hz _ (by omega), rfl, by decide, fun r16 e16 => ⟨by decide +kernel, by decide +kernel, by decide +kernel, by decide +kernel, by decide, by decide +kernel, tyR_post, fun i _ => hz _ (by omega), rfl, by decide, fun r17 e17 => ⟨by decide +kernel, by decide +kernel, by decide +kernel, by decide +kernel, by decide, by decide +kernel, tyR_readPost, fun i _ => hz _ (by omega), rfl, by decide, fun r18 e18 => ⟨by decide +kernel, by decide, by decide +kernel, by decide +kernel, hz _ (by decide), rfl, by decide, fun r19 e19 => ⟨by decide +kernel, by decide, by decide +kernel, by decide +kernel, hz _ (by decide), rfl, by decide, fun r20 e20 => ⟨by decide +kernel, by decide +kernel, by decide +kernel, by decide +kernel, by decide, by decide +kernel, tyR_step, fun i _ => hz _ (by omega), rfl, by decide, fun r21 e21 => ⟨by decide +kernel, by decide, by decide +kernel, by decide +kernel, hz _ (by decide), rfl, by decide, fun r22 e22 => ⟨by decide +kernel, by decide, by decide +kernel, by decide +kernel, hz _ (by decide), rfl, by decide, fun r23 e23 => ⟨by decide +kernel, by decide +kernel, by decide +kernel, by decide +kernel, by decide, by decide +kernel, tyR_before, fun i _ => hz _ (by omega), rfl, by decide, fun r24 e24 => ⟨by decide +kernel, by decide +kernel, by decide +kernel, by decide +kernel, by decide, by decide +kernel, tyR_kept, fun i _ => hz _ (by omega), rfl, by decide, fun r25 e25 => ⟨by decide +kernel, by decide +kernel, by decide +kernel, by decide +kernel, by decide, by decide +kernel, tyR_far, fun i _ => hz _ (by omega), rfl, by decide, fun r26 e26 => ⟨by decide +kernel, by decide, by decide +kernel, by decide +kernel, hz _ (by decide), rfl, by decide, fun r27 e27 => ⟨by decide +kernel, by decide, by decide +kernel, by decide +kernel, hz _ (by decide), rfl, by decide, fun r28 e28 => ⟨by decide +kernel, by decide, by decide +kernel, by decide +kernel, hz _ (by decide), rfl, by decide, fun r29 e29 => ⟨by decide +kernel, by decide +kernel, by decide +kernel, by decide +kernel, by decide, by decide +kernel, tyR_walked, fun i _ => hz _ (by omega), rfl, by decide, fun r30 e30 => ⟨by decide +kernel, by decide, by decide +kernel, by decide +kernel, hz _ (by decide), rfl, by decide, fun r31 e31 => ?_⟩⟩⟩⟩⟩⟩⟩⟩⟩⟩⟩⟩⟩⟩⟩⟩⟩⟩⟩⟩⟩⟩⟩⟩⟩⟩⟩⟩⟩⟩⟩
  subst e1 e2 e3 e4 e5 e6 e7 e8 e9 e10 e11 e12 e13 e14 e15 e16 e17 e18 e19 e20 e21 e22 e23 e24 e25 e26 e27 e28 e29 e30 e31
  refine ⟨rfl, by decide, Sp.up (by omega) (ck_mTells (d := 0) (r := mkR lc_91) rk_all (fun a1 h1 => ⟨rfl, by decide, ck_mStands (nc := 0) (ns := 0) (ng := 0) rk_all (by decide) (by decide) (by decide) (h1.2.1 0 (by decide)) (h1.2.1 1 (by decide)) (h1.2.1 2 (by decide)) (fun a2 h2 => hp a1 a2 h1 h2)⟩))⟩
end INM
