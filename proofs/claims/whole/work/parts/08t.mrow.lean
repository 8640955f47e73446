/-! The reference: what is done to a row of 42 -/
theorem u2_va {a : IA} {q j : Nat} {g : Nat → Int32} {x : Int32} : u2 (va_up a q g) q j x = va_up a q (upd g j x) := by
  unfold u2
  rw [va_up_self, bx_uu]
theorem nI_n1 {n : Nat} (h : n < 2 ^ 31) : ¬ nI n = -1 := fun e => by
  have h2 := congrArg Int32.toInt e
  rw [nI_toInt h] at h2
  have h3 : (-1 : Int32).toInt = -1 := by decide
  omega
theorem o8 (s : Nat) : (8 : Int32) + nI s = nI (8 + s) := nI_add 8 s
theorem o16 (s : Nat) : (16 : Int32) + nI s = nI (16 + s) := nI_add 16 s
theorem o24 (s : Nat) : (24 : Int32) + nI s = nI (24 + s) := nI_add 24 s
theorem o32 (s : Nat) : (32 : Int32) + nI s = nI (32 + s) := nI_add 32 s
theorem o0 (s : Nat) : (0 : Int32) + nI s = nI s := Int32.zero_add _
def mMarry (g : Nat → Int32) (s r : Nat) : Nat → Int32 := upd (upd (upd (upd (upd (upd g s (nI r)) r (nI s)) (8 + s) 1) (8 + r) 0) (16 + s) 0) (16 + r) 0
def mPart3 (g : Nat → Int32) (s r she he : Nat) : Nat → Int32 :=
  upd (upd (upd (upd (upd (upd (upd (upd g (24 + he) ((g (24 + s) + g (24 + r)) / 2)) (24 + she) (g (24 + s) + g (24 + r) - (g (24 + s) + g (24 + r)) / 2)) s (-1)) r (-1)) (8 + she) 0) (16 + s) 0) (16 + r) 0) 41 (g 41 + 1)
def mPart (g : Nat → Int32) (s r : Nat) : Nat → Int32 := if g (8 + s) = 1 then mPart3 g s r s r else mPart3 g s r r s
def mQuar (g : Nat → Int32) (s r : Nat) : Nat → Int32 := upd (upd g (32 + s) (if g (32 + s) + 1 ≤ 9 then g (32 + s) + 1 else 9)) (32 + r) (if g (32 + r) + 1 ≤ 9 then g (32 + r) + 1 else 9)
section MRW
variable {G : GE} {d C S : Nat} {a : IA} {r : RA} {g : Nat → Int32} {q s m t : Nat} {x y : Int32}
theorem v42 {i : Nat} (h : i < 42) : vp_in (nI i) 42 := vp_in_nI h (by decide)
theorem c_mMarry {P : KN} (hq : tyK q = (1, 42)) (hN : q < nK) (hs : s < 8) (ht : t < 8) (hp : P (va_up a q (mMarry (a q) s t)) r nK) : Sp G d 0 0 MX12_marries [.ref q, .int (nI s), .int (nI t)] (a, r, nK) (RN P) := by
  have hv : ∀ {R : Prop} {i : Nat}, i < 42 → R → (tyK q).1 = 1 ∧ q < nK ∧ vp_in (nI i) (tyK q).2 ∧ R := fun hi h => row3 hq hN (v42 hi) h
  have hc : ∀ {i : Nat}, i < 42 → (nI i).toNatClampNeg = i := fun hi => nI_clamp (by omega)
  refine V_X12_marries_0 ?_
  simp only [o0, o8, o16]
  rw [hc (show s < 42 by omega), hc (show t < 42 by omega), hc (show 8 + s < 42 by omega), hc (show 8 + t < 42 by omega), hc (show 16 + s < 42 by omega), hc (show 16 + t < 42 by omega)]
  refine hv (by omega) (fun a1 h1 => hv (by omega) (fun a2 h2 => hv (by omega) (fun a3 h3 => hv (by omega) (fun a4 h4 => hv (by omega) (fun a5 h5 => hv (by omega) (fun a6 h6 => ?_))))))
  have e1 : a1 = va_up a q (upd (a q) s (nI t)) := h1
  subst e1
  rw [u2_va] at h2
  subst h2
  rw [u2_va] at h3
  subst h3
  rw [u2_va] at h4
  subst h4
  rw [u2_va] at h5
  subst h5
  rw [u2_va] at h6
  subst h6
  exact hp
theorem l_mPart {P : KN} {s t she he : Nat} (hq : tyK q = (1, 42)) (hN : q < nK) (hs : s < 8) (ht : t < 8) (h1 : she < 8) (h2 : he < 8) (hp : P (va_up a q (mPart3 (a q) s t she he)) r nK) (hne : 41 ≠ 16 + t) :
    E G MX12_parts (d + 1) C S 37 [.ref q, .int (nI s), .int (nI t), .int (nI she), .null, .null] [.int (nI he)] (a, r, nK) (RN P) := by
  have hv : ∀ {R : Prop} {i : Nat}, i < 42 → R → (tyK q).1 = 1 ∧ q < nK ∧ vp_in (nI i) (tyK q).2 ∧ R := fun hi h => row3 hq hN (v42 hi) h
  have hc : ∀ {i : Nat}, i < 42 → (nI i).toNatClampNeg = i := fun hi => nI_clamp (by omega)
  have z41 : (41 : Int32).toNatClampNeg = 41 := rfl
  refine V_X12_parts_37 ?_
  simp only [o0, o8, o16, o24, z41]
  rw [hc (show s < 42 by omega), hc (show t < 42 by omega), hc (show 8 + she < 42 by omega), hc (show 16 + s < 42 by omega), hc (show 16 + t < 42 by omega), hc (show 24 + s < 42 by omega), hc (show 24 + t < 42 by omega), hc (show 24 + she < 42 by omega), hc (show 24 + he < 42 by omega)]
  refine hv (by omega) (hv (by omega) ⟨by decide, hv (by omega) (fun a1 h1 => ⟨by decide, hv (by omega) (fun a2 h2 => hv (by omega) (fun a3 h3 => hv (by omega) (fun a4 h4 => hv (by omega) (fun a5 h5 => hv (by omega) (fun a6 h6 => hv (by omega) (fun a7 h7 => hv (i := 41) (by omega) (hv (i := 41) (by omega) (fun a8 h8 => ?_))))))))⟩)⟩)
  have e1 : a1 = va_up a q (upd (a q) (24 + he) ((a q (24 + s) + a q (24 + t)) / 2)) := h1
  subst e1
  rw [u2_va] at h2
  subst h2
  rw [u2_va] at h3
  subst h3
  rw [u2_va] at h4
  subst h4
  rw [u2_va] at h5
  subst h5
  rw [u2_va] at h6
  subst h6
  rw [u2_va] at h7
  subst h7
  rw [u2_va, va_up_self] at h8
  subst h8
  unfold mPart3 at hp
  have un : ∀ {f : Nat → Int32} {i j : Nat} {x : Int32}, j ≠ i → upd f i x j = f j := fun h => upd_ne h
  rw [un (show 41 ≠ 16 + t by omega), un (show 41 ≠ 16 + s by omega), un (show 41 ≠ 8 + she by omega), un (show 41 ≠ t by omega), un (show 41 ≠ s by omega), un (show 41 ≠ 24 + she by omega), un (show 41 ≠ 24 + he by omega)]
  exact hp
theorem c_mParts {P : KN} (hq : tyK q = (1, 42)) (hN : q < nK) (hs : s < 8) (ht : t < 8) (hm : a q s = nI t) (hp : P (va_up a q (mPart (a q) s t)) r nK) : Sp G (d + 1) 0 0 MX12_parts [.ref q, .int (nI s)] (a, r, nK) (RN P) := by
  have hv : ∀ {R : Prop} {i : Nat}, i < 42 → R → (tyK q).1 = 1 ∧ q < nK ∧ vp_in (nI i) (tyK q).2 ∧ R := fun hi h => row3 hq hN (v42 hi) h
  have hc : ∀ {i : Nat}, i < 42 → (nI i).toNatClampNeg = i := fun hi => nI_clamp (by omega)
  unfold mPart at hp
  refine V_X12_parts_0 (c_mMate hq hN (by omega) ?_)
  rw [hm]
  simp only [o8]
  rw [hc (show 8 + s < 42 by omega)]
  refine hv (by omega) ⟨fun h1 => hv (by omega) ⟨fun _ => l_mPart hq hN hs ht ht hs ?_ (by omega), fun h => absurd h h1⟩, fun h1 => hv (by omega) ⟨fun h => absurd h1 h, fun _ => l_mPart hq hN hs ht hs ht ?_ (by omega)⟩⟩
  · rw [if_neg h1] at hp; exact hp
  · rw [if_pos h1] at hp; exact hp
theorem c_mQuar0 {P : KI} (hq : tyK q = (1, 42)) (hN : q < nK) (hs : s < 8) (hm : a q s = -1) (hp : P 0 a r nK) : Sp G (d + 1) 0 0 MX12_quarrels [.ref q, .int (nI s)] (a, r, nK) (RI P) := by
  refine V_X12_quarrels_0 (c_mMate hq hN (by omega) ?_)
  rw [hm]
  exact ⟨fun _ => ⟨bz_0, hp⟩, fun h => absurd rfl h⟩
theorem c_mQuar {P : KI} (hq : tyK q = (1, 42)) (hN : q < nK) (hs : s < 8) (ht : t < 8) (hm : a q s = nI t) (h0 : a q (32 + s) = 9 ∧ a q (32 + t) = 9 → P 0 a r nK) (h1 : ¬ (a q (32 + s) = 9 ∧ a q (32 + t) = 9) → s ≠ t → P 1 (va_up a q (mQuar (a q) s t)) r nK) (hst : s ≠ t) : Sp G (d + 1) 0 0 MX12_quarrels [.ref q, .int (nI s)] (a, r, nK) (RI P) := by
  have hv : ∀ {R : Prop} {i : Nat}, i < 42 → R → (tyK q).1 = 1 ∧ q < nK ∧ vp_in (nI i) (tyK q).2 ∧ R := fun hi h => row3 hq hN (v42 hi) h
  have hc : ∀ {i : Nat}, i < 42 → (nI i).toNatClampNeg = i := fun hi => nI_clamp (by omega)
  have go : ¬ (a q (32 + s) = 9 ∧ a q (32 + t) = 9) → E G MX12_quarrels (d + 1) 0 0 35 [.ref q, .int (nI s), .int (nI t)] [] (a, r, nK) (RI P) := by
    intro hn
    have h1 := h1 hn hst
    unfold mQuar at h1
    refine V_X12_quarrels_35 ?_
    simp only [o32]
    rw [hc (show 32 + s < 42 by omega), hc (show 32 + t < 42 by omega)]
    refine hv (by omega) (c_mLess (hv (by omega) (fun a5 h5 => hv (by omega) ?_)))
    have e5 : a5 = va_up a q (upd (a q) (32 + s) (if a q (32 + s) + 1 ≤ 9 then a q (32 + s) + 1 else 9)) := h5
    subst e5
    rw [va_up_self, upd_ne (show 32 + t ≠ 32 + s by omega)]
    refine c_mLess (hv (by omega) (fun a6 h6 => ⟨bz_1, ?_⟩))
    rw [u2_va] at h6
    subst h6
    exact h1
  refine V_X12_quarrels_0 (c_mMate hq hN (by omega) ?_)
  rw [hm]
  simp only [o32]
  rw [hc (show 32 + s < 42 by omega), hc (show 32 + t < 42 by omega)]
  refine ⟨fun h => absurd h (nI_n1 (by omega)), fun _ => hv (by omega) ⟨fun h => go (fun e => h e.1), fun h => hv (by omega) ⟨fun h' => go (fun e => h' e.2), fun h' => ⟨bz_0, h0 ⟨h, h'⟩⟩⟩⟩⟩
theorem c_mRep0 {P : KI} (hq : tyK q = (1, 42)) (hN : q < nK) (hs : s < 8) (hm : a q s = -1) (hp : P (if a q (32 + s) ≤ 0 then 0 else 1) (va_up a q (upd (a q) (32 + s) 0)) r nK) : Sp G (d + 1) 0 0 MX12_repaves [.ref q, .int (nI s)] (a, r, nK) (RI P) := by
  have hv : ∀ {R : Prop} {i : Nat}, i < 42 → R → (tyK q).1 = 1 ∧ q < nK ∧ vp_in (nI i) (tyK q).2 ∧ R := fun hi h => row3 hq hN (v42 hi) h
  have hc : ∀ {i : Nat}, i < 42 → (nI i).toNatClampNeg = i := fun hi => nI_clamp (by omega)
  refine V_X12_repaves_0 (c_mMate hq hN (by omega) ?_)
  rw [hm]
  simp only [o32]
  rw [hc (show 32 + s < 42 by omega)]
  refine hv (by omega) (hv (by omega) (fun a5 h5 => ⟨fun _ => ⟨fun h => ⟨bz_0, ?_⟩, fun h => ⟨bz_1, ?_⟩⟩, fun h => absurd trivial h⟩))
  · rw [if_pos h] at hp
    subst h5; exact hp
  · rw [if_neg h] at hp
    subst h5; exact hp
theorem c_mRep {P : KI} (hq : tyK q = (1, 42)) (hN : q < nK) (hs : s < 8) (ht : t < 8) (hst : s ≠ t) (hm : a q s = nI t) (hp : P (if a q (32 + s) + a q (32 + t) ≤ 0 then 0 else 1) (va_up a q (upd (upd (a q) (32 + s) 0) (32 + t) 0)) r nK) : Sp G (d + 1) 0 0 MX12_repaves [.ref q, .int (nI s)] (a, r, nK) (RI P) := by
  have hv : ∀ {R : Prop} {i : Nat}, i < 42 → R → (tyK q).1 = 1 ∧ q < nK ∧ vp_in (nI i) (tyK q).2 ∧ R := fun hi h => row3 hq hN (v42 hi) h
  have hc : ∀ {i : Nat}, i < 42 → (nI i).toNatClampNeg = i := fun hi => nI_clamp (by omega)
  refine V_X12_repaves_0 (c_mMate hq hN (by omega) ?_)
  rw [hm]
  simp only [o32]
  rw [hc (show 32 + s < 42 by omega), hc (show 32 + t < 42 by omega)]
  refine hv (by omega) (hv (by omega) (fun a5 h5 => ⟨fun h => absurd h (nI_n1 (by omega)), fun _ => hv (by omega) (hv (by omega) (fun a6 h6 => ?_))⟩))
  have e5 : a5 = va_up a q (upd (a q) (32 + s) 0) := h5
  subst e5
  rw [u2_va] at h6
  subst h6
  rw [va_up_self, upd_ne (show 32 + t ≠ 32 + s by omega)]
  refine ⟨fun h => ⟨bz_0, ?_⟩, fun h => ⟨bz_1, ?_⟩⟩
  · rw [if_pos h] at hp; exact hp
  · rw [if_neg h] at hp; exact hp
end MRW
