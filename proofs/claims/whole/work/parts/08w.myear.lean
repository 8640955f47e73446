/-! The reference: the end of a year -/
/-- mates are mates of each other -/
def wfM (ns : Nat) (g : Nat → Int32) : Prop := ∀ s, s < ns → g s = -1 ∨ ∃ m, m < ns ∧ m ≠ s ∧ g s = nI m ∧ g m = nI s
def mAge (s : Nat) (g : Nat → Int32) : Nat → Int32 := if g s = -1 then g else
  if g (16 + s) + 1 - (g (16 + s) + 1) / 25 * 25 = 0 then upd (upd g (16 + s) (g (16 + s) + 1)) (32 + s) 0 else upd g (16 + s) (g (16 + s) + 1)
def mSplit (s : Nat) (g : Nat → Int32) : Nat → Int32 := if g s = -1 then g else if g (32 + s) + g (32 + (g s).toNatClampNeg) < 10 then g else mPart g s (g s).toNatClampNeg
def mTurn (ns : Nat) (g : Nat → Int32) : Int32 × (Nat → Int32) := if g 40 = 200 then (0, g) else (1, lpM mSplit ns 0 (lpM mAge ns 0 (upd g 40 (g 40 + 1))))
theorem mPart_m {g : Nat → Int32} {s r i : Nat} (hs : s < 8) (hr : r < 8) (hi : i < 8) : mPart g s r i = if i = s ∨ i = r then -1 else g i := by
  have key : ∀ she he, she < 8 → he < 8 → mPart3 g s r she he i = if i = s ∨ i = r then -1 else g i := by
    intro she he h1 h2
    unfold mPart3
    rw [upd_ne (by omega), upd_ne (by omega), upd_ne (by omega), upd_ne (by omega)]
    by_cases e : i = r
    · rw [e, upd_eq, if_pos (Or.inr rfl)]
    · rw [upd_ne e]
      by_cases e2 : i = s
      · rw [e2, upd_eq, if_pos (Or.inl rfl)]
      · rw [upd_ne e2, upd_ne (by omega), upd_ne (by omega), if_neg (fun z => z.elim e2 e)]
  unfold mPart
  split
  · exact key s r hs hr
  · exact key r s hr hs
theorem wfM_part {ns s m : Nat} {g : Nat → Int32} (h : wfM ns g) (h8 : ns ≤ 8) (hs : s < ns) (hm : m < ns) (e1 : g s = nI m) (e2 : g m = nI s) : wfM ns (mPart g s m) := by
  intro t ht
  rw [mPart_m (by omega) (by omega) (by omega)]
  by_cases e : t = s ∨ t = m
  · rw [if_pos e]; exact Or.inl rfl
  · rw [if_neg e]
    rcases h t ht with h0 | ⟨k, hk, hne, h1, h2⟩
    · exact Or.inl h0
    · refine Or.inr ⟨k, hk, hne, h1, ?_⟩
      rw [mPart_m (by omega) (by omega) (by omega), if_neg, h2]
      rintro (z | z)
      · rw [z, e1] at h2
        exact e (Or.inr ((nI_eq (by omega) (by omega)).mp h2).symm)
      · rw [z, e2] at h2
        exact e (Or.inl ((nI_eq (by omega) (by omega)).mp h2).symm)
theorem wfM_cg {ns : Nat} {g g' : Nat → Int32} (h : wfM ns g) (e : ∀ s, s < ns → g' s = g s) : wfM ns g' := by
  intro s hs
  rw [e s hs]
  rcases h s hs with h0 | ⟨k, hk, hne, h1, h2⟩
  · exact Or.inl h0
  · exact Or.inr ⟨k, hk, hne, h1, by rw [e k hk]; exact h2⟩
theorem mAge_m {g : Nat → Int32} {s i : Nat} (hi : i < 8) : mAge s g i = g i := by
  unfold mAge
  split
  · rfl
  split
  · rw [upd_ne (by omega), upd_ne (by omega)]
  · rw [upd_ne (by omega)]
theorem wfM_split {ns s : Nat} {g : Nat → Int32} (h : wfM ns g) (h8 : ns ≤ 8) (hs : s < ns) : wfM ns (mSplit s g) := by
  unfold mSplit
  split
  · exact h
  next h0 =>
  split
  · exact h
  rcases h s hs with h1 | ⟨m, hm, hne, h1, h2⟩
  · exact absurd h1 h0
  · rw [h1, nI_clamp (by omega)]
    exact wfM_part h h8 hs hm h1 h2
section MYE
variable {G : GE} {d C S : Nat} {a : IA} {r : RA} {ns q : Nat}
theorem l_mYear2 {P : KI} (hr : Rk r) (hq : tyK q = (1, 42)) (hN : q < nK) (h64 : q ≠ 64) (h8 : ns ≤ 8) (h1 : a 64 1 = nI ns) : ∀ (t s : Nat) (g : Nat → Int32), s + t = ns → wfM ns g → P 1 (va_up a q (lpM mSplit t s g)) r nK → E G MX12_yearEnds (d + 2) C S 81 [.ref 60, .ref q, .int (nI s)] [] (va_up a q g, r, nK) (RI P) := by
  have hv : ∀ {R : Prop} {i : Nat}, i < 42 → R → (tyK q).1 = 1 ∧ q < nK ∧ vp_in (nI i) (tyK q).2 ∧ R := fun hi h => row3 hq hN (v42 hi) h
  have hc : ∀ {i : Nat}, i < 42 → (nI i).toNatClampNeg = i := fun hi => nI_clamp (by omega)
  have r64 : r 60 12 = .ref 64 := rf5 hr (by decide) rfl
  have e1 : ∀ g : Nat → Int32, va_up a q g 64 1 = nI ns := fun g => by rw [va_up_ne _ _ (fun e => h64 e.symm)]; exact h1
  intro t
  induction t with
  | zero =>
    intro s g hs hw hp
    obtain rfl : s = ns := by omega
    refine V_X12_yearEnds_81 ⟨rfl, by decide, 64, r64, rfl, by decide, vp_in_nI (show 1 < 8 by decide) (by decide), fun _ => ⟨bz_1, hp⟩, fun h => absurd ?_ h⟩
    rw [z1, e1]; exact nI_le (Nat.le_refl _) (by omega)
  | succ t ih =>
    intro s g hs hw hp
    refine V_X12_yearEnds_81 ⟨rfl, by decide, 64, r64, rfl, by decide, vp_in_nI (show 1 < 8 by decide) (by decide), fun h => absurd ?_ (show ¬ ns ≤ s by omega), fun _ => c_mMate hq hN (by omega) ?_⟩
    · rw [z1, e1] at h; exact (nI_leI (by omega) (by omega)).mp h
    have hp : P 1 (va_up a q (lpM mSplit t (s + 1) (mSplit s g))) r nK := hp
    have hw2 := wfM_split hw h8 (show s < ns by omega)
    have go := ih (s + 1) (mSplit s g) (by omega) hw2 hp
    rw [va_up_self]
    rw [nI_1]
    rcases hw s (by omega) with h0 | ⟨m, hm, hne, h2, h3⟩
    · have e : mSplit s g = g := by unfold mSplit; rw [if_pos h0]
      rw [e] at go
      rw [h0]
      exact ⟨fun _ => go, fun h => absurd rfl h⟩
    · have hn : ¬ g s = -1 := by rw [h2]; exact nI_n1 (by omega)
      have e : mSplit s g = if g (32 + s) + g (32 + m) < 10 then g else mPart g s m := by
        unfold mSplit
        rw [if_neg hn, h2, nI_clamp (by omega)]
      rw [e] at go
      refine ⟨fun h => absurd h hn, fun _ => ?_⟩
      simp only [o32]
      rw [hc (show 32 + s < 42 by omega)]
      refine hv (by omega) (c_mMate hq hN (by omega) ?_)
      rw [va_up_self, h2, o32, hc (show 32 + m < 42 by omega)]
      refine hv (by omega) ⟨fun hlt => ?_, fun hlt => c_mParts hq hN (by omega) (show m < 8 by omega) (by rw [va_up_self]; exact h2) ?_⟩
      · rw [if_pos hlt] at go; exact go
      · rw [if_neg hlt] at go
        rw [va_up_self, bx_uu]
        exact go
theorem l_mYear1 {P : KI} (hr : Rk r) (hq : tyK q = (1, 42)) (hN : q < nK) (h64 : q ≠ 64) (h8 : ns ≤ 8) (h1 : a 64 1 = nI ns) : ∀ (t s : Nat) (g : Nat → Int32), s + t = ns → wfM ns g → P 1 (va_up a q (lpM mSplit ns 0 (lpM mAge t s g))) r nK → E G MX12_yearEnds (d + 2) C S 22 [.ref 60, .ref q, .int (nI s)] [] (va_up a q g, r, nK) (RI P) := by
  have hv : ∀ {R : Prop} {i : Nat}, i < 42 → R → (tyK q).1 = 1 ∧ q < nK ∧ vp_in (nI i) (tyK q).2 ∧ R := fun hi h => row3 hq hN (v42 hi) h
  have hc : ∀ {i : Nat}, i < 42 → (nI i).toNatClampNeg = i := fun hi => nI_clamp (by omega)
  have r64 : r 60 12 = .ref 64 := rf5 hr (by decide) rfl
  have e1 : ∀ g : Nat → Int32, va_up a q g 64 1 = nI ns := fun g => by rw [va_up_ne _ _ (fun e => h64 e.symm)]; exact h1
  intro t
  induction t with
  | zero =>
    intro s g hs hw hp
    obtain rfl : s = ns := by omega
    refine V_X12_yearEnds_22 ⟨rfl, by decide, 64, r64, rfl, by decide, vp_in_nI (show 1 < 8 by decide) (by decide), fun _ => l_mYear2 hr hq hN h64 h8 h1 s 0 g (by omega) hw hp, fun h => absurd ?_ h⟩
    rw [z1, e1]; exact nI_le (Nat.le_refl _) (by omega)
  | succ t ih =>
    intro s g hs hw hp
    refine V_X12_yearEnds_22 ⟨rfl, by decide, 64, r64, rfl, by decide, vp_in_nI (show 1 < 8 by decide) (by decide), fun h => absurd ?_ (show ¬ ns ≤ s by omega), fun _ => c_mMate hq hN (by omega) ?_⟩
    · rw [z1, e1] at h; exact (nI_leI (by omega) (by omega)).mp h
    have hp : P 1 (va_up a q (lpM mSplit ns 0 (lpM mAge t (s + 1) (mAge s g)))) r nK := hp
    have hw2 : wfM ns (mAge s g) := wfM_cg hw (fun i hi => mAge_m (by omega))
    have go := ih (s + 1) (mAge s g) (by omega) hw2 hp
    rw [va_up_self, nI_1]
    by_cases h0 : g s = -1
    · have e : mAge s g = g := by unfold mAge; rw [if_pos h0]
      rw [e] at go
      exact ⟨fun h => absurd h0 h, fun _ => go⟩
    · have e : mAge s g = if g (16 + s) + 1 - (g (16 + s) + 1) / 25 * 25 = 0 then upd (upd g (16 + s) (g (16 + s) + 1)) (32 + s) 0 else upd g (16 + s) (g (16 + s) + 1) := by
        unfold mAge
        rw [if_neg h0]
      rw [e] at go
      refine ⟨fun _ => ?_, fun h => absurd h h0⟩
      simp only [o16, o32]
      rw [hc (show 16 + s < 42 by omega), hc (show 32 + s < 42 by omega)]
      refine hv (by omega) (hv (by omega) (fun a6 h6 => ?_))
      rw [u2_va] at h6
      subst h6
      rw [va_up_self, upd_eq]
      refine hv (by omega) ⟨by decide, fun h25 => ?_, fun h25 => hv (by omega) (fun a7 h7 => ?_)⟩
      · rw [if_neg h25] at go; exact go
      · rw [u2_va] at h7
        subst h7
        rw [if_pos h25] at go; exact go
theorem c_mYear {P : KI} (hr : Rk r) (hq : tyK q = (1, 42)) (hN : q < nK) (h64 : q ≠ 64) (h8 : ns ≤ 8) (h1 : a 64 1 = nI ns) (hw : wfM ns (a q)) (hp : P (mTurn ns (a q)).1 (va_up a q (mTurn ns (a q)).2) r nK) : Sp G (d + 2) 0 0 MX12_yearEnds [.ref 60, .ref q] (a, r, nK) (RI P) := by
  have hv : ∀ {R : Prop} {i : Nat}, i < 42 → R → (tyK q).1 = 1 ∧ q < nK ∧ vp_in (nI i) (tyK q).2 ∧ R := fun hi h => row3 hq hN (v42 hi) h
  have z40 : (40 : Int32).toNatClampNeg = 40 := rfl
  unfold mTurn at hp
  refine V_X12_yearEnds_0 ?_
  rw [z40]
  refine hv (i := 40) (by omega) ⟨fun h => hv (i := 40) (by omega) (hv (i := 40) (by omega) (fun a1 g1 => ?_)), fun h => ⟨bz_0, ?_⟩⟩
  · rw [if_neg h] at hp
    have g1 : a1 = va_up a q (upd (a q) 40 (a q 40 + 1)) := g1
    subst g1
    exact l_mYear1 hr hq hN h64 h8 h1 ns 0 _ (by omega) (wfM_cg hw (fun s hs => upd_ne (by omega))) hp
  · rw [if_pos h] at hp
    rw [show va_up a q (a q) = a from up_same a q] at hp
    exact hp
end MYE
