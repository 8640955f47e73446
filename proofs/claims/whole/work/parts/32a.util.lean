/-! For the calls: refusals, answers, the row of the answer -/
/-- how the reference's call ends: the same state, no other answer -/
def Fin (k : Int32) : KI := fun v a r n => n = nK ∧ Inv a r ∧ a 60 0 = k ∧ (k = 0 → r 877 0 = .long v.toInt64)
/-- what is left when the class's call has ended: the reference's call -/
abbrev HK (G : GE) (M : MI) (xs : List Value) : KI := fun k a r n => n = nK ∧ Sp G 40 0 0 M (.ref 60 :: xs) (a, r, nK) (RI (Fin k))
/-- calls that nothing refuses -/
abbrev PK (G : GE) (M : MI) (xs : List Value) : KI := fun v a r n => n = nK ∧ Sp G 40 0 0 M (.ref 60 :: xs) (a, r, nK) (RI fun w a2 r2 n2 => n2 = nK ∧ v = w ∧ Inv a2 r2)
theorem house_a2 : ∀ r, r ≤ 2 → ∀ H, H ≤ 20 → ∀ n, n ≤ 99 → lfHouse (nI r) (nI H) (nI n) =
    (if ¬ nI r = 0 ∧ ¬ nI n - nI n / 2 * 2 = nI r - nI r / 2 * 2 then 0 else if nI H < (if nI r = 0 then nI n else if nI r = 1 then (nI n + 1) / 2 else nI n / 2) then 0 else (if nI r = 0 then nI n else if nI r = 1 then (nI n + 1) / 2 else nI n / 2)) := by decide +kernel
section UTL
variable {G : GE} {a a' a1 b : IA} {r : RA} {T T' L L' M M' nc ns ng t wk im i j s n : Nat} {lw : List Int32} {ml : List Ln} {x y v w : Int32} {P : KI}
theorem inE_y (hn : n < 2 ^ 31) (h : inE x (nI n)) : ∃ i, i < n ∧ x = nI i := by
  obtain ⟨i, hi, rfl⟩ := nI_of h.1
  exact ⟨i, (nI_ltI hi hn).mp (i_nle.mp h.2), rfl⟩
theorem inE_n (hn : n < 2 ^ 31) (h : ¬ inE x (nI n)) : ¬ ∃ i, i < n ∧ x = nI i := by
  rintro ⟨i, hi, rfl⟩
  exact h ⟨nI_pos (by omega), i_nle.mpr (nI_lt hi hn)⟩
theorem inE_k (hn : n < 2 ^ 31) (hi : i < n) : inE (nI i) (nI n) := ⟨nI_pos (by omega), i_nle.mpr (nI_lt hi hn)⟩
theorem long_ok {r1 : RA} (hp : P 0 a (u2V r1 877 0 (.long v.toInt64)) nK) : (tyK 877).1 = 4 ∧ 877 < nK ∧ vp_in 0 (tyK 877).2 ∧ ∀ r14, r14 = u2V r1 877 (0 : Int32).toNatClampNeg (.long ((v : Int32).toInt64)) → P 0 a r14 nK :=
  ⟨rfl, by decide, vp_in_nI (show 0 < 1 by decide) (by decide), fun r14 e => by rw [e]; exact hp⟩
theorem pN1 {Q : Prop} {n : Nat} (h : P 1 a r n) : if xNo = "java/util/NoSuchElementException" then P 1 a r n else Q := by rw [if_pos (show xNo = "java/util/NoSuchElementException" from rfl)]; exact h
theorem pI1 {Q : Prop} {n : Nat} (h : P 1 a r n) : if xIl = "java/lang/IllegalArgumentException" then P 1 a r n else Q := by rw [if_pos (show xIl = "java/lang/IllegalArgumentException" from rfl)]; exact h
theorem pI2 {Q Q' : Prop} {n : Nat} (h : P 2 a r n) : if xIl = "java/util/NoSuchElementException" then Q else if xIl = "java/lang/IllegalArgumentException" then P 2 a r n else Q' := by
  rw [if_neg (show ¬ xIl = "java/util/NoSuchElementException" by decide +kernel), if_pos (show xIl = "java/lang/IllegalArgumentException" from rfl)]; exact h
theorem pX1 {Q : Prop} {n : Nat} (h : P 1 a r n) : if xIx = "java/lang/IndexOutOfBoundsException" then P 1 a r n else Q := by rw [if_pos (show xIx = "java/lang/IndexOutOfBoundsException" from rfl)]; exact h
theorem pN2 {Q Q' : Prop} {n : Nat} (h : P 2 a r n) : if xNo = "java/lang/IndexOutOfBoundsException" then Q else if xNo = "java/util/NoSuchElementException" then P 2 a r n else Q' := by
  rw [if_neg (show ¬ xNo = "java/lang/IndexOutOfBoundsException" by decide +kernel), if_pos (show xNo = "java/util/NoSuchElementException" from rfl)]; exact h
theorem u2V_0 {q j q' j' : Nat} {z : Value} (h : q' ≠ q) : u2V r q j z q' j' = r q' j' := by rw [u2V_off q' h]
theorem refC_877 : ∀ j, refC 877 j = 0 := fun j => by
  unfold refC
  split <;> first | rfl | (next h => exact absurd h (by decide))
theorem Rf.out {z : Value} (h : Rf r T T' L L' M M') : Rf (u2V r 877 0 z) T T' L L' M M' := by
  obtain ⟨h0, h1, h2, h3, h4, h5, h6, h7, h8, h9, h10, h11, h12, h13, h14, h15⟩ := h
  refine ⟨fun q j h => ?_, h1, h2, h3, ?_, ?_, h6, h7, h8, ?_, ?_, h11, h12, h13, ?_, ?_⟩
  · by_cases e : q = 877
    · subst e; exact absurd (refC_877 j) h
    · rw [u2V_0 e]; exact h0 q j h
  all_goals rw [u2V_0 (by decide)]; assumption
theorem Iv.out {z : Value} (h : Iv a r T T' L L' M M' nc ns ng t wk im lw ml) : Iv a (u2V r 877 0 z) T T' L L' M M' nc ns ng t wk im lw ml := ⟨h.1.out, h.2⟩
theorem Iv.inv (h : Iv a r T T' L L' M M' nc ns ng t wk im lw ml) : Inv a r := ⟨T, T', L, L', M, M', nc, ns, ng, t, wk, im, lw, ml, h⟩
theorem fin0 (h : Iv a r T T' L L' M M' nc ns ng t wk im lw ml) (h0 : a 60 0 = 0) (hv : v = w) : Fin 0 w a (u2V r 877 0 (.long v.toInt64)) nK :=
  ⟨rfl, h.out.inv, h0, fun _ => by rw [← hv]; unfold u2V; rw [va_up_self, va_up_self]⟩
theorem fin_bad (h : Iv a r T T' L L' M M' nc ns ng t wk im lw ml) (hi : i < 3) (hw : ¬ w = 0) : Fin w v (mBd (bump a (17 + i)) w i) r nK :=
  ⟨rfl, (h.bad hi).1.inv, (h.bad hi).2, fun z => absurd z hw⟩
theorem MqH.cg (h : MqH a nc ns ng lw) (e : ∀ q, 60 ≤ q → a' q = a q) : MqH a' nc ns ng lw := by
  obtain ⟨h1, h2, h3, h4, h5, h6⟩ := h
  refine ⟨h1.row (e 64 (by decide)) (fun s hs => e _ (by omega)), h2.row h3 (by rw [e 60 (by decide)]) (fun q hq _ => e q (by omega)), h3, h4, by rw [e 582 (by decide)]; exact h5, fun s hs => ?_⟩
  rw [e (96 + 1 + s) (by omega)]
  exact h6 s hs
theorem bump_off {q : Nat} (hq : 60 ≤ q) : bump a j q = a q := u2_off q (by omega)
theorem Iv.mqb (h : Iv a r T T' L L' M M' nc ns ng t wk im lw ml) : MqH (bump a j) nc ns ng lw := h.mq.cg (fun q hq => bump_off hq)
theorem Iv.rpb (h : Iv a r T T' L L' M M' nc ns ng t wk im lw ml) : RPw (bump a j) ml := by
  have e := h.rp
  unfold RPw at e ⊢
  refine ⟨by rw [bump_off (by decide)]; exact e.1, e.2.1, fun i v hi => ?_⟩
  rw [bump_off (by omega)]
  exact e.2.2 i v hi
theorem Iv.n8 (h : Iv a r T T' L L' M M' nc ns ng t wk im lw ml) : ns ≤ 8 := h.mc.2.2.2.1
theorem Iv.n10 (h : Iv a r T T' L L' M M' nc ns ng t wk im lw ml) : nc ≤ 10 := h.mc.2.1
theorem Iv.sT (h : Iv a r T T' L L' M M' nc ns ng t wk im lw ml) : a T 1 = nI ns := h.ct.2.2.2.2.1
theorem Iv.cT (h : Iv a r T T' L L' M M' nc ns ng t wk im lw ml) : a T 0 = nI nc := h.ct.2.2.1
theorem Iv.tw (h : Iv a r T T' L L' M M' nc ns ng t wk im lw ml) : Tw a T nc ns ng := h.2.2.1.1
theorem Iv.tl (h : Iv a r T T' L L' M M' nc ns ng t wk im lw ml) : Tl a T := h.2.2.1.2.1
theorem Iv.cs (h : Iv a r T T' L L' M M' nc ns ng t wk im lw ml) : Cs a nc := h.2.2.1.2.2.1
theorem Iv.hs (h : Iv a r T T' L L' M M' nc ns ng t wk im lw ml) : Hs a ns := h.2.2.1.2.2.2.1
theorem Iv.rw (h : Iv a r T T' L L' M M' nc ns ng t wk im lw ml) : Rw ns (a 44) (a 582) := h.2.2.1.2.2.2.2
theorem Iv.pb (h : Iv a r T T' L L' M M' nc ns ng t wk im lw ml) : PlB ml := h.2.2.2.2.1.2.2
theorem Iv.ic (h : Iv a r T T' L L' M M' nc ns ng t wk im lw ml) : isCity T := h.1.2.1
theorem Iv.iM (h : Iv a r T T' L L' M M' nc ns ng t wk im lw ml) : isMail M := h.hm.1
theorem Iv.r3 (h : Iv a r T T' L L' M M' nc ns ng t wk im lw ml) : r 0 3 = .ref T := h.1.2.2.2.2.1
theorem Iv.r5 (h : Iv a r T T' L L' M M' nc ns ng t wk im lw ml) : r 0 5 = .ref L := h.hl.2.1
theorem Iv.r7 (h : Iv a r T T' L L' M M' nc ns ng t wk im lw ml) : r 0 7 = .ref M := h.hm.2.1
theorem Iv.s1 (h : Iv a r T T' L L' M M' nc ns ng t wk im lw ml) : a 64 1 = nI ns := h.mc.2.2.1
theorem zz0 : u2 a 60 0 0 60 0 = 0 := u2_is rfl rfl
theorem q5_0 (h : mQ5 (u2 a 60 0 0) a') : a' 60 0 = 0 := by rw [h 60 (by decide) (by decide)]; exact zz0
theorem qF_0 (h : mQF (u2 a 60 0 0) a') : a' 60 0 = 0 := by rw [h 60 (by omega)]; exact zz0
theorem q8_0 (h : mQ8 (u2 a 60 0 0) a') : a' 60 0 = 0 := by rw [h 60 (by decide) (by decide) (by decide)]; exact zz0
theorem tw_letter2 (h : Tw a T nc ns ng) (hR : Rw ns (a 44) (a 582)) (hH : Hs a ns) (hs : s < ns) (hn : n ≤ 99) : fLetter a T (nI s) (nI n) = mLet a s (nI n) := by
  have h8 := h.1.2.2.2.1
  have one : ∀ s, s < ns → fHouse a T (nI s) (nI n) = mHouse a s (nI n) (mHow a s) := by
    intro s hs
    have e := h.2.2.2.2.2.1 s hs
    obtain ⟨H, _, hH2, eH⟩ := hH s hs
    obtain ⟨r, hr, er⟩ := mHow_n (a := a) (s := s)
    unfold fHouse
    rw [kR (by omega), hR.1.2.1 s (by omega), roC_how, rAt_nI _ (by decide) (by omega), e.2.2.1, er, eH, house_a2 r hr H hH2 n hn]
    unfold mHouse
    rw [eH]
  unfold fLetter mLet
  rw [one s hs, kM (by omega), hR.1.1 s (by omega)]
  rcases hR.2.1 s hs with h0 | ⟨m, hm, hne, q1, q2⟩
  · rw [if_pos h0, if_pos h0]
  · rw [q1, nI_clamp (by omega), one m hm]
end UTL
