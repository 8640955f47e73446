/-! Main: work -/
section WK
variable {G : GE} {d C S : Nat} {a : IA} {r : RA} {n T L k t nc ns ng : Nat} {lw : List Int32} {B : Nat → Int32}
theorem c_perform {P : KN} {b : IA} {l : List St} (hr : Rk r) (hL : isLaw L) (hT : isCity T) (h50 : l.length ≤ 50) (hlw : LwOK b L lw) (h150 : lw.length ≤ 150) (hw : lw = [] ∨ dep lw 0 = some 1) (hwf : wfX l t 0 l.length 6) (hl : PlOK b l) (h4 : b 39 4 = 0) (h5 : b 39 5 = 0) (h6 : b 39 6 = 0)
    (hp : ∀ pl' h', plN pl' (exX (stpB b T lw) l t 0 l.length (b 44, 0, 0, 0)).2 → P (HW b L pl' (exX (stpB b T lw) l t 0 l.length (b 44, 0, 0, 0)).1 h') r nK) :
    Sp G (d + 14) 0 0 MX7_perform [.ref 39, .int 0, .int (nI l.length), .int 0, .ref 43, .ref T, .ref L] (b, r, nK) (RN P) := by
  have e0 : HW b L (b 39) (b 44) (b (L + 2)) = b := by unfold HW; rw [up_same, up_same, up_same]
  have hE := pf_all (G := G) hr hL hT h50 hlw h150 hw t 0 l.length 6 0 (b 39) (b 44) (b (L + 2)) 0 0 0 (d + 13) P hwf (Nat.le_refl _) (by omega) (by rw [up_same]; exact hl) ⟨h4, h5, h6⟩ (by omega) (by omega) (fun pl' h' _ _ hn => hp pl' h' hn)
  rw [e0] at hE
  exact V_X7_perform_0 ⟨fun _ => hE, fun z => absurd (by decide) z⟩
theorem c_work {P : KI} (hr : Rk r) (hc : CtH a r T nc ns ng) (hlw : LwH a r L lw) (hk : a 47 2 = nI k) (h16 : k ≤ 16) (h : opOK a (nI n) 150) (hB : By a B n)
    (hwf : ∀ l, pWork B n (nI ns) 200 [] 0 = .inl l → l.length ≤ 50 ∧ wfX l t 0 l.length 6)
    (h0 : k = 16 → P (-20) (opn a (nI n)) r nK)
    (hy : k < 16 → ∀ l, pWork B n (nI ns) 200 [] 0 = .inl l → ∀ a' g' p' s', (∀ q, ¬ (39 ≤ q ∧ q ≤ 42) → a' q = u2 a 0 1 0 q) → TXr g' n p' s' 0 (-1) → ∀ pl' h',
      P (nI (exX (stpB (lgKeep (va_up a' 2 g') k) T lw) l t 0 l.length (lgKeep (va_up a' 2 g') k 44, 0, 0, 0)).2.2.1) (u2 (HW (lgKeep (va_up a' 2 g') k) L pl' (exX (stpB (lgKeep (va_up a' 2 g') k) T lw) l t 0 l.length (lgKeep (va_up a' 2 g') k 44, 0, 0, 0)).1 h') 0 16 (nI (exX (stpB (lgKeep (va_up a' 2 g') k) T lw) l t 0 l.length (lgKeep (va_up a' 2 g') k 44, 0, 0, 0)).2.2.2)) r nK)
    (hf : k < 16 → ∀ c q, pWork B n (nI ns) 200 [] 0 = .inr (c, q) → ∀ a' g' p' s', (∀ q, ¬ (39 ≤ q ∧ q ≤ 42) → a' q = u2 a 0 1 0 q) → TXr g' n p' s' c (nI q) → P (c - 10) (va_up a' 2 g') r nK) : Sp G (d + 22) 0 0 MX11_work [.ref 0, .int (nI n)] (a, r, nK) (RI P) := by
  obtain ⟨hT, h3, _, _, hs, hs8, _, _⟩ := hc
  obtain ⟨hL, h5, hl, h150, hw⟩ := hlw
  have hn := hB.1
  have hn150 : n ≤ 150 := opn_n (mm := 150) rfl (by decide) rfl (by omega) h
  have eo : ∀ q, q ≠ 0 → q ≠ 2 → opn a (nI n) q = a q := fun q h1 h2 => by rw [opn_eq, va_up_ne _ _ h2, u2_off q h1]
  have r9 : r 0 9 = .ref 39 := rf5 hr (by decide) rfl
  refine V_X11_work_0 ⟨rfl, by decide, c_openText hr h (nI_nlt (a := 600) hn (by decide)) ⟨rfl, by decide, 47, rf12 hr, rfl, by decide, c_ledgerFull (by rw [eo 47 (by decide) (by decide)]; exact hk) h16 ?_⟩⟩
  by_cases hk16 : k < 16
  · rw [if_pos hk16]
    refine ⟨fun _ => ⟨rfl, by decide, 39, r9, rfl, by decide, 2, rf5 hr (by decide) rfl, rfl, by decide, _, h3, ct0 hT, ctl hT, rfl, by decide, ?_⟩, fun z => absurd rfl z⟩
    rw [eo T (by rcases hT with rfl | rfl <;> decide) (by rcases hT with rfl | rfl <;> decide), hs, opn_eq]
    refine c_readAllP hr hn150 (By_0 hB) txo_ok (by omega) (fun l e a' g' p' s' ho hpl e4 e5 e6 hx => ⟨fun _ => ?_, fun z => absurd z (by decide)⟩) (fun c q e a' g' p' s' ho hx => ⟨fun z => absurd rfl z, fun _ => ⟨rfl, by decide, 2, rf5 hr (by decide) rfl, rfl, by decide, c_answer ?_⟩⟩)
    · have hw47 : va_up a' 2 g' 47 2 = nI k := by rw [va_up_ne _ _ (by decide), ho 47 (by omega), u2_off 47 (by decide)]; exact hk
      refine ⟨rfl, by decide, 47, rf12 hr, rfl, by decide, 43, rf10 hr, rfl, by decide, c_keepWork hr hw47 hk16 ?_⟩
      have hy := hy hk16 l e a' g' p' s' ho hx
      have eb : ∀ q, q ≠ 2 → q ≠ 47 → q ≠ 48 → lgKeep (va_up a' 2 g') k q = a' q := fun q h1 h2 h3 => by
        unfold lgKeep
        rw [u2_off q h2, va_up_ne _ _ h3, va_up_ne _ _ h1]
      generalize lgKeep (va_up a' 2 g') k = b at hy eb ⊢
      have hplb : PlOK b l := by
        obtain ⟨p1, p2⟩ := hpl
        refine ⟨by rw [eb 39 (by decide) (by decide) (by decide)]; exact p1, fun i v hv => ?_⟩
        rw [eb 40 (by decide) (by decide) (by decide), eb 41 (by decide) (by decide) (by decide), eb 42 (by decide) (by decide) (by decide)]
        exact p2 i v hv
      have hlb : LwOK b L lw := by
        obtain ⟨p1, p2⟩ := hl
        have eL : ∀ j, j ≤ 1 → b (L + j) = a (L + j) := fun j hj => by
          rw [eb _ (by rcases hL with rfl | rfl <;> omega) (by rcases hL with rfl | rfl <;> omega) (by rcases hL with rfl | rfl <;> omega), ho _ (by rcases hL with rfl | rfl <;> omega), u2_off _ (by rcases hL with rfl | rfl <;> omega)]
        refine ⟨by rw [← p1]; exact congrFun (eL 0 (by decide)) 2, fun i v hv => ?_⟩
        rw [eL 1 (by decide)]
        exact p2 i v hv
      have e39 := eb 39 (by decide) (by decide) (by decide)
      refine ⟨rfl, by decide, 39, r9, rfl, by decide, 39, r9, rfl, by decide, rfl, by decide, 43, rf10 hr, rfl, by decide, _, h3, rfl, by decide, _, h5, rfl, by decide, ?_⟩
      rw [hplb.1]
      obtain ⟨w50, wf⟩ := hwf l e
      refine Sp.up (d := 14) (by omega) (c_perform (d := 0) hr hL hT w50 hlb h150 hw wf hplb (by rw [e39]; exact e4) (by rw [e39]; exact e5) (by rw [e39]; exact e6) (fun pl' h' hpn => ⟨rfl, by decide, 39, r9, rfl, by decide, rfl, by decide, fun a30 h30 => ⟨rfl, by decide, 39, r9, rfl, by decide, ?_⟩⟩))
      have hy := hy pl' h'
      generalize exX (stpB b T lw) l t 0 l.length (b 44, 0, 0, 0) = X at hy hpn h30
      rw [HW_39 hL, hpn.2.2] at h30
      subst h30
      rw [u2_off 39 (by decide), HW_39 hL, hpn.2.1]
      exact hy
    · rw [va_up_self, hx.2.2.2.1]
      exact hf hk16 c q e a' g' p' s' ho hx
  · rw [if_neg hk16]
    exact ⟨fun z => absurd z (by decide), fun _ => h0 (by omega)⟩
end WK
