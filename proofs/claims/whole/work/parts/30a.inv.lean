/-! What holds between two calls, and what may change in between -/
def Rf (r : RA) (T T' L L' M M' : Nat) : Prop := Rk r ∧ isCity T ∧ isCity T' ∧ T' ≠ T ∧ r 0 3 = .ref T ∧ r 0 4 = .ref T' ∧ isLaw L ∧ isLaw L' ∧ L' ≠ L ∧ r 0 5 = .ref L ∧ r 0 6 = .ref L' ∧ isMail M ∧ isMail M' ∧ M' ≠ M ∧ r 0 7 = .ref M ∧ r 0 8 = .ref M'
def TpI (a : IA) (t : Nat) : Prop := t ≤ 600 ∧ a 0 1 = nI t ∧ a 60 1 = nI t ∧ ∀ i, i < t → a 1 i &&& 255 = a 61 i ∧ (a 1 i = 32 ↔ a 61 i = 32)
def WoI (a : IA) (T nc ns ng : Nat) : Prop := Tw a T nc ns ng ∧ Tl a T ∧ Cs a nc ∧ Hs a ns ∧ Rw ns (a 44) (a 582)
def LwI (a : IA) (L : Nat) (lw : List Int32) : Prop := LwOK a L lw ∧ RLw a lw ∧ lw.length ≤ 150 ∧ (lw = [] ∨ dep lw 0 = some 1)
def PoI (a : IA) (M : Nat) (ml : List Ln) : Prop := MlOK a M ml ∧ RPw a ml ∧ PlB ml
def ImI (a : IA) (ns i : Nat) : Prop := ∃ k, k ≤ 16 ∧ a 49 (i * 715) = nI k ∧ a (601 + 1 + i) 0 = nI k ∧ Rw ns (fun j => a 49 (i * 715 + 1 + j)) (fun j => a (601 + 1 + i) (1 + j)) ∧ ∀ w, w < k → Rw ns (fun j => a 49 (i * 715 + 43 + w * 42 + j)) (fun j => a (601 + 1 + i) (43 + 42 * w + j))
def LgI (a : IA) (ns wk im : Nat) : Prop := a 47 2 = nI wk ∧ wk ≤ 16 ∧ a 60 39 = nI wk ∧ a 47 3 = nI im ∧ im ≤ 3 ∧ a 60 41 = nI im ∧ (∀ w, w < wk → Rw ns (fun j => a 48 (w * 42 + j)) (a (584 + 1 + w))) ∧ ∀ i, i < im → ImI a ns i
def CuI (a : IA) : Prop := a 0 16 = a 60 40 ∧ a 0 17 = a 62 0 ∧ a 0 18 = a 62 1 ∧ a 0 19 = a 62 2 ∧ a 2 5 = a 60 3
def Iv (a : IA) (r : RA) (T T' L L' M M' nc ns ng t wk im : Nat) (lw : List Int32) (ml : List Ln) : Prop := Rf r T T' L L' M M' ∧ TpI a t ∧ WoI a T nc ns ng ∧ LwI a L lw ∧ PoI a M ml ∧ LgI a ns wk im ∧ CuI a
def Inv (a : IA) (r : RA) : Prop := ∃ T T' L L' M M' nc ns ng t wk im lw ml, Iv a r T T' L L' M M' nc ns ng t wk im lw ml
/-- cells that count for nothing between calls -/
def scS (L q : Nat) : Prop := q = L + 2 ∨ (39 ≤ q ∧ q ≤ 42) ∨ q = 45 ∨ q = 46 ∨ (50 ≤ q ∧ q ≤ 59) ∨ q = 499 ∨ q = 500 ∨ q = 583 ∨ (606 ≤ q ∧ q ≤ 615) ∨ q = 616 ∨ q = 617 ∨ q = 618 ∨ (620 ≤ q ∧ q ≤ 876)
def sl60 (j : Nat) : Prop := j = 1 ∨ j = 3 ∨ j = 23 ∨ (38 ≤ j ∧ j ≤ 41)
/-- no more than those have changed -/
def Fr (L : Nat) (a a' : IA) : Prop := (∀ q, q ≠ 60 → ¬ scS L q → a' q = a q) ∧ ∀ j, sl60 j → a' 60 j = a 60 j
section INV
variable {a a' a2 : IA} {r : RA} {T T' L L' M M' nc ns ng t wk im q j : Nat} {lw : List Int32} {ml : List Ln}
theorem Fr.rf : Fr L a a := ⟨fun _ _ _ => rfl, fun _ _ => rfl⟩
theorem Fr.tr (h1 : Fr L a a') (h2 : Fr L a' a2) : Fr L a a2 := ⟨fun q h h' => (h2.1 q h h').trans (h1.1 q h h'), fun j h => (h2.2 j h).trans (h1.2 j h)⟩
theorem Fr.z : Fr L a (u2 a 60 0 0) := ⟨fun q h _ => u2_off q h, fun j h => u2_ne (by unfold sl60 at h; omega)⟩
theorem Fr.up {z : Nat → Int32} (hq : scS L q) (h60 : q ≠ 60) : Fr L a (va_up a q z) := ⟨fun p _ hp => va_up_ne _ _ (fun e => hp (by rw [e]; exact hq)), fun j _ => by rw [va_up_ne _ _ (fun e => h60 e.symm)]⟩
theorem Fr.keep (h : keep L a a') (hL : isLaw L) : Fr L a a' := by
  have hs : ∀ {q}, scr L q → scS L q := fun {q} z => by
    unfold scr at z
    unfold scS
    rcases z with z | z | z | z
    · exact Or.inl z
    · exact Or.inr (Or.inr (Or.inr (Or.inr (Or.inl z))))
    · exact Or.inr (Or.inr (Or.inl z))
    · exact Or.inr (Or.inr (Or.inr (Or.inl z)))
  have h60 : ¬ scr L 60 := by
    unfold scr
    rcases hL with rfl | rfl <;> omega
  exact ⟨fun q _ hq => h q (fun z => hq (hs z)), fun j _ => by rw [h 60 h60]⟩
theorem Fr.q5 (h : mQ5 a a') : Fr L a a' := ⟨fun q _ hq => h q (fun e => hq (by unfold scS; omega)) (fun e => hq (by unfold scS; omega)), fun j _ => by rw [h 60 (by decide) (by decide)]⟩
theorem Fr.qF (h : mQF a a') : Fr L a a' := ⟨fun q _ hq => h q (fun e => hq (by unfold scS; omega)), fun j _ => by rw [h 60 (by omega)]⟩
theorem Fr.q8 (h : mQ8 a a') : Fr L a a' := ⟨fun q _ hq => h q (fun e => hq (by unfold scS; omega)) (fun e => hq (by unfold scS; omega)) (fun e => hq (by unfold scS; omega)), fun j _ => by rw [h 60 (by decide) (by decide) (by decide)]⟩
theorem Fr.dh {c l : Int32} {g : Nat → Int32} : Fr L a (dH a c l g) := by
  unfold dH
  refine Fr.tr (a' := u2 (u2 a 60 52 l) 60 53 c) ⟨fun q h _ => ?_, fun j h => ?_⟩ (Fr.up (by unfold scS; omega) (by decide))
  · rw [u2_off q h, u2_off q h]
  · unfold sl60 at h
    rw [u2_ne (by omega), u2_ne (by omega)]
theorem Fr.mx (h : ∀ q, q ≠ 60 → q ≠ 499 → q ≠ 500 → q ≠ 616 → q ≠ 617 → q ≠ 618 → a' q = a q) (h60 : ∀ j, j ≠ 48 → j ≠ 49 → a' 60 j = a 60 j) : Fr L a a' :=
  ⟨fun q h0 hq => h q h0 (fun e => hq (by unfold scS; omega)) (fun e => hq (by unfold scS; omega)) (fun e => hq (by unfold scS; omega)) (fun e => hq (by unfold scS; omega)) (fun e => hq (by unfold scS; omega)), fun j hj => h60 j (by unfold sl60 at hj; omega) (by unfold sl60 at hj; omega)⟩
/-- a town's cells -/
theorem Fr.c (h : Fr L a a') (hL : isLaw L) (hq : q ≠ 60) (h1 : q ≤ 26 ∨ q = 43 ∨ q = 44 ∨ (33 ≤ q ∧ q ≤ 38) ∨ (47 ≤ q ∧ q ≤ 49) ∨ (61 ≤ q ∧ q ≤ 498) ∨ (501 ≤ q ∧ q ≤ 582) ∨ (584 ≤ q ∧ q ≤ 605)) : a' q = a q :=
  h.1 q hq (fun z => by unfold scS at z; rcases hL with rfl | rfl <;> omega)
theorem TwT {k : Nat} (hT : isCity T) (hk : k ≤ 11) : T + k ≤ 26 := by rcases hT with rfl | rfl <;> omega
/-- the cells of a town -/
def twC (T q : Nat) : Prop := (T ≤ q ∧ q ≤ T + 11) ∨ q = 64 ∨ (77 ≤ q ∧ q ≤ 86) ∨ (97 ≤ q ∧ q ≤ 104) ∨ (115 ≤ q ∧ q ≤ 122) ∨ (133 ≤ q ∧ q ≤ 140) ∨ (151 ≤ q ∧ q ≤ 158)
theorem twC.le (hT : isCity T) (h : twC T q) : (3 ≤ q ∧ q ≤ 26) ∨ (64 ≤ q ∧ q ≤ 158) := by
  unfold twC at h
  rcases hT with rfl | rfl <;> omega
theorem Tw.fr (h : Tw a T nc ns ng) (e : ∀ q, twC T q → a' q = a q) : Tw a' T nc ns ng := by
  obtain ⟨hc, h0, h1, h2, h3, h4, h5, h6, h7⟩ := h
  have h8 := hc.2.2.2.1
  have h88 := hc.2.2.2.2.2.1
  have h10 := hc.2.1
  have eT : ∀ k, k ≤ 11 → a' (T + k) = a (T + k) := fun k hk => e _ (by unfold twC; omega)
  have e0 := eT 0 (by decide)
  refine ⟨hc.row (e 64 (by unfold twC; omega)) (fun s hs => e _ (by unfold twC; omega)), ?_, ?_, ?_, fun k hk => ?_, fun s hs => ?_, fun g hg => ?_, fun s o hs ho => ?_, fun s o hs ho => ?_⟩
  · rw [show a' T = a T from e0]; exact h0
  · rw [show a' T = a T from e0]; exact h1
  · rw [show a' T = a T from e0]; exact h2
  · rw [eT 1 (by decide), eT 2 (by decide), e _ (by unfold twC; omega)]; exact h3 k hk
  · rw [eT 3 (by decide), eT 4 (by decide), eT 5 (by decide), eT 6 (by decide), eT 7 (by decide), e (96 + 1 + s) (by unfold twC; omega), mLen_cg hc (fun c hc => e c (by unfold twC; omega)) hs]; exact h4 s hs
  · rw [eT 10 (by decide), eT 11 (by decide), e _ (by unfold twC; omega)]; exact h5 g hg
  · rw [eT 8 (by decide), e _ (by unfold twC; omega)]; exact h6 s o hs ho
  · rw [eT 9 (by decide), e _ (by unfold twC; omega)]; exact h7 s o hs ho
theorem WoI.fr (h : WoI a T nc ns ng) (e : ∀ q, twC T q → a' q = a q) (e44 : a' 44 = a 44) (e582 : a' 582 = a 582) : WoI a' T nc ns ng := by
  obtain ⟨h1, h2, h3, h4, h5⟩ := h
  have h8 := h1.1.2.2.2.1
  have h10 := h1.1.2.1
  have eT : a' T = a T := e T (by unfold twC; omega)
  have e64 : a' 64 = a 64 := e 64 (by unfold twC; omega)
  refine ⟨h1.fr e, ?_, fun k hk => ?_, fun s hs => ?_, ?_⟩
  · unfold Tl
    rw [eT, e64]
    exact h2
  · rw [e (76 + 1 + k) (by unfold twC; omega)]; exact h3 k hk
  · rw [e (96 + 1 + s) (by unfold twC; omega)]; exact h4 s hs
  · rw [e44, e582]; exact h5
theorem LwI.fr (h : LwI a L lw) (e : a' L = a L) (e1 : a' (L + 1) = a (L + 1)) (e23 : a' 60 23 = a 60 23) (eq : ∀ q, 160 ≤ q → q ≤ 310 → a' q = a q) : LwI a' L lw := by
  obtain ⟨h1, h2, h3, h4⟩ := h
  refine ⟨⟨by rw [e]; exact h1.1, fun i v hi => by rw [e1]; exact h1.2 i v hi⟩, h2.row h3 e23 eq, h3, h4⟩
theorem PoI.fr (h : PoI a M ml) (e : ∀ k, k ≤ 2 → a' (M + k) = a (M + k)) (e38 : a' 60 38 = a 60 38) (eq : ∀ q, 482 ≤ q → q ≤ 489 → a' q = a q) : PoI a' M ml := by
  obtain ⟨h1, h2, h3⟩ := h
  have e0 : a' M = a M := e 0 (by decide)
  refine ⟨⟨by rw [e0]; exact h1.1, h1.2.1, fun i v hi => by rw [e 1 (by decide), e 2 (by decide)]; exact h1.2.2 i v hi⟩, ⟨by rw [e38]; exact h2.1, h2.2.1, fun i v hi => ?_⟩, h3⟩
  have hlt : i < ml.length := (List.getElem?_eq_some_iff.mp hi).1
  have := h2.2.1
  rw [eq (481 + 1 + i) (by omega) (by omega)]
  exact h2.2.2 i v hi
theorem LgI.fr (h : LgI a ns wk im) (e47 : a' 47 2 = a 47 2 ∧ a' 47 3 = a 47 3) (e48 : a' 48 = a 48) (e49 : a' 49 = a 49) (e60 : a' 60 39 = a 60 39 ∧ a' 60 41 = a 60 41) (eq : ∀ q, 585 ≤ q → q ≤ 604 → a' q = a q) : LgI a' ns wk im := by
  obtain ⟨h1, h2, h3, h4, h5, h6, h7, h8⟩ := h
  refine ⟨e47.1.trans h1, h2, e60.1.trans h3, e47.2.trans h4, h5, e60.2.trans h6, fun w hw => ?_, fun i hi => ?_⟩
  · rw [e48, eq (584 + 1 + w) (by omega) (by omega)]; exact h7 w hw
  · unfold ImI
    rw [e49, eq (601 + 1 + i) (by omega) (by omega)]; exact h8 i hi
theorem Iv.fr (h : Iv a r T T' L L' M M' nc ns ng t wk im lw ml) (hf : Fr L a a') : Iv a' r T T' L L' M M' nc ns ng t wk im lw ml := by
  obtain ⟨hR, hT, hW, hL, hP, hG, hC⟩ := h
  have il : isLaw L := hR.2.2.2.2.2.2.1
  have ic : isCity T := hR.2.1
  have iM : isMail M := hR.2.2.2.2.2.2.2.2.2.2.2.1
  have c : ∀ {q}, q ≠ 60 → (q ≤ 26 ∨ q = 43 ∨ q = 44 ∨ (33 ≤ q ∧ q ≤ 38) ∨ (47 ≤ q ∧ q ≤ 49) ∨ (61 ≤ q ∧ q ≤ 498) ∨ (501 ≤ q ∧ q ≤ 582) ∨ (584 ≤ q ∧ q ≤ 605)) → a' q = a q := fun h1 h2 => hf.c il h1 h2
  have s : ∀ {j}, sl60 j → a' 60 j = a 60 j := fun h => hf.2 _ h
  refine ⟨hR, ⟨hT.1, ?_, ?_, fun i hi => ?_⟩, hW.fr (fun q hq => by have := twC.le ic hq; exact c (by omega) (by omega)) (c (by decide) (by omega)) (c (by decide) (by omega)), hL.fr ?_ ?_ (s (by unfold sl60; omega)) (fun q h1 h2 => c (by omega) (by omega)), hP.fr (fun k hk => c ?_ ?_) (s (by unfold sl60; omega)) (fun q h1 h2 => c (by omega) (by omega)), hG.fr ?_ (c (by decide) (by omega)) (c (by decide) (by omega)) ⟨s (by unfold sl60; omega), s (by unfold sl60; omega)⟩ (fun q h1 h2 => c (by omega) (by omega)), ?_⟩
  · rw [c (by decide) (by omega)]; exact hT.2.1
  · rw [s (by unfold sl60; omega)]; exact hT.2.2.1
  · rw [c (q := 1) (by decide) (by omega), c (q := 61) (by decide) (by omega)]; exact hT.2.2.2 i hi
  · exact hf.1 L (by rcases il with rfl | rfl <;> omega) (fun z => by unfold scS at z; rcases il with rfl | rfl <;> omega)
  · exact hf.1 (L + 1) (by rcases il with rfl | rfl <;> omega) (fun z => by unfold scS at z; rcases il with rfl | rfl <;> omega)
  · rcases iM with rfl | rfl <;> omega
  · rcases iM with rfl | rfl <;> omega
  · rw [c (q := 47) (by decide) (by omega)]; exact ⟨rfl, rfl⟩
  · obtain ⟨c1, c2, c3, c4, c5⟩ := hC
    unfold CuI
    rw [c (q := 0) (by decide) (by omega), c (q := 62) (by decide) (by omega), c (q := 2) (by decide) (by omega), s (j := 40) (by unfold sl60; omega), s (j := 3) (by unfold sl60; omega)]
    exact ⟨c1, c2, c3, c4, c5⟩
/-- a call that both refuse -/
theorem Iv.bad {i : Nat} {w : Int32} (h : Iv a r T T' L L' M M' nc ns ng t wk im lw ml) (hi : i < 3) : Iv (mBd (bump a (17 + i)) w i) r T T' L L' M M' nc ns ng t wk im lw ml ∧ mBd (bump a (17 + i)) w i 60 0 = w := by
  have e0 : ∀ q j, ¬ (q = 0 ∧ j = 17 + i) → ¬ (q = 60 ∧ j = 0) → ¬ (q = 62 ∧ j = i) → mBd (bump a (17 + i)) w i q j = a q j := fun q j h1 h2 h3 => by
    unfold mBd bump
    rw [u2_no h3, u2_no h2, u2_no h1]
  have eq : ∀ q, q ≠ 0 → q ≠ 60 → q ≠ 62 → mBd (bump a (17 + i)) w i q = a q := fun q h1 h2 h3 => funext fun j => e0 q j (fun z => h1 z.1) (fun z => h2 z.1) (fun z => h3 z.1)
  obtain ⟨hR, hT, hW, hL, hP, hG, hC⟩ := h
  have il : isLaw L := hR.2.2.2.2.2.2.1
  have iM : isMail M := hR.2.2.2.2.2.2.2.2.2.2.2.1
  refine ⟨⟨hR, ⟨hT.1, ?_, ?_, fun k hk => ?_⟩, hW.fr (fun q hq => by have := twC.le hR.2.1 hq; exact eq q (by omega) (by omega) (by omega)) (eq 44 (by decide) (by decide) (by decide)) (eq 582 (by decide) (by decide) (by decide)), hL.fr (eq _ ?_ ?_ ?_) (eq _ ?_ ?_ ?_) (e0 _ _ (by omega) (by omega) (by omega)) (fun q h1 h2 => eq q (by omega) (by omega) (by omega)), hP.fr (fun k hk => eq _ ?_ ?_ ?_) (e0 _ _ (by omega) (by omega) (by omega)) (fun q h1 h2 => eq q (by omega) (by omega) (by omega)), hG.fr ?_ (eq _ (by decide) (by decide) (by decide)) (eq _ (by decide) (by decide) (by decide)) ⟨e0 _ _ (by omega) (by omega) (by omega), e0 _ _ (by omega) (by omega) (by omega)⟩ (fun q h1 h2 => eq q (by omega) (by omega) (by omega)), ?_⟩, ?_⟩
  · rw [e0 _ _ (by omega) (by omega) (by omega)]; exact hT.2.1
  · rw [e0 _ _ (by omega) (by omega) (by omega)]; exact hT.2.2.1
  · rw [eq 1 (by decide) (by decide) (by decide), eq 61 (by decide) (by decide) (by decide)]; exact hT.2.2.2 k hk
  all_goals first
    | (rcases il with rfl | rfl <;> omega)
    | (rcases iM with rfl | rfl <;> omega)
    | skip
  · rw [eq 47 (by decide) (by decide) (by decide)]; exact ⟨rfl, rfl⟩
  · obtain ⟨c1, c2, c3, c4, c5⟩ := hC
    have k : ∀ j, j < 3 → a 0 (17 + j) = a 62 j → mBd (bump a (17 + i)) w i 0 (17 + j) = mBd (bump a (17 + i)) w i 62 j := fun j hj e => by
      by_cases z : j = i
      · subst z
        unfold mBd bump
        rw [u2_no (q := 62) (q' := 0) (by omega), u2_no (q := 60) (q' := 0) (by omega), u2_is rfl rfl, u2_is rfl rfl, e, u2_no (q := 0) (q' := 62) (by omega)]
      · rw [e0 _ _ (by omega) (by omega) (by omega), e0 _ _ (by omega) (by omega) (by omega)]; exact e
    refine ⟨?_, k 0 (by decide) c2, k 1 (by decide) c3, k 2 (by decide) c4, ?_⟩
    · rw [e0 _ _ (by omega) (by omega) (by omega), e0 _ _ (by omega) (by omega) (by omega)]; exact c1
    · rw [e0 _ _ (by omega) (by omega) (by omega), e0 _ _ (by omega) (by omega) (by omega)]; exact c5
  · unfold mBd
    rw [u2_no (by omega), u2_is rfl rfl]
theorem Iv.z (h : Iv a r T T' L L' M M' nc ns ng t wk im lw ml) : Iv (u2 a 60 0 0) r T T' L L' M M' nc ns ng t wk im lw ml := h.fr Fr.z
/-- what the contracts want -/
theorem Iv.ct (h : Iv a r T T' L L' M M' nc ns ng t wk im lw ml) : CtH a r T nc ns ng := ⟨h.1.2.1, h.1.2.2.2.2.1, h.2.2.1.1.2.1, h.2.2.1.1.1.2.1, h.2.2.1.1.2.2.1, h.2.2.1.1.1.2.2.2.1, h.2.2.1.1.2.2.2.1, h.2.2.1.1.1.2.2.2.2.2.1⟩
theorem Iv.hl (h : Iv a r T T' L L' M M' nc ns ng t wk im lw ml) : LwH a r L lw := ⟨h.1.2.2.2.2.2.2.1, h.1.2.2.2.2.2.2.2.2.2.1, h.2.2.2.1.1, h.2.2.2.1.2.2.1, h.2.2.2.1.2.2.2⟩
theorem Iv.hm (h : Iv a r T T' L L' M M' nc ns ng t wk im lw ml) : MlH a r M ml := ⟨h.1.2.2.2.2.2.2.2.2.2.2.2.1, h.1.2.2.2.2.2.2.2.2.2.2.2.2.2.2.1, h.2.2.2.2.1.1⟩
theorem Iv.mq (h : Iv a r T T' L L' M M' nc ns ng t wk im lw ml) : MqH a nc ns ng lw := ⟨h.2.2.1.1.1, h.2.2.2.1.2.1, h.2.2.2.1.2.2.1, h.2.2.2.1.2.2.2, h.2.2.1.2.2.2.2.2.1, h.2.2.1.2.2.2.1⟩
theorem Iv.mc (h : Iv a r T T' L L' M M' nc ns ng t wk im lw ml) : MtC a nc ns ng := h.2.2.1.1.1
theorem Iv.rp (h : Iv a r T T' L L' M M' nc ns ng t wk im lw ml) : RPw a ml := h.2.2.2.2.1.2.1
theorem Iv.il (h : Iv a r T T' L L' M M' nc ns ng t wk im lw ml) : isLaw L := h.1.2.2.2.2.2.2.1
theorem Iv.rk (h : Iv a r T T' L L' M M' nc ns ng t wk im lw ml) : Rk r := h.1.1
end INV
