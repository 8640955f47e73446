/-! The class's answers, in two heaps that tell the same town and row -/
def Ca (a b : IA) (T : Nat) : Prop := (∀ k, k ≤ 11 → b (T + k) = a (T + k)) ∧ b 44 = a 44
section CGR
variable {a b : IA} {T nc ns ng s t k m : Nat} {w x y z : Int32} {lw : List Int32} {ml : List Ln}
theorem Ca.tT (h : Ca a b T) : b T = a T := h.1 0 (by decide)
theorem liking_cg (h : Ca a b T) : ctLiking b T = ctLiking a T := by
  funext x y
  unfold ctLiking
  rw [h.1 8 (by decide)]
theorem hind_cg (h : Ca a b T) : lwHind b T 43 lw = lwHind a T 43 lw := by
  funext x y
  exact lwHind_cg h.1 h.2
theorem street_cg (h : Ca a b T) : fStreet b T x y = fStreet a T x y := by
  unfold fStreet
  rw [h.1 3 (by decide), h.1 4 (by decide), h.1 5 (by decide), h.1 7 (by decide), h.2]
theorem letter_cg (h : Ca a b T) : fLetter b T x y = fLetter a T x y := by
  unfold fLetter fHouse
  rw [h.1 5 (by decide), h.2]
theorem last_cg (h : Ca a b T) : fLast b T x = fLast a T x := by
  unfold fLast fNum
  rw [h.1 5 (by decide), h.2]
theorem missing_cg (h : Ca a b T) : fMissing b T x = fMissing a T x := by
  unfold fMissing
  rw [last_cg h, h.1 5 (by decide), h.2]
theorem mayC_cg (h : Ca a b T) : mayC b T lw ns s = mayC a T lw ns s := by
  unfold mayC
  rw [hind_cg h, h.2]
theorem mayR_cg (h : Ca a b T) (hs : s < ns) : mayR b T lw ns ns s = mayR a T lw ns ns s := by
  unfold mayR
  rw [if_pos hs, if_pos hs, mayC_cg h]
theorem XM_cg (h : Ca a b T) (h8 : ns ≤ 8) : JsR (XM a T (mayR a T lw ns ns) ns) (XM b T (mayR b T lw ns ns) ns) := by
  have hl := liking_cg h
  have al : ∀ s r, s < ns → alwC (mayR a T lw ns ns) s r = alwC (mayR b T lw ns ns) s r := fun s r hs => by
    unfold alwC
    rw [mayR_cg h hs]
  unfold XM
  refine fM_rel (ns := ns) h8 (fun m m' x y hm he hr => ?_) (fun s r hs hr hsr => al s r hs) ns 0 _ _ _ _ (by omega) (fun s hs => Or.inl (if_pos (by omega))) (fun j hj => by rw [if_pos hj, if_pos hj]) ⟨rfl, rfl, fun j hj => ⟨by show (if j < 8 then (-1 : Int32) else _) = if j < 8 then -1 else _; rw [if_pos hj, if_pos hj], by show (if j < 8 then (-1 : Int32) else _) = if j < 8 then -1 else _; rw [if_pos hj, if_pos hj]⟩⟩
  refine jdg_rel ?_ ?_ he hr
  · unfold wfC
    refine sI_congr (fun s hs => ?_)
    rw [hl, he s (by omega)]
  · unfold sfC
    refine allB_cg _ _ (fun s h1 h2 => allB_cg _ _ (fun t h3 h4 => ?_))
    unfold okP prfC
    rw [al s t (by omega), hl, he s (by omega), he t (by omega)]
theorem JsR.tr {x y z : Js} (h1 : JsR x y) (h2 : JsR y z) : JsR x z := ⟨h1.1.trans h2.1, h1.2.1.trans h2.2.1, fun j hj => ⟨(h1.2.2 j hj).1.trans (h2.2.2 j hj).1, (h1.2.2 j hj).2.trans (h2.2.2 j hj).2⟩⟩
theorem fTm_cg (h : Ca a b T) : fTm b T lw x y = fTm a T lw x y := by
  unfold fTm
  rw [liking_cg h, hind_cg h, h.2]
theorem edge_cg (h : Ca a b T) : rEdge b T = rEdge a T := by
  funext c s f
  unfold rEdge
  rw [h.1 3 (by decide), h.1 4 (by decide), h.1 7 (by decide)]
theorem spread_cg (h : Ca a b T) : rSpread b T = rSpread a T := by
  funext nc ns frm c f
  unfold rSpread rPass
  rw [edge_cg h]
theorem brS_cg (h : Ca a b T) : brS b T = brS a T := by
  funext nc ns k x
  unfold brS brF
  rw [spread_cg h, h.1 3 (by decide), h.1 4 (by decide)]
theorem eds_cg (h : Ca a b T) : eds b T = eds a T := by
  funext s
  unfold eds
  rw [h.1 3 (by decide), h.1 4 (by decide)]
theorem opS_cg (h : Ca a b T) : opS b T = opS a T := by
  funext s x
  unfold opS
  rw [eds_cg h]
theorem opT_cg (h : Ca a b T) : ∀ k x, opT b T ns k x = opT a T ns k x
  | 0, _ => rfl
  | k + 1, x => by
    rw [opT, opT, opS_cg h]
    split
    · rfl
    · exact opT_cg h k _
theorem oneP_cg (h : Ca a b T) : oneP b T ns x = oneP a T ns x := by
  unfold oneP
  rw [opT_cg h]
theorem wkR_cg (h : Ca a b T) : ∀ t s u o l v, wkR b T ns w t s u o l v = wkR a T ns w t s u o l v
  | 0, s, u, o, l, v => by rw [wkR, wkR, oneP_cg h]
  | t + 1, s, u, o, l, v => by
    rw [wkR, wkR, eds_cg h, h.1 7 (by decide), wkR_cg h t, wkR_cg h t, wkR_cg h t]
theorem frX_cg (h : Ca a b T) : frX b T ng = frX a T ng := by
  have e : frS b T ng = frS a T ng := by
    funext k x
    unfold frS wOne wOth
    rw [h.1 10 (by decide), h.1 11 (by decide)]
  unfold frX
  rw [e]
theorem evX_cg (h : Ca a b T) : evX b T ng = evX a T ng := by
  have e : evM b T ng = evM a T ng := by
    funext k x
    unfold evM evV wOne wOth
    rw [h.1 10 (by decide), h.1 11 (by decide)]
  unfold evX
  rw [e]
theorem lnX_cg (h : Ca a b T) : lnX b T = lnX a T := by
  funext y
  unfold lnX
  rw [h.tT]
theorem lnY_cg (h : Ca a b T) : lnY b T = lnY a T := by
  funext y
  unfold lnY
  rw [h.tT]
theorem yr_cg (h : Ca a b T) : yr b = yr a := by
  unfold yr
  rw [h.2]
theorem lnN_cg (h : Ca a b T) : ∀ c k, lnN b T c k = lnN a T c k
  | 0, _ => rfl
  | c + 1, k => by rw [lnN, lnN, yr_cg h, lnX_cg h, h.tT, lnN_cg h c (k + 1)]
theorem stX_cg (h : Ca a b T) : stX b T nc = stX a T nc := by
  have e : stS b T nc = stS a T nc := by
    funext k x
    unfold stS
    rw [h.1 1 (by decide), h.1 2 (by decide), yr_cg h, lnX_cg h, lnY_cg h]
  unfold stX
  rw [e, lnN_cg h]
theorem mtB_cg (h : Ca a b T) : mtB b T ns lw ml x y = mtB a T ns lw ml x y := by
  unfold mtB
  rw [hind_cg h, h.1 5 (by decide)]
theorem mtA_cg (h : Ca a b T) : mtA b T ml x = mtA a T ml x := by
  unfold mtA
  rw [h.1 5 (by decide)]
theorem fMates_cg (h : Ca a b T) : fMates b T ns lw ml x y = fMates a T ns lw ml x y := by
  unfold fMates
  rw [mtB_cg h, mtB_cg h, mtA_cg h]
theorem lkX_cg (h : Ca a b T) : lkX b T ns lw ml x = lkX a T ns lw ml x := by
  unfold lkX
  rw [mtB_cg h, mtB_cg h, mtA_cg h, h.1 5 (by decide)]
theorem Fr.ca {L : Nat} (h : Fr L a b) (hL : isLaw L) (hT : isCity T) : Ca a b T := ⟨fun k hk => h.c hL (by have := TwT hT hk; omega) (Or.inl (TwT hT hk)), h.c hL (by decide) (by omega)⟩
/-- bridges from any row that stood there before -/
theorem bridges_f (h : Tw a T nc ns ng) (hC : Cs a nc) (f0 : Nat → Int32) : (dnM (brS a T nc ns) ns (0, -1, f0)).1 = (brX a T nc ns).1 ∧ (dnM (brS a T nc ns) ns (0, -1, f0)).2.1 = (brX a T nc ns).2.1 := by
  have key : ∀ n, n ≤ ns → ∀ x y : Br, x.1 = y.1 → x.2.1 = y.2.1 → (dnM (brS a T nc ns) n x).1 = (dnM (brS a T nc ns) n y).1 ∧ (dnM (brS a T nc ns) n x).2.1 = (dnM (brS a T nc ns) n y).2.1 := by
    intro n
    induction n with
    | zero => intro _ x y e1 e2; rw [dnM, dnM]; exact ⟨e1, e2⟩
    | succ n ih =>
      intro hn x y e1 e2
      rw [dnM, dnM]
      have h8 := h.1.2.2.2.1
      obtain ⟨a1, a2, a3, a4, a5, a6, a7⟩ := (gr_of h.1 hC).2.2 n (by omega)
      have e := h.2.2.2.2.2.1 n (by omega)
      have v : ∀ z : Br, stp (brF a T nc ns n z) (rAt (a (T + 4)) 8 (nI n)) = wayF a ns (nI n) (gUa a n) (gVa a n) := fun z => by
        unfold brF
        rw [rAt_nI _ (by decide) (by omega), rAt_nI _ (by decide) (by omega), e.1, e.2.1, a4, a5]
        exact tw_way h hC a1 a2
      have s : ∀ z : Br, (brS a T nc ns n z).1 = (if wayF a ns (nI n) (gUa a n) (gVa a n) = -1 then z.1 + 1 else z.1) ∧ (brS a T nc ns n z).2.1 = (if wayF a ns (nI n) (gUa a n) (gVa a n) = -1 then nI n else z.2.1) := fun z => by
        unfold brS
        rw [v z]
        by_cases c : wayF a ns (nI n) (gUa a n) (gVa a n) = -1
        · rw [if_pos c, if_pos c, if_pos c]; exact ⟨rfl, rfl⟩
        · rw [if_neg c, if_neg c, if_neg c]; exact ⟨rfl, rfl⟩
      refine ih (by omega) _ _ ?_ ?_
      · rw [(s x).1, (s y).1, e1]
      · rw [(s x).2, (s y).2, e2]
  exact key ns (Nat.le_refl _) _ _ rfl rfl
theorem brX_cg (h : Ca a b T) (hw : Tw b T nc ns ng) (hC : Cs b nc) : (brX a T nc ns).1 = (brX b T nc ns).1 ∧ (brX a T nc ns).2.1 = (brX b T nc ns).2.1 := by
  have := bridges_f hw hC (a 56)
  rw [brS_cg h] at this
  exact this
end CGR
