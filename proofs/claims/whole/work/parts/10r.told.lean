/-! Pure: what is told, likes, common corners alike -/
section TLD
variable {a : IA} {T M nc ns ng s t k m : Nat} {w : Int32} {f g : Nat → Int32}
theorem rw_trees (hR : Rw ns f g) (h8 : ns ≤ 8) : sI (fun i => lfTrees f (nI i)) 8 = sI (fun s => g (24 + s)) ns := by
  rw [sI_congr (fun s hs => (kT hs).trans (hR.1.2.2.2.1 s hs))]
  exact sI_more h8 (fun k h1 h2 => (hR.2.2.1 k h1 h2).2.2.2)
theorem tw_told (h : Tw a T nc ns ng) (hR : Rw ns (a 44) (a 582)) (hM : a M 2 = a 60 38) (hF : a 0 16 = a 60 40) : fTold a T M w = mToldV a ns w := by
  have h8 := h.1.2.2.2.1
  have e0 : a T 0 = a 64 0 := h.2.1.trans h.1.1.symm
  have e1 : a T 1 = a 64 1 := h.2.2.1.trans h.1.2.2.1.symm
  have e2 : a T 2 = a 64 2 := h.2.2.2.1.trans h.1.2.2.2.2.1.symm
  have r40 : rAt (a 44) 42 40 = a 582 40 := (rAt_nI (k := 40) (a 44) (by decide) (by decide)).trans hR.1.2.2.2.2.2.1
  have r41 : rAt (a 44) 42 41 = a 582 41 := (rAt_nI (k := 41) (a 44) (by decide) (by decide)).trans hR.1.2.2.2.2.2.2
  have c4 : sI (fun i => if lfRole (a 44) (nI i) = 1 then (1 : Int32) else 0) 8 = mCoup (a 582) ns := rw_cpl hR h8
  have c6 : sI (fun i => lfHoles (a 44) (nI i)) 8 = sI (fun s => a 582 (32 + s)) ns := rw_hls hR h8
  unfold fTold mToldV
  rw [e0, e1, e2, r40, r41, c4, c6, rw_trees hR h8, hM, hF]
end TLD
