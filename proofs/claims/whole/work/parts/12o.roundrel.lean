/-! Pure: rounds alike -/
section RRL
variable {a : IA} {T nc ns ng str f : Nat}
theorem tw_round (h : Tw a T nc ns ng) (hC : Cs a nc) (hstr : str < 2 ^ ns) (hf : f < ns) (hb : str.testBit f = true) : (if wkR a T ns (nI str) ns 0 0 0 0 1000000 < 1000000 then wkR a T ns (nI str) ns 0 0 0 0 1000000 else -1) = mRound a (wayF a ns (-1)) ns str (eN a f 0) := by
  have gc := grC_of h hC
  have gm := gr_of h.1 hC
  have h8 := gm.2.1
  have p8 := pow_le h8
  rw [eN_0 gm hf]
  exact Rd.uniq (round_C gc hf ((bB_has (by omega)).mp ((set_has str (by omega) f (by omega)).mpr hb))) (round_M gm (gm.2.2 f hf).1 hstr)
end RRL
