/-! Pure: stable, best and their first rows alike -/
def JsR (x y : Js) : Prop := x.1 = y.1 ∧ x.2.1 = y.2.1 ∧ ∀ j, j < 8 → x.2.2.1 j = y.2.2.1 j ∧ x.2.2.2 j = y.2.2.2 j
theorem jdg_rel {wf wf' : (Nat → Int32) → Int32} {sf sf' : (Nat → Int32) → Bool} {m m' : Nat → Int32} {x y : Js} (hw : wf m = wf' m') (hs : sf m = sf' m') (he : ∀ j, j < 8 → m j = m' j) (h : JsR x y) : JsR (jdg wf sf m x) (jdg wf' sf' m' y) := by
  have cp : ∀ (o o' : Nat → Int32) (j : Nat), j < 8 → cpy8 m o j = cpy8 m' o' j := fun o o' j hj => by unfold cpy8; rw [if_pos hj, if_pos hj, he j hj]
  have h1 : JsR (jdW (wf m) m x) (jdW (wf' m') m' y) := by
    unfold jdW
    rw [hw, h.2.1]
    by_cases c : wf' m' ≤ y.2.1
    · rw [if_pos c, if_pos c]; exact h
    · rw [if_neg c, if_neg c]; exact ⟨h.1, rfl, fun j hj => ⟨(h.2.2 j hj).1, cp _ _ j hj⟩⟩
  unfold jdg jdS
  rw [hs]
  cases sf' m' with
  | false => exact h1
  | true =>
    refine ⟨?_, h1.2.1, fun j hj => ⟨?_, (h1.2.2 j hj).2⟩⟩
    · show (jdW (wf m) m x).1 + 1 = (jdW (wf' m') m' y).1 + 1
      rw [h1.1]
    · show (if (jdW (wf m) m x).1 = 0 then cpy8 m (jdW (wf m) m x).2.2.1 else (jdW (wf m) m x).2.2.1) j = (if (jdW (wf' m') m' y).1 = 0 then cpy8 m' (jdW (wf' m') m' y).2.2.1 else (jdW (wf' m') m' y).2.2.1) j
      rw [h1.1]
      by_cases c : (jdW (wf' m') m' y).1 = 0
      · rw [if_pos c, if_pos c]; exact cp _ _ j hj
      · rw [if_neg c, if_neg c]; exact (h1.2.2 j hj).1
section XMR
variable {a : IA} {T nc ns ng s t : Nat} {lw : List Int32} {m m' : Nat → Int32}
theorem mHeat_m (he : ∀ j, j < 8 → m j = m' j) (hs : s < 8) : mHeat a m s = mHeat a m' s := by unfold mHeat; rw [he s hs]
theorem tw_XM (h : Tw a T nc ns ng) (hR : Rw ns (a 44) (a 582)) : JsR (XM a T (mayR a T lw ns ns) ns) (XR a lw ns) := by
  have h8 := h.1.2.2.2.1
  unfold XM XR
  refine fM_rel (ns := ns) h8 (fun m m' x y hm he hr => ?_) (fun s r hs hr hsr => tw_alw h hR hs hr hsr) ns 0 _ _ _ _ (by omega) (fun s hs => Or.inl (if_pos (by omega))) (fun j hj => by rw [if_pos hj, if_pos hj]) ⟨rfl, rfl, fun j hj => ⟨by show (if j < 8 then (-1 : Int32) else _) = if j < 8 then -1 else _; rw [if_pos hj, if_pos hj], by show (if j < 8 then (-1 : Int32) else _) = if j < 8 then -1 else _; rw [if_pos hj, if_pos hj]⟩⟩
  unfold mJd
  refine jdg_rel ?_ ?_ he hr
  · rw [tw_warm h hm ns (Nat.le_refl _)]
    unfold mWarm
    exact sI_congr (fun s hs => mHeat_m he (by omega))
  · rw [tw_sta h hR hm]
    unfold mSta2
    refine allB_cg _ _ (fun s h1 h2 => allB_cg _ _ (fun t h3 h4 => ?_))
    unfold mOkP mTempt
    rw [he s (by omega), mHeat_m he (show s < 8 by omega), mHeat_m he (show t < 8 by omega)]
end XMR
