/-! The reference: what a step does; the steps done -/
/-- a step's numbers are streets -/
def stV (ns : Nat) (v : St) : Prop := (v.1 = 1 ∨ v.1 = 2 ∨ v.1 = 3 ∨ v.1 = 4 ∨ v.1 = 5 ∨ v.1 = 6 ∨ v.1 = 7) ∧ (v.1 = 1 ∨ v.1 = 2 ∨ v.1 = 3 ∨ v.1 = 4 ∨ v.1 = 5 → ∃ s, s < ns ∧ v.2.1 = nI s) ∧ (v.1 = 1 → ∃ s, s < ns ∧ v.2.2 = nI s)
def mStp (a : IA) (q ns : Nat) (lw : List Int32) (g : Nat → Int32) (v : St) : Int32 × (Nat → Int32) :=
  let s := v.2.1.toNatClampNeg
  let t := v.2.2.toNatClampNeg
  if v.1 = 1 then (if ¬ g s = -1 ∨ ¬ g t = -1 ∨ ¬ mBan (va_up a q g) q lw s t = 0 then (0, g) else (1, mMarry g s t))
  else if v.1 = 2 then (if g s = -1 then (0, g) else (1, mPart g s (g s).toNatClampNeg))
  else if v.1 = 3 then (if g (24 + s) < 99 then (1, upd g (24 + s) (if g (24 + s) + v.2.2 ≤ 99 then g (24 + s) + v.2.2 else 99)) else (0, g))
  else if v.1 = 4 then (if g s = -1 ∨ (g (32 + s) = 9 ∧ g (32 + (g s).toNatClampNeg) = 9) then (0, g) else (1, mQuar g s (g s).toNatClampNeg))
  else if v.1 = 5 then (if g s = -1 then (if g (32 + s) ≤ 0 then 0 else 1, upd g (32 + s) 0) else (if g (32 + s) + g (32 + (g s).toNatClampNeg) ≤ 0 then 0 else 1, upd (upd g (32 + s) 0) (32 + (g s).toNatClampNeg) 0))
  else mTurn ns g
theorem mLen_cg {a a' : IA} {nc ns ng s : Nat} (hc : MtC a nc ns ng) (e : ∀ c, (77 ≤ c ∧ c ≤ 86) ∨ (97 ≤ c ∧ c ≤ 104) ∨ (115 ≤ c ∧ c ≤ 122) ∨ (133 ≤ c ∧ c ≤ 140) → a' c = a c) (hs : s < ns) : mLen a' s = mLen a s := by
  obtain ⟨h1, h2, h3, h4, h5, h6, h7⟩ := hc
  obtain ⟨i, j, hi, hj, hij, e0', e1'⟩ := h7 s hs
  unfold mLen
  rw [e (96 + 1 + s) (by omega), e0', e1', nI_clamp (by omega), nI_clamp (by omega), e _ (by omega), e _ (by omega)]
theorem mBan_cg {a a' : IA} {nc ns ng s t q : Nat} {lw : List Int32} (hc : MtC a nc ns ng) (e : ∀ c, (77 ≤ c ∧ c ≤ 86) ∨ (97 ≤ c ∧ c ≤ 104) ∨ (115 ≤ c ∧ c ≤ 122) ∨ (133 ≤ c ∧ c ≤ 140) → a' c = a c) (hq : a' q = a q) (hs : s < ns) (ht : t < ns) : mBan a' q lw s t = mBan a q lw s t := by
  have h4 := hc.2.2.2.1
  have ek : mKn a' q s t = mKn a q s t := by
    funext k
    rcases k with _ | _ | _ | _ | _ | _ | _ | _ | k
    · show a' (96 + 1 + s) 2 = a (96 + 1 + s) 2
      rw [e _ (by omega)]
    · show a' (96 + 1 + t) 2 = a (96 + 1 + t) 2
      rw [e _ (by omega)]
    · show a' q _ + a' q _ = a q _ + a q _
      rw [hq]
    · show a' (114 + 1 + s) t = a (114 + 1 + s) t
      rw [e _ (by omega)]
    · show a' (114 + 1 + t) s = a (114 + 1 + t) s
      rw [e _ (by omega)]
    · show mCross a' s t = mCross a s t
      unfold mCross mCr1
      rw [e _ (by omega), e (96 + 1 + t) (by omega)]
    · show mLen a' s + mLen a' t = mLen a s + mLen a t
      rw [mLen_cg hc e hs, mLen_cg hc e ht]
    · show a' q 40 = a q 40
      rw [hq]
    · show a' q _ + a' q _ = a q _ + a q _
      rw [hq]
  unfold mBan
  rw [e (132 + 1 + s) (by omega)]
  have : mFc a' q s t = mFc a q s t := by
    funext w
    unfold mFc
    rw [ek]
  rw [this]
section MDO
variable {G : GE} {d C S : Nat} {a : IA} {r : RA} {nc ns ng q R : Nat} {l : List Int32} {v : St}
theorem c_mDoes {P : KI} (hr : Rk r) (hc : MtC a nc ns ng) (hl : RLw a l) (h150 : l.length ≤ 150) (hd : l = [] ∨ dep l 0 = some 1) (hq : tyK q = (1, 42)) (hN : q < nK) (hq5 : q ≠ 500) (hq9 : q ≠ 499) (h64 : q ≠ 64) (hR : tyK R = (1, 4)) (hRN : R < nK) (hw : wfM ns (a q)) (hv : stV ns v) (h7 : ¬ v.1 = 7)
    (e0 : a R 0 = v.1 - 1) (e1 : ¬ v.1 = 6 → a R 1 = v.2.1) (e2 : (v.1 = 1 ∨ v.1 = 3) → a R 2 = v.2.2) (hp : ∀ a', mQ5 a a' → P (mStp a q ns l (a q) v).1 (va_up a' q (mStp a q ns l (a q) v).2) r nK) :
    Sp G (d + 4) 0 0 MX12_does [.ref 60, .ref q, .ref R] (a, r, nK) (RI P) := by
  have hc0 := hc
  obtain ⟨h1, h2, h3, h4, h5, h6, h7'⟩ := hc
  obtain ⟨hk, hs1, hs2⟩ := hv
  have hvR : ∀ {Q : Prop} {i : Nat}, i < 4 → Q → (tyK R).1 = 1 ∧ R < nK ∧ vp_in (nI i) (tyK R).2 ∧ Q := fun hi h => row3 hR hRN (vp_in_nI hi (by decide)) h
  have hvq : ∀ {Q : Prop} {i : Nat}, i < 42 → Q → (tyK q).1 = 1 ∧ q < nK ∧ vp_in (nI i) (tyK q).2 ∧ Q := fun hi h => row3 hq hN (v42 hi) h
  have hcl : ∀ {i : Nat}, i < 42 → (nI i).toNatClampNeg = i := fun hi => nI_clamp (by omega)
  have same := fun (x : Int32) (g : Nat → Int32) (h : mStp a q ns l (a q) v = (x, g)) => (show ∀ a', mQ5 a a' → P x (va_up a' q g) r nK from fun a' ha => by have := hp a' ha; rw [h] at this; exact this)
  have rfq : ∀ a', mQ5 a a' → va_up a' q (a q) = a' := fun a' ha => by rw [← ha q hq9 hq5]; exact up_same a' q
  refine V_X12_does_0 (hvR (i := 1) (by decide) (hvR (i := 2) (by decide) (hvR (i := 0) (by decide) ?_)))
  simp only [z0, z1, z2, e0]
  obtain ⟨k, x, y⟩ := v
  simp only at hk hs1 hs2 h7 e0 e1 e2
  have n60 : ∀ z : Int32, ¬ z = -1 → (0 : Int32) = 0 := fun _ _ => rfl
  rcases hk with rfl | rfl | rfl | rfl | rfl | rfl | rfl
  · -- marry
    obtain ⟨s, hs, rfl⟩ := hs1 (Or.inl rfl)
    obtain ⟨t, ht, rfl⟩ := hs2 rfl
    have e1 := e1 (by decide)
    have e2 := e2 (Or.inl rfl)
    have hm : mStp a q ns l (a q) (1, nI s, nI t) = (if ¬ a q s = -1 ∨ ¬ a q t = -1 ∨ ¬ mBan a q l s t = 0 then (0, a q) else (1, mMarry (a q) s t)) := by
      unfold mStp
      simp only [if_true]
      rw [nI_clamp (by omega), nI_clamp (by omega), show va_up a q (a q) = a from up_same a q]
    refine ⟨fun _ => ?_, fun h => absurd (show (1 : Int32) - 1 = 0 by decide) h⟩
    rw [e1, e2]
    refine c_mMate hq hN (by omega) ⟨fun hn => ⟨bz_0, ?_⟩, fun hn => c_mMate hq hN (by omega) ⟨fun hn2 => ⟨bz_0, ?_⟩, fun hn2 => ⟨rfl, by decide, c_mBanns hr hc0 hl h150 hd hq hN hq5 hq9 hs ht (fun a' ha => ⟨fun hb => ?_, fun hb => ⟨bz_0, ?_⟩⟩)⟩⟩⟩
    · rw [if_pos (Or.inl hn)] at hm
      have := same _ _ hm a mQ5_rf
      rw [rfq a mQ5_rf] at this; exact this
    · rw [if_pos (Or.inr (Or.inl hn2))] at hm
      have := same _ _ hm a mQ5_rf
      rw [rfq a mQ5_rf] at this; exact this
    · rw [if_neg (fun z => z.elim (fun z => z hn) (fun z => z.elim (fun z => z hn2) (fun z => z hb)))] at hm
      have := same _ _ hm a' ha
      refine c_mMarry hq hN (by omega) (by omega) ⟨bz_1, ?_⟩
      rw [ha q hq9 hq5]; exact this
    · rw [if_pos (Or.inr (Or.inr hb))] at hm
      have := same _ _ hm a' ha
      rw [rfq a' ha] at this; exact this
  · -- part
    obtain ⟨s, hs, rfl⟩ := hs1 (Or.inr (Or.inl rfl))
    have e1 := e1 (by decide)
    have hm : mStp a q ns l (a q) (2, nI s, y) = (if a q s = -1 then (0, a q) else (1, mPart (a q) s (a q s).toNatClampNeg)) := by
      unfold mStp
      rw [if_neg (by show ¬ (2 : Int32) = 1; decide), if_pos rfl]
      simp only
      rw [nI_clamp (by omega)]
    refine ⟨fun h => absurd h (by show ¬ (2 : Int32) - 1 = 0; decide), fun _ => ⟨fun _ => ?_, fun h => absurd (show (2 : Int32) - 1 = 1 by decide) h⟩⟩
    rw [e1]
    refine c_mMate hq hN (by omega) ⟨fun hn => ?_, fun hn => ⟨bz_0, ?_⟩⟩
    · rcases hw s hs with h0 | ⟨m, hm', hne, g1, g2⟩
      · exact absurd h0 hn
      · rw [if_neg hn, g1, nI_clamp (by omega)] at hm
        exact c_mParts hq hN (by omega) (show m < 8 by omega) g1 ⟨bz_1, same _ _ hm a mQ5_rf⟩
    · rw [if_pos hn] at hm
      have := same _ _ hm a mQ5_rf
      rw [rfq a mQ5_rf] at this; exact this
  · -- plant
    obtain ⟨s, hs, rfl⟩ := hs1 (Or.inr (Or.inr (Or.inl rfl)))
    have e1 := e1 (by decide)
    have e2 := e2 (Or.inr rfl)
    have hm : mStp a q ns l (a q) (3, nI s, y) = (if a q (24 + s) < 99 then (1, upd (a q) (24 + s) (if a q (24 + s) + y ≤ 99 then a q (24 + s) + y else 99)) else (0, a q)) := by
      unfold mStp
      rw [if_neg (by show ¬ (3 : Int32) = 1; decide), if_neg (by show ¬ (3 : Int32) = 2; decide), if_pos rfl]
      simp only
      rw [nI_clamp (by omega)]
    refine ⟨fun h => absurd h (by show ¬ (3 : Int32) - 1 = 0; decide), fun _ => ⟨fun h => absurd h (by show ¬ (3 : Int32) - 1 = 1; decide), fun _ => ⟨fun _ => ?_, fun h => absurd (show (3 : Int32) - 1 = 2 by decide) h⟩⟩⟩
    rw [e1, e2]
    simp only [o24]
    rw [hcl (show 24 + s < 42 by omega)]
    refine hvq (by omega) ⟨fun hn => hvq (by omega) (c_mLess (hvq (by omega) (fun a27 h27 => ⟨bz_1, ?_⟩))), fun hn => ⟨bz_0, ?_⟩⟩
    · rw [if_pos hn] at hm
      have h27 : a27 = va_up a q (upd (a q) (24 + s) (if a q (24 + s) + y ≤ 99 then a q (24 + s) + y else 99)) := h27
      subst h27
      exact same _ _ hm a mQ5_rf
    · rw [if_neg hn] at hm
      have := same _ _ hm a mQ5_rf
      rw [rfq a mQ5_rf] at this; exact this
  · -- quarrel
    obtain ⟨s, hs, rfl⟩ := hs1 (Or.inr (Or.inr (Or.inr (Or.inl rfl))))
    have e1 := e1 (by decide)
    have hm : mStp a q ns l (a q) (4, nI s, y) = (if a q s = -1 ∨ (a q (32 + s) = 9 ∧ a q (32 + (a q s).toNatClampNeg) = 9) then (0, a q) else (1, mQuar (a q) s (a q s).toNatClampNeg)) := by
      unfold mStp
      rw [if_neg (by show ¬ (4 : Int32) = 1; decide), if_neg (by show ¬ (4 : Int32) = 2; decide), if_neg (by show ¬ (4 : Int32) = 3; decide), if_pos rfl]
      simp only
      rw [nI_clamp (by omega)]
    refine ⟨fun h => absurd h (by show ¬ (4 : Int32) - 1 = 0; decide), fun _ => ⟨fun h => absurd h (by show ¬ (4 : Int32) - 1 = 1; decide), fun _ => ⟨fun h => absurd h (by show ¬ (4 : Int32) - 1 = 2; decide), fun _ => ⟨fun _ => ?_, fun h => absurd (show (4 : Int32) - 1 = 3 by decide) h⟩⟩⟩⟩
    rw [e1]
    rcases hw s hs with h0 | ⟨m, hm', hne, g1, g2⟩
    · rw [if_pos (Or.inl h0)] at hm
      have := same _ _ hm a mQ5_rf
      rw [rfq a mQ5_rf] at this
      exact c_mQuar0 hq hN (by omega) h0 ⟨bz_0, this⟩
    · have hn : ¬ a q s = -1 := by rw [g1]; exact nI_n1 (by omega)
      rw [g1, nI_clamp (by omega)] at hm
      refine c_mQuar hq hN (by omega) (show m < 8 by omega) g1 (fun h9 => ⟨bz_0, ?_⟩) (fun h9 _ => ⟨bz_1, ?_⟩) (fun e => hne e.symm)
      · rw [if_pos (Or.inr h9)] at hm
        have := same _ _ hm a mQ5_rf
        rw [rfq a mQ5_rf] at this; exact this
      · rw [if_neg (fun z => z.elim (fun z => nI_n1 (by omega) z) h9)] at hm
        exact same _ _ hm a mQ5_rf
  · -- repave
    obtain ⟨s, hs, rfl⟩ := hs1 (Or.inr (Or.inr (Or.inr (Or.inr rfl))))
    have e1 := e1 (by decide)
    have hm : mStp a q ns l (a q) (5, nI s, y) = (if a q s = -1 then (if a q (32 + s) ≤ 0 then 0 else 1, upd (a q) (32 + s) 0) else (if a q (32 + s) + a q (32 + (a q s).toNatClampNeg) ≤ 0 then 0 else 1, upd (upd (a q) (32 + s) 0) (32 + (a q s).toNatClampNeg) 0)) := by
      unfold mStp
      rw [if_neg (by show ¬ (5 : Int32) = 1; decide), if_neg (by show ¬ (5 : Int32) = 2; decide), if_neg (by show ¬ (5 : Int32) = 3; decide), if_neg (by show ¬ (5 : Int32) = 4; decide), if_pos rfl]
      simp only
      rw [nI_clamp (by omega)]
    refine ⟨fun h => absurd h (by show ¬ (5 : Int32) - 1 = 0; decide), fun _ => ⟨fun h => absurd h (by show ¬ (5 : Int32) - 1 = 1; decide), fun _ => ⟨fun h => absurd h (by show ¬ (5 : Int32) - 1 = 2; decide), fun _ => ⟨fun h => absurd h (by show ¬ (5 : Int32) - 1 = 3; decide), fun _ => ⟨fun _ => ?_, fun h => absurd (show (5 : Int32) - 1 = 4 by decide) h⟩⟩⟩⟩⟩
    rw [e1]
    have bzz : ∀ {p : Prop} [Decidable p], bz (if p then 0 else 1) := fun {p} _ => by split <;> rfl
    rcases hw s hs with h0 | ⟨m, hm', hne, g1, g2⟩
    · rw [if_pos h0] at hm
      exact c_mRep0 hq hN (by omega) h0 ⟨bzz, same _ _ hm a mQ5_rf⟩
    · have hn : ¬ a q s = -1 := by rw [g1]; exact nI_n1 (by omega)
      rw [if_neg hn, g1, nI_clamp (by omega)] at hm
      exact c_mRep hq hN (by omega) (show m < 8 by omega) (fun e => hne e.symm) g1 ⟨bzz, same _ _ hm a mQ5_rf⟩
  · -- year
    have hm : mStp a q ns l (a q) (6, x, y) = mTurn ns (a q) := rfl
    refine ⟨fun h => absurd h (by show ¬ (6 : Int32) - 1 = 0; decide), fun _ => ⟨fun h => absurd h (by show ¬ (6 : Int32) - 1 = 1; decide), fun _ => ⟨fun h => absurd h (by show ¬ (6 : Int32) - 1 = 2; decide), fun _ => ⟨fun h => absurd h (by show ¬ (6 : Int32) - 1 = 3; decide), fun _ => ⟨fun h => absurd h (by show ¬ (6 : Int32) - 1 = 4; decide), fun _ => ⟨rfl, by decide, ?_⟩⟩⟩⟩⟩⟩
    refine c_mYear hr hq hN h64 h4 h3 hw ⟨?_, same _ _ hm a mQ5_rf⟩
    unfold mTurn
    split
    · exact bz_0
    · exact bz_1
  · exact absurd rfl h7
end MDO
