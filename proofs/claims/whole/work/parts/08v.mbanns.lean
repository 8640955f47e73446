/-! The reference: lengths, crossings, banns -/
/-- the town that stands -/
def MtC (a : IA) (nc ns ng : Nat) : Prop := a 64 0 = nI nc ∧ nc ≤ 10 ∧ a 64 1 = nI ns ∧ ns ≤ 8 ∧ a 64 2 = nI ng ∧ ng ≤ 8 ∧ ∀ s, s < ns → ∃ i j, i < nc ∧ j < nc ∧ i ≠ j ∧ a (96 + 1 + s) 0 = nI i ∧ a (96 + 1 + s) 1 = nI j
def awy (x y : Int32) : Int32 := if x ≤ y then y - x else x - y
def mLen (a : IA) (s : Nat) : Int32 := awy (a (76 + 1 + (a (96 + 1 + s) 0).toNatClampNeg) 0) (a (76 + 1 + (a (96 + 1 + s) 1).toNatClampNeg) 0) + awy (a (76 + 1 + (a (96 + 1 + s) 0).toNatClampNeg) 1) (a (76 + 1 + (a (96 + 1 + s) 1).toNatClampNeg) 1)
def mCr1 (a : IA) (s r k : Nat) : Int32 := if a (96 + 1 + s) k = a (96 + 1 + r) 0 ∨ a (96 + 1 + s) k = a (96 + 1 + r) 1 then 1 else 0
def mCross (a : IA) (s r : Nat) : Int32 := mCr1 a s r 0 + mCr1 a s r 1
def mKn (a : IA) (q s r : Nat) : Nat → Int32
  | 0 => a (96 + 1 + s) 2
  | 1 => a (96 + 1 + r) 2
  | 2 => a q (24 + s) + a q (24 + r)
  | 3 => a (114 + 1 + s) r
  | 4 => a (114 + 1 + r) s
  | 5 => mCross a s r
  | 6 => mLen a s + mLen a r
  | 7 => a q 40
  | _ => a q (32 + s) + a q (32 + r)
def mFc (a : IA) (q s r : Nat) (w : Int32) : Int32 := mKn a q s r (rcode w).2.toNatClampNeg
def mBan (a : IA) (q : Nat) (lw : List Int32) (s r : Nat) : Int32 := if s = r then 1 else if a (132 + 1 + s) r = 1 then 2 else if lwVal (mFc a q s r) lw ≤ 0 then 0 else 3
/-- all but the law's stack and what is known to it -/
def mQ5 (a a' : IA) : Prop := ∀ q, q ≠ 499 → q ≠ 500 → a' q = a q
theorem mQ5_rf {a : IA} : mQ5 a a := fun _ _ _ => rfl
theorem mQ5_tr {a b c : IA} (h1 : mQ5 a b) (h2 : mQ5 b c) : mQ5 a c := fun q h3 h4 => (h2 q h3 h4).trans (h1 q h3 h4)
theorem MtC.row {a a' : IA} {nc ns ng : Nat} (h : MtC a nc ns ng) (e : a' 64 = a 64) (es : ∀ s, s < ns → a' (96 + 1 + s) = a (96 + 1 + s)) : MtC a' nc ns ng := by
  obtain ⟨h1, h2, h3, h4, h5, h6, h7⟩ := h
  refine ⟨by rw [e]; exact h1, h2, by rw [e]; exact h3, h4, by rw [e]; exact h5, h6, fun s hs => ?_⟩
  rw [es s hs]
  exact h7 s hs
section MBN
variable {G : GE} {d C S : Nat} {a : IA} {r : RA} {l : List Int32} {nc ns ng s t q : Nat}
theorem c_mLen {P : KI} (hr : Rk r) (hc : MtC a nc ns ng) (hs : s < ns) (hp : P (mLen a s) a r nK) : Sp G (d + 1) 0 0 MX12_lengthOf [.ref 60, .int (nI s)] (a, r, nK) (RI P) := by
  obtain ⟨h1, h2, h3, h4, h5, h6, h7⟩ := hc
  obtain ⟨i, j, hi, hj, hij, e0, e1⟩ := h7 s hs
  have r14 : r 60 14 = .ref 76 := rf5 hr (by decide) rfl
  have r16 : r 60 16 = .ref 96 := rf5 hr (by decide) rfl
  have is : (nI s).toNatClampNeg = s := nI_clamp (by omega)
  have ii : (nI i).toNatClampNeg = i := nI_clamp (by omega)
  have ij : (nI j).toNatClampNeg = j := nI_clamp (by omega)
  have ty := tyR_street s (by omega)
  have bd : 96 + 1 + s < nK := by show _ < 878; omega
  have v8 : vp_in (nI s) 8 := vp_in_nI (by omega) (by decide)
  have v0 : vp_in 0 4 := vp_in_nI (show 0 < 4 by decide) (by decide)
  have v1 : vp_in 1 4 := vp_in_nI (show 1 < 4 by decide) (by decide)
  have w0 : vp_in 0 2 := vp_in_nI (show 0 < 2 by decide) (by decide)
  have w1 : vp_in 1 2 := vp_in_nI (show 1 < 2 by decide) (by decide)
  have ti := tyR_corner i (by omega)
  have tj := tyR_corner j (by omega)
  have bi : 76 + 1 + i < nK := by show _ < 878; omega
  have bj : 76 + 1 + j < nK := by show _ < 878; omega
  have vi : vp_in (nI i) 10 := vp_in_nI (by omega) (by decide)
  have vj : vp_in (nI j) 10 := vp_in_nI (by omega) (by decide)
  unfold mLen at hp
  rw [e0, e1, ii, ij] at hp
  refine V_X12_lengthOf_0 ?_
  refine ⟨rfl, by decide, 76, r14, rfl, by decide, 96, r16, rfl, by decide, v8, ?_⟩
  simp only [z0, z1, is, e0, e1, ii, ij]
  refine row3 ty bd v0 ⟨rfl, by decide, vi, row3 ti bi w0 ⟨rfl, by decide, 76, r14, rfl, by decide, 96, r16, rfl, by decide, v8, ?_⟩⟩
  rw [e1, ij]
  refine row3 ty bd v1 ⟨rfl, by decide, vj, row3 tj bj w0 (c_mAway ⟨rfl, by decide, 76, r14, rfl, by decide, 96, r16, rfl, by decide, v8, ?_⟩)⟩
  rw [e0, ii]
  refine row3 ty bd v0 ⟨rfl, by decide, vi, row3 ti bi w1 ⟨rfl, by decide, 76, r14, rfl, by decide, 96, r16, rfl, by decide, v8, ?_⟩⟩
  rw [e1, ij]
  exact row3 ty bd v1 ⟨rfl, by decide, vj, row3 tj bj w1 (c_mAway hp)⟩
theorem c_mCross {P : KI} (hr : Rk r) (hs : s < 8) (ht : t < 8) (hp : P (mCross a s t) a r nK) : Sp G d 0 0 MX12_crossOf [.ref 60, .int (nI s), .int (nI t)] (a, r, nK) (RI P) := by
  have r16 : r 60 16 = .ref 96 := rf5 hr (by decide) rfl
  have is : (nI s).toNatClampNeg = s := nI_clamp (by omega)
  have it : (nI t).toNatClampNeg = t := nI_clamp (by omega)
  have ty := tyR_street s (by omega)
  have tt := tyR_street t (by omega)
  have bd : 96 + 1 + s < nK := by show _ < 878; omega
  have bt : 96 + 1 + t < nK := by show _ < 878; omega
  have v8 : vp_in (nI s) 8 := vp_in_nI (by omega) (by decide)
  have t8 : vp_in (nI t) 8 := vp_in_nI (by omega) (by decide)
  have v0 : vp_in 0 4 := vp_in_nI (show 0 < 4 by decide) (by decide)
  have v1 : vp_in 1 4 := vp_in_nI (show 1 < 4 by decide) (by decide)
  have step : ∀ (k : Nat) (x : Int32), k < 2 → E G MX12_crossOf d 0 0 5 [.ref 60, .int (nI s), .int (nI t), .int (x + mCr1 a s t k), .int (nI (k + 1))] [] (a, r, nK) (RI P) → E G MX12_crossOf d 0 0 5 [.ref 60, .int (nI s), .int (nI t), .int x, .int (nI k)] [] (a, r, nK) (RI P) := by
    intro k x hk h
    have ik : (nI k).toNatClampNeg = k := nI_clamp (by omega)
    have vk : vp_in (nI k) 4 := vp_in_nI (by omega) (by decide)
    unfold mCr1 at h
    refine V_X12_crossOf_5 ⟨fun h2 => absurd ((nI_leI (a := 2) (by decide) (by omega)).mp h2) (by omega), fun _ => ⟨rfl, by decide, 96, r16, rfl, by decide, v8, ?_⟩⟩
    simp only [z0, z1, is, it, ik]
    refine row3 ty bd vk ⟨rfl, by decide, 96, r16, rfl, by decide, t8, row3 tt bt v0 ⟨fun h1 => ?_, fun h1 => ⟨rfl, by decide, 96, r16, rfl, by decide, v8, row3 ty bd vk ⟨rfl, by decide, 96, r16, rfl, by decide, t8, row3 tt bt v1 ⟨fun h2 => ?_, fun h2 => ?_⟩⟩⟩⟩⟩
    · rw [if_pos (Or.inl h1)] at h
      rw [nI_1]; exact h
    · rw [if_neg (fun e => e.elim h1 h2)] at h
      rw [nI_1]; exact h
    · rw [if_pos (Or.inr h2)] at h
      rw [nI_1]; exact h
  refine V_X12_crossOf_0 (step 0 0 (by decide) (step 1 _ (by decide) (V_X12_crossOf_5 ⟨fun _ => ?_, fun h => absurd (by decide) h⟩)))
  rw [Int32.zero_add]
  exact hp
theorem c_mBanns {P : KI} (hr : Rk r) (hc : MtC a nc ns ng) (hl : RLw a l) (h150 : l.length ≤ 150) (hd : l = [] ∨ dep l 0 = some 1) (hq : tyK q = (1, 42)) (hN : q < nK) (hq5 : q ≠ 500) (hq9 : q ≠ 499) (hs : s < ns) (ht : t < ns) (hp : ∀ a', mQ5 a a' → P (mBan a q l s t) a' r nK) :
    Sp G (d + 3) 0 0 MX12_bannsOf [.ref 60, .ref q, .int (nI s), .int (nI t)] (a, r, nK) (RI P) := by
  have hc0 := hc
  obtain ⟨h1, h2, h3, h4, h5, h6, h7⟩ := hc
  have r16 : r 60 16 = .ref 96 := rf5 hr (by decide) rfl
  have r18 : r 60 18 = .ref 114 := rf5 hr (by decide) rfl
  have r20 : r 60 20 = .ref 132 := rf5 hr (by decide) rfl
  have r30 : r 60 30 = .ref 500 := rf5 hr (by decide) rfl
  have is : (nI s).toNatClampNeg = s := nI_clamp (by omega)
  have it : (nI t).toNatClampNeg = t := nI_clamp (by omega)
  have ty := tyR_street s (by omega)
  have tt := tyR_street t (by omega)
  have bd : 96 + 1 + s < nK := by show _ < 878; omega
  have bt : 96 + 1 + t < nK := by show _ < 878; omega
  have v8 : vp_in (nI s) 8 := vp_in_nI (by omega) (by decide)
  have t8 : vp_in (nI t) 8 := vp_in_nI (by omega) (by decide)
  have vk : ∀ {k : Nat}, k < 9 → vp_in (nI k) 9 := fun h => vp_in_nI h (by decide)
  have v2 : vp_in 2 4 := vp_in_nI (show 2 < 4 by decide) (by decide)
  have hv : ∀ {R : Prop} {i : Nat}, i < 42 → R → (tyK q).1 = 1 ∧ q < nK ∧ vp_in (nI i) (tyK q).2 ∧ R := fun hi h => row3 hq hN (v42 hi) h
  have hcl : ∀ {i : Nat}, i < 42 → (nI i).toNatClampNeg = i := fun hi => nI_clamp (by omega)
  have z8 : (8 : Int32).toNatClampNeg = 8 := rfl
  have z40 : (40 : Int32).toNatClampNeg = 40 := rfl
  have est : (nI s = nI t) ↔ s = t := nI_eq (by omega) (by omega)
  unfold mBan at hp
  refine V_X12_bannsOf_0 ⟨fun hne => ⟨rfl, by decide, 132, r20, rfl, by decide, v8, ?_⟩, fun he => ?_⟩
  · rw [if_neg (fun e => hne (est.mpr e))] at hp
    simp only [z0, z1, z2, z3, z4, z5, z6, z7, z8, z40, o24, o32, is, it]
    rw [hcl (show 24 + s < 42 by omega), hcl (show 24 + t < 42 by omega), hcl (show 32 + s < 42 by omega), hcl (show 32 + t < 42 by omega)]
    refine row3 (tyR_never s (by omega)) (by show _ < 878; omega) t8 ⟨fun hnv => ?_, fun hnv => ?_⟩
    · rw [if_neg hnv] at hp
      -- the known things, one by one; g is what is known so far
      have e0 : ∀ (g : Nat → Int32) (c : Nat), c ≠ 500 → va_up a 500 g c = a c := fun g c h => va_up_ne _ _ h
      have cC : ∀ (g : Nat → Int32), MtC (va_up a 500 g) nc ns ng := fun g => hc0.row (e0 g 64 (by decide)) (fun s' hs' => e0 g _ (by omega))
      have cCr : ∀ (g : Nat → Int32), mCross (va_up a 500 g) s t = mCross a s t := fun g => by
        unfold mCross mCr1
        rw [e0 g _ (by omega), e0 g _ (by omega)]
      have cLn : ∀ (g : Nat → Int32) (s' : Nat), s' < ns → mLen (va_up a 500 g) s' = mLen a s' := fun g s' hs' => by
        obtain ⟨i, j, hi, hj, hij, e0', e1'⟩ := h7 s' hs'
        unfold mLen
        rw [e0 g (96 + 1 + s') (by omega), e0', e1', nI_clamp (by omega), nI_clamp (by omega), e0 g _ (by omega), e0 g _ (by omega)]
      refine ⟨rfl, by decide, 500, r30, rfl, by decide, 96, r16, rfl, by decide, v8, row3 ty bd v2 ⟨rfl, by decide, vk (k := 0) (by decide), fun a4 g4 => ⟨rfl, by decide, 500, r30, rfl, by decide, 96, r16, rfl, by decide, t8, row3 tt bt v2 ⟨rfl, by decide, vk (k := 1) (by decide), fun a7 g7 => ⟨rfl, by decide, 500, r30, hv (by omega) (hv (by omega) ⟨rfl, by decide, vk (k := 2) (by decide), fun a9 g9 => ⟨rfl, by decide, 500, r30, rfl, by decide, 114, r18, rfl, by decide, v8, row3 (tyR_likes s (by omega)) (by show _ < 878; omega) t8 ⟨rfl, by decide, vk (k := 3) (by decide), fun a12 g12 => ⟨rfl, by decide, 500, r30, rfl, by decide, 114, r18, rfl, by decide, t8, row3 (tyR_likes t (by omega)) (by show _ < 878; omega) v8 ⟨rfl, by decide, vk (k := 4) (by decide), fun a15 g15 => ⟨rfl, by decide, 500, r30, rfl, by decide, ?_⟩⟩⟩⟩⟩⟩)⟩⟩⟩⟩⟩
      have q4 : a4 = va_up a 500 (upd (a 500) 0 (a (96 + 1 + s) 2)) := g4
      subst q4
      rw [u2_va, e0 _ _ (by omega)] at g7
      subst g7
      rw [u2_va, e0 _ _ hq5] at g9
      subst g9
      rw [u2_va, e0 _ _ (by omega)] at g12
      subst g12
      rw [u2_va, e0 _ _ (by omega)] at g15
      subst g15
      refine c_mCross hr (by omega) (by omega) ⟨rfl, by decide, vk (k := 5) (by decide), fun a21 g21 => ⟨rfl, by decide, 500, r30, rfl, by decide, ?_⟩⟩
      rw [u2_va, cCr] at g21
      subst g21
      refine c_mLen hr (cC _) hs ⟨rfl, by decide, c_mLen hr (cC _) ht ⟨rfl, by decide, vk (k := 6) (by decide), fun a31 g31 => ⟨rfl, by decide, 500, r30, hv (i := 40) (by omega) ⟨rfl, by decide, vk (k := 7) (by decide), fun a33 g33 => ⟨rfl, by decide, 500, r30, hv (by omega) (hv (by omega) ⟨rfl, by decide, vk (k := 8) (by decide), fun a35 g35 => ⟨rfl, by decide, ?_⟩⟩)⟩⟩⟩⟩⟩
      rw [u2_va, cLn _ _ hs, cLn _ _ ht] at g31
      subst g31
      rw [u2_va, e0 _ _ hq5] at g33
      subst g33
      rw [u2_va, e0 _ _ hq5] at g35
      generalize hg : upd (upd (upd (upd (upd (upd (upd (upd (upd (a 500) 0 (a (96 + 1 + s) 2)) 1 (a (96 + 1 + t) 2)) 2 (a q (24 + s) + a q (24 + t))) 3 (a (114 + 1 + s) t)) 4 (a (114 + 1 + t) s)) 5 (mCross a s t)) 6 (mLen a s + mLen a t)) 7 (a q 40)) 8 (a q (32 + s) + a q (32 + t)) = g at g35
      have hgk : ∀ k, k < 9 → g k = mKn a q s t k := by
        intro k hk
        rw [← hg]
        have : k = 0 ∨ k = 1 ∨ k = 2 ∨ k = 3 ∨ k = 4 ∨ k = 5 ∨ k = 6 ∨ k = 7 ∨ k = 8 := by omega
        rcases this with rfl | rfl | rfl | rfl | rfl | rfl | rfl | rfl | rfl <;> rfl
      clear hg
      subst g35
      refine c_mByLaw (fc := mFc a q s t) hr ⟨by rw [e0 _ 60 (by decide)]; exact hl.1, fun i v hi => by
        have := (List.getElem?_eq_some_iff.mp hi).1
        rw [e0 _ (159 + 1 + i) (by omega)]
        exact hl.2 i v hi⟩ h150 hd (fun w k _ _ hk hw => ?_) (fun h' => ⟨fun hle => ?_, fun hle => ?_⟩)
      · rw [va_up_self, hgk k hk]
        unfold mFc
        rw [hw]
        show _ = mKn a q s t (nI k).toNatClampNeg
        rw [nI_clamp (by omega)]
      · have := hp (va_up (va_up a 500 g) 499 h') (fun c c1 c2 => by rw [va_up_ne _ _ c1, va_up_ne _ _ c2])
        rw [if_pos hle] at this
        exact this
      · have := hp (va_up (va_up a 500 g) 499 h') (fun c c1 c2 => by rw [va_up_ne _ _ c1, va_up_ne _ _ c2])
        rw [if_neg hle] at this
        exact this
    · rw [if_pos hnv] at hp
      exact hp a mQ5_rf
  · rw [if_pos (est.mp he)] at hp
    exact hp a mQ5_rf
end MBN
