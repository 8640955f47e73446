/-! The reference: a clause -/
/-- what a clause does to the reference's read rows -/
def mDo (a : IA) (c : Cl) : IA :=
  if c.1 = 1 then u2 (u2 (u2 a (65 + 1 + (a 63 0).toNatClampNeg) 0 c.2.1) (65 + 1 + (a 63 0).toNatClampNeg) 1 c.2.2.1) 63 0 (a 63 0 + 1)
  else if c.1 = 2 then u2 (u2 (u2 (u2 (u2 a (87 + 1 + (a 63 1).toNatClampNeg) 0 c.2.1) (87 + 1 + (a 63 1).toNatClampNeg) 1 c.2.2.1) (87 + 1 + (a 63 1).toNatClampNeg) 2 c.2.2.2.1) (87 + 1 + (a 63 1).toNatClampNeg) 3 c.2.2.2.2) 63 1 (a 63 1 + 1)
  else if c.1 = 3 then u2 a (105 + 1 + c.2.1.toNatClampNeg) c.2.2.1.toNatClampNeg c.2.2.2.1
  else if c.1 = 4 then u2 (u2 a (123 + 1 + c.2.1.toNatClampNeg) c.2.2.1.toNatClampNeg 1) (123 + 1 + c.2.2.1.toNatClampNeg) c.2.1.toNatClampNeg 1
  else if c.1 = 5 then u2 (u2 (u2 a (141 + 1 + (a 63 2).toNatClampNeg) 0 c.2.1) (141 + 1 + (a 63 2).toNatClampNeg) 1 c.2.2.1) 63 2 (a 63 2 + 1)
  else if c.1 = 6 then u2 (u2 (u2 (u2 a 63 3 c.2.1) 63 4 c.2.2.1) 63 5 c.2.2.2.1) 63 6 c.2.2.2.2
  else u2 a 63 7 c.2.1
/-- cells in which the reference reads -/
def mS (q : Nat) : Bool := decide (q = 63) || decide (65 ≤ q ∧ q ≤ 75) || decide (87 ≤ q ∧ q ≤ 95) || decide (105 ≤ q ∧ q ≤ 113) || decide (123 ≤ q ∧ q ≤ 131) || decide (141 ≤ q ∧ q ≤ 149) || decide (320 ≤ q ∧ q ≤ 480) || decide (490 ≤ q ∧ q ≤ 498) || decide (501 ≤ q ∧ q ≤ 581)
def mJ (j : Nat) : Bool := decide (4 ≤ j ∧ j ≤ 8) || decide (j = 24) || decide (j = 32)
def mK (a a' : IA) : Prop := (∀ q, q ≠ 60 → mS q = false → a' q = a q) ∧ ∀ j, mJ j = false → a' 60 j = a 60 j
theorem mK_rf {a : IA} : mK a a := ⟨fun _ _ _ => rfl, fun _ _ => rfl⟩
theorem mK_tr {a b c : IA} (h1 : mK a b) (h2 : mK b c) : mK a c := ⟨fun q h3 h4 => (h2.1 q h3 h4).trans (h1.1 q h3 h4), fun j h => (h2.2 j h).trans (h1.2 j h)⟩
theorem mK_w {a : IA} {q j : Nat} {v : Int32} (h : mS q = true) (h0 : q ≠ 60) : mK a (u2 a q j v) :=
  ⟨fun k _ h2 => u2_off k (fun e => by rw [e, h] at h2; cases h2), fun j _ => by rw [u2_off 60 (fun e => h0 e.symm)]⟩
theorem mK_6 {a : IA} {j : Nat} {v : Int32} (h : mJ j = true) : mK a (u2 a 60 j v) :=
  ⟨fun k h1 _ => u2_off k h1, fun i hi => u2_ne (fun e => by rw [e, h] at hi; cases hi)⟩
theorem mK_st {a : IA} {x : Int32} {o : Po} : mK a (mSt a x o) := by
  cases o with
  | inl p => exact mK_6 rfl
  | inr z => exact mK_tr (mK_6 rfl) (mK_tr (mK_6 rfl) (mK_6 rfl))
theorem nIdx {v : Int32} {k : Nat} (hk : k < 2 ^ 31) (h0 : 0 ≤ v) (h1 : v ≤ nI k - 1) : ∃ i, i < k ∧ v = nI i := by
  cases k with
  | zero => exact absurd (Int32.le_trans h0 h1) (by decide)
  | succ k =>
    rw [nI_pred] at h1
    obtain ⟨i, h2, h3⟩ := nI_of2 (M := nI k) (n := k) (nI_toInt (by omega)) (i_nlt.mpr h0) h1
    exact ⟨i, by omega, h3⟩
theorem MS.ok {a : IA} {B : Nat → Int32} {n : Nat} {o : Po} (h : MS a B n o) (h5 : a 60 5 = 0) : ∃ p, o = .inl p := by
  cases o with
  | inl p => exact ⟨p, rfl⟩
  | inr z =>
    have := h.2.2.2 z.1 z.2 rfl
    exact absurd (this.1.symm.trans h5) this.2.1
theorem MS.no {a : IA} {B : Nat → Int32} {n : Nat} {o : Po} (h : MS a B n o) (h5 : ¬ a 60 5 = 0) : ∃ z, o = .inr z := by
  cases o with
  | inl p => exact absurd (h.2.2.1 p rfl).2.2 h5
  | inr z => exact ⟨z, rfl⟩
theorem po_inv {o : Po} {f : Nat → Pv} {p : Nat} (h : po (sB o f) = .inl p) : ∃ q v, o = .inl q ∧ f q = .inl (v, p) ∧ sB o f = .inl (v, p) := by
  cases o with
  | inl q =>
    cases h1 : f q with
    | inl w =>
      have h2 : (Sum.inl w.2 : Po) = .inl p := by
        have h3 : po (f q) = .inl p := h
        rw [h1] at h3; exact h3
      cases h2
      exact ⟨q, w.1, rfl, h1, h1⟩
    | inr w =>
      have h3 : po (f q) = .inl p := h
      rw [h1] at h3; cases h3
  | inr z => cases h
/-- the end of a clause: fields z, the place o -/
def poC (z : (Cl × Nat) ⊕ (Int32 × Nat)) : Po := sB z fun y => .inl y.2
theorem fin_cl {B : Nat → Int32} {n : Nat} {z : (Cl × Nat) ⊕ (Int32 × Nat)} {c0 : Cl} (hc : ∀ c e, z = .inl (c, e) → c = c0) :
    (∀ e, sB (poC z) (pSign B n 59) = .inl e → (sB z fun c => sB (pSign B n 59 c.2) fun e => .inl (c.1, e)) = .inl (c0, e)) ∧
    (∀ y, sB (poC z) (pSign B n 59) = .inr y → (sB z fun c => sB (pSign B n 59 c.2) fun e => .inl (c.1, e)) = (.inr y : (Cl × Nat) ⊕ (Int32 × Nat))) := by
  cases z with
  | inl w =>
    have h1 := hc w.1 w.2 rfl
    refine ⟨fun e h => ?_, fun y h => ?_⟩
    · have h2 : pSign B n 59 w.2 = .inl e := h
      show (sB (pSign B n 59 w.2) fun e => .inl (w.1, e)) = _
      rw [h2, h1]; rfl
    · have h2 : pSign B n 59 w.2 = .inr y := h
      show (sB (pSign B n 59 w.2) fun e => .inl (w.1, e)) = _
      rw [h2]; rfl
  | inr w => exact ⟨fun e h => (by cases h), fun y h => (by cases h; rfl)⟩
section MCL
variable {G : GE} {d C S : Nat} {a : IA} {r : RA} {N n p i s m nc ns ng w : Nat} {B : Nat → Int32} {x y z : Int32} {o : Po}
theorem fd1 {v1 v2 nc ns : Int32} (h1 : ∀ v e, sB (.inl w : Po) (pNum B n 0 60) = .inl (v, e) → v1 = v) (h2 : ∀ v e, sB (po (sB (.inl w : Po) (pNum B n 0 60))) (pNum B n 0 60) = .inl (v, e) → v2 = v) :
    po (sB (po (sB (.inl w : Po) (pNum B n 0 60))) (pNum B n 0 60)) = poC (pFields B n 1 nc ns w) ∧ ∀ c e, pFields B n 1 nc ns w = .inl (c, e) → c = (1, v1, v2, 0, 0) := by
  have e0 : ∀ f : Nat → Pv, sB (.inl w : Po) f = f w := fun _ => rfl
  rw [e0] at h1 h2 ⊢
  unfold pFields
  rw [if_pos rfl]
  cases g1 : pNum B n 0 60 w with
  | inr y => exact ⟨rfl, fun c e h => by cases h⟩
  | inl y =>
    rw [g1] at h1 h2
    have k1 := h1 y.1 y.2 rfl
    have h2 : ∀ v e, pNum B n 0 60 y.2 = .inl (v, e) → v2 = v := h2
    show po (pNum B n 0 60 y.2) = poC (sB (pNum B n 0 60 y.2) fun z => .inl ((1, y.1, z.1, 0, 0), z.2)) ∧ ∀ c e, (sB (pNum B n 0 60 y.2) fun z => .inl ((1, y.1, z.1, 0, 0), z.2)) = .inl (c, e) → c = (1, v1, v2, 0, 0)
    cases g2 : pNum B n 0 60 y.2 with
    | inr y2 => exact ⟨rfl, fun c e h => by cases h⟩
    | inl y2 =>
      have k2 := h2 y2.1 y2.2 g2
      refine ⟨rfl, fun c e h => ?_⟩
      cases h
      rw [k1, k2]
theorem fd5 {v1 v2 nc ns : Int32} (h1 : ∀ v e, sB (.inl w : Po) (pNum B n 0 9) = .inl (v, e) → v1 = v) (h2 : ∀ v e, sB (po (sB (.inl w : Po) (pNum B n 0 9))) (pNum B n 0 9) = .inl (v, e) → v2 = v) :
    po (sB (po (sB (.inl w : Po) (pNum B n 0 9))) (pNum B n 0 9)) = poC (pFields B n 5 nc ns w) ∧ ∀ c e, pFields B n 5 nc ns w = .inl (c, e) → c = (5, v1, v2, 0, 0) := by
  have e0 : ∀ f : Nat → Pv, sB (.inl w : Po) f = f w := fun _ => rfl
  rw [e0] at h1 h2 ⊢
  unfold pFields
  rw [if_neg (by decide), if_neg (by decide), if_neg (by decide), if_neg (by decide), if_pos rfl]
  cases g1 : pNum B n 0 9 w with
  | inr y => exact ⟨rfl, fun c e h => by cases h⟩
  | inl y =>
    rw [g1] at h1 h2
    have k1 := h1 y.1 y.2 rfl
    have h2 : ∀ v e, pNum B n 0 9 y.2 = .inl (v, e) → v2 = v := h2
    show po (pNum B n 0 9 y.2) = poC (sB (pNum B n 0 9 y.2) fun z => .inl ((5, y.1, z.1, 0, 0), z.2)) ∧ ∀ c e, (sB (pNum B n 0 9 y.2) fun z => .inl ((5, y.1, z.1, 0, 0), z.2)) = .inl (c, e) → c = (5, v1, v2, 0, 0)
    cases g2 : pNum B n 0 9 y.2 with
    | inr y2 => exact ⟨rfl, fun c e h => by cases h⟩
    | inl y2 =>
      have k2 := h2 y2.1 y2.2 g2
      refine ⟨rfl, fun c e h => ?_⟩
      cases h
      rw [k1, k2]
theorem fd2 {v1 v2 v3 v4 nc ns but : Int32} {o1 o2 o3 : Po} (h1 : ∀ v e, sB (.inl w : Po) (pNum B n 0 (nc - 1)) = .inl (v, e) → v1 = v) (q1 : o1 = po (sB (.inl w : Po) (pNum B n 0 (nc - 1)))) (hb : but = v1)
    (h2 : ∀ v e, sB o1 (pOther B n but nc) = .inl (v, e) → v2 = v) (q2 : o2 = po (sB o1 (pOther B n but nc))) (h3 : ∀ v e, sB o2 (pNum B n 1 20) = .inl (v, e) → v3 = v) (q3 : o3 = po (sB o2 (pNum B n 1 20))) (h4 : ∀ v e, sB o3 (pNum B n 0 20) = .inl (v, e) → v4 = v) :
    po (sB o3 (pNum B n 0 20)) = poC (pFields B n 2 nc ns w) ∧ ∀ c e, pFields B n 2 nc ns w = .inl (c, e) → c = (2, v1, v2, v3, v4) := by
  have e0 : ∀ f : Nat → Pv, sB (.inl w : Po) f = f w := fun _ => rfl
  rw [e0] at h1 q1
  unfold pFields
  rw [if_neg (by decide), if_pos rfl]
  cases g1 : pNum B n 0 (nc - 1) w with
  | inr y =>
    rw [g1] at q1
    rw [q3, q2, q1]
    exact ⟨rfl, fun c e h => by cases h⟩
  | inl y =>
    rw [g1] at h1 q1
    have k1 := h1 y.1 y.2 rfl
    have q1 : o1 = .inl y.2 := q1
    rw [q1] at h2 q2
    rw [hb, k1] at h2 q2
    show _ = poC (sB (pOther B n y.1 nc y.2) fun z => sB (pNum B n 1 20 z.2) fun u => sB (pNum B n 0 20 u.2) fun v => .inl ((2, y.1, z.1, u.1, v.1), v.2)) ∧ ∀ c e, (sB (pOther B n y.1 nc y.2) fun z => sB (pNum B n 1 20 z.2) fun u => sB (pNum B n 0 20 u.2) fun v => .inl ((2, y.1, z.1, u.1, v.1), v.2)) = .inl (c, e) → c = (2, v1, v2, v3, v4)
    have h2 : ∀ v e, pOther B n y.1 nc y.2 = .inl (v, e) → v2 = v := h2
    have q2 : o2 = po (pOther B n y.1 nc y.2) := q2
    cases g2 : pOther B n y.1 nc y.2 with
    | inr y2 =>
      rw [g2] at q2
      rw [q3, q2]
      exact ⟨rfl, fun c e h => by cases h⟩
    | inl y2 =>
      have k2 := h2 y2.1 y2.2 g2
      rw [g2] at q2
      have q2 : o2 = .inl y2.2 := q2
      rw [q2] at h3 q3
      have h3 : ∀ v e, pNum B n 1 20 y2.2 = .inl (v, e) → v3 = v := h3
      have q3 : o3 = po (pNum B n 1 20 y2.2) := q3
      show _ = poC (sB (pNum B n 1 20 y2.2) fun u => sB (pNum B n 0 20 u.2) fun v => .inl ((2, y.1, y2.1, u.1, v.1), v.2)) ∧ ∀ c e, (sB (pNum B n 1 20 y2.2) fun u => sB (pNum B n 0 20 u.2) fun v => .inl ((2, y.1, y2.1, u.1, v.1), v.2)) = .inl (c, e) → c = (2, v1, v2, v3, v4)
      cases g3 : pNum B n 1 20 y2.2 with
      | inr y3 =>
        rw [g3] at q3
        rw [q3]
        exact ⟨rfl, fun c e h => by cases h⟩
      | inl y3 =>
        have k3 := h3 y3.1 y3.2 g3
        rw [g3] at q3
        have q3 : o3 = .inl y3.2 := q3
        rw [q3] at h4 ⊢
        have h4 : ∀ v e, pNum B n 0 20 y3.2 = .inl (v, e) → v4 = v := h4
        show po (pNum B n 0 20 y3.2) = poC (sB (pNum B n 0 20 y3.2) fun v => .inl ((2, y.1, y2.1, y3.1, v.1), v.2)) ∧ ∀ c e, (sB (pNum B n 0 20 y3.2) fun v => .inl ((2, y.1, y2.1, y3.1, v.1), v.2)) = .inl (c, e) → c = (2, v1, v2, v3, v4)
        cases g4 : pNum B n 0 20 y3.2 with
        | inr y4 => exact ⟨rfl, fun c e h => by cases h⟩
        | inl y4 =>
          have k4 := h4 y4.1 y4.2 g4
          refine ⟨rfl, fun c e h => ?_⟩
          cases h
          rw [k1, k2, k3, k4]
theorem fd3 {v1 v2 v3 nc ns but : Int32} {o1 o2 : Po} (h1 : ∀ v e, sB (.inl w : Po) (pNum B n 0 (ns - 1)) = .inl (v, e) → v1 = v) (q1 : o1 = po (sB (.inl w : Po) (pNum B n 0 (ns - 1)))) (hb : but = v1)
    (h2 : ∀ v e, sB o1 (pOther B n but ns) = .inl (v, e) → v2 = v) (q2 : o2 = po (sB o1 (pOther B n but ns))) (h3 : ∀ v e, sB o2 (pNum B n 0 9) = .inl (v, e) → v3 = v) :
    po (sB o2 (pNum B n 0 9)) = poC (pFields B n 3 nc ns w) ∧ ∀ c e, pFields B n 3 nc ns w = .inl (c, e) → c = (3, v1, v2, v3, 0) := by
  have e0 : ∀ f : Nat → Pv, sB (.inl w : Po) f = f w := fun _ => rfl
  rw [e0] at h1 q1
  unfold pFields
  rw [if_neg (by decide), if_neg (by decide), if_pos rfl]
  cases g1 : pNum B n 0 (ns - 1) w with
  | inr y =>
    rw [g1] at q1
    rw [q2, q1]
    exact ⟨rfl, fun c e h => by cases h⟩
  | inl y =>
    rw [g1] at h1 q1
    have k1 := h1 y.1 y.2 rfl
    have q1 : o1 = .inl y.2 := q1
    rw [q1] at h2 q2
    rw [hb, k1] at h2 q2
    show _ = poC (sB (pOther B n y.1 ns y.2) fun z => sB (pNum B n 0 9 z.2) fun u => .inl ((3, y.1, z.1, u.1, 0), u.2)) ∧ ∀ c e, (sB (pOther B n y.1 ns y.2) fun z => sB (pNum B n 0 9 z.2) fun u => .inl ((3, y.1, z.1, u.1, 0), u.2)) = .inl (c, e) → c = (3, v1, v2, v3, 0)
    have h2 : ∀ v e, pOther B n y.1 ns y.2 = .inl (v, e) → v2 = v := h2
    have q2 : o2 = po (pOther B n y.1 ns y.2) := q2
    cases g2 : pOther B n y.1 ns y.2 with
    | inr y2 =>
      rw [g2] at q2
      rw [q2]
      exact ⟨rfl, fun c e h => by cases h⟩
    | inl y2 =>
      have k2 := h2 y2.1 y2.2 g2
      rw [g2] at q2
      have q2 : o2 = .inl y2.2 := q2
      rw [q2] at h3 ⊢
      have h3 : ∀ v e, pNum B n 0 9 y2.2 = .inl (v, e) → v3 = v := h3
      show po (pNum B n 0 9 y2.2) = poC (sB (pNum B n 0 9 y2.2) fun u => .inl ((3, y.1, y2.1, u.1, 0), u.2)) ∧ ∀ c e, (sB (pNum B n 0 9 y2.2) fun u => .inl ((3, y.1, y2.1, u.1, 0), u.2)) = .inl (c, e) → c = (3, v1, v2, v3, 0)
      cases g3 : pNum B n 0 9 y2.2 with
      | inr y3 => exact ⟨rfl, fun c e h => by cases h⟩
      | inl y3 =>
        have k3 := h3 y3.1 y3.2 g3
        refine ⟨rfl, fun c e h => ?_⟩
        cases h
        rw [k1, k2, k3]
theorem fd4 {v1 v2 nc ns but : Int32} {o1 : Po} (h1 : ∀ v e, sB (.inl w : Po) (pNum B n 0 (ns - 1)) = .inl (v, e) → v1 = v) (q1 : o1 = po (sB (.inl w : Po) (pNum B n 0 (ns - 1)))) (hb : but = v1)
    (h2 : ∀ v e, sB o1 (pOther B n but ns) = .inl (v, e) → v2 = v) :
    po (sB o1 (pOther B n but ns)) = poC (pFields B n 4 nc ns w) ∧ ∀ c e, pFields B n 4 nc ns w = .inl (c, e) → c = (4, v1, v2, 0, 0) := by
  have e0 : ∀ f : Nat → Pv, sB (.inl w : Po) f = f w := fun _ => rfl
  rw [e0] at h1 q1
  unfold pFields
  rw [if_neg (by decide), if_neg (by decide), if_neg (by decide), if_pos rfl]
  cases g1 : pNum B n 0 (ns - 1) w with
  | inr y =>
    rw [g1] at q1
    rw [q1]
    exact ⟨rfl, fun c e h => by cases h⟩
  | inl y =>
    rw [g1] at h1 q1
    have k1 := h1 y.1 y.2 rfl
    have q1 : o1 = .inl y.2 := q1
    rw [q1] at h2 ⊢
    have hb2 : but = y.1 := hb.trans k1
    rw [hb2] at h2 ⊢
    have h2 : ∀ v e, pOther B n y.1 ns y.2 = .inl (v, e) → v2 = v := h2
    show po (pOther B n y.1 ns y.2) = poC (sB (pOther B n y.1 ns y.2) fun z => .inl ((4, y.1, z.1, 0, 0), z.2)) ∧ ∀ c e, (sB (pOther B n y.1 ns y.2) fun z => .inl ((4, y.1, z.1, 0, 0), z.2)) = .inl (c, e) → c = (4, v1, v2, 0, 0)
    cases g2 : pOther B n y.1 ns y.2 with
    | inr y2 => exact ⟨rfl, fun c e h => by cases h⟩
    | inl y2 =>
      have k2 := h2 y2.1 y2.2 g2
      refine ⟨rfl, fun c e h => ?_⟩
      cases h
      rw [k1, k2]
theorem fd6 {v1 v2 v3 v4 nc ns : Int32} {o1 o2 o3 : Po} (h1 : ∀ v e, sB (.inl w : Po) (pNum B n 0 60) = .inl (v, e) → v1 = v) (q1 : o1 = po (sB (.inl w : Po) (pNum B n 0 60)))
    (h2 : ∀ v e, sB o1 (pNum B n 0 60) = .inl (v, e) → v2 = v) (q2 : o2 = po (sB o1 (pNum B n 0 60))) (h3 : ∀ v e, sB o2 (pNum B n 0 9) = .inl (v, e) → v3 = v) (q3 : o3 = po (sB o2 (pNum B n 0 9))) (h4 : ∀ v e, sB o3 (pNum B n 0 9) = .inl (v, e) → v4 = v) :
    po (sB o3 (pNum B n 0 9)) = poC (pFields B n 6 nc ns w) ∧ ∀ c e, pFields B n 6 nc ns w = .inl (c, e) → c = (6, v1, v2, v3, v4) := by
  have e0 : ∀ f : Nat → Pv, sB (.inl w : Po) f = f w := fun _ => rfl
  rw [e0] at h1 q1
  unfold pFields
  rw [if_neg (by decide), if_neg (by decide), if_neg (by decide), if_neg (by decide), if_neg (by decide), if_pos rfl]
  cases g1 : pNum B n 0 60 w with
  | inr y =>
    rw [g1] at q1
    rw [q3, q2, q1]
    exact ⟨rfl, fun c e h => by cases h⟩
  | inl y =>
    rw [g1] at h1 q1
    have k1 := h1 y.1 y.2 rfl
    have q1 : o1 = .inl y.2 := q1
    rw [q1] at h2 q2
    show _ = poC (sB (pNum B n 0 60 y.2) fun z => sB (pNum B n 0 9 z.2) fun u => sB (pNum B n 0 9 u.2) fun v => .inl ((6, y.1, z.1, u.1, v.1), v.2)) ∧ ∀ c e, (sB (pNum B n 0 60 y.2) fun z => sB (pNum B n 0 9 z.2) fun u => sB (pNum B n 0 9 u.2) fun v => .inl ((6, y.1, z.1, u.1, v.1), v.2)) = .inl (c, e) → c = (6, v1, v2, v3, v4)
    have h2 : ∀ v e, pNum B n 0 60 y.2 = .inl (v, e) → v2 = v := h2
    have q2 : o2 = po (pNum B n 0 60 y.2) := q2
    cases g2 : pNum B n 0 60 y.2 with
    | inr y2 =>
      rw [g2] at q2
      rw [q3, q2]
      exact ⟨rfl, fun c e h => by cases h⟩
    | inl y2 =>
      have k2 := h2 y2.1 y2.2 g2
      rw [g2] at q2
      have q2 : o2 = .inl y2.2 := q2
      rw [q2] at h3 q3
      have h3 : ∀ v e, pNum B n 0 9 y2.2 = .inl (v, e) → v3 = v := h3
      have q3 : o3 = po (pNum B n 0 9 y2.2) := q3
      show _ = poC (sB (pNum B n 0 9 y2.2) fun u => sB (pNum B n 0 9 u.2) fun v => .inl ((6, y.1, y2.1, u.1, v.1), v.2)) ∧ ∀ c e, (sB (pNum B n 0 9 y2.2) fun u => sB (pNum B n 0 9 u.2) fun v => .inl ((6, y.1, y2.1, u.1, v.1), v.2)) = .inl (c, e) → c = (6, v1, v2, v3, v4)
      cases g3 : pNum B n 0 9 y2.2 with
      | inr y3 =>
        rw [g3] at q3
        rw [q3]
        exact ⟨rfl, fun c e h => by cases h⟩
      | inl y3 =>
        have k3 := h3 y3.1 y3.2 g3
        rw [g3] at q3
        have q3 : o3 = .inl y3.2 := q3
        rw [q3] at h4 ⊢
        have h4 : ∀ v e, pNum B n 0 9 y3.2 = .inl (v, e) → v4 = v := h4
        show po (pNum B n 0 9 y3.2) = poC (sB (pNum B n 0 9 y3.2) fun v => .inl ((6, y.1, y2.1, y3.1, v.1), v.2)) ∧ ∀ c e, (sB (pNum B n 0 9 y3.2) fun v => .inl ((6, y.1, y2.1, y3.1, v.1), v.2)) = .inl (c, e) → c = (6, v1, v2, v3, v4)
        cases g4 : pNum B n 0 9 y3.2 with
        | inr y4 => exact ⟨rfl, fun c e h => by cases h⟩
        | inl y4 =>
          have k4 := h4 y4.1 y4.2 g4
          refine ⟨rfl, fun c e h => ?_⟩
          cases h
          rw [k1, k2, k3, k4]
theorem fd7 {v1 nc ns : Int32} (h1 : ∀ v e, sB (.inl w : Po) (pNum B n 0 60) = .inl (v, e) → v1 = v) :
    po (sB (.inl w : Po) (pNum B n 0 60)) = poC (pFields B n 7 nc ns w) ∧ ∀ c e, pFields B n 7 nc ns w = .inl (c, e) → c = (7, v1, 0, 0, 0) := by
  have e0 : ∀ f : Nat → Pv, sB (.inl w : Po) f = f w := fun _ => rfl
  rw [e0] at h1 ⊢
  unfold pFields
  rw [if_neg (by decide), if_neg (by decide), if_neg (by decide), if_neg (by decide), if_neg (by decide), if_neg (by decide)]
  cases g1 : pNum B n 0 60 w with
  | inr y => exact ⟨rfl, fun c e h => by cases h⟩
  | inl y =>
    have k1 := h1 y.1 y.2 g1
    refine ⟨rfl, fun c e h => ?_⟩
    cases h
    rw [k1]
end MCL
