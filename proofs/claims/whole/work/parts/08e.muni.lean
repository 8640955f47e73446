/-! The reference: one form for a text with and without a fault -/
theorem u2_cross {a : IA} {q q' j j' : Nat} {x y : Int32} (h : q ≠ q') : u2 (u2 a q j x) q' j' y = u2 (u2 a q' j' y) q j x := by
  funext k i
  rw [u2_at0, u2_at0, u2_at0, u2_at0]
  by_cases h1 : k = q' ∧ i = j'
  · rw [if_pos h1, if_neg (fun e => h (e.1.symm.trans h1.1)), if_pos h1]
  · rw [if_neg h1, if_neg h1]
theorem u2_cross2 {a : IA} {q j j' : Nat} {x y : Int32} (h : j ≠ j') : u2 (u2 a q j x) q j' y = u2 (u2 a q j' y) q j x := by
  funext k i
  rw [u2_at0, u2_at0, u2_at0, u2_at0]
  by_cases h1 : k = q ∧ i = j'
  · rw [if_pos h1, if_neg (fun e => h (e.2.symm.trans h1.2)), if_pos h1]
  · rw [if_neg h1, if_neg h1]
abbrev Po : Type := Nat ⊕ (Int32 × Nat)
abbrev Pv : Type := (Int32 × Nat) ⊕ (Int32 × Nat)
def po (z : Pv) : Po := sB z fun y => .inl y.2
def MS (a : IA) (B : Nat → Int32) (n : Nat) (o : Po) : Prop := MB a B n ∧ a 60 2 = nI n ∧ (∀ p, o = .inl p → a 60 4 = nI p ∧ p ≤ n ∧ a 60 5 = 0) ∧ (∀ k f, o = .inr (k, f) → a 60 5 = k ∧ ¬ k = 0 ∧ a 60 6 = nI f ∧ ∃ q, q ≤ n ∧ a 60 4 = nI q)
def mSt (a : IA) (x : Int32) : Po → IA
  | .inl p => mAt a p
  | .inr z => u2 (u2 (u2 a 60 4 x) 60 5 z.1) 60 6 (nI z.2)
theorem MT.ms {a : IA} {B : Nat → Int32} {n p : Nat} (h : MT a B n p) : MS a B n (.inl p) := ⟨h.1, h.2.1, fun q e => by cases e; exact h.2.2, fun k f e => by cases e⟩
theorem MS.mt {a : IA} {B : Nat → Int32} {n p : Nat} (h : MS a B n (.inl p)) : MT a B n p := ⟨h.1, h.2.1, h.2.2.1 p rfl⟩
theorem MS.row {a a' : IA} {B : Nat → Int32} {n : Nat} {o : Po} (h : MS a B n o) (e : a' 61 = a 61) (e2 : a' 60 2 = a 60 2) (e4 : a' 60 4 = a 60 4) (e5 : a' 60 5 = a 60 5) (e6 : a' 60 6 = a 60 6) : MS a' B n o :=
  ⟨h.1.row e, e2.trans h.2.1, fun p ho => by rw [e4, e5]; exact h.2.2.1 p ho, fun k f ho => by rw [e4, e5, e6]; exact h.2.2.2 k f ho⟩
theorem MS.w {a : IA} {B : Nat → Int32} {n : Nat} {o : Po} {q j : Nat} {v : Int32} (h : MS a B n o) (hq : q ≠ 60) (hq1 : q ≠ 61) : MS (u2 a q j v) B n o := by
  have e : u2 a q j v 60 = a 60 := u2_off 60 (fun e => hq e.symm)
  exact h.row (u2_off 61 (fun e => hq1 e.symm)) (by rw [e]) (by rw [e]) (by rw [e]) (by rw [e])
/-- no fault before: the fault of the new state, or none; a fault before: it stays -/
def stay (o o' : Po) : Prop := ∀ z, o = .inr z → o' = .inr z
theorem stay_sB {o : Po} {f : Nat → Pv} : stay o (po (sB o f)) := fun z h => by rw [h]; rfl
theorem stay_sB2 {o : Po} {f : Nat → Po} : stay o (sB o f) := fun z h => by rw [h]; rfl
theorem mSt_mSt {a : IA} {x y : Int32} {o o' : Po} (h : stay o o') : mSt (mSt a x o) y o' = mSt a y o' := by
  cases o with
  | inl p =>
    cases o' with
    | inl q => exact u2_u2
    | inr z =>
      show u2 (u2 (u2 (u2 a 60 4 _) 60 4 y) 60 5 z.1) 60 6 _ = _
      rw [u2_u2]
      rfl
  | inr z =>
    rw [h z rfl]
    show u2 (u2 (u2 (u2 (u2 (u2 a 60 4 x) 60 5 z.1) 60 6 (nI z.2)) 60 4 y) 60 5 z.1) 60 6 (nI z.2) = u2 (u2 (u2 a 60 4 y) 60 5 z.1) 60 6 (nI z.2)
    rw [u2_cross2 (show (6:Nat) ≠ 4 by decide), u2_cross2 (show (5:Nat) ≠ 4 by decide), u2_u2, u2_cross2 (show (6:Nat) ≠ 5 by decide), u2_u2, u2_u2]
theorem mSt_u2 {a : IA} {x v : Int32} {o : Po} {q j : Nat} (h : q ≠ 60) : u2 (mSt a x o) q j v = mSt (u2 a q j v) x o := by
  have h' : (60 : Nat) ≠ q := fun e => h e.symm
  cases o with
  | inl p => exact u2_cross h'
  | inr z =>
    show u2 (u2 (u2 (u2 a 60 4 x) 60 5 z.1) 60 6 (nI z.2)) q j v = u2 (u2 (u2 (u2 a q j v) 60 4 x) 60 5 z.1) 60 6 (nI z.2)
    rw [u2_cross h', u2_cross h', u2_cross h']
theorem mSt_off {a : IA} {x : Int32} {o : Po} {q : Nat} (h : q ≠ 60) : mSt a x o q = a q := by
  cases o with
  | inl p => exact u2_off q h
  | inr z =>
    show u2 (u2 (u2 a 60 4 x) 60 5 z.1) 60 6 (nI z.2) q = _
    rw [u2_off q h, u2_off q h, u2_off q h]
theorem mSt_ne {a : IA} {x : Int32} {o : Po} {j : Nat} (h4 : j ≠ 4) (h5 : j ≠ 5) (h6 : j ≠ 6) : mSt a x o 60 j = a 60 j := by
  cases o with
  | inl p => show u2 a 60 4 (nI p) 60 j = _; exact u2_ne h4
  | inr z =>
    show u2 (u2 (u2 a 60 4 x) 60 5 z.1) 60 6 (nI z.2) 60 j = _
    rw [u2_ne h6, u2_ne h5, u2_ne h4]
theorem mSt_set {a : IA} {k : Int32} {f : Nat} (h5 : a 60 5 = k) (h6 : a 60 6 = nI f) : mSt a (a 60 4) (.inr (k, f)) = a := by
  show u2 (u2 (u2 a 60 4 (a 60 4)) 60 5 k) 60 6 (nI f) = a
  rw [u2_self, u2_set h5, u2_set h6]
theorem MS.st {a : IA} {B : Nat → Int32} {n : Nat} {o o' : Po} {x : Int32} (h : MS a B n o) (hs : stay o o') (hl : ∀ p, o' = .inl p → p ≤ n) (hk : ∀ k f, o' = .inr (k, f) → ¬ k = 0) (hx : ∃ q, q ≤ n ∧ x = nI q) : MS (mSt a x o') B n o' := by
  refine ⟨h.1.row (mSt_off (by decide)), by rw [mSt_ne (by decide) (by decide) (by decide)]; exact h.2.1, fun p e => ?_, fun k f e => ?_⟩
  · subst e
    refine ⟨by show u2 a 60 4 (nI p) 60 4 = _; exact u2_eq, hl p rfl, ?_⟩
    cases o with
    | inl q => show u2 a 60 4 (nI p) 60 5 = 0; rw [u2_ne (by decide)]; exact (h.2.2.1 q rfl).2.2
    | inr z => exact absurd (hs z rfl) (by intro e; cases e)
  · subst e
    refine ⟨?_, hk k f rfl, ?_, ?_⟩
    · show u2 (u2 (u2 a 60 4 x) 60 5 k) 60 6 (nI f) 60 5 = k
      rw [u2_ne (by decide), u2_eq]
    · show u2 (u2 (u2 a 60 4 x) 60 5 k) 60 6 (nI f) 60 6 = nI f
      rw [u2_eq]
    · obtain ⟨q, h1, h2⟩ := hx
      refine ⟨q, h1, ?_⟩
      show u2 (u2 (u2 a 60 4 x) 60 5 k) 60 6 (nI f) 60 4 = nI q
      rw [u2_ne (by decide), u2_ne (by decide), u2_eq, h2]
theorem pNum_f {B : Nat → Int32} {n p f : Nat} {lo hi k : Int32} (h : pNum B n lo hi p = .inr (k, f)) : ¬ k = 0 := by
  unfold pNum at h
  split at h
  · cases h; decide
  split at h
  · cases h
  · cases h; decide
theorem pNum_e {B : Nat → Int32} {n p e : Nat} {lo hi v : Int32} (hp : p ≤ n) (h : pNum B n lo hi p = .inl (v, e)) : p < e ∧ e ≤ n ∧ lo ≤ v ∧ v ≤ hi := by
  unfold pNum at h
  have l1 := skB_le (B := B) hp
  have l2 : skB B n p ≤ dgE B n (skB B n p) ∧ dgE B n (skB B n p) ≤ n := run_le l1.2
  split at h
  · cases h
  next h0 =>
  split at h
  · next h3 => cases h; exact ⟨by omega, l2.2, h3.1, h3.2⟩
  · cases h
theorem pOther_e {B : Nat → Int32} {n p e : Nat} {but many v : Int32} (hp : p ≤ n) (h : pOther B n but many p = .inl (v, e)) : p < e ∧ e ≤ n ∧ 0 ≤ v ∧ v ≤ many - 1 ∧ ¬ v = but := by
  unfold pOther at h
  cases h1 : pNum B n 0 (many - 1) p with
  | inl w =>
    rw [h1] at h
    simp only at h
    split at h
    · cases h
    · next h2 =>
      cases h
      have := pNum_e hp h1
      exact ⟨this.1, this.2.1, this.2.2.1, this.2.2.2, h2⟩
  | inr w => rw [h1] at h; cases h
theorem pOther_f {B : Nat → Int32} {n p f : Nat} {but many k : Int32} (h : pOther B n but many p = .inr (k, f)) : ¬ k = 0 := by
  unfold pOther at h
  cases h1 : pNum B n 0 (many - 1) p with
  | inl w =>
    rw [h1] at h
    simp only at h
    split at h
    · cases h; decide
    · cases h
  | inr w =>
    rw [h1] at h
    cases h
    exact pNum_f h1
theorem pSign_e {B : Nat → Int32} {n p e : Nat} {c : Int32} (hp : p ≤ n) (hc : ¬ c = -1) (h : pSign B n c p = .inl e) : p < e ∧ e ≤ n := by
  unfold pSign at h
  have l1 := skB_le (B := B) hp
  split at h
  · next h1 =>
    cases h
    unfold bAt at h1
    split at h1
    · omega
    · exact absurd h1.symm hc
  · cases h
theorem pSign_f {B : Nat → Int32} {n p f : Nat} {c k : Int32} (h : pSign B n c p = .inr (k, f)) : ¬ k = 0 := by
  unfold pSign at h
  split at h
  · cases h
  · cases h; decide
section MU
variable {G : GE} {d C S : Nat} {a : IA} {r : RA} {N n p i s : Nat} {B : Nat → Int32} {x y z : Int32} {o : Po}
theorem u_num {P : KI} {lo hi : Int32} (hr : Rk r) (hS : MS a B n o) (hp : ∀ v x, (∀ w e, sB o (pNum B n lo hi) = .inl (w, e) → v = w) → MS (mSt a x (po (sB o (pNum B n lo hi)))) B n (po (sB o (pNum B n lo hi))) → P v (mSt a x (po (sB o (pNum B n lo hi)))) r nK) :
    Sp G (d + 2) 0 0 MX12_numberHere [.ref 60, .int lo, .int hi] (a, r, nK) (RI P) := by
  have hst : ∀ x, (∃ q, q ≤ n ∧ x = nI q) → MS (mSt a x (po (sB o (pNum B n lo hi)))) B n (po (sB o (pNum B n lo hi))) := fun x hx => by
    refine hS.st stay_sB (fun e he => ?_) (fun k f he => ?_) hx
    · cases o with
      | inl p =>
        cases h1 : pNum B n lo hi p with
        | inl w => rw [show sB (Sum.inl p : Po) (pNum B n lo hi) = .inl w from h1] at he; cases he; exact (pNum_e (hS.2.2.1 p rfl).2.1 h1).2.1
        | inr w => rw [show sB (Sum.inl p : Po) (pNum B n lo hi) = .inr w from h1] at he; cases he
      | inr z => cases he
    · cases o with
      | inl p =>
        cases h1 : pNum B n lo hi p with
        | inl w => rw [show sB (Sum.inl p : Po) (pNum B n lo hi) = .inl w from h1] at he; cases he
        | inr w => rw [show sB (Sum.inl p : Po) (pNum B n lo hi) = .inr w from h1] at he; cases he; exact pNum_f h1
      | inr z => cases he; exact (hS.2.2.2 _ _ rfl).2.1
  cases o with
  | inl p =>
    refine c_mNum hr hS.mt (fun v e h _ => ?_) (fun k f q h hk hq => ?_)
    · have h2 := hp v 0 (fun w e' h' => ?_) (hst 0 ⟨0, Nat.zero_le _, rfl⟩)
      · rw [show sB (Sum.inl p : Po) (pNum B n lo hi) = .inl (v, e) from h] at h2
        exact h2
      · rw [show sB (Sum.inl p : Po) (pNum B n lo hi) = .inl (v, e) from h] at h'; cases h'; rfl
    · have h2 := hp 0 (nI q) (fun w e' h' => ?_) (hst (nI q) ⟨q, hq, rfl⟩)
      · rw [show sB (Sum.inl p : Po) (pNum B n lo hi) = .inr (k, f) from h] at h2
        exact h2
      · rw [show sB (Sum.inl p : Po) (pNum B n lo hi) = .inr (k, f) from h] at h'; cases h'
  | inr z =>
    have hz := hS.2.2.2 z.1 z.2 rfl
    refine s_mNum (by rw [hz.1]; exact hz.2.1) ?_
    have h2 := hp 0 (a 60 4) (fun w e' h' => by cases h') (hst _ hz.2.2.2)
    rw [show mSt a (a 60 4) (po (sB (Sum.inr z : Po) (pNum B n lo hi))) = a from mSt_set hz.1 hz.2.2.1] at h2
    exact h2
theorem u_other {P : KI} {but many : Int32} (hr : Rk r) (hS : MS a B n o) (hp : ∀ v x, (∀ w e, sB o (pOther B n but many) = .inl (w, e) → v = w) → MS (mSt a x (po (sB o (pOther B n but many)))) B n (po (sB o (pOther B n but many))) → P v (mSt a x (po (sB o (pOther B n but many)))) r nK) :
    Sp G (d + 3) 0 0 MX12_otherHere [.ref 60, .int but, .int many] (a, r, nK) (RI P) := by
  have hst : ∀ x, (∃ q, q ≤ n ∧ x = nI q) → MS (mSt a x (po (sB o (pOther B n but many)))) B n (po (sB o (pOther B n but many))) := fun x hx => by
    refine hS.st stay_sB (fun e he => ?_) (fun k f he => ?_) hx
    · cases o with
      | inl p =>
        cases h1 : pOther B n but many p with
        | inl w => rw [show sB (Sum.inl p : Po) (pOther B n but many) = .inl w from h1] at he; cases he; exact (pOther_e (hS.2.2.1 p rfl).2.1 h1).2.1
        | inr w => rw [show sB (Sum.inl p : Po) (pOther B n but many) = .inr w from h1] at he; cases he
      | inr z => cases he
    · cases o with
      | inl p =>
        cases h1 : pOther B n but many p with
        | inl w => rw [show sB (Sum.inl p : Po) (pOther B n but many) = .inl w from h1] at he; cases he
        | inr w => rw [show sB (Sum.inl p : Po) (pOther B n but many) = .inr w from h1] at he; cases he; exact pOther_f h1
      | inr z => cases he; exact (hS.2.2.2 _ _ rfl).2.1
  cases o with
  | inl p =>
    refine c_mOther hr hS.mt (fun v e h _ => ?_) (fun v k f q h hk hq => ?_)
    · have h2 := hp v 0 (fun w e' h' => ?_) (hst 0 ⟨0, Nat.zero_le _, rfl⟩)
      · rw [show sB (Sum.inl p : Po) (pOther B n but many) = .inl (v, e) from h] at h2
        exact h2
      · rw [show sB (Sum.inl p : Po) (pOther B n but many) = .inl (v, e) from h] at h'; cases h'; rfl
    · have h2 := hp v (nI q) (fun w e' h' => ?_) (hst (nI q) ⟨q, hq, rfl⟩)
      · rw [show sB (Sum.inl p : Po) (pOther B n but many) = .inr (k, f) from h] at h2
        exact h2
      · rw [show sB (Sum.inl p : Po) (pOther B n but many) = .inr (k, f) from h] at h'; cases h'
  | inr z =>
    have hz := hS.2.2.2 z.1 z.2 rfl
    refine s_mOther (by rw [hz.1]; exact hz.2.1) ?_
    have h2 := hp 0 (a 60 4) (fun w e' h' => by cases h') (hst _ hz.2.2.2)
    rw [show mSt a (a 60 4) (po (sB (Sum.inr z : Po) (pOther B n but many))) = a from mSt_set hz.1 hz.2.2.1] at h2
    exact h2
theorem u_sign {P : KN} {c : Int32} (hc : ¬ c = -1) (hr : Rk r) (hS : MS a B n o) (hp : ∀ x, MS (mSt a x (sB o (pSign B n c))) B n (sB o (pSign B n c)) → P (mSt a x (sB o (pSign B n c))) r nK) :
    Sp G (d + 2) 0 0 MX12_sign [.ref 60, .int c] (a, r, nK) (RN P) := by
  have hst : ∀ x, (∃ q, q ≤ n ∧ x = nI q) → MS (mSt a x (sB o (pSign B n c))) B n (sB o (pSign B n c)) := fun x hx => by
    refine hS.st stay_sB2 (fun e he => ?_) (fun k f he => ?_) hx
    · cases o with
      | inl p => exact (pSign_e (hS.2.2.1 p rfl).2.1 hc he).2
      | inr z => cases he
    · cases o with
      | inl p => exact pSign_f he
      | inr z => cases he; exact (hS.2.2.2 _ _ rfl).2.1
  cases o with
  | inl p =>
    obtain ⟨hB, h2, h4, hpn, h5⟩ := hS.mt
    refine c_mSign hr hB h2 h4 hpn h5 (fun h => ?_) (fun h => ?_)
    · have h2 := hp 0 (hst 0 ⟨0, Nat.zero_le _, rfl⟩)
      rw [show sB (Sum.inl p : Po) (pSign B n c) = .inl (skB B n p + 1) from if_pos h] at h2
      exact h2
    · have h2 := hp (nI (skB B n p)) (hst _ ⟨skB B n p, (skB_le (B := B) hpn).2, rfl⟩)
      rw [show sB (Sum.inl p : Po) (pSign B n c) = .inr (1, skB B n p) from if_neg h] at h2
      rw [mWr_0 (by rw [u2_ne (by decide)]; exact h5)]
      exact h2
  | inr z =>
    have hz := hS.2.2.2 z.1 z.2 rfl
    refine s_mSign (by rw [hz.1]; exact hz.2.1) ?_
    have h2 := hp (a 60 4) (hst _ hz.2.2.2)
    rw [show mSt a (a 60 4) (sB (Sum.inr z : Po) (pSign B n c)) = a from mSt_set hz.1 hz.2.2.1] at h2
    exact h2
/-- which clause -/
def rKind (B : Nat → Int32) (n p : Nat) : Int32 := if isWp B n p 1 then 0 else if isWp B n p 2 then 1 else if isWp B n p 5 then 2 else if isWp B n p 3 then 3 else if isWp B n p 4 then 4 else if isWp B n p 6 then 5 else if isWp B n p 7 then 6 else -1
theorem isWp_code {i j : Nat} (hi : wOK i = true) (hj : wOK j = true) (h1 : isWp B n p i = true) (h2 : isWp B n p j = true) : cw i = cw j := by
  have hl : ∀ j, skB B n p ≤ j → j < ltE B n (skB B n p) → isL (B j) = true := fun j h1 h2 => run_in h1 h2
  exact ((isW_code hl hi).mp h1).2.symm.trans ((isW_code hl hj).mp h2).2
theorem rKind_ct : (ctKind B (skB B n p) (ltE B n (skB B n p)) = 0 ∧ rKind B n p = -1) ∨ (ctKind B (skB B n p) (ltE B n (skB B n p)) = 1 ∧ rKind B n p = 0) ∨ (ctKind B (skB B n p) (ltE B n (skB B n p)) = 2 ∧ rKind B n p = 1) ∨ (ctKind B (skB B n p) (ltE B n (skB B n p)) = 3 ∧ rKind B n p = 3) ∨ (ctKind B (skB B n p) (ltE B n (skB B n p)) = 4 ∧ rKind B n p = 4) ∨ (ctKind B (skB B n p) (ltE B n (skB B n p)) = 5 ∧ rKind B n p = 2) ∨ (ctKind B (skB B n p) (ltE B n (skB B n p)) = 6 ∧ rKind B n p = 5) ∨ (ctKind B (skB B n p) (ltE B n (skB B n p)) = 7 ∧ rKind B n p = 6) := by
  have e53 : isWp B n p 5 = true → isWp B n p 3 = true → False := fun h1 h2 => absurd (isWp_code (by decide) (by decide) h1 h2) (by decide)
  have e54 : isWp B n p 5 = true → isWp B n p 4 = true → False := fun h1 h2 => absurd (isWp_code (by decide) (by decide) h1 h2) (by decide)
  unfold ctKind rKind
  unfold isWp at *
  generalize isW B (skB B n p) (ltE B n (skB B n p)) 1 = b1 at *
  generalize isW B (skB B n p) (ltE B n (skB B n p)) 2 = b2 at *
  generalize isW B (skB B n p) (ltE B n (skB B n p)) 3 = b3 at *
  generalize isW B (skB B n p) (ltE B n (skB B n p)) 4 = b4 at *
  generalize isW B (skB B n p) (ltE B n (skB B n p)) 5 = b5 at *
  generalize isW B (skB B n p) (ltE B n (skB B n p)) 6 = b6 at *
  generalize isW B (skB B n p) (ltE B n (skB B n p)) 7 = b7 at *
  revert e53 e54
  revert b1 b2 b3 b4 b5 b6 b7
  decide
theorem c_mKind {P : KI} (hr : Rk r) (hT : MT a B n p) (hp : P (rKind B n p) (mAt a (skB B n p)) r nK) : Sp G (d + 4) 0 0 MX12_kindHere [.ref 60] (a, r, nK) (RI P) := by
  have l1 := skB_le (B := B) hT.2.2.2.1
  have hT1 := hT.at l1.2
  have e3 : mAt (mAt a (skB B n p)) (skB B n (skB B n p)) = mAt a (skB B n p) := by rw [skB_skB hT.2.2.2.1]; exact u2_u2
  have ew : ∀ i, isWp B n (skB B n p) i = isWp B n p i := fun i => by unfold isWp; rw [skB_skB hT.2.2.2.1]
  have st : ∀ {b : Bool} {v w : Int32}, b = true → (if b then v else w) = v := fun h => by rw [h]; rfl
  have sf : ∀ {b : Bool} {v w : Int32}, b = false → (if b then v else w) = w := fun h => by rw [h]; rfl
  have key : ∀ (i : Nat) {l0 l1 l2 l3 l4 l5 l6 : Int32} {Q : KI}, sev l0 l1 l2 l3 l4 l5 l6 = Int64.ofNat (cw i) → wOK i = true → Q (if isWp B n p i then 1 else 0) (mAt a (skB B n p)) r nK →
      Sp G (d + 3) 0 0 MX12_isWord [.ref 60, .int l0, .int l1, .int l2, .int l3, .int l4, .int l5, .int l6] (mAt a (skB B n p), r, nK) (RI Q) := fun i _ _ _ _ _ _ _ _ hw hi hq => c_mIsWord i hr hT1 hw hi (by rw [ew, e3]; exact hq)
  have nx : ∀ {b : Bool} {A D : Prop}, (b = false → A) → (b = true → D) → ((if b then (1 : Int32) else 0) = 0 → A) ∧ (¬ (if b then (1 : Int32) else 0) = 0 → D) := fun {b} {A D} hA hD => by
    cases b with
    | false => exact ⟨fun _ => hA rfl, fun h => absurd rfl h⟩
    | true => exact ⟨fun h => absurd h (by decide), fun _ => hD rfl⟩
  unfold rKind at hp
  refine V_X12_kindHere_0 ⟨rfl, by decide, c_mIsWord 1 hr hT (by decide) (by decide) (nx (fun h1 => ⟨rfl, by decide, key 2 (by decide) (by decide) (nx (fun h2 => ⟨rfl, by decide, key 5 (by decide) (by decide) (nx (fun h3 => ⟨rfl, by decide, key 3 (by decide) (by decide) (nx (fun h4 => ⟨rfl, by decide, key 4 (by decide) (by decide) (nx (fun h5 => ⟨rfl, by decide, key 6 (by decide) (by decide) (nx (fun h6 => ⟨rfl, by decide, key 7 (by decide) (by decide) (nx (fun h7 => ?_) (fun h7 => ?_))⟩) (fun h6 => ?_))⟩) (fun h5 => ?_))⟩) (fun h4 => ?_))⟩) (fun h3 => ?_))⟩) (fun h2 => ?_))⟩) (fun h1 => ?_))⟩
  · rw [sf h1, sf h2, sf h3, sf h4, sf h5, sf h6, sf h7] at hp; exact hp
  · rw [sf h1, sf h2, sf h3, sf h4, sf h5, sf h6, st h7] at hp; exact hp
  · rw [sf h1, sf h2, sf h3, sf h4, sf h5, st h6] at hp; exact hp
  · rw [sf h1, sf h2, sf h3, sf h4, st h5] at hp; exact hp
  · rw [sf h1, sf h2, sf h3, st h4] at hp; exact hp
  · rw [sf h1, sf h2, st h3] at hp; exact hp
  · rw [sf h1, st h2] at hp; exact hp
  · rw [st h1] at hp; exact hp
end MU
