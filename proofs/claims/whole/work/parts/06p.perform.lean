/-! Plan: the whole text; the steps done -/
def pWork (B : Nat → Int32) (n : Nat) (ns : Int32) : Nat → List St → Nat → List St ⊕ (Int32 × Nat)
  | 0, l, _ => .inl l
  | t + 1, l, p => if skB B n p < n then sB (pSt B n ns 400 0 0 l.length (skB B n p)) fun x => pWork B n ns t (l ++ x.1) x.2 else .inl l
section PW
variable {G : GE} {r : RA} {B : Nat → Int32} {n : Nat} {k f ns : Int32}
theorem l_readAllP {P : KI} {D : Nat} (hr : Rk r) (hn : n ≤ 150) (hD : 20 ≤ D) (a0 : IA) : ∀ (t i p s : Nat) (a : IA) (g : Nat → Int32) (l : List St), n - p < t → i ≤ p → offP a0 a → plI B n k f a g l p s →
    (∀ l', pWork B n ns t l p = .inl l' → ∀ a' g' p' s', offP a0 a' → PlOK a' l' → TXr g' n p' s' k f → P 1 (va_up a' 2 g') r nK) →
    (∀ c q, pWork B n ns t l p = .inr (c, q) → ∀ a' g' p' s', offP a0 a' → TXr g' n p' s' c (nI q) → P 0 (va_up a' 2 g') r nK) →
    E G MX7_readAll (D + 1) 0 0 22 [.ref 39, .ref 2, .int ns, .int (nI i)] [] (va_up a 2 g, r, nK) (RI P) := by
  intro t
  induction t with
  | zero => intro i p s a g l h; omega
  | succ t ih =>
    intro i p s a g l ht hip ho hI hy hf
    have hI0 := hI
    obtain ⟨hB, hl, hlp, hx, hpn⟩ := hI
    have hle := skB_le (B := B) hpn
    refine V_X7_readAll_22 ⟨fun h => ⟨bz_1, ?_⟩, fun h => ⟨rfl, by decide, Sp.up (d := 1) (by omega) (t_atEnd (d := 0) hr hB hx hpn (fun g1 x1 => ⟨fun h1 => ⟨bz_1, ?_⟩, fun h1 => ⟨rfl, by decide, ?_⟩⟩))⟩⟩
    · have h9 : 150 ≤ i := (nI_leI (a := 150) (by decide) (by omega)).mp h
      have e9 : skB B n p = p := run_end (by omega)
      exact hy l (by rw [pWork, if_neg (by omega)]) a g p s ho hl hx
    · have h5 : ¬ skB B n p < n := fun z => h1 (by rw [if_pos z])
      exact hy l (by rw [pWork, if_neg h5]) a g1 _ _ ho hl x1
    · have h5 : skB B n p < n := by
        by_cases z : skB B n p < n
        · exact z
        · rw [if_neg z] at h1; exact absurd h1 (by decide)
      refine (rdP_all (G := G) (k := k) (f := f) (B := B) (ns := ns) hr hn 400).1 0 (skB B n p) _ a g1 l _ (by decide) ⟨hB, hl, by omega, x1, hle.2⟩ (by omega) ⟨fun x e q1 a2 g2 s2 o2 l2 x2 => ⟨fun _ => ?_, fun h => absurd h (by decide)⟩, fun c q q1 a2 g2 p2 s2 o2 x2 => ⟨fun h => absurd rfl h, fun _ => ⟨bz_0, ?_⟩⟩⟩ D (by omega)
      · have hu := pSt_up B n ns 400 0 0 _ _ x e hle.2 q1
        have hlt := hu.2.2.2 rfl
        rw [nI_1]
        refine ih (i + 1) e s2 a2 g2 (l ++ x) (by omega) (by omega) (offP_tr ho o2) ⟨hB.offP o2, l2, by simp only [List.length_append]; omega, x2, hu.2.1⟩ (fun l' h6 => hy l' (by rw [pWork, if_pos h5, q1]; exact h6)) (fun c q h6 => hf c q (by rw [pWork, if_pos h5, q1]; exact h6))
      · exact hf c q (by rw [pWork, if_pos h5, q1]; rfl) a2 g2 p2 s2 (offP_tr ho o2) x2
theorem c_readAllP {P : KI} {d p s : Nat} {a : IA} {g : Nat → Int32} (hr : Rk r) (hn : n ≤ 150) (hB : By a B n) (hx : TXr g n p s k f) (hpn : p ≤ n)
    (hy : ∀ l', pWork B n ns 200 [] p = .inl l' → ∀ a' g' p' s', (∀ q, ¬ (39 ≤ q ∧ q ≤ 42) → a' q = a q) → PlOK a' l' → a' 39 4 = 0 → a' 39 5 = 0 → a' 39 6 = 0 → TXr g' n p' s' k f → P 1 (va_up a' 2 g') r nK)
    (hf : ∀ c q, pWork B n ns 200 [] p = .inr (c, q) → ∀ a' g' p' s', (∀ q, ¬ (39 ≤ q ∧ q ≤ 42) → a' q = a q) → TXr g' n p' s' c (nI q) → P 0 (va_up a' 2 g') r nK) :
    Sp G (d + 21) 0 0 MX7_readAll [.ref 39, .ref 2, .int ns] (va_up a 2 g, r, nK) (RI P) := by
  refine V_X7_readAll_0 ⟨rfl, by decide, fun a1 h1 => ⟨rfl, by decide, fun a2 h2 => ⟨rfl, by decide, fun a3 h3 => ⟨rfl, by decide, fun a4 h4 => ?_⟩⟩⟩⟩
  subst h1 h2 h3 h4
  rw [up_u2 (by decide), up_u2 (by decide), up_u2 (by decide), up_u2 (by decide)]
  generalize hb : u2 (u2 (u2 (u2 a 39 3 0) 39 4 0) 39 5 0) 39 6 0 = b
  have o1 : ∀ q, q ≠ 39 → b q = a q := fun q hq => by subst hb; rw [u2_off q hq, u2_off q hq, u2_off q hq, u2_off q hq]
  have b3 : b 39 3 = 0 := by subst hb; rw [u2_ne (by decide), u2_ne (by decide), u2_ne (by decide), u2_eq]
  have b4 : b 39 4 = 0 := by subst hb; rw [u2_ne (by decide), u2_ne (by decide), u2_eq]
  have b5 : b 39 5 = 0 := by subst hb; rw [u2_ne (by decide), u2_eq]
  have b6 : b 39 6 = 0 := by subst hb; rw [u2_eq]
  exact l_readAllP hr hn (by omega) b 200 0 p s b g [] (by omega) (by omega) offP_rf ⟨⟨hB.1, fun i hi => by rw [o1 1 (by decide)]; exact hB.2 i hi⟩, ⟨b3, fun i v h => by simp at h⟩, by simp, hx, hpn⟩
    (fun l' h a' g' p' s' o l2 x2 => hy l' h a' g' p' s' (fun q hq => (o.1 q hq).trans (o1 q (by omega))) l2 (by rw [o.2 4 (by decide), b4]) (by rw [o.2 5 (by decide), b5]) (by rw [o.2 6 (by decide), b6]) x2)
    (fun c q h a' g' p' s' o x2 => hf c q h a' g' p' s' (fun q hq => (o.1 q hq).trans (o1 q (by omega))) x2)
end PW
/-- the steps done: a state, how many were begun, done, refused -/
abbrev Xs (σ : Type) : Type := σ × Nat × Nat × Nat
def repX {σ : Type} (g : Xs σ → Xs σ) : Nat → Xs σ → Xs σ
  | 0, x => x
  | n + 1, x => repX g n (if x.2.1 < 200 then g x else x)
def oneX {σ : Type} (stp : σ → St → Bool × σ) (v : St) (x : Xs σ) : Xs σ := if (stp x.1 v).1 then ((stp x.1 v).2, x.2.1, x.2.2.1 + 1, x.2.2.2) else ((stp x.1 v).2, x.2.1, x.2.2.1, x.2.2.2 + 1)
def exX {σ : Type} (stp : σ → St → Bool × σ) (l : List St) : Nat → Nat → Nat → Xs σ → Xs σ
  | 0, _, _, x => x
  | t + 1, s, e, x => if s < e ∧ x.2.1 < 200 then
      if (l.getD s (0, 0, 0)).1 = 7 then exX stp l t (l.getD s (0, 0, 0)).2.2.toNatClampNeg e (repX (exX stp l t (s + 1) (l.getD s (0, 0, 0)).2.2.toNatClampNeg) (l.getD s (0, 0, 0)).2.1.toNatClampNeg (x.1, x.2.1 + 1, x.2.2.1, x.2.2.2))
      else exX stp l t (s + 1) e (oneX stp (l.getD s (0, 0, 0)) (x.1, x.2.1 + 1, x.2.2.1, x.2.2.2))
    else x
/-- steps from s to e, at most o agains in one another -/
def wfX (l : List St) : Nat → Nat → Nat → Nat → Prop
  | 0, s, e, _ => s = e
  | t + 1, s, e, o => s = e ∨ (s < e ∧ ∃ v : St, l[s]? = some v ∧ if v.1 = 7 then ∃ z m : Nat, v.2.2 = nI z ∧ v.2.1 = nI m ∧ m ≤ 20 ∧ s + 1 ≤ z ∧ z ≤ e ∧ 0 < o ∧ wfX l t (s + 1) z (o - 1) ∧ wfX l t z e o else wfX l t (s + 1) e o)
theorem wfX_le (l : List St) : ∀ (t s e o : Nat), wfX l t s e o → s ≤ e
  | 0, s, e, _, h => Nat.le_of_eq h
  | t + 1, s, e, o, h => by
    rcases h with h | ⟨h, -⟩ <;> omega
/-- the heap while steps are done: the Plan's own numbers, the row of now, the Law's stack -/
def HW (a : IA) (L : Nat) (pl f h : Nat → Int32) : IA := va_up (va_up (va_up a 39 pl) 44 f) (L + 2) h
section HW
variable {a : IA} {L : Nat} {pl f h : Nat → Int32}
theorem HW_39 (hL : isLaw L) : HW a L pl f h 39 = pl := by
  unfold HW
  rw [va_up_ne _ _ (by rcases hL with rfl | rfl <;> decide), va_up_ne _ _ (by decide), va_up_self]
theorem HW_44 (hL : isLaw L) : HW a L pl f h 44 = f := by
  unfold HW
  rw [va_up_ne _ _ (by rcases hL with rfl | rfl <;> decide), va_up_self]
theorem HW_ne {q : Nat} (h1 : q ≠ 39) (h2 : q ≠ 44) (h3 : q ≠ L + 2) : HW a L pl f h q = a q := by
  unfold HW
  rw [va_up_ne _ _ h3, va_up_ne _ _ h2, va_up_ne _ _ h1]
theorem HW_u (hL : isLaw L) (j : Nat) (x : Int32) : u2 (HW a L pl f h) 39 j x = HW a L (upd pl j x) f h := by
  unfold u2
  rw [HW_39 hL]
  unfold HW
  rw [up_comm _ _ _ (show L + 2 ≠ 39 by rcases hL with rfl | rfl <;> decide), up_comm _ _ _ (show (44 : Nat) ≠ 39 by decide), bx_uu]
theorem HW_f (hL : isLaw L) (f' : Nat → Int32) : va_up (HW a L pl f h) 44 f' = HW a L pl f' h := by
  unfold HW
  rw [up_comm _ _ _ (show L + 2 ≠ 44 by rcases hL with rfl | rfl <;> decide), bx_uu]
end HW
def stpC (a : IA) (T : Nat) (lw : List Int32) (f : Nat → Int32) (v : St) : Int32 × (Nat → Int32) :=
  if v.1 = 1 then (if lwHind (va_up a 44 f) T 43 lw v.2.1 v.2.2 = 0 then lfWed f v.2.1 v.2.2 else (0, f)) else if v.1 = 2 then lfPart f v.2.1 else if v.1 = 3 then lfPlant f v.2.1 v.2.2 else if v.1 = 4 then lfQuar f v.2.1 else if v.1 = 5 then lfRepave f v.2.1 else lfTurn f
def stpB (a : IA) (T : Nat) (lw : List Int32) (f : Nat → Int32) (v : St) : Bool × (Nat → Int32) := (decide (¬ (stpC a T lw f v).1 = 0), (stpC a T lw f v).2)
/-- the Plan's numbers -/
def plN (pl : Nat → Int32) (x : Nat × Nat × Nat) : Prop := pl 4 = nI x.1 ∧ pl 5 = nI x.2.1 ∧ pl 6 = nI x.2.2
section PE
variable {G : GE} {r : RA} {a : IA} {T L : Nat} {lw : List Int32} {l : List St}
theorem lwHind_pl {a : IA} {T : Nat} {pl f : Nat → Int32} (hT : isCity T) {u v : Int32} : lwHind (va_up (va_up a 39 pl) 44 f) T 43 lw u v = lwHind (va_up a 44 f) T 43 lw u v := by
  have s2 : ∀ k, k ≤ 11 → T + k ≠ 39 := fun k hk => by rcases hT with rfl | rfl <;> omega
  have s3 : ∀ k, k ≤ 11 → T + k ≠ 44 := fun k hk => by rcases hT with rfl | rfl <;> omega
  have e : ∀ k, k ≤ 11 → va_up (va_up a 39 pl) 44 f (T + k) = va_up a 44 f (T + k) := fun k hk => by
    rw [va_up_ne _ _ (s3 k hk), va_up_ne _ _ (s3 k hk), va_up_ne _ _ (s2 k hk)]
  have e44 : va_up (va_up a 39 pl) 44 f (43 + 1) = va_up a 44 f (43 + 1) := by rw [va_up_self, va_up_self]
  unfold lwHind ctNever lwFact ctCommon ctLiking
  simp only [e 9 (by decide), e 7 (by decide), e 3 (by decide), e 4 (by decide), e 8 (by decide), e 5 (by decide), e44]
theorem c_performStep {P : KI} {D : Nat} {pl f h : Nat → Int32} {i : Nat} {v : St} (hr : Rk r) (hL : isLaw L) (hT : isCity T) (hl : PlOK (va_up a 39 pl) l) (hlw : LwOK a L lw) (h150 : lw.length ≤ 150) (hw : lw = [] ∨ dep lw 0 = some 1) (hi : l[i]? = some v) (hi50 : i < 50)
    (hD : 5 ≤ D) (hp : ∀ h', P (stpC a T lw f v).1 (HW a L pl (stpC a T lw f v).2 h') r nK) (hb : bz (stpC a T lw f v).1) : Sp G (D + 1) 0 0 MX7_performStep [.ref 39, .int (nI i), .ref 43, .ref T, .ref L] (HW a L pl f h, r, nK) (RI P) := by
  obtain ⟨t0, t1, t2, t3, e1, e2, e3⟩ := plan_k hr
  have q43 : isLife 43 := Or.inl rfl
  have tL : tyK L = (0, 2) ∧ L < nK := ⟨(law_k hr hL).1, (law_k hr hL).2.1⟩
  have nL : ∀ q, 39 ≤ q → q ≤ 44 → q ≠ L + 2 := fun q h1 h2 => by rcases hL with rfl | rfl <;> omega
  obtain ⟨l40, l41, l42⟩ := hl.2 i v hi
  rw [va_up_ne _ _ (by decide)] at l40 l41 l42
  refine V_X7_performStep_0 ⟨t0, by decide, _, e2, Sp.up (d := 0) (by omega) (c_at t2 (by decide) (by decide) ⟨t0, by decide, _, e3, Sp.up (d := 0) (by omega) (c_at t3 (by decide) (by decide) ⟨t0, by decide, _, e1, Sp.up (d := 0) (by omega) (c_at t1 (by decide) (by decide) ?_)⟩)⟩)⟩
  rw [HW_ne (by decide) (by decide) (nL 41 (by decide) (by decide)), HW_ne (by decide) (by decide) (nL 42 (by decide) (by decide)), HW_ne (by decide) (by decide) (nL 40 (by decide) (by decide)), rAt_nI _ (by decide) hi50, rAt_nI _ (by decide) hi50, rAt_nI _ (by decide) hi50, l40, l41, l42]
  have e44 : ∀ (pl f h : Nat → Int32), HW a L pl f h (43 + 1) = f := fun pl f h => HW_44 hL
  have ef : ∀ (pl f h f' : Nat → Int32), va_up (HW a L pl f h) (43 + 1) f' = HW a L pl f' h := fun pl f h f' => HW_f hL f'
  have lwu : LwOK (va_up (va_up a 39 pl) 44 f) L lw := by
    unfold LwOK
    rw [va_up_ne _ _ (show L ≠ 44 by rcases hL with rfl | rfl <;> decide), va_up_ne _ _ (show L ≠ 39 by rcases hL with rfl | rfl <;> decide), va_up_ne _ _ (show L + 1 ≠ 44 by rcases hL with rfl | rfl <;> decide), va_up_ne _ _ (show L + 1 ≠ 39 by rcases hL with rfl | rfl <;> decide)]
    exact hlw
  unfold stpC at hp hb
  refine ⟨fun h1 => ⟨tL.1, tL.2, Sp.up (d := 4) (by omega) (c_hindrance (d := 0) hr hL hT q43 lwu h150 hw (fun h' => ?_))⟩, fun h1 => ⟨fun h2 => ⟨rfl, by decide, Sp.up (d := 2) (by omega) (c_partFrom (d := 0) hr q43 ?_)⟩, fun h2 => ⟨fun h3 => ⟨rfl, by decide, Sp.up (d := 2) (by omega) (c_plantIn (d := 0) hr q43 ?_)⟩, fun h3 => ⟨fun h4 => ⟨rfl, by decide, Sp.up (d := 2) (by omega) (c_quarrelIn (d := 0) hr q43 ?_)⟩, fun h4 => ⟨fun h5 => ⟨rfl, by decide, Sp.up (d := 2) (by omega) (c_repaveIn (d := 0) hr q43 ?_)⟩, fun h5 => ⟨rfl, by decide, Sp.up (d := 4) (by omega) (c_turnYear (d := 0) hr q43 ?_)⟩⟩⟩⟩⟩⟩
  · rw [if_pos h1] at hp hb
    rw [lwHind_pl hT]
    refine ⟨fun h2 => ⟨bz_0, ?_⟩, fun h2 => ⟨rfl, by decide, ?_⟩⟩
    · have := hp h'
      rw [if_neg h2] at this
      exact this
    · rw [if_pos h2] at hp hb
      refine Sp.up (d := 2) (by omega) (c_wed (d := 0) hr q43 ?_)
      show ((lfWed (HW a L pl f h' (43 + 1)) v.2.1 v.2.2).1 = 0 → (bz 0 ∧ P 0 (va_up (HW a L pl f h') (43 + 1) (lfWed (HW a L pl f h' (43 + 1)) v.2.1 v.2.2).2) r nK)) ∧ (¬ (lfWed (HW a L pl f h' (43 + 1)) v.2.1 v.2.2).1 = 0 → (bz 1 ∧ P 1 (va_up (HW a L pl f h') (43 + 1) (lfWed (HW a L pl f h' (43 + 1)) v.2.1 v.2.2).2) r nK))
      rw [e44, ef]
      have := hp h'
      refine ⟨fun h3 => ⟨bz_0, ?_⟩, fun h3 => ⟨bz_1, ?_⟩⟩
      · rw [h3] at this; exact this
      · have e1' : (lfWed f v.2.1 v.2.2).1 = 1 := by
          unfold lfWed at h3 ⊢
          split
          · rfl
          · next z => rw [if_neg z] at h3; exact absurd rfl h3
        rw [e1'] at this; exact this
  all_goals rw [if_neg h1] at hp hb
  · rw [if_pos h2] at hp hb
    rw [e44, ef]; exact ⟨hb, hp h⟩
  · rw [if_neg h2, if_pos h3] at hp hb
    rw [e44, ef]; exact ⟨hb, hp h⟩
  · rw [if_neg h2, if_neg h3, if_pos h4] at hp hb
    rw [e44, ef]; exact ⟨hb, hp h⟩
  · rw [if_neg h2, if_neg h3, if_neg h4, if_pos h5] at hp hb
    rw [e44, ef]; exact ⟨hb, hp h⟩
  · rw [if_neg h2, if_neg h3, if_neg h4, if_neg h5] at hp hb
    rw [e44, ef]; exact ⟨hb, hp h⟩
theorem repX_stop {σ : Type} (g : Xs σ → Xs σ) : ∀ (n : Nat) (x : Xs σ), ¬ x.2.1 < 200 → repX g n x = x
  | 0, x, h => rfl
  | n + 1, x, h => by rw [repX, if_neg h]; exact repX_stop g n x h
theorem ite01 {c : Prop} [h : Decidable c] {x y : Int32 × (Nat → Int32)} (hx : x.1 = 0 ∨ x.1 = 1) (hy : y.1 = 0 ∨ y.1 = 1) : (if c then x else y).1 = 0 ∨ (if c then x else y).1 = 1 := by
  by_cases z : c
  · rw [if_pos z]; exact hx
  · rw [if_neg z]; exact hy
theorem p0 {f : Nat → Int32} : ((0, f) : Int32 × (Nat → Int32)).1 = 0 ∨ ((0, f) : Int32 × (Nat → Int32)).1 = 1 := Or.inl rfl
theorem p1' {f : Nat → Int32} : ((1, f) : Int32 × (Nat → Int32)).1 = 0 ∨ ((1, f) : Int32 × (Nat → Int32)).1 = 1 := Or.inr rfl
theorem stpC_01 {f : Nat → Int32} {v : St} : (stpC a T lw f v).1 = 0 ∨ (stpC a T lw f v).1 = 1 := by
  unfold stpC
  refine ite01 (ite01 ?_ p0) (ite01 ?_ (ite01 ?_ (ite01 ?_ (ite01 ?_ ?_))))
  · unfold lfWed; exact ite01 p1' p0
  · unfold lfPart; exact ite01 p0 p1'
  · unfold lfPlant; exact ite01 p1' p0
  · unfold lfQuar; exact ite01 p0 p1'
  · unfold lfRepave; exact ite01 p0 p1'
  · unfold lfTurn; exact ite01 p1' p0
theorem PlOK_4 {pl pl' : Nat → Int32} (h : PlOK (va_up a 39 pl) l) (h3 : pl' 3 = pl 3) : PlOK (va_up a 39 pl') l := by
  obtain ⟨e, hat⟩ := h
  rw [va_up_self] at e
  refine ⟨by rw [va_up_self, h3]; exact e, fun i v hi => ?_⟩
  have := hat i v hi
  rw [va_up_ne _ _ (by decide), va_up_ne _ _ (by decide), va_up_ne _ _ (by decide)] at this ⊢
  exact this
theorem upd_ne {f : Nat → Int32} {k j : Nat} {x : Int32} (h : j ≠ k) : upd f k x j = f j := by unfold upd; rw [if_neg h]
theorem upd_eq {f : Nat → Int32} {k : Nat} {x : Int32} : upd f k x k = x := by unfold upd; rw [if_pos rfl]
/-- what perform owes -/
def pfI (G : GE) (r : RA) (a : IA) (T L : Nat) (lw : List Int32) (l : List St) (t : Nat) : Prop :=
  ∀ (s e o op : Nat) (pl f h : Nat → Int32) (b dn rf D : Nat) (P : KN), wfX l t s e o → e ≤ l.length → op + o ≤ 6 → PlOK (va_up a 39 pl) l → plN pl (b, dn, rf) → b ≤ 200 → o + 7 ≤ D →
    (∀ (pl' h' : Nat → Int32), PlOK (va_up a 39 pl') l → (exX (stpB a T lw) l t s e (f, b, dn, rf)).2.1 ≤ 200 → plN pl' (exX (stpB a T lw) l t s e (f, b, dn, rf)).2 → P (HW a L pl' (exX (stpB a T lw) l t s e (f, b, dn, rf)).1 h') r nK) →
    E G MX7_perform (D + 1) 0 0 10 [.ref 39, .null, .int (nI e), .int (nI op), .ref 43, .ref T, .ref L, .int (nI s), .null, .null, .null] [] (HW a L pl f h, r, nK) (RN P)
theorem pf_rep {t s z e o op m D : Nat} {P : KN} (hr : Rk r) (hL : isLaw L) (hT : isCity T) (h50 : l.length ≤ 50) (ih : pfI G r a T L lw l t) {v : St} (hv : l[s]? = some v) (hvm : v.2.1 = nI m) (hm : m ≤ 20) (hs : s < l.length) (hz : z ≤ l.length) (ho : 0 < o) (hop : op + o ≤ 6) (hw : wfX l t (s + 1) z (o - 1)) (hD : o + 7 ≤ D) :
    ∀ (j i : Nat) (pl f h : Nat → Int32) (x : Nat × Nat × Nat), i + j = m → PlOK (va_up a 39 pl) l → plN pl x → x.1 ≤ 200 →
      (∀ (pl' h' : Nat → Int32), PlOK (va_up a 39 pl') l → (repX (exX (stpB a T lw) l t (s + 1) z) j (f, x)).2.1 ≤ 200 → plN pl' (repX (exX (stpB a T lw) l t (s + 1) z) j (f, x)).2 → E G MX7_perform (D + 1) 0 0 10 [.ref 39, .null, .int (nI e), .int (nI op), .ref 43, .ref T, .ref L, .int (nI z), .null, .null, .null] [] (HW a L pl' (repX (exX (stpB a T lw) l t (s + 1) z) j (f, x)).1 h', r, nK) (RN P)) →
      E G MX7_perform (D + 1) 0 0 75 [.ref 39, .null, .int (nI e), .int (nI op), .ref 43, .ref T, .ref L, .int (nI s), .int (nI (s + 1)), .int (nI z), .int (nI i)] [] (HW a L pl f h, r, nK) (RN P) := by
  obtain ⟨t0, t1, t2, t3, e1, e2, e3⟩ := plan_k hr
  have nL : ∀ q, 39 ≤ q → q ≤ 44 → q ≠ L + 2 := fun q h1 h2 => by rcases hL with rfl | rfl <;> omega
  intro j
  induction j with
  | zero =>
    intro i pl f h x hi hl hpl hb hk
    have l41 := (hl.2 s v hv).2.1
    rw [va_up_ne _ _ (by decide), hvm] at l41
    refine V_X7_perform_75 ⟨t0, by decide, _, e2, Sp.up (d := 0) (by omega) (c_at t2 (by decide) (by decide) ?_)⟩
    rw [HW_ne (by decide) (by decide) (nL 41 (by decide) (by decide)), rAt_nI _ (by decide) (by omega), l41]
    exact ⟨fun _ => hk pl h hl hb hpl, fun h => absurd (nI_le (by omega) (by omega)) h⟩
  | succ j jh =>
    intro i pl f h x hi hl hpl hb hk
    have l41 := (hl.2 s v hv).2.1
    rw [va_up_ne _ _ (by decide), hvm] at l41
    refine V_X7_perform_75 ⟨t0, by decide, _, e2, Sp.up (d := 0) (by omega) (c_at t2 (by decide) (by decide) ?_)⟩
    rw [HW_ne (by decide) (by decide) (nL 41 (by decide) (by decide)), rAt_nI _ (by decide) (by omega), l41, HW_39 hL, hpl.1]
    rw [repX] at hk
    refine ⟨fun h => absurd h (nI_ge (by omega) (by omega)), fun _ => ⟨t0, by decide, fun h200 => ?_, fun h200 => ⟨t0, by decide, ?_⟩⟩⟩
    · have hnb : ¬ x.1 < 200 := by
        have := (nI_leI (a := 200) (by decide) (by omega)).mp h200
        omega
      rw [if_neg hnb, repX_stop _ _ _ hnb] at hk
      exact hk pl h hl hb hpl
    · have hnb : x.1 < 200 := by
        rcases Nat.lt_or_ge x.1 200 with z | z
        · exact z
        · exact absurd (nI_le z (by omega)) h200
      rw [if_pos (show (f, x).2.1 < 200 from hnb)] at hk
      obtain ⟨D, rfl⟩ : ∃ D', D = D' + 1 := ⟨D - 1, by omega⟩
      rw [nI_1]
      refine V_X7_perform_0 ⟨fun _ => ih (s + 1) z (o - 1) (op + 1) pl f h x.1 x.2.1 x.2.2 D _ hw hz (by omega) hl hpl hb (by omega) (fun pl' h' hl' hb' hpl' => ?_), fun h6 => absurd (nI_le (b := 6) (by omega) (by decide)) h6⟩
      rw [nI_1]
      exact jh (i + 1) pl' _ h' _ (by omega) hl' hpl' hb' hk
theorem pf_all (hr : Rk r) (hL : isLaw L) (hT : isCity T) (h50 : l.length ≤ 50) (hlw : LwOK a L lw) (h150 : lw.length ≤ 150) (hw : lw = [] ∨ dep lw 0 = some 1) : ∀ t, pfI G r a T L lw l t := by
  obtain ⟨t0, t1, t2, t3, e1, e2, e3⟩ := plan_k hr
  have nL : ∀ q, 39 ≤ q → q ≤ 44 → q ≠ L + 2 := fun q h1 h2 => by rcases hL with rfl | rfl <;> omega
  intro t
  induction t with
  | zero =>
    intro s e o op pl f h b dn rf D P hwf he hop hl hpl hb hD hk
    have hse : s = e := hwf
    subst hse
    exact V_X7_perform_10 ⟨fun _ => hk pl h hl hb hpl, fun h => absurd (nI_le (Nat.le_refl _) (by omega)) h⟩
  | succ t ih =>
    intro s e o op pl f h b dn rf D P hwf he hop hl hpl hb hD hk
    rcases hwf with hse | ⟨hse, v, hv, hwv⟩
    · rw [exX, if_neg (by omega)] at hk
      subst hse
      exact V_X7_perform_10 ⟨fun _ => hk pl h hl hb hpl, fun h => absurd (nI_le (Nat.le_refl _) (by omega)) h⟩
    have hD0 : l.getD s (0, 0, 0) = v := by rw [List.getD_eq_getElem?_getD, hv]; rfl
    refine V_X7_perform_10 ⟨fun h => absurd h (nI_ge hse (by omega)), fun _ => ⟨t0, by decide, fun h200 => ?_, fun h200 => ⟨t0, by decide, t0, by decide, fun a1 h1 => ⟨t0, by decide, _, e1, Sp.up (d := 0) (by omega) (c_at t1 (by decide) (by decide) ?_)⟩⟩⟩⟩
    · rw [HW_39 hL, hpl.1] at h200
      have := (nI_leI (a := 200) (by decide) (by omega)).mp h200
      rw [exX, if_neg (by simp only; omega)] at hk
      exact hk pl h hl hb hpl
    rw [HW_39 hL, hpl.1] at h200
    have hb2 : b < 200 := by
      rcases Nat.lt_or_ge b 200 with z | z
      · exact z
      · exact absurd (nI_le z (by omega)) h200
    rw [exX, if_pos ⟨hse, hb2⟩, hD0] at hk
    rw [HW_39 hL, hpl.1, nI_1, HW_u hL] at h1
    subst h1
    have hl1 : PlOK (va_up a 39 (upd pl 4 (nI (b + 1)))) l := PlOK_4 hl (upd_ne (by decide))
    have hpl1 : plN (upd pl 4 (nI (b + 1))) (b + 1, dn, rf) := ⟨upd_eq, by rw [upd_ne (by decide)]; exact hpl.2.1, by rw [upd_ne (by decide)]; exact hpl.2.2⟩
    obtain ⟨l40, l41, l42⟩ := hl.2 s v hv
    rw [va_up_ne _ _ (by decide)] at l40 l41 l42
    rw [HW_ne (by decide) (by decide) (nL 40 (by decide) (by decide)), rAt_nI _ (by decide) (by omega), l40]
    refine ⟨fun h7 => ⟨t0, by decide, ?_⟩, fun h7 => ⟨t0, by decide, _, e3, Sp.up (d := 0) (by omega) (c_at t3 (by decide) (by decide) ?_)⟩⟩
    · rw [if_neg h7] at hwv hk
      obtain ⟨D, rfl⟩ : ∃ D', D = D' + 1 := ⟨D - 1, by omega⟩
      have hbz : bz (stpC a T lw f v).1 := by rcases stpC_01 (a := a) (T := T) (lw := lw) (f := f) (v := v) with z | z <;> rw [z] <;> rfl
      refine c_performStep hr hL hT hl1 hlw h150 hw hv (by omega) (by omega) (fun h' => ?_) hbz
      unfold oneX stpB at hk
      refine ⟨fun h0 => ⟨t0, by decide, t0, by decide, fun a2 h2 => ?_⟩, fun h0 => ⟨t0, by decide, t0, by decide, fun a2 h2 => ?_⟩⟩
      · simp only [h0, not_true_eq_false, decide_false, Bool.false_eq_true, if_false] at hk
        rw [HW_39 hL, hpl1.2.2, nI_1, HW_u hL] at h2
        subst h2
        rw [nI_1]
        exact ih (s + 1) e o op _ _ h' (b + 1) dn (rf + 1) (D + 1) P hwv he hop (PlOK_4 hl1 (upd_ne (by decide))) ⟨by rw [upd_ne (by decide)]; exact hpl1.1, by rw [upd_ne (by decide)]; exact hpl1.2.1, upd_eq⟩ (by omega) hD hk
      · simp only [h0, not_false_eq_true, decide_true, if_true] at hk
        rw [HW_39 hL, hpl1.2.1, nI_1, HW_u hL] at h2
        subst h2
        rw [nI_1]
        exact ih (s + 1) e o op _ _ h' (b + 1) (dn + 1) rf (D + 1) P hwv he hop (PlOK_4 hl1 (upd_ne (by decide))) ⟨by rw [upd_ne (by decide)]; exact hpl1.1, upd_eq, by rw [upd_ne (by decide)]; exact hpl1.2.2⟩ (by omega) hD hk
    · rw [if_pos h7] at hwv hk
      obtain ⟨z, m, hz, hm, hm20, hsz, hze, ho, hw1, hw2⟩ := hwv
      rw [hz, hm, nI_clamp (by omega), nI_clamp (by omega)] at hk
      rw [HW_ne (by decide) (by decide) (nL 42 (by decide) (by decide)), rAt_nI _ (by decide) (by omega), l42, hz, nI_1]
      have emax : (if nI (s + 1) < nI z then nI z else nI (s + 1)) = nI z := by
        by_cases hq : s + 1 < z
        · rw [if_pos (nI_lt hq (by omega))]
        · rw [if_neg (nI_nlt (by omega) (by omega)), show z = s + 1 by omega]
      rw [emax]
      exact pf_rep (z := z) (e := e) (o := o) (m := m) hr hL hT h50 ih hv hm hm20 (by omega) (by omega) ho hop hw1 hD m 0 _ f h (b + 1, dn, rf) (by omega) hl1 hpl1 (by simp only; omega) (fun pl' h' hl' hb' hpl' => ih z e o op pl' _ h' _ _ _ D P hw2 he hop hl' hpl' hb' hD hk)
end PE
