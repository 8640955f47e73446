/-! The reference: work -/
theorem pSt_V (B : Nat → Int32) (n ns : Nat) (h8 : ns ≤ 8) : ∀ (t mode o b p : Nat) (y : List St) (e : Nat), p ≤ n → pSt B n (nI ns) t mode o b p = .inl (y, e) → ∀ v, v ∈ y → stV ns v
  | 0, _, _, _, _, _, _, _, h => by cases h
  | t + 1, mode, o, b, p, y, e, hp, h => by
    have ih := pSt_V B n ns h8 t
    have l1 := skB_le (B := B) hp
    have l2 := ltE_le (B := B) l1.2
    have hdom := wk_dom B (skB B n p) (ltE B n (skB B n p))
    rw [pSt] at h
    split at h
    · split at h
      · cases h
      next h0 =>
      split at h
      · next h7 =>
        split at h
        · cases h
        obtain ⟨x, e1, h⟩ := sB_inv h
        obtain ⟨z, e2, h⟩ := sB_inv h
        obtain ⟨w, e3, h⟩ := sB_inv h
        obtain ⟨u, e4, h⟩ := sB_inv h
        obtain ⟨v, e5, h⟩ := sB_inv h
        have i1 := pNum_e l2.2 e1
        have i2 := pSign_e i1.2.1 (by decide) e2
        cases h
        intro v hv
        rcases List.mem_cons.mp hv with rfl | hv
        · refine ⟨by show (7 : Int32) = 1 ∨ (7 : Int32) = 2 ∨ (7 : Int32) = 3 ∨ (7 : Int32) = 4 ∨ (7 : Int32) = 5 ∨ (7 : Int32) = 6 ∨ (7 : Int32) = 7; decide, fun h => absurd h (by show ¬ ((7 : Int32) = 1 ∨ (7 : Int32) = 2 ∨ (7 : Int32) = 3 ∨ (7 : Int32) = 4 ∨ (7 : Int32) = 5); decide), fun h => absurd h (by show ¬ (7 : Int32) = 1; decide)⟩
        · exact ih 1 (o + 1) (b + 1) z w.1 w.2 i2.2 e3 v hv
      · next h7 =>
        obtain ⟨x, e1, h⟩ := sB_inv h
        obtain ⟨z, e2, h⟩ := sB_inv h
        obtain ⟨w, e3, h⟩ := sB_inv h
        cases h
        intro v hv
        rcases List.mem_singleton.mp hv with rfl
        generalize wkKind B (skB B n p) (ltE B n (skB B n p)) = k at *
        refine ⟨hdom.resolve_left h0, fun hk => ?_, fun hk => ?_⟩
        · have hk : k = 1 ∨ k = 2 ∨ k = 3 ∨ k = 4 ∨ k = 5 := hk
          unfold pFirst at e1
          rw [if_neg (fun e6 => by rw [e6] at hk; exact absurd hk (by decide))] at e1
          have i1 := pNum_e l2.2 e1
          obtain ⟨i, hi, ei⟩ := nIdx (by omega) i1.2.2.1 i1.2.2.2
          exact ⟨i, hi, ei⟩
        · have hk : k = 1 := hk
          subst hk
          have hx : x.2 ≤ n := by
            unfold pFirst at e1
            rw [if_neg (by decide)] at e1
            exact (pNum_e l2.2 e1).2.1
          unfold pSecond at e2
          rw [if_pos rfl] at e2
          have i1 := pNum_e hx e2
          obtain ⟨i, hi, ei⟩ := nIdx (by omega) i1.2.2.1 i1.2.2.2
          exact ⟨i, hi, ei⟩
    · split at h
      · cases h
        intro v hv
        cases hv
      · obtain ⟨x, e1, h⟩ := sB_inv h
        obtain ⟨z, e2, h⟩ := sB_inv h
        have i1 := pSt_up B n (nI ns) t 0 _ _ _ x.1 x.2 l1.2 e1
        cases h
        intro v hv
        rcases List.mem_append.mp hv with hv | hv
        · exact ih 0 o b _ x.1 x.2 l1.2 e1 v hv
        · exact ih 1 o _ _ z.1 z.2 i1.2.1 e2 v hv
/-- steps done in two ways that agree -/
theorem repX_rel {σ σ' : Type} {R : σ → σ' → Prop} {g : Xs σ → Xs σ} {g' : Xs σ' → Xs σ'} (hg : ∀ x x', R x.1 x'.1 → x.2 = x'.2 → R (g x).1 (g' x').1 ∧ (g x).2 = (g' x').2) : ∀ (n : Nat) (x : Xs σ) (x' : Xs σ'), R x.1 x'.1 → x.2 = x'.2 → R (repX g n x).1 (repX g' n x').1 ∧ (repX g n x).2 = (repX g' n x').2
  | 0, _, _, h1, h2 => ⟨h1, h2⟩
  | n + 1, x, x', h1, h2 => by
    rw [repX, repX]
    have e : x.2.1 = x'.2.1 := by rw [h2]
    rw [e]
    by_cases hc : x'.2.1 < 200
    · rw [if_pos hc, if_pos hc]
      have := hg x x' h1 h2
      exact repX_rel hg n _ _ this.1 this.2
    · rw [if_neg hc, if_neg hc]
      exact repX_rel hg n _ _ h1 h2
theorem exX_rel {σ σ' : Type} {R : σ → σ' → Prop} {stp : σ → St → Bool × σ} {stp' : σ' → St → Bool × σ'} {l : List St} (hs : ∀ v, v ∈ l → ∀ x y, R x y → (stp x v).1 = (stp' y v).1 ∧ R (stp x v).2 (stp' y v).2) : ∀ (t s e o : Nat) (x : Xs σ) (x' : Xs σ'), wfX l t s e o → e ≤ l.length → l.length ≤ 80 → R x.1 x'.1 → x.2 = x'.2 →
    R (exX stp l t s e x).1 (exX stp' l t s e x').1 ∧ (exX stp l t s e x).2 = (exX stp' l t s e x').2
  | 0, _, _, _, _, _, _, _, _, h1, h2 => ⟨h1, h2⟩
  | t + 1, s, e, o, x, x', hw, he, h80, h1, h2 => by
    rw [exX, exX]
    have e1 : x.2.1 = x'.2.1 := by rw [h2]
    rw [e1]
    by_cases hc : s < e ∧ x'.2.1 < 200
    · rw [if_pos hc, if_pos hc]
      rcases hw with hw | ⟨_, v, hv, hw⟩
      · omega
      have eg : l.getD s (0, 0, 0) = v := by rw [List.getD_eq_getElem?_getD, hv]; rfl
      have hmem : v ∈ l := List.mem_of_getElem? hv
      rw [eg]
      by_cases h7 : v.1 = 7
      · rw [if_pos h7, if_pos h7]
        rw [if_pos h7] at hw
        obtain ⟨z, m, q1, q2, q3, q4, q5, q6, w1, w2⟩ := hw
        rw [q1, q2, nI_clamp (by omega), nI_clamp (by omega)]
        have hr := repX_rel (R := R) (fun y y' g1 g2 => exX_rel hs t (s + 1) z (o - 1) y y' w1 (by omega) h80 g1 g2) m (x.1, x'.2.1 + 1, x.2.2.1, x.2.2.2) (x'.1, x'.2.1 + 1, x'.2.2.1, x'.2.2.2) h1 (by rw [h2])
        exact exX_rel hs t z e o _ _ w2 he h80 hr.1 hr.2
      · rw [if_neg h7, if_neg h7]
        rw [if_neg h7] at hw
        have hv2 := hs v hmem x.1 x'.1 h1
        refine exX_rel hs t (s + 1) e o _ _ hw he h80 ?_ ?_
        · unfold oneX
          split <;> split <;> exact hv2.2
        · unfold oneX
          simp only [hv2.1, h2]
          split <;> rfl
    · rw [if_neg hc, if_neg hc]
      exact ⟨h1, h2⟩
section MWK
variable {G : GE} {d C S : Nat} {r : RA} {B : Nat → Int32} {n p o N nc ns ng k : Nat} {a : IA} {lw : List Int32} {x : Int32}
/-- what work leaves -/
def WkR (a a2 : IA) (k : Nat) (X : Xs (Nat → Int32)) : Prop :=
  (∀ q, q ≠ 60 → q ≠ 582 → q ≠ 499 → q ≠ 500 → mS q = false → q ≠ 584 + 1 + k → a2 q = a q) ∧ (∀ j, mJ j = false → 4 ≤ j → j ≠ 39 → j ≠ 40 → j ≠ 43 → j ≠ 44 → a2 60 j = a 60 j) ∧
  a2 60 0 = 0 ∧ a2 60 1 = 0 ∧ a2 60 3 = -1 ∧ a2 60 39 = nI (k + 1) ∧ a2 60 40 = nI X.2.2.2 ∧ a2 582 = X.1 ∧ ∀ j, j < 42 → a2 (584 + 1 + k) j = a 582 j
theorem pWork_V (h8 : ns ≤ 8) : ∀ (t p : Nat) (l l' : List St), (∀ v, v ∈ l → stV ns v) → pWork B n (nI ns) t l p = .inl l' → p ≤ n → ∀ v, v ∈ l' → stV ns v
  | 0, _, _, _, hl, h, _ => by cases h; exact hl
  | t + 1, p, l, l', hl, h, hp => by
    rw [pWork] at h
    split at h
    · obtain ⟨y, e1, h⟩ := sB_inv h
      have l1 := skB_le (B := B) hp
      have hu := pSt_up B n (nI ns) 400 0 0 _ _ y.1 y.2 l1.2 e1
      refine pWork_V h8 t y.2 _ l' (fun v hv => ?_) h hu.2.1
      rcases List.mem_append.mp hv with hv | hv
      · exact hl v hv
      · exact pSt_V B n ns h8 400 0 0 _ _ y.1 y.2 l1.2 e1 v hv
    · cases h; exact hl
/-- the steps of a text, one by one -/
theorem l_mWork {P : KI} {D : Nat} (hr : Rk r) (hn : n ≤ 150) (hD : 20 ≤ D) (a0 : IA) (h0 : a0 64 1 = nI ns) : ∀ (t p : Nat) (a : IA) (l : List St), n - p < t → mK a0 a → MT a B n p → skB B n p = p → RSt a l → 5 * l.length ≤ p → a 60 8 = nI 0 →
    (∀ l', pWork B n (nI ns) t l p = .inl l' → ∀ a' p', mK a0 a' → MT a' B n p' → RSt a' l' → E G MX12_work D 0 0 101 [.ref 60, .null] [] (a', r, nK) (RI P)) →
    (∀ c q, pWork B n (nI ns) t l p = .inr (c, q) → ∀ a', mK a0 a' → MS a' B n (.inr (c, q)) → E G MX12_work D 0 0 101 [.ref 60, .null] [] (a', r, nK) (RI P)) →
    E G MX12_work D 0 0 72 [.ref 60, .null] [] (a, r, nK) (RI P) := by
  obtain ⟨D, rfl⟩ : ∃ D', D = D' + 1 := ⟨D - 1, by omega⟩
  intro t
  induction t with
  | zero => intro p a l h; omega
  | succ t ih =>
    intro p a l ht hk hT hsk hl hlp h8 hy hf
    have hT0 := hT
    obtain ⟨hB, g2, g4, hpn, h5⟩ := hT
    have hn6 := hB.1
    refine V_X12_work_72 ⟨rfl, by decide, fun h => absurd h5 h, fun _ => ⟨rfl, by decide, rfl, by decide, fun hle => ?_, fun hle => ⟨rfl, by decide, ?_⟩⟩⟩
    · rw [g2, g4, nI_leI (by omega) (by omega)] at hle
      exact hy l (by rw [pWork, if_neg (by omega)]) a p hk hT0 hl
    · rw [g2, g4, nI_leI (by omega) (by omega)] at hle
      have hlt : skB B n p < n := by omega
      have h64 : a 64 1 = nI ns := by rw [hk.1 64 (by decide) rfl]; exact h0
      refine (sr_all (G := G) (B := B) (ns := nI ns) hr hn 400).1 0 p a l _ (by decide) hT0 h64 hl hlp h8 (by omega) ⟨fun x e q1 p1 a2 k2 t2 l2 o2 => ⟨rfl, by decide, ?_⟩, fun c q q1 a2 k2 ms => ⟨rfl, by decide, ?_⟩⟩ D (by omega)
      · have hu := pSt_up B n (nI ns) 400 0 0 _ _ x e hpn q1
        have hlt2 := hu.2.2.2 rfl
        have l3 := skB_le (B := B) t2.2.2.2.1
        refine Sp.up (d := 1) (by omega) (c_mBlanks (d := 0) hr t2.1 t2.2.1 t2.2.2.1 t2.2.2.2.1 ?_)
        have ew : ∀ l2, pWork B n (nI ns) t l2 (skB B n e) = pWork B n (nI ns) t l2 e := fun l2 => by
          cases t with
          | zero => rfl
          | succ t => rw [pWork, pWork, skB_skB t2.2.2.2.1]
        refine ih (skB B n e) _ (l ++ x) (by omega) (mK_tr hk (mK_tr k2 (mK_6 rfl))) (t2.at l3.2) (skB_skB t2.2.2.2.1) (l2.w60 (by decide)) (by simp only [List.length_append]; omega) (by rw [u2_ne (by decide)]; exact o2) (fun l' h6 => hy l' ?_) (fun c q h6 => hf c q ?_)
        · rw [pWork, if_pos hlt, hsk, q1]
          rw [ew] at h6
          exact h6
        · rw [pWork, if_pos hlt, hsk, q1]
          rw [ew] at h6
          exact h6
      · obtain ⟨q', hqn, e4⟩ := (ms.2.2.2 c q rfl).2.2.2
        refine Sp.up (d := 1) (by omega) (c_mBlanks (d := 0) hr ms.1 ms.2.1 e4 hqn ?_)
        have mb := ms.bl hqn
        refine V_X12_work_72 ⟨rfl, by decide, fun _ => ?_, fun h => absurd h mb.n5⟩
        exact hf c q (by rw [pWork, if_pos hlt, hsk, q1]; rfl) _ (mK_tr hk (mK_tr k2 (mK_6 rfl))) mb
end MWK
