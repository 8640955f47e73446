/-! The reference: a law read -/
def mrQ (B : Nat → Int32) (n : Nat) (r : RA) (a : IA) (l : List Int32) (p o : Nat) (res : (List Int32 × Nat) ⊕ (Int32 × Nat)) (P : KN) : Prop :=
  (∀ x e, res = .inl (x, e) → p ≤ e → ∀ a', mK a a' → MT a' B n e → RdL a' (l ++ x) → a' 60 8 = nI o → P a' r nK) ∧
  (∀ k f, res = .inr (k, f) → ∀ a', mK a a' → MS a' B n (.inr (k, f)) → P a' r nK)
def mrS (G : GE) (r : RA) (B : Nat → Int32) (n : Nat) (M : MI) (t mode c b : Nat) : Prop :=
  ∀ (o p : Nat) (a : IA) (l : List Int32) (P : KN), o ≤ 6 → MT a B n p → RdL a l → l.length ≤ p → a 60 8 = nI o → 5 * (n - p) + c ≤ t → mrQ B n r a l p o (pE B n t mode o p) P → ∀ D, 3 * (6 - o) + b ≤ D → Sp G D 0 0 M [.ref 60] (a, r, nK) (RN P)
def mrT (G : GE) (r : RA) (B : Nat → Int32) (n : Nat) (M : MI) (t mode b : Nat) : Prop :=
  ∀ (o p : Nat) (a : IA) (l : List Int32) (P : KN), o ≤ 6 → MT a B n p → RdL a l → l.length ≤ p → a 60 8 = nI o → 5 * (n - p) + 1 ≤ t → mrQ B n r a l p o (pE B n t mode o p) P → ∀ D, 3 * (6 - o) + b ≤ D → E G M D 0 0 4 [.ref 60, .null] [] (a, r, nK) (RN P)
section ML2
variable {G : GE} {r : RA} {B : Nat → Int32} {n : Nat}
theorem mrQ_tail {a a' : IA} {l x z : List Int32} {p e o : Nat} {res : (List Int32 × Nat) ⊕ (Int32 × Nat)} {t m2 : Nat} {P : KN} (ho : mK a a') (hpe : p ≤ e)
    (hq : mrQ B n r a l p o res P) (hres : res = sB (pE B n t m2 o e) fun y => .inl (x ++ (z ++ y.1), y.2)) : mrQ B n r a' (l ++ x ++ z) e o (pE B n t m2 o e) P := by
  refine ⟨fun y e2 h1 h2 a2 o2 t2 l2 o8 => ?_, fun c q h1 a2 o2 x2 => ?_⟩
  · exact hq.1 (x ++ (z ++ y)) e2 (by rw [hres, sB_l h1]) (by omega) a2 (mK_tr ho o2) t2 (by simpa using l2) o8
  · exact hq.2 c q (by rw [hres, sB_r h1]) a2 (mK_tr ho o2) x2
theorem MS.n5 {a : IA} {k : Int32} {f : Nat} (h : MS a B n (.inr (k, f))) : ¬ a 60 5 = 0 := by
  have := h.2.2.2 k f rfl
  rw [this.1]
  exact this.2.1
theorem mr_sum (hr : Rk r) {t : Nat} (h2 : mrS G r B n MX12_product t 2 2 7) (h1 : mrT G r B n MX12_sum t 1 8) : mrS G r B n MX12_sum (t + 1) 0 3 8 := by
  intro o p a l P ho hT hl hlp h8 ht hq D hD
  obtain ⟨D, rfl⟩ : ∃ D', D = D' + 1 := ⟨D - 1, by omega⟩
  have hres : pE B n (t + 1) 0 o p = sB (pE B n t 2 o p) fun x => sB (pE B n t 1 o x.2) fun y => .inl (x.1 ++ y.1, y.2) := by rw [pE, if_pos rfl]
  have hpn := hT.2.2.2.1
  refine V_X12_sum_0 ⟨rfl, by decide, h2 o p a l _ ho hT hl hlp h8 (by omega) ⟨fun x e h3 h4 a' k' t' l' o8 => ?_, fun c q h3 a' k' x' => ?_⟩ D (by omega)⟩
  · have hu := pE_up B n t 2 o p x e hpn h3
    have hlt := hu.2.2.1 (by decide) (by decide)
    have hq' := mrQ_tail (z := []) (t := t) (m2 := 1) (o := o) k' h4 hq (by rw [hres, sB_l h3]; rfl)
    rw [List.append_nil] at hq'
    exact h1 o e a' (l ++ x) P ho t' l' (by simp only [List.length_append]; omega) o8 (by omega) hq' (D + 1) (by omega)
  · exact s_mSumT x'.n5 (hq.2 c q (by rw [hres, sB_r h3]) a' k' x')
theorem mr_prod (hr : Rk r) {t : Nat} (h2 : mrS G r B n MX12_one t 4 1 6) (h1 : mrT G r B n MX12_product t 3 7) : mrS G r B n MX12_product (t + 1) 2 2 7 := by
  intro o p a l P ho hT hl hlp h8 ht hq D hD
  obtain ⟨D, rfl⟩ : ∃ D', D = D' + 1 := ⟨D - 1, by omega⟩
  have hres : pE B n (t + 1) 2 o p = sB (pE B n t 4 o p) fun x => sB (pE B n t 3 o x.2) fun y => .inl (x.1 ++ y.1, y.2) := by rw [pE, if_neg (by decide), if_neg (by decide), if_pos rfl]
  have hpn := hT.2.2.2.1
  refine V_X12_product_0 ⟨rfl, by decide, h2 o p a l _ ho hT hl hlp h8 (by omega) ⟨fun x e h3 h4 a' k' t' l' o8 => ?_, fun c q h3 a' k' x' => ?_⟩ D (by omega)⟩
  · have hu := pE_up B n t 4 o p x e hpn h3
    have hlt := hu.2.2.1 (by decide) (by decide)
    have hq' := mrQ_tail (z := []) (t := t) (m2 := 3) (o := o) k' h4 hq (by rw [hres, sB_l h3]; rfl)
    rw [List.append_nil] at hq'
    exact h1 o e a' (l ++ x) P ho t' l' (by simp only [List.length_append]; omega) o8 (by omega) hq' (D + 1) (by omega)
  · exact s_mProdT x'.n5 (hq.2 c q (by rw [hres, sB_r h3]) a' k' x')
/-- a sign has been taken: a part, the sign's code, and on -/
theorem mr_step {Mn Mt : MI} {t m1 m2 b c o p : Nat} {a : IA} {l : List Int32} {P : KN} {sg code what : Int32} {D : Nat} {res : (List Int32 × Nat) ⊕ (Int32 × Nat)} (hr : Rk r) (hsg : sg ≠ -1) (hm : m1 ≠ 1 ∧ m1 ≠ 3) (hn : n ≤ 150) (hc : c ≤ 3) (hcode : rcode code = (what, 0))
    (h2 : mrS G r B n Mn t m1 c b) (h1 : mrT G r B n Mt t m2 (b + 1)) (hE : ∀ (a' : IA), ¬ a' 60 5 = 0 → P a' r nK → E G Mt (D + 1) 0 0 4 [.ref 60, .null] [] (a', r, nK) (RN P)) (ho : o ≤ 6) (hT : MT a B n p) (hl : RdL a l) (hlp : l.length ≤ p) (h8 : a 60 8 = nI o) (ht : 5 * (n - p) + 1 ≤ t + 1) (hD : 3 * (6 - o) + (b + 1) ≤ D + 1)
    (hb : bAt B n (skB B n p) = sg) (hq : mrQ B n r a l p o res P) (hres : res = sB (pE B n t m1 o (skB B n p + 1)) fun x => sB (pE B n t m2 o x.2) fun y => .inl (x.1 ++ code :: y.1, y.2)) :
    Sp G D 0 0 Mn [.ref 60] (u2 a 60 4 (nI (skB B n p + 1)), r, nK) (RN fun a1 r1 n1 => tyK 60 = (0, 11) ∧ 60 < n1 ∧ Sp G D 0 0 MX12_notes [.ref 60, .int what, .int 0] (a1, r1, n1) (RN fun a2 r2 n2 => E G Mt (D + 1) 0 0 4 [.ref 60, .null] [] (a2, r2, n2) (RN P))) := by
  have hlt := bAt_lt hsg hb
  have hpn := hT.2.2.2.1
  have hle := skB_le (B := B) hpn
  have hT1 : MT (u2 a 60 4 (nI (skB B n p + 1))) B n (skB B n p + 1) := hT.at (by omega)
  refine h2 o (skB B n p + 1) _ l _ ho hT1 (hl.w60 (by decide)) (by omega) (by rw [u2_ne (by decide)]; exact h8) (by omega) ⟨fun x e h6 h7 a' k' t' l' o8 => ⟨rfl, by decide, ?_⟩, fun c q h6 a' k' x' => ⟨rfl, by decide, ?_⟩⟩ D (by omega)
  · have hu := pE_up B n t m1 o _ x e (by omega) h6
    have hlt2 := hu.2.2.1 hm.1 hm.2
    have hlen : (l ++ x).length < 150 := by simp only [List.length_append]; omega
    refine c_mNotes hr t'.2.2.2.2 l' (by omega) hcode (fun a2 k2 j2 e2 l2 => ?_)
    have kk := mK_tr (mK_tr (mK_6 (j := 4) rfl) k') k2
    have hq' := mrQ_tail (x := x) (z := [code]) (t := t) (m2 := m2) (o := o) kk (p := p) (e := e) (by omega) hq (by rw [hres, sB_l h6]; rfl)
    exact h1 o e a2 (l ++ x ++ [code]) P ho (t'.row e2 (j2 2 (by decide)) (j2 4 (by decide)) (j2 5 (by decide))) l2 (by simp only [List.length_append, List.length_cons, List.length_nil]; omega) ((j2 8 (by decide)).trans o8) (by omega) hq' (D + 1) (by omega)
  · exact s_mNotes x'.n5 (hE a' x'.n5 (hq.2 c q (by rw [hres, sB_r h6]) a' (mK_tr (mK_6 (j := 4) rfl) k') x'))
theorem mr_sumT (hr : Rk r) (hn : n ≤ 150) {t : Nat} (h2 : mrS G r B n MX12_product t 2 2 7) (h1 : mrT G r B n MX12_sum t 1 8) : mrT G r B n MX12_sum (t + 1) 1 8 := by
  intro o p a l P ho hT hl hlp h8 ht hq D hD
  obtain ⟨D, rfl⟩ : ∃ D', D = D' + 1 := ⟨D - 1, by omega⟩
  have hT0 := hT
  obtain ⟨hB, g2, g4, hpn, h5⟩ := hT
  have hle := skB_le (B := B) hpn
  have hres := pE.eq_2 B n 1 o p t
  rw [if_neg (by decide), if_pos rfl] at hres
  change pE B n (t + 1) 1 o p = _ at hres
  have hE : ∀ (a' : IA), ¬ a' 60 5 = 0 → P a' r nK → E G MX12_sum (D + 1) 0 0 4 [.ref 60, .null] [] (a', r, nK) (RN P) := fun a' h3 h4 => s_mSumT h3 h4
  refine V_X12_sum_4 ⟨rfl, by decide, fun h => absurd h5 h, fun _ => ⟨rfl, by decide, Sp.up (d := 2) (by omega) (c_mTakes (d := 0) hr hB g2 g4 hpn h5 (fun hb => ⟨fun h => absurd h (by decide), fun _ => ⟨fun _ => ⟨rfl, by decide, ?_⟩, fun h => absurd h (by decide)⟩⟩) (fun hb => ⟨fun _ => ⟨rfl, by decide, ?_⟩, fun h => absurd rfl h⟩))⟩⟩
  · rw [if_pos hb] at hres
    exact mr_step (sg := 43) (code := -1) hr (by decide) (by decide) hn (by decide) rfl h2 h1 hE ho hT0 hl hlp h8 ht hD hb hq hres
  · rw [if_neg hb] at hres
    have hT1 := hT0.at hle.2
    have l1 : RdL (u2 a 60 4 (nI (skB B n p))) l := hl.w60 (by decide)
    refine Sp.up (d := 2) (by omega) (c_mTakes (d := 0) (p := skB B n p) hr hT1.1 hT1.2.1 hT1.2.2.1 hT1.2.2.2.1 hT1.2.2.2.2 (fun hb => ⟨fun h => absurd h (by decide), fun _ => ⟨fun _ => ⟨rfl, by decide, ?_⟩, fun h => absurd h (by decide)⟩⟩) (fun hb => ⟨fun _ => ⟨fun h => absurd rfl h, fun _ => ?_⟩, fun h => absurd rfl h⟩))
    · rw [skB_skB hpn] at hb
      rw [if_pos hb] at hres
      rw [skB_skB hpn, u2_u2]
      exact mr_step (sg := 45) (code := -2) hr (by decide) (by decide) hn (by decide) rfl h2 h1 hE ho hT0 hl hlp h8 ht hD hb hq hres
    · rw [skB_skB hpn] at hb ⊢
      rw [if_neg hb] at hres
      rw [u2_u2]
      exact hq.1 [] (skB B n p) hres hle.1 _ (mK_6 rfl) hT1 (by rw [List.append_nil]; exact l1) (by rw [u2_ne (by decide)]; exact h8)
theorem mr_prodT (hr : Rk r) (hn : n ≤ 150) {t : Nat} (h2 : mrS G r B n MX12_one t 4 1 6) (h1 : mrT G r B n MX12_product t 3 7) : mrT G r B n MX12_product (t + 1) 3 7 := by
  intro o p a l P ho hT hl hlp h8 ht hq D hD
  obtain ⟨D, rfl⟩ : ∃ D', D = D' + 1 := ⟨D - 1, by omega⟩
  have hT0 := hT
  obtain ⟨hB, g2, g4, hpn, h5⟩ := hT
  have hle := skB_le (B := B) hpn
  have hres := pE.eq_2 B n 3 o p t
  rw [if_neg (by decide), if_neg (by decide), if_neg (by decide), if_pos rfl] at hres
  change pE B n (t + 1) 3 o p = _ at hres
  have hE : ∀ (a' : IA), ¬ a' 60 5 = 0 → P a' r nK → E G MX12_product (D + 1) 0 0 4 [.ref 60, .null] [] (a', r, nK) (RN P) := fun a' h3 h4 => s_mProdT h3 h4
  refine V_X12_product_4 ⟨rfl, by decide, fun h => absurd h5 h, fun _ => ⟨rfl, by decide, Sp.up (d := 2) (by omega) (c_mTakes (d := 0) hr hB g2 g4 hpn h5 (fun hb => ⟨fun h => absurd h (by decide), fun _ => ⟨fun _ => ⟨rfl, by decide, ?_⟩, fun h => absurd h (by decide)⟩⟩) (fun hb => ⟨fun _ => ⟨rfl, by decide, ?_⟩, fun h => absurd rfl h⟩))⟩⟩
  · rw [if_pos hb] at hres
    exact mr_step (sg := 42) (code := -3) hr (by decide) (by decide) hn (by decide) rfl h2 h1 hE ho hT0 hl hlp h8 ht hD hb hq hres
  · rw [if_neg hb] at hres
    have hT1 := hT0.at hle.2
    have l1 : RdL (u2 a 60 4 (nI (skB B n p))) l := hl.w60 (by decide)
    refine Sp.up (d := 2) (by omega) (c_mTakes (d := 0) (p := skB B n p) hr hT1.1 hT1.2.1 hT1.2.2.1 hT1.2.2.2.1 hT1.2.2.2.2 (fun hb => ⟨fun h => absurd h (by decide), fun _ => ⟨fun _ => ⟨rfl, by decide, ?_⟩, fun h => absurd h (by decide)⟩⟩) (fun hb => ⟨fun _ => ⟨fun h => absurd rfl h, fun _ => ?_⟩, fun h => absurd rfl h⟩))
    · rw [skB_skB hpn] at hb
      rw [if_pos hb] at hres
      rw [skB_skB hpn, u2_u2]
      exact mr_step (sg := 47) (code := -4) hr (by decide) (by decide) hn (by decide) rfl h2 h1 hE ho hT0 hl hlp h8 ht hD hb hq hres
    · rw [skB_skB hpn] at hb ⊢
      rw [if_neg hb] at hres
      rw [u2_u2]
      exact hq.1 [] (skB B n p) hres hle.1 _ (mK_6 rfl) hT1 (by rw [List.append_nil]; exact l1) (by rw [u2_ne (by decide)]; exact h8)
end ML2
