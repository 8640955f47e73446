/-! The reference: the law's value -/
/-- the law that stands -/
def RLw (a : IA) (l : List Int32) : Prop := a 60 23 = nI l.length ∧ ∀ (i : Nat) (v : Int32), l[i]? = some v → a (159 + 1 + i) 0 = (rcode v).1 ∧ a (159 + 1 + i) 1 = (rcode v).2
theorem div_m1 (u : Int32) : u / -1 = -u := by
  apply Int32.toInt_inj.1
  have : (-1 : Int32).toInt = -1 := by decide
  rw [Int32.toInt_div, this, Int32.toInt_neg, Int.tdiv_neg, Int.tdiv_one]
theorem op_dom {w : Int32} (h : isOp w = true) : w = -1 ∨ w = -2 ∨ w = -3 ∨ w = -4 ∨ w = -5 ∨ w = -6 := by
  unfold isOp at h
  rw [Bool.and_eq_true, decide_eq_true_eq, decide_eq_true_eq, Int32.le_iff_toInt_le, Int32.le_iff_toInt_le] at h
  have h1 : (-1 : Int32).toInt = -1 := by decide
  have h6 : (-6 : Int32).toInt = -6 := by decide
  have : w.toInt = -1 ∨ w.toInt = -2 ∨ w.toInt = -3 ∨ w.toInt = -4 ∨ w.toInt = -5 ∨ w.toInt = -6 := by omega
  rcases this with h | h | h | h | h | h
  · left; exact Int32.toInt_inj.1 h
  · right; left; exact Int32.toInt_inj.1 h
  · right; right; left; exact Int32.toInt_inj.1 h
  · right; right; right; left; exact Int32.toInt_inj.1 h
  · right; right; right; right; left; exact Int32.toInt_inj.1 h
  · right; right; right; right; right; exact Int32.toInt_inj.1 h
theorem lt_or_le (u v : Int32) : (v < u ∧ ¬ u ≤ v) ∨ (u ≤ v ∧ ¬ v < u) := by
  by_cases h : u ≤ v
  · exact Or.inr ⟨h, i_nlt.mpr h⟩
  · exact Or.inl ⟨i_nle.mp h, h⟩
theorem less_j (u v : Int32) : (if v ≤ u then v else u) = (if v < u then v else u) := by
  by_cases h : v ≤ u
  · by_cases h2 : v < u
    · rw [if_pos h, if_pos h2]
    · rw [if_pos h, if_neg h2]
      exact Int32.le_antisymm h (i_nlt.mp h2)
  · rw [if_neg h, if_neg (fun h2 => h (Int32.le_of_lt h2))]
theorem more_j (u v : Int32) : (if u ≤ v then v else u) = (if u < v then v else u) := by
  by_cases h : u ≤ v
  · by_cases h2 : u < v
    · rw [if_pos h, if_pos h2]
    · rw [if_pos h, if_neg h2]
      exact Int32.le_antisymm (i_nlt.mp h2) h
  · rw [if_neg h, if_neg (fun h2 => h (Int32.le_of_lt h2))]
section MBL
variable {G : GE} {d C S : Nat} {a : IA} {r : RA} {l : List Int32} {w u v : Int32} {fc : Int32 → Int32}
theorem c_mBy {P : KI} (hw : isOp w = true) (hp : P (lwJoin w u v) a r nK) : Sp G (d + 1) 0 0 MX12_by [.int (rcode w).1, .int u, .int v] (a, r, nK) (RI P) := by
  rcases op_dom hw with rfl | rfl | rfl | rfl | rfl | rfl
  · exact V_X12_by_0 ⟨fun _ => hp, fun h => absurd rfl h⟩
  · exact V_X12_by_0 ⟨fun h => absurd h (by decide), fun _ => ⟨fun _ => hp, fun h => absurd rfl h⟩⟩
  · exact V_X12_by_0 ⟨fun h => absurd h (by decide), fun _ => ⟨fun h => absurd h (by decide), fun _ => ⟨fun _ => hp, fun h => absurd rfl h⟩⟩⟩
  · have e : lwJoin (-4) u v = if v = 0 then 0 else u / v := rfl
    rw [e] at hp
    refine V_X12_by_0 ⟨fun h => absurd h (by decide), fun _ => ⟨fun h => absurd h (by decide), fun _ => ⟨fun h => absurd h (by decide), fun _ => ⟨fun _ => ⟨fun h => ⟨fun h1 => ⟨h, ?_⟩, fun h1 => ?_⟩, fun h => ?_⟩, fun h => absurd rfl h⟩⟩⟩⟩
    · rw [if_neg h] at hp; exact hp
    · rw [if_neg h, h1, div_m1] at hp; exact hp
    · rw [if_pos h] at hp; exact hp
  · have e : lwJoin (-5) u v = if v < u then v else u := rfl
    rw [e, ← less_j] at hp
    exact V_X12_by_0 ⟨fun h => absurd h (by decide), fun _ => ⟨fun h => absurd h (by decide), fun _ => ⟨fun h => absurd h (by decide), fun _ => ⟨fun h => absurd h (by decide), fun _ => ⟨fun _ => c_mLess hp, fun h => absurd rfl h⟩⟩⟩⟩⟩
  · have e : lwJoin (-6) u v = if u < v then v else u := rfl
    rw [e, ← more_j] at hp
    exact V_X12_by_0 ⟨fun h => absurd h (by decide), fun _ => ⟨fun h => absurd h (by decide), fun _ => ⟨fun h => absurd h (by decide), fun _ => ⟨fun h => absurd h (by decide), fun _ => ⟨fun h => absurd h (by decide), fun _ => c_mMore hp⟩⟩⟩⟩⟩
theorem rc_op (h : isOp w = true) : 2 ≤ (rcode w).1 := by
  rcases op_dom h with rfl | rfl | rfl | rfl | rfl | rfl <;> decide
theorem rc_num (h : 0 ≤ w) : rcode w = (0, w) := by unfold rcode; rw [if_pos h]
theorem rc_fact (h0 : ¬ 0 ≤ w) (h : isOp w = false) : ∃ k, k < 9 ∧ rcode w = (1, nI k) := by
  have n : ∀ x : Int32, isOp x = true → ¬ w = x := fun x hx e => by rw [e, hx] at h; cases h
  unfold rcode
  rw [if_neg h0, if_neg (n _ (by decide)), if_neg (n _ (by decide)), if_neg (n _ (by decide)), if_neg (n _ (by decide)), if_neg (n _ (by decide)), if_neg (n _ (by decide))]
  split
  · exact ⟨0, by decide, rfl⟩
  split
  · exact ⟨1, by decide, rfl⟩
  split
  · exact ⟨2, by decide, rfl⟩
  split
  · exact ⟨3, by decide, rfl⟩
  split
  · exact ⟨4, by decide, rfl⟩
  split
  · exact ⟨5, by decide, rfl⟩
  split
  · exact ⟨6, by decide, rfl⟩
  split
  · exact ⟨7, by decide, rfl⟩
  · exact ⟨8, by decide, rfl⟩
theorem l_mByLaw {P : KI} (hr : Rk r) (hl : RLw a l) (h150 : l.length ≤ 150) (hne : l ≠ []) (hfc : ∀ w k, isOp w = false → ¬ 0 ≤ w → k < 9 → rcode w = (1, nI k) → a 500 k = fc w) (hp : ∀ h', P (lwVal fc l) (va_up a 499 h') r nK) :
    ∀ (m i : Nat) (st : List Int32) (h : Nat → Int32), i + m = l.length → st.length ≤ i → stOK h st → dep (l.drop i) st.length = some 1 → evL fc l [] = evL fc (l.drop i) st →
      E G MX12_byLaw (d + 2) C S 13 [.ref 60, .int (nI st.length), .int (nI i)] [] (va_up a 499 h, r, nK) (RI P) := by
  have eo : ∀ (h : Nat → Int32) (q : Nat), q ≠ 499 → va_up a 499 h q = a q := fun h q hq => va_up_ne _ _ hq
  have r29 : r 60 29 = .ref 499 := rf5 hr (by decide) rfl
  have r25 : r 60 25 = .ref 159 := rf5 hr (by decide) rfl
  have r30 : r 60 30 = .ref 500 := rf5 hr (by decide) rfl
  intro m
  induction m with
  | zero =>
    intro i st h hi hsi hst hdep hev
    rw [List.drop_eq_nil_of_le (by omega), dep] at hdep
    rw [List.drop_eq_nil_of_le (by omega), evL] at hev
    have hs1 : st.length = 1 := Option.some.inj hdep
    obtain ⟨v, rfl⟩ : ∃ v, st = [v] := List.length_eq_one_iff.mp hs1
    refine V_X12_byLaw_13 ⟨rfl, by decide, fun _ => ⟨rfl, by decide, 499, r29, rfl, by decide, vp_in_nI (show 0 < 160 by decide) (by decide), ?_⟩, fun h0 => absurd (by rw [eo h 60 (by decide), hl.1]; exact nI_le (by omega) (by omega)) h0⟩
    rw [va_up_self, z0]
    have e0 : h 0 = v := stOK_top hst
    have := hp h
    unfold lwVal at this
    rw [hev] at this
    rw [e0]
    exact this
  | succ m ih =>
    intro i st h hi hsi hst hdep hev
    have hlt : i < l.length := by omega
    have hd0 : l.drop i = l[i] :: l.drop (i + 1) := List.drop_eq_getElem_cons hlt
    have hw := hl.2 i _ (List.getElem?_eq_getElem hlt)
    rw [hd0] at hdep hev
    generalize l[i] = w at hw hdep hev
    have hin : vp_in (nI i) 160 := vp_in_nI (by omega) (by decide)
    have ty := tyR_law i (by omega)
    have bd : 159 + 1 + i < nK := by show _ < 878; omega
    have ii : (nI i).toNatClampNeg = i := nI_clamp (by omega)
    refine V_X12_byLaw_13 ⟨rfl, by decide, fun h0 => absurd h0 (by rw [eo h 60 (by decide), hl.1]; exact nI_ge (by omega) (by omega)), fun h0 => ⟨rfl, by decide, 159, r25, rfl, by decide, hin, ?_⟩⟩
    simp only [z0, z1, ii]
    have ew0 : va_up a 499 h (159 + 1 + i) 0 = (rcode w).1 := by rw [eo h (159 + 1 + i) (by omega), hw.1]
    rw [ew0]
    have v0 : vp_in 0 2 := vp_in_nI (show 0 < 2 by decide) (by decide)
    have v1 : vp_in 1 2 := vp_in_nI (show 1 < 2 by decide) (by decide)
    have push : isOp w = false → ∀ x, (if 0 ≤ w then w else fc w) = x → E G MX12_byLaw (d + 2) C S 13 [.ref 60, .int (nI st.length + 1), .int (nI i + 1)] [] (u2 (va_up a 499 h) 499 st.length x, r, nK) (RI P) := fun ho x hx => by
      rw [u2_va, nI_1, nI_1]
      have := ih (i + 1) (x :: st) (upd h st.length x) (by omega) (by simp; omega) (stOK_push x hst) (by rw [dep_cons ho] at hdep; simpa using hdep) (by rw [hev, evL]; unfold evS; rw [if_neg (by rw [ho]; decide), hx])
      simpa using this
    have st160 : st.length < 160 := by omega
    have is : (nI st.length).toNatClampNeg = st.length := nI_clamp (by omega)
    refine row3 ty bd v0 ⟨fun h2 => ?_, fun h2 => ⟨rfl, by decide, 499, r29, rfl, by decide, 159, r25, rfl, by decide, hin, row3 ty bd v0 ⟨fun hne0 => ?_, fun he0 => ?_⟩⟩⟩
    · -- an operator
      have ho : isOp w = true := by
        cases ho : isOp w with
        | true => rfl
        | false =>
          by_cases h0 : 0 ≤ w
          · rw [rc_num h0] at h2; exact absurd h2 (show ¬ (2 : Int32) ≤ 0 by decide)
          · obtain ⟨k, _, hk⟩ := rc_fact h0 ho
            rw [hk] at h2; exact absurd h2 (show ¬ (2 : Int32) ≤ 1 by decide)
      rw [dep] at hdep
      unfold dpS at hdep
      rw [if_pos ho] at hdep
      obtain ⟨v, u, st', rfl⟩ : ∃ v u st', st = v :: u :: st' := by
        rcases st with _ | ⟨v, _ | ⟨u, st'⟩⟩
        · cases hdep
        · cases hdep
        · exact ⟨v, u, st', rfl⟩
      have hL : (v :: u :: st').length = st'.length + 2 := rfl
      rw [hL] at hdep hsi st160 ⊢
      have e1 : nI (st'.length + 2) + -1 = nI (st'.length + 1) := nI_m1 _
      have e2 : nI (st'.length + 1) - 1 = nI st'.length := nI_pred _
      rw [e1, e2, nI_clamp (show st'.length < 2 ^ 31 by omega), nI_clamp (show st'.length + 1 < 2 ^ 31 by omega)]
      have hv := stOK_top hst
      have hu := stOK_top (stOK_pop hst)
      have hv : h (st'.length + 1) = v := hv
      refine ⟨rfl, by decide, 499, r29, rfl, by decide, 159, r25, rfl, by decide, hin, row3 ty bd v0 ⟨rfl, by decide, 499, r29, rfl, by decide, vp_in_nI (show st'.length < 160 by omega) (by decide), rfl, by decide, 499, r29, rfl, by decide, vp_in_nI (show st'.length + 1 < 160 by omega) (by decide), ?_⟩⟩
      rw [va_up_self, hu, hv, ew0]
      refine c_mBy ho ⟨rfl, by decide, vp_in_nI (show st'.length < 160 by omega) (by decide), fun a11 h11 => ?_⟩
      rw [u2_va] at h11
      subst h11
      rw [nI_1]
      have hst2 := stOK_push (lwJoin w u v) (stOK_pop (stOK_pop hst))
      have := ih (i + 1) (lwJoin w u v :: st') (upd h st'.length (lwJoin w u v)) (by omega) (by simp; omega) hst2 (by simpa using hdep) (by rw [hev, evL]; unfold evS; rw [if_pos ho])
      simpa using this
    · -- a fact
      have hn0 : ¬ 0 ≤ w := fun h0 => hne0 (by rw [ew0, rc_num h0])
      have ho : isOp w = false := by
        cases ho : isOp w with
        | false => rfl
        | true => exact absurd (rc_op ho) h2
      obtain ⟨k, hk9, hk⟩ := rc_fact hn0 ho
      have hk2 : a (159 + 1 + i) 1 = nI k := by rw [hw.2, hk]
      refine ⟨rfl, by decide, 500, r30, rfl, by decide, 159, r25, rfl, by decide, hin, row3 ty bd v1 ⟨rfl, by decide, by rw [eo h _ (by omega), hk2]; exact vp_in_nI (show k < 9 by omega) (by decide), rfl, by decide, vp_in_nI st160 (by decide), fun a16 h16 => ?_⟩⟩
      rw [eo h _ (show 159 + 1 + i ≠ 499 by omega), hk2, is, nI_clamp (by omega), eo h 500 (by decide)] at h16
      subst h16
      exact push ho _ (by rw [if_neg hn0]; exact (hfc w k ho hn0 hk9 hk).symm)
    · -- a number
      have ho : isOp w = false := by
        cases ho : isOp w with
        | false => rfl
        | true => exact absurd (rc_op ho) h2
      have h0 : 0 ≤ w := by
        by_cases h0 : 0 ≤ w
        · exact h0
        · obtain ⟨k, _, hk⟩ := rc_fact h0 ho
          rw [ew0, hk] at he0; exact absurd he0 (show ¬ (1 : Int32) = 0 by decide)
      refine ⟨rfl, by decide, 159, r25, rfl, by decide, hin, row3 ty bd v1 ⟨rfl, by decide, vp_in_nI st160 (by decide), fun a18 h18 => ?_⟩⟩
      rw [eo h _ (show 159 + 1 + i ≠ 499 by omega), hw.2, rc_num h0, is] at h18
      subst h18
      exact push ho _ (by rw [if_pos h0])
theorem c_mByLaw {P : KI} (hr : Rk r) (hl : RLw a l) (h150 : l.length ≤ 150) (hd : l = [] ∨ dep l 0 = some 1) (hfc : ∀ w k, isOp w = false → ¬ 0 ≤ w → k < 9 → rcode w = (1, nI k) → a 500 k = fc w) (hp : ∀ h', P (lwVal fc l) (va_up a 499 h') r nK) :
    Sp G (d + 2) 0 0 MX12_byLaw [.ref 60] (a, r, nK) (RI P) := by
  refine V_X12_byLaw_0 ⟨rfl, by decide, fun h => ?_, fun h => ?_⟩
  · have hne : l ≠ [] := fun e => h (by rw [hl.1, e]; rfl)
    have hd : dep l 0 = some 1 := hd.resolve_left hne
    have := l_mByLaw (G := G) (d := d) (C := 0) (S := 0) (P := P) hr hl h150 hne hfc hp l.length 0 [] (a 499) (by omega) (Nat.zero_le _) (fun i v hi => by simp at hi) hd rfl
    rw [show va_up a 499 (a 499) = a from up_same a 499] at this
    exact this
  · have e : l = [] := by
      rw [hl.1] at h
      exact List.eq_nil_of_length_eq_zero ((nI_eq (b := 0) (by omega) (by decide)).mp h)
    subst e
    have := hp (a 499)
    rw [show va_up a 499 (a 499) = a from up_same a 499] at this
    exact this
end MBL
