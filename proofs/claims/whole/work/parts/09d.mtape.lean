/-! The reference: feed, fault, undo, image, restore, status, count -/
def fdB (v : Int32) (k : Nat) : Int32 := (v >>> (((24 : Int32) - 8 * (nI k - nI k / 4 * 4)) &&& 31)) &&& 255
def fdA (v1 v2 v3 v4 v5 : Int32) (k : Nat) : Int32 := if k < 4 then v1 else if k < 8 then v2 else if k < 12 then v3 else if k < 16 then v4 else v5
def FdR (a a' : IA) (t : Nat) (v1 v2 v3 v4 v5 : Int32) : Prop := (∀ q, q ≠ 60 → q ≠ 61 → a' q = a q) ∧ (∀ j, j ≠ 0 → j ≠ 1 → a' 60 j = a 60 j) ∧ a' 60 0 = 0 ∧ a' 60 1 = nI (t + 20) ∧ (∀ i, i < t → a' 61 i = a 61 i) ∧ ∀ k, k < 20 → a' 61 (t + k) = fdB (fdA v1 v2 v3 v4 v5 k) k
section MTP
variable {G : GE} {d C S : Nat} {r : RA} {t k i n : Nat} {a : IA} {x v1 v2 v3 v4 v5 : Int32}
theorem c_mFeed {P : KI} (hr : Rk r) (ht : a 60 1 = nI t) (h6 : t ≤ 600) (h1 : t + 20 ≤ 600 → ∀ a', FdR a a' t v1 v2 v3 v4 v5 → P (nI (t + 20)) a' r nK) (h2 : ¬ t + 20 ≤ 600 → P (-1) (u2 a 60 0 0) r nK) : Sp G d 0 0 MX12_feed [.ref 60, .int v1, .int v2, .int v3, .int v4, .int v5] (a, r, nK) (RI P) := by
  have loop : ∀ (u k : Nat) (h : IA), k + u = 20 → t + 20 ≤ 600 → (∀ q, q ≠ 60 → q ≠ 61 → h q = a q) → (∀ j, j ≠ 0 → j ≠ 1 → h 60 j = a 60 j) → h 60 0 = 0 → h 60 1 = nI (t + k) → (∀ i, i < t → h 61 i = a 61 i) → (∀ j, j < k → h 61 (t + j) = fdB (fdA v1 v2 v3 v4 v5 j) j) →
      E G MX12_feed d 0 0 23 [.ref 60, .int v1, .int v2, .int v3, .int v4, .int v5, .int (nI k), .null] [] (h, r, nK) (RI P) := by
    intro u
    induction u with
    | zero =>
      intro k h hk h20 g1 g2 g3 g4 g5 g6
      obtain rfl : k = 20 := by omega
      refine V_X12_feed_23 ⟨fun _ => ⟨rfl, by decide, ?_⟩, fun e => absurd (by decide) e⟩
      rw [g4]
      exact h1 h20 h ⟨g1, g2, g3, g4, g5, g6⟩
    | succ u ih =>
      intro k h hk h20 g1 g2 g3 g4 g5 g6
      have r9 : r 60 9 = .ref 61 := rf5 hr (by decide) rfl
      have vin : vp_in (nI (t + k)) 600 := vp_in_nI (by omega) (by decide)
      have le : ∀ {c : Nat}, c ≤ 20 → (nI c ≤ nI k ↔ c ≤ k) := fun hc => nI_leI (by omega) (by omega)
      have fin : ∀ (v : Int32), fdA v1 v2 v3 v4 v5 k = v → tyK 60 = (0, 11) ∧ 60 < nK ∧ ∃ q, r 60 9 = .ref q ∧ (tyK 60 = (0, 11) ∧ 60 < nK ∧ (¬ (4 : Int32) = 0 ∧ ((tyK q).1 = 1 ∧ q < nK ∧ vp_in (h 60 1) (tyK q).2 ∧ ∀ a2, a2 = u2 h q (h 60 1).toNatClampNeg ((v >>> (((24 : Int32) - ((8 : Int32) * ((nI k : Int32) - (nI k : Int32) / (4 : Int32) * (4 : Int32)))) &&& 31)) &&& 255) → (tyK 60 = (0, 11) ∧ 60 < nK ∧ (tyK 60 = (0, 11) ∧ 60 < nK ∧ ∀ a3, a3 = u2 a2 60 1 ((a2 60 1) + 1) → E G MX12_feed d 0 0 23 [.ref 60, .int v1, .int v2, .int v3, .int v4, .int v5, .int (nI k + 1), .null] [] (a3, r, nK) (RI P)))))) := by
        intro v hv
        refine ⟨rfl, by decide, 61, r9, rfl, by decide, by decide, rfl, by decide, by rw [g4]; exact vin, fun a2 q2 => ⟨rfl, by decide, rfl, by decide, fun a3 q3 => ?_⟩⟩
        rw [g4, nI_clamp (by omega)] at q2
        subst q2
        rw [u2_off 60 (by decide), g4, nI_1] at q3
        subst q3
        rw [nI_1]
        refine ih (k + 1) _ (by omega) h20 (fun q c1 c2 => by rw [u2_off q c1, u2_off q c2]; exact g1 q c1 c2) (fun j c1 c2 => by rw [u2_ne c2, u2_off 60 (by decide)]; exact g2 j c1 c2) (by rw [u2_ne (by decide), u2_off 60 (by decide)]; exact g3) (by rw [u2_eq]; rfl) (fun i hi => by rw [u2_off 61 (by decide), u2_ne (by omega)]; exact g5 i hi) (fun j hj => ?_)
        rw [u2_off 61 (by decide)]
        by_cases e : j = k
        · subst e
          rw [u2_eq, hv]
          rfl
        · rw [u2_ne (by omega)]
          exact g6 j (by omega)
      have i4 : ((4 : Int32) ≤ nI k) ↔ 4 ≤ k := le (c := 4) (by decide)
      have i8 : ((8 : Int32) ≤ nI k) ↔ 8 ≤ k := le (c := 8) (by decide)
      have i12 : ((12 : Int32) ≤ nI k) ↔ 12 ≤ k := le (c := 12) (by decide)
      have i16 : ((16 : Int32) ≤ nI k) ↔ 16 ≤ k := le (c := 16) (by decide)
      refine V_X12_feed_23 ⟨fun e => absurd ((le (c := 20) (by decide)).mp e) (by omega), fun _ => ⟨fun e4 => ⟨fun e8 => ⟨fun e12 => ⟨fun e16 => fin v5 ?_, fun e16 => fin v4 ?_⟩, fun e12 => fin v3 ?_⟩, fun e8 => fin v2 ?_⟩, fun e4 => fin v1 ?_⟩⟩
      · rw [i16] at e16; unfold fdA; rw [if_neg (by omega), if_neg (by omega), if_neg (by omega), if_neg (by omega)]
      · rw [i16] at e16; rw [i12] at e12; unfold fdA; rw [if_neg (by omega), if_neg (by omega), if_neg (by omega), if_pos (by omega)]
      · rw [i8] at e8; rw [i12] at e12; unfold fdA; rw [if_neg (by omega), if_neg (by omega), if_pos (by omega)]
      · rw [i8] at e8; rw [i4] at e4; unfold fdA; rw [if_neg (by omega), if_pos (by omega)]
      · rw [i4] at e4; unfold fdA; rw [if_pos (by omega)]
  refine V_X12_feed_0 ⟨rfl, by decide, fun a1 q1 => ⟨rfl, by decide, ?_⟩⟩
  subst q1
  have e20 : u2 a 60 0 0 60 1 + 20 = nI (t + 20) := by rw [u2_ne (by decide), ht]; exact nI_add t 20
  rw [e20]
  refine ⟨fun h => ?_, fun h => h2 (fun z => h (nI_le (b := 600) z (by decide)))⟩
  have h' : t + 20 ≤ 600 := (nI_leI (b := 600) (by omega) (by decide)).mp h
  exact loop 20 0 _ (by omega) h' (fun q c1 c2 => u2_off q c1) (fun j c1 c2 => u2_ne c1) u2_eq (by rw [u2_ne (by decide)]; exact ht) (fun i hi => by rw [u2_off 61 (by decide)]) (fun j hj => absurd hj (by omega))
theorem c_mFault {P : KI} (hp : P (a 60 3) (u2 a 60 0 0) r nK) : Sp G d 0 0 MX12_fault [.ref 60] (a, r, nK) (RI P) := by
  refine V_X12_fault_0 ⟨rfl, by decide, fun a1 q1 => ⟨rfl, by decide, ?_⟩⟩
  subst q1
  rw [u2_ne (by decide)]
  exact hp
theorem c_mStatus {P : KI} (hr : Rk r) (h1 : ∀ i, i < 3 → x = nI i → P (a 62 i) (u2 a 60 0 0) r nK) (h0 : ¬ inT x 0 2 → P (-1) (u2 a 60 0 0) r nK) : Sp G (d + 1) 0 0 MX12_status [.ref 60, .int x] (a, r, nK) (RI P) := by
  refine V_X12_status_0 ⟨rfl, by decide, fun a1 q1 => c_mIn (fun hin => ⟨fun h => absurd h (by decide), fun _ => ⟨rfl, by decide, 62, rf5 hr (by decide) rfl, rfl, by decide, ?_⟩⟩) (fun hin => ⟨fun _ => ?_, fun h => absurd rfl h⟩)⟩
  · subst q1
    obtain ⟨i, hi, e⟩ := nI_of2 (M := 2) (n := 2) (by decide) hin.1 (i_nlt.mp hin.2)
    subst e
    refine ⟨vp_in_nI (show i < 3 by omega) (by decide), ?_⟩
    rw [nI_clamp (by omega), u2_off 62 (by decide)]
    exact h1 i (by omega) rfl
  · subst q1; exact h0 hin
theorem c_mCount {P : KI} (hp : P (if x = 0 then a 60 41 else if x = 1 then a 60 1 else if x = 2 then a 60 39 else -1) (u2 a 60 0 0) r nK) : Sp G d 0 0 MX12_count [.ref 60, .int x] (a, r, nK) (RI P) := by
  refine V_X12_count_0 ⟨rfl, by decide, fun a1 q1 => ⟨fun e0 => ⟨fun e1 => ⟨fun e2 => ?_, fun e2 => ⟨rfl, by decide, ?_⟩⟩, fun e1 => ⟨rfl, by decide, ?_⟩⟩, fun e0 => ⟨rfl, by decide, ?_⟩⟩⟩
  all_goals subst q1
  · rw [if_neg e0, if_neg e1, if_neg e2] at hp; exact hp
  · rw [if_neg e0, if_neg e1, if_pos e2] at hp; rw [u2_ne (by decide)]; exact hp
  · rw [if_neg e0, if_pos e1] at hp; rw [u2_ne (by decide)]; exact hp
  · rw [if_pos e0] at hp; rw [u2_ne (by decide)]; exact hp
theorem c_mUndo {P : KI} (hr : Rk r) (hk : a 60 39 = nI k) (h16 : k ≤ 16) (h0 : k = 0 → P (-1) (u2 a 60 0 0) r nK) (h1 : 0 < k → P (nI (k - 1)) (u2 (va_up (u2 (u2 a 60 0 0) 60 39 (nI (k - 1))) 582 (fun j => if j < 42 then a (584 + 1 + (k - 1)) j else a 582 j)) 60 40 0) r nK) : Sp G (d + 1) 0 0 MX12_undo [.ref 60] (a, r, nK) (RI P) := by
  refine V_X12_undo_0 ⟨rfl, by decide, fun a1 q1 => ⟨rfl, by decide, ?_⟩⟩
  subst q1
  have e39 : u2 a 60 0 0 60 39 = nI k := by rw [u2_ne (by decide)]; exact hk
  rw [e39]
  refine ⟨fun hne => ⟨rfl, by decide, rfl, by decide, fun a2 q2 => ⟨rfl, by decide, 584, rf5 hr (by decide) rfl, rfl, by decide, rfl, by decide, ?_⟩⟩, fun he => h0 ((nI_eq (a := k) (b := 0) (by omega) (by decide)).mp he)⟩
  obtain ⟨k, rfl⟩ : ∃ k', k = k' + 1 := ⟨k - 1, by
    have : k ≠ 0 := fun e => hne (by rw [e]; rfl)
    omega⟩
  rw [nI_pred] at q2
  subst q2
  rw [u2_eq, nI_clamp (by omega)]
  refine ⟨vp_in_nI (show k < 16 by omega) (by decide), rfl, by decide, 582, rf5 hr (by decide) rfl, c_mCopies (tyR_before k (by omega)) rfl (by show _ < 878; omega) (by decide) (by omega) ⟨rfl, by decide, fun a8 q8 => ⟨rfl, by decide, ?_⟩⟩⟩
  subst q8
  have e : va_up (u2 (u2 a 60 0 0) 60 39 (nI k)) 582 (fun j => if j < 42 then u2 (u2 a 60 0 0) 60 39 (nI k) (584 + 1 + k) j else u2 (u2 a 60 0 0) 60 39 (nI k) 582 j) = va_up (u2 (u2 a 60 0 0) 60 39 (nI k)) 582 (fun j => if j < 42 then a (584 + 1 + k) j else a 582 j) := by
    congr 1
    funext j
    rw [u2_off _ (by omega), u2_off _ (by omega), u2_off 582 (by decide), u2_off 582 (by decide)]
  rw [e]
  have e2 : u2 (va_up (u2 (u2 a 60 0 0) 60 39 (nI k)) 582 (fun j => if j < 42 then a (584 + 1 + k) j else a 582 j)) 60 40 0 60 39 = nI k := by rw [u2_ne (by decide), va_up_ne _ _ (by decide), u2_eq]
  rw [e2]
  exact h1 (by omega)
end MTP
