/-! The reference: queries of the town -/
theorem inT_S {x : Int32} {n : Nat} (hn : n < 2 ^ 31) : inT x 0 (nI n - 1) ↔ ∃ s, s < n ∧ x = nI s := by
  constructor
  · intro h
    exact nIdx hn (i_nlt.mp h.1) (i_nlt.mp h.2)
  · rintro ⟨s, hs, rfl⟩
    obtain ⟨n, rfl⟩ : ∃ m, n = m + 1 := ⟨n - 1, by omega⟩
    rw [nI_pred]
    exact ⟨nI_pos (by omega), fun h => absurd (i_nle.mpr h) (fun z => z (nI_le (by omega) (by omega)))⟩
/-- the reference's town, law and lives -/
def MqH (a : IA) (nc ns ng : Nat) (lw : List Int32) : Prop := MtC a nc ns ng ∧ RLw a lw ∧ lw.length ≤ 150 ∧ (lw = [] ∨ dep lw 0 = some 1) ∧ wfM ns (a 582) ∧ ∀ s, s < ns → ∃ h, 1 ≤ h ∧ h ≤ 20 ∧ a (96 + 1 + s) 2 = nI h
theorem MqH.z {a : IA} {nc ns ng : Nat} {lw : List Int32} (h : MqH a nc ns ng lw) : MqH (u2 a 60 0 0) nc ns ng lw := by
  obtain ⟨h1, h2, h3, h4, h5, h6⟩ := h
  exact ⟨h1.row (u2_off 64 (by decide)) (fun s hs => u2_off _ (by omega)), h2.row h3 (u2_ne (by decide)) (fun q c1 c2 => u2_off q (by omega)), h3, h4, by rw [u2_off 582 (by decide)]; exact h5, fun s hs => by rw [u2_off _ (by omega)]; exact h6 s hs⟩
def mHouse (a : IA) (s : Nat) (k how : Int32) : Int32 :=
  if ¬ how = 0 ∧ ¬ k - k / 2 * 2 = how - how / 2 * 2 then 0 else
  if a (96 + 1 + s) 2 < (if how = 0 then k else if how = 1 then (k + 1) / 2 else k / 2) then 0 else (if how = 0 then k else if how = 1 then (k + 1) / 2 else k / 2)
def mHow (a : IA) (s : Nat) : Int32 := if a 582 s = -1 then 0 else if a 582 (8 + s) = 1 then 1 else 2
def mLet (a : IA) (s : Nat) (k : Int32) : Int32 :=
  if mHouse a s k (mHow a s) ≤ 0 then (if a 582 s = -1 then -1 else if mHouse a (a 582 s).toNatClampNeg k (mHow a (a 582 s).toNatClampNeg) ≤ 0 then -1 else 100 * a 582 s + mHouse a (a 582 s).toNatClampNeg k (mHow a (a 582 s).toNatClampNeg))
  else 100 * nI s + mHouse a s k (mHow a s)
def mNumBy (h how : Int32) : Int32 := if how = 0 then h else if how = 1 then 2 * h - 1 else 2 * h
def mNumOf (a : IA) (s : Nat) : Int32 := mNumBy (a (96 + 1 + s) 2) (mHow a s)
def mLastOf (a : IA) (s : Nat) : Int32 := if a 582 s = -1 then mNumOf a s else if mNumOf a s ≤ mNumOf a (a 582 s).toNatClampNeg then mNumOf a (a 582 s).toNatClampNeg else mNumOf a s
def mMis (a : IA) (s : Nat) : Nat → Nat → Int32 → Int32
  | 0, _, c => c
  | n + 1, k, c => mMis a s n (k + 1) (c + if mLet a s (nI k) = -1 then 1 else 0)
def mCoup (g : Nat → Int32) (ns : Nat) : Int32 := sI (fun s => if g s ≤ nI s then 0 else 1) ns
section MSQ
variable {G : GE} {d C S : Nat} {a : IA} {r : RA} {nc ns ng s q : Nat} {lw : List Int32} {x y k : Int32}
theorem c_mIsStr {P : KI} (hr : Rk r) (h1 : a 64 1 = nI ns) (h8 : ns ≤ 8) (hy : ∀ s, s < ns → x = nI s → P 1 a r nK) (hn : (¬ ∃ s, s < ns ∧ x = nI s) → P 0 a r nK) : Sp G (d + 1) 0 0 MX12_isStreet [.ref 60, .int x] (a, r, nK) (RI P) := by
  refine V_X12_isStreet_0 ⟨rfl, by decide, 64, rf5 hr (by decide) rfl, rfl, by decide, vp_in_nI (show 1 < 8 by decide) (by decide), ?_⟩
  rw [z1, h1]
  refine c_mIn (fun h => ⟨bz_1, ?_⟩) (fun h => ⟨bz_0, hn (fun e => h ((inT_S (by omega)).mpr e))⟩)
  obtain ⟨s, hs, e⟩ := (inT_S (by omega)).mp h
  exact hy s hs e
theorem c_mIsCor {P : KI} (hr : Rk r) (h1 : a 64 0 = nI nc) (h8 : nc ≤ 10) (hy : ∀ s, s < nc → x = nI s → P 1 a r nK) (hn : (¬ ∃ s, s < nc ∧ x = nI s) → P 0 a r nK) : Sp G (d + 1) 0 0 MX12_isCorner [.ref 60, .int x] (a, r, nK) (RI P) := by
  refine V_X12_isCorner_0 ⟨rfl, by decide, 64, rf5 hr (by decide) rfl, rfl, by decide, vp_in_nI (show 0 < 8 by decide) (by decide), ?_⟩
  rw [z0, h1]
  refine c_mIn (fun h => ⟨bz_1, ?_⟩) (fun h => ⟨bz_0, hn (fun e => h ((inT_S (by omega)).mpr e))⟩)
  obtain ⟨s, hs, e⟩ := (inT_S (by omega)).mp h
  exact hy s hs e
theorem c_mHow {P : KI} (hr : Rk r) (hs : s < 8) (hp : P (mHow a s) a r nK) : Sp G (d + 1) 0 0 MX12_howNow [.ref 60, .int (nI s)] (a, r, nK) (RI P) := by
  have r33 : r 60 33 = .ref 582 := rf5 hr (by decide) rfl
  unfold mHow at hp
  refine V_X12_howNow_0 ⟨rfl, by decide, 582, r33, c_mMate rfl (by decide) (by omega) ⟨fun h => ⟨rfl, by decide, 582, r33, ?_⟩, fun h => ?_⟩⟩
  · rw [if_neg h] at hp
    rw [o8, nI_clamp (by omega)]
    refine ⟨rfl, by decide, v42 (by omega), fun h2 => ?_, fun h2 => ?_⟩
    · rw [if_neg h2] at hp; exact hp
    · rw [if_pos h2] at hp; exact hp
  · rw [if_pos h] at hp; exact hp
theorem c_mHouse {P : KI} (hr : Rk r) (hs : s < 8) (hp : P (mHouse a s k x) a r nK) : Sp G d 0 0 MX12_houseOf [.ref 60, .int (nI s), .int k, .int x] (a, r, nK) (RI P) := by
  have r16 : r 60 16 = .ref 96 := rf5 hr (by decide) rfl
  have is : (nI s).toNatClampNeg = s := nI_clamp (by omega)
  have ty := tyR_street s hs
  have bd : 96 + 1 + s < nK := by show _ < 878; omega
  have v8 : vp_in (nI s) 8 := vp_in_nI hs (by decide)
  have v2 : vp_in 2 4 := vp_in_nI (show 2 < 4 by decide) (by decide)
  unfold mHouse at hp
  have go : P (if a (96 + 1 + s) 2 < (if x = 0 then k else if x = 1 then (k + 1) / 2 else k / 2) then 0 else (if x = 0 then k else if x = 1 then (k + 1) / 2 else k / 2)) a r nK → E G MX12_houseOf d 0 0 15 [.ref 60, .int (nI s), .int k, .int x, .null] [] (a, r, nK) (RI P) := by
    intro hp
    refine V_X12_houseOf_15 ⟨fun h0 => ⟨fun h1 => ⟨by decide, rfl, by decide, 96, r16, rfl, by decide, v8, ?_⟩, fun h1 => ⟨by decide, rfl, by decide, 96, r16, rfl, by decide, v8, ?_⟩⟩, fun h0 => ⟨rfl, by decide, 96, r16, rfl, by decide, v8, ?_⟩⟩
    · rw [is, z2]
      rw [if_neg h0, if_neg h1] at hp
      refine row3 ty bd v2 ⟨fun h => ?_, fun h => ?_⟩
      · rw [if_pos h] at hp; exact hp
      · rw [if_neg h] at hp; exact hp
    · rw [is, z2]
      rw [if_neg h0, if_pos h1] at hp
      refine row3 ty bd v2 ⟨fun h => ?_, fun h => ?_⟩
      · rw [if_pos h] at hp; exact hp
      · rw [if_neg h] at hp; exact hp
    · rw [is, z2]
      rw [if_pos h0] at hp
      refine row3 ty bd v2 ⟨fun h => ?_, fun h => ?_⟩
      · rw [if_pos h] at hp; exact hp
      · rw [if_neg h] at hp; exact hp
  refine V_X12_houseOf_0 ⟨fun h0 => go ?_, fun h0 => ⟨by decide, by decide, fun h1 => go ?_, fun h1 => ?_⟩⟩
  · rw [if_neg (fun e => e.1 h0)] at hp; exact hp
  · rw [if_neg (fun e => e.2 h1)] at hp; exact hp
  · rw [if_pos ⟨h0, h1⟩] at hp; exact hp
theorem c_mLetTo {P : KI} (hr : Rk r) (hw : wfM ns (a 582)) (h8 : ns ≤ 8) (hs : s < ns) (hp : P (mLet a s k) a r nK) : Sp G (d + 2) 0 0 MX12_letterTo [.ref 60, .int (nI s), .int k] (a, r, nK) (RI P) := by
  have r33 : r 60 33 = .ref 582 := rf5 hr (by decide) rfl
  unfold mLet at hp
  refine V_X12_letterTo_0 ⟨rfl, by decide, 582, r33, c_mMate rfl (by decide) (by omega) ⟨rfl, by decide, c_mHow hr (by omega) ⟨rfl, by decide, c_mHouse hr (by omega) ⟨fun hh => ⟨fun hm => ?_, fun hm => ⟨fun _ => ?_, fun h => absurd (by decide) h⟩⟩, fun hh => ?_⟩⟩⟩⟩
  · rw [if_pos hh, if_neg hm] at hp
    rcases hw s hs with h0 | ⟨m, hm', hne, e1, e2⟩
    · exact absurd h0 hm
    · rw [e1, nI_clamp (by omega)] at hp
      rw [e1]
      refine ⟨rfl, by decide, c_mHow hr (by omega) ⟨rfl, by decide, c_mHouse hr (by omega) ⟨fun h2 => ?_, fun h2 => ?_⟩⟩⟩
      · rw [if_pos h2] at hp; exact hp
      · rw [if_neg h2] at hp; exact hp
  · rw [if_pos hh, if_pos hm] at hp; exact hp
  · rw [if_neg hh] at hp; exact hp
theorem c_mNumBy {P : KI} (hp : P (mNumBy x y) a r nK) : Sp G d 0 0 MX12_numberBy [.int x, .int y] (a, r, nK) (RI P) := by
  unfold mNumBy at hp
  refine V_X12_numberBy_0 ⟨fun h0 => ⟨fun h1 => ?_, fun h1 => ?_⟩, fun h0 => ?_⟩
  · rw [if_neg h0, if_neg h1] at hp; exact hp
  · rw [if_neg h0, if_pos h1] at hp; exact hp
  · rw [if_pos h0] at hp; exact hp
theorem c_mLastOf {P : KI} (hr : Rk r) (hw : wfM ns (a 582)) (h8 : ns ≤ 8) (hs : s < ns) (hp : P (mLastOf a s) a r nK) : Sp G (d + 2) 0 0 MX12_lastOf [.ref 60, .int (nI s)] (a, r, nK) (RI P) := by
  have r33 : r 60 33 = .ref 582 := rf5 hr (by decide) rfl
  have r16 : r 60 16 = .ref 96 := rf5 hr (by decide) rfl
  have v2 : vp_in 2 4 := vp_in_nI (show 2 < 4 by decide) (by decide)
  unfold mLastOf mNumOf at hp
  refine V_X12_lastOf_0 ⟨rfl, by decide, 582, r33, c_mMate rfl (by decide) (by omega) ⟨rfl, by decide, 96, r16, rfl, by decide, vp_in_nI (show s < 8 by omega) (by decide), ?_⟩⟩
  rw [nI_clamp (show s < 2 ^ 31 by omega), z2]
  refine row3 (tyR_street s (by omega)) (by show _ < 878; omega) v2 ⟨rfl, by decide, c_mHow hr (by omega) (c_mNumBy ⟨fun hm => ?_, fun hm => ?_⟩)⟩
  · rw [if_neg hm] at hp
    rcases hw s hs with h0 | ⟨m, hm', hne, e1, e2⟩
    · exact absurd h0 hm
    · rw [e1, nI_clamp (by omega)] at hp
      rw [e1]
      refine ⟨rfl, by decide, 96, r16, rfl, by decide, vp_in_nI (show m < 8 by omega) (by decide), ?_⟩
      rw [nI_clamp (show m < 2 ^ 31 by omega)]
      exact row3 (tyR_street m (by omega)) (by show _ < 878; omega) v2 ⟨rfl, by decide, c_mHow hr (by omega) (c_mNumBy (c_mMore hp))⟩
  · rw [if_pos hm] at hp; exact hp
theorem c_mCoup {P : KI} (hr : Rk r) (hq : tyK q = (1, 42)) (hN : q < nK) (h8 : ns ≤ 8) (h1 : a 64 1 = nI ns) (hp : P (mCoup (a q) ns) a r nK) : Sp G (d + 1) 0 0 MX12_couplesIn [.ref 60, .ref q] (a, r, nK) (RI P) := by
  have loop : ∀ (u k : Nat), k + u = ns → E G MX12_couplesIn (d + 1) 0 0 4 [.ref 60, .ref q, .int (sI (fun s => if a q s ≤ nI s then 0 else 1) k), .int (nI k)] [] (a, r, nK) (RI P) := by
    intro u
    induction u with
    | zero =>
      intro k hk
      obtain rfl : k = ns := by omega
      refine V_X12_couplesIn_4 ⟨rfl, by decide, 64, rf5 hr (by decide) rfl, rfl, by decide, vp_in_nI (show 1 < 8 by decide) (by decide), fun _ => hp, fun h => absurd ?_ h⟩
      rw [z1, h1]; exact nI_le (Nat.le_refl _) (by omega)
    | succ u ih =>
      intro k hk
      refine V_X12_couplesIn_4 ⟨rfl, by decide, 64, rf5 hr (by decide) rfl, rfl, by decide, vp_in_nI (show 1 < 8 by decide) (by decide), fun h => absurd ?_ (show ¬ ns ≤ k by omega), fun _ => c_mMate hq hN (by omega) ⟨fun h => ?_, fun h => ?_⟩⟩
      · rw [z1, h1] at h; exact (nI_leI (by omega) (by omega)).mp h
      · have := ih (k + 1) (by omega)
        rw [sI, if_pos h, ← nI_1] at this
        exact this
      · have := ih (k + 1) (by omega)
        rw [sI, if_neg h, ← nI_1] at this
        exact this
  exact V_X12_couplesIn_0 (loop ns 0 (by omega))
theorem c_mSumOf {P : KI} {f : Nat} (hr : Rk r) (hq : tyK q = (1, 42)) (hN : q < nK) (h8 : ns ≤ 8) (hf : f + 8 ≤ 42) (h1 : a 64 1 = nI ns) (hp : P (sI (fun s => a q (f + s)) ns) a r nK) : Sp G d 0 0 MX12_sumOf [.ref 60, .ref q, .int (nI f)] (a, r, nK) (RI P) := by
  have loop : ∀ (u k : Nat), k + u = ns → E G MX12_sumOf d 0 0 5 [.ref 60, .ref q, .int (nI f), .int (sI (fun s => a q (f + s)) k), .int (nI k)] [] (a, r, nK) (RI P) := by
    intro u
    induction u with
    | zero =>
      intro k hk
      obtain rfl : k = ns := by omega
      refine V_X12_sumOf_5 ⟨rfl, by decide, 64, rf5 hr (by decide) rfl, rfl, by decide, vp_in_nI (show 1 < 8 by decide) (by decide), fun _ => hp, fun h => absurd ?_ h⟩
      rw [z1, h1]; exact nI_le (Nat.le_refl _) (by omega)
    | succ u ih =>
      intro k hk
      refine V_X12_sumOf_5 ⟨rfl, by decide, 64, rf5 hr (by decide) rfl, rfl, by decide, vp_in_nI (show 1 < 8 by decide) (by decide), fun h => absurd ?_ (show ¬ ns ≤ k by omega), fun _ => ?_⟩
      · rw [z1, h1] at h; exact (nI_leI (by omega) (by omega)).mp h
      · rw [nI_add, nI_clamp (by omega)]
        have := ih (k + 1) (by omega)
        rw [sI, ← nI_1] at this
        exact ⟨by rw [hq], hN, by rw [hq]; exact v42 (by omega), this⟩
  exact V_X12_sumOf_0 (loop ns 0 (by omega))
end MSQ
