/-! The reference: told, street, likes, banns, number, letter, last, missing -/
def mToldV (a : IA) (ns : Nat) (w : Int32) : Int32 := if w = 0 then a 64 0 else if w = 1 then a 64 1 else if w = 2 then a 64 2 else if w = 3 then a 582 40 else if w = 4 then mCoup (a 582) ns else if w = 5 then sI (fun s => a 582 (24 + s)) ns else if w = 6 then sI (fun s => a 582 (32 + s)) ns else if w = 7 then a 60 38 else if w = 8 then a 60 40 else a 582 41
def mStrV (a : IA) (s : Nat) (w : Int32) : Int32 := if w = 0 then a (96 + 1 + s) 0 else if w = 1 then a (96 + 1 + s) 1 else if w = 2 then a (96 + 1 + s) 2 else if w = 3 then a 582 (24 + s) else if w = 4 then mLen a s else if w = 5 then a 582 s else if w = 6 then (if a 582 s = -1 then 0 else a 582 (8 + s)) else if w = 7 then a 582 (16 + s) else a 582 (32 + s)
section MPQ
variable {G : GE} {d C S : Nat} {a : IA} {r : RA} {nc ns ng s q : Nat} {lw : List Int32} {x y k : Int32}
theorem bad0z {P : KI} {w z : Int32} (hp : P 0 (u2 a 60 0 0) r nK) : Sp G d 0 0 MX12_bad [.ref 60, .int 0, .int w, .int z] (u2 a 60 0 0, r, nK) (RI P) := c_mBad0 u2_eq hp
theorem bad1z {P : KI} {wI : Int32} {i : Nat} (hr : Rk r) (hwI : ¬ wI = 0) (hi : i < 3) (hp : P 1 (mBd a wI i) r nK) : Sp G d 0 0 MX12_bad [.ref 60, .int 1, .int wI, .int (nI i)] (u2 a 60 0 0, r, nK) (RI P) :=
  c_mBad (w := 1) hr (by decide) hi (by decide) hwI hp
theorem c_mToldF {P : KI} (hr : Rk r) (h8 : ns ≤ 8) (h1 : a 64 1 = nI ns) (hno : ¬ inT x 0 9 → P 0 (mBd a 1 2) r nK) (hy : inT x 0 9 → P (mToldV (u2 a 60 0 0) ns x) (u2 a 60 0 0) r nK) : Sp G (d + 2) 0 0 MX12_told [.ref 60, .int x] (a, r, nK) (RI P) := by
  have h1' : u2 a 60 0 0 64 1 = nI ns := by rw [u2_off 64 (by decide)]; exact h1
  have r64 : r 60 12 = .ref 64 := rf5 hr (by decide) rfl
  have r33 : r 60 33 = .ref 582 := rf5 hr (by decide) rfl
  refine V_X12_told_0 ⟨rfl, by decide, fun a1 q1 => ?_⟩
  subst q1
  refine c_mIn (fun hin => ⟨fun _ => V_X12_told_21 ⟨rfl, by decide, bad0z ⟨fun _ => ?_, fun h => absurd rfl h⟩⟩, fun h => absurd h (by decide)⟩) (fun hin => ⟨fun h => absurd rfl h, fun _ => V_X12_told_21 ⟨rfl, by decide, bad1z (i := 2) hr (by decide) (by decide) ⟨fun h => absurd h (by decide), fun _ => hno hin⟩⟩⟩)
  have hp := hy hin
  unfold mToldV at hp
  have v0 : ∀ {c : Nat}, c < 8 → vp_in (nI c) 8 := fun h => vp_in_nI h (by decide)
  refine ⟨fun e0 => ⟨rfl, by decide, 64, r64, rfl, by decide, by rw [e0]; exact v0 (c := 0) (by decide), ?_⟩, fun e0 => ⟨fun e1 => ⟨rfl, by decide, 64, r64, rfl, by decide, by rw [e1]; exact v0 (c := 1) (by decide), ?_⟩, fun e1 => ⟨fun e2 => ⟨rfl, by decide, 64, r64, rfl, by decide, by rw [e2]; exact v0 (c := 2) (by decide), ?_⟩, fun e2 => ⟨fun e3 => ⟨rfl, by decide, 582, r33, rfl, by decide, v42 (i := 40) (by decide), ?_⟩, fun e3 => ⟨fun e4 => ⟨rfl, by decide, 582, r33, rfl, by decide, c_mCoup hr rfl (by decide) h8 h1' ?_⟩, fun e4 => ⟨fun e5 => ⟨rfl, by decide, 582, r33, rfl, by decide, c_mSumOf (f := 24) hr rfl (by decide) h8 (by decide) h1' ?_⟩, fun e5 => ⟨fun e6 => ⟨rfl, by decide, 582, r33, rfl, by decide, c_mSumOf (f := 32) hr rfl (by decide) h8 (by decide) h1' ?_⟩, fun e6 => ⟨fun e7 => ⟨rfl, by decide, ?_⟩, fun e7 => ⟨fun e8 => ⟨rfl, by decide, ?_⟩, fun e8 => ⟨rfl, by decide, 582, r33, rfl, by decide, v42 (i := 41) (by decide), ?_⟩⟩⟩⟩⟩⟩⟩⟩⟩⟩
  · rw [if_pos e0] at hp; rw [e0]; exact hp
  · rw [if_neg e0, if_pos e1] at hp; rw [e1]; exact hp
  · rw [if_neg e0, if_neg e1, if_pos e2] at hp; rw [e2]; exact hp
  · rw [if_neg e0, if_neg e1, if_neg e2, if_pos e3] at hp; exact hp
  · rw [if_neg e0, if_neg e1, if_neg e2, if_neg e3, if_pos e4] at hp; exact hp
  · rw [if_neg e0, if_neg e1, if_neg e2, if_neg e3, if_neg e4, if_pos e5] at hp; exact hp
  · rw [if_neg e0, if_neg e1, if_neg e2, if_neg e3, if_neg e4, if_neg e5, if_pos e6] at hp; exact hp
  · rw [if_neg e0, if_neg e1, if_neg e2, if_neg e3, if_neg e4, if_neg e5, if_neg e6, if_pos e7] at hp; exact hp
  · rw [if_neg e0, if_neg e1, if_neg e2, if_neg e3, if_neg e4, if_neg e5, if_neg e6, if_neg e7, if_pos e8] at hp; exact hp
  · rw [if_neg e0, if_neg e1, if_neg e2, if_neg e3, if_neg e4, if_neg e5, if_neg e6, if_neg e7, if_neg e8] at hp; exact hp
theorem c_mStreetF {P : KI} (hr : Rk r) (hc : MtC a nc ns ng) (hno : (¬ ∃ s, s < ns ∧ x = nI s) → P 0 (mBd a 1 1) r nK) (hno2 : (∃ s, s < ns ∧ x = nI s) → ¬ inT y 0 8 → P 0 (mBd a 2 2) r nK)
    (hy : ∀ s, s < ns → x = nI s → inT y 0 8 → P (mStrV (u2 a 60 0 0) s y) (u2 a 60 0 0) r nK) : Sp G (d + 2) 0 0 MX12_street [.ref 60, .int x, .int y] (a, r, nK) (RI P) := by
  have h8 := hc.2.2.2.1
  have hc1 : MtC (u2 a 60 0 0) nc ns ng := hc.row (u2_off 64 (by decide)) (fun s hs => u2_off _ (by omega))
  have r33 : r 60 33 = .ref 582 := rf5 hr (by decide) rfl
  have r16 : r 60 16 = .ref 96 := rf5 hr (by decide) rfl
  refine V_X12_street_0 ⟨rfl, by decide, fun a1 q1 => ⟨rfl, by decide, ?_⟩⟩
  subst q1
  refine c_mIsStr hr hc1.2.2.1 h8 (fun s hs e => ⟨fun _ => ⟨rfl, by decide, bad0z ⟨fun h => absurd rfl h, fun _ => ?_⟩⟩, fun h => absurd h (by decide)⟩) (fun hn => ⟨fun h => absurd rfl h, fun _ => ⟨rfl, by decide, bad1z (i := 1) hr (by decide) (by decide) ⟨fun _ => hno hn, fun h => absurd h (by decide)⟩⟩⟩)
  refine c_mIn (fun hin => ⟨fun _ => V_X12_street_43 ⟨rfl, by decide, bad0z ⟨fun _ => ?_, fun h => absurd rfl h⟩⟩, fun h => absurd h (by decide)⟩) (fun hin => ⟨fun h => absurd rfl h, fun _ => V_X12_street_43 ⟨rfl, by decide, bad1z (i := 2) hr (by decide) (by decide) ⟨fun h => absurd h (by decide), fun _ => hno2 ⟨s, hs, e⟩ hin⟩⟩⟩)
  have hp := hy s hs e hin
  subst e
  unfold mStrV at hp
  have is : (nI s).toNatClampNeg = s := nI_clamp (by omega)
  have ty := tyR_street s (by omega)
  have bd : 96 + 1 + s < nK := by show _ < 878; omega
  have vs : vp_in (nI s) 8 := vp_in_nI (show s < 8 by omega) (by decide)
  have v4 : ∀ {c : Nat}, c < 4 → vp_in (nI c) 4 := fun h => vp_in_nI h (by decide)
  have ok : ∀ (c : Nat), c < 4 → y = nI c → P (u2 a 60 0 0 (96 + 1 + s) c) (u2 a 60 0 0) r nK → tyK 60 = (0, 11) ∧ 60 < nK ∧ ∃ q, r 60 16 = .ref q ∧ ((tyK q).1 = 3 ∧ q < nK ∧ vp_in (nI s) (tyK q).2 ∧ ((tyK (q + 1 + (nI s).toNatClampNeg)).1 = 1 ∧ (q + 1 + (nI s).toNatClampNeg) < nK ∧ vp_in y (tyK (q + 1 + (nI s).toNatClampNeg)).2 ∧ P (u2 a 60 0 0 (q + 1 + (nI s).toNatClampNeg) (y : Int32).toNatClampNeg) (u2 a 60 0 0) r nK)) := by
    intro c hc' ey h
    subst ey
    refine ⟨rfl, by decide, 96, r16, rfl, by decide, vs, ?_⟩
    rw [is, nI_clamp (by omega)]
    exact row3 ty bd (v4 hc') h
  have ok2 : ∀ (c : Nat), c < 42 → P (u2 a 60 0 0 582 c) (u2 a 60 0 0) r nK → (tyK 582).1 = 1 ∧ 582 < nK ∧ vp_in (nI c) (tyK 582).2 ∧ P (u2 a 60 0 0 582 (nI c).toNatClampNeg) (u2 a 60 0 0) r nK := fun c hc' h => ⟨rfl, by decide, v42 hc', by rw [nI_clamp (by omega)]; exact h⟩
  simp only [o8, o16, o24, o32]
  refine ⟨fun e0 => ok 0 (by decide) e0 ?_, fun e0 => ⟨fun e1 => ok 1 (by decide) e1 ?_, fun e1 => ⟨fun e2 => ok 2 (by decide) e2 ?_, fun e2 => ⟨fun e3 => ⟨rfl, by decide, 582, r33, ok2 (24 + s) (by omega) ?_⟩, fun e3 => ⟨fun e4 => ⟨rfl, by decide, c_mLen hr hc1 hs ?_⟩, fun e4 => ⟨fun e5 => ⟨rfl, by decide, 582, r33, c_mMate rfl (by decide) (by omega) ?_⟩, fun e5 => ⟨fun e6 => ⟨rfl, by decide, 582, r33, c_mMate rfl (by decide) (by omega) ⟨fun hm => ⟨rfl, by decide, 582, r33, ok2 (8 + s) (by omega) ?_⟩, fun hm => ?_⟩⟩, fun e6 => ⟨fun e7 => ⟨rfl, by decide, 582, r33, ok2 (16 + s) (by omega) ?_⟩, fun e7 => ⟨rfl, by decide, 582, r33, ok2 (32 + s) (by omega) ?_⟩⟩⟩⟩⟩⟩⟩⟩⟩
  · rw [if_pos e0] at hp; exact hp
  · rw [if_neg e0, if_pos e1] at hp; exact hp
  · rw [if_neg e0, if_neg e1, if_pos e2] at hp; exact hp
  · rw [if_neg e0, if_neg e1, if_neg e2, if_pos e3] at hp; exact hp
  · rw [if_neg e0, if_neg e1, if_neg e2, if_neg e3, if_pos e4] at hp; exact hp
  · rw [if_neg e0, if_neg e1, if_neg e2, if_neg e3, if_neg e4, if_pos e5] at hp; exact hp
  · rw [if_neg e0, if_neg e1, if_neg e2, if_neg e3, if_neg e4, if_neg e5, if_pos e6, if_neg hm] at hp; exact hp
  · rw [if_neg e0, if_neg e1, if_neg e2, if_neg e3, if_neg e4, if_neg e5, if_pos e6, if_pos hm] at hp; exact hp
  · rw [if_neg e0, if_neg e1, if_neg e2, if_neg e3, if_neg e4, if_neg e5, if_neg e6, if_pos e7] at hp; exact hp
  · rw [if_neg e0, if_neg e1, if_neg e2, if_neg e3, if_neg e4, if_neg e5, if_neg e6, if_neg e7] at hp; exact hp
theorem c_mLikesF {P : KI} (hr : Rk r) (h8 : ns ≤ 8) (h1 : a 64 1 = nI ns) (hno : ¬ ((∃ s, s < ns ∧ x = nI s) ∧ ∃ t, t < ns ∧ y = nI t) → P 0 (mBd a 1 1) r nK) (hno2 : (∃ s, s < ns ∧ x = nI s) → (∃ t, t < ns ∧ y = nI t) → x = y → P 0 (mBd a 2 2) r nK)
    (hy : ∀ s t, s < ns → t < ns → x = nI s → y = nI t → ¬ x = y → P (u2 a 60 0 0 (114 + 1 + s) t) (u2 a 60 0 0) r nK) : Sp G (d + 2) 0 0 MX12_likes [.ref 60, .int x, .int y] (a, r, nK) (RI P) := by
  have h1' : u2 a 60 0 0 64 1 = nI ns := by rw [u2_off 64 (by decide)]; exact h1
  have r18 : r 60 18 = .ref 114 := rf5 hr (by decide) rfl
  refine V_X12_likes_0 ⟨rfl, by decide, fun a1 q1 => ⟨rfl, by decide, ?_⟩⟩
  subst q1
  have no : ¬ ((∃ s, s < ns ∧ x = nI s) ∧ ∃ t, t < ns ∧ y = nI t) → E G MX12_likes (d + 2) 0 0 27 [.ref 60, .int x, .int y] [.int 1, .ref 60] (u2 a 60 0 0, r, nK) (RI P) := fun hn =>
    V_X12_likes_27 ⟨rfl, by decide, bad1z (i := 1) hr (by decide) (by decide) ⟨fun _ => hno hn, fun h => absurd h (by decide)⟩⟩
  refine c_mIsStr hr h1' h8 (fun s hs e => ⟨fun h => absurd h (by decide), fun _ => ⟨rfl, by decide, c_mIsStr hr h1' h8 (fun t ht et => ⟨fun _ => V_X12_likes_27 ⟨rfl, by decide, bad0z ⟨fun h => absurd rfl h, fun _ => ⟨fun hne => ⟨rfl, by decide, bad0z ⟨fun _ => ⟨rfl, by decide, 114, r18, ?_⟩, fun h => absurd rfl h⟩⟩, fun he => ⟨rfl, by decide, bad1z (i := 2) hr (by decide) (by decide) ⟨fun h => absurd h (by decide), fun _ => hno2 ⟨s, hs, e⟩ ⟨t, ht, et⟩ he⟩⟩⟩⟩⟩, fun h => absurd h (by decide)⟩) (fun hn => ⟨fun h => absurd rfl h, fun _ => no (fun z => hn z.2)⟩)⟩⟩) (fun hn => ⟨fun _ => no (fun z => hn z.1), fun h => absurd rfl h⟩)
  have hp := hy s t hs ht e et hne
  subst e et
  rw [nI_clamp (show s < 2 ^ 31 by omega), nI_clamp (show t < 2 ^ 31 by omega)]
  exact ⟨rfl, by decide, vp_in_nI (show s < 8 by omega) (by decide), row3 (tyR_likes s (by omega)) (by show _ < 878; omega) (vp_in_nI (show t < 8 by omega) (by decide)) hp⟩
theorem c_mBannsF {P : KI} (hr : Rk r) (hq : MqH a nc ns ng lw) (hno : ¬ ((∃ s, s < ns ∧ x = nI s) ∧ ∃ t, t < ns ∧ y = nI t) → P 0 (mBd a 1 1) r nK)
    (hy : ∀ s t, s < ns → t < ns → x = nI s → y = nI t → ∀ a', mQ5 (u2 a 60 0 0) a' → P (mBan (u2 a 60 0 0) 582 lw s t) a' r nK) : Sp G (d + 4) 0 0 MX12_banns [.ref 60, .int x, .int y] (a, r, nK) (RI P) := by
  obtain ⟨hc, hl, h150, hd, hw, hh⟩ := hq.z
  have h8 := hc.2.2.2.1
  have r33 : r 60 33 = .ref 582 := rf5 hr (by decide) rfl
  refine V_X12_banns_0 ⟨rfl, by decide, fun a1 q1 => ⟨rfl, by decide, ?_⟩⟩
  subst q1
  refine c_mIsStr hr hc.2.2.1 h8 (fun s hs e => ⟨fun h => absurd h (by decide), fun _ => ⟨rfl, by decide, c_mIsStr hr hc.2.2.1 h8 (fun t ht et => ⟨fun _ => ⟨rfl, by decide, bad0z ⟨fun _ => ⟨rfl, by decide, 582, r33, rfl, by decide, ?_⟩, fun h => absurd rfl h⟩⟩, fun h => absurd h (by decide)⟩) (fun hn => ⟨fun h => absurd rfl h, fun _ => ⟨rfl, by decide, bad1z (i := 1) hr (by decide) (by decide) ⟨fun h => absurd h (by decide), fun _ => hno (fun z => hn z.2)⟩⟩⟩)⟩⟩) (fun hn => ⟨fun _ => ⟨rfl, by decide, bad1z (i := 1) hr (by decide) (by decide) ⟨fun h => absurd h (by decide), fun _ => hno (fun z => hn z.1)⟩⟩, fun h => absurd rfl h⟩)
  have hp := hy s t hs ht e et
  subst e et
  exact c_mBanns hr hc hl h150 hd rfl (by decide) (by decide) (by decide) hs ht hp
theorem c_mNumberF {P : KI} (hr : Rk r) (hc : MtC a nc ns ng) (hno : (¬ ∃ s, s < ns ∧ x = nI s) → P 0 (mBd a 2 1) r nK) (hno2 : ∀ s, s < ns → x = nI s → ¬ inT y 1 (a (96 + 1 + s) 2) → P 0 (mBd a 1 0) r nK)
    (hy : ∀ s, s < ns → x = nI s → inT y 1 (a (96 + 1 + s) 2) → P (mNumBy y (mHow (u2 a 60 0 0) s)) (u2 a 60 0 0) r nK) : Sp G (d + 2) 0 0 MX12_number [.ref 60, .int x, .int y] (a, r, nK) (RI P) := by
  have h8 := hc.2.2.2.1
  have h1' : u2 a 60 0 0 64 1 = nI ns := by rw [u2_off 64 (by decide)]; exact hc.2.2.1
  have r16 : r 60 16 = .ref 96 := rf5 hr (by decide) rfl
  refine V_X12_number_0 ⟨rfl, by decide, fun a1 q1 => ⟨rfl, by decide, ?_⟩⟩
  subst q1
  refine c_mIsStr hr h1' h8 (fun s hs e => ⟨fun _ => V_X12_number_19 ⟨rfl, by decide, bad0z ⟨fun h => absurd rfl h, fun _ => ⟨rfl, by decide, 96, r16, ?_⟩⟩⟩, fun h => absurd h (by decide)⟩) (fun hn => ⟨fun h => absurd rfl h, fun _ => V_X12_number_19 ⟨rfl, by decide, bad1z (i := 1) hr (by decide) (by decide) ⟨fun _ => hno hn, fun h => absurd h (by decide)⟩⟩⟩)
  have hp := hy s hs e
  have hno3 := hno2 s hs e
  subst e
  rw [nI_clamp (show s < 2 ^ 31 by omega), z2]
  refine ⟨rfl, by decide, vp_in_nI (show s < 8 by omega) (by decide), row3 (tyR_street s (by omega)) (by show _ < 878; omega) (vp_in_nI (show 2 < 4 by decide) (by decide)) ?_⟩
  rw [u2_off _ (show 96 + 1 + s ≠ 60 by omega)]
  exact c_mIn (fun hin => ⟨fun _ => ⟨rfl, by decide, bad0z ⟨fun _ => ⟨rfl, by decide, c_mHow hr (by omega) (c_mNumBy (hp hin))⟩, fun h => absurd rfl h⟩⟩, fun h => absurd h (by decide)⟩) (fun hin => ⟨fun h => absurd rfl h, fun _ => ⟨rfl, by decide, bad1z (i := 0) hr (by decide) (by decide) ⟨fun h => absurd h (by decide), fun _ => hno3 hin⟩⟩⟩)
theorem c_mLetterF {P : KI} (hr : Rk r) (h8 : ns ≤ 8) (h1 : a 64 1 = nI ns) (hw : wfM ns (a 582)) (hno : (¬ ∃ s, s < ns ∧ x = nI s) → P 0 (mBd a 1 1) r nK) (hno2 : (∃ s, s < ns ∧ x = nI s) → ¬ inT y 1 99 → P 0 (mBd a 2 2) r nK)
    (hy : ∀ s, s < ns → x = nI s → inT y 1 99 → P (mLet (u2 a 60 0 0) s y) (u2 a 60 0 0) r nK) : Sp G (d + 3) 0 0 MX12_letter [.ref 60, .int x, .int y] (a, r, nK) (RI P) := by
  have h1' : u2 a 60 0 0 64 1 = nI ns := by rw [u2_off 64 (by decide)]; exact h1
  have hw' : wfM ns (u2 a 60 0 0 582) := by rw [u2_off 582 (by decide)]; exact hw
  refine V_X12_letter_0 ⟨rfl, by decide, fun a1 q1 => ⟨rfl, by decide, ?_⟩⟩
  subst q1
  refine c_mIsStr hr h1' h8 (fun s hs e => ⟨fun _ => V_X12_letter_19 ⟨rfl, by decide, bad0z ⟨fun h => absurd rfl h, fun _ => ?_⟩⟩, fun h => absurd h (by decide)⟩) (fun hn => ⟨fun h => absurd rfl h, fun _ => V_X12_letter_19 ⟨rfl, by decide, bad1z (i := 1) hr (by decide) (by decide) ⟨fun _ => hno hn, fun h => absurd h (by decide)⟩⟩⟩)
  have hp := hy s hs e
  have hno3 := hno2 ⟨s, hs, e⟩
  subst e
  exact c_mIn (fun hin => ⟨fun _ => ⟨rfl, by decide, bad0z ⟨fun _ => ⟨rfl, by decide, c_mLetTo hr hw' h8 hs (hp hin)⟩, fun h => absurd rfl h⟩⟩, fun h => absurd h (by decide)⟩) (fun hin => ⟨fun h => absurd rfl h, fun _ => ⟨rfl, by decide, bad1z (i := 2) hr (by decide) (by decide) ⟨fun h => absurd h (by decide), fun _ => hno3 hin⟩⟩⟩)
theorem c_mLastF {P : KI} (hr : Rk r) (h8 : ns ≤ 8) (h1 : a 64 1 = nI ns) (hw : wfM ns (a 582)) (hno : (¬ ∃ s, s < ns ∧ x = nI s) → P 0 (mBd a 1 1) r nK) (hy : ∀ s, s < ns → x = nI s → P (mLastOf (u2 a 60 0 0) s) (u2 a 60 0 0) r nK) : Sp G (d + 3) 0 0 MX12_last [.ref 60, .int x] (a, r, nK) (RI P) := by
  have h1' : u2 a 60 0 0 64 1 = nI ns := by rw [u2_off 64 (by decide)]; exact h1
  have hw' : wfM ns (u2 a 60 0 0 582) := by rw [u2_off 582 (by decide)]; exact hw
  refine V_X12_last_0 ⟨rfl, by decide, fun a1 q1 => ⟨rfl, by decide, ?_⟩⟩
  subst q1
  refine c_mIsStr hr h1' h8 (fun s hs e => ⟨fun _ => ⟨rfl, by decide, bad0z ⟨fun _ => ⟨rfl, by decide, ?_⟩, fun h => absurd rfl h⟩⟩, fun h => absurd h (by decide)⟩) (fun hn => ⟨fun h => absurd rfl h, fun _ => ⟨rfl, by decide, bad1z (i := 1) hr (by decide) (by decide) ⟨fun h => absurd h (by decide), fun _ => hno hn⟩⟩⟩)
  have hp := hy s hs e
  subst e
  exact c_mLastOf hr hw' h8 hs hp
theorem numBy_b {h how : Int32} {n : Nat} (hh : h = nI n) (h1 : 1 ≤ n) (h20 : n ≤ 20) : ∃ m, m ≤ 40 ∧ mNumBy h how = nI m := by
  subst hh
  unfold mNumBy
  have e2 : (2 : Int32) * nI n = nI (2 * n) := by rw [show (2 : Int32) = nI 2 from rfl, nI_mul]
  split
  · exact ⟨n, by omega, rfl⟩
  split
  · refine ⟨2 * n - 1, by omega, ?_⟩
    rw [e2]
    obtain ⟨j, hj⟩ : ∃ j, 2 * n = j + 1 := ⟨2 * n - 1, by omega⟩
    rw [hj, nI_pred]
    congr 1
  · exact ⟨2 * n, by omega, e2⟩
theorem lastOf_b (hw : wfM ns (a 582)) (h8 : ns ≤ 8) (hh : ∀ s, s < ns → ∃ h, 1 ≤ h ∧ h ≤ 20 ∧ a (96 + 1 + s) 2 = nI h) (hs : s < ns) : ∃ m, m ≤ 40 ∧ mLastOf a s = nI m := by
  obtain ⟨n1, g1, g2, g3⟩ := hh s hs
  obtain ⟨m1, k1, k2⟩ := numBy_b (how := mHow a s) g3 g1 g2
  unfold mLastOf mNumOf
  split
  · exact ⟨m1, k1, k2⟩
  · next h0 =>
    rcases hw s hs with h | ⟨m, hm, hne, e1, e2⟩
    · exact absurd h h0
    · rw [e1, nI_clamp (by omega)]
      obtain ⟨n2, g4, g5, g6⟩ := hh m hm
      obtain ⟨m2, k3, k4⟩ := numBy_b (how := mHow a m) g6 g4 g5
      split
      · exact ⟨m2, k3, k4⟩
      · exact ⟨m1, k1, k2⟩
theorem c_mMissF {P : KI} (hr : Rk r) (hq : MqH a nc ns ng lw) (hno : (¬ ∃ s, s < ns ∧ x = nI s) → P 0 (mBd a 1 1) r nK) (hy : ∀ s m, s < ns → x = nI s → m ≤ 40 → mLastOf (u2 a 60 0 0) s = nI m → P (mMis (u2 a 60 0 0) s m 1 0) (u2 a 60 0 0) r nK) : Sp G (d + 3) 0 0 MX12_missing [.ref 60, .int x] (a, r, nK) (RI P) := by
  obtain ⟨hc, hl, h150, hd, hw, hh⟩ := hq.z
  have h8 := hc.2.2.2.1
  refine V_X12_missing_0 ⟨rfl, by decide, fun a1 q1 => ⟨rfl, by decide, ?_⟩⟩
  subst q1
  obtain ⟨b, hb⟩ : ∃ b, b = u2 a 60 0 0 := ⟨_, rfl⟩
  rw [← hb] at hc hw hh hy ⊢
  have loop : ∀ s m, s < ns → mLastOf b s = nI m → m ≤ 40 → ∀ (u k : Nat) (c : Int32), k + u = m + 1 → P (mMis b s u k c) b r nK → E G MX12_missing (d + 3) 0 0 33 [.ref 60, .int (nI s), .int c, .int (nI k)] [] (b, r, nK) (RI P) := by
    intro s m hs hL hm u
    induction u with
    | zero =>
      intro k c hk hp
      refine V_X12_missing_33 ⟨rfl, by decide, c_mLastOf hr hw h8 hs ⟨fun _ => hp, fun h => absurd ?_ h⟩⟩
      rw [hL]; exact nI_lt (by omega) (by omega)
    | succ u ih =>
      intro k c hk hp
      refine V_X12_missing_33 ⟨rfl, by decide, c_mLastOf hr hw h8 hs ⟨fun h => absurd ?_ (show ¬ m < k by omega), fun _ => ⟨rfl, by decide, c_mLetTo hr hw h8 hs ⟨fun h => ?_, fun h => ?_⟩⟩⟩⟩
      · rw [hL] at h; exact (nI_ltI (by omega) (by omega)).mp h
      · rw [mMis, if_neg h] at hp
        rw [nI_1]; exact ih (k + 1) _ (by omega) hp
      · rw [mMis, if_pos h] at hp
        rw [nI_1]; exact ih (k + 1) _ (by omega) hp
  rw [hb]
  refine c_mIsStr hr (hb ▸ hc.2.2.1) h8 (fun s hs e => ⟨fun _ => ⟨rfl, by decide, bad0z ⟨fun _ => ?_, fun h => absurd rfl h⟩⟩, fun h => absurd h (by decide)⟩) (fun hn => ⟨fun h => absurd rfl h, fun _ => ⟨rfl, by decide, bad1z (i := 1) hr (by decide) (by decide) ⟨fun h => absurd h (by decide), fun _ => hno hn⟩⟩⟩)
  obtain ⟨m, hm, hL⟩ := lastOf_b hw h8 hh hs
  have hp := hy s m hs e hm hL
  subst e
  rw [← hb]
  exact loop s m hs hL hm m 1 0 (by omega) hp
end MPQ
