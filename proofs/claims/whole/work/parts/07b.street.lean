/-! Main: street, likes, banns, number, letter, last, missing -/
def fStreet (a : IA) (T : Nat) (s w : Int32) : Int32 := if w = 0 then rAt (a (T + 3)) 8 s else if w = 1 then rAt (a (T + 4)) 8 s else if w = 2 then rAt (a (T + 5)) 8 s else if w = 3 then lfTrees (a 44) s else if w = 4 then rAt (a (T + 7)) 8 s else if w = 5 then lfMate (a 44) s else if w = 6 then (if lfRole (a 44) s = 1 then 1 else 0) else if w = 7 then lfYears (a 44) s else lfHoles (a 44) s
def fHouse (a : IA) (T : Nat) (s k : Int32) : Int32 := lfHouse (lfRole (a 44) s) (rAt (a (T + 5)) 8 s) k
def fLetter (a : IA) (T : Nat) (s k : Int32) : Int32 := if fHouse a T s k ≤ 0 then (if lfMate (a 44) s = -1 then -1 else if fHouse a T (lfMate (a 44) s) k ≤ 0 then -1 else 100 * lfMate (a 44) s + fHouse a T (lfMate (a 44) s) k) else 100 * s + fHouse a T s k
def fNum (a : IA) (T : Nat) (s : Int32) : Int32 := lfNumber (lfRole (a 44) s) (rAt (a (T + 5)) 8 s)
def fLast (a : IA) (T : Nat) (s : Int32) : Int32 := if lfMate (a 44) s = -1 then fNum a T s else mx2 (fNum a T s) (fNum a T (lfMate (a 44) s))
def fMissing (a : IA) (T : Nat) (s : Int32) : Int32 := fLast a T s - (rAt (a (T + 5)) 8 s + if lfMate (a 44) s = -1 then 0 else rAt (a (T + 5)) 8 (lfMate (a 44) s))
theorem rf10 {r : RA} (hr : Rk r) : r 0 10 = .ref 43 := hr.at (by decide)
section ST
variable {G : GE} {d C S : Nat} {a : IA} {r : RA} {N T L : Nat} {s w : Int32} {lw : List Int32}
theorem c_street {P : KI} (hr : Rk r) (hT : isCity T) (h3 : r 0 3 = .ref T) (hs : inE s (a T 1)) (h : inT w 0 8) (hp : P (fStreet a T s w) a r nK) : Sp G (d + 4) 0 0 MX11_street [.ref 0, .int s, .int w] (a, r, nK) (RI P) := by
  unfold fStreet at hp
  refine V_X11_street_0 ⟨rfl, by decide, c_needStreet hT h3 hs ⟨fun h' => absurd h' h.1, fun _ => ⟨fun h' => absurd h' h.2, fun _ => ?_⟩⟩⟩
  refine V_X11_street_21 ⟨rfl, by decide, c_need (by decide) ?_⟩
  refine ⟨fun e => ?_, fun e0 => ⟨fun e => ?_, fun e1 => ⟨fun e => ?_, fun e2 => ⟨fun e => ?_, fun e3 => ⟨fun e => ?_, fun e4 => ⟨fun e => ?_, fun e5 => ⟨fun e => ?_, fun e6 => ⟨fun e => ?_, fun e7 => ?_⟩⟩⟩⟩⟩⟩⟩⟩
  · rw [if_pos e] at hp; exact ⟨rfl, by decide, _, h3, ct0 hT, ctl hT, c_startOf hr hT hp⟩
  · rw [if_neg e0, if_pos e] at hp; exact ⟨rfl, by decide, _, h3, ct0 hT, ctl hT, c_endOf hr hT hp⟩
  · rw [if_neg e0, if_neg e1, if_pos e] at hp; exact ⟨rfl, by decide, _, h3, ct0 hT, ctl hT, c_housesOf hr hT hp⟩
  · rw [if_neg e0, if_neg e1, if_neg e2, if_pos e] at hp; exact ⟨rfl, by decide, _, rf10 hr, rfl, by decide, c_treesOf hr (Or.inl rfl) hp⟩
  · rw [if_neg e0, if_neg e1, if_neg e2, if_neg e3, if_pos e] at hp; exact ⟨rfl, by decide, _, h3, ct0 hT, ctl hT, c_lengthOf hr hT hp⟩
  · rw [if_neg e0, if_neg e1, if_neg e2, if_neg e3, if_neg e4, if_pos e] at hp; exact ⟨rfl, by decide, _, rf10 hr, rfl, by decide, c_mateOf hr (Or.inl rfl) hp⟩
  · rw [if_neg e0, if_neg e1, if_neg e2, if_neg e3, if_neg e4, if_neg e5, if_pos e] at hp
    refine ⟨rfl, by decide, _, rf10 hr, rfl, by decide, c_roleOf hr (Or.inl rfl) ⟨fun (h : ¬ lfRole (a 44) s = 1) => ?_, fun (h : lfRole (a 44) s = 1) => ?_⟩⟩
    · rw [if_neg h] at hp; exact hp
    · rw [if_pos h] at hp; exact hp
  · rw [if_neg e0, if_neg e1, if_neg e2, if_neg e3, if_neg e4, if_neg e5, if_neg e6, if_pos e] at hp; exact ⟨rfl, by decide, _, rf10 hr, rfl, by decide, c_yearsOf hr (Or.inl rfl) hp⟩
  · rw [if_neg e0, if_neg e1, if_neg e2, if_neg e3, if_neg e4, if_neg e5, if_neg e6, if_neg e7] at hp; exact ⟨rfl, by decide, _, rf10 hr, rfl, by decide, c_holesOf hr (Or.inl rfl) hp⟩
theorem x_street1 {P : KX} (hT : isCity T) (h3 : r 0 3 = .ref T) (hs : ¬ inE s (a T 1)) (hp : P xNo (bump a 18) r nK) : Sp G (d + 8) 1 6 MX11_street [.ref 0, .int s, .int w] (a, r, nK) (RX P) :=
  VX_X11_street_0 (.inr ⟨rfl, by decide, x_needStreet hT h3 hs hp⟩)
theorem x_street2 {P : KX} (hT : isCity T) (h3 : r 0 3 = .ref T) (hs : inE s (a T 1)) (h : ¬ inT w 0 8) (hp : P xIl (bump a 19) r nK) : Sp G (d + 8) 1 6 MX11_street [.ref 0, .int s, .int w] (a, r, nK) (RX P) :=
  VX_X11_street_0 (.inl ⟨rfl, by decide, c_needStreet hT h3 hs ⟨fun _ => VX_X11_street_21 (.inr ⟨rfl, by decide, x_need hp⟩), fun h1 => ⟨fun _ => VX_X11_street_21 (.inr ⟨rfl, by decide, x_need hp⟩), fun h2 => absurd ⟨h1, h2⟩ h⟩⟩⟩)
theorem c_likes {P : KI} (hr : Rk r) (hT : isCity T) (h3 : r 0 3 = .ref T) (hs : inE s (a T 1)) (hw : inE w (a T 1)) (h : ¬ s = w) (hp : P (ctLiking a T s w) a r nK) : Sp G (d + 4) 0 0 MX11_likes [.ref 0, .int s, .int w] (a, r, nK) (RI P) := by
  refine V_X11_likes_0 ⟨rfl, by decide, c_needStreet hT h3 hs ⟨rfl, by decide, c_needStreet hT h3 hw ⟨fun h' => absurd h' h, fun _ => ⟨rfl, by decide, c_need (by decide) ⟨rfl, by decide, _, h3, ct0 hT, ctl hT, c_liking hr hT hp⟩⟩⟩⟩⟩
theorem x_likes1 {P : KX} (hT : isCity T) (h3 : r 0 3 = .ref T) (h : ¬ (inE s (a T 1) ∧ inE w (a T 1))) (hp : P xNo (bump a 18) r nK) : Sp G (d + 8) 1 6 MX11_likes [.ref 0, .int s, .int w] (a, r, nK) (RX P) := by
  by_cases hs : inE s (a T 1)
  · exact VX_X11_likes_0 (.inl ⟨rfl, by decide, c_needStreet hT h3 hs (.inr ⟨rfl, by decide, x_needStreet hT h3 (fun hw => h ⟨hs, hw⟩) hp⟩)⟩)
  · exact VX_X11_likes_0 (.inr ⟨rfl, by decide, x_needStreet hT h3 hs hp⟩)
theorem x_likes2 {P : KX} (hT : isCity T) (h3 : r 0 3 = .ref T) (hs : inE s (a T 1)) (hp : P xIl (bump a 19) r nK) : Sp G (d + 8) 1 6 MX11_likes [.ref 0, .int s, .int s] (a, r, nK) (RX P) :=
  VX_X11_likes_0 (.inl ⟨rfl, by decide, c_needStreet hT h3 hs (.inl ⟨rfl, by decide, c_needStreet hT h3 hs ⟨fun _ => .inr ⟨rfl, by decide, x_need hp⟩, fun h => absurd rfl h⟩⟩)⟩)
theorem c_hind0 {P : KI} {q : Nat} {she he : Int32} (hr : Rk r) (hL : isLaw L) (hT : isCity T) (hq : isLife q) (hl : LwOK a L lw) (h150 : lw.length ≤ 150) (hw : lw = [] ∨ dep lw 0 = some 1) (hp : ∀ h', P (lwHind a T q lw she he) (va_up a (L + 2) h') r nK) :
    Sp G (d + 4) 0 0 MX2_hindrance [.ref L, .ref T, .ref q, .int she, .int he] (a, r, nK) (RI P) := by
  have h := c_hindrance (G := G) (d := d) (h := a (L + 2)) hr hL hT hq hl h150 hw hp
  rw [up_same] at h
  exact h
theorem c_banns {P : KI} (hr : Rk r) (hT : isCity T) (h3 : r 0 3 = .ref T) (hL : isLaw L) (h5 : r 0 5 = .ref L) (hl : LwOK a L lw) (h150 : lw.length ≤ 150) (hlw : lw = [] ∨ dep lw 0 = some 1) (hs : inE s (a T 1)) (hw : inE w (a T 1)) (hp : ∀ h, P (lwHind a T 43 lw s w) (va_up a (L + 2) h) r nK) : Sp G (d + 8) 0 0 MX11_banns [.ref 0, .int s, .int w] (a, r, nK) (RI P) := by
  refine V_X11_banns_0 ⟨rfl, by decide, c_needStreet hT h3 hs ⟨rfl, by decide, c_needStreet hT h3 hw ⟨rfl, by decide, _, h5, rfl, by decide, _, h3, rfl, by decide, _, rf10 hr, by rw [(law_k hr hL).1], (law_k hr hL).2.1, c_hind0 hr hL hT (Or.inl rfl) hl h150 hlw hp⟩⟩⟩
theorem x_banns {P : KX} (hT : isCity T) (h3 : r 0 3 = .ref T) (h : ¬ (inE s (a T 1) ∧ inE w (a T 1))) (hp : P xNo (bump a 18) r nK) : Sp G (d + 8) 1 6 MX11_banns [.ref 0, .int s, .int w] (a, r, nK) (RX P) := by
  by_cases hs : inE s (a T 1)
  · exact VX_X11_banns_0 (.inl ⟨rfl, by decide, c_needStreet hT h3 hs (.inr ⟨rfl, by decide, x_needStreet hT h3 (fun hw => h ⟨hs, hw⟩) hp⟩)⟩)
  · exact VX_X11_banns_0 (.inr ⟨rfl, by decide, x_needStreet hT h3 hs hp⟩)
theorem c_number {P : KI} (hr : Rk r) (hT : isCity T) (h3 : r 0 3 = .ref T) (hs : inE s (a T 1)) (h : inT w 1 (rAt (a (T + 5)) 8 s)) (hp : P (lfNumber (lfRole (a 44) s) w) a r nK) : Sp G (d + 4) 0 0 MX11_number [.ref 0, .int s, .int w] (a, r, nK) (RI P) := by
  refine V_X11_number_0 ⟨rfl, by decide, c_needStreet hT h3 hs ⟨fun h' => absurd h' h.1, fun _ => ⟨rfl, by decide, _, h3, ct0 hT, ctl hT, c_housesOf hr hT ⟨fun h' => absurd h' h.2, fun _ => ⟨rfl, by decide, c_needHouse (by decide) ⟨rfl, by decide, _, rf10 hr, rfl, by decide, c_roleOf hr (Or.inl rfl) (c_numberOf hp)⟩⟩⟩⟩⟩⟩
theorem x_number1 {P : KX} (hT : isCity T) (h3 : r 0 3 = .ref T) (hs : ¬ inE s (a T 1)) (hp : P xNo (bump a 18) r nK) : Sp G (d + 8) 1 6 MX11_number [.ref 0, .int s, .int w] (a, r, nK) (RX P) :=
  VX_X11_number_0 (.inr ⟨rfl, by decide, x_needStreet hT h3 hs hp⟩)
theorem x_number2 {P : KX} (hr : Rk r) (hT : isCity T) (h3 : r 0 3 = .ref T) (hs : inE s (a T 1)) (h : ¬ inT w 1 (rAt (a (T + 5)) 8 s)) (hp : P xIx (bump a 17) r nK) : Sp G (d + 8) 1 6 MX11_number [.ref 0, .int s, .int w] (a, r, nK) (RX P) :=
  VX_X11_number_0 (.inl ⟨rfl, by decide, c_needStreet hT h3 hs ⟨fun _ => .inr ⟨rfl, by decide, x_needHouse hp⟩, fun h1 => ⟨rfl, by decide, _, h3, ct0 hT, ctl hT, c_housesOf hr hT ⟨fun _ => .inr ⟨rfl, by decide, x_needHouse hp⟩, fun h2 => absurd ⟨h1, h2⟩ h⟩⟩⟩⟩)
theorem c_houseWith {P : KI} (hr : Rk r) (hT : isCity T) (h3 : r 0 3 = .ref T) (hp : P (fHouse a T s w) a r nK) : Sp G (d + 2) 0 0 MX11_houseWith [.ref 0, .int s, .int w] (a, r, nK) (RI P) :=
  V_X11_houseWith_0 ⟨rfl, by decide, _, rf10 hr, rfl, by decide, c_roleOf hr (Or.inl rfl) ⟨rfl, by decide, _, h3, ct0 hT, ctl hT, c_housesOf hr hT (c_houseOf hp)⟩⟩
theorem c_greatest {P : KI} (hr : Rk r) (hT : isCity T) (h3 : r 0 3 = .ref T) (hp : P (fLast a T s) a r nK) : Sp G (d + 2) 0 0 MX11_greatestNumber [.ref 0, .int s] (a, r, nK) (RI P) := by
  unfold fLast at hp
  refine V_X11_greatestNumber_0 ⟨rfl, by decide, _, rf10 hr, rfl, by decide, c_roleOf hr (Or.inl rfl) ⟨rfl, by decide, _, h3, ct0 hT, ctl hT, c_housesOf hr hT (c_numberOf ⟨rfl, by decide, _, rf10 hr, rfl, by decide, c_mateOf hr (Or.inl rfl) ⟨fun (h : ¬ lfMate (a 44) s = -1) => ⟨rfl, by decide, _, rf10 hr, rfl, by decide, c_roleOf hr (Or.inl rfl) ⟨rfl, by decide, _, h3, ct0 hT, ctl hT, c_housesOf hr hT (c_numberOf ?_)⟩⟩, fun (h : lfMate (a 44) s = -1) => ?_⟩⟩)⟩⟩
  · rw [if_neg h] at hp; exact hp
  · rw [if_pos h] at hp; exact hp
theorem c_letter {P : KI} (hr : Rk r) (hT : isCity T) (h3 : r 0 3 = .ref T) (hs : inE s (a T 1)) (h : inT w 1 99) (hp : P (fLetter a T s w) a r nK) : Sp G (d + 4) 0 0 MX11_letter [.ref 0, .int s, .int w] (a, r, nK) (RI P) := by
  unfold fLetter at hp
  refine V_X11_letter_0 ⟨rfl, by decide, c_needStreet hT h3 hs ⟨fun h' => absurd h' h.1, fun _ => ⟨fun h' => absurd h' h.2, fun _ => ?_⟩⟩⟩
  refine V_X11_letter_22 ⟨rfl, by decide, c_need (by decide) ⟨rfl, by decide, c_houseWith hr hT h3 ⟨fun h1 => ⟨rfl, by decide, _, rf10 hr, rfl, by decide, c_mateOf hr (Or.inl rfl) ⟨fun (h2 : ¬ lfMate (a 44) s = -1) => ⟨rfl, by decide, c_houseWith hr hT h3 ⟨fun (h3 : fHouse a T (lfMate (a 44) s) w ≤ 0) => ?_, fun (h3 : ¬ fHouse a T (lfMate (a 44) s) w ≤ 0) => ?_⟩⟩, fun (h2 : lfMate (a 44) s = -1) => ⟨fun _ => ?_, fun h' => absurd (by decide) h'⟩⟩⟩, fun h1 => ?_⟩⟩⟩
  · rw [if_pos h1, if_neg h2, if_pos h3] at hp; exact hp
  · rw [if_pos h1, if_neg h2, if_neg h3] at hp; exact hp
  · rw [if_pos h1, if_pos h2] at hp; exact hp
  · rw [if_neg h1] at hp; exact hp
theorem x_letter1 {P : KX} (hT : isCity T) (h3 : r 0 3 = .ref T) (hs : ¬ inE s (a T 1)) (hp : P xNo (bump a 18) r nK) : Sp G (d + 8) 1 6 MX11_letter [.ref 0, .int s, .int w] (a, r, nK) (RX P) :=
  VX_X11_letter_0 (.inr ⟨rfl, by decide, x_needStreet hT h3 hs hp⟩)
theorem x_letter2 {P : KX} (hT : isCity T) (h3 : r 0 3 = .ref T) (hs : inE s (a T 1)) (h : ¬ inT w 1 99) (hp : P xIl (bump a 19) r nK) : Sp G (d + 8) 1 6 MX11_letter [.ref 0, .int s, .int w] (a, r, nK) (RX P) :=
  VX_X11_letter_0 (.inl ⟨rfl, by decide, c_needStreet hT h3 hs ⟨fun _ => VX_X11_letter_22 (.inr ⟨rfl, by decide, x_need hp⟩), fun h1 => ⟨fun _ => VX_X11_letter_22 (.inr ⟨rfl, by decide, x_need hp⟩), fun h2 => absurd ⟨h1, h2⟩ h⟩⟩⟩)
theorem c_last {P : KI} (hr : Rk r) (hT : isCity T) (h3 : r 0 3 = .ref T) (hs : inE s (a T 1)) (hp : P (fLast a T s) a r nK) : Sp G (d + 4) 0 0 MX11_last [.ref 0, .int s] (a, r, nK) (RI P) :=
  V_X11_last_0 ⟨rfl, by decide, c_needStreet hT h3 hs ⟨rfl, by decide, c_greatest hr hT h3 hp⟩⟩
theorem x_last {P : KX} (hT : isCity T) (h3 : r 0 3 = .ref T) (hs : ¬ inE s (a T 1)) (hp : P xNo (bump a 18) r nK) : Sp G (d + 8) 1 6 MX11_last [.ref 0, .int s] (a, r, nK) (RX P) :=
  VX_X11_last_0 (.inr ⟨rfl, by decide, x_needStreet hT h3 hs hp⟩)
theorem c_missing {P : KI} (hr : Rk r) (hT : isCity T) (h3 : r 0 3 = .ref T) (hs : inE s (a T 1)) (hp : P (fMissing a T s) a r nK) : Sp G (d + 4) 0 0 MX11_missing [.ref 0, .int s] (a, r, nK) (RI P) := by
  unfold fMissing at hp
  refine V_X11_missing_0 ⟨rfl, by decide, c_needStreet hT h3 hs ⟨rfl, by decide, _, rf10 hr, rfl, by decide, c_mateOf hr (Or.inl rfl) ⟨rfl, by decide, _, h3, ct0 hT, ctl hT, c_housesOf hr hT ⟨fun (h : ¬ lfMate (a 44) s = -1) => ⟨rfl, by decide, _, h3, ct0 hT, ctl hT, c_housesOf hr hT ⟨rfl, by decide, c_greatest hr hT h3 ?_⟩⟩, fun (h : lfMate (a 44) s = -1) => ⟨rfl, by decide, c_greatest hr hT h3 ?_⟩⟩⟩⟩⟩
  · rw [if_neg h] at hp; exact hp
  · rw [if_pos h] at hp; exact hp
theorem x_missing {P : KX} (hT : isCity T) (h3 : r 0 3 = .ref T) (hs : ¬ inE s (a T 1)) (hp : P xNo (bump a 18) r nK) : Sp G (d + 8) 1 6 MX11_missing [.ref 0, .int s] (a, r, nK) (RX P) :=
  VX_X11_missing_0 (.inr ⟨rfl, by decide, x_needStreet hT h3 hs hp⟩)
end ST
