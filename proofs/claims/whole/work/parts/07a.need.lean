/-! Main: what throws; the tape; simple queries -/
def xNo : String := "java/util/NoSuchElementException"
def xIl : String := "java/lang/IllegalArgumentException"
def xIx : String := "java/lang/IndexOutOfBoundsException"
def inE (s n : Int32) : Prop := ¬ s < 0 ∧ ¬ n ≤ s
theorem inE_not {s n : Int32} (h : ¬ inE s n) : s < 0 ∨ (¬ s < 0 ∧ n ≤ s) := by
  unfold inE at h
  by_cases h1 : s < 0
  · exact .inl h1
  · by_cases h2 : n ≤ s
    · exact .inr ⟨h1, h2⟩
    · exact absurd ⟨h1, h2⟩ h
def bump (a : IA) (j : Nat) : IA := u2 a 0 j (a 0 j + 1)
section ND
variable {G : GE} {d C S : Nat} {a : IA} {r : RA} {N T : Nat} {s s1 : Int32}
theorem c_need {P : KN} (h : ¬ s = 0) (hp : P a r N) : Sp G (d + 1) 0 0 MX11_need [.ref 0, .int s] (a, r, N) (RN P) := V_X11_need_0 ⟨fun _ => hp, fun h' => absurd h' h⟩
theorem x_need {P : KX} (hp : P xIl (bump a 19) r nK) : Sp G (d + 6) 1 6 MX11_need [.ref 0, .int 0] (a, r, nK) (RX P) := VX_X11_need_0 ⟨fun h => absurd rfl h, fun _ => ⟨rfl, by decide, rfl, by decide, fun a1 h1 => ⟨rfl, by subst h1; exact hp⟩⟩⟩
theorem c_needElement {P : KN} (h : ¬ s = 0) (hp : P a r N) : Sp G (d + 1) 0 0 MX11_needElement [.ref 0, .int s] (a, r, N) (RN P) := V_X11_needElement_0 ⟨fun _ => hp, fun h' => absurd h' h⟩
theorem x_needElement {P : KX} (hp : P xNo (bump a 18) r nK) : Sp G (d + 6) 1 6 MX11_needElement [.ref 0, .int 0] (a, r, nK) (RX P) := VX_X11_needElement_0 ⟨fun h => absurd rfl h, fun _ => ⟨rfl, by decide, rfl, by decide, fun a1 h1 => ⟨rfl, by subst h1; exact hp⟩⟩⟩
theorem c_needHouse {P : KN} (h : ¬ s = 0) (hp : P a r N) : Sp G (d + 1) 0 0 MX11_needHouse [.ref 0, .int s] (a, r, N) (RN P) := V_X11_needHouse_0 ⟨fun _ => hp, fun h' => absurd h' h⟩
theorem x_needHouse {P : KX} (hp : P xIx (bump a 17) r nK) : Sp G (d + 6) 1 6 MX11_needHouse [.ref 0, .int 0] (a, r, nK) (RX P) := VX_X11_needHouse_0 ⟨fun h => absurd rfl h, fun _ => ⟨rfl, by decide, rfl, by decide, fun a1 h1 => ⟨rfl, by subst h1; exact hp⟩⟩⟩
theorem c_needStreet {P : KN} (hT : isCity T) (h3 : r 0 3 = .ref T) (h : inE s (a T 1)) (hp : P a r nK) : Sp G (d + 2) 0 0 MX11_needStreet [.ref 0, .int s] (a, r, nK) (RN P) :=
  V_X11_needStreet_0 ⟨fun h' => absurd h' h.1, fun _ => ⟨rfl, by decide, _, h3, ct0 hT, ctl hT, fun h' => absurd h' h.2, fun _ => ⟨rfl, by decide, c_needElement (by decide) hp⟩⟩⟩
theorem x_needStreet {P : KX} (hT : isCity T) (h3 : r 0 3 = .ref T) (h : ¬ inE s (a T 1)) (hp : P xNo (bump a 18) r nK) : Sp G (d + 7) 1 6 MX11_needStreet [.ref 0, .int s] (a, r, nK) (RX P) :=
  VX_X11_needStreet_0 ⟨fun _ => .inr ⟨rfl, by decide, x_needElement hp⟩, fun h1 => ⟨rfl, by decide, _, h3, ct0 hT, ctl hT, fun _ => .inr ⟨rfl, by decide, x_needElement hp⟩, fun h2 => absurd ⟨h1, h2⟩ h⟩⟩
theorem c_needCorner {P : KN} (hT : isCity T) (h3 : r 0 3 = .ref T) (h : inE s (a T 0)) (hp : P a r nK) : Sp G (d + 2) 0 0 MX11_needCorner [.ref 0, .int s] (a, r, nK) (RN P) :=
  V_X11_needCorner_0 ⟨fun h' => absurd h' h.1, fun _ => ⟨rfl, by decide, _, h3, ct0 hT, ctl hT, fun h' => absurd h' h.2, fun _ => ⟨rfl, by decide, c_needElement (by decide) hp⟩⟩⟩
theorem x_needCorner {P : KX} (hT : isCity T) (h3 : r 0 3 = .ref T) (h : ¬ inE s (a T 0)) (hp : P xNo (bump a 18) r nK) : Sp G (d + 7) 1 6 MX11_needCorner [.ref 0, .int s] (a, r, nK) (RX P) :=
  VX_X11_needCorner_0 ⟨fun _ => .inr ⟨rfl, by decide, x_needElement hp⟩, fun h1 => ⟨rfl, by decide, _, h3, ct0 hT, ctl hT, fun _ => .inr ⟨rfl, by decide, x_needElement hp⟩, fun h2 => absurd ⟨h1, h2⟩ h⟩⟩
/-! told -/
def fTold (a : IA) (T M : Nat) (s : Int32) : Int32 := if s = 0 then a T 0 else if s = 1 then a T 1 else if s = 2 then a T 2 else if s = 3 then rAt (a 44) 42 40 else if s = 4 then sI (fun i => if lfRole (a 44) (nI i) = 1 then 1 else 0) 8 else if s = 5 then sI (fun i => lfTrees (a 44) (nI i)) 8 else if s = 6 then sI (fun i => lfHoles (a 44) (nI i)) 8 else if s = 7 then a M 2 else if s = 8 then a 0 16 else rAt (a 44) 42 41
def inT (s lo hi : Int32) : Prop := ¬ s < lo ∧ ¬ hi < s
theorem c_told {P : KI} {M : Nat} (hr : Rk r) (hT : isCity T) (hM : isMail M) (h3 : r 0 3 = .ref T) (h7 : r 0 7 = .ref M) (h : inT s 0 9) (hp : P (fTold a T M s) a r nK) : Sp G (d + 4) 0 0 MX11_told [.ref 0, .int s] (a, r, nK) (RI P) := by
  unfold fTold at hp
  refine V_X11_told_0 ⟨fun h' => absurd h' h.1, fun _ => ⟨fun h' => absurd h' h.2, fun _ => ?_⟩⟩
  refine V_X11_told_16 ⟨rfl, by decide, c_need (by decide) ?_⟩
  refine ⟨fun e => ?_, fun e0 => ⟨fun e => ?_, fun e1 => ⟨fun e => ?_, fun e2 => ⟨fun e => ?_, fun e3 => ⟨fun e => ?_, fun e4 => ⟨fun e => ?_, fun e5 => ⟨fun e => ?_, fun e6 => ⟨fun e => ?_, fun e7 => ⟨fun e => ?_, fun e8 => ?_⟩⟩⟩⟩⟩⟩⟩⟩⟩
  · rw [if_pos e] at hp; exact ⟨rfl, by decide, _, h3, ct0 hT, ctl hT, hp⟩
  · rw [if_neg e0, if_pos e] at hp; exact ⟨rfl, by decide, _, h3, ct0 hT, ctl hT, hp⟩
  · rw [if_neg e0, if_neg e1, if_pos e] at hp; exact ⟨rfl, by decide, _, h3, ct0 hT, ctl hT, hp⟩
  · rw [if_neg e0, if_neg e1, if_neg e2, if_pos e] at hp; exact ⟨rfl, by decide, _, hr.at (by decide), rfl, by decide, c_yearNow hr (Or.inl rfl) hp⟩
  · rw [if_neg e0, if_neg e1, if_neg e2, if_neg e3, if_pos e] at hp; exact ⟨rfl, by decide, _, hr.at (by decide), rfl, by decide, c_couples hr (Or.inl rfl) hp⟩
  · rw [if_neg e0, if_neg e1, if_neg e2, if_neg e3, if_neg e4, if_pos e] at hp; exact ⟨rfl, by decide, _, hr.at (by decide), rfl, by decide, c_allTrees hr (Or.inl rfl) hp⟩
  · rw [if_neg e0, if_neg e1, if_neg e2, if_neg e3, if_neg e4, if_neg e5, if_pos e] at hp; exact ⟨rfl, by decide, _, hr.at (by decide), rfl, by decide, c_allHoles hr (Or.inl rfl) hp⟩
  · rw [if_neg e0, if_neg e1, if_neg e2, if_neg e3, if_neg e4, if_neg e5, if_neg e6, if_pos e] at hp; exact ⟨rfl, by decide, _, h7, by rcases hM with rfl | rfl <;> rfl, by rcases hM with rfl | rfl <;> decide, hp⟩
  · rw [if_neg e0, if_neg e1, if_neg e2, if_neg e3, if_neg e4, if_neg e5, if_neg e6, if_neg e7, if_pos e] at hp; exact ⟨rfl, by decide, hp⟩
  · rw [if_neg e0, if_neg e1, if_neg e2, if_neg e3, if_neg e4, if_neg e5, if_neg e6, if_neg e7, if_neg e8] at hp; exact ⟨rfl, by decide, _, hr.at (by decide), rfl, by decide, c_partedSoFar hr (Or.inl rfl) hp⟩
theorem x_told {P : KX} (h : ¬ inT s 0 9) (hp : P xIl (bump a 19) r nK) : Sp G (d + 7) 1 6 MX11_told [.ref 0, .int s] (a, r, nK) (RX P) := by
  refine VX_X11_told_0 ⟨fun _ => VX_X11_told_16 (.inr ⟨rfl, by decide, x_need hp⟩), fun h1 => ⟨fun _ => VX_X11_told_16 (.inr ⟨rfl, by decide, x_need hp⟩), fun h2 => absurd ⟨h1, h2⟩ h⟩⟩
end ND
