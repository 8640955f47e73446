/-! Main: feed, the text's opening, undo, image, restore, status, count, fault -/
def bOf (v sh : Int32) : Int32 := vp_nar .byte (((((v).toUInt32 >>> (((sh : Int32)).toUInt32 &&& Int32.toUInt32 31)).toInt32) : Int32).toInt8.toInt32)
def tpB (a : IA) (t : Nat) (b : Int32) : IA := u2 (u2 a 1 t b) 0 1 (nI (t + 1))
def tp4 (a : IA) (t : Nat) (v : Int32) : IA := tpB (tpB (tpB (tpB a t (bOf v 24)) (t + 1) (bOf v 16)) (t + 2) (bOf v 8)) (t + 3) (bOf v 0)
def tp20 (a : IA) (t : Nat) (v1 v2 v3 v4 v5 : Int32) : IA := tp4 (tp4 (tp4 (tp4 (tp4 a t v1) (t + 4) v2) (t + 8) v3) (t + 12) v4) (t + 16) v5
def txo (f : Nat → Int32) (s : Int32) : Nat → Int32 := upd (upd (upd (upd (upd f 1 s) 2 0) 3 0) 4 0) 5 (-1)
def opOK (a : IA) (s m : Int32) : Prop := ¬ s < 0 ∧ ¬ a 0 1 < s ∧ ¬ m < s
def opn (a : IA) (s : Int32) : IA := u2 (va_up a 2 (txo (a 2) s)) 0 1 0
def fSt (a : IA) (w : Int32) : Int32 := if w = 0 then a 0 17 else if w = 1 then a 0 18 else if w = 2 then a 0 19 else -1
def fCo (a : IA) (w : Int32) : Int32 := if w = 0 then a 47 3 else if w = 1 then a 0 1 else if w = 2 then a 47 2 else -1
section TP
variable {G : GE} {d C S : Nat} {a : IA} {r : RA} {t i k : Nat} {s w v m : Int32}
theorem tpB_t {b : Int32} : tpB a t b 0 1 = nI (t + 1) := by unfold tpB; rw [u2_eq]
theorem tp4_t : tp4 a t v 0 1 = nI (t + 4) := tpB_t
theorem l_tape {P : KN} (hr : Rk r) (ht : a 0 1 = nI t) (h6 : t < 600) (hs : ¬ s < 0) (hp : E G MX11_tapeFour d C S 3 [.ref 0, .int v, .int (s + (-8))] [] (tpB a t (bOf v s), r, nK) (RN P)) : E G MX11_tapeFour d C S 3 [.ref 0, .int v, .int s] [] (a, r, nK) (RN P) := by
  refine V_X11_tapeFour_3 ⟨fun h => absurd h hs, fun _ => ⟨rfl, by decide, fun h => absurd h (by rw [ht]; exact nI_pos (by omega)), fun _ => ⟨rfl, by decide, rfl, by decide, 1, rf5 hr (by decide) rfl, Or.inr rfl, by decide, fun h => absurd h (by rw [ht]; exact nI_ge (b := 600) h6 (by decide)), fun _ => ⟨rfl, by decide, 1, rf5 hr (by decide) rfl, rfl, by decide, rfl, by decide, ?_, fun a3 h3 => ⟨rfl, by decide, rfl, by decide, fun a4 h4 => ?_⟩⟩⟩⟩⟩
  · rw [ht]
    exact in_nI (n := 600) (by decide) (nI_pos (by omega)) (nI_ge (b := 600) h6 (by decide))
  · subst h3
    rw [u2_off 0 (by decide), ht, nI_clamp (by omega), nI_1] at h4
    subst h4
    exact hp
theorem c_tapeFour {P : KN} (hr : Rk r) (ht : a 0 1 = nI t) (h6 : t + 4 ≤ 600) (hp : P (tp4 a t v) r nK) : Sp G d 0 0 MX11_tapeFour [.ref 0, .int v] (a, r, nK) (RN P) := by
  refine V_X11_tapeFour_0 (l_tape hr ht (by omega) (by decide) ?_)
  rw [show (24 : Int32) + (-8) = 16 by decide]
  refine l_tape hr tpB_t (by omega) (by decide) ?_
  rw [show (16 : Int32) + (-8) = 8 by decide]
  refine l_tape hr tpB_t (by omega) (by decide) ?_
  rw [show (8 : Int32) + (-8) = 0 by decide]
  refine l_tape hr tpB_t (by omega) (by decide) (V_X11_tapeFour_3 ⟨fun _ => hp, fun h => absurd (by decide) h⟩)
theorem c_feed {P : KI} {v1 v2 v3 v4 v5 : Int32} (hr : Rk r) (ht : a 0 1 = nI t) (h6 : t ≤ 600) (h1 : t + 20 ≤ 600 → P (nI (t + 20)) (tp20 a t v1 v2 v3 v4 v5) r nK) (h2 : ¬ t + 20 ≤ 600 → P (-1) a r nK) : Sp G (d + 1) 0 0 MX11_feed [.ref 0, .int v1, .int v2, .int v3, .int v4, .int v5] (a, r, nK) (RI P) := by
  have e20 : a 0 1 + 20 = nI (t + 20) := by rw [ht]; exact nI_add t 20
  refine V_X11_feed_0 ⟨rfl, by decide, ?_⟩
  rw [e20]
  refine ⟨fun h => ?_, fun h => ?_⟩
  · have h' : t + 20 ≤ 600 := (nI_leI (b := 600) (by omega) (by decide)).mp h
    refine ⟨rfl, by decide, c_tapeFour hr ht (by omega) ⟨rfl, by decide, c_tapeFour hr tp4_t (by omega) ⟨rfl, by decide, c_tapeFour hr tp4_t (by omega) ⟨rfl, by decide, c_tapeFour hr tp4_t (by omega) ⟨rfl, by decide, c_tapeFour hr tp4_t (by omega) ⟨rfl, by decide, ?_⟩⟩⟩⟩⟩⟩
    rw [tp4_t]
    exact h1 h'
  · exact h2 (fun z => h (nI_le (b := 600) z (by decide)))
theorem c_open {P : KN} (hr : Rk r) (h : ¬ 600 < s) (hp : P (va_up a 2 (txo (a 2) s)) r nK) : Sp G (d + 1) 0 0 MX10_open [.ref 2, .int s] (a, r, nK) (RN P) := by
  refine V_X10_open_0 ⟨rfl, by decide, 1, rf5 hr (by decide) rfl, Or.inr rfl, by decide, rfl, by decide, fun a2 h2 => ⟨rfl, by decide, fun a3 h3 => ⟨rfl, by decide, fun a4 h4 => ⟨rfl, by decide, fun a5 h5 => ⟨rfl, by decide, fun a6 h6 => ?_⟩⟩⟩⟩⟩
  have e : (if (Int32.ofNat (tyK 1).2) < s then (Int32.ofNat (tyK 1).2) else s) = s := if_neg h
  rw [e] at h2
  have e6 : a6 = va_up a 2 (txo (a 2) s) := by
    subst h2 h3 h4 h5 h6
    unfold u2 txo
    simp only [va_up_self, bx_uu]
  rw [e6]
  exact hp
theorem c_answer {P : KI} (hp : P (a 2 4 - 10) a r nK) : Sp G d 0 0 MX10_answer [.ref 2] (a, r, nK) (RI P) := V_X10_answer_0 ⟨rfl, by decide, hp⟩
theorem c_openText {P : KN} (hr : Rk r) (h : opOK a s m) (hm : ¬ 600 < s) (hp : P (opn a s) r nK) : Sp G (d + 2) 0 0 MX11_openText [.ref 0, .int s, .int m] (a, r, nK) (RN P) := by
  refine V_X11_openText_0 ⟨fun e => absurd e h.1, fun _ => ⟨rfl, by decide, fun e => absurd e h.2.1, fun _ => ⟨fun e => absurd e h.2.2, fun _ => ⟨rfl, by decide, c_need (by decide) ⟨rfl, by decide, 2, rf5 hr (by decide) rfl, rfl, by decide, c_open hr hm ⟨rfl, by decide, fun a3 h3 => ?_⟩⟩⟩⟩⟩⟩
  subst h3
  exact hp
theorem x_openText {P : KX} (h : ¬ opOK a s m) (hp : P xIl (bump a 19) r nK) : Sp G (d + 7) 1 6 MX11_openText [.ref 0, .int s, .int m] (a, r, nK) (RX P) :=
  VX_X11_openText_0 ⟨fun _ => .inr ⟨rfl, by decide, x_need hp⟩, fun h1 => ⟨rfl, by decide, fun _ => .inr ⟨rfl, by decide, x_need hp⟩, fun h2 => ⟨fun _ => .inr ⟨rfl, by decide, x_need hp⟩, fun h3 => absurd ⟨h1, h2, h3⟩ h⟩⟩⟩
theorem c_status {P : KI} (hp : P (fSt a w) a r nK) : Sp G d 0 0 MX11_status [.ref 0, .int w] (a, r, nK) (RI P) := by
  unfold fSt at hp
  refine V_X11_status_0 ⟨fun e0 => ⟨rfl, by decide, ?_⟩, fun e0 => ⟨fun e1 => ⟨rfl, by decide, ?_⟩, fun e1 => ⟨fun e2 => ⟨rfl, by decide, ?_⟩, fun e2 => ?_⟩⟩⟩
  · rw [if_pos e0] at hp; exact hp
  · rw [if_neg e0, if_pos e1] at hp; exact hp
  · rw [if_neg e0, if_neg e1, if_pos e2] at hp; exact hp
  · rw [if_neg e0, if_neg e1, if_neg e2] at hp; exact hp
theorem rf12 {r : RA} (hr : Rk r) : r 0 12 = .ref 47 := hr.at (by decide)
theorem c_count {P : KI} (hr : Rk r) (hp : P (fCo a w) a r nK) : Sp G d 0 0 MX11_count [.ref 0, .int w] (a, r, nK) (RI P) := by
  unfold fCo at hp
  refine V_X11_count_0 ⟨fun e0 => ⟨rfl, by decide, 47, rf12 hr, rfl, by decide, ?_⟩, fun e0 => ⟨fun e1 => ⟨rfl, by decide, ?_⟩, fun e1 => ⟨fun e2 => ⟨rfl, by decide, 47, rf12 hr, rfl, by decide, ?_⟩, fun e2 => ?_⟩⟩⟩
  · rw [if_pos e0] at hp; exact hp
  · rw [if_neg e0, if_pos e1] at hp; exact hp
  · rw [if_neg e0, if_neg e1, if_pos e2] at hp; exact hp
  · rw [if_neg e0, if_neg e1, if_neg e2] at hp; exact hp
theorem c_fault {P : KI} (hr : Rk r) (hp : P (a 2 5) a r nK) : Sp G d 0 0 MX11_fault [.ref 0] (a, r, nK) (RI P) :=
  V_X11_fault_0 ⟨rfl, by decide, 2, rf5 hr (by decide) rfl, rfl, by decide, hp⟩
theorem c_undo {P : KI} (hr : Rk r) (hw : a 47 2 = nI k) (h16 : k ≤ 16) (h0 : k = 0 → P (-1) a r nK) (h1 : 0 < k → P (nI (k - 1)) (u2 (lgTake a (k - 1)) 0 16 0) r nK) : Sp G (d + 4) 0 0 MX11_undo [.ref 0] (a, r, nK) (RI P) := by
  refine V_X11_undo_0 ⟨rfl, by decide, 47, rf12 hr, rfl, by decide, 43, rf10 hr, rfl, by decide, c_takeWorkBack hr hw h16 (fun e => ⟨fun z => absurd rfl z, fun _ => h0 e⟩) (fun e => ⟨fun _ => ⟨rfl, by decide, fun a7 h7 => ⟨rfl, by decide, 47, rf12 hr, rfl, by decide, ?_⟩⟩, fun z => absurd z (by decide)⟩)⟩
  subst h7
  rw [u2_off 47 (by decide)]
  have : lgTake a (k - 1) 47 2 = nI (k - 1) := by unfold lgTake; rw [va_up_ne _ _ (by decide), u2_eq]
  rw [this]
  exact h1 e
theorem c_image {P : KI} (hr : Rk r) (hw : a 47 2 = nI k) (h16 : k ≤ 16) (hi : a 47 3 = nI i) (h3 : i ≤ 3) (h0 : i = 3 → P (-1) a r nK) (h1 : i < 3 → P (nI (i + 1)) (lgImage a k i) r nK) : Sp G (d + 4) 0 0 MX11_image [.ref 0] (a, r, nK) (RI P) := by
  refine V_X11_image_0 ⟨rfl, by decide, 47, rf12 hr, rfl, by decide, 43, rf10 hr, rfl, by decide, c_keepImage hr hw h16 hi h3 (fun e => ⟨fun _ => h0 e, fun z => absurd rfl z⟩) (fun e => ⟨fun z => absurd z (by decide), fun _ => ⟨rfl, by decide, 47, rf12 hr, rfl, by decide, ?_⟩⟩)⟩
  have : lgImage a k i 47 3 = nI (i + 1) := by unfold lgImage; rw [u2_eq]
  rw [this]
  exact h1 e
theorem c_restore {P : KI} (hr : Rk r) (hi : a 47 3 = nI i) (h3 : i ≤ 3) (hwk : 0 < i → a 49 ((i - 1) * 715) = nI k) (h16 : k ≤ 16) (h0 : i = 0 → P (-1) a r nK) (h1 : 0 < i → P (nI (i - 1)) (u2 (lgBack a k (i - 1)) 0 16 0) r nK) : Sp G (d + 4) 0 0 MX11_restore [.ref 0] (a, r, nK) (RI P) := by
  refine V_X11_restore_0 ⟨rfl, by decide, 47, rf12 hr, rfl, by decide, 43, rf10 hr, rfl, by decide, c_takeImageBack hr hi h3 (fun e => ⟨fun z => absurd rfl z, fun _ => h0 e⟩) hwk h16 (fun e => ⟨fun _ => ⟨rfl, by decide, fun a7 h7 => ⟨rfl, by decide, 47, rf12 hr, rfl, by decide, ?_⟩⟩, fun z => absurd z (by decide)⟩)⟩
  subst h7
  rw [u2_off 47 (by decide)]
  have : lgBack a k (i - 1) 47 3 = nI (i - 1) := by
    unfold lgBack
    rw [va_up_ne _ _ (by decide), va_up_ne _ _ (by decide), u2_ne (by decide), u2_eq]
  rw [this]
  exact h1 e
end TP
