/-! Ledger, Dowries -/
theorem nI_mul (x y : Nat) : nI x * nI y = nI (x * y) := by
  unfold nI
  exact (Int32.ofNat_mul x y).symm
theorem lg_k {r : RA} (hr : Rk r) : tyK 47 = (0, 3) ∧ tyK 48 = (1, 672) ∧ tyK 49 = (1, 2145) ∧ r 47 0 = .ref 48 ∧ r 47 1 = .ref 49 := ⟨rfl, rfl, rfl, hr.at (by decide), hr.at (by decide)⟩
def lgKeep (a : IA) (w : Nat) : IA := u2 (va_up a 48 (fun j => if w * 42 ≤ j ∧ j < w * 42 + 42 then a 44 (j - w * 42) else a 48 j)) 47 2 (nI (w + 1))
def lgTake (a : IA) (w : Nat) : IA := va_up (u2 a 47 2 (nI w)) 44 (fun j => if j < 42 then a 48 (w * 42 + j) else a 44 j)
def im1 (a : IA) (w i : Nat) : Nat → Int32 := upd (a 49) (i * 715) (nI w)
def im2 (a : IA) (w i : Nat) : Nat → Int32 := fun j => if i * 715 + 1 ≤ j ∧ j < i * 715 + 1 + 42 then a 44 (j - (i * 715 + 1)) else im1 a w i j
def im3 (a : IA) (w i : Nat) : Nat → Int32 := fun j => if i * 715 + 43 ≤ j ∧ j < i * 715 + 43 + w * 42 then a 48 (j - (i * 715 + 43)) else im2 a w i j
def lgImage (a : IA) (w i : Nat) : IA := u2 (va_up a 49 (im3 a w i)) 47 3 (nI (i + 1))
def lgBack (a : IA) (w i : Nat) : IA := va_up (va_up (u2 (u2 a 47 3 (nI i)) 47 2 (nI w)) 44 (fun j => if j < 42 then a 49 (i * 715 + 1 + j) else a 44 j)) 48 (fun j => if j < w * 42 then a 49 (i * 715 + 43 + j) else a 48 j)
section LG
variable {G : GE} {d C S : Nat} {a : IA} {r : RA} {w i : Nat}
theorem c_ledgerClear {P : KN} (hp : P (u2 (u2 a 47 2 0) 47 3 0) r nK) : Sp G d 0 0 MX3_clear [.ref 47] (a, r, nK) (RN P) :=
  V_X3_clear_0 ⟨rfl, by decide, fun a1 h1 => ⟨rfl, by decide, fun a2 h2 => by subst h1 h2; exact hp⟩⟩
theorem c_ledgerFull {P : KI} (hw : a 47 2 = nI w) (hw16 : w ≤ 16) (hp : P (if w < 16 then 0 else 1) a r nK) : Sp G d 0 0 MX3_isFull [.ref 47] (a, r, nK) (RI P) := by
  refine V_X3_isFull_0 ⟨rfl, by decide, fun h => ⟨bz_0, ?_⟩, fun h => ⟨bz_1, ?_⟩⟩
  · rw [hw] at h
    rw [if_pos ((nI_ltI (b := 16) (by omega) (by decide)).mp h)] at hp; exact hp
  · rw [hw] at h
    rw [if_neg (fun z => h ((nI_ltI (b := 16) (by omega) (by decide)).mpr z))] at hp; exact hp
theorem c_keepWork {P : KN} (hr : Rk r) (hw : a 47 2 = nI w) (hw16 : w < 16) (hp : P (lgKeep a w) r nK) : Sp G (d + 3) 0 0 MX3_keepWork [.ref 47, .ref 43] (a, r, nK) (RN P) := by
  obtain ⟨t0, t1, t2, e1, e2⟩ := lg_k hr
  have em : a 47 2 * 42 = nI (w * 42) := by rw [hw]; exact nI_mul w 42
  refine V_X3_keepWork_0 ⟨t0, by decide, _, e1, t0, by decide, rfl, by decide, ?_⟩
  rw [em]
  refine c_saveTo hr (Or.inl rfl) t1 (by decide) (by decide) (by decide) (by omega) ⟨t0, by decide, t0, by decide, fun a5 h5 => ?_⟩
  rw [va_up_ne _ _ (by decide), hw, nI_1] at h5
  subst h5
  exact hp
theorem c_takeWorkBack {P : KI} (hr : Rk r) (hw : a 47 2 = nI w) (hw16 : w ≤ 16) (h0 : w = 0 → P 0 a r nK) (h1 : 0 < w → P 1 (lgTake a (w - 1)) r nK) : Sp G (d + 3) 0 0 MX3_takeWorkBack [.ref 47, .ref 43] (a, r, nK) (RI P) := by
  obtain ⟨t0, t1, t2, e1, e2⟩ := lg_k hr
  refine V_X3_takeWorkBack_0 ⟨t0, by decide, fun h => ⟨t0, by decide, t0, by decide, fun a1 ha => ⟨t0, by decide, _, e1, t0, by decide, rfl, by decide, ?_⟩⟩, fun h => ⟨bz_0, ?_⟩⟩
  · rw [hw] at h ha
    have hw0 : 0 < w := (nI_ltI (a := 0) (by decide) (by omega)).mp h
    obtain ⟨v, rfl⟩ : ∃ v, w = v + 1 := ⟨w - 1, by omega⟩
    rw [nI_pred] at ha
    subst ha
    have em : u2 a 47 2 (nI v) 47 2 * 42 = nI (v * 42) := by rw [u2_eq]; exact nI_mul v 42
    rw [em]
    refine c_loadFrom hr (Or.inl rfl) t1 (by decide) (by decide) (by decide) (by omega) ⟨bz_1, ?_⟩
    rw [u2_off 48 (by decide), show (43 : Nat) + 1 = 44 from rfl, u2_off 44 (by decide)]
    exact h1 (by omega)
  · rw [hw] at h
    have : ¬ 0 < w := fun z => h (nI_lt (a := 0) z (by omega))
    exact h0 (by omega)
theorem c_keepImage {P : KI} (hr : Rk r) (hw : a 47 2 = nI w) (hw16 : w ≤ 16) (hi : a 47 3 = nI i) (hi3 : i ≤ 3) (h0 : i = 3 → P 0 a r nK) (h1 : i < 3 → P 1 (lgImage a w i) r nK) : Sp G (d + 3) 0 0 MX3_keepImage [.ref 47, .ref 43] (a, r, nK) (RI P) := by
  obtain ⟨t0, t1, t2, e1, e2⟩ := lg_k hr
  refine V_X3_keepImage_0 ⟨t0, by decide, fun h => ⟨t0, by decide, t0, by decide, _, e2, t0, by decide, ?_⟩, fun h => ⟨bz_0, ?_⟩⟩
  · rw [hi] at h
    have hi2 : i < 3 := (nI_ltI (b := 3) (by omega) (by decide)).mp h
    have em : a 47 3 * 715 = nI (i * 715) := by rw [hi]; exact nI_mul i 715
    rw [em, hw]
    refine c_put t2 (by decide) (by decide) ⟨t0, by decide, _, e2, rfl, by decide, ?_⟩
    rw [nI_1, rPut_nI _ (by decide) (by omega)]
    refine c_saveTo hr (Or.inl rfl) t2 (by decide) (by decide) (by decide) (by omega) ⟨t0, by decide, _, e1, t0, by decide, _, e2, t0, by decide, ?_⟩
    have em2 : ∀ z : Nat → Int32, ∀ y : Nat → Int32, va_up (va_up a 49 y) 49 z 47 2 * 42 = nI (w * 42) := fun z y => by rw [va_up_ne _ _ (by decide), va_up_ne _ _ (by decide), hw]; exact nI_mul w 42
    have e43 : nI (i * 715 + 1) + 42 = nI (i * 715 + 43) := nI_add _ 42
    rw [em2, e43]
    refine c_copy (i1 := 0) (i2 := i * 715 + 43) (m := w * 42) t1 t2 (by decide) (by decide) (by decide) (by decide) (by decide) (by omega) (by omega) ⟨t0, by decide, t0, by decide, fun a9 h9 => ⟨bz_1, ?_⟩⟩
    have em3 : ∀ y1 y2 y3 : Nat → Int32, va_up (va_up (va_up a 49 y1) 49 y2) 49 y3 47 3 = nI i := fun y1 y2 y3 => by rw [va_up_ne _ _ (by decide), va_up_ne _ _ (by decide), va_up_ne _ _ (by decide), hi]
    rw [em3, nI_1] at h9
    subst h9
    have e : (fun j => if i * 715 + 43 ≤ j ∧ j < i * 715 + 43 + w * 42 then va_up (va_up a 49 (upd (a 49) (i * 715) (nI w))) 49 (fun j => if i * 715 + 1 ≤ j ∧ j < i * 715 + 1 + 42 then va_up a 49 (upd (a 49) (i * 715) (nI w)) (43 + 1) (j - (i * 715 + 1)) else va_up a 49 (upd (a 49) (i * 715) (nI w)) 49 j) 48 (0 + (j - (i * 715 + 43))) else va_up (va_up a 49 (upd (a 49) (i * 715) (nI w))) 49 (fun j => if i * 715 + 1 ≤ j ∧ j < i * 715 + 1 + 42 then va_up a 49 (upd (a 49) (i * 715) (nI w)) (43 + 1) (j - (i * 715 + 1)) else va_up a 49 (upd (a 49) (i * 715) (nI w)) 49 j) 49 j) = im3 a w i := by
      funext j
      unfold im3 im2 im1
      simp only [va_up_self, va_up_ne _ _ (show (48 : Nat) ≠ 49 by decide), va_up_ne _ _ (show (43 + 1 : Nat) ≠ 49 by decide), Nat.zero_add]
    rw [e, bx_uu, bx_uu]
    exact h1 hi2
  · rw [hi] at h
    have : ¬ i < 3 := fun z => h (nI_lt (b := 3) z (by decide))
    exact h0 (by omega)
theorem c_takeImageBack {P : KI} (hr : Rk r) (hi : a 47 3 = nI i) (hi3 : i ≤ 3) (h0 : i = 0 → P 0 a r nK) (hwk : 0 < i → a 49 ((i - 1) * 715) = nI w) (hw16 : w ≤ 16) (h1 : 0 < i → P 1 (lgBack a w (i - 1)) r nK) : Sp G (d + 3) 0 0 MX3_takeImageBack [.ref 47, .ref 43] (a, r, nK) (RI P) := by
  obtain ⟨t0, t1, t2, e1, e2⟩ := lg_k hr
  refine V_X3_takeImageBack_0 ⟨t0, by decide, fun h => ⟨t0, by decide, t0, by decide, fun a1 ha => ⟨t0, by decide, t0, by decide, _, e2, ?_⟩⟩, fun h => ⟨bz_0, ?_⟩⟩
  · rw [hi] at h ha
    have hi0 : 0 < i := (nI_ltI (a := 0) (by decide) (by omega)).mp h
    obtain ⟨v, rfl⟩ : ∃ v, i = v + 1 := ⟨i - 1, by omega⟩
    rw [nI_pred] at ha
    subst ha
    have hwk := hwk hi0
    simp only [Nat.add_sub_cancel] at hwk
    have em : u2 a 47 3 (nI v) 47 3 * 715 = nI (v * 715) := by rw [u2_eq]; exact nI_mul v 715
    rw [em]
    refine c_at t2 (by decide) (by decide) ⟨t0, by decide, fun a7 h7 => ⟨t0, by decide, _, e2, rfl, by decide, ?_⟩⟩
    rw [rAt_nI _ (by decide) (by omega), u2_off 49 (by decide), hwk] at h7
    subst h7
    rw [nI_1]
    refine c_loadFrom hr (Or.inl rfl) t2 (by decide) (by decide) (by decide) (by omega) ⟨t0, by decide, _, e2, t0, by decide, _, e1, t0, by decide, ?_⟩
    have em2 : ∀ z : Nat → Int32, va_up (u2 (u2 a 47 3 (nI v)) 47 2 (nI w)) (43 + 1) z 47 2 * 42 = nI (w * 42) := fun z => by rw [va_up_ne _ _ (by decide), u2_eq]; exact nI_mul w 42
    have e43 : nI (v * 715 + 1) + 42 = nI (v * 715 + 43) := nI_add _ 42
    rw [em2, e43]
    refine c_copy (i1 := v * 715 + 43) (i2 := 0) (m := w * 42) t2 t1 (by decide) (by decide) (by decide) (by decide) (by decide) (by omega) (by omega) ⟨bz_1, ?_⟩
    have h1 := h1 hi0
    simp only [Nat.add_sub_cancel] at h1
    unfold lgBack at h1
    simp only [va_up_ne _ _ (show (49 : Nat) ≠ 43 + 1 by decide), va_up_ne _ _ (show (48 : Nat) ≠ 43 + 1 by decide), u2_off 49 (show (49 : Nat) ≠ 47 by decide), u2_off 48 (show (48 : Nat) ≠ 47 by decide), show (43 : Nat) + 1 = 44 from rfl, u2_off 44 (show (44 : Nat) ≠ 47 by decide), Nat.zero_le, true_and, Nat.zero_add, Nat.sub_zero]
    exact h1
  · rw [hi] at h
    have : ¬ 0 < i := fun z => h (nI_lt (a := 0) z (by omega))
    exact h0 (by omega)
end LG
/-! Dowries -/
theorem dw_k {r : RA} (hr : Rk r) : tyK 57 = (0, 1) ∧ tyK 58 = (1, 21) ∧ tyK 59 = (1, 21) ∧ r 57 0 = .ref 58 ∧ r 57 1 = .ref 59 := ⟨rfl, rfl, rfl, hr.at (by decide), hr.at (by decide)⟩
def gn (own other v : Int32) : Int32 := if other ≤ own then (if own ≤ other then (v - own) / 2 else v - own) else 0
def bA (v offer : Int32) : Nat → Int32
  | 0 => gn 0 offer v
  | k + 1 => mx2 (bA v offer k) (gn (nI (k + 1)) offer v)
abbrev Ws3 : Type := Int32 × Int32 × Int32
def wgh (n : Nat) (v w : Int32) (one other : Nat) (x : Ws3) : Ws3 := if gn (nI one) (nI other) v < bA v (nI other) n ∨ ¬ bA w (nI one) n ≤ gn (nI other) (nI one) w then x else (x.1 + 1, if x.1 = 0 then 100 * nI one + nI other else x.2.1, if x.1 = 0 then gn (nI one) (nI other) v + gn (nI other) (nI one) w else x.2.2)
def restsX (n : Nat) (v w : Int32) : Ws3 := lpM (fun one x => lpM (wgh n v w one) (n + 1) 0 x) (n + 1) 0 (0, -1, 0)
def HD (a : IA) (ob f g : Nat → Int32) : IA := va_up (va_up (va_up a 57 ob) 58 f) 59 g
def obW (ob : Nat → Int32) (x : Ws3) : Prop := ob 2 = x.1 ∧ ob 3 = x.2.1 ∧ ob 4 = x.2.2
section DW
variable {G : GE} {d C S : Nat} {a : IA} {r : RA} {n : Nat} {v w : Int32} {ob f g z : Nat → Int32}
theorem HD_57 : HD a ob f g 57 = ob := by unfold HD; rw [va_up_ne _ _ (by decide), va_up_ne _ _ (by decide), va_up_self]
theorem HD_58 : HD a ob f g 58 = f := by unfold HD; rw [va_up_ne _ _ (by decide), va_up_self]
theorem HD_59 : HD a ob f g 59 = g := by unfold HD; rw [va_up_self]
theorem HD_p58 : va_up (HD a ob f g) 58 z = HD a ob z g := by unfold HD; rw [up_comm _ _ _ (show (59 : Nat) ≠ 58 by decide), bx_uu]
theorem HD_p59 : va_up (HD a ob f g) 59 z = HD a ob f z := by unfold HD; rw [bx_uu]
theorem HD_u (j : Nat) (x : Int32) : u2 (HD a ob f g) 57 j x = HD a (upd ob j x) f g := by
  unfold u2
  rw [HD_57]
  unfold HD
  rw [up_comm _ _ _ (show (59 : Nat) ≠ 57 by decide), up_comm _ _ _ (show (58 : Nat) ≠ 57 by decide), bx_uu]
theorem c_gain {N : Nat} {P : KI} {x y : Int32} (hp : P (gn x y v) a r N) : Sp G d 0 0 MX1_gain [.int x, .int y, .int v] (a, r, N) (RI P) := by
  unfold gn at hp
  refine V_X1_gain_0 ⟨fun h1 => ⟨fun h2 => ⟨by decide, ?_⟩, fun h2 => ?_⟩, fun h1 => ?_⟩
  · rw [if_pos h1, if_pos h2] at hp; exact hp
  · rw [if_pos h1, if_neg h2] at hp; exact hp
  · rw [if_neg h1] at hp; exact hp
theorem l_bA {P : KI} {N : Nat} {x : Int32} (hn : n ≤ 20) (hp : P (bA v x n) a r N) : ∀ (c k : Nat), k + c = n → E G MX1_bestAgainst (d + 1) C S 10 [.int x, .int (nI n), .int v, .int (bA v x k), .int (nI (k + 1))] [] (a, r, N) (RI P) := by
  intro c
  induction c with
  | zero =>
    intro k hk
    obtain rfl : k = n := by omega
    exact V_X1_bestAgainst_10 ⟨fun _ => hp, fun h => absurd (nI_lt (by omega) (by omega)) h⟩
  | succ c ih =>
    intro k hk
    have := ih (k + 1) (by omega)
    refine V_X1_bestAgainst_10 ⟨fun h => absurd h (nI_nlt (by omega) (by omega)), fun _ => c_gain ?_⟩
    rw [nI_1]
    exact this
theorem c_bestAgainst {P : KI} {N : Nat} {x : Int32} (hn : n ≤ 20) (hp : P (bA v x n) a r N) : Sp G (d + 1) 0 0 MX1_bestAgainst [.int x, .int (nI n), .int v] (a, r, N) (RI P) := V_X1_bestAgainst_0 (c_gain (l_bA hn hp n 0 (by omega)))
theorem c_weigh {P : KN} {one other : Nat} {x : Ws3} (hr : Rk r) (h1 : one ≤ 20) (h2 : other ≤ 20) (hf : f other = bA v (nI other) n) (hg : g one = bA w (nI one) n) (hx : obW ob x) (hp : ∀ ob', obW ob' (wgh n v w one other x) → P (HD a ob' f g) r nK) :
    Sp G (d + 1) 0 0 MX1_weigh [.ref 57, .int (nI one), .int (nI other), .int (gn (nI one) (nI other) v), .int (gn (nI other) (nI one) w)] (HD a ob f g, r, nK) (RN P) := by
  obtain ⟨t0, t1, t2, e1, e2⟩ := dw_k hr
  unfold wgh at hp
  refine V_X1_weigh_0 ⟨t0, by decide, _, e1, c_at t1 (by decide) (by decide) ?_⟩
  rw [HD_58, rAt_nI _ (by decide) (by omega), hf]
  refine ⟨fun h3 => ?_, fun h3 => ⟨t0, by decide, _, e2, c_at t2 (by decide) (by decide) ?_⟩⟩
  · rw [if_pos (Or.inl h3)] at hp; exact hp ob hx
  rw [HD_59, rAt_nI _ (by decide) (by omega), hg, HD_57, hx.1]
  refine ⟨fun h4 => ⟨t0, by decide, fun h5 => ⟨t0, by decide, t0, by decide, fun a1 ha => ?_⟩, fun h5 => ⟨t0, by decide, fun a1 ha => ⟨t0, by decide, fun a2 ha2 => ⟨t0, by decide, t0, by decide, fun a3 ha3 => ?_⟩⟩⟩⟩, fun h4 => ?_⟩
  · rw [if_neg (fun z => z.elim h3 (fun z => z h4))] at hp
    rw [HD_u] at ha
    subst ha
    refine hp _ ⟨upd_eq, ?_, ?_⟩
    · show _ = (if x.1 = 0 then _ else _)
      rw [if_neg h5, upd_ne (by decide)]; exact hx.2.1
    · show _ = (if x.1 = 0 then _ else _)
      rw [if_neg h5, upd_ne (by decide)]; exact hx.2.2
  · rw [if_neg (fun z => z.elim h3 (fun z => z h4))] at hp
    rw [HD_u] at ha
    subst ha
    rw [HD_u] at ha2
    subst ha2
    rw [HD_57, HD_u] at ha3
    subst ha3
    refine hp _ ⟨?_, ?_, ?_⟩
    · rw [upd_eq, upd_ne (by decide), upd_ne (by decide), hx.1]
    · show _ = (if x.1 = 0 then _ else _)
      rw [if_pos h5, upd_ne (by decide), upd_ne (by decide), upd_eq]
    · show _ = (if x.1 = 0 then _ else _)
      rw [if_pos h5, upd_ne (by decide), upd_eq]
  · rw [if_pos (Or.inr h4)] at hp; exact hp ob hx
theorem l_fr2 {P : KN} {one : Nat} {x0 : Ws3} (hr : Rk r) (hn : n ≤ 20) (h1 : one ≤ n) (hf : ∀ k, k ≤ n → f k = bA v (nI k) n) (hg : ∀ k, k ≤ n → g k = bA w (nI k) n)
    (hk : ∀ ob', obW ob' (lpM (wgh n v w one) (n + 1) 0 x0) → E G MX1_findRests (d + 2) C S 65 [.ref 57, .int (nI n), .int v, .int w, .int (nI one + 1), .null] [] (HD a ob' f g, r, nK) (RN P)) :
    ∀ (c k : Nat) (ob : Nat → Int32) (x : Ws3), k + c = n + 1 → obW ob x → lpM (wgh n v w one) (n + 1) 0 x0 = lpM (wgh n v w one) c k x → E G MX1_findRests (d + 2) C S 74 [.ref 57, .int (nI n), .int v, .int w, .int (nI one), .int (nI k)] [] (HD a ob f g, r, nK) (RN P) := by
  obtain ⟨t0, t1, t2, e1, e2⟩ := dw_k hr
  intro c
  induction c with
  | zero =>
    intro k ob x hkc hx he
    exact V_X1_findRests_74 ⟨fun _ => hk ob (by rw [he]; exact hx), fun h => absurd (nI_lt (by omega) (by omega)) h⟩
  | succ c ih =>
    intro k ob x hkc hx he
    rw [lpM] at he
    refine V_X1_findRests_74 ⟨fun h => absurd h (nI_nlt (by omega) (by omega)), fun _ => c_gain (c_gain ⟨t0, by decide, c_weigh hr (by omega) (by omega) (hf k (by omega)) (hg one h1) hx (fun ob' hx' => ?_)⟩)⟩
    rw [nI_1]
    exact ih (k + 1) ob' _ (by omega) hx' he
theorem l_fr1 {P : KN} {X : Ws3} (hr : Rk r) (hn : n ≤ 20) (hf : ∀ k, k ≤ n → f k = bA v (nI k) n) (hg : ∀ k, k ≤ n → g k = bA w (nI k) n) (hp : ∀ ob', obW ob' X → P (HD a ob' f g) r nK) :
    ∀ (c k : Nat) (ob : Nat → Int32) (x : Ws3), k + c = n + 1 → obW ob x → X = lpM (fun one x => lpM (wgh n v w one) (n + 1) 0 x) c k x → E G MX1_findRests (d + 2) C S 65 [.ref 57, .int (nI n), .int v, .int w, .int (nI k), .null] [] (HD a ob f g, r, nK) (RN P) := by
  intro c
  induction c with
  | zero =>
    intro k ob x hkc hx he
    exact V_X1_findRests_65 ⟨fun _ => hp ob (by rw [he]; exact hx), fun h => absurd (nI_lt (by omega) (by omega)) h⟩
  | succ c ih =>
    intro k ob x hkc hx he
    rw [lpM] at he
    refine V_X1_findRests_65 ⟨fun h => absurd h (nI_nlt (by omega) (by omega)), fun _ => l_fr2 (x0 := x) hr hn (by omega) hf hg (fun ob' hx' => ?_) (n + 1) 0 ob x (by omega) hx rfl⟩
    rw [nI_1]
    exact ih (k + 1) ob' _ (by omega) hx' he
theorem l_fr0 {P : KN} (hr : Rk r) (hn : n ≤ 20) (hp : ∀ ob' f g, obW ob' (restsX n v w) → P (HD a ob' f g) r nK) (hx : obW ob (0, -1, 0)) :
    ∀ (c k : Nat) (f g : Nat → Int32), k + c = n + 1 → (∀ j, j < k → f j = bA v (nI j) n) → (∀ j, j < k → g j = bA w (nI j) n) → E G MX1_findRests (d + 2) C S 18 [.ref 57, .int (nI n), .int v, .int w, .int (nI k), .null] [] (HD a ob f g, r, nK) (RN P) := by
  obtain ⟨t0, t1, t2, e1, e2⟩ := dw_k hr
  intro c
  induction c with
  | zero =>
    intro k f g hk hf hg
    exact V_X1_findRests_18 ⟨fun _ => l_fr1 hr hn (fun j hj => hf j (by omega)) (fun j hj => hg j (by omega)) (fun ob' h => hp ob' f g h) (n + 1) 0 ob (0, -1, 0) (by omega) hx rfl, fun h => absurd (nI_lt (by omega) (by omega)) h⟩
  | succ c ih =>
    intro k f g hk hf hg
    refine V_X1_findRests_18 ⟨fun h => absurd h (nI_nlt (by omega) (by omega)), fun _ => ⟨t0, by decide, _, e1, c_bestAgainst hn (Sp.up (d := 0) (by omega) (c_put t1 (by decide) (by decide) ⟨t0, by decide, _, e2, c_bestAgainst hn (Sp.up (d := 0) (by omega) (c_put t2 (by decide) (by decide) ?_))⟩))⟩⟩
    rw [HD_58, HD_p58, HD_59, HD_p59, rPut_nI _ (by decide) (by omega), rPut_nI _ (by decide) (by omega), nI_1]
    refine ih (k + 1) _ _ (by omega) (fun j hj => ?_) (fun j hj => ?_)
    · unfold upd
      by_cases e : j = k
      · rw [if_pos e, e]
      · rw [if_neg e]; exact hf j (by omega)
    · unfold upd
      by_cases e : j = k
      · rw [if_pos e, e]
      · rw [if_neg e]; exact hg j (by omega)
theorem c_findRests {P : KN} (hr : Rk r) (hn : n ≤ 20) (hp : ∀ ob' f g, obW ob' (restsX n v w) → P (HD a ob' f g) r nK) : Sp G (d + 2) 0 0 MX1_findRests [.ref 57, .int (nI n), .int v, .int w] (a, r, nK) (RN P) := by
  obtain ⟨t0, t1, t2, e1, e2⟩ := dw_k hr
  refine V_X1_findRests_0 ⟨t0, by decide, fun a1 h1 => ⟨t0, by decide, fun a2 h2 => ⟨t0, by decide, fun a3 h3 => ?_⟩⟩⟩
  have e : a3 = HD a (upd (upd (upd (a 57) 2 0) 3 (-1)) 4 0) (a 58) (a 59) := by
    subst h1 h2 h3
    unfold HD u2
    simp only [bx_uu, va_up_self]
    rw [up_comm _ _ _ (show (57 : Nat) ≠ 58 by decide), up_same, up_comm _ _ _ (show (57 : Nat) ≠ 59 by decide), up_same]
  rw [e]
  exact l_fr0 hr hn hp ⟨by rw [upd_ne (by decide), upd_ne (by decide), upd_eq], by rw [upd_ne (by decide), upd_eq], upd_eq⟩ (n + 1) 0 _ _ (by omega) (fun j hj => by omega) (fun j hj => by omega)
end DW
