/-! Text -/
/-- the first place from i on, up to n, where p does not hold -/
def adv (p : Nat → Bool) : Nat → Nat → Nat
  | 0, i => i
  | m + 1, i => if p i then adv p m (i + 1) else i
def run (p : Nat → Bool) (n i : Nat) : Nat := adv p (n - i) i
theorem run_end {p : Nat → Bool} {n i : Nat} (h : n ≤ i) : run p n i = i := by
  unfold run
  rw [show n - i = 0 by omega]
  rfl
theorem run_go {p : Nat → Bool} {n i : Nat} (h : i < n) (hp : p i = true) : run p n i = run p n (i + 1) := by
  unfold run
  obtain ⟨m, hm⟩ : ∃ m, n - i = m + 1 := ⟨n - i - 1, by omega⟩
  rw [hm, show n - (i + 1) = m by omega, adv, if_pos hp]
theorem run_stop {p : Nat → Bool} {n i : Nat} (hp : p i = false) : run p n i = i := by
  unfold run
  cases n - i with
  | zero => rfl
  | succ m => rw [adv, if_neg (by rw [hp]; decide)]
theorem adv_bound (p : Nat → Bool) : ∀ (m i : Nat), i ≤ adv p m i ∧ adv p m i ≤ i + m
  | 0, i => ⟨Nat.le_refl _, Nat.le_refl _⟩
  | m + 1, i => by
    unfold adv
    split
    · have := adv_bound p m (i + 1)
      omega
    · omega
theorem run_le {p : Nat → Bool} {n i : Nat} (h : i ≤ n) : i ≤ run p n i ∧ run p n i ≤ n := by
  have := adv_bound p (n - i) i
  unfold run
  omega
theorem adv_at (p : Nat → Bool) : ∀ (m i : Nat), adv p m i < i + m → p (adv p m i) = false
  | 0, i, h => by unfold adv at h; omega
  | m + 1, i, h => by
    unfold adv at h ⊢
    split
    · next hp => rw [if_pos hp] at h; exact adv_at p m (i + 1) (by omega)
    · next hp => simpa using hp
theorem run_at {p : Nat → Bool} {n i : Nat} (h : run p n i < n) : p (run p n i) = false := by
  unfold run at h ⊢
  by_cases h0 : i ≤ n
  · exact adv_at p (n - i) i (by omega)
  · rw [show n - i = 0 by omega] at h; unfold adv at h; omega
theorem adv_in (p : Nat → Bool) : ∀ (m i j : Nat), i ≤ j → j < adv p m i → p j = true
  | 0, i, j, h1, h2 => by unfold adv at h2; omega
  | m + 1, i, j, h1, h2 => by
    unfold adv at h2
    split at h2
    · next hp =>
      by_cases e : i = j
      · subst e; exact hp
      · exact adv_in p m (i + 1) j (by omega) h2
    · omega
theorem run_in {p : Nat → Bool} {n i j : Nat} (h1 : i ≤ j) (h2 : j < run p n i) : p j = true := adv_in p (n - i) i j h1 h2
def isD (c : Int32) : Bool := decide (48 ≤ c) && decide (c ≤ 57)
def isL (c : Int32) : Bool := decide (97 ≤ c) && decide (c ≤ 122)
/-- the text: n bytes B -/
def skB (B : Nat → Int32) (n i : Nat) : Nat := run (fun j => decide (B j = 32)) n i
def dgE (B : Nat → Int32) (n i : Nat) : Nat := run (fun j => isD (B j)) n i
def ltE (B : Nat → Int32) (n i : Nat) : Nat := run (fun j => isL (B j)) n i
def bAt (B : Nat → Int32) (n i : Nat) : Int32 := if i < n then B i else -1
def nAdd (v b : Int32) : Int32 := if v * 10 + b - 48 < 100000 then v * 10 + b - 48 else 100000
def nVal (B : Nat → Int32) : Nat → Nat → Int32 → Int32
  | 0, _, v => v
  | m + 1, i, v => nVal B m (i + 1) (nAdd v (B i))
/-- a number that stands at i: its value -/
def nAt (B : Nat → Int32) (n i : Nat) : Int32 := nVal B (dgE B n i - i) i 0
def TX (a : IA) (n p s : Nat) (k f : Int32) : Prop := a 2 1 = nI n ∧ a 2 2 = nI p ∧ a 2 3 = nI s ∧ a 2 4 = k ∧ a 2 5 = f
def By (a : IA) (B : Nat → Int32) (n : Nat) : Prop := n ≤ 600 ∧ ∀ i, i < n → a 1 i &&& 255 = B i ∧ (a 1 i = 32 ↔ B i = 32)
def off (q : Nat) (a a' : IA) : Prop := ∀ k, k ≠ q → a' k = a k
theorem off_rf {q : Nat} {a : IA} : off q a a := fun _ _ => rfl
theorem off_tr {q : Nat} {a b c : IA} (h1 : off q a b) (h2 : off q b c) : off q a c := fun k hk => (h2 k hk).trans (h1 k hk)
theorem off_u2 {q : Nat} {a : IA} {j : Nat} {x : Int32} : off q a (u2 a q j x) := fun k hk => u2_off k hk
theorem By.off {a a' : IA} {B : Nat → Int32} {n q : Nat} (h : By a B n) (hq : q ≠ 1) (ho : off q a a') : By a' B n := ⟨h.1, fun i hi => by rw [ho 1 (fun e => hq e.symm)]; exact h.2 i hi⟩
theorem By.le {a : IA} {B : Nat → Int32} {n : Nat} (h : By a B n) : n ≤ 600 := h.1
theorem u2_eq {a : IA} {q j : Nat} {x : Int32} : u2 a q j x q j = x := by rw [u2_at, if_pos ⟨rfl, rfl⟩]
theorem u2_ne {a : IA} {q j i : Nat} {x : Int32} (h : i ≠ j) : u2 a q j x q i = a q i := by rw [u2_at, if_neg (fun z => h z.2)]
theorem TX.place {a : IA} {n p s : Nat} {k f : Int32} (h : TX a n p s k f) (x : Nat) : TX (u2 a 2 2 (nI x)) n x s k f :=
  ⟨by rw [u2_ne (by decide)]; exact h.1, u2_eq, by rw [u2_ne (by decide)]; exact h.2.2.1, by rw [u2_ne (by decide)]; exact h.2.2.2.1, by rw [u2_ne (by decide)]; exact h.2.2.2.2⟩
theorem TX.start {a : IA} {n p s : Nat} {k f : Int32} (h : TX a n p s k f) (x : Nat) : TX (u2 a 2 3 (nI x)) n p x k f :=
  ⟨by rw [u2_ne (by decide)]; exact h.1, by rw [u2_ne (by decide)]; exact h.2.1, u2_eq, by rw [u2_ne (by decide)]; exact h.2.2.2.1, by rw [u2_ne (by decide)]; exact h.2.2.2.2⟩
theorem TX.mark {a : IA} {n p s : Nat} {k f : Int32} (h : TX a n p s k f) (x : Int32) : TX (u2 (u2 a 2 4 x) 2 5 (nI s)) n p s x (nI s) :=
  ⟨by rw [u2_ne (by decide), u2_ne (by decide)]; exact h.1, by rw [u2_ne (by decide), u2_ne (by decide)]; exact h.2.1, by rw [u2_ne (by decide), u2_ne (by decide)]; exact h.2.2.1, by rw [u2_ne (by decide), u2_eq], u2_eq⟩
theorem TX.off {a a' : IA} {n p s q : Nat} {k f : Int32} (h : TX a n p s k f) (hq : q ≠ 2) (ho : off q a a') : TX a' n p s k f := by
  unfold TX
  rw [ho 2 (fun e => hq e.symm)]
  exact h
theorem bit1 {b : Bool} : bz (if b then 1 else 0) := by cases b <;> rfl
section TE
variable {G : GE} {d C S : Nat} {a : IA} {r : RA} {B : Nat → Int32} {n p s : Nat} {k f x : Int32}
theorem c_byteAt {P : KI} {i : Nat} (hr : Rk r) (hB : By a B n) (hx : TX a n p s k f) (hi : i < 2 ^ 31) (hp : P (bAt B n i) a r nK) : Sp G d 0 0 MX10_byteAt [.ref 2, .int (nI i)] (a, r, nK) (RI P) := by
  have hn := hB.le
  unfold bAt at hp
  refine V_X10_byteAt_0 ⟨fun h => absurd h (nI_pos hi), fun _ => ⟨rfl, by decide, fun h => ?_, fun h => ⟨rfl, by decide, 1, hr.at (by decide), Or.inr rfl, by decide, fun h2 => ?_, fun h2 => ⟨rfl, by decide, 1, hr.at (by decide), rfl, by decide, ?_, ?_⟩⟩⟩⟩
  · rw [hx.1, nI_leI (by omega) hi] at h
    rw [if_neg (by omega)] at hp; exact hp
  · rw [hx.1, nI_leI (by omega) hi] at h
    exact absurd h2 (nI_ge (b := 600) (by omega) (by omega))
  · rw [hx.1, nI_leI (by omega) hi] at h
    exact vp_in_nI (show i < 600 by omega) (by decide)
  · rw [hx.1, nI_leI (by omega) hi] at h
    rw [if_pos (by omega)] at hp
    rw [nI_clamp hi, (hB.2 i (by omega)).1]
    exact hp
theorem c_isDigit {N : Nat} {P : KI} (hp : P (if isD x then 1 else 0) a r N) : Sp G d 0 0 MX10_isDigit [.int x] (a, r, N) (RI P) := by
  unfold isD at hp
  refine V_X10_isDigit_0 ⟨fun h => ⟨bz_0, ?_⟩, fun h => ⟨fun h2 => ⟨bz_0, ?_⟩, fun h2 => ⟨bz_1, ?_⟩⟩⟩
  · rw [if_neg (by simp [i_nle.mpr h])] at hp; exact hp
  · rw [if_neg (by simp [i_nle.mpr h2])] at hp; exact hp
  · rw [if_pos (by simp [i_nlt.mp h, i_nlt.mp h2])] at hp; exact hp
theorem c_isLetter {N : Nat} {P : KI} (hp : P (if isL x then 1 else 0) a r N) : Sp G d 0 0 MX10_isLetter [.int x] (a, r, N) (RI P) := by
  unfold isL at hp
  refine V_X10_isLetter_0 ⟨fun h => ⟨bz_0, ?_⟩, fun h => ⟨fun h2 => ⟨bz_0, ?_⟩, fun h2 => ⟨bz_1, ?_⟩⟩⟩
  · rw [if_neg (by simp [i_nle.mpr h])] at hp; exact hp
  · rw [if_neg (by simp [i_nle.mpr h2])] at hp; exact hp
  · rw [if_pos (by simp [i_nlt.mp h, i_nlt.mp h2])] at hp; exact hp
theorem l_skip {P : KN} (hr : Rk r) : ∀ (m p : Nat) (a : IA), By a B n → TX a n p s k f → p + m = n → (∀ a', TX a' n (skB B n p) (skB B n p) k f → off 2 a a' → P a' r nK) → E G MX10_skipBlanks d C S 0 [.ref 2] [] (a, r, nK) (RN P) := by
  intro m
  induction m with
  | zero =>
    intro p a hB hx hpn hp
    have hn := hB.le
    refine VE_X10_skipBlanks_0 ⟨rfl, by decide, rfl, by decide, fun _ => ⟨rfl, by decide, rfl, by decide, fun a1 e1 => ?_⟩, fun h => absurd (by rw [hx.1, hx.2.1]; exact nI_le (by omega) (by omega)) h⟩
    subst e1
    rw [hx.2.1]
    have e : skB B n p = p := run_end (by omega)
    rw [e] at hp
    exact hp _ (hx.start p) off_u2
  | succ m ih =>
    intro p a hB hx hpn hp
    have hn := hB.le
    have hs : ∀ a1, a1 = u2 a 2 3 (a 2 2) → decide (B p = 32) = false → P a1 r nK := fun a1 e1 h2 => by
      subst e1
      rw [hx.2.1]
      have e : skB B n p = p := run_stop h2
      rw [e] at hp
      exact hp _ (hx.start p) off_u2
    refine VE_X10_skipBlanks_0 ⟨rfl, by decide, rfl, by decide, fun h => absurd h (by rw [hx.1, hx.2.1]; exact nI_ge (by omega) (by omega)), fun h => ⟨rfl, by decide, rfl, by decide, 1, hr.at (by decide), Or.inr rfl, by decide, fun h2 => absurd h2 (by rw [hx.2.1]; exact nI_ge (b := 600) (by omega) (by omega)), fun h2 => ⟨rfl, by decide, 1, hr.at (by decide), rfl, by decide, rfl, by decide, ?_, ?_, ?_⟩⟩⟩
    · rw [hx.2.1]; exact vp_in_nI (show p < 600 by omega) (by decide)
    · intro h3
      refine ⟨rfl, by decide, rfl, by decide, fun a1 e1 => hs a1 e1 ?_⟩
      rw [hx.2.1, nI_clamp (by omega)] at h3
      simpa [(hB.2 p (by omega)).2] using h3
    · intro h3
      refine ⟨rfl, by decide, rfl, by decide, fun a1 e1 => ?_⟩
      rw [hx.2.1, nI_clamp (by omega)] at h3
      rw [hx.2.1, nI_1] at e1
      subst e1
      refine ih (p + 1) _ (hB.off (by decide) off_u2) (hx.place (p + 1)) (by omega) (fun a' h4 h5 => ?_)
      have e : skB B n p = skB B n (p + 1) := run_go (by omega) (by simpa [(hB.2 p (by omega)).2] using h3)
      rw [e] at hp
      exact hp a' h4 (off_tr off_u2 h5)
theorem c_skip {P : KN} (hr : Rk r) (hB : By a B n) (hx : TX a n p s k f) (hpn : p ≤ n) (hp : ∀ a', TX a' n (skB B n p) (skB B n p) k f → off 2 a a' → P a' r nK) : Sp G d 0 0 MX10_skipBlanks [.ref 2] (a, r, nK) (RN P) :=
  VI_X10_skipBlanks (l_skip hr (n - p) p a hB hx (by omega) hp)
theorem c_mark {P : KI} (hx : TX a n p s k f) (hp : ∀ a', TX a' n p s x (nI s) → off 2 a a' → P 0 a' r nK) : Sp G d 0 0 MX10_mark [.ref 2, .int x] (a, r, nK) (RI P) :=
  V_X10_mark_0 ⟨rfl, by decide, fun a1 e1 => ⟨rfl, by decide, rfl, by decide, fun a2 e2 => ⟨bz_0, by
    subst e1
    rw [u2_ne (by decide), hx.2.2.1] at e2
    subst e2
    exact hp _ (hx.mark x) (off_tr off_u2 off_u2)⟩⟩⟩
theorem c_atEnd {P : KI} (hr : Rk r) (hB : By a B n) (hx : TX a n p s k f) (hpn : p ≤ n) (hp : ∀ a', TX a' n (skB B n p) (skB B n p) k f → off 2 a a' → P (if skB B n p < n then 0 else 1) a' r nK) : Sp G (d + 1) 0 0 MX10_atEnd [.ref 2] (a, r, nK) (RI P) := by
  have hn := hB.le
  refine V_X10_atEnd_0 ⟨rfl, by decide, c_skip hr hB hx hpn (fun a' h1 h2 => ?_)⟩
  have hle := run_le (p := fun j => decide (B j = 32)) hpn
  have hp := hp a' h1 h2
  refine ⟨rfl, by decide, rfl, by decide, fun h => ⟨bz_0, ?_⟩, fun h => ⟨bz_1, ?_⟩⟩
  · rw [h1.1, h1.2.1, nI_ltI (by unfold skB; omega) (by omega)] at h
    rw [if_pos h] at hp; exact hp
  · rw [h1.1, h1.2.1, nI_ltI (by unfold skB; omega) (by omega)] at h
    rw [if_neg h] at hp; exact hp
theorem c_sees {P : KI} (hr : Rk r) (hB : By a B n) (hx : TX a n p s k f) (hpn : p ≤ n) (hp : ∀ a', TX a' n (skB B n p) (skB B n p) k f → off 2 a a' → P (if bAt B n (skB B n p) = x then 1 else 0) a' r nK) : Sp G (d + 1) 0 0 MX10_sees [.ref 2, .int x] (a, r, nK) (RI P) := by
  have hn := hB.le
  have hle := run_le (p := fun j => decide (B j = 32)) hpn
  refine V_X10_sees_0 ⟨rfl, by decide, c_skip hr hB hx hpn (fun a' h1 h2 => ⟨rfl, by decide, rfl, by decide, ?_⟩)⟩
  have hp := hp a' h1 h2
  rw [h1.2.1]
  refine c_byteAt hr (hB.off (by decide) h2) h1 (by unfold skB; omega) ⟨fun h => ⟨bz_0, ?_⟩, fun h => ⟨bz_1, ?_⟩⟩
  · rw [if_neg h] at hp; exact hp
  · rw [if_pos h] at hp; exact hp
theorem c_seesDigit {P : KI} (hr : Rk r) (hB : By a B n) (hx : TX a n p s k f) (hpn : p ≤ n) (hp : ∀ a', TX a' n (skB B n p) (skB B n p) k f → off 2 a a' → P (if isD (bAt B n (skB B n p)) then 1 else 0) a' r nK) : Sp G (d + 1) 0 0 MX10_seesDigit [.ref 2] (a, r, nK) (RI P) := by
  have hn := hB.le
  have hle := run_le (p := fun j => decide (B j = 32)) hpn
  refine V_X10_seesDigit_0 ⟨rfl, by decide, c_skip hr hB hx hpn (fun a' h1 h2 => ⟨rfl, by decide, rfl, by decide, ?_⟩)⟩
  rw [h1.2.1]
  exact c_byteAt hr (hB.off (by decide) h2) h1 (by unfold skB; omega) (c_isDigit ⟨bit1, hp a' h1 h2⟩)
theorem c_take {P : KI} (hr : Rk r) (hB : By a B n) (hx : TX a n p s k f) (hpn : p ≤ n)
    (hy : bAt B n (skB B n p) = x → ∀ a', TX a' n (skB B n p + 1) (skB B n p) k f → off 2 a a' → P 1 a' r nK)
    (hno : ¬ bAt B n (skB B n p) = x → ∀ a', TX a' n (skB B n p) (skB B n p) 1 (nI (skB B n p)) → off 2 a a' → P 0 a' r nK) : Sp G (d + 1) 0 0 MX10_take [.ref 2, .int x] (a, r, nK) (RI P) := by
  have hn := hB.le
  have hle := run_le (p := fun j => decide (B j = 32)) hpn
  refine V_X10_take_0 ⟨rfl, by decide, c_skip hr hB hx hpn (fun a' h1 h2 => ⟨rfl, by decide, rfl, by decide, ?_⟩)⟩
  rw [h1.2.1]
  refine c_byteAt hr (hB.off (by decide) h2) h1 (by unfold skB; omega) ⟨fun h => ⟨rfl, by decide, rfl, by decide, fun a8 e8 => ⟨bz_1, ?_⟩⟩, fun h => ⟨rfl, by decide, c_mark h1 (fun a9 h9 o9 => ⟨bz_0, hno h a9 h9 (off_tr h2 o9)⟩)⟩⟩
  rw [h1.2.1, nI_1] at e8
  subst e8
  exact hy h _ (h1.place _) (off_tr h2 off_u2)
theorem l_word {P : KN} (hr : Rk r) : ∀ (m p : Nat) (a : IA), By a B n → TX a n p s k f → p + m = n → (∀ a', TX a' n (ltE B n p) s k f → off 2 a a' → P a' r nK) → E G MX10_readWord (d + 1) C S 4 [.ref 2] [] (a, r, nK) (RN P) := by
  intro m
  induction m with
  | zero =>
    intro p a hB hx hpn hp
    have hn := hB.le
    have e : ltE B n p = p := run_end (by omega)
    rw [e] at hp
    exact V_X10_readWord_4 ⟨rfl, by decide, rfl, by decide, fun _ => hp a hx off_rf, fun h => absurd (by rw [hx.1, hx.2.1]; exact nI_le (by omega) (by omega)) h⟩
  | succ m ih =>
    intro p a hB hx hpn hp
    have hn := hB.le
    refine V_X10_readWord_4 ⟨rfl, by decide, rfl, by decide, fun h => absurd h (by rw [hx.1, hx.2.1]; exact nI_ge (by omega) (by omega)), fun h => ⟨rfl, by decide, rfl, by decide, ?_⟩⟩
    rw [hx.2.1]
    refine c_byteAt hr hB hx (by omega) (c_isLetter ?_)
    have e0 : bAt B n p = B p := if_pos (by omega)
    rw [e0]
    cases hL : isL (B p) with
    | false =>
      have e : ltE B n p = p := run_stop hL
      rw [e] at hp
      exact ⟨fun _ => hp a hx off_rf, fun h9 => absurd rfl h9⟩
    | true =>
      refine ⟨fun h9 => absurd h9 (by decide), fun _ => ⟨rfl, by decide, rfl, by decide, fun a9 e9 => ?_⟩⟩
      rw [hx.2.1, nI_1] at e9
      subst e9
      refine ih (p + 1) _ (hB.off (by decide) off_u2) (hx.place (p + 1)) (by omega) (fun a' h4 h5 => ?_)
      have e : ltE B n p = ltE B n (p + 1) := run_go (by omega) hL
      rw [e] at hp
      exact hp a' h4 (off_tr off_u2 h5)
theorem c_readWord {P : KN} (hr : Rk r) (hB : By a B n) (hx : TX a n p s k f) (hpn : p ≤ n) (hp : ∀ a', TX a' n (ltE B n (skB B n p)) (skB B n p) k f → off 2 a a' → P a' r nK) : Sp G (d + 1) 0 0 MX10_readWord [.ref 2] (a, r, nK) (RN P) := by
  have hle := run_le (p := fun j => decide (B j = 32)) hpn
  exact V_X10_readWord_0 ⟨rfl, by decide, c_skip hr hB hx hpn (fun a' h1 h2 => l_word hr (n - skB B n p) (skB B n p) a' (hB.off (by decide) h2) h1 (by unfold skB; omega) (fun a2 h3 h4 => hp a2 h3 (off_tr h2 h4)))⟩
/-- behind the digits -/
theorem l_numEnd {P : KI} {v lo hi : Int32} (hn : n ≤ 600) (hx : TX a n p s k f) (hps : s ≤ p) (hpn : p ≤ n)
    (hy : s < p → lo ≤ v → v ≤ hi → P v a r nK)
    (h2 : s < p → ¬ (lo ≤ v ∧ v ≤ hi) → ∀ a', TX a' n p s 2 (nI s) → off 2 a a' → P (-1) a' r nK)
    (h1 : s = p → ∀ a', TX a' n p s 1 (nI s) → off 2 a a' → P (-1) a' r nK) : E G MX10_readNumber (d + 1) C S 66 [.ref 2, .int lo, .int hi, .int v] [] (a, r, nK) (RI P) := by
  refine V_X10_readNumber_66 ⟨rfl, by decide, rfl, by decide, fun h => ?_, fun h => ?_⟩
  · rw [hx.2.1, hx.2.2.1, nI_eq (by omega) (by omega)] at h
    refine ⟨fun h3 => ⟨rfl, by decide, c_mark hx (h2 (by omega) (fun z => i_nle.mpr h3 z.1))⟩, fun h3 => ⟨fun h4 => hy (by omega) (i_nlt.mp h3) h4, fun h4 => ⟨rfl, by decide, c_mark hx (h2 (by omega) (fun z => h4 z.2))⟩⟩⟩
  · rw [hx.2.1, hx.2.2.1, nI_eq (by omega) (by omega)] at h
    exact ⟨rfl, by decide, c_mark hx (h1 h.symm)⟩
theorem l_num {P : KI} {lo hi : Int32} (hr : Rk r) : ∀ (m p : Nat) (a : IA) (v : Int32), By a B n → TX a n p s k f → p + m = n → s ≤ p →
    (∀ a', TX a' n (dgE B n p) s k f → off 2 a a' → s < dgE B n p → lo ≤ nVal B (dgE B n p - p) p v → nVal B (dgE B n p - p) p v ≤ hi → P (nVal B (dgE B n p - p) p v) a' r nK) →
    (s < dgE B n p → ¬ (lo ≤ nVal B (dgE B n p - p) p v ∧ nVal B (dgE B n p - p) p v ≤ hi) → ∀ a', TX a' n (dgE B n p) s 2 (nI s) → off 2 a a' → P (-1) a' r nK) →
    (s = dgE B n p → ∀ a', TX a' n (dgE B n p) s 1 (nI s) → off 2 a a' → P (-1) a' r nK) → E G MX10_readNumber (d + 1) C S 6 [.ref 2, .int lo, .int hi, .int v] [] (a, r, nK) (RI P) := by
  intro m
  induction m with
  | zero =>
    intro p a v hB hx hpn hsp hy h2 h1
    have hn := hB.le
    have e : dgE B n p = p := run_end (by omega)
    rw [e, Nat.sub_self] at hy h2
    rw [e] at h1
    exact V_X10_readNumber_6 ⟨rfl, by decide, rfl, by decide, fun _ => l_numEnd hn hx hsp (by omega) (fun h3 h4 h5 => hy a hx off_rf h3 h4 h5) h2 h1, fun h => absurd (by rw [hx.1, hx.2.1]; exact nI_le (by omega) (by omega)) h⟩
  | succ m ih =>
    intro p a v hB hx hpn hsp hy h2 h1
    have hn := hB.le
    refine V_X10_readNumber_6 ⟨rfl, by decide, rfl, by decide, fun h => absurd h (by rw [hx.1, hx.2.1]; exact nI_ge (by omega) (by omega)), fun h => ⟨rfl, by decide, rfl, by decide, ?_⟩⟩
    rw [hx.2.1]
    refine c_byteAt hr hB hx (by omega) (c_isDigit ?_)
    have e0 : bAt B n p = B p := if_pos (by omega)
    rw [e0]
    cases hL : isD (B p) with
    | false =>
      have e : dgE B n p = p := run_stop hL
      rw [e, Nat.sub_self] at hy h2
      rw [e] at h1
      exact ⟨fun _ => l_numEnd hn hx hsp (by omega) (fun h3 h4 h5 => hy a hx off_rf h3 h4 h5) h2 h1, fun h9 => absurd rfl h9⟩
    | true =>
      refine ⟨fun h9 => absurd h9 (by decide), fun _ => ⟨rfl, by decide, rfl, by decide, ?_⟩⟩
      rw [hx.2.1]
      refine c_byteAt hr hB hx (by omega) ⟨rfl, by decide, rfl, by decide, fun a9 e9 => ?_⟩
      rw [hx.2.1, nI_1] at e9
      subst e9
      have e : dgE B n p = dgE B n (p + 1) := run_go (by omega) hL
      have hle := run_le (p := fun j => isD (B j)) (n := n) (i := p + 1) (by omega)
      have hle : p + 1 ≤ dgE B n (p + 1) := hle.1
      obtain ⟨t, ht⟩ : ∃ t, dgE B n (p + 1) - p = t + 1 := ⟨dgE B n (p + 1) - p - 1, by omega⟩
      have ht2 : dgE B n (p + 1) - (p + 1) = t := by omega
      rw [e, ht, nVal, ← ht2] at hy h2
      rw [e] at h1
      rw [e0]
      exact ih (p + 1) _ _ (hB.off (by decide) off_u2) (hx.place (p + 1)) (by omega) (by omega) (fun a' h4 h5 => hy a' h4 (off_tr off_u2 h5)) (fun h6 h7 a' h4 h5 => h2 h6 h7 a' h4 (off_tr off_u2 h5)) (fun h6 a' h4 h5 => h1 h6 a' h4 (off_tr off_u2 h5))
/-- a number -/
theorem c_readNumber {P : KI} {lo hi : Int32} (hr : Rk r) (hB : By a B n) (hx : TX a n p s k f) (hpn : p ≤ n)
    (hy : skB B n p < dgE B n (skB B n p) → lo ≤ nAt B n (skB B n p) → nAt B n (skB B n p) ≤ hi → ∀ a', TX a' n (dgE B n (skB B n p)) (skB B n p) k f → off 2 a a' → P (nAt B n (skB B n p)) a' r nK)
    (h2 : skB B n p < dgE B n (skB B n p) → ¬ (lo ≤ nAt B n (skB B n p) ∧ nAt B n (skB B n p) ≤ hi) → ∀ a', TX a' n (dgE B n (skB B n p)) (skB B n p) 2 (nI (skB B n p)) → off 2 a a' → P (-1) a' r nK)
    (h1 : skB B n p = dgE B n (skB B n p) → ∀ a', TX a' n (skB B n p) (skB B n p) 1 (nI (skB B n p)) → off 2 a a' → P (-1) a' r nK) : Sp G (d + 1) 0 0 MX10_readNumber [.ref 2, .int lo, .int hi] (a, r, nK) (RI P) := by
  have hle := run_le (p := fun j => decide (B j = 32)) hpn
  refine V_X10_readNumber_0 ⟨rfl, by decide, c_skip hr hB hx hpn (fun a' h3 h4 => l_num hr (n - skB B n p) (skB B n p) a' 0 (hB.off (by decide) h4) h3 (by unfold skB; omega) (Nat.le_refl _) (fun a2 h5 h6 h7 h8 h9 => hy h7 h8 h9 a2 h5 (off_tr h4 h6)) (fun h7 h8 a2 h5 h6 => h2 h7 h8 a2 h5 (off_tr h4 h6)) (fun h7 a2 h5 h6 => h1 h7 a2 (by rw [← h7] at h5; exact h5) (off_tr h4 h6)))⟩
end TE
