/-! Pure: walks as lists of streets; closed ones are even; even ones that hang together can be closed (Euler) -/
def Wl (U V : Nat → Nat) (ns : Nat) : List Nat → Nat → Nat → Prop
  | [], p, q => p = q
  | s :: w, p, q => s < ns ∧ ∃ r, stE U V s p r ∧ Wl U V ns w r q
def lsum (L : Nat → Nat) : List Nat → Nat
  | [] => 0
  | s :: w => L s + lsum L w
/-- whether the street s ends at v -/
def eB (U V : Nat → Nat) (s v : Nat) : Bool := xor (decide (U s = v)) (decide (V s = v))
/-- whether v is met an odd number of times -/
def cx (U V : Nat → Nat) (c : Nat → Nat) (v : Nat) : Nat → Bool
  | 0 => false
  | n + 1 => xor (cx U V c v n) (decide (c n % 2 = 1) && eB U V n v)
def sN (c : Nat → Nat) : Nat → Nat
  | 0 => 0
  | n + 1 => sN c n + c n
/-- one time less -/
def dec1 (c : Nat → Nat) (s : Nat) : Nat → Nat := fun t => if t = s then c t - 1 else c t
section TRL
variable {U V L : Nat → Nat} {ns : Nat} {c d : Nat → Nat} {p q r s t v : Nat} {w w1 w2 : List Nat}
theorem Wl.app : ∀ {w1 : List Nat} {p : Nat}, Wl U V ns w1 p r → Wl U V ns w2 r q → Wl U V ns (w1 ++ w2) p q
  | [], p, h, h' => by
    have : p = r := h
    subst this
    exact h'
  | s :: w1, p, ⟨hs, t, h1, h2⟩, h' => ⟨hs, t, h1, Wl.app h2 h'⟩
theorem lsum_app : ∀ {w1 : List Nat}, lsum L (w1 ++ w2) = lsum L w1 + lsum L w2
  | [] => (Nat.zero_add _).symm
  | s :: w1 => by
    show L s + lsum L (w1 ++ w2) = L s + lsum L w1 + lsum L w2
    rw [lsum_app, Nat.add_assoc]
theorem Wl.lt : ∀ {w : List Nat} {p : Nat}, Wl U V ns w p q → ∀ s, s ∈ w → s < ns
  | [], _, _, s, h => absurd h List.not_mem_nil
  | t :: w, p, ⟨ht, _, _, h2⟩, s, h => by
    rcases List.mem_cons.mp h with e | e
    · rw [e]; exact ht
    · exact Wl.lt h2 s e
/-- each end of each street of a walk is on it -/
theorem Wl.on : ∀ {w : List Nat} {p : Nat}, Wl U V ns w p q → s ∈ w → (U s = v ∨ V s = v) → ∃ w1 w2, w = w1 ++ w2 ∧ Wl U V ns w1 p v ∧ Wl U V ns w2 v q
  | [], _, _, h, _ => absurd h List.not_mem_nil
  | t :: w, p, ⟨ht, r, h1, h2⟩, h, hv => by
    rcases List.mem_cons.mp h with e | e
    · subst e
      have : v = p ∨ v = r := by
        rcases h1 with ⟨a, b⟩ | ⟨a, b⟩ <;> rcases hv with z | z
        · exact Or.inl (z.symm.trans a)
        · exact Or.inr (z.symm.trans b)
        · exact Or.inr (z.symm.trans b)
        · exact Or.inl (z.symm.trans a)
      rcases this with e | e
      · subst e
        exact ⟨[], s :: w, rfl, rfl, ht, r, h1, h2⟩
      · subst e
        exact ⟨[s], w, rfl, ⟨ht, v, h1, rfl⟩, h2⟩
    · obtain ⟨w1, w2, e1, g1, g2⟩ := Wl.on h2 e hv
      exact ⟨t :: w1, w2, by rw [e1]; rfl, ⟨ht, r, h1, g1⟩, g2⟩
theorem eB_st (h : stE U V s p r) : eB U V s v = xor (decide (p = v)) (decide (r = v)) := by
  unfold eB
  rcases h with ⟨rfl, rfl⟩ | ⟨rfl, rfl⟩
  · rfl
  · exact Bool.xor_comm _ _
theorem cx_cg : ∀ {n : Nat}, (∀ t, t < n → c t % 2 = d t % 2) → cx U V c v n = cx U V d v n
  | 0, _ => rfl
  | n + 1, h => by rw [cx, cx, cx_cg (fun t ht => h t (by omega)), h n (by omega)]
/-- one time more: the street's ends change -/
theorem cx_flip : ∀ {n : Nat}, s < n → (∀ t, t ≠ s → c t % 2 = d t % 2) → c s % 2 ≠ d s % 2 → cx U V c v n = xor (cx U V d v n) (eB U V s v)
  | 0, h, _, _ => absurd h (by omega)
  | n + 1, h, h1, h2 => by
    rw [cx, cx]
    by_cases e : s = n
    · subst e
      rw [cx_cg (d := d) (fun t ht => h1 t (by omega))]
      have : decide (c s % 2 = 1) = !decide (d s % 2 = 1) := by
        by_cases z : d s % 2 = 1
        · rw [decide_eq_true z, decide_eq_false (by omega)]; rfl
        · rw [decide_eq_false z, decide_eq_true (by omega)]; rfl
      rw [this]
      generalize cx U V d v s = x
      generalize decide (d s % 2 = 1) = y
      generalize eB U V s v = z
      cases x <;> cases y <;> cases z <;> rfl
    · rw [cx_flip (n := n) (by omega) h1 h2, h1 n (fun z => e z.symm)]
      generalize cx U V d v n = x
      generalize (decide (d n % 2 = 1) && eB U V n v) = y
      generalize eB U V s v = z
      cases x <;> cases y <;> cases z <;> rfl
theorem cx_0 : ∀ {n : Nat}, (∀ t, t < n → c t = 0) → cx U V c v n = false
  | 0, _ => rfl
  | n + 1, h => by rw [cx, cx_0 (fun t ht => h t (by omega)), h n (by omega)]; rfl
/-- a walk meets evenly all but its ends -/
theorem Wl.par : ∀ {w : List Nat} {p : Nat}, Wl U V ns w p q → cx U V (fun t => w.count t) v ns = xor (decide (p = v)) (decide (q = v))
  | [], p, h => by
    have : p = q := h
    subst this
    rw [cx_0 (c := fun t => List.count t []) (fun t _ => List.count_nil), Bool.xor_self]
  | s :: w, p, ⟨hs, r, h1, h2⟩ => by
    have ih := Wl.par h2
    rw [cx_flip (d := fun t => w.count t) hs (fun t ht => by
        show (s :: w).count t % 2 = w.count t % 2
        rw [List.count_cons_of_ne (fun z => ht z.symm)]) (by
        show (s :: w).count s % 2 ≠ w.count s % 2
        rw [List.count_cons_self]; omega), ih, eB_st (v := v) h1]
    generalize decide (p = v) = x
    generalize decide (q = v) = y
    generalize decide (r = v) = z
    cases x <;> cases y <;> cases z <;> rfl
theorem sN_dec : ∀ {n : Nat}, s < n → 0 < c s → sN (dec1 c s) n + 1 = sN c n
  | 0, h, _ => absurd h (by omega)
  | n + 1, h, hc => by
    rw [sN, sN]
    by_cases e : s = n
    · subst e
      have : ∀ m, m ≤ s → sN (dec1 c s) m = sN c m := by
        intro m
        induction m with
        | zero => intro _; rfl
        | succ m ih =>
          intro hm
          rw [sN, sN, ih (by omega)]
          unfold dec1
          rw [if_neg (by omega)]
      rw [this s (Nat.le_refl _)]
      unfold dec1
      rw [if_pos rfl]
      omega
    · have ih := sN_dec (n := n) (by omega) hc
      have e2 : dec1 c s n = c n := if_neg (fun z => e z.symm)
      rw [e2]
      omega
theorem cx_some : ∀ {n : Nat}, cx U V c v n = true → ∃ s, s < n ∧ c s % 2 = 1 ∧ eB U V s v = true
  | 0, h => Bool.noConfusion h
  | n + 1, h => by
    rw [cx] at h
    by_cases e : (decide (c n % 2 = 1) && eB U V n v) = true
    · rw [Bool.and_eq_true] at e
      exact ⟨n, by omega, of_decide_eq_true e.1, e.2⟩
    · have e : (decide (c n % 2 = 1) && eB U V n v) = false := Bool.eq_false_iff.mpr e
      rw [e, Bool.xor_false] at h
      obtain ⟨s, h1, h2⟩ := cx_some h
      exact ⟨s, by omega, h2⟩
theorem eB_other (h : eB U V s v = true) : ∃ r, stE U V s v r := by
  unfold eB at h
  by_cases e : U s = v
  · exact ⟨V s, Or.inl ⟨e, rfl⟩⟩
  · rw [decide_eq_false e, Bool.false_xor] at h
    exact ⟨U s, Or.inr ⟨of_decide_eq_true h, rfl⟩⟩
/-- from a corner with an odd rest to the other one -/
theorem trail : ∀ (n : Nat) (c : Nat → Nat) (x : Nat), sN c ns = n → (∀ u, cx U V c u ns = xor (decide (x = u)) (decide (v = u))) → ∃ w d, Wl U V ns w x v ∧ (∀ t, t < ns → c t = w.count t + d t) ∧ ∀ u, cx U V d u ns = false := by
  intro n
  induction n with
  | zero =>
    intro c x hn hp
    by_cases e : x = v
    · subst e
      exact ⟨[], c, rfl, fun t _ => (Nat.zero_add _).symm, fun u => by rw [hp u, Bool.xor_self]⟩
    · exfalso
      have h := hp x
      rw [decide_eq_true rfl, decide_eq_false (fun z => e z.symm)] at h
      obtain ⟨s, h1, h2, _⟩ := cx_some h
      have := sN_dec (c := c) h1 (by omega)
      omega
  | succ n ih =>
    intro c x hn hp
    by_cases e : x = v
    · subst e
      exact ⟨[], c, rfl, fun t _ => (Nat.zero_add _).symm, fun u => by rw [hp u, Bool.xor_self]⟩
    have h := hp x
    rw [decide_eq_true rfl, decide_eq_false (fun z => e z.symm)] at h
    obtain ⟨s, h1, h2, h3⟩ := cx_some h
    obtain ⟨r, hst⟩ := eB_other h3
    have hd := sN_dec (c := c) h1 (by omega)
    obtain ⟨w, d, g1, g2, g3⟩ := ih (dec1 c s) r (by omega) (fun u => by
      rw [cx_flip (c := dec1 c s) (d := c) h1 (fun t ht => by unfold dec1; rw [if_neg ht]) (by unfold dec1; rw [if_pos rfl]; omega), hp u, eB_st (v := u) hst]
      generalize decide (x = u) = a
      generalize decide (v = u) = b
      generalize decide (r = u) = z
      cases a <;> cases b <;> cases z <;> rfl)
    refine ⟨s :: w, d, ⟨h1, r, hst, g1⟩, fun t ht => ?_, g3⟩
    have := g2 t ht
    unfold dec1 at this
    by_cases z : t = s
    · subst z
      rw [if_pos rfl] at this
      rw [List.count_cons_self]
      omega
    · rw [if_neg z] at this
      rw [List.count_cons_of_ne (fun y => z y.symm)]
      exact this
/-- a closed walk that begins with a street that is left -/
theorem loop (hs : s < ns) (hc : 0 < c s) (hst : stE U V s v r) (hp : ∀ u, cx U V c u ns = false) : ∃ w d, Wl U V ns (s :: w) v v ∧ (∀ t, t < ns → c t = (s :: w).count t + d t) ∧ ∀ u, cx U V d u ns = false := by
  obtain ⟨w, d, g1, g2, g3⟩ := trail (U := U) (V := V) (ns := ns) (v := v) _ (dec1 c s) r rfl (fun u => by
    rw [cx_flip (c := dec1 c s) (d := c) hs (fun t ht => by unfold dec1; rw [if_neg ht]) (by unfold dec1; rw [if_pos rfl]; omega), hp u, eB_st (v := u) hst, Bool.false_xor, Bool.xor_comm])
  refine ⟨w, d, ⟨hs, r, hst, g1⟩, fun t ht => ?_, g3⟩
  have := g2 t ht
  unfold dec1 at this
  by_cases z : t = s
  · subst z
    rw [if_pos rfl] at this
    rw [List.count_cons_self]
    omega
  · rw [if_neg z] at this
    rw [List.count_cons_of_ne (fun y => z y.symm)]
    exact this
/-- two streets that have a corner in common -/
def shr (U V : Nat → Nat) (s t : Nat) : Prop := U s = U t ∨ U s = V t ∨ V s = U t ∨ V s = V t
/-- what is used hangs together -/
def Cn1 (U V : Nat → Nat) (ns : Nat) (us : Nat → Prop) : Prop := ∀ P : Nat → Prop, (∀ s t, s < ns → t < ns → us s → us t → shr U V s t → P s → P t) → ∀ s t, s < ns → t < ns → us s → us t → P s → P t
theorem sN_le : ∀ {n : Nat}, (∀ t, t < n → d t ≤ c t) → sN d n ≤ sN c n
  | 0, _ => Nat.le_refl _
  | n + 1, h => by
    have := sN_le (n := n) (fun t ht => h t (by omega))
    have := h n (by omega)
    rw [sN, sN]
    omega
theorem sN_lt : ∀ {n : Nat}, s < n → (∀ t, t < n → d t ≤ c t) → d s < c s → sN d n < sN c n
  | 0, h, _, _ => absurd h (by omega)
  | n + 1, h, h1, h2 => by
    rw [sN, sN]
    by_cases e : s = n
    · subst e
      have := sN_le (n := s) (fun t ht => h1 t (by omega))
      omega
    · have := sN_lt (n := n) (by omega) (fun t ht => h1 t (by omega)) h2
      have := h1 n (by omega)
      omega
/-- Euler: all of it in one closed walk -/
theorem euler {f home : Nat} (hcn : Cn1 U V ns (fun s => 0 < c s)) (hf : f < ns) (hcf : 0 < c f) (hU : U f = home) : ∀ (n : Nat) (w : List Nat) (d : Nat → Nat), sN d ns = n → Wl U V ns w home home → (∀ t, t < ns → c t = w.count t + d t) → (∀ u, cx U V d u ns = false) → ∃ w', Wl U V ns w' home home ∧ ∀ t, t < ns → c t = w'.count t := by
  intro n
  induction n using Nat.strongRecOn with
  | _ n ih =>
    intro w d hn hw hc hp
    by_cases hz : ∀ t, t < ns → d t = 0
    · exact ⟨w, hw, fun t ht => by rw [hc t ht, hz t ht, Nat.add_zero]⟩
    have on1 : ∀ v, (v = home ∨ ∃ s, s ∈ w ∧ (U s = v ∨ V s = v)) → ∃ w1 w2, w = w1 ++ w2 ∧ Wl U V ns w1 home v ∧ Wl U V ns w2 v home := by
      rintro v (rfl | ⟨s, hs, he⟩)
      · exact ⟨[], w, rfl, rfl, hw⟩
      · exact Wl.on hw hs he
    have grow : ∀ s v, s < ns → 0 < d s → (U s = v ∨ V s = v) → (v = home ∨ ∃ s, s ∈ w ∧ (U s = v ∨ V s = v)) → ∃ w', Wl U V ns w' home home ∧ ∀ t, t < ns → c t = w'.count t := by
      intro s v hs hd he hv
      obtain ⟨w1, w2, ew, g1, g2⟩ := on1 v hv
      obtain ⟨r, hst⟩ : ∃ r, stE U V s v r := he.elim (fun z => ⟨V s, Or.inl ⟨z, rfl⟩⟩) (fun z => ⟨U s, Or.inr ⟨z, rfl⟩⟩)
      obtain ⟨x, d', l1, l2, l3⟩ := loop hs hd hst hp
      have hlt : sN d' ns < n := by
        rw [← hn]
        refine sN_lt hs (fun t ht => by have := l2 t ht; omega) ?_
        have := l2 s hs
        rw [List.count_cons_self] at this
        omega
      refine ih _ hlt (w1 ++ ((s :: x) ++ w2)) d' rfl (Wl.app g1 (Wl.app l1 g2)) (fun t ht => ?_) l3
      rw [hc t ht, l2 t ht, ew, List.count_append, List.count_append, List.count_append]
      omega
    by_cases hg : ∃ s v, s < ns ∧ 0 < d s ∧ (U s = v ∨ V s = v) ∧ (v = home ∨ ∃ s, s ∈ w ∧ (U s = v ∨ V s = v))
    · obtain ⟨s, v, g1, g2, g3, g4⟩ := hg
      exact grow s v g1 g2 g3 g4
    -- nothing that is left touches the walk: then nothing is left
    exfalso
    have no : ∀ s v, s < ns → (U s = v ∨ V s = v) → (v = home ∨ ∃ s, s ∈ w ∧ (U s = v ∨ V s = v)) → d s = 0 := fun s v h1 h2 h3 => by
      by_cases z : d s = 0
      · exact z
      · exact absurd ⟨s, v, h1, by omega, h2, h3⟩ hg
    have inw : ∀ s, s < ns → 0 < c s → d s = 0 → s ∈ w := fun s h1 h2 h3 => by
      have := hc s h1
      exact List.count_pos_iff.mp (by omega)
    have key := hcn (fun s => d s = 0) (fun s t hs ht hcs hct hsh hds => by
      have hsw := inw s hs hcs hds
      rcases hsh with z | z | z | z
      · exact no t (U s) ht (Or.inl z.symm) (Or.inr ⟨s, hsw, Or.inl rfl⟩)
      · exact no t (U s) ht (Or.inr z.symm) (Or.inr ⟨s, hsw, Or.inl rfl⟩)
      · exact no t (V s) ht (Or.inl z.symm) (Or.inr ⟨s, hsw, Or.inr rfl⟩)
      · exact no t (V s) ht (Or.inr z.symm) (Or.inr ⟨s, hsw, Or.inr rfl⟩))
    have hf0 : d f = 0 := no f home hf (Or.inl hU) (Or.inl rfl)
    refine hz (fun t ht => ?_)
    by_cases z : d t = 0
    · exact z
    · exact absurd (key f t hf ht hcf (by have := hc t ht; omega) hf0) z
theorem euler0 {f home : Nat} (hcn : Cn1 U V ns (fun s => 0 < c s)) (hf : f < ns) (hcf : 0 < c f) (hU : U f = home) (hp : ∀ u, cx U V c u ns = false) : ∃ w, Wl U V ns w home home ∧ ∀ t, t < ns → c t = w.count t :=
  euler hcn hf hcf hU _ [] c rfl rfl (fun t _ => (Nat.zero_add _).symm) hp
/-- lengths, street by street -/
def cL (c L : Nat → Nat) : Nat → Nat
  | 0 => 0
  | n + 1 => cL c L n + c n * L n
theorem cL_flip : ∀ {n : Nat}, s < n → (∀ t, t ≠ s → c t = d t) → c s = d s + 1 → cL c L n = cL d L n + L s
  | 0, h, _, _ => absurd h (by omega)
  | n + 1, h, h1, h2 => by
    rw [cL, cL]
    by_cases e : s = n
    · subst e
      have : ∀ m, m ≤ s → cL c L m = cL d L m := by
        intro m
        induction m with
        | zero => intro _; rfl
        | succ m ih => intro hm; rw [cL, cL, ih (by omega), h1 m (by omega)]
      rw [this s (Nat.le_refl _), h2, Nat.add_mul, Nat.one_mul, Nat.add_assoc]
    · rw [cL_flip (n := n) (by omega) h1 h2, h1 n (fun z => e z.symm)]
      omega
theorem cL_0 : ∀ {n : Nat}, (∀ t, t < n → c t = 0) → cL c L n = 0
  | 0, _ => rfl
  | n + 1, h => by rw [cL, cL_0 (fun t ht => h t (by omega)), h n (by omega), Nat.zero_mul]
theorem cL_cg : ∀ {n : Nat}, (∀ t, t < n → c t = d t) → cL c L n = cL d L n
  | 0, _ => rfl
  | n + 1, h => by rw [cL, cL, cL_cg (fun t ht => h t (by omega)), h n (by omega)]
theorem cL_le : ∀ {n : Nat}, (∀ t, t < n → c t ≤ d t) → cL c L n ≤ cL d L n
  | 0, _ => Nat.le_refl _
  | n + 1, h => by
    have := cL_le (n := n) (fun t ht => h t (by omega))
    have := Nat.mul_le_mul_right (L n) (h n (by omega))
    rw [cL, cL]
    omega
theorem lsum_cL : ∀ {w : List Nat}, (∀ s, s ∈ w → s < ns) → lsum L w = cL (fun t => w.count t) L ns
  | [], _ => (cL_0 (fun t _ => rfl)).symm
  | s :: w, h => by
    rw [lsum, lsum_cL (fun t ht => h t (List.mem_cons_of_mem _ ht)), cL_flip (c := fun t => (s :: w).count t) (d := fun t => w.count t) (s := s) (h s List.mem_cons_self) (fun t ht => List.count_cons_of_ne (fun z => ht z.symm)) List.count_cons_self, Nat.add_comm]
/-- what is walked hangs together -/
theorem Wl.one : ∀ {w : List Nat} {p : Nat}, Wl U V ns w p q → ∀ P : Nat → Prop, (∀ s t, s ∈ w → t ∈ w → shr U V s t → P s → P t) → ∀ s t, s ∈ w → t ∈ w → P s → P t
  | [], _, _, _, _, s, _, h, _, _ => absurd h List.not_mem_nil
  | [x], _, _, _, _, s, t, h1, h2, hP => by
    rw [List.mem_singleton] at h1 h2
    rw [h2, ← h1]
    exact hP
  | x :: y :: w, p, ⟨hx, r, g1, hy, r', g2, g3⟩, P, hcl, s, t, h1, h2, hP => by
    have ih := Wl.one (w := y :: w) (p := r) ⟨hy, r', g2, g3⟩ P (fun s t a b => hcl s t (List.mem_cons_of_mem _ a) (List.mem_cons_of_mem _ b))
    have sh : shr U V x y := by
      unfold shr
      rcases g1 with ⟨_, a⟩ | ⟨_, a⟩ <;> rcases g2 with ⟨b, _⟩ | ⟨b, _⟩
      · exact Or.inr (Or.inr (Or.inl (a.trans b.symm)))
      · exact Or.inr (Or.inr (Or.inr (a.trans b.symm)))
      · exact Or.inl (a.trans b.symm)
      · exact Or.inr (Or.inl (a.trans b.symm))
    have sh' : shr U V y x := by
      unfold shr at sh ⊢
      rcases sh with z | z | z | z
      · exact Or.inl z.symm
      · exact Or.inr (Or.inr (Or.inl z.symm))
      · exact Or.inr (Or.inl z.symm)
      · exact Or.inr (Or.inr (Or.inr z.symm))
    have xm : x ∈ x :: y :: w := List.mem_cons_self
    have ym : y ∈ x :: y :: w := List.mem_cons_of_mem _ List.mem_cons_self
    have ym' : y ∈ y :: w := List.mem_cons_self
    rcases List.mem_cons.mp h1 with e1 | e1 <;> rcases List.mem_cons.mp h2 with e2 | e2
    · rw [e2, ← e1]; exact hP
    · rw [e1] at hP; exact ih y t ym' e2 (hcl x y xm ym sh hP)
    · rw [e2]; exact hcl y x ym xm sh' (ih s y e1 ym' hP)
    · exact ih s t e1 e2 hP
end TRL
