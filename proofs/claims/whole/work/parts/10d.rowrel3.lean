/-! Pure: quarrels, trees, repaving -/
section RW3
variable {ns s t k : Nat} {f g : Nat → Int32} {x : Int32}
theorem rw_put32 {h : Nat} (hR : Rw ns f g) (h8 : ns ≤ 8) (hs : s < ns) (hx : h ≤ 9) : Rw ns (upd f (32 + s) (nI h)) (upd g (32 + s) (nI h)) := by
  obtain ⟨⟨h1, h2, h3, h4, h5, h6, h7⟩, p1, p2, p3, p4, p5⟩ := hR
  refine ⟨⟨fun k hk => ?_, fun k hk => ?_, fun k hk => ?_, fun k hk => ?_, fun k hk => ?_, ?_, ?_⟩, wfM_cg p1 (fun k hk => ?_), fun k hk hk8 => ?_, fun k m hk hm he => ?_, fun k hk => ?_, ?_⟩
  · simp (disch := omega) only [upd_ne, h1]
  · simp (disch := omega) only [upd_ne, h2]
  · simp (disch := omega) only [upd_ne, h3]
  · simp (disch := omega) only [upd_ne, h4]
  · by_cases e1 : k = s
    · subst e1; simp (disch := omega) only [upd_eq]
    · simp (disch := omega) only [upd_ne, h5]
  · simp (disch := omega) only [upd_ne, h6]
  · simp (disch := omega) only [upd_ne, h7]
  · simp (disch := omega) only [upd_ne]
  · simp (disch := omega) only [upd_ne]; exact p2 k hk hk8
  · simp (disch := omega) only [upd_ne] at he ⊢; exact p3 k m hk hm he
  · by_cases e1 : k = s
    · subst e1; simp (disch := omega) only [upd_eq]; exact ⟨h, hx, rfl⟩
    · simp (disch := omega) only [upd_ne]; exact p4 k hk
  · simp (disch := omega) only [upd_ne]; exact p5
theorem rw_plant (h : Rw ns f g) (h8 : ns ≤ 8) (hs : s < ns) : (lfPlant f (nI s) x).1 = (if g (24 + s) < 99 then (1, upd g (24 + s) (if g (24 + s) + x ≤ 99 then g (24 + s) + x else 99)) else ((0 : Int32), g)).1 ∧
    Rw ns (lfPlant f (nI s) x).2 (if g (24 + s) < 99 then (1, upd g (24 + s) (if g (24 + s) + x ≤ 99 then g (24 + s) + x else 99)) else ((0 : Int32), g)).2 := by
  unfold lfPlant
  rw [kT (show s < 8 by omega), h.1.2.2.2.1 s (by omega), up99, o24, rPut_nI _ (by decide) (by omega)]
  by_cases c : g (24 + s) < 99
  · rw [if_pos c, if_pos c]
    exact ⟨rfl, rw_put24 h h8 hs⟩
  · rw [if_neg c, if_neg c]
    exact ⟨rfl, h⟩
theorem up9 : ∀ h, h ≤ 9 → (if nI h + 1 < 9 then nI h + 1 else 9) = nI (if h = 9 then 9 else h + 1) := by decide +kernel
theorem up9' : ∀ h, h ≤ 9 → (if nI h + 1 ≤ 9 then nI h + 1 else 9) = nI (if h = 9 then 9 else h + 1) := by decide +kernel
theorem lt9 : ∀ h, h ≤ 9 → (¬ nI h < 9 ↔ nI h = 9) := by decide +kernel
theorem hole_r (h : Rw ns f g) (h8 : ns ≤ 8) (hs : s < ns) : Rw ns (lfHole1 f (nI s)) (upd g (32 + s) (if g (32 + s) + 1 ≤ 9 then g (32 + s) + 1 else 9)) := by
  obtain ⟨v, hv, e⟩ := h.2.2.2.2.1 s (by omega)
  unfold lfHole1
  rw [kH (by omega), kSH (by omega), h.1.2.2.2.2.1 s (by omega), e, up9 v hv, up9' v hv]
  exact rw_put32 h h8 hs (by split <;> omega)
theorem rw_quar0 (h : Rw ns f g) (hs : s < 8) (e1 : g s = -1) : lfQuar f (nI s) = (0, f) := by
  unfold lfQuar
  rw [kM (by omega), h.1.1 s hs, if_pos (Or.inl e1)]
theorem rw_quar (h : Rw ns f g) (h8 : ns ≤ 8) (hs : s < ns) (ht : t < ns) (hst : s ≠ t) (e1 : g s = nI t) :
    (lfQuar f (nI s)).1 = (if g (32 + s) = 9 ∧ g (32 + t) = 9 then 0 else 1) ∧ Rw ns (lfQuar f (nI s)).2 (if g (32 + s) = 9 ∧ g (32 + t) = 9 then g else mQuar g s t) := by
  have hn : ¬ g s = -1 := by rw [e1]; exact nI_n1 (by omega)
  obtain ⟨v, hv, ev⟩ := h.2.2.2.2.1 s (by omega)
  obtain ⟨w, hw, ew⟩ := h.2.2.2.2.1 t (by omega)
  unfold lfQuar
  rw [kM (by omega), h.1.1 s (by omega), e1, kH (by omega), kH (by omega), h.1.2.2.2.2.1 s (by omega), h.1.2.2.2.2.1 t (by omega)]
  have c0 : (nI t = -1 ∨ ¬ g (32 + s) < 9 ∧ ¬ g (32 + t) < 9) ↔ (g (32 + s) = 9 ∧ g (32 + t) = 9) := by
    rw [ev, ew, lt9 v hv, lt9 w hw]
    exact ⟨fun z => z.resolve_left (nI_n1 (by omega)), Or.inr⟩
  by_cases c : g (32 + s) = 9 ∧ g (32 + t) = 9
  · rw [if_pos (c0.mpr c), if_pos c, if_pos c]
    exact ⟨rfl, h⟩
  · rw [if_neg (fun z => c (c0.mp z)), if_neg c, if_neg c]
    refine ⟨rfl, ?_⟩
    have r1 := hole_r h h8 hs
    have r2 := hole_r r1 h8 ht
    unfold mQuar
    simp (disch := omega) only [upd_ne] at r2
    exact r2
theorem sum0 : ∀ h, h ≤ 9 → ∀ k, k ≤ 9 → (nI h + nI k = 0 ↔ h = 0 ∧ k = 0) ∧ (nI h + nI k ≤ 0 ↔ h = 0 ∧ k = 0) := by decide +kernel
theorem z0n : ∀ h, h ≤ 9 → (nI h + 0 = 0 ↔ h = 0) ∧ (nI h ≤ 0 ↔ h = 0) := by decide +kernel
theorem upd_was {f : Nat → Int32} {j : Nat} (h : f j = x) : upd f j x = f := by
  funext i
  by_cases e : i = j
  · rw [e, upd_eq, h]
  · rw [upd_ne e]
theorem rw_repave0 (h : Rw ns f g) (h8 : ns ≤ 8) (hs : s < ns) (e1 : g s = -1) : (lfRepave f (nI s)).1 = (if g (32 + s) ≤ 0 then 0 else 1) ∧ Rw ns (lfRepave f (nI s)).2 (upd g (32 + s) 0) := by
  obtain ⟨v, hv, ev⟩ := h.2.2.2.2.1 s (by omega)
  unfold lfRepave
  rw [kM (by omega), h.1.1 s (by omega), kH (by omega), if_pos e1, if_pos e1, h.1.2.2.2.2.1 s (by omega), kSH (by omega)]
  have c0 := z0n v hv
  by_cases c : v = 0
  · rw [if_pos (by rw [ev]; exact c0.1.mpr c), if_pos (by rw [ev]; exact c0.2.mpr c), upd_was (by rw [ev, c]; rfl)]
    exact ⟨rfl, h⟩
  · rw [if_neg (by rw [ev]; exact fun z => c (c0.1.mp z)), if_neg (by rw [ev]; exact fun z => c (c0.2.mp z))]
    exact ⟨rfl, rw_put32 (h := 0) h h8 hs (by omega)⟩
theorem rw_repave (h : Rw ns f g) (h8 : ns ≤ 8) (hs : s < ns) (ht : t < ns) (hst : s ≠ t) (e1 : g s = nI t) :
    (lfRepave f (nI s)).1 = (if g (32 + s) + g (32 + t) ≤ 0 then 0 else 1) ∧ Rw ns (lfRepave f (nI s)).2 (upd (upd g (32 + s) 0) (32 + t) 0) := by
  have hn : ¬ g s = -1 := by rw [e1]; exact nI_n1 (by omega)
  obtain ⟨v, hv, ev⟩ := h.2.2.2.2.1 s (by omega)
  obtain ⟨w, hw, ew⟩ := h.2.2.2.2.1 t (by omega)
  unfold lfRepave
  rw [kM (by omega), h.1.1 s (by omega), if_neg hn, if_neg hn, e1, kH (by omega), kH (by omega), h.1.2.2.2.2.1 s (by omega), h.1.2.2.2.2.1 t (by omega), kSH (by omega), kSH (by omega)]
  have c0 := sum0 v hv w hw
  by_cases c : v = 0 ∧ w = 0
  · rw [if_pos (by rw [ev, ew]; exact c0.1.mpr c), if_pos (by rw [ev, ew]; exact c0.2.mpr c)]
    have u1 : upd g (32 + s) 0 = g := upd_was (by rw [ev, c.1]; rfl)
    rw [u1, upd_was (by rw [ew, c.2]; rfl)]
    exact ⟨rfl, h⟩
  · rw [if_neg (by rw [ev, ew]; exact fun z => c (c0.1.mp z)), if_neg (by rw [ev, ew]; exact fun z => c (c0.2.mp z))]
    exact ⟨rfl, rw_put32 (h := 0) (rw_put32 (h := 0) h h8 hs (by omega)) h8 ht (by omega)⟩
end RW3
