/-! Pure: one step alike -/
section SPR
variable {a b : IA} {T nc ns ng s t q p : Nat} {w : Int32} {lw : List Int32} {f g : Nat → Int32} {v : St}
theorem lwHind_cg {a' : IA} {x y : Int32} (e : ∀ k, k ≤ 11 → a' (T + k) = a (T + k)) (eq : a' (q + 1) = a (q + 1)) : lwHind a' T q lw x y = lwHind a T q lw x y := by
  have e3 := e 3 (by decide)
  have e4 := e 4 (by decide)
  have e5 := e 5 (by decide)
  have e7 := e 7 (by decide)
  have e8 := e 8 (by decide)
  have e9 := e 9 (by decide)
  have ef : lwFact a' T q x y = lwFact a T q x y := by
    funext w
    unfold lwFact ctCommon ctLiking
    rw [e3, e4, e5, e7, e8, eq]
  unfold lwHind ctNever
  rw [ef, e9]
theorem Tw.cg {a' : IA} (h : Tw a T nc ns ng) (hT : isCity T) (e : ∀ c, c ≠ 44 → c ≠ 582 → a' c = a c) : Tw a' T nc ns ng := by
  have h' := h
  obtain ⟨hc, h0, h1, h2, h3, h4, h5, h6, h7⟩ := h
  have h8 := hc.2.2.2.1
  have h88 := hc.2.2.2.2.2.1
  have h10 := hc.2.1
  have eT : ∀ k, k ≤ 11 → a' (T + k) = a (T + k) := fun k hk => e _ (by rcases hT with rfl | rfl <;> omega) (by rcases hT with rfl | rfl <;> omega)
  have e0 := eT 0 (by decide)
  refine ⟨hc.row (e 64 (by decide) (by decide)) (fun s hs => e _ (by omega) (by omega)), ?_, ?_, ?_, fun k hk => ?_, fun s hs => ?_, fun g hg => ?_, fun s o hs ho => ?_, fun s o hs ho => ?_⟩
  · rw [show a' T = a T from e0]; exact h0
  · rw [show a' T = a T from e0]; exact h1
  · rw [show a' T = a T from e0]; exact h2
  · rw [eT 1 (by decide), eT 2 (by decide), e _ (by omega) (by omega)]; exact h3 k hk
  · rw [eT 3 (by decide), eT 4 (by decide), eT 5 (by decide), eT 6 (by decide), eT 7 (by decide), e (96 + 1 + s) (by omega) (by omega), mLen_cg hc (fun c hc => e c (by omega) (by omega)) hs]; exact h4 s hs
  · rw [eT 10 (by decide), eT 11 (by decide), e _ (by omega) (by omega)]; exact h5 g hg
  · rw [eT 8 (by decide), e _ (by omega) (by omega)]; exact h6 s o hs ho
  · rw [eT 9 (by decide), e _ (by omega) (by omega)]; exact h7 s o hs ho
theorem st_rel (h : Tw a T nc ns ng) (hT : isCity T) (hR : Rw ns f g) (hv : stV ns v) : (stpC a T lw f v).1 = (mStp a 582 ns lw g v).1 ∧ Rw ns (stpC a T lw f v).2 (mStp a 582 ns lw g v).2 := by
  have h8 := h.1.2.2.2.1
  obtain ⟨v1, v2, v3⟩ := v
  obtain ⟨hk, hs5, ht1⟩ := hv
  have hs5 : v1 = 1 ∨ v1 = 2 ∨ v1 = 3 ∨ v1 = 4 ∨ v1 = 5 → ∃ s, s < ns ∧ v2 = nI s := hs5
  have ht1 : v1 = 1 → ∃ s, s < ns ∧ v3 = nI s := ht1
  unfold stpC mStp
  show (if v1 = 1 then _ else _ : Int32 × (Nat → Int32)).1 = _ ∧ _
  by_cases c1 : v1 = 1
  · obtain ⟨s, hs, rfl⟩ := hs5 (Or.inl c1)
    obtain ⟨t, ht, rfl⟩ := ht1 c1
    simp only [if_pos c1]
    rw [nI_clamp (show s < 2 ^ 31 by omega), nI_clamp (show t < 2 ^ 31 by omega)]
    have hTw : Tw (va_up (va_up a 44 f) 582 g) T nc ns ng := h.cg hT (fun c d1 d2 => by rw [va_up_ne _ _ d2, va_up_ne _ _ d1])
    have hb := tw_hind (q := 43) (p := 582) (lw := lw) hTw (by rw [va_up_self, va_up_ne _ _ (by decide), va_up_self]; exact hR) hs ht
    rw [lwHind_cg (a := va_up a 44 f) (fun k hk => va_up_ne _ _ (by rcases hT with rfl | rfl <;> omega)) (va_up_ne _ _ (by decide))] at hb
    rw [hb, mBan_cg (a := va_up (va_up a 44 f) 582 g) (a' := va_up a 582 g) hTw.1 (fun c hc => by rw [va_up_ne _ _ (show c ≠ 582 by omega), va_up_ne _ _ (show c ≠ 582 by omega), va_up_ne _ _ (show c ≠ 44 by omega)]) (by rw [va_up_self, va_up_self]) hs ht]
    unfold lfWed
    rw [kM (by omega), kM (by omega), hR.1.1 s (by omega), hR.1.1 t (by omega)]
    by_cases cb : mBan (va_up (va_up a 44 f) 582 g) 582 lw s t = 0
    · have hst : s ≠ t := by
        intro z
        unfold mBan at cb
        rw [if_pos z] at cb
        exact absurd cb (by decide)
      rw [if_pos cb]
      by_cases cm : g s = -1 ∧ g t = -1
      · rw [if_pos cm, if_neg (fun z => z.elim (fun y => y cm.1) (fun z => z.elim (fun y => y cm.2) (fun y => y cb)))]
        exact ⟨rfl, rw_wed hR h8 hs ht hst cm.1 cm.2⟩
      · rw [if_neg cm, if_pos (by
          by_cases z : g s = -1
          · exact Or.inr (Or.inl (fun y => cm ⟨z, y⟩))
          · exact Or.inl z)]
        exact ⟨rfl, hR⟩
    · rw [if_neg cb, if_pos (Or.inr (Or.inr cb))]
      exact ⟨rfl, hR⟩
  simp only [if_neg c1]
  have mate : ∀ {s : Nat}, s < ns → g s = -1 ∨ ∃ m, m < ns ∧ s ≠ m ∧ g s = nI m ∧ g m = nI s := fun hs => (hR.2.1 _ hs).elim Or.inl (fun ⟨m, hm, hne, q1, q2⟩ => Or.inr ⟨m, hm, fun z => hne z.symm, q1, q2⟩)
  by_cases c2 : v1 = 2
  · obtain ⟨s, hs, rfl⟩ := hs5 (Or.inr (Or.inl c2))
    simp only [if_pos c2]
    rw [nI_clamp (show s < 2 ^ 31 by omega)]
    rcases mate hs with h0 | ⟨m, hm, hne, q1, q2⟩
    · rw [rw_part0 hR (by omega) h0, if_pos h0]; exact ⟨rfl, hR⟩
    · rw [if_neg (by rw [q1]; exact nI_n1 (by omega)), q1, nI_clamp (by omega)]
      exact rw_part hR h8 hs hm hne q1 q2
  simp only [if_neg c2]
  by_cases c3 : v1 = 3
  · obtain ⟨s, hs, rfl⟩ := hs5 (Or.inr (Or.inr (Or.inl c3)))
    simp only [if_pos c3]
    rw [nI_clamp (show s < 2 ^ 31 by omega)]
    exact rw_plant hR h8 hs
  simp only [if_neg c3]
  by_cases c4 : v1 = 4
  · obtain ⟨s, hs, rfl⟩ := hs5 (Or.inr (Or.inr (Or.inr (Or.inl c4))))
    simp only [if_pos c4]
    rw [nI_clamp (show s < 2 ^ 31 by omega)]
    have r := rw_mQr hR h8 hs
    unfold mQr at r
    by_cases h0 : g s = -1
    · rw [if_pos h0] at r; rw [if_pos (Or.inl h0)]; exact r
    · rw [if_neg h0] at r
      by_cases h9 : g (32 + s) = 9 ∧ g (32 + (g s).toNatClampNeg) = 9
      · rw [if_pos h9] at r; rw [if_pos (Or.inr h9)]; exact r
      · rw [if_neg h9] at r; rw [if_neg (fun z => z.elim h0 h9)]; exact r
  simp only [if_neg c4]
  by_cases c5 : v1 = 5
  · obtain ⟨s, hs, rfl⟩ := hs5 (Or.inr (Or.inr (Or.inr (Or.inr c5))))
    simp only [if_pos c5]
    rw [nI_clamp (show s < 2 ^ 31 by omega)]
    rcases mate hs with h0 | ⟨m, hm, hne, q1, q2⟩
    · rw [if_pos h0]; exact rw_repave0 hR h8 hs h0
    · rw [if_neg (by rw [q1]; exact nI_n1 (by omega)), q1, nI_clamp (by omega)]
      exact rw_repave hR h8 hs hm hne q1
  simp only [if_neg c5]
  exact rw_turn hR h8
end SPR
