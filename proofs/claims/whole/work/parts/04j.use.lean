/-! how results are used -/
theorem hasRoom_up {s : State} {pl : Platform} {r r' : Room} (hf : r.frames ≤ r'.frames) (hl : r.locals ≤ r'.locals) (hc : r.cells ≤ r'.cells) (hs : r.slots ≤ r'.slots) (h : s.hasRoom pl r' = true) : s.hasRoom pl r = true := by
  simp only [State.hasRoom, Bool.and_eq_true, decide_eq_true_eq] at h ⊢
  obtain ⟨⟨⟨⟨y, a, b, c, d, e⟩, f⟩, g⟩, i⟩ := h
  exact ⟨⟨⟨⟨by omega, by omega, by omega, by omega, by omega, e⟩, by omega⟩, by omega⟩, i⟩
theorem Sp.up {G : GE} {d d' mc ms : Nat} {M : MI} {as : List Value} {h : AH} {ρ : Rs} (hd : d ≤ d') (h0 : Sp G d mc ms M as h ρ) : Sp G d' mc ms M as h ρ := by
  intro p e ha hcs hk s m args below hfr happ hP hK
  obtain ⟨a1, a2, a3, a4, a5, a6, a7, a8⟩ := (Spec.appliesLoose_iff hfr).mp happ
  exact h0 p e ha hcs hk s m args below hfr ((Spec.appliesLoose_iff hfr).mpr ⟨a1, a2, a3, a4, a5, a6, hasRoom_up (r := rmD d mc ms) (r' := rmD d' mc ms) (show d ≤ d' from hd) (show 60 * d ≤ 60 * d' by omega) (Nat.le_refl _) (Nat.le_refl _) a7, a8⟩) hP hK
theorem Sp.imp {G : GE} {d mc ms : Nat} {M : MI} {as : List Value} {h : AH} {ρ ρ' : Rs} (h0 : Sp G d mc ms M as h ρ) (hi : ∀ x h', ρ x h' → ρ' x h') : Sp G d mc ms M as h ρ' := by
  refine MetFree.mono h0 (fun _ _ q => q) (fun _ _ _ _ _ q => q) (fun a s o t _ hq => ?_)
  rcases hq with ⟨⟨r, h1, h2, h3⟩, h4⟩ | ⟨q, ho, E, ce, L, ⟨h1, h2, h3⟩, h4⟩
  · exact Or.inl ⟨⟨r, h1, hi _ _ h2, h3⟩, h4⟩
  · exact Or.inr ⟨q, ho, E, ce, L, ⟨h1, hi _ _ h2, h3⟩, h4⟩
theorem Sp.mk {G : GE} {d mc ms : Nat} {M : MI} {as : List Value} {h : AH} {ρ : Rs} (L : List Value) (hL : as ++ List.replicate (M.2.2.1 - as.length) .null = L) (hy : plainName M.1.cls = true) (hc : (as.all fun v => v.category == 1) = true) (hn : Nat.ble as.length M.2.2.1 = true)
    (hE : E G M d mc ms 0 L [] h ρ) : Sp G d mc ms M as h ρ := by
  subst hL
  exact Sp.of hy (fun v hv => by simpa using List.all_eq_true.mp hc v hv) (Nat.le_of_ble_eq_true hn) hE
theorem E.imp {G : GE} {M : MI} {d C S pc : Nat} {L st : List Value} {h : AH} {ρ ρ' : Rs} (h0 : E G M d C S pc L st h ρ) (hi : ∀ x h', ρ x h' → ρ' x h') : E G M d C S pc L st h ρ' := by
  intro p e R s m args below meth c H locs cells slots ls hC hR hl hW hS T hT X
  obtain ⟨t, a, o, b1, b2, hq⟩ := h0 p e R s m args below meth c H locs cells slots ls hC hR hl hW hS T hT X
  refine ⟨t, a, o, b1, b2, ?_⟩
  rcases hq with ⟨⟨r, h1, h2, h3⟩, h4⟩ | ⟨q, ho, E, ce, L, ⟨h1, h2, h3⟩, h4⟩
  · exact Or.inl ⟨⟨r, h1, hi _ _ h2, h3⟩, h4⟩
  · exact Or.inr ⟨q, ho, E, ce, L, ⟨h1, hi _ _ h2, h3⟩, h4⟩
theorem RI_imp {P Q : Int32 → (Nat → Nat → Int32) → (Nat → Nat → Value) → Nat → Prop} (h : ∀ v a r N, P v a r N → Q v a r N) : ∀ x h', RI P x h' → RI Q x h' := fun _ _ ⟨v, e, p⟩ => ⟨v, e, h _ _ _ _ p⟩
theorem RJ_imp {P Q : Int64 → (Nat → Nat → Int32) → (Nat → Nat → Value) → Nat → Prop} (h : ∀ v a r N, P v a r N → Q v a r N) : ∀ x h', RJ P x h' → RJ Q x h' := fun _ _ ⟨v, e, p⟩ => ⟨v, e, h _ _ _ _ p⟩
theorem RN_imp {P Q : (Nat → Nat → Int32) → (Nat → Nat → Value) → Nat → Prop} (h : ∀ a r N, P a r N → Q a r N) : ∀ x h', RN P x h' → RN Q x h' := fun _ _ ⟨e, p⟩ => ⟨e, h _ _ _ p⟩
/-- a call's result, in the words of its caller -/
theorem Sp.toI {G : GE} {d mc ms : Nat} {M : MI} {as : List Value} {h : AH} {P Q : Int32 → (Nat → Nat → Int32) → (Nat → Nat → Value) → Nat → Prop} (h0 : Sp G d mc ms M as h (RI P)) (hi : ∀ v a r N, P v a r N → Q v a r N) : Sp G d mc ms M as h (RI Q) := h0.imp (RI_imp hi)
theorem Sp.toN {G : GE} {d mc ms : Nat} {M : MI} {as : List Value} {h : AH} {P Q : (Nat → Nat → Int32) → (Nat → Nat → Value) → Nat → Prop} (h0 : Sp G d mc ms M as h (RN P)) (hi : ∀ a r N, P a r N → Q a r N) : Sp G d mc ms M as h (RN Q) := h0.imp (RN_imp hi)
