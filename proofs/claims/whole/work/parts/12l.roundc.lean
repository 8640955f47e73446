/-! Pure: the class's round is the least closed walk -/
def bB (x : Int32) (j : Nat) : Bool := x.toBitVec.getLsbD j
theorem bB_or {x y : Int32} {j : Nat} : bB (x ||| y) j = (bB x j || bB y j) := by unfold bB; rw [Int32.toBitVec_or, BitVec.getLsbD_or]
theorem bB_and {x y : Int32} {j : Nat} : bB (x &&& y) j = (bB x j && bB y j) := by unfold bB; rw [Int32.toBitVec_and, BitVec.getLsbD_and]
theorem bB_xor {x y : Int32} {j : Nat} : bB (x ^^^ y) j = (xor (bB x j) (bB y j)) := by unfold bB; rw [Int32.toBitVec_xor, BitVec.getLsbD_xor]
theorem bB_bt : ∀ i, i < 32 → ∀ j, j < 32 → bB (bt (nI i)) j = decide (j = i) := by decide +kernel
theorem bB_m1 : ∀ j, j < 32 → bB (-1) j = true := by decide +kernel
theorem bB_0 {j : Nat} : bB 0 j = false := by
  unfold bB
  have : (0 : Int32).toBitVec = 0#32 := rfl
  rw [this, BitVec.getLsbD_zero]
theorem bB_ext {x : Int32} (h : ∀ j, j < 32 → bB x j = false) : x = 0 := by
  refine Int32.toBitVec_inj.mp (BitVec.eq_of_getLsbD_eq (fun j hj => ?_))
  have : (0 : Int32).toBitVec = 0#32 := rfl
  rw [this, BitVec.getLsbD_zero]
  exact h j hj
theorem bB_has {x : Int32} {j : Nat} (hj : j < 32) : ((x >>> (nI j &&& 31)) &&& 1 = 1) ↔ bB x j = true := bGet hj
/-- what has been gathered -/
def tk (used : Int32) (x : Int32 × Int32) (s : Nat) : Prop := bB used s = true ∧ bB x.2 s = false
def OI (U V : Nat → Nat) (ns : Nat) (used : Int32) (x : Int32 × Int32) : Prop :=
  (∀ j, j < 32 → bB x.2 j = true → bB used j = true) ∧ (∀ v, v < 32 → (bB x.1 v = true ↔ ∃ s, s < ns ∧ tk used x s ∧ (U s = v ∨ V s = v))) ∧
  ∀ P : Nat → Prop, (∀ s t, s < ns → t < ns → bB used s = true → bB used t = true → shr U V s t → P s → P t) → ∀ s t, s < ns → t < ns → tk used x s → tk used x t → P s → P t
theorem shr.sym {U V : Nat → Nat} {s t : Nat} (h : shr U V s t) : shr U V t s := by
  unfold shr at h ⊢
  rcases h with z | z | z | z
  · exact Or.inl z.symm
  · exact Or.inr (Or.inr (Or.inl z.symm))
  · exact Or.inr (Or.inl z.symm)
  · exact Or.inr (Or.inr (Or.inr z.symm))
section RDC
variable {a : IA} {U V L : Nat → Nat} {T nc ns s t v : Nat} {used told : Int32} {x : Int32 × Int32}
theorem eds_b (h : GrC a T nc ns U V L) (hs : s < ns) (hv : v < 32) : bB (eds a T s) v = (decide (v = U s) || decide (v = V s)) := by
  obtain ⟨hu, hv', hne, eu, ev, el, hl⟩ := h.2.2 s hs
  have := h.1
  unfold eds
  rw [bB_or, eu, ev, bB_bt _ (by omega) _ hv, bB_bt _ (by omega) _ hv]
theorem and_eds (h : GrC a T nc ns U V L) (hs : s < ns) {m : Int32} : ¬ m &&& eds a T s = 0 ↔ (bB m (U s) = true ∨ bB m (V s) = true) := by
  obtain ⟨hu, hv', hne, _⟩ := h.2.2 s hs
  have := h.1
  constructor
  · intro z
    by_cases c : bB m (U s) = true ∨ bB m (V s) = true
    · exact c
    · exfalso
      refine z (bB_ext (fun j hj => ?_))
      rw [bB_and, eds_b h hs hj]
      by_cases e1 : j = U s
      · rw [e1, Bool.eq_false_iff.mpr (fun z => c (Or.inl z))]; rfl
      · by_cases e2 : j = V s
        · rw [e2, Bool.eq_false_iff.mpr (fun z => c (Or.inr z))]; rfl
        · rw [decide_eq_false e1, decide_eq_false e2, Bool.or_self, Bool.and_false]
  · intro z e
    have key : ∀ j, bB (m &&& eds a T s) j = false := fun j => by rw [e]; exact bB_0
    rcases z with z | z
    · have := key (U s)
      rw [bB_and, z, eds_b h hs (by omega), decide_eq_true rfl] at this
      exact Bool.noConfusion this
    · have := key (V s)
      rw [bB_and, z, eds_b h hs (by omega), decide_eq_true (rfl : V s = V s), Bool.or_true] at this
      exact Bool.noConfusion this
/-- whether a street is gathered now -/
def opC (a : IA) (T s : Nat) (x : Int32 × Int32) : Prop := (x.2 >>> (nI s &&& 31)) &&& 1 = 1 ∧ (x.1 = 0 ∨ ¬ x.1 &&& eds a T s = 0)
theorem opS_p (c : opC a T s x) : opS a T s x = (x.1 ||| eds a T s, x.2 &&& (bt (nI s) ^^^ (-1))) := if_pos c
theorem opS_n (c : ¬ opC a T s x) : opS a T s x = x := if_neg c
theorem bB_cut (hs : s < 32) {j : Nat} (hj : j < 32) {m : Int32} : bB (m &&& (bt (nI s) ^^^ (-1))) j = (bB m j && !decide (j = s)) := by
  rw [bB_and, bB_xor, bB_bt _ hs _ hj, bB_m1 _ hj, Bool.xor_true]
theorem OI.step (h : GrC a T nc ns U V L) (hs : s < ns) (hx : OI U V ns used x) : OI U V ns used (opS a T s x) := by
  have h8 := h.2.1
  by_cases c : opC a T s x
  · rw [opS_p c]
    obtain ⟨o1, o2, o3⟩ := hx
    have hl : bB x.2 s = true := (bB_has (by omega)).mp c.1
    have hu : bB used s = true := o1 s (by omega) hl
    have tk' : ∀ j, j < 32 → (tk used (x.1 ||| eds a T s, x.2 &&& (bt (nI s) ^^^ (-1))) j ↔ tk used x j ∨ j = s) := by
      intro j hj
      unfold tk
      show bB used j = true ∧ bB (x.2 &&& (bt (nI s) ^^^ (-1))) j = false ↔ _
      rw [bB_cut (by omega) hj]
      by_cases e : j = s
      · subst e
        rw [decide_eq_true rfl]
        exact ⟨fun _ => Or.inr rfl, fun _ => ⟨hu, Bool.and_false _⟩⟩
      · rw [decide_eq_false e]
        exact ⟨fun z => Or.inl ⟨z.1, by have := z.2; rw [Bool.not_false, Bool.and_true] at this; exact this⟩, fun z => z.elim (fun y => ⟨y.1, by rw [y.2]; rfl⟩) (fun y => absurd y e)⟩
    refine ⟨fun j hj z => ?_, fun v hv => ?_, fun P hP p q hp hq tp tq hPp => ?_⟩
    · have : bB (x.2 &&& (bt (nI s) ^^^ (-1))) j = true := z
      rw [bB_cut (by omega) hj, Bool.and_eq_true] at this
      exact o1 j hj this.1
    · show bB (x.1 ||| eds a T s) v = true ↔ _
      rw [bB_or, eds_b h hs hv, Bool.or_eq_true, Bool.or_eq_true, decide_eq_true_iff, decide_eq_true_iff, o2 v hv]
      constructor
      · rintro (⟨t, ht, z1, z2⟩ | z | z)
        · exact ⟨t, ht, (tk' t (by omega)).mpr (Or.inl z1), z2⟩
        · exact ⟨s, hs, (tk' s (by omega)).mpr (Or.inr rfl), Or.inl z.symm⟩
        · exact ⟨s, hs, (tk' s (by omega)).mpr (Or.inr rfl), Or.inr z.symm⟩
      · rintro ⟨t, ht, z1, z2⟩
        rcases (tk' t (by omega)).mp z1 with y | y
        · exact Or.inl ⟨t, ht, y, z2⟩
        · subst y
          exact Or.inr (z2.imp Eq.symm Eq.symm)
    · have tp1 := (tk' p (by omega)).mp tp
      have tq1 := (tk' q (by omega)).mp tq
      clear tp tq
      -- one that was there shares a corner with the new one, if any was there
      have link : (∃ t, t < ns ∧ tk used x t) → ∃ t, t < ns ∧ tk used x t ∧ shr U V s t := by
        rintro ⟨t, ht, z⟩
        have hne : ¬ x.1 = 0 := fun e => by
          have hut := (h.2.2 t ht).1
          have hc := h.1
          have := (o2 (U t) (by omega)).mpr ⟨t, ht, z, Or.inl rfl⟩
          rw [e, bB_0] at this
          exact Bool.noConfusion this
        have hc := h.1
        rcases (and_eds h hs).mp (c.2.resolve_left hne) with y | y
        · obtain ⟨t', ht', z1, z2⟩ := (o2 (U s) (by have := (h.2.2 s hs).1; omega)).mp y
          exact ⟨t', ht', z1, z2.elim (fun w => Or.inl w.symm) (fun w => Or.inr (Or.inl w.symm))⟩
        · obtain ⟨t', ht', z1, z2⟩ := (o2 (V s) (by have := (h.2.2 s hs).2.1; omega)).mp y
          exact ⟨t', ht', z1, z2.elim (fun w => Or.inr (Or.inr (Or.inl w.symm))) (fun w => Or.inr (Or.inr (Or.inr w.symm)))⟩
      rcases tp1 with tp | tp <;> rcases tq1 with tq | tq
      · exact o3 P hP p q hp hq tp tq hPp
      · subst tq
        obtain ⟨t', ht', z1, z2⟩ := link ⟨p, hp, tp⟩
        exact hP t' q ht' hq z1.1 hu z2.sym (o3 P hP p t' hp ht' tp z1 hPp)
      · subst tp
        obtain ⟨t', ht', z1, z2⟩ := link ⟨q, hq, tq⟩
        exact o3 P hP t' q ht' hq z1 tq (hP p t' hp ht' hu z1.1 z2 hPp)
      · rw [tq, ← tp]; exact hPp
  · rw [opS_n c]; exact hx
theorem OI.pass (h : GrC a T nc ns U V L) (hx : OI U V ns used x) : ∀ c, c ≤ ns → OI U V ns used (lpM (opS a T) c 0 x)
  | 0, _ => hx
  | c + 1, hc => by
    rw [lpM_snoc, Nat.zero_add]
    exact OI.step h (by omega) (OI.pass h hx c (by omega))
theorem OI.all (h : GrC a T nc ns U V L) : ∀ (k : Nat) (x : Int32 × Int32), OI U V ns used x → OI U V ns used (opT a T ns k x)
  | 0, _, hx => hx
  | k + 1, x, hx => by
    rw [opT]
    split
    · exact hx
    · exact OI.all h k _ (OI.pass h hx ns (Nat.le_refl _))
theorem OI.begin : OI U V ns used (0, used) := by
  have no : ∀ s, ¬ tk used (0, used) s := fun s z => by
    have z1 : bB used s = true := z.1
    have z2 : bB used s = false := z.2
    rw [z1] at z2
    exact Bool.noConfusion z2
  exact ⟨fun _ _ z => z, fun v _ => ⟨fun z => by have z : bB 0 v = true := z; rw [bB_0] at z; exact Bool.noConfusion z, fun ⟨s, _, z, _⟩ => absurd z (no s)⟩, fun _ _ s _ _ _ z => absurd z (no s)⟩
/-- in one piece, as the class says: then it hangs together -/
theorem oneP_cn (h : GrC a T nc ns U V L) (ho : oneP a T ns used = true) : Cn1 U V ns (fun s => bB used s = true) := by
  have h8 := h.2.1
  have he : (opT a T ns ns (0, used)).2 = 0 := of_decide_eq_true ho
  have o := (OI.all h ns (0, used) OI.begin).2.2
  intro P hP s t hs ht us ut hPs
  exact o P hP s t hs ht ⟨us, by rw [he]; exact bB_0⟩ ⟨ut, by rw [he]; exact bB_0⟩ hPs
def cnL (ns : Nat) (x : Int32 × Int32) : Nat := cA (fun j => bB x.2 j) ns
theorem cnL_step (h : GrC a T nc ns U V L) (hs : s < ns) (c : opC a T s x) : cnL ns (opS a T s x) + 1 = cnL ns x := by
  have h8 := h.2.1
  rw [opS_p c]
  unfold cnL
  have hl : bB x.2 s = true := (bB_has (by omega)).mp c.1
  rw [← cA_less (A := fun j => bB x.2 j) hs hl]
  congr 1
  refine cA_cg (fun v hv => ?_)
  show bB (x.2 &&& (bt (nI s) ^^^ (-1))) v = less (fun j => bB x.2 j) s v
  rw [bB_cut (by omega) (by omega)]
  rfl
theorem pass_cn (h : GrC a T nc ns U V L) : ∀ c, c ≤ ns → cnL ns (lpM (opS a T) c 0 x) < cnL ns x ∨ (lpM (opS a T) c 0 x = x ∧ ∀ s, s < c → ¬ opC a T s x)
  | 0, _ => Or.inr ⟨rfl, fun s hs => absurd hs (by omega)⟩
  | c + 1, hc => by
    rw [lpM_snoc, Nat.zero_add]
    rcases pass_cn h c (by omega) with z | ⟨z1, z2⟩
    · left
      by_cases e : opC a T c (lpM (opS a T) c 0 x)
      · have := cnL_step h (show c < ns by omega) e
        omega
      · rw [opS_n e]
        exact z
    · rw [z1]
      by_cases e : opC a T c x
      · left
        have := cnL_step h (show c < ns by omega) e
        omega
      · right
        refine ⟨?_, fun s hs => ?_⟩
        · exact opS_n e
        · by_cases q : s = c
          · rw [q]; exact e
          · exact z2 s (by omega)
theorem cA_le {A : Nat → Bool} : ∀ n, cA A n ≤ n
  | 0 => Nat.le_refl _
  | n + 1 => by
    have := cA_le (A := A) n
    rw [cA]
    split <;> omega
theorem opT_0 (h : GrC a T nc ns U V L) (hb : ∀ j, j < 32 → bB used j = true → j < ns) (hcn : Cn1 U V ns (fun s => bB used s = true)) : ∀ (k : Nat) (x : Int32 × Int32), OI U V ns used x → cnL ns x ≤ k → (opT a T ns k x).2 = 0
  | 0, x, hx, hk => by
    rw [opT]
    refine bB_ext (fun j hj => ?_)
    by_cases z : bB x.2 j = true
    · have := cA_pos (A := fun j => bB x.2 j) (hb j hj (hx.1 j hj z)) z
      unfold cnL at hk
      omega
    · exact Bool.eq_false_iff.mpr z
  | k + 1, x, hx, hk => by
    rw [opT]
    by_cases e : x.2 = 0
    · rw [if_pos e]; exact e
    rw [if_neg e]
    have hx' := OI.pass h hx ns (Nat.le_refl _)
    rcases pass_cn (x := x) h ns (Nat.le_refl _) with z | ⟨_, z⟩
    · exact opT_0 h hb hcn k _ hx' (by omega)
    · exfalso
      have h8 := h.2.1
      have h10 := h.1
      obtain ⟨o1, o2, o3⟩ := hx
      by_cases m0 : x.1 = 0
      · refine e (bB_ext (fun j hj => ?_))
        by_cases y : bB x.2 j = true
        · exact absurd ⟨(bB_has hj).mpr y, Or.inl m0⟩ (z j (hb j hj (o1 j hj y)))
        · exact Bool.eq_false_iff.mpr y
      · -- all that shares a corner with what was gathered is gathered
        have cl : ∀ s t, s < ns → t < ns → bB used s = true → bB used t = true → shr U V s t → tk used x s → tk used x t := by
          intro s t hs ht us ut hsh ts
          refine ⟨ut, ?_⟩
          by_cases y : bB x.2 t = true
          · exfalso
            refine z t ht ⟨(bB_has (by omega)).mpr y, Or.inr ((and_eds h ht).mpr ?_)⟩
            have bu := (h.2.2 t ht).1
            have bv := (h.2.2 t ht).2.1
            rcases hsh with q | q | q | q
            · exact Or.inl ((o2 (U t) (by omega)).mpr ⟨s, hs, ts, Or.inl q⟩)
            · exact Or.inr ((o2 (V t) (by omega)).mpr ⟨s, hs, ts, Or.inl q⟩)
            · exact Or.inl ((o2 (U t) (by omega)).mpr ⟨s, hs, ts, Or.inr q⟩)
            · exact Or.inr ((o2 (V t) (by omega)).mpr ⟨s, hs, ts, Or.inr q⟩)
          · exact Bool.eq_false_iff.mpr y
        have some1 : ∃ s, s < ns ∧ tk used x s := by
          by_cases y : ∃ v, v < 32 ∧ bB x.1 v = true
          · obtain ⟨v, hv, y⟩ := y
            obtain ⟨s, hs, q, _⟩ := (o2 v hv).mp y
            exact ⟨s, hs, q⟩
          · exact absurd (bB_ext (fun j hj => Bool.eq_false_iff.mpr (fun q => y ⟨j, hj, q⟩))) m0
        obtain ⟨s, hs, ts⟩ := some1
        refine e (bB_ext (fun j hj => ?_))
        by_cases y : bB x.2 j = true
        · have uj := o1 j hj y
          have := hcn (tk used x) cl s j hs (hb j hj uj) ts.1 uj ts
          rw [this.2] at y
          exact Bool.noConfusion y
        · exact Bool.eq_false_iff.mpr y
theorem cn_oneP (h : GrC a T nc ns U V L) (hb : ∀ j, j < 32 → bB used j = true → j < ns) (hcn : Cn1 U V ns (fun s => bB used s = true)) : oneP a T ns used = true :=
  decide_eq_true (opT_0 h hb hcn ns (0, used) OI.begin (cA_le ns))
end RDC
