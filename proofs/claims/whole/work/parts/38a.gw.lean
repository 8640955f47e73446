/-! What holds of the machine when the law begins -/
/-- the claim's premises, one by one -/
abbrev stF : List Cond := flatC (Jvm.Cond.and given_1 narrow_1)
def stT (i : Nat) : Term := match i with
  | 0 => .string "MarriedStreets" 390
  | 1 => .string "MarriedStreets$City" 121
  | 2 => .string "MarriedStreets$City" 127
  | 3 => .string "MarriedStreets$City" 129
  | 4 => .string "MarriedStreets$City" 131
  | 5 => .string "MarriedStreets$City" 133
  | 6 => .string "MarriedStreets$City" 135
  | 7 => .string "MarriedStreets$City" 137
  | 8 => .string "MarriedStreets$Law" 73
  | 9 => .string "MarriedStreets$Law" 79
  | 10 => .string "MarriedStreets$Law" 81
  | 11 => .string "MarriedStreets$Law" 85
  | 12 => .string "MarriedStreets$Law" 87
  | 13 => .string "MarriedStreets$Law" 89
  | 14 => .string "MarriedStreets$Law" 91
  | 15 => .string "MarriedStreets$Law" 93
  | 16 => .string "MarriedStreets$Law" 95
  | 17 => .string "MarriedStreets$Law" 97
  | 18 => .string "MarriedStreets$Plan" 83
  | 19 => .string "MarriedStreets$Plan" 89
  | 20 => .string "MarriedStreets$Plan" 91
  | 21 => .string "MarriedStreets$Plan" 93
  | 22 => .string "MarriedStreets$Plan" 95
  | 23 => .string "MarriedStreets$Plan" 99
  | 24 => .string "MarriedStreets" 400
  | _ => .string "MarriedStreets" 405
/-- where the premises on text i begin -/
def stP (i : Nat) : Nat := [53, 73, 83, 93, 102, 111, 119, 127, 136, 144, 151, 170, 179, 188, 198, 206, 215, 224, 232, 241, 249, 258, 269, 288, 297, 325].getD i 0
set_option maxRecDepth 100000 in
theorem st_ex : ∀ i, i < strN → stF[stP i]? = some (Cond.exactly (stT i) "java/lang/String") := by decide +kernel
set_option maxRecDepth 100000 in
theorem st_co : ∀ i, i < strN → stF[stP i + 1]? = some (Cond.eq (.field (stT i) "java/lang/String" "coder" "B") (.int 0)) := by decide +kernel
set_option maxRecDepth 100000 in
theorem st_ar : ∀ i, i < strN → stF[stP i + 2]? = some (Cond.arrayOf (.field (stT i) "java/lang/String" "value" "[B") .byte) := by decide +kernel
set_option maxRecDepth 100000 in
theorem st_le : ∀ i, i < strN → stF[stP i + 3]? = some (Cond.eq (.length (.field (stT i) "java/lang/String" "value" "[B")) (.int (Int32.ofNat (strLen.getD i 0)))) := by decide +kernel
set_option maxRecDepth 100000 in
theorem st_el : ∀ i, i < strN → ∀ j, j < strLen.getD i 0 → stF[stP i + 4 + j]? = some (Cond.eq (.elem (.field (stT i) "java/lang/String" "value" "[B") (.int (Int32.ofNat j))) (.int ((strByt.getD i []).getD j 0))) := by decide +kernel
set_option maxRecDepth 100000 in
theorem st_apart : ∀ i, i < strN → ∀ j, j < strN → strLen.getD i 0 = strLen.getD j 0 → (∀ x, x < strLen.getD i 0 → (strByt.getD i []).getD x 0 = (strByt.getD j []).getD x 0) → i = j := by decide +kernel
theorem st_len : ∀ i, i < strN → strLen.getD i 0 < 2 ^ 31 := by decide +kernel
set_option maxRecDepth 100000 in
theorem st_nc : ncTab.all (fun q => decide (Cond.not (.castable q.1 q.2) ∈ stF)) = true := by decide +kernel
section STA
variable {args : Array Value} {s : State} {A : Nat → Prop} {U : State} {H : Heap}
theorem st_in {w : Cond} {i : Nat} (h : stF[i]? = some w) : w ∈ stF := List.mem_of_getElem? h
theorem OF_fun {o n d : String} {v v' : Value} {t : Nat} (h : va_OF o n d v t A U H) (h' : va_OF o n d v' t A U H) : v = v' := by
  obtain ⟨cf, k, i, f, cell, h1, _, h3, _, h5, _⟩ := h
  obtain ⟨cf', k', i', f', cell', g1, _, g3, _, g5, _⟩ := h'
  rw [h1] at g1
  cases g1
  rw [h3] at g3
  cases g3
  rw [h5] at g5
  exact Option.some.inj g5
theorem T_fun {ty : FieldType} {t M M' : Nat} {f f' : Nat → Value} (hM : M < 2 ^ 31) (hM' : M' < 2 ^ 31) (h : va_T ty t M f A U H) (h' : va_T ty t M' f' A U H) : M = M' ∧ ∀ j, j < M → f j = f' j := by
  obtain ⟨cell, h1, _, _, _, h5, h6, _⟩ := h
  obtain ⟨cell', g1, _, _, _, g5, g6, _⟩ := h'
  rw [h1] at g1
  cases g1
  have e : M = M' := (nI_eq hM hM').mp (h5.symm.trans g5)
  subst e
  exact ⟨rfl, fun j hj => Option.some.inj ((h6 j hj).symm.trans (g6 j hj))⟩
/-- the texts' cells -/
theorem st_S (hs : ∀ w ∈ stF, w.before args s = true) (hA : ∀ a : Nat, a < s.heap.size → ¬ A a) : ∃ adK adV : Nat → Nat, vk_S strN strLen strByt adK adV A s s.heap ∧ ∀ i : Nat, i < strN → (stT i).eval args s none [] s = some (.ref (adK i)) := by
  have h0 : ∀ i : Nat, ∃ q : Nat × Nat, i < strN → (stT i).eval args s none [] s = some (.ref q.1) ∧ va_O "java/lang/String" q.1 A s s.heap ∧ va_OF "java/lang/String" "coder" "B" (.int 0) q.1 A s s.heap ∧ va_OF "java/lang/String" "value" "[B" (.ref q.2) q.1 A s s.heap ∧ va_T .byte q.2 (strLen.getD i 0) (fun j => .int ((strByt.getD i []).getD j 0)) A s s.heap := by
    intro i
    by_cases hi : i < strN
    · obtain ⟨a, c, cA, kA, q1, q2, q3, q4, q5, q6, -⟩ := Cond.exactly_spec (args := args) (first := s) (o := none) (s := s) (idx := []) (t := stT i) (cls := "java/lang/String") (hs _ (st_in (st_ex i hi)))
      obtain ⟨t, ht, hT⟩ := va_Tof (f := fun j => .int ((strByt.getD i []).getD j 0)) (A := A) (st_len i hi) (hs _ (st_in (st_ar i hi))) (va_eqt (hs _ (st_in (st_le i hi)))) (fun j hj => va_eqt (hs _ (st_in (st_el i hi j hj)))) hA
      exact ⟨(a, t), fun _ => ⟨q1, ⟨cA, q3, q5, by rw [q6]; exact q2, hA a (Array.getElem?_eq_some_iff.mp q3).1⟩, vk_OFof q1 (va_eqt (hs _ (st_in (st_co i hi)))) hA, vk_OFof q1 ht hA, hT⟩⟩
    · exact ⟨(0, 0), fun h => absurd h hi⟩
  obtain ⟨ad, had⟩ := Classical.axiomOfChoice h0
  refine ⟨fun i => (ad i).1, fun i => (ad i).2, ⟨fun i hi => (had i hi).2, fun i j hi hj e => ?_⟩, fun i hi => (had i hi).1⟩
  have e : (ad i).1 = (ad j).1 := e
  obtain ⟨_, _, _, v1, t1⟩ := had i hi
  obtain ⟨_, _, _, v2, t2⟩ := had j hj
  rw [← e] at v2
  have e2 : (ad i).2 = (ad j).2 := Value.ref.inj (OF_fun v1 v2)
  rw [← e2] at t2
  obtain ⟨c1, c2⟩ := T_fun (st_len i hi) (st_len j hj) t1 t2
  refine st_apart i hi j hj c1 (fun x hx => ?_)
  have := c2 x hx
  exact Value.int.inj this
/-- one class's number and slots -/
theorem st_cls (hts : ∀ w ∈ lw_tbl, w.before args s = true) : ∀ (k : Nat) (q : vw_C), vwCl[k]? = some q → ∃ (cC : ClassId) (iS : Nat → Nat), u_Kn s q.1 q.2.1 q.2.2 cC iS := by
  have hg : ∀ w ∈ wsG, w.before args s = true := fun w hw => hts w (List.mem_filter.mp hw).1
  intro k q hq
  match k, hq with
  | 0, hq => cases hq; exact u_known (n := 19) hg cl_0.2.1 (hts _ (inT1 (i := 62) rfl))
  | 1, hq => cases hq; exact u_known (n := 5) hg cl_1.2.1 (hts _ (inT2 (i := 40) rfl))
  | 2, hq => cases hq; exact u_known (n := 3) hg cl_2.2.1 (hts _ (inT1 (i := 145) rfl))
  | 3, hq => cases hq; exact u_known (n := 4) hg cl_3.2.1 (hts _ (inT1 (i := 219) rfl))
  | 4, hq => cases hq; exact u_known (n := 1) hg cl_4.2.1 (hts _ (inT1 (i := 209) rfl))
  | 5, hq => cases hq; exact u_known (n := 3) hg cl_5.2.1 (hts _ (inT1 (i := 161) rfl))
  | 6, hq => cases hq; exact u_known (n := 6) hg cl_6.2.1 (hts _ (inT2 (i := 0) rfl))
  | 7, hq => cases hq; exact u_known (n := 7) hg cl_7.2.1 (hts _ (inT1 (i := 178) rfl))
  | 8, hq => cases hq; exact u_known (n := 2) hg cl_8.2.1 (hts _ (inT2 (i := 27) rfl))
  | 9, hq => cases hq; exact u_known (n := 6) hg cl_9.2.1 (hts _ (inT1 (i := 35) rfl))
  | 10, hq => cases hq; exact u_known (n := 20) hg cl_10.2.1 (hts _ (inT1 (i := 27) rfl))
  | 11, hq => cases hq; exact u_known (n := 54) hg cl_11.2.1 (hts _ (inT6 (i := 237) rfl))
  | k + 12, hq => exact absurd hq (by simp [vwCl])
theorem st_arr {ty : FieldType} (hp : ∀ C, ty ≠ .object C) (h : (Cond.arrayClass ty).before args s = true) : ∃ cA : ClassId, ArrOfT s cA ty ∧ va_RA s cA ty := by
  obtain ⟨c, k, comp, h1, h2, h3⟩ := Cond.arrayClass_spec h
  refine ⟨c, fun n z => ⟨(fun k h => by cases h), k, h2, comp, h3⟩, ?_⟩
  cases ty <;> first | exact h1 | exact absurd rfl (hp _)
theorem st_arr2 (h : (Cond.arrayOver (.array .int)).before args s = true) : ∃ cA : ClassId, ArrOfT s cA (.array .int) ∧ va_RA s cA (.array .int) := by
  obtain ⟨comp, c, k, h1, h2, h3, h4⟩ := Cond.arrayOver_specA h
  exact ⟨c, fun n z => ⟨(fun k h => by cases h), k, h2, comp, h3⟩, h4⟩
/-- the machine's part of the invariant, at the start -/
theorem gw_start {b L : Nat} {xs : Nat → Int32} (l : Launch) (hflags : l.flags = flags0) (hts : ∀ w ∈ lw_tbl, w.before args s = true) (hs : ∀ w ∈ stF, w.before args s = true) (hX : va_X b L xs s s.heap) (hbl : b < s.heap.size) : ∃ G : GE, gl G = l ∧ gB G = s.heap.size ∧ gS G 0 = b ∧ gN G = L ∧ gX G = xs ∧ Gw G s := by
  have hA : ∀ a : Nat, a < s.heap.size → ¬ (fun q => s.heap.size ≤ q) a := fun a ha h => absurd ha (Nat.not_lt.mpr h)
  have h0 : ∀ k : Nat, ∃ p : ClassId × (Nat → Nat), ∀ q : vw_C, vwCl[k]? = some q → u_Kn s q.1 q.2.1 q.2.2 p.1 p.2 := by
    intro k
    cases hk : vwCl[k]? with
    | none => exact ⟨(0, fun _ => 0), fun q h => by cases h⟩
    | some q =>
      obtain ⟨cC, iS, h⟩ := st_cls hts k q hk
      exact ⟨(cC, iS), fun q' h' => by cases h'; exact h⟩
  obtain ⟨f, hf⟩ := Classical.axiomOfChoice h0
  obtain ⟨cI, i1, i2⟩ := st_arr (ty := .int) (fun C h => by cases h) (hts _ (inT1 (i := 143) rfl))
  obtain ⟨cB, b1, b2⟩ := st_arr (ty := .byte) (fun C h => by cases h) (hts _ (inT1 (i := 60) rfl))
  obtain ⟨cL, l1, l2⟩ := st_arr (ty := .long) (fun C h => by cases h) (hts _ (inT9 (i := 148) rfl))
  have hov := (hts _ (inT7 (i := 3) rfl))
  obtain ⟨cG, g1, g2⟩ := st_arr2 hov
  obtain ⟨adK, adV, hS, hev⟩ := st_S (A := fun q => s.heap.size ≤ q) hs hA
  have hf1 := va_Zqof (A := fun q => s.heap.size ≤ q) (hts _ (inT4 (i := 22) rfl)) (hts _ (inT1 (i := 21) rfl)) (hs (Cond.isRef (.static "jdk/internal/util/Preconditions" "SIOOBE_FORMATTER" "Ljava/util/function/BiFunction;")) (by decide +kernel)) hA
  obtain ⟨z98, z99, hfm⟩ : ∃ z98 z99 : Nat, va_Z "jdk/internal/util/Preconditions" "SIOOBE_FORMATTER" "Ljava/util/function/BiFunction;" (if z98 = 0 then .null else .ref z99) (fun q => s.heap.size ≤ q) s s.heap := by
    rcases hf1 with h | ⟨t, h⟩
    · exact ⟨0, 0, h⟩
    · exact ⟨1, t, h⟩
  have hlist : strN = 26 := rfl
  refine ⟨(l, (fun k => (f k).1, fun k => (f k).2), (cI, cB, cG, cL), s.heap.size, (fun i => if i = 0 then b else if i < 98 then adK (i - 1) else if i = 98 then z98 else if i = 99 then z99 else adV (i - 100)), fun _ => 0, L, xs), rfl, rfl, rfl, rfl, rfl, ?_⟩
  refine ⟨⟨fun k q hq => hf k q hq, fun k q hk => ?_⟩, fun w hw => ?_, hov, hX, hbl, Nat.le_refl _, ?_, ?_, ?_, ?_, ⟨fun i hi => ?_, fun i j hi hj he => ?_⟩, ?_, fun q hq => va_Nc.of (hs _ (of_decide_eq_true (List.all_eq_true.mp st_nc q hq))), ?_⟩
  · rcases k with _ | _ | _ | _ | k
    · cases hk; exact ⟨i1, i2⟩
    · cases hk; exact ⟨b1, b2⟩
    · cases hk; exact ⟨g1, g2⟩
    · cases hk; exact ⟨l1, l2⟩
    · simp at hk
  · have h := hts w (List.mem_filter.mp hw).1
    have g := (List.mem_filter.mp hw).2
    cases w <;> first | exact va_Nw.of rfl h | (simp [goodNw] at g; done)
  · show l.stackTraces = false
    unfold Launch.stackTraces
    rw [hflags]
    decide +kernel
  · exact vx_Zqof (hts _ (inT3 (i := 157) rfl)) (hts _ (inT1 (i := 14) rfl)) (hs (Cond.isRef (.static "java/lang/Throwable" "UNASSIGNED_STACK" "[Ljava/lang/StackTraceElement;")) (by decide +kernel)) hA
  · exact vx_Zqof (hts _ (inT3 (i := 159) rfl)) (hts _ (inT1 (i := 14) rfl)) (hs (Cond.isRef (.static "java/lang/Throwable" "SUPPRESSED_SENTINEL" "Ljava/util/List;")) (by decide +kernel)) hA
  · intro q hq
    have hq : q ∈ strTab := hq
    unfold strTab at hq
    simp only [List.mem_cons, List.not_mem_nil, or_false] at hq
    rcases hq with rfl | rfl | rfl | rfl | rfl | rfl | rfl | rfl | rfl | rfl | rfl | rfl | rfl | rfl | rfl | rfl | rfl | rfl | rfl | rfl | rfl | rfl | rfl | rfl | rfl | rfl | rfl | rfl
    · exact vk_R.of (hts _ (inT3 (i := 171) rfl)) (hev 0 (by decide))
    · exact vk_R.of (hts _ (inT3 (i := 232) rfl)) (hev 1 (by decide))
    · exact vk_R.of (hts _ (inT4 (i := 45) rfl)) (hev 2 (by decide))
    · exact vk_R.of (hts _ (inT4 (i := 46) rfl)) (hev 3 (by decide))
    · exact vk_R.of (hts _ (inT4 (i := 47) rfl)) (hev 4 (by decide))
    · exact vk_R.of (hts _ (inT4 (i := 48) rfl)) (hev 5 (by decide))
    · exact vk_R.of (hts _ (inT4 (i := 49) rfl)) (hev 6 (by decide))
    · exact vk_R.of (hts _ (inT4 (i := 50) rfl)) (hev 7 (by decide))
    · exact vk_R.of (hts _ (inT4 (i := 188) rfl)) (hev 8 (by decide))
    · exact vk_R.of (hts _ (inT4 (i := 190) rfl)) (hev 9 (by decide))
    · exact vk_R.of (hts _ (inT4 (i := 191) rfl)) (hev 10 (by decide))
    · exact vk_R.of (hts _ (inT4 (i := 192) rfl)) (va_eqR (t := stT 3) (hs _ (st_in (i := 169) (by decide +kernel))) (hev 3 (by decide)))
    · exact vk_R.of (hts _ (inT4 (i := 193) rfl)) (hev 11 (by decide))
    · exact vk_R.of (hts _ (inT4 (i := 194) rfl)) (hev 12 (by decide))
    · exact vk_R.of (hts _ (inT4 (i := 195) rfl)) (hev 13 (by decide))
    · exact vk_R.of (hts _ (inT4 (i := 196) rfl)) (hev 14 (by decide))
    · exact vk_R.of (hts _ (inT4 (i := 197) rfl)) (hev 15 (by decide))
    · exact vk_R.of (hts _ (inT4 (i := 198) rfl)) (hev 16 (by decide))
    · exact vk_R.of (hts _ (inT4 (i := 199) rfl)) (hev 17 (by decide))
    · exact vk_R.of (hts _ (inT4 (i := 229) rfl)) (hev 18 (by decide))
    · exact vk_R.of (hts _ (inT4 (i := 231) rfl)) (hev 19 (by decide))
    · exact vk_R.of (hts _ (inT4 (i := 232) rfl)) (hev 20 (by decide))
    · exact vk_R.of (hts _ (inT4 (i := 233) rfl)) (hev 21 (by decide))
    · exact vk_R.of (hts _ (inT4 (i := 234) rfl)) (hev 22 (by decide))
    · exact vk_R.of (hts _ (inT4 (i := 235) rfl)) (va_eqR (t := stT 14) (hs _ (st_in (i := 287) (by decide +kernel))) (hev 14 (by decide)))
    · exact vk_R.of (hts _ (inT4 (i := 236) rfl)) (hev 23 (by decide))
    · exact vk_R.of (hts _ (inT5 (i := 153) rfl)) (hev 24 (by decide))
    · exact vk_R.of (hts _ (inT5 (i := 209) rfl)) (hev 25 (by decide))
  · have eK : (if i + 1 = 0 then b else if i + 1 < 98 then adK (i + 1 - 1) else if i + 1 = 98 then z98 else if i + 1 = 99 then z99 else adV (i + 1 - 100)) = adK i := by
      have hi : i < 26 := hi
      rw [if_neg (by omega), if_pos (by omega), Nat.add_sub_cancel]
    have eV : (if 100 + i = 0 then b else if 100 + i < 98 then adK (100 + i - 1) else if 100 + i = 98 then z98 else if 100 + i = 99 then z99 else adV (100 + i - 100)) = adV i := by
      rw [if_neg (by omega), if_neg (by omega), if_neg (by omega), if_neg (by omega), Nat.add_sub_cancel_left]
    have h := hS.1 i hi
    rw [← eK, ← eV] at h
    exact h
  · have eK : ∀ i, i < strN → (if i + 1 = 0 then b else if i + 1 < 98 then adK (i + 1 - 1) else if i + 1 = 98 then z98 else if i + 1 = 99 then z99 else adV (i + 1 - 100)) = adK i := fun i hi => by
      have hi : i < 26 := hi
      rw [if_neg (by omega), if_pos (by omega), Nat.add_sub_cancel]
    exact hS.2 i j hi hj ((eK i hi).symm.trans (Eq.trans he (eK j hj)))
  · exact va_Zof (hts _ (inT4 (i := 6) rfl)) (hts _ (inT1 (i := 19) rfl)) (va_eqt (hs _ (st_in (i := 6) (by decide +kernel)))) hA
  · refine cast (congrArg (fun v => va_Z "jdk/internal/util/Preconditions" "SIOOBE_FORMATTER" "Ljava/util/function/BiFunction;" v (fun q => s.heap.size ≤ q) s s.heap) ?_) hfm
    by_cases hz : z98 = 0
    · subst hz; rfl
    · rw [if_neg hz]
      unfold gF
      show _ = cv _ (if z98 = 0 then .null else .float 99)
      rw [if_neg hz]
      rfl
end STA
