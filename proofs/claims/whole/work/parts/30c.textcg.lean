/-! Pure: texts that are the same up to their end are read alike -/
theorem all_cg2 {p q : Nat → Bool} : ∀ l : List Nat, (∀ k, k ∈ l → p k = q k) → l.all p = l.all q
  | [], _ => rfl
  | x :: l, h => by rw [List.all_cons, List.all_cons, h x List.mem_cons_self, all_cg2 l (fun k hk => h k (List.mem_cons_of_mem _ hk))]
section TCG
variable {B B' : Nat → Int32} {n : Nat}
theorem adv_cg {p p' : Nat → Bool} : ∀ (c i : Nat), (∀ j, i ≤ j → j < i + c → p j = p' j) → adv p c i = adv p' c i
  | 0, _, _ => rfl
  | c + 1, i, h => by rw [adv, adv, h i (Nat.le_refl _) (by omega), adv_cg c (i + 1) (fun j h1 h2 => h j (by omega) (by omega))]
theorem run_cg {p p' : Nat → Bool} (h : ∀ j, j < n → p j = p' j) (i : Nat) : run p n i = run p' n i := by
  unfold run
  exact adv_cg _ _ (fun j h1 h2 => h j (by omega))
theorem adv_le2 {p : Nat → Bool} : ∀ (c i : Nat), adv p c i ≤ i + c
  | 0, i => Nat.le_refl _
  | c + 1, i => by
    rw [adv]
    split
    · have := adv_le2 (p := p) c (i + 1)
      omega
    · omega
theorem run_b {p : Nat → Bool} (i : Nat) : run p n i ≤ n ∨ run p n i = i := by
  unfold run
  by_cases h : i ≤ n
  · left
    have := adv_le2 (p := p) (n - i) i
    omega
  · right
    rw [show n - i = 0 by omega]
    rfl
theorem skB_cg (h : ∀ i, i < n → B i = B' i) : skB B n = skB B' n := by
  funext i
  unfold skB
  exact run_cg (fun j hj => by rw [h j hj]) i
theorem dgE_cg (h : ∀ i, i < n → B i = B' i) : dgE B n = dgE B' n := by
  funext i
  unfold dgE
  exact run_cg (fun j hj => by rw [h j hj]) i
theorem ltE_cg (h : ∀ i, i < n → B i = B' i) : ltE B n = ltE B' n := by
  funext i
  unfold ltE
  exact run_cg (fun j hj => by rw [h j hj]) i
theorem bAt_cg (h : ∀ i, i < n → B i = B' i) : bAt B n = bAt B' n := by
  funext i
  unfold bAt
  by_cases c : i < n
  · rw [if_pos c, if_pos c, h i c]
  · rw [if_neg c, if_neg c]
theorem nVal_cg : ∀ (m i : Nat) (v : Int32), (∀ j, i ≤ j → j < i + m → B j = B' j) → nVal B m i v = nVal B' m i v
  | 0, _, _, _ => rfl
  | m + 1, i, v, h => by rw [nVal, nVal, h i (Nat.le_refl _) (by omega), nVal_cg m (i + 1) _ (fun j h1 h2 => h j (by omega) (by omega))]
theorem nAt_cg (h : ∀ i, i < n → B i = B' i) : nAt B n = nAt B' n := by
  funext i
  unfold nAt
  rw [dgE_cg h]
  refine nVal_cg _ _ _ (fun j h1 h2 => h j ?_)
  have : dgE B' n i ≤ n ∨ dgE B' n i = i := run_b i
  omega
theorem isW_cg (h : ∀ i, i < n → B i = B' i) (s i : Nat) : isW B s (ltE B' n s) i = isW B' s (ltE B' n s) i := by
  unfold isW
  by_cases c : ltE B' n s - s = sLen i
  · rw [decide_eq_true c, Bool.true_and, Bool.true_and]
    refine all_cg2 _ (fun k hk => ?_)
    have hk := List.mem_range.mp hk
    have : ltE B' n s ≤ n ∨ ltE B' n s = s := run_b s
    rw [h (s + k) (by omega)]
  · rw [decide_eq_false c, Bool.false_and, Bool.false_and]
theorem ctKind_cg (h : ∀ i, i < n → B i = B' i) (s : Nat) : ctKind B s (ltE B' n s) = ctKind B' s (ltE B' n s) := by
  unfold ctKind
  simp only [isW_cg h]
theorem lwWord_cg (h : ∀ i, i < n → B i = B' i) (s : Nat) : lwWord B s (ltE B' n s) = lwWord B' s (ltE B' n s) := by
  unfold lwWord
  simp only [isW_cg h]
theorem wkKind_cg (h : ∀ i, i < n → B i = B' i) (s : Nat) : wkKind B s (ltE B' n s) = wkKind B' s (ltE B' n s) := by
  unfold wkKind
  simp only [isW_cg h]
theorem pNum_cg (h : ∀ i, i < n → B i = B' i) : pNum B n = pNum B' n := by
  funext lo hi p
  unfold pNum
  rw [skB_cg h, dgE_cg h, nAt_cg h]
theorem pSign_cg (h : ∀ i, i < n → B i = B' i) : pSign B n = pSign B' n := by
  funext c p
  unfold pSign
  rw [skB_cg h, bAt_cg h]
theorem pOther_cg (h : ∀ i, i < n → B i = B' i) : pOther B n = pOther B' n := by
  funext b m p
  unfold pOther
  rw [pNum_cg h, skB_cg h]
theorem pFields_cg (h : ∀ i, i < n → B i = B' i) : pFields B n = pFields B' n := by
  funext k nc ns p
  unfold pFields
  rw [pNum_cg h, pOther_cg h]
theorem pClause_cg (h : ∀ i, i < n → B i = B' i) : pClause B n = pClause B' n := by
  funext m nc ns ng p
  unfold pClause
  rw [skB_cg h, ltE_cg h, ctKind_cg h, pFields_cg h, pSign_cg h]
theorem pCity_cg (h : ∀ i, i < n → B i = B' i) : ∀ (t m : Nat) (nc ns ng : Int32) (p : Nat), pCity B n t m nc ns ng p = pCity B' n t m nc ns ng p
  | 0, _, _, _, _, _ => rfl
  | t + 1, m, nc, ns, ng, p => by
    rw [pCity, pCity, skB_cg h, pClause_cg h]
    simp only [pCity_cg h t]
theorem pE_cg (h : ∀ i, i < n → B i = B' i) : ∀ (t mode o p : Nat), pE B n t mode o p = pE B' n t mode o p
  | 0, _, _, _ => rfl
  | t + 1, mode, o, p => by
    rw [pE, pE, skB_cg h, bAt_cg h, ltE_cg h, lwWord_cg h, pNum_cg h, pSign_cg h]
    simp only [pE_cg h t]
theorem pLaw_cg (h : ∀ i, i < n → B i = B' i) (p : Nat) : pLaw B n p = pLaw B' n p := by
  unfold pLaw
  rw [pE_cg h, skB_cg h]
theorem pLine_cg (h : ∀ i, i < n → B i = B' i) : pLine B n = pLine B' n := by
  funext l p
  unfold pLine
  rw [skB_cg h, pNum_cg h, pSign_cg h]
theorem pPost_cg (h : ∀ i, i < n → B i = B' i) : ∀ (t : Nat) (l : List Ln) (p : Nat), pPost B n t l p = pPost B' n t l p
  | 0, _, _ => rfl
  | t + 1, l, p => by
    rw [pPost, pPost, skB_cg h, pLine_cg h]
    simp only [pPost_cg h t]
theorem pSt_cg (h : ∀ i, i < n → B i = B' i) (ns : Int32) : ∀ (t mode o b p : Nat), pSt B n ns t mode o b p = pSt B' n ns t mode o b p
  | 0, _, _, _, _ => rfl
  | t + 1, mode, o, b, p => by
    have e1 : pFirst B n = pFirst B' n := by funext k s p; unfold pFirst; rw [pNum_cg h]
    have e2 : pSecond B n = pSecond B' n := by funext k s p; unfold pSecond; rw [pNum_cg h]
    rw [pSt, pSt, skB_cg h, bAt_cg h, ltE_cg h, wkKind_cg h, pNum_cg h, pSign_cg h, e1, e2]
    simp only [pSt_cg h ns t]
theorem pWork_cg (h : ∀ i, i < n → B i = B' i) (ns : Int32) : ∀ (t : Nat) (l : List St) (p : Nat), pWork B n ns t l p = pWork B' n ns t l p
  | 0, _, _ => rfl
  | t + 1, l, p => by
    rw [pWork, pWork, skB_cg h, pSt_cg h]
    simp only [pWork_cg h ns t]
end TCG
