/-! Pure: sums over pairs -/
theorem sI_add {f g : Nat → Int32} : ∀ n, sI (fun k => f k + g k) n = sI f n + sI g n
  | 0 => by simp only [sI]; rfl
  | n + 1 => by
    simp only [sI]
    rw [sI_add n]
    rw [Int32.add_assoc, Int32.add_assoc, ← Int32.add_assoc (sI g n), Int32.add_comm (sI g n) (f n), Int32.add_assoc (f n)]
theorem sI_z {f : Nat → Int32} : ∀ {n}, (∀ k, k < n → f k = 0) → sI f n = 0
  | 0, _ => rfl
  | n + 1, h => by
    rw [sI, sI_z (fun k hk => h k (by omega)), h n (by omega)]
    rfl
theorem sI_swap {F : Nat → Nat → Int32} {m : Nat} : ∀ n, sI (fun s => sI (fun t => F s t) m) n = sI (fun t => sI (fun s => F s t) n) m
  | 0 => by
    rw [sI, sI_z]
    intro k _
    rfl
  | n + 1 => by
    rw [sI, sI_swap n, ← sI_add]
    rfl
/-- one place only -/
theorem sI_one {f : Nat → Int32} {j : Nat} : ∀ {n}, j < n → (∀ k, k < n → k ≠ j → f k = 0) → sI f n = f j
  | 0, h, _ => absurd h (by omega)
  | n + 1, h, hz => by
    rw [sI]
    by_cases e : j = n
    · subst e
      rw [sI_z (fun k hk => hz k (by omega) (by omega)), Int32.zero_add]
    · rw [sI_one (show j < n by omega) (fun k hk hne => hz k (by omega) hne), hz n (by omega) (fun z => e z.symm), Int32.add_zero]
/-- more places that hold nothing -/
theorem sI_more {f : Nat → Int32} {n m : Nat} (h : n ≤ m) (hz : ∀ k, n ≤ k → k < m → f k = 0) : sI f m = sI f n := by
  obtain ⟨u, rfl⟩ : ∃ u, m = n + u := ⟨m - n, by omega⟩
  clear h
  induction u with
  | zero => rfl
  | succ u ih =>
    rw [← Nat.add_assoc, sI, ih (fun k h1 h2 => hz k h1 (by omega)), hz (n + u) (by omega) (by omega), Int32.add_zero]
/-- two ways to turn each pair count the same -/
theorem sI_turn {n : Nat} {Q A B : Nat → Nat → Bool} (hQ : ∀ s m, s < n → m < n → Q s m = true → Q m s = true)
    (hA : ∀ s m, s < n → m < n → Q s m = true → A m s = !(A s m)) (hB : ∀ s m, s < n → m < n → Q s m = true → B m s = !(B s m)) :
    sI (fun s => sI (fun m => if (Q s m && A s m) = true then 1 else 0) n) n = sI (fun s => sI (fun m => if (Q s m && B s m) = true then 1 else 0) n) n := by
  have split : ∀ (X Y : Nat → Nat → Bool), sI (fun s => sI (fun m => if (Q s m && X s m) = true then (1 : Int32) else 0) n) n =
      sI (fun s => sI (fun m => if (Q s m && X s m && Y s m) = true then 1 else 0) n) n + sI (fun s => sI (fun m => if (Q s m && X s m && !(Y s m)) = true then 1 else 0) n) n := by
    intro X Y
    rw [← sI_add]
    refine sI_congr (fun s _ => ?_)
    rw [← sI_add]
    refine sI_congr (fun m _ => ?_)
    cases Q s m <;> cases X s m <;> cases Y s m <;> rfl
  rw [split A B, split B A]
  congr 1
  · refine sI_congr (fun s _ => sI_congr (fun m _ => ?_))
    cases Q s m <;> cases A s m <;> cases B s m <;> rfl
  · rw [sI_swap]
    refine sI_congr (fun s hs => sI_congr (fun m hm => ?_))
    show (if (Q m s && A m s && !(B m s)) = true then (1 : Int32) else 0) = if (Q s m && B s m && !(A s m)) = true then 1 else 0
    cases h : Q s m with
    | true =>
      rw [hQ s m hs hm h, hA s m hs hm h, hB s m hs hm h]
      cases A s m <;> cases B s m <;> rfl
    | false =>
      cases h2 : Q m s with
      | true => rw [hQ m s hm hs h2] at h; cases h
      | false => rfl
/-- a sum over streets, by pairs -/
theorem sI_pair {ns : Nat} {g : Nat → Int32} {P : Nat → Bool} (h8 : ns ≤ 8) (hw : wfM ns g) (hP : ∀ s, s < ns → P s = true → ¬ g s = -1) :
    sI (fun s => if P s = true then 1 else 0) ns = sI (fun s => sI (fun m => if (decide (g s = nI m) && P s) = true then (1 : Int32) else 0) ns) ns := by
  refine sI_congr (fun s hs => ?_)
  cases h : P s with
  | false =>
    rw [sI_z (fun k _ => by rw [Bool.and_false]; rfl)]
    rfl
  | true =>
    rcases hw s hs with h0 | ⟨m, hm, hne, e1, e2⟩
    · exact absurd h0 (hP s hs h)
    · rw [sI_one hm (fun k hk hk2 => by
        rw [Bool.and_true, e1, if_neg]
        rw [decide_eq_true_iff]
        intro z
        exact hk2 ((nI_eq (by omega) (by omega)).mp z).symm)]
      rw [e1, Bool.and_true, decide_eq_true rfl]
