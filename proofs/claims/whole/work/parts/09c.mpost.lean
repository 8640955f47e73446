/-! The reference: post -/
def RPo (a : IA) (l : List Ln) : Prop := ∀ (i : Nat) (v : Ln), l[i]? = some v → a (490 + 1 + i) 0 = v.1 ∧ a (490 + 1 + i) 1 = v.2
theorem RPo.row {a a' : IA} {l : List Ln} (h : RPo a l) (hr : ∀ i, i < l.length → a' (490 + 1 + i) = a (490 + 1 + i)) : RPo a' l := fun i v hi => by rw [hr i (List.getElem?_eq_some_iff.mp hi).1]; exact h i v hi
theorem RPo.w60 {a : IA} {l : List Ln} {j : Nat} {v : Int32} (h : RPo a l) : RPo (u2 a 60 j v) l := h.row (fun i _ => u2_off _ (by omega))
section MPO
variable {G : GE} {d C S : Nat} {r : RA} {B : Nat → Int32} {n p N k : Nat} {a : IA} {l : List Ln} {x v : Int32}
/-- with a fault: nothing more is read -/
theorem s_post46 {P : KI} {z : Int32 × Nat} {m : Int32} (ms : MS a B n (.inr z)) (hp : P (z.1 - 10) (u2 a 60 3 (nI z.2)) r nK) : E G MX12_post (d + 1) C S 46 [.ref 60, .null, .int m, .null, .null, .null] [] (a, r, nK) (RI P) := by
  have hz := ms.2.2.2 z.1 z.2 rfl
  have n5 : ¬ a 60 5 = 0 := by rw [hz.1]; exact hz.2.1
  refine V_X12_post_46 ⟨rfl, by decide, fun _ => ⟨rfl, by decide, fun h => absurd h n5, fun _ => ⟨rfl, by decide, c_mEnds ?_⟩⟩, fun h => absurd h n5⟩
  rw [hz.1, hz.2.2.1]
  exact hp
theorem s_post139 {P : KI} {z : Int32 × Nat} {m y : Int32} (hr : Rk r) (ms : MS a B n (.inr z)) (hp : ∀ a', mK a a' → P (z.1 - 10) (u2 a' 60 3 (nI z.2)) r nK) : E G MX12_post (d + 3) C S 139 [.ref 60, .null, .int m, .null, .int y, .null] [] (a, r, nK) (RI P) := by
  have hz := ms.2.2.2 z.1 z.2 rfl
  have n5 : ¬ a 60 5 = 0 := by rw [hz.1]; exact hz.2.1
  obtain ⟨q, hqn, e4⟩ := hz.2.2.2
  refine V_X12_post_139 ⟨rfl, by decide, s_mNum n5 ⟨rfl, by decide, s_mSign n5 ⟨rfl, by decide, fun _ => ⟨rfl, by decide, c_mBlanks hr ms.1 ms.2.1 e4 hqn ?_⟩, fun h => absurd h n5⟩⟩⟩
  exact s_post46 (ms.bl hqn) (hp _ (mK_6 rfl))
theorem s_post81 {P : KI} {z : Int32 × Nat} {m : Nat} {y w : Int32} (hr : Rk r) (ms : MS a B n (.inr z)) (hm : m < 100) (hp : ∀ a', mK a a' → P (z.1 - 10) (u2 a' 60 3 (nI z.2)) r nK) : ∀ (t k : Nat), k + t = m → E G MX12_post (d + 3) C S 81 [.ref 60, .null, .int (nI m), .int w, .int y, .int (nI k)] [] (a, r, nK) (RI P) := by
  have hz := ms.2.2.2 z.1 z.2 rfl
  have n5 : ¬ a 60 5 = 0 := by rw [hz.1]; exact hz.2.1
  intro t
  induction t with
  | zero =>
    intro k hk
    obtain rfl : k = m := by omega
    exact V_X12_post_81 ⟨fun _ => ⟨rfl, by decide, fun _ => s_post139 hr ms hp, fun h => absurd h n5⟩, fun h => absurd (nI_le (Nat.le_refl _) (by omega)) h⟩
  | succ t ih =>
    intro k hk
    refine V_X12_post_81 ⟨fun h => absurd ((nI_leI (by omega) (by omega)).mp h) (by omega), fun _ => ⟨rfl, by decide, fun _ => ?_, fun h => absurd h n5⟩⟩
    rw [nI_1]
    exact ih (k + 1) (by omega)
/-- no fault: has the number been told? -/
theorem l_post81 {P : KI} {b : Nat} (hr : Rk r) (hT : MT a B n p) (hl : RPo a l) (h8 : l.length ≤ 8) (hb : b ≤ n)
    (hno : hasN l v = false → ¬ l.length = 8 → E G MX12_post (d + 3) C S 139 [.ref 60, .null, .int (nI l.length), .null, .int v, .null] [] (a, r, nK) (RI P))
    (hf : ∀ c, ((hasN l v = true ∧ c = 2) ∨ (hasN l v = false ∧ l.length = 8 ∧ c = 3)) → ∀ a', mK a a' → P (c - 10) (u2 a' 60 3 (nI b)) r nK) :
    ∀ (t k : Nat), k + t = l.length → (∀ i w, i < k → l[i]? = some w → ¬ w.1 = v) → E G MX12_post (d + 3) C S 81 [.ref 60, .null, .int (nI l.length), .int (nI b), .int v, .int (nI k)] [] (a, r, nK) (RI P) := by
  obtain ⟨hB, g2, g4, hpn, h5⟩ := hT
  have flt : ∀ c, ¬ c = 0 → MS (u2 (u2 a 60 5 c) 60 6 (nI b)) B n (.inr (c, b)) := fun c hc =>
    ⟨hB.row (by rw [u2_off 61 (by decide), u2_off 61 (by decide)]), by rw [u2_ne (by decide), u2_ne (by decide)]; exact g2, fun p e => (by cases e), fun k f e => (by cases e; exact ⟨by rw [u2_ne (by decide), u2_eq], hc, u2_eq, p, hpn, by rw [u2_ne (by decide), u2_ne (by decide)]; exact g4⟩)⟩
  have kk : ∀ c, mK a (u2 (u2 a 60 5 c) 60 6 (nI b)) := fun c => mK_tr (mK_6 rfl) (mK_6 rfl)
  intro t
  induction t with
  | zero =>
    intro k hk hall
    obtain rfl : k = l.length := by omega
    have hn : hasN l v = false := by
      unfold hasN
      rw [List.any_eq_false]
      intro w hw
      obtain ⟨i, hi, e⟩ := List.getElem_of_mem hw
      rw [decide_eq_true_eq]
      exact hall i w hi (by rw [List.getElem?_eq_getElem hi, e])
    refine V_X12_post_81 ⟨fun _ => ⟨rfl, by decide, fun h => absurd h5 h, fun _ => ⟨fun h => hno hn (fun e => h (by rw [e]; rfl)), fun h => ⟨rfl, by decide, c_mWrong ?_⟩⟩⟩, fun h => absurd (nI_le (Nat.le_refl _) (by omega)) h⟩
    have e8 : l.length = 8 := (nI_eq (a := l.length) (b := 8) (by omega) (by decide)).mp h
    rw [mWr_0 h5]
    exact s_post139 hr (flt 3 (by decide)) (fun a' ka => hf 3 (Or.inr ⟨hn, e8, rfl⟩) a' (mK_tr (kk 3) ka))
  | succ t ih =>
    intro k hk hall
    have hkl : k < l.length := by omega
    obtain ⟨w, hw⟩ : ∃ w, l[k]? = some w := ⟨l[k], List.getElem?_eq_getElem hkl⟩
    have hrow := hl k w hw
    refine V_X12_post_81 ⟨fun h => absurd ((nI_leI (by omega) (by omega)).mp h) (by omega), fun _ => ⟨rfl, by decide, fun h => absurd h5 h, fun _ => ⟨rfl, by decide, 490, rf5 hr (by decide) rfl, rfl, by decide, vp_in_nI (show k < 8 by omega) (by decide), ?_⟩⟩⟩
    rw [nI_clamp (show k < 2 ^ 31 by omega), z0, hrow.1]
    refine row3 (tyR_readPost k (by omega)) (by show _ < 878; omega) (vp_in_nI (show 0 < 2 by decide) (by decide)) ⟨fun h => ?_, fun h => ⟨rfl, by decide, c_mWrong ?_⟩⟩
    · rw [nI_1]
      refine ih (k + 1) (by omega) (fun i w' hi hw' => ?_)
      by_cases e : i = k
      · subst e
        rw [hw] at hw'
        cases hw'
        exact h
      · exact hall i w' (by omega) hw'
    · have hn : hasN l v = true := by
        unfold hasN
        rw [List.any_eq_true]
        exact ⟨w, List.mem_of_getElem? hw, decide_eq_true h⟩
      rw [mWr_0 h5, nI_1]
      exact s_post81 hr (flt 2 (by decide)) (by omega) (fun a' ka => hf 2 (Or.inl ⟨hn, rfl⟩) a' (mK_tr (kk 2) ka)) t (k + 1) (by omega)
theorem l_mPost {P : KI} (hr : Rk r) (a0 : IA) : ∀ (t p : Nat) (a : IA) (l : List Ln), t + l.length = 9 → l.length ≤ 8 → mK a0 a → MT a B n p → skB B n p = p → RPo a l →
    (∀ l', pPost B n t l p = .inl l' → ∀ a1 a2, l'.length ≤ 8 → mK a0 a1 → RPo a1 l' → mLd (u2 (u2 a1 60 3 (-1)) 60 38 (nI l'.length)) a2 490 481 2 l'.length → P (nI l'.length) a2 r nK) →
    (∀ c q, pPost B n t l p = .inr (c, q) → ∀ a1, mK a0 a1 → P (c - 10) (u2 a1 60 3 (nI q)) r nK) →
    E G MX12_post (d + 3) C S 46 [.ref 60, .null, .int (nI l.length), .null, .null, .null] [] (a, r, nK) (RI P) := by
  intro t
  induction t with
  | zero => intro p a l h h8; omega
  | succ t ih =>
    intro p a l hlt h8 hk hT hsk hl hy hf
    have hT0 := hT
    obtain ⟨hB, g2, g4, hpn, h5⟩ := hT
    have hn6 := hB.1
    refine V_X12_post_46 ⟨rfl, by decide, fun h => absurd h5 h, fun _ => ⟨rfl, by decide, rfl, by decide, fun hle => ⟨rfl, by decide, fun _ => ⟨rfl, by decide, fun a12 q12 => ⟨rfl, by decide, fun a13 q13 => ⟨rfl, by decide, 490, rf5 hr (by decide) rfl, rfl, by decide, 481, rf5 hr (by decide) rfl, ?_⟩⟩⟩, fun h => absurd h5 h⟩, fun hle => ⟨rfl, by decide, rfl, by decide, ?_⟩⟩⟩
    · rw [g2, g4, nI_leI (by omega) (by omega)] at hle
      refine c_mLays (M := 8) (L := 2) (q1 := 490) (q2 := 481) rfl rfl (by decide) (by decide) (by decide) (by decide) tyR_readPost tyR_post (by decide) h8 (fun a2 m2 => ?_)
      subst q12 q13
      exact hy l (by rw [pPost, if_neg (by omega)]) a a2 h8 hk hl m2
    · rw [g2, g4, nI_leI (by omega) (by omega)] at hle
      have hlt2 : skB B n p < n := by omega
      have hp0 : pPost B n (t + 1) l p = sB (pLine B n l p) fun c => pPost B n t (l ++ [c.1]) c.2 := by rw [pPost, if_pos hlt2, hsk]
      rw [hp0] at hy hf
      unfold pLine at hy hf
      refine c_mNumT hr hT0 (fun v e q1 p1 b1 => ?_) (fun c f q1 v a' ka ms => ?_)
      · rw [q1] at hy hf
        simp only [sB_inl] at hy hf
        have t1 := hT0.at b1
        have l1 : RPo (mAt a e) l := hl.w60
        rw [g4]
        refine l_post81 hr t1 l1 h8 hpn (fun hn h88 => ?_) (fun c hc a' ka => ?_) l.length 0 (by omega) (fun i w hi => absurd hi (by omega))
        · rw [if_neg (by rw [hn]; decide), if_neg (by omega)] at hy hf
          refine V_X12_post_139 ⟨rfl, by decide, c_mNumT hr t1 (fun h e2 q2 p2 b2 => ⟨rfl, by decide, ?_⟩) (fun c f q2 v' a' ka ms => ⟨rfl, by decide, s_mSign ms.n5 ⟨rfl, by decide, fun _ => ⟨rfl, by decide, ?_⟩, fun h => absurd h ms.n5⟩⟩)⟩
          · rw [q2] at hy hf
            simp only [sB_inl] at hy hf
            have t2 := t1.at b2
            refine c_mSignT (by decide) hr t2 (fun e3 q3 p3 b3 => ?_) (fun c f q3 a' ka ms => ⟨rfl, by decide, fun _ => ⟨rfl, by decide, ?_⟩, fun h => absurd h ms.n5⟩)
            · rw [q3] at hy hf
              simp only [sB_inl] at hy hf
              have t3 := t2.at b3
              have hn8 : l.length < 8 := by omega
              have r28 : r 60 28 = .ref 490 := rf5 hr (by decide) rfl
              have vl : vp_in (nI l.length) 8 := vp_in_nI hn8 (by decide)
              have ty := tyR_readPost l.length hn8
              have bd : 490 + 1 + l.length < nK := by show _ < 878; omega
              refine ⟨rfl, by decide, fun h => absurd t3.2.2.2.2 h, fun _ => ⟨rfl, by decide, 490, r28, rfl, by decide, vl, ?_⟩⟩
              simp only [z0, z1, nI_clamp (show l.length < 2 ^ 31 by omega)]
              refine row3 ty bd (vp_in_nI (show 0 < 2 by decide) (by decide)) (fun a12 q12 => ⟨rfl, by decide, 490, r28, rfl, by decide, vl, row3 ty bd (vp_in_nI (show 1 < 2 by decide) (by decide)) (fun a14 q14 => ⟨rfl, by decide, ?_⟩)⟩)
              have t4 : MT a14 B n e3 := by rw [q14, q12]; exact ((t3.ms.w (by omega) (by omega)).w (by omega) (by omega)).mt
              have l3 := skB_le (B := B) b3
              refine c_mBlanks hr t4.1 t4.2.1 t4.2.2.1 t4.2.2.2.1 ?_
              have k4 : mK a a14 := by rw [q14, q12]; exact mK_tr (mK_6 (j := 4) rfl) (mK_tr (mK_6 (j := 4) rfl) (mK_tr (mK_6 (j := 4) rfl) (mK_tr (mK_w (mS_r (by omega)) (by omega)) (mK_w (mS_r (by omega)) (by omega)))))
              have r4 : RPo a14 (l ++ [(v, h)]) := by
                intro i w hi
                by_cases e : i < l.length
                · rw [List.getElem?_append_left e] at hi
                  rw [q14, q12, u2_off _ (by omega), u2_off _ (by omega)]
                  show u2 (u2 (u2 a 60 4 _) 60 4 _) 60 4 _ _ 0 = _ ∧ u2 (u2 (u2 a 60 4 _) 60 4 _) 60 4 _ _ 1 = _
                  rw [u2_off _ (by omega), u2_off _ (by omega), u2_off _ (by omega)]
                  exact hl i w hi
                · have hl2 := (List.getElem?_eq_some_iff.mp hi).1
                  simp at hl2
                  have e2 : i = l.length := by omega
                  subst e2
                  simp at hi
                  subst hi
                  rw [q14, q12, u2_ne (by decide), u2_eq, u2_eq]
                  exact ⟨rfl, rfl⟩
              have eL : nI l.length + 1 = nI (l ++ [(v, h)]).length := by rw [nI_1]; simp
              rw [eL]
              have ew : pPost B n t (l ++ [(v, h)]) (skB B n e3) = pPost B n t (l ++ [(v, h)]) e3 := by
                cases t with
                | zero => rfl
                | succ t => rw [pPost, pPost, skB_skB b3]
              rw [← ew] at hy hf
              exact ih (skB B n e3) _ (l ++ [(v, h)]) (by simp; omega) (by simp; omega) (mK_tr hk (mK_tr k4 (mK_6 rfl))) (t4.at l3.2) (skB_skB b3) r4.w60 hy hf
            · obtain ⟨q, hqn, e4⟩ := (ms.2.2.2 c f rfl).2.2.2
              refine c_mBlanks hr ms.1 ms.2.1 e4 hqn (s_post46 (ms.bl hqn) (hf c f (by rw [q3]; rfl) _ (mK_tr hk (mK_tr (mK_6 (j := 4) rfl) (mK_tr (mK_6 (j := 4) rfl) (mK_tr ka (mK_6 rfl)))))))
          · obtain ⟨q, hqn, e4⟩ := (ms.2.2.2 c f rfl).2.2.2
            refine c_mBlanks hr ms.1 ms.2.1 e4 hqn (s_post46 (ms.bl hqn) (hf c f (by rw [q2]; rfl) _ (mK_tr hk (mK_tr (mK_6 (j := 4) rfl) (mK_tr ka (mK_6 rfl))))))
        · have k5 : mK a0 a' := mK_tr hk (mK_tr (mK_6 (j := 4) rfl) ka)
          rcases hc with ⟨hn, rfl⟩ | ⟨hn, h88, rfl⟩
          · rw [if_pos hn] at hf
            rw [hsk] at hf
            exact hf 2 p rfl a' k5
          · rw [if_neg (by rw [hn]; decide), if_pos (by omega)] at hf
            rw [hsk] at hf
            exact hf 3 p rfl a' k5
      · exact s_post81 hr ms (by omega) (fun a2 k2 => hf c f (by rw [q1]; rfl) a2 (mK_tr hk (mK_tr ka k2))) l.length 0 (by omega)
theorem c_mPostF {P : KI} (hr : Rk r) (h1 : a 60 1 = nI N) (hN : N ≤ 600)
    (hno : ¬ (inT x 0 (nI N) ∧ x ≤ 100) → P 0 (mBd a 1 2) r nK)
    (hgo : ∀ n B, n ≤ N → n ≤ 100 → x = nI n → (∀ i, i < n → a 61 i = B i) →
      (∀ l, pPost B n 9 [] 0 = .inl l → ∀ a1 a2, l.length ≤ 8 → mK (mSta a B n) a1 → RPo a1 l → mLd (u2 (u2 a1 60 3 (-1)) 60 38 (nI l.length)) a2 490 481 2 l.length → P (nI l.length) a2 r nK) ∧
      (∀ k f, pPost B n 9 [] 0 = .inr (k, f) → ∀ a1, mK (mSta a B n) a1 → P (k - 10) (u2 a1 60 3 (nI f)) r nK)) :
    Sp G (d + 3) 0 0 MX12_post [.ref 60, .int x] (a, r, nK) (RI P) := by
  have e1 : u2 a 60 0 0 60 1 = nI N := by rw [u2_ne (by decide)]; exact h1
  refine V_X12_post_0 ⟨rfl, by decide, fun a1 g1 => ⟨rfl, by decide, ?_⟩⟩
  subst g1
  rw [e1]
  refine c_mIn (fun hin => ⟨fun h => absurd h (by decide), fun _ => ⟨fun hx => ⟨rfl, by decide, ?_⟩, fun hx => ⟨rfl, by decide, c_mBad (w := 1) (wI := 1) (i := 2) hr (by decide) (by decide) (by decide) (by decide) ⟨fun h => absurd h (by decide), fun _ => hno (fun h => hx h.2)⟩⟩⟩⟩) (fun hin => ⟨fun _ => ⟨rfl, by decide, c_mBad (w := 1) (wI := 1) (i := 2) hr (by decide) (by decide) (by decide) (by decide) ⟨fun h => absurd h (by decide), fun _ => hno (fun h => hin h.1)⟩⟩, fun h => absurd rfl h⟩)
  obtain ⟨n, hn, hxn⟩ := nI_of2 (M := nI N) (n := N) (nI_toInt (by omega)) hin.1 (i_nlt.mp hin.2)
  subst hxn
  have hn100 : n ≤ 100 := (nI_leI (a := n) (b := 100) (by omega) (by omega)).mp hx
  have hB : MB a (fun i => a 61 i) n := ⟨by omega, fun _ _ => rfl⟩
  obtain ⟨hy, hf⟩ := hgo n (fun i => a 61 i) hn hn100 rfl (fun _ _ => rfl)
  generalize (fun i => a 61 i) = B at *
  have hT := mSta_MT hB
  have eS : pPost B n 9 [] (skB B n 0) = pPost B n 9 [] 0 := by rw [pPost, pPost, skB_skB (Nat.zero_le n)]
  rw [← eS] at hy hf
  refine c_mBad0 u2_eq ⟨fun _ => ⟨rfl, by decide, c_mSta hr hB ?_⟩, fun h => absurd rfl h⟩
  exact l_mPost hr (mSta a B n) 9 (skB B n 0) _ [] (by simp) (by simp) mK_rf hT (skB_skB (Nat.zero_le n)) (fun i v h => by simp at h) hy hf
end MPO
