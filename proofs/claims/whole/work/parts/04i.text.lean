/-! texts, and what the printed trees use -/
section TX
variable {G : GE} {M : MI} {d C S pc : Nat} {ρ : Rs} {k : Kt} {h h' : AH} {H H' : Heap} {q ci : Nat}
def s_callVB (G : GE) (d : Nat) (M' : MI) (n ci : Nat) (P : KX) (k : Kt) : Kt := fun L st h => s_callV G d M' n ci k L st h ∨ s_callVX G d M' n ci P L st h
theorem e_callVB {P : KX} {index n : Nat} {M' : MI} {T : u_T} {N : Nat} {ty0 : Nat → FieldType} (hnil : M.2.2.2.2 = []) (hcl : ClK ci M'.1.cls T N ty0) (hc : Cal M index M' n) (hl : Cond.methodLink M.1.cls index M'.1 ∈ wsG) (hi : Cond.instanceMethod M'.1 ∈ wsG) (hse : Cond.selects M'.1.cls M'.1 M'.1 ∈ wsG) (hd : decode M.2.1 pc = .ok (.invokevirtual index, 3)) (hk : Snd G M (d + 1) (C + 1) (S + 6) (pc + 3) (RX P) k) : Snd G M (d + 1) (C + 1) (S + 6) pc (RX P) (s_callVB G d M' n ci P k) := fun L st h hs =>
  hs.elim (fun h1 => e_callV hcl hc hl hi hse hd hk L st h h1) (fun h1 => e_callVX hnil hcl hc hl hi hse hd L st h h1)
/-! switches out of closed tables -/
theorem e_tsw {dflt lo hi : Int} {offs : Array Int} {len td : Nat} {cs : List (Int32 × Kt)} {kd : Kt} {tg : List Nat} (keys : List Int32) (hke : cs.map Prod.fst = keys) (hd : decode M.2.1 pc = .ok (.tableswitch dflt lo hi offs, len)) (htd : (pc : Int) + dflt = (td : Int))
    (hlen : hi = lo + keys.length - 1) (hkeys : (List.range keys.length).all (fun i => decide ((keys.map (fun c => c.toInt))[i]? = some (lo + i))) = true) (hoff : (List.range keys.length).all (fun i => match offs[i]?, tg[i]? with | some o, some t => decide ((pc : Int) + o = (t : Int)) | _, _ => false) = true)
    (hks : ∀ (i : Nat) (c : Int32 × Kt) (t : Nat), cs[i]? = some c → tg[i]? = some t → Snd G M d C S t ρ c.2) (hkd : Snd G M d C S td ρ kd) : Snd G M d C S pc ρ (s_switch cs kd) := by
  have hl : keys.length = cs.length := by rw [← hke]; simp
  refine e_tswitch (tg := tg) hd htd (by rw [← hl]; exact hlen) (fun i hi => ?_) (fun i hi => ?_) hks hkd
  · have h1 := List.all_eq_true.mp hkeys i (List.mem_range.mpr (by omega))
    have h2 : (keys.map (fun c => c.toInt))[i]? = some (lo + i) := of_decide_eq_true h1
    rw [← hke, List.map_map] at h2
    exact h2
  · have h1 := List.all_eq_true.mp hoff i (List.mem_range.mpr (by omega))
    revert h1
    cases ho : offs[i]? with
    | none => intro h1; exact absurd h1 (by simp)
    | some o =>
      cases ht : tg[i]? with
      | none => intro h1; exact absurd h1 (by simp)
      | some t => intro h1; exact ⟨o, t, rfl, rfl, of_decide_eq_true h1⟩
theorem e_lsw {dflt : Int} {ps : Array (Int × Int)} {len td : Nat} {cs : List (Int32 × Kt)} {kd : Kt} {tg : List Nat} (keys : List Int32) (hke : cs.map Prod.fst = keys) (hd : decode M.2.1 pc = .ok (.lookupswitch dflt ps, len)) (htd : (pc : Int) + dflt = (td : Int))
    (hp : (ps.toList.zip (ps.toList.drop 1)).all (fun (a, next) => a.1 < next.1) = true)
    (hps : ps.toList = (keys.zip tg).map (fun c => (c.1.toInt, (c.2 : Int) - pc))) (hl2 : tg.length = keys.length)
    (hks : ∀ (i : Nat) (c : Int32 × Kt) (t : Nat), cs[i]? = some c → tg[i]? = some t → Snd G M d C S t ρ c.2) (hkd : Snd G M d C S td ρ kd) : Snd G M d C S pc ρ (s_switch cs kd) := by
  have hl : keys.length = cs.length := by rw [← hke]; simp
  refine e_lswitch (tg := tg) hd htd hp ?_ (by rw [← hl]; exact hl2) hks hkd
  rw [hps, ← hke]
  have : ∀ (cs : List (Int32 × Kt)) (tg : List Nat), ((cs.map Prod.fst).zip tg).map (fun c => (c.1.toInt, (c.2 : Int) - pc)) = (cs.zip tg).map (fun c => (c.1.1.toInt, (c.2 : Int) - pc)) := by
    intro cs
    induction cs with
    | nil => intro tg; rfl
    | cons c cs ih =>
      intro tg
      cases tg with
      | nil => rfl
      | cons t tg => simp only [List.map_cons, List.zip_cons_cons, ih tg]
  exact this cs tg
def swP (G : GE) (M : MI) (d C S : Nat) (ρ : Rs) : List (Int32 × Kt) → List Nat → Prop
  | c :: cs, t :: tg => Snd G M d C S t ρ c.2 ∧ swP G M d C S ρ cs tg
  | _, _ => True
theorem swAll : ∀ {cs : List (Int32 × Kt)} {tg : List Nat}, swP G M d C S ρ cs tg → ∀ (i : Nat) (c : Int32 × Kt) (t : Nat), cs[i]? = some c → tg[i]? = some t → Snd G M d C S t ρ c.2
  | [], _, _, i, c, t, hc, _ => by simp at hc
  | _ :: _, [], _, i, c, t, _, ht => by simp at ht
  | c0 :: cs, t0 :: tg, hp, 0, c, t, hc, ht => by
    simp at hc ht
    subst hc; subst ht
    exact hp.1
  | c0 :: cs, t0 :: tg, hp, i + 1, c, t, hc, ht => swAll (cs := cs) (tg := tg) hp.2 i c t (by simpa using hc) (by simpa using ht)
theorem atS_in {own cls : String} {ic : Nat} {names : List String} (h : (vx_atS own ic cls names).all (fun w => decide (w ∈ lw_tbl) && (goodWord w || goodNw w)) = true) : ∀ w ∈ vx_atS own ic cls names, w ∈ wsG ∨ w ∈ wsN := fun w hw => by
  have h1 := List.all_eq_true.mp h w hw
  rw [Bool.and_eq_true, Bool.or_eq_true] at h1
  have h2 : w ∈ lw_tbl := of_decide_eq_true h1.1
  rcases h1.2 with h3 | h3
  · exact Or.inl (List.mem_filter.mpr ⟨h2, h3⟩)
  · exact Or.inr (List.mem_filter.mpr ⟨h2, h3⟩)
theorem inG_r (ws : List Cond) (ps : List Nat) (hp : ws = ps.filterMap (fun i => lw_tbl[i]?)) (h : ws.all goodWord = true) : ∀ w ∈ ws, w ∈ wsG := fun w hw => by
  have h1 := List.all_eq_true.mp h w hw
  rw [hp] at hw
  obtain ⟨i, -, hi⟩ := List.mem_filterMap.mp hw
  exact wsG_in hi h1
theorem e_gridL {n m index c s : Nat} (hc : 1 + n = c) (hs : n + n * m = s) (hw1 : Cond.classLink M.1.cls index ("[" ++ (FieldType.array .int).toString) ∈ wsG) (hw2 : Cond.arrayClass .int ∈ wsG) (hn4 : n * 4 ≤ 536870912) (hm4 : m * 4 ≤ 536870912) (hd : decode M.2.1 pc = .ok (.multianewarray index 2, 4)) (hk : Snd G M d C S (pc + 4) ρ k) : Snd G M d (C + c) (S + s) pc ρ (s_grid n m k) := by
  subst hc; subst hs
  exact e_grid hw1 hw2 hn4 hm4 hd hk
/-! texts -/
def s_ldcS (n : UInt32) (k : Kt) : Kt := fun L st h => k L (.float n :: st) h
theorem e_ldcS {i sn : Nat} {n : UInt32} {text : String} (hs : (M.1.cls, i, text, sn) ∈ strK) (hn : n.toNat = sn + 1) (hd : decode M.2.1 pc = .ok (.ldc i, 2)) (hk : Snd G M d C S (pc + 2) ρ k) : Snd G M d C S pc ρ (s_ldcS n k) := fun L st h hs9 p e R s m args below meth c H locs cells slots ls hC hR hl hW hS => by
  have h1 := hC.2.2.2.2.2.2.2.2.2.2.2.2.2.2.2.2.2.2.1 _ hs
  have h2 := hk _ _ _ hs9 p e R s m args below meth c H locs cells slots ls hC hR hl hW hS
  refine va_ldcS hC.1 hC.2.1 hC.2.2.2.2.2.1 h1 hd ?_
  have e0 : cv G (.float n) = .ref (gS G (sn + 1)) := by show Value.ref (gS G n.toNat) = _; rw [hn]
  simp only [List.map_cons, e0] at h2
  exact h2
def lF : Value → (Nat → Prop) → Prop
  | .float f, k => k f.toNat
  | _, _ => False
theorem lF_spec {v : Value} {k : Nat → Prop} (h : lF v k) : ∃ f, v = .float f ∧ k f.toNat := by
  cases v <;> first | exact ⟨_, rfl, h⟩ | exact h.elim
def s_callT (G : GE) (d : Nat) (M' : MI) (n : Nat) (k : Kt) : Kt := fun L st h => gd (!(Nat.ble (n + 1) st.length && Nat.ble (st.drop (n + 1)).length 4)) (lF (st.getD n .null) (fun i => 1 ≤ i ∧ i ≤ strN ∧ Sp G d 0 0 M' (st.take (n + 1)).reverse h (rK M'.2.2.2.1 (fun vs h' => k L (vs ++ st.drop (n + 1)) h'))))
theorem e_callT {index n : Nat} {M' : MI} (hst : M'.1.cls = "java/lang/String") (hc : Cal M index M' n) (hl : Cond.methodLink M.1.cls index M'.1 ∈ wsG) (hi : Cond.instanceMethod M'.1 ∈ wsG) (hse : Cond.selects M'.1.cls M'.1 M'.1 ∈ wsG) (hd : decode M.2.1 pc = .ok (.invokevirtual index, 3)) (hk : Snd G M (d + 1) C S (pc + 3) ρ k) : Snd G M (d + 1) C S pc ρ (s_callT G d M' n k) := fun L st h hs => by
  obtain ⟨hn, hle, hrc⟩ := gdc_spec hs
  obtain ⟨f, hv, hf1, hf2, hM⟩ := lF_spec hrc
  refine e_run (ρ' := rK M'.2.2.2.1 (fun vs h' => k L (vs ++ st.drop (n + 1)) h')) (C := C) (S := S) (mc := 0) (ms := 0) (n := n + 1) (M' := M') (d0 := d) (fun {p e R s m args below meth c H locs cells slots ls} hC hR hlv hW hS => ?_) (fun E h' hE => by obtain ⟨r, e, -⟩ := rK_spec hE; cases e) (fun r' h' hr' => by obtain ⟨r, e, hs⟩ := rK_spec hr'; cases e; exact hk _ _ _ hs)
  have hts := hC.2.2.2.2.2.2.1
  have hg := hC.2.2.2.2.2.2.2.2.2
  have e0 := (take_recv hv hn).1
  have hpre := sp_pre (M' := M') (as := (st.take (n + 1)).reverse) hg hW hS
  unfold Sp at hM
  rw [e0] at hM hpre ⊢
  obtain ⟨i, hi9⟩ : ∃ i, f.toNat = i + 1 := ⟨f.toNat - 1, by omega⟩
  have hrecv := vk_recv (i := i) hg.2.2.2.2.2.2.2.2.2.2.1 (by omega) hS
  rw [← hi9, ← hst] at hrecv
  exact vx_runV (C := M'.1.cls) (b := gS G f.toNat) (As := ((st.take n).reverse).map (cv G)) (rest := (st.drop (n + 1)).map (cv G)) ⟨hC.1, hC.2.1, hC.2.2.1, hC.2.2.2.2.2.1, hts⟩ hM ⟨cal_B hc hts hl hR.1 hR.2.1, hts _ (wsM_in hi), hts _ (wsM_in hse)⟩ ⟨Sp_blind G _ h, hrecv, hpre⟩ rfl (by simp; omega) hlv.1 (st_splitV hv hn) (lv_room (cat_le G _ hle)) hd ⟨by have := hR.2.2.1; omega, by have := hR.2.2.2; omega⟩
def pF : List Value → (UInt32 → List Value → Prop) → Prop
  | .float f :: st, k => k f st
  | _, _ => False
theorem pF_spec {st : List Value} {k : UInt32 → List Value → Prop} (h : pF st k) : ∃ f r, st = .float f :: r ∧ k f r := by
  unfold pF at h
  split at h
  · exact ⟨_, _, rfl, h⟩
  · exact h.elim
def pIF : List Value → (Int32 → UInt32 → List Value → Prop) → Prop
  | .int i :: .float f :: st, k => k i f st
  | _, _ => False
theorem pIF_spec {st : List Value} {k : Int32 → UInt32 → List Value → Prop} (h : pIF st k) : ∃ i f r, st = .int i :: .float f :: r ∧ k i f r := by
  unfold pIF at h
  split at h
  · exact ⟨_, _, _, rfl, h⟩
  · exact h.elim
/-- the value field of a text: its bytes -/
def s_getV (k : Kt) : Kt := fun L st h => pF st (fun f st => ∃ i, i < strN ∧ f.toNat = i + 1 ∧ ∀ g : UInt32, g.toNat = 100 + i → k L (.float g :: st) h)
theorem e_getV {index : Nat} (hw : Cond.fieldLink M.1.cls index "java/lang/String" "value" "[B" ∈ wsG) (hd : decode M.2.1 pc = .ok (.getfield index, 3)) (hk : Snd G M d C S (pc + 3) ρ k) : Snd G M d C S pc ρ (s_getV k) := fun L st h hs => by
  obtain ⟨f, r, rfl, i, hi, hf, hs⟩ := pF_spec hs
  intro p e R s m args below meth c H locs cells slots ls hC hR hl hW hS
  have hg := hC.2.2.2.2.2.2.2.2.2
  have hv := (hg.2.2.2.2.2.2.2.2.2.2.1.1 i hi).2.2.1
  have hlt : i < 100 := by have : strN ≤ 100 := by decide
                           omega
  have hgn : (UInt32.ofNat (100 + i)).toNat = 100 + i := by
    rw [UInt32.toNat_ofNat']
    omega
  have h2 := hk _ _ _ (hs (UInt32.ofNat (100 + i)) hgn) p e R s m args below meth c H locs cells slots ls hC hR hl hW hS
  have e0 : cv G (.float (UInt32.ofNat (100 + i))) = .ref (gS G (100 + i)) := by show Value.ref (gS G (UInt32.ofNat (100 + i)).toNat) = _; rw [hgn]
  simp only [List.map_cons, e0] at h2
  have e1 : cv G (.float f) = .ref (gS G (i + 1)) := by show Value.ref (gS G f.toNat) = _; rw [hf]
  simp only [List.map_cons, e1]
  exact vk_getf hC.1 hC.2.1 hv hS hC.2.2.2.2.2.1 (hC.2.2.2.2.2.2.1 _ (wsM_in hw)) (fun _ h9 => h9) hd h2
def s_getC (k : Kt) : Kt := fun L st h => pF st (fun f st => 1 ≤ f.toNat ∧ f.toNat ≤ strN ∧ k L (.int 0 :: st) h)
theorem e_getC {index : Nat} (hw : Cond.fieldLink M.1.cls index "java/lang/String" "coder" "B" ∈ wsG) (hd : decode M.2.1 pc = .ok (.getfield index, 3)) (hk : Snd G M d C S (pc + 3) ρ k) : Snd G M d C S pc ρ (s_getC k) := fun L st h hs => by
  obtain ⟨f, r, rfl, h1, h2, hs⟩ := pF_spec hs
  intro p e R s m args below meth c H locs cells slots ls hC hR hl hW hS
  have hg := hC.2.2.2.2.2.2.2.2.2
  obtain ⟨i, hf⟩ : ∃ i, f.toNat = i + 1 := ⟨f.toNat - 1, by omega⟩
  have hv := (hg.2.2.2.2.2.2.2.2.2.2.1.1 i (by omega)).2.1
  have h2 := hk _ _ _ hs p e R s m args below meth c H locs cells slots ls hC hR hl hW hS
  have e1 : cv G (.float f) = .ref (gS G (i + 1)) := by show Value.ref (gS G f.toNat) = _; rw [hf]
  simp only [List.map_cons, e1]
  exact vk_getf hC.1 hC.2.1 hv hS hC.2.2.2.2.2.1 (hC.2.2.2.2.2.2.1 _ (wsM_in hw)) (fun _ h9 => h9) hd h2
def s_alenT (k : Kt) : Kt := fun L st h => pF st (fun f st => ∃ i, i < strN ∧ f.toNat = 100 + i ∧ k L (.int (Int32.ofNat (strLen.getD i 0)) :: st) h)
theorem e_alenT (hd : decode M.2.1 pc = .ok (.arraylength, 1)) (hk : Snd G M d C S (pc + 1) ρ k) : Snd G M d C S pc ρ (s_alenT k) := fun L st h hs => by
  obtain ⟨f, r, rfl, i, hi, hf, hs⟩ := pF_spec hs
  intro p e R s m args below meth c H locs cells slots ls hC hR hl hW hS
  have hg := hC.2.2.2.2.2.2.2.2.2
  have hv := (hg.2.2.2.2.2.2.2.2.2.2.1.1 i hi).2.2.2
  have h2 := hk _ _ _ hs p e R s m args below meth c H locs cells slots ls hC hR hl hW hS
  have e1 : cv G (.float f) = .ref (gS G (100 + i)) := by show Value.ref (gS G f.toNat) = _; rw [hf]
  simp only [List.map_cons, e1]
  exact va_tlen hC.1 hC.2.1 hv hS rfl hd h2
def s_baloadT (k : Kt) : Kt := fun L st h => pIF st (fun j f st => ∃ i, i < strN ∧ f.toNat = 100 + i ∧ vp_in j (strLen.getD i 0) ∧ k L (.int ((strByt.getD i []).getD j.toNatClampNeg 0) :: st) h)
theorem e_baloadT (hd : decode M.2.1 pc = .ok (.baload, 1)) (hk : Snd G M d C S (pc + 1) ρ k) : Snd G M d C S pc ρ (s_baloadT k) := fun L st h hs => by
  obtain ⟨j, f, r, rfl, i, hi, hf, hin, hs⟩ := pIF_spec hs
  intro p e R s m args below meth c H locs cells slots ls hC hR hl hW hS
  have hg := hC.2.2.2.2.2.2.2.2.2
  have hv := (hg.2.2.2.2.2.2.2.2.2.2.1.1 i hi).2.2.2
  have h2 := hk _ _ _ hs p e R s m args below meth c H locs cells slots ls hC hR hl hW hS
  have e1 : cv G (.float f) = .ref (gS G (100 + i)) := by show Value.ref (gS G f.toNat) = _; rw [hf]
  simp only [List.map_cons, e1]
  exact va_tb hC.1 hC.2.1 hv hS hin rfl hd h2
def s_gsZ (k : Kt) : Kt := fun L st h => k L (.int 1 :: st) h
theorem e_gsZ {index : Nat} (hw : Cond.fieldLink M.1.cls index "java/lang/String" "COMPACT_STRINGS" "Z" ∈ wsG) (hd : decode M.2.1 pc = .ok (.getstatic index, 3)) (hk : Snd G M d C S (pc + 3) ρ k) : Snd G M d C S pc ρ (s_gsZ k) := fun L st h hs p e R s m args below meth c H locs cells slots ls hC hR hl hW hS =>
  va_gets hC.1 hC.2.1 hC.2.2.2.2.2.2.2.2.2.2.2.2.2.2.2.2.2.2.2.2.1 hS hC.2.2.2.2.2.1 (hC.2.2.2.2.2.2.1 _ (wsM_in hw)) (fun _ h9 => h9) hd (hk _ _ _ hs p e R s m args below meth c H locs cells slots ls hC hR hl hW hS)
def s_gsF (G : GE) (k : Kt) : Kt := fun L st h => k L (gF G :: st) h
theorem e_gsF {index : Nat} (hw : Cond.fieldLink M.1.cls index "jdk/internal/util/Preconditions" "SIOOBE_FORMATTER" "Ljava/util/function/BiFunction;" ∈ wsG) (hd : decode M.2.1 pc = .ok (.getstatic index, 3)) (hk : Snd G M d C S (pc + 3) ρ k) : Snd G M d C S pc ρ (s_gsF G k) := fun L st h hs p e R s m args below meth c H locs cells slots ls hC hR hl hW hS =>
  va_gets hC.1 hC.2.1 hC.2.2.2.2.2.2.2.2.2.2.2.2.2.2.2.2.2.2.2.2.2.2 hS hC.2.2.2.2.2.1 (hC.2.2.2.2.2.2.1 _ (wsM_in hw)) (fun _ h9 => h9) hd (hk _ _ _ hs p e R s m args below meth c H locs cells slots ls hC hR hl hW hS)
def s_i2c (k : Kt) : Kt := fun L st h => p1 st (fun a st => k L (.int (a.toUInt32 % 65536).toInt32 :: st) h)
theorem e_i2c (hd : decode M.2.1 pc = .ok (.i2c, 1)) (hk : Snd G M d C S (pc + 1) ρ k) : Snd G M d C S pc ρ (s_i2c k) := fun L st h hs => by
  obtain ⟨a, r, rfl, hs⟩ := p1_spec hs
  exact e_go (fun ls hx hb _ q => lv_i2c hx hb hd rfl q) (hk _ _ _ hs)
def s_nreturn (ty : FieldType) (P : KI) : Kt := fun _ st h => p1 st (fun a st => emp st (narrow ty (.int a) = .int a ∧ P a h.1 h.2.1 h.2.2))
theorem e_nreturn {P : KI} {ty : FieldType} (hr : M.2.2.2.1 = some ty) (hd : decode M.2.1 pc = .ok (.ireturn, 1)) : Snd G M d C S pc (RI P) (s_nreturn ty P) := fun L st h hs => by
  obtain ⟨a, r, rfl, hs⟩ := p1_spec hs
  obtain ⟨rfl, hn, hs2⟩ := emp_spec hs
  exact e_zret hr hn hd ⟨a, rfl, hs2⟩
/-- a JDK class's own method -/
theorem Sp.ofF {mc ms : Nat} {as : List Value} (hh : M.2.2.2.2 = []) (hy : plainFor M.1 = true) (hc : ∀ v ∈ as, v.category = 1) (hn : as.length ≤ M.2.2.1)
    (hE : E G M d mc ms 0 (as ++ List.replicate (M.2.2.1 - as.length) .null) [] h ρ) : Sp G d mc ms M as h ρ := by
  obtain ⟨y, cc, maxL, ret, hh9⟩ := M
  cases hh
  refine MetFree.of_bodySF (code := cc) (maxLocals := maxL) (ret := ret) hy ?_ ?_
  · intro args s m h hn
    obtain ⟨meth, c, h1, h2, h3, h4, h5, h6, -, -⟩ := Cond.code_spec hn (atoms_spec (ws := wsM (y, cc, maxL, ret, [])) h _ List.mem_cons_self)
    exact ⟨meth, c, h1, h2, h3, h4, h5, h6⟩
  · intro p e s m args below meth c s₁ B hml hP _
    have hh0 : s₁.heap = s.heap := by rw [B.state]; rfl
    have ht : c.exceptionTable.toList = tableOf [] := by
      obtain ⟨meth9, c9, h1, h2, -, -, -, -, h7, -⟩ := Cond.code_spec B.named (atoms_spec (ws := wsM (y, cc, maxL, ret, [])) B.pre _ List.mem_cons_self)
      cases Option.some.inj (h1.symm.trans B.method)
      cases Option.some.inj (h2.symm.trans (Stand.of_body B).code)
      rw [Array.isEmpty_iff.mp h7]
      rfl
    obtain ⟨rfl, hg, hw⟩ := hP
    have hW0 := hE p e (rmD d mc ms) s m _ below meth c s.heap [] 0 0 _ ⟨B.exec, B.bytes, hml, B.returns, B.notSynchronized, findClass_of_methodNamed B.named, atoms_spec (ws := wsM _) B.pre, (name_of_methodNamed B.named B.method).1, ht, hg⟩ ⟨Nat.le_refl _, Nat.le_refl _, by show 0 + mc ≤ mc; omega, by show 0 + ms ≤ ms; omega⟩ (lvA_entry G as hc hn) hw va_S.rf
    rw [show (List.map (cv G) [] : List Value) = [] from rfl, ← lg_entry_eq] at hW0
    obtain ⟨t, a1, o, b1, b2, b3⟩ := hW0 s₁ hh0 (Stand.of_body B)
    exact ⟨t, o, a1, b1, b2, b3⟩
end TX
section SW
variable {G : GE} {M : MI} {d C S : Nat} {ρ : Rs}
theorem swn {tg : List Nat} : ∀ (i : Nat) (c : Int32 × Kt) (t : Nat), ([] : List (Int32 × Kt))[i]? = some c → tg[i]? = some t → Snd G M d C S t ρ c.2 := fun i c t hc _ => by simp at hc
theorem swc {t0 : Nat} {v0 : Int32} {k0 : Kt} {cs : List (Int32 × Kt)} {tg : List Nat} (h : Snd G M d C S t0 ρ k0) (hs : ∀ (i : Nat) (c : Int32 × Kt) (t : Nat), cs[i]? = some c → tg[i]? = some t → Snd G M d C S t ρ c.2) : ∀ (i : Nat) (c : Int32 × Kt) (t : Nat), ((v0, k0) :: cs)[i]? = some c → (t0 :: tg)[i]? = some t → Snd G M d C S t ρ c.2
  | 0, c, t, hc, ht => by
    simp at hc ht
    subst hc; subst ht
    exact h
  | i + 1, c, t, hc, ht => hs i c t (by simpa using hc) (by simpa using ht)
end SW
