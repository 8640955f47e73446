/-! Main: suitors, gets, right, mates, look -/
def MlH (a : IA) (r : RA) (M : Nat) (ml : List Ln) : Prop := isMail M ∧ r 0 7 = .ref M ∧ MlOK a M ml
def inT3 (x y z : Int32) : Prop := inT x 0 40 ∧ inT y 0 40 ∧ inT z 0 40
def bc1 (x : Int32) : Int32 := x - (((x.toUInt32 >>> (((1 : Int32)).toUInt32 &&& Int32.toUInt32 31)).toInt32) &&& 1431655765)
def bc2 (x : Int32) : Int32 := (x &&& 858993459) + ((((x.toUInt32 >>> (((2 : Int32)).toUInt32 &&& Int32.toUInt32 31)).toInt32)) &&& 858993459)
def bc3 (x : Int32) : Int32 := (x + ((x.toUInt32 >>> (((4 : Int32)).toUInt32 &&& Int32.toUInt32 31)).toInt32)) &&& 252645135
def bc4 (x : Int32) : Int32 := x + ((x.toUInt32 >>> (((8 : Int32)).toUInt32 &&& Int32.toUInt32 31)).toInt32)
def bc5 (x : Int32) : Int32 := x + ((x.toUInt32 >>> (((16 : Int32)).toUInt32 &&& Int32.toUInt32 31)).toInt32)
def bcI (x : Int32) : Int32 := bc5 (bc4 (bc3 (bc2 (bc1 x)))) &&& 63
def fRole (role s o : Int32) : Int32 := if role = 1 then s else o
/-- the bits of those whom it could marry in that role, by the POST -/
def mtB (a : IA) (T ns : Nat) (lw : List Int32) (ml : List Ln) (role s : Int32) : Int32 := if rgt role (rAt (a (T + 5)) 8 s) ml = ml.length then bitsLo (fun o => decide ((if role = 1 then lwHind a T 43 lw s (nI o) else lwHind a T 43 lw (nI o) s) = 0)) ns 0 0 else 0
def mtA (a : IA) (T : Nat) (ml : List Ln) (s : Int32) : Int32 := if rgt 0 (rAt (a (T + 5)) 8 s) ml = ml.length then 1 else 0
def lkS (hs : Int32) (ml : List Ln) (h1 h2 h3 : Int32) (k : Nat) (x : Int32 × Int32) : Int32 × Int32 := if hasN ml (nI k) then x else if x.2 < lfWorst hs (nI k) h1 h2 h3 then x else (nI k, lfWorst hs (nI k) h1 h2 h3)
section MT
variable {G : GE} {d C S : Nat} {a : IA} {r : RA} {N T L M nc ns ng : Nat} {s w x y z : Int32} {lw : List Int32} {ml : List Ln}
theorem c_bitCount {P : KI} (hp : P (bcI x) a r N) : Sp G d 0 0 MJ6_bitCount_0f7a4 [.int x] (a, r, N) (RI P) := V_J6_bitCount_0f7a4_0 hp
theorem c_isDowry {P : KI} (h1 : inT x 0 40 → P 1 a r N) (h0 : ¬ inT x 0 40 → P 0 a r N) : Sp G d 0 0 MX11_isDowry [.int x] (a, r, N) (RI P) :=
  V_X11_isDowry_0 ⟨fun h => ⟨bz_0, h0 (fun z => z.1 h)⟩, fun h => ⟨fun h' => ⟨bz_0, h0 (fun z => z.2 h')⟩, fun h' => ⟨bz_1, h1 ⟨h, h'⟩⟩⟩⟩
theorem c_gets {P : KI} (h : inT3 x y z) (hp : P (gn x y z) a r N) : Sp G (d + 2) 0 0 MX11_gets [.ref 0, .int x, .int y, .int z] (a, r, N) (RI P) := by
  refine V_X11_gets_0 (c_isDowry (fun _ => ⟨fun e => absurd e (by decide), fun _ => c_isDowry (fun _ => ⟨fun e => absurd e (by decide), fun _ => c_isDowry (fun _ => ⟨fun e => absurd e (by decide), fun _ => ⟨rfl, ?_, c_need (by decide) (c_gain hp)⟩⟩) (fun n => absurd h.2.2 n)⟩) (fun n => absurd h.2.1 n)⟩) (fun n => absurd h.1 n))
end MT
