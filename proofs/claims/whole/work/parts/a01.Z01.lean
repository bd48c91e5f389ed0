/-! The Z machine: ints, longs and references as (tag, integer); memory as a function of integers; which cell a reference of a tag names stands in a table. -/
abbrev V : Type := Nat × Int
abbrev zM : Type := Int → Int → Int
/-- region, tag of the cell, length (arrays), mode and offset of its place, slots (tag, mode, integer) -/
abbrev zS : Type := Nat × Nat × Int × Nat × Int × List (Nat × Nat × Int)
def ztab : List (Nat × zS) := [
  (1161, 0, 12, 0, 2, 168, [(1162, 2, 0), (1163, 2, 0), (1164, 2, 0), (1165, 2, 0), (1, 0, 4), (1, 0, 5), (1166, 2, 0), (0, 0, 7), (1167, 2, 0), (1168, 2, 0), (1169, 2, 0), (1170, 2, 0), (1171, 2, 0), (1172, 2, 0), (0, 0, 14), (0, 0, 15), (0, 0, 16), (0, 0, 17), (1173, 2, 0), (1174, 2, 0), (0, 0, 20), (0, 0, 21), (0, 0, 22), (0, 0, 23), (0, 0, 24), (1175, 2, 0), (1176, 2, 0)]),
  (1162, 0, 20, 523, 2, 169, [(0, 0, 0)]),
  (100, 1, 9, 0, 0, 0, [(118, 3, 0), (0, 0, 1), (0, 0, 2), (0, 0, 3), (0, 0, 4), (101, 3, 0), (102, 3, 0), (103, 3, 0), (104, 3, 0), (105, 3, 0), (106, 3, 0), (107, 3, 0), (108, 3, 0), (109, 3, 0), (110, 3, 0), (20, 1, 18), (117, 3, 0)]),
  (101, 1, 20, 6, 1, 8, [(0, 0, 0)]),
  (102, 1, 20, 6, 1, 9, [(0, 0, 0)]),
  (103, 1, 20, 6, 1, 10, [(0, 0, 0)]),
  (104, 1, 20, 6, 1, 11, [(0, 0, 0)]),
  (105, 1, 20, 6, 1, 12, [(0, 0, 0)]),
  (106, 1, 20, 6, 1, 13, [(0, 0, 0)]),
  (107, 1, 20, 6, 1, 14, [(0, 0, 0)]),
  (108, 1, 20, 6, 1, 15, [(0, 0, 0)]),
  (109, 1, 20, 6, 1, 16, [(0, 0, 0)]),
  (110, 1, 20, 6, 1, 17, [(0, 0, 0)]),
  (117, 1, 25, 8, 1, 24, [(20, 0, 0)]),
  (118, 1, 23, 6, 1, 1, [(30, 0, 0)]),
  (20, 2, 0, 0, 0, 0, [(0, 0, 0), (0, 0, 1), (0, 0, 2), (21, 3, 0), (22, 3, 0), (23, 3, 0), (24, 3, 0), (25, 3, 0)]),
  (21, 2, 20, 6, 1, 1, [(0, 0, 0)]),
  (22, 2, 20, 6, 1, 2, [(0, 0, 0)]),
  (23, 2, 20, 12, 1, 3, [(0, 0, 0)]),
  (24, 2, 20, 12, 1, 4, [(0, 0, 0)]),
  (25, 2, 20, 12, 1, 5, [(0, 0, 0)]),
  (1000, 0, 11, 0, 2, 0, [(1008, 2, 0), (1010, 2, 0), (1012, 2, 0), (1025, 2, 0), (1028, 2, 0), (100, 0, 5), (100, 0, 6), (1, 0, 7), (1, 0, 8)]),
  (1008, 0, 24, 2, 2, 1, [(50, 0, 0)]),
  (1009, 0, 21, 150, 2, 3, [(0, 0, 0)]),
  (1010, 0, 8, 0, 2, 2, [(0, 0, 0), (0, 0, 1), (1009, 2, 0), (0, 0, 3), (0, 0, 4), (1011, 2, 0)]),
  (1011, 0, 20, 4, 2, 4, [(0, 0, 0)]),
  (1012, 0, 2, 0, 2, 5, [(0, 0, 0), (0, 0, 1), (1013, 2, 0), (1014, 2, 0), (1015, 2, 0), (1016, 2, 0), (1024, 2, 0)]),
  (1013, 0, 20, 6, 2, 6, [(0, 0, 0)]),
  (1014, 0, 20, 6, 2, 7, [(0, 0, 0)]),
  (1015, 0, 20, 6, 2, 8, [(0, 0, 0)]),
  (1024, 0, 20, 6, 2, 17, [(0, 0, 0)]),
  (1016, 0, 26, 7, 2, 9, [(40, 0, 0)]),
  (40, 3, 20, 64, 1, 10, [(0, 0, 0)]),
  (1025, 0, 5, 0, 2, 18, [(0, 0, 0), (1026, 2, 0), (1027, 2, 0)]),
  (1026, 0, 22, 36, 2, 19, [(0, 0, 0)]),
  (1027, 0, 20, 6, 2, 20, [(0, 0, 0)]),
  (1028, 0, 20, 3, 2, 21, [(0, 0, 0)]),
  (1163, 0, 20, 1046, 2, 170, [(0, 0, 0)]),
  (1164, 0, 22, 2, 2, 171, [(0, 0, 0)]),
  (1165, 0, 20, 3, 2, 172, [(0, 0, 0)]),
  (1166, 0, 20, 6, 2, 173, [(0, 0, 0)]),
  (1167, 0, 20, 7, 2, 174, [(0, 0, 0)]),
  (1168, 0, 20, 7, 2, 175, [(0, 0, 0)]),
  (1169, 0, 20, 7, 2, 176, [(0, 0, 0)]),
  (1170, 0, 20, 7, 2, 177, [(0, 0, 0)]),
  (1171, 0, 20, 7, 2, 178, [(0, 0, 0)]),
  (1172, 0, 20, 7, 2, 179, [(0, 0, 0)]),
  (1173, 0, 20, 6, 2, 180, [(0, 0, 0)]),
  (1174, 0, 20, 150, 2, 181, [(0, 0, 0)]),
  (1175, 0, 20, 115, 2, 182, [(0, 0, 0)]),
  (1176, 0, 20, 4, 2, 183, [(0, 0, 0)])]
def zfind : List (Nat × zS) → Nat → Option zS
  | [], _ => none
  | q :: r, t => cond (Nat.beq q.1 t) (some q.2) (zfind r t)
def zkey (md : Nat) (o p : Int) : Int := match md with
  | 0 => p
  | 1 => p + o
  | _ => o
def vv (v : V) : Value := match zfind ztab v.1 with
  | some s => .ref (zkey s.2.2.2.1 s.2.2.2.2.1 v.2).toNat
  | none => cond (Nat.beq v.1 0) (.int (Int32.ofInt v.2)) <| cond (Nat.beq v.1 1) (.long (Int64.ofInt v.2)) <| cond (Nat.beq v.1 2) .null <| cond (Nat.beq v.1 3) (.retAddr v.2.toNat) <|
    cond (Nat.beq v.1 30) (.ref v.2.toNat) <| cond (Nat.beq v.1 50) (if v.2 < 0 then .null else .ref v.2.toNat) xU
abbrev zD : Type := Nat × Option Int
abbrev zSh : Type := List (Nat × List zD)
def hcz (c : Nat × List zD) (f : Int → Int) : xC := (c.1, c.2.mapIdx fun j o => vv (o.1, o.2.getD (f j)))
def hz (σ : zSh) (μ : zM) : xH := σ.mapIdx fun k c => hcz c (μ k)
def up (μ : zM) (k j x : Int) : zM := fun k' j' => if k' = k ∧ j' = j then x else μ k' j'
def zcp (μ : zM) (ka kb sp dp n : Int) : zM := fun k j => if k = kb ∧ dp ≤ j ∧ j < dp + n then μ ka (sp + (j - dp)) else μ k j
def zsd (p : Int) (q : Nat × Nat × Int) : zD := (q.1, match q.2.1 with
  | 0 => none
  | 1 => some (p + q.2.2)
  | 2 => some q.2.2
  | _ => some p)
/-- the kinds of the shop at p: they never change -/
def zkin (p : Int) : List zD := [(30, some (p + 2 + 0)), (30, some (p + 2 + 1)), (30, some (p + 2 + 2)), (30, some (p + 2 + 3)), (30, some (p + 2 + 4)), (30, some (p + 2 + 5))]
def zcell (s : zS) (p : Int) : Nat × List zD := (s.2.1, cond (Nat.blt s.2.1 20) (s.2.2.2.2.2.map (zsd p)) (cond (Nat.beq s.2.1 23) (zkin p) (List.replicate s.2.2.1.toNat (match s.2.2.2.2.2 with
  | q :: _ => (q.1, none)
  | [] => (0, none)))))
/-- the cells of a region lie at p -/
def zlay (σ : zSh) (rg : Nat) (p : Int) : Prop := ∀ q ∈ ztab, q.2.1 = rg → 0 ≤ zkey q.2.2.2.2.1 q.2.2.2.2.2.1 p ∧ σ[(zkey q.2.2.2.2.1 q.2.2.2.2.2.1 p).toNat]? = some (zcell q.2 p)
def Bk (σ : zSh) (p : Int) : Prop := zlay σ 2 p
def zKt (k : Int) : Nat := if k = 0 then 7 else if k = 1 then 10 else if k = 2 then 3 else if k = 3 then 6 else if k = 4 then 1 else 4
def Sp (σ : zSh) (p : Int) : Prop := 0 ≤ p ∧ zlay σ 1 p ∧ Bk σ (p + 18) ∧ (∀ k : Int, 0 ≤ k → k < 6 → σ[(p + 2 + k).toNat]? = some (zKt k, []))
def Wl (σ : zSh) : Prop := (∀ p, zlay σ 0 p) ∧ (∀ p, 0 ≤ p → p < 7 → zlay σ 3 p)
def Rgn (σ : zSh) (rg : Nat) (p : Int) : Prop := match rg with
  | 0 => True
  | 1 => Sp σ p
  | 2 => Bk σ p
  | 3 => 0 ≤ p ∧ p < 7
  | _ => False
/-- the region's condition, the cell's key -/
def zK {α : Type} (σ : zSh) (rg md : Nat) (o p : Int) (K : Option Prop → Int → Option α) : Option α := match rg with
  | 0 => match md with
    | 2 => K none o
    | _ => none
  | 1 => match md with
    | 0 => K (some (Sp σ p)) p
    | 1 => K (some (Sp σ p)) (p + o)
    | _ => none
  | 2 => match md with
    | 0 => K (some (Bk σ p)) p
    | 1 => K (some (Bk σ p)) (p + o)
    | _ => none
  | 3 => match md with
    | 1 => K (some (0 ≤ p ∧ p < 7)) (p + o)
    | _ => none
  | _ => none
def zA {α : Type} (oc : Option Prop) (P : Prop) (K : Option Prop → Option α) : Option α := match oc with
  | none => K (some P)
  | some c => K (some (c ∧ P))
def fL {α : Type} : List V → (List V → Option α) → Option α
  | [], K => K []
  | (t, p) :: r, K => fL r fun r' => K ((t, p) :: r')
def zi1 {α : Type} (st : List V) (K : Int → List V → Option α) : Option α := match st with
  | (0, x) :: r => K x r
  | _ => none
def zi2 {α : Type} (st : List V) (K : Int → Int → List V → Option α) : Option α := match st with
  | (0, y) :: (0, x) :: r => K x y r
  | _ => none
def zl1 {α : Type} (st : List V) (K : Int → List V → Option α) : Option α := match st with
  | (1, x) :: r => K x r
  | _ => none
def zl2 {α : Type} (st : List V) (K : Int → Int → List V → Option α) : Option α := match st with
  | (1, y) :: (1, x) :: r => K x y r
  | _ => none
def zr1 {α : Type} (st : List V) (K : Nat → Int → List V → Option α) : Option α := match st with
  | (t, p) :: r => K t p r
  | _ => none
def zf {α : Type} (t : Nat) (K : Nat → Nat → Int → Nat → Int → List (Nat × Nat × Int) → Option α) : Option α := match zfind ztab t with
  | some (rg, ct, ln, md, o, sl) => K rg ct ln md o sl
  | none => none
def zkill (L : List V) (i : Nat) : List V := match i with
  | 0 => L
  | j + 1 => match L[j]? with
    | some (1, _) => L.set j (4, 0)
    | _ => L
def zst1 {α : Type} (L : List V) (i : Nat) (v : V) (K : List V → Option α) : Option α := cond (Nat.blt i L.length) (fL ((zkill L i).set i v) K) none
def zst2 {α : Type} (L : List V) (i : Nat) (v : V) (K : List V → Option α) : Option α := cond (Nat.blt (i + 1) L.length) (fL (((zkill L i).set i v).set (i + 1) (4, 0)) K) none
def zand (x y : Int) : Int := (Int32.ofInt x &&& Int32.ofInt y).toInt
def zor (x y : Int) : Int := (Int32.ofInt x ||| Int32.ofInt y).toInt
def zxor (x y : Int) : Int := (Int32.ofInt x ^^^ Int32.ofInt y).toInt
def zshl (x y : Int) : Int := (Int32.ofInt x <<< (Int32.ofInt y &&& 31)).toInt
def zshr (x y : Int) : Int := (Int32.ofInt x >>> (Int32.ofInt y &&& 31)).toInt
def zcmp (x y : Int) : Int := if x < y then -1 else if x = y then 0 else 1
def zsm (b : Nat) (n : Int) : Bool := match n with
  | .ofNat m => Nat.blt m b
  | .negSucc m => Nat.blt m b
def zfit (ty : FieldType) (t : Nat) : Bool := match ty with
  | .int => Nat.beq t 0
  | .long => Nat.beq t 1
  | .object _ => Nat.blt 4 t && !(Nat.beq t 50) && !(Nat.beq t 30)
  | .array _ => Nat.blt 4 t && !(Nat.beq t 50) && !(Nat.beq t 30)
  | _ => false
def zcat : List V → Nat
  | [] => 0
  | (1, _) :: r => 2 + zcat r
  | _ :: r => 1 + zcat r
abbrev zW : Type := Option Prop × Nat × List V × List V × zM
abbrev zrng (x : Int) : Prop := -2147483648 ≤ x ∧ x < 2147483648
def zs (σ : zSh) (d : Nat) (ins : Instr) (nx : Nat) (info : List Nat) (L st : List V) (μ : zM) : Option zW :=
  match ins with
  | .iconst n => some (none, nx, L, (0, n) :: st, μ)
  | .bipush n => cond (zsm 128 n) (some (none, nx, L, (0, n) :: st, μ)) none
  | .sipush n => cond (zsm 32768 n) (some (none, nx, L, (0, n) :: st, μ)) none
  | .lconst n => match n.val with
    | 0 => some (none, nx, L, (1, 0) :: st, μ)
    | 1 => some (none, nx, L, (1, 1) :: st, μ)
    | _ => none
  | .ldc _ => match info with
    | [0, v] => some (none, nx, L, (0, (v : Int)) :: st, μ)
    | [1, j] => some (none, nx, L, (3, (j : Int)) :: st, μ)
    | _ => none
  | .ldc_w _ => match info with
    | [0, v] => some (none, nx, L, (0, (v : Int)) :: st, μ)
    | _ => none
  | .ldc2_w _ => match info with
    | [v] => some (none, nx, L, (1, (v : Int)) :: st, μ)
    | _ => none
  | .iload_n k => match L[k.val]? with
    | some (0, x) => some (none, nx, L, (0, x) :: st, μ)
    | _ => none
  | .iload k => match L[k]? with
    | some (0, x) => some (none, nx, L, (0, x) :: st, μ)
    | _ => none
  | .lload_n k => match L[k.val]? with
    | some (1, x) => some (none, nx, L, (1, x) :: st, μ)
    | _ => none
  | .lload k => match L[k]? with
    | some (1, x) => some (none, nx, L, (1, x) :: st, μ)
    | _ => none
  | .aload_n k => match L[k.val]? with
    | some (3, x) => some (none, nx, L, (3, x) :: st, μ)
    | some (t, x) => zf t fun _ _ _ _ _ _ => some (none, nx, L, (t, x) :: st, μ)
    | _ => none
  | .aload k => match L[k]? with
    | some (t, x) => zf t fun _ _ _ _ _ _ => some (none, nx, L, (t, x) :: st, μ)
    | _ => none
  | .istore_n k => zi1 st fun x r => zst1 L k.val (0, x) fun L' => some (none, nx, L', r, μ)
  | .istore k => zi1 st fun x r => zst1 L k (0, x) fun L' => some (none, nx, L', r, μ)
  | .lstore_n k => zl1 st fun x r => zst2 L k.val (1, x) fun L' => some (none, nx, L', r, μ)
  | .lstore k => zl1 st fun x r => zst2 L k (1, x) fun L' => some (none, nx, L', r, μ)
  | .astore_n k => zr1 st fun t x r => zf t fun _ _ _ _ _ _ => zst1 L k.val (t, x) fun L' => some (none, nx, L', r, μ)
  | .astore k => zr1 st fun t x r => zf t fun _ _ _ _ _ _ => zst1 L k (t, x) fun L' => some (none, nx, L', r, μ)
  | .iinc k n => match L[k]? with
    | some (0, x) => zst1 L k (0, x + n) fun L' => some (none, nx, L', st, μ)
    | _ => none
  | .iadd => zi2 st fun x y r => some (none, nx, L, (0, x + y) :: r, μ)
  | .isub => zi2 st fun x y r => some (none, nx, L, (0, x - y) :: r, μ)
  | .imul => zi2 st fun x y r => some (none, nx, L, (0, x * y) :: r, μ)
  | .idiv => zi2 st fun x y r => some (some (0 ≤ x ∧ x < 2147483648 ∧ 0 < y ∧ y < 2147483648), nx, L, (0, x / y) :: r, μ)
  | .irem => zi2 st fun x y r => some (some (0 ≤ x ∧ x < 2147483648 ∧ 0 < y ∧ y < 2147483648), nx, L, (0, x % y) :: r, μ)
  | .iand => zi2 st fun x y r => some (none, nx, L, (0, zand x y) :: r, μ)
  | .ior => zi2 st fun x y r => some (none, nx, L, (0, zor x y) :: r, μ)
  | .ixor => zi2 st fun x y r => some (none, nx, L, (0, zxor x y) :: r, μ)
  | .ishl => zi2 st fun x y r => some (none, nx, L, (0, zshl x y) :: r, μ)
  | .ishr => zi2 st fun x y r => some (none, nx, L, (0, zshr x y) :: r, μ)
  | .ladd => zl2 st fun x y r => some (none, nx, L, (1, x + y) :: r, μ)
  | .lmul => zl2 st fun x y r => some (none, nx, L, (1, x * y) :: r, μ)
  | .ldiv => zl2 st fun x y r => some (some (0 ≤ x ∧ x < 9223372036854775808 ∧ 0 < y ∧ y < 9223372036854775808), nx, L, (1, x / y) :: r, μ)
  | .lrem => zl2 st fun x y r => some (some (0 ≤ x ∧ x < 9223372036854775808 ∧ 0 < y ∧ y < 9223372036854775808), nx, L, (1, x % y) :: r, μ)
  | .lcmp => zl2 st fun x y r => some (some ((-9223372036854775808 ≤ x ∧ x < 9223372036854775808) ∧ (-9223372036854775808 ≤ y ∧ y < 9223372036854775808)), nx, L, (0, zcmp x y) :: r, μ)
  | .i2l => zi1 st fun x r => some (some (zrng x), nx, L, (1, x) :: r, μ)
  | .i2b => zi1 st fun x r => some (some (-128 ≤ x ∧ x < 128), nx, L, (0, x) :: r, μ)
  | .dup => match st with
    | (0, x) :: r => some (none, nx, L, (0, x) :: (0, x) :: r, μ)
    | (t, x) :: r => zf t fun _ _ _ _ _ _ => some (none, nx, L, (t, x) :: (t, x) :: r, μ)
    | _ => none
  | .dup2 => match st with
    | (0, x) :: (t, p) :: r => zf t fun _ _ _ _ _ _ => some (none, nx, L, (0, x) :: (t, p) :: (0, x) :: (t, p) :: r, μ)
    | _ => none
  | .pop => zi1 st fun _ r => some (none, nx, L, r, μ)
  | .goto _ => match info with
    | [t] => some (none, t, L, st, μ)
    | _ => none
  | .getfield _ => match info with
    | [ci, k] => zr1 st fun t p r => zf t fun rg ct ln md o sl => cond (Nat.beq ct ci && Nat.blt ct 20) (match sl[k]? with
      | some (tg, m2, dl) => zK σ rg md o p fun oc key => match m2 with
        | 0 => cond (decide (dl = (k : Int))) (some (oc, nx, L, (tg, μ key dl) :: r, μ)) none
        | 1 => some (oc, nx, L, (tg, p + dl) :: r, μ)
        | 2 => some (oc, nx, L, (tg, dl) :: r, μ)
        | _ => some (oc, nx, L, (tg, p) :: r, μ)
      | none => none) none
    | _ => none
  | .putfield _ => match info with
    | [ci, k] => zr1 st fun tv x r1 => zr1 r1 fun t p r => zf t fun rg ct ln md o sl => cond (Nat.beq ct ci && Nat.blt ct 20 && zfit (xfty ci k) tv) (match sl[k]? with
      | some (tg, 0, dl) => cond (Nat.beq tg tv && decide (dl = (k : Int))) (zK σ rg md o p fun oc key => some (oc, nx, L, r, up μ key dl x)) none
      | _ => none) none
    | _ => none
  | .iaload => zi1 st fun i r1 => zr1 r1 fun t p r => zf t fun rg ct ln md o sl => cond (Nat.beq ct 20) (zK σ rg md o p fun oc key => zA oc (0 ≤ i ∧ i < ln) fun oc => some (oc, nx, L, (0, μ key i) :: r, μ)) none
  | .baload => zi1 st fun i r1 => zr1 r1 fun t p r => zf t fun rg ct ln md o sl => cond (Nat.beq ct 21 || Nat.beq ct 22) (zK σ rg md o p fun oc key => zA oc (0 ≤ i ∧ i < ln) fun oc => some (oc, nx, L, (0, μ key i) :: r, μ)) none
  | .aaload => zi1 st fun i r1 => zr1 r1 fun t p r => zf t fun rg ct ln md o sl => cond (Nat.beq ct 23) (zK σ rg md o p fun oc _ => zA oc (0 ≤ i ∧ i < 6) fun oc => some (oc, nx, L, (30, p + 2 + i) :: r, μ)) (cond (Nat.blt 23 ct && Nat.blt ct 27) (match sl with
    | [(tg, _, _)] => zK σ rg md o p fun oc key => zA oc (0 ≤ i ∧ i < ln) fun oc => some (oc, nx, L, (tg, μ key i) :: r, μ)
    | _ => none) none)
  | .iastore => zi1 st fun x r1 => zi1 r1 fun i r2 => zr1 r2 fun t p r => zf t fun rg ct ln md o sl => cond (Nat.beq ct 20) (zK σ rg md o p fun oc key => zA oc (0 ≤ i ∧ i < ln) fun oc => some (oc, nx, L, r, up μ key i x)) none
  | .bastore => zi1 st fun x r1 => zi1 r1 fun i r2 => zr1 r2 fun t p r => zf t fun rg ct ln md o sl => cond (Nat.beq ct 22) (zK σ rg md o p fun oc key => zA oc ((0 ≤ i ∧ i < ln) ∧ 0 ≤ x ∧ x < 2) fun oc => some (oc, nx, L, r, up μ key i x))
      (cond (Nat.beq ct 21) (zK σ rg md o p fun oc key => zA oc ((0 ≤ i ∧ i < ln) ∧ -128 ≤ x ∧ x < 128) fun oc => some (oc, nx, L, r, up μ key i x)) none)
  | .aastore => zr1 st fun tv x r1 => zi1 r1 fun i r2 => zr1 r2 fun t p r => zf t fun rg ct ln md o sl => cond (Nat.beq tv 20 && Nat.beq t 117) (zK σ rg md o p fun oc key => zA oc ((0 ≤ i ∧ i < ln) ∧ Bk σ x) fun oc => some (oc, nx, L, r, up μ key i x)) none
  | .arraylength => zr1 st fun t p r => zf t fun rg ct ln md o sl => cond (Nat.blt 19 ct && !(Nat.beq ct 23)) (zK σ rg md o p fun oc key => some (oc, nx, L, (0, ln) :: r, μ)) none
  | .invokestatic _ => match info with
    | [99] => match d with
      | _ + 1 => zi1 st fun n r1 => zi1 r1 fun dp r2 => zr1 r2 fun tb pb r3 => zi1 r3 fun sp r4 => zr1 r4 fun ta pa r => zf ta fun rga cta lna mda oa sla => zf tb fun rgb ctb lnb mdb ob slb =>
        cond (Nat.beq cta 20 && Nat.beq ctb 20 && Nat.ble (zcat r) 8) (zK σ rga mda oa pa fun oca ka => zK σ rgb mdb ob pb fun ocb kb => zA oca (0 ≤ sp ∧ 0 ≤ dp ∧ 0 ≤ n ∧ sp + n ≤ lna ∧ dp + n ≤ lnb) fun oc1 => match ocb with
          | none => some (oc1, nx, L, r, zcp μ ka kb sp dp n)
          | some c => zA oc1 c fun oc => some (oc, nx, L, r, zcp μ ka kb sp dp n)) none
      | _ => none
    | _ => none
  | _ => none
