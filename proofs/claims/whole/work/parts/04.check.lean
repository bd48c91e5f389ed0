/-! What an instruction's numbers must be, looked at by program: each word by its place in the tables. -/
def xwI (ps : List Nat) (j : Nat) (w : Jvm.Cond) : Bool := match ps[j]? with
  | some i => decide (lw_tbl[i]? = some w)
  | none => false
def xhost : String := "RentedViews"
def xlinkI (ps : List Nat) (own : String) (idx : Nat) (y : MethodName) : Bool := xwI ps 0 (.methodLink own idx y) || xwI ps 0 (.methodLinkNest own idx y xhost)
/-- the callee: no handle's method, its parameters, its locals, its code among the words -/
def xcalI (m : xM) (na : Nat) (w : Bool) : Bool := decide (m.1.1.cls ≠ "java/lang/invoke/MethodHandle" ∧ m.1.1.cls ≠ "java/lang/invoke/VarHandle") && (decide ((parseMethodDescriptor m.1.1.desc).map (fun d => d.parameters.length) = some na) && (decide (m.1.2.2.1 ≤ 16) && (plainFor m.1.1 && w)))
def xcod (ps : List Nat) (j : Nat) (m : xM) : Bool := xwI ps j (.code m.1.1 m.1.2.1 m.1.2.2.1 m.1.2.2.2)
/-- a call by the receiver's class: for each class its words, seven to a class, from place j on -/
def xdisI (own : String) (idx na : Nat) (ps : List Nat) : List Nat → Nat → Bool
  | ci :: mi :: r, j => (match xcl[ci]?, lw_tbl[ps.getD 0 0]?, lw_tbl[ps.getD j 0]? with
    | some c, some (.methodLink o i x), some (.sameMethod xc ow nm ds) =>
      decide (o = own ∧ i = idx ∧ xc = x.cls ∧ nm = x.name ∧ ds = x.desc ∧ (xmt mi).1.1.desc = x.desc ∧ ow ≠ "java/lang/invoke/MethodHandle" ∧ ow ≠ "java/lang/invoke/VarHandle") &&
      (xwI ps (j + 1) (.instanceMethod ⟨ow, x.name, x.desc⟩) && ((match lw_tbl[ps.getD (j + 2) 0]? with
        | some (.code z _ _ _) => decide (z = ⟨ow, x.name, x.desc⟩)
        | _ => false) && (xwI ps (j + 3) (.selects c.1 x (xmt mi).1.1) && (xwI ps (j + 4) (.instanceMethod (xmt mi).1.1) && (xwI ps (j + 5) (.initialized (xmt mi).1.1.cls) && xcalI (xmt mi) na (xcod ps (j + 6) (xmt mi)))))))
    | _, _, _ => false) && xdisI own idx na ps r (j + 7)
  | [], _ => true
  | _, _ => false
/-- super.m(..): the method that the superclass has, or inherits -/
def xspI (own : String) (idx na : Nat) (m : xM) (ps : List Nat) : Bool := match lw_tbl[ps.getD 0 0]? with
  | some (.methodLink o i x) => decide (o = own ∧ i = idx ∧ x.name = m.1.1.name ∧ x.desc = m.1.1.desc ∧ x.name ≠ "<init>") && (xwI ps 1 (.sameMethod x.cls m.1.1.cls x.name x.desc) && (xwI ps 2 (.superclass own x.cls) && (xwI ps 3 (.instanceMethod m.1.1) && (xwI ps 4 (.initialized m.1.1.cls) && ((decide (x.cls = m.1.1.cls) || xwI ps 6 (.superclass x.cls m.1.1.cls)) && xcalI m na (xcod ps 5 m))))))
  | _ => false
def xcn (ci : Nat) : Option String := if ci = 13 then some "java/lang/String" else (xcl[ci]?).map (·.1)
/-- a call of the receiver's own class's method -/
def xvirI (own : String) (idx na ci mi : Nat) (ps : List Nat) : Bool := decide (xcn ci = some (xmt mi).1.1.cls) && (xwI ps 0 (.methodLink own idx (xmt mi).1.1) && (xwI ps 1 (.instanceMethod (xmt mi).1.1) && (xwI ps 2 (.selects (xmt mi).1.1.cls (xmt mi).1.1 (xmt mi).1.1) && (xwI ps 3 (.initialized (xmt mi).1.1.cls) && xcalI (xmt mi) na (xcod ps 4 (xmt mi))))))
def xlkI (pc : Nat) : List (Int × Int) → List Nat → Bool
  | (k, o) :: r, a :: t :: ts => decide (k = (a : Int)) && (decide (a < 2147483648) && (decide ((pc : Int) + o = (t : Int)) && xlkI pc r ts))
  | [], [] => true
  | _, _ => false
def xstrT : List String := ["", "shop", "view", "renter", "thing"]
def xchkI (own nm : String) (pc : Nat) (ins : Instr) (info ps : List Nat) : Bool := match ins with
  | .goto o => match info with
    | [t] => decide ((pc : Int) + o = (t : Int))
    | _ => false
  | .if_icmp _ o => match info with
    | [t] => decide ((pc : Int) + o = (t : Int))
    | _ => false
  | .ifCond _ o => match info with
    | [t] => decide ((pc : Int) + o = (t : Int))
    | _ => false
  | .ifnonnull o => match info with
    | [t] => decide ((pc : Int) + o = (t : Int))
    | _ => false
  | .tableswitch dt lo hi os => match info with
    | t :: ts => decide ((pc : Int) + dt = (t : Int)) && decide (os.toList.map (fun o => (pc : Int) + o) = ts.map Int.ofNat)
    | _ => false
  | .lookupswitch dt prs => match info with
    | t :: ts => decide ((pc : Int) + dt = (t : Int)) && (xlkI pc prs.toList ts && (prs.toList.zip (prs.toList.drop 1)).all (fun (a, next) => a.1 < next.1))
    | _ => false
  | .getfield idx => match info with
    | [ci, k] => if ci = 13 then (match k with
        | 0 => xwI ps 0 (.fieldLink own idx "java/lang/String" "value" "[B")
        | 1 => xwI ps 0 (.fieldLink own idx "java/lang/String" "coder" "B")
        | _ => false) else (match xcl[ci]? with
      | some c => Nat.blt k c.2.2 && xwI ps 0 (.fieldLink own idx (c.2.1 k).1 (c.2.1 k).2.1 (c.2.1 k).2.2.1)
      | none => false)
    | _ => false
  | .putfield idx => match info with
    | [ci, k] => (match xcl[ci]? with
      | some c => Nat.blt k c.2.2 && (xwI ps 0 (.fieldLink own idx (c.2.1 k).1 (c.2.1 k).2.1 (c.2.1 k).2.2.1) && (decide (parseFieldDescriptor (c.2.1 k).2.2.1 = some (xfty ci k)) && (!(c.2.1 k).2.2.2 || decide (nm = "<init>" ∧ (c.2.1 k).1 = own))))
      | none => false)
    | _ => false
  | .new idx => match info with
    | [ci] => (match xcl[ci]? with
      | some c => decide (xnf ci = c.2.2) && (xwI ps 0 (.classLink own idx c.1) && (xwI ps 1 (.instantiable c.1 c.2.2) && xwI ps 2 (.initialized c.1)))
      | none => false)
    | _ => false
  | .newarray a => match info with
    | [t] => decide (19 < t ∧ t < 23) && (decide (newarray.typeOf a = xaty t) && xwI ps 0 (.arrayClass (xaty t)))
    | _ => false
  | .anewarray idx => match info with
    | [t] => decide (22 < t ∧ t < 26) && (match xaty t with
      | .object c => xwI ps 0 (.classLink own idx c) && xwI ps 1 (.arrayOver (.object c))
      | _ => false)
    | _ => false
  | .multianewarray idx dm => decide (dm = 2) && (xwI ps 0 (.classLink own idx "[[I") && (xwI ps 1 (.arrayOver (.array .int)) && xwI ps 2 (.arrayClass .int)))
  | .ldc idx => match info with
    | [0, v] => xwI ps 0 (.constant own idx (Int32.ofNat v))
    | [1, j] => decide (j < 5) && xwI ps 0 (.stringRef own idx (xstrT.getD j ""))
    | _ => false
  | .ldc_w idx => match info with
    | [0, v] => xwI ps 0 (.constant own idx (Int32.ofNat v))
    | _ => false
  | .ldc2_w idx => match info with
    | [v] => xwI ps 0 (.constantLong own idx (Int64.ofNat v))
    | _ => false
  | .getstatic idx => match info with
    | [0] => xwI ps 0 (.fieldLink own idx "java/lang/String" "COMPACT_STRINGS" "Z")
    | [1] => xwI ps 0 (.fieldLink own idx "jdk/internal/util/Preconditions" "SIOOBE_FORMATTER" "Ljava/util/function/BiFunction;")
    | _ => false
  | .invokestatic idx => match info with
    | [99] => xwI ps 0 (.methodLink own idx arraycopyName) && (xwI ps 1 (.native arraycopyName) && (xwI ps 2 (.static arraycopyName) && xwI ps 3 (.initialized "java/lang/System")))
    | [na, mi] => xlinkI ps own idx (xmt mi).1.1 && (xwI ps 1 (.static (xmt mi).1.1) && (xwI ps 2 (.initialized (xmt mi).1.1.cls) && xcalI (xmt mi) na (xcod ps 3 (xmt mi))))
    | _ => false
  | .invokespecial idx => match info with
    | [98] => xwI ps 0 (.methodLink own idx Lib.objectInit) && (xwI ps 1 (.instanceMethod Lib.objectInit) && xwI ps 2 (.code Lib.objectInit ⟨#[0xb1]⟩ 1 none))
    | [na, mi] => (if (xmt mi).1.1.name = "<init>" then xlinkI ps own idx (xmt mi).1.1 && (xwI ps 1 (.instanceMethod (xmt mi).1.1) && (xwI ps 2 (.initialized (xmt mi).1.1.cls) && xcalI (xmt mi) na (xcod ps 3 (xmt mi) && decide ((xmt mi).1.2.2.2 = none))))
      else xspI own idx na (xmt mi) ps)
    | _ => false
  | .invokevirtual idx => match info with
    | [na, ci, mi] => xvirI own idx na ci mi ps || xdisI own idx na ps [ci, mi] 1
    | na :: tb => xdisI own idx na ps tb 1
    | _ => false
  | _ => true
/-- how long an instruction is, where the kit's rows ask it -/
def xlenI (ins : Instr) (n : Nat) : Bool := match ins with
  | .tableswitch .. => true
  | .lookupswitch .. => true
  | .bipush _ => Nat.beq n 2
  | .ldc _ => Nat.beq n 2
  | .iload _ => Nat.beq n 2
  | .lload _ => Nat.beq n 2
  | .aload _ => Nat.beq n 2
  | .istore _ => Nat.beq n 2
  | .lstore _ => Nat.beq n 2
  | .astore _ => Nat.beq n 2
  | .newarray _ => Nat.beq n 2
  | .sipush _ => Nat.beq n 3
  | .ldc_w _ => Nat.beq n 3
  | .ldc2_w _ => Nat.beq n 3
  | .iinc .. => Nat.beq n 3
  | .goto _ => Nat.beq n 3
  | .if_icmp .. => Nat.beq n 3
  | .ifCond .. => Nat.beq n 3
  | .ifnonnull _ => Nat.beq n 3
  | .getfield _ => Nat.beq n 3
  | .putfield _ => Nat.beq n 3
  | .getstatic _ => Nat.beq n 3
  | .new _ => Nat.beq n 3
  | .anewarray _ => Nat.beq n 3
  | .invokestatic _ => Nat.beq n 3
  | .invokespecial _ => Nat.beq n 3
  | .invokevirtual _ => Nat.beq n 3
  | .multianewarray .. => Nat.beq n 4
  | _ => Nat.beq n 1
def xchk (m : xM) (q : xI) (ps : List Nat) : Bool := decide (decode m.1.2.1 q.1 = .ok (q.2.1, q.2.2.1 - q.1)) && (Nat.blt q.1 q.2.2.1 && (xlenI q.2.1 (q.2.2.1 - q.1) && xchkI m.1.1.cls m.1.1.name q.1 q.2.1 q.2.2.2 ps))
def xall (m : xM) : List xI → List (List Nat) → Bool
  | q :: r, p :: t => xchk m q p && xall m r t
  | [], [] => true
  | _, _ => false
theorem xall_mem {m : xM} : ∀ {l : List xI} {ps : List (List Nat)}, xall m l ps = true → ∀ q ∈ l, ∃ p, xchk m q p = true
  | [], _, _, q, h => absurd h List.not_mem_nil
  | a :: r, [], h, _, _ => by simp [xall] at h
  | a :: r, p :: t, h, q, hq => by
    simp only [xall, Bool.and_eq_true] at h
    rcases List.mem_cons.mp hq with e | e
    · exact ⟨p, by rw [e]; exact h.1⟩
    · exact xall_mem h.2 q e
