/-! Each simple instruction of the small machine is the machine's. -/
def XC (p : Program) (s : State) (m : MethodId) (meth : Method) (c : Code) (B0 : Heap) (ev : Nat → Value) (ext : List xC) (D : va_G) (cA : Nat → ClassId) (mi : Nat) : Prop :=
  p.tables.exec = Jvm.exec ∧ c.code = (xmt mi).1.2.1 ∧ c.maxLocals = xmax mi ∧ s.vm.findClass (xmt mi).1.1.cls = some m.cls ∧ ((xmt mi).1.1.name = "<init>" → meth.name = "<init>") ∧ XF B0 ev ext D cA s ∧ B0.size ≤ s.heap.size ∧ (∀ q : Nat, q < B0.size → s.heap[q]? = B0[q]?) ∧ xevs ev
def xG (p : Program) (l : Launch) (e : Env) (R : Room) (s : State) (m : MethodId) (args : Array Value) (below : List Frame) (meth : Method) (c : Code) (B0 : Heap) (ev : Nat → Value) (D : va_G) (cA : Nat → ClassId) (n0 : Nat) (Q : State → Prop) (pc : Nat) (L st : List Value) (h : xH) : Prop :=
  ∀ (H : Heap) (locs : List Loc) (ls : Array Slot), xR D cA B0 ev h H → (∀ q ∈ locs, B0.size ≤ q.base) → xLs B0.size ev L ls → ls.size = c.maxLocals → W p l e R s m args below meth c H locs (h.length - n0) (1100 * (h.length - n0)) Q (F0 m pc ls (st.map (xv B0.size ev)))
theorem xchk_any {m : xM} {pc nx : Nat} {ins : Instr} {info ps : List Nat} (h : xchk m (pc, ins, nx, info) ps = true) : decode m.1.2.1 pc = .ok (ins, nx - pc) ∧ pc < nx ∧ xchkI m.1.1.cls m.1.1.name pc ins info ps = true := by
  unfold xchk at h
  rw [Bool.and_eq_true, Bool.and_eq_true, Bool.and_eq_true] at h
  exact ⟨of_decide_eq_true h.1, Nat.blt_eq.mp h.2.1, h.2.2.2⟩
theorem xchk_len {m : xM} {pc nx : Nat} {ins : Instr} {info ps : List Nat} (k : Nat) (h : xchk m (pc, ins, nx, info) ps = true) (hl : ∀ n, xlenI ins n = true → n = k) : decode m.1.2.1 pc = .ok (ins, k) ∧ nx = pc + k ∧ xchkI m.1.1.cls m.1.1.name pc ins info ps = true := by
  obtain ⟨h1, h2, h3⟩ := xchk_any h
  unfold xchk at h
  rw [Bool.and_eq_true, Bool.and_eq_true, Bool.and_eq_true] at h
  have e := hl _ h.2.2.1
  have e' : nx - pc = k := e
  rw [e'] at h1
  exact ⟨h1, by omega, h3⟩
theorem xstr0 (ps : List Nat) (own : String) (idx : Nat) : ¬ xwI ps 0 (.stringRef own idx (xstrT.getD 0 "")) = true := by
  intro h
  have hm := xwI_mem h
  have hall : lw_tbl.all (fun w => match w with | .stringRef _ _ t => !(t == "") | _ => true) = true := by decide +kernel
  have := List.all_eq_true.mp hall _ hm
  simp [xstrT] at this
theorem xlk_of {pc t : Nat} {dt : Int} (hdt : (pc : Int) + dt = (t : Int)) : ∀ {prs : List (Int × Int)} {ts : List Nat}, xlkI pc prs ts = true → ∀ x : Int32, (pc : Int) + Op.lookupswitch.offset prs dt x.toInt = ((xlook ts x t : Nat) : Int)
  | [], [], _, x => by
    rw [show Op.lookupswitch.offset [] dt x.toInt = dt from rfl]
    exact hdt
  | [], _ :: _, h, _ => by cases h
  | (k, o) :: r, [], h, _ => by cases h
  | (k, o) :: r, [_], h, _ => by cases h
  | (k, o) :: r, a :: b :: ts, h, x => by
    unfold xlkI at h
    rw [Bool.and_eq_true, Bool.and_eq_true, Bool.and_eq_true] at h
    have h1 : k = (a : Int) := of_decide_eq_true h.1
    have h2 : a < 2147483648 := of_decide_eq_true h.2.1
    have h3 : (pc : Int) + o = (b : Int) := of_decide_eq_true h.2.2.1
    have hk : (Int32.ofNat a).toInt = (a : Int) := nI_toInt (by omega)
    rw [Op.lookupswitch.offset_cons]
    by_cases hxa : x = Int32.ofNat a
    · rw [if_pos (by rw [h1, hxa, hk])]
      unfold xlook
      rw [if_pos hxa]
      exact h3
    · rw [if_neg (fun q => hxa (Int32.toInt_inj.mp (by rw [hk, ← h1]; exact q.symm)))]
      unfold xlook
      rw [if_neg hxa]
      exact xlk_of hdt h.2.2.2 x
theorem xs_iconst {ext : List xC} {d nx : Nat} {info : List Nat} {L st : List Value} {h : xH} {n : Int} : xs ext d (.iconst n) nx info L st h = (some (nx, L, .int (Int32.ofInt n) :: st, h)) := rfl
theorem xs_bipush {ext : List xC} {d nx : Nat} {info : List Nat} {L st : List Value} {h : xH} {n : Int} : xs ext d (.bipush n) nx info L st h = (some (nx, L, .int (Int8.ofInt n).toInt32 :: st, h)) := rfl
theorem xs_sipush {ext : List xC} {d nx : Nat} {info : List Nat} {L st : List Value} {h : xH} {n : Int} : xs ext d (.sipush n) nx info L st h = (some (nx, L, .int (Int16.ofInt n).toInt32 :: st, h)) := rfl
theorem xs_lconst {ext : List xC} {d nx : Nat} {info : List Nat} {L st : List Value} {h : xH} {n : Fin 2} : xs ext d (.lconst n) nx info L st h = (some (nx, L, .long (Int64.ofNat n.val) :: st, h)) := rfl
theorem xs_ldc {ext : List xC} {d nx : Nat} {info : List Nat} {L st : List Value} {h : xH} {idx : Nat} : xs ext d (.ldc idx) nx info L st h = (match info with
    | [0, v] => some (nx, L, .int (Int32.ofNat v) :: st, h)
    | [1, j] => some (nx, L, .retAddr j :: st, h)
    | _ => none) := rfl
theorem xs_ldc_w {ext : List xC} {d nx : Nat} {info : List Nat} {L st : List Value} {h : xH} {idx : Nat} : xs ext d (.ldc_w idx) nx info L st h = (match info with
    | [0, v] => some (nx, L, .int (Int32.ofNat v) :: st, h)
    | _ => none) := rfl
theorem xs_ldc2_w {ext : List xC} {d nx : Nat} {info : List Nat} {L st : List Value} {h : xH} {idx : Nat} : xs ext d (.ldc2_w idx) nx info L st h = (match info with
    | [v] => some (nx, L, .long (Int64.ofNat v) :: st, h)
    | _ => none) := rfl
theorem xs_iload_n {ext : List xC} {d nx : Nat} {info : List Nat} {L st : List Value} {h : xH} {k : Fin 4} : xs ext d (.iload_n k) nx info L st h = (match L[k.val]? with
    | some (.int v) => some (nx, L, .int v :: st, h)
    | _ => none) := rfl
theorem xs_iload {ext : List xC} {d nx : Nat} {info : List Nat} {L st : List Value} {h : xH} {k : Nat} : xs ext d (.iload k) nx info L st h = (match L[k]? with
    | some (.int v) => some (nx, L, .int v :: st, h)
    | _ => none) := rfl
theorem xs_lload_n {ext : List xC} {d nx : Nat} {info : List Nat} {L st : List Value} {h : xH} {k : Fin 4} : xs ext d (.lload_n k) nx info L st h = (match L[k.val]? with
    | some (.long v) => some (nx, L, .long v :: st, h)
    | _ => none) := rfl
theorem xs_lload {ext : List xC} {d nx : Nat} {info : List Nat} {L st : List Value} {h : xH} {k : Nat} : xs ext d (.lload k) nx info L st h = (match L[k]? with
    | some (.long v) => some (nx, L, .long v :: st, h)
    | _ => none) := rfl
theorem xs_aload_n {ext : List xC} {d nx : Nat} {info : List Nat} {L st : List Value} {h : xH} {k : Fin 4} : xs ext d (.aload_n k) nx info L st h = (match L[k.val]? with
    | some (.ref a) => some (nx, L, .ref a :: st, h)
    | some (.retAddr j) => some (nx, L, .retAddr j :: st, h)
    | _ => none) := rfl
theorem xs_aload {ext : List xC} {d nx : Nat} {info : List Nat} {L st : List Value} {h : xH} {k : Nat} : xs ext d (.aload k) nx info L st h = (match L[k]? with
    | some (.ref a) => some (nx, L, .ref a :: st, h)
    | _ => none) := rfl
theorem xs_istore_n {ext : List xC} {d nx : Nat} {info : List Nat} {L st : List Value} {h : xH} {k : Fin 4} : xs ext d (.istore_n k) nx info L st h = (match st with
    | .int v :: r => (xst1 L k.val (.int v)).bind fun L' => some (nx, L', r, h)
    | _ => none) := rfl
theorem xs_istore {ext : List xC} {d nx : Nat} {info : List Nat} {L st : List Value} {h : xH} {k : Nat} : xs ext d (.istore k) nx info L st h = (match st with
    | .int v :: r => (xst1 L k (.int v)).bind fun L' => some (nx, L', r, h)
    | _ => none) := rfl
theorem xs_lstore_n {ext : List xC} {d nx : Nat} {info : List Nat} {L st : List Value} {h : xH} {k : Fin 4} : xs ext d (.lstore_n k) nx info L st h = (match st with
    | .long v :: r => (xst2 L k.val (.long v)).bind fun L' => some (nx, L', r, h)
    | _ => none) := rfl
theorem xs_lstore {ext : List xC} {d nx : Nat} {info : List Nat} {L st : List Value} {h : xH} {k : Nat} : xs ext d (.lstore k) nx info L st h = (match st with
    | .long v :: r => (xst2 L k (.long v)).bind fun L' => some (nx, L', r, h)
    | _ => none) := rfl
theorem xs_astore_n {ext : List xC} {d nx : Nat} {info : List Nat} {L st : List Value} {h : xH} {k : Fin 4} : xs ext d (.astore_n k) nx info L st h = (match st with
    | .ref a :: r => (xst1 L k.val (.ref a)).bind fun L' => some (nx, L', r, h)
    | _ => none) := rfl
theorem xs_astore {ext : List xC} {d nx : Nat} {info : List Nat} {L st : List Value} {h : xH} {k : Nat} : xs ext d (.astore k) nx info L st h = (match st with
    | .ref a :: r => (xst1 L k (.ref a)).bind fun L' => some (nx, L', r, h)
    | _ => none) := rfl
theorem xs_iinc {ext : List xC} {d nx : Nat} {info : List Nat} {L st : List Value} {h : xH} {k : Nat} {n : Int} : xs ext d (.iinc k n) nx info L st h = (match L[k]? with
    | some (.int v) => (xst1 L k (.int (v + Int32.ofInt n))).bind fun L' => some (nx, L', st, h)
    | _ => none) := rfl
theorem xs_iadd {ext : List xC} {d nx : Nat} {info : List Nat} {L st : List Value} {h : xH}  : xs ext d .iadd nx info L st h = (match st with
    | .int y :: .int x :: r => some (nx, L, .int (x + y) :: r, h)
    | _ => none) := rfl
theorem xs_isub {ext : List xC} {d nx : Nat} {info : List Nat} {L st : List Value} {h : xH}  : xs ext d .isub nx info L st h = (match st with
    | .int y :: .int x :: r => some (nx, L, .int (x - y) :: r, h)
    | _ => none) := rfl
theorem xs_imul {ext : List xC} {d nx : Nat} {info : List Nat} {L st : List Value} {h : xH}  : xs ext d .imul nx info L st h = (match st with
    | .int y :: .int x :: r => some (nx, L, .int (x * y) :: r, h)
    | _ => none) := rfl
theorem xs_idiv {ext : List xC} {d nx : Nat} {info : List Nat} {L st : List Value} {h : xH}  : xs ext d .idiv nx info L st h = (match st with
    | .int y :: .int x :: r => if y = 0 then none else some (nx, L, .int (x / y) :: r, h)
    | _ => none) := rfl
theorem xs_irem {ext : List xC} {d nx : Nat} {info : List Nat} {L st : List Value} {h : xH}  : xs ext d .irem nx info L st h = (match st with
    | .int y :: .int x :: r => if y = 0 then none else some (nx, L, .int (x - x / y * y) :: r, h)
    | _ => none) := rfl
theorem xs_iand {ext : List xC} {d nx : Nat} {info : List Nat} {L st : List Value} {h : xH}  : xs ext d .iand nx info L st h = (match st with
    | .int y :: .int x :: r => some (nx, L, .int (x &&& y) :: r, h)
    | _ => none) := rfl
theorem xs_ior {ext : List xC} {d nx : Nat} {info : List Nat} {L st : List Value} {h : xH}  : xs ext d .ior nx info L st h = (match st with
    | .int y :: .int x :: r => some (nx, L, .int (x ||| y) :: r, h)
    | _ => none) := rfl
theorem xs_ixor {ext : List xC} {d nx : Nat} {info : List Nat} {L st : List Value} {h : xH}  : xs ext d .ixor nx info L st h = (match st with
    | .int y :: .int x :: r => some (nx, L, .int (x ^^^ y) :: r, h)
    | _ => none) := rfl
theorem xs_ishl {ext : List xC} {d nx : Nat} {info : List Nat} {L st : List Value} {h : xH}  : xs ext d .ishl nx info L st h = (match st with
    | .int y :: .int x :: r => some (nx, L, .int (x <<< (y &&& 31)) :: r, h)
    | _ => none) := rfl
theorem xs_ishr {ext : List xC} {d nx : Nat} {info : List Nat} {L st : List Value} {h : xH}  : xs ext d .ishr nx info L st h = (match st with
    | .int y :: .int x :: r => some (nx, L, .int (x >>> (y &&& 31)) :: r, h)
    | _ => none) := rfl
theorem xs_ladd {ext : List xC} {d nx : Nat} {info : List Nat} {L st : List Value} {h : xH}  : xs ext d .ladd nx info L st h = (match st with
    | .long y :: .long x :: r => some (nx, L, .long (x + y) :: r, h)
    | _ => none) := rfl
theorem xs_lmul {ext : List xC} {d nx : Nat} {info : List Nat} {L st : List Value} {h : xH}  : xs ext d .lmul nx info L st h = (match st with
    | .long y :: .long x :: r => some (nx, L, .long (x * y) :: r, h)
    | _ => none) := rfl
theorem xs_ldiv {ext : List xC} {d nx : Nat} {info : List Nat} {L st : List Value} {h : xH}  : xs ext d .ldiv nx info L st h = (match st with
    | .long y :: .long x :: r => if y = 0 then none else some (nx, L, .long (x / y) :: r, h)
    | _ => none) := rfl
theorem xs_lrem {ext : List xC} {d nx : Nat} {info : List Nat} {L st : List Value} {h : xH}  : xs ext d .lrem nx info L st h = (match st with
    | .long y :: .long x :: r => if y = 0 then none else some (nx, L, .long (x - x / y * y) :: r, h)
    | _ => none) := rfl
theorem xs_lcmp {ext : List xC} {d nx : Nat} {info : List Nat} {L st : List Value} {h : xH}  : xs ext d .lcmp nx info L st h = (match st with
    | .long y :: .long x :: r => some (nx, L, .int (lg_cmp x y) :: r, h)
    | _ => none) := rfl
theorem xs_i2l {ext : List xC} {d nx : Nat} {info : List Nat} {L st : List Value} {h : xH}  : xs ext d .i2l nx info L st h = (match st with
    | .int x :: r => some (nx, L, .long x.toInt64 :: r, h)
    | _ => none) := rfl
theorem xs_i2b {ext : List xC} {d nx : Nat} {info : List Nat} {L st : List Value} {h : xH}  : xs ext d .i2b nx info L st h = (match st with
    | .int x :: r => some (nx, L, .int x.toInt8.toInt32 :: r, h)
    | _ => none) := rfl
theorem xs_i2c {ext : List xC} {d nx : Nat} {info : List Nat} {L st : List Value} {h : xH}  : xs ext d .i2c nx info L st h = (match st with
    | .int x :: r => some (nx, L, .int (x.toUInt32 % 65536).toInt32 :: r, h)
    | _ => none) := rfl
theorem xs_dup {ext : List xC} {d nx : Nat} {info : List Nat} {L st : List Value} {h : xH}  : xs ext d .dup nx info L st h = (match st with
    | .int x :: r => some (nx, L, .int x :: .int x :: r, h)
    | .ref a :: r => some (nx, L, .ref a :: .ref a :: r, h)
    | _ => none) := rfl
theorem xs_dup2 {ext : List xC} {d nx : Nat} {info : List Nat} {L st : List Value} {h : xH}  : xs ext d .dup2 nx info L st h = (match st with
    | .int x :: .ref a :: r => some (nx, L, .int x :: .ref a :: .int x :: .ref a :: r, h)
    | _ => none) := rfl
theorem xs_pop {ext : List xC} {d nx : Nat} {info : List Nat} {L st : List Value} {h : xH}  : xs ext d .pop nx info L st h = (match st with
    | .int _ :: r => some (nx, L, r, h)
    | _ => none) := rfl
theorem xs_goto {ext : List xC} {d nx : Nat} {info : List Nat} {L st : List Value} {h : xH} {o : Int} : xs ext d (.goto o) nx info L st h = (match info with
    | [t] => some (t, L, st, h)
    | _ => none) := rfl
theorem xs_if_icmp {ext : List xC} {d nx : Nat} {info : List Nat} {L st : List Value} {h : xH} {cd : Jvm.ClassFile.Cond} {o : Int} : xs ext d (.if_icmp cd o) nx info L st h = (match info, st with
    | [t], .int y :: .int x :: r => some (cond (xcmp cd x y) t nx, L, r, h)
    | _, _ => none) := rfl
theorem xs_ifCond {ext : List xC} {d nx : Nat} {info : List Nat} {L st : List Value} {h : xH} {cd : Jvm.ClassFile.Cond} {o : Int} : xs ext d (.ifCond cd o) nx info L st h = (match info, st with
    | [t], .int x :: r => some (cond (xcmp cd x 0) t nx, L, r, h)
    | _, _ => none) := rfl
theorem xs_ifnonnull {ext : List xC} {d nx : Nat} {info : List Nat} {L st : List Value} {h : xH} {o : Int} : xs ext d (.ifnonnull o) nx info L st h = (match info, st with
    | [t], .ref _ :: r => some (t, L, r, h)
    | [_], .null :: r => some (nx, L, r, h)
    | _, _ => none) := rfl
theorem xs_tableswitch {ext : List xC} {d nx : Nat} {info : List Nat} {L st : List Value} {h : xH} {dt lo hi : Int} {os : Array Int} : xs ext d (.tableswitch dt lo hi os) nx info L st h = (match info, st with
    | dt :: ts, .int x :: r => if x.toInt < lo ∨ hi < x.toInt then some (dt, L, r, h) else (ts[(x.toInt - lo).toNat]?).bind fun t => some (t, L, r, h)
    | _, _ => none) := rfl
theorem xs_lookupswitch {ext : List xC} {d nx : Nat} {info : List Nat} {L st : List Value} {h : xH} {dt : Int} {prs : Array (Int × Int)} : xs ext d (.lookupswitch dt prs) nx info L st h = (match info, st with
    | dt :: ts, .int x :: r => some (xlook ts x dt, L, r, h)
    | _, _ => none) := rfl
theorem xs_getfield {ext : List xC} {d nx : Nat} {info : List Nat} {L st : List Value} {h : xH} {idx : Nat} : xs ext d (.getfield idx) nx info L st h = (match info, st with
    | [ci, k], v :: r => (xget ext h v).bind fun c => cond (Nat.beq c.1 ci) ((c.2[k]?).bind fun w => some (nx, L, w :: r, h)) none
    | _, _ => none) := rfl
theorem xs_putfield {ext : List xC} {d nx : Nat} {info : List Nat} {L st : List Value} {h : xH} {idx : Nat} : xs ext d (.putfield idx) nx info L st h = (match info, st with
    | [ci, k], v :: .ref a :: r => (h[a]?).bind fun c => cond (Nat.beq c.1 ci && (Nat.blt k c.2.length && xfit (xfty ci k) v)) (some (nx, L, r, h.set a (c.1, c.2.set k v))) none
    | _, _ => none) := rfl
theorem xs_iaload {ext : List xC} {d nx : Nat} {info : List Nat} {L st : List Value} {h : xH}  : xs ext d .iaload nx info L st h = (match st with
    | .int i :: v :: r => (xget ext h v).bind fun c => cond (Nat.beq c.1 20) ((xix i c.2).bind fun w => some (nx, L, w :: r, h)) none
    | _ => none) := rfl
theorem xs_baload {ext : List xC} {d nx : Nat} {info : List Nat} {L st : List Value} {h : xH}  : xs ext d .baload nx info L st h = (match st with
    | .int i :: v :: r => (xget ext h v).bind fun c => cond (Nat.beq c.1 21 || Nat.beq c.1 22) ((xix i c.2).bind fun w => some (nx, L, w :: r, h)) none
    | _ => none) := rfl
theorem xs_aaload {ext : List xC} {d nx : Nat} {info : List Nat} {L st : List Value} {h : xH}  : xs ext d .aaload nx info L st h = (match st with
    | .int i :: .ref a :: r => (h[a]?).bind fun c => cond (Nat.blt 22 c.1 && Nat.blt c.1 27) ((xix i c.2).bind fun w => some (nx, L, w :: r, h)) none
    | _ => none) := rfl
theorem xs_iastore {ext : List xC} {d nx : Nat} {info : List Nat} {L st : List Value} {h : xH}  : xs ext d .iastore nx info L st h = (match st with
    | .int x :: .int i :: .ref a :: r => (h[a]?).bind fun c => cond (Nat.beq c.1 20) ((xix i c.2).bind fun _ => some (nx, L, r, h.set a (c.1, c.2.set i.toNatClampNeg (.int x)))) none
    | _ => none) := rfl
theorem xs_bastore {ext : List xC} {d nx : Nat} {info : List Nat} {L st : List Value} {h : xH}  : xs ext d .bastore nx info L st h = (match st with
    | .int x :: .int i :: .ref a :: r => (h[a]?).bind fun c => cond ((Nat.beq c.1 21 || Nat.beq c.1 22) && xfit (xaty c.1) (.int x)) ((xix i c.2).bind fun _ => some (nx, L, r, h.set a (c.1, c.2.set i.toNatClampNeg (.int x)))) none
    | _ => none) := rfl
theorem xs_aastore {ext : List xC} {d nx : Nat} {info : List Nat} {L st : List Value} {h : xH}  : xs ext d .aastore nx info L st h = (match st with
    | .ref v :: .int i :: .ref a :: r => (h[a]?).bind fun c => (h[v]?).bind fun cv => cond (xasg c.1 cv.1) ((xix i c.2).bind fun _ => some (nx, L, r, h.set a (c.1, c.2.set i.toNatClampNeg (.ref v)))) none
    | _ => none) := rfl
theorem xs_arraylength {ext : List xC} {d nx : Nat} {info : List Nat} {L st : List Value} {h : xH}  : xs ext d .arraylength nx info L st h = (match st with
    | v :: r => (xget ext h v).bind fun c => cond (Nat.blt 19 c.1) (some (nx, L, .int (Int32.ofNat c.2.length) :: r, h)) none
    | _ => none) := rfl
theorem xs_new {ext : List xC} {d nx : Nat} {info : List Nat} {L st : List Value} {h : xH} {idx : Nat} : xs ext d (.new idx) nx info L st h = (match info with
    | [ci] => (xadd h (ci, (List.range (xnf ci)).map fun k => defaultValue (xfty ci k))).bind fun h' => some (nx, L, .ref h.length :: st, h')
    | _ => none) := rfl
theorem xs_newarray {ext : List xC} {d nx : Nat} {info : List Nat} {L st : List Value} {h : xH} {at9 : ArrayType} : xs ext d (.newarray at9) nx info L st h = (match info, st with
    | [t], .int n :: r => if n < 0 then none else (xadd h (t, List.replicate n.toNatClampNeg (.int 0))).bind fun h' => some (nx, L, .ref h.length :: r, h')
    | _, _ => none) := rfl
theorem xs_anewarray {ext : List xC} {d nx : Nat} {info : List Nat} {L st : List Value} {h : xH} {idx : Nat} : xs ext d (.anewarray idx) nx info L st h = (match info, st with
    | [t], .int n :: r => if n < 0 then none else (xadd h (t, List.replicate n.toNatClampNeg .null)).bind fun h' => some (nx, L, .ref h.length :: r, h')
    | _, _ => none) := rfl
theorem xs_multianewarray {ext : List xC} {d nx : Nat} {info : List Nat} {L st : List Value} {h : xH} {idx dm : Nat} : xs ext d (.multianewarray idx dm) nx info L st h = (match st with
    | .int k :: .int n :: r => if n < 0 ∨ k < 0 ∨ 1100 < n.toNatClampNeg ∨ 1100 < k.toNatClampNeg ∨ 5000 < h.length + n.toNatClampNeg then none else
      some (nx, L, .ref h.length :: r, h ++ ((26, (List.range n.toNatClampNeg).map fun i => .ref (h.length + 1 + i)) :: List.replicate n.toNatClampNeg (20, List.replicate k.toNatClampNeg (.int 0))))
    | _ => none) := rfl
theorem xs_getstatic {ext : List xC} {d nx : Nat} {info : List Nat} {L st : List Value} {h : xH} {idx : Nat} : xs ext d (.getstatic idx) nx info L st h = (match info with
    | [0] => some (nx, L, .int 1 :: st, h)
    | [1] => some (nx, L, .retAddr 9 :: st, h)
    | _ => none) := rfl
theorem xs_invokestatic {ext : List xC} {d nx : Nat} {info : List Nat} {L st : List Value} {h : xH} {idx : Nat} : xs ext d (.invokestatic idx) nx info L st h = (match info, st with
    | [99], .int n :: .int dp :: .ref b :: .int sp :: .ref a :: r => (h[a]?).bind fun ca => (h[b]?).bind fun cb =>
      if d = 0 ∨ 8 < xcat r ∨ sp < 0 ∨ dp < 0 ∨ n < 0 ∨ ca.1 ≠ 20 ∨ cb.1 ≠ 20 ∨ ca.2.length < sp.toNatClampNeg + n.toNatClampNeg ∨ cb.2.length < dp.toNatClampNeg + n.toNatClampNeg ∨ ca.2.all (xfit .int) = false then none
      else some (nx, L, r, h.set b (cb.1, xcopy ca.2 cb.2 sp.toNatClampNeg dp.toNatClampNeg n.toNatClampNeg))
    | _, _ => none) := rfl
theorem xs_invokespecial {ext : List xC} {d nx : Nat} {info : List Nat} {L st : List Value} {h : xH} {idx : Nat} : xs ext d (.invokespecial idx) nx info L st h = (match info, st with
    | [98], .ref _ :: r => if d = 0 ∨ 8 < xcat r then none else some (nx, L, r, h)
    | _, _ => none) := rfl
section XST
variable {p : Program} {l : Launch} {e : Env} {R : Room} {s : State} {m : MethodId} {args : Array Value} {below : List Frame} {meth : Method} {c : Code} {Q : State → Prop}
variable {B0 : Heap} {ev : Nat → Value} {ext : List xC} {D : va_G} {cA : Nat → ClassId} {mi n0 : Nat}
theorem xS_iconst {pc d nx : Nat} {info ps : List Nat} {L st : List Value} {h : xH} {w : Nat × List Value × List Value × xH} {n : Int} (C : XC p s m meth c B0 ev ext D cA mi) (hq : xchk (xmt mi) (pc, (.iconst n), nx, info) ps = true) (hs : xs ext d (.iconst n) nx info L st h = some w)
    (hr : w.2.2.2.length - n0 ≤ R.cells ∧ 1100 * (w.2.2.2.length - n0) ≤ R.slots) (hn : n0 ≤ h.length) (hdp : d ≤ R.frames ∧ 35 * d ≤ R.locals) (kk : xG p l e R s m args below meth c B0 ev D cA n0 Q w.1 w.2.1 w.2.2.1 w.2.2.2) : xG p l e R s m args below meth c B0 ev D cA n0 Q pc L st h := by
  obtain ⟨hx, hb, hml, hown, hnm, hF, hz0, hs0, hev⟩ := id C
  obtain ⟨hd, rfl, hck⟩ := xchk_len 1 hq (fun n9 h9 => Nat.eq_of_beq_eq_true h9)
  rw [xs_iconst] at hs
  obtain rfl := xyes hs
  intro H locs ls hR hlo hl hz9
  exact lv_iconst hx hb hd rfl (kk H locs ls hR hlo hl hz9)
theorem xS_bipush {pc d nx : Nat} {info ps : List Nat} {L st : List Value} {h : xH} {w : Nat × List Value × List Value × xH} {n : Int} (C : XC p s m meth c B0 ev ext D cA mi) (hq : xchk (xmt mi) (pc, (.bipush n), nx, info) ps = true) (hs : xs ext d (.bipush n) nx info L st h = some w)
    (hr : w.2.2.2.length - n0 ≤ R.cells ∧ 1100 * (w.2.2.2.length - n0) ≤ R.slots) (hn : n0 ≤ h.length) (hdp : d ≤ R.frames ∧ 35 * d ≤ R.locals) (kk : xG p l e R s m args below meth c B0 ev D cA n0 Q w.1 w.2.1 w.2.2.1 w.2.2.2) : xG p l e R s m args below meth c B0 ev D cA n0 Q pc L st h := by
  obtain ⟨hx, hb, hml, hown, hnm, hF, hz0, hs0, hev⟩ := id C
  obtain ⟨hd, rfl, hck⟩ := xchk_len 2 hq (fun n9 h9 => Nat.eq_of_beq_eq_true h9)
  rw [xs_bipush] at hs
  obtain rfl := xyes hs
  intro H locs ls hR hlo hl hz9
  exact lv_bipush hx hb hd rfl (kk H locs ls hR hlo hl hz9)
theorem xS_sipush {pc d nx : Nat} {info ps : List Nat} {L st : List Value} {h : xH} {w : Nat × List Value × List Value × xH} {n : Int} (C : XC p s m meth c B0 ev ext D cA mi) (hq : xchk (xmt mi) (pc, (.sipush n), nx, info) ps = true) (hs : xs ext d (.sipush n) nx info L st h = some w)
    (hr : w.2.2.2.length - n0 ≤ R.cells ∧ 1100 * (w.2.2.2.length - n0) ≤ R.slots) (hn : n0 ≤ h.length) (hdp : d ≤ R.frames ∧ 35 * d ≤ R.locals) (kk : xG p l e R s m args below meth c B0 ev D cA n0 Q w.1 w.2.1 w.2.2.1 w.2.2.2) : xG p l e R s m args below meth c B0 ev D cA n0 Q pc L st h := by
  obtain ⟨hx, hb, hml, hown, hnm, hF, hz0, hs0, hev⟩ := id C
  obtain ⟨hd, rfl, hck⟩ := xchk_len 3 hq (fun n9 h9 => Nat.eq_of_beq_eq_true h9)
  rw [xs_sipush] at hs
  obtain rfl := xyes hs
  intro H locs ls hR hlo hl hz9
  exact lv_sipush hx hb hd rfl (kk H locs ls hR hlo hl hz9)
theorem xS_lconst {pc d nx : Nat} {info ps : List Nat} {L st : List Value} {h : xH} {w : Nat × List Value × List Value × xH} {n : Fin 2} (C : XC p s m meth c B0 ev ext D cA mi) (hq : xchk (xmt mi) (pc, (.lconst n), nx, info) ps = true) (hs : xs ext d (.lconst n) nx info L st h = some w)
    (hr : w.2.2.2.length - n0 ≤ R.cells ∧ 1100 * (w.2.2.2.length - n0) ≤ R.slots) (hn : n0 ≤ h.length) (hdp : d ≤ R.frames ∧ 35 * d ≤ R.locals) (kk : xG p l e R s m args below meth c B0 ev D cA n0 Q w.1 w.2.1 w.2.2.1 w.2.2.2) : xG p l e R s m args below meth c B0 ev D cA n0 Q pc L st h := by
  obtain ⟨hx, hb, hml, hown, hnm, hF, hz0, hs0, hev⟩ := id C
  obtain ⟨hd, rfl, hck⟩ := xchk_len 1 hq (fun n9 h9 => Nat.eq_of_beq_eq_true h9)
  rw [xs_lconst] at hs
  obtain rfl := xyes hs
  intro H locs ls hR hlo hl hz9
  exact lv_lconst hx hb hd rfl (kk H locs ls hR hlo hl hz9)
theorem xS_ldc {pc d nx : Nat} {info ps : List Nat} {L st : List Value} {h : xH} {w : Nat × List Value × List Value × xH} {idx : Nat} (C : XC p s m meth c B0 ev ext D cA mi) (hq : xchk (xmt mi) (pc, (.ldc idx), nx, info) ps = true) (hs : xs ext d (.ldc idx) nx info L st h = some w)
    (hr : w.2.2.2.length - n0 ≤ R.cells ∧ 1100 * (w.2.2.2.length - n0) ≤ R.slots) (hn : n0 ≤ h.length) (hdp : d ≤ R.frames ∧ 35 * d ≤ R.locals) (kk : xG p l e R s m args below meth c B0 ev D cA n0 Q w.1 w.2.1 w.2.2.1 w.2.2.2) : xG p l e R s m args below meth c B0 ev D cA n0 Q pc L st h := by
  obtain ⟨hx, hb, hml, hown, hnm, hF, hz0, hs0, hev⟩ := id C
  obtain ⟨hd, rfl, hck⟩ := xchk_len 2 hq (fun n9 h9 => Nat.eq_of_beq_eq_true h9)
  rw [xs_ldc] at hs
  split at hs
  · obtain rfl := xyes hs
    intro H locs ls hR hlo hl hz9
    exact lv_ldc hx hb hown (hF.w (xwI_mem hck) rfl args) hd (kk H locs ls hR hlo hl hz9)
  · rename_i j
    obtain rfl := xyes hs
    have hck' : (decide (j < 5) && xwI ps 0 (.stringRef (xmt mi).1.1.cls idx (xstrT.getD j ""))) = true := hck
    rw [Bool.and_eq_true] at hck'
    have hj0 : 0 < j := by
      rcases Nat.eq_zero_or_pos j with e | e
      · subst e
        exact absurd hck'.2 (xstr0 _ _ _)
      · exact e
    obtain ⟨a, ha, hZ⟩ := hF.2.2.2.2.2.2 j hj0 (of_decide_eq_true hck'.1) _ _ (xwI_mem hck'.2)
    intro H locs ls hR hlo hl hz9
    refine va_ldcS hx hb hown hZ hd ?_
    have := kk H locs ls hR hlo hl hz9
    rw [show List.map (xv B0.size ev) (Value.retAddr j :: st) = Value.ref a :: st.map (xv B0.size ev) by rw [List.map_cons]; exact congrArg (· :: _) ha] at this
    exact this
  · exact xno hs
theorem xS_ldc_w {pc d nx : Nat} {info ps : List Nat} {L st : List Value} {h : xH} {w : Nat × List Value × List Value × xH} {idx : Nat} (C : XC p s m meth c B0 ev ext D cA mi) (hq : xchk (xmt mi) (pc, (.ldc_w idx), nx, info) ps = true) (hs : xs ext d (.ldc_w idx) nx info L st h = some w)
    (hr : w.2.2.2.length - n0 ≤ R.cells ∧ 1100 * (w.2.2.2.length - n0) ≤ R.slots) (hn : n0 ≤ h.length) (hdp : d ≤ R.frames ∧ 35 * d ≤ R.locals) (kk : xG p l e R s m args below meth c B0 ev D cA n0 Q w.1 w.2.1 w.2.2.1 w.2.2.2) : xG p l e R s m args below meth c B0 ev D cA n0 Q pc L st h := by
  obtain ⟨hx, hb, hml, hown, hnm, hF, hz0, hs0, hev⟩ := id C
  obtain ⟨hd, rfl, hck⟩ := xchk_len 3 hq (fun n9 h9 => Nat.eq_of_beq_eq_true h9)
  rw [xs_ldc_w] at hs
  split at hs
  · obtain rfl := xyes hs
    intro H locs ls hR hlo hl hz9
    exact lv_ldcw hx hb hown (hF.w (xwI_mem hck) rfl args) hd (kk H locs ls hR hlo hl hz9)
  · exact xno hs
theorem xS_ldc2_w {pc d nx : Nat} {info ps : List Nat} {L st : List Value} {h : xH} {w : Nat × List Value × List Value × xH} {idx : Nat} (C : XC p s m meth c B0 ev ext D cA mi) (hq : xchk (xmt mi) (pc, (.ldc2_w idx), nx, info) ps = true) (hs : xs ext d (.ldc2_w idx) nx info L st h = some w)
    (hr : w.2.2.2.length - n0 ≤ R.cells ∧ 1100 * (w.2.2.2.length - n0) ≤ R.slots) (hn : n0 ≤ h.length) (hdp : d ≤ R.frames ∧ 35 * d ≤ R.locals) (kk : xG p l e R s m args below meth c B0 ev D cA n0 Q w.1 w.2.1 w.2.2.1 w.2.2.2) : xG p l e R s m args below meth c B0 ev D cA n0 Q pc L st h := by
  obtain ⟨hx, hb, hml, hown, hnm, hF, hz0, hs0, hev⟩ := id C
  obtain ⟨hd, rfl, hck⟩ := xchk_len 3 hq (fun n9 h9 => Nat.eq_of_beq_eq_true h9)
  rw [xs_ldc2_w] at hs
  split at hs
  · obtain rfl := xyes hs
    intro H locs ls hR hlo hl hz9
    exact lv_ldc2 hx hb hown (hF.w (xwI_mem hck) rfl args) hd (kk H locs ls hR hlo hl hz9)
  · exact xno hs
theorem xS_iload_n {pc d nx : Nat} {info ps : List Nat} {L st : List Value} {h : xH} {w : Nat × List Value × List Value × xH} {k : Fin 4} (C : XC p s m meth c B0 ev ext D cA mi) (hq : xchk (xmt mi) (pc, (.iload_n k), nx, info) ps = true) (hs : xs ext d (.iload_n k) nx info L st h = some w)
    (hr : w.2.2.2.length - n0 ≤ R.cells ∧ 1100 * (w.2.2.2.length - n0) ≤ R.slots) (hn : n0 ≤ h.length) (hdp : d ≤ R.frames ∧ 35 * d ≤ R.locals) (kk : xG p l e R s m args below meth c B0 ev D cA n0 Q w.1 w.2.1 w.2.2.1 w.2.2.2) : xG p l e R s m args below meth c B0 ev D cA n0 Q pc L st h := by
  obtain ⟨hx, hb, hml, hown, hnm, hF, hz0, hs0, hev⟩ := id C
  obtain ⟨hd, rfl, hck⟩ := xchk_len 1 hq (fun n9 h9 => Nat.eq_of_beq_eq_true h9)
  rw [xs_iload_n] at hs
  split at hs
  · rename_i v hv
    obtain rfl := xyes hs
    intro H locs ls hR hlo hl hz9
    exact lv_iload_n hx hb hd rfl (hl.2.2 _ _ hv (by intro q; cases q)) (kk H locs ls hR hlo hl hz9)
  · exact xno hs
theorem xS_iload {pc d nx : Nat} {info ps : List Nat} {L st : List Value} {h : xH} {w : Nat × List Value × List Value × xH} {k : Nat} (C : XC p s m meth c B0 ev ext D cA mi) (hq : xchk (xmt mi) (pc, (.iload k), nx, info) ps = true) (hs : xs ext d (.iload k) nx info L st h = some w)
    (hr : w.2.2.2.length - n0 ≤ R.cells ∧ 1100 * (w.2.2.2.length - n0) ≤ R.slots) (hn : n0 ≤ h.length) (hdp : d ≤ R.frames ∧ 35 * d ≤ R.locals) (kk : xG p l e R s m args below meth c B0 ev D cA n0 Q w.1 w.2.1 w.2.2.1 w.2.2.2) : xG p l e R s m args below meth c B0 ev D cA n0 Q pc L st h := by
  obtain ⟨hx, hb, hml, hown, hnm, hF, hz0, hs0, hev⟩ := id C
  obtain ⟨hd, rfl, hck⟩ := xchk_len 2 hq (fun n9 h9 => Nat.eq_of_beq_eq_true h9)
  rw [xs_iload] at hs
  split at hs
  · rename_i v hv
    obtain rfl := xyes hs
    intro H locs ls hR hlo hl hz9
    exact lv_iload hx hb hd (hl.2.2 _ _ hv (by intro q; cases q)) (kk H locs ls hR hlo hl hz9)
  · exact xno hs
theorem xS_lload_n {pc d nx : Nat} {info ps : List Nat} {L st : List Value} {h : xH} {w : Nat × List Value × List Value × xH} {k : Fin 4} (C : XC p s m meth c B0 ev ext D cA mi) (hq : xchk (xmt mi) (pc, (.lload_n k), nx, info) ps = true) (hs : xs ext d (.lload_n k) nx info L st h = some w)
    (hr : w.2.2.2.length - n0 ≤ R.cells ∧ 1100 * (w.2.2.2.length - n0) ≤ R.slots) (hn : n0 ≤ h.length) (hdp : d ≤ R.frames ∧ 35 * d ≤ R.locals) (kk : xG p l e R s m args below meth c B0 ev D cA n0 Q w.1 w.2.1 w.2.2.1 w.2.2.2) : xG p l e R s m args below meth c B0 ev D cA n0 Q pc L st h := by
  obtain ⟨hx, hb, hml, hown, hnm, hF, hz0, hs0, hev⟩ := id C
  obtain ⟨hd, rfl, hck⟩ := xchk_len 1 hq (fun n9 h9 => Nat.eq_of_beq_eq_true h9)
  rw [xs_lload_n] at hs
  split at hs
  · rename_i v hv
    obtain rfl := xyes hs
    intro H locs ls hR hlo hl hz9
    exact lv_lload_n hx hb hd rfl (hl.2.2 _ _ hv (by intro q; cases q)) (kk H locs ls hR hlo hl hz9)
  · exact xno hs
theorem xS_lload {pc d nx : Nat} {info ps : List Nat} {L st : List Value} {h : xH} {w : Nat × List Value × List Value × xH} {k : Nat} (C : XC p s m meth c B0 ev ext D cA mi) (hq : xchk (xmt mi) (pc, (.lload k), nx, info) ps = true) (hs : xs ext d (.lload k) nx info L st h = some w)
    (hr : w.2.2.2.length - n0 ≤ R.cells ∧ 1100 * (w.2.2.2.length - n0) ≤ R.slots) (hn : n0 ≤ h.length) (hdp : d ≤ R.frames ∧ 35 * d ≤ R.locals) (kk : xG p l e R s m args below meth c B0 ev D cA n0 Q w.1 w.2.1 w.2.2.1 w.2.2.2) : xG p l e R s m args below meth c B0 ev D cA n0 Q pc L st h := by
  obtain ⟨hx, hb, hml, hown, hnm, hF, hz0, hs0, hev⟩ := id C
  obtain ⟨hd, rfl, hck⟩ := xchk_len 2 hq (fun n9 h9 => Nat.eq_of_beq_eq_true h9)
  rw [xs_lload] at hs
  split at hs
  · rename_i v hv
    obtain rfl := xyes hs
    intro H locs ls hR hlo hl hz9
    exact lv_lload hx hb hd (hl.2.2 _ _ hv (by intro q; cases q)) (kk H locs ls hR hlo hl hz9)
  · exact xno hs
theorem xS_aload {pc d nx : Nat} {info ps : List Nat} {L st : List Value} {h : xH} {w : Nat × List Value × List Value × xH} {k : Nat} (C : XC p s m meth c B0 ev ext D cA mi) (hq : xchk (xmt mi) (pc, (.aload k), nx, info) ps = true) (hs : xs ext d (.aload k) nx info L st h = some w)
    (hr : w.2.2.2.length - n0 ≤ R.cells ∧ 1100 * (w.2.2.2.length - n0) ≤ R.slots) (hn : n0 ≤ h.length) (hdp : d ≤ R.frames ∧ 35 * d ≤ R.locals) (kk : xG p l e R s m args below meth c B0 ev D cA n0 Q w.1 w.2.1 w.2.2.1 w.2.2.2) : xG p l e R s m args below meth c B0 ev D cA n0 Q pc L st h := by
  obtain ⟨hx, hb, hml, hown, hnm, hF, hz0, hs0, hev⟩ := id C
  obtain ⟨hd, rfl, hck⟩ := xchk_len 2 hq (fun n9 h9 => Nat.eq_of_beq_eq_true h9)
  rw [xs_aload] at hs
  split at hs
  · rename_i v hv
    obtain rfl := xyes hs
    intro H locs ls hR hlo hl hz9
    exact lv_aload hx hb hd (hl.2.2 _ _ hv (by intro q; cases q)) (kk H locs ls hR hlo hl hz9)
  · exact xno hs
theorem xS_aload_n {pc d nx : Nat} {info ps : List Nat} {L st : List Value} {h : xH} {w : Nat × List Value × List Value × xH} {k : Fin 4} (C : XC p s m meth c B0 ev ext D cA mi) (hq : xchk (xmt mi) (pc, (.aload_n k), nx, info) ps = true) (hs : xs ext d (.aload_n k) nx info L st h = some w)
    (hr : w.2.2.2.length - n0 ≤ R.cells ∧ 1100 * (w.2.2.2.length - n0) ≤ R.slots) (hn : n0 ≤ h.length) (hdp : d ≤ R.frames ∧ 35 * d ≤ R.locals) (kk : xG p l e R s m args below meth c B0 ev D cA n0 Q w.1 w.2.1 w.2.2.1 w.2.2.2) : xG p l e R s m args below meth c B0 ev D cA n0 Q pc L st h := by
  obtain ⟨hx, hb, hml, hown, hnm, hF, hz0, hs0, hev⟩ := id C
  obtain ⟨hd, rfl, hck⟩ := xchk_len 1 hq (fun n9 h9 => Nat.eq_of_beq_eq_true h9)
  rw [xs_aload_n] at hs
  split at hs
  · rename_i v hv
    obtain rfl := xyes hs
    intro H locs ls hR hlo hl hz9
    exact lv_aload_n hx hb hd rfl (hl.2.2 _ _ hv (by intro q; cases q)) (kk H locs ls hR hlo hl hz9)
  · rename_i j hv
    obtain rfl := xyes hs
    intro H locs ls hR hlo hl hz9
    have h1 := hl.2.2 _ _ hv (by intro q; cases q)
    have h2 := kk H locs ls hR hlo hl hz9
    have e1 : xv B0.size ev (.retAddr j) = ev j := rfl
    rw [List.map_cons, e1] at h2
    rw [e1] at h1
    rcases hev j with e | ⟨a, e⟩
    · rw [e] at h1 h2
      exact lv_aload_nN hx hb hd rfl h1 h2
    · rw [e] at h1 h2
      exact lv_aload_n hx hb hd rfl h1 h2
  · exact xno hs
theorem xS_istore_n {pc d nx : Nat} {info ps : List Nat} {L st : List Value} {h : xH} {w : Nat × List Value × List Value × xH} {k : Fin 4} (C : XC p s m meth c B0 ev ext D cA mi) (hq : xchk (xmt mi) (pc, (.istore_n k), nx, info) ps = true) (hs : xs ext d (.istore_n k) nx info L st h = some w)
    (hr : w.2.2.2.length - n0 ≤ R.cells ∧ 1100 * (w.2.2.2.length - n0) ≤ R.slots) (hn : n0 ≤ h.length) (hdp : d ≤ R.frames ∧ 35 * d ≤ R.locals) (kk : xG p l e R s m args below meth c B0 ev D cA n0 Q w.1 w.2.1 w.2.2.1 w.2.2.2) : xG p l e R s m args below meth c B0 ev D cA n0 Q pc L st h := by
  obtain ⟨hx, hb, hml, hown, hnm, hF, hz0, hs0, hev⟩ := id C
  obtain ⟨hd, rfl, hck⟩ := xchk_len 1 hq (fun n9 h9 => Nat.eq_of_beq_eq_true h9)
  rw [xs_istore_n] at hs
  split at hs
  · obtain ⟨L', hL, hs⟩ := Option.bind_eq_some_iff.mp hs
    obtain rfl := xyes hs
    intro H locs ls hR hlo hl hz9
    exact lv_istore_n hx hb hd rfl hl.has (xst1_of hL).1 rfl (fun ls' hl' => kk H locs ls' hR hlo (xLs.st1 hev hL hl') (hl'.1.trans (hl.1.symm.trans hz9)))
  · exact xno hs
theorem xS_istore {pc d nx : Nat} {info ps : List Nat} {L st : List Value} {h : xH} {w : Nat × List Value × List Value × xH} {k : Nat} (C : XC p s m meth c B0 ev ext D cA mi) (hq : xchk (xmt mi) (pc, (.istore k), nx, info) ps = true) (hs : xs ext d (.istore k) nx info L st h = some w)
    (hr : w.2.2.2.length - n0 ≤ R.cells ∧ 1100 * (w.2.2.2.length - n0) ≤ R.slots) (hn : n0 ≤ h.length) (hdp : d ≤ R.frames ∧ 35 * d ≤ R.locals) (kk : xG p l e R s m args below meth c B0 ev D cA n0 Q w.1 w.2.1 w.2.2.1 w.2.2.2) : xG p l e R s m args below meth c B0 ev D cA n0 Q pc L st h := by
  obtain ⟨hx, hb, hml, hown, hnm, hF, hz0, hs0, hev⟩ := id C
  obtain ⟨hd, rfl, hck⟩ := xchk_len 2 hq (fun n9 h9 => Nat.eq_of_beq_eq_true h9)
  rw [xs_istore] at hs
  split at hs
  · obtain ⟨L', hL, hs⟩ := Option.bind_eq_some_iff.mp hs
    obtain rfl := xyes hs
    intro H locs ls hR hlo hl hz9
    exact lv_istore hx hb hd hl.has (xst1_of hL).1 rfl (fun ls' hl' => kk H locs ls' hR hlo (xLs.st1 hev hL hl') (hl'.1.trans (hl.1.symm.trans hz9)))
  · exact xno hs
theorem xS_lstore_n {pc d nx : Nat} {info ps : List Nat} {L st : List Value} {h : xH} {w : Nat × List Value × List Value × xH} {k : Fin 4} (C : XC p s m meth c B0 ev ext D cA mi) (hq : xchk (xmt mi) (pc, (.lstore_n k), nx, info) ps = true) (hs : xs ext d (.lstore_n k) nx info L st h = some w)
    (hr : w.2.2.2.length - n0 ≤ R.cells ∧ 1100 * (w.2.2.2.length - n0) ≤ R.slots) (hn : n0 ≤ h.length) (hdp : d ≤ R.frames ∧ 35 * d ≤ R.locals) (kk : xG p l e R s m args below meth c B0 ev D cA n0 Q w.1 w.2.1 w.2.2.1 w.2.2.2) : xG p l e R s m args below meth c B0 ev D cA n0 Q pc L st h := by
  obtain ⟨hx, hb, hml, hown, hnm, hF, hz0, hs0, hev⟩ := id C
  obtain ⟨hd, rfl, hck⟩ := xchk_len 1 hq (fun n9 h9 => Nat.eq_of_beq_eq_true h9)
  rw [xs_lstore_n] at hs
  split at hs
  · obtain ⟨L', hL, hs⟩ := Option.bind_eq_some_iff.mp hs
    obtain rfl := xyes hs
    intro H locs ls hR hlo hl hz9
    exact lv_lstore_n hx hb hd rfl hl.has (xst2_of hL).1 rfl (fun ls' hl' => kk H locs ls' hR hlo (xLs.st2 hev hL hl') (hl'.1.trans (hl.1.symm.trans hz9)))
  · exact xno hs
theorem xS_lstore {pc d nx : Nat} {info ps : List Nat} {L st : List Value} {h : xH} {w : Nat × List Value × List Value × xH} {k : Nat} (C : XC p s m meth c B0 ev ext D cA mi) (hq : xchk (xmt mi) (pc, (.lstore k), nx, info) ps = true) (hs : xs ext d (.lstore k) nx info L st h = some w)
    (hr : w.2.2.2.length - n0 ≤ R.cells ∧ 1100 * (w.2.2.2.length - n0) ≤ R.slots) (hn : n0 ≤ h.length) (hdp : d ≤ R.frames ∧ 35 * d ≤ R.locals) (kk : xG p l e R s m args below meth c B0 ev D cA n0 Q w.1 w.2.1 w.2.2.1 w.2.2.2) : xG p l e R s m args below meth c B0 ev D cA n0 Q pc L st h := by
  obtain ⟨hx, hb, hml, hown, hnm, hF, hz0, hs0, hev⟩ := id C
  obtain ⟨hd, rfl, hck⟩ := xchk_len 2 hq (fun n9 h9 => Nat.eq_of_beq_eq_true h9)
  rw [xs_lstore] at hs
  split at hs
  · obtain ⟨L', hL, hs⟩ := Option.bind_eq_some_iff.mp hs
    obtain rfl := xyes hs
    intro H locs ls hR hlo hl hz9
    exact lv_lstore hx hb hd hl.has (xst2_of hL).1 rfl (fun ls' hl' => kk H locs ls' hR hlo (xLs.st2 hev hL hl') (hl'.1.trans (hl.1.symm.trans hz9)))
  · exact xno hs
theorem xS_astore_n {pc d nx : Nat} {info ps : List Nat} {L st : List Value} {h : xH} {w : Nat × List Value × List Value × xH} {k : Fin 4} (C : XC p s m meth c B0 ev ext D cA mi) (hq : xchk (xmt mi) (pc, (.astore_n k), nx, info) ps = true) (hs : xs ext d (.astore_n k) nx info L st h = some w)
    (hr : w.2.2.2.length - n0 ≤ R.cells ∧ 1100 * (w.2.2.2.length - n0) ≤ R.slots) (hn : n0 ≤ h.length) (hdp : d ≤ R.frames ∧ 35 * d ≤ R.locals) (kk : xG p l e R s m args below meth c B0 ev D cA n0 Q w.1 w.2.1 w.2.2.1 w.2.2.2) : xG p l e R s m args below meth c B0 ev D cA n0 Q pc L st h := by
  obtain ⟨hx, hb, hml, hown, hnm, hF, hz0, hs0, hev⟩ := id C
  obtain ⟨hd, rfl, hck⟩ := xchk_len 1 hq (fun n9 h9 => Nat.eq_of_beq_eq_true h9)
  rw [xs_astore_n] at hs
  split at hs
  · obtain ⟨L', hL, hs⟩ := Option.bind_eq_some_iff.mp hs
    obtain rfl := xyes hs
    intro H locs ls hR hlo hl hz9
    exact lv_astore_n hx hb hd rfl hl.has (xst1_of hL).1 rfl (fun ls' hl' => kk H locs ls' hR hlo (xLs.st1 hev hL hl') (hl'.1.trans (hl.1.symm.trans hz9)))
  · exact xno hs
theorem xS_astore {pc d nx : Nat} {info ps : List Nat} {L st : List Value} {h : xH} {w : Nat × List Value × List Value × xH} {k : Nat} (C : XC p s m meth c B0 ev ext D cA mi) (hq : xchk (xmt mi) (pc, (.astore k), nx, info) ps = true) (hs : xs ext d (.astore k) nx info L st h = some w)
    (hr : w.2.2.2.length - n0 ≤ R.cells ∧ 1100 * (w.2.2.2.length - n0) ≤ R.slots) (hn : n0 ≤ h.length) (hdp : d ≤ R.frames ∧ 35 * d ≤ R.locals) (kk : xG p l e R s m args below meth c B0 ev D cA n0 Q w.1 w.2.1 w.2.2.1 w.2.2.2) : xG p l e R s m args below meth c B0 ev D cA n0 Q pc L st h := by
  obtain ⟨hx, hb, hml, hown, hnm, hF, hz0, hs0, hev⟩ := id C
  obtain ⟨hd, rfl, hck⟩ := xchk_len 2 hq (fun n9 h9 => Nat.eq_of_beq_eq_true h9)
  rw [xs_astore] at hs
  split at hs
  · obtain ⟨L', hL, hs⟩ := Option.bind_eq_some_iff.mp hs
    obtain rfl := xyes hs
    intro H locs ls hR hlo hl hz9
    exact lv_astore hx hb hd hl.has (xst1_of hL).1 rfl (fun ls' hl' => kk H locs ls' hR hlo (xLs.st1 hev hL hl') (hl'.1.trans (hl.1.symm.trans hz9)))
  · exact xno hs
theorem xS_iinc {pc d nx : Nat} {info ps : List Nat} {L st : List Value} {h : xH} {w : Nat × List Value × List Value × xH} {k : Nat} {n : Int} (C : XC p s m meth c B0 ev ext D cA mi) (hq : xchk (xmt mi) (pc, (.iinc k n), nx, info) ps = true) (hs : xs ext d (.iinc k n) nx info L st h = some w)
    (hr : w.2.2.2.length - n0 ≤ R.cells ∧ 1100 * (w.2.2.2.length - n0) ≤ R.slots) (hn : n0 ≤ h.length) (hdp : d ≤ R.frames ∧ 35 * d ≤ R.locals) (kk : xG p l e R s m args below meth c B0 ev D cA n0 Q w.1 w.2.1 w.2.2.1 w.2.2.2) : xG p l e R s m args below meth c B0 ev D cA n0 Q pc L st h := by
  obtain ⟨hx, hb, hml, hown, hnm, hF, hz0, hs0, hev⟩ := id C
  obtain ⟨hd, rfl, hck⟩ := xchk_len 3 hq (fun n9 h9 => Nat.eq_of_beq_eq_true h9)
  rw [xs_iinc] at hs
  split at hs
  · rename_i v hv
    obtain ⟨L', hL, hs⟩ := Option.bind_eq_some_iff.mp hs
    obtain rfl := xyes hs
    intro H locs ls hR hlo hl hz9
    obtain ⟨kx, hkx⟩ := List.mem_iff_getElem?.mp (xas_mem (b := B0.size) (ev := ev) hv (by intro q; cases q))
    exact lv_iinc hx hb hd hl.has hkx rfl (xst1_of hL).1 rfl (fun ls' hl' => kk H locs ls' hR hlo (xLs.st1 hev hL hl') (hl'.1.trans (hl.1.symm.trans hz9)))
  · exact xno hs
theorem xS_iadd {pc d nx : Nat} {info ps : List Nat} {L st : List Value} {h : xH} {w : Nat × List Value × List Value × xH}  (C : XC p s m meth c B0 ev ext D cA mi) (hq : xchk (xmt mi) (pc, .iadd, nx, info) ps = true) (hs : xs ext d .iadd nx info L st h = some w)
    (hr : w.2.2.2.length - n0 ≤ R.cells ∧ 1100 * (w.2.2.2.length - n0) ≤ R.slots) (hn : n0 ≤ h.length) (hdp : d ≤ R.frames ∧ 35 * d ≤ R.locals) (kk : xG p l e R s m args below meth c B0 ev D cA n0 Q w.1 w.2.1 w.2.2.1 w.2.2.2) : xG p l e R s m args below meth c B0 ev D cA n0 Q pc L st h := by
  obtain ⟨hx, hb, hml, hown, hnm, hF, hz0, hs0, hev⟩ := id C
  obtain ⟨hd, rfl, hck⟩ := xchk_len 1 hq (fun n9 h9 => Nat.eq_of_beq_eq_true h9)
  rw [xs_iadd] at hs
  split at hs
  · obtain rfl := xyes hs
    intro H locs ls hR hlo hl hz9
    exact lv_iadd hx hb hd (kk H locs ls hR hlo hl hz9)
  · exact xno hs
theorem xS_isub {pc d nx : Nat} {info ps : List Nat} {L st : List Value} {h : xH} {w : Nat × List Value × List Value × xH}  (C : XC p s m meth c B0 ev ext D cA mi) (hq : xchk (xmt mi) (pc, .isub, nx, info) ps = true) (hs : xs ext d .isub nx info L st h = some w)
    (hr : w.2.2.2.length - n0 ≤ R.cells ∧ 1100 * (w.2.2.2.length - n0) ≤ R.slots) (hn : n0 ≤ h.length) (hdp : d ≤ R.frames ∧ 35 * d ≤ R.locals) (kk : xG p l e R s m args below meth c B0 ev D cA n0 Q w.1 w.2.1 w.2.2.1 w.2.2.2) : xG p l e R s m args below meth c B0 ev D cA n0 Q pc L st h := by
  obtain ⟨hx, hb, hml, hown, hnm, hF, hz0, hs0, hev⟩ := id C
  obtain ⟨hd, rfl, hck⟩ := xchk_len 1 hq (fun n9 h9 => Nat.eq_of_beq_eq_true h9)
  rw [xs_isub] at hs
  split at hs
  · obtain rfl := xyes hs
    intro H locs ls hR hlo hl hz9
    exact lv_isub hx hb hd (kk H locs ls hR hlo hl hz9)
  · exact xno hs
theorem xS_imul {pc d nx : Nat} {info ps : List Nat} {L st : List Value} {h : xH} {w : Nat × List Value × List Value × xH}  (C : XC p s m meth c B0 ev ext D cA mi) (hq : xchk (xmt mi) (pc, .imul, nx, info) ps = true) (hs : xs ext d .imul nx info L st h = some w)
    (hr : w.2.2.2.length - n0 ≤ R.cells ∧ 1100 * (w.2.2.2.length - n0) ≤ R.slots) (hn : n0 ≤ h.length) (hdp : d ≤ R.frames ∧ 35 * d ≤ R.locals) (kk : xG p l e R s m args below meth c B0 ev D cA n0 Q w.1 w.2.1 w.2.2.1 w.2.2.2) : xG p l e R s m args below meth c B0 ev D cA n0 Q pc L st h := by
  obtain ⟨hx, hb, hml, hown, hnm, hF, hz0, hs0, hev⟩ := id C
  obtain ⟨hd, rfl, hck⟩ := xchk_len 1 hq (fun n9 h9 => Nat.eq_of_beq_eq_true h9)
  rw [xs_imul] at hs
  split at hs
  · obtain rfl := xyes hs
    intro H locs ls hR hlo hl hz9
    exact lv_imul hx hb hd (kk H locs ls hR hlo hl hz9)
  · exact xno hs
theorem xS_iand {pc d nx : Nat} {info ps : List Nat} {L st : List Value} {h : xH} {w : Nat × List Value × List Value × xH}  (C : XC p s m meth c B0 ev ext D cA mi) (hq : xchk (xmt mi) (pc, .iand, nx, info) ps = true) (hs : xs ext d .iand nx info L st h = some w)
    (hr : w.2.2.2.length - n0 ≤ R.cells ∧ 1100 * (w.2.2.2.length - n0) ≤ R.slots) (hn : n0 ≤ h.length) (hdp : d ≤ R.frames ∧ 35 * d ≤ R.locals) (kk : xG p l e R s m args below meth c B0 ev D cA n0 Q w.1 w.2.1 w.2.2.1 w.2.2.2) : xG p l e R s m args below meth c B0 ev D cA n0 Q pc L st h := by
  obtain ⟨hx, hb, hml, hown, hnm, hF, hz0, hs0, hev⟩ := id C
  obtain ⟨hd, rfl, hck⟩ := xchk_len 1 hq (fun n9 h9 => Nat.eq_of_beq_eq_true h9)
  rw [xs_iand] at hs
  split at hs
  · obtain rfl := xyes hs
    intro H locs ls hR hlo hl hz9
    exact lv_iand hx hb hd (kk H locs ls hR hlo hl hz9)
  · exact xno hs
theorem xS_ior {pc d nx : Nat} {info ps : List Nat} {L st : List Value} {h : xH} {w : Nat × List Value × List Value × xH}  (C : XC p s m meth c B0 ev ext D cA mi) (hq : xchk (xmt mi) (pc, .ior, nx, info) ps = true) (hs : xs ext d .ior nx info L st h = some w)
    (hr : w.2.2.2.length - n0 ≤ R.cells ∧ 1100 * (w.2.2.2.length - n0) ≤ R.slots) (hn : n0 ≤ h.length) (hdp : d ≤ R.frames ∧ 35 * d ≤ R.locals) (kk : xG p l e R s m args below meth c B0 ev D cA n0 Q w.1 w.2.1 w.2.2.1 w.2.2.2) : xG p l e R s m args below meth c B0 ev D cA n0 Q pc L st h := by
  obtain ⟨hx, hb, hml, hown, hnm, hF, hz0, hs0, hev⟩ := id C
  obtain ⟨hd, rfl, hck⟩ := xchk_len 1 hq (fun n9 h9 => Nat.eq_of_beq_eq_true h9)
  rw [xs_ior] at hs
  split at hs
  · obtain rfl := xyes hs
    intro H locs ls hR hlo hl hz9
    exact lv_ior hx hb hd (kk H locs ls hR hlo hl hz9)
  · exact xno hs
theorem xS_ixor {pc d nx : Nat} {info ps : List Nat} {L st : List Value} {h : xH} {w : Nat × List Value × List Value × xH}  (C : XC p s m meth c B0 ev ext D cA mi) (hq : xchk (xmt mi) (pc, .ixor, nx, info) ps = true) (hs : xs ext d .ixor nx info L st h = some w)
    (hr : w.2.2.2.length - n0 ≤ R.cells ∧ 1100 * (w.2.2.2.length - n0) ≤ R.slots) (hn : n0 ≤ h.length) (hdp : d ≤ R.frames ∧ 35 * d ≤ R.locals) (kk : xG p l e R s m args below meth c B0 ev D cA n0 Q w.1 w.2.1 w.2.2.1 w.2.2.2) : xG p l e R s m args below meth c B0 ev D cA n0 Q pc L st h := by
  obtain ⟨hx, hb, hml, hown, hnm, hF, hz0, hs0, hev⟩ := id C
  obtain ⟨hd, rfl, hck⟩ := xchk_len 1 hq (fun n9 h9 => Nat.eq_of_beq_eq_true h9)
  rw [xs_ixor] at hs
  split at hs
  · obtain rfl := xyes hs
    intro H locs ls hR hlo hl hz9
    exact lv_ixor hx hb hd (kk H locs ls hR hlo hl hz9)
  · exact xno hs
theorem xS_ishl {pc d nx : Nat} {info ps : List Nat} {L st : List Value} {h : xH} {w : Nat × List Value × List Value × xH}  (C : XC p s m meth c B0 ev ext D cA mi) (hq : xchk (xmt mi) (pc, .ishl, nx, info) ps = true) (hs : xs ext d .ishl nx info L st h = some w)
    (hr : w.2.2.2.length - n0 ≤ R.cells ∧ 1100 * (w.2.2.2.length - n0) ≤ R.slots) (hn : n0 ≤ h.length) (hdp : d ≤ R.frames ∧ 35 * d ≤ R.locals) (kk : xG p l e R s m args below meth c B0 ev D cA n0 Q w.1 w.2.1 w.2.2.1 w.2.2.2) : xG p l e R s m args below meth c B0 ev D cA n0 Q pc L st h := by
  obtain ⟨hx, hb, hml, hown, hnm, hF, hz0, hs0, hev⟩ := id C
  obtain ⟨hd, rfl, hck⟩ := xchk_len 1 hq (fun n9 h9 => Nat.eq_of_beq_eq_true h9)
  rw [xs_ishl] at hs
  split at hs
  · obtain rfl := xyes hs
    intro H locs ls hR hlo hl hz9
    exact lv_ishl hx hb hd (kk H locs ls hR hlo hl hz9)
  · exact xno hs
theorem xS_ishr {pc d nx : Nat} {info ps : List Nat} {L st : List Value} {h : xH} {w : Nat × List Value × List Value × xH}  (C : XC p s m meth c B0 ev ext D cA mi) (hq : xchk (xmt mi) (pc, .ishr, nx, info) ps = true) (hs : xs ext d .ishr nx info L st h = some w)
    (hr : w.2.2.2.length - n0 ≤ R.cells ∧ 1100 * (w.2.2.2.length - n0) ≤ R.slots) (hn : n0 ≤ h.length) (hdp : d ≤ R.frames ∧ 35 * d ≤ R.locals) (kk : xG p l e R s m args below meth c B0 ev D cA n0 Q w.1 w.2.1 w.2.2.1 w.2.2.2) : xG p l e R s m args below meth c B0 ev D cA n0 Q pc L st h := by
  obtain ⟨hx, hb, hml, hown, hnm, hF, hz0, hs0, hev⟩ := id C
  obtain ⟨hd, rfl, hck⟩ := xchk_len 1 hq (fun n9 h9 => Nat.eq_of_beq_eq_true h9)
  rw [xs_ishr] at hs
  split at hs
  · obtain rfl := xyes hs
    intro H locs ls hR hlo hl hz9
    exact lv_ishr hx hb hd (kk H locs ls hR hlo hl hz9)
  · exact xno hs
theorem xS_ladd {pc d nx : Nat} {info ps : List Nat} {L st : List Value} {h : xH} {w : Nat × List Value × List Value × xH}  (C : XC p s m meth c B0 ev ext D cA mi) (hq : xchk (xmt mi) (pc, .ladd, nx, info) ps = true) (hs : xs ext d .ladd nx info L st h = some w)
    (hr : w.2.2.2.length - n0 ≤ R.cells ∧ 1100 * (w.2.2.2.length - n0) ≤ R.slots) (hn : n0 ≤ h.length) (hdp : d ≤ R.frames ∧ 35 * d ≤ R.locals) (kk : xG p l e R s m args below meth c B0 ev D cA n0 Q w.1 w.2.1 w.2.2.1 w.2.2.2) : xG p l e R s m args below meth c B0 ev D cA n0 Q pc L st h := by
  obtain ⟨hx, hb, hml, hown, hnm, hF, hz0, hs0, hev⟩ := id C
  obtain ⟨hd, rfl, hck⟩ := xchk_len 1 hq (fun n9 h9 => Nat.eq_of_beq_eq_true h9)
  rw [xs_ladd] at hs
  split at hs
  · obtain rfl := xyes hs
    intro H locs ls hR hlo hl hz9
    exact lv_ladd hx hb hd (kk H locs ls hR hlo hl hz9)
  · exact xno hs
theorem xS_lmul {pc d nx : Nat} {info ps : List Nat} {L st : List Value} {h : xH} {w : Nat × List Value × List Value × xH}  (C : XC p s m meth c B0 ev ext D cA mi) (hq : xchk (xmt mi) (pc, .lmul, nx, info) ps = true) (hs : xs ext d .lmul nx info L st h = some w)
    (hr : w.2.2.2.length - n0 ≤ R.cells ∧ 1100 * (w.2.2.2.length - n0) ≤ R.slots) (hn : n0 ≤ h.length) (hdp : d ≤ R.frames ∧ 35 * d ≤ R.locals) (kk : xG p l e R s m args below meth c B0 ev D cA n0 Q w.1 w.2.1 w.2.2.1 w.2.2.2) : xG p l e R s m args below meth c B0 ev D cA n0 Q pc L st h := by
  obtain ⟨hx, hb, hml, hown, hnm, hF, hz0, hs0, hev⟩ := id C
  obtain ⟨hd, rfl, hck⟩ := xchk_len 1 hq (fun n9 h9 => Nat.eq_of_beq_eq_true h9)
  rw [xs_lmul] at hs
  split at hs
  · obtain rfl := xyes hs
    intro H locs ls hR hlo hl hz9
    exact lv_lmul hx hb hd (kk H locs ls hR hlo hl hz9)
  · exact xno hs
theorem xS_lcmp {pc d nx : Nat} {info ps : List Nat} {L st : List Value} {h : xH} {w : Nat × List Value × List Value × xH}  (C : XC p s m meth c B0 ev ext D cA mi) (hq : xchk (xmt mi) (pc, .lcmp, nx, info) ps = true) (hs : xs ext d .lcmp nx info L st h = some w)
    (hr : w.2.2.2.length - n0 ≤ R.cells ∧ 1100 * (w.2.2.2.length - n0) ≤ R.slots) (hn : n0 ≤ h.length) (hdp : d ≤ R.frames ∧ 35 * d ≤ R.locals) (kk : xG p l e R s m args below meth c B0 ev D cA n0 Q w.1 w.2.1 w.2.2.1 w.2.2.2) : xG p l e R s m args below meth c B0 ev D cA n0 Q pc L st h := by
  obtain ⟨hx, hb, hml, hown, hnm, hF, hz0, hs0, hev⟩ := id C
  obtain ⟨hd, rfl, hck⟩ := xchk_len 1 hq (fun n9 h9 => Nat.eq_of_beq_eq_true h9)
  rw [xs_lcmp] at hs
  split at hs
  · obtain rfl := xyes hs
    intro H locs ls hR hlo hl hz9
    exact W.lcmp hx hb hd (kk H locs ls hR hlo hl hz9)
  · exact xno hs
theorem xS_idiv {pc d nx : Nat} {info ps : List Nat} {L st : List Value} {h : xH} {w : Nat × List Value × List Value × xH}  (C : XC p s m meth c B0 ev ext D cA mi) (hq : xchk (xmt mi) (pc, .idiv, nx, info) ps = true) (hs : xs ext d .idiv nx info L st h = some w)
    (hr : w.2.2.2.length - n0 ≤ R.cells ∧ 1100 * (w.2.2.2.length - n0) ≤ R.slots) (hn : n0 ≤ h.length) (hdp : d ≤ R.frames ∧ 35 * d ≤ R.locals) (kk : xG p l e R s m args below meth c B0 ev D cA n0 Q w.1 w.2.1 w.2.2.1 w.2.2.2) : xG p l e R s m args below meth c B0 ev D cA n0 Q pc L st h := by
  obtain ⟨hx, hb, hml, hown, hnm, hF, hz0, hs0, hev⟩ := id C
  obtain ⟨hd, rfl, hck⟩ := xchk_len 1 hq (fun n9 h9 => Nat.eq_of_beq_eq_true h9)
  rw [xs_idiv] at hs
  split at hs
  · rename_i y x r
    by_cases hy : y = 0
    · rw [if_pos hy] at hs
      exact xno hs
    · rw [if_neg hy] at hs
      obtain rfl := xyes hs
      intro H locs ls hR hlo hl hz9
      exact lv_idiv hx hb hd hy (kk H locs ls hR hlo hl hz9)
  · exact xno hs
theorem xS_irem {pc d nx : Nat} {info ps : List Nat} {L st : List Value} {h : xH} {w : Nat × List Value × List Value × xH}  (C : XC p s m meth c B0 ev ext D cA mi) (hq : xchk (xmt mi) (pc, .irem, nx, info) ps = true) (hs : xs ext d .irem nx info L st h = some w)
    (hr : w.2.2.2.length - n0 ≤ R.cells ∧ 1100 * (w.2.2.2.length - n0) ≤ R.slots) (hn : n0 ≤ h.length) (hdp : d ≤ R.frames ∧ 35 * d ≤ R.locals) (kk : xG p l e R s m args below meth c B0 ev D cA n0 Q w.1 w.2.1 w.2.2.1 w.2.2.2) : xG p l e R s m args below meth c B0 ev D cA n0 Q pc L st h := by
  obtain ⟨hx, hb, hml, hown, hnm, hF, hz0, hs0, hev⟩ := id C
  obtain ⟨hd, rfl, hck⟩ := xchk_len 1 hq (fun n9 h9 => Nat.eq_of_beq_eq_true h9)
  rw [xs_irem] at hs
  split at hs
  · rename_i y x r
    by_cases hy : y = 0
    · rw [if_pos hy] at hs
      exact xno hs
    · rw [if_neg hy] at hs
      obtain rfl := xyes hs
      intro H locs ls hR hlo hl hz9
      exact lv_irem hx hb hd hy (kk H locs ls hR hlo hl hz9)
  · exact xno hs
theorem xS_ldiv {pc d nx : Nat} {info ps : List Nat} {L st : List Value} {h : xH} {w : Nat × List Value × List Value × xH}  (C : XC p s m meth c B0 ev ext D cA mi) (hq : xchk (xmt mi) (pc, .ldiv, nx, info) ps = true) (hs : xs ext d .ldiv nx info L st h = some w)
    (hr : w.2.2.2.length - n0 ≤ R.cells ∧ 1100 * (w.2.2.2.length - n0) ≤ R.slots) (hn : n0 ≤ h.length) (hdp : d ≤ R.frames ∧ 35 * d ≤ R.locals) (kk : xG p l e R s m args below meth c B0 ev D cA n0 Q w.1 w.2.1 w.2.2.1 w.2.2.2) : xG p l e R s m args below meth c B0 ev D cA n0 Q pc L st h := by
  obtain ⟨hx, hb, hml, hown, hnm, hF, hz0, hs0, hev⟩ := id C
  obtain ⟨hd, rfl, hck⟩ := xchk_len 1 hq (fun n9 h9 => Nat.eq_of_beq_eq_true h9)
  rw [xs_ldiv] at hs
  split at hs
  · rename_i y x r
    by_cases hy : y = 0
    · rw [if_pos hy] at hs
      exact xno hs
    · rw [if_neg hy] at hs
      obtain rfl := xyes hs
      intro H locs ls hR hlo hl hz9
      exact lv_ldiv hx hb hd hy (kk H locs ls hR hlo hl hz9)
  · exact xno hs
theorem xS_lrem {pc d nx : Nat} {info ps : List Nat} {L st : List Value} {h : xH} {w : Nat × List Value × List Value × xH}  (C : XC p s m meth c B0 ev ext D cA mi) (hq : xchk (xmt mi) (pc, .lrem, nx, info) ps = true) (hs : xs ext d .lrem nx info L st h = some w)
    (hr : w.2.2.2.length - n0 ≤ R.cells ∧ 1100 * (w.2.2.2.length - n0) ≤ R.slots) (hn : n0 ≤ h.length) (hdp : d ≤ R.frames ∧ 35 * d ≤ R.locals) (kk : xG p l e R s m args below meth c B0 ev D cA n0 Q w.1 w.2.1 w.2.2.1 w.2.2.2) : xG p l e R s m args below meth c B0 ev D cA n0 Q pc L st h := by
  obtain ⟨hx, hb, hml, hown, hnm, hF, hz0, hs0, hev⟩ := id C
  obtain ⟨hd, rfl, hck⟩ := xchk_len 1 hq (fun n9 h9 => Nat.eq_of_beq_eq_true h9)
  rw [xs_lrem] at hs
  split at hs
  · rename_i y x r
    by_cases hy : y = 0
    · rw [if_pos hy] at hs
      exact xno hs
    · rw [if_neg hy] at hs
      obtain rfl := xyes hs
      intro H locs ls hR hlo hl hz9
      exact lv_lrem hx hb hd hy (kk H locs ls hR hlo hl hz9)
  · exact xno hs
theorem xS_i2l {pc d nx : Nat} {info ps : List Nat} {L st : List Value} {h : xH} {w : Nat × List Value × List Value × xH}  (C : XC p s m meth c B0 ev ext D cA mi) (hq : xchk (xmt mi) (pc, .i2l, nx, info) ps = true) (hs : xs ext d .i2l nx info L st h = some w)
    (hr : w.2.2.2.length - n0 ≤ R.cells ∧ 1100 * (w.2.2.2.length - n0) ≤ R.slots) (hn : n0 ≤ h.length) (hdp : d ≤ R.frames ∧ 35 * d ≤ R.locals) (kk : xG p l e R s m args below meth c B0 ev D cA n0 Q w.1 w.2.1 w.2.2.1 w.2.2.2) : xG p l e R s m args below meth c B0 ev D cA n0 Q pc L st h := by
  obtain ⟨hx, hb, hml, hown, hnm, hF, hz0, hs0, hev⟩ := id C
  obtain ⟨hd, rfl, hck⟩ := xchk_len 1 hq (fun n9 h9 => Nat.eq_of_beq_eq_true h9)
  rw [xs_i2l] at hs
  split at hs
  · obtain rfl := xyes hs
    intro H locs ls hR hlo hl hz9
    exact lv_i2l hx hb hd rfl (kk H locs ls hR hlo hl hz9)
  · exact xno hs
theorem xS_i2b {pc d nx : Nat} {info ps : List Nat} {L st : List Value} {h : xH} {w : Nat × List Value × List Value × xH}  (C : XC p s m meth c B0 ev ext D cA mi) (hq : xchk (xmt mi) (pc, .i2b, nx, info) ps = true) (hs : xs ext d .i2b nx info L st h = some w)
    (hr : w.2.2.2.length - n0 ≤ R.cells ∧ 1100 * (w.2.2.2.length - n0) ≤ R.slots) (hn : n0 ≤ h.length) (hdp : d ≤ R.frames ∧ 35 * d ≤ R.locals) (kk : xG p l e R s m args below meth c B0 ev D cA n0 Q w.1 w.2.1 w.2.2.1 w.2.2.2) : xG p l e R s m args below meth c B0 ev D cA n0 Q pc L st h := by
  obtain ⟨hx, hb, hml, hown, hnm, hF, hz0, hs0, hev⟩ := id C
  obtain ⟨hd, rfl, hck⟩ := xchk_len 1 hq (fun n9 h9 => Nat.eq_of_beq_eq_true h9)
  rw [xs_i2b] at hs
  split at hs
  · obtain rfl := xyes hs
    intro H locs ls hR hlo hl hz9
    exact lv_i2b hx hb hd rfl (kk H locs ls hR hlo hl hz9)
  · exact xno hs
theorem xS_i2c {pc d nx : Nat} {info ps : List Nat} {L st : List Value} {h : xH} {w : Nat × List Value × List Value × xH}  (C : XC p s m meth c B0 ev ext D cA mi) (hq : xchk (xmt mi) (pc, .i2c, nx, info) ps = true) (hs : xs ext d .i2c nx info L st h = some w)
    (hr : w.2.2.2.length - n0 ≤ R.cells ∧ 1100 * (w.2.2.2.length - n0) ≤ R.slots) (hn : n0 ≤ h.length) (hdp : d ≤ R.frames ∧ 35 * d ≤ R.locals) (kk : xG p l e R s m args below meth c B0 ev D cA n0 Q w.1 w.2.1 w.2.2.1 w.2.2.2) : xG p l e R s m args below meth c B0 ev D cA n0 Q pc L st h := by
  obtain ⟨hx, hb, hml, hown, hnm, hF, hz0, hs0, hev⟩ := id C
  obtain ⟨hd, rfl, hck⟩ := xchk_len 1 hq (fun n9 h9 => Nat.eq_of_beq_eq_true h9)
  rw [xs_i2c] at hs
  split at hs
  · obtain rfl := xyes hs
    intro H locs ls hR hlo hl hz9
    exact lv_i2c hx hb hd rfl (kk H locs ls hR hlo hl hz9)
  · exact xno hs
theorem xS_dup {pc d nx : Nat} {info ps : List Nat} {L st : List Value} {h : xH} {w : Nat × List Value × List Value × xH}  (C : XC p s m meth c B0 ev ext D cA mi) (hq : xchk (xmt mi) (pc, .dup, nx, info) ps = true) (hs : xs ext d .dup nx info L st h = some w)
    (hr : w.2.2.2.length - n0 ≤ R.cells ∧ 1100 * (w.2.2.2.length - n0) ≤ R.slots) (hn : n0 ≤ h.length) (hdp : d ≤ R.frames ∧ 35 * d ≤ R.locals) (kk : xG p l e R s m args below meth c B0 ev D cA n0 Q w.1 w.2.1 w.2.2.1 w.2.2.2) : xG p l e R s m args below meth c B0 ev D cA n0 Q pc L st h := by
  obtain ⟨hx, hb, hml, hown, hnm, hF, hz0, hs0, hev⟩ := id C
  obtain ⟨hd, rfl, hck⟩ := xchk_len 1 hq (fun n9 h9 => Nat.eq_of_beq_eq_true h9)
  rw [xs_dup] at hs
  split at hs
  · obtain rfl := xyes hs
    intro H locs ls hR hlo hl hz9
    exact lv_dup hx hb hd rfl (kk H locs ls hR hlo hl hz9)
  · obtain rfl := xyes hs
    intro H locs ls hR hlo hl hz9
    exact lv_dup hx hb hd rfl (kk H locs ls hR hlo hl hz9)
  · exact xno hs
theorem xS_dup2 {pc d nx : Nat} {info ps : List Nat} {L st : List Value} {h : xH} {w : Nat × List Value × List Value × xH}  (C : XC p s m meth c B0 ev ext D cA mi) (hq : xchk (xmt mi) (pc, .dup2, nx, info) ps = true) (hs : xs ext d .dup2 nx info L st h = some w)
    (hr : w.2.2.2.length - n0 ≤ R.cells ∧ 1100 * (w.2.2.2.length - n0) ≤ R.slots) (hn : n0 ≤ h.length) (hdp : d ≤ R.frames ∧ 35 * d ≤ R.locals) (kk : xG p l e R s m args below meth c B0 ev D cA n0 Q w.1 w.2.1 w.2.2.1 w.2.2.2) : xG p l e R s m args below meth c B0 ev D cA n0 Q pc L st h := by
  obtain ⟨hx, hb, hml, hown, hnm, hF, hz0, hs0, hev⟩ := id C
  obtain ⟨hd, rfl, hck⟩ := xchk_len 1 hq (fun n9 h9 => Nat.eq_of_beq_eq_true h9)
  rw [xs_dup2] at hs
  split at hs
  · obtain rfl := xyes hs
    intro H locs ls hR hlo hl hz9
    exact lv_dup2_11 hx hb hd rfl rfl (kk H locs ls hR hlo hl hz9)
  · exact xno hs
theorem xS_pop {pc d nx : Nat} {info ps : List Nat} {L st : List Value} {h : xH} {w : Nat × List Value × List Value × xH}  (C : XC p s m meth c B0 ev ext D cA mi) (hq : xchk (xmt mi) (pc, .pop, nx, info) ps = true) (hs : xs ext d .pop nx info L st h = some w)
    (hr : w.2.2.2.length - n0 ≤ R.cells ∧ 1100 * (w.2.2.2.length - n0) ≤ R.slots) (hn : n0 ≤ h.length) (hdp : d ≤ R.frames ∧ 35 * d ≤ R.locals) (kk : xG p l e R s m args below meth c B0 ev D cA n0 Q w.1 w.2.1 w.2.2.1 w.2.2.2) : xG p l e R s m args below meth c B0 ev D cA n0 Q pc L st h := by
  obtain ⟨hx, hb, hml, hown, hnm, hF, hz0, hs0, hev⟩ := id C
  obtain ⟨hd, rfl, hck⟩ := xchk_len 1 hq (fun n9 h9 => Nat.eq_of_beq_eq_true h9)
  rw [xs_pop] at hs
  split at hs
  · obtain rfl := xyes hs
    intro H locs ls hR hlo hl hz9
    exact lv_pop hx hb hd rfl (kk H locs ls hR hlo hl hz9)
  · exact xno hs
theorem xS_goto {pc d nx : Nat} {info ps : List Nat} {L st : List Value} {h : xH} {w : Nat × List Value × List Value × xH} {o : Int} (C : XC p s m meth c B0 ev ext D cA mi) (hq : xchk (xmt mi) (pc, (.goto o), nx, info) ps = true) (hs : xs ext d (.goto o) nx info L st h = some w)
    (hr : w.2.2.2.length - n0 ≤ R.cells ∧ 1100 * (w.2.2.2.length - n0) ≤ R.slots) (hn : n0 ≤ h.length) (hdp : d ≤ R.frames ∧ 35 * d ≤ R.locals) (kk : xG p l e R s m args below meth c B0 ev D cA n0 Q w.1 w.2.1 w.2.2.1 w.2.2.2) : xG p l e R s m args below meth c B0 ev D cA n0 Q pc L st h := by
  obtain ⟨hx, hb, hml, hown, hnm, hF, hz0, hs0, hev⟩ := id C
  obtain ⟨hd, rfl, hck⟩ := xchk_len 3 hq (fun n9 h9 => Nat.eq_of_beq_eq_true h9)
  rw [xs_goto] at hs
  split at hs
  · obtain rfl := xyes hs
    intro H locs ls hR hlo hl hz9
    exact lv_goto hx hb hd (of_decide_eq_true hck) (kk H locs ls hR hlo hl hz9)
  · exact xno hs
theorem xS_if_icmp {pc d nx : Nat} {info ps : List Nat} {L st : List Value} {h : xH} {w : Nat × List Value × List Value × xH} {cd : Jvm.ClassFile.Cond} {o : Int} (C : XC p s m meth c B0 ev ext D cA mi) (hq : xchk (xmt mi) (pc, (.if_icmp cd o), nx, info) ps = true) (hs : xs ext d (.if_icmp cd o) nx info L st h = some w)
    (hr : w.2.2.2.length - n0 ≤ R.cells ∧ 1100 * (w.2.2.2.length - n0) ≤ R.slots) (hn : n0 ≤ h.length) (hdp : d ≤ R.frames ∧ 35 * d ≤ R.locals) (kk : xG p l e R s m args below meth c B0 ev D cA n0 Q w.1 w.2.1 w.2.2.1 w.2.2.2) : xG p l e R s m args below meth c B0 ev D cA n0 Q pc L st h := by
  obtain ⟨hx, hb, hml, hown, hnm, hF, hz0, hs0, hev⟩ := id C
  obtain ⟨hd, rfl, hck⟩ := xchk_len 3 hq (fun n9 h9 => Nat.eq_of_beq_eq_true h9)
  rw [xs_if_icmp] at hs
  split at hs
  · rename_i t y x r
    obtain rfl := xyes hs
    have ht : (pc : Int) + o = (t : Int) := of_decide_eq_true hck
    have k1 : xcmp cd x y = true → xG p l e R s m args below meth c B0 ev D cA n0 Q t L r h := fun e9 => by
      have k2 := kk
      simp only [e9] at k2
      exact k2
    have k0 : xcmp cd x y = false → xG p l e R s m args below meth c B0 ev D cA n0 Q (pc + 3) L r h := fun e9 => by
      have k2 := kk
      simp only [e9] at k2
      exact k2
    intro H locs ls hR hlo hl hz9
    cases cd
    · exact lv_icmp_eq (tgt := t) hx hb hd ht (fun hc => k1 (by simp [xcmp, hc]) H locs ls hR hlo hl hz9) (fun hc => k0 (by simp [xcmp, hc]) H locs ls hR hlo hl hz9)
    · exact lv_icmp_ne (tgt := t) hx hb hd ht (fun hc => k1 (by simp [xcmp, hc]) H locs ls hR hlo hl hz9) (fun hc => k0 (by simp [xcmp, hc]) H locs ls hR hlo hl hz9)
    · exact lv_icmp_lt (tgt := t) hx hb hd ht (fun hc => k1 (by simp [xcmp, hc]) H locs ls hR hlo hl hz9) (fun hc => k0 (by simp [xcmp, hc]) H locs ls hR hlo hl hz9)
    · exact lv_icmp_ge (tgt := t) hx hb hd ht (fun hc => k1 (by simp [xcmp, hc]) H locs ls hR hlo hl hz9) (fun hc => k0 (by simp [xcmp, hc]) H locs ls hR hlo hl hz9)
    · exact lv_icmp_gt (tgt := t) hx hb hd ht (fun hc => k1 (by simp [xcmp, hc]) H locs ls hR hlo hl hz9) (fun hc => k0 (by simp [xcmp, hc]) H locs ls hR hlo hl hz9)
    · exact lv_icmp_le (tgt := t) hx hb hd ht (fun hc => k1 (by simp [xcmp, hc]) H locs ls hR hlo hl hz9) (fun hc => k0 (by simp [xcmp, hc]) H locs ls hR hlo hl hz9)
  · exact xno hs
theorem xS_ifCond {pc d nx : Nat} {info ps : List Nat} {L st : List Value} {h : xH} {w : Nat × List Value × List Value × xH} {cd : Jvm.ClassFile.Cond} {o : Int} (C : XC p s m meth c B0 ev ext D cA mi) (hq : xchk (xmt mi) (pc, (.ifCond cd o), nx, info) ps = true) (hs : xs ext d (.ifCond cd o) nx info L st h = some w)
    (hr : w.2.2.2.length - n0 ≤ R.cells ∧ 1100 * (w.2.2.2.length - n0) ≤ R.slots) (hn : n0 ≤ h.length) (hdp : d ≤ R.frames ∧ 35 * d ≤ R.locals) (kk : xG p l e R s m args below meth c B0 ev D cA n0 Q w.1 w.2.1 w.2.2.1 w.2.2.2) : xG p l e R s m args below meth c B0 ev D cA n0 Q pc L st h := by
  obtain ⟨hx, hb, hml, hown, hnm, hF, hz0, hs0, hev⟩ := id C
  obtain ⟨hd, rfl, hck⟩ := xchk_len 3 hq (fun n9 h9 => Nat.eq_of_beq_eq_true h9)
  rw [xs_ifCond] at hs
  split at hs
  · rename_i t x r
    obtain rfl := xyes hs
    have ht : (pc : Int) + o = (t : Int) := of_decide_eq_true hck
    have k1 : xcmp cd x 0 = true → xG p l e R s m args below meth c B0 ev D cA n0 Q t L r h := fun e9 => by
      have k2 := kk
      simp only [e9] at k2
      exact k2
    have k0 : xcmp cd x 0 = false → xG p l e R s m args below meth c B0 ev D cA n0 Q (pc + 3) L r h := fun e9 => by
      have k2 := kk
      simp only [e9] at k2
      exact k2
    intro H locs ls hR hlo hl hz9
    cases cd
    · exact lv_if_eq (tgt := t) hx hb hd ht (fun hc => k1 (by simp [xcmp, hc]) H locs ls hR hlo hl hz9) (fun hc => k0 (by simp [xcmp, hc]) H locs ls hR hlo hl hz9)
    · exact lv_if_ne (tgt := t) hx hb hd ht (fun hc => k1 (by simp [xcmp, hc]) H locs ls hR hlo hl hz9) (fun hc => k0 (by simp [xcmp, hc]) H locs ls hR hlo hl hz9)
    · exact lv_if_lt (tgt := t) hx hb hd ht (fun hc => k1 (by simp [xcmp, hc]) H locs ls hR hlo hl hz9) (fun hc => k0 (by simp [xcmp, hc]) H locs ls hR hlo hl hz9)
    · exact lv_if_ge (tgt := t) hx hb hd ht (fun hc => k1 (by simp [xcmp, hc]) H locs ls hR hlo hl hz9) (fun hc => k0 (by simp [xcmp, hc]) H locs ls hR hlo hl hz9)
    · exact lv_if_gt (tgt := t) hx hb hd ht (fun hc => k1 (by simp [xcmp, hc]) H locs ls hR hlo hl hz9) (fun hc => k0 (by simp [xcmp, hc]) H locs ls hR hlo hl hz9)
    · exact lv_if_le (tgt := t) hx hb hd ht (fun hc => k1 (by simp [xcmp, hc]) H locs ls hR hlo hl hz9) (fun hc => k0 (by simp [xcmp, hc]) H locs ls hR hlo hl hz9)
  · exact xno hs
theorem xS_ifnonnull {pc d nx : Nat} {info ps : List Nat} {L st : List Value} {h : xH} {w : Nat × List Value × List Value × xH} {o : Int} (C : XC p s m meth c B0 ev ext D cA mi) (hq : xchk (xmt mi) (pc, (.ifnonnull o), nx, info) ps = true) (hs : xs ext d (.ifnonnull o) nx info L st h = some w)
    (hr : w.2.2.2.length - n0 ≤ R.cells ∧ 1100 * (w.2.2.2.length - n0) ≤ R.slots) (hn : n0 ≤ h.length) (hdp : d ≤ R.frames ∧ 35 * d ≤ R.locals) (kk : xG p l e R s m args below meth c B0 ev D cA n0 Q w.1 w.2.1 w.2.2.1 w.2.2.2) : xG p l e R s m args below meth c B0 ev D cA n0 Q pc L st h := by
  obtain ⟨hx, hb, hml, hown, hnm, hF, hz0, hs0, hev⟩ := id C
  obtain ⟨hd, rfl, hck⟩ := xchk_len 3 hq (fun n9 h9 => Nat.eq_of_beq_eq_true h9)
  rw [xs_ifnonnull] at hs
  split at hs
  · obtain rfl := xyes hs
    intro H locs ls hR hlo hl hz9
    exact lv_ifnonnull hx hb hd (of_decide_eq_true hck) (kk H locs ls hR hlo hl hz9)
  · obtain rfl := xyes hs
    intro H locs ls hR hlo hl hz9
    exact lv_ifnonnullN hx hb hd (kk H locs ls hR hlo hl hz9)
  · exact xno hs
theorem xS_tableswitch {pc d nx : Nat} {info ps : List Nat} {L st : List Value} {h : xH} {w : Nat × List Value × List Value × xH} {dt lo hi : Int} {os : Array Int} (C : XC p s m meth c B0 ev ext D cA mi) (hq : xchk (xmt mi) (pc, (.tableswitch dt lo hi os), nx, info) ps = true) (hs : xs ext d (.tableswitch dt lo hi os) nx info L st h = some w)
    (hr : w.2.2.2.length - n0 ≤ R.cells ∧ 1100 * (w.2.2.2.length - n0) ≤ R.slots) (hn : n0 ≤ h.length) (hdp : d ≤ R.frames ∧ 35 * d ≤ R.locals) (kk : xG p l e R s m args below meth c B0 ev D cA n0 Q w.1 w.2.1 w.2.2.1 w.2.2.2) : xG p l e R s m args below meth c B0 ev D cA n0 Q pc L st h := by
  obtain ⟨hx, hb, hml, hown, hnm, hF, hz0, hs0, hev⟩ := id C
  obtain ⟨hd, hnx, hck⟩ := xchk_any hq
  rw [xs_tableswitch] at hs
  split at hs
  · rename_i t ts x r
    have hck' : (decide ((pc : Int) + dt = (t : Int)) && decide (os.toList.map (fun o => (pc : Int) + o) = ts.map Int.ofNat)) = true := hck
    rw [Bool.and_eq_true] at hck'
    by_cases hy : x.toInt < lo ∨ hi < x.toInt
    · rw [if_pos hy] at hs
      obtain rfl := xyes hs
      intro H locs ls hR hlo hl hz9
      exact lv_tableOut hx hb hd hy (of_decide_eq_true hck'.1) (kk H locs ls hR hlo hl hz9)
    · rw [if_neg hy] at hs
      obtain ⟨t2, h2, hs⟩ := Option.bind_eq_some_iff.mp hs
      obtain rfl := xyes hs
      have h3 : (os.toList.map (fun o => (pc : Int) + o))[(x.toInt - lo).toNat]? = some (Int.ofNat t2) := by rw [of_decide_eq_true hck'.2, List.getElem?_map, h2]; rfl
      rw [List.getElem?_map] at h3
      obtain ⟨off, h4, h5⟩ := Option.map_eq_some_iff.mp h3
      intro H locs ls hR hlo hl hz9
      exact lv_tableIn hx hb hd (fun q => hy (Or.inl q)) (fun q => hy (Or.inr q)) (by rw [← Array.getElem?_toList]; exact h4) h5 (kk H locs ls hR hlo hl hz9)
  · exact xno hs
theorem xS_lookupswitch {pc d nx : Nat} {info ps : List Nat} {L st : List Value} {h : xH} {w : Nat × List Value × List Value × xH} {dt : Int} {prs : Array (Int × Int)} (C : XC p s m meth c B0 ev ext D cA mi) (hq : xchk (xmt mi) (pc, (.lookupswitch dt prs), nx, info) ps = true) (hs : xs ext d (.lookupswitch dt prs) nx info L st h = some w)
    (hr : w.2.2.2.length - n0 ≤ R.cells ∧ 1100 * (w.2.2.2.length - n0) ≤ R.slots) (hn : n0 ≤ h.length) (hdp : d ≤ R.frames ∧ 35 * d ≤ R.locals) (kk : xG p l e R s m args below meth c B0 ev D cA n0 Q w.1 w.2.1 w.2.2.1 w.2.2.2) : xG p l e R s m args below meth c B0 ev D cA n0 Q pc L st h := by
  obtain ⟨hx, hb, hml, hown, hnm, hF, hz0, hs0, hev⟩ := id C
  obtain ⟨hd, hnx, hck⟩ := xchk_any hq
  rw [xs_lookupswitch] at hs
  split at hs
  · rename_i t ts x r
    have hck' : (decide ((pc : Int) + dt = (t : Int)) && (xlkI pc prs.toList ts && (prs.toList.zip (prs.toList.drop 1)).all (fun (a, next) => a.1 < next.1))) = true := hck
    rw [Bool.and_eq_true, Bool.and_eq_true] at hck'
    obtain rfl := xyes hs
    intro H locs ls hR hlo hl hz9
    exact lv_lookup hx hb hd hck'.2.2 rfl (xlk_of (of_decide_eq_true hck'.1) hck'.2.1 x) (kk H locs ls hR hlo hl hz9)
  · exact xno hs
end XST
