section
/-! new int[n][k], over exact cells. A proof of our own: nothing of Shelf42 is named here, so the claim is read over the short library. The state on the way is told whole, in one go, by how many rows hang in the outer one. -/
def xr_o (c : ClassId) (N h i : Nat) : Cell := arrV c N (fun j => if j < i then .ref (h + 1 + j) else .null)
def xr_z (c : ClassId) (K : Nat) : Cell := arrV c K (fun _ => .int 0)
/-- i rows of K noughts have been made, and hang in the outer one -/
def xr_at (T : State) (a b : ClassId) (N K i : Nat) : State :=
  { T with heap := T.heap.push (xr_o a N T.heap.size i) ++ Array.replicate i (xr_z b K), slotsUsed := T.slotsUsed + N + i * K }
theorem xr_hung (c : ClassId) (N h i : Nat) : (xr_o c N h i).setSlot i (.ref (h + 1 + i)) = xr_o c N h (i + 1) := by
  unfold xr_o
  rw [arrV_store]
  refine congrArg (arrV c N) (funext fun j => ?_)
  unfold updV
  show (if j = i then Value.ref (h + 1 + i) else if j < i then Value.ref (h + 1 + j) else Value.null) = _
  rcases Nat.lt_trichotomy j i with g | g | g
  · rw [if_neg (Nat.ne_of_lt g), if_pos g, if_pos (Nat.lt_succ_of_lt g)]
  · subst g
    rw [if_pos rfl, if_pos (Nat.lt_succ_self j)]
  · rw [if_neg (Nat.ne_of_gt g), if_neg (Nat.lt_asymm g), if_neg (by omega)]
theorem xr_like (T : State) {x y : Heap} {u v : Nat} (h : x = y) (g : u = v) : ({ T with heap := x, slotsUsed := u } : State) = { T with heap := y, slotsUsed := v } := by
  rw [h, g]
theorem xr_first (T : State) (a b : ClassId) (N K : Nat) : T.pushCell { cls := a, slots := Array.replicate N .null, vm := .none } = xr_at T a b N K 0 := by
  refine xr_like T ?_ ?_
  · rw [arrV_new, Array.replicate_zero, Array.append_empty]
    refine congrArg T.heap.push (congrArg (arrV a N) (funext fun j => ?_))
    rw [if_neg (Nat.not_lt_zero j)]
  · simp
theorem xr_next (T : State) (a b : ClassId) (N K i : Nat) : ((xr_at T a b N K i).pushCell (xr_z b K)).setCell T.heap.size ((xr_o a N T.heap.size i).setSlot i (.ref (T.heap.size + 1 + i))) = xr_at T a b N K (i + 1) := by
  rw [xr_hung]
  refine xr_like T ?_ ?_
  · refine Array.toList_inj.mp ?_
    simp [xr_at, List.set_append, List.replicate_succ']
  · show T.slotsUsed + N + i * K + (xr_z b K).slots.size = _
    rw [xr_z, arrV_size, Nat.succ_mul]
    omega
theorem xr_size (T : State) (a b : ClassId) (N K i : Nat) : (xr_at T a b N K i).heap.size = T.heap.size + 1 + i := by
  simp [xr_at]
theorem xr_in (T : State) (a b : ClassId) (N K i : Nat) : T.heap.size < (xr_at T a b N K i).heap.size := by
  rw [xr_size]
  omega
theorem xr_old (T : State) (a b : ClassId) (N K i : Nat) {q : Nat} (h : q < T.heap.size) : (xr_at T a b N K i).heap[q]? = T.heap[q]? := by
  show (T.heap.push _ ++ _)[q]? = _
  rw [Array.getElem?_append_left (by rw [Array.size_push]; omega), Array.getElem?_push, if_neg (Nat.ne_of_lt h)]
theorem xr_outer (T : State) (a b : ClassId) (N K i : Nat) : (xr_at T a b N K i).heap[T.heap.size]? = some (xr_o a N T.heap.size i) := by
  show (T.heap.push _ ++ _)[T.heap.size]? = _
  rw [Array.getElem?_append_left (by rw [Array.size_push]; omega), Array.getElem?_push, if_pos rfl]
theorem xr_inner (T : State) (a b : ClassId) (N K i : Nat) {j : Nat} (h : j < i) : (xr_at T a b N K i).heap[T.heap.size + 1 + j]? = some (xr_z b K) := by
  show (T.heap.push _ ++ _)[T.heap.size + 1 + j]? = _
  rw [Array.getElem?_append_right (by rw [Array.size_push]; omega), Array.size_push, Array.getElem?_replicate, if_pos (by omega)]
section XMN
variable {p : Program} {l : Launch} {e : Env} {R : Room} {s : State} {m : MethodId} {args : Array Value} {below : List Frame} {meth : Method} {c : Code} {H : Heap} {locs : List Loc} {cells slots : Nat} {Q : State → Prop}
variable {cc : ByteArray} {pc : Nat} {ls : Array Slot} {rest : List Value}
theorem xr_stand {T : State} (X : Stand p l e R s m args below meth c T locs cells slots) (a b : ClassId) (N K : Nat) : ∀ i : Nat, Stand p l e R s m args below meth c (xr_at T a b N K i) locs (cells + 1 + i) (slots + N + i * K)
  | 0 => by
    have h := X.pushed { cls := a, slots := Array.replicate N .null, vm := .none }
    rw [xr_first T a b N K] at h
    simpa using h
  | i + 1 => by
    have h := ((xr_stand X a b N K i).pushed (xr_z b K)).stored (a := T.heap.size) (cell := xr_o a N T.heap.size i) (by rw [State.heap_pushCell_of_lt (h := xr_in T a b N K i)]; exact xr_outer T a b N K i) i (.ref (T.heap.size + 1 + i))
    rw [xr_next, xr_z, arrV_size] at h
    have g := h.dropFresh (fun x hx => by rw [List.mem_singleton.mp hx]; exact X.heapGrown)
    have z : slots + N + (i + 1) * K = slots + N + i * K + K := by rw [Nat.succ_mul]; omega
    rw [z]
    exact g
theorem xr_one {E : CtlPost} {d : Bool} {acts : List Action} {S : State} {b bb : ClassId} {kb : Class} {k : Int32} (h1 : S.vm.classes[b]? = some kb) (h2 : kb.kind = .array bb .int) (hk : ¬ k < 0) (h3 : ¬ k.toNatClampNeg > e.platform.arrayLengthLimit)
    (h4 : ¬ k.toNatClampNeg * componentBytes .int > e.platform.maxHeapBytes) (h5 : S.heap.size < e.platform.maxCells) (h6 : S.slotsUsed + k.toNatClampNeg ≤ e.platform.maxSlots) {P : Addr → Pre} (hP : ∀ acts', P S.heap.size d acts' (S.pushCell (xr_z b k.toNatClampNeg))) :
    wp (multianewarray.make b [k]) P E e d acts S := by
  rw [multianewarray.make]
  simp only [wp_bind', W.ite, hk, if_false, wp_pure', W.theClass, h1, h2, Option.some.injEq, exists_eq_left']
  refine W.newArray_of h1 h2 h3 h4 h5 h6 rfl fun acts' => ?_
  have g := hP acts'
  rw [xr_z, ← arrV_new] at g
  exact g
/-- the rows from i on -/
theorem xr_loop {E : CtlPost} {T : State} {a b aa bb : ClassId} {ka kb : Class} {t0 : FieldType} {k : Int32} {N : Nat} (h1 : T.vm.classes[b]? = some kb) (h2 : kb.kind = .array bb .int) (hk : ¬ k < 0) (h3 : ¬ k.toNatClampNeg > e.platform.arrayLengthLimit)
    (h4 : ¬ k.toNatClampNeg * componentBytes .int > e.platform.maxHeapBytes) (g1 : T.vm.classes[a]? = some ka) (g2 : ka.kind = .array aa t0) (g3 : ∀ q : Addr, fits t0 (.ref q) = true) (h5 : T.heap.size + (1 + N) ≤ e.platform.maxCells) (h6 : T.slotsUsed + (N + N * k.toNatClampNeg) ≤ e.platform.maxSlots)
    (f : Nat → PUnit → Sem (ForInStep PUnit)) (hf : ∀ x u, f x u = (do let r ← multianewarray.make b [k]; Jvm.writeLoc T.heap.size x (.ref r); Pure.pure (ForInStep.yield PUnit.unit))) :
    ∀ (r i : Nat) (d : Bool) (acts : List Action) (P : PUnit → Pre), i + r = N → (∀ d' acts', P PUnit.unit d' acts' (xr_at T a b N k.toNatClampNeg N)) → wp (forIn (List.range' i r) PUnit.unit f) P E e d acts (xr_at T a b N k.toNatClampNeg i)
  | 0, i, d, acts, P, hi, hP => by
    have z : i = N := by omega
    subst z
    rw [List.range'_zero, List.forIn_nil, wp_pure']
    exact hP d acts
  | r + 1, i, d, acts, P, hi, hP => by
    have w : i * k.toNatClampNeg + k.toNatClampNeg ≤ N * k.toNatClampNeg := by
      rw [← Nat.succ_mul]
      exact Nat.mul_le_mul_right _ (by omega)
    have so : (xr_o a N T.heap.size i).slots.size = N := arrV_size _ _ _
    rw [List.range'_succ, List.forIn_cons, wp_bind', hf, wp_bind']
    refine xr_one (S := xr_at T a b N k.toNatClampNeg i) h1 h2 hk h3 h4 (by rw [xr_size]; omega) (by show T.slotsUsed + N + i * k.toNatClampNeg + k.toNatClampNeg ≤ _; omega) fun acts' => ?_
    rw [wp_bind', W.writeLoc]
    refine ⟨xr_o a N T.heap.size i, by rw [State.heap_pushCell_of_lt (h := xr_in T a b N k.toNatClampNeg i)]; exact xr_outer T a b N _ i, (by intro h; cases h), (by rw [so]; omega), ?_, ?_⟩
    · show State.fitsSlot _ a .none i _ = true
      have g1' : (xr_at T a b N k.toNatClampNeg i).vm.classes[a]? = some ka := g1
      simp [State.fitsSlot, State.slotType?, g1', g2, g3]
    · rw [xr_size, xr_next, wp_pure']
      exact xr_loop h1 h2 hk h3 h4 g1 g2 g3 h5 h6 f hf r (i + 1) _ _ P (by omega) hP
/-- the outer one, then all its rows -/
theorem xr_two {E : CtlPost} {d : Bool} {acts : List Action} {T : State} {a b bb : ClassId} {ka kb : Class} {n k : Int32} (h1 : T.vm.classes[b]? = some kb) (h2 : kb.kind = .array bb .int) (hk : ¬ k < 0) (h3 : ¬ k.toNatClampNeg > e.platform.arrayLengthLimit)
    (h4 : ¬ k.toNatClampNeg * componentBytes .int > e.platform.maxHeapBytes) (g1 : T.vm.classes[a]? = some ka) (g2 : ka.kind = .array b (.array .int)) (hn : ¬ n < 0) (g3 : ¬ n.toNatClampNeg > e.platform.arrayLengthLimit)
    (g4 : ¬ n.toNatClampNeg * componentBytes (.array .int) > e.platform.maxHeapBytes) (h5 : T.heap.size + (1 + n.toNatClampNeg) ≤ e.platform.maxCells) (h6 : T.slotsUsed + (n.toNatClampNeg + n.toNatClampNeg * k.toNatClampNeg) ≤ e.platform.maxSlots)
    {P : Addr → Pre} (hP : ∀ d' acts', P T.heap.size d' acts' (xr_at T a b n.toNatClampNeg k.toNatClampNeg n.toNatClampNeg)) : wp (multianewarray.make a [n, k]) P E e d acts T := by
  have none_bad : [k].find? (fun x => decide (x < 0)) = none := by simp [hk]
  have room : 0 ≤ n.toNatClampNeg * k.toNatClampNeg := Nat.zero_le _
  rw [multianewarray.make]
  simp only [wp_bind', W.ite, hn, if_false, wp_pure', W.theClass, g1, g2, Option.some.injEq, exists_eq_left']
  refine W.newArray_of g1 g2 g3 g4 (by omega) (by omega) rfl fun acts' => ?_
  rw [xr_first T a b n.toNatClampNeg k.toNatClampNeg]
  simp only [none_bad, ite_self, wp_bind', wp_pure', Std.Legacy.Range.forIn_eq_forIn_range']
  rw [show ([:n.toNatClampNeg] : Std.Legacy.Range).size = n.toNatClampNeg by simp [Std.Legacy.Range.size]]
  exact xr_loop h1 h2 hk h3 h4 g1 g2 (fun _ => rfl) h5 h6 _ (fun _ _ => rfl) n.toNatClampNeg 0 d acts' _ (Nat.zero_add _) fun d' acts'' => hP d' acts''
theorem xr_mna (hexec : p.tables.exec = Jvm.exec) (hb : c.code = cc) {own : String} {index : Nat} (hown : s.vm.findClass own = some m.cls) (hclink : (Jvm.Cond.classLink own index ("[" ++ (FieldType.array .int).toString)).before args s = true) (hover : (Jvm.Cond.arrayOver (.array .int)).before args s = true) (harr : (Jvm.Cond.arrayClass .int).before args s = true)
    {n k : Int32} {N K : Nat} (hn : ¬ n < 0) (hk : ¬ k < 0) (hN : n.toNatClampNeg = N) (hM : k.toNatClampNeg = K) (hb1 : N ≤ 1100) (hb2 : K ≤ 1100) (hcells : cells + (1 + N) ≤ R.cells) (hslots : slots + (N + N * K) ≤ R.slots) (hdg : decode cc pc = .ok (.multianewarray index 2, 4))
    (kk : ∀ (cA comp : ClassId) (H1 : Heap), s.vm.findClass ("[" ++ (FieldType.array .int).toString) = some cA → s.vm.findClass (FieldType.array .int).toString = some comp → H1.size = H.size + 1 + N → (∀ q : Nat, q < H.size → H1[q]? = H[q]?) →
      H1[H.size]? = some (arrV cA N (fun j => if j < N then .ref (H.size + 1 + j) else .null)) → (∀ j : Nat, j < N → H1[H.size + 1 + j]? = some (arrV comp K (fun _ => .int 0))) →
      W p l e R s m args below meth c H1 locs (cells + 1 + N) (slots + N + N * K) Q (F0 m (pc + 4) ls (.ref H.size :: rest))) : W p l e R s m args below meth c H locs cells slots Q (F0 m pc ls (.int k :: .int n :: rest)) := by
  subst hb
  intro T hT X
  subst hT
  obtain ⟨b, a, ka, fb, -, ca, da, fa⟩ := arrayOverA_spec hover
  obtain ⟨b', kb, bb, fb', cb, db⟩ := Cond.arrayClass_spec harr
  cases Option.some.inj (fb'.symm.trans fb)
  obtain ⟨a', fa', lk⟩ := Cond.classLink_spec hown hclink e.platform (by rw [X.admits.platform])
  cases Option.some.inj (fa'.symm.trans fa)
  obtain ⟨gv, wv, -⟩ := State.classEntry (e := e) X.warmed lk
  generalize T.vm.noted m.cls index (.cls a) = V at gv wv
  obtain ⟨ka1, ca1, ea⟩ := wv.alike.2.2 _ _ ca
  obtain ⟨kb1, cb1, eb⟩ := wv.alike.2.2 _ _ cb
  have da1 : ka1.kind = .array b (.array .int) := by rw [ea]; exact da
  have db1 : kb1.kind = .array bb .int := by rw [eb]; exact db
  obtain ⟨r1, r2⟩ := X.roomAbove hcells hslots
  have XE := xr_stand (X.noted wv) a b N K N
  obtain ⟨t, st, qt⟩ := kk a b (xr_at (T.setVm V) a b N K N).heap fa fb (xr_size _ _ _ _ _ _) (fun q hq => xr_old _ _ _ _ _ _ hq) (xr_outer _ _ _ _ _ _) (fun j hj => xr_inner _ _ _ _ _ _ hj) _ rfl XE
  refine ⟨t, ?_, qt⟩
  have l1 : ¬ n.toNatClampNeg > e.platform.arrayLengthLimit := by rw [Launch.admits_arrayLengthLimit X.admits]; omega
  have l2 : ¬ n.toNatClampNeg * componentBytes (.array .int) > e.platform.maxHeapBytes := by
    rw [Launch.admits_maxHeapBytes X.admits]
    show ¬ n.toNatClampNeg * 4 > 536870912
    omega
  have l3 : ¬ k.toNatClampNeg > e.platform.arrayLengthLimit := by rw [Launch.admits_arrayLengthLimit X.admits]; omega
  have l4 : ¬ k.toNatClampNeg * componentBytes .int > e.platform.maxHeapBytes := by
    rw [Launch.admits_maxHeapBytes X.admits]
    show ¬ k.toNatClampNeg * 4 > 536870912
    omega
  subst hN
  subst hM
  jvm_step X.here [hexec, hdg]
  simp only [multianewarray.sem, wp_bind', W.resolveClassAt_links (t := T.setTop (F0 m pc ls (.int k :: .int n :: rest))) (mm := m) (vm' := V) (State.method?_setTop _ X.here.top) gv]
  rw [W.popN, if_neg (by decide)]
  refine ⟨_, State.topJava?_setTop' (s := T.setVm V) _ X.here.top, [.int n, .int k], rest, rfl, rfl, ?_⟩
  simp only [List.mapM_cons, List.mapM_nil, wp_bind', wp_pure']
  rw [State.setVm_setTop, State.setTop_setTop]
  refine xr_two (T := (T.setVm V).setTop (F0 m pc ls rest)) (kb := kb1) (ka := ka1) cb1 db1 hk l3 l4 ca1 da1 hn l1 l2 r1 r2 fun d' acts' => ?_
  show wp _ _ _ e d' acts' ((xr_at (T.setVm V) a b n.toNatClampNeg k.toNatClampNeg n.toNatClampNeg).setTop (F0 m pc ls rest))
  simp only [wp_bind', W.mark, W.pushRef, State.topJava?_setTop' _ XE.here.top, Option.some.injEq, exists_eq_left', State.setTop_setTop, State.heap_setTop]
  intro acts
  simp [jvm, XE.here.top]
  exact st
end XMN
end
section
-- ===== PART A: goes FIRST, ahead of the names: the tables' words, and 'selects' of the private methods out of them =====
/-- a private method of a class that the tables say can be made, by its rows of tables_1 -/
def lw_okq (q : MethodName × Nat) : Prop := (q.1.cls ≠ "java/lang/invoke/MethodHandle" ∧ q.1.cls ≠ "java/lang/invoke/VarHandle") ∧ Cond.instantiable q.1.cls q.2 ∈ tables_1 ∧ Cond.privateMethod q.1 ∈ tables_1 ∧ Cond.instanceMethod q.1 ∈ tables_1
theorem lw_p0 : lw_okq (⟨"RentedViews", "refuse", "(I)I"⟩, 9) := ⟨⟨by decide +kernel, by decide +kernel⟩, List.mem_of_getElem? (i := 22) (by decide +kernel), List.mem_of_getElem? (i := 340) (by decide +kernel), List.mem_of_getElem? (i := 341) (by decide +kernel)⟩
theorem lw_p1 : lw_okq (⟨"RentedViews", "isView", "(I)Z"⟩, 9) := ⟨⟨by decide +kernel, by decide +kernel⟩, List.mem_of_getElem? (i := 22) (by decide +kernel), List.mem_of_getElem? (i := 363) (by decide +kernel), List.mem_of_getElem? (i := 364) (by decide +kernel)⟩
theorem lw_p2 : lw_okq (⟨"RentedViews$Reader", "step", "()V"⟩, 6) := ⟨⟨by decide +kernel, by decide +kernel⟩, List.mem_of_getElem? (i := 32) (by decide +kernel), List.mem_of_getElem? (i := 388) (by decide +kernel), List.mem_of_getElem? (i := 389) (by decide +kernel)⟩
theorem lw_p3 : lw_okq (⟨"RentedViews$Reader", "sortAt", "(I)I"⟩, 6) := ⟨⟨by decide +kernel, by decide +kernel⟩, List.mem_of_getElem? (i := 32) (by decide +kernel), List.mem_of_getElem? (i := 392) (by decide +kernel), List.mem_of_getElem? (i := 393) (by decide +kernel)⟩
theorem lw_p4 : lw_okq (⟨"RentedViews$Reader", "isWord", "(Ljava/lang/String;)Z"⟩, 6) := ⟨⟨by decide +kernel, by decide +kernel⟩, List.mem_of_getElem? (i := 32) (by decide +kernel), List.mem_of_getElem? (i := 397) (by decide +kernel), List.mem_of_getElem? (i := 398) (by decide +kernel)⟩
theorem lw_p5 : lw_okq (⟨"RentedViews$Reader", "passMark", "()Z"⟩, 6) := ⟨⟨by decide +kernel, by decide +kernel⟩, List.mem_of_getElem? (i := 32) (by decide +kernel), List.mem_of_getElem? (i := 449) (by decide +kernel), List.mem_of_getElem? (i := 450) (by decide +kernel)⟩
theorem lw_p6 : lw_okq (⟨"RentedViews$Reader", "readItem", "(LRentedViews$Shop;)Z"⟩, 6) := ⟨⟨by decide +kernel, by decide +kernel⟩, List.mem_of_getElem? (i := 32) (by decide +kernel), List.mem_of_getElem? (i := 453) (by decide +kernel), List.mem_of_getElem? (i := 454) (by decide +kernel)⟩
theorem lw_p7 : lw_okq (⟨"RentedViews$Reader", "readView", "(LRentedViews$Shop;)Z"⟩, 6) := ⟨⟨by decide +kernel, by decide +kernel⟩, List.mem_of_getElem? (i := 32) (by decide +kernel), List.mem_of_getElem? (i := 458) (by decide +kernel), List.mem_of_getElem? (i := 459) (by decide +kernel)⟩
theorem lw_p8 : lw_okq (⟨"RentedViews$Reader", "passNumber", "(III)Z"⟩, 6) := ⟨⟨by decide +kernel, by decide +kernel⟩, List.mem_of_getElem? (i := 32) (by decide +kernel), List.mem_of_getElem? (i := 462) (by decide +kernel), List.mem_of_getElem? (i := 463) (by decide +kernel)⟩
theorem lw_p9 : lw_okq (⟨"RentedViews$Reader", "numberMet", "()I"⟩, 6) := ⟨⟨by decide +kernel, by decide +kernel⟩, List.mem_of_getElem? (i := 32) (by decide +kernel), List.mem_of_getElem? (i := 466) (by decide +kernel), List.mem_of_getElem? (i := 467) (by decide +kernel)⟩
theorem lw_p10 : lw_okq (⟨"RentedViews$Reader", "readRenter", "(LRentedViews$Shop;)Z"⟩, 6) := ⟨⟨by decide +kernel, by decide +kernel⟩, List.mem_of_getElem? (i := 32) (by decide +kernel), List.mem_of_getElem? (i := 473) (by decide +kernel), List.mem_of_getElem? (i := 474) (by decide +kernel)⟩
theorem lw_p11 : lw_okq (⟨"RentedViews$Reader", "readThing", "(LRentedViews$Shop;)Z"⟩, 6) := ⟨⟨by decide +kernel, by decide +kernel⟩, List.mem_of_getElem? (i := 32) (by decide +kernel), List.mem_of_getElem? (i := 479) (by decide +kernel), List.mem_of_getElem? (i := 480) (by decide +kernel)⟩
theorem lw_p12 : lw_okq (⟨"RentedViews", "isRenter", "(I)Z"⟩, 9) := ⟨⟨by decide +kernel, by decide +kernel⟩, List.mem_of_getElem? (i := 22) (by decide +kernel), List.mem_of_getElem? (i := 487) (by decide +kernel), List.mem_of_getElem? (i := 488) (by decide +kernel)⟩
theorem lw_p13 : lw_okq (⟨"RentedViews$Shop", "moveOldestToEnd", "()V"⟩, 17) := ⟨⟨by decide +kernel, by decide +kernel⟩, List.mem_of_getElem? (i := 108) (by decide +kernel), List.mem_of_getElem? (i := 550) (by decide +kernel), List.mem_of_getElem? (i := 551) (by decide +kernel)⟩
theorem lw_p14 : lw_okq (⟨"RentedViews$Book", "dropFirstLetting", "()V"⟩, 8) := ⟨⟨by decide +kernel, by decide +kernel⟩, List.mem_of_getElem? (i := 157) (by decide +kernel), List.mem_of_getElem? (i := 566) (by decide +kernel), List.mem_of_getElem? (i := 567) (by decide +kernel)⟩
theorem lw_p15 : lw_okq (⟨"RentedViews", "refuseApart", "()I"⟩, 9) := ⟨⟨by decide +kernel, by decide +kernel⟩, List.mem_of_getElem? (i := 22) (by decide +kernel), List.mem_of_getElem? (i := 587) (by decide +kernel), List.mem_of_getElem? (i := 588) (by decide +kernel)⟩
def lw_privs_1 : List (MethodName × Nat) := [(⟨"RentedViews", "refuse", "(I)I"⟩, 9), (⟨"RentedViews", "isView", "(I)Z"⟩, 9), (⟨"RentedViews$Reader", "step", "()V"⟩, 6), (⟨"RentedViews$Reader", "sortAt", "(I)I"⟩, 6), (⟨"RentedViews$Reader", "isWord", "(Ljava/lang/String;)Z"⟩, 6), (⟨"RentedViews$Reader", "passMark", "()Z"⟩, 6), (⟨"RentedViews$Reader", "readItem", "(LRentedViews$Shop;)Z"⟩, 6), (⟨"RentedViews$Reader", "readView", "(LRentedViews$Shop;)Z"⟩, 6), (⟨"RentedViews$Reader", "passNumber", "(III)Z"⟩, 6), (⟨"RentedViews$Reader", "numberMet", "()I"⟩, 6), (⟨"RentedViews$Reader", "readRenter", "(LRentedViews$Shop;)Z"⟩, 6), (⟨"RentedViews$Reader", "readThing", "(LRentedViews$Shop;)Z"⟩, 6), (⟨"RentedViews", "isRenter", "(I)Z"⟩, 9), (⟨"RentedViews$Shop", "moveOldestToEnd", "()V"⟩, 17), (⟨"RentedViews$Book", "dropFirstLetting", "()V"⟩, 8), (⟨"RentedViews", "refuseApart", "()I"⟩, 9)]
theorem lw_r1 : ∀ q ∈ lw_privs_1, lw_okq q := List.forall_mem_cons.mpr ⟨lw_p0, List.forall_mem_cons.mpr ⟨lw_p1, List.forall_mem_cons.mpr ⟨lw_p2, List.forall_mem_cons.mpr ⟨lw_p3, List.forall_mem_cons.mpr ⟨lw_p4, List.forall_mem_cons.mpr ⟨lw_p5, List.forall_mem_cons.mpr ⟨lw_p6, List.forall_mem_cons.mpr ⟨lw_p7, List.forall_mem_cons.mpr ⟨lw_p8, List.forall_mem_cons.mpr ⟨lw_p9, List.forall_mem_cons.mpr ⟨lw_p10, List.forall_mem_cons.mpr ⟨lw_p11, List.forall_mem_cons.mpr ⟨lw_p12, List.forall_mem_cons.mpr ⟨lw_p13, List.forall_mem_cons.mpr ⟨lw_p14, List.forall_mem_cons.mpr ⟨lw_p15, fun _ h => absurd h List.not_mem_nil⟩⟩⟩⟩⟩⟩⟩⟩⟩⟩⟩⟩⟩⟩⟩⟩
theorem lw_p16 : lw_okq (⟨"RentedViews$Chooser", "suitsAtAnyPrice", "(LRentedViews$Shop;III)Z"⟩, 7) := ⟨⟨by decide +kernel, by decide +kernel⟩, List.mem_of_getElem? (i := 61) (by decide +kernel), List.mem_of_getElem? (i := 645) (by decide +kernel), List.mem_of_getElem? (i := 646) (by decide +kernel)⟩
theorem lw_p17 : lw_okq (⟨"RentedViews$Chooser", "mostFor", "(II)I"⟩, 7) := ⟨⟨by decide +kernel, by decide +kernel⟩, List.mem_of_getElem? (i := 61) (by decide +kernel), List.mem_of_getElem? (i := 663) (by decide +kernel), List.mem_of_getElem? (i := 664) (by decide +kernel)⟩
theorem lw_p18 : lw_okq (⟨"RentedViews$Chooser", "firstBest", "(II)I"⟩, 7) := ⟨⟨by decide +kernel, by decide +kernel⟩, List.mem_of_getElem? (i := 61) (by decide +kernel), List.mem_of_getElem? (i := 677) (by decide +kernel), List.mem_of_getElem? (i := 678) (by decide +kernel)⟩
theorem lw_p19 : lw_okq (⟨"RentedViews$Chooser", "dearest", "(I)I"⟩, 7) := ⟨⟨by decide +kernel, by decide +kernel⟩, List.mem_of_getElem? (i := 61) (by decide +kernel), List.mem_of_getElem? (i := 696) (by decide +kernel), List.mem_of_getElem? (i := 697) (by decide +kernel)⟩
theorem lw_p20 : lw_okq (⟨"RentedViews$Chooser", "solveWithout", "(I)I"⟩, 7) := ⟨⟨by decide +kernel, by decide +kernel⟩, List.mem_of_getElem? (i := 61) (by decide +kernel), List.mem_of_getElem? (i := 715) (by decide +kernel), List.mem_of_getElem? (i := 716) (by decide +kernel)⟩
theorem lw_p21 : lw_okq (⟨"RentedViews$Chooser", "mostAtFee", "(LRentedViews$Shop;II)I"⟩, 7) := ⟨⟨by decide +kernel, by decide +kernel⟩, List.mem_of_getElem? (i := 61) (by decide +kernel), List.mem_of_getElem? (i := 720) (by decide +kernel), List.mem_of_getElem? (i := 721) (by decide +kernel)⟩
theorem lw_p22 : lw_okq (⟨"RentedViews", "isPair", "(I)Z"⟩, 9) := ⟨⟨by decide +kernel, by decide +kernel⟩, List.mem_of_getElem? (i := 22) (by decide +kernel), List.mem_of_getElem? (i := 729) (by decide +kernel), List.mem_of_getElem? (i := 730) (by decide +kernel)⟩
theorem lw_p23 : lw_okq (⟨"RentedViews$Shop", "airOf", "(II)I"⟩, 17) := ⟨⟨by decide +kernel, by decide +kernel⟩, List.mem_of_getElem? (i := 108) (by decide +kernel), List.mem_of_getElem? (i := 737) (by decide +kernel), List.mem_of_getElem? (i := 738) (by decide +kernel)⟩
theorem lw_p24 : lw_okq (⟨"RentedViews$Guesser", "mostAlike", "(LRentedViews$Shop;I)I"⟩, 3) := ⟨⟨by decide +kernel, by decide +kernel⟩, List.mem_of_getElem? (i := 91) (by decide +kernel), List.mem_of_getElem? (i := 804) (by decide +kernel), List.mem_of_getElem? (i := 805) (by decide +kernel)⟩
theorem lw_p25 : lw_okq (⟨"RentedViewsModel", "views", "()I"⟩, 27) := ⟨⟨by decide +kernel, by decide +kernel⟩, List.mem_of_getElem? (i := 879) (by decide +kernel), List.mem_of_getElem? (i := 971) (by decide +kernel), List.mem_of_getElem? (i := 972) (by decide +kernel)⟩
theorem lw_p26 : lw_okq (⟨"RentedViewsModel", "bad", "(I)I"⟩, 27) := ⟨⟨by decide +kernel, by decide +kernel⟩, List.mem_of_getElem? (i := 879) (by decide +kernel), List.mem_of_getElem? (i := 994) (by decide +kernel), List.mem_of_getElem? (i := 995) (by decide +kernel)⟩
theorem lw_p27 : lw_okq (⟨"RentedViewsModel", "full", "()I"⟩, 27) := ⟨⟨by decide +kernel, by decide +kernel⟩, List.mem_of_getElem? (i := 879) (by decide +kernel), List.mem_of_getElem? (i := 998) (by decide +kernel), List.mem_of_getElem? (i := 999) (by decide +kernel)⟩
theorem lw_p28 : lw_okq (⟨"RentedViewsModel", "renters", "()I"⟩, 27) := ⟨⟨by decide +kernel, by decide +kernel⟩, List.mem_of_getElem? (i := 879) (by decide +kernel), List.mem_of_getElem? (i := 1014) (by decide +kernel), List.mem_of_getElem? (i := 1015) (by decide +kernel)⟩
theorem lw_p29 : lw_okq (⟨"RentedViewsModel", "isView", "(I)Z"⟩, 27) := ⟨⟨by decide +kernel, by decide +kernel⟩, List.mem_of_getElem? (i := 879) (by decide +kernel), List.mem_of_getElem? (i := 1025) (by decide +kernel), List.mem_of_getElem? (i := 1026) (by decide +kernel)⟩
theorem lw_p30 : lw_okq (⟨"RentedViewsModel", "viewHas", "(II)I"⟩, 27) := ⟨⟨by decide +kernel, by decide +kernel⟩, List.mem_of_getElem? (i := 879) (by decide +kernel), List.mem_of_getElem? (i := 1030) (by decide +kernel), List.mem_of_getElem? (i := 1031) (by decide +kernel)⟩
theorem lw_p31 : lw_okq (⟨"RentedViewsModel", "isRenter", "(I)Z"⟩, 27) := ⟨⟨by decide +kernel, by decide +kernel⟩, List.mem_of_getElem? (i := 879) (by decide +kernel), List.mem_of_getElem? (i := 1038) (by decide +kernel), List.mem_of_getElem? (i := 1039) (by decide +kernel)⟩
def lw_privs_2 : List (MethodName × Nat) := [(⟨"RentedViews$Chooser", "suitsAtAnyPrice", "(LRentedViews$Shop;III)Z"⟩, 7), (⟨"RentedViews$Chooser", "mostFor", "(II)I"⟩, 7), (⟨"RentedViews$Chooser", "firstBest", "(II)I"⟩, 7), (⟨"RentedViews$Chooser", "dearest", "(I)I"⟩, 7), (⟨"RentedViews$Chooser", "solveWithout", "(I)I"⟩, 7), (⟨"RentedViews$Chooser", "mostAtFee", "(LRentedViews$Shop;II)I"⟩, 7), (⟨"RentedViews", "isPair", "(I)Z"⟩, 9), (⟨"RentedViews$Shop", "airOf", "(II)I"⟩, 17), (⟨"RentedViews$Guesser", "mostAlike", "(LRentedViews$Shop;I)I"⟩, 3), (⟨"RentedViewsModel", "views", "()I"⟩, 27), (⟨"RentedViewsModel", "bad", "(I)I"⟩, 27), (⟨"RentedViewsModel", "full", "()I"⟩, 27), (⟨"RentedViewsModel", "renters", "()I"⟩, 27), (⟨"RentedViewsModel", "isView", "(I)Z"⟩, 27), (⟨"RentedViewsModel", "viewHas", "(II)I"⟩, 27), (⟨"RentedViewsModel", "isRenter", "(I)Z"⟩, 27)]
theorem lw_r2 : ∀ q ∈ lw_privs_2, lw_okq q := List.forall_mem_cons.mpr ⟨lw_p16, List.forall_mem_cons.mpr ⟨lw_p17, List.forall_mem_cons.mpr ⟨lw_p18, List.forall_mem_cons.mpr ⟨lw_p19, List.forall_mem_cons.mpr ⟨lw_p20, List.forall_mem_cons.mpr ⟨lw_p21, List.forall_mem_cons.mpr ⟨lw_p22, List.forall_mem_cons.mpr ⟨lw_p23, List.forall_mem_cons.mpr ⟨lw_p24, List.forall_mem_cons.mpr ⟨lw_p25, List.forall_mem_cons.mpr ⟨lw_p26, List.forall_mem_cons.mpr ⟨lw_p27, List.forall_mem_cons.mpr ⟨lw_p28, List.forall_mem_cons.mpr ⟨lw_p29, List.forall_mem_cons.mpr ⟨lw_p30, List.forall_mem_cons.mpr ⟨lw_p31, fun _ h => absurd h List.not_mem_nil⟩⟩⟩⟩⟩⟩⟩⟩⟩⟩⟩⟩⟩⟩⟩⟩
theorem lw_p32 : lw_okq (⟨"RentedViewsModel", "layHand", "()V"⟩, 27) := ⟨⟨by decide +kernel, by decide +kernel⟩, List.mem_of_getElem? (i := 879) (by decide +kernel), List.mem_of_getElem? (i := 1042) (by decide +kernel), List.mem_of_getElem? (i := 1043) (by decide +kernel)⟩
theorem lw_p33 : lw_okq (⟨"RentedViewsModel", "renterHas", "(II)I"⟩, 27) := ⟨⟨by decide +kernel, by decide +kernel⟩, List.mem_of_getElem? (i := 879) (by decide +kernel), List.mem_of_getElem? (i := 1049) (by decide +kernel), List.mem_of_getElem? (i := 1050) (by decide +kernel)⟩
theorem lw_p34 : lw_okq (⟨"RentedViewsModel", "viewOf", "(I)I"⟩, 27) := ⟨⟨by decide +kernel, by decide +kernel⟩, List.mem_of_getElem? (i := 879) (by decide +kernel), List.mem_of_getElem? (i := 1053) (by decide +kernel), List.mem_of_getElem? (i := 1054) (by decide +kernel)⟩
theorem lw_p35 : lw_okq (⟨"RentedViewsModel", "fits", "(II)Z"⟩, 27) := ⟨⟨by decide +kernel, by decide +kernel⟩, List.mem_of_getElem? (i := 879) (by decide +kernel), List.mem_of_getElem? (i := 1057) (by decide +kernel), List.mem_of_getElem? (i := 1058) (by decide +kernel)⟩
theorem lw_p36 : lw_okq (⟨"RentedViewsModel", "no", "()I"⟩, 27) := ⟨⟨by decide +kernel, by decide +kernel⟩, List.mem_of_getElem? (i := 879) (by decide +kernel), List.mem_of_getElem? (i := 1061) (by decide +kernel), List.mem_of_getElem? (i := 1062) (by decide +kernel)⟩
theorem lw_p37 : lw_okq (⟨"RentedViewsModel", "keep", "()V"⟩, 27) := ⟨⟨by decide +kernel, by decide +kernel⟩, List.mem_of_getElem? (i := 879) (by decide +kernel), List.mem_of_getElem? (i := 1065) (by decide +kernel), List.mem_of_getElem? (i := 1066) (by decide +kernel)⟩
theorem lw_p38 : lw_okq (⟨"RentedViewsModel", "remember", "(II)V"⟩, 27) := ⟨⟨by decide +kernel, by decide +kernel⟩, List.mem_of_getElem? (i := 879) (by decide +kernel), List.mem_of_getElem? (i := 1069) (by decide +kernel), List.mem_of_getElem? (i := 1070) (by decide +kernel)⟩
theorem lw_p39 : lw_okq (⟨"RentedViewsModel", "showsIn", "(II)I"⟩, 27) := ⟨⟨by decide +kernel, by decide +kernel⟩, List.mem_of_getElem? (i := 879) (by decide +kernel), List.mem_of_getElem? (i := 1086) (by decide +kernel), List.mem_of_getElem? (i := 1087) (by decide +kernel)⟩
theorem lw_p40 : lw_okq (⟨"RentedViewsModel", "doesSuit", "(III)Z"⟩, 27) := ⟨⟨by decide +kernel, by decide +kernel⟩, List.mem_of_getElem? (i := 879) (by decide +kernel), List.mem_of_getElem? (i := 1112) (by decide +kernel), List.mem_of_getElem? (i := 1113) (by decide +kernel)⟩
theorem lw_p41 : lw_okq (⟨"RentedViewsModel", "layBest", "(I)V"⟩, 27) := ⟨⟨by decide +kernel, by decide +kernel⟩, List.mem_of_getElem? (i := 879) (by decide +kernel), List.mem_of_getElem? (i := 1121) (by decide +kernel), List.mem_of_getElem? (i := 1122) (by decide +kernel)⟩
theorem lw_p42 : lw_okq (⟨"RentedViewsModel", "laySuit", "(I)V"⟩, 27) := ⟨⟨by decide +kernel, by decide +kernel⟩, List.mem_of_getElem? (i := 879) (by decide +kernel), List.mem_of_getElem? (i := 1125) (by decide +kernel), List.mem_of_getElem? (i := 1126) (by decide +kernel)⟩
theorem lw_p43 : lw_okq (⟨"RentedViewsModel", "judgeRow", "()V"⟩, 27) := ⟨⟨by decide +kernel, by decide +kernel⟩, List.mem_of_getElem? (i := 879) (by decide +kernel), List.mem_of_getElem? (i := 1129) (by decide +kernel), List.mem_of_getElem? (i := 1130) (by decide +kernel)⟩
theorem lw_p44 : lw_okq (⟨"RentedViewsModel", "freeBut", "(I)I"⟩, 27) := ⟨⟨by decide +kernel, by decide +kernel⟩, List.mem_of_getElem? (i := 879) (by decide +kernel), List.mem_of_getElem? (i := 1133) (by decide +kernel), List.mem_of_getElem? (i := 1134) (by decide +kernel)⟩
theorem lw_p45 : lw_okq (⟨"RentedViewsModel", "nextView", "(II)I"⟩, 27) := ⟨⟨by decide +kernel, by decide +kernel⟩, List.mem_of_getElem? (i := 879) (by decide +kernel), List.mem_of_getElem? (i := 1137) (by decide +kernel), List.mem_of_getElem? (i := 1138) (by decide +kernel)⟩
theorem lw_p46 : lw_okq (⟨"RentedViewsModel", "allRenters", "()I"⟩, 27) := ⟨⟨by decide +kernel, by decide +kernel⟩, List.mem_of_getElem? (i := 879) (by decide +kernel), List.mem_of_getElem? (i := 1150) (by decide +kernel), List.mem_of_getElem? (i := 1151) (by decide +kernel)⟩
theorem lw_p47 : lw_okq (⟨"RentedViewsModel", "layCome", "(II)V"⟩, 27) := ⟨⟨by decide +kernel, by decide +kernel⟩, List.mem_of_getElem? (i := 879) (by decide +kernel), List.mem_of_getElem? (i := 1154) (by decide +kernel), List.mem_of_getElem? (i := 1155) (by decide +kernel)⟩
def lw_privs_3 : List (MethodName × Nat) := [(⟨"RentedViewsModel", "layHand", "()V"⟩, 27), (⟨"RentedViewsModel", "renterHas", "(II)I"⟩, 27), (⟨"RentedViewsModel", "viewOf", "(I)I"⟩, 27), (⟨"RentedViewsModel", "fits", "(II)Z"⟩, 27), (⟨"RentedViewsModel", "no", "()I"⟩, 27), (⟨"RentedViewsModel", "keep", "()V"⟩, 27), (⟨"RentedViewsModel", "remember", "(II)V"⟩, 27), (⟨"RentedViewsModel", "showsIn", "(II)I"⟩, 27), (⟨"RentedViewsModel", "doesSuit", "(III)Z"⟩, 27), (⟨"RentedViewsModel", "layBest", "(I)V"⟩, 27), (⟨"RentedViewsModel", "laySuit", "(I)V"⟩, 27), (⟨"RentedViewsModel", "judgeRow", "()V"⟩, 27), (⟨"RentedViewsModel", "freeBut", "(I)I"⟩, 27), (⟨"RentedViewsModel", "nextView", "(II)I"⟩, 27), (⟨"RentedViewsModel", "allRenters", "()I"⟩, 27), (⟨"RentedViewsModel", "layCome", "(II)V"⟩, 27)]
theorem lw_r3 : ∀ q ∈ lw_privs_3, lw_okq q := List.forall_mem_cons.mpr ⟨lw_p32, List.forall_mem_cons.mpr ⟨lw_p33, List.forall_mem_cons.mpr ⟨lw_p34, List.forall_mem_cons.mpr ⟨lw_p35, List.forall_mem_cons.mpr ⟨lw_p36, List.forall_mem_cons.mpr ⟨lw_p37, List.forall_mem_cons.mpr ⟨lw_p38, List.forall_mem_cons.mpr ⟨lw_p39, List.forall_mem_cons.mpr ⟨lw_p40, List.forall_mem_cons.mpr ⟨lw_p41, List.forall_mem_cons.mpr ⟨lw_p42, List.forall_mem_cons.mpr ⟨lw_p43, List.forall_mem_cons.mpr ⟨lw_p44, List.forall_mem_cons.mpr ⟨lw_p45, List.forall_mem_cons.mpr ⟨lw_p46, List.forall_mem_cons.mpr ⟨lw_p47, fun _ h => absurd h List.not_mem_nil⟩⟩⟩⟩⟩⟩⟩⟩⟩⟩⟩⟩⟩⟩⟩⟩
theorem lw_p48 : lw_okq (⟨"RentedViewsModel", "areOpposite", "(I)Z"⟩, 27) := ⟨⟨by decide +kernel, by decide +kernel⟩, List.mem_of_getElem? (i := 879) (by decide +kernel), List.mem_of_getElem? (i := 1170) (by decide +kernel), List.mem_of_getElem? (i := 1171) (by decide +kernel)⟩
theorem lw_p49 : lw_okq (⟨"RentedViewsModel", "mayBe", "(III)Z"⟩, 27) := ⟨⟨by decide +kernel, by decide +kernel⟩, List.mem_of_getElem? (i := 879) (by decide +kernel), List.mem_of_getElem? (i := 1195) (by decide +kernel), List.mem_of_getElem? (i := 1196) (by decide +kernel)⟩
theorem lw_p50 : lw_okq (⟨"RentedViewsModel", "mostLike", "(II)I"⟩, 27) := ⟨⟨by decide +kernel, by decide +kernel⟩, List.mem_of_getElem? (i := 879) (by decide +kernel), List.mem_of_getElem? (i := 1203) (by decide +kernel), List.mem_of_getElem? (i := 1204) (by decide +kernel)⟩
theorem lw_p51 : lw_okq (⟨"RentedViewsModel", "fraction", "(JJ)V"⟩, 27) := ⟨⟨by decide +kernel, by decide +kernel⟩, List.mem_of_getElem? (i := 879) (by decide +kernel), List.mem_of_getElem? (i := 1212) (by decide +kernel), List.mem_of_getElem? (i := 1213) (by decide +kernel)⟩
theorem lw_p52 : lw_okq (⟨"RentedViewsModel", "lookAt", "(I)V"⟩, 27) := ⟨⟨by decide +kernel, by decide +kernel⟩, List.mem_of_getElem? (i := 879) (by decide +kernel), List.mem_of_getElem? (i := 1240) (by decide +kernel), List.mem_of_getElem? (i := 1241) (by decide +kernel)⟩
theorem lw_p53 : lw_okq (⟨"RentedViewsModel", "isCalled", "(IIIIIII)Z"⟩, 27) := ⟨⟨by decide +kernel, by decide +kernel⟩, List.mem_of_getElem? (i := 879) (by decide +kernel), List.mem_of_getElem? (i := 1254) (by decide +kernel), List.mem_of_getElem? (i := 1255) (by decide +kernel)⟩
theorem lw_p54 : lw_okq (⟨"RentedViewsModel", "goBehind", "()V"⟩, 27) := ⟨⟨by decide +kernel, by decide +kernel⟩, List.mem_of_getElem? (i := 879) (by decide +kernel), List.mem_of_getElem? (i := 1258) (by decide +kernel), List.mem_of_getElem? (i := 1259) (by decide +kernel)⟩
theorem lw_p55 : lw_okq (⟨"RentedViewsModel", "takesItem", "()Z"⟩, 27) := ⟨⟨by decide +kernel, by decide +kernel⟩, List.mem_of_getElem? (i := 879) (by decide +kernel), List.mem_of_getElem? (i := 1262) (by decide +kernel), List.mem_of_getElem? (i := 1263) (by decide +kernel)⟩
theorem lw_p56 : lw_okq (⟨"RentedViewsModel", "takesView", "()Z"⟩, 27) := ⟨⟨by decide +kernel, by decide +kernel⟩, List.mem_of_getElem? (i := 879) (by decide +kernel), List.mem_of_getElem? (i := 1266) (by decide +kernel), List.mem_of_getElem? (i := 1267) (by decide +kernel)⟩
theorem lw_p57 : lw_okq (⟨"RentedViewsModel", "takes", "(III)Z"⟩, 27) := ⟨⟨by decide +kernel, by decide +kernel⟩, List.mem_of_getElem? (i := 879) (by decide +kernel), List.mem_of_getElem? (i := 1270) (by decide +kernel), List.mem_of_getElem? (i := 1271) (by decide +kernel)⟩
theorem lw_p58 : lw_okq (⟨"RentedViewsModel", "takesRenter", "()Z"⟩, 27) := ⟨⟨by decide +kernel, by decide +kernel⟩, List.mem_of_getElem? (i := 879) (by decide +kernel), List.mem_of_getElem? (i := 1274) (by decide +kernel), List.mem_of_getElem? (i := 1275) (by decide +kernel)⟩
theorem lw_p59 : lw_okq (⟨"RentedViewsModel", "takesThing", "()Z"⟩, 27) := ⟨⟨by decide +kernel, by decide +kernel⟩, List.mem_of_getElem? (i := 879) (by decide +kernel), List.mem_of_getElem? (i := 1278) (by decide +kernel), List.mem_of_getElem? (i := 1279) (by decide +kernel)⟩
theorem lw_p60 : lw_okq (⟨"RentedViewsModel", "counted", "(I)I"⟩, 27) := ⟨⟨by decide +kernel, by decide +kernel⟩, List.mem_of_getElem? (i := 879) (by decide +kernel), List.mem_of_getElem? (i := 1303) (by decide +kernel), List.mem_of_getElem? (i := 1304) (by decide +kernel)⟩
theorem lw_p61 : lw_okq (⟨"RentedViewsModel", "manyLet", "()I"⟩, 27) := ⟨⟨by decide +kernel, by decide +kernel⟩, List.mem_of_getElem? (i := 879) (by decide +kernel), List.mem_of_getElem? (i := 1307) (by decide +kernel), List.mem_of_getElem? (i := 1308) (by decide +kernel)⟩
theorem lw_p62 : lw_okq (⟨"RentedViewsModel", "sums", "(JII)J"⟩, 27) := ⟨⟨by decide +kernel, by decide +kernel⟩, List.mem_of_getElem? (i := 879) (by decide +kernel), List.mem_of_getElem? (i := 1317) (by decide +kernel), List.mem_of_getElem? (i := 1318) (by decide +kernel)⟩
def lw_privs_4 : List (MethodName × Nat) := [(⟨"RentedViewsModel", "areOpposite", "(I)Z"⟩, 27), (⟨"RentedViewsModel", "mayBe", "(III)Z"⟩, 27), (⟨"RentedViewsModel", "mostLike", "(II)I"⟩, 27), (⟨"RentedViewsModel", "fraction", "(JJ)V"⟩, 27), (⟨"RentedViewsModel", "lookAt", "(I)V"⟩, 27), (⟨"RentedViewsModel", "isCalled", "(IIIIIII)Z"⟩, 27), (⟨"RentedViewsModel", "goBehind", "()V"⟩, 27), (⟨"RentedViewsModel", "takesItem", "()Z"⟩, 27), (⟨"RentedViewsModel", "takesView", "()Z"⟩, 27), (⟨"RentedViewsModel", "takes", "(III)Z"⟩, 27), (⟨"RentedViewsModel", "takesRenter", "()Z"⟩, 27), (⟨"RentedViewsModel", "takesThing", "()Z"⟩, 27), (⟨"RentedViewsModel", "counted", "(I)I"⟩, 27), (⟨"RentedViewsModel", "manyLet", "()I"⟩, 27), (⟨"RentedViewsModel", "sums", "(JII)J"⟩, 27)]
theorem lw_r4 : ∀ q ∈ lw_privs_4, lw_okq q := List.forall_mem_cons.mpr ⟨lw_p48, List.forall_mem_cons.mpr ⟨lw_p49, List.forall_mem_cons.mpr ⟨lw_p50, List.forall_mem_cons.mpr ⟨lw_p51, List.forall_mem_cons.mpr ⟨lw_p52, List.forall_mem_cons.mpr ⟨lw_p53, List.forall_mem_cons.mpr ⟨lw_p54, List.forall_mem_cons.mpr ⟨lw_p55, List.forall_mem_cons.mpr ⟨lw_p56, List.forall_mem_cons.mpr ⟨lw_p57, List.forall_mem_cons.mpr ⟨lw_p58, List.forall_mem_cons.mpr ⟨lw_p59, List.forall_mem_cons.mpr ⟨lw_p60, List.forall_mem_cons.mpr ⟨lw_p61, List.forall_mem_cons.mpr ⟨lw_p62, fun _ h => absurd h List.not_mem_nil⟩⟩⟩⟩⟩⟩⟩⟩⟩⟩⟩⟩⟩⟩⟩
def lw_privs : List (MethodName × Nat) := lw_privs_1 ++ (lw_privs_2 ++ (lw_privs_3 ++ (lw_privs_4)))
def lw_tbl : List Cond := k2_sels lw_privs ++ tables_1
theorem lw_privs_ok : ∀ q ∈ lw_privs, lw_okq q := by
  show ∀ q ∈ lw_privs_1 ++ (lw_privs_2 ++ (lw_privs_3 ++ (lw_privs_4))), lw_okq q
  exact List.forall_mem_append.mpr ⟨lw_r1, List.forall_mem_append.mpr ⟨lw_r2, List.forall_mem_append.mpr ⟨lw_r3, lw_r4⟩⟩⟩
end
section
def RX0 : String := "RentedViews$Book"
def TX0 : u_T := fun k => match k with
  | 0 => ("RentedViews$Book", "evening", "I", false)
  | 1 => ("RentedViews$Book", "takings", "I", false)
  | 2 => ("RentedViews$Book", "lettings", "I", false)
  | 3 => ("RentedViews$Book", "purse", "[I", true)
  | 4 => ("RentedViews$Book", "tenant", "[I", true)
  | 5 => ("RentedViews$Book", "letView", "[I", true)
  | 6 => ("RentedViews$Book", "letRenter", "[I", true)
  | _ => ("RentedViews$Book", "letEvening", "[I", true)
def tyX0 : Nat → FieldType := fun k => match k with
  | 0 => .int
  | 1 => .int
  | 2 => .int
  | 3 => .array .int
  | 4 => .array .int
  | 5 => .array .int
  | 6 => .array .int
  | _ => .array .int
abbrev wsX00 : List Cond := u_ws RX0 TX0 8
theorem nmX0 : ∀ a, a < 8 → ∀ b, b < 8 → a ≠ b → (TX0 a).2.1 ≠ (TX0 b).2.1 := by decide +kernel
theorem tyX0_ok : ∀ k, k < 8 → parseFieldDescriptor (TX0 k).2.2.1 = some (tyX0 k) := by decide +kernel
abbrev cX0_init : ByteArray := prog_2_method_1_code
def yX0_init : MethodName := ⟨RX0, "<init>", "()V"⟩
abbrev cX0_empty : ByteArray := prog_2_method_2_code
def yX0_empty : MethodName := ⟨RX0, "empty", "()V"⟩
abbrev cX0_copyFrom : ByteArray := prog_2_method_3_code
def yX0_copyFrom : MethodName := ⟨RX0, "copyFrom", "(LRentedViews$Book;)V"⟩
abbrev cX0_bringAllBack : ByteArray := prog_2_method_4_code
def yX0_bringAllBack : MethodName := ⟨RX0, "bringAllBack", "()V"⟩
abbrev cX0_write : ByteArray := prog_2_method_5_code
def yX0_write : MethodName := ⟨RX0, "write", "(III)V"⟩
abbrev cX0_dropFirstLetting : ByteArray := prog_2_method_6_code
def yX0_dropFirstLetting : MethodName := ⟨RX0, "dropFirstLetting", "()V"⟩
abbrev cX0_viewHeldBy : ByteArray := prog_2_method_7_code
def yX0_viewHeldBy : MethodName := ⟨RX0, "viewHeldBy", "(I)I"⟩
abbrev cX0_letNow : ByteArray := prog_2_method_8_code
def yX0_letNow : MethodName := ⟨RX0, "letNow", "()I"⟩
abbrev cX0_rentersWhoHad : ByteArray := prog_2_method_9_code
def yX0_rentersWhoHad : MethodName := ⟨RX0, "rentersWhoHad", "(I)I"⟩
abbrev cX0_firstEveningOf : ByteArray := prog_2_method_10_code
def yX0_firstEveningOf : MethodName := ⟨RX0, "firstEveningOf", "(I)I"⟩
def RX1 : String := "RentedViews$Bricks"
def TX1 : u_T := fun k => match k with
  | _ => ("", "", "", false)
def tyX1 : Nat → FieldType := fun k => match k with
  | _ => .int
abbrev wsX10 : List Cond := u_ws RX1 TX1 0
theorem nmX1 : ∀ a, a < 0 → ∀ b, b < 0 → a ≠ b → (TX1 a).2.1 ≠ (TX1 b).2.1 := by decide +kernel
theorem tyX1_ok : ∀ k, k < 0 → parseFieldDescriptor (TX1 k).2.2.1 = some (tyX1 k) := by decide +kernel
abbrev cX1_init : ByteArray := prog_3_method_1_code
def yX1_init : MethodName := ⟨RX1, "<init>", "()V"⟩
abbrev cX1_fee : ByteArray := prog_3_method_2_code
def yX1_fee : MethodName := ⟨RX1, "fee", "(I)I"⟩
abbrev cX1_fits : ByteArray := prog_3_method_3_code
def yX1_fits : MethodName := ⟨RX1, "fits", "(II)Z"⟩
def RX2 : String := "RentedViews$Chooser"
def TX2 : u_T := fun k => match k with
  | 0 => ("RentedViews$Chooser", "views", "I", false)
  | 1 => ("RentedViews$Chooser", "renters", "I", false)
  | 2 => ("RentedViews$Chooser", "suiting", "[I", true)
  | 3 => ("RentedViews$Chooser", "fee", "[I", true)
  | 4 => ("RentedViews$Chooser", "shown", "[I", true)
  | 5 => ("RentedViews$Chooser", "most", "[[I", true)
  | _ => ("RentedViews$Chooser", "having", "[I", true)
def tyX2 : Nat → FieldType := fun k => match k with
  | 0 => .int
  | 1 => .int
  | 2 => .array .int
  | 3 => .array .int
  | 4 => .array .int
  | 5 => .array (.array .int)
  | _ => .array .int
abbrev wsX20 : List Cond := u_ws RX2 TX2 7
theorem nmX2 : ∀ a, a < 7 → ∀ b, b < 7 → a ≠ b → (TX2 a).2.1 ≠ (TX2 b).2.1 := by decide +kernel
theorem tyX2_ok : ∀ k, k < 7 → parseFieldDescriptor (TX2 k).2.2.1 = some (tyX2 k) := by decide +kernel
abbrev cX2_init : ByteArray := prog_4_method_1_code
def yX2_init : MethodName := ⟨RX2, "<init>", "()V"⟩
abbrev cX2_suitedIn : ByteArray := prog_4_method_2_code
def yX2_suitedIn : MethodName := ⟨RX2, "suitedIn", "(I)I"⟩
abbrev cX2_moneyIn : ByteArray := prog_4_method_3_code
def yX2_moneyIn : MethodName := ⟨RX2, "moneyIn", "(I)I"⟩
abbrev cX2_open : ByteArray := prog_4_method_4_code
def yX2_open : MethodName := ⟨RX2, "open", "(LRentedViews$Shop;I)V"⟩
abbrev cX2_addRenter : ByteArray := prog_4_method_5_code
def yX2_addRenter : MethodName := ⟨RX2, "addRenter", "(LRentedViews$Shop;III)V"⟩
abbrev cX2_suitsAtAnyPrice : ByteArray := prog_4_method_6_code
def yX2_suitsAtAnyPrice : MethodName := ⟨RX2, "suitsAtAnyPrice", "(LRentedViews$Shop;III)Z"⟩
abbrev cX2_isSuited : ByteArray := prog_4_method_7_code
def yX2_isSuited : MethodName := ⟨RX2, "isSuited", "(II)Z"⟩
abbrev cX2_solve : ByteArray := prog_4_method_8_code
def yX2_solve : MethodName := ⟨RX2, "solve", "()I"⟩
abbrev cX2_mostFor : ByteArray := prog_4_method_9_code
def yX2_mostFor : MethodName := ⟨RX2, "mostFor", "(II)I"⟩
abbrev cX2_viewInBest : ByteArray := prog_4_method_10_code
def yX2_viewInBest : MethodName := ⟨RX2, "viewInBest", "(I)I"⟩
abbrev cX2_firstBest : ByteArray := prog_4_method_11_code
def yX2_firstBest : MethodName := ⟨RX2, "firstBest", "(II)I"⟩
abbrev cX2_asTheyCome : ByteArray := prog_4_method_12_code
def yX2_asTheyCome : MethodName := ⟨RX2, "asTheyCome", "(I)I"⟩
abbrev cX2_dearest : ByteArray := prog_4_method_13_code
def yX2_dearest : MethodName := ⟨RX2, "dearest", "(I)I"⟩
abbrev cX2_priceForMostMoney : ByteArray := prog_4_method_14_code
def yX2_priceForMostMoney : MethodName := ⟨RX2, "priceForMostMoney", "(LRentedViews$Shop;II)I"⟩
abbrev cX2_solveWithout : ByteArray := prog_4_method_15_code
def yX2_solveWithout : MethodName := ⟨RX2, "solveWithout", "(I)I"⟩
abbrev cX2_mostAtFee : ByteArray := prog_4_method_16_code
def yX2_mostAtFee : MethodName := ⟨RX2, "mostAtFee", "(LRentedViews$Shop;II)I"⟩
abbrev cX2_weighedMoney : ByteArray := prog_4_method_17_code
def yX2_weighedMoney : MethodName := ⟨RX2, "weighedMoney", "(I)J"⟩
abbrev cX2_suitedByDraw : ByteArray := prog_4_method_18_code
def yX2_suitedByDraw : MethodName := ⟨RX2, "suitedByDraw", "(LRentedViews$Shop;III)I"⟩
def RX3 : String := "RentedViews$Fire"
def TX3 : u_T := fun k => match k with
  | _ => ("", "", "", false)
def tyX3 : Nat → FieldType := fun k => match k with
  | _ => .int
abbrev wsX30 : List Cond := u_ws RX3 TX3 0
theorem nmX3 : ∀ a, a < 0 → ∀ b, b < 0 → a ≠ b → (TX3 a).2.1 ≠ (TX3 b).2.1 := by decide +kernel
theorem tyX3_ok : ∀ k, k < 0 → parseFieldDescriptor (TX3 k).2.2.1 = some (tyX3 k) := by decide +kernel
abbrev cX3_init : ByteArray := prog_5_method_1_code
def yX3_init : MethodName := ⟨RX3, "<init>", "()V"⟩
abbrev cX3_showing : ByteArray := prog_5_method_2_code
def yX3_showing : MethodName := ⟨RX3, "showing", "(II)I"⟩
abbrev cX3_fee : ByteArray := prog_5_method_3_code
def yX3_fee : MethodName := ⟨RX3, "fee", "(I)I"⟩
def RX4 : String := "RentedViews$Fogged"
def TX4 : u_T := fun k => match k with
  | _ => ("", "", "", false)
def tyX4 : Nat → FieldType := fun k => match k with
  | _ => .int
abbrev wsX40 : List Cond := u_ws RX4 TX4 0
theorem nmX4 : ∀ a, a < 0 → ∀ b, b < 0 → a ≠ b → (TX4 a).2.1 ≠ (TX4 b).2.1 := by decide +kernel
theorem tyX4_ok : ∀ k, k < 0 → parseFieldDescriptor (TX4 k).2.2.1 = some (tyX4 k) := by decide +kernel
abbrev cX4_init : ByteArray := prog_6_method_1_code
def yX4_init : MethodName := ⟨RX4, "<init>", "()V"⟩
abbrev cX4_showing : ByteArray := prog_6_method_2_code
def yX4_showing : MethodName := ⟨RX4, "showing", "(II)I"⟩
abbrev cX4_fee : ByteArray := prog_6_method_3_code
def yX4_fee : MethodName := ⟨RX4, "fee", "(I)I"⟩
def RX5 : String := "RentedViews$Guesser"
def TX5 : u_T := fun k => match k with
  | 0 => ("RentedViews$Guesser", "pairs", "I", false)
  | 1 => ("RentedViews$Guesser", "fitting", "[Z", true)
  | _ => ("RentedViews$Guesser", "alike", "[I", true)
def tyX5 : Nat → FieldType := fun k => match k with
  | 0 => .int
  | 1 => .array .boolean
  | _ => .array .int
abbrev wsX50 : List Cond := u_ws RX5 TX5 3
theorem nmX5 : ∀ a, a < 3 → ∀ b, b < 3 → a ≠ b → (TX5 a).2.1 ≠ (TX5 b).2.1 := by decide +kernel
theorem tyX5_ok : ∀ k, k < 3 → parseFieldDescriptor (TX5 k).2.2.1 = some (tyX5 k) := by decide +kernel
abbrev cX5_init : ByteArray := prog_7_method_1_code
def yX5_init : MethodName := ⟨RX5, "<init>", "()V"⟩
abbrev cX5_guess : ByteArray := prog_7_method_2_code
def yX5_guess : MethodName := ⟨RX5, "guess", "(LRentedViews$Shop;I)V"⟩
abbrev cX5_showing : ByteArray := prog_7_method_3_code
def yX5_showing : MethodName := ⟨RX5, "showing", "(LRentedViews$Shop;II)I"⟩
abbrev cX5_fitsReadings : ByteArray := prog_7_method_4_code
def yX5_fitsReadings : MethodName := ⟨RX5, "fitsReadings", "(LRentedViews$Shop;II)Z"⟩
abbrev cX5_kindBits : ByteArray := prog_7_method_5_code
def yX5_kindBits : MethodName := ⟨RX5, "kindBits", "()I"⟩
abbrev cX5_bestEvening : ByteArray := prog_7_method_6_code
def yX5_bestEvening : MethodName := ⟨RX5, "bestEvening", "(LRentedViews$Shop;)I"⟩
abbrev cX5_mostAlike : ByteArray := prog_7_method_7_code
def yX5_mostAlike : MethodName := ⟨RX5, "mostAlike", "(LRentedViews$Shop;I)I"⟩
def RX6 : String := "RentedViews$Kitchen"
def TX6 : u_T := fun k => match k with
  | _ => ("", "", "", false)
def tyX6 : Nat → FieldType := fun k => match k with
  | _ => .int
abbrev wsX60 : List Cond := u_ws RX6 TX6 0
theorem nmX6 : ∀ a, a < 0 → ∀ b, b < 0 → a ≠ b → (TX6 a).2.1 ≠ (TX6 b).2.1 := by decide +kernel
theorem tyX6_ok : ∀ k, k < 0 → parseFieldDescriptor (TX6 k).2.2.1 = some (tyX6 k) := by decide +kernel
abbrev cX6_init : ByteArray := prog_8_method_1_code
def yX6_init : MethodName := ⟨RX6, "<init>", "()V"⟩
abbrev cX6_showing : ByteArray := prog_8_method_2_code
def yX6_showing : MethodName := ⟨RX6, "showing", "(II)I"⟩
abbrev cX6_fee : ByteArray := prog_8_method_3_code
def yX6_fee : MethodName := ⟨RX6, "fee", "(I)I"⟩
def RX7 : String := "RentedViews$Lake"
def TX7 : u_T := fun k => match k with
  | _ => ("", "", "", false)
def tyX7 : Nat → FieldType := fun k => match k with
  | _ => .int
abbrev wsX70 : List Cond := u_ws RX7 TX7 0
theorem nmX7 : ∀ a, a < 0 → ∀ b, b < 0 → a ≠ b → (TX7 a).2.1 ≠ (TX7 b).2.1 := by decide +kernel
theorem tyX7_ok : ∀ k, k < 0 → parseFieldDescriptor (TX7 k).2.2.1 = some (tyX7 k) := by decide +kernel
abbrev cX7_init : ByteArray := prog_9_method_1_code
def yX7_init : MethodName := ⟨RX7, "<init>", "()V"⟩
abbrev cX7_showing : ByteArray := prog_9_method_2_code
def yX7_showing : MethodName := ⟨RX7, "showing", "(II)I"⟩
abbrev cX7_fee : ByteArray := prog_9_method_3_code
def yX7_fee : MethodName := ⟨RX7, "fee", "(I)I"⟩
abbrev cX7_fits : ByteArray := prog_9_method_4_code
def yX7_fits : MethodName := ⟨RX7, "fits", "(II)Z"⟩
def RX8 : String := "RentedViews$Reader"
def TX8 : u_T := fun k => match k with
  | 0 => ("RentedViews$Reader", "start", "I", false)
  | 1 => ("RentedViews$Reader", "length", "I", false)
  | 2 => ("RentedViews$Reader", "text", "[B", true)
  | 3 => ("RentedViews$Reader", "behind", "I", false)
  | 4 => ("RentedViews$Reader", "sort", "I", false)
  | _ => ("RentedViews$Reader", "told", "[I", true)
def tyX8 : Nat → FieldType := fun k => match k with
  | 0 => .int
  | 1 => .int
  | 2 => .array .byte
  | 3 => .int
  | 4 => .int
  | _ => .array .int
abbrev wsX80 : List Cond := u_ws RX8 TX8 6
theorem nmX8 : ∀ a, a < 6 → ∀ b, b < 6 → a ≠ b → (TX8 a).2.1 ≠ (TX8 b).2.1 := by decide +kernel
theorem tyX8_ok : ∀ k, k < 6 → parseFieldDescriptor (TX8 k).2.2.1 = some (tyX8 k) := by decide +kernel
abbrev cX8_init : ByteArray := prog_10_method_1_code
def yX8_init : MethodName := ⟨RX8, "<init>", "()V"⟩
abbrev cX8_add : ByteArray := prog_10_method_2_code
def yX8_add : MethodName := ⟨RX8, "add", "(B)V"⟩
abbrev cX8_readInto : ByteArray := prog_10_method_3_code
def yX8_readInto : MethodName := ⟨RX8, "readInto", "(LRentedViews$Shop;)I"⟩
abbrev cX8_readItem : ByteArray := prog_10_method_4_code
def yX8_readItem : MethodName := ⟨RX8, "readItem", "(LRentedViews$Shop;)Z"⟩
abbrev cX8_readView : ByteArray := prog_10_method_5_code
def yX8_readView : MethodName := ⟨RX8, "readView", "(LRentedViews$Shop;)Z"⟩
abbrev cX8_readRenter : ByteArray := prog_10_method_6_code
def yX8_readRenter : MethodName := ⟨RX8, "readRenter", "(LRentedViews$Shop;)Z"⟩
abbrev cX8_readThing : ByteArray := prog_10_method_7_code
def yX8_readThing : MethodName := ⟨RX8, "readThing", "(LRentedViews$Shop;)Z"⟩
abbrev cX8_passMark : ByteArray := prog_10_method_8_code
def yX8_passMark : MethodName := ⟨RX8, "passMark", "()Z"⟩
abbrev cX8_passNumber : ByteArray := prog_10_method_9_code
def yX8_passNumber : MethodName := ⟨RX8, "passNumber", "(III)Z"⟩
abbrev cX8_numberMet : ByteArray := prog_10_method_10_code
def yX8_numberMet : MethodName := ⟨RX8, "numberMet", "()I"⟩
abbrev cX8_isWord : ByteArray := prog_10_method_11_code
def yX8_isWord : MethodName := ⟨RX8, "isWord", "(Ljava/lang/String;)Z"⟩
abbrev cX8_step : ByteArray := prog_10_method_12_code
def yX8_step : MethodName := ⟨RX8, "step", "()V"⟩
abbrev cX8_sortAt : ByteArray := prog_10_method_13_code
def yX8_sortAt : MethodName := ⟨RX8, "sortAt", "(I)I"⟩
def RX9 : String := "RentedViews$Shop"
def TX9 : u_T := fun k => match k with
  | 0 => ("RentedViews$Shop", "kinds", "[LRentedViews$Lake;", true)
  | 1 => ("RentedViews$Shop", "views", "I", false)
  | 2 => ("RentedViews$Shop", "renters", "I", false)
  | 3 => ("RentedViews$Shop", "readings", "I", false)
  | 4 => ("RentedViews$Shop", "undos", "I", false)
  | 5 => ("RentedViews$Shop", "kind", "[I", true)
  | 6 => ("RentedViews$Shop", "size", "[I", true)
  | 7 => ("RentedViews$Shop", "price", "[I", true)
  | 8 => ("RentedViews$Shop", "weather", "[I", true)
  | 9 => ("RentedViews$Shop", "things", "[I", true)
  | 10 => ("RentedViews$Shop", "wall", "[I", true)
  | 11 => ("RentedViews$Shop", "want", "[I", true)
  | 12 => ("RentedViews$Shop", "seenView", "[I", true)
  | 13 => ("RentedViews$Shop", "seenEvening", "[I", true)
  | 14 => ("RentedViews$Shop", "seenWeather", "[I", true)
  | 15 => ("RentedViews$Shop", "book", "LRentedViews$Book;", true)
  | _ => ("RentedViews$Shop", "past", "[LRentedViews$Book;", true)
def tyX9 : Nat → FieldType := fun k => match k with
  | 0 => .array (.object "RentedViews$Lake")
  | 1 => .int
  | 2 => .int
  | 3 => .int
  | 4 => .int
  | 5 => .array .int
  | 6 => .array .int
  | 7 => .array .int
  | 8 => .array .int
  | 9 => .array .int
  | 10 => .array .int
  | 11 => .array .int
  | 12 => .array .int
  | 13 => .array .int
  | 14 => .array .int
  | 15 => .object "RentedViews$Book"
  | _ => .array (.object "RentedViews$Book")
abbrev wsX90 : List Cond := u_ws RX9 TX9 17
theorem nmX9 : ∀ a, a < 17 → ∀ b, b < 17 → a ≠ b → (TX9 a).2.1 ≠ (TX9 b).2.1 := by decide +kernel
theorem tyX9_ok : ∀ k, k < 17 → parseFieldDescriptor (TX9 k).2.2.1 = some (tyX9 k) := by decide +kernel
abbrev cX9_init : ByteArray := prog_11_method_1_code
def yX9_init : MethodName := ⟨RX9, "<init>", "()V"⟩
abbrev cX9_empty : ByteArray := prog_11_method_2_code
def yX9_empty : MethodName := ⟨RX9, "empty", "()V"⟩
abbrev cX9_copyFrom : ByteArray := prog_11_method_3_code
def yX9_copyFrom : MethodName := ⟨RX9, "copyFrom", "(LRentedViews$Shop;)V"⟩
abbrev cX9_addView : ByteArray := prog_11_method_4_code
def yX9_addView : MethodName := ⟨RX9, "addView", "(IIII)V"⟩
abbrev cX9_addRenter : ByteArray := prog_11_method_5_code
def yX9_addRenter : MethodName := ⟨RX9, "addRenter", "(III)V"⟩
abbrev cX9_addReading : ByteArray := prog_11_method_6_code
def yX9_addReading : MethodName := ⟨RX9, "addReading", "(III)V"⟩
abbrev cX9_remember : ByteArray := prog_11_method_7_code
def yX9_remember : MethodName := ⟨RX9, "remember", "()V"⟩
abbrev cX9_moveOldestToEnd : ByteArray := prog_11_method_8_code
def yX9_moveOldestToEnd : MethodName := ⟨RX9, "moveOldestToEnd", "()V"⟩
abbrev cX9_goBack : ByteArray := prog_11_method_9_code
def yX9_goBack : MethodName := ⟨RX9, "goBack", "()V"⟩
abbrev cX9_showing : ByteArray := prog_11_method_10_code
def yX9_showing : MethodName := ⟨RX9, "showing", "(II)I"⟩
abbrev cX9_fee : ByteArray := prog_11_method_11_code
def yX9_fee : MethodName := ⟨RX9, "fee", "(I)I"⟩
abbrev cX9_feeAt : ByteArray := prog_11_method_12_code
def yX9_feeAt : MethodName := ⟨RX9, "feeAt", "(II)I"⟩
abbrev cX9_fits : ByteArray := prog_11_method_13_code
def yX9_fits : MethodName := ⟨RX9, "fits", "(II)Z"⟩
abbrev cX9_mayLet : ByteArray := prog_11_method_14_code
def yX9_mayLet : MethodName := ⟨RX9, "mayLet", "(II)Z"⟩
abbrev cX9_airNow : ByteArray := prog_11_method_15_code
def yX9_airNow : MethodName := ⟨RX9, "airNow", "(II)I"⟩
abbrev cX9_airOf : ByteArray := prog_11_method_16_code
def yX9_airOf : MethodName := ⟨RX9, "airOf", "(II)I"⟩
abbrev cX9_fewestForAir : ByteArray := prog_11_method_17_code
def yX9_fewestForAir : MethodName := ⟨RX9, "fewestForAir", "(II)I"⟩
abbrev cX9_digestFrom : ByteArray := prog_11_method_18_code
def yX9_digestFrom : MethodName := ⟨RX9, "digestFrom", "(J)J"⟩
def RX10 : String := "RentedViews$Street"
def TX10 : u_T := fun k => match k with
  | _ => ("", "", "", false)
def tyX10 : Nat → FieldType := fun k => match k with
  | _ => .int
abbrev wsX100 : List Cond := u_ws RX10 TX10 0
theorem nmX10 : ∀ a, a < 0 → ∀ b, b < 0 → a ≠ b → (TX10 a).2.1 ≠ (TX10 b).2.1 := by decide +kernel
theorem tyX10_ok : ∀ k, k < 0 → parseFieldDescriptor (TX10 k).2.2.1 = some (tyX10 k) := by decide +kernel
abbrev cX10_init : ByteArray := prog_12_method_1_code
def yX10_init : MethodName := ⟨RX10, "<init>", "()V"⟩
abbrev cX10_showing : ByteArray := prog_12_method_2_code
def yX10_showing : MethodName := ⟨RX10, "showing", "(II)I"⟩
def RX11 : String := "RentedViews"
def TX11 : u_T := fun k => match k with
  | 0 => ("RentedViews", "images", "[LRentedViews$Shop;", true)
  | 1 => ("RentedViews", "reader", "LRentedViews$Reader;", true)
  | 2 => ("RentedViews", "chooser", "LRentedViews$Chooser;", true)
  | 3 => ("RentedViews", "guesser", "LRentedViews$Guesser;", true)
  | 4 => ("RentedViews", "refused", "[I", true)
  | 5 => ("RentedViews", "now", "LRentedViews$Shop;", false)
  | 6 => ("RentedViews", "draft", "LRentedViews$Shop;", false)
  | 7 => ("RentedViews", "above", "J", false)
  | _ => ("RentedViews", "below", "J", false)
def tyX11 : Nat → FieldType := fun k => match k with
  | 0 => .array (.object "RentedViews$Shop")
  | 1 => .object "RentedViews$Reader"
  | 2 => .object "RentedViews$Chooser"
  | 3 => .object "RentedViews$Guesser"
  | 4 => .array .int
  | 5 => .object "RentedViews$Shop"
  | 6 => .object "RentedViews$Shop"
  | 7 => .long
  | _ => .long
abbrev wsX110 : List Cond := u_ws RX11 TX11 9
theorem nmX11 : ∀ a, a < 9 → ∀ b, b < 9 → a ≠ b → (TX11 a).2.1 ≠ (TX11 b).2.1 := by decide +kernel
theorem tyX11_ok : ∀ k, k < 9 → parseFieldDescriptor (TX11 k).2.2.1 = some (tyX11 k) := by decide +kernel
abbrev cX11_init : ByteArray := prog_1_method_1_code
def yX11_init : MethodName := ⟨RX11, "<init>", "()V"⟩
abbrev cX11_shop : ByteArray := prog_1_method_2_code
def yX11_shop : MethodName := ⟨RX11, "shop", "()I"⟩
abbrev cX11_view : ByteArray := prog_1_method_3_code
def yX11_view : MethodName := ⟨RX11, "view", "(IIII)I"⟩
abbrev cX11_renter : ByteArray := prog_1_method_4_code
def yX11_renter : MethodName := ⟨RX11, "renter", "(III)I"⟩
abbrev cX11_things : ByteArray := prog_1_method_5_code
def yX11_things : MethodName := ⟨RX11, "things", "(II)I"⟩
abbrev cX11_type : ByteArray := prog_1_method_6_code
def yX11_type : MethodName := ⟨RX11, "type", "(I)I"⟩
abbrev cX11_clear : ByteArray := prog_1_method_7_code
def yX11_clear : MethodName := ⟨RX11, "clear", "()I"⟩
abbrev cX11_read : ByteArray := prog_1_method_8_code
def yX11_read : MethodName := ⟨RX11, "read", "()I"⟩
abbrev cX11_let : ByteArray := prog_1_method_9_code
def yX11_let : MethodName := ⟨RX11, "let", "(II)I"⟩
abbrev cX11_night : ByteArray := prog_1_method_10_code
def yX11_night : MethodName := ⟨RX11, "night", "()I"⟩
abbrev cX11_undo : ByteArray := prog_1_method_11_code
def yX11_undo : MethodName := ⟨RX11, "undo", "()I"⟩
abbrev cX11_of : ByteArray := prog_1_method_12_code
def yX11_of : MethodName := ⟨RX11, "of", "(II)I"⟩
abbrev cX11_about : ByteArray := prog_1_method_13_code
def yX11_about : MethodName := ⟨RX11, "about", "(II)I"⟩
abbrev cX11_shows : ByteArray := prog_1_method_14_code
def yX11_shows : MethodName := ⟨RX11, "shows", "(II)I"⟩
abbrev cX11_suits : ByteArray := prog_1_method_15_code
def yX11_suits : MethodName := ⟨RX11, "suits", "(III)I"⟩
abbrev cX11_best : ByteArray := prog_1_method_16_code
def yX11_best : MethodName := ⟨RX11, "best", "(II)I"⟩
abbrev cX11_money : ByteArray := prog_1_method_17_code
def yX11_money : MethodName := ⟨RX11, "money", "(I)I"⟩
abbrev cX11_come : ByteArray := prog_1_method_18_code
def yX11_come : MethodName := ⟨RX11, "come", "(II)I"⟩
abbrev cX11_more : ByteArray := prog_1_method_19_code
def yX11_more : MethodName := ⟨RX11, "more", "(IIII)I"⟩
abbrev cX11_changed : ByteArray := prog_1_method_20_code
def yX11_changed : MethodName := ⟨RX11, "changed", "(II)I"⟩
abbrev cX11_air : ByteArray := prog_1_method_21_code
def yX11_air : MethodName := ⟨RX11, "air", "(I)I"⟩
abbrev cX11_bring : ByteArray := prog_1_method_22_code
def yX11_bring : MethodName := ⟨RX11, "bring", "(III)I"⟩
abbrev cX11_left : ByteArray := prog_1_method_23_code
def yX11_left : MethodName := ⟨RX11, "left", "(III)I"⟩
abbrev cX11_reading : ByteArray := prog_1_method_24_code
def yX11_reading : MethodName := ⟨RX11, "reading", "(III)I"⟩
abbrev cX11_forget : ByteArray := prog_1_method_25_code
def yX11_forget : MethodName := ⟨RX11, "forget", "()I"⟩
abbrev cX11_is : ByteArray := prog_1_method_26_code
def yX11_is : MethodName := ⟨RX11, "is", "(II)I"⟩
abbrev cX11_look : ByteArray := prog_1_method_27_code
def yX11_look : MethodName := ⟨RX11, "look", "(I)I"⟩
abbrev cX11_odds : ByteArray := prog_1_method_28_code
def yX11_odds : MethodName := ⟨RX11, "odds", "(I)I"⟩
abbrev cX11_drawn : ByteArray := prog_1_method_29_code
def yX11_drawn : MethodName := ⟨RX11, "drawn", "(III)I"⟩
abbrev cX11_part : ByteArray := prog_1_method_30_code
def yX11_part : MethodName := ⟨RX11, "part", "(I)J"⟩
abbrev cX11_image : ByteArray := prog_1_method_31_code
def yX11_image : MethodName := ⟨RX11, "image", "(I)I"⟩
abbrev cX11_from : ByteArray := prog_1_method_32_code
def yX11_from : MethodName := ⟨RX11, "from", "(I)I"⟩
abbrev cX11_status : ByteArray := prog_1_method_33_code
def yX11_status : MethodName := ⟨RX11, "status", "(I)I"⟩
abbrev cX11_count : ByteArray := prog_1_method_34_code
def yX11_count : MethodName := ⟨RX11, "count", "(I)I"⟩
abbrev cX11_digest : ByteArray := prog_1_method_35_code
def yX11_digest : MethodName := ⟨RX11, "digest", "()J"⟩
abbrev cX11_within : ByteArray := prog_1_method_36_code
def yX11_within : MethodName := ⟨RX11, "within", "(III)Z"⟩
abbrev cX11_isWeather : ByteArray := prog_1_method_37_code
def yX11_isWeather : MethodName := ⟨RX11, "isWeather", "(I)Z"⟩
abbrev cX11_isEvening : ByteArray := prog_1_method_38_code
def yX11_isEvening : MethodName := ⟨RX11, "isEvening", "(I)Z"⟩
abbrev cX11_isRenterTold : ByteArray := prog_1_method_39_code
def yX11_isRenterTold : MethodName := ⟨RX11, "isRenterTold", "(III)Z"⟩
abbrev cX11_isView : ByteArray := prog_1_method_40_code
def yX11_isView : MethodName := ⟨RX11, "isView", "(I)Z"⟩
abbrev cX11_isRenter : ByteArray := prog_1_method_41_code
def yX11_isRenter : MethodName := ⟨RX11, "isRenter", "(I)Z"⟩
abbrev cX11_isPair : ByteArray := prog_1_method_42_code
def yX11_isPair : MethodName := ⟨RX11, "isPair", "(I)Z"⟩
abbrev cX11_refuse : ByteArray := prog_1_method_43_code
def yX11_refuse : MethodName := ⟨RX11, "refuse", "(I)I"⟩
abbrev cX11_refuseApart : ByteArray := prog_1_method_44_code
def yX11_refuseApart : MethodName := ⟨RX11, "refuseApart", "()I"⟩
abbrev cX11_greatestCommon : ByteArray := prog_1_method_45_code
def yX11_greatestCommon : MethodName := ⟨RX11, "greatestCommon", "(JJ)J"⟩
def RX12 : String := "RentedViewsModel"
def TX12 : u_T := fun k => match k with
  | 0 => ("RentedViewsModel", "now", "[I", true)
  | 1 => ("RentedViewsModel", "kept", "[I", true)
  | 2 => ("RentedViewsModel", "isKept", "[Z", true)
  | 3 => ("RentedViewsModel", "refused", "[I", true)
  | 4 => ("RentedViewsModel", "above", "J", false)
  | 5 => ("RentedViewsModel", "below", "J", false)
  | 6 => ("RentedViewsModel", "costs", "[I", true)
  | 7 => ("RentedViewsModel", "handRenters", "I", false)
  | 8 => ("RentedViewsModel", "walls", "[I", true)
  | 9 => ("RentedViewsModel", "purses", "[I", true)
  | 10 => ("RentedViewsModel", "wants", "[I", true)
  | 11 => ("RentedViewsModel", "suit", "[I", true)
  | 12 => ("RentedViewsModel", "row", "[I", true)
  | 13 => ("RentedViewsModel", "bestRow", "[I", true)
  | 14 => ("RentedViewsModel", "bestMany", "I", false)
  | 15 => ("RentedViewsModel", "bestMoney", "I", false)
  | 16 => ("RentedViewsModel", "comeMany", "I", false)
  | 17 => ("RentedViewsModel", "comeMoney", "I", false)
  | 18 => ("RentedViewsModel", "manyLike", "[I", true)
  | 19 => ("RentedViewsModel", "bytes", "[I", true)
  | 20 => ("RentedViewsModel", "bytesLong", "I", false)
  | 21 => ("RentedViewsModel", "tokenAt", "I", false)
  | 22 => ("RentedViewsModel", "tokenLong", "I", false)
  | 23 => ("RentedViewsModel", "token", "I", false)
  | 24 => ("RentedViewsModel", "value", "I", false)
  | 25 => ("RentedViewsModel", "anew", "[I", true)
  | _ => ("RentedViewsModel", "values", "[I", true)
def tyX12 : Nat → FieldType := fun k => match k with
  | 0 => .array .int
  | 1 => .array .int
  | 2 => .array .boolean
  | 3 => .array .int
  | 4 => .long
  | 5 => .long
  | 6 => .array .int
  | 7 => .int
  | 8 => .array .int
  | 9 => .array .int
  | 10 => .array .int
  | 11 => .array .int
  | 12 => .array .int
  | 13 => .array .int
  | 14 => .int
  | 15 => .int
  | 16 => .int
  | 17 => .int
  | 18 => .array .int
  | 19 => .array .int
  | 20 => .int
  | 21 => .int
  | 22 => .int
  | 23 => .int
  | 24 => .int
  | 25 => .array .int
  | _ => .array .int
abbrev wsX120 : List Cond := u_ws RX12 TX12 27
theorem nmX12 : ∀ a, a < 27 → ∀ b, b < 27 → a ≠ b → (TX12 a).2.1 ≠ (TX12 b).2.1 := by decide +kernel
theorem tyX12_ok : ∀ k, k < 27 → parseFieldDescriptor (TX12 k).2.2.1 = some (tyX12 k) := by decide +kernel
abbrev cX12_init : ByteArray := prog_14_method_1_code
def yX12_init : MethodName := ⟨RX12, "<init>", "()V"⟩
abbrev cX12_in : ByteArray := prog_14_method_3_code
def yX12_in : MethodName := ⟨RX12, "in", "(JJJ)Z"⟩
abbrev cX12_bad : ByteArray := prog_14_method_4_code
def yX12_bad : MethodName := ⟨RX12, "bad", "(I)I"⟩
abbrev cX12_no : ByteArray := prog_14_method_5_code
def yX12_no : MethodName := ⟨RX12, "no", "()I"⟩
abbrev cX12_full : ByteArray := prog_14_method_6_code
def yX12_full : MethodName := ⟨RX12, "full", "()I"⟩
abbrev cX12_begin : ByteArray := prog_14_method_8_code
def yX12_begin : MethodName := ⟨RX12, "begin", "([I)V"⟩
abbrev cX12_views : ByteArray := prog_14_method_9_code
def yX12_views : MethodName := ⟨RX12, "views", "()I"⟩
abbrev cX12_renters : ByteArray := prog_14_method_10_code
def yX12_renters : MethodName := ⟨RX12, "renters", "()I"⟩
abbrev cX12_isView : ByteArray := prog_14_method_11_code
def yX12_isView : MethodName := ⟨RX12, "isView", "(I)Z"⟩
abbrev cX12_isRenter : ByteArray := prog_14_method_12_code
def yX12_isRenter : MethodName := ⟨RX12, "isRenter", "(I)Z"⟩
abbrev cX12_isEvening : ByteArray := prog_14_method_13_code
def yX12_isEvening : MethodName := ⟨RX12, "isEvening", "(I)Z"⟩
abbrev cX12_isWeather : ByteArray := prog_14_method_14_code
def yX12_isWeather : MethodName := ⟨RX12, "isWeather", "(I)Z"⟩
abbrev cX12_viewHas : ByteArray := prog_14_method_15_code
def yX12_viewHas : MethodName := ⟨RX12, "viewHas", "(II)I"⟩
abbrev cX12_renterHas : ByteArray := prog_14_method_16_code
def yX12_renterHas : MethodName := ⟨RX12, "renterHas", "(II)I"⟩
abbrev cX12_shop : ByteArray := prog_14_method_17_code
def yX12_shop : MethodName := ⟨RX12, "shop", "()I"⟩
abbrev cX12_isViewTold : ByteArray := prog_14_method_18_code
def yX12_isViewTold : MethodName := ⟨RX12, "isViewTold", "(IIII)Z"⟩
abbrev cX12_layView : ByteArray := prog_14_method_19_code
def yX12_layView : MethodName := ⟨RX12, "layView", "([IIIII)V"⟩
abbrev cX12_view : ByteArray := prog_14_method_20_code
def yX12_view : MethodName := ⟨RX12, "view", "(IIII)I"⟩
abbrev cX12_isRenterTold : ByteArray := prog_14_method_21_code
def yX12_isRenterTold : MethodName := ⟨RX12, "isRenterTold", "(III)Z"⟩
abbrev cX12_layRenter : ByteArray := prog_14_method_22_code
def yX12_layRenter : MethodName := ⟨RX12, "layRenter", "([IIII)V"⟩
abbrev cX12_renter : ByteArray := prog_14_method_23_code
def yX12_renter : MethodName := ⟨RX12, "renter", "(III)I"⟩
abbrev cX12_things : ByteArray := prog_14_method_24_code
def yX12_things : MethodName := ⟨RX12, "things", "(II)I"⟩
abbrev cX12_lake : ByteArray := prog_14_method_25_code
def yX12_lake : MethodName := ⟨RX12, "lake", "(II)I"⟩
abbrev cX12_weatherOf : ByteArray := prog_14_method_26_code
def yX12_weatherOf : MethodName := ⟨RX12, "weatherOf", "(III)I"⟩
abbrev cX12_costOf : ByteArray := prog_14_method_27_code
def yX12_costOf : MethodName := ⟨RX12, "costOf", "(II)I"⟩
abbrev cX12_showsIn : ByteArray := prog_14_method_28_code
def yX12_showsIn : MethodName := ⟨RX12, "showsIn", "(II)I"⟩
abbrev cX12_fits : ByteArray := prog_14_method_29_code
def yX12_fits : MethodName := ⟨RX12, "fits", "(II)Z"⟩
abbrev cX12_layHand : ByteArray := prog_14_method_30_code
def yX12_layHand : MethodName := ⟨RX12, "layHand", "()V"⟩
abbrev cX12_doesSuit : ByteArray := prog_14_method_31_code
def yX12_doesSuit : MethodName := ⟨RX12, "doesSuit", "(III)Z"⟩
abbrev cX12_laySuit : ByteArray := prog_14_method_32_code
def yX12_laySuit : MethodName := ⟨RX12, "laySuit", "(I)V"⟩
abbrev cX12_keep : ByteArray := prog_14_method_33_code
def yX12_keep : MethodName := ⟨RX12, "keep", "()V"⟩
abbrev cX12_viewOf : ByteArray := prog_14_method_34_code
def yX12_viewOf : MethodName := ⟨RX12, "viewOf", "(I)I"⟩
abbrev cX12_remember : ByteArray := prog_14_method_35_code
def yX12_remember : MethodName := ⟨RX12, "remember", "(II)V"⟩
abbrev cX12_let : ByteArray := prog_14_method_36_code
def yX12_let : MethodName := ⟨RX12, "let", "(II)I"⟩
abbrev cX12_night : ByteArray := prog_14_method_37_code
def yX12_night : MethodName := ⟨RX12, "night", "()I"⟩
abbrev cX12_undo : ByteArray := prog_14_method_38_code
def yX12_undo : MethodName := ⟨RX12, "undo", "()I"⟩
abbrev cX12_of : ByteArray := prog_14_method_39_code
def yX12_of : MethodName := ⟨RX12, "of", "(II)I"⟩
abbrev cX12_about : ByteArray := prog_14_method_40_code
def yX12_about : MethodName := ⟨RX12, "about", "(II)I"⟩
abbrev cX12_shows : ByteArray := prog_14_method_41_code
def yX12_shows : MethodName := ⟨RX12, "shows", "(II)I"⟩
abbrev cX12_suits : ByteArray := prog_14_method_42_code
def yX12_suits : MethodName := ⟨RX12, "suits", "(III)I"⟩
abbrev cX12_judgeRow : ByteArray := prog_14_method_43_code
def yX12_judgeRow : MethodName := ⟨RX12, "judgeRow", "()V"⟩
abbrev cX12_freeBut : ByteArray := prog_14_method_44_code
def yX12_freeBut : MethodName := ⟨RX12, "freeBut", "(I)I"⟩
abbrev cX12_nextView : ByteArray := prog_14_method_45_code
def yX12_nextView : MethodName := ⟨RX12, "nextView", "(II)I"⟩
abbrev cX12_layBest : ByteArray := prog_14_method_46_code
def yX12_layBest : MethodName := ⟨RX12, "layBest", "(I)V"⟩
abbrev cX12_best : ByteArray := prog_14_method_47_code
def yX12_best : MethodName := ⟨RX12, "best", "(II)I"⟩
abbrev cX12_money : ByteArray := prog_14_method_48_code
def yX12_money : MethodName := ⟨RX12, "money", "(I)I"⟩
abbrev cX12_layCome : ByteArray := prog_14_method_49_code
def yX12_layCome : MethodName := ⟨RX12, "layCome", "(II)V"⟩
abbrev cX12_allRenters : ByteArray := prog_14_method_50_code
def yX12_allRenters : MethodName := ⟨RX12, "allRenters", "()I"⟩
abbrev cX12_come : ByteArray := prog_14_method_51_code
def yX12_come : MethodName := ⟨RX12, "come", "(II)I"⟩
abbrev cX12_more : ByteArray := prog_14_method_52_code
def yX12_more : MethodName := ⟨RX12, "more", "(IIII)I"⟩
abbrev cX12_changed : ByteArray := prog_14_method_53_code
def yX12_changed : MethodName := ⟨RX12, "changed", "(II)I"⟩
abbrev cX12_areOpposite : ByteArray := prog_14_method_54_code
def yX12_areOpposite : MethodName := ⟨RX12, "areOpposite", "(I)Z"⟩
abbrev cX12_air : ByteArray := prog_14_method_55_code
def yX12_air : MethodName := ⟨RX12, "air", "(I)I"⟩
abbrev cX12_bring : ByteArray := prog_14_method_56_code
def yX12_bring : MethodName := ⟨RX12, "bring", "(III)I"⟩
abbrev cX12_left : ByteArray := prog_14_method_57_code
def yX12_left : MethodName := ⟨RX12, "left", "(III)I"⟩
abbrev cX12_reading : ByteArray := prog_14_method_58_code
def yX12_reading : MethodName := ⟨RX12, "reading", "(III)I"⟩
abbrev cX12_forget : ByteArray := prog_14_method_59_code
def yX12_forget : MethodName := ⟨RX12, "forget", "()I"⟩
abbrev cX12_mayBe : ByteArray := prog_14_method_60_code
def yX12_mayBe : MethodName := ⟨RX12, "mayBe", "(III)Z"⟩
abbrev cX12_is : ByteArray := prog_14_method_61_code
def yX12_is : MethodName := ⟨RX12, "is", "(II)I"⟩
abbrev cX12_mostLike : ByteArray := prog_14_method_62_code
def yX12_mostLike : MethodName := ⟨RX12, "mostLike", "(II)I"⟩
abbrev cX12_look : ByteArray := prog_14_method_63_code
def yX12_look : MethodName := ⟨RX12, "look", "(I)I"⟩
abbrev cX12_fraction : ByteArray := prog_14_method_64_code
def yX12_fraction : MethodName := ⟨RX12, "fraction", "(JJ)V"⟩
abbrev cX12_odds : ByteArray := prog_14_method_65_code
def yX12_odds : MethodName := ⟨RX12, "odds", "(I)I"⟩
abbrev cX12_drawn : ByteArray := prog_14_method_66_code
def yX12_drawn : MethodName := ⟨RX12, "drawn", "(III)I"⟩
abbrev cX12_type : ByteArray := prog_14_method_67_code
def yX12_type : MethodName := ⟨RX12, "type", "(I)I"⟩
abbrev cX12_clear : ByteArray := prog_14_method_68_code
def yX12_clear : MethodName := ⟨RX12, "clear", "()I"⟩
abbrev cX12_isSmall : ByteArray := prog_14_method_69_code
def yX12_isSmall : MethodName := ⟨RX12, "isSmall", "(I)Z"⟩
abbrev cX12_isFigure : ByteArray := prog_14_method_70_code
def yX12_isFigure : MethodName := ⟨RX12, "isFigure", "(I)Z"⟩
abbrev cX12_lookAt : ByteArray := prog_14_method_71_code
def yX12_lookAt : MethodName := ⟨RX12, "lookAt", "(I)V"⟩
abbrev cX12_goBehind : ByteArray := prog_14_method_72_code
def yX12_goBehind : MethodName := ⟨RX12, "goBehind", "()V"⟩
abbrev cX12_isCalled : ByteArray := prog_14_method_73_code
def yX12_isCalled : MethodName := ⟨RX12, "isCalled", "(IIIIIII)Z"⟩
abbrev cX12_takes : ByteArray := prog_14_method_74_code
def yX12_takes : MethodName := ⟨RX12, "takes", "(III)Z"⟩
abbrev cX12_takesView : ByteArray := prog_14_method_75_code
def yX12_takesView : MethodName := ⟨RX12, "takesView", "()Z"⟩
abbrev cX12_takesRenter : ByteArray := prog_14_method_76_code
def yX12_takesRenter : MethodName := ⟨RX12, "takesRenter", "()Z"⟩
abbrev cX12_takesThing : ByteArray := prog_14_method_77_code
def yX12_takesThing : MethodName := ⟨RX12, "takesThing", "()Z"⟩
abbrev cX12_takesItem : ByteArray := prog_14_method_78_code
def yX12_takesItem : MethodName := ⟨RX12, "takesItem", "()Z"⟩
abbrev cX12_read : ByteArray := prog_14_method_79_code
def yX12_read : MethodName := ⟨RX12, "read", "()I"⟩
abbrev cX12_part : ByteArray := prog_14_method_80_code
def yX12_part : MethodName := ⟨RX12, "part", "(I)J"⟩
abbrev cX12_image : ByteArray := prog_14_method_81_code
def yX12_image : MethodName := ⟨RX12, "image", "(I)I"⟩
abbrev cX12_from : ByteArray := prog_14_method_82_code
def yX12_from : MethodName := ⟨RX12, "from", "(I)I"⟩
abbrev cX12_status : ByteArray := prog_14_method_83_code
def yX12_status : MethodName := ⟨RX12, "status", "(I)I"⟩
abbrev cX12_manyLet : ByteArray := prog_14_method_84_code
def yX12_manyLet : MethodName := ⟨RX12, "manyLet", "()I"⟩
abbrev cX12_counted : ByteArray := prog_14_method_85_code
def yX12_counted : MethodName := ⟨RX12, "counted", "(I)I"⟩
abbrev cX12_count : ByteArray := prog_14_method_86_code
def yX12_count : MethodName := ⟨RX12, "count", "(I)I"⟩
abbrev cX12_sums : ByteArray := prog_14_method_87_code
def yX12_sums : MethodName := ⟨RX12, "sums", "(JII)J"⟩
abbrev cX12_digest : ByteArray := prog_14_method_88_code
def yX12_digest : MethodName := ⟨RX12, "digest", "()J"⟩
def RJ9 : String := "java/lang/Math"
def RJ0 : String := "java/lang/String"
def RJ1 : String := "java/lang/StringLatin1"
def RJ2 : String := "java/lang/StringUTF16"
def RJ10 : String := "java/lang/System"
def RJ7 : String := "java/util/Arrays"
def RJ3 : String := "jdk/internal/util/Preconditions"
def RL : String := "RentedViewsLaw"
abbrev cL_law : ByteArray := code
def yL_law : MethodName := ⟨RL, "law", "([I)Z"⟩
abbrev cJ9_floorMod_7cf53 : ByteArray := prog_15_method_50_code
def yJ9_floorMod_7cf53 : MethodName := ⟨RJ9, "floorMod", "(II)I"⟩
abbrev cJ9_max_7cf53 : ByteArray := prog_15_method_65_code
def yJ9_max_7cf53 : MethodName := ⟨RJ9, "max", "(II)I"⟩
abbrev cJ9_min_7cf53 : ByteArray := prog_15_method_69_code
def yJ9_min_7cf53 : MethodName := ⟨RJ9, "min", "(II)I"⟩
abbrev cJ0_length_8abf5 : ByteArray := prog_16_method_54_code
def yJ0_length_8abf5 : MethodName := ⟨RJ0, "length", "()I"⟩
abbrev cJ0_charAt_5068e : ByteArray := prog_16_method_56_code
def yJ0_charAt_5068e : MethodName := ⟨RJ0, "charAt", "(I)C"⟩
abbrev cJ0_coder_7d493 : ByteArray := prog_16_method_152_code
def yJ0_coder_7d493 : MethodName := ⟨RJ0, "coder", "()B"⟩
abbrev cJ0_isLatin1_aae02 : ByteArray := prog_16_method_154_code
def yJ0_isLatin1_aae02 : MethodName := ⟨RJ0, "isLatin1", "()Z"⟩
abbrev cJ0_checkIndex_df160 : ByteArray := prog_16_method_155_code
def yJ0_checkIndex_df160 : MethodName := ⟨RJ0, "checkIndex", "(II)V"⟩
abbrev cJ1_charAt_3b067 : ByteArray := prog_17_method_2_code
def yJ1_charAt_3b067 : MethodName := ⟨RJ1, "charAt", "([BI)C"⟩
abbrev cJ7_fill_53178 : ByteArray := prog_20_method_103_code
def yJ7_fill_53178 : MethodName := ⟨RJ7, "fill", "([II)V"⟩
abbrev cJ3_checkIndex_8e157 : ByteArray := prog_21_method_11_code
def yJ3_checkIndex_8e157 : MethodName := ⟨RJ3, "checkIndex", "(IILjava/util/function/BiFunction;)I"⟩
abbrev xcl : List vw_C := [(RX0, TX0, 8), (RX1, TX1, 0), (RX2, TX2, 7), (RX3, TX3, 0), (RX4, TX4, 0), (RX5, TX5, 3), (RX6, TX6, 0), (RX7, TX7, 0), (RX8, TX8, 6), (RX9, TX9, 17), (RX10, TX10, 0), (RX11, TX11, 9), (RX12, TX12, 27)]
def xfty (ci : Nat) : Nat → FieldType := match ci with
  | 0 => tyX0
  | 1 => tyX1
  | 2 => tyX2
  | 3 => tyX3
  | 4 => tyX4
  | 5 => tyX5
  | 6 => tyX6
  | 7 => tyX7
  | 8 => tyX8
  | 9 => tyX9
  | 10 => tyX10
  | 11 => tyX11
  | 12 => tyX12
  | _ => fun _ => .int
def xnf (ci : Nat) : Nat := match ci with
  | 0 => 8
  | 1 => 0
  | 2 => 7
  | 3 => 0
  | 4 => 0
  | 5 => 3
  | 6 => 0
  | 7 => 0
  | 8 => 6
  | 9 => 17
  | 10 => 0
  | 11 => 9
  | 12 => 27
  | _ => 0
end
section
/-! A small machine beside the kit's: cells are (tag, values), a reference is a place in the list of cells. Tags below 20 are the classes of xcl, 20.. arrays. -/
abbrev xC : Type := Nat × List Value
abbrev xH : Type := List xC
/-- an instruction: its place, itself, the next place, what it names (targets, fields, classes, methods, by numbers) -/
abbrev xI : Type := Nat × Instr × Nat × List Nat
abbrev xM : Type := (MethodName × ByteArray × Nat × Option FieldType) × List xI
/-- an unset local -/
abbrev xU : Value := .float 0
def xfind : List xI → Nat → Option (Instr × Nat × List Nat)
  | [], _ => none
  | q :: r, pc => cond (Nat.beq q.1 pc) (some q.2) (xfind r pc)
def xkill (L : List Value) (i : Nat) : List Value := match i with
  | 0 => L
  | j + 1 => match L[j]? with
    | some v => if v.category = 2 then L.set j xU else L
    | none => L
def xst1 (L : List Value) (i : Nat) (v : Value) : Option (List Value) := if i < L.length then some ((xkill L i).set i v) else none
def xst2 (L : List Value) (i : Nat) (v : Value) : Option (List Value) := if i + 1 < L.length then some (((xkill L i).set i v).set (i + 1) xU) else none
def xcmp (c : Jvm.ClassFile.Cond) (x y : Int32) : Bool := match c with
  | .eq => decide (x = y)
  | .ne => !decide (x = y)
  | .lt => decide (x < y)
  | .ge => decide (y ≤ x)
  | .gt => decide (y < x)
  | .le => decide (x ≤ y)
/-- what a field or an array's place of that type may be given -/
def xfit (ty : FieldType) (v : Value) : Bool := match ty, v with
  | .int, .int _ => true
  | .long, .long _ => true
  | .byte, .int x => decide (narrow .byte (.int x) = .int x) && fits .byte (.int x)
  | .boolean, .int x => decide (narrow .boolean (.int x) = .int x) && fits .boolean (.int x)
  | .object _, .null => true
  | .object _, .ref _ => true
  | .array _, .null => true
  | .array _, .ref _ => true
  | _, _ => false
def xnar (ty : Option FieldType) (x : Int32) : Bool := match ty with
  | some .int => true
  | some .boolean => decide (x = 0) || decide (x = 1)
  | some .byte => decide (narrow .byte (.int x) = .int x)
  | some .char => decide (narrow .char (.int x) = .int x)
  | _ => false
def xpairs : List Nat → Nat → Option Nat
  | t :: m :: r, k => cond (Nat.beq t k) (some m) (xpairs r k)
  | _, _ => none
def xlook : List Nat → Int32 → Nat → Nat
  | k :: t :: r, x, d => if x = Int32.ofNat k then t else xlook r x d
  | _, _, d => d
def xcat (st : List Value) : Nat := (st.map fun v => v.category).sum
def xcopy (f g : List Value) (sp dp n : Nat) : List Value := g.take dp ++ ((f.drop sp).take n ++ g.drop (dp + n))
def xadd (h : xH) (c : xC) : Option xH := if h.length < 5000 ∧ c.2.length ≤ 1100 then some (h ++ [c]) else none
def xget (ext : List xC) (h : xH) (v : Value) : Option xC := match v with
  | .ref a => h[a]?
  | .retAddr j => ext[j]?
  | _ => none
def xix (i : Int32) (vs : List Value) : Option Value := if i < 0 then none else vs[i.toNatClampNeg]?
/-- what the array of a tag holds -/
def xaty : Nat → FieldType
  | 20 => .int
  | 21 => .byte
  | 22 => .boolean
  | 23 => .object "RentedViews$Lake"
  | 24 => .object "RentedViews$Shop"
  | 25 => .object "RentedViews$Book"
  | _ => .array .int
/-- which objects an array of objects takes -/
def xasg (t ci : Nat) : Bool := match t with
  | 23 => ci == 1 || ci == 3 || ci == 4 || ci == 6 || ci == 7 || ci == 10
  | 24 => ci == 9
  | 25 => ci == 0
  | _ => false
def xc_X0_init : List xI := [
  (0, .aload_n 0, 1, []),
  (1, .invokespecial 3, 4, [98]),
  (4, .aload_n 0, 5, []),
  (5, .bipush 6, 7, []),
  (7, .newarray .int, 9, [20]),
  (9, .putfield 9, 12, [0, 3]),
  (12, .aload_n 0, 13, []),
  (13, .bipush 6, 15, []),
  (15, .newarray .int, 17, [20]),
  (17, .putfield 15, 20, [0, 4]),
  (20, .aload_n 0, 21, []),
  (21, .bipush 12, 23, []),
  (23, .newarray .int, 25, [20]),
  (25, .putfield 18, 28, [0, 5]),
  (28, .aload_n 0, 29, []),
  (29, .bipush 12, 31, []),
  (31, .newarray .int, 33, [20]),
  (33, .putfield 21, 36, [0, 6]),
  (36, .aload_n 0, 37, []),
  (37, .bipush 12, 39, []),
  (39, .newarray .int, 41, [20]),
  (41, .putfield 24, 44, [0, 7]),
  (44, .return_, 45, [])]
def xm_X0_init : xM := ((yX0_init, cX0_init, 1, none), xc_X0_init)
abbrev n_X0_init : Nat := 0
def xc_X0_empty : List xI := [
  (0, .aload_n 0, 1, []),
  (1, .iconst 0, 2, []),
  (2, .putfield 27, 5, [0, 0]),
  (5, .aload_n 0, 6, []),
  (6, .iconst 0, 7, []),
  (7, .putfield 31, 10, [0, 1]),
  (10, .aload_n 0, 11, []),
  (11, .iconst 0, 12, []),
  (12, .putfield 34, 15, [0, 2]),
  (15, .aload_n 0, 16, []),
  (16, .invokevirtual 37, 19, [0, 0, 3]),
  (19, .return_, 20, [])]
def xm_X0_empty : xM := ((yX0_empty, cX0_empty, 1, none), xc_X0_empty)
abbrev n_X0_empty : Nat := 1
def xc_X0_copyFrom : List xI := [
  (0, .aload_n 0, 1, []),
  (1, .aload_n 1, 2, []),
  (2, .getfield 27, 5, [0, 0]),
  (5, .putfield 27, 8, [0, 0]),
  (8, .aload_n 0, 9, []),
  (9, .aload_n 1, 10, []),
  (10, .getfield 31, 13, [0, 1]),
  (13, .putfield 31, 16, [0, 1]),
  (16, .aload_n 0, 17, []),
  (17, .aload_n 1, 18, []),
  (18, .getfield 34, 21, [0, 2]),
  (21, .putfield 34, 24, [0, 2]),
  (24, .aload_n 1, 25, []),
  (25, .getfield 9, 28, [0, 3]),
  (28, .iconst 0, 29, []),
  (29, .aload_n 0, 30, []),
  (30, .getfield 9, 33, [0, 3]),
  (33, .iconst 0, 34, []),
  (34, .bipush 6, 36, []),
  (36, .invokestatic 40, 39, [99]),
  (39, .aload_n 1, 40, []),
  (40, .getfield 15, 43, [0, 4]),
  (43, .iconst 0, 44, []),
  (44, .aload_n 0, 45, []),
  (45, .getfield 15, 48, [0, 4]),
  (48, .iconst 0, 49, []),
  (49, .bipush 6, 51, []),
  (51, .invokestatic 40, 54, [99]),
  (54, .aload_n 1, 55, []),
  (55, .getfield 18, 58, [0, 5]),
  (58, .iconst 0, 59, []),
  (59, .aload_n 0, 60, []),
  (60, .getfield 18, 63, [0, 5]),
  (63, .iconst 0, 64, []),
  (64, .bipush 12, 66, []),
  (66, .invokestatic 40, 69, [99]),
  (69, .aload_n 1, 70, []),
  (70, .getfield 21, 73, [0, 6]),
  (73, .iconst 0, 74, []),
  (74, .aload_n 0, 75, []),
  (75, .getfield 21, 78, [0, 6]),
  (78, .iconst 0, 79, []),
  (79, .bipush 12, 81, []),
  (81, .invokestatic 40, 84, [99]),
  (84, .aload_n 1, 85, []),
  (85, .getfield 24, 88, [0, 7]),
  (88, .iconst 0, 89, []),
  (89, .aload_n 0, 90, []),
  (90, .getfield 24, 93, [0, 7]),
  (93, .iconst 0, 94, []),
  (94, .bipush 12, 96, []),
  (96, .invokestatic 40, 99, [99]),
  (99, .return_, 100, [])]
def xm_X0_copyFrom : xM := ((yX0_copyFrom, cX0_copyFrom, 2, none), xc_X0_copyFrom)
abbrev n_X0_copyFrom : Nat := 2
def xc_X0_bringAllBack : List xI := [
  (0, .aload_n 0, 1, []),
  (1, .getfield 15, 4, [0, 4]),
  (4, .iconst (-1), 5, []),
  (5, .invokestatic 46, 8, [2, 224]),
  (8, .return_, 9, [])]
def xm_X0_bringAllBack : xM := ((yX0_bringAllBack, cX0_bringAllBack, 1, none), xc_X0_bringAllBack)
abbrev n_X0_bringAllBack : Nat := 3
def xc_X0_write : List xI := [
  (0, .aload_n 0, 1, []),
  (1, .getfield 9, 4, [0, 3]),
  (4, .iload_n 2, 5, []),
  (5, .dup2, 6, []),
  (6, .iaload, 7, []),
  (7, .iload_n 3, 8, []),
  (8, .isub, 9, []),
  (9, .iastore, 10, []),
  (10, .aload_n 0, 11, []),
  (11, .dup, 12, []),
  (12, .getfield 31, 15, [0, 1]),
  (15, .iload_n 3, 16, []),
  (16, .iadd, 17, []),
  (17, .putfield 31, 20, [0, 1]),
  (20, .aload_n 0, 21, []),
  (21, .getfield 15, 24, [0, 4]),
  (24, .iload_n 1, 25, []),
  (25, .iload_n 2, 26, []),
  (26, .iastore, 27, []),
  (27, .aload_n 0, 28, []),
  (28, .getfield 34, 31, [0, 2]),
  (31, .bipush 12, 33, []),
  (33, .if_icmp .lt 7, 36, [40]),
  (36, .aload_n 0, 37, []),
  (37, .invokevirtual 52, 40, [0, 0, 5]),
  (40, .aload_n 0, 41, []),
  (41, .getfield 18, 44, [0, 5]),
  (44, .aload_n 0, 45, []),
  (45, .getfield 34, 48, [0, 2]),
  (48, .iload_n 1, 49, []),
  (49, .iastore, 50, []),
  (50, .aload_n 0, 51, []),
  (51, .getfield 21, 54, [0, 6]),
  (54, .aload_n 0, 55, []),
  (55, .getfield 34, 58, [0, 2]),
  (58, .iload_n 2, 59, []),
  (59, .iastore, 60, []),
  (60, .aload_n 0, 61, []),
  (61, .getfield 24, 64, [0, 7]),
  (64, .aload_n 0, 65, []),
  (65, .getfield 34, 68, [0, 2]),
  (68, .aload_n 0, 69, []),
  (69, .getfield 27, 72, [0, 0]),
  (72, .iastore, 73, []),
  (73, .aload_n 0, 74, []),
  (74, .dup, 75, []),
  (75, .getfield 34, 78, [0, 2]),
  (78, .iconst 1, 79, []),
  (79, .iadd, 80, []),
  (80, .putfield 34, 83, [0, 2]),
  (83, .return_, 84, [])]
def xm_X0_write : xM := ((yX0_write, cX0_write, 4, none), xc_X0_write)
abbrev n_X0_write : Nat := 4
def xc_X0_dropFirstLetting : List xI := [
  (0, .aload_n 0, 1, []),
  (1, .getfield 18, 4, [0, 5]),
  (4, .iconst 1, 5, []),
  (5, .aload_n 0, 6, []),
  (6, .getfield 18, 9, [0, 5]),
  (9, .iconst 0, 10, []),
  (10, .bipush 11, 12, []),
  (12, .invokestatic 40, 15, [99]),
  (15, .aload_n 0, 16, []),
  (16, .getfield 21, 19, [0, 6]),
  (19, .iconst 1, 20, []),
  (20, .aload_n 0, 21, []),
  (21, .getfield 21, 24, [0, 6]),
  (24, .iconst 0, 25, []),
  (25, .bipush 11, 27, []),
  (27, .invokestatic 40, 30, [99]),
  (30, .aload_n 0, 31, []),
  (31, .getfield 24, 34, [0, 7]),
  (34, .iconst 1, 35, []),
  (35, .aload_n 0, 36, []),
  (36, .getfield 24, 39, [0, 7]),
  (39, .iconst 0, 40, []),
  (40, .bipush 11, 42, []),
  (42, .invokestatic 40, 45, [99]),
  (45, .aload_n 0, 46, []),
  (46, .bipush 11, 48, []),
  (48, .putfield 34, 51, [0, 2]),
  (51, .return_, 52, [])]
def xm_X0_dropFirstLetting : xM := ((yX0_dropFirstLetting, cX0_dropFirstLetting, 1, none), xc_X0_dropFirstLetting)
abbrev n_X0_dropFirstLetting : Nat := 5
def xc_X0_viewHeldBy : List xI := [
  (0, .iconst 0, 1, []),
  (1, .istore_n 2, 2, []),
  (2, .iload_n 2, 3, []),
  (3, .bipush 6, 5, []),
  (5, .if_icmp .ge 21, 8, [26]),
  (8, .aload_n 0, 9, []),
  (9, .getfield 15, 12, [0, 4]),
  (12, .iload_n 2, 13, []),
  (13, .iaload, 14, []),
  (14, .iload_n 1, 15, []),
  (15, .if_icmp .ne 5, 18, [20]),
  (18, .iload_n 2, 19, []),
  (19, .ireturn, 20, []),
  (20, .iinc 2 1, 23, []),
  (23, .goto (-21), 26, [2]),
  (26, .iconst (-1), 27, []),
  (27, .ireturn, 28, [])]
def xm_X0_viewHeldBy : xM := ((yX0_viewHeldBy, cX0_viewHeldBy, 3, (some .int)), xc_X0_viewHeldBy)
abbrev n_X0_viewHeldBy : Nat := 6
def xc_X0_letNow : List xI := [
  (0, .iconst 0, 1, []),
  (1, .istore_n 1, 2, []),
  (2, .iconst 0, 3, []),
  (3, .istore_n 2, 4, []),
  (4, .iload_n 2, 5, []),
  (5, .bipush 6, 7, []),
  (7, .if_icmp .ge 22, 10, [29]),
  (10, .aload_n 0, 11, []),
  (11, .getfield 15, 14, [0, 4]),
  (14, .iload_n 2, 15, []),
  (15, .iaload, 16, []),
  (16, .iconst (-1), 17, []),
  (17, .if_icmp .eq 6, 20, [23]),
  (20, .iinc 1 1, 23, []),
  (23, .iinc 2 1, 26, []),
  (26, .goto (-22), 29, [4]),
  (29, .iload_n 1, 30, []),
  (30, .ireturn, 31, [])]
def xm_X0_letNow : xM := ((yX0_letNow, cX0_letNow, 3, (some .int)), xc_X0_letNow)
abbrev n_X0_letNow : Nat := 7
def xc_X0_rentersWhoHad : List xI := [
  (0, .iconst 0, 1, []),
  (1, .istore_n 2, 2, []),
  (2, .iconst 0, 3, []),
  (3, .istore_n 3, 4, []),
  (4, .iload_n 3, 5, []),
  (5, .aload_n 0, 6, []),
  (6, .getfield 34, 9, [0, 2]),
  (9, .if_icmp .ge 30, 12, [39]),
  (12, .aload_n 0, 13, []),
  (13, .getfield 18, 16, [0, 5]),
  (16, .iload_n 3, 17, []),
  (17, .iaload, 18, []),
  (18, .iload_n 1, 19, []),
  (19, .if_icmp .ne 14, 22, [33]),
  (22, .iload_n 2, 23, []),
  (23, .iconst 1, 24, []),
  (24, .aload_n 0, 25, []),
  (25, .getfield 21, 28, [0, 6]),
  (28, .iload_n 3, 29, []),
  (29, .iaload, 30, []),
  (30, .ishl, 31, []),
  (31, .ior, 32, []),
  (32, .istore_n 2, 33, []),
  (33, .iinc 3 1, 36, []),
  (36, .goto (-32), 39, [4]),
  (39, .iload_n 2, 40, []),
  (40, .ireturn, 41, [])]
def xm_X0_rentersWhoHad : xM := ((yX0_rentersWhoHad, cX0_rentersWhoHad, 4, (some .int)), xc_X0_rentersWhoHad)
abbrev n_X0_rentersWhoHad : Nat := 8
def xc_X0_firstEveningOf : List xI := [
  (0, .iconst 0, 1, []),
  (1, .istore_n 2, 2, []),
  (2, .iload_n 2, 3, []),
  (3, .aload_n 0, 4, []),
  (4, .getfield 34, 7, [0, 2]),
  (7, .if_icmp .ge 26, 10, [33]),
  (10, .aload_n 0, 11, []),
  (11, .getfield 18, 14, [0, 5]),
  (14, .iload_n 2, 15, []),
  (15, .iaload, 16, []),
  (16, .iload_n 1, 17, []),
  (17, .if_icmp .ne 10, 20, [27]),
  (20, .aload_n 0, 21, []),
  (21, .getfield 24, 24, [0, 7]),
  (24, .iload_n 2, 25, []),
  (25, .iaload, 26, []),
  (26, .ireturn, 27, []),
  (27, .iinc 2 1, 30, []),
  (30, .goto (-28), 33, [2]),
  (33, .iconst (-1), 34, []),
  (34, .ireturn, 35, [])]
def xm_X0_firstEveningOf : xM := ((yX0_firstEveningOf, cX0_firstEveningOf, 3, (some .int)), xc_X0_firstEveningOf)
abbrev n_X0_firstEveningOf : Nat := 9
def xc_X1_init : List xI := [
  (0, .aload_n 0, 1, []),
  (1, .invokespecial 1, 4, [0, 47]),
  (4, .return_, 5, [])]
def xm_X1_init : xM := ((yX1_init, cX1_init, 1, none), xc_X1_init)
abbrev n_X1_init : Nat := 10
def xc_X1_fee : List xI := [
  (0, .aload_n 0, 1, []),
  (1, .iload_n 1, 2, []),
  (2, .invokespecial 7, 5, [1, 49]),
  (5, .iconst 2, 6, []),
  (6, .idiv, 7, []),
  (7, .ireturn, 8, [])]
def xm_X1_fee : xM := ((yX1_fee, cX1_fee, 2, (some .int)), xc_X1_fee)
abbrev n_X1_fee : Nat := 11
def xc_X1_fits : List xI := [
  (0, .iconst 1, 1, []),
  (1, .ireturn, 2, [])]
def xm_X1_fits : xM := ((yX1_fits, cX1_fits, 3, (some .boolean)), xc_X1_fits)
abbrev n_X1_fits : Nat := 12
def xc_X2_init : List xI := [
  (0, .aload_n 0, 1, []),
  (1, .invokespecial 3, 4, [98]),
  (4, .aload_n 0, 5, []),
  (5, .bipush 6, 7, []),
  (7, .newarray .int, 9, [20]),
  (9, .putfield 9, 12, [2, 2]),
  (12, .aload_n 0, 13, []),
  (13, .bipush 6, 15, []),
  (15, .newarray .int, 17, [20]),
  (17, .putfield 15, 20, [2, 3]),
  (20, .aload_n 0, 21, []),
  (21, .bipush 6, 23, []),
  (23, .newarray .int, 25, [20]),
  (25, .putfield 18, 28, [2, 4]),
  (28, .aload_n 0, 29, []),
  (29, .bipush 7, 31, []),
  (31, .bipush 64, 33, []),
  (33, .multianewarray 21 2, 37, [26]),
  (37, .putfield 23, 40, [2, 5]),
  (40, .aload_n 0, 41, []),
  (41, .bipush 6, 43, []),
  (43, .newarray .int, 45, [20]),
  (45, .putfield 26, 48, [2, 6]),
  (48, .return_, 49, [])]
def xm_X2_init : xM := ((yX2_init, cX2_init, 1, none), xc_X2_init)
abbrev n_X2_init : Nat := 13
def xc_X2_suitedIn : List xI := [
  (0, .iload_n 0, 1, []),
  (1, .sipush 10000, 4, []),
  (4, .idiv, 5, []),
  (5, .ireturn, 6, [])]
def xm_X2_suitedIn : xM := ((yX2_suitedIn, cX2_suitedIn, 1, (some .int)), xc_X2_suitedIn)
abbrev n_X2_suitedIn : Nat := 14
def xc_X2_moneyIn : List xI := [
  (0, .iload_n 0, 1, []),
  (1, .sipush 10000, 4, []),
  (4, .irem, 5, []),
  (5, .ireturn, 6, [])]
def xm_X2_moneyIn : xM := ((yX2_moneyIn, cX2_moneyIn, 1, (some .int)), xc_X2_moneyIn)
abbrev n_X2_moneyIn : Nat := 15
def xc_X2_open : List xI := [
  (0, .aload_n 0, 1, []),
  (1, .aload_n 1, 2, []),
  (2, .getfield 29, 5, [9, 1]),
  (5, .putfield 35, 8, [2, 0]),
  (8, .aload_n 0, 9, []),
  (9, .iconst 0, 10, []),
  (10, .putfield 36, 13, [2, 1]),
  (13, .iconst 0, 14, []),
  (14, .istore_n 3, 15, []),
  (15, .iload_n 3, 16, []),
  (16, .aload_n 0, 17, []),
  (17, .getfield 35, 20, [2, 0]),
  (20, .if_icmp .ge 32, 23, [52]),
  (23, .aload_n 0, 24, []),
  (24, .getfield 15, 27, [2, 3]),
  (27, .iload_n 3, 28, []),
  (28, .aload_n 1, 29, []),
  (29, .iload_n 3, 30, []),
  (30, .invokevirtual 39, 33, [1, 9, 74]),
  (33, .iastore, 34, []),
  (34, .aload_n 0, 35, []),
  (35, .getfield 18, 38, [2, 4]),
  (38, .iload_n 3, 39, []),
  (39, .aload_n 1, 40, []),
  (40, .iload_n 3, 41, []),
  (41, .iload_n 2, 42, []),
  (42, .invokevirtual 42, 45, [2, 9, 73]),
  (45, .iastore, 46, []),
  (46, .iinc 3 1, 49, []),
  (49, .goto (-34), 52, [15]),
  (52, .iconst 0, 53, []),
  (53, .istore_n 3, 54, []),
  (54, .iload_n 3, 55, []),
  (55, .aload_n 1, 56, []),
  (56, .getfield 46, 59, [9, 2]),
  (59, .if_icmp .ge 35, 62, [94]),
  (62, .aload_n 0, 63, []),
  (63, .aload_n 1, 64, []),
  (64, .aload_n 1, 65, []),
  (65, .getfield 47, 68, [9, 10]),
  (68, .iload_n 3, 69, []),
  (69, .iaload, 70, []),
  (70, .aload_n 1, 71, []),
  (71, .getfield 50, 74, [9, 15]),
  (74, .getfield 54, 77, [0, 3]),
  (77, .iload_n 3, 78, []),
  (78, .iaload, 79, []),
  (79, .aload_n 1, 80, []),
  (80, .getfield 59, 83, [9, 11]),
  (83, .iload_n 3, 84, []),
  (84, .iaload, 85, []),
  (85, .invokevirtual 62, 88, [4, 2, 17]),
  (88, .iinc 3 1, 91, []),
  (91, .goto (-37), 94, [54]),
  (94, .return_, 95, [])]
def xm_X2_open : xM := ((yX2_open, cX2_open, 4, none), xc_X2_open)
abbrev n_X2_open : Nat := 16
def xc_X2_addRenter : List xI := [
  (0, .aload_n 0, 1, []),
  (1, .getfield 36, 4, [2, 1]),
  (4, .bipush 6, 6, []),
  (6, .if_icmp .lt 4, 9, [10]),
  (9, .return_, 10, []),
  (10, .iconst 0, 11, []),
  (11, .istore 5, 13, []),
  (13, .iconst 0, 14, []),
  (14, .istore 6, 16, []),
  (16, .iload 6, 18, []),
  (18, .aload_n 0, 19, []),
  (19, .getfield 35, 22, [2, 0]),
  (22, .if_icmp .ge 42, 25, [64]),
  (25, .aload_n 0, 26, []),
  (26, .getfield 15, 29, [2, 3]),
  (29, .iload 6, 31, []),
  (31, .iaload, 32, []),
  (32, .iload_n 3, 33, []),
  (33, .if_icmp .gt 25, 36, [58]),
  (36, .aload_n 0, 37, []),
  (37, .aload_n 1, 38, []),
  (38, .iload 6, 40, []),
  (40, .iload_n 2, 41, []),
  (41, .iload 4, 43, []),
  (43, .invokevirtual 66, 46, [4, 2, 18]),
  (46, .ifCond .eq 12, 49, [58]),
  (49, .iload 5, 51, []),
  (51, .iconst 1, 52, []),
  (52, .iload 6, 54, []),
  (54, .ishl, 55, []),
  (55, .ior, 56, []),
  (56, .istore 5, 58, []),
  (58, .iinc 6 1, 61, []),
  (61, .goto (-45), 64, [16]),
  (64, .aload_n 0, 65, []),
  (65, .getfield 9, 68, [2, 2]),
  (68, .aload_n 0, 69, []),
  (69, .getfield 36, 72, [2, 1]),
  (72, .iload 5, 74, []),
  (74, .iastore, 75, []),
  (75, .aload_n 0, 76, []),
  (76, .dup, 77, []),
  (77, .getfield 36, 80, [2, 1]),
  (80, .iconst 1, 81, []),
  (81, .iadd, 82, []),
  (82, .putfield 36, 85, [2, 1]),
  (85, .return_, 86, [])]
def xm_X2_addRenter : xM := ((yX2_addRenter, cX2_addRenter, 7, none), xc_X2_addRenter)
abbrev n_X2_addRenter : Nat := 17
def xc_X2_suitsAtAnyPrice : List xI := [
  (0, .aload_n 1, 1, []),
  (1, .iload_n 2, 2, []),
  (2, .iload_n 3, 3, []),
  (3, .invokevirtual 70, 6, [2, 9, 76]),
  (6, .ifCond .eq 25, 9, [31]),
  (9, .iload 4, 11, []),
  (11, .bipush 6, 13, []),
  (13, .if_icmp .eq 14, 16, [27]),
  (16, .iload 4, 18, []),
  (18, .aload_n 0, 19, []),
  (19, .getfield 18, 22, [2, 4]),
  (22, .iload_n 2, 23, []),
  (23, .iaload, 24, []),
  (24, .if_icmp .ne 7, 27, [31]),
  (27, .iconst 1, 28, []),
  (28, .goto 4, 31, [32]),
  (31, .iconst 0, 32, []),
  (32, .ireturn, 33, [])]
def xm_X2_suitsAtAnyPrice : xM := ((yX2_suitsAtAnyPrice, cX2_suitsAtAnyPrice, 5, (some .boolean)), xc_X2_suitsAtAnyPrice)
abbrev n_X2_suitsAtAnyPrice : Nat := 18
def xc_X2_isSuited : List xI := [
  (0, .aload_n 0, 1, []),
  (1, .getfield 9, 4, [2, 2]),
  (4, .iload_n 2, 5, []),
  (5, .iaload, 6, []),
  (6, .iload_n 1, 7, []),
  (7, .ishr, 8, []),
  (8, .iconst 1, 9, []),
  (9, .iand, 10, []),
  (10, .iconst 1, 11, []),
  (11, .if_icmp .ne 7, 14, [18]),
  (14, .iconst 1, 15, []),
  (15, .goto 4, 18, [19]),
  (18, .iconst 0, 19, []),
  (19, .ireturn, 20, [])]
def xm_X2_isSuited : xM := ((yX2_isSuited, cX2_isSuited, 3, (some .boolean)), xc_X2_isSuited)
abbrev n_X2_isSuited : Nat := 19
def xc_X2_solve : List xI := [
  (0, .iconst 1, 1, []),
  (1, .aload_n 0, 2, []),
  (2, .getfield 35, 5, [2, 0]),
  (5, .ishl, 6, []),
  (6, .iconst 1, 7, []),
  (7, .isub, 8, []),
  (8, .istore_n 1, 9, []),
  (9, .aload_n 0, 10, []),
  (10, .getfield 23, 13, [2, 5]),
  (13, .aload_n 0, 14, []),
  (14, .getfield 36, 17, [2, 1]),
  (17, .aaload, 18, []),
  (18, .iconst 0, 19, []),
  (19, .invokestatic 74, 22, [2, 224]),
  (22, .aload_n 0, 23, []),
  (23, .getfield 36, 26, [2, 1]),
  (26, .iconst 1, 27, []),
  (27, .isub, 28, []),
  (28, .istore_n 2, 29, []),
  (29, .iload_n 2, 30, []),
  (30, .ifCond .lt 36, 33, [66]),
  (33, .iconst 0, 34, []),
  (34, .istore_n 3, 35, []),
  (35, .iload_n 3, 36, []),
  (36, .iload_n 1, 37, []),
  (37, .if_icmp .gt 23, 40, [60]),
  (40, .aload_n 0, 41, []),
  (41, .getfield 23, 44, [2, 5]),
  (44, .iload_n 2, 45, []),
  (45, .aaload, 46, []),
  (46, .iload_n 3, 47, []),
  (47, .aload_n 0, 48, []),
  (48, .iload_n 2, 49, []),
  (49, .iload_n 3, 50, []),
  (50, .invokevirtual 80, 53, [2, 2, 21]),
  (53, .iastore, 54, []),
  (54, .iinc 3 1, 57, []),
  (57, .goto (-22), 60, [35]),
  (60, .iinc 2 (-1), 63, []),
  (63, .goto (-34), 66, [29]),
  (66, .aload_n 0, 67, []),
  (67, .getfield 23, 70, [2, 5]),
  (70, .iconst 0, 71, []),
  (71, .aaload, 72, []),
  (72, .iload_n 1, 73, []),
  (73, .iaload, 74, []),
  (74, .ireturn, 75, [])]
def xm_X2_solve : xM := ((yX2_solve, cX2_solve, 4, (some .int)), xc_X2_solve)
abbrev n_X2_solve : Nat := 20
def xc_X2_mostFor : List xI := [
  (0, .aload_n 0, 1, []),
  (1, .getfield 23, 4, [2, 5]),
  (4, .iload_n 1, 5, []),
  (5, .iconst 1, 6, []),
  (6, .iadd, 7, []),
  (7, .aaload, 8, []),
  (8, .astore_n 3, 9, []),
  (9, .aload_n 3, 10, []),
  (10, .iload_n 2, 11, []),
  (11, .iaload, 12, []),
  (12, .istore 4, 14, []),
  (14, .aload_n 0, 15, []),
  (15, .getfield 9, 18, [2, 2]),
  (18, .iload_n 1, 19, []),
  (19, .iaload, 20, []),
  (20, .iload_n 2, 21, []),
  (21, .iand, 22, []),
  (22, .istore 5, 24, []),
  (24, .iconst 0, 25, []),
  (25, .istore 6, 27, []),
  (27, .iload 6, 29, []),
  (29, .aload_n 0, 30, []),
  (30, .getfield 35, 33, [2, 0]),
  (33, .if_icmp .ge 47, 36, [80]),
  (36, .iload 5, 38, []),
  (38, .iload 6, 40, []),
  (40, .ishr, 41, []),
  (41, .iconst 1, 42, []),
  (42, .iand, 43, []),
  (43, .iconst 1, 44, []),
  (44, .if_icmp .ne 30, 47, [74]),
  (47, .iload 4, 49, []),
  (49, .sipush 10000, 52, []),
  (52, .aload_n 0, 53, []),
  (53, .getfield 15, 56, [2, 3]),
  (56, .iload 6, 58, []),
  (58, .iaload, 59, []),
  (59, .iadd, 60, []),
  (60, .aload_n 3, 61, []),
  (61, .iload_n 2, 62, []),
  (62, .iconst 1, 63, []),
  (63, .iload 6, 65, []),
  (65, .ishl, 66, []),
  (66, .ixor, 67, []),
  (67, .iaload, 68, []),
  (68, .iadd, 69, []),
  (69, .invokestatic 83, 72, [2, 216]),
  (72, .istore 4, 74, []),
  (74, .iinc 6 1, 77, []),
  (77, .goto (-50), 80, [27]),
  (80, .iload 4, 82, []),
  (82, .ireturn, 83, [])]
def xm_X2_mostFor : xM := ((yX2_mostFor, cX2_mostFor, 7, (some .int)), xc_X2_mostFor)
abbrev n_X2_mostFor : Nat := 21
def xc_X2_viewInBest : List xI := [
  (0, .iconst 1, 1, []),
  (1, .aload_n 0, 2, []),
  (2, .getfield 35, 5, [2, 0]),
  (5, .ishl, 6, []),
  (6, .iconst 1, 7, []),
  (7, .isub, 8, []),
  (8, .istore_n 2, 9, []),
  (9, .iconst (-1), 10, []),
  (10, .istore_n 3, 11, []),
  (11, .iconst 0, 12, []),
  (12, .istore 4, 14, []),
  (14, .iload 4, 16, []),
  (16, .iload_n 1, 17, []),
  (17, .if_icmp .gt 37, 20, [54]),
  (20, .iload 4, 22, []),
  (22, .aload_n 0, 23, []),
  (23, .getfield 36, 26, [2, 1]),
  (26, .if_icmp .ge 28, 29, [54]),
  (29, .aload_n 0, 30, []),
  (30, .iload 4, 32, []),
  (32, .iload_n 2, 33, []),
  (33, .invokevirtual 88, 36, [2, 2, 23]),
  (36, .istore_n 3, 37, []),
  (37, .iload_n 3, 38, []),
  (38, .iconst (-1), 39, []),
  (39, .if_icmp .eq 9, 42, [48]),
  (42, .iload_n 2, 43, []),
  (43, .iconst 1, 44, []),
  (44, .iload_n 3, 45, []),
  (45, .ishl, 46, []),
  (46, .ixor, 47, []),
  (47, .istore_n 2, 48, []),
  (48, .iinc 4 1, 51, []),
  (51, .goto (-37), 54, [14]),
  (54, .iload_n 3, 55, []),
  (55, .ireturn, 56, [])]
def xm_X2_viewInBest : xM := ((yX2_viewInBest, cX2_viewInBest, 5, (some .int)), xc_X2_viewInBest)
abbrev n_X2_viewInBest : Nat := 22
def xc_X2_firstBest : List xI := [
  (0, .aload_n 0, 1, []),
  (1, .getfield 23, 4, [2, 5]),
  (4, .iload_n 1, 5, []),
  (5, .iconst 1, 6, []),
  (6, .iadd, 7, []),
  (7, .aaload, 8, []),
  (8, .astore_n 3, 9, []),
  (9, .aload_n 0, 10, []),
  (10, .getfield 23, 13, [2, 5]),
  (13, .iload_n 1, 14, []),
  (14, .aaload, 15, []),
  (15, .iload_n 2, 16, []),
  (16, .iaload, 17, []),
  (17, .istore 4, 19, []),
  (19, .aload_n 3, 20, []),
  (20, .iload_n 2, 21, []),
  (21, .iaload, 22, []),
  (22, .iload 4, 24, []),
  (24, .if_icmp .ne 5, 27, [29]),
  (27, .iconst (-1), 28, []),
  (28, .ireturn, 29, []),
  (29, .aload_n 0, 30, []),
  (30, .getfield 9, 33, [2, 2]),
  (33, .iload_n 1, 34, []),
  (34, .iaload, 35, []),
  (35, .iload_n 2, 36, []),
  (36, .iand, 37, []),
  (37, .istore 5, 39, []),
  (39, .iconst 0, 40, []),
  (40, .istore 6, 42, []),
  (42, .iload 6, 44, []),
  (44, .aload_n 0, 45, []),
  (45, .getfield 35, 48, [2, 0]),
  (48, .if_icmp .ge 48, 51, [96]),
  (51, .iload 5, 53, []),
  (53, .iload 6, 55, []),
  (55, .ishr, 56, []),
  (56, .iconst 1, 57, []),
  (57, .iand, 58, []),
  (58, .iconst 1, 59, []),
  (59, .if_icmp .ne 31, 62, [90]),
  (62, .sipush 10000, 65, []),
  (65, .aload_n 0, 66, []),
  (66, .getfield 15, 69, [2, 3]),
  (69, .iload 6, 71, []),
  (71, .iaload, 72, []),
  (72, .iadd, 73, []),
  (73, .aload_n 3, 74, []),
  (74, .iload_n 2, 75, []),
  (75, .iconst 1, 76, []),
  (76, .iload 6, 78, []),
  (78, .ishl, 79, []),
  (79, .ixor, 80, []),
  (80, .iaload, 81, []),
  (81, .iadd, 82, []),
  (82, .iload 4, 84, []),
  (84, .if_icmp .ne 6, 87, [90]),
  (87, .iload 6, 89, []),
  (89, .ireturn, 90, []),
  (90, .iinc 6 1, 93, []),
  (93, .goto (-51), 96, [42]),
  (96, .iconst (-1), 97, []),
  (97, .ireturn, 98, [])]
def xm_X2_firstBest : xM := ((yX2_firstBest, cX2_firstBest, 7, (some .int)), xc_X2_firstBest)
abbrev n_X2_firstBest : Nat := 23
def xc_X2_asTheyCome : List xI := [
  (0, .iconst 1, 1, []),
  (1, .aload_n 0, 2, []),
  (2, .getfield 35, 5, [2, 0]),
  (5, .ishl, 6, []),
  (6, .iconst 1, 7, []),
  (7, .isub, 8, []),
  (8, .istore_n 2, 9, []),
  (9, .iconst 0, 10, []),
  (10, .istore_n 3, 11, []),
  (11, .iconst 0, 12, []),
  (12, .istore 4, 14, []),
  (14, .iload 4, 16, []),
  (16, .aload_n 0, 17, []),
  (17, .getfield 36, 20, [2, 1]),
  (20, .if_icmp .ge 65, 23, [85]),
  (23, .iload_n 1, 24, []),
  (24, .iload 4, 26, []),
  (26, .ishr, 27, []),
  (27, .iconst 1, 28, []),
  (28, .iand, 29, []),
  (29, .iconst 1, 30, []),
  (30, .if_icmp .ne 19, 33, [49]),
  (33, .aload_n 0, 34, []),
  (34, .aload_n 0, 35, []),
  (35, .getfield 9, 38, [2, 2]),
  (38, .iload 4, 40, []),
  (40, .iaload, 41, []),
  (41, .iload_n 2, 42, []),
  (42, .iand, 43, []),
  (43, .invokevirtual 91, 46, [1, 2, 25]),
  (46, .goto 4, 49, [50]),
  (49, .iconst (-1), 50, []),
  (50, .istore 5, 52, []),
  (52, .iload 5, 54, []),
  (54, .iconst (-1), 55, []),
  (55, .if_icmp .eq 24, 58, [79]),
  (58, .iload_n 2, 59, []),
  (59, .iconst 1, 60, []),
  (60, .iload 5, 62, []),
  (62, .ishl, 63, []),
  (63, .ixor, 64, []),
  (64, .istore_n 2, 65, []),
  (65, .iload_n 3, 66, []),
  (66, .sipush 10000, 69, []),
  (69, .aload_n 0, 70, []),
  (70, .getfield 15, 73, [2, 3]),
  (73, .iload 5, 75, []),
  (75, .iaload, 76, []),
  (76, .iadd, 77, []),
  (77, .iadd, 78, []),
  (78, .istore_n 3, 79, []),
  (79, .iinc 4 1, 82, []),
  (82, .goto (-68), 85, [14]),
  (85, .iload_n 3, 86, []),
  (86, .ireturn, 87, [])]
def xm_X2_asTheyCome : xM := ((yX2_asTheyCome, cX2_asTheyCome, 6, (some .int)), xc_X2_asTheyCome)
abbrev n_X2_asTheyCome : Nat := 24
def xc_X2_dearest : List xI := [
  (0, .iconst (-1), 1, []),
  (1, .istore_n 2, 2, []),
  (2, .iconst 0, 3, []),
  (3, .istore_n 3, 4, []),
  (4, .iload_n 3, 5, []),
  (5, .aload_n 0, 6, []),
  (6, .getfield 35, 9, [2, 0]),
  (9, .if_icmp .ge 40, 12, [49]),
  (12, .iload_n 1, 13, []),
  (13, .iload_n 3, 14, []),
  (14, .ishr, 15, []),
  (15, .iconst 1, 16, []),
  (16, .iand, 17, []),
  (17, .iconst 1, 18, []),
  (18, .if_icmp .ne 25, 21, [43]),
  (21, .iload_n 2, 22, []),
  (22, .iconst (-1), 23, []),
  (23, .if_icmp .eq 18, 26, [41]),
  (26, .aload_n 0, 27, []),
  (27, .getfield 15, 30, [2, 3]),
  (30, .iload_n 3, 31, []),
  (31, .iaload, 32, []),
  (32, .aload_n 0, 33, []),
  (33, .getfield 15, 36, [2, 3]),
  (36, .iload_n 2, 37, []),
  (37, .iaload, 38, []),
  (38, .if_icmp .le 5, 41, [43]),
  (41, .iload_n 3, 42, []),
  (42, .istore_n 2, 43, []),
  (43, .iinc 3 1, 46, []),
  (46, .goto (-42), 49, [4]),
  (49, .iload_n 2, 50, []),
  (50, .ireturn, 51, [])]
def xm_X2_dearest : xM := ((yX2_dearest, cX2_dearest, 4, (some .int)), xc_X2_dearest)
abbrev n_X2_dearest : Nat := 25
def xc_X2_priceForMostMoney : List xI := [
  (0, .aload_n 0, 1, []),
  (1, .aload_n 1, 2, []),
  (2, .iload_n 2, 3, []),
  (3, .invokevirtual 94, 6, [2, 2, 16]),
  (6, .iconst 0, 7, []),
  (7, .istore 4, 9, []),
  (9, .iload 4, 11, []),
  (11, .aload_n 0, 12, []),
  (12, .getfield 36, 15, [2, 1]),
  (15, .if_icmp .ge 24, 18, [39]),
  (18, .aload_n 0, 19, []),
  (19, .getfield 9, 22, [2, 2]),
  (22, .iload 4, 24, []),
  (24, .dup2, 25, []),
  (25, .iaload, 26, []),
  (26, .iconst 1, 27, []),
  (27, .iload_n 3, 28, []),
  (28, .ishl, 29, []),
  (29, .iconst (-1), 30, []),
  (30, .ixor, 31, []),
  (31, .iand, 32, []),
  (32, .iastore, 33, []),
  (33, .iinc 4 1, 36, []),
  (36, .goto (-27), 39, [9]),
  (39, .aload_n 0, 40, []),
  (40, .invokevirtual 98, 43, [0, 2, 20]),
  (43, .istore 4, 45, []),
  (45, .iconst 0, 46, []),
  (46, .istore 5, 48, []),
  (48, .iload 5, 50, []),
  (50, .aload_n 0, 51, []),
  (51, .getfield 36, 54, [2, 1]),
  (54, .if_icmp .ge 57, 57, [111]),
  (57, .aload_n 0, 58, []),
  (58, .aload_n 1, 59, []),
  (59, .iload_n 3, 60, []),
  (60, .aload_n 1, 61, []),
  (61, .getfield 47, 64, [9, 10]),
  (64, .iload 5, 66, []),
  (66, .iaload, 67, []),
  (67, .aload_n 1, 68, []),
  (68, .getfield 59, 71, [9, 11]),
  (71, .iload 5, 73, []),
  (73, .iaload, 74, []),
  (74, .invokevirtual 66, 77, [4, 2, 18]),
  (77, .istore 6, 79, []),
  (79, .aload_n 0, 80, []),
  (80, .getfield 26, 83, [2, 6]),
  (83, .iload 5, 85, []),
  (85, .iload 6, 87, []),
  (87, .ifCond .eq 16, 90, [103]),
  (90, .sipush 10000, 93, []),
  (93, .aload_n 0, 94, []),
  (94, .iload 5, 96, []),
  (96, .invokevirtual 102, 99, [1, 2, 27]),
  (99, .iadd, 100, []),
  (100, .goto 4, 103, [104]),
  (103, .iconst (-1), 104, []),
  (104, .iastore, 105, []),
  (105, .iinc 5 1, 108, []),
  (108, .goto (-60), 111, [48]),
  (111, .iconst 0, 112, []),
  (112, .istore 5, 114, []),
  (114, .iconst (-1), 115, []),
  (115, .istore 6, 117, []),
  (117, .iconst 0, 118, []),
  (118, .istore 7, 120, []),
  (120, .iload 7, 122, []),
  (122, .bipush 99, 124, []),
  (124, .if_icmp .gt 43, 127, [167]),
  (127, .aload_n 0, 128, []),
  (128, .aload_n 1, 129, []),
  (129, .aload_n 1, 130, []),
  (130, .iload_n 3, 131, []),
  (131, .iload 7, 133, []),
  (133, .invokevirtual 105, 136, [2, 9, 75]),
  (136, .iload 4, 138, []),
  (138, .invokevirtual 108, 141, [3, 2, 28]),
  (141, .invokestatic 112, 144, [1, 15]),
  (144, .istore 8, 146, []),
  (146, .iload 8, 148, []),
  (148, .iload 6, 150, []),
  (150, .if_icmp .le 11, 153, [161]),
  (153, .iload 8, 155, []),
  (155, .istore 6, 157, []),
  (157, .iload 7, 159, []),
  (159, .istore 5, 161, []),
  (161, .iinc 7 1, 164, []),
  (164, .goto (-44), 167, [120]),
  (167, .iload 5, 169, []),
  (169, .ireturn, 170, [])]
def xm_X2_priceForMostMoney : xM := ((yX2_priceForMostMoney, cX2_priceForMostMoney, 9, (some .int)), xc_X2_priceForMostMoney)
abbrev n_X2_priceForMostMoney : Nat := 26
def xc_X2_solveWithout : List xI := [
  (0, .aload_n 0, 1, []),
  (1, .getfield 9, 4, [2, 2]),
  (4, .iload_n 1, 5, []),
  (5, .iaload, 6, []),
  (6, .istore_n 2, 7, []),
  (7, .aload_n 0, 8, []),
  (8, .getfield 9, 11, [2, 2]),
  (11, .iload_n 1, 12, []),
  (12, .iconst 0, 13, []),
  (13, .iastore, 14, []),
  (14, .aload_n 0, 15, []),
  (15, .invokevirtual 98, 18, [0, 2, 20]),
  (18, .istore_n 3, 19, []),
  (19, .aload_n 0, 20, []),
  (20, .getfield 9, 23, [2, 2]),
  (23, .iload_n 1, 24, []),
  (24, .iload_n 2, 25, []),
  (25, .iastore, 26, []),
  (26, .iload_n 3, 27, []),
  (27, .ireturn, 28, [])]
def xm_X2_solveWithout : xM := ((yX2_solveWithout, cX2_solveWithout, 4, (some .int)), xc_X2_solveWithout)
abbrev n_X2_solveWithout : Nat := 27
def xc_X2_mostAtFee : List xI := [
  (0, .iload_n 3, 1, []),
  (1, .istore 4, 3, []),
  (3, .iconst 0, 4, []),
  (4, .istore 5, 6, []),
  (6, .iload 5, 8, []),
  (8, .aload_n 0, 9, []),
  (9, .getfield 36, 12, [2, 1]),
  (12, .if_icmp .ge 50, 15, [62]),
  (15, .aload_n 0, 16, []),
  (16, .getfield 26, 19, [2, 6]),
  (19, .iload 5, 21, []),
  (21, .iaload, 22, []),
  (22, .iconst (-1), 23, []),
  (23, .if_icmp .eq 33, 26, [56]),
  (26, .iload_n 2, 27, []),
  (27, .aload_n 1, 28, []),
  (28, .getfield 50, 31, [9, 15]),
  (31, .getfield 54, 34, [0, 3]),
  (34, .iload 5, 36, []),
  (36, .iaload, 37, []),
  (37, .if_icmp .gt 19, 40, [56]),
  (40, .iload 4, 42, []),
  (42, .aload_n 0, 43, []),
  (43, .getfield 26, 46, [2, 6]),
  (46, .iload 5, 48, []),
  (48, .iaload, 49, []),
  (49, .iload_n 2, 50, []),
  (50, .iadd, 51, []),
  (51, .invokestatic 83, 54, [2, 216]),
  (54, .istore 4, 56, []),
  (56, .iinc 5 1, 59, []),
  (59, .goto (-53), 62, [6]),
  (62, .iload 4, 64, []),
  (64, .ireturn, 65, [])]
def xm_X2_mostAtFee : xM := ((yX2_mostAtFee, cX2_mostAtFee, 6, (some .int)), xc_X2_mostAtFee)
abbrev n_X2_mostAtFee : Nat := 28
def xc_X2_weighedMoney : List xI := [
  (0, .lconst 0, 1, []),
  (1, .lstore_n 2, 2, []),
  (2, .iconst 0, 3, []),
  (3, .istore 4, 5, []),
  (5, .iload 4, 7, []),
  (7, .iconst 1, 8, []),
  (8, .aload_n 0, 9, []),
  (9, .getfield 36, 12, [2, 1]),
  (12, .ishl, 13, []),
  (13, .if_icmp .ge 79, 16, [92]),
  (16, .lconst 1, 17, []),
  (17, .lstore 5, 19, []),
  (19, .iconst 0, 20, []),
  (20, .istore 7, 22, []),
  (22, .iload 7, 24, []),
  (24, .aload_n 0, 25, []),
  (25, .getfield 36, 28, [2, 1]),
  (28, .if_icmp .ge 35, 31, [63]),
  (31, .lload 5, 33, []),
  (33, .iload 4, 35, []),
  (35, .iload 7, 37, []),
  (37, .ishr, 38, []),
  (38, .iconst 1, 39, []),
  (39, .iand, 40, []),
  (40, .iconst 1, 41, []),
  (41, .if_icmp .ne 8, 44, [49]),
  (44, .iload_n 1, 45, []),
  (45, .i2l, 46, []),
  (46, .goto 8, 49, [54]),
  (49, .bipush 10, 51, []),
  (51, .iload_n 1, 52, []),
  (52, .isub, 53, []),
  (53, .i2l, 54, []),
  (54, .lmul, 55, []),
  (55, .lstore 5, 57, []),
  (57, .iinc 7 1, 60, []),
  (60, .goto (-38), 63, [22]),
  (63, .lload 5, 65, []),
  (65, .lconst 0, 66, []),
  (66, .lcmp, 67, []),
  (67, .ifCond .eq 19, 70, [86]),
  (70, .lload_n 2, 71, []),
  (71, .lload 5, 73, []),
  (73, .aload_n 0, 74, []),
  (74, .iload 4, 76, []),
  (76, .invokevirtual 115, 79, [1, 2, 24]),
  (79, .invokestatic 112, 82, [1, 15]),
  (82, .i2l, 83, []),
  (83, .lmul, 84, []),
  (84, .ladd, 85, []),
  (85, .lstore_n 2, 86, []),
  (86, .iinc 4 1, 89, []),
  (89, .goto (-84), 92, [5]),
  (92, .lload_n 2, 93, []),
  (93, .lreturn, 94, [])]
def xm_X2_weighedMoney : xM := ((yX2_weighedMoney, cX2_weighedMoney, 8, (some .long)), xc_X2_weighedMoney)
abbrev n_X2_weighedMoney : Nat := 29
def xc_X2_suitedByDraw : List xI := [
  (0, .iload_n 2, 1, []),
  (1, .i2l, 2, []),
  (2, .lstore 5, 4, []),
  (4, .iconst 0, 5, []),
  (5, .istore 7, 7, []),
  (7, .iconst 0, 8, []),
  (8, .istore 8, 10, []),
  (10, .iload 8, 12, []),
  (12, .iload_n 3, 13, []),
  (13, .if_icmp .ge 101, 16, [114]),
  (16, .aload_n 0, 17, []),
  (17, .aload_n 1, 18, []),
  (18, .aload_n 1, 19, []),
  (19, .getfield 50, 22, [9, 15]),
  (22, .getfield 118, 25, [0, 0]),
  (25, .iload 8, 27, []),
  (27, .iadd, 28, []),
  (28, .invokevirtual 94, 31, [2, 2, 16]),
  (31, .iconst 0, 32, []),
  (32, .istore 9, 34, []),
  (34, .iconst 0, 35, []),
  (35, .istore 10, 37, []),
  (37, .iload 10, 39, []),
  (39, .aload_n 0, 40, []),
  (40, .getfield 36, 43, [2, 1]),
  (43, .if_icmp .ge 51, 46, [94]),
  (46, .lload 5, 48, []),
  (48, .ldc2_w 121, 51, [1103515245]),
  (51, .lmul, 52, []),
  (52, .ldc2_w 123, 55, [12345]),
  (55, .ladd, 56, []),
  (56, .ldc2_w 125, 59, [2147483648]),
  (59, .lrem, 60, []),
  (60, .lstore 5, 62, []),
  (62, .lload 5, 64, []),
  (64, .ldc2_w 127, 67, [65536]),
  (67, .ldiv, 68, []),
  (68, .ldc2_w 129, 71, [100]),
  (71, .lrem, 72, []),
  (72, .iload 4, 74, []),
  (74, .i2l, 75, []),
  (75, .lcmp, 76, []),
  (76, .ifCond .ge 12, 79, [88]),
  (79, .iload 9, 81, []),
  (81, .iconst 1, 82, []),
  (82, .iload 10, 84, []),
  (84, .ishl, 85, []),
  (85, .ior, 86, []),
  (86, .istore 9, 88, []),
  (88, .iinc 10 1, 91, []),
  (91, .goto (-54), 94, [37]),
  (94, .iload 7, 96, []),
  (96, .aload_n 0, 97, []),
  (97, .iload 9, 99, []),
  (99, .invokevirtual 115, 102, [1, 2, 24]),
  (102, .invokestatic 131, 105, [1, 14]),
  (105, .iadd, 106, []),
  (106, .istore 7, 108, []),
  (108, .iinc 8 1, 111, []),
  (111, .goto (-101), 114, [10]),
  (114, .iload 7, 116, []),
  (116, .ireturn, 117, [])]
def xm_X2_suitedByDraw : xM := ((yX2_suitedByDraw, cX2_suitedByDraw, 11, (some .int)), xc_X2_suitedByDraw)
abbrev n_X2_suitedByDraw : Nat := 30
def xc_X3_init : List xI := [
  (0, .aload_n 0, 1, []),
  (1, .invokespecial 1, 4, [0, 47]),
  (4, .return_, 5, [])]
def xm_X3_init : xM := ((yX3_init, cX3_init, 1, none), xc_X3_init)
abbrev n_X3_init : Nat := 31
def xc_X3_showing : List xI := [
  (0, .aload_n 0, 1, []),
  (1, .iload_n 1, 2, []),
  (2, .iload_n 2, 3, []),
  (3, .invokespecial 7, 6, [2, 48]),
  (6, .istore_n 3, 7, []),
  (7, .iload_n 3, 8, []),
  (8, .iconst 1, 9, []),
  (9, .if_icmp .ne 7, 12, [16]),
  (12, .iconst 0, 13, []),
  (13, .goto 4, 16, [17]),
  (16, .iload_n 3, 17, []),
  (17, .ireturn, 18, [])]
def xm_X3_showing : xM := ((yX3_showing, cX3_showing, 4, (some .int)), xc_X3_showing)
abbrev n_X3_showing : Nat := 32
def xc_X3_fee : List xI := [
  (0, .iconst 2, 1, []),
  (1, .aload_n 0, 2, []),
  (2, .iload_n 1, 3, []),
  (3, .invokespecial 11, 6, [1, 49]),
  (6, .imul, 7, []),
  (7, .ireturn, 8, [])]
def xm_X3_fee : xM := ((yX3_fee, cX3_fee, 2, (some .int)), xc_X3_fee)
abbrev n_X3_fee : Nat := 33
def xc_X4_init : List xI := [
  (0, .aload_n 0, 1, []),
  (1, .invokespecial 1, 4, [0, 44]),
  (4, .return_, 5, [])]
def xm_X4_init : xM := ((yX4_init, cX4_init, 1, none), xc_X4_init)
abbrev n_X4_init : Nat := 34
def xc_X4_showing : List xI := [
  (0, .iload_n 2, 1, []),
  (1, .iconst 1, 2, []),
  (2, .iand, 3, []),
  (3, .iconst 1, 4, []),
  (4, .if_icmp .ne 7, 7, [11]),
  (7, .iconst 5, 8, []),
  (8, .goto 9, 11, [17]),
  (11, .aload_n 0, 12, []),
  (12, .iload_n 1, 13, []),
  (13, .iload_n 2, 14, []),
  (14, .invokespecial 7, 17, [2, 45]),
  (17, .ireturn, 18, [])]
def xm_X4_showing : xM := ((yX4_showing, cX4_showing, 3, (some .int)), xc_X4_showing)
abbrev n_X4_showing : Nat := 35
def xc_X4_fee : List xI := [
  (0, .iload_n 1, 1, []),
  (1, .ireturn, 2, [])]
def xm_X4_fee : xM := ((yX4_fee, cX4_fee, 2, (some .int)), xc_X4_fee)
abbrev n_X4_fee : Nat := 36
def xc_X5_init : List xI := [
  (0, .aload_n 0, 1, []),
  (1, .invokespecial 3, 4, [98]),
  (4, .aload_n 0, 5, []),
  (5, .bipush 36, 7, []),
  (7, .newarray .boolean, 9, [22]),
  (9, .putfield 9, 12, [5, 1]),
  (12, .aload_n 0, 13, []),
  (13, .bipush 6, 15, []),
  (15, .newarray .int, 17, [20]),
  (17, .putfield 15, 20, [5, 2]),
  (20, .return_, 21, [])]
def xm_X5_init : xM := ((yX5_init, cX5_init, 1, none), xc_X5_init)
abbrev n_X5_init : Nat := 37
def xc_X5_guess : List xI := [
  (0, .aload_n 0, 1, []),
  (1, .iconst 0, 2, []),
  (2, .putfield 19, 5, [5, 0]),
  (5, .iconst 0, 6, []),
  (6, .istore_n 3, 7, []),
  (7, .iload_n 3, 8, []),
  (8, .bipush 36, 10, []),
  (10, .if_icmp .ge 40, 13, [50]),
  (13, .aload_n 0, 14, []),
  (14, .getfield 9, 17, [5, 1]),
  (17, .iload_n 3, 18, []),
  (18, .aload_n 1, 19, []),
  (19, .iload_n 2, 20, []),
  (20, .iload_n 3, 21, []),
  (21, .invokestatic 23, 24, [3, 40]),
  (24, .bastore, 25, []),
  (25, .aload_n 0, 26, []),
  (26, .getfield 9, 29, [5, 1]),
  (29, .iload_n 3, 30, []),
  (30, .baload, 31, []),
  (31, .ifCond .eq 13, 34, [44]),
  (34, .aload_n 0, 35, []),
  (35, .dup, 36, []),
  (36, .getfield 19, 39, [5, 0]),
  (39, .iconst 1, 40, []),
  (40, .iadd, 41, []),
  (41, .putfield 19, 44, [5, 0]),
  (44, .iinc 3 1, 47, []),
  (47, .goto (-40), 50, [7]),
  (50, .return_, 51, [])]
def xm_X5_guess : xM := ((yX5_guess, cX5_guess, 4, none), xc_X5_guess)
abbrev n_X5_guess : Nat := 38
def xc_X5_showing : List xI := [
  (0, .aload_n 0, 1, []),
  (1, .getfield 27, 4, [9, 0]),
  (4, .iload_n 1, 5, []),
  (5, .bipush 6, 7, []),
  (7, .idiv, 8, []),
  (8, .aaload, 9, []),
  (9, .iload_n 1, 10, []),
  (10, .bipush 6, 12, []),
  (12, .irem, 13, []),
  (13, .iload_n 2, 14, []),
  (14, .invokevirtual 33, 17, [2, 1, 48, 3, 32, 4, 35, 6, 45, 7, 48, 10, 83]),
  (17, .ireturn, 18, [])]
def xm_X5_showing : xM := ((yX5_showing, cX5_showing, 3, (some .int)), xc_X5_showing)
abbrev n_X5_showing : Nat := 39
def xc_X5_fitsReadings : List xI := [
  (0, .iconst 0, 1, []),
  (1, .istore_n 3, 2, []),
  (2, .iload_n 3, 3, []),
  (3, .aload_n 0, 4, []),
  (4, .getfield 39, 7, [9, 3]),
  (7, .if_icmp .ge 41, 10, [48]),
  (10, .aload_n 0, 11, []),
  (11, .getfield 42, 14, [9, 12]),
  (14, .iload_n 3, 15, []),
  (15, .iaload, 16, []),
  (16, .iload_n 1, 17, []),
  (17, .if_icmp .ne 25, 20, [42]),
  (20, .aload_n 0, 21, []),
  (21, .iload_n 2, 22, []),
  (22, .aload_n 0, 23, []),
  (23, .getfield 45, 26, [9, 13]),
  (26, .iload_n 3, 27, []),
  (27, .iaload, 28, []),
  (28, .invokestatic 48, 31, [3, 39]),
  (31, .aload_n 0, 32, []),
  (32, .getfield 51, 35, [9, 14]),
  (35, .iload_n 3, 36, []),
  (36, .iaload, 37, []),
  (37, .if_icmp .eq 5, 40, [42]),
  (40, .iconst 0, 41, []),
  (41, .ireturn, 42, []),
  (42, .iinc 3 1, 45, []),
  (45, .goto (-43), 48, [2]),
  (48, .iconst 1, 49, []),
  (49, .ireturn, 50, [])]
def xm_X5_fitsReadings : xM := ((yX5_fitsReadings, cX5_fitsReadings, 4, (some .boolean)), xc_X5_fitsReadings)
abbrev n_X5_fitsReadings : Nat := 40
def xc_X5_kindBits : List xI := [
  (0, .iconst 0, 1, []),
  (1, .istore_n 1, 2, []),
  (2, .iconst 0, 3, []),
  (3, .istore_n 2, 4, []),
  (4, .iload_n 2, 5, []),
  (5, .bipush 36, 7, []),
  (7, .if_icmp .ge 27, 10, [34]),
  (10, .aload_n 0, 11, []),
  (11, .getfield 9, 14, [5, 1]),
  (14, .iload_n 2, 15, []),
  (15, .baload, 16, []),
  (16, .ifCond .eq 12, 19, [28]),
  (19, .iload_n 1, 20, []),
  (20, .iconst 1, 21, []),
  (21, .iload_n 2, 22, []),
  (22, .bipush 6, 24, []),
  (24, .idiv, 25, []),
  (25, .ishl, 26, []),
  (26, .ior, 27, []),
  (27, .istore_n 1, 28, []),
  (28, .iinc 2 1, 31, []),
  (31, .goto (-27), 34, [4]),
  (34, .iload_n 1, 35, []),
  (35, .ireturn, 36, [])]
def xm_X5_kindBits : xM := ((yX5_kindBits, cX5_kindBits, 3, (some .int)), xc_X5_kindBits)
abbrev n_X5_kindBits : Nat := 41
def xc_X5_bestEvening : List xI := [
  (0, .aload_n 0, 1, []),
  (1, .getfield 19, 4, [5, 0]),
  (4, .ifCond .ne 5, 7, [9]),
  (7, .iconst (-1), 8, []),
  (8, .ireturn, 9, []),
  (9, .iconst 0, 10, []),
  (10, .istore_n 2, 11, []),
  (11, .aload_n 0, 12, []),
  (12, .getfield 19, 15, [5, 0]),
  (15, .iconst 1, 16, []),
  (16, .iadd, 17, []),
  (17, .istore_n 3, 18, []),
  (18, .iconst 0, 19, []),
  (19, .istore 4, 21, []),
  (21, .iload 4, 23, []),
  (23, .bipush 12, 25, []),
  (25, .if_icmp .ge 38, 28, [63]),
  (28, .aload_n 0, 29, []),
  (29, .aload_n 1, 30, []),
  (30, .aload_n 1, 31, []),
  (31, .getfield 54, 34, [9, 15]),
  (34, .getfield 58, 37, [0, 0]),
  (37, .iload 4, 39, []),
  (39, .iadd, 40, []),
  (40, .invokevirtual 63, 43, [2, 5, 43]),
  (43, .istore 5, 45, []),
  (45, .iload 5, 47, []),
  (47, .iload_n 3, 48, []),
  (48, .if_icmp .ge 9, 51, [57]),
  (51, .iload 5, 53, []),
  (53, .istore_n 3, 54, []),
  (54, .iload 4, 56, []),
  (56, .istore_n 2, 57, []),
  (57, .iinc 4 1, 60, []),
  (60, .goto (-39), 63, [21]),
  (63, .aload_n 1, 64, []),
  (64, .getfield 54, 67, [9, 15]),
  (67, .getfield 58, 70, [0, 0]),
  (70, .iload_n 2, 71, []),
  (71, .iadd, 72, []),
  (72, .ireturn, 73, [])]
def xm_X5_bestEvening : xM := ((yX5_bestEvening, cX5_bestEvening, 6, (some .int)), xc_X5_bestEvening)
abbrev n_X5_bestEvening : Nat := 42
def xc_X5_mostAlike : List xI := [
  (0, .aload_n 0, 1, []),
  (1, .getfield 15, 4, [5, 2]),
  (4, .iconst 0, 5, []),
  (5, .invokestatic 67, 8, [2, 224]),
  (8, .iconst 0, 9, []),
  (9, .istore_n 3, 10, []),
  (10, .iconst 0, 11, []),
  (11, .istore 4, 13, []),
  (13, .iload 4, 15, []),
  (15, .bipush 36, 17, []),
  (17, .if_icmp .ge 51, 20, [68]),
  (20, .aload_n 0, 21, []),
  (21, .getfield 9, 24, [5, 1]),
  (24, .iload 4, 26, []),
  (26, .baload, 27, []),
  (27, .ifCond .eq 35, 30, [62]),
  (30, .aload_n 1, 31, []),
  (31, .iload 4, 33, []),
  (33, .iload_n 2, 34, []),
  (34, .invokestatic 48, 37, [3, 39]),
  (37, .istore 5, 39, []),
  (39, .aload_n 0, 40, []),
  (40, .getfield 15, 43, [5, 2]),
  (43, .iload 5, 45, []),
  (45, .dup2, 46, []),
  (46, .iaload, 47, []),
  (47, .iconst 1, 48, []),
  (48, .iadd, 49, []),
  (49, .iastore, 50, []),
  (50, .iload_n 3, 51, []),
  (51, .aload_n 0, 52, []),
  (52, .getfield 15, 55, [5, 2]),
  (55, .iload 5, 57, []),
  (57, .iaload, 58, []),
  (58, .invokestatic 73, 61, [2, 216]),
  (61, .istore_n 3, 62, []),
  (62, .iinc 4 1, 65, []),
  (65, .goto (-52), 68, [13]),
  (68, .iload_n 3, 69, []),
  (69, .ireturn, 70, [])]
def xm_X5_mostAlike : xM := ((yX5_mostAlike, cX5_mostAlike, 6, (some .int)), xc_X5_mostAlike)
abbrev n_X5_mostAlike : Nat := 43
def xc_X6_init : List xI := [
  (0, .aload_n 0, 1, []),
  (1, .invokespecial 1, 4, [0, 82]),
  (4, .return_, 5, [])]
def xm_X6_init : xM := ((yX6_init, cX6_init, 1, none), xc_X6_init)
abbrev n_X6_init : Nat := 44
def xc_X6_showing : List xI := [
  (0, .iload_n 1, 1, []),
  (1, .ireturn, 2, [])]
def xm_X6_showing : xM := ((yX6_showing, cX6_showing, 3, (some .int)), xc_X6_showing)
abbrev n_X6_showing : Nat := 45
def xc_X6_fee : List xI := [
  (0, .aload_n 0, 1, []),
  (1, .iload_n 1, 2, []),
  (2, .invokespecial 7, 5, [1, 49]),
  (5, .bipush 10, 7, []),
  (7, .iadd, 8, []),
  (8, .ireturn, 9, [])]
def xm_X6_fee : xM := ((yX6_fee, cX6_fee, 2, (some .int)), xc_X6_fee)
abbrev n_X6_fee : Nat := 46
def xc_X7_init : List xI := [
  (0, .aload_n 0, 1, []),
  (1, .invokespecial 3, 4, [98]),
  (4, .return_, 5, [])]
def xm_X7_init : xM := ((yX7_init, cX7_init, 1, none), xc_X7_init)
abbrev n_X7_init : Nat := 47
def xc_X7_showing : List xI := [
  (0, .iload_n 1, 1, []),
  (1, .iload_n 2, 2, []),
  (2, .iadd, 3, []),
  (3, .bipush 6, 5, []),
  (5, .invokestatic 9, 8, [2, 215]),
  (8, .ireturn, 9, [])]
def xm_X7_showing : xM := ((yX7_showing, cX7_showing, 3, (some .int)), xc_X7_showing)
abbrev n_X7_showing : Nat := 48
def xc_X7_fee : List xI := [
  (0, .iload_n 1, 1, []),
  (1, .ireturn, 2, [])]
def xm_X7_fee : xM := ((yX7_fee, cX7_fee, 2, (some .int)), xc_X7_fee)
abbrev n_X7_fee : Nat := 49
def xc_X7_fits : List xI := [
  (0, .iload_n 1, 1, []),
  (1, .iload_n 2, 2, []),
  (2, .if_icmp .gt 7, 5, [9]),
  (5, .iconst 1, 6, []),
  (6, .goto 4, 9, [10]),
  (9, .iconst 0, 10, []),
  (10, .ireturn, 11, [])]
def xm_X7_fits : xM := ((yX7_fits, cX7_fits, 3, (some .boolean)), xc_X7_fits)
abbrev n_X7_fits : Nat := 50
def xc_X8_init : List xI := [
  (0, .aload_n 0, 1, []),
  (1, .invokespecial 3, 4, [98]),
  (4, .aload_n 0, 5, []),
  (5, .sipush 150, 8, []),
  (8, .newarray .byte, 10, [21]),
  (10, .putfield 9, 13, [8, 2]),
  (13, .aload_n 0, 14, []),
  (14, .iconst 4, 15, []),
  (15, .newarray .int, 17, [20]),
  (17, .putfield 15, 20, [8, 5]),
  (20, .return_, 21, [])]
def xm_X8_init : xM := ((yX8_init, cX8_init, 1, none), xc_X8_init)
abbrev n_X8_init : Nat := 51
def xc_X8_add : List xI := [
  (0, .aload_n 0, 1, []),
  (1, .getfield 9, 4, [8, 2]),
  (4, .aload_n 0, 5, []),
  (5, .getfield 19, 8, [8, 1]),
  (8, .iload_n 1, 9, []),
  (9, .bastore, 10, []),
  (10, .aload_n 0, 11, []),
  (11, .dup, 12, []),
  (12, .getfield 19, 15, [8, 1]),
  (15, .iconst 1, 16, []),
  (16, .iadd, 17, []),
  (17, .putfield 19, 20, [8, 1]),
  (20, .return_, 21, [])]
def xm_X8_add : xM := ((yX8_add, cX8_add, 2, none), xc_X8_add)
abbrev n_X8_add : Nat := 52
def xc_X8_readInto : List xI := [
  (0, .aload_n 0, 1, []),
  (1, .iconst 0, 2, []),
  (2, .putfield 23, 5, [8, 3]),
  (5, .aload_n 1, 6, []),
  (6, .invokevirtual 26, 9, [0, 9, 65]),
  (9, .aload_n 0, 10, []),
  (10, .invokevirtual 31, 13, [0, 8, 62]),
  (13, .aload_n 0, 14, []),
  (14, .ldc 34, 16, [1, 1]),
  (16, .invokevirtual 36, 19, [1, 8, 61]),
  (19, .ifCond .ne 5, 22, [24]),
  (22, .iconst (-1), 23, []),
  (23, .ireturn, 24, []),
  (24, .aload_n 0, 25, []),
  (25, .invokevirtual 31, 28, [0, 8, 62]),
  (28, .aload_n 0, 29, []),
  (29, .invokevirtual 40, 32, [0, 8, 58]),
  (32, .ifCond .ne 5, 35, [37]),
  (35, .iconst (-1), 36, []),
  (36, .ireturn, 37, []),
  (37, .iconst 1, 38, []),
  (38, .istore_n 2, 39, []),
  (39, .aload_n 0, 40, []),
  (40, .getfield 44, 43, [8, 4]),
  (43, .ifCond .eq 26, 46, [69]),
  (46, .iload_n 2, 47, []),
  (47, .sipush 150, 50, []),
  (50, .if_icmp .gt 19, 53, [69]),
  (53, .aload_n 0, 54, []),
  (54, .aload_n 1, 55, []),
  (55, .invokevirtual 47, 58, [1, 8, 54]),
  (58, .ifCond .ne 5, 61, [63]),
  (61, .iconst (-1), 62, []),
  (62, .ireturn, 63, []),
  (63, .iinc 2 1, 66, []),
  (66, .goto (-27), 69, [39]),
  (69, .iload_n 2, 70, []),
  (70, .ireturn, 71, [])]
def xm_X8_readInto : xM := ((yX8_readInto, cX8_readInto, 3, (some .int)), xc_X8_readInto)
abbrev n_X8_readInto : Nat := 53
def xc_X8_readItem : List xI := [
  (0, .aload_n 0, 1, []),
  (1, .ldc 51, 3, [1, 2]),
  (3, .invokevirtual 36, 6, [1, 8, 61]),
  (6, .ifCond .eq 26, 9, [32]),
  (9, .aload_n 1, 10, []),
  (10, .getfield 53, 13, [9, 1]),
  (13, .bipush 6, 15, []),
  (15, .if_icmp .ge 15, 18, [30]),
  (18, .aload_n 0, 19, []),
  (19, .aload_n 1, 20, []),
  (20, .invokevirtual 56, 23, [1, 8, 55]),
  (23, .ifCond .eq 7, 26, [30]),
  (26, .iconst 1, 27, []),
  (27, .goto 4, 30, [31]),
  (30, .iconst 0, 31, []),
  (31, .ireturn, 32, []),
  (32, .aload_n 0, 33, []),
  (33, .ldc 59, 35, [1, 3]),
  (35, .invokevirtual 36, 38, [1, 8, 61]),
  (38, .ifCond .eq 26, 41, [64]),
  (41, .aload_n 1, 42, []),
  (42, .getfield 61, 45, [9, 2]),
  (45, .bipush 6, 47, []),
  (47, .if_icmp .ge 15, 50, [62]),
  (50, .aload_n 0, 51, []),
  (51, .aload_n 1, 52, []),
  (52, .invokevirtual 64, 55, [1, 8, 56]),
  (55, .ifCond .eq 7, 58, [62]),
  (58, .iconst 1, 59, []),
  (59, .goto 4, 62, [63]),
  (62, .iconst 0, 63, []),
  (63, .ireturn, 64, []),
  (64, .aload_n 0, 65, []),
  (65, .ldc 67, 67, [1, 4]),
  (67, .invokevirtual 36, 70, [1, 8, 61]),
  (70, .ifCond .eq 15, 73, [85]),
  (73, .aload_n 0, 74, []),
  (74, .aload_n 1, 75, []),
  (75, .invokevirtual 69, 78, [1, 8, 57]),
  (78, .ifCond .eq 7, 81, [85]),
  (81, .iconst 1, 82, []),
  (82, .goto 4, 85, [86]),
  (85, .iconst 0, 86, []),
  (86, .ireturn, 87, [])]
def xm_X8_readItem : xM := ((yX8_readItem, cX8_readItem, 2, (some .boolean)), xc_X8_readItem)
abbrev n_X8_readItem : Nat := 54
def xc_X8_readView : List xI := [
  (0, .aload_n 0, 1, []),
  (1, .invokevirtual 31, 4, [0, 8, 62]),
  (4, .aload_n 0, 5, []),
  (5, .iconst 0, 6, []),
  (6, .iconst 0, 7, []),
  (7, .iconst 5, 8, []),
  (8, .invokevirtual 72, 11, [3, 8, 59]),
  (11, .ifCond .eq 42, 14, [53]),
  (14, .aload_n 0, 15, []),
  (15, .iconst 1, 16, []),
  (16, .iconst 1, 17, []),
  (17, .bipush 9, 19, []),
  (19, .invokevirtual 72, 22, [3, 8, 59]),
  (22, .ifCond .eq 31, 25, [53]),
  (25, .aload_n 0, 26, []),
  (26, .iconst 2, 27, []),
  (27, .iconst 0, 28, []),
  (28, .bipush 99, 30, []),
  (30, .invokevirtual 72, 33, [3, 8, 59]),
  (33, .ifCond .eq 20, 36, [53]),
  (36, .aload_n 0, 37, []),
  (37, .iconst 3, 38, []),
  (38, .iconst 0, 39, []),
  (39, .iconst 5, 40, []),
  (40, .invokevirtual 72, 43, [3, 8, 59]),
  (43, .ifCond .eq 10, 46, [53]),
  (46, .aload_n 0, 47, []),
  (47, .invokevirtual 40, 50, [0, 8, 58]),
  (50, .ifCond .ne 5, 53, [55]),
  (53, .iconst 0, 54, []),
  (54, .ireturn, 55, []),
  (55, .aload_n 1, 56, []),
  (56, .aload_n 0, 57, []),
  (57, .getfield 15, 60, [8, 5]),
  (60, .iconst 0, 61, []),
  (61, .iaload, 62, []),
  (62, .aload_n 0, 63, []),
  (63, .getfield 15, 66, [8, 5]),
  (66, .iconst 1, 67, []),
  (67, .iaload, 68, []),
  (68, .aload_n 0, 69, []),
  (69, .getfield 15, 72, [8, 5]),
  (72, .iconst 2, 73, []),
  (73, .iaload, 74, []),
  (74, .aload_n 0, 75, []),
  (75, .getfield 15, 78, [8, 5]),
  (78, .iconst 3, 79, []),
  (79, .iaload, 80, []),
  (80, .invokevirtual 76, 83, [4, 9, 67]),
  (83, .iconst 1, 84, []),
  (84, .ireturn, 85, [])]
def xm_X8_readView : xM := ((yX8_readView, cX8_readView, 2, (some .boolean)), xc_X8_readView)
abbrev n_X8_readView : Nat := 55
def xc_X8_readRenter : List xI := [
  (0, .aload_n 0, 1, []),
  (1, .invokevirtual 31, 4, [0, 8, 62]),
  (4, .aload_n 0, 5, []),
  (5, .iconst 0, 6, []),
  (6, .iconst 1, 7, []),
  (7, .bipush 9, 9, []),
  (9, .invokevirtual 72, 12, [3, 8, 59]),
  (12, .ifCond .eq 33, 15, [45]),
  (15, .aload_n 0, 16, []),
  (16, .iconst 1, 17, []),
  (17, .iconst 0, 18, []),
  (18, .sipush 999, 21, []),
  (21, .invokevirtual 72, 24, [3, 8, 59]),
  (24, .ifCond .eq 21, 27, [45]),
  (27, .aload_n 0, 28, []),
  (28, .iconst 2, 29, []),
  (29, .iconst 0, 30, []),
  (30, .bipush 6, 32, []),
  (32, .invokevirtual 72, 35, [3, 8, 59]),
  (35, .ifCond .eq 10, 38, [45]),
  (38, .aload_n 0, 39, []),
  (39, .invokevirtual 40, 42, [0, 8, 58]),
  (42, .ifCond .ne 5, 45, [47]),
  (45, .iconst 0, 46, []),
  (46, .ireturn, 47, []),
  (47, .aload_n 1, 48, []),
  (48, .aload_n 0, 49, []),
  (49, .getfield 15, 52, [8, 5]),
  (52, .iconst 0, 53, []),
  (53, .iaload, 54, []),
  (54, .aload_n 0, 55, []),
  (55, .getfield 15, 58, [8, 5]),
  (58, .iconst 1, 59, []),
  (59, .iaload, 60, []),
  (60, .aload_n 0, 61, []),
  (61, .getfield 15, 64, [8, 5]),
  (64, .iconst 2, 65, []),
  (65, .iaload, 66, []),
  (66, .invokevirtual 80, 69, [3, 9, 68]),
  (69, .iconst 1, 70, []),
  (70, .ireturn, 71, [])]
def xm_X8_readRenter : xM := ((yX8_readRenter, cX8_readRenter, 2, (some .boolean)), xc_X8_readRenter)
abbrev n_X8_readRenter : Nat := 56
def xc_X8_readThing : List xI := [
  (0, .aload_n 0, 1, []),
  (1, .invokevirtual 31, 4, [0, 8, 62]),
  (4, .aload_n 0, 5, []),
  (5, .iconst 0, 6, []),
  (6, .iconst 0, 7, []),
  (7, .aload_n 1, 8, []),
  (8, .getfield 53, 11, [9, 1]),
  (11, .iconst 1, 12, []),
  (12, .isub, 13, []),
  (13, .invokevirtual 72, 16, [3, 8, 59]),
  (16, .ifCond .eq 21, 19, [37]),
  (19, .aload_n 0, 20, []),
  (20, .iconst 1, 21, []),
  (21, .iconst 0, 22, []),
  (22, .bipush 7, 24, []),
  (24, .invokevirtual 72, 27, [3, 8, 59]),
  (27, .ifCond .eq 10, 30, [37]),
  (30, .aload_n 0, 31, []),
  (31, .invokevirtual 40, 34, [0, 8, 58]),
  (34, .ifCond .ne 5, 37, [39]),
  (37, .iconst 0, 38, []),
  (38, .ireturn, 39, []),
  (39, .aload_n 1, 40, []),
  (40, .getfield 84, 43, [9, 9]),
  (43, .aload_n 0, 44, []),
  (44, .getfield 15, 47, [8, 5]),
  (47, .iconst 0, 48, []),
  (48, .iaload, 49, []),
  (49, .dup2, 50, []),
  (50, .iaload, 51, []),
  (51, .iconst 1, 52, []),
  (52, .aload_n 0, 53, []),
  (53, .getfield 15, 56, [8, 5]),
  (56, .iconst 1, 57, []),
  (57, .iaload, 58, []),
  (58, .ishl, 59, []),
  (59, .ior, 60, []),
  (60, .iastore, 61, []),
  (61, .iconst 1, 62, []),
  (62, .ireturn, 63, [])]
def xm_X8_readThing : xM := ((yX8_readThing, cX8_readThing, 2, (some .boolean)), xc_X8_readThing)
abbrev n_X8_readThing : Nat := 57
def xc_X8_passMark : List xI := [
  (0, .aload_n 0, 1, []),
  (1, .getfield 44, 4, [8, 4]),
  (4, .iconst 3, 5, []),
  (5, .if_icmp .eq 5, 8, [10]),
  (8, .iconst 0, 9, []),
  (9, .ireturn, 10, []),
  (10, .aload_n 0, 11, []),
  (11, .invokevirtual 31, 14, [0, 8, 62]),
  (14, .iconst 1, 15, []),
  (15, .ireturn, 16, [])]
def xm_X8_passMark : xM := ((yX8_passMark, cX8_passMark, 1, (some .boolean)), xc_X8_passMark)
abbrev n_X8_passMark : Nat := 58
def xc_X8_passNumber : List xI := [
  (0, .aload_n 0, 1, []),
  (1, .invokevirtual 87, 4, [0, 8, 60]),
  (4, .istore 4, 6, []),
  (6, .iload 4, 8, []),
  (8, .iconst (-1), 9, []),
  (9, .if_icmp .eq 13, 12, [22]),
  (12, .iload 4, 14, []),
  (14, .iload_n 2, 15, []),
  (15, .iload_n 3, 16, []),
  (16, .invokestatic 91, 19, [3, 119]),
  (19, .ifCond .ne 5, 22, [24]),
  (22, .iconst 0, 23, []),
  (23, .ireturn, 24, []),
  (24, .aload_n 0, 25, []),
  (25, .getfield 15, 28, [8, 5]),
  (28, .iload_n 1, 29, []),
  (29, .iload 4, 31, []),
  (31, .iastore, 32, []),
  (32, .aload_n 0, 33, []),
  (33, .invokevirtual 31, 36, [0, 8, 62]),
  (36, .iconst 1, 37, []),
  (37, .ireturn, 38, [])]
def xm_X8_passNumber : xM := ((yX8_passNumber, cX8_passNumber, 5, (some .boolean)), xc_X8_passNumber)
abbrev n_X8_passNumber : Nat := 59
def xc_X8_numberMet : List xI := [
  (0, .aload_n 0, 1, []),
  (1, .getfield 44, 4, [8, 4]),
  (4, .iconst 2, 5, []),
  (5, .if_icmp .ne 16, 8, [21]),
  (8, .aload_n 0, 9, []),
  (9, .getfield 23, 12, [8, 3]),
  (12, .aload_n 0, 13, []),
  (13, .getfield 94, 16, [8, 0]),
  (16, .isub, 17, []),
  (17, .iconst 3, 18, []),
  (18, .if_icmp .le 5, 21, [23]),
  (21, .iconst (-1), 22, []),
  (22, .ireturn, 23, []),
  (23, .iconst 0, 24, []),
  (24, .istore_n 1, 25, []),
  (25, .aload_n 0, 26, []),
  (26, .getfield 94, 29, [8, 0]),
  (29, .istore_n 2, 30, []),
  (30, .iload_n 2, 31, []),
  (31, .aload_n 0, 32, []),
  (32, .getfield 23, 35, [8, 3]),
  (35, .if_icmp .ge 24, 38, [59]),
  (38, .bipush 10, 40, []),
  (40, .iload_n 1, 41, []),
  (41, .imul, 42, []),
  (42, .aload_n 0, 43, []),
  (43, .getfield 9, 46, [8, 2]),
  (46, .iload_n 2, 47, []),
  (47, .baload, 48, []),
  (48, .iadd, 49, []),
  (49, .bipush 48, 51, []),
  (51, .isub, 52, []),
  (52, .istore_n 1, 53, []),
  (53, .iinc 2 1, 56, []),
  (56, .goto (-26), 59, [30]),
  (59, .iload_n 1, 60, []),
  (60, .ireturn, 61, [])]
def xm_X8_numberMet : xM := ((yX8_numberMet, cX8_numberMet, 3, (some .int)), xc_X8_numberMet)
abbrev n_X8_numberMet : Nat := 60
def xc_X8_isWord : List xI := [
  (0, .aload_n 0, 1, []),
  (1, .getfield 44, 4, [8, 4]),
  (4, .iconst 1, 5, []),
  (5, .if_icmp .ne 19, 8, [24]),
  (8, .aload_n 0, 9, []),
  (9, .getfield 23, 12, [8, 3]),
  (12, .aload_n 0, 13, []),
  (13, .getfield 94, 16, [8, 0]),
  (16, .isub, 17, []),
  (17, .aload_n 1, 18, []),
  (18, .invokevirtual 97, 21, [0, 13, 218]),
  (21, .if_icmp .eq 5, 24, [26]),
  (24, .iconst 0, 25, []),
  (25, .ireturn, 26, []),
  (26, .iconst 0, 27, []),
  (27, .istore_n 2, 28, []),
  (28, .iload_n 2, 29, []),
  (29, .aload_n 1, 30, []),
  (30, .invokevirtual 97, 33, [0, 13, 218]),
  (33, .if_icmp .ge 30, 36, [63]),
  (36, .aload_n 0, 37, []),
  (37, .getfield 9, 40, [8, 2]),
  (40, .aload_n 0, 41, []),
  (41, .getfield 94, 44, [8, 0]),
  (44, .iload_n 2, 45, []),
  (45, .iadd, 46, []),
  (46, .baload, 47, []),
  (47, .aload_n 1, 48, []),
  (48, .iload_n 2, 49, []),
  (49, .invokevirtual 101, 52, [1, 13, 219]),
  (52, .if_icmp .eq 5, 55, [57]),
  (55, .iconst 0, 56, []),
  (56, .ireturn, 57, []),
  (57, .iinc 2 1, 60, []),
  (60, .goto (-32), 63, [28]),
  (63, .iconst 1, 64, []),
  (64, .ireturn, 65, [])]
def xm_X8_isWord : xM := ((yX8_isWord, cX8_isWord, 3, (some .boolean)), xc_X8_isWord)
abbrev n_X8_isWord : Nat := 61
def xc_X8_step : List xI := [
  (0, .aload_n 0, 1, []),
  (1, .aload_n 0, 2, []),
  (2, .getfield 23, 5, [8, 3]),
  (5, .putfield 94, 8, [8, 0]),
  (8, .aload_n 0, 9, []),
  (9, .getfield 94, 12, [8, 0]),
  (12, .aload_n 0, 13, []),
  (13, .getfield 19, 16, [8, 1]),
  (16, .if_icmp .ge 30, 19, [46]),
  (19, .aload_n 0, 20, []),
  (20, .getfield 9, 23, [8, 2]),
  (23, .aload_n 0, 24, []),
  (24, .getfield 94, 27, [8, 0]),
  (27, .baload, 28, []),
  (28, .bipush 32, 30, []),
  (30, .if_icmp .ne 16, 33, [46]),
  (33, .aload_n 0, 34, []),
  (34, .dup, 35, []),
  (35, .getfield 94, 38, [8, 0]),
  (38, .iconst 1, 39, []),
  (39, .iadd, 40, []),
  (40, .putfield 94, 43, [8, 0]),
  (43, .goto (-35), 46, [8]),
  (46, .aload_n 0, 47, []),
  (47, .aload_n 0, 48, []),
  (48, .aload_n 0, 49, []),
  (49, .getfield 94, 52, [8, 0]),
  (52, .invokevirtual 105, 55, [1, 8, 63]),
  (55, .putfield 44, 58, [8, 4]),
  (58, .aload_n 0, 59, []),
  (59, .aload_n 0, 60, []),
  (60, .getfield 44, 63, [8, 4]),
  (63, .ifCond .ne 10, 66, [73]),
  (66, .aload_n 0, 67, []),
  (67, .getfield 94, 70, [8, 0]),
  (70, .goto 9, 73, [79]),
  (73, .aload_n 0, 74, []),
  (74, .getfield 94, 77, [8, 0]),
  (77, .iconst 1, 78, []),
  (78, .iadd, 79, []),
  (79, .putfield 23, 82, [8, 3]),
  (82, .aload_n 0, 83, []),
  (83, .getfield 44, 86, [8, 4]),
  (86, .iconst 1, 87, []),
  (87, .if_icmp .eq 11, 90, [98]),
  (90, .aload_n 0, 91, []),
  (91, .getfield 44, 94, [8, 4]),
  (94, .iconst 2, 95, []),
  (95, .if_icmp .ne 42, 98, [137]),
  (98, .aload_n 0, 99, []),
  (99, .getfield 23, 102, [8, 3]),
  (102, .aload_n 0, 103, []),
  (103, .getfield 19, 106, [8, 1]),
  (106, .if_icmp .ge 31, 109, [137]),
  (109, .aload_n 0, 110, []),
  (110, .aload_n 0, 111, []),
  (111, .getfield 23, 114, [8, 3]),
  (114, .invokevirtual 105, 117, [1, 8, 63]),
  (117, .aload_n 0, 118, []),
  (118, .getfield 44, 121, [8, 4]),
  (121, .if_icmp .ne 16, 124, [137]),
  (124, .aload_n 0, 125, []),
  (125, .dup, 126, []),
  (126, .getfield 23, 129, [8, 3]),
  (129, .iconst 1, 130, []),
  (130, .iadd, 131, []),
  (131, .putfield 23, 134, [8, 3]),
  (134, .goto (-36), 137, [98]),
  (137, .return_, 138, [])]
def xm_X8_step : xM := ((yX8_step, cX8_step, 1, none), xc_X8_step)
abbrev n_X8_step : Nat := 62
def xc_X8_sortAt : List xI := [
  (0, .iload_n 1, 1, []),
  (1, .aload_n 0, 2, []),
  (2, .getfield 19, 5, [8, 1]),
  (5, .if_icmp .lt 5, 8, [10]),
  (8, .iconst 0, 9, []),
  (9, .ireturn, 10, []),
  (10, .aload_n 0, 11, []),
  (11, .getfield 9, 14, [8, 2]),
  (14, .iload_n 1, 15, []),
  (15, .baload, 16, []),
  (16, .istore_n 2, 17, []),
  (17, .iload_n 2, 18, []),
  (18, .bipush 97, 20, []),
  (20, .if_icmp .lt 11, 23, [31]),
  (23, .iload_n 2, 24, []),
  (24, .bipush 122, 26, []),
  (26, .if_icmp .gt 5, 29, [31]),
  (29, .iconst 1, 30, []),
  (30, .ireturn, 31, []),
  (31, .iload_n 2, 32, []),
  (32, .bipush 48, 34, []),
  (34, .if_icmp .lt 11, 37, [45]),
  (37, .iload_n 2, 38, []),
  (38, .bipush 57, 40, []),
  (40, .if_icmp .gt 5, 43, [45]),
  (43, .iconst 2, 44, []),
  (44, .ireturn, 45, []),
  (45, .iload_n 2, 46, []),
  (46, .bipush 59, 48, []),
  (48, .if_icmp .ne 7, 51, [55]),
  (51, .iconst 3, 52, []),
  (52, .goto 4, 55, [56]),
  (55, .iconst 4, 56, []),
  (56, .ireturn, 57, [])]
def xm_X8_sortAt : xM := ((yX8_sortAt, cX8_sortAt, 3, (some .int)), xc_X8_sortAt)
abbrev n_X8_sortAt : Nat := 63
def xc_X9_init : List xI := [
  (0, .aload_n 0, 1, []),
  (1, .invokespecial 3, 4, [98]),
  (4, .aload_n 0, 5, []),
  (5, .bipush 6, 7, []),
  (7, .anewarray 9, 10, [23]),
  (10, .dup, 11, []),
  (11, .iconst 0, 12, []),
  (12, .new 9, 15, [7]),
  (15, .dup, 16, []),
  (16, .invokespecial 11, 19, [0, 47]),
  (19, .aastore, 20, []),
  (20, .dup, 21, []),
  (21, .iconst 1, 22, []),
  (22, .new 12, 25, [10]),
  (25, .dup, 26, []),
  (26, .invokespecial 14, 29, [0, 82]),
  (29, .aastore, 30, []),
  (30, .dup, 31, []),
  (31, .iconst 2, 32, []),
  (32, .new 15, 35, [3]),
  (35, .dup, 36, []),
  (36, .invokespecial 17, 39, [0, 31]),
  (39, .aastore, 40, []),
  (40, .dup, 41, []),
  (41, .iconst 3, 42, []),
  (42, .new 18, 45, [6]),
  (45, .dup, 46, []),
  (46, .invokespecial 20, 49, [0, 44]),
  (49, .aastore, 50, []),
  (50, .dup, 51, []),
  (51, .iconst 4, 52, []),
  (52, .new 21, 55, [1]),
  (55, .dup, 56, []),
  (56, .invokespecial 23, 59, [0, 10]),
  (59, .aastore, 60, []),
  (60, .dup, 61, []),
  (61, .iconst 5, 62, []),
  (62, .new 24, 65, [4]),
  (65, .dup, 66, []),
  (66, .invokespecial 26, 69, [0, 34]),
  (69, .aastore, 70, []),
  (70, .putfield 27, 73, [9, 0]),
  (73, .aload_n 0, 74, []),
  (74, .bipush 6, 76, []),
  (76, .newarray .int, 78, [20]),
  (78, .putfield 33, 81, [9, 5]),
  (81, .aload_n 0, 82, []),
  (82, .bipush 6, 84, []),
  (84, .newarray .int, 86, [20]),
  (86, .putfield 37, 89, [9, 6]),
  (89, .aload_n 0, 90, []),
  (90, .bipush 6, 92, []),
  (92, .newarray .int, 94, [20]),
  (94, .putfield 40, 97, [9, 7]),
  (97, .aload_n 0, 98, []),
  (98, .bipush 6, 100, []),
  (100, .newarray .int, 102, [20]),
  (102, .putfield 43, 105, [9, 8]),
  (105, .aload_n 0, 106, []),
  (106, .bipush 6, 108, []),
  (108, .newarray .int, 110, [20]),
  (110, .putfield 46, 113, [9, 9]),
  (113, .aload_n 0, 114, []),
  (114, .bipush 6, 116, []),
  (116, .newarray .int, 118, [20]),
  (118, .putfield 49, 121, [9, 10]),
  (121, .aload_n 0, 122, []),
  (122, .bipush 6, 124, []),
  (124, .newarray .int, 126, [20]),
  (126, .putfield 52, 129, [9, 11]),
  (129, .aload_n 0, 130, []),
  (130, .bipush 6, 132, []),
  (132, .newarray .int, 134, [20]),
  (134, .putfield 55, 137, [9, 12]),
  (137, .aload_n 0, 138, []),
  (138, .bipush 6, 140, []),
  (140, .newarray .int, 142, [20]),
  (142, .putfield 58, 145, [9, 13]),
  (145, .aload_n 0, 146, []),
  (146, .bipush 6, 148, []),
  (148, .newarray .int, 150, [20]),
  (150, .putfield 61, 153, [9, 14]),
  (153, .aload_n 0, 154, []),
  (154, .new 64, 157, [0]),
  (157, .dup, 158, []),
  (158, .invokespecial 66, 161, [0, 0]),
  (161, .putfield 67, 164, [9, 15]),
  (164, .aload_n 0, 165, []),
  (165, .bipush 8, 167, []),
  (167, .anewarray 64, 170, [25]),
  (170, .putfield 71, 173, [9, 16]),
  (173, .iconst 0, 174, []),
  (174, .istore_n 1, 175, []),
  (175, .iload_n 1, 176, []),
  (176, .bipush 8, 178, []),
  (178, .if_icmp .ge 22, 181, [200]),
  (181, .aload_n 0, 182, []),
  (182, .getfield 71, 185, [9, 16]),
  (185, .iload_n 1, 186, []),
  (186, .new 64, 189, [0]),
  (189, .dup, 190, []),
  (190, .invokespecial 66, 193, [0, 0]),
  (193, .aastore, 194, []),
  (194, .iinc 1 1, 197, []),
  (197, .goto (-22), 200, [175]),
  (200, .aload_n 0, 201, []),
  (201, .invokevirtual 75, 204, [0, 9, 65]),
  (204, .return_, 205, [])]
def xm_X9_init : xM := ((yX9_init, cX9_init, 2, none), xc_X9_init)
abbrev n_X9_init : Nat := 64
def xc_X9_empty : List xI := [
  (0, .aload_n 0, 1, []),
  (1, .iconst 0, 2, []),
  (2, .putfield 78, 5, [9, 1]),
  (5, .aload_n 0, 6, []),
  (6, .iconst 0, 7, []),
  (7, .putfield 82, 10, [9, 2]),
  (10, .aload_n 0, 11, []),
  (11, .iconst 0, 12, []),
  (12, .putfield 85, 15, [9, 3]),
  (15, .aload_n 0, 16, []),
  (16, .iconst 0, 17, []),
  (17, .putfield 88, 20, [9, 4]),
  (20, .aload_n 0, 21, []),
  (21, .getfield 67, 24, [9, 15]),
  (24, .invokevirtual 91, 27, [0, 0, 1]),
  (27, .return_, 28, [])]
def xm_X9_empty : xM := ((yX9_empty, cX9_empty, 1, none), xc_X9_empty)
abbrev n_X9_empty : Nat := 65
def xc_X9_copyFrom : List xI := [
  (0, .aload_n 0, 1, []),
  (1, .aload_n 1, 2, []),
  (2, .getfield 78, 5, [9, 1]),
  (5, .putfield 78, 8, [9, 1]),
  (8, .aload_n 0, 9, []),
  (9, .aload_n 1, 10, []),
  (10, .getfield 82, 13, [9, 2]),
  (13, .putfield 82, 16, [9, 2]),
  (16, .aload_n 0, 17, []),
  (17, .aload_n 1, 18, []),
  (18, .getfield 85, 21, [9, 3]),
  (21, .putfield 85, 24, [9, 3]),
  (24, .aload_n 0, 25, []),
  (25, .aload_n 1, 26, []),
  (26, .getfield 88, 29, [9, 4]),
  (29, .putfield 88, 32, [9, 4]),
  (32, .aload_n 1, 33, []),
  (33, .getfield 33, 36, [9, 5]),
  (36, .iconst 0, 37, []),
  (37, .aload_n 0, 38, []),
  (38, .getfield 33, 41, [9, 5]),
  (41, .iconst 0, 42, []),
  (42, .bipush 6, 44, []),
  (44, .invokestatic 92, 47, [99]),
  (47, .aload_n 1, 48, []),
  (48, .getfield 37, 51, [9, 6]),
  (51, .iconst 0, 52, []),
  (52, .aload_n 0, 53, []),
  (53, .getfield 37, 56, [9, 6]),
  (56, .iconst 0, 57, []),
  (57, .bipush 6, 59, []),
  (59, .invokestatic 92, 62, [99]),
  (62, .aload_n 1, 63, []),
  (63, .getfield 40, 66, [9, 7]),
  (66, .iconst 0, 67, []),
  (67, .aload_n 0, 68, []),
  (68, .getfield 40, 71, [9, 7]),
  (71, .iconst 0, 72, []),
  (72, .bipush 6, 74, []),
  (74, .invokestatic 92, 77, [99]),
  (77, .aload_n 1, 78, []),
  (78, .getfield 43, 81, [9, 8]),
  (81, .iconst 0, 82, []),
  (82, .aload_n 0, 83, []),
  (83, .getfield 43, 86, [9, 8]),
  (86, .iconst 0, 87, []),
  (87, .bipush 6, 89, []),
  (89, .invokestatic 92, 92, [99]),
  (92, .aload_n 1, 93, []),
  (93, .getfield 46, 96, [9, 9]),
  (96, .iconst 0, 97, []),
  (97, .aload_n 0, 98, []),
  (98, .getfield 46, 101, [9, 9]),
  (101, .iconst 0, 102, []),
  (102, .bipush 6, 104, []),
  (104, .invokestatic 92, 107, [99]),
  (107, .aload_n 1, 108, []),
  (108, .getfield 49, 111, [9, 10]),
  (111, .iconst 0, 112, []),
  (112, .aload_n 0, 113, []),
  (113, .getfield 49, 116, [9, 10]),
  (116, .iconst 0, 117, []),
  (117, .bipush 6, 119, []),
  (119, .invokestatic 92, 122, [99]),
  (122, .aload_n 1, 123, []),
  (123, .getfield 52, 126, [9, 11]),
  (126, .iconst 0, 127, []),
  (127, .aload_n 0, 128, []),
  (128, .getfield 52, 131, [9, 11]),
  (131, .iconst 0, 132, []),
  (132, .bipush 6, 134, []),
  (134, .invokestatic 92, 137, [99]),
  (137, .aload_n 1, 138, []),
  (138, .getfield 55, 141, [9, 12]),
  (141, .iconst 0, 142, []),
  (142, .aload_n 0, 143, []),
  (143, .getfield 55, 146, [9, 12]),
  (146, .iconst 0, 147, []),
  (147, .bipush 6, 149, []),
  (149, .invokestatic 92, 152, [99]),
  (152, .aload_n 1, 153, []),
  (153, .getfield 58, 156, [9, 13]),
  (156, .iconst 0, 157, []),
  (157, .aload_n 0, 158, []),
  (158, .getfield 58, 161, [9, 13]),
  (161, .iconst 0, 162, []),
  (162, .bipush 6, 164, []),
  (164, .invokestatic 92, 167, [99]),
  (167, .aload_n 1, 168, []),
  (168, .getfield 61, 171, [9, 14]),
  (171, .iconst 0, 172, []),
  (172, .aload_n 0, 173, []),
  (173, .getfield 61, 176, [9, 14]),
  (176, .iconst 0, 177, []),
  (177, .bipush 6, 179, []),
  (179, .invokestatic 92, 182, [99]),
  (182, .aload_n 0, 183, []),
  (183, .getfield 67, 186, [9, 15]),
  (186, .aload_n 1, 187, []),
  (187, .getfield 67, 190, [9, 15]),
  (190, .invokevirtual 98, 193, [1, 0, 2]),
  (193, .iconst 0, 194, []),
  (194, .istore_n 2, 195, []),
  (195, .iload_n 2, 196, []),
  (196, .aload_n 0, 197, []),
  (197, .getfield 88, 200, [9, 4]),
  (200, .if_icmp .ge 24, 203, [224]),
  (203, .aload_n 0, 204, []),
  (204, .getfield 71, 207, [9, 16]),
  (207, .iload_n 2, 208, []),
  (208, .aaload, 209, []),
  (209, .aload_n 1, 210, []),
  (210, .getfield 71, 213, [9, 16]),
  (213, .iload_n 2, 214, []),
  (214, .aaload, 215, []),
  (215, .invokevirtual 98, 218, [1, 0, 2]),
  (218, .iinc 2 1, 221, []),
  (221, .goto (-26), 224, [195]),
  (224, .return_, 225, [])]
def xm_X9_copyFrom : xM := ((yX9_copyFrom, cX9_copyFrom, 3, none), xc_X9_copyFrom)
abbrev n_X9_copyFrom : Nat := 66
def xc_X9_addView : List xI := [
  (0, .aload_n 0, 1, []),
  (1, .getfield 33, 4, [9, 5]),
  (4, .aload_n 0, 5, []),
  (5, .getfield 78, 8, [9, 1]),
  (8, .iload_n 1, 9, []),
  (9, .iastore, 10, []),
  (10, .aload_n 0, 11, []),
  (11, .getfield 37, 14, [9, 6]),
  (14, .aload_n 0, 15, []),
  (15, .getfield 78, 18, [9, 1]),
  (18, .iload_n 2, 19, []),
  (19, .iastore, 20, []),
  (20, .aload_n 0, 21, []),
  (21, .getfield 40, 24, [9, 7]),
  (24, .aload_n 0, 25, []),
  (25, .getfield 78, 28, [9, 1]),
  (28, .iload_n 3, 29, []),
  (29, .iastore, 30, []),
  (30, .aload_n 0, 31, []),
  (31, .getfield 43, 34, [9, 8]),
  (34, .aload_n 0, 35, []),
  (35, .getfield 78, 38, [9, 1]),
  (38, .iload 4, 40, []),
  (40, .iastore, 41, []),
  (41, .aload_n 0, 42, []),
  (42, .getfield 46, 45, [9, 9]),
  (45, .aload_n 0, 46, []),
  (46, .getfield 78, 49, [9, 1]),
  (49, .iconst 0, 50, []),
  (50, .iastore, 51, []),
  (51, .aload_n 0, 52, []),
  (52, .dup, 53, []),
  (53, .getfield 78, 56, [9, 1]),
  (56, .iconst 1, 57, []),
  (57, .iadd, 58, []),
  (58, .putfield 78, 61, [9, 1]),
  (61, .aload_n 0, 62, []),
  (62, .iconst 0, 63, []),
  (63, .putfield 88, 66, [9, 4]),
  (66, .return_, 67, [])]
def xm_X9_addView : xM := ((yX9_addView, cX9_addView, 5, none), xc_X9_addView)
abbrev n_X9_addView : Nat := 67
def xc_X9_addRenter : List xI := [
  (0, .aload_n 0, 1, []),
  (1, .getfield 49, 4, [9, 10]),
  (4, .aload_n 0, 5, []),
  (5, .getfield 82, 8, [9, 2]),
  (8, .iload_n 1, 9, []),
  (9, .iastore, 10, []),
  (10, .aload_n 0, 11, []),
  (11, .getfield 52, 14, [9, 11]),
  (14, .aload_n 0, 15, []),
  (15, .getfield 82, 18, [9, 2]),
  (18, .iload_n 3, 19, []),
  (19, .iastore, 20, []),
  (20, .aload_n 0, 21, []),
  (21, .getfield 67, 24, [9, 15]),
  (24, .getfield 102, 27, [0, 3]),
  (27, .aload_n 0, 28, []),
  (28, .getfield 82, 31, [9, 2]),
  (31, .iload_n 2, 32, []),
  (32, .iastore, 33, []),
  (33, .aload_n 0, 34, []),
  (34, .dup, 35, []),
  (35, .getfield 82, 38, [9, 2]),
  (38, .iconst 1, 39, []),
  (39, .iadd, 40, []),
  (40, .putfield 82, 43, [9, 2]),
  (43, .aload_n 0, 44, []),
  (44, .iconst 0, 45, []),
  (45, .putfield 88, 48, [9, 4]),
  (48, .return_, 49, [])]
def xm_X9_addRenter : xM := ((yX9_addRenter, cX9_addRenter, 4, none), xc_X9_addRenter)
abbrev n_X9_addRenter : Nat := 68
def xc_X9_addReading : List xI := [
  (0, .aload_n 0, 1, []),
  (1, .getfield 55, 4, [9, 12]),
  (4, .aload_n 0, 5, []),
  (5, .getfield 85, 8, [9, 3]),
  (8, .iload_n 1, 9, []),
  (9, .iastore, 10, []),
  (10, .aload_n 0, 11, []),
  (11, .getfield 58, 14, [9, 13]),
  (14, .aload_n 0, 15, []),
  (15, .getfield 85, 18, [9, 3]),
  (18, .iload_n 2, 19, []),
  (19, .iastore, 20, []),
  (20, .aload_n 0, 21, []),
  (21, .getfield 61, 24, [9, 14]),
  (24, .aload_n 0, 25, []),
  (25, .getfield 85, 28, [9, 3]),
  (28, .iload_n 3, 29, []),
  (29, .iastore, 30, []),
  (30, .aload_n 0, 31, []),
  (31, .dup, 32, []),
  (32, .getfield 85, 35, [9, 3]),
  (35, .iconst 1, 36, []),
  (36, .iadd, 37, []),
  (37, .putfield 85, 40, [9, 3]),
  (40, .return_, 41, [])]
def xm_X9_addReading : xM := ((yX9_addReading, cX9_addReading, 4, none), xc_X9_addReading)
abbrev n_X9_addReading : Nat := 69
def xc_X9_remember : List xI := [
  (0, .aload_n 0, 1, []),
  (1, .getfield 88, 4, [9, 4]),
  (4, .bipush 8, 6, []),
  (6, .if_icmp .lt 13, 9, [19]),
  (9, .aload_n 0, 10, []),
  (10, .invokevirtual 105, 13, [0, 9, 71]),
  (13, .aload_n 0, 14, []),
  (14, .bipush 7, 16, []),
  (16, .putfield 88, 19, [9, 4]),
  (19, .aload_n 0, 20, []),
  (20, .getfield 71, 23, [9, 16]),
  (23, .aload_n 0, 24, []),
  (24, .getfield 88, 27, [9, 4]),
  (27, .aaload, 28, []),
  (28, .aload_n 0, 29, []),
  (29, .getfield 67, 32, [9, 15]),
  (32, .invokevirtual 98, 35, [1, 0, 2]),
  (35, .aload_n 0, 36, []),
  (36, .dup, 37, []),
  (37, .getfield 88, 40, [9, 4]),
  (40, .iconst 1, 41, []),
  (41, .iadd, 42, []),
  (42, .putfield 88, 45, [9, 4]),
  (45, .return_, 46, [])]
def xm_X9_remember : xM := ((yX9_remember, cX9_remember, 1, none), xc_X9_remember)
abbrev n_X9_remember : Nat := 70
def xc_X9_moveOldestToEnd : List xI := [
  (0, .aload_n 0, 1, []),
  (1, .getfield 71, 4, [9, 16]),
  (4, .iconst 0, 5, []),
  (5, .aaload, 6, []),
  (6, .astore_n 1, 7, []),
  (7, .iconst 1, 8, []),
  (8, .istore_n 2, 9, []),
  (9, .iload_n 2, 10, []),
  (10, .bipush 8, 12, []),
  (12, .if_icmp .ge 23, 15, [35]),
  (15, .aload_n 0, 16, []),
  (16, .getfield 71, 19, [9, 16]),
  (19, .iload_n 2, 20, []),
  (20, .iconst 1, 21, []),
  (21, .isub, 22, []),
  (22, .aload_n 0, 23, []),
  (23, .getfield 71, 26, [9, 16]),
  (26, .iload_n 2, 27, []),
  (27, .aaload, 28, []),
  (28, .aastore, 29, []),
  (29, .iinc 2 1, 32, []),
  (32, .goto (-23), 35, [9]),
  (35, .aload_n 0, 36, []),
  (36, .getfield 71, 39, [9, 16]),
  (39, .bipush 7, 41, []),
  (41, .aload_n 1, 42, []),
  (42, .aastore, 43, []),
  (43, .return_, 44, [])]
def xm_X9_moveOldestToEnd : xM := ((yX9_moveOldestToEnd, cX9_moveOldestToEnd, 3, none), xc_X9_moveOldestToEnd)
abbrev n_X9_moveOldestToEnd : Nat := 71
def xc_X9_goBack : List xI := [
  (0, .aload_n 0, 1, []),
  (1, .dup, 2, []),
  (2, .getfield 88, 5, [9, 4]),
  (5, .iconst 1, 6, []),
  (6, .isub, 7, []),
  (7, .putfield 88, 10, [9, 4]),
  (10, .aload_n 0, 11, []),
  (11, .getfield 67, 14, [9, 15]),
  (14, .aload_n 0, 15, []),
  (15, .getfield 71, 18, [9, 16]),
  (18, .aload_n 0, 19, []),
  (19, .getfield 88, 22, [9, 4]),
  (22, .aaload, 23, []),
  (23, .invokevirtual 98, 26, [1, 0, 2]),
  (26, .return_, 27, [])]
def xm_X9_goBack : xM := ((yX9_goBack, cX9_goBack, 1, none), xc_X9_goBack)
abbrev n_X9_goBack : Nat := 72
def xc_X9_showing : List xI := [
  (0, .aload_n 0, 1, []),
  (1, .getfield 27, 4, [9, 0]),
  (4, .aload_n 0, 5, []),
  (5, .getfield 33, 8, [9, 5]),
  (8, .iload_n 1, 9, []),
  (9, .iaload, 10, []),
  (10, .aaload, 11, []),
  (11, .aload_n 0, 12, []),
  (12, .getfield 43, 15, [9, 8]),
  (15, .iload_n 1, 16, []),
  (16, .iaload, 17, []),
  (17, .iload_n 2, 18, []),
  (18, .invokevirtual 108, 21, [2, 1, 48, 3, 32, 4, 35, 6, 45, 7, 48, 10, 83]),
  (21, .ireturn, 22, [])]
def xm_X9_showing : xM := ((yX9_showing, cX9_showing, 3, (some .int)), xc_X9_showing)
abbrev n_X9_showing : Nat := 73
def xc_X9_fee : List xI := [
  (0, .aload_n 0, 1, []),
  (1, .iload_n 1, 2, []),
  (2, .aload_n 0, 3, []),
  (3, .getfield 40, 6, [9, 7]),
  (6, .iload_n 1, 7, []),
  (7, .iaload, 8, []),
  (8, .invokevirtual 112, 11, [2, 9, 75]),
  (11, .ireturn, 12, [])]
def xm_X9_fee : xM := ((yX9_fee, cX9_fee, 2, (some .int)), xc_X9_fee)
abbrev n_X9_fee : Nat := 74
def xc_X9_feeAt : List xI := [
  (0, .aload_n 0, 1, []),
  (1, .getfield 27, 4, [9, 0]),
  (4, .aload_n 0, 5, []),
  (5, .getfield 33, 8, [9, 5]),
  (8, .iload_n 1, 9, []),
  (9, .iaload, 10, []),
  (10, .aaload, 11, []),
  (11, .iload_n 2, 12, []),
  (12, .invokevirtual 115, 15, [1, 1, 11, 3, 33, 4, 36, 6, 46, 7, 49, 10, 49]),
  (15, .ireturn, 16, [])]
def xm_X9_feeAt : xM := ((yX9_feeAt, cX9_feeAt, 3, (some .int)), xc_X9_feeAt)
abbrev n_X9_feeAt : Nat := 75
def xc_X9_fits : List xI := [
  (0, .aload_n 0, 1, []),
  (1, .getfield 27, 4, [9, 0]),
  (4, .aload_n 0, 5, []),
  (5, .getfield 33, 8, [9, 5]),
  (8, .iload_n 1, 9, []),
  (9, .iaload, 10, []),
  (10, .aaload, 11, []),
  (11, .aload_n 0, 12, []),
  (12, .getfield 37, 15, [9, 6]),
  (15, .iload_n 1, 16, []),
  (16, .iaload, 17, []),
  (17, .iload_n 2, 18, []),
  (18, .invokevirtual 119, 21, [2, 1, 12, 3, 50, 4, 50, 6, 50, 7, 50, 10, 50]),
  (21, .ireturn, 22, [])]
def xm_X9_fits : xM := ((yX9_fits, cX9_fits, 3, (some .boolean)), xc_X9_fits)
abbrev n_X9_fits : Nat := 76
def xc_X9_mayLet : List xI := [
  (0, .aload_n 0, 1, []),
  (1, .getfield 67, 4, [9, 15]),
  (4, .getfield 123, 7, [0, 4]),
  (7, .iload_n 1, 8, []),
  (8, .iaload, 9, []),
  (9, .iconst (-1), 10, []),
  (10, .if_icmp .ne 50, 13, [60]),
  (13, .aload_n 0, 14, []),
  (14, .getfield 67, 17, [9, 15]),
  (17, .iload_n 2, 18, []),
  (18, .invokevirtual 126, 21, [1, 0, 6]),
  (21, .iconst (-1), 22, []),
  (22, .if_icmp .ne 38, 25, [60]),
  (25, .aload_n 0, 26, []),
  (26, .iload_n 1, 27, []),
  (27, .aload_n 0, 28, []),
  (28, .getfield 49, 31, [9, 10]),
  (31, .iload_n 2, 32, []),
  (32, .iaload, 33, []),
  (33, .invokevirtual 129, 36, [2, 9, 76]),
  (36, .ifCond .eq 24, 39, [60]),
  (39, .aload_n 0, 40, []),
  (40, .iload_n 1, 41, []),
  (41, .invokevirtual 130, 44, [1, 9, 74]),
  (44, .aload_n 0, 45, []),
  (45, .getfield 67, 48, [9, 15]),
  (48, .getfield 102, 51, [0, 3]),
  (51, .iload_n 2, 52, []),
  (52, .iaload, 53, []),
  (53, .if_icmp .gt 7, 56, [60]),
  (56, .iconst 1, 57, []),
  (57, .goto 4, 60, [61]),
  (60, .iconst 0, 61, []),
  (61, .ireturn, 62, [])]
def xm_X9_mayLet : xM := ((yX9_mayLet, cX9_mayLet, 3, (some .boolean)), xc_X9_mayLet)
abbrev n_X9_mayLet : Nat := 77
def xc_X9_airNow : List xI := [
  (0, .aload_n 0, 1, []),
  (1, .getfield 67, 4, [9, 15]),
  (4, .iload_n 1, 5, []),
  (5, .invokevirtual 126, 8, [1, 0, 6]),
  (8, .istore_n 3, 9, []),
  (9, .aload_n 0, 10, []),
  (10, .getfield 67, 13, [9, 15]),
  (13, .iload_n 2, 14, []),
  (14, .invokevirtual 126, 17, [1, 0, 6]),
  (17, .istore 4, 19, []),
  (19, .iload_n 3, 20, []),
  (20, .iconst (-1), 21, []),
  (21, .if_icmp .eq 9, 24, [30]),
  (24, .iload 4, 26, []),
  (26, .iconst (-1), 27, []),
  (27, .if_icmp .ne 7, 30, [34]),
  (30, .iconst (-1), 31, []),
  (31, .goto 10, 34, [41]),
  (34, .aload_n 0, 35, []),
  (35, .iload_n 3, 36, []),
  (36, .iload 4, 38, []),
  (38, .invokevirtual 131, 41, [2, 9, 79]),
  (41, .ireturn, 42, [])]
def xm_X9_airNow : xM := ((yX9_airNow, cX9_airNow, 5, (some .int)), xc_X9_airNow)
abbrev n_X9_airNow : Nat := 78
def xc_X9_airOf : List xI := [
  (0, .aload_n 0, 1, []),
  (1, .iload_n 1, 2, []),
  (2, .aload_n 0, 3, []),
  (3, .getfield 67, 6, [9, 15]),
  (6, .getfield 134, 9, [0, 0]),
  (9, .invokevirtual 137, 12, [2, 9, 73]),
  (12, .aload_n 0, 13, []),
  (13, .iload_n 2, 14, []),
  (14, .aload_n 0, 15, []),
  (15, .getfield 67, 18, [9, 15]),
  (18, .getfield 134, 21, [0, 0]),
  (21, .invokevirtual 137, 24, [2, 9, 73]),
  (24, .iadd, 25, []),
  (25, .istore_n 3, 26, []),
  (26, .iload_n 3, 27, []),
  (27, .bipush 6, 29, []),
  (29, .irem, 30, []),
  (30, .ireturn, 31, [])]
def xm_X9_airOf : xM := ((yX9_airOf, cX9_airOf, 4, (some .int)), xc_X9_airOf)
abbrev n_X9_airOf : Nat := 79
def xc_X9_fewestForAir : List xI := [
  (0, .iload_n 1, 1, []),
  (1, .iconst 1, 2, []),
  (2, .iadd, 3, []),
  (3, .istore_n 3, 4, []),
  (4, .aload_n 0, 5, []),
  (5, .getfield 67, 8, [9, 15]),
  (8, .iload_n 1, 9, []),
  (9, .invokevirtual 126, 12, [1, 0, 6]),
  (12, .istore 4, 14, []),
  (14, .aload_n 0, 15, []),
  (15, .getfield 67, 18, [9, 15]),
  (18, .iload_n 3, 19, []),
  (19, .invokevirtual 126, 22, [1, 0, 6]),
  (22, .istore 5, 24, []),
  (24, .iconst (-1), 25, []),
  (25, .istore 6, 27, []),
  (27, .iconst 0, 28, []),
  (28, .istore 7, 30, []),
  (30, .iload 7, 32, []),
  (32, .aload_n 0, 33, []),
  (33, .getfield 78, 36, [9, 1]),
  (36, .if_icmp .ge 142, 39, [178]),
  (39, .iconst 0, 40, []),
  (40, .istore 8, 42, []),
  (42, .iload 8, 44, []),
  (44, .aload_n 0, 45, []),
  (45, .getfield 78, 48, [9, 1]),
  (48, .if_icmp .ge 124, 51, [172]),
  (51, .iload 7, 53, []),
  (53, .iload 8, 55, []),
  (55, .if_icmp .eq 111, 58, [166]),
  (58, .aload_n 0, 59, []),
  (59, .iload 7, 61, []),
  (61, .iload 8, 63, []),
  (63, .invokevirtual 131, 66, [2, 9, 79]),
  (66, .iload_n 2, 67, []),
  (67, .if_icmp .ne 99, 70, [166]),
  (70, .aload_n 0, 71, []),
  (71, .iload 7, 73, []),
  (73, .aload_n 0, 74, []),
  (74, .getfield 49, 77, [9, 10]),
  (77, .iload_n 1, 78, []),
  (78, .iaload, 79, []),
  (79, .invokevirtual 129, 82, [2, 9, 76]),
  (82, .ifCond .eq 84, 85, [166]),
  (85, .aload_n 0, 86, []),
  (86, .iload 8, 88, []),
  (88, .aload_n 0, 89, []),
  (89, .getfield 49, 92, [9, 10]),
  (92, .iload_n 3, 93, []),
  (93, .iaload, 94, []),
  (94, .invokevirtual 129, 97, [2, 9, 76]),
  (97, .ifCond .ne 6, 100, [103]),
  (100, .goto 66, 103, [166]),
  (103, .iload 7, 105, []),
  (105, .iload 4, 107, []),
  (107, .if_icmp .ne 7, 110, [114]),
  (110, .iconst 0, 111, []),
  (111, .goto 4, 114, [115]),
  (114, .iconst 1, 115, []),
  (115, .iload 8, 117, []),
  (117, .iload 5, 119, []),
  (119, .if_icmp .ne 7, 122, [126]),
  (122, .iconst 0, 123, []),
  (123, .goto 4, 126, [127]),
  (126, .iconst 1, 127, []),
  (127, .iadd, 128, []),
  (128, .istore 9, 130, []),
  (130, .bipush 100, 132, []),
  (132, .iload 9, 134, []),
  (134, .imul, 135, []),
  (135, .bipush 10, 137, []),
  (137, .iload 7, 139, []),
  (139, .imul, 140, []),
  (140, .iadd, 141, []),
  (141, .iload 8, 143, []),
  (143, .iadd, 144, []),
  (144, .istore 10, 146, []),
  (146, .iload 6, 148, []),
  (148, .iconst (-1), 149, []),
  (149, .if_icmp .ne 8, 152, [157]),
  (152, .iload 10, 154, []),
  (154, .goto 10, 157, [164]),
  (157, .iload 6, 159, []),
  (159, .iload 10, 161, []),
  (161, .invokestatic 138, 164, [2, 217]),
  (164, .istore 6, 166, []),
  (166, .iinc 8 1, 169, []),
  (169, .goto (-127), 172, [42]),
  (172, .iinc 7 1, 175, []),
  (175, .goto (-145), 178, [30]),
  (178, .iload 6, 180, []),
  (180, .ireturn, 181, [])]
def xm_X9_fewestForAir : xM := ((yX9_fewestForAir, cX9_fewestForAir, 11, (some .int)), xc_X9_fewestForAir)
abbrev n_X9_fewestForAir : Nat := 80
def xc_X9_digestFrom : List xI := [
  (0, .iconst 0, 1, []),
  (1, .istore_n 3, 2, []),
  (2, .iload_n 3, 3, []),
  (3, .aload_n 0, 4, []),
  (4, .getfield 78, 7, [9, 1]),
  (7, .if_icmp .ge 96, 10, [103]),
  (10, .ldc2_w 143, 13, [31]),
  (13, .lload_n 1, 14, []),
  (14, .lmul, 15, []),
  (15, .aload_n 0, 16, []),
  (16, .getfield 33, 19, [9, 5]),
  (19, .iload_n 3, 20, []),
  (20, .iaload, 21, []),
  (21, .i2l, 22, []),
  (22, .ladd, 23, []),
  (23, .lstore_n 1, 24, []),
  (24, .ldc2_w 143, 27, [31]),
  (27, .lload_n 1, 28, []),
  (28, .lmul, 29, []),
  (29, .aload_n 0, 30, []),
  (30, .getfield 37, 33, [9, 6]),
  (33, .iload_n 3, 34, []),
  (34, .iaload, 35, []),
  (35, .i2l, 36, []),
  (36, .ladd, 37, []),
  (37, .lstore_n 1, 38, []),
  (38, .ldc2_w 143, 41, [31]),
  (41, .lload_n 1, 42, []),
  (42, .lmul, 43, []),
  (43, .aload_n 0, 44, []),
  (44, .getfield 40, 47, [9, 7]),
  (47, .iload_n 3, 48, []),
  (48, .iaload, 49, []),
  (49, .i2l, 50, []),
  (50, .ladd, 51, []),
  (51, .lstore_n 1, 52, []),
  (52, .ldc2_w 143, 55, [31]),
  (55, .lload_n 1, 56, []),
  (56, .lmul, 57, []),
  (57, .aload_n 0, 58, []),
  (58, .getfield 43, 61, [9, 8]),
  (61, .iload_n 3, 62, []),
  (62, .iaload, 63, []),
  (63, .i2l, 64, []),
  (64, .ladd, 65, []),
  (65, .lstore_n 1, 66, []),
  (66, .ldc2_w 143, 69, [31]),
  (69, .lload_n 1, 70, []),
  (70, .lmul, 71, []),
  (71, .aload_n 0, 72, []),
  (72, .getfield 67, 75, [9, 15]),
  (75, .getfield 123, 78, [0, 4]),
  (78, .iload_n 3, 79, []),
  (79, .iaload, 80, []),
  (80, .i2l, 81, []),
  (81, .ladd, 82, []),
  (82, .lstore_n 1, 83, []),
  (83, .ldc2_w 143, 86, [31]),
  (86, .lload_n 1, 87, []),
  (87, .lmul, 88, []),
  (88, .aload_n 0, 89, []),
  (89, .getfield 46, 92, [9, 9]),
  (92, .iload_n 3, 93, []),
  (93, .iaload, 94, []),
  (94, .i2l, 95, []),
  (95, .ladd, 96, []),
  (96, .lstore_n 1, 97, []),
  (97, .iinc 3 1, 100, []),
  (100, .goto (-98), 103, [2]),
  (103, .iconst 0, 104, []),
  (104, .istore_n 3, 105, []),
  (105, .iload_n 3, 106, []),
  (106, .aload_n 0, 107, []),
  (107, .getfield 82, 110, [9, 2]),
  (110, .if_icmp .ge 54, 113, [164]),
  (113, .ldc2_w 143, 116, [31]),
  (116, .lload_n 1, 117, []),
  (117, .lmul, 118, []),
  (118, .aload_n 0, 119, []),
  (119, .getfield 49, 122, [9, 10]),
  (122, .iload_n 3, 123, []),
  (123, .iaload, 124, []),
  (124, .i2l, 125, []),
  (125, .ladd, 126, []),
  (126, .lstore_n 1, 127, []),
  (127, .ldc2_w 143, 130, [31]),
  (130, .lload_n 1, 131, []),
  (131, .lmul, 132, []),
  (132, .aload_n 0, 133, []),
  (133, .getfield 67, 136, [9, 15]),
  (136, .getfield 102, 139, [0, 3]),
  (139, .iload_n 3, 140, []),
  (140, .iaload, 141, []),
  (141, .i2l, 142, []),
  (142, .ladd, 143, []),
  (143, .lstore_n 1, 144, []),
  (144, .ldc2_w 143, 147, [31]),
  (147, .lload_n 1, 148, []),
  (148, .lmul, 149, []),
  (149, .aload_n 0, 150, []),
  (150, .getfield 52, 153, [9, 11]),
  (153, .iload_n 3, 154, []),
  (154, .iaload, 155, []),
  (155, .i2l, 156, []),
  (156, .ladd, 157, []),
  (157, .lstore_n 1, 158, []),
  (158, .iinc 3 1, 161, []),
  (161, .goto (-56), 164, [105]),
  (164, .iconst 0, 165, []),
  (165, .istore_n 3, 166, []),
  (166, .iload_n 3, 167, []),
  (167, .aload_n 0, 168, []),
  (168, .getfield 67, 171, [9, 15]),
  (171, .getfield 145, 174, [0, 2]),
  (174, .if_icmp .ge 60, 177, [234]),
  (177, .ldc2_w 143, 180, [31]),
  (180, .lload_n 1, 181, []),
  (181, .lmul, 182, []),
  (182, .aload_n 0, 183, []),
  (183, .getfield 67, 186, [9, 15]),
  (186, .getfield 148, 189, [0, 5]),
  (189, .iload_n 3, 190, []),
  (190, .iaload, 191, []),
  (191, .i2l, 192, []),
  (192, .ladd, 193, []),
  (193, .lstore_n 1, 194, []),
  (194, .ldc2_w 143, 197, [31]),
  (197, .lload_n 1, 198, []),
  (198, .lmul, 199, []),
  (199, .aload_n 0, 200, []),
  (200, .getfield 67, 203, [9, 15]),
  (203, .getfield 151, 206, [0, 6]),
  (206, .iload_n 3, 207, []),
  (207, .iaload, 208, []),
  (208, .i2l, 209, []),
  (209, .ladd, 210, []),
  (210, .lstore_n 1, 211, []),
  (211, .ldc2_w 143, 214, [31]),
  (214, .lload_n 1, 215, []),
  (215, .lmul, 216, []),
  (216, .aload_n 0, 217, []),
  (217, .getfield 67, 220, [9, 15]),
  (220, .getfield 154, 223, [0, 7]),
  (223, .iload_n 3, 224, []),
  (224, .iaload, 225, []),
  (225, .i2l, 226, []),
  (226, .ladd, 227, []),
  (227, .lstore_n 1, 228, []),
  (228, .iinc 3 1, 231, []),
  (231, .goto (-65), 234, [166]),
  (234, .iconst 0, 235, []),
  (235, .istore_n 3, 236, []),
  (236, .iload_n 3, 237, []),
  (237, .aload_n 0, 238, []),
  (238, .getfield 85, 241, [9, 3]),
  (241, .if_icmp .ge 51, 244, [292]),
  (244, .ldc2_w 143, 247, [31]),
  (247, .lload_n 1, 248, []),
  (248, .lmul, 249, []),
  (249, .aload_n 0, 250, []),
  (250, .getfield 55, 253, [9, 12]),
  (253, .iload_n 3, 254, []),
  (254, .iaload, 255, []),
  (255, .i2l, 256, []),
  (256, .ladd, 257, []),
  (257, .lstore_n 1, 258, []),
  (258, .ldc2_w 143, 261, [31]),
  (261, .lload_n 1, 262, []),
  (262, .lmul, 263, []),
  (263, .aload_n 0, 264, []),
  (264, .getfield 58, 267, [9, 13]),
  (267, .iload_n 3, 268, []),
  (268, .iaload, 269, []),
  (269, .i2l, 270, []),
  (270, .ladd, 271, []),
  (271, .lstore_n 1, 272, []),
  (272, .ldc2_w 143, 275, [31]),
  (275, .lload_n 1, 276, []),
  (276, .lmul, 277, []),
  (277, .aload_n 0, 278, []),
  (278, .getfield 61, 281, [9, 14]),
  (281, .iload_n 3, 282, []),
  (282, .iaload, 283, []),
  (283, .i2l, 284, []),
  (284, .ladd, 285, []),
  (285, .lstore_n 1, 286, []),
  (286, .iinc 3 1, 289, []),
  (289, .goto (-53), 292, [236]),
  (292, .lload_n 1, 293, []),
  (293, .lreturn, 294, [])]
def xm_X9_digestFrom : xM := ((yX9_digestFrom, cX9_digestFrom, 4, (some .long)), xc_X9_digestFrom)
abbrev n_X9_digestFrom : Nat := 81
def xc_X10_init : List xI := [
  (0, .aload_n 0, 1, []),
  (1, .invokespecial 3, 4, [0, 47]),
  (4, .return_, 5, [])]
def xm_X10_init : xM := ((yX10_init, cX10_init, 1, none), xc_X10_init)
abbrev n_X10_init : Nat := 82
def xc_X10_showing : List xI := [
  (0, .iload_n 1, 1, []),
  (1, .iconst 2, 2, []),
  (2, .iload_n 2, 3, []),
  (3, .imul, 4, []),
  (4, .iadd, 5, []),
  (5, .bipush 6, 7, []),
  (7, .invokestatic 9, 10, [2, 215]),
  (10, .ireturn, 11, [])]
def xm_X10_showing : xM := ((yX10_showing, cX10_showing, 3, (some .int)), xc_X10_showing)
abbrev n_X10_showing : Nat := 83
def xc_X11_init : List xI := [
  (0, .aload_n 0, 1, []),
  (1, .invokespecial 1, 4, [98]),
  (4, .aload_n 0, 5, []),
  (5, .iconst 2, 6, []),
  (6, .anewarray 9, 9, [24]),
  (9, .putfield 11, 12, [11, 0]),
  (12, .aload_n 0, 13, []),
  (13, .new 15, 16, [8]),
  (16, .dup, 17, []),
  (17, .invokespecial 17, 20, [0, 51]),
  (20, .putfield 18, 23, [11, 1]),
  (23, .aload_n 0, 24, []),
  (24, .new 22, 27, [2]),
  (27, .dup, 28, []),
  (28, .invokespecial 24, 31, [0, 13]),
  (31, .putfield 25, 34, [11, 2]),
  (34, .aload_n 0, 35, []),
  (35, .new 29, 38, [5]),
  (38, .dup, 39, []),
  (39, .invokespecial 31, 42, [0, 37]),
  (42, .putfield 32, 45, [11, 3]),
  (45, .aload_n 0, 46, []),
  (46, .iconst 3, 47, []),
  (47, .newarray .int, 49, [20]),
  (49, .putfield 36, 52, [11, 4]),
  (52, .aload_n 0, 53, []),
  (53, .new 9, 56, [9]),
  (56, .dup, 57, []),
  (57, .invokespecial 40, 60, [0, 64]),
  (60, .putfield 41, 63, [11, 5]),
  (63, .aload_n 0, 64, []),
  (64, .new 9, 67, [9]),
  (67, .dup, 68, []),
  (68, .invokespecial 40, 71, [0, 64]),
  (71, .putfield 45, 74, [11, 6]),
  (74, .aload_n 0, 75, []),
  (75, .lconst 0, 76, []),
  (76, .putfield 48, 79, [11, 7]),
  (79, .aload_n 0, 80, []),
  (80, .lconst 1, 81, []),
  (81, .putfield 52, 84, [11, 8]),
  (84, .return_, 85, [])]
def xm_X11_init : xM := ((yX11_init, cX11_init, 1, none), xc_X11_init)
abbrev n_X11_init : Nat := 84
def xc_X11_shop : List xI := [
  (0, .aload_n 0, 1, []),
  (1, .getfield 41, 4, [11, 5]),
  (4, .getfield 55, 7, [9, 1]),
  (7, .istore_n 1, 8, []),
  (8, .aload_n 0, 9, []),
  (9, .getfield 41, 12, [11, 5]),
  (12, .invokevirtual 59, 15, [0, 9, 65]),
  (15, .iload_n 1, 16, []),
  (16, .ireturn, 17, [])]
def xm_X11_shop : xM := ((yX11_shop, cX11_shop, 2, (some .int)), xc_X11_shop)
abbrev n_X11_shop : Nat := 85
def xc_X11_view : List xI := [
  (0, .iload_n 1, 1, []),
  (1, .iconst 0, 2, []),
  (2, .iconst 5, 3, []),
  (3, .invokestatic 62, 6, [3, 119]),
  (6, .ifCond .eq 31, 9, [37]),
  (9, .iload_n 2, 10, []),
  (10, .iconst 1, 11, []),
  (11, .bipush 9, 13, []),
  (13, .invokestatic 62, 16, [3, 119]),
  (16, .ifCond .eq 21, 19, [37]),
  (19, .iload_n 3, 20, []),
  (20, .iconst 0, 21, []),
  (21, .bipush 99, 23, []),
  (23, .invokestatic 62, 26, [3, 119]),
  (26, .ifCond .eq 11, 29, [37]),
  (29, .iload 4, 31, []),
  (31, .invokestatic 66, 34, [1, 120]),
  (34, .ifCond .ne 10, 37, [44]),
  (37, .aload_n 0, 38, []),
  (38, .bipush (-2), 40, []),
  (40, .invokevirtual 70, 43, [1, 11, 126]),
  (43, .ireturn, 44, []),
  (44, .aload_n 0, 45, []),
  (45, .getfield 41, 48, [11, 5]),
  (48, .getfield 55, 51, [9, 1]),
  (51, .bipush 6, 53, []),
  (53, .if_icmp .lt 10, 56, [63]),
  (56, .aload_n 0, 57, []),
  (57, .bipush (-4), 59, []),
  (59, .invokevirtual 70, 62, [1, 11, 126]),
  (62, .ireturn, 63, []),
  (63, .aload_n 0, 64, []),
  (64, .getfield 41, 67, [11, 5]),
  (67, .iload_n 1, 68, []),
  (68, .iload_n 2, 69, []),
  (69, .iload_n 3, 70, []),
  (70, .iload 4, 72, []),
  (72, .invokevirtual 74, 75, [4, 9, 67]),
  (75, .aload_n 0, 76, []),
  (76, .getfield 41, 79, [11, 5]),
  (79, .getfield 55, 82, [9, 1]),
  (82, .iconst 1, 83, []),
  (83, .isub, 84, []),
  (84, .ireturn, 85, [])]
def xm_X11_view : xM := ((yX11_view, cX11_view, 5, (some .int)), xc_X11_view)
abbrev n_X11_view : Nat := 86
def xc_X11_renter : List xI := [
  (0, .iload_n 1, 1, []),
  (1, .iload_n 2, 2, []),
  (2, .iload_n 3, 3, []),
  (3, .invokestatic 78, 6, [3, 122]),
  (6, .ifCond .ne 10, 9, [16]),
  (9, .aload_n 0, 10, []),
  (10, .bipush (-2), 12, []),
  (12, .invokevirtual 70, 15, [1, 11, 126]),
  (15, .ireturn, 16, []),
  (16, .aload_n 0, 17, []),
  (17, .getfield 41, 20, [11, 5]),
  (20, .getfield 81, 23, [9, 2]),
  (23, .bipush 6, 25, []),
  (25, .if_icmp .lt 10, 28, [35]),
  (28, .aload_n 0, 29, []),
  (29, .bipush (-4), 31, []),
  (31, .invokevirtual 70, 34, [1, 11, 126]),
  (34, .ireturn, 35, []),
  (35, .aload_n 0, 36, []),
  (36, .getfield 41, 39, [11, 5]),
  (39, .iload_n 1, 40, []),
  (40, .iload_n 2, 41, []),
  (41, .iload_n 3, 42, []),
  (42, .invokevirtual 84, 45, [3, 9, 68]),
  (45, .aload_n 0, 46, []),
  (46, .getfield 41, 49, [11, 5]),
  (49, .getfield 81, 52, [9, 2]),
  (52, .iconst 1, 53, []),
  (53, .isub, 54, []),
  (54, .ireturn, 55, [])]
def xm_X11_renter : xM := ((yX11_renter, cX11_renter, 4, (some .int)), xc_X11_renter)
abbrev n_X11_renter : Nat := 87
def xc_X11_things : List xI := [
  (0, .aload_n 0, 1, []),
  (1, .iload_n 1, 2, []),
  (2, .invokevirtual 88, 5, [1, 11, 123]),
  (5, .ifCond .eq 14, 8, [19]),
  (8, .iload_n 2, 9, []),
  (9, .iconst 0, 10, []),
  (10, .sipush 255, 13, []),
  (13, .invokestatic 62, 16, [3, 119]),
  (16, .ifCond .ne 10, 19, [26]),
  (19, .aload_n 0, 20, []),
  (20, .bipush (-2), 22, []),
  (22, .invokevirtual 70, 25, [1, 11, 126]),
  (25, .ireturn, 26, []),
  (26, .aload_n 0, 27, []),
  (27, .getfield 41, 30, [11, 5]),
  (30, .getfield 91, 33, [9, 9]),
  (33, .iload_n 1, 34, []),
  (34, .iaload, 35, []),
  (35, .istore_n 3, 36, []),
  (36, .aload_n 0, 37, []),
  (37, .getfield 41, 40, [11, 5]),
  (40, .getfield 91, 43, [9, 9]),
  (43, .iload_n 1, 44, []),
  (44, .iload_n 2, 45, []),
  (45, .iastore, 46, []),
  (46, .iload_n 3, 47, []),
  (47, .ireturn, 48, [])]
def xm_X11_things : xM := ((yX11_things, cX11_things, 4, (some .int)), xc_X11_things)
abbrev n_X11_things : Nat := 88
def xc_X11_type : List xI := [
  (0, .iload_n 1, 1, []),
  (1, .iconst 0, 2, []),
  (2, .bipush 127, 4, []),
  (4, .invokestatic 62, 7, [3, 119]),
  (7, .ifCond .ne 10, 10, [17]),
  (10, .aload_n 0, 11, []),
  (11, .bipush (-2), 13, []),
  (13, .invokevirtual 70, 16, [1, 11, 126]),
  (16, .ireturn, 17, []),
  (17, .aload_n 0, 18, []),
  (18, .getfield 18, 21, [11, 1]),
  (21, .getfield 94, 24, [8, 1]),
  (24, .sipush 150, 27, []),
  (27, .if_icmp .lt 10, 30, [37]),
  (30, .aload_n 0, 31, []),
  (31, .bipush (-4), 33, []),
  (33, .invokevirtual 70, 36, [1, 11, 126]),
  (36, .ireturn, 37, []),
  (37, .aload_n 0, 38, []),
  (38, .getfield 18, 41, [11, 1]),
  (41, .iload_n 1, 42, []),
  (42, .i2b, 43, []),
  (43, .invokevirtual 97, 46, [1, 8, 52]),
  (46, .aload_n 0, 47, []),
  (47, .getfield 18, 50, [11, 1]),
  (50, .getfield 94, 53, [8, 1]),
  (53, .ireturn, 54, [])]
def xm_X11_type : xM := ((yX11_type, cX11_type, 2, (some .int)), xc_X11_type)
abbrev n_X11_type : Nat := 89
def xc_X11_clear : List xI := [
  (0, .aload_n 0, 1, []),
  (1, .getfield 18, 4, [11, 1]),
  (4, .getfield 94, 7, [8, 1]),
  (7, .istore_n 1, 8, []),
  (8, .aload_n 0, 9, []),
  (9, .getfield 18, 12, [11, 1]),
  (12, .iconst 0, 13, []),
  (13, .putfield 94, 16, [8, 1]),
  (16, .iload_n 1, 17, []),
  (17, .ireturn, 18, [])]
def xm_X11_clear : xM := ((yX11_clear, cX11_clear, 2, (some .int)), xc_X11_clear)
abbrev n_X11_clear : Nat := 90
def xc_X11_read : List xI := [
  (0, .aload_n 0, 1, []),
  (1, .getfield 18, 4, [11, 1]),
  (4, .aload_n 0, 5, []),
  (5, .getfield 45, 8, [11, 6]),
  (8, .invokevirtual 101, 11, [1, 8, 53]),
  (11, .istore_n 1, 12, []),
  (12, .iload_n 1, 13, []),
  (13, .iconst (-1), 14, []),
  (14, .if_icmp .ne 14, 17, [28]),
  (17, .bipush (-10), 19, []),
  (19, .aload_n 0, 20, []),
  (20, .getfield 18, 23, [11, 1]),
  (23, .getfield 105, 26, [8, 0]),
  (26, .isub, 27, []),
  (27, .ireturn, 28, []),
  (28, .aload_n 0, 29, []),
  (29, .getfield 41, 32, [11, 5]),
  (32, .astore_n 2, 33, []),
  (33, .aload_n 0, 34, []),
  (34, .aload_n 0, 35, []),
  (35, .getfield 45, 38, [11, 6]),
  (38, .putfield 41, 41, [11, 5]),
  (41, .aload_n 0, 42, []),
  (42, .aload_n 2, 43, []),
  (43, .putfield 45, 46, [11, 6]),
  (46, .iload_n 1, 47, []),
  (47, .ireturn, 48, [])]
def xm_X11_read : xM := ((yX11_read, cX11_read, 3, (some .int)), xc_X11_read)
abbrev n_X11_read : Nat := 91
def xc_X11_let : List xI := [
  (0, .aload_n 0, 1, []),
  (1, .iload_n 1, 2, []),
  (2, .invokevirtual 88, 5, [1, 11, 123]),
  (5, .ifCond .eq 11, 8, [16]),
  (8, .aload_n 0, 9, []),
  (9, .iload_n 2, 10, []),
  (10, .invokevirtual 108, 13, [1, 11, 124]),
  (13, .ifCond .ne 10, 16, [23]),
  (16, .aload_n 0, 17, []),
  (17, .bipush (-2), 19, []),
  (19, .invokevirtual 70, 22, [1, 11, 126]),
  (22, .ireturn, 23, []),
  (23, .aload_n 0, 24, []),
  (24, .getfield 41, 27, [11, 5]),
  (27, .iload_n 1, 28, []),
  (28, .iload_n 2, 29, []),
  (29, .invokevirtual 111, 32, [2, 9, 77]),
  (32, .ifCond .ne 10, 35, [42]),
  (35, .aload_n 0, 36, []),
  (36, .bipush (-3), 38, []),
  (38, .invokevirtual 70, 41, [1, 11, 126]),
  (41, .ireturn, 42, []),
  (42, .aload_n 0, 43, []),
  (43, .getfield 41, 46, [11, 5]),
  (46, .invokevirtual 115, 49, [0, 9, 70]),
  (49, .aload_n 0, 50, []),
  (50, .getfield 41, 53, [11, 5]),
  (53, .iload_n 1, 54, []),
  (54, .invokevirtual 118, 57, [1, 9, 74]),
  (57, .istore_n 3, 58, []),
  (58, .aload_n 0, 59, []),
  (59, .getfield 41, 62, [11, 5]),
  (62, .getfield 121, 65, [9, 15]),
  (65, .iload_n 1, 66, []),
  (66, .iload_n 2, 67, []),
  (67, .iload_n 3, 68, []),
  (68, .invokevirtual 125, 71, [3, 0, 4]),
  (71, .iload_n 3, 72, []),
  (72, .ireturn, 73, [])]
def xm_X11_let : xM := ((yX11_let, cX11_let, 4, (some .int)), xc_X11_let)
abbrev n_X11_let : Nat := 92
def xc_X11_night : List xI := [
  (0, .aload_n 0, 1, []),
  (1, .getfield 41, 4, [11, 5]),
  (4, .invokevirtual 115, 7, [0, 9, 70]),
  (7, .aload_n 0, 8, []),
  (8, .getfield 41, 11, [11, 5]),
  (11, .getfield 121, 14, [9, 15]),
  (14, .invokevirtual 130, 17, [0, 0, 3]),
  (17, .aload_n 0, 18, []),
  (18, .getfield 41, 21, [11, 5]),
  (21, .getfield 121, 24, [9, 15]),
  (24, .dup, 25, []),
  (25, .getfield 133, 28, [0, 0]),
  (28, .iconst 1, 29, []),
  (29, .iadd, 30, []),
  (30, .putfield 133, 33, [0, 0]),
  (33, .aload_n 0, 34, []),
  (34, .getfield 41, 37, [11, 5]),
  (37, .getfield 121, 40, [9, 15]),
  (40, .getfield 133, 43, [0, 0]),
  (43, .ireturn, 44, [])]
def xm_X11_night : xM := ((yX11_night, cX11_night, 1, (some .int)), xc_X11_night)
abbrev n_X11_night : Nat := 93
def xc_X11_undo : List xI := [
  (0, .aload_n 0, 1, []),
  (1, .getfield 41, 4, [11, 5]),
  (4, .getfield 136, 7, [9, 4]),
  (7, .ifCond .ne 10, 10, [17]),
  (10, .aload_n 0, 11, []),
  (11, .bipush (-3), 13, []),
  (13, .invokevirtual 70, 16, [1, 11, 126]),
  (16, .ireturn, 17, []),
  (17, .aload_n 0, 18, []),
  (18, .getfield 41, 21, [11, 5]),
  (21, .invokevirtual 139, 24, [0, 9, 72]),
  (24, .aload_n 0, 25, []),
  (25, .getfield 41, 28, [11, 5]),
  (28, .getfield 121, 31, [9, 15]),
  (31, .getfield 142, 34, [0, 1]),
  (34, .ireturn, 35, [])]
def xm_X11_undo : xM := ((yX11_undo, cX11_undo, 1, (some .int)), xc_X11_undo)
abbrev n_X11_undo : Nat := 94
def xc_X11_of : List xI := [
  (0, .aload_n 0, 1, []),
  (1, .iload_n 1, 2, []),
  (2, .invokevirtual 88, 5, [1, 11, 123]),
  (5, .ifCond .ne 8, 8, [13]),
  (8, .aload_n 0, 9, []),
  (9, .invokevirtual 145, 12, [0, 11, 127]),
  (12, .ireturn, 13, []),
  (13, .iload_n 2, 14, []),
  (14, .tableswitch 137 0 7 #[46, 56, 66, 76, 86, 105, 114, 127], 60, [151, 60, 70, 80, 90, 100, 119, 128, 141]),
  (60, .aload_n 0, 61, []),
  (61, .getfield 41, 64, [11, 5]),
  (64, .getfield 149, 67, [9, 5]),
  (67, .iload_n 1, 68, []),
  (68, .iaload, 69, []),
  (69, .ireturn, 70, []),
  (70, .aload_n 0, 71, []),
  (71, .getfield 41, 74, [11, 5]),
  (74, .getfield 152, 77, [9, 6]),
  (77, .iload_n 1, 78, []),
  (78, .iaload, 79, []),
  (79, .ireturn, 80, []),
  (80, .aload_n 0, 81, []),
  (81, .getfield 41, 84, [11, 5]),
  (84, .getfield 155, 87, [9, 7]),
  (87, .iload_n 1, 88, []),
  (88, .iaload, 89, []),
  (89, .ireturn, 90, []),
  (90, .aload_n 0, 91, []),
  (91, .getfield 41, 94, [11, 5]),
  (94, .getfield 158, 97, [9, 8]),
  (97, .iload_n 1, 98, []),
  (98, .iaload, 99, []),
  (99, .ireturn, 100, []),
  (100, .aload_n 0, 101, []),
  (101, .getfield 41, 104, [11, 5]),
  (104, .iload_n 1, 105, []),
  (105, .aload_n 0, 106, []),
  (106, .getfield 41, 109, [11, 5]),
  (109, .getfield 121, 112, [9, 15]),
  (112, .getfield 133, 115, [0, 0]),
  (115, .invokevirtual 161, 118, [2, 9, 73]),
  (118, .ireturn, 119, []),
  (119, .aload_n 0, 120, []),
  (120, .getfield 41, 123, [11, 5]),
  (123, .iload_n 1, 124, []),
  (124, .invokevirtual 118, 127, [1, 9, 74]),
  (127, .ireturn, 128, []),
  (128, .aload_n 0, 129, []),
  (129, .getfield 41, 132, [11, 5]),
  (132, .getfield 121, 135, [9, 15]),
  (135, .getfield 165, 138, [0, 4]),
  (138, .iload_n 1, 139, []),
  (139, .iaload, 140, []),
  (140, .ireturn, 141, []),
  (141, .aload_n 0, 142, []),
  (142, .getfield 41, 145, [11, 5]),
  (145, .getfield 91, 148, [9, 9]),
  (148, .iload_n 1, 149, []),
  (149, .iaload, 150, []),
  (150, .ireturn, 151, []),
  (151, .aload_n 0, 152, []),
  (152, .invokevirtual 145, 155, [0, 11, 127]),
  (155, .ireturn, 156, [])]
def xm_X11_of : xM := ((yX11_of, cX11_of, 3, (some .int)), xc_X11_of)
abbrev n_X11_of : Nat := 95
def xc_X11_about : List xI := [
  (0, .aload_n 0, 1, []),
  (1, .iload_n 1, 2, []),
  (2, .invokevirtual 108, 5, [1, 11, 124]),
  (5, .ifCond .ne 8, 8, [13]),
  (8, .aload_n 0, 9, []),
  (9, .invokevirtual 145, 12, [0, 11, 127]),
  (12, .ireturn, 13, []),
  (13, .iload_n 2, 14, []),
  (14, .tableswitch 75 0 3 #[30, 40, 53, 63], 44, [89, 44, 54, 67, 77]),
  (44, .aload_n 0, 45, []),
  (45, .getfield 41, 48, [11, 5]),
  (48, .getfield 168, 51, [9, 10]),
  (51, .iload_n 1, 52, []),
  (52, .iaload, 53, []),
  (53, .ireturn, 54, []),
  (54, .aload_n 0, 55, []),
  (55, .getfield 41, 58, [11, 5]),
  (58, .getfield 121, 61, [9, 15]),
  (61, .getfield 171, 64, [0, 3]),
  (64, .iload_n 1, 65, []),
  (65, .iaload, 66, []),
  (66, .ireturn, 67, []),
  (67, .aload_n 0, 68, []),
  (68, .getfield 41, 71, [11, 5]),
  (71, .getfield 174, 74, [9, 11]),
  (74, .iload_n 1, 75, []),
  (75, .iaload, 76, []),
  (76, .ireturn, 77, []),
  (77, .aload_n 0, 78, []),
  (78, .getfield 41, 81, [11, 5]),
  (81, .getfield 121, 84, [9, 15]),
  (84, .iload_n 1, 85, []),
  (85, .invokevirtual 177, 88, [1, 0, 6]),
  (88, .ireturn, 89, []),
  (89, .aload_n 0, 90, []),
  (90, .invokevirtual 145, 93, [0, 11, 127]),
  (93, .ireturn, 94, [])]
def xm_X11_about : xM := ((yX11_about, cX11_about, 3, (some .int)), xc_X11_about)
abbrev n_X11_about : Nat := 96
def xc_X11_shows : List xI := [
  (0, .aload_n 0, 1, []),
  (1, .iload_n 1, 2, []),
  (2, .invokevirtual 88, 5, [1, 11, 123]),
  (5, .ifCond .eq 10, 8, [15]),
  (8, .iload_n 2, 9, []),
  (9, .invokestatic 180, 12, [1, 121]),
  (12, .ifCond .ne 10, 15, [22]),
  (15, .aload_n 0, 16, []),
  (16, .bipush (-2), 18, []),
  (18, .invokevirtual 70, 21, [1, 11, 126]),
  (21, .ireturn, 22, []),
  (22, .aload_n 0, 23, []),
  (23, .getfield 41, 26, [11, 5]),
  (26, .iload_n 1, 27, []),
  (27, .iload_n 2, 28, []),
  (28, .invokevirtual 161, 31, [2, 9, 73]),
  (31, .ireturn, 32, [])]
def xm_X11_shows : xM := ((yX11_shows, cX11_shows, 3, (some .int)), xc_X11_shows)
abbrev n_X11_shows : Nat := 97
def xc_X11_suits : List xI := [
  (0, .aload_n 0, 1, []),
  (1, .iload_n 1, 2, []),
  (2, .invokevirtual 88, 5, [1, 11, 123]),
  (5, .ifCond .eq 18, 8, [23]),
  (8, .aload_n 0, 9, []),
  (9, .iload_n 2, 10, []),
  (10, .invokevirtual 108, 13, [1, 11, 124]),
  (13, .ifCond .eq 10, 16, [23]),
  (16, .iload_n 3, 17, []),
  (17, .invokestatic 180, 20, [1, 121]),
  (20, .ifCond .ne 10, 23, [30]),
  (23, .aload_n 0, 24, []),
  (24, .bipush (-2), 26, []),
  (26, .invokevirtual 70, 29, [1, 11, 126]),
  (29, .ireturn, 30, []),
  (30, .aload_n 0, 31, []),
  (31, .getfield 25, 34, [11, 2]),
  (34, .aload_n 0, 35, []),
  (35, .getfield 41, 38, [11, 5]),
  (38, .iload_n 3, 39, []),
  (39, .invokevirtual 183, 42, [2, 2, 16]),
  (42, .aload_n 0, 43, []),
  (43, .getfield 25, 46, [11, 2]),
  (46, .iload_n 1, 47, []),
  (47, .iload_n 2, 48, []),
  (48, .invokevirtual 187, 51, [2, 2, 19]),
  (51, .ifCond .eq 7, 54, [58]),
  (54, .iconst 1, 55, []),
  (55, .goto 4, 58, [59]),
  (58, .iconst 0, 59, []),
  (59, .ireturn, 60, [])]
def xm_X11_suits : xM := ((yX11_suits, cX11_suits, 4, (some .int)), xc_X11_suits)
abbrev n_X11_suits : Nat := 98
def xc_X11_best : List xI := [
  (0, .iload_n 1, 1, []),
  (1, .invokestatic 180, 4, [1, 121]),
  (4, .ifCond .eq 16, 7, [20]),
  (7, .iload_n 2, 8, []),
  (8, .iconst (-1), 9, []),
  (9, .if_icmp .eq 16, 12, [25]),
  (12, .aload_n 0, 13, []),
  (13, .iload_n 2, 14, []),
  (14, .invokevirtual 108, 17, [1, 11, 124]),
  (17, .ifCond .ne 8, 20, [25]),
  (20, .aload_n 0, 21, []),
  (21, .invokevirtual 145, 24, [0, 11, 127]),
  (24, .ireturn, 25, []),
  (25, .aload_n 0, 26, []),
  (26, .getfield 25, 29, [11, 2]),
  (29, .aload_n 0, 30, []),
  (30, .getfield 41, 33, [11, 5]),
  (33, .iload_n 1, 34, []),
  (34, .invokevirtual 183, 37, [2, 2, 16]),
  (37, .aload_n 0, 38, []),
  (38, .getfield 25, 41, [11, 2]),
  (41, .invokevirtual 190, 44, [0, 2, 20]),
  (44, .istore_n 3, 45, []),
  (45, .iload_n 2, 46, []),
  (46, .iconst (-1), 47, []),
  (47, .if_icmp .ne 10, 50, [57]),
  (50, .iload_n 3, 51, []),
  (51, .invokestatic 193, 54, [1, 14]),
  (54, .goto 11, 57, [65]),
  (57, .aload_n 0, 58, []),
  (58, .getfield 25, 61, [11, 2]),
  (61, .iload_n 2, 62, []),
  (62, .invokevirtual 196, 65, [1, 2, 22]),
  (65, .ireturn, 66, [])]
def xm_X11_best : xM := ((yX11_best, cX11_best, 4, (some .int)), xc_X11_best)
abbrev n_X11_best : Nat := 99
def xc_X11_money : List xI := [
  (0, .iload_n 1, 1, []),
  (1, .invokestatic 180, 4, [1, 121]),
  (4, .ifCond .ne 10, 7, [14]),
  (7, .aload_n 0, 8, []),
  (8, .bipush (-2), 10, []),
  (10, .invokevirtual 70, 13, [1, 11, 126]),
  (13, .ireturn, 14, []),
  (14, .aload_n 0, 15, []),
  (15, .getfield 25, 18, [11, 2]),
  (18, .aload_n 0, 19, []),
  (19, .getfield 41, 22, [11, 5]),
  (22, .iload_n 1, 23, []),
  (23, .invokevirtual 183, 26, [2, 2, 16]),
  (26, .aload_n 0, 27, []),
  (27, .getfield 25, 30, [11, 2]),
  (30, .invokevirtual 190, 33, [0, 2, 20]),
  (33, .invokestatic 199, 36, [1, 15]),
  (36, .ireturn, 37, [])]
def xm_X11_money : xM := ((yX11_money, cX11_money, 2, (some .int)), xc_X11_money)
abbrev n_X11_money : Nat := 100
def xc_X11_come : List xI := [
  (0, .iload_n 1, 1, []),
  (1, .invokestatic 180, 4, [1, 121]),
  (4, .ifCond .eq 12, 7, [16]),
  (7, .iload_n 2, 8, []),
  (8, .iconst 0, 9, []),
  (9, .iconst 2, 10, []),
  (10, .invokestatic 62, 13, [3, 119]),
  (13, .ifCond .ne 10, 16, [23]),
  (16, .aload_n 0, 17, []),
  (17, .bipush (-2), 19, []),
  (19, .invokevirtual 70, 22, [1, 11, 126]),
  (22, .ireturn, 23, []),
  (23, .aload_n 0, 24, []),
  (24, .getfield 25, 27, [11, 2]),
  (27, .aload_n 0, 28, []),
  (28, .getfield 41, 31, [11, 5]),
  (31, .iload_n 1, 32, []),
  (32, .invokevirtual 183, 35, [2, 2, 16]),
  (35, .aload_n 0, 36, []),
  (36, .getfield 25, 39, [11, 2]),
  (39, .bipush 63, 41, []),
  (41, .invokevirtual 202, 44, [1, 2, 24]),
  (44, .istore_n 3, 45, []),
  (45, .iload_n 2, 46, []),
  (46, .lookupswitch 36 #[(0, 26), (1, 31)], 72, [82, 0, 72, 1, 77]),
  (72, .iload_n 3, 73, []),
  (73, .invokestatic 193, 76, [1, 14]),
  (76, .ireturn, 77, []),
  (77, .iload_n 3, 78, []),
  (78, .invokestatic 199, 81, [1, 15]),
  (81, .ireturn, 82, []),
  (82, .aload_n 0, 83, []),
  (83, .getfield 25, 86, [11, 2]),
  (86, .invokevirtual 190, 89, [0, 2, 20]),
  (89, .invokestatic 193, 92, [1, 14]),
  (92, .iload_n 3, 93, []),
  (93, .invokestatic 193, 96, [1, 14]),
  (96, .isub, 97, []),
  (97, .ireturn, 98, [])]
def xm_X11_come : xM := ((yX11_come, cX11_come, 4, (some .int)), xc_X11_come)
abbrev n_X11_come : Nat := 101
def xc_X11_more : List xI := [
  (0, .iload_n 1, 1, []),
  (1, .invokestatic 180, 4, [1, 121]),
  (4, .ifCond .eq 13, 7, [17]),
  (7, .iload_n 2, 8, []),
  (8, .iload_n 3, 9, []),
  (9, .iload 4, 11, []),
  (11, .invokestatic 78, 14, [3, 122]),
  (14, .ifCond .ne 10, 17, [24]),
  (17, .aload_n 0, 18, []),
  (18, .bipush (-2), 20, []),
  (20, .invokevirtual 70, 23, [1, 11, 126]),
  (23, .ireturn, 24, []),
  (24, .aload_n 0, 25, []),
  (25, .getfield 41, 28, [11, 5]),
  (28, .getfield 81, 31, [9, 2]),
  (31, .bipush 6, 33, []),
  (33, .if_icmp .lt 10, 36, [43]),
  (36, .aload_n 0, 37, []),
  (37, .bipush (-3), 39, []),
  (39, .invokevirtual 70, 42, [1, 11, 126]),
  (42, .ireturn, 43, []),
  (43, .aload_n 0, 44, []),
  (44, .getfield 25, 47, [11, 2]),
  (47, .aload_n 0, 48, []),
  (48, .getfield 41, 51, [11, 5]),
  (51, .iload_n 1, 52, []),
  (52, .invokevirtual 183, 55, [2, 2, 16]),
  (55, .aload_n 0, 56, []),
  (56, .getfield 25, 59, [11, 2]),
  (59, .invokevirtual 190, 62, [0, 2, 20]),
  (62, .invokestatic 193, 65, [1, 14]),
  (65, .istore 5, 67, []),
  (67, .aload_n 0, 68, []),
  (68, .getfield 25, 71, [11, 2]),
  (71, .aload_n 0, 72, []),
  (72, .getfield 41, 75, [11, 5]),
  (75, .iload_n 2, 76, []),
  (76, .iload_n 3, 77, []),
  (77, .iload 4, 79, []),
  (79, .invokevirtual 205, 82, [4, 2, 17]),
  (82, .aload_n 0, 83, []),
  (83, .getfield 25, 86, [11, 2]),
  (86, .invokevirtual 190, 89, [0, 2, 20]),
  (89, .invokestatic 193, 92, [1, 14]),
  (92, .iload 5, 94, []),
  (94, .isub, 95, []),
  (95, .ireturn, 96, [])]
def xm_X11_more : xM := ((yX11_more, cX11_more, 6, (some .int)), xc_X11_more)
abbrev n_X11_more : Nat := 102
def xc_X11_changed : List xI := [
  (0, .iload_n 1, 1, []),
  (1, .invokestatic 180, 4, [1, 121]),
  (4, .ifCond .eq 11, 7, [15]),
  (7, .aload_n 0, 8, []),
  (8, .iload_n 2, 9, []),
  (9, .invokevirtual 88, 12, [1, 11, 123]),
  (12, .ifCond .ne 10, 15, [22]),
  (15, .aload_n 0, 16, []),
  (16, .bipush (-2), 18, []),
  (18, .invokevirtual 70, 21, [1, 11, 126]),
  (21, .ireturn, 22, []),
  (22, .aload_n 0, 23, []),
  (23, .getfield 25, 26, [11, 2]),
  (26, .aload_n 0, 27, []),
  (27, .getfield 41, 30, [11, 5]),
  (30, .iload_n 1, 31, []),
  (31, .iload_n 2, 32, []),
  (32, .invokevirtual 208, 35, [3, 2, 26]),
  (35, .ireturn, 36, [])]
def xm_X11_changed : xM := ((yX11_changed, cX11_changed, 3, (some .int)), xc_X11_changed)
abbrev n_X11_changed : Nat := 103
def xc_X11_air : List xI := [
  (0, .aload_n 0, 1, []),
  (1, .iload_n 1, 2, []),
  (2, .invokevirtual 212, 5, [1, 11, 125]),
  (5, .ifCond .ne 10, 8, [15]),
  (8, .aload_n 0, 9, []),
  (9, .bipush (-2), 11, []),
  (11, .invokevirtual 70, 14, [1, 11, 126]),
  (14, .ireturn, 15, []),
  (15, .aload_n 0, 16, []),
  (16, .getfield 41, 19, [11, 5]),
  (19, .iload_n 1, 20, []),
  (20, .iload_n 1, 21, []),
  (21, .iconst 1, 22, []),
  (22, .ixor, 23, []),
  (23, .invokevirtual 215, 26, [2, 9, 78]),
  (26, .ireturn, 27, [])]
def xm_X11_air : xM := ((yX11_air, cX11_air, 2, (some .int)), xc_X11_air)
abbrev n_X11_air : Nat := 104
def xc_X11_bring : List xI := [
  (0, .aload_n 0, 1, []),
  (1, .iload_n 1, 2, []),
  (2, .invokevirtual 212, 5, [1, 11, 125]),
  (5, .ifCond .eq 25, 8, [30]),
  (8, .iload_n 1, 9, []),
  (9, .iconst 1, 10, []),
  (10, .iand, 11, []),
  (11, .ifCond .ne 19, 14, [30]),
  (14, .iload_n 2, 15, []),
  (15, .invokestatic 66, 18, [1, 120]),
  (18, .ifCond .eq 12, 21, [30]),
  (21, .iload_n 3, 22, []),
  (22, .iconst 0, 23, []),
  (23, .iconst 1, 24, []),
  (24, .invokestatic 62, 27, [3, 119]),
  (27, .ifCond .ne 10, 30, [37]),
  (30, .aload_n 0, 31, []),
  (31, .bipush (-2), 33, []),
  (33, .invokevirtual 70, 36, [1, 11, 126]),
  (36, .ireturn, 37, []),
  (37, .aload_n 0, 38, []),
  (38, .getfield 41, 41, [11, 5]),
  (41, .iload_n 1, 42, []),
  (42, .iload_n 2, 43, []),
  (43, .invokevirtual 218, 46, [2, 9, 80]),
  (46, .istore 4, 48, []),
  (48, .iload 4, 50, []),
  (50, .iconst (-1), 51, []),
  (51, .if_icmp .ne 5, 54, [56]),
  (54, .iconst (-1), 55, []),
  (55, .ireturn, 56, []),
  (56, .iload_n 3, 57, []),
  (57, .ifCond .ne 11, 60, [68]),
  (60, .iload 4, 62, []),
  (62, .bipush 100, 64, []),
  (64, .idiv, 65, []),
  (65, .goto 8, 68, [73]),
  (68, .iload 4, 70, []),
  (70, .bipush 100, 72, []),
  (72, .irem, 73, []),
  (73, .ireturn, 74, [])]
def xm_X11_bring : xM := ((yX11_bring, cX11_bring, 5, (some .int)), xc_X11_bring)
abbrev n_X11_bring : Nat := 105
def xc_X11_left : List xI := [
  (0, .aload_n 0, 1, []),
  (1, .iload_n 1, 2, []),
  (2, .invokevirtual 88, 5, [1, 11, 123]),
  (5, .ifCond .eq 38, 8, [43]),
  (8, .iload_n 2, 9, []),
  (9, .iconst 0, 10, []),
  (10, .bipush 7, 12, []),
  (12, .invokestatic 62, 15, [3, 119]),
  (15, .ifCond .eq 28, 18, [43]),
  (18, .iload_n 3, 19, []),
  (19, .iconst 0, 20, []),
  (20, .iconst 1, 21, []),
  (21, .invokestatic 62, 24, [3, 119]),
  (24, .ifCond .eq 19, 27, [43]),
  (27, .aload_n 0, 28, []),
  (28, .getfield 41, 31, [11, 5]),
  (31, .getfield 91, 34, [9, 9]),
  (34, .iload_n 1, 35, []),
  (35, .iaload, 36, []),
  (36, .iload_n 2, 37, []),
  (37, .ishr, 38, []),
  (38, .iconst 1, 39, []),
  (39, .iand, 40, []),
  (40, .ifCond .ne 8, 43, [48]),
  (43, .aload_n 0, 44, []),
  (44, .invokevirtual 145, 47, [0, 11, 127]),
  (47, .ireturn, 48, []),
  (48, .iload_n 3, 49, []),
  (49, .ifCond .ne 17, 52, [66]),
  (52, .aload_n 0, 53, []),
  (53, .getfield 41, 56, [11, 5]),
  (56, .getfield 121, 59, [9, 15]),
  (59, .iload_n 1, 60, []),
  (60, .invokevirtual 221, 63, [1, 0, 8]),
  (63, .goto 14, 66, [77]),
  (66, .aload_n 0, 67, []),
  (67, .getfield 41, 70, [11, 5]),
  (70, .getfield 121, 73, [9, 15]),
  (73, .iload_n 1, 74, []),
  (74, .invokevirtual 224, 77, [1, 0, 9]),
  (77, .ireturn, 78, [])]
def xm_X11_left : xM := ((yX11_left, cX11_left, 4, (some .int)), xc_X11_left)
abbrev n_X11_left : Nat := 106
def xc_X11_reading : List xI := [
  (0, .aload_n 0, 1, []),
  (1, .iload_n 1, 2, []),
  (2, .invokevirtual 88, 5, [1, 11, 123]),
  (5, .ifCond .eq 17, 8, [22]),
  (8, .iload_n 2, 9, []),
  (9, .invokestatic 180, 12, [1, 121]),
  (12, .ifCond .eq 10, 15, [22]),
  (15, .iload_n 3, 16, []),
  (16, .invokestatic 66, 19, [1, 120]),
  (19, .ifCond .ne 10, 22, [29]),
  (22, .aload_n 0, 23, []),
  (23, .bipush (-2), 25, []),
  (25, .invokevirtual 70, 28, [1, 11, 126]),
  (28, .ireturn, 29, []),
  (29, .aload_n 0, 30, []),
  (30, .getfield 41, 33, [11, 5]),
  (33, .getfield 227, 36, [9, 3]),
  (36, .bipush 6, 38, []),
  (38, .if_icmp .lt 10, 41, [48]),
  (41, .aload_n 0, 42, []),
  (42, .bipush (-4), 44, []),
  (44, .invokevirtual 70, 47, [1, 11, 126]),
  (47, .ireturn, 48, []),
  (48, .aload_n 0, 49, []),
  (49, .getfield 41, 52, [11, 5]),
  (52, .iload_n 1, 53, []),
  (53, .iload_n 2, 54, []),
  (54, .iload_n 3, 55, []),
  (55, .invokevirtual 230, 58, [3, 9, 69]),
  (58, .aload_n 0, 59, []),
  (59, .getfield 41, 62, [11, 5]),
  (62, .getfield 227, 65, [9, 3]),
  (65, .ireturn, 66, [])]
def xm_X11_reading : xM := ((yX11_reading, cX11_reading, 4, (some .int)), xc_X11_reading)
abbrev n_X11_reading : Nat := 107
def xc_X11_forget : List xI := [
  (0, .aload_n 0, 1, []),
  (1, .getfield 41, 4, [11, 5]),
  (4, .getfield 227, 7, [9, 3]),
  (7, .istore_n 1, 8, []),
  (8, .aload_n 0, 9, []),
  (9, .getfield 41, 12, [11, 5]),
  (12, .iconst 0, 13, []),
  (13, .putfield 227, 16, [9, 3]),
  (16, .iload_n 1, 17, []),
  (17, .ireturn, 18, [])]
def xm_X11_forget : xM := ((yX11_forget, cX11_forget, 2, (some .int)), xc_X11_forget)
abbrev n_X11_forget : Nat := 108
def xc_X11_is : List xI := [
  (0, .aload_n 0, 1, []),
  (1, .iload_n 1, 2, []),
  (2, .invokevirtual 88, 5, [1, 11, 123]),
  (5, .ifCond .eq 12, 8, [17]),
  (8, .iload_n 2, 9, []),
  (9, .iconst 0, 10, []),
  (10, .iconst 1, 11, []),
  (11, .invokestatic 62, 14, [3, 119]),
  (14, .ifCond .ne 10, 17, [24]),
  (17, .aload_n 0, 18, []),
  (18, .bipush (-2), 20, []),
  (20, .invokevirtual 70, 23, [1, 11, 126]),
  (23, .ireturn, 24, []),
  (24, .aload_n 0, 25, []),
  (25, .getfield 32, 28, [11, 3]),
  (28, .aload_n 0, 29, []),
  (29, .getfield 41, 32, [11, 5]),
  (32, .iload_n 1, 33, []),
  (33, .invokevirtual 233, 36, [2, 5, 38]),
  (36, .iload_n 2, 37, []),
  (37, .ifCond .ne 13, 40, [50]),
  (40, .aload_n 0, 41, []),
  (41, .getfield 32, 44, [11, 3]),
  (44, .invokevirtual 236, 47, [0, 5, 41]),
  (47, .goto 10, 50, [57]),
  (50, .aload_n 0, 51, []),
  (51, .getfield 32, 54, [11, 3]),
  (54, .getfield 239, 57, [5, 0]),
  (57, .ireturn, 58, [])]
def xm_X11_is : xM := ((yX11_is, cX11_is, 3, (some .int)), xc_X11_is)
abbrev n_X11_is : Nat := 109
def xc_X11_look : List xI := [
  (0, .aload_n 0, 1, []),
  (1, .iload_n 1, 2, []),
  (2, .invokevirtual 88, 5, [1, 11, 123]),
  (5, .ifCond .ne 10, 8, [15]),
  (8, .aload_n 0, 9, []),
  (9, .bipush (-2), 11, []),
  (11, .invokevirtual 70, 14, [1, 11, 126]),
  (14, .ireturn, 15, []),
  (15, .aload_n 0, 16, []),
  (16, .getfield 32, 19, [11, 3]),
  (19, .aload_n 0, 20, []),
  (20, .getfield 41, 23, [11, 5]),
  (23, .iload_n 1, 24, []),
  (24, .invokevirtual 233, 27, [2, 5, 38]),
  (27, .aload_n 0, 28, []),
  (28, .getfield 32, 31, [11, 3]),
  (31, .aload_n 0, 32, []),
  (32, .getfield 41, 35, [11, 5]),
  (35, .invokevirtual 242, 38, [1, 5, 42]),
  (38, .ireturn, 39, [])]
def xm_X11_look : xM := ((yX11_look, cX11_look, 2, (some .int)), xc_X11_look)
abbrev n_X11_look : Nat := 110
def xc_X11_odds : List xI := [
  (0, .iload_n 1, 1, []),
  (1, .iconst 0, 2, []),
  (2, .bipush 10, 4, []),
  (4, .invokestatic 62, 7, [3, 119]),
  (7, .ifCond .ne 10, 10, [17]),
  (10, .aload_n 0, 11, []),
  (11, .bipush (-2), 13, []),
  (13, .invokevirtual 70, 16, [1, 11, 126]),
  (16, .ireturn, 17, []),
  (17, .aload_n 0, 18, []),
  (18, .getfield 25, 21, [11, 2]),
  (21, .aload_n 0, 22, []),
  (22, .getfield 41, 25, [11, 5]),
  (25, .aload_n 0, 26, []),
  (26, .getfield 41, 29, [11, 5]),
  (29, .getfield 121, 32, [9, 15]),
  (32, .getfield 133, 35, [0, 0]),
  (35, .invokevirtual 183, 38, [2, 2, 16]),
  (38, .aload_n 0, 39, []),
  (39, .getfield 25, 42, [11, 2]),
  (42, .iload_n 1, 43, []),
  (43, .invokevirtual 245, 46, [1, 2, 29]),
  (46, .lstore_n 2, 47, []),
  (47, .lconst 1, 48, []),
  (48, .lstore 4, 50, []),
  (50, .iconst 0, 51, []),
  (51, .istore 6, 53, []),
  (53, .iload 6, 55, []),
  (55, .aload_n 0, 56, []),
  (56, .getfield 41, 59, [11, 5]),
  (59, .getfield 81, 62, [9, 2]),
  (62, .if_icmp .ge 17, 65, [79]),
  (65, .lload 4, 67, []),
  (67, .ldc2_w 249, 70, [10]),
  (70, .lmul, 71, []),
  (71, .lstore 4, 73, []),
  (73, .iinc 6 1, 76, []),
  (76, .goto (-23), 79, [53]),
  (79, .lload_n 2, 80, []),
  (80, .lload 4, 82, []),
  (82, .invokestatic 251, 85, [2, 128]),
  (85, .lstore 6, 87, []),
  (87, .aload_n 0, 88, []),
  (88, .lload_n 2, 89, []),
  (89, .lload 6, 91, []),
  (91, .ldiv, 92, []),
  (92, .putfield 48, 95, [11, 7]),
  (95, .aload_n 0, 96, []),
  (96, .lload 4, 98, []),
  (98, .lload 6, 100, []),
  (100, .ldiv, 101, []),
  (101, .putfield 52, 104, [11, 8]),
  (104, .iconst 1, 105, []),
  (105, .ireturn, 106, [])]
def xm_X11_odds : xM := ((yX11_odds, cX11_odds, 8, (some .int)), xc_X11_odds)
abbrev n_X11_odds : Nat := 111
def xc_X11_drawn : List xI := [
  (0, .iload_n 1, 1, []),
  (1, .iconst 0, 2, []),
  (2, .ldc 255, 4, [0, 999999]),
  (4, .invokestatic 62, 7, [3, 119]),
  (7, .ifCond .eq 23, 10, [30]),
  (10, .iload_n 2, 11, []),
  (11, .iconst 0, 12, []),
  (12, .bipush 30, 14, []),
  (14, .invokestatic 62, 17, [3, 119]),
  (17, .ifCond .eq 13, 20, [30]),
  (20, .iload_n 3, 21, []),
  (21, .iconst 0, 22, []),
  (22, .bipush 100, 24, []),
  (24, .invokestatic 62, 27, [3, 119]),
  (27, .ifCond .ne 10, 30, [37]),
  (30, .aload_n 0, 31, []),
  (31, .bipush (-2), 33, []),
  (33, .invokevirtual 70, 36, [1, 11, 126]),
  (36, .ireturn, 37, []),
  (37, .aload_n 0, 38, []),
  (38, .getfield 25, 41, [11, 2]),
  (41, .aload_n 0, 42, []),
  (42, .getfield 41, 45, [11, 5]),
  (45, .iload_n 1, 46, []),
  (46, .iload_n 2, 47, []),
  (47, .iload_n 3, 48, []),
  (48, .invokevirtual 256, 51, [4, 2, 30]),
  (51, .ireturn, 52, [])]
def xm_X11_drawn : xM := ((yX11_drawn, cX11_drawn, 4, (some .int)), xc_X11_drawn)
abbrev n_X11_drawn : Nat := 112
def xc_X11_part : List xI := [
  (0, .iload_n 1, 1, []),
  (1, .lookupswitch 37 #[(0, 27), (1, 32)], 28, [38, 0, 28, 1, 33]),
  (28, .aload_n 0, 29, []),
  (29, .getfield 48, 32, [11, 7]),
  (32, .lreturn, 33, []),
  (33, .aload_n 0, 34, []),
  (34, .getfield 52, 37, [11, 8]),
  (37, .lreturn, 38, []),
  (38, .aload_n 0, 39, []),
  (39, .bipush (-2), 41, []),
  (41, .invokevirtual 70, 44, [1, 11, 126]),
  (44, .i2l, 45, []),
  (45, .lreturn, 46, [])]
def xm_X11_part : xM := ((yX11_part, cX11_part, 2, (some .long)), xc_X11_part)
abbrev n_X11_part : Nat := 113
def xc_X11_image : List xI := [
  (0, .iload_n 1, 1, []),
  (1, .iconst 0, 2, []),
  (2, .iconst 1, 3, []),
  (3, .invokestatic 62, 6, [3, 119]),
  (6, .ifCond .ne 10, 9, [16]),
  (9, .aload_n 0, 10, []),
  (10, .bipush (-2), 12, []),
  (12, .invokevirtual 70, 15, [1, 11, 126]),
  (15, .ireturn, 16, []),
  (16, .aload_n 0, 17, []),
  (17, .getfield 11, 20, [11, 0]),
  (20, .iload_n 1, 21, []),
  (21, .aaload, 22, []),
  (22, .ifnonnull 16, 25, [38]),
  (25, .aload_n 0, 26, []),
  (26, .getfield 11, 29, [11, 0]),
  (29, .iload_n 1, 30, []),
  (30, .new 9, 33, [9]),
  (33, .dup, 34, []),
  (34, .invokespecial 40, 37, [0, 64]),
  (37, .aastore, 38, []),
  (38, .aload_n 0, 39, []),
  (39, .getfield 11, 42, [11, 0]),
  (42, .iload_n 1, 43, []),
  (43, .aaload, 44, []),
  (44, .aload_n 0, 45, []),
  (45, .getfield 41, 48, [11, 5]),
  (48, .invokevirtual 260, 51, [1, 9, 66]),
  (51, .iconst 1, 52, []),
  (52, .ireturn, 53, [])]
def xm_X11_image : xM := ((yX11_image, cX11_image, 2, (some .int)), xc_X11_image)
abbrev n_X11_image : Nat := 114
def xc_X11_from : List xI := [
  (0, .iload_n 1, 1, []),
  (1, .iconst 0, 2, []),
  (2, .iconst 1, 3, []),
  (3, .invokestatic 62, 6, [3, 119]),
  (6, .ifCond .ne 10, 9, [16]),
  (9, .aload_n 0, 10, []),
  (10, .bipush (-2), 12, []),
  (12, .invokevirtual 70, 15, [1, 11, 126]),
  (15, .ireturn, 16, []),
  (16, .aload_n 0, 17, []),
  (17, .getfield 11, 20, [11, 0]),
  (20, .iload_n 1, 21, []),
  (21, .aaload, 22, []),
  (22, .ifnonnull 10, 25, [32]),
  (25, .aload_n 0, 26, []),
  (26, .bipush (-3), 28, []),
  (28, .invokevirtual 70, 31, [1, 11, 126]),
  (31, .ireturn, 32, []),
  (32, .aload_n 0, 33, []),
  (33, .getfield 41, 36, [11, 5]),
  (36, .aload_n 0, 37, []),
  (37, .getfield 11, 40, [11, 0]),
  (40, .iload_n 1, 41, []),
  (41, .aaload, 42, []),
  (42, .invokevirtual 260, 45, [1, 9, 66]),
  (45, .iconst 1, 46, []),
  (46, .ireturn, 47, [])]
def xm_X11_from : xM := ((yX11_from, cX11_from, 2, (some .int)), xc_X11_from)
abbrev n_X11_from : Nat := 115
def xc_X11_status : List xI := [
  (0, .iload_n 1, 1, []),
  (1, .iconst 0, 2, []),
  (2, .iconst 2, 3, []),
  (3, .invokestatic 62, 6, [3, 119]),
  (6, .ifCond .ne 12, 9, [18]),
  (9, .aload_n 0, 10, []),
  (10, .bipush (-2), 12, []),
  (12, .invokevirtual 70, 15, [1, 11, 126]),
  (15, .pop, 16, []),
  (16, .iconst (-1), 17, []),
  (17, .ireturn, 18, []),
  (18, .aload_n 0, 19, []),
  (19, .getfield 36, 22, [11, 4]),
  (22, .iload_n 1, 23, []),
  (23, .iaload, 24, []),
  (24, .ireturn, 25, [])]
def xm_X11_status : xM := ((yX11_status, cX11_status, 2, (some .int)), xc_X11_status)
abbrev n_X11_status : Nat := 116
def xc_X11_count : List xI := [
  (0, .iload_n 1, 1, []),
  (1, .tableswitch 135 0 8 #[51, 59, 67, 78, 89, 100, 111, 119, 127], 52, [136, 52, 60, 68, 79, 90, 101, 112, 120, 128]),
  (52, .aload_n 0, 53, []),
  (53, .getfield 41, 56, [11, 5]),
  (56, .getfield 55, 59, [9, 1]),
  (59, .ireturn, 60, []),
  (60, .aload_n 0, 61, []),
  (61, .getfield 41, 64, [11, 5]),
  (64, .getfield 81, 67, [9, 2]),
  (67, .ireturn, 68, []),
  (68, .aload_n 0, 69, []),
  (69, .getfield 41, 72, [11, 5]),
  (72, .getfield 121, 75, [9, 15]),
  (75, .getfield 133, 78, [0, 0]),
  (78, .ireturn, 79, []),
  (79, .aload_n 0, 80, []),
  (80, .getfield 41, 83, [11, 5]),
  (83, .getfield 121, 86, [9, 15]),
  (86, .getfield 142, 89, [0, 1]),
  (89, .ireturn, 90, []),
  (90, .aload_n 0, 91, []),
  (91, .getfield 41, 94, [11, 5]),
  (94, .getfield 121, 97, [9, 15]),
  (97, .invokevirtual 264, 100, [0, 0, 7]),
  (100, .ireturn, 101, []),
  (101, .aload_n 0, 102, []),
  (102, .getfield 41, 105, [11, 5]),
  (105, .getfield 121, 108, [9, 15]),
  (108, .getfield 267, 111, [0, 2]),
  (111, .ireturn, 112, []),
  (112, .aload_n 0, 113, []),
  (113, .getfield 41, 116, [11, 5]),
  (116, .getfield 227, 119, [9, 3]),
  (119, .ireturn, 120, []),
  (120, .aload_n 0, 121, []),
  (121, .getfield 41, 124, [11, 5]),
  (124, .getfield 136, 127, [9, 4]),
  (127, .ireturn, 128, []),
  (128, .aload_n 0, 129, []),
  (129, .getfield 18, 132, [11, 1]),
  (132, .getfield 94, 135, [8, 1]),
  (135, .ireturn, 136, []),
  (136, .aload_n 0, 137, []),
  (137, .bipush (-2), 139, []),
  (139, .invokevirtual 70, 142, [1, 11, 126]),
  (142, .ireturn, 143, [])]
def xm_X11_count : xM := ((yX11_count, cX11_count, 2, (some .int)), xc_X11_count)
abbrev n_X11_count : Nat := 117
def xc_X11_digest : List xI := [
  (0, .ldc2_w 270, 3, [997]),
  (3, .lstore_n 1, 4, []),
  (4, .iconst 0, 5, []),
  (5, .istore_n 3, 6, []),
  (6, .iload_n 3, 7, []),
  (7, .bipush 8, 9, []),
  (9, .if_icmp .gt 22, 12, [31]),
  (12, .ldc2_w 272, 15, [31]),
  (15, .lload_n 1, 16, []),
  (16, .lmul, 17, []),
  (17, .aload_n 0, 18, []),
  (18, .iload_n 3, 19, []),
  (19, .invokevirtual 274, 22, [1, 11, 117]),
  (22, .i2l, 23, []),
  (23, .ladd, 24, []),
  (24, .lstore_n 1, 25, []),
  (25, .iinc 3 1, 28, []),
  (28, .goto (-22), 31, [6]),
  (31, .aload_n 0, 32, []),
  (32, .getfield 41, 35, [11, 5]),
  (35, .lload_n 1, 36, []),
  (36, .invokevirtual 277, 39, [1, 9, 81]),
  (39, .lstore_n 1, 40, []),
  (40, .ldc2_w 272, 43, [31]),
  (43, .lload_n 1, 44, []),
  (44, .lmul, 45, []),
  (45, .aload_n 0, 46, []),
  (46, .getfield 48, 49, [11, 7]),
  (49, .ladd, 50, []),
  (50, .lstore_n 1, 51, []),
  (51, .ldc2_w 272, 54, [31]),
  (54, .lload_n 1, 55, []),
  (55, .lmul, 56, []),
  (56, .aload_n 0, 57, []),
  (57, .getfield 52, 60, [11, 8]),
  (60, .ladd, 61, []),
  (61, .lreturn, 62, [])]
def xm_X11_digest : xM := ((yX11_digest, cX11_digest, 4, (some .long)), xc_X11_digest)
abbrev n_X11_digest : Nat := 118
def xc_X11_within : List xI := [
  (0, .iload_n 0, 1, []),
  (1, .iload_n 1, 2, []),
  (2, .if_icmp .lt 12, 5, [14]),
  (5, .iload_n 0, 6, []),
  (6, .iload_n 2, 7, []),
  (7, .if_icmp .gt 7, 10, [14]),
  (10, .iconst 1, 11, []),
  (11, .goto 4, 14, [15]),
  (14, .iconst 0, 15, []),
  (15, .ireturn, 16, [])]
def xm_X11_within : xM := ((yX11_within, cX11_within, 3, (some .boolean)), xc_X11_within)
abbrev n_X11_within : Nat := 119
def xc_X11_isWeather : List xI := [
  (0, .iload_n 0, 1, []),
  (1, .iconst 0, 2, []),
  (2, .iconst 5, 3, []),
  (3, .invokestatic 62, 6, [3, 119]),
  (6, .ireturn, 7, [])]
def xm_X11_isWeather : xM := ((yX11_isWeather, cX11_isWeather, 1, (some .boolean)), xc_X11_isWeather)
abbrev n_X11_isWeather : Nat := 120
def xc_X11_isEvening : List xI := [
  (0, .iload_n 0, 1, []),
  (1, .iconst 0, 2, []),
  (2, .bipush 99, 4, []),
  (4, .invokestatic 62, 7, [3, 119]),
  (7, .ireturn, 8, [])]
def xm_X11_isEvening : xM := ((yX11_isEvening, cX11_isEvening, 1, (some .boolean)), xc_X11_isEvening)
abbrev n_X11_isEvening : Nat := 121
def xc_X11_isRenterTold : List xI := [
  (0, .iload_n 0, 1, []),
  (1, .iconst 1, 2, []),
  (2, .bipush 9, 4, []),
  (4, .invokestatic 62, 7, [3, 119]),
  (7, .ifCond .eq 28, 10, [35]),
  (10, .iload_n 1, 11, []),
  (11, .iconst 0, 12, []),
  (12, .sipush 999, 15, []),
  (15, .invokestatic 62, 18, [3, 119]),
  (18, .ifCond .eq 17, 21, [35]),
  (21, .iload_n 2, 22, []),
  (22, .iconst 0, 23, []),
  (23, .bipush 6, 25, []),
  (25, .invokestatic 62, 28, [3, 119]),
  (28, .ifCond .eq 7, 31, [35]),
  (31, .iconst 1, 32, []),
  (32, .goto 4, 35, [36]),
  (35, .iconst 0, 36, []),
  (36, .ireturn, 37, [])]
def xm_X11_isRenterTold : xM := ((yX11_isRenterTold, cX11_isRenterTold, 3, (some .boolean)), xc_X11_isRenterTold)
abbrev n_X11_isRenterTold : Nat := 122
def xc_X11_isView : List xI := [
  (0, .iload_n 1, 1, []),
  (1, .iconst 0, 2, []),
  (2, .aload_n 0, 3, []),
  (3, .getfield 41, 6, [11, 5]),
  (6, .getfield 55, 9, [9, 1]),
  (9, .iconst 1, 10, []),
  (10, .isub, 11, []),
  (11, .invokestatic 62, 14, [3, 119]),
  (14, .ireturn, 15, [])]
def xm_X11_isView : xM := ((yX11_isView, cX11_isView, 2, (some .boolean)), xc_X11_isView)
abbrev n_X11_isView : Nat := 123
def xc_X11_isRenter : List xI := [
  (0, .iload_n 1, 1, []),
  (1, .iconst 0, 2, []),
  (2, .aload_n 0, 3, []),
  (3, .getfield 41, 6, [11, 5]),
  (6, .getfield 81, 9, [9, 2]),
  (9, .iconst 1, 10, []),
  (10, .isub, 11, []),
  (11, .invokestatic 62, 14, [3, 119]),
  (14, .ireturn, 15, [])]
def xm_X11_isRenter : xM := ((yX11_isRenter, cX11_isRenter, 2, (some .boolean)), xc_X11_isRenter)
abbrev n_X11_isRenter : Nat := 124
def xc_X11_isPair : List xI := [
  (0, .aload_n 0, 1, []),
  (1, .iload_n 1, 2, []),
  (2, .invokevirtual 108, 5, [1, 11, 124]),
  (5, .ifCond .eq 17, 8, [22]),
  (8, .aload_n 0, 9, []),
  (9, .iload_n 1, 10, []),
  (10, .iconst 1, 11, []),
  (11, .ixor, 12, []),
  (12, .invokevirtual 108, 15, [1, 11, 124]),
  (15, .ifCond .eq 7, 18, [22]),
  (18, .iconst 1, 19, []),
  (19, .goto 4, 22, [23]),
  (22, .iconst 0, 23, []),
  (23, .ireturn, 24, [])]
def xm_X11_isPair : xM := ((yX11_isPair, cX11_isPair, 2, (some .boolean)), xc_X11_isPair)
abbrev n_X11_isPair : Nat := 125
def xc_X11_refuse : List xI := [
  (0, .bipush (-2), 2, []),
  (2, .iload_n 1, 3, []),
  (3, .isub, 4, []),
  (4, .istore_n 2, 5, []),
  (5, .iload_n 2, 6, []),
  (6, .iconst 0, 7, []),
  (7, .iconst 2, 8, []),
  (8, .invokestatic 62, 11, [3, 119]),
  (11, .ifCond .eq 13, 14, [24]),
  (14, .aload_n 0, 15, []),
  (15, .getfield 36, 18, [11, 4]),
  (18, .iload_n 2, 19, []),
  (19, .dup2, 20, []),
  (20, .iaload, 21, []),
  (21, .iconst 1, 22, []),
  (22, .iadd, 23, []),
  (23, .iastore, 24, []),
  (24, .iload_n 1, 25, []),
  (25, .ireturn, 26, [])]
def xm_X11_refuse : xM := ((yX11_refuse, cX11_refuse, 3, (some .int)), xc_X11_refuse)
abbrev n_X11_refuse : Nat := 126
def xc_X11_refuseApart : List xI := [
  (0, .aload_n 0, 1, []),
  (1, .bipush (-2), 3, []),
  (3, .invokevirtual 70, 6, [1, 11, 126]),
  (6, .pop, 7, []),
  (7, .bipush (-10), 9, []),
  (9, .ireturn, 10, [])]
def xm_X11_refuseApart : xM := ((yX11_refuseApart, cX11_refuseApart, 1, (some .int)), xc_X11_refuseApart)
abbrev n_X11_refuseApart : Nat := 127
def xc_X11_greatestCommon : List xI := [
  (0, .iconst 0, 1, []),
  (1, .istore 4, 3, []),
  (3, .iload 4, 5, []),
  (5, .bipush 100, 7, []),
  (7, .if_icmp .ge 25, 10, [32]),
  (10, .lload_n 2, 11, []),
  (11, .lconst 0, 12, []),
  (12, .lcmp, 13, []),
  (13, .ifCond .eq 19, 16, [32]),
  (16, .lload_n 0, 17, []),
  (17, .lload_n 2, 18, []),
  (18, .lrem, 19, []),
  (19, .lstore 5, 21, []),
  (21, .lload_n 2, 22, []),
  (22, .lstore_n 0, 23, []),
  (23, .lload 5, 25, []),
  (25, .lstore_n 2, 26, []),
  (26, .iinc 4 1, 29, []),
  (29, .goto (-26), 32, [3]),
  (32, .lload_n 0, 33, []),
  (33, .lconst 0, 34, []),
  (34, .lcmp, 35, []),
  (35, .ifCond .ne 7, 38, [42]),
  (38, .lconst 1, 39, []),
  (39, .goto 4, 42, [43]),
  (42, .lload_n 0, 43, []),
  (43, .lreturn, 44, [])]
def xm_X11_greatestCommon : xM := ((yX11_greatestCommon, cX11_greatestCommon, 7, (some .long)), xc_X11_greatestCommon)
abbrev n_X11_greatestCommon : Nat := 128
def xc_X12_init : List xI := [
  (0, .aload_n 0, 1, []),
  (1, .invokespecial 1, 4, [98]),
  (4, .aload_n 0, 5, []),
  (5, .sipush 523, 8, []),
  (8, .newarray .int, 10, [20]),
  (10, .putfield 7, 13, [12, 0]),
  (13, .aload_n 0, 14, []),
  (14, .sipush 1046, 17, []),
  (17, .newarray .int, 19, [20]),
  (19, .putfield 13, 22, [12, 1]),
  (22, .aload_n 0, 23, []),
  (23, .iconst 2, 24, []),
  (24, .newarray .boolean, 26, [22]),
  (26, .putfield 16, 29, [12, 2]),
  (29, .aload_n 0, 30, []),
  (30, .iconst 3, 31, []),
  (31, .newarray .int, 33, [20]),
  (33, .putfield 20, 36, [12, 3]),
  (36, .aload_n 0, 37, []),
  (37, .lconst 1, 38, []),
  (38, .putfield 23, 41, [12, 5]),
  (41, .aload_n 0, 42, []),
  (42, .bipush 6, 44, []),
  (44, .newarray .int, 46, [20]),
  (46, .putfield 27, 49, [12, 6]),
  (49, .aload_n 0, 50, []),
  (50, .bipush 7, 52, []),
  (52, .newarray .int, 54, [20]),
  (54, .putfield 30, 57, [12, 8]),
  (57, .aload_n 0, 58, []),
  (58, .bipush 7, 60, []),
  (60, .newarray .int, 62, [20]),
  (62, .putfield 33, 65, [12, 9]),
  (65, .aload_n 0, 66, []),
  (66, .bipush 7, 68, []),
  (68, .newarray .int, 70, [20]),
  (70, .putfield 36, 73, [12, 10]),
  (73, .aload_n 0, 74, []),
  (74, .bipush 7, 76, []),
  (76, .newarray .int, 78, [20]),
  (78, .putfield 39, 81, [12, 11]),
  (81, .aload_n 0, 82, []),
  (82, .bipush 7, 84, []),
  (84, .newarray .int, 86, [20]),
  (86, .putfield 42, 89, [12, 12]),
  (89, .aload_n 0, 90, []),
  (90, .bipush 7, 92, []),
  (92, .newarray .int, 94, [20]),
  (94, .putfield 45, 97, [12, 13]),
  (97, .aload_n 0, 98, []),
  (98, .bipush 6, 100, []),
  (100, .newarray .int, 102, [20]),
  (102, .putfield 48, 105, [12, 18]),
  (105, .aload_n 0, 106, []),
  (106, .sipush 150, 109, []),
  (109, .newarray .int, 111, [20]),
  (111, .putfield 51, 114, [12, 19]),
  (114, .aload_n 0, 115, []),
  (115, .bipush 115, 117, []),
  (117, .newarray .int, 119, [20]),
  (119, .putfield 54, 122, [12, 25]),
  (122, .aload_n 0, 123, []),
  (123, .iconst 4, 124, []),
  (124, .newarray .int, 126, [20]),
  (126, .putfield 57, 129, [12, 26]),
  (129, .return_, 130, [])]
def xm_X12_init : xM := ((yX12_init, cX12_init, 1, none), xc_X12_init)
abbrev n_X12_init : Nat := 129
def xc_X12_in : List xI := [
  (0, .lload_n 0, 1, []),
  (1, .lload_n 2, 2, []),
  (2, .lcmp, 3, []),
  (3, .ifCond .lt 14, 6, [17]),
  (6, .lload_n 0, 7, []),
  (7, .lload 4, 9, []),
  (9, .lcmp, 10, []),
  (10, .ifCond .gt 7, 13, [17]),
  (13, .iconst 1, 14, []),
  (14, .goto 4, 17, [18]),
  (17, .iconst 0, 18, []),
  (18, .ireturn, 19, [])]
def xm_X12_in : xM := ((yX12_in, cX12_in, 6, (some .boolean)), xc_X12_in)
abbrev n_X12_in : Nat := 130
def xc_X12_bad : List xI := [
  (0, .aload_n 0, 1, []),
  (1, .getfield 20, 4, [12, 3]),
  (4, .iconst 0, 5, []),
  (5, .dup2, 6, []),
  (6, .iaload, 7, []),
  (7, .iconst 1, 8, []),
  (8, .iadd, 9, []),
  (9, .iastore, 10, []),
  (10, .iload_n 1, 11, []),
  (11, .ireturn, 12, [])]
def xm_X12_bad : xM := ((yX12_bad, cX12_bad, 2, (some .int)), xc_X12_bad)
abbrev n_X12_bad : Nat := 131
def xc_X12_no : List xI := [
  (0, .aload_n 0, 1, []),
  (1, .getfield 20, 4, [12, 3]),
  (4, .iconst 1, 5, []),
  (5, .dup2, 6, []),
  (6, .iaload, 7, []),
  (7, .iconst 1, 8, []),
  (8, .iadd, 9, []),
  (9, .iastore, 10, []),
  (10, .bipush (-3), 12, []),
  (12, .ireturn, 13, [])]
def xm_X12_no : xM := ((yX12_no, cX12_no, 1, (some .int)), xc_X12_no)
abbrev n_X12_no : Nat := 132
def xc_X12_full : List xI := [
  (0, .aload_n 0, 1, []),
  (1, .getfield 20, 4, [12, 3]),
  (4, .iconst 2, 5, []),
  (5, .dup2, 6, []),
  (6, .iaload, 7, []),
  (7, .iconst 1, 8, []),
  (8, .iadd, 9, []),
  (9, .iastore, 10, []),
  (10, .bipush (-4), 12, []),
  (12, .ireturn, 13, [])]
def xm_X12_full : xM := ((yX12_full, cX12_full, 1, (some .int)), xc_X12_full)
abbrev n_X12_full : Nat := 133
def xc_X12_begin : List xI := [
  (0, .iconst 0, 1, []),
  (1, .istore_n 1, 2, []),
  (2, .iload_n 1, 3, []),
  (3, .bipush 115, 5, []),
  (5, .if_icmp .ge 13, 8, [18]),
  (8, .aload_n 0, 9, []),
  (9, .iload_n 1, 10, []),
  (10, .iconst 0, 11, []),
  (11, .iastore, 12, []),
  (12, .iinc 1 1, 15, []),
  (15, .goto (-13), 18, [2]),
  (18, .return_, 19, [])]
def xm_X12_begin : xM := ((yX12_begin, cX12_begin, 2, none), xc_X12_begin)
abbrev n_X12_begin : Nat := 134
def xc_X12_views : List xI := [
  (0, .aload_n 0, 1, []),
  (1, .getfield 7, 4, [12, 0]),
  (4, .iconst 0, 5, []),
  (5, .iaload, 6, []),
  (6, .ireturn, 7, [])]
def xm_X12_views : xM := ((yX12_views, cX12_views, 1, (some .int)), xc_X12_views)
abbrev n_X12_views : Nat := 135
def xc_X12_renters : List xI := [
  (0, .aload_n 0, 1, []),
  (1, .getfield 7, 4, [12, 0]),
  (4, .iconst 1, 5, []),
  (5, .iaload, 6, []),
  (6, .ireturn, 7, [])]
def xm_X12_renters : xM := ((yX12_renters, cX12_renters, 1, (some .int)), xc_X12_renters)
abbrev n_X12_renters : Nat := 136
def xc_X12_isView : List xI := [
  (0, .iload_n 1, 1, []),
  (1, .i2l, 2, []),
  (2, .lconst 0, 3, []),
  (3, .aload_n 0, 4, []),
  (4, .invokevirtual 60, 7, [0, 12, 135]),
  (7, .iconst 1, 8, []),
  (8, .isub, 9, []),
  (9, .i2l, 10, []),
  (10, .invokestatic 64, 13, [3, 130]),
  (13, .ireturn, 14, [])]
def xm_X12_isView : xM := ((yX12_isView, cX12_isView, 2, (some .boolean)), xc_X12_isView)
abbrev n_X12_isView : Nat := 137
def xc_X12_isRenter : List xI := [
  (0, .iload_n 1, 1, []),
  (1, .i2l, 2, []),
  (2, .lconst 0, 3, []),
  (3, .aload_n 0, 4, []),
  (4, .invokevirtual 68, 7, [0, 12, 136]),
  (7, .iconst 1, 8, []),
  (8, .isub, 9, []),
  (9, .i2l, 10, []),
  (10, .invokestatic 64, 13, [3, 130]),
  (13, .ireturn, 14, [])]
def xm_X12_isRenter : xM := ((yX12_isRenter, cX12_isRenter, 2, (some .boolean)), xc_X12_isRenter)
abbrev n_X12_isRenter : Nat := 138
def xc_X12_isEvening : List xI := [
  (0, .iload_n 0, 1, []),
  (1, .i2l, 2, []),
  (2, .lconst 0, 3, []),
  (3, .ldc2_w 71, 6, [99]),
  (6, .invokestatic 64, 9, [3, 130]),
  (9, .ireturn, 10, [])]
def xm_X12_isEvening : xM := ((yX12_isEvening, cX12_isEvening, 1, (some .boolean)), xc_X12_isEvening)
abbrev n_X12_isEvening : Nat := 139
def xc_X12_isWeather : List xI := [
  (0, .iload_n 0, 1, []),
  (1, .i2l, 2, []),
  (2, .lconst 0, 3, []),
  (3, .ldc2_w 73, 6, [5]),
  (6, .invokestatic 64, 9, [3, 130]),
  (9, .ireturn, 10, [])]
def xm_X12_isWeather : xM := ((yX12_isWeather, cX12_isWeather, 1, (some .boolean)), xc_X12_isWeather)
abbrev n_X12_isWeather : Nat := 140
def xc_X12_viewHas : List xI := [
  (0, .aload_n 0, 1, []),
  (1, .getfield 7, 4, [12, 0]),
  (4, .bipush 7, 6, []),
  (6, .bipush 6, 8, []),
  (8, .iload_n 1, 9, []),
  (9, .imul, 10, []),
  (10, .iadd, 11, []),
  (11, .iload_n 2, 12, []),
  (12, .iadd, 13, []),
  (13, .iaload, 14, []),
  (14, .ireturn, 15, [])]
def xm_X12_viewHas : xM := ((yX12_viewHas, cX12_viewHas, 3, (some .int)), xc_X12_viewHas)
abbrev n_X12_viewHas : Nat := 141
def xc_X12_renterHas : List xI := [
  (0, .aload_n 0, 1, []),
  (1, .getfield 7, 4, [12, 0]),
  (4, .bipush 43, 6, []),
  (6, .iconst 3, 7, []),
  (7, .iload_n 1, 8, []),
  (8, .imul, 9, []),
  (9, .iadd, 10, []),
  (10, .iload_n 2, 11, []),
  (11, .iadd, 12, []),
  (12, .iaload, 13, []),
  (13, .ireturn, 14, [])]
def xm_X12_renterHas : xM := ((yX12_renterHas, cX12_renterHas, 3, (some .int)), xc_X12_renterHas)
abbrev n_X12_renterHas : Nat := 142
def xc_X12_shop : List xI := [
  (0, .aload_n 0, 1, []),
  (1, .invokevirtual 60, 4, [0, 12, 135]),
  (4, .istore_n 1, 5, []),
  (5, .aload_n 0, 6, []),
  (6, .getfield 7, 9, [12, 0]),
  (9, .invokestatic 75, 12, [1, 134]),
  (12, .iload_n 1, 13, []),
  (13, .ireturn, 14, [])]
def xm_X12_shop : xM := ((yX12_shop, cX12_shop, 2, (some .int)), xc_X12_shop)
abbrev n_X12_shop : Nat := 143
def xc_X12_isViewTold : List xI := [
  (0, .iload_n 0, 1, []),
  (1, .i2l, 2, []),
  (2, .lconst 0, 3, []),
  (3, .ldc2_w 73, 6, [5]),
  (6, .invokestatic 64, 9, [3, 130]),
  (9, .ifCond .eq 38, 12, [47]),
  (12, .iload_n 1, 13, []),
  (13, .i2l, 14, []),
  (14, .lconst 1, 15, []),
  (15, .ldc2_w 79, 18, [9]),
  (18, .invokestatic 64, 21, [3, 130]),
  (21, .ifCond .eq 26, 24, [47]),
  (24, .iload_n 2, 25, []),
  (25, .i2l, 26, []),
  (26, .lconst 0, 27, []),
  (27, .ldc2_w 71, 30, [99]),
  (30, .invokestatic 64, 33, [3, 130]),
  (33, .ifCond .eq 14, 36, [47]),
  (36, .iload_n 3, 37, []),
  (37, .invokestatic 81, 40, [1, 140]),
  (40, .ifCond .eq 7, 43, [47]),
  (43, .iconst 1, 44, []),
  (44, .goto 4, 47, [48]),
  (47, .iconst 0, 48, []),
  (48, .ireturn, 49, [])]
def xm_X12_isViewTold : xM := ((yX12_isViewTold, cX12_isViewTold, 4, (some .boolean)), xc_X12_isViewTold)
abbrev n_X12_isViewTold : Nat := 144
def xc_X12_layView : List xI := [
  (0, .bipush 7, 2, []),
  (2, .bipush 6, 4, []),
  (4, .aload_n 0, 5, []),
  (5, .iconst 0, 6, []),
  (6, .iaload, 7, []),
  (7, .imul, 8, []),
  (8, .iadd, 9, []),
  (9, .istore 5, 11, []),
  (11, .aload_n 0, 12, []),
  (12, .iload 5, 14, []),
  (14, .iconst 0, 15, []),
  (15, .iadd, 16, []),
  (16, .iload_n 1, 17, []),
  (17, .iastore, 18, []),
  (18, .aload_n 0, 19, []),
  (19, .iload 5, 21, []),
  (21, .iconst 1, 22, []),
  (22, .iadd, 23, []),
  (23, .iload_n 2, 24, []),
  (24, .iastore, 25, []),
  (25, .aload_n 0, 26, []),
  (26, .iload 5, 28, []),
  (28, .iconst 2, 29, []),
  (29, .iadd, 30, []),
  (30, .iload_n 3, 31, []),
  (31, .iastore, 32, []),
  (32, .aload_n 0, 33, []),
  (33, .iload 5, 35, []),
  (35, .iconst 3, 36, []),
  (36, .iadd, 37, []),
  (37, .iload 4, 39, []),
  (39, .iastore, 40, []),
  (40, .aload_n 0, 41, []),
  (41, .iload 5, 43, []),
  (43, .iconst 4, 44, []),
  (44, .iadd, 45, []),
  (45, .iconst (-1), 46, []),
  (46, .iastore, 47, []),
  (47, .aload_n 0, 48, []),
  (48, .iload 5, 50, []),
  (50, .iconst 5, 51, []),
  (51, .iadd, 52, []),
  (52, .iconst 0, 53, []),
  (53, .iastore, 54, []),
  (54, .aload_n 0, 55, []),
  (55, .iconst 0, 56, []),
  (56, .dup2, 57, []),
  (57, .iaload, 58, []),
  (58, .iconst 1, 59, []),
  (59, .iadd, 60, []),
  (60, .iastore, 61, []),
  (61, .return_, 62, [])]
def xm_X12_layView : xM := ((yX12_layView, cX12_layView, 6, none), xc_X12_layView)
abbrev n_X12_layView : Nat := 145
def xc_X12_view : List xI := [
  (0, .iload_n 1, 1, []),
  (1, .iload_n 2, 2, []),
  (2, .iload_n 3, 3, []),
  (3, .iload 4, 5, []),
  (5, .invokestatic 85, 8, [4, 144]),
  (8, .ifCond .ne 10, 11, [18]),
  (11, .aload_n 0, 12, []),
  (12, .bipush (-2), 14, []),
  (14, .invokevirtual 89, 17, [1, 12, 131]),
  (17, .ireturn, 18, []),
  (18, .aload_n 0, 19, []),
  (19, .invokevirtual 60, 22, [0, 12, 135]),
  (22, .bipush 6, 24, []),
  (24, .if_icmp .ne 8, 27, [32]),
  (27, .aload_n 0, 28, []),
  (28, .invokevirtual 93, 31, [0, 12, 133]),
  (31, .ireturn, 32, []),
  (32, .aload_n 0, 33, []),
  (33, .getfield 7, 36, [12, 0]),
  (36, .iload_n 1, 37, []),
  (37, .iload_n 2, 38, []),
  (38, .iload_n 3, 39, []),
  (39, .iload 4, 41, []),
  (41, .invokestatic 96, 44, [5, 145]),
  (44, .aload_n 0, 45, []),
  (45, .getfield 7, 48, [12, 0]),
  (48, .bipush 6, 50, []),
  (50, .iconst 0, 51, []),
  (51, .iastore, 52, []),
  (52, .aload_n 0, 53, []),
  (53, .invokevirtual 60, 56, [0, 12, 135]),
  (56, .iconst 1, 57, []),
  (57, .isub, 58, []),
  (58, .ireturn, 59, [])]
def xm_X12_view : xM := ((yX12_view, cX12_view, 5, (some .int)), xc_X12_view)
abbrev n_X12_view : Nat := 146
def xc_X12_isRenterTold : List xI := [
  (0, .iload_n 0, 1, []),
  (1, .i2l, 2, []),
  (2, .lconst 1, 3, []),
  (3, .ldc2_w 79, 6, [9]),
  (6, .invokestatic 64, 9, [3, 130]),
  (9, .ifCond .eq 31, 12, [40]),
  (12, .iload_n 1, 13, []),
  (13, .i2l, 14, []),
  (14, .lconst 0, 15, []),
  (15, .ldc2_w 100, 18, [999]),
  (18, .invokestatic 64, 21, [3, 130]),
  (21, .ifCond .eq 19, 24, [40]),
  (24, .iload_n 2, 25, []),
  (25, .i2l, 26, []),
  (26, .lconst 0, 27, []),
  (27, .ldc2_w 102, 30, [6]),
  (30, .invokestatic 64, 33, [3, 130]),
  (33, .ifCond .eq 7, 36, [40]),
  (36, .iconst 1, 37, []),
  (37, .goto 4, 40, [41]),
  (40, .iconst 0, 41, []),
  (41, .ireturn, 42, [])]
def xm_X12_isRenterTold : xM := ((yX12_isRenterTold, cX12_isRenterTold, 3, (some .boolean)), xc_X12_isRenterTold)
abbrev n_X12_isRenterTold : Nat := 147
def xc_X12_layRenter : List xI := [
  (0, .bipush 43, 2, []),
  (2, .iconst 3, 3, []),
  (3, .aload_n 0, 4, []),
  (4, .iconst 1, 5, []),
  (5, .iaload, 6, []),
  (6, .imul, 7, []),
  (7, .iadd, 8, []),
  (8, .istore 4, 10, []),
  (10, .aload_n 0, 11, []),
  (11, .iload 4, 13, []),
  (13, .iconst 0, 14, []),
  (14, .iadd, 15, []),
  (15, .iload_n 1, 16, []),
  (16, .iastore, 17, []),
  (17, .aload_n 0, 18, []),
  (18, .iload 4, 20, []),
  (20, .iconst 1, 21, []),
  (21, .iadd, 22, []),
  (22, .iload_n 2, 23, []),
  (23, .iastore, 24, []),
  (24, .aload_n 0, 25, []),
  (25, .iload 4, 27, []),
  (27, .iconst 2, 28, []),
  (28, .iadd, 29, []),
  (29, .iload_n 3, 30, []),
  (30, .iastore, 31, []),
  (31, .aload_n 0, 32, []),
  (32, .iconst 1, 33, []),
  (33, .dup2, 34, []),
  (34, .iaload, 35, []),
  (35, .iconst 1, 36, []),
  (36, .iadd, 37, []),
  (37, .iastore, 38, []),
  (38, .return_, 39, [])]
def xm_X12_layRenter : xM := ((yX12_layRenter, cX12_layRenter, 5, none), xc_X12_layRenter)
abbrev n_X12_layRenter : Nat := 148
def xc_X12_renter : List xI := [
  (0, .iload_n 1, 1, []),
  (1, .iload_n 2, 2, []),
  (2, .iload_n 3, 3, []),
  (3, .invokestatic 104, 6, [3, 147]),
  (6, .ifCond .ne 10, 9, [16]),
  (9, .aload_n 0, 10, []),
  (10, .bipush (-2), 12, []),
  (12, .invokevirtual 89, 15, [1, 12, 131]),
  (15, .ireturn, 16, []),
  (16, .aload_n 0, 17, []),
  (17, .invokevirtual 68, 20, [0, 12, 136]),
  (20, .bipush 6, 22, []),
  (22, .if_icmp .ne 8, 25, [30]),
  (25, .aload_n 0, 26, []),
  (26, .invokevirtual 93, 29, [0, 12, 133]),
  (29, .ireturn, 30, []),
  (30, .aload_n 0, 31, []),
  (31, .getfield 7, 34, [12, 0]),
  (34, .iload_n 1, 35, []),
  (35, .iload_n 2, 36, []),
  (36, .iload_n 3, 37, []),
  (37, .invokestatic 108, 40, [4, 148]),
  (40, .aload_n 0, 41, []),
  (41, .getfield 7, 44, [12, 0]),
  (44, .bipush 6, 46, []),
  (46, .iconst 0, 47, []),
  (47, .iastore, 48, []),
  (48, .aload_n 0, 49, []),
  (49, .invokevirtual 68, 52, [0, 12, 136]),
  (52, .iconst 1, 53, []),
  (53, .isub, 54, []),
  (54, .ireturn, 55, [])]
def xm_X12_renter : xM := ((yX12_renter, cX12_renter, 4, (some .int)), xc_X12_renter)
abbrev n_X12_renter : Nat := 149
def xc_X12_things : List xI := [
  (0, .aload_n 0, 1, []),
  (1, .iload_n 1, 2, []),
  (2, .invokevirtual 112, 5, [1, 12, 137]),
  (5, .ifCond .eq 15, 8, [20]),
  (8, .iload_n 2, 9, []),
  (9, .i2l, 10, []),
  (10, .lconst 0, 11, []),
  (11, .ldc2_w 115, 14, [255]),
  (14, .invokestatic 64, 17, [3, 130]),
  (17, .ifCond .ne 10, 20, [27]),
  (20, .aload_n 0, 21, []),
  (21, .bipush (-2), 23, []),
  (23, .invokevirtual 89, 26, [1, 12, 131]),
  (26, .ireturn, 27, []),
  (27, .aload_n 0, 28, []),
  (28, .iload_n 1, 29, []),
  (29, .iconst 5, 30, []),
  (30, .invokevirtual 117, 33, [2, 12, 141]),
  (33, .istore_n 3, 34, []),
  (34, .aload_n 0, 35, []),
  (35, .getfield 7, 38, [12, 0]),
  (38, .bipush 7, 40, []),
  (40, .bipush 6, 42, []),
  (42, .iload_n 1, 43, []),
  (43, .imul, 44, []),
  (44, .iadd, 45, []),
  (45, .iconst 5, 46, []),
  (46, .iadd, 47, []),
  (47, .iload_n 2, 48, []),
  (48, .iastore, 49, []),
  (49, .iload_n 3, 50, []),
  (50, .ireturn, 51, [])]
def xm_X12_things : xM := ((yX12_things, cX12_things, 4, (some .int)), xc_X12_things)
abbrev n_X12_things : Nat := 150
def xc_X12_lake : List xI := [
  (0, .iload_n 0, 1, []),
  (1, .iload_n 1, 2, []),
  (2, .iadd, 3, []),
  (3, .bipush 6, 5, []),
  (5, .irem, 6, []),
  (6, .ireturn, 7, [])]
def xm_X12_lake : xM := ((yX12_lake, cX12_lake, 2, (some .int)), xc_X12_lake)
abbrev n_X12_lake : Nat := 151
def xc_X12_weatherOf : List xI := [
  (0, .iload_n 0, 1, []),
  (1, .tableswitch 78 1 5 #[35, 44, 63, 78, 65], 36, [79, 36, 45, 64, 79, 66]),
  (36, .iload_n 1, 37, []),
  (37, .iconst 2, 38, []),
  (38, .iload_n 2, 39, []),
  (39, .imul, 40, []),
  (40, .iadd, 41, []),
  (41, .bipush 6, 43, []),
  (43, .irem, 44, []),
  (44, .ireturn, 45, []),
  (45, .iload_n 1, 46, []),
  (46, .iload_n 2, 47, []),
  (47, .invokestatic 121, 50, [2, 151]),
  (50, .iconst 1, 51, []),
  (51, .if_icmp .ne 7, 54, [58]),
  (54, .iconst 0, 55, []),
  (55, .goto 8, 58, [63]),
  (58, .iload_n 1, 59, []),
  (59, .iload_n 2, 60, []),
  (60, .invokestatic 121, 63, [2, 151]),
  (63, .ireturn, 64, []),
  (64, .iload_n 1, 65, []),
  (65, .ireturn, 66, []),
  (66, .iload_n 2, 67, []),
  (67, .iconst 2, 68, []),
  (68, .irem, 69, []),
  (69, .iconst 1, 70, []),
  (70, .if_icmp .ne 7, 73, [77]),
  (73, .iconst 5, 74, []),
  (74, .goto 4, 77, [78]),
  (77, .iload_n 1, 78, []),
  (78, .ireturn, 79, []),
  (79, .iload_n 1, 80, []),
  (80, .iload_n 2, 81, []),
  (81, .invokestatic 121, 84, [2, 151]),
  (84, .ireturn, 85, [])]
def xm_X12_weatherOf : xM := ((yX12_weatherOf, cX12_weatherOf, 3, (some .int)), xc_X12_weatherOf)
abbrev n_X12_weatherOf : Nat := 152
def xc_X12_costOf : List xI := [
  (0, .iload_n 0, 1, []),
  (1, .iconst 2, 2, []),
  (2, .if_icmp .ne 9, 5, [11]),
  (5, .iconst 2, 6, []),
  (6, .iload_n 1, 7, []),
  (7, .imul, 8, []),
  (8, .goto 27, 11, [35]),
  (11, .iload_n 0, 12, []),
  (12, .iconst 3, 13, []),
  (13, .if_icmp .ne 10, 16, [23]),
  (16, .iload_n 1, 17, []),
  (17, .bipush 10, 19, []),
  (19, .iadd, 20, []),
  (20, .goto 15, 23, [35]),
  (23, .iload_n 0, 24, []),
  (24, .iconst 4, 25, []),
  (25, .if_icmp .ne 9, 28, [34]),
  (28, .iload_n 1, 29, []),
  (29, .iconst 2, 30, []),
  (30, .idiv, 31, []),
  (31, .goto 4, 34, [35]),
  (34, .iload_n 1, 35, []),
  (35, .ireturn, 36, [])]
def xm_X12_costOf : xM := ((yX12_costOf, cX12_costOf, 2, (some .int)), xc_X12_costOf)
abbrev n_X12_costOf : Nat := 153
def xc_X12_showsIn : List xI := [
  (0, .aload_n 0, 1, []),
  (1, .iload_n 1, 2, []),
  (2, .iconst 0, 3, []),
  (3, .invokevirtual 117, 6, [2, 12, 141]),
  (6, .aload_n 0, 7, []),
  (7, .iload_n 1, 8, []),
  (8, .iconst 3, 9, []),
  (9, .invokevirtual 117, 12, [2, 12, 141]),
  (12, .iload_n 2, 13, []),
  (13, .invokestatic 124, 16, [3, 152]),
  (16, .ireturn, 17, [])]
def xm_X12_showsIn : xM := ((yX12_showsIn, cX12_showsIn, 3, (some .int)), xc_X12_showsIn)
abbrev n_X12_showsIn : Nat := 154
def xc_X12_fits : List xI := [
  (0, .aload_n 0, 1, []),
  (1, .iload_n 1, 2, []),
  (2, .iconst 0, 3, []),
  (3, .invokevirtual 117, 6, [2, 12, 141]),
  (6, .iconst 4, 7, []),
  (7, .if_icmp .eq 13, 10, [20]),
  (10, .aload_n 0, 11, []),
  (11, .iload_n 1, 12, []),
  (12, .iconst 1, 13, []),
  (13, .invokevirtual 117, 16, [2, 12, 141]),
  (16, .iload_n 2, 17, []),
  (17, .if_icmp .gt 7, 20, [24]),
  (20, .iconst 1, 21, []),
  (21, .goto 4, 24, [25]),
  (24, .iconst 0, 25, []),
  (25, .ireturn, 26, [])]
def xm_X12_fits : xM := ((yX12_fits, cX12_fits, 3, (some .boolean)), xc_X12_fits)
abbrev n_X12_fits : Nat := 155
def xc_X12_layHand : List xI := [
  (0, .iconst 0, 1, []),
  (1, .istore_n 1, 2, []),
  (2, .iload_n 1, 3, []),
  (3, .aload_n 0, 4, []),
  (4, .invokevirtual 60, 7, [0, 12, 135]),
  (7, .if_icmp .ge 30, 10, [37]),
  (10, .aload_n 0, 11, []),
  (11, .getfield 27, 14, [12, 6]),
  (14, .iload_n 1, 15, []),
  (15, .aload_n 0, 16, []),
  (16, .iload_n 1, 17, []),
  (17, .iconst 0, 18, []),
  (18, .invokevirtual 117, 21, [2, 12, 141]),
  (21, .aload_n 0, 22, []),
  (22, .iload_n 1, 23, []),
  (23, .iconst 2, 24, []),
  (24, .invokevirtual 117, 27, [2, 12, 141]),
  (27, .invokestatic 128, 30, [2, 153]),
  (30, .iastore, 31, []),
  (31, .iinc 1 1, 34, []),
  (34, .goto (-32), 37, [2]),
  (37, .aload_n 0, 38, []),
  (38, .aload_n 0, 39, []),
  (39, .invokevirtual 68, 42, [0, 12, 136]),
  (42, .putfield 131, 45, [12, 7]),
  (45, .iconst 0, 46, []),
  (46, .istore_n 1, 47, []),
  (47, .iload_n 1, 48, []),
  (48, .aload_n 0, 49, []),
  (49, .invokevirtual 68, 52, [0, 12, 136]),
  (52, .if_icmp .ge 45, 55, [97]),
  (55, .aload_n 0, 56, []),
  (56, .getfield 30, 59, [12, 8]),
  (59, .iload_n 1, 60, []),
  (60, .aload_n 0, 61, []),
  (61, .iload_n 1, 62, []),
  (62, .iconst 0, 63, []),
  (63, .invokevirtual 135, 66, [2, 12, 142]),
  (66, .iastore, 67, []),
  (67, .aload_n 0, 68, []),
  (68, .getfield 33, 71, [12, 9]),
  (71, .iload_n 1, 72, []),
  (72, .aload_n 0, 73, []),
  (73, .iload_n 1, 74, []),
  (74, .iconst 1, 75, []),
  (75, .invokevirtual 135, 78, [2, 12, 142]),
  (78, .iastore, 79, []),
  (79, .aload_n 0, 80, []),
  (80, .getfield 36, 83, [12, 10]),
  (83, .iload_n 1, 84, []),
  (84, .aload_n 0, 85, []),
  (85, .iload_n 1, 86, []),
  (86, .iconst 2, 87, []),
  (87, .invokevirtual 135, 90, [2, 12, 142]),
  (90, .iastore, 91, []),
  (91, .iinc 1 1, 94, []),
  (94, .goto (-47), 97, [47]),
  (97, .return_, 98, [])]
def xm_X12_layHand : xM := ((yX12_layHand, cX12_layHand, 2, none), xc_X12_layHand)
abbrev n_X12_layHand : Nat := 156
def xc_X12_doesSuit : List xI := [
  (0, .aload_n 0, 1, []),
  (1, .iload_n 1, 2, []),
  (2, .aload_n 0, 3, []),
  (3, .getfield 30, 6, [12, 8]),
  (6, .iload_n 2, 7, []),
  (7, .iaload, 8, []),
  (8, .invokevirtual 138, 11, [2, 12, 155]),
  (11, .ifCond .eq 48, 14, [59]),
  (14, .aload_n 0, 15, []),
  (15, .getfield 27, 18, [12, 6]),
  (18, .iload_n 1, 19, []),
  (19, .iaload, 20, []),
  (20, .aload_n 0, 21, []),
  (21, .getfield 33, 24, [12, 9]),
  (24, .iload_n 2, 25, []),
  (25, .iaload, 26, []),
  (26, .if_icmp .gt 33, 29, [59]),
  (29, .aload_n 0, 30, []),
  (30, .getfield 36, 33, [12, 10]),
  (33, .iload_n 2, 34, []),
  (34, .iaload, 35, []),
  (35, .bipush 6, 37, []),
  (37, .if_icmp .eq 18, 40, [55]),
  (40, .aload_n 0, 41, []),
  (41, .getfield 36, 44, [12, 10]),
  (44, .iload_n 2, 45, []),
  (45, .iaload, 46, []),
  (46, .aload_n 0, 47, []),
  (47, .iload_n 1, 48, []),
  (48, .iload_n 3, 49, []),
  (49, .invokevirtual 142, 52, [2, 12, 154]),
  (52, .if_icmp .ne 7, 55, [59]),
  (55, .iconst 1, 56, []),
  (56, .goto 4, 59, [60]),
  (59, .iconst 0, 60, []),
  (60, .ireturn, 61, [])]
def xm_X12_doesSuit : xM := ((yX12_doesSuit, cX12_doesSuit, 4, (some .boolean)), xc_X12_doesSuit)
abbrev n_X12_doesSuit : Nat := 157
def xc_X12_laySuit : List xI := [
  (0, .iconst 0, 1, []),
  (1, .istore_n 2, 2, []),
  (2, .iload_n 2, 3, []),
  (3, .aload_n 0, 4, []),
  (4, .getfield 131, 7, [12, 7]),
  (7, .if_icmp .ge 58, 10, [65]),
  (10, .aload_n 0, 11, []),
  (11, .getfield 39, 14, [12, 11]),
  (14, .iload_n 2, 15, []),
  (15, .iconst 0, 16, []),
  (16, .iastore, 17, []),
  (17, .iconst 0, 18, []),
  (18, .istore_n 3, 19, []),
  (19, .iload_n 3, 20, []),
  (20, .aload_n 0, 21, []),
  (21, .invokevirtual 60, 24, [0, 12, 135]),
  (24, .if_icmp .ge 35, 27, [59]),
  (27, .aload_n 0, 28, []),
  (28, .getfield 39, 31, [12, 11]),
  (31, .iload_n 2, 32, []),
  (32, .dup2, 33, []),
  (33, .iaload, 34, []),
  (34, .aload_n 0, 35, []),
  (35, .iload_n 3, 36, []),
  (36, .iload_n 2, 37, []),
  (37, .iload_n 1, 38, []),
  (38, .invokevirtual 145, 41, [3, 12, 157]),
  (41, .ifCond .eq 9, 44, [50]),
  (44, .iconst 1, 45, []),
  (45, .iload_n 3, 46, []),
  (46, .ishl, 47, []),
  (47, .goto 4, 50, [51]),
  (50, .iconst 0, 51, []),
  (51, .ior, 52, []),
  (52, .iastore, 53, []),
  (53, .iinc 3 1, 56, []),
  (56, .goto (-37), 59, [19]),
  (59, .iinc 2 1, 62, []),
  (62, .goto (-60), 65, [2]),
  (65, .return_, 66, [])]
def xm_X12_laySuit : xM := ((yX12_laySuit, cX12_laySuit, 4, none), xc_X12_laySuit)
abbrev n_X12_laySuit : Nat := 158
def xc_X12_keep : List xI := [
  (0, .aload_n 0, 1, []),
  (1, .getfield 7, 4, [12, 0]),
  (4, .bipush 6, 6, []),
  (6, .iaload, 7, []),
  (7, .bipush 8, 9, []),
  (9, .if_icmp .ne 46, 12, [55]),
  (12, .iconst 0, 13, []),
  (13, .istore_n 1, 14, []),
  (14, .iload_n 1, 15, []),
  (15, .sipush 357, 18, []),
  (18, .if_icmp .ge 28, 21, [46]),
  (21, .aload_n 0, 22, []),
  (22, .getfield 7, 25, [12, 0]),
  (25, .bipush 115, 27, []),
  (27, .iload_n 1, 28, []),
  (28, .iadd, 29, []),
  (29, .aload_n 0, 30, []),
  (30, .getfield 7, 33, [12, 0]),
  (33, .sipush 166, 36, []),
  (36, .iload_n 1, 37, []),
  (37, .iadd, 38, []),
  (38, .iaload, 39, []),
  (39, .iastore, 40, []),
  (40, .iinc 1 1, 43, []),
  (43, .goto (-29), 46, [14]),
  (46, .aload_n 0, 47, []),
  (47, .getfield 7, 50, [12, 0]),
  (50, .bipush 6, 52, []),
  (52, .bipush 7, 54, []),
  (54, .iastore, 55, []),
  (55, .bipush 115, 57, []),
  (57, .bipush 51, 59, []),
  (59, .aload_n 0, 60, []),
  (60, .getfield 7, 63, [12, 0]),
  (63, .bipush 6, 65, []),
  (65, .iaload, 66, []),
  (66, .imul, 67, []),
  (67, .iadd, 68, []),
  (68, .istore_n 1, 69, []),
  (69, .iconst 0, 70, []),
  (70, .istore_n 2, 71, []),
  (71, .iload_n 2, 72, []),
  (72, .bipush 6, 74, []),
  (74, .if_icmp .ge 40, 77, [114]),
  (77, .aload_n 0, 78, []),
  (78, .getfield 7, 81, [12, 0]),
  (81, .iload_n 1, 82, []),
  (82, .iload_n 2, 83, []),
  (83, .iadd, 84, []),
  (84, .aload_n 0, 85, []),
  (85, .iload_n 2, 86, []),
  (86, .iconst 1, 87, []),
  (87, .invokevirtual 135, 90, [2, 12, 142]),
  (90, .iastore, 91, []),
  (91, .aload_n 0, 92, []),
  (92, .getfield 7, 95, [12, 0]),
  (95, .iload_n 1, 96, []),
  (96, .bipush 6, 98, []),
  (98, .iadd, 99, []),
  (99, .iload_n 2, 100, []),
  (100, .iadd, 101, []),
  (101, .aload_n 0, 102, []),
  (102, .iload_n 2, 103, []),
  (103, .iconst 4, 104, []),
  (104, .invokevirtual 117, 107, [2, 12, 141]),
  (107, .iastore, 108, []),
  (108, .iinc 2 1, 111, []),
  (111, .goto (-40), 114, [71]),
  (114, .aload_n 0, 115, []),
  (115, .getfield 7, 118, [12, 0]),
  (118, .iload_n 1, 119, []),
  (119, .bipush 12, 121, []),
  (121, .iadd, 122, []),
  (122, .aload_n 0, 123, []),
  (123, .getfield 7, 126, [12, 0]),
  (126, .iconst 2, 127, []),
  (127, .iaload, 128, []),
  (128, .iastore, 129, []),
  (129, .aload_n 0, 130, []),
  (130, .getfield 7, 133, [12, 0]),
  (133, .iload_n 1, 134, []),
  (134, .bipush 13, 136, []),
  (136, .iadd, 137, []),
  (137, .aload_n 0, 138, []),
  (138, .getfield 7, 141, [12, 0]),
  (141, .iconst 3, 142, []),
  (142, .iaload, 143, []),
  (143, .iastore, 144, []),
  (144, .aload_n 0, 145, []),
  (145, .getfield 7, 148, [12, 0]),
  (148, .iload_n 1, 149, []),
  (149, .bipush 14, 151, []),
  (151, .iadd, 152, []),
  (152, .aload_n 0, 153, []),
  (153, .getfield 7, 156, [12, 0]),
  (156, .iconst 4, 157, []),
  (157, .iaload, 158, []),
  (158, .iastore, 159, []),
  (159, .iconst 0, 160, []),
  (160, .istore_n 2, 161, []),
  (161, .iload_n 2, 162, []),
  (162, .bipush 36, 164, []),
  (164, .if_icmp .ge 29, 167, [193]),
  (167, .aload_n 0, 168, []),
  (168, .getfield 7, 171, [12, 0]),
  (171, .iload_n 1, 172, []),
  (172, .bipush 15, 174, []),
  (174, .iadd, 175, []),
  (175, .iload_n 2, 176, []),
  (176, .iadd, 177, []),
  (177, .aload_n 0, 178, []),
  (178, .getfield 7, 181, [12, 0]),
  (181, .bipush 61, 183, []),
  (183, .iload_n 2, 184, []),
  (184, .iadd, 185, []),
  (185, .iaload, 186, []),
  (186, .iastore, 187, []),
  (187, .iinc 2 1, 190, []),
  (190, .goto (-29), 193, [161]),
  (193, .aload_n 0, 194, []),
  (194, .getfield 7, 197, [12, 0]),
  (197, .bipush 6, 199, []),
  (199, .dup2, 200, []),
  (200, .iaload, 201, []),
  (201, .iconst 1, 202, []),
  (202, .iadd, 203, []),
  (203, .iastore, 204, []),
  (204, .return_, 205, [])]
def xm_X12_keep : xM := ((yX12_keep, cX12_keep, 3, none), xc_X12_keep)
abbrev n_X12_keep : Nat := 159
def xc_X12_viewOf : List xI := [
  (0, .iconst (-1), 1, []),
  (1, .istore_n 2, 2, []),
  (2, .iconst 0, 3, []),
  (3, .istore_n 3, 4, []),
  (4, .iload_n 3, 5, []),
  (5, .aload_n 0, 6, []),
  (6, .invokevirtual 60, 9, [0, 12, 135]),
  (9, .if_icmp .ge 25, 12, [34]),
  (12, .aload_n 0, 13, []),
  (13, .iload_n 3, 14, []),
  (14, .iconst 4, 15, []),
  (15, .invokevirtual 117, 18, [2, 12, 141]),
  (18, .iload_n 1, 19, []),
  (19, .if_icmp .ne 7, 22, [26]),
  (22, .iload_n 3, 23, []),
  (23, .goto 4, 26, [27]),
  (26, .iload_n 2, 27, []),
  (27, .istore_n 2, 28, []),
  (28, .iinc 3 1, 31, []),
  (31, .goto (-27), 34, [4]),
  (34, .iload_n 2, 35, []),
  (35, .ireturn, 36, [])]
def xm_X12_viewOf : xM := ((yX12_viewOf, cX12_viewOf, 4, (some .int)), xc_X12_viewOf)
abbrev n_X12_viewOf : Nat := 160
def xc_X12_remember : List xI := [
  (0, .aload_n 0, 1, []),
  (1, .getfield 7, 4, [12, 0]),
  (4, .iconst 4, 5, []),
  (5, .iaload, 6, []),
  (6, .bipush 12, 8, []),
  (8, .if_icmp .ne 45, 11, [53]),
  (11, .iconst 0, 12, []),
  (12, .istore_n 3, 13, []),
  (13, .iload_n 3, 14, []),
  (14, .bipush 33, 16, []),
  (16, .if_icmp .ge 29, 19, [45]),
  (19, .aload_n 0, 20, []),
  (20, .getfield 7, 23, [12, 0]),
  (23, .bipush 61, 25, []),
  (25, .iload_n 3, 26, []),
  (26, .iadd, 27, []),
  (27, .aload_n 0, 28, []),
  (28, .getfield 7, 31, [12, 0]),
  (31, .bipush 61, 33, []),
  (33, .iload_n 3, 34, []),
  (34, .iadd, 35, []),
  (35, .iconst 3, 36, []),
  (36, .iadd, 37, []),
  (37, .iaload, 38, []),
  (38, .iastore, 39, []),
  (39, .iinc 3 1, 42, []),
  (42, .goto (-29), 45, [13]),
  (45, .aload_n 0, 46, []),
  (46, .getfield 7, 49, [12, 0]),
  (49, .iconst 4, 50, []),
  (50, .bipush 11, 52, []),
  (52, .iastore, 53, []),
  (53, .bipush 61, 55, []),
  (55, .iconst 3, 56, []),
  (56, .aload_n 0, 57, []),
  (57, .getfield 7, 60, [12, 0]),
  (60, .iconst 4, 61, []),
  (61, .iaload, 62, []),
  (62, .imul, 63, []),
  (63, .iadd, 64, []),
  (64, .istore_n 3, 65, []),
  (65, .aload_n 0, 66, []),
  (66, .getfield 7, 69, [12, 0]),
  (69, .iload_n 3, 70, []),
  (70, .iload_n 1, 71, []),
  (71, .iastore, 72, []),
  (72, .aload_n 0, 73, []),
  (73, .getfield 7, 76, [12, 0]),
  (76, .iload_n 3, 77, []),
  (77, .iconst 1, 78, []),
  (78, .iadd, 79, []),
  (79, .iload_n 2, 80, []),
  (80, .iastore, 81, []),
  (81, .aload_n 0, 82, []),
  (82, .getfield 7, 85, [12, 0]),
  (85, .iload_n 3, 86, []),
  (86, .iconst 2, 87, []),
  (87, .iadd, 88, []),
  (88, .aload_n 0, 89, []),
  (89, .getfield 7, 92, [12, 0]),
  (92, .iconst 2, 93, []),
  (93, .iaload, 94, []),
  (94, .iastore, 95, []),
  (95, .aload_n 0, 96, []),
  (96, .getfield 7, 99, [12, 0]),
  (99, .iconst 4, 100, []),
  (100, .dup2, 101, []),
  (101, .iaload, 102, []),
  (102, .iconst 1, 103, []),
  (103, .iadd, 104, []),
  (104, .iastore, 105, []),
  (105, .return_, 106, [])]
def xm_X12_remember : xM := ((yX12_remember, cX12_remember, 4, none), xc_X12_remember)
abbrev n_X12_remember : Nat := 161
def xc_X12_let : List xI := [
  (0, .aload_n 0, 1, []),
  (1, .iload_n 1, 2, []),
  (2, .invokevirtual 112, 5, [1, 12, 137]),
  (5, .ifCond .eq 11, 8, [16]),
  (8, .aload_n 0, 9, []),
  (9, .iload_n 2, 10, []),
  (10, .invokevirtual 148, 13, [1, 12, 138]),
  (13, .ifCond .ne 10, 16, [23]),
  (16, .aload_n 0, 17, []),
  (17, .bipush (-2), 19, []),
  (19, .invokevirtual 89, 22, [1, 12, 131]),
  (22, .ireturn, 23, []),
  (23, .aload_n 0, 24, []),
  (24, .invokevirtual 151, 27, [0, 12, 156]),
  (27, .aload_n 0, 28, []),
  (28, .iload_n 1, 29, []),
  (29, .iconst 4, 30, []),
  (30, .invokevirtual 117, 33, [2, 12, 141]),
  (33, .iconst (-1), 34, []),
  (34, .if_icmp .ne 16, 37, [50]),
  (37, .aload_n 0, 38, []),
  (38, .iload_n 2, 39, []),
  (39, .invokevirtual 154, 42, [1, 12, 160]),
  (42, .iconst (-1), 43, []),
  (43, .if_icmp .ne 7, 46, [50]),
  (46, .iconst 1, 47, []),
  (47, .goto 4, 50, [51]),
  (50, .iconst 0, 51, []),
  (51, .istore_n 3, 52, []),
  (52, .iload_n 3, 53, []),
  (53, .ifCond .eq 32, 56, [85]),
  (56, .aload_n 0, 57, []),
  (57, .iload_n 1, 58, []),
  (58, .aload_n 0, 59, []),
  (59, .getfield 30, 62, [12, 8]),
  (62, .iload_n 2, 63, []),
  (63, .iaload, 64, []),
  (64, .invokevirtual 138, 67, [2, 12, 155]),
  (67, .ifCond .eq 18, 70, [85]),
  (70, .aload_n 0, 71, []),
  (71, .getfield 27, 74, [12, 6]),
  (74, .iload_n 1, 75, []),
  (75, .iaload, 76, []),
  (76, .aload_n 0, 77, []),
  (77, .getfield 33, 80, [12, 9]),
  (80, .iload_n 2, 81, []),
  (81, .iaload, 82, []),
  (82, .if_icmp .le 8, 85, [90]),
  (85, .aload_n 0, 86, []),
  (86, .invokevirtual 157, 89, [0, 12, 132]),
  (89, .ireturn, 90, []),
  (90, .aload_n 0, 91, []),
  (91, .invokevirtual 160, 94, [0, 12, 159]),
  (94, .aload_n 0, 95, []),
  (95, .getfield 7, 98, [12, 0]),
  (98, .bipush 7, 100, []),
  (100, .bipush 6, 102, []),
  (102, .iload_n 1, 103, []),
  (103, .imul, 104, []),
  (104, .iadd, 105, []),
  (105, .iconst 4, 106, []),
  (106, .iadd, 107, []),
  (107, .iload_n 2, 108, []),
  (108, .iastore, 109, []),
  (109, .aload_n 0, 110, []),
  (110, .getfield 7, 113, [12, 0]),
  (113, .bipush 43, 115, []),
  (115, .iconst 3, 116, []),
  (116, .iload_n 2, 117, []),
  (117, .imul, 118, []),
  (118, .iadd, 119, []),
  (119, .iconst 1, 120, []),
  (120, .iadd, 121, []),
  (121, .dup2, 122, []),
  (122, .iaload, 123, []),
  (123, .aload_n 0, 124, []),
  (124, .getfield 27, 127, [12, 6]),
  (127, .iload_n 1, 128, []),
  (128, .iaload, 129, []),
  (129, .isub, 130, []),
  (130, .iastore, 131, []),
  (131, .aload_n 0, 132, []),
  (132, .getfield 7, 135, [12, 0]),
  (135, .iconst 3, 136, []),
  (136, .dup2, 137, []),
  (137, .iaload, 138, []),
  (138, .aload_n 0, 139, []),
  (139, .getfield 27, 142, [12, 6]),
  (142, .iload_n 1, 143, []),
  (143, .iaload, 144, []),
  (144, .iadd, 145, []),
  (145, .iastore, 146, []),
  (146, .aload_n 0, 147, []),
  (147, .iload_n 1, 148, []),
  (148, .iload_n 2, 149, []),
  (149, .invokevirtual 163, 152, [2, 12, 161]),
  (152, .aload_n 0, 153, []),
  (153, .getfield 27, 156, [12, 6]),
  (156, .iload_n 1, 157, []),
  (157, .iaload, 158, []),
  (158, .ireturn, 159, [])]
def xm_X12_let : xM := ((yX12_let, cX12_let, 4, (some .int)), xc_X12_let)
abbrev n_X12_let : Nat := 162
def xc_X12_night : List xI := [
  (0, .aload_n 0, 1, []),
  (1, .invokevirtual 160, 4, [0, 12, 159]),
  (4, .iconst 0, 5, []),
  (5, .istore_n 1, 6, []),
  (6, .iload_n 1, 7, []),
  (7, .aload_n 0, 8, []),
  (8, .invokevirtual 60, 11, [0, 12, 135]),
  (11, .if_icmp .ge 24, 14, [35]),
  (14, .aload_n 0, 15, []),
  (15, .getfield 7, 18, [12, 0]),
  (18, .bipush 7, 20, []),
  (20, .bipush 6, 22, []),
  (22, .iload_n 1, 23, []),
  (23, .imul, 24, []),
  (24, .iadd, 25, []),
  (25, .iconst 4, 26, []),
  (26, .iadd, 27, []),
  (27, .iconst (-1), 28, []),
  (28, .iastore, 29, []),
  (29, .iinc 1 1, 32, []),
  (32, .goto (-26), 35, [6]),
  (35, .aload_n 0, 36, []),
  (36, .getfield 7, 39, [12, 0]),
  (39, .iconst 2, 40, []),
  (40, .dup2, 41, []),
  (41, .iaload, 42, []),
  (42, .iconst 1, 43, []),
  (43, .iadd, 44, []),
  (44, .iastore, 45, []),
  (45, .aload_n 0, 46, []),
  (46, .getfield 7, 49, [12, 0]),
  (49, .iconst 2, 50, []),
  (50, .iaload, 51, []),
  (51, .ireturn, 52, [])]
def xm_X12_night : xM := ((yX12_night, cX12_night, 2, (some .int)), xc_X12_night)
abbrev n_X12_night : Nat := 163
def xc_X12_undo : List xI := [
  (0, .aload_n 0, 1, []),
  (1, .getfield 7, 4, [12, 0]),
  (4, .bipush 6, 6, []),
  (6, .iaload, 7, []),
  (7, .ifCond .ne 8, 10, [15]),
  (10, .aload_n 0, 11, []),
  (11, .invokevirtual 157, 14, [0, 12, 132]),
  (14, .ireturn, 15, []),
  (15, .aload_n 0, 16, []),
  (16, .getfield 7, 19, [12, 0]),
  (19, .bipush 6, 21, []),
  (21, .dup2, 22, []),
  (22, .iaload, 23, []),
  (23, .iconst 1, 24, []),
  (24, .isub, 25, []),
  (25, .iastore, 26, []),
  (26, .bipush 115, 28, []),
  (28, .bipush 51, 30, []),
  (30, .aload_n 0, 31, []),
  (31, .getfield 7, 34, [12, 0]),
  (34, .bipush 6, 36, []),
  (36, .iaload, 37, []),
  (37, .imul, 38, []),
  (38, .iadd, 39, []),
  (39, .istore_n 1, 40, []),
  (40, .iconst 0, 41, []),
  (41, .istore_n 2, 42, []),
  (42, .iload_n 2, 43, []),
  (43, .bipush 6, 45, []),
  (45, .if_icmp .ge 55, 48, [100]),
  (48, .aload_n 0, 49, []),
  (49, .getfield 7, 52, [12, 0]),
  (52, .bipush 43, 54, []),
  (54, .iconst 3, 55, []),
  (55, .iload_n 2, 56, []),
  (56, .imul, 57, []),
  (57, .iadd, 58, []),
  (58, .iconst 1, 59, []),
  (59, .iadd, 60, []),
  (60, .aload_n 0, 61, []),
  (61, .getfield 7, 64, [12, 0]),
  (64, .iload_n 1, 65, []),
  (65, .iload_n 2, 66, []),
  (66, .iadd, 67, []),
  (67, .iaload, 68, []),
  (68, .iastore, 69, []),
  (69, .aload_n 0, 70, []),
  (70, .getfield 7, 73, [12, 0]),
  (73, .bipush 7, 75, []),
  (75, .bipush 6, 77, []),
  (77, .iload_n 2, 78, []),
  (78, .imul, 79, []),
  (79, .iadd, 80, []),
  (80, .iconst 4, 81, []),
  (81, .iadd, 82, []),
  (82, .aload_n 0, 83, []),
  (83, .getfield 7, 86, [12, 0]),
  (86, .iload_n 1, 87, []),
  (87, .bipush 6, 89, []),
  (89, .iadd, 90, []),
  (90, .iload_n 2, 91, []),
  (91, .iadd, 92, []),
  (92, .iaload, 93, []),
  (93, .iastore, 94, []),
  (94, .iinc 2 1, 97, []),
  (97, .goto (-55), 100, [42]),
  (100, .aload_n 0, 101, []),
  (101, .getfield 7, 104, [12, 0]),
  (104, .iconst 2, 105, []),
  (105, .aload_n 0, 106, []),
  (106, .getfield 7, 109, [12, 0]),
  (109, .iload_n 1, 110, []),
  (110, .bipush 12, 112, []),
  (112, .iadd, 113, []),
  (113, .iaload, 114, []),
  (114, .iastore, 115, []),
  (115, .aload_n 0, 116, []),
  (116, .getfield 7, 119, [12, 0]),
  (119, .iconst 3, 120, []),
  (120, .aload_n 0, 121, []),
  (121, .getfield 7, 124, [12, 0]),
  (124, .iload_n 1, 125, []),
  (125, .bipush 13, 127, []),
  (127, .iadd, 128, []),
  (128, .iaload, 129, []),
  (129, .iastore, 130, []),
  (130, .aload_n 0, 131, []),
  (131, .getfield 7, 134, [12, 0]),
  (134, .iconst 4, 135, []),
  (135, .aload_n 0, 136, []),
  (136, .getfield 7, 139, [12, 0]),
  (139, .iload_n 1, 140, []),
  (140, .bipush 14, 142, []),
  (142, .iadd, 143, []),
  (143, .iaload, 144, []),
  (144, .iastore, 145, []),
  (145, .iconst 0, 146, []),
  (146, .istore_n 2, 147, []),
  (147, .iload_n 2, 148, []),
  (148, .bipush 36, 150, []),
  (150, .if_icmp .ge 29, 153, [179]),
  (153, .aload_n 0, 154, []),
  (154, .getfield 7, 157, [12, 0]),
  (157, .bipush 61, 159, []),
  (159, .iload_n 2, 160, []),
  (160, .iadd, 161, []),
  (161, .aload_n 0, 162, []),
  (162, .getfield 7, 165, [12, 0]),
  (165, .iload_n 1, 166, []),
  (166, .bipush 15, 168, []),
  (168, .iadd, 169, []),
  (169, .iload_n 2, 170, []),
  (170, .iadd, 171, []),
  (171, .iaload, 172, []),
  (172, .iastore, 173, []),
  (173, .iinc 2 1, 176, []),
  (176, .goto (-29), 179, [147]),
  (179, .aload_n 0, 180, []),
  (180, .getfield 7, 183, [12, 0]),
  (183, .iconst 3, 184, []),
  (184, .iaload, 185, []),
  (185, .ireturn, 186, [])]
def xm_X12_undo : xM := ((yX12_undo, cX12_undo, 3, (some .int)), xc_X12_undo)
abbrev n_X12_undo : Nat := 164
def xc_X12_of : List xI := [
  (0, .aload_n 0, 1, []),
  (1, .iload_n 1, 2, []),
  (2, .invokevirtual 112, 5, [1, 12, 137]),
  (5, .ifCond .eq 15, 8, [20]),
  (8, .iload_n 2, 9, []),
  (9, .i2l, 10, []),
  (10, .lconst 0, 11, []),
  (11, .ldc2_w 167, 14, [7]),
  (14, .invokestatic 64, 17, [3, 130]),
  (17, .ifCond .ne 10, 20, [27]),
  (20, .aload_n 0, 21, []),
  (21, .bipush (-10), 23, []),
  (23, .invokevirtual 89, 26, [1, 12, 131]),
  (26, .ireturn, 27, []),
  (27, .iload_n 2, 28, []),
  (28, .tableswitch 74 4 7 #[32, 44, 60, 67], 60, [102, 60, 72, 88, 95]),
  (60, .aload_n 0, 61, []),
  (61, .iload_n 1, 62, []),
  (62, .aload_n 0, 63, []),
  (63, .getfield 7, 66, [12, 0]),
  (66, .iconst 2, 67, []),
  (67, .iaload, 68, []),
  (68, .invokevirtual 142, 71, [2, 12, 154]),
  (71, .ireturn, 72, []),
  (72, .aload_n 0, 73, []),
  (73, .iload_n 1, 74, []),
  (74, .iconst 0, 75, []),
  (75, .invokevirtual 117, 78, [2, 12, 141]),
  (78, .aload_n 0, 79, []),
  (79, .iload_n 1, 80, []),
  (80, .iconst 2, 81, []),
  (81, .invokevirtual 117, 84, [2, 12, 141]),
  (84, .invokestatic 128, 87, [2, 153]),
  (87, .ireturn, 88, []),
  (88, .aload_n 0, 89, []),
  (89, .iload_n 1, 90, []),
  (90, .iconst 4, 91, []),
  (91, .invokevirtual 117, 94, [2, 12, 141]),
  (94, .ireturn, 95, []),
  (95, .aload_n 0, 96, []),
  (96, .iload_n 1, 97, []),
  (97, .iconst 5, 98, []),
  (98, .invokevirtual 117, 101, [2, 12, 141]),
  (101, .ireturn, 102, []),
  (102, .aload_n 0, 103, []),
  (103, .iload_n 1, 104, []),
  (104, .iload_n 2, 105, []),
  (105, .invokevirtual 117, 108, [2, 12, 141]),
  (108, .ireturn, 109, [])]
def xm_X12_of : xM := ((yX12_of, cX12_of, 3, (some .int)), xc_X12_of)
abbrev n_X12_of : Nat := 165
def xc_X12_about : List xI := [
  (0, .aload_n 0, 1, []),
  (1, .iload_n 1, 2, []),
  (2, .invokevirtual 148, 5, [1, 12, 138]),
  (5, .ifCond .eq 15, 8, [20]),
  (8, .iload_n 2, 9, []),
  (9, .i2l, 10, []),
  (10, .lconst 0, 11, []),
  (11, .ldc2_w 169, 14, [3]),
  (14, .invokestatic 64, 17, [3, 130]),
  (17, .ifCond .ne 10, 20, [27]),
  (20, .aload_n 0, 21, []),
  (21, .bipush (-10), 23, []),
  (23, .invokevirtual 89, 26, [1, 12, 131]),
  (26, .ireturn, 27, []),
  (27, .iload_n 2, 28, []),
  (28, .iconst 3, 29, []),
  (29, .if_icmp .ne 11, 32, [40]),
  (32, .aload_n 0, 33, []),
  (33, .iload_n 1, 34, []),
  (34, .invokevirtual 154, 37, [1, 12, 160]),
  (37, .goto 9, 40, [46]),
  (40, .aload_n 0, 41, []),
  (41, .iload_n 1, 42, []),
  (42, .iload_n 2, 43, []),
  (43, .invokevirtual 135, 46, [2, 12, 142]),
  (46, .ireturn, 47, [])]
def xm_X12_about : xM := ((yX12_about, cX12_about, 3, (some .int)), xc_X12_about)
abbrev n_X12_about : Nat := 166
def xc_X12_shows : List xI := [
  (0, .aload_n 0, 1, []),
  (1, .iload_n 1, 2, []),
  (2, .invokevirtual 112, 5, [1, 12, 137]),
  (5, .ifCond .eq 19, 8, [24]),
  (8, .iload_n 2, 9, []),
  (9, .invokestatic 171, 12, [1, 139]),
  (12, .ifCond .eq 12, 15, [24]),
  (15, .aload_n 0, 16, []),
  (16, .iload_n 1, 17, []),
  (17, .iload_n 2, 18, []),
  (18, .invokevirtual 142, 21, [2, 12, 154]),
  (21, .goto 9, 24, [30]),
  (24, .aload_n 0, 25, []),
  (25, .bipush (-2), 27, []),
  (27, .invokevirtual 89, 30, [1, 12, 131]),
  (30, .ireturn, 31, [])]
def xm_X12_shows : xM := ((yX12_shows, cX12_shows, 3, (some .int)), xc_X12_shows)
abbrev n_X12_shows : Nat := 167
def xc_X12_suits : List xI := [
  (0, .aload_n 0, 1, []),
  (1, .iload_n 1, 2, []),
  (2, .invokevirtual 112, 5, [1, 12, 137]),
  (5, .ifCond .eq 18, 8, [23]),
  (8, .aload_n 0, 9, []),
  (9, .iload_n 2, 10, []),
  (10, .invokevirtual 148, 13, [1, 12, 138]),
  (13, .ifCond .eq 10, 16, [23]),
  (16, .iload_n 3, 17, []),
  (17, .invokestatic 171, 20, [1, 139]),
  (20, .ifCond .ne 10, 23, [30]),
  (23, .aload_n 0, 24, []),
  (24, .bipush (-2), 26, []),
  (26, .invokevirtual 89, 29, [1, 12, 131]),
  (29, .ireturn, 30, []),
  (30, .aload_n 0, 31, []),
  (31, .invokevirtual 151, 34, [0, 12, 156]),
  (34, .aload_n 0, 35, []),
  (35, .iload_n 1, 36, []),
  (36, .iload_n 2, 37, []),
  (37, .iload_n 3, 38, []),
  (38, .invokevirtual 145, 41, [3, 12, 157]),
  (41, .ifCond .eq 7, 44, [48]),
  (44, .iconst 1, 45, []),
  (45, .goto 4, 48, [49]),
  (48, .iconst 0, 49, []),
  (49, .ireturn, 50, [])]
def xm_X12_suits : xM := ((yX12_suits, cX12_suits, 4, (some .int)), xc_X12_suits)
abbrev n_X12_suits : Nat := 168
def xc_X12_judgeRow : List xI := [
  (0, .iconst 0, 1, []),
  (1, .istore_n 1, 2, []),
  (2, .iconst 0, 3, []),
  (3, .istore_n 2, 4, []),
  (4, .iconst 0, 5, []),
  (5, .istore_n 3, 6, []),
  (6, .iload_n 3, 7, []),
  (7, .aload_n 0, 8, []),
  (8, .getfield 131, 11, [12, 7]),
  (11, .if_icmp .ge 55, 14, [66]),
  (14, .iload_n 1, 15, []),
  (15, .aload_n 0, 16, []),
  (16, .getfield 42, 19, [12, 12]),
  (19, .iload_n 3, 20, []),
  (20, .iaload, 21, []),
  (21, .iconst (-1), 22, []),
  (22, .if_icmp .ne 7, 25, [29]),
  (25, .iconst 0, 26, []),
  (26, .goto 4, 29, [30]),
  (29, .iconst 1, 30, []),
  (30, .iadd, 31, []),
  (31, .istore_n 1, 32, []),
  (32, .iload_n 2, 33, []),
  (33, .aload_n 0, 34, []),
  (34, .getfield 42, 37, [12, 12]),
  (37, .iload_n 3, 38, []),
  (38, .iaload, 39, []),
  (39, .iconst (-1), 40, []),
  (40, .if_icmp .ne 7, 43, [47]),
  (43, .iconst 0, 44, []),
  (44, .goto 14, 47, [58]),
  (47, .aload_n 0, 48, []),
  (48, .getfield 27, 51, [12, 6]),
  (51, .aload_n 0, 52, []),
  (52, .getfield 42, 55, [12, 12]),
  (55, .iload_n 3, 56, []),
  (56, .iaload, 57, []),
  (57, .iaload, 58, []),
  (58, .iadd, 59, []),
  (59, .istore_n 2, 60, []),
  (60, .iinc 3 1, 63, []),
  (63, .goto (-57), 66, [6]),
  (66, .iload_n 1, 67, []),
  (67, .aload_n 0, 68, []),
  (68, .getfield 174, 71, [12, 14]),
  (71, .if_icmp .gt 19, 74, [90]),
  (74, .iload_n 1, 75, []),
  (75, .aload_n 0, 76, []),
  (76, .getfield 174, 79, [12, 14]),
  (79, .if_icmp .ne 49, 82, [128]),
  (82, .iload_n 2, 83, []),
  (83, .aload_n 0, 84, []),
  (84, .getfield 177, 87, [12, 15]),
  (87, .if_icmp .le 41, 90, [128]),
  (90, .aload_n 0, 91, []),
  (91, .iload_n 1, 92, []),
  (92, .putfield 174, 95, [12, 14]),
  (95, .aload_n 0, 96, []),
  (96, .iload_n 2, 97, []),
  (97, .putfield 177, 100, [12, 15]),
  (100, .iconst 0, 101, []),
  (101, .istore_n 3, 102, []),
  (102, .iload_n 3, 103, []),
  (103, .aload_n 0, 104, []),
  (104, .getfield 131, 107, [12, 7]),
  (107, .if_icmp .ge 21, 110, [128]),
  (110, .aload_n 0, 111, []),
  (111, .getfield 45, 114, [12, 13]),
  (114, .iload_n 3, 115, []),
  (115, .aload_n 0, 116, []),
  (116, .getfield 42, 119, [12, 12]),
  (119, .iload_n 3, 120, []),
  (120, .iaload, 121, []),
  (121, .iastore, 122, []),
  (122, .iinc 3 1, 125, []),
  (125, .goto (-23), 128, [102]),
  (128, .return_, 129, [])]
def xm_X12_judgeRow : xM := ((yX12_judgeRow, cX12_judgeRow, 4, none), xc_X12_judgeRow)
abbrev n_X12_judgeRow : Nat := 169
def xc_X12_freeBut : List xI := [
  (0, .iconst 1, 1, []),
  (1, .aload_n 0, 2, []),
  (2, .invokevirtual 60, 5, [0, 12, 135]),
  (5, .ishl, 6, []),
  (6, .iconst 1, 7, []),
  (7, .isub, 8, []),
  (8, .istore_n 2, 9, []),
  (9, .iconst 0, 10, []),
  (10, .istore_n 3, 11, []),
  (11, .iload_n 3, 12, []),
  (12, .iload_n 1, 13, []),
  (13, .if_icmp .ge 36, 16, [49]),
  (16, .iload_n 2, 17, []),
  (17, .aload_n 0, 18, []),
  (18, .getfield 42, 21, [12, 12]),
  (21, .iload_n 3, 22, []),
  (22, .iaload, 23, []),
  (23, .iconst (-1), 24, []),
  (24, .if_icmp .ne 7, 27, [31]),
  (27, .iconst (-1), 28, []),
  (28, .goto 13, 31, [41]),
  (31, .iconst 1, 32, []),
  (32, .aload_n 0, 33, []),
  (33, .getfield 42, 36, [12, 12]),
  (36, .iload_n 3, 37, []),
  (37, .iaload, 38, []),
  (38, .ishl, 39, []),
  (39, .iconst (-1), 40, []),
  (40, .ixor, 41, []),
  (41, .iand, 42, []),
  (42, .istore_n 2, 43, []),
  (43, .iinc 3 1, 46, []),
  (46, .goto (-35), 49, [11]),
  (49, .iload_n 2, 50, []),
  (50, .ireturn, 51, [])]
def xm_X12_freeBut : xM := ((yX12_freeBut, cX12_freeBut, 4, (some .int)), xc_X12_freeBut)
abbrev n_X12_freeBut : Nat := 170
def xc_X12_nextView : List xI := [
  (0, .iload_n 1, 1, []),
  (1, .iconst 1, 2, []),
  (2, .iadd, 3, []),
  (3, .istore_n 3, 4, []),
  (4, .iload_n 3, 5, []),
  (5, .aload_n 0, 6, []),
  (6, .invokevirtual 60, 9, [0, 12, 135]),
  (9, .if_icmp .ge 17, 12, [26]),
  (12, .iload_n 2, 13, []),
  (13, .iload_n 3, 14, []),
  (14, .ishr, 15, []),
  (15, .iconst 1, 16, []),
  (16, .iand, 17, []),
  (17, .ifCond .ne 9, 20, [26]),
  (20, .iinc 3 1, 23, []),
  (23, .goto (-19), 26, [4]),
  (26, .iload_n 3, 27, []),
  (27, .ireturn, 28, [])]
def xm_X12_nextView : xM := ((yX12_nextView, cX12_nextView, 4, (some .int)), xc_X12_nextView)
abbrev n_X12_nextView : Nat := 171
def xc_X12_layBest : List xI := [
  (0, .aload_n 0, 1, []),
  (1, .iload_n 1, 2, []),
  (2, .invokevirtual 180, 5, [1, 12, 158]),
  (5, .aload_n 0, 6, []),
  (6, .iconst (-1), 7, []),
  (7, .putfield 174, 10, [12, 14]),
  (10, .aload_n 0, 11, []),
  (11, .iconst 0, 12, []),
  (12, .putfield 177, 15, [12, 15]),
  (15, .iconst 0, 16, []),
  (16, .istore_n 2, 17, []),
  (17, .aload_n 0, 18, []),
  (18, .getfield 42, 21, [12, 12]),
  (21, .iconst 0, 22, []),
  (22, .bipush (-2), 24, []),
  (24, .iastore, 25, []),
  (25, .iload_n 2, 26, []),
  (26, .ifCond .lt 106, 29, [132]),
  (29, .iload_n 2, 30, []),
  (30, .aload_n 0, 31, []),
  (31, .getfield 131, 34, [12, 7]),
  (34, .if_icmp .ne 13, 37, [47]),
  (37, .aload_n 0, 38, []),
  (38, .invokevirtual 184, 41, [0, 12, 169]),
  (41, .iinc 2 (-1), 44, []),
  (44, .goto (-19), 47, [25]),
  (47, .aload_n 0, 48, []),
  (48, .getfield 42, 51, [12, 12]),
  (51, .iload_n 2, 52, []),
  (52, .iaload, 53, []),
  (53, .iconst (-1), 54, []),
  (54, .if_icmp .ge 7, 57, [61]),
  (57, .iconst (-1), 58, []),
  (58, .goto 25, 61, [83]),
  (61, .aload_n 0, 62, []),
  (62, .aload_n 0, 63, []),
  (63, .getfield 42, 66, [12, 12]),
  (66, .iload_n 2, 67, []),
  (67, .iaload, 68, []),
  (68, .aload_n 0, 69, []),
  (69, .getfield 39, 72, [12, 11]),
  (72, .iload_n 2, 73, []),
  (73, .iaload, 74, []),
  (74, .aload_n 0, 75, []),
  (75, .iload_n 2, 76, []),
  (76, .invokevirtual 187, 79, [1, 12, 170]),
  (79, .iand, 80, []),
  (80, .invokevirtual 190, 83, [2, 12, 171]),
  (83, .istore_n 3, 84, []),
  (84, .aload_n 0, 85, []),
  (85, .getfield 42, 88, [12, 12]),
  (88, .iload_n 2, 89, []),
  (89, .iload_n 3, 90, []),
  (90, .iastore, 91, []),
  (91, .iload_n 3, 92, []),
  (92, .aload_n 0, 93, []),
  (93, .invokevirtual 60, 96, [0, 12, 135]),
  (96, .if_icmp .ne 14, 99, [110]),
  (99, .iload_n 3, 100, []),
  (100, .iconst (-1), 101, []),
  (101, .if_icmp .eq 9, 104, [110]),
  (104, .iinc 2 (-1), 107, []),
  (107, .goto 22, 110, [129]),
  (110, .iinc 2 1, 113, []),
  (113, .iload_n 2, 114, []),
  (114, .aload_n 0, 115, []),
  (115, .getfield 131, 118, [12, 7]),
  (118, .if_icmp .ge 11, 121, [129]),
  (121, .aload_n 0, 122, []),
  (122, .getfield 42, 125, [12, 12]),
  (125, .iload_n 2, 126, []),
  (126, .bipush (-2), 128, []),
  (128, .iastore, 129, []),
  (129, .goto (-104), 132, [25]),
  (132, .return_, 133, [])]
def xm_X12_layBest : xM := ((yX12_layBest, cX12_layBest, 4, none), xc_X12_layBest)
abbrev n_X12_layBest : Nat := 172
def xc_X12_best : List xI := [
  (0, .iload_n 1, 1, []),
  (1, .invokestatic 171, 4, [1, 139]),
  (4, .ifCond .eq 21, 7, [25]),
  (7, .iload_n 2, 8, []),
  (8, .i2l, 9, []),
  (9, .ldc2_w 193, 12, [18446744073709551615]),
  (12, .aload_n 0, 13, []),
  (13, .invokevirtual 68, 16, [0, 12, 136]),
  (16, .iconst 1, 17, []),
  (17, .isub, 18, []),
  (18, .i2l, 19, []),
  (19, .invokestatic 64, 22, [3, 130]),
  (22, .ifCond .ne 10, 25, [32]),
  (25, .aload_n 0, 26, []),
  (26, .bipush (-10), 28, []),
  (28, .invokevirtual 89, 31, [1, 12, 131]),
  (31, .ireturn, 32, []),
  (32, .aload_n 0, 33, []),
  (33, .invokevirtual 151, 36, [0, 12, 156]),
  (36, .aload_n 0, 37, []),
  (37, .iload_n 1, 38, []),
  (38, .invokevirtual 195, 41, [1, 12, 172]),
  (41, .iload_n 2, 42, []),
  (42, .iconst (-1), 43, []),
  (43, .if_icmp .ne 10, 46, [53]),
  (46, .aload_n 0, 47, []),
  (47, .getfield 174, 50, [12, 14]),
  (50, .goto 9, 53, [59]),
  (53, .aload_n 0, 54, []),
  (54, .getfield 45, 57, [12, 13]),
  (57, .iload_n 2, 58, []),
  (58, .iaload, 59, []),
  (59, .ireturn, 60, [])]
def xm_X12_best : xM := ((yX12_best, cX12_best, 3, (some .int)), xc_X12_best)
abbrev n_X12_best : Nat := 173
def xc_X12_money : List xI := [
  (0, .iload_n 1, 1, []),
  (1, .invokestatic 171, 4, [1, 139]),
  (4, .ifCond .ne 10, 7, [14]),
  (7, .aload_n 0, 8, []),
  (8, .bipush (-2), 10, []),
  (10, .invokevirtual 89, 13, [1, 12, 131]),
  (13, .ireturn, 14, []),
  (14, .aload_n 0, 15, []),
  (15, .invokevirtual 151, 18, [0, 12, 156]),
  (18, .aload_n 0, 19, []),
  (19, .iload_n 1, 20, []),
  (20, .invokevirtual 195, 23, [1, 12, 172]),
  (23, .aload_n 0, 24, []),
  (24, .getfield 177, 27, [12, 15]),
  (27, .ireturn, 28, [])]
def xm_X12_money : xM := ((yX12_money, cX12_money, 2, (some .int)), xc_X12_money)
abbrev n_X12_money : Nat := 174
def xc_X12_layCome : List xI := [
  (0, .iconst 1, 1, []),
  (1, .aload_n 0, 2, []),
  (2, .invokevirtual 60, 5, [0, 12, 135]),
  (5, .ishl, 6, []),
  (6, .iconst 1, 7, []),
  (7, .isub, 8, []),
  (8, .istore_n 3, 9, []),
  (9, .aload_n 0, 10, []),
  (10, .iload_n 1, 11, []),
  (11, .invokevirtual 180, 14, [1, 12, 158]),
  (14, .aload_n 0, 15, []),
  (15, .iconst 0, 16, []),
  (16, .putfield 198, 19, [12, 16]),
  (19, .aload_n 0, 20, []),
  (20, .iconst 0, 21, []),
  (21, .putfield 201, 24, [12, 17]),
  (24, .iconst 0, 25, []),
  (25, .istore 4, 27, []),
  (27, .iload 4, 29, []),
  (29, .aload_n 0, 30, []),
  (30, .getfield 131, 33, [12, 7]),
  (33, .if_icmp .ge 142, 36, [175]),
  (36, .iconst (-1), 37, []),
  (37, .istore 5, 39, []),
  (39, .iconst 0, 40, []),
  (40, .istore 6, 42, []),
  (42, .iload 6, 44, []),
  (44, .aload_n 0, 45, []),
  (45, .invokevirtual 60, 48, [0, 12, 135]),
  (48, .if_icmp .ge 80, 51, [128]),
  (51, .iload_n 2, 52, []),
  (52, .iload 4, 54, []),
  (54, .ishr, 55, []),
  (55, .iconst 1, 56, []),
  (56, .iand, 57, []),
  (57, .iconst 1, 58, []),
  (58, .if_icmp .ne 70, 61, [128]),
  (61, .iload_n 3, 62, []),
  (62, .aload_n 0, 63, []),
  (63, .getfield 39, 66, [12, 11]),
  (66, .iload 4, 68, []),
  (68, .iaload, 69, []),
  (69, .iand, 70, []),
  (70, .iconst 1, 71, []),
  (71, .iload 6, 73, []),
  (73, .ishl, 74, []),
  (74, .iand, 75, []),
  (75, .ifCond .eq 7, 78, [82]),
  (78, .iconst 1, 79, []),
  (79, .goto 4, 82, [83]),
  (82, .iconst 0, 83, []),
  (83, .istore 7, 85, []),
  (85, .iload 7, 87, []),
  (87, .ifCond .eq 31, 90, [118]),
  (90, .iload 5, 92, []),
  (92, .iconst (-1), 93, []),
  (93, .if_icmp .eq 20, 96, [113]),
  (96, .aload_n 0, 97, []),
  (97, .getfield 27, 100, [12, 6]),
  (100, .iload 6, 102, []),
  (102, .iaload, 103, []),
  (103, .aload_n 0, 104, []),
  (104, .getfield 27, 107, [12, 6]),
  (107, .iload 5, 109, []),
  (109, .iaload, 110, []),
  (110, .if_icmp .le 8, 113, [118]),
  (113, .iload 6, 115, []),
  (115, .goto 5, 118, [120]),
  (118, .iload 5, 120, []),
  (120, .istore 5, 122, []),
  (122, .iinc 6 1, 125, []),
  (125, .goto (-83), 128, [42]),
  (128, .iload 5, 130, []),
  (130, .iconst (-1), 131, []),
  (131, .if_icmp .eq 38, 134, [169]),
  (134, .iload_n 3, 135, []),
  (135, .iconst 1, 136, []),
  (136, .iload 5, 138, []),
  (138, .ishl, 139, []),
  (139, .iconst (-1), 140, []),
  (140, .ixor, 141, []),
  (141, .iand, 142, []),
  (142, .istore_n 3, 143, []),
  (143, .aload_n 0, 144, []),
  (144, .dup, 145, []),
  (145, .getfield 198, 148, [12, 16]),
  (148, .iconst 1, 149, []),
  (149, .iadd, 150, []),
  (150, .putfield 198, 153, [12, 16]),
  (153, .aload_n 0, 154, []),
  (154, .dup, 155, []),
  (155, .getfield 201, 158, [12, 17]),
  (158, .aload_n 0, 159, []),
  (159, .getfield 27, 162, [12, 6]),
  (162, .iload 5, 164, []),
  (164, .iaload, 165, []),
  (165, .iadd, 166, []),
  (166, .putfield 201, 169, [12, 17]),
  (169, .iinc 4 1, 172, []),
  (172, .goto (-145), 175, [27]),
  (175, .return_, 176, [])]
def xm_X12_layCome : xM := ((yX12_layCome, cX12_layCome, 8, none), xc_X12_layCome)
abbrev n_X12_layCome : Nat := 175
def xc_X12_allRenters : List xI := [
  (0, .iconst 1, 1, []),
  (1, .aload_n 0, 2, []),
  (2, .invokevirtual 68, 5, [0, 12, 136]),
  (5, .ishl, 6, []),
  (6, .iconst 1, 7, []),
  (7, .isub, 8, []),
  (8, .ireturn, 9, [])]
def xm_X12_allRenters : xM := ((yX12_allRenters, cX12_allRenters, 1, (some .int)), xc_X12_allRenters)
abbrev n_X12_allRenters : Nat := 176
def xc_X12_come : List xI := [
  (0, .iload_n 1, 1, []),
  (1, .invokestatic 171, 4, [1, 139]),
  (4, .ifCond .eq 15, 7, [19]),
  (7, .iload_n 2, 8, []),
  (8, .i2l, 9, []),
  (9, .lconst 0, 10, []),
  (10, .ldc2_w 204, 13, [2]),
  (13, .invokestatic 64, 16, [3, 130]),
  (16, .ifCond .ne 10, 19, [26]),
  (19, .aload_n 0, 20, []),
  (20, .bipush (-2), 22, []),
  (22, .invokevirtual 89, 25, [1, 12, 131]),
  (25, .ireturn, 26, []),
  (26, .aload_n 0, 27, []),
  (27, .invokevirtual 151, 30, [0, 12, 156]),
  (30, .aload_n 0, 31, []),
  (31, .iload_n 1, 32, []),
  (32, .aload_n 0, 33, []),
  (33, .invokevirtual 206, 36, [0, 12, 176]),
  (36, .invokevirtual 209, 39, [2, 12, 175]),
  (39, .iload_n 2, 40, []),
  (40, .iconst 2, 41, []),
  (41, .if_icmp .ge 19, 44, [60]),
  (44, .iload_n 2, 45, []),
  (45, .ifCond .ne 10, 48, [55]),
  (48, .aload_n 0, 49, []),
  (49, .getfield 198, 52, [12, 16]),
  (52, .goto 7, 55, [59]),
  (55, .aload_n 0, 56, []),
  (56, .getfield 201, 59, [12, 17]),
  (59, .ireturn, 60, []),
  (60, .aload_n 0, 61, []),
  (61, .iload_n 1, 62, []),
  (62, .invokevirtual 195, 65, [1, 12, 172]),
  (65, .aload_n 0, 66, []),
  (66, .getfield 174, 69, [12, 14]),
  (69, .aload_n 0, 70, []),
  (70, .getfield 198, 73, [12, 16]),
  (73, .isub, 74, []),
  (74, .ireturn, 75, [])]
def xm_X12_come : xM := ((yX12_come, cX12_come, 3, (some .int)), xc_X12_come)
abbrev n_X12_come : Nat := 177
def xc_X12_more : List xI := [
  (0, .iload_n 1, 1, []),
  (1, .invokestatic 171, 4, [1, 139]),
  (4, .ifCond .eq 13, 7, [17]),
  (7, .iload_n 2, 8, []),
  (8, .iload_n 3, 9, []),
  (9, .iload 4, 11, []),
  (11, .invokestatic 104, 14, [3, 147]),
  (14, .ifCond .ne 10, 17, [24]),
  (17, .aload_n 0, 18, []),
  (18, .bipush (-2), 20, []),
  (20, .invokevirtual 89, 23, [1, 12, 131]),
  (23, .ireturn, 24, []),
  (24, .aload_n 0, 25, []),
  (25, .invokevirtual 68, 28, [0, 12, 136]),
  (28, .bipush 6, 30, []),
  (30, .if_icmp .ne 8, 33, [38]),
  (33, .aload_n 0, 34, []),
  (34, .invokevirtual 157, 37, [0, 12, 132]),
  (37, .ireturn, 38, []),
  (38, .aload_n 0, 39, []),
  (39, .invokevirtual 151, 42, [0, 12, 156]),
  (42, .aload_n 0, 43, []),
  (43, .iload_n 1, 44, []),
  (44, .invokevirtual 195, 47, [1, 12, 172]),
  (47, .aload_n 0, 48, []),
  (48, .getfield 174, 51, [12, 14]),
  (51, .istore 5, 53, []),
  (53, .aload_n 0, 54, []),
  (54, .getfield 30, 57, [12, 8]),
  (57, .aload_n 0, 58, []),
  (58, .getfield 131, 61, [12, 7]),
  (61, .iload_n 2, 62, []),
  (62, .iastore, 63, []),
  (63, .aload_n 0, 64, []),
  (64, .getfield 33, 67, [12, 9]),
  (67, .aload_n 0, 68, []),
  (68, .getfield 131, 71, [12, 7]),
  (71, .iload_n 3, 72, []),
  (72, .iastore, 73, []),
  (73, .aload_n 0, 74, []),
  (74, .getfield 36, 77, [12, 10]),
  (77, .aload_n 0, 78, []),
  (78, .getfield 131, 81, [12, 7]),
  (81, .iload 4, 83, []),
  (83, .iastore, 84, []),
  (84, .aload_n 0, 85, []),
  (85, .dup, 86, []),
  (86, .getfield 131, 89, [12, 7]),
  (89, .iconst 1, 90, []),
  (90, .iadd, 91, []),
  (91, .putfield 131, 94, [12, 7]),
  (94, .aload_n 0, 95, []),
  (95, .iload_n 1, 96, []),
  (96, .invokevirtual 195, 99, [1, 12, 172]),
  (99, .aload_n 0, 100, []),
  (100, .getfield 174, 103, [12, 14]),
  (103, .iload 5, 105, []),
  (105, .isub, 106, []),
  (106, .ireturn, 107, [])]
def xm_X12_more : xM := ((yX12_more, cX12_more, 6, (some .int)), xc_X12_more)
abbrev n_X12_more : Nat := 178
def xc_X12_changed : List xI := [
  (0, .iload_n 1, 1, []),
  (1, .invokestatic 171, 4, [1, 139]),
  (4, .ifCond .eq 11, 7, [15]),
  (7, .aload_n 0, 8, []),
  (8, .iload_n 2, 9, []),
  (9, .invokevirtual 112, 12, [1, 12, 137]),
  (12, .ifCond .ne 10, 15, [22]),
  (15, .aload_n 0, 16, []),
  (16, .bipush (-2), 18, []),
  (18, .invokevirtual 89, 21, [1, 12, 131]),
  (21, .ireturn, 22, []),
  (22, .iconst 0, 23, []),
  (23, .istore_n 3, 24, []),
  (24, .iconst (-1), 25, []),
  (25, .istore 4, 27, []),
  (27, .aload_n 0, 28, []),
  (28, .invokevirtual 151, 31, [0, 12, 156]),
  (31, .iconst 0, 32, []),
  (32, .istore 5, 34, []),
  (34, .iload 5, 36, []),
  (36, .bipush 100, 38, []),
  (38, .if_icmp .ge 67, 41, [105]),
  (41, .aload_n 0, 42, []),
  (42, .getfield 27, 45, [12, 6]),
  (45, .iload_n 2, 46, []),
  (46, .aload_n 0, 47, []),
  (47, .iload_n 2, 48, []),
  (48, .iconst 0, 49, []),
  (49, .invokevirtual 117, 52, [2, 12, 141]),
  (52, .iload 5, 54, []),
  (54, .invokestatic 128, 57, [2, 153]),
  (57, .iastore, 58, []),
  (58, .aload_n 0, 59, []),
  (59, .iload_n 1, 60, []),
  (60, .invokevirtual 195, 63, [1, 12, 172]),
  (63, .aload_n 0, 64, []),
  (64, .getfield 177, 67, [12, 15]),
  (67, .iload 4, 69, []),
  (69, .if_icmp .le 8, 72, [77]),
  (72, .iload 5, 74, []),
  (74, .goto 4, 77, [78]),
  (77, .iload_n 3, 78, []),
  (78, .istore_n 3, 79, []),
  (79, .aload_n 0, 80, []),
  (80, .getfield 177, 83, [12, 15]),
  (83, .iload 4, 85, []),
  (85, .if_icmp .le 10, 88, [95]),
  (88, .aload_n 0, 89, []),
  (89, .getfield 177, 92, [12, 15]),
  (92, .goto 5, 95, [97]),
  (95, .iload 4, 97, []),
  (97, .istore 4, 99, []),
  (99, .iinc 5 1, 102, []),
  (102, .goto (-68), 105, [34]),
  (105, .iload_n 3, 106, []),
  (106, .ireturn, 107, [])]
def xm_X12_changed : xM := ((yX12_changed, cX12_changed, 6, (some .int)), xc_X12_changed)
abbrev n_X12_changed : Nat := 179
def xc_X12_areOpposite : List xI := [
  (0, .aload_n 0, 1, []),
  (1, .iload_n 1, 2, []),
  (2, .invokevirtual 148, 5, [1, 12, 138]),
  (5, .ifCond .eq 17, 8, [22]),
  (8, .aload_n 0, 9, []),
  (9, .iload_n 1, 10, []),
  (10, .iconst 1, 11, []),
  (11, .ixor, 12, []),
  (12, .invokevirtual 148, 15, [1, 12, 138]),
  (15, .ifCond .eq 7, 18, [22]),
  (18, .iconst 1, 19, []),
  (19, .goto 4, 22, [23]),
  (22, .iconst 0, 23, []),
  (23, .ireturn, 24, [])]
def xm_X12_areOpposite : xM := ((yX12_areOpposite, cX12_areOpposite, 2, (some .boolean)), xc_X12_areOpposite)
abbrev n_X12_areOpposite : Nat := 180
def xc_X12_air : List xI := [
  (0, .aload_n 0, 1, []),
  (1, .iload_n 1, 2, []),
  (2, .invokevirtual 212, 5, [1, 12, 180]),
  (5, .ifCond .ne 10, 8, [15]),
  (8, .aload_n 0, 9, []),
  (9, .bipush (-2), 11, []),
  (11, .invokevirtual 89, 14, [1, 12, 131]),
  (14, .ireturn, 15, []),
  (15, .aload_n 0, 16, []),
  (16, .iload_n 1, 17, []),
  (17, .invokevirtual 154, 20, [1, 12, 160]),
  (20, .istore_n 2, 21, []),
  (21, .aload_n 0, 22, []),
  (22, .iload_n 1, 23, []),
  (23, .iconst 1, 24, []),
  (24, .ixor, 25, []),
  (25, .invokevirtual 154, 28, [1, 12, 160]),
  (28, .istore_n 3, 29, []),
  (29, .iload_n 2, 30, []),
  (30, .iconst (-1), 31, []),
  (31, .if_icmp .eq 8, 34, [39]),
  (34, .iload_n 3, 35, []),
  (35, .iconst (-1), 36, []),
  (36, .if_icmp .ne 7, 39, [43]),
  (39, .iconst (-1), 40, []),
  (40, .goto 29, 43, [69]),
  (43, .aload_n 0, 44, []),
  (44, .iload_n 2, 45, []),
  (45, .aload_n 0, 46, []),
  (46, .getfield 7, 49, [12, 0]),
  (49, .iconst 2, 50, []),
  (50, .iaload, 51, []),
  (51, .invokevirtual 142, 54, [2, 12, 154]),
  (54, .aload_n 0, 55, []),
  (55, .iload_n 3, 56, []),
  (56, .aload_n 0, 57, []),
  (57, .getfield 7, 60, [12, 0]),
  (60, .iconst 2, 61, []),
  (61, .iaload, 62, []),
  (62, .invokevirtual 142, 65, [2, 12, 154]),
  (65, .iadd, 66, []),
  (66, .bipush 6, 68, []),
  (68, .irem, 69, []),
  (69, .ireturn, 70, [])]
def xm_X12_air : xM := ((yX12_air, cX12_air, 4, (some .int)), xc_X12_air)
abbrev n_X12_air : Nat := 181
def xc_X12_bring : List xI := [
  (0, .aload_n 0, 1, []),
  (1, .iload_n 1, 2, []),
  (2, .invokevirtual 212, 5, [1, 12, 180]),
  (5, .ifCond .eq 27, 8, [32]),
  (8, .iload_n 1, 9, []),
  (9, .iconst 2, 10, []),
  (10, .irem, 11, []),
  (11, .iconst 1, 12, []),
  (12, .if_icmp .eq 20, 15, [32]),
  (15, .iload_n 2, 16, []),
  (16, .invokestatic 81, 19, [1, 140]),
  (19, .ifCond .eq 13, 22, [32]),
  (22, .iload_n 3, 23, []),
  (23, .i2l, 24, []),
  (24, .lconst 0, 25, []),
  (25, .lconst 1, 26, []),
  (26, .invokestatic 64, 29, [3, 130]),
  (29, .ifCond .ne 10, 32, [39]),
  (32, .aload_n 0, 33, []),
  (33, .bipush (-2), 35, []),
  (35, .invokevirtual 89, 38, [1, 12, 131]),
  (38, .ireturn, 39, []),
  (39, .iconst (-1), 40, []),
  (40, .istore 4, 42, []),
  (42, .ldc 215, 44, [0, 1000000]),
  (44, .istore 5, 46, []),
  (46, .aload_n 0, 47, []),
  (47, .invokevirtual 151, 50, [0, 12, 156]),
  (50, .iconst 0, 51, []),
  (51, .istore 6, 53, []),
  (53, .iload 6, 55, []),
  (55, .aload_n 0, 56, []),
  (56, .invokevirtual 60, 59, [0, 12, 135]),
  (59, .if_icmp .ge 166, 62, [225]),
  (62, .iconst 0, 63, []),
  (63, .istore 7, 65, []),
  (65, .iload 7, 67, []),
  (67, .aload_n 0, 68, []),
  (68, .invokevirtual 60, 71, [0, 12, 135]),
  (71, .if_icmp .ge 148, 74, [219]),
  (74, .iload 6, 76, []),
  (76, .iload 7, 78, []),
  (78, .if_icmp .eq 39, 81, [117]),
  (81, .aload_n 0, 82, []),
  (82, .iload 6, 84, []),
  (84, .aload_n 0, 85, []),
  (85, .getfield 30, 88, [12, 8]),
  (88, .iload_n 1, 89, []),
  (89, .iaload, 90, []),
  (90, .invokevirtual 138, 93, [2, 12, 155]),
  (93, .ifCond .eq 24, 96, [117]),
  (96, .aload_n 0, 97, []),
  (97, .iload 7, 99, []),
  (99, .aload_n 0, 100, []),
  (100, .getfield 30, 103, [12, 8]),
  (103, .iload_n 1, 104, []),
  (104, .iconst 1, 105, []),
  (105, .iadd, 106, []),
  (106, .iaload, 107, []),
  (107, .invokevirtual 138, 110, [2, 12, 155]),
  (110, .ifCond .eq 7, 113, [117]),
  (113, .iconst 1, 114, []),
  (114, .goto 4, 117, [118]),
  (117, .iconst 0, 118, []),
  (118, .istore 8, 120, []),
  (120, .iload 6, 122, []),
  (122, .aload_n 0, 123, []),
  (123, .iload_n 1, 124, []),
  (124, .invokevirtual 154, 127, [1, 12, 160]),
  (127, .if_icmp .ne 7, 130, [134]),
  (130, .iconst 0, 131, []),
  (131, .goto 4, 134, [135]),
  (134, .iconst 1, 135, []),
  (135, .iload 7, 137, []),
  (137, .aload_n 0, 138, []),
  (138, .iload_n 1, 139, []),
  (139, .iconst 1, 140, []),
  (140, .iadd, 141, []),
  (141, .invokevirtual 154, 144, [1, 12, 160]),
  (144, .if_icmp .ne 7, 147, [151]),
  (147, .iconst 0, 148, []),
  (148, .goto 4, 151, [152]),
  (151, .iconst 1, 152, []),
  (152, .iadd, 153, []),
  (153, .istore 9, 155, []),
  (155, .iload 8, 157, []),
  (157, .ifCond .eq 56, 160, [213]),
  (160, .iload 9, 162, []),
  (162, .iload 5, 164, []),
  (164, .if_icmp .ge 49, 167, [213]),
  (167, .aload_n 0, 168, []),
  (168, .iload 6, 170, []),
  (170, .aload_n 0, 171, []),
  (171, .getfield 7, 174, [12, 0]),
  (174, .iconst 2, 175, []),
  (175, .iaload, 176, []),
  (176, .invokevirtual 142, 179, [2, 12, 154]),
  (179, .aload_n 0, 180, []),
  (180, .iload 7, 182, []),
  (182, .aload_n 0, 183, []),
  (183, .getfield 7, 186, [12, 0]),
  (186, .iconst 2, 187, []),
  (187, .iaload, 188, []),
  (188, .invokevirtual 142, 191, [2, 12, 154]),
  (191, .iadd, 192, []),
  (192, .bipush 6, 194, []),
  (194, .irem, 195, []),
  (195, .iload_n 2, 196, []),
  (196, .if_icmp .ne 17, 199, [213]),
  (199, .bipush 10, 201, []),
  (201, .iload 6, 203, []),
  (203, .imul, 204, []),
  (204, .iload 7, 206, []),
  (206, .iadd, 207, []),
  (207, .istore 4, 209, []),
  (209, .iload 9, 211, []),
  (211, .istore 5, 213, []),
  (213, .iinc 7 1, 216, []),
  (216, .goto (-151), 219, [65]),
  (219, .iinc 6 1, 222, []),
  (222, .goto (-169), 225, [53]),
  (225, .iload 4, 227, []),
  (227, .iconst (-1), 228, []),
  (228, .if_icmp .ne 7, 231, [235]),
  (231, .iconst (-1), 232, []),
  (232, .goto 14, 235, [246]),
  (235, .iload_n 3, 236, []),
  (236, .ifCond .ne 8, 239, [244]),
  (239, .iload 5, 241, []),
  (241, .goto 5, 244, [246]),
  (244, .iload 4, 246, []),
  (246, .ireturn, 247, [])]
def xm_X12_bring : xM := ((yX12_bring, cX12_bring, 10, (some .int)), xc_X12_bring)
abbrev n_X12_bring : Nat := 182
def xc_X12_left : List xI := [
  (0, .aload_n 0, 1, []),
  (1, .iload_n 1, 2, []),
  (2, .invokevirtual 112, 5, [1, 12, 137]),
  (5, .ifCond .eq 38, 8, [43]),
  (8, .iload_n 2, 9, []),
  (9, .i2l, 10, []),
  (10, .lconst 0, 11, []),
  (11, .ldc2_w 167, 14, [7]),
  (14, .invokestatic 64, 17, [3, 130]),
  (17, .ifCond .eq 26, 20, [43]),
  (20, .aload_n 0, 21, []),
  (21, .iload_n 1, 22, []),
  (22, .iconst 5, 23, []),
  (23, .invokevirtual 117, 26, [2, 12, 141]),
  (26, .iload_n 2, 27, []),
  (27, .ishr, 28, []),
  (28, .iconst 1, 29, []),
  (29, .iand, 30, []),
  (30, .ifCond .eq 13, 33, [43]),
  (33, .iload_n 3, 34, []),
  (34, .i2l, 35, []),
  (35, .lconst 0, 36, []),
  (36, .lconst 1, 37, []),
  (37, .invokestatic 64, 40, [3, 130]),
  (40, .ifCond .ne 10, 43, [50]),
  (43, .aload_n 0, 44, []),
  (44, .bipush (-10), 46, []),
  (46, .invokevirtual 89, 49, [1, 12, 131]),
  (49, .ireturn, 50, []),
  (50, .iconst 0, 51, []),
  (51, .istore 4, 53, []),
  (53, .iconst (-1), 54, []),
  (54, .istore 5, 56, []),
  (56, .iconst 0, 57, []),
  (57, .istore 6, 59, []),
  (59, .iload 6, 61, []),
  (61, .aload_n 0, 62, []),
  (62, .getfield 7, 65, [12, 0]),
  (65, .iconst 4, 66, []),
  (66, .iaload, 67, []),
  (67, .if_icmp .ge 73, 70, [140]),
  (70, .aload_n 0, 71, []),
  (71, .getfield 7, 74, [12, 0]),
  (74, .bipush 61, 76, []),
  (76, .iconst 3, 77, []),
  (77, .iload 6, 79, []),
  (79, .imul, 80, []),
  (80, .iadd, 81, []),
  (81, .iaload, 82, []),
  (82, .iload_n 1, 83, []),
  (83, .if_icmp .ne 51, 86, [134]),
  (86, .iload 4, 88, []),
  (88, .iconst 1, 89, []),
  (89, .aload_n 0, 90, []),
  (90, .getfield 7, 93, [12, 0]),
  (93, .bipush 61, 95, []),
  (95, .iconst 3, 96, []),
  (96, .iload 6, 98, []),
  (98, .imul, 99, []),
  (99, .iadd, 100, []),
  (100, .iconst 1, 101, []),
  (101, .iadd, 102, []),
  (102, .iaload, 103, []),
  (103, .ishl, 104, []),
  (104, .ior, 105, []),
  (105, .istore 4, 107, []),
  (107, .iload 5, 109, []),
  (109, .iconst (-1), 110, []),
  (110, .if_icmp .ne 20, 113, [130]),
  (113, .aload_n 0, 114, []),
  (114, .getfield 7, 117, [12, 0]),
  (117, .bipush 61, 119, []),
  (119, .iconst 3, 120, []),
  (120, .iload 6, 122, []),
  (122, .imul, 123, []),
  (123, .iadd, 124, []),
  (124, .iconst 2, 125, []),
  (125, .iadd, 126, []),
  (126, .iaload, 127, []),
  (127, .goto 5, 130, [132]),
  (130, .iload 5, 132, []),
  (132, .istore 5, 134, []),
  (134, .iinc 6 1, 137, []),
  (137, .goto (-78), 140, [59]),
  (140, .iload_n 3, 141, []),
  (141, .ifCond .ne 8, 144, [149]),
  (144, .iload 4, 146, []),
  (146, .goto 5, 149, [151]),
  (149, .iload 5, 151, []),
  (151, .ireturn, 152, [])]
def xm_X12_left : xM := ((yX12_left, cX12_left, 7, (some .int)), xc_X12_left)
abbrev n_X12_left : Nat := 183
def xc_X12_reading : List xI := [
  (0, .aload_n 0, 1, []),
  (1, .iload_n 1, 2, []),
  (2, .invokevirtual 112, 5, [1, 12, 137]),
  (5, .ifCond .eq 17, 8, [22]),
  (8, .iload_n 2, 9, []),
  (9, .invokestatic 171, 12, [1, 139]),
  (12, .ifCond .eq 10, 15, [22]),
  (15, .iload_n 3, 16, []),
  (16, .invokestatic 81, 19, [1, 140]),
  (19, .ifCond .ne 10, 22, [29]),
  (22, .aload_n 0, 23, []),
  (23, .bipush (-2), 25, []),
  (25, .invokevirtual 89, 28, [1, 12, 131]),
  (28, .ireturn, 29, []),
  (29, .aload_n 0, 30, []),
  (30, .getfield 7, 33, [12, 0]),
  (33, .iconst 5, 34, []),
  (34, .iaload, 35, []),
  (35, .bipush 6, 37, []),
  (37, .if_icmp .ne 8, 40, [45]),
  (40, .aload_n 0, 41, []),
  (41, .invokevirtual 93, 44, [0, 12, 133]),
  (44, .ireturn, 45, []),
  (45, .bipush 97, 47, []),
  (47, .iconst 3, 48, []),
  (48, .aload_n 0, 49, []),
  (49, .getfield 7, 52, [12, 0]),
  (52, .iconst 5, 53, []),
  (53, .iaload, 54, []),
  (54, .imul, 55, []),
  (55, .iadd, 56, []),
  (56, .istore 4, 58, []),
  (58, .aload_n 0, 59, []),
  (59, .getfield 7, 62, [12, 0]),
  (62, .iload 4, 64, []),
  (64, .iload_n 1, 65, []),
  (65, .iastore, 66, []),
  (66, .aload_n 0, 67, []),
  (67, .getfield 7, 70, [12, 0]),
  (70, .iload 4, 72, []),
  (72, .iconst 1, 73, []),
  (73, .iadd, 74, []),
  (74, .iload_n 2, 75, []),
  (75, .iastore, 76, []),
  (76, .aload_n 0, 77, []),
  (77, .getfield 7, 80, [12, 0]),
  (80, .iload 4, 82, []),
  (82, .iconst 2, 83, []),
  (83, .iadd, 84, []),
  (84, .iload_n 3, 85, []),
  (85, .iastore, 86, []),
  (86, .aload_n 0, 87, []),
  (87, .getfield 7, 90, [12, 0]),
  (90, .iconst 5, 91, []),
  (91, .dup2, 92, []),
  (92, .iaload, 93, []),
  (93, .iconst 1, 94, []),
  (94, .iadd, 95, []),
  (95, .iastore, 96, []),
  (96, .aload_n 0, 97, []),
  (97, .getfield 7, 100, [12, 0]),
  (100, .iconst 5, 101, []),
  (101, .iaload, 102, []),
  (102, .ireturn, 103, [])]
def xm_X12_reading : xM := ((yX12_reading, cX12_reading, 5, (some .int)), xc_X12_reading)
abbrev n_X12_reading : Nat := 184
def xc_X12_forget : List xI := [
  (0, .aload_n 0, 1, []),
  (1, .getfield 7, 4, [12, 0]),
  (4, .iconst 5, 5, []),
  (5, .iaload, 6, []),
  (6, .istore_n 1, 7, []),
  (7, .aload_n 0, 8, []),
  (8, .getfield 7, 11, [12, 0]),
  (11, .iconst 5, 12, []),
  (12, .iconst 0, 13, []),
  (13, .iastore, 14, []),
  (14, .iload_n 1, 15, []),
  (15, .ireturn, 16, [])]
def xm_X12_forget : xM := ((yX12_forget, cX12_forget, 2, (some .int)), xc_X12_forget)
abbrev n_X12_forget : Nat := 185
def xc_X12_mayBe : List xI := [
  (0, .iconst 1, 1, []),
  (1, .istore 4, 3, []),
  (3, .iconst 0, 4, []),
  (4, .istore 5, 6, []),
  (6, .iload 5, 8, []),
  (8, .aload_n 0, 9, []),
  (9, .getfield 7, 12, [12, 0]),
  (12, .iconst 5, 13, []),
  (13, .iaload, 14, []),
  (14, .if_icmp .ge 67, 17, [81]),
  (17, .bipush 97, 19, []),
  (19, .iconst 3, 20, []),
  (20, .iload 5, 22, []),
  (22, .imul, 23, []),
  (23, .iadd, 24, []),
  (24, .istore 6, 26, []),
  (26, .iload 4, 28, []),
  (28, .ifCond .eq 44, 31, [72]),
  (31, .aload_n 0, 32, []),
  (32, .getfield 7, 35, [12, 0]),
  (35, .iload 6, 37, []),
  (37, .iaload, 38, []),
  (38, .iload_n 1, 39, []),
  (39, .if_icmp .ne 29, 42, [68]),
  (42, .iload_n 2, 43, []),
  (43, .iload_n 3, 44, []),
  (44, .aload_n 0, 45, []),
  (45, .getfield 7, 48, [12, 0]),
  (48, .iload 6, 50, []),
  (50, .iconst 1, 51, []),
  (51, .iadd, 52, []),
  (52, .iaload, 53, []),
  (53, .invokestatic 124, 56, [3, 152]),
  (56, .aload_n 0, 57, []),
  (57, .getfield 7, 60, [12, 0]),
  (60, .iload 6, 62, []),
  (62, .iconst 2, 63, []),
  (63, .iadd, 64, []),
  (64, .iaload, 65, []),
  (65, .if_icmp .ne 7, 68, [72]),
  (68, .iconst 1, 69, []),
  (69, .goto 4, 72, [73]),
  (72, .iconst 0, 73, []),
  (73, .istore 4, 75, []),
  (75, .iinc 5 1, 78, []),
  (78, .goto (-72), 81, [6]),
  (81, .iload 4, 83, []),
  (83, .ireturn, 84, [])]
def xm_X12_mayBe : xM := ((yX12_mayBe, cX12_mayBe, 7, (some .boolean)), xc_X12_mayBe)
abbrev n_X12_mayBe : Nat := 186
def xc_X12_is : List xI := [
  (0, .aload_n 0, 1, []),
  (1, .iload_n 1, 2, []),
  (2, .invokevirtual 112, 5, [1, 12, 137]),
  (5, .ifCond .eq 13, 8, [18]),
  (8, .iload_n 2, 9, []),
  (9, .i2l, 10, []),
  (10, .lconst 0, 11, []),
  (11, .lconst 1, 12, []),
  (12, .invokestatic 64, 15, [3, 130]),
  (15, .ifCond .ne 10, 18, [25]),
  (18, .aload_n 0, 19, []),
  (19, .bipush (-2), 21, []),
  (21, .invokevirtual 89, 24, [1, 12, 131]),
  (24, .ireturn, 25, []),
  (25, .iconst 0, 26, []),
  (26, .istore_n 3, 27, []),
  (27, .iconst 0, 28, []),
  (28, .istore 4, 30, []),
  (30, .iconst 0, 31, []),
  (31, .istore 5, 33, []),
  (33, .iload 5, 35, []),
  (35, .bipush 36, 37, []),
  (37, .if_icmp .ge 60, 40, [97]),
  (40, .aload_n 0, 41, []),
  (41, .iload_n 1, 42, []),
  (42, .iload 5, 44, []),
  (44, .bipush 6, 46, []),
  (46, .idiv, 47, []),
  (47, .iload 5, 49, []),
  (49, .bipush 6, 51, []),
  (51, .irem, 52, []),
  (52, .invokevirtual 216, 55, [3, 12, 186]),
  (55, .istore 6, 57, []),
  (57, .iload_n 3, 58, []),
  (58, .iload 6, 60, []),
  (60, .ifCond .eq 13, 63, [73]),
  (63, .iconst 1, 64, []),
  (64, .iload 5, 66, []),
  (66, .bipush 6, 68, []),
  (68, .idiv, 69, []),
  (69, .ishl, 70, []),
  (70, .goto 4, 73, [74]),
  (73, .iconst 0, 74, []),
  (74, .ior, 75, []),
  (75, .istore_n 3, 76, []),
  (76, .iload 4, 78, []),
  (78, .iload 6, 80, []),
  (80, .ifCond .eq 7, 83, [87]),
  (83, .iconst 1, 84, []),
  (84, .goto 4, 87, [88]),
  (87, .iconst 0, 88, []),
  (88, .iadd, 89, []),
  (89, .istore 4, 91, []),
  (91, .iinc 5 1, 94, []),
  (94, .goto (-61), 97, [33]),
  (97, .iload_n 2, 98, []),
  (98, .ifCond .ne 7, 101, [105]),
  (101, .iload_n 3, 102, []),
  (102, .goto 5, 105, [107]),
  (105, .iload 4, 107, []),
  (107, .ireturn, 108, [])]
def xm_X12_is : xM := ((yX12_is, cX12_is, 7, (some .int)), xc_X12_is)
abbrev n_X12_is : Nat := 187
def xc_X12_mostLike : List xI := [
  (0, .iconst 0, 1, []),
  (1, .istore_n 3, 2, []),
  (2, .iconst 0, 3, []),
  (3, .istore 4, 5, []),
  (5, .iload 4, 7, []),
  (7, .bipush 6, 9, []),
  (9, .if_icmp .ge 17, 12, [26]),
  (12, .aload_n 0, 13, []),
  (13, .getfield 48, 16, [12, 18]),
  (16, .iload 4, 18, []),
  (18, .iconst 0, 19, []),
  (19, .iastore, 20, []),
  (20, .iinc 4 1, 23, []),
  (23, .goto (-18), 26, [5]),
  (26, .iconst 0, 27, []),
  (27, .istore 4, 29, []),
  (29, .iload 4, 31, []),
  (31, .bipush 36, 33, []),
  (33, .if_icmp .ge 77, 36, [110]),
  (36, .aload_n 0, 37, []),
  (37, .iload_n 1, 38, []),
  (38, .iload 4, 40, []),
  (40, .bipush 6, 42, []),
  (42, .idiv, 43, []),
  (43, .iload 4, 45, []),
  (45, .bipush 6, 47, []),
  (47, .irem, 48, []),
  (48, .invokevirtual 216, 51, [3, 12, 186]),
  (51, .ifCond .eq 53, 54, [104]),
  (54, .iload 4, 56, []),
  (56, .bipush 6, 58, []),
  (58, .idiv, 59, []),
  (59, .iload 4, 61, []),
  (61, .bipush 6, 63, []),
  (63, .irem, 64, []),
  (64, .iload_n 2, 65, []),
  (65, .invokestatic 124, 68, [3, 152]),
  (68, .istore 5, 70, []),
  (70, .aload_n 0, 71, []),
  (71, .getfield 48, 74, [12, 18]),
  (74, .iload 5, 76, []),
  (76, .dup2, 77, []),
  (77, .iaload, 78, []),
  (78, .iconst 1, 79, []),
  (79, .iadd, 80, []),
  (80, .iastore, 81, []),
  (81, .aload_n 0, 82, []),
  (82, .getfield 48, 85, [12, 18]),
  (85, .iload 5, 87, []),
  (87, .iaload, 88, []),
  (88, .iload_n 3, 89, []),
  (89, .if_icmp .le 13, 92, [102]),
  (92, .aload_n 0, 93, []),
  (93, .getfield 48, 96, [12, 18]),
  (96, .iload 5, 98, []),
  (98, .iaload, 99, []),
  (99, .goto 4, 102, [103]),
  (102, .iload_n 3, 103, []),
  (103, .istore_n 3, 104, []),
  (104, .iinc 4 1, 107, []),
  (107, .goto (-78), 110, [29]),
  (110, .iload_n 3, 111, []),
  (111, .ireturn, 112, [])]
def xm_X12_mostLike : xM := ((yX12_mostLike, cX12_mostLike, 6, (some .int)), xc_X12_mostLike)
abbrev n_X12_mostLike : Nat := 188
def xc_X12_look : List xI := [
  (0, .aload_n 0, 1, []),
  (1, .iload_n 1, 2, []),
  (2, .invokevirtual 112, 5, [1, 12, 137]),
  (5, .ifCond .ne 10, 8, [15]),
  (8, .aload_n 0, 9, []),
  (9, .bipush (-2), 11, []),
  (11, .invokevirtual 89, 14, [1, 12, 131]),
  (14, .ireturn, 15, []),
  (15, .iconst (-1), 16, []),
  (16, .istore_n 2, 17, []),
  (17, .ldc 215, 19, [0, 1000000]),
  (19, .istore_n 3, 20, []),
  (20, .aload_n 0, 21, []),
  (21, .getfield 7, 24, [12, 0]),
  (24, .iconst 2, 25, []),
  (25, .iaload, 26, []),
  (26, .istore 4, 28, []),
  (28, .iload 4, 30, []),
  (30, .aload_n 0, 31, []),
  (31, .getfield 7, 34, [12, 0]),
  (34, .iconst 2, 35, []),
  (35, .iaload, 36, []),
  (36, .bipush 12, 38, []),
  (38, .iadd, 39, []),
  (39, .if_icmp .ge 54, 42, [93]),
  (42, .aload_n 0, 43, []),
  (43, .iload_n 1, 44, []),
  (44, .iload 4, 46, []),
  (46, .invokevirtual 219, 49, [2, 12, 188]),
  (49, .istore 5, 51, []),
  (51, .iload 5, 53, []),
  (53, .ifCond .le 14, 56, [67]),
  (56, .iload 5, 58, []),
  (58, .iload_n 3, 59, []),
  (59, .if_icmp .ge 8, 62, [67]),
  (62, .iload 4, 64, []),
  (64, .goto 4, 67, [68]),
  (67, .iload_n 2, 68, []),
  (68, .istore_n 2, 69, []),
  (69, .iload 5, 71, []),
  (71, .ifCond .le 14, 74, [85]),
  (74, .iload 5, 76, []),
  (76, .iload_n 3, 77, []),
  (77, .if_icmp .ge 8, 80, [85]),
  (80, .iload 5, 82, []),
  (82, .goto 4, 85, [86]),
  (85, .iload_n 3, 86, []),
  (86, .istore_n 3, 87, []),
  (87, .iinc 4 1, 90, []),
  (90, .goto (-62), 93, [28]),
  (93, .iload_n 2, 94, []),
  (94, .ireturn, 95, [])]
def xm_X12_look : xM := ((yX12_look, cX12_look, 6, (some .int)), xc_X12_look)
abbrev n_X12_look : Nat := 189
def xc_X12_fraction : List xI := [
  (0, .lload_n 1, 1, []),
  (1, .lstore 5, 3, []),
  (3, .lload_n 3, 4, []),
  (4, .lstore 7, 6, []),
  (6, .lload 7, 8, []),
  (8, .lconst 0, 9, []),
  (9, .lcmp, 10, []),
  (10, .ifCond .eq 21, 13, [31]),
  (13, .lload 5, 15, []),
  (15, .lload 7, 17, []),
  (17, .lrem, 18, []),
  (18, .lstore 9, 20, []),
  (20, .lload 7, 22, []),
  (22, .lstore 5, 24, []),
  (24, .lload 9, 26, []),
  (26, .lstore 7, 28, []),
  (28, .goto (-22), 31, [6]),
  (31, .aload_n 0, 32, []),
  (32, .lload_n 1, 33, []),
  (33, .lload 5, 35, []),
  (35, .ldiv, 36, []),
  (36, .putfield 222, 39, [12, 4]),
  (39, .aload_n 0, 40, []),
  (40, .lload_n 3, 41, []),
  (41, .lload 5, 43, []),
  (43, .ldiv, 44, []),
  (44, .putfield 23, 47, [12, 5]),
  (47, .return_, 48, [])]
def xm_X12_fraction : xM := ((yX12_fraction, cX12_fraction, 11, none), xc_X12_fraction)
abbrev n_X12_fraction : Nat := 190
def xc_X12_odds : List xI := [
  (0, .iload_n 1, 1, []),
  (1, .i2l, 2, []),
  (2, .lconst 0, 3, []),
  (3, .ldc2_w 225, 6, [10]),
  (6, .invokestatic 64, 9, [3, 130]),
  (9, .ifCond .ne 10, 12, [19]),
  (12, .aload_n 0, 13, []),
  (13, .bipush (-2), 15, []),
  (15, .invokevirtual 89, 18, [1, 12, 131]),
  (18, .ireturn, 19, []),
  (19, .lconst 0, 20, []),
  (20, .lstore_n 2, 21, []),
  (21, .lconst 1, 22, []),
  (22, .lstore 4, 24, []),
  (24, .aload_n 0, 25, []),
  (25, .invokevirtual 151, 28, [0, 12, 156]),
  (28, .iconst 0, 29, []),
  (29, .istore 6, 31, []),
  (31, .iload 6, 33, []),
  (33, .aload_n 0, 34, []),
  (34, .invokevirtual 68, 37, [0, 12, 136]),
  (37, .if_icmp .ge 17, 40, [54]),
  (40, .lload 4, 42, []),
  (42, .ldc2_w 225, 45, [10]),
  (45, .lmul, 46, []),
  (46, .lstore 4, 48, []),
  (48, .iinc 6 1, 51, []),
  (51, .goto (-20), 54, [31]),
  (54, .iconst 0, 55, []),
  (55, .istore 6, 57, []),
  (57, .iload 6, 59, []),
  (59, .aload_n 0, 60, []),
  (60, .invokevirtual 206, 63, [0, 12, 176]),
  (63, .if_icmp .gt 79, 66, [142]),
  (66, .lconst 1, 67, []),
  (67, .lstore 7, 69, []),
  (69, .iconst 0, 70, []),
  (70, .istore 9, 72, []),
  (72, .iload 9, 74, []),
  (74, .aload_n 0, 75, []),
  (75, .invokevirtual 68, 78, [0, 12, 136]),
  (78, .if_icmp .ge 35, 81, [113]),
  (81, .lload 7, 83, []),
  (83, .iload 6, 85, []),
  (85, .iload 9, 87, []),
  (87, .ishr, 88, []),
  (88, .iconst 1, 89, []),
  (89, .iand, 90, []),
  (90, .iconst 1, 91, []),
  (91, .if_icmp .ne 8, 94, [99]),
  (94, .iload_n 1, 95, []),
  (95, .i2l, 96, []),
  (96, .goto 8, 99, [104]),
  (99, .bipush 10, 101, []),
  (101, .iload_n 1, 102, []),
  (102, .isub, 103, []),
  (103, .i2l, 104, []),
  (104, .lmul, 105, []),
  (105, .lstore 7, 107, []),
  (107, .iinc 9 1, 110, []),
  (110, .goto (-38), 113, [72]),
  (113, .aload_n 0, 114, []),
  (114, .aload_n 0, 115, []),
  (115, .getfield 7, 118, [12, 0]),
  (118, .iconst 2, 119, []),
  (119, .iaload, 120, []),
  (120, .iload 6, 122, []),
  (122, .invokevirtual 209, 125, [2, 12, 175]),
  (125, .lload_n 2, 126, []),
  (126, .lload 7, 128, []),
  (128, .aload_n 0, 129, []),
  (129, .getfield 201, 132, [12, 17]),
  (132, .i2l, 133, []),
  (133, .lmul, 134, []),
  (134, .ladd, 135, []),
  (135, .lstore_n 2, 136, []),
  (136, .iinc 6 1, 139, []),
  (139, .goto (-82), 142, [57]),
  (142, .aload_n 0, 143, []),
  (143, .lload_n 2, 144, []),
  (144, .lload 4, 146, []),
  (146, .invokevirtual 227, 149, [2, 12, 190]),
  (149, .iconst 1, 150, []),
  (150, .ireturn, 151, [])]
def xm_X12_odds : xM := ((yX12_odds, cX12_odds, 10, (some .int)), xc_X12_odds)
abbrev n_X12_odds : Nat := 191
def xc_X12_drawn : List xI := [
  (0, .iload_n 1, 1, []),
  (1, .i2l, 2, []),
  (2, .lconst 0, 3, []),
  (3, .ldc2_w 231, 6, [999999]),
  (6, .invokestatic 64, 9, [3, 130]),
  (9, .ifCond .eq 27, 12, [36]),
  (12, .iload_n 2, 13, []),
  (13, .i2l, 14, []),
  (14, .lconst 0, 15, []),
  (15, .ldc2_w 233, 18, [30]),
  (18, .invokestatic 64, 21, [3, 130]),
  (21, .ifCond .eq 15, 24, [36]),
  (24, .iload_n 3, 25, []),
  (25, .i2l, 26, []),
  (26, .lconst 0, 27, []),
  (27, .ldc2_w 235, 30, [100]),
  (30, .invokestatic 64, 33, [3, 130]),
  (33, .ifCond .ne 10, 36, [43]),
  (36, .aload_n 0, 37, []),
  (37, .bipush (-2), 39, []),
  (39, .invokevirtual 89, 42, [1, 12, 131]),
  (42, .ireturn, 43, []),
  (43, .iload_n 1, 44, []),
  (44, .i2l, 45, []),
  (45, .lstore 4, 47, []),
  (47, .iconst 0, 48, []),
  (48, .istore 6, 50, []),
  (50, .aload_n 0, 51, []),
  (51, .invokevirtual 151, 54, [0, 12, 156]),
  (54, .iconst 0, 55, []),
  (55, .istore 7, 57, []),
  (57, .iload 7, 59, []),
  (59, .iload_n 2, 60, []),
  (60, .if_icmp .ge 99, 63, [159]),
  (63, .iconst 0, 64, []),
  (64, .istore 8, 66, []),
  (66, .iconst 0, 67, []),
  (67, .istore 9, 69, []),
  (69, .iload 9, 71, []),
  (71, .aload_n 0, 72, []),
  (72, .invokevirtual 68, 75, [0, 12, 136]),
  (75, .if_icmp .ge 54, 78, [129]),
  (78, .lload 4, 80, []),
  (80, .ldc2_w 237, 83, [1103515245]),
  (83, .lmul, 84, []),
  (84, .ldc2_w 239, 87, [12345]),
  (87, .ladd, 88, []),
  (88, .ldc2_w 241, 91, [2147483648]),
  (91, .lrem, 92, []),
  (92, .lstore 4, 94, []),
  (94, .iload 8, 96, []),
  (96, .lload 4, 98, []),
  (98, .ldc2_w 243, 101, [65536]),
  (101, .ldiv, 102, []),
  (102, .ldc2_w 235, 105, [100]),
  (105, .lrem, 106, []),
  (106, .iload_n 3, 107, []),
  (107, .i2l, 108, []),
  (108, .lcmp, 109, []),
  (109, .ifCond .ge 10, 112, [119]),
  (112, .iconst 1, 113, []),
  (113, .iload 9, 115, []),
  (115, .ishl, 116, []),
  (116, .goto 4, 119, [120]),
  (119, .iconst 0, 120, []),
  (120, .ior, 121, []),
  (121, .istore 8, 123, []),
  (123, .iinc 9 1, 126, []),
  (126, .goto (-57), 129, [69]),
  (129, .aload_n 0, 130, []),
  (130, .aload_n 0, 131, []),
  (131, .getfield 7, 134, [12, 0]),
  (134, .iconst 2, 135, []),
  (135, .iaload, 136, []),
  (136, .iload 7, 138, []),
  (138, .iadd, 139, []),
  (139, .iload 8, 141, []),
  (141, .invokevirtual 209, 144, [2, 12, 175]),
  (144, .iload 6, 146, []),
  (146, .aload_n 0, 147, []),
  (147, .getfield 198, 150, [12, 16]),
  (150, .iadd, 151, []),
  (151, .istore 6, 153, []),
  (153, .iinc 7 1, 156, []),
  (156, .goto (-99), 159, [57]),
  (159, .iload 6, 161, []),
  (161, .ireturn, 162, [])]
def xm_X12_drawn : xM := ((yX12_drawn, cX12_drawn, 10, (some .int)), xc_X12_drawn)
abbrev n_X12_drawn : Nat := 192
def xc_X12_type : List xI := [
  (0, .iload_n 1, 1, []),
  (1, .i2l, 2, []),
  (2, .lconst 0, 3, []),
  (3, .ldc2_w 245, 6, [127]),
  (6, .invokestatic 64, 9, [3, 130]),
  (9, .ifCond .ne 10, 12, [19]),
  (12, .aload_n 0, 13, []),
  (13, .bipush (-2), 15, []),
  (15, .invokevirtual 89, 18, [1, 12, 131]),
  (18, .ireturn, 19, []),
  (19, .aload_n 0, 20, []),
  (20, .getfield 247, 23, [12, 20]),
  (23, .sipush 150, 26, []),
  (26, .if_icmp .ne 8, 29, [34]),
  (29, .aload_n 0, 30, []),
  (30, .invokevirtual 93, 33, [0, 12, 133]),
  (33, .ireturn, 34, []),
  (34, .aload_n 0, 35, []),
  (35, .getfield 51, 38, [12, 19]),
  (38, .aload_n 0, 39, []),
  (39, .getfield 247, 42, [12, 20]),
  (42, .iload_n 1, 43, []),
  (43, .iastore, 44, []),
  (44, .aload_n 0, 45, []),
  (45, .dup, 46, []),
  (46, .getfield 247, 49, [12, 20]),
  (49, .iconst 1, 50, []),
  (50, .iadd, 51, []),
  (51, .putfield 247, 54, [12, 20]),
  (54, .aload_n 0, 55, []),
  (55, .getfield 247, 58, [12, 20]),
  (58, .ireturn, 59, [])]
def xm_X12_type : xM := ((yX12_type, cX12_type, 2, (some .int)), xc_X12_type)
abbrev n_X12_type : Nat := 193
def xc_X12_clear : List xI := [
  (0, .aload_n 0, 1, []),
  (1, .getfield 247, 4, [12, 20]),
  (4, .istore_n 1, 5, []),
  (5, .aload_n 0, 6, []),
  (6, .iconst 0, 7, []),
  (7, .putfield 247, 10, [12, 20]),
  (10, .iload_n 1, 11, []),
  (11, .ireturn, 12, [])]
def xm_X12_clear : xM := ((yX12_clear, cX12_clear, 2, (some .int)), xc_X12_clear)
abbrev n_X12_clear : Nat := 194
def xc_X12_isSmall : List xI := [
  (0, .iload_n 0, 1, []),
  (1, .i2l, 2, []),
  (2, .ldc2_w 250, 5, [97]),
  (5, .ldc2_w 252, 8, [122]),
  (8, .invokestatic 64, 11, [3, 130]),
  (11, .ireturn, 12, [])]
def xm_X12_isSmall : xM := ((yX12_isSmall, cX12_isSmall, 1, (some .boolean)), xc_X12_isSmall)
abbrev n_X12_isSmall : Nat := 195
def xc_X12_isFigure : List xI := [
  (0, .iload_n 0, 1, []),
  (1, .i2l, 2, []),
  (2, .ldc2_w 254, 5, [48]),
  (5, .ldc2_w 256, 8, [57]),
  (8, .invokestatic 64, 11, [3, 130]),
  (11, .ireturn, 12, [])]
def xm_X12_isFigure : xM := ((yX12_isFigure, cX12_isFigure, 1, (some .boolean)), xc_X12_isFigure)
abbrev n_X12_isFigure : Nat := 196
def xc_X12_lookAt : List xI := [
  (0, .aload_n 0, 1, []),
  (1, .iload_n 1, 2, []),
  (2, .putfield 258, 5, [12, 21]),
  (5, .aload_n 0, 6, []),
  (6, .getfield 258, 9, [12, 21]),
  (9, .aload_n 0, 10, []),
  (10, .getfield 247, 13, [12, 20]),
  (13, .if_icmp .ge 30, 16, [43]),
  (16, .aload_n 0, 17, []),
  (17, .getfield 51, 20, [12, 19]),
  (20, .aload_n 0, 21, []),
  (21, .getfield 258, 24, [12, 21]),
  (24, .iaload, 25, []),
  (25, .bipush 32, 27, []),
  (27, .if_icmp .ne 16, 30, [43]),
  (30, .aload_n 0, 31, []),
  (31, .dup, 32, []),
  (32, .getfield 258, 35, [12, 21]),
  (35, .iconst 1, 36, []),
  (36, .iadd, 37, []),
  (37, .putfield 258, 40, [12, 21]),
  (40, .goto (-35), 43, [5]),
  (43, .aload_n 0, 44, []),
  (44, .iconst 0, 45, []),
  (45, .putfield 261, 48, [12, 22]),
  (48, .aload_n 0, 49, []),
  (49, .iconst 0, 50, []),
  (50, .putfield 264, 53, [12, 23]),
  (53, .aload_n 0, 54, []),
  (54, .iconst 0, 55, []),
  (55, .putfield 267, 58, [12, 24]),
  (58, .aload_n 0, 59, []),
  (59, .getfield 258, 62, [12, 21]),
  (62, .aload_n 0, 63, []),
  (63, .getfield 247, 66, [12, 20]),
  (66, .if_icmp .ne 4, 69, [70]),
  (69, .return_, 70, []),
  (70, .aload_n 0, 71, []),
  (71, .getfield 51, 74, [12, 19]),
  (74, .aload_n 0, 75, []),
  (75, .getfield 258, 78, [12, 21]),
  (78, .iaload, 79, []),
  (79, .istore_n 2, 80, []),
  (80, .aload_n 0, 81, []),
  (81, .iload_n 2, 82, []),
  (82, .invokestatic 270, 85, [1, 195]),
  (85, .ifCond .eq 7, 88, [92]),
  (88, .iconst 1, 89, []),
  (89, .goto 25, 92, [114]),
  (92, .iload_n 2, 93, []),
  (93, .invokestatic 273, 96, [1, 196]),
  (96, .ifCond .eq 7, 99, [103]),
  (99, .iconst 2, 100, []),
  (100, .goto 14, 103, [114]),
  (103, .iload_n 2, 104, []),
  (104, .bipush 59, 106, []),
  (106, .if_icmp .ne 7, 109, [113]),
  (109, .iconst 3, 110, []),
  (110, .goto 4, 113, [114]),
  (113, .iconst 4, 114, []),
  (114, .putfield 264, 117, [12, 23]),
  (117, .aload_n 0, 118, []),
  (118, .iconst 1, 119, []),
  (119, .putfield 261, 122, [12, 22]),
  (122, .aload_n 0, 123, []),
  (123, .getfield 264, 126, [12, 23]),
  (126, .iconst 3, 127, []),
  (127, .if_icmp .ge 7, 130, [134]),
  (130, .iconst 1, 131, []),
  (131, .goto 4, 134, [135]),
  (134, .iconst 0, 135, []),
  (135, .istore_n 3, 136, []),
  (136, .iload_n 3, 137, []),
  (137, .ifCond .eq 78, 140, [215]),
  (140, .aload_n 0, 141, []),
  (141, .getfield 258, 144, [12, 21]),
  (144, .aload_n 0, 145, []),
  (145, .getfield 261, 148, [12, 22]),
  (148, .iadd, 149, []),
  (149, .aload_n 0, 150, []),
  (150, .getfield 247, 153, [12, 20]),
  (153, .if_icmp .ge 62, 156, [215]),
  (156, .aload_n 0, 157, []),
  (157, .getfield 51, 160, [12, 19]),
  (160, .aload_n 0, 161, []),
  (161, .getfield 258, 164, [12, 21]),
  (164, .aload_n 0, 165, []),
  (165, .getfield 261, 168, [12, 22]),
  (168, .iadd, 169, []),
  (169, .iaload, 170, []),
  (170, .istore 4, 172, []),
  (172, .aload_n 0, 173, []),
  (173, .getfield 264, 176, [12, 23]),
  (176, .iconst 1, 177, []),
  (177, .if_icmp .ne 11, 180, [188]),
  (180, .iload 4, 182, []),
  (182, .invokestatic 270, 185, [1, 195]),
  (185, .goto 8, 188, [193]),
  (188, .iload 4, 190, []),
  (190, .invokestatic 273, 193, [1, 196]),
  (193, .istore_n 3, 194, []),
  (194, .aload_n 0, 195, []),
  (195, .dup, 196, []),
  (196, .getfield 261, 199, [12, 22]),
  (199, .iload_n 3, 200, []),
  (200, .ifCond .eq 7, 203, [207]),
  (203, .iconst 1, 204, []),
  (204, .goto 4, 207, [208]),
  (207, .iconst 0, 208, []),
  (208, .iadd, 209, []),
  (209, .putfield 261, 212, [12, 22]),
  (212, .goto (-76), 215, [136]),
  (215, .iconst 0, 216, []),
  (216, .istore 4, 218, []),
  (218, .iload 4, 220, []),
  (220, .aload_n 0, 221, []),
  (221, .getfield 261, 224, [12, 22]),
  (224, .if_icmp .ge 50, 227, [274]),
  (227, .iload 4, 229, []),
  (229, .iconst 3, 230, []),
  (230, .if_icmp .ge 44, 233, [274]),
  (233, .aload_n 0, 234, []),
  (234, .getfield 264, 237, [12, 23]),
  (237, .iconst 2, 238, []),
  (238, .if_icmp .ne 36, 241, [274]),
  (241, .aload_n 0, 242, []),
  (242, .bipush 10, 244, []),
  (244, .aload_n 0, 245, []),
  (245, .getfield 267, 248, [12, 24]),
  (248, .imul, 249, []),
  (249, .aload_n 0, 250, []),
  (250, .getfield 51, 253, [12, 19]),
  (253, .aload_n 0, 254, []),
  (254, .getfield 258, 257, [12, 21]),
  (257, .iload 4, 259, []),
  (259, .iadd, 260, []),
  (260, .iaload, 261, []),
  (261, .iadd, 262, []),
  (262, .bipush 48, 264, []),
  (264, .isub, 265, []),
  (265, .putfield 267, 268, [12, 24]),
  (268, .iinc 4 1, 271, []),
  (271, .goto (-53), 274, [218]),
  (274, .aload_n 0, 275, []),
  (275, .aload_n 0, 276, []),
  (276, .getfield 264, 279, [12, 23]),
  (279, .iconst 2, 280, []),
  (280, .if_icmp .ne 15, 283, [295]),
  (283, .aload_n 0, 284, []),
  (284, .getfield 261, 287, [12, 22]),
  (287, .iconst 3, 288, []),
  (288, .if_icmp .le 7, 291, [295]),
  (291, .iconst 4, 292, []),
  (292, .goto 7, 295, [299]),
  (295, .aload_n 0, 296, []),
  (296, .getfield 264, 299, [12, 23]),
  (299, .putfield 264, 302, [12, 23]),
  (302, .return_, 303, [])]
def xm_X12_lookAt : xM := ((yX12_lookAt, cX12_lookAt, 5, none), xc_X12_lookAt)
abbrev n_X12_lookAt : Nat := 197
def xc_X12_goBehind : List xI := [
  (0, .aload_n 0, 1, []),
  (1, .aload_n 0, 2, []),
  (2, .getfield 258, 5, [12, 21]),
  (5, .aload_n 0, 6, []),
  (6, .getfield 261, 9, [12, 22]),
  (9, .iadd, 10, []),
  (10, .invokevirtual 276, 13, [1, 12, 197]),
  (13, .return_, 14, [])]
def xm_X12_goBehind : xM := ((yX12_goBehind, cX12_goBehind, 1, none), xc_X12_goBehind)
abbrev n_X12_goBehind : Nat := 198
def xc_X12_isCalled : List xI := [
  (0, .aload_n 0, 1, []),
  (1, .getfield 264, 4, [12, 23]),
  (4, .iconst 1, 5, []),
  (5, .if_icmp .ne 15, 8, [20]),
  (8, .aload_n 0, 9, []),
  (9, .getfield 261, 12, [12, 22]),
  (12, .iload_n 1, 13, []),
  (13, .if_icmp .ne 7, 16, [20]),
  (16, .iconst 1, 17, []),
  (17, .goto 4, 20, [21]),
  (20, .iconst 0, 21, []),
  (21, .istore 8, 23, []),
  (23, .iconst 0, 24, []),
  (24, .istore 9, 26, []),
  (26, .iload 9, 28, []),
  (28, .iload_n 1, 29, []),
  (29, .if_icmp .ge 90, 32, [119]),
  (32, .iload 8, 34, []),
  (34, .ifCond .eq 85, 37, [119]),
  (37, .aload_n 0, 38, []),
  (38, .getfield 51, 41, [12, 19]),
  (41, .aload_n 0, 42, []),
  (42, .getfield 258, 45, [12, 21]),
  (45, .iload 9, 47, []),
  (47, .iadd, 48, []),
  (48, .iaload, 49, []),
  (49, .iload 9, 51, []),
  (51, .ifCond .ne 7, 54, [58]),
  (54, .iload_n 2, 55, []),
  (55, .goto 48, 58, [103]),
  (58, .iload 9, 60, []),
  (60, .iconst 1, 61, []),
  (61, .if_icmp .ne 7, 64, [68]),
  (64, .iload_n 3, 65, []),
  (65, .goto 38, 68, [103]),
  (68, .iload 9, 70, []),
  (70, .iconst 2, 71, []),
  (71, .if_icmp .ne 8, 74, [79]),
  (74, .iload 4, 76, []),
  (76, .goto 27, 79, [103]),
  (79, .iload 9, 81, []),
  (81, .iconst 3, 82, []),
  (82, .if_icmp .ne 8, 85, [90]),
  (85, .iload 5, 87, []),
  (87, .goto 16, 90, [103]),
  (90, .iload 9, 92, []),
  (92, .iconst 4, 93, []),
  (93, .if_icmp .ne 8, 96, [101]),
  (96, .iload 6, 98, []),
  (98, .goto 5, 101, [103]),
  (101, .iload 7, 103, []),
  (103, .if_icmp .ne 7, 106, [110]),
  (106, .iconst 1, 107, []),
  (107, .goto 4, 110, [111]),
  (110, .iconst 0, 111, []),
  (111, .istore 8, 113, []),
  (113, .iinc 9 1, 116, []),
  (116, .goto (-90), 119, [26]),
  (119, .iload 8, 121, []),
  (121, .ireturn, 122, [])]
def xm_X12_isCalled : xM := ((yX12_isCalled, cX12_isCalled, 10, (some .boolean)), xc_X12_isCalled)
abbrev n_X12_isCalled : Nat := 199
def xc_X12_takes : List xI := [
  (0, .aload_n 0, 1, []),
  (1, .getfield 264, 4, [12, 23]),
  (4, .iconst 2, 5, []),
  (5, .if_icmp .ne 18, 8, [23]),
  (8, .aload_n 0, 9, []),
  (9, .getfield 267, 12, [12, 24]),
  (12, .i2l, 13, []),
  (13, .iload_n 2, 14, []),
  (14, .i2l, 15, []),
  (15, .iload_n 3, 16, []),
  (16, .i2l, 17, []),
  (17, .invokestatic 64, 20, [3, 130]),
  (20, .ifCond .ne 5, 23, [25]),
  (23, .iconst 0, 24, []),
  (24, .ireturn, 25, []),
  (25, .aload_n 0, 26, []),
  (26, .getfield 57, 29, [12, 26]),
  (29, .iload_n 1, 30, []),
  (30, .aload_n 0, 31, []),
  (31, .getfield 267, 34, [12, 24]),
  (34, .iastore, 35, []),
  (35, .aload_n 0, 36, []),
  (36, .invokevirtual 279, 39, [0, 12, 198]),
  (39, .iconst 1, 40, []),
  (40, .ireturn, 41, [])]
def xm_X12_takes : xM := ((yX12_takes, cX12_takes, 4, (some .boolean)), xc_X12_takes)
abbrev n_X12_takes : Nat := 200
def xc_X12_takesView : List xI := [
  (0, .aload_n 0, 1, []),
  (1, .getfield 54, 4, [12, 25]),
  (4, .iconst 0, 5, []),
  (5, .iaload, 6, []),
  (6, .bipush 6, 8, []),
  (8, .if_icmp .ne 5, 11, [13]),
  (11, .iconst 0, 12, []),
  (12, .ireturn, 13, []),
  (13, .aload_n 0, 14, []),
  (14, .invokevirtual 279, 17, [0, 12, 198]),
  (17, .aload_n 0, 18, []),
  (18, .iconst 0, 19, []),
  (19, .iconst 0, 20, []),
  (20, .iconst 5, 21, []),
  (21, .invokevirtual 282, 24, [3, 12, 200]),
  (24, .ifCond .eq 35, 27, [59]),
  (27, .aload_n 0, 28, []),
  (28, .iconst 1, 29, []),
  (29, .iconst 1, 30, []),
  (30, .bipush 9, 32, []),
  (32, .invokevirtual 282, 35, [3, 12, 200]),
  (35, .ifCond .eq 24, 38, [59]),
  (38, .aload_n 0, 39, []),
  (39, .iconst 2, 40, []),
  (40, .iconst 0, 41, []),
  (41, .bipush 99, 43, []),
  (43, .invokevirtual 282, 46, [3, 12, 200]),
  (46, .ifCond .eq 13, 49, [59]),
  (49, .aload_n 0, 50, []),
  (50, .iconst 3, 51, []),
  (51, .iconst 0, 52, []),
  (52, .iconst 5, 53, []),
  (53, .invokevirtual 282, 56, [3, 12, 200]),
  (56, .ifCond .ne 5, 59, [61]),
  (59, .iconst 0, 60, []),
  (60, .ireturn, 61, []),
  (61, .aload_n 0, 62, []),
  (62, .getfield 54, 65, [12, 25]),
  (65, .aload_n 0, 66, []),
  (66, .getfield 57, 69, [12, 26]),
  (69, .iconst 0, 70, []),
  (70, .iaload, 71, []),
  (71, .aload_n 0, 72, []),
  (72, .getfield 57, 75, [12, 26]),
  (75, .iconst 1, 76, []),
  (76, .iaload, 77, []),
  (77, .aload_n 0, 78, []),
  (78, .getfield 57, 81, [12, 26]),
  (81, .iconst 2, 82, []),
  (82, .iaload, 83, []),
  (83, .aload_n 0, 84, []),
  (84, .getfield 57, 87, [12, 26]),
  (87, .iconst 3, 88, []),
  (88, .iaload, 89, []),
  (89, .invokestatic 96, 92, [5, 145]),
  (92, .iconst 1, 93, []),
  (93, .ireturn, 94, [])]
def xm_X12_takesView : xM := ((yX12_takesView, cX12_takesView, 1, (some .boolean)), xc_X12_takesView)
abbrev n_X12_takesView : Nat := 201
def xc_X12_takesRenter : List xI := [
  (0, .aload_n 0, 1, []),
  (1, .getfield 54, 4, [12, 25]),
  (4, .iconst 1, 5, []),
  (5, .iaload, 6, []),
  (6, .bipush 6, 8, []),
  (8, .if_icmp .ne 5, 11, [13]),
  (11, .iconst 0, 12, []),
  (12, .ireturn, 13, []),
  (13, .aload_n 0, 14, []),
  (14, .invokevirtual 279, 17, [0, 12, 198]),
  (17, .aload_n 0, 18, []),
  (18, .iconst 0, 19, []),
  (19, .iconst 1, 20, []),
  (20, .bipush 9, 22, []),
  (22, .invokevirtual 282, 25, [3, 12, 200]),
  (25, .ifCond .eq 26, 28, [51]),
  (28, .aload_n 0, 29, []),
  (29, .iconst 1, 30, []),
  (30, .iconst 0, 31, []),
  (31, .sipush 999, 34, []),
  (34, .invokevirtual 282, 37, [3, 12, 200]),
  (37, .ifCond .eq 14, 40, [51]),
  (40, .aload_n 0, 41, []),
  (41, .iconst 2, 42, []),
  (42, .iconst 0, 43, []),
  (43, .bipush 6, 45, []),
  (45, .invokevirtual 282, 48, [3, 12, 200]),
  (48, .ifCond .ne 5, 51, [53]),
  (51, .iconst 0, 52, []),
  (52, .ireturn, 53, []),
  (53, .aload_n 0, 54, []),
  (54, .getfield 54, 57, [12, 25]),
  (57, .aload_n 0, 58, []),
  (58, .getfield 57, 61, [12, 26]),
  (61, .iconst 0, 62, []),
  (62, .iaload, 63, []),
  (63, .aload_n 0, 64, []),
  (64, .getfield 57, 67, [12, 26]),
  (67, .iconst 1, 68, []),
  (68, .iaload, 69, []),
  (69, .aload_n 0, 70, []),
  (70, .getfield 57, 73, [12, 26]),
  (73, .iconst 2, 74, []),
  (74, .iaload, 75, []),
  (75, .invokestatic 108, 78, [4, 148]),
  (78, .iconst 1, 79, []),
  (79, .ireturn, 80, [])]
def xm_X12_takesRenter : xM := ((yX12_takesRenter, cX12_takesRenter, 1, (some .boolean)), xc_X12_takesRenter)
abbrev n_X12_takesRenter : Nat := 202
def xc_X12_takesThing : List xI := [
  (0, .aload_n 0, 1, []),
  (1, .invokevirtual 279, 4, [0, 12, 198]),
  (4, .aload_n 0, 5, []),
  (5, .iconst 0, 6, []),
  (6, .iconst 0, 7, []),
  (7, .aload_n 0, 8, []),
  (8, .getfield 54, 11, [12, 25]),
  (11, .iconst 0, 12, []),
  (12, .iaload, 13, []),
  (13, .iconst 1, 14, []),
  (14, .isub, 15, []),
  (15, .invokevirtual 282, 18, [3, 12, 200]),
  (18, .ifCond .eq 14, 21, [32]),
  (21, .aload_n 0, 22, []),
  (22, .iconst 1, 23, []),
  (23, .iconst 0, 24, []),
  (24, .bipush 7, 26, []),
  (26, .invokevirtual 282, 29, [3, 12, 200]),
  (29, .ifCond .ne 5, 32, [34]),
  (32, .iconst 0, 33, []),
  (33, .ireturn, 34, []),
  (34, .aload_n 0, 35, []),
  (35, .getfield 54, 38, [12, 25]),
  (38, .bipush 7, 40, []),
  (40, .bipush 6, 42, []),
  (42, .aload_n 0, 43, []),
  (43, .getfield 57, 46, [12, 26]),
  (46, .iconst 0, 47, []),
  (47, .iaload, 48, []),
  (48, .imul, 49, []),
  (49, .iadd, 50, []),
  (50, .iconst 5, 51, []),
  (51, .iadd, 52, []),
  (52, .dup2, 53, []),
  (53, .iaload, 54, []),
  (54, .iconst 1, 55, []),
  (55, .aload_n 0, 56, []),
  (56, .getfield 57, 59, [12, 26]),
  (59, .iconst 1, 60, []),
  (60, .iaload, 61, []),
  (61, .ishl, 62, []),
  (62, .ior, 63, []),
  (63, .iastore, 64, []),
  (64, .iconst 1, 65, []),
  (65, .ireturn, 66, [])]
def xm_X12_takesThing : xM := ((yX12_takesThing, cX12_takesThing, 1, (some .boolean)), xc_X12_takesThing)
abbrev n_X12_takesThing : Nat := 203
def xc_X12_takesItem : List xI := [
  (0, .aload_n 0, 1, []),
  (1, .iconst 4, 2, []),
  (2, .bipush 118, 4, []),
  (4, .bipush 105, 6, []),
  (6, .bipush 101, 8, []),
  (8, .bipush 119, 10, []),
  (10, .iconst 0, 11, []),
  (11, .iconst 0, 12, []),
  (12, .invokevirtual 285, 15, [7, 12, 199]),
  (15, .ifCond .eq 8, 18, [23]),
  (18, .aload_n 0, 19, []),
  (19, .invokevirtual 289, 22, [0, 12, 201]),
  (22, .ireturn, 23, []),
  (23, .aload_n 0, 24, []),
  (24, .bipush 6, 26, []),
  (26, .bipush 114, 28, []),
  (28, .bipush 101, 30, []),
  (30, .bipush 110, 32, []),
  (32, .bipush 116, 34, []),
  (34, .bipush 101, 36, []),
  (36, .bipush 114, 38, []),
  (38, .invokevirtual 285, 41, [7, 12, 199]),
  (41, .ifCond .eq 8, 44, [49]),
  (44, .aload_n 0, 45, []),
  (45, .invokevirtual 293, 48, [0, 12, 202]),
  (48, .ireturn, 49, []),
  (49, .aload_n 0, 50, []),
  (50, .iconst 5, 51, []),
  (51, .bipush 116, 53, []),
  (53, .bipush 104, 55, []),
  (55, .bipush 105, 57, []),
  (57, .bipush 110, 59, []),
  (59, .bipush 103, 61, []),
  (61, .iconst 0, 62, []),
  (62, .invokevirtual 285, 65, [7, 12, 199]),
  (65, .ifCond .eq 14, 68, [79]),
  (68, .aload_n 0, 69, []),
  (69, .invokevirtual 296, 72, [0, 12, 203]),
  (72, .ifCond .eq 7, 75, [79]),
  (75, .iconst 1, 76, []),
  (76, .goto 4, 79, [80]),
  (79, .iconst 0, 80, []),
  (80, .ireturn, 81, [])]
def xm_X12_takesItem : xM := ((yX12_takesItem, cX12_takesItem, 1, (some .boolean)), xc_X12_takesItem)
abbrev n_X12_takesItem : Nat := 204
def xc_X12_read : List xI := [
  (0, .aload_n 0, 1, []),
  (1, .iconst 0, 2, []),
  (2, .invokevirtual 276, 5, [1, 12, 197]),
  (5, .aload_n 0, 6, []),
  (6, .iconst 4, 7, []),
  (7, .bipush 115, 9, []),
  (9, .bipush 104, 11, []),
  (11, .bipush 111, 13, []),
  (13, .bipush 112, 15, []),
  (15, .iconst 0, 16, []),
  (16, .iconst 0, 17, []),
  (17, .invokevirtual 285, 20, [7, 12, 199]),
  (20, .ifCond .ne 11, 23, [31]),
  (23, .bipush (-10), 25, []),
  (25, .aload_n 0, 26, []),
  (26, .getfield 258, 29, [12, 21]),
  (29, .isub, 30, []),
  (30, .ireturn, 31, []),
  (31, .aload_n 0, 32, []),
  (32, .invokevirtual 279, 35, [0, 12, 198]),
  (35, .aload_n 0, 36, []),
  (36, .getfield 264, 39, [12, 23]),
  (39, .iconst 3, 40, []),
  (40, .if_icmp .eq 11, 43, [51]),
  (43, .bipush (-10), 45, []),
  (45, .aload_n 0, 46, []),
  (46, .getfield 258, 49, [12, 21]),
  (49, .isub, 50, []),
  (50, .ireturn, 51, []),
  (51, .aload_n 0, 52, []),
  (52, .invokevirtual 279, 55, [0, 12, 198]),
  (55, .aload_n 0, 56, []),
  (56, .getfield 54, 59, [12, 25]),
  (59, .invokestatic 75, 62, [1, 134]),
  (62, .iconst 1, 63, []),
  (63, .istore_n 1, 64, []),
  (64, .aload_n 0, 65, []),
  (65, .getfield 264, 68, [12, 23]),
  (68, .ifCond .eq 36, 71, [104]),
  (71, .aload_n 0, 72, []),
  (72, .invokevirtual 299, 75, [0, 12, 204]),
  (75, .ifCond .eq 11, 78, [86]),
  (78, .aload_n 0, 79, []),
  (79, .getfield 264, 82, [12, 23]),
  (82, .iconst 3, 83, []),
  (83, .if_icmp .eq 11, 86, [94]),
  (86, .bipush (-10), 88, []),
  (88, .aload_n 0, 89, []),
  (89, .getfield 258, 92, [12, 21]),
  (92, .isub, 93, []),
  (93, .ireturn, 94, []),
  (94, .aload_n 0, 95, []),
  (95, .invokevirtual 279, 98, [0, 12, 198]),
  (98, .iinc 1 1, 101, []),
  (101, .goto (-37), 104, [64]),
  (104, .iconst 0, 105, []),
  (105, .istore_n 2, 106, []),
  (106, .iload_n 2, 107, []),
  (107, .bipush 115, 109, []),
  (109, .if_icmp .ge 21, 112, [130]),
  (112, .aload_n 0, 113, []),
  (113, .getfield 7, 116, [12, 0]),
  (116, .iload_n 2, 117, []),
  (117, .aload_n 0, 118, []),
  (118, .getfield 54, 121, [12, 25]),
  (121, .iload_n 2, 122, []),
  (122, .iaload, 123, []),
  (123, .iastore, 124, []),
  (124, .iinc 2 1, 127, []),
  (127, .goto (-21), 130, [106]),
  (130, .iload_n 1, 131, []),
  (131, .ireturn, 132, [])]
def xm_X12_read : xM := ((yX12_read, cX12_read, 3, (some .int)), xc_X12_read)
abbrev n_X12_read : Nat := 205
def xc_X12_part : List xI := [
  (0, .iload_n 1, 1, []),
  (1, .ifCond .ne 10, 4, [11]),
  (4, .aload_n 0, 5, []),
  (5, .getfield 222, 8, [12, 4]),
  (8, .goto 22, 11, [30]),
  (11, .iload_n 1, 12, []),
  (12, .iconst 1, 13, []),
  (13, .if_icmp .ne 10, 16, [23]),
  (16, .aload_n 0, 17, []),
  (17, .getfield 23, 20, [12, 5]),
  (20, .goto 10, 23, [30]),
  (23, .aload_n 0, 24, []),
  (24, .bipush (-2), 26, []),
  (26, .invokevirtual 89, 29, [1, 12, 131]),
  (29, .i2l, 30, []),
  (30, .lreturn, 31, [])]
def xm_X12_part : xM := ((yX12_part, cX12_part, 2, (some .long)), xc_X12_part)
abbrev n_X12_part : Nat := 206
def xc_X12_image : List xI := [
  (0, .iload_n 1, 1, []),
  (1, .i2l, 2, []),
  (2, .lconst 0, 3, []),
  (3, .lconst 1, 4, []),
  (4, .invokestatic 64, 7, [3, 130]),
  (7, .ifCond .ne 10, 10, [17]),
  (10, .aload_n 0, 11, []),
  (11, .bipush (-2), 13, []),
  (13, .invokevirtual 89, 16, [1, 12, 131]),
  (16, .ireturn, 17, []),
  (17, .iconst 0, 18, []),
  (18, .istore_n 2, 19, []),
  (19, .iload_n 2, 20, []),
  (20, .sipush 523, 23, []),
  (23, .if_icmp .ge 27, 26, [50]),
  (26, .aload_n 0, 27, []),
  (27, .getfield 13, 30, [12, 1]),
  (30, .sipush 523, 33, []),
  (33, .iload_n 1, 34, []),
  (34, .imul, 35, []),
  (35, .iload_n 2, 36, []),
  (36, .iadd, 37, []),
  (37, .aload_n 0, 38, []),
  (38, .getfield 7, 41, [12, 0]),
  (41, .iload_n 2, 42, []),
  (42, .iaload, 43, []),
  (43, .iastore, 44, []),
  (44, .iinc 2 1, 47, []),
  (47, .goto (-28), 50, [19]),
  (50, .aload_n 0, 51, []),
  (51, .getfield 16, 54, [12, 2]),
  (54, .iload_n 1, 55, []),
  (55, .iconst 1, 56, []),
  (56, .bastore, 57, []),
  (57, .iconst 1, 58, []),
  (58, .ireturn, 59, [])]
def xm_X12_image : xM := ((yX12_image, cX12_image, 3, (some .int)), xc_X12_image)
abbrev n_X12_image : Nat := 207
def xc_X12_from : List xI := [
  (0, .iload_n 1, 1, []),
  (1, .i2l, 2, []),
  (2, .lconst 0, 3, []),
  (3, .lconst 1, 4, []),
  (4, .invokestatic 64, 7, [3, 130]),
  (7, .ifCond .ne 10, 10, [17]),
  (10, .aload_n 0, 11, []),
  (11, .bipush (-2), 13, []),
  (13, .invokevirtual 89, 16, [1, 12, 131]),
  (16, .ireturn, 17, []),
  (17, .aload_n 0, 18, []),
  (18, .getfield 16, 21, [12, 2]),
  (21, .iload_n 1, 22, []),
  (22, .baload, 23, []),
  (23, .ifCond .ne 8, 26, [31]),
  (26, .aload_n 0, 27, []),
  (27, .invokevirtual 157, 30, [0, 12, 132]),
  (30, .ireturn, 31, []),
  (31, .iconst 0, 32, []),
  (32, .istore_n 2, 33, []),
  (33, .iload_n 2, 34, []),
  (34, .sipush 523, 37, []),
  (37, .if_icmp .ge 27, 40, [64]),
  (40, .aload_n 0, 41, []),
  (41, .getfield 7, 44, [12, 0]),
  (44, .iload_n 2, 45, []),
  (45, .aload_n 0, 46, []),
  (46, .getfield 13, 49, [12, 1]),
  (49, .sipush 523, 52, []),
  (52, .iload_n 1, 53, []),
  (53, .imul, 54, []),
  (54, .iload_n 2, 55, []),
  (55, .iadd, 56, []),
  (56, .iaload, 57, []),
  (57, .iastore, 58, []),
  (58, .iinc 2 1, 61, []),
  (61, .goto (-28), 64, [33]),
  (64, .iconst 1, 65, []),
  (65, .ireturn, 66, [])]
def xm_X12_from : xM := ((yX12_from, cX12_from, 3, (some .int)), xc_X12_from)
abbrev n_X12_from : Nat := 208
def xc_X12_status : List xI := [
  (0, .iload_n 1, 1, []),
  (1, .i2l, 2, []),
  (2, .lconst 0, 3, []),
  (3, .ldc2_w 204, 6, [2]),
  (6, .invokestatic 64, 9, [3, 130]),
  (9, .ifCond .eq 12, 12, [21]),
  (12, .aload_n 0, 13, []),
  (13, .getfield 20, 16, [12, 3]),
  (16, .iload_n 1, 17, []),
  (17, .iaload, 18, []),
  (18, .goto 8, 21, [26]),
  (21, .aload_n 0, 22, []),
  (22, .iconst (-1), 23, []),
  (23, .invokevirtual 89, 26, [1, 12, 131]),
  (26, .ireturn, 27, [])]
def xm_X12_status : xM := ((yX12_status, cX12_status, 2, (some .int)), xc_X12_status)
abbrev n_X12_status : Nat := 209
def xc_X12_manyLet : List xI := [
  (0, .iconst 0, 1, []),
  (1, .istore_n 1, 2, []),
  (2, .iconst 0, 3, []),
  (3, .istore_n 2, 4, []),
  (4, .iload_n 2, 5, []),
  (5, .aload_n 0, 6, []),
  (6, .invokevirtual 60, 9, [0, 12, 135]),
  (9, .if_icmp .ge 27, 12, [36]),
  (12, .iload_n 1, 13, []),
  (13, .aload_n 0, 14, []),
  (14, .iload_n 2, 15, []),
  (15, .iconst 4, 16, []),
  (16, .invokevirtual 117, 19, [2, 12, 141]),
  (19, .iconst (-1), 20, []),
  (20, .if_icmp .ne 7, 23, [27]),
  (23, .iconst 0, 24, []),
  (24, .goto 4, 27, [28]),
  (27, .iconst 1, 28, []),
  (28, .iadd, 29, []),
  (29, .istore_n 1, 30, []),
  (30, .iinc 2 1, 33, []),
  (33, .goto (-29), 36, [4]),
  (36, .iload_n 1, 37, []),
  (37, .ireturn, 38, [])]
def xm_X12_manyLet : xM := ((yX12_manyLet, cX12_manyLet, 3, (some .int)), xc_X12_manyLet)
abbrev n_X12_manyLet : Nat := 210
def xc_X12_counted : List xI := [
  (0, .iload_n 1, 1, []),
  (1, .tableswitch 67 4 8 #[35, 40, 47, 54, 62], 36, [68, 36, 41, 48, 55, 63]),
  (36, .aload_n 0, 37, []),
  (37, .invokevirtual 302, 40, [0, 12, 210]),
  (40, .ireturn, 41, []),
  (41, .aload_n 0, 42, []),
  (42, .getfield 7, 45, [12, 0]),
  (45, .iconst 4, 46, []),
  (46, .iaload, 47, []),
  (47, .ireturn, 48, []),
  (48, .aload_n 0, 49, []),
  (49, .getfield 7, 52, [12, 0]),
  (52, .iconst 5, 53, []),
  (53, .iaload, 54, []),
  (54, .ireturn, 55, []),
  (55, .aload_n 0, 56, []),
  (56, .getfield 7, 59, [12, 0]),
  (59, .bipush 6, 61, []),
  (61, .iaload, 62, []),
  (62, .ireturn, 63, []),
  (63, .aload_n 0, 64, []),
  (64, .getfield 247, 67, [12, 20]),
  (67, .ireturn, 68, []),
  (68, .aload_n 0, 69, []),
  (69, .getfield 7, 72, [12, 0]),
  (72, .iload_n 1, 73, []),
  (73, .iaload, 74, []),
  (74, .ireturn, 75, [])]
def xm_X12_counted : xM := ((yX12_counted, cX12_counted, 2, (some .int)), xc_X12_counted)
abbrev n_X12_counted : Nat := 211
def xc_X12_count : List xI := [
  (0, .iload_n 1, 1, []),
  (1, .i2l, 2, []),
  (2, .lconst 0, 3, []),
  (3, .ldc2_w 305, 6, [8]),
  (6, .invokestatic 64, 9, [3, 130]),
  (9, .ifCond .eq 11, 12, [20]),
  (12, .aload_n 0, 13, []),
  (13, .iload_n 1, 14, []),
  (14, .invokevirtual 307, 17, [1, 12, 211]),
  (17, .goto 9, 20, [26]),
  (20, .aload_n 0, 21, []),
  (21, .bipush (-2), 23, []),
  (23, .invokevirtual 89, 26, [1, 12, 131]),
  (26, .ireturn, 27, [])]
def xm_X12_count : xM := ((yX12_count, cX12_count, 2, (some .int)), xc_X12_count)
abbrev n_X12_count : Nat := 212
def xc_X12_sums : List xI := [
  (0, .lload_n 1, 1, []),
  (1, .lstore 5, 3, []),
  (3, .iconst 0, 4, []),
  (4, .istore 7, 6, []),
  (6, .iload 7, 8, []),
  (8, .iload 4, 10, []),
  (10, .if_icmp .ge 28, 13, [38]),
  (13, .ldc2_w 310, 16, [31]),
  (16, .lload 5, 18, []),
  (18, .lmul, 19, []),
  (19, .aload_n 0, 20, []),
  (20, .getfield 7, 23, [12, 0]),
  (23, .iload_n 3, 24, []),
  (24, .iload 7, 26, []),
  (26, .iadd, 27, []),
  (27, .iaload, 28, []),
  (28, .i2l, 29, []),
  (29, .ladd, 30, []),
  (30, .lstore 5, 32, []),
  (32, .iinc 7 1, 35, []),
  (35, .goto (-29), 38, [6]),
  (38, .lload 5, 40, []),
  (40, .lreturn, 41, [])]
def xm_X12_sums : xM := ((yX12_sums, cX12_sums, 8, (some .long)), xc_X12_sums)
abbrev n_X12_sums : Nat := 213
def xc_X12_digest : List xI := [
  (0, .ldc2_w 312, 3, [997]),
  (3, .lstore_n 1, 4, []),
  (4, .iconst 0, 5, []),
  (5, .istore_n 3, 6, []),
  (6, .iload_n 3, 7, []),
  (7, .bipush 9, 9, []),
  (9, .if_icmp .ge 22, 12, [31]),
  (12, .ldc2_w 310, 15, [31]),
  (15, .lload_n 1, 16, []),
  (16, .lmul, 17, []),
  (17, .aload_n 0, 18, []),
  (18, .iload_n 3, 19, []),
  (19, .invokevirtual 307, 22, [1, 12, 211]),
  (22, .i2l, 23, []),
  (23, .ladd, 24, []),
  (24, .lstore_n 1, 25, []),
  (25, .iinc 3 1, 28, []),
  (28, .goto (-22), 31, [6]),
  (31, .aload_n 0, 32, []),
  (32, .lload_n 1, 33, []),
  (33, .bipush 7, 35, []),
  (35, .bipush 6, 37, []),
  (37, .aload_n 0, 38, []),
  (38, .invokevirtual 60, 41, [0, 12, 135]),
  (41, .imul, 42, []),
  (42, .invokevirtual 314, 45, [3, 12, 213]),
  (45, .lstore_n 1, 46, []),
  (46, .aload_n 0, 47, []),
  (47, .lload_n 1, 48, []),
  (48, .bipush 43, 50, []),
  (50, .iconst 3, 51, []),
  (51, .aload_n 0, 52, []),
  (52, .invokevirtual 68, 55, [0, 12, 136]),
  (55, .imul, 56, []),
  (56, .invokevirtual 314, 59, [3, 12, 213]),
  (59, .lstore_n 1, 60, []),
  (60, .aload_n 0, 61, []),
  (61, .lload_n 1, 62, []),
  (62, .bipush 61, 64, []),
  (64, .iconst 3, 65, []),
  (65, .aload_n 0, 66, []),
  (66, .getfield 7, 69, [12, 0]),
  (69, .iconst 4, 70, []),
  (70, .iaload, 71, []),
  (71, .imul, 72, []),
  (72, .invokevirtual 314, 75, [3, 12, 213]),
  (75, .lstore_n 1, 76, []),
  (76, .aload_n 0, 77, []),
  (77, .lload_n 1, 78, []),
  (78, .bipush 97, 80, []),
  (80, .iconst 3, 81, []),
  (81, .aload_n 0, 82, []),
  (82, .getfield 7, 85, [12, 0]),
  (85, .iconst 5, 86, []),
  (86, .iaload, 87, []),
  (87, .imul, 88, []),
  (88, .invokevirtual 314, 91, [3, 12, 213]),
  (91, .lstore_n 1, 92, []),
  (92, .ldc2_w 310, 95, [31]),
  (95, .ldc2_w 310, 98, [31]),
  (98, .lload_n 1, 99, []),
  (99, .lmul, 100, []),
  (100, .aload_n 0, 101, []),
  (101, .getfield 222, 104, [12, 4]),
  (104, .ladd, 105, []),
  (105, .lmul, 106, []),
  (106, .aload_n 0, 107, []),
  (107, .getfield 23, 110, [12, 5]),
  (110, .ladd, 111, []),
  (111, .lreturn, 112, [])]
def xm_X12_digest : xM := ((yX12_digest, cX12_digest, 4, (some .long)), xc_X12_digest)
abbrev n_X12_digest : Nat := 214
def xc_J9_floorMod_7cf53 : List xI := [
  (0, .iload_n 0, 1, []),
  (1, .iload_n 1, 2, []),
  (2, .irem, 3, []),
  (3, .istore_n 2, 4, []),
  (4, .iload_n 0, 5, []),
  (5, .iload_n 1, 6, []),
  (6, .ixor, 7, []),
  (7, .ifCond .ge 11, 10, [18]),
  (10, .iload_n 2, 11, []),
  (11, .ifCond .eq 7, 14, [18]),
  (14, .iload_n 2, 15, []),
  (15, .iload_n 1, 16, []),
  (16, .iadd, 17, []),
  (17, .ireturn, 18, []),
  (18, .iload_n 2, 19, []),
  (19, .ireturn, 20, [])]
def xm_J9_floorMod_7cf53 : xM := ((yJ9_floorMod_7cf53, cJ9_floorMod_7cf53, 3, (some .int)), xc_J9_floorMod_7cf53)
abbrev n_J9_floorMod_7cf53 : Nat := 215
def xc_J9_max_7cf53 : List xI := [
  (0, .iload_n 0, 1, []),
  (1, .iload_n 1, 2, []),
  (2, .if_icmp .lt 7, 5, [9]),
  (5, .iload_n 0, 6, []),
  (6, .goto 4, 9, [10]),
  (9, .iload_n 1, 10, []),
  (10, .ireturn, 11, [])]
def xm_J9_max_7cf53 : xM := ((yJ9_max_7cf53, cJ9_max_7cf53, 2, (some .int)), xc_J9_max_7cf53)
abbrev n_J9_max_7cf53 : Nat := 216
def xc_J9_min_7cf53 : List xI := [
  (0, .iload_n 0, 1, []),
  (1, .iload_n 1, 2, []),
  (2, .if_icmp .gt 7, 5, [9]),
  (5, .iload_n 0, 6, []),
  (6, .goto 4, 9, [10]),
  (9, .iload_n 1, 10, []),
  (10, .ireturn, 11, [])]
def xm_J9_min_7cf53 : xM := ((yJ9_min_7cf53, cJ9_min_7cf53, 2, (some .int)), xc_J9_min_7cf53)
abbrev n_J9_min_7cf53 : Nat := 217
def xc_J0_length_8abf5 : List xI := [
  (0, .aload_n 0, 1, []),
  (1, .getfield 9, 4, [13, 0]),
  (4, .arraylength, 5, []),
  (5, .aload_n 0, 6, []),
  (6, .invokevirtual 335, 9, [0, 13, 220]),
  (9, .ishr, 10, []),
  (10, .ireturn, 11, [])]
def xm_J0_length_8abf5 : xM := ((yJ0_length_8abf5, cJ0_length_8abf5, 1, (some .int)), xc_J0_length_8abf5)
abbrev n_J0_length_8abf5 : Nat := 218
def xc_J0_charAt_5068e : List xI := [
  (0, .aload_n 0, 1, []),
  (1, .invokevirtual 492, 4, [0, 13, 221]),
  (4, .ifCond .eq 12, 7, [16]),
  (7, .aload_n 0, 8, []),
  (8, .getfield 9, 11, [13, 0]),
  (11, .iload_n 1, 12, []),
  (12, .invokestatic 495, 15, [2, 223]),
  (15, .ireturn, 16, []),
  (16, .aload_n 0, 17, []),
  (17, .getfield 9, 20, [13, 0]),
  (20, .iload_n 1, 21, []),
  (24, .ireturn, 25, [])]
def xm_J0_charAt_5068e : xM := ((yJ0_charAt_5068e, cJ0_charAt_5068e, 2, (some .char)), xc_J0_charAt_5068e)
abbrev n_J0_charAt_5068e : Nat := 219
def xc_J0_coder_7d493 : List xI := [
  (0, .getstatic 38, 3, [0]),
  (3, .ifCond .eq 10, 6, [13]),
  (6, .aload_n 0, 7, []),
  (7, .getfield 15, 10, [13, 1]),
  (10, .goto 4, 13, [14]),
  (13, .iconst 1, 14, []),
  (14, .ireturn, 15, [])]
def xm_J0_coder_7d493 : xM := ((yJ0_coder_7d493, cJ0_coder_7d493, 1, (some .byte)), xc_J0_coder_7d493)
abbrev n_J0_coder_7d493 : Nat := 220
def xc_J0_isLatin1_aae02 : List xI := [
  (0, .getstatic 38, 3, [0]),
  (3, .ifCond .eq 14, 6, [17]),
  (6, .aload_n 0, 7, []),
  (7, .getfield 15, 10, [13, 1]),
  (10, .ifCond .ne 7, 13, [17]),
  (13, .iconst 1, 14, []),
  (14, .goto 4, 17, [18]),
  (17, .iconst 0, 18, []),
  (18, .ireturn, 19, [])]
def xm_J0_isLatin1_aae02 : xM := ((yJ0_isLatin1_aae02, cJ0_isLatin1_aae02, 1, (some .boolean)), xc_J0_isLatin1_aae02)
abbrev n_J0_isLatin1_aae02 : Nat := 221
def xc_J0_checkIndex_df160 : List xI := [
  (0, .iload_n 0, 1, []),
  (1, .iload_n 1, 2, []),
  (2, .getstatic 1053, 5, [1]),
  (5, .invokestatic 1059, 8, [3, 225]),
  (8, .pop, 9, []),
  (9, .return_, 10, [])]
def xm_J0_checkIndex_df160 : xM := ((yJ0_checkIndex_df160, cJ0_checkIndex_df160, 2, none), xc_J0_checkIndex_df160)
abbrev n_J0_checkIndex_df160 : Nat := 222
def xc_J1_charAt_3b067 : List xI := [
  (0, .iload_n 1, 1, []),
  (1, .aload_n 0, 2, []),
  (2, .arraylength, 3, []),
  (3, .invokestatic 9, 6, [2, 222]),
  (6, .aload_n 0, 7, []),
  (7, .iload_n 1, 8, []),
  (8, .baload, 9, []),
  (9, .sipush 255, 12, []),
  (12, .iand, 13, []),
  (13, .i2c, 14, []),
  (14, .ireturn, 15, [])]
def xm_J1_charAt_3b067 : xM := ((yJ1_charAt_3b067, cJ1_charAt_3b067, 2, (some .char)), xc_J1_charAt_3b067)
abbrev n_J1_charAt_3b067 : Nat := 223
def xc_J7_fill_53178 : List xI := [
  (0, .iconst 0, 1, []),
  (1, .istore_n 2, 2, []),
  (2, .aload_n 0, 3, []),
  (3, .arraylength, 4, []),
  (4, .istore_n 3, 5, []),
  (5, .iload_n 2, 6, []),
  (6, .iload_n 3, 7, []),
  (7, .if_icmp .ge 13, 10, [20]),
  (10, .aload_n 0, 11, []),
  (11, .iload_n 2, 12, []),
  (12, .iload_n 1, 13, []),
  (13, .iastore, 14, []),
  (14, .iinc 2 1, 17, []),
  (17, .goto (-12), 20, [5]),
  (20, .return_, 21, [])]
def xm_J7_fill_53178 : xM := ((yJ7_fill_53178, cJ7_fill_53178, 4, none), xc_J7_fill_53178)
abbrev n_J7_fill_53178 : Nat := 224
def xc_J3_checkIndex_8e157 : List xI := [
  (0, .iload_n 0, 1, []),
  (1, .ifCond .lt 8, 4, [9]),
  (4, .iload_n 0, 5, []),
  (5, .iload_n 1, 6, []),
  (6, .if_icmp .lt 10, 9, [16]),
  (9, .aload_n 2, 10, []),
  (10, .iload_n 0, 11, []),
  (11, .iload_n 1, 12, []),
  (16, .iload_n 0, 17, []),
  (17, .ireturn, 18, [])]
def xm_J3_checkIndex_8e157 : xM := ((yJ3_checkIndex_8e157, cJ3_checkIndex_8e157, 3, (some .int)), xc_J3_checkIndex_8e157)
abbrev n_J3_checkIndex_8e157 : Nat := 225
def xc_L_law_1 : List xI := [
  (0, .new 7, 3, [11]),
  (3, .dup, 4, []),
  (4, .invokespecial 9, 7, [0, 84]),
  (7, .astore_n 1, 8, []),
  (8, .new 10, 11, [12]),
  (11, .dup, 12, []),
  (12, .invokespecial 12, 15, [0, 129]),
  (15, .astore_n 2, 16, []),
  (16, .iconst 0, 17, []),
  (17, .istore_n 3, 18, []),
  (18, .iload_n 3, 19, []),
  (19, .aload_n 0, 20, []),
  (20, .arraylength, 21, []),
  (21, .iconst 5, 22, []),
  (22, .isub, 23, []),
  (23, .if_icmp .gt 1151, 26, [1174]),
  (26, .aload_n 0, 27, []),
  (27, .iload_n 3, 28, []),
  (28, .iaload, 29, []),
  (29, .bipush 63, 31, []),
  (31, .iand, 32, []),
  (32, .tableswitch 1136 0 33 #[152, 165, 218, 261, 294, 317, 330, 343, 376, 389, 402, 435, 468, 501, 544, 577, 600, 633, 686, 719, 742, 785, 828, 871, 884, 917, 940, 963, 1006, 1030, 1053, 1076, 1099, 1122], 184, [1168, 184, 197, 250, 293, 326, 349, 362, 375, 408, 421, 434, 467, 500, 533, 576, 609, 632, 665, 718, 751, 774, 817, 860, 903, 916, 949, 972, 995, 1038, 1062, 1085, 1108, 1131, 1154]),
  (184, .aload_n 1, 185, []),
  (185, .invokevirtual 13, 188, [0, 11, 85]),
  (188, .aload_n 2, 189, []),
  (189, .invokevirtual 17, 192, [0, 12, 143]),
  (192, .if_icmp .eq 976, 195, [1168]),
  (195, .iconst 0, 196, []),
  (196, .ireturn, 197, []),
  (197, .aload_n 1, 198, []),
  (198, .aload_n 0, 199, []),
  (199, .iload_n 3, 200, []),
  (200, .iconst 1, 201, []),
  (201, .iadd, 202, []),
  (202, .iaload, 203, []),
  (203, .aload_n 0, 204, []),
  (204, .iload_n 3, 205, []),
  (205, .iconst 2, 206, []),
  (206, .iadd, 207, []),
  (207, .iaload, 208, []),
  (208, .aload_n 0, 209, []),
  (209, .iload_n 3, 210, []),
  (210, .iconst 3, 211, []),
  (211, .iadd, 212, []),
  (212, .iaload, 213, []),
  (213, .aload_n 0, 214, []),
  (214, .iload_n 3, 215, []),
  (215, .iconst 4, 216, []),
  (216, .iadd, 217, []),
  (217, .iaload, 218, []),
  (218, .invokevirtual 18, 221, [4, 11, 86]),
  (221, .aload_n 2, 222, []),
  (222, .aload_n 0, 223, []),
  (223, .iload_n 3, 224, []),
  (224, .iconst 1, 225, []),
  (225, .iadd, 226, []),
  (226, .iaload, 227, []),
  (227, .aload_n 0, 228, []),
  (228, .iload_n 3, 229, []),
  (229, .iconst 2, 230, []),
  (230, .iadd, 231, []),
  (231, .iaload, 232, []),
  (232, .aload_n 0, 233, []),
  (233, .iload_n 3, 234, []),
  (234, .iconst 3, 235, []),
  (235, .iadd, 236, []),
  (236, .iaload, 237, []),
  (237, .aload_n 0, 238, []),
  (238, .iload_n 3, 239, []),
  (239, .iconst 4, 240, []),
  (240, .iadd, 241, []),
  (241, .iaload, 242, []),
  (242, .invokevirtual 22, 245, [4, 12, 146]),
  (245, .if_icmp .eq 923, 248, [1168]),
  (248, .iconst 0, 249, []),
  (249, .ireturn, 250, []),
  (250, .aload_n 1, 251, []),
  (251, .aload_n 0, 252, []),
  (252, .iload_n 3, 253, []),
  (253, .iconst 1, 254, [])]
def xc_L_law_2 : List xI := [
  (254, .iadd, 255, []),
  (255, .iaload, 256, []),
  (256, .aload_n 0, 257, []),
  (257, .iload_n 3, 258, []),
  (258, .iconst 2, 259, []),
  (259, .iadd, 260, []),
  (260, .iaload, 261, []),
  (261, .aload_n 0, 262, []),
  (262, .iload_n 3, 263, []),
  (263, .iconst 3, 264, []),
  (264, .iadd, 265, []),
  (265, .iaload, 266, []),
  (266, .invokevirtual 23, 269, [3, 11, 87]),
  (269, .aload_n 2, 270, []),
  (270, .aload_n 0, 271, []),
  (271, .iload_n 3, 272, []),
  (272, .iconst 1, 273, []),
  (273, .iadd, 274, []),
  (274, .iaload, 275, []),
  (275, .aload_n 0, 276, []),
  (276, .iload_n 3, 277, []),
  (277, .iconst 2, 278, []),
  (278, .iadd, 279, []),
  (279, .iaload, 280, []),
  (280, .aload_n 0, 281, []),
  (281, .iload_n 3, 282, []),
  (282, .iconst 3, 283, []),
  (283, .iadd, 284, []),
  (284, .iaload, 285, []),
  (285, .invokevirtual 27, 288, [3, 12, 149]),
  (288, .if_icmp .eq 880, 291, [1168]),
  (291, .iconst 0, 292, []),
  (292, .ireturn, 293, []),
  (293, .aload_n 1, 294, []),
  (294, .aload_n 0, 295, []),
  (295, .iload_n 3, 296, []),
  (296, .iconst 1, 297, []),
  (297, .iadd, 298, []),
  (298, .iaload, 299, []),
  (299, .aload_n 0, 300, []),
  (300, .iload_n 3, 301, []),
  (301, .iconst 2, 302, []),
  (302, .iadd, 303, []),
  (303, .iaload, 304, []),
  (304, .invokevirtual 28, 307, [2, 11, 88]),
  (307, .aload_n 2, 308, []),
  (308, .aload_n 0, 309, []),
  (309, .iload_n 3, 310, []),
  (310, .iconst 1, 311, []),
  (311, .iadd, 312, []),
  (312, .iaload, 313, []),
  (313, .aload_n 0, 314, []),
  (314, .iload_n 3, 315, []),
  (315, .iconst 2, 316, []),
  (316, .iadd, 317, []),
  (317, .iaload, 318, []),
  (318, .invokevirtual 32, 321, [2, 12, 150]),
  (321, .if_icmp .eq 847, 324, [1168]),
  (324, .iconst 0, 325, []),
  (325, .ireturn, 326, []),
  (326, .aload_n 1, 327, []),
  (327, .aload_n 0, 328, []),
  (328, .iload_n 3, 329, []),
  (329, .iconst 1, 330, []),
  (330, .iadd, 331, []),
  (331, .iaload, 332, []),
  (332, .invokevirtual 33, 335, [1, 11, 89]),
  (335, .aload_n 2, 336, []),
  (336, .aload_n 0, 337, []),
  (337, .iload_n 3, 338, []),
  (338, .iconst 1, 339, []),
  (339, .iadd, 340, []),
  (340, .iaload, 341, []),
  (341, .invokevirtual 37, 344, [1, 12, 193]),
  (344, .if_icmp .eq 824, 347, [1168]),
  (347, .iconst 0, 348, []),
  (348, .ireturn, 349, []),
  (349, .aload_n 1, 350, []),
  (350, .invokevirtual 38, 353, [0, 11, 90]),
  (353, .aload_n 2, 354, [])]
def xc_L_law_3 : List xI := [
  (354, .invokevirtual 41, 357, [0, 12, 194]),
  (357, .if_icmp .eq 811, 360, [1168]),
  (360, .iconst 0, 361, []),
  (361, .ireturn, 362, []),
  (362, .aload_n 1, 363, []),
  (363, .invokevirtual 42, 366, [0, 11, 91]),
  (366, .aload_n 2, 367, []),
  (367, .invokevirtual 45, 370, [0, 12, 205]),
  (370, .if_icmp .eq 798, 373, [1168]),
  (373, .iconst 0, 374, []),
  (374, .ireturn, 375, []),
  (375, .aload_n 1, 376, []),
  (376, .aload_n 0, 377, []),
  (377, .iload_n 3, 378, []),
  (378, .iconst 1, 379, []),
  (379, .iadd, 380, []),
  (380, .iaload, 381, []),
  (381, .aload_n 0, 382, []),
  (382, .iload_n 3, 383, []),
  (383, .iconst 2, 384, []),
  (384, .iadd, 385, []),
  (385, .iaload, 386, []),
  (386, .invokevirtual 46, 389, [2, 11, 92]),
  (389, .aload_n 2, 390, []),
  (390, .aload_n 0, 391, []),
  (391, .iload_n 3, 392, []),
  (392, .iconst 1, 393, []),
  (393, .iadd, 394, []),
  (394, .iaload, 395, []),
  (395, .aload_n 0, 396, []),
  (396, .iload_n 3, 397, []),
  (397, .iconst 2, 398, []),
  (398, .iadd, 399, []),
  (399, .iaload, 400, []),
  (400, .invokevirtual 49, 403, [2, 12, 162]),
  (403, .if_icmp .eq 765, 406, [1168]),
  (406, .iconst 0, 407, []),
  (407, .ireturn, 408, []),
  (408, .aload_n 1, 409, []),
  (409, .invokevirtual 50, 412, [0, 11, 93]),
  (412, .aload_n 2, 413, []),
  (413, .invokevirtual 53, 416, [0, 12, 163]),
  (416, .if_icmp .eq 752, 419, [1168]),
  (419, .iconst 0, 420, []),
  (420, .ireturn, 421, []),
  (421, .aload_n 1, 422, []),
  (422, .invokevirtual 54, 425, [0, 11, 94]),
  (425, .aload_n 2, 426, []),
  (426, .invokevirtual 57, 429, [0, 12, 164]),
  (429, .if_icmp .eq 739, 432, [1168]),
  (432, .iconst 0, 433, []),
  (433, .ireturn, 434, []),
  (434, .aload_n 1, 435, []),
  (435, .aload_n 0, 436, []),
  (436, .iload_n 3, 437, []),
  (437, .iconst 1, 438, []),
  (438, .iadd, 439, []),
  (439, .iaload, 440, []),
  (440, .aload_n 0, 441, []),
  (441, .iload_n 3, 442, []),
  (442, .iconst 2, 443, []),
  (443, .iadd, 444, []),
  (444, .iaload, 445, []),
  (445, .invokevirtual 58, 448, [2, 11, 95]),
  (448, .aload_n 2, 449, []),
  (449, .aload_n 0, 450, []),
  (450, .iload_n 3, 451, []),
  (451, .iconst 1, 452, []),
  (452, .iadd, 453, []),
  (453, .iaload, 454, []),
  (454, .aload_n 0, 455, []),
  (455, .iload_n 3, 456, []),
  (456, .iconst 2, 457, []),
  (457, .iadd, 458, []),
  (458, .iaload, 459, []),
  (459, .invokevirtual 61, 462, [2, 12, 165]),
  (462, .if_icmp .eq 706, 465, [1168]),
  (465, .iconst 0, 466, []),
  (466, .ireturn, 467, []),
  (467, .aload_n 1, 468, [])]
def xc_L_law_4 : List xI := [
  (468, .aload_n 0, 469, []),
  (469, .iload_n 3, 470, []),
  (470, .iconst 1, 471, []),
  (471, .iadd, 472, []),
  (472, .iaload, 473, []),
  (473, .aload_n 0, 474, []),
  (474, .iload_n 3, 475, []),
  (475, .iconst 2, 476, []),
  (476, .iadd, 477, []),
  (477, .iaload, 478, []),
  (478, .invokevirtual 62, 481, [2, 11, 96]),
  (481, .aload_n 2, 482, []),
  (482, .aload_n 0, 483, []),
  (483, .iload_n 3, 484, []),
  (484, .iconst 1, 485, []),
  (485, .iadd, 486, []),
  (486, .iaload, 487, []),
  (487, .aload_n 0, 488, []),
  (488, .iload_n 3, 489, []),
  (489, .iconst 2, 490, []),
  (490, .iadd, 491, []),
  (491, .iaload, 492, []),
  (492, .invokevirtual 65, 495, [2, 12, 166]),
  (495, .if_icmp .eq 673, 498, [1168]),
  (498, .iconst 0, 499, []),
  (499, .ireturn, 500, []),
  (500, .aload_n 1, 501, []),
  (501, .aload_n 0, 502, []),
  (502, .iload_n 3, 503, []),
  (503, .iconst 1, 504, []),
  (504, .iadd, 505, []),
  (505, .iaload, 506, []),
  (506, .aload_n 0, 507, []),
  (507, .iload_n 3, 508, []),
  (508, .iconst 2, 509, []),
  (509, .iadd, 510, []),
  (510, .iaload, 511, []),
  (511, .invokevirtual 66, 514, [2, 11, 97]),
  (514, .aload_n 2, 515, []),
  (515, .aload_n 0, 516, []),
  (516, .iload_n 3, 517, []),
  (517, .iconst 1, 518, []),
  (518, .iadd, 519, []),
  (519, .iaload, 520, []),
  (520, .aload_n 0, 521, []),
  (521, .iload_n 3, 522, []),
  (522, .iconst 2, 523, []),
  (523, .iadd, 524, []),
  (524, .iaload, 525, []),
  (525, .invokevirtual 69, 528, [2, 12, 167]),
  (528, .if_icmp .eq 640, 531, [1168]),
  (531, .iconst 0, 532, []),
  (532, .ireturn, 533, []),
  (533, .aload_n 1, 534, []),
  (534, .aload_n 0, 535, []),
  (535, .iload_n 3, 536, []),
  (536, .iconst 1, 537, []),
  (537, .iadd, 538, []),
  (538, .iaload, 539, []),
  (539, .aload_n 0, 540, []),
  (540, .iload_n 3, 541, []),
  (541, .iconst 2, 542, []),
  (542, .iadd, 543, []),
  (543, .iaload, 544, []),
  (544, .aload_n 0, 545, []),
  (545, .iload_n 3, 546, []),
  (546, .iconst 3, 547, []),
  (547, .iadd, 548, []),
  (548, .iaload, 549, []),
  (549, .invokevirtual 70, 552, [3, 11, 98]),
  (552, .aload_n 2, 553, []),
  (553, .aload_n 0, 554, []),
  (554, .iload_n 3, 555, []),
  (555, .iconst 1, 556, []),
  (556, .iadd, 557, []),
  (557, .iaload, 558, []),
  (558, .aload_n 0, 559, []),
  (559, .iload_n 3, 560, []),
  (560, .iconst 2, 561, []),
  (561, .iadd, 562, [])]
def xc_L_law_5 : List xI := [
  (562, .iaload, 563, []),
  (563, .aload_n 0, 564, []),
  (564, .iload_n 3, 565, []),
  (565, .iconst 3, 566, []),
  (566, .iadd, 567, []),
  (567, .iaload, 568, []),
  (568, .invokevirtual 73, 571, [3, 12, 168]),
  (571, .if_icmp .eq 597, 574, [1168]),
  (574, .iconst 0, 575, []),
  (575, .ireturn, 576, []),
  (576, .aload_n 1, 577, []),
  (577, .aload_n 0, 578, []),
  (578, .iload_n 3, 579, []),
  (579, .iconst 1, 580, []),
  (580, .iadd, 581, []),
  (581, .iaload, 582, []),
  (582, .aload_n 0, 583, []),
  (583, .iload_n 3, 584, []),
  (584, .iconst 2, 585, []),
  (585, .iadd, 586, []),
  (586, .iaload, 587, []),
  (587, .invokevirtual 74, 590, [2, 11, 99]),
  (590, .aload_n 2, 591, []),
  (591, .aload_n 0, 592, []),
  (592, .iload_n 3, 593, []),
  (593, .iconst 1, 594, []),
  (594, .iadd, 595, []),
  (595, .iaload, 596, []),
  (596, .aload_n 0, 597, []),
  (597, .iload_n 3, 598, []),
  (598, .iconst 2, 599, []),
  (599, .iadd, 600, []),
  (600, .iaload, 601, []),
  (601, .invokevirtual 77, 604, [2, 12, 173]),
  (604, .if_icmp .eq 564, 607, [1168]),
  (607, .iconst 0, 608, []),
  (608, .ireturn, 609, []),
  (609, .aload_n 1, 610, []),
  (610, .aload_n 0, 611, []),
  (611, .iload_n 3, 612, []),
  (612, .iconst 1, 613, []),
  (613, .iadd, 614, []),
  (614, .iaload, 615, []),
  (615, .invokevirtual 78, 618, [1, 11, 100]),
  (618, .aload_n 2, 619, []),
  (619, .aload_n 0, 620, []),
  (620, .iload_n 3, 621, []),
  (621, .iconst 1, 622, []),
  (622, .iadd, 623, []),
  (623, .iaload, 624, []),
  (624, .invokevirtual 81, 627, [1, 12, 174]),
  (627, .if_icmp .eq 541, 630, [1168]),
  (630, .iconst 0, 631, []),
  (631, .ireturn, 632, []),
  (632, .aload_n 1, 633, []),
  (633, .aload_n 0, 634, []),
  (634, .iload_n 3, 635, []),
  (635, .iconst 1, 636, []),
  (636, .iadd, 637, []),
  (637, .iaload, 638, []),
  (638, .aload_n 0, 639, []),
  (639, .iload_n 3, 640, []),
  (640, .iconst 2, 641, []),
  (641, .iadd, 642, []),
  (642, .iaload, 643, []),
  (643, .invokevirtual 82, 646, [2, 11, 101]),
  (646, .aload_n 2, 647, []),
  (647, .aload_n 0, 648, []),
  (648, .iload_n 3, 649, []),
  (649, .iconst 1, 650, []),
  (650, .iadd, 651, []),
  (651, .iaload, 652, []),
  (652, .aload_n 0, 653, []),
  (653, .iload_n 3, 654, []),
  (654, .iconst 2, 655, []),
  (655, .iadd, 656, []),
  (656, .iaload, 657, []),
  (657, .invokevirtual 85, 660, [2, 12, 177]),
  (660, .if_icmp .eq 508, 663, [1168]),
  (663, .iconst 0, 664, [])]
def xc_L_law_6 : List xI := [
  (664, .ireturn, 665, []),
  (665, .aload_n 1, 666, []),
  (666, .aload_n 0, 667, []),
  (667, .iload_n 3, 668, []),
  (668, .iconst 1, 669, []),
  (669, .iadd, 670, []),
  (670, .iaload, 671, []),
  (671, .aload_n 0, 672, []),
  (672, .iload_n 3, 673, []),
  (673, .iconst 2, 674, []),
  (674, .iadd, 675, []),
  (675, .iaload, 676, []),
  (676, .aload_n 0, 677, []),
  (677, .iload_n 3, 678, []),
  (678, .iconst 3, 679, []),
  (679, .iadd, 680, []),
  (680, .iaload, 681, []),
  (681, .aload_n 0, 682, []),
  (682, .iload_n 3, 683, []),
  (683, .iconst 4, 684, []),
  (684, .iadd, 685, []),
  (685, .iaload, 686, []),
  (686, .invokevirtual 86, 689, [4, 11, 102]),
  (689, .aload_n 2, 690, []),
  (690, .aload_n 0, 691, []),
  (691, .iload_n 3, 692, []),
  (692, .iconst 1, 693, []),
  (693, .iadd, 694, []),
  (694, .iaload, 695, []),
  (695, .aload_n 0, 696, []),
  (696, .iload_n 3, 697, []),
  (697, .iconst 2, 698, []),
  (698, .iadd, 699, []),
  (699, .iaload, 700, []),
  (700, .aload_n 0, 701, []),
  (701, .iload_n 3, 702, []),
  (702, .iconst 3, 703, []),
  (703, .iadd, 704, []),
  (704, .iaload, 705, []),
  (705, .aload_n 0, 706, []),
  (706, .iload_n 3, 707, []),
  (707, .iconst 4, 708, []),
  (708, .iadd, 709, []),
  (709, .iaload, 710, []),
  (710, .invokevirtual 89, 713, [4, 12, 178]),
  (713, .if_icmp .eq 455, 716, [1168]),
  (716, .iconst 0, 717, []),
  (717, .ireturn, 718, []),
  (718, .aload_n 1, 719, []),
  (719, .aload_n 0, 720, []),
  (720, .iload_n 3, 721, []),
  (721, .iconst 1, 722, []),
  (722, .iadd, 723, []),
  (723, .iaload, 724, []),
  (724, .aload_n 0, 725, []),
  (725, .iload_n 3, 726, []),
  (726, .iconst 2, 727, []),
  (727, .iadd, 728, []),
  (728, .iaload, 729, []),
  (729, .invokevirtual 90, 732, [2, 11, 103]),
  (732, .aload_n 2, 733, []),
  (733, .aload_n 0, 734, []),
  (734, .iload_n 3, 735, []),
  (735, .iconst 1, 736, []),
  (736, .iadd, 737, []),
  (737, .iaload, 738, []),
  (738, .aload_n 0, 739, []),
  (739, .iload_n 3, 740, []),
  (740, .iconst 2, 741, []),
  (741, .iadd, 742, []),
  (742, .iaload, 743, []),
  (743, .invokevirtual 93, 746, [2, 12, 179]),
  (746, .if_icmp .eq 422, 749, [1168]),
  (749, .iconst 0, 750, []),
  (750, .ireturn, 751, []),
  (751, .aload_n 1, 752, []),
  (752, .aload_n 0, 753, []),
  (753, .iload_n 3, 754, []),
  (754, .iconst 1, 755, []),
  (755, .iadd, 756, [])]
def xc_L_law_7 : List xI := [
  (756, .iaload, 757, []),
  (757, .invokevirtual 94, 760, [1, 11, 104]),
  (760, .aload_n 2, 761, []),
  (761, .aload_n 0, 762, []),
  (762, .iload_n 3, 763, []),
  (763, .iconst 1, 764, []),
  (764, .iadd, 765, []),
  (765, .iaload, 766, []),
  (766, .invokevirtual 97, 769, [1, 12, 181]),
  (769, .if_icmp .eq 399, 772, [1168]),
  (772, .iconst 0, 773, []),
  (773, .ireturn, 774, []),
  (774, .aload_n 1, 775, []),
  (775, .aload_n 0, 776, []),
  (776, .iload_n 3, 777, []),
  (777, .iconst 1, 778, []),
  (778, .iadd, 779, []),
  (779, .iaload, 780, []),
  (780, .aload_n 0, 781, []),
  (781, .iload_n 3, 782, []),
  (782, .iconst 2, 783, []),
  (783, .iadd, 784, []),
  (784, .iaload, 785, []),
  (785, .aload_n 0, 786, []),
  (786, .iload_n 3, 787, []),
  (787, .iconst 3, 788, []),
  (788, .iadd, 789, []),
  (789, .iaload, 790, []),
  (790, .invokevirtual 98, 793, [3, 11, 105]),
  (793, .aload_n 2, 794, []),
  (794, .aload_n 0, 795, []),
  (795, .iload_n 3, 796, []),
  (796, .iconst 1, 797, []),
  (797, .iadd, 798, []),
  (798, .iaload, 799, []),
  (799, .aload_n 0, 800, []),
  (800, .iload_n 3, 801, []),
  (801, .iconst 2, 802, []),
  (802, .iadd, 803, []),
  (803, .iaload, 804, []),
  (804, .aload_n 0, 805, []),
  (805, .iload_n 3, 806, []),
  (806, .iconst 3, 807, []),
  (807, .iadd, 808, []),
  (808, .iaload, 809, []),
  (809, .invokevirtual 101, 812, [3, 12, 182]),
  (812, .if_icmp .eq 356, 815, [1168]),
  (815, .iconst 0, 816, []),
  (816, .ireturn, 817, []),
  (817, .aload_n 1, 818, []),
  (818, .aload_n 0, 819, []),
  (819, .iload_n 3, 820, []),
  (820, .iconst 1, 821, []),
  (821, .iadd, 822, []),
  (822, .iaload, 823, []),
  (823, .aload_n 0, 824, []),
  (824, .iload_n 3, 825, []),
  (825, .iconst 2, 826, []),
  (826, .iadd, 827, []),
  (827, .iaload, 828, []),
  (828, .aload_n 0, 829, []),
  (829, .iload_n 3, 830, []),
  (830, .iconst 3, 831, []),
  (831, .iadd, 832, []),
  (832, .iaload, 833, []),
  (833, .invokevirtual 102, 836, [3, 11, 106]),
  (836, .aload_n 2, 837, []),
  (837, .aload_n 0, 838, []),
  (838, .iload_n 3, 839, []),
  (839, .iconst 1, 840, []),
  (840, .iadd, 841, []),
  (841, .iaload, 842, []),
  (842, .aload_n 0, 843, []),
  (843, .iload_n 3, 844, []),
  (844, .iconst 2, 845, []),
  (845, .iadd, 846, []),
  (846, .iaload, 847, []),
  (847, .aload_n 0, 848, []),
  (848, .iload_n 3, 849, []),
  (849, .iconst 3, 850, [])]
def xc_L_law_8 : List xI := [
  (850, .iadd, 851, []),
  (851, .iaload, 852, []),
  (852, .invokevirtual 105, 855, [3, 12, 183]),
  (855, .if_icmp .eq 313, 858, [1168]),
  (858, .iconst 0, 859, []),
  (859, .ireturn, 860, []),
  (860, .aload_n 1, 861, []),
  (861, .aload_n 0, 862, []),
  (862, .iload_n 3, 863, []),
  (863, .iconst 1, 864, []),
  (864, .iadd, 865, []),
  (865, .iaload, 866, []),
  (866, .aload_n 0, 867, []),
  (867, .iload_n 3, 868, []),
  (868, .iconst 2, 869, []),
  (869, .iadd, 870, []),
  (870, .iaload, 871, []),
  (871, .aload_n 0, 872, []),
  (872, .iload_n 3, 873, []),
  (873, .iconst 3, 874, []),
  (874, .iadd, 875, []),
  (875, .iaload, 876, []),
  (876, .invokevirtual 106, 879, [3, 11, 107]),
  (879, .aload_n 2, 880, []),
  (880, .aload_n 0, 881, []),
  (881, .iload_n 3, 882, []),
  (882, .iconst 1, 883, []),
  (883, .iadd, 884, []),
  (884, .iaload, 885, []),
  (885, .aload_n 0, 886, []),
  (886, .iload_n 3, 887, []),
  (887, .iconst 2, 888, []),
  (888, .iadd, 889, []),
  (889, .iaload, 890, []),
  (890, .aload_n 0, 891, []),
  (891, .iload_n 3, 892, []),
  (892, .iconst 3, 893, []),
  (893, .iadd, 894, []),
  (894, .iaload, 895, []),
  (895, .invokevirtual 109, 898, [3, 12, 184]),
  (898, .if_icmp .eq 270, 901, [1168]),
  (901, .iconst 0, 902, []),
  (902, .ireturn, 903, []),
  (903, .aload_n 1, 904, []),
  (904, .invokevirtual 110, 907, [0, 11, 108]),
  (907, .aload_n 2, 908, []),
  (908, .invokevirtual 113, 911, [0, 12, 185]),
  (911, .if_icmp .eq 257, 914, [1168]),
  (914, .iconst 0, 915, []),
  (915, .ireturn, 916, []),
  (916, .aload_n 1, 917, []),
  (917, .aload_n 0, 918, []),
  (918, .iload_n 3, 919, []),
  (919, .iconst 1, 920, []),
  (920, .iadd, 921, []),
  (921, .iaload, 922, []),
  (922, .aload_n 0, 923, []),
  (923, .iload_n 3, 924, []),
  (924, .iconst 2, 925, []),
  (925, .iadd, 926, []),
  (926, .iaload, 927, []),
  (927, .invokevirtual 114, 930, [2, 11, 109]),
  (930, .aload_n 2, 931, []),
  (931, .aload_n 0, 932, []),
  (932, .iload_n 3, 933, []),
  (933, .iconst 1, 934, []),
  (934, .iadd, 935, []),
  (935, .iaload, 936, []),
  (936, .aload_n 0, 937, []),
  (937, .iload_n 3, 938, []),
  (938, .iconst 2, 939, []),
  (939, .iadd, 940, []),
  (940, .iaload, 941, []),
  (941, .invokevirtual 117, 944, [2, 12, 187]),
  (944, .if_icmp .eq 224, 947, [1168]),
  (947, .iconst 0, 948, []),
  (948, .ireturn, 949, []),
  (949, .aload_n 1, 950, []),
  (950, .aload_n 0, 951, []),
  (951, .iload_n 3, 952, [])]
def xc_L_law_9 : List xI := [
  (952, .iconst 1, 953, []),
  (953, .iadd, 954, []),
  (954, .iaload, 955, []),
  (955, .invokevirtual 118, 958, [1, 11, 110]),
  (958, .aload_n 2, 959, []),
  (959, .aload_n 0, 960, []),
  (960, .iload_n 3, 961, []),
  (961, .iconst 1, 962, []),
  (962, .iadd, 963, []),
  (963, .iaload, 964, []),
  (964, .invokevirtual 121, 967, [1, 12, 189]),
  (967, .if_icmp .eq 201, 970, [1168]),
  (970, .iconst 0, 971, []),
  (971, .ireturn, 972, []),
  (972, .aload_n 1, 973, []),
  (973, .aload_n 0, 974, []),
  (974, .iload_n 3, 975, []),
  (975, .iconst 1, 976, []),
  (976, .iadd, 977, []),
  (977, .iaload, 978, []),
  (978, .invokevirtual 122, 981, [1, 11, 111]),
  (981, .aload_n 2, 982, []),
  (982, .aload_n 0, 983, []),
  (983, .iload_n 3, 984, []),
  (984, .iconst 1, 985, []),
  (985, .iadd, 986, []),
  (986, .iaload, 987, []),
  (987, .invokevirtual 125, 990, [1, 12, 191]),
  (990, .if_icmp .eq 178, 993, [1168]),
  (993, .iconst 0, 994, []),
  (994, .ireturn, 995, []),
  (995, .aload_n 1, 996, []),
  (996, .aload_n 0, 997, []),
  (997, .iload_n 3, 998, []),
  (998, .iconst 1, 999, []),
  (999, .iadd, 1000, []),
  (1000, .iaload, 1001, []),
  (1001, .aload_n 0, 1002, []),
  (1002, .iload_n 3, 1003, []),
  (1003, .iconst 2, 1004, []),
  (1004, .iadd, 1005, []),
  (1005, .iaload, 1006, []),
  (1006, .aload_n 0, 1007, []),
  (1007, .iload_n 3, 1008, []),
  (1008, .iconst 3, 1009, []),
  (1009, .iadd, 1010, []),
  (1010, .iaload, 1011, []),
  (1011, .invokevirtual 126, 1014, [3, 11, 112]),
  (1014, .aload_n 2, 1015, []),
  (1015, .aload_n 0, 1016, []),
  (1016, .iload_n 3, 1017, []),
  (1017, .iconst 1, 1018, []),
  (1018, .iadd, 1019, []),
  (1019, .iaload, 1020, []),
  (1020, .aload_n 0, 1021, []),
  (1021, .iload_n 3, 1022, []),
  (1022, .iconst 2, 1023, []),
  (1023, .iadd, 1024, []),
  (1024, .iaload, 1025, []),
  (1025, .aload_n 0, 1026, []),
  (1026, .iload_n 3, 1027, []),
  (1027, .iconst 3, 1028, []),
  (1028, .iadd, 1029, []),
  (1029, .iaload, 1030, []),
  (1030, .invokevirtual 129, 1033, [3, 12, 192]),
  (1033, .if_icmp .eq 135, 1036, [1168]),
  (1036, .iconst 0, 1037, []),
  (1037, .ireturn, 1038, []),
  (1038, .aload_n 1, 1039, []),
  (1039, .aload_n 0, 1040, []),
  (1040, .iload_n 3, 1041, []),
  (1041, .iconst 1, 1042, []),
  (1042, .iadd, 1043, []),
  (1043, .iaload, 1044, []),
  (1044, .invokevirtual 130, 1047, [1, 11, 113]),
  (1047, .aload_n 2, 1048, []),
  (1048, .aload_n 0, 1049, []),
  (1049, .iload_n 3, 1050, []),
  (1050, .iconst 1, 1051, []),
  (1051, .iadd, 1052, [])]
def xc_L_law_10 : List xI := [
  (1052, .iaload, 1053, []),
  (1053, .invokevirtual 134, 1056, [1, 12, 206]),
  (1056, .lcmp, 1057, []),
  (1057, .ifCond .eq 111, 1060, [1168]),
  (1060, .iconst 0, 1061, []),
  (1061, .ireturn, 1062, []),
  (1062, .aload_n 1, 1063, []),
  (1063, .aload_n 0, 1064, []),
  (1064, .iload_n 3, 1065, []),
  (1065, .iconst 1, 1066, []),
  (1066, .iadd, 1067, []),
  (1067, .iaload, 1068, []),
  (1068, .invokevirtual 135, 1071, [1, 11, 114]),
  (1071, .aload_n 2, 1072, []),
  (1072, .aload_n 0, 1073, []),
  (1073, .iload_n 3, 1074, []),
  (1074, .iconst 1, 1075, []),
  (1075, .iadd, 1076, []),
  (1076, .iaload, 1077, []),
  (1077, .invokevirtual 138, 1080, [1, 12, 207]),
  (1080, .if_icmp .eq 88, 1083, [1168]),
  (1083, .iconst 0, 1084, []),
  (1084, .ireturn, 1085, []),
  (1085, .aload_n 1, 1086, []),
  (1086, .aload_n 0, 1087, []),
  (1087, .iload_n 3, 1088, []),
  (1088, .iconst 1, 1089, []),
  (1089, .iadd, 1090, []),
  (1090, .iaload, 1091, []),
  (1091, .invokevirtual 139, 1094, [1, 11, 115]),
  (1094, .aload_n 2, 1095, []),
  (1095, .aload_n 0, 1096, []),
  (1096, .iload_n 3, 1097, []),
  (1097, .iconst 1, 1098, []),
  (1098, .iadd, 1099, []),
  (1099, .iaload, 1100, []),
  (1100, .invokevirtual 142, 1103, [1, 12, 208]),
  (1103, .if_icmp .eq 65, 1106, [1168]),
  (1106, .iconst 0, 1107, []),
  (1107, .ireturn, 1108, []),
  (1108, .aload_n 1, 1109, []),
  (1109, .aload_n 0, 1110, []),
  (1110, .iload_n 3, 1111, []),
  (1111, .iconst 1, 1112, []),
  (1112, .iadd, 1113, []),
  (1113, .iaload, 1114, []),
  (1114, .invokevirtual 143, 1117, [1, 11, 116]),
  (1117, .aload_n 2, 1118, []),
  (1118, .aload_n 0, 1119, []),
  (1119, .iload_n 3, 1120, []),
  (1120, .iconst 1, 1121, []),
  (1121, .iadd, 1122, []),
  (1122, .iaload, 1123, []),
  (1123, .invokevirtual 146, 1126, [1, 12, 209]),
  (1126, .if_icmp .eq 42, 1129, [1168]),
  (1129, .iconst 0, 1130, []),
  (1130, .ireturn, 1131, []),
  (1131, .aload_n 1, 1132, []),
  (1132, .aload_n 0, 1133, []),
  (1133, .iload_n 3, 1134, []),
  (1134, .iconst 1, 1135, []),
  (1135, .iadd, 1136, []),
  (1136, .iaload, 1137, []),
  (1137, .invokevirtual 147, 1140, [1, 11, 117]),
  (1140, .aload_n 2, 1141, []),
  (1141, .aload_n 0, 1142, []),
  (1142, .iload_n 3, 1143, []),
  (1143, .iconst 1, 1144, []),
  (1144, .iadd, 1145, []),
  (1145, .iaload, 1146, []),
  (1146, .invokevirtual 150, 1149, [1, 12, 212]),
  (1149, .if_icmp .eq 19, 1152, [1168]),
  (1152, .iconst 0, 1153, []),
  (1153, .ireturn, 1154, []),
  (1154, .aload_n 1, 1155, []),
  (1155, .invokevirtual 151, 1158, [0, 11, 118]),
  (1158, .aload_n 2, 1159, []),
  (1159, .invokevirtual 155, 1162, [0, 12, 214]),
  (1162, .lcmp, 1163, []),
  (1163, .ifCond .eq 5, 1166, [1168])]
def xc_L_law_11 : List xI := [
  (1166, .iconst 0, 1167, []),
  (1167, .ireturn, 1168, []),
  (1168, .iinc 3 5, 1171, []),
  (1171, .goto (-1153), 1174, [18]),
  (1174, .iconst 1, 1175, []),
  (1175, .ireturn, 1176, [])]
def xc_L_law : List xI := xc_L_law_1 ++ (xc_L_law_2 ++ (xc_L_law_3 ++ (xc_L_law_4 ++ (xc_L_law_5 ++ (xc_L_law_6 ++ (xc_L_law_7 ++ (xc_L_law_8 ++ (xc_L_law_9 ++ (xc_L_law_10 ++ (xc_L_law_11))))))))))
def xm_L_law : xM := ((yL_law, cL_law, 4, (some .boolean)), xc_L_law)
abbrev n_L_law : Nat := 226
def xtab : List xM := [xm_X0_init, xm_X0_empty, xm_X0_copyFrom, xm_X0_bringAllBack, xm_X0_write, xm_X0_dropFirstLetting, xm_X0_viewHeldBy, xm_X0_letNow, xm_X0_rentersWhoHad, xm_X0_firstEveningOf, xm_X1_init, xm_X1_fee, xm_X1_fits, xm_X2_init, xm_X2_suitedIn, xm_X2_moneyIn, xm_X2_open, xm_X2_addRenter, xm_X2_suitsAtAnyPrice, xm_X2_isSuited, xm_X2_solve, xm_X2_mostFor, xm_X2_viewInBest, xm_X2_firstBest, xm_X2_asTheyCome, xm_X2_dearest, xm_X2_priceForMostMoney, xm_X2_solveWithout, xm_X2_mostAtFee, xm_X2_weighedMoney, xm_X2_suitedByDraw, xm_X3_init, xm_X3_showing, xm_X3_fee, xm_X4_init, xm_X4_showing, xm_X4_fee, xm_X5_init, xm_X5_guess, xm_X5_showing, xm_X5_fitsReadings, xm_X5_kindBits, xm_X5_bestEvening, xm_X5_mostAlike, xm_X6_init, xm_X6_showing, xm_X6_fee, xm_X7_init, xm_X7_showing, xm_X7_fee, xm_X7_fits, xm_X8_init, xm_X8_add, xm_X8_readInto, xm_X8_readItem, xm_X8_readView, xm_X8_readRenter, xm_X8_readThing, xm_X8_passMark, xm_X8_passNumber, xm_X8_numberMet, xm_X8_isWord, xm_X8_step, xm_X8_sortAt, xm_X9_init, xm_X9_empty, xm_X9_copyFrom, xm_X9_addView, xm_X9_addRenter, xm_X9_addReading, xm_X9_remember, xm_X9_moveOldestToEnd, xm_X9_goBack, xm_X9_showing, xm_X9_fee, xm_X9_feeAt, xm_X9_fits, xm_X9_mayLet, xm_X9_airNow, xm_X9_airOf, xm_X9_fewestForAir, xm_X9_digestFrom, xm_X10_init, xm_X10_showing, xm_X11_init, xm_X11_shop, xm_X11_view, xm_X11_renter, xm_X11_things, xm_X11_type, xm_X11_clear, xm_X11_read, xm_X11_let, xm_X11_night, xm_X11_undo, xm_X11_of, xm_X11_about, xm_X11_shows, xm_X11_suits, xm_X11_best, xm_X11_money, xm_X11_come, xm_X11_more, xm_X11_changed, xm_X11_air, xm_X11_bring, xm_X11_left, xm_X11_reading, xm_X11_forget, xm_X11_is, xm_X11_look, xm_X11_odds, xm_X11_drawn, xm_X11_part, xm_X11_image, xm_X11_from, xm_X11_status, xm_X11_count, xm_X11_digest, xm_X11_within, xm_X11_isWeather, xm_X11_isEvening, xm_X11_isRenterTold, xm_X11_isView, xm_X11_isRenter, xm_X11_isPair, xm_X11_refuse, xm_X11_refuseApart, xm_X11_greatestCommon, xm_X12_init, xm_X12_in, xm_X12_bad, xm_X12_no, xm_X12_full, xm_X12_begin, xm_X12_views, xm_X12_renters, xm_X12_isView, xm_X12_isRenter, xm_X12_isEvening, xm_X12_isWeather, xm_X12_viewHas, xm_X12_renterHas, xm_X12_shop, xm_X12_isViewTold, xm_X12_layView, xm_X12_view, xm_X12_isRenterTold, xm_X12_layRenter, xm_X12_renter, xm_X12_things, xm_X12_lake, xm_X12_weatherOf, xm_X12_costOf, xm_X12_showsIn, xm_X12_fits, xm_X12_layHand, xm_X12_doesSuit, xm_X12_laySuit, xm_X12_keep, xm_X12_viewOf, xm_X12_remember, xm_X12_let, xm_X12_night, xm_X12_undo, xm_X12_of, xm_X12_about, xm_X12_shows, xm_X12_suits, xm_X12_judgeRow, xm_X12_freeBut, xm_X12_nextView, xm_X12_layBest, xm_X12_best, xm_X12_money, xm_X12_layCome, xm_X12_allRenters, xm_X12_come, xm_X12_more, xm_X12_changed, xm_X12_areOpposite, xm_X12_air, xm_X12_bring, xm_X12_left, xm_X12_reading, xm_X12_forget, xm_X12_mayBe, xm_X12_is, xm_X12_mostLike, xm_X12_look, xm_X12_fraction, xm_X12_odds, xm_X12_drawn, xm_X12_type, xm_X12_clear, xm_X12_isSmall, xm_X12_isFigure, xm_X12_lookAt, xm_X12_goBehind, xm_X12_isCalled, xm_X12_takes, xm_X12_takesView, xm_X12_takesRenter, xm_X12_takesThing, xm_X12_takesItem, xm_X12_read, xm_X12_part, xm_X12_image, xm_X12_from, xm_X12_status, xm_X12_manyLet, xm_X12_counted, xm_X12_count, xm_X12_sums, xm_X12_digest, xm_J9_floorMod_7cf53, xm_J9_max_7cf53, xm_J9_min_7cf53, xm_J0_length_8abf5, xm_J0_charAt_5068e, xm_J0_coder_7d493, xm_J0_isLatin1_aae02, xm_J0_checkIndex_df160, xm_J1_charAt_3b067, xm_J7_fill_53178, xm_J3_checkIndex_8e157, xm_L_law]
def xs (ext : List xC) (d : Nat) (ins : Instr) (nx : Nat) (info : List Nat) (L st : List Value) (h : xH) : Option (Nat × List Value × List Value × xH) :=
  match ins with
  | .iconst n => some (nx, L, .int (Int32.ofInt n) :: st, h)
  | .bipush n => some (nx, L, .int (Int8.ofInt n).toInt32 :: st, h)
  | .sipush n => some (nx, L, .int (Int16.ofInt n).toInt32 :: st, h)
  | .lconst n => some (nx, L, .long (Int64.ofNat n.val) :: st, h)
  | .ldc _ => match info with
    | [0, v] => some (nx, L, .int (Int32.ofNat v) :: st, h)
    | [1, j] => some (nx, L, .retAddr j :: st, h)
    | _ => none
  | .ldc_w _ => match info with
    | [0, v] => some (nx, L, .int (Int32.ofNat v) :: st, h)
    | _ => none
  | .ldc2_w _ => match info with
    | [v] => some (nx, L, .long (Int64.ofNat v) :: st, h)
    | _ => none
  | .iload_n k => match L[k.val]? with
    | some (.int v) => some (nx, L, .int v :: st, h)
    | _ => none
  | .iload k => match L[k]? with
    | some (.int v) => some (nx, L, .int v :: st, h)
    | _ => none
  | .lload_n k => match L[k.val]? with
    | some (.long v) => some (nx, L, .long v :: st, h)
    | _ => none
  | .lload k => match L[k]? with
    | some (.long v) => some (nx, L, .long v :: st, h)
    | _ => none
  | .aload_n k => match L[k.val]? with
    | some (.ref a) => some (nx, L, .ref a :: st, h)
    | some (.retAddr j) => some (nx, L, .retAddr j :: st, h)
    | _ => none
  | .aload k => match L[k]? with
    | some (.ref a) => some (nx, L, .ref a :: st, h)
    | _ => none
  | .istore_n k => match st with
    | .int v :: r => (xst1 L k.val (.int v)).bind fun L' => some (nx, L', r, h)
    | _ => none
  | .istore k => match st with
    | .int v :: r => (xst1 L k (.int v)).bind fun L' => some (nx, L', r, h)
    | _ => none
  | .lstore_n k => match st with
    | .long v :: r => (xst2 L k.val (.long v)).bind fun L' => some (nx, L', r, h)
    | _ => none
  | .lstore k => match st with
    | .long v :: r => (xst2 L k (.long v)).bind fun L' => some (nx, L', r, h)
    | _ => none
  | .astore_n k => match st with
    | .ref a :: r => (xst1 L k.val (.ref a)).bind fun L' => some (nx, L', r, h)
    | _ => none
  | .astore k => match st with
    | .ref a :: r => (xst1 L k (.ref a)).bind fun L' => some (nx, L', r, h)
    | _ => none
  | .iinc k n => match L[k]? with
    | some (.int v) => (xst1 L k (.int (v + Int32.ofInt n))).bind fun L' => some (nx, L', st, h)
    | _ => none
  | .iadd => match st with
    | .int y :: .int x :: r => some (nx, L, .int (x + y) :: r, h)
    | _ => none
  | .isub => match st with
    | .int y :: .int x :: r => some (nx, L, .int (x - y) :: r, h)
    | _ => none
  | .imul => match st with
    | .int y :: .int x :: r => some (nx, L, .int (x * y) :: r, h)
    | _ => none
  | .idiv => match st with
    | .int y :: .int x :: r => if y = 0 then none else some (nx, L, .int (x / y) :: r, h)
    | _ => none
  | .irem => match st with
    | .int y :: .int x :: r => if y = 0 then none else some (nx, L, .int (x - x / y * y) :: r, h)
    | _ => none
  | .iand => match st with
    | .int y :: .int x :: r => some (nx, L, .int (x &&& y) :: r, h)
    | _ => none
  | .ior => match st with
    | .int y :: .int x :: r => some (nx, L, .int (x ||| y) :: r, h)
    | _ => none
  | .ixor => match st with
    | .int y :: .int x :: r => some (nx, L, .int (x ^^^ y) :: r, h)
    | _ => none
  | .ishl => match st with
    | .int y :: .int x :: r => some (nx, L, .int (x <<< (y &&& 31)) :: r, h)
    | _ => none
  | .ishr => match st with
    | .int y :: .int x :: r => some (nx, L, .int (x >>> (y &&& 31)) :: r, h)
    | _ => none
  | .ladd => match st with
    | .long y :: .long x :: r => some (nx, L, .long (x + y) :: r, h)
    | _ => none
  | .lmul => match st with
    | .long y :: .long x :: r => some (nx, L, .long (x * y) :: r, h)
    | _ => none
  | .ldiv => match st with
    | .long y :: .long x :: r => if y = 0 then none else some (nx, L, .long (x / y) :: r, h)
    | _ => none
  | .lrem => match st with
    | .long y :: .long x :: r => if y = 0 then none else some (nx, L, .long (x - x / y * y) :: r, h)
    | _ => none
  | .lcmp => match st with
    | .long y :: .long x :: r => some (nx, L, .int (lg_cmp x y) :: r, h)
    | _ => none
  | .i2l => match st with
    | .int x :: r => some (nx, L, .long x.toInt64 :: r, h)
    | _ => none
  | .i2b => match st with
    | .int x :: r => some (nx, L, .int x.toInt8.toInt32 :: r, h)
    | _ => none
  | .i2c => match st with
    | .int x :: r => some (nx, L, .int (x.toUInt32 % 65536).toInt32 :: r, h)
    | _ => none
  | .dup => match st with
    | .int x :: r => some (nx, L, .int x :: .int x :: r, h)
    | .ref a :: r => some (nx, L, .ref a :: .ref a :: r, h)
    | _ => none
  | .dup2 => match st with
    | .int x :: .ref a :: r => some (nx, L, .int x :: .ref a :: .int x :: .ref a :: r, h)
    | _ => none
  | .pop => match st with
    | .int _ :: r => some (nx, L, r, h)
    | _ => none
  | .goto _ => match info with
    | [t] => some (t, L, st, h)
    | _ => none
  | .if_icmp c _ => match info, st with
    | [t], .int y :: .int x :: r => some (cond (xcmp c x y) t nx, L, r, h)
    | _, _ => none
  | .ifCond c _ => match info, st with
    | [t], .int x :: r => some (cond (xcmp c x 0) t nx, L, r, h)
    | _, _ => none
  | .ifnonnull _ => match info, st with
    | [t], .ref _ :: r => some (t, L, r, h)
    | [_], .null :: r => some (nx, L, r, h)
    | _, _ => none
  | .tableswitch _ lo hi _ => match info, st with
    | dt :: ts, .int x :: r => if x.toInt < lo ∨ hi < x.toInt then some (dt, L, r, h) else (ts[(x.toInt - lo).toNat]?).bind fun t => some (t, L, r, h)
    | _, _ => none
  | .lookupswitch _ _ => match info, st with
    | dt :: ts, .int x :: r => some (xlook ts x dt, L, r, h)
    | _, _ => none
  | .getfield _ => match info, st with
    | [ci, k], v :: r => (xget ext h v).bind fun c => cond (Nat.beq c.1 ci) ((c.2[k]?).bind fun w => some (nx, L, w :: r, h)) none
    | _, _ => none
  | .putfield _ => match info, st with
    | [ci, k], v :: .ref a :: r => (h[a]?).bind fun c => cond (Nat.beq c.1 ci && (Nat.blt k c.2.length && xfit (xfty ci k) v)) (some (nx, L, r, h.set a (c.1, c.2.set k v))) none
    | _, _ => none
  | .iaload => match st with
    | .int i :: v :: r => (xget ext h v).bind fun c => cond (Nat.beq c.1 20) ((xix i c.2).bind fun w => some (nx, L, w :: r, h)) none
    | _ => none
  | .baload => match st with
    | .int i :: v :: r => (xget ext h v).bind fun c => cond (Nat.beq c.1 21 || Nat.beq c.1 22) ((xix i c.2).bind fun w => some (nx, L, w :: r, h)) none
    | _ => none
  | .aaload => match st with
    | .int i :: .ref a :: r => (h[a]?).bind fun c => cond (Nat.blt 22 c.1 && Nat.blt c.1 27) ((xix i c.2).bind fun w => some (nx, L, w :: r, h)) none
    | _ => none
  | .iastore => match st with
    | .int x :: .int i :: .ref a :: r => (h[a]?).bind fun c => cond (Nat.beq c.1 20) ((xix i c.2).bind fun _ => some (nx, L, r, h.set a (c.1, c.2.set i.toNatClampNeg (.int x)))) none
    | _ => none
  | .bastore => match st with
    | .int x :: .int i :: .ref a :: r => (h[a]?).bind fun c => cond ((Nat.beq c.1 21 || Nat.beq c.1 22) && xfit (xaty c.1) (.int x)) ((xix i c.2).bind fun _ => some (nx, L, r, h.set a (c.1, c.2.set i.toNatClampNeg (.int x)))) none
    | _ => none
  | .aastore => match st with
    | .ref v :: .int i :: .ref a :: r => (h[a]?).bind fun c => (h[v]?).bind fun cv => cond (xasg c.1 cv.1) ((xix i c.2).bind fun _ => some (nx, L, r, h.set a (c.1, c.2.set i.toNatClampNeg (.ref v)))) none
    | _ => none
  | .arraylength => match st with
    | v :: r => (xget ext h v).bind fun c => cond (Nat.blt 19 c.1) (some (nx, L, .int (Int32.ofNat c.2.length) :: r, h)) none
    | _ => none
  | .new _ => match info with
    | [ci] => (xadd h (ci, (List.range (xnf ci)).map fun k => defaultValue (xfty ci k))).bind fun h' => some (nx, L, .ref h.length :: st, h')
    | _ => none
  | .newarray _ => match info, st with
    | [t], .int n :: r => if n < 0 then none else (xadd h (t, List.replicate n.toNatClampNeg (.int 0))).bind fun h' => some (nx, L, .ref h.length :: r, h')
    | _, _ => none
  | .anewarray _ => match info, st with
    | [t], .int n :: r => if n < 0 then none else (xadd h (t, List.replicate n.toNatClampNeg .null)).bind fun h' => some (nx, L, .ref h.length :: r, h')
    | _, _ => none
  | .multianewarray _ _ => match st with
    | .int k :: .int n :: r => if n < 0 ∨ k < 0 ∨ 1100 < n.toNatClampNeg ∨ 1100 < k.toNatClampNeg ∨ 5000 < h.length + n.toNatClampNeg then none else
      some (nx, L, .ref h.length :: r, h ++ ((26, (List.range n.toNatClampNeg).map fun i => .ref (h.length + 1 + i)) :: List.replicate n.toNatClampNeg (20, List.replicate k.toNatClampNeg (.int 0))))
    | _ => none
  | .getstatic _ => match info with
    | [0] => some (nx, L, .int 1 :: st, h)
    | [1] => some (nx, L, .retAddr 9 :: st, h)
    | _ => none
  | .invokestatic _ => match info, st with
    | [99], .int n :: .int dp :: .ref b :: .int sp :: .ref a :: r => (h[a]?).bind fun ca => (h[b]?).bind fun cb =>
      if d = 0 ∨ 8 < xcat r ∨ sp < 0 ∨ dp < 0 ∨ n < 0 ∨ ca.1 ≠ 20 ∨ cb.1 ≠ 20 ∨ ca.2.length < sp.toNatClampNeg + n.toNatClampNeg ∨ cb.2.length < dp.toNatClampNeg + n.toNatClampNeg ∨ ca.2.all (xfit .int) = false then none
      else some (nx, L, r, h.set b (cb.1, xcopy ca.2 cb.2 sp.toNatClampNeg dp.toNatClampNeg n.toNatClampNeg))
    | _, _ => none
  | .invokespecial _ => match info, st with
    | [98], .ref _ :: r => if d = 0 ∨ 8 < xcat r then none else some (nx, L, r, h)
    | _, _ => none
  | _ => none
def xspread : List Value → List Value
  | [] => []
  | v :: r => if v.category = 2 then v :: xU :: xspread r else v :: xspread r
/-- the locals with which a method of n locals begins -/
def xent (n : Nat) (vs : List Value) : List Value := xspread vs ++ List.replicate (n - (xspread vs).length) xU
/-- a call: the method, what it is given, what stays on the stack -/
def xcallee (ext : List xC) (ins : Instr) (info : List Nat) (st : List Value) (h : xH) : Option (Nat × List Value × List Value) := match ins with
  | .invokestatic _ => match info with
    | [na, mi] => if na ≤ st.length then some (mi, (st.take na).reverse, st.drop na) else none
    | _ => none
  | .invokespecial _ => match info with
    | [na, mi] => match st.drop na with
      | .ref a :: r => (h[a]?).bind fun c => cond (Nat.blt c.1 13) (some (mi, .ref a :: (st.take na).reverse, r)) none
      | _ => none
    | _ => none
  | .invokevirtual _ => match info with
    | na :: tb => match st.drop na with
      | v :: r => (xget ext h v).bind fun c => (xpairs tb c.1).bind fun mi => some (mi, v :: (st.take na).reverse, r)
      | _ => none
    | _ => none
  | _ => none
def xret (ty : Option FieldType) (ins : Instr) (st : List Value) : Option (Option Value) := match ins with
  | .ireturn => match st with
    | [.int v] => cond (xnar ty v) (some (some (.int v))) none
    | _ => none
  | .lreturn => match st with
    | [.long v] => cond (decide (ty = some .long)) (some (some (.long v))) none
    | _ => none
  | .return_ => match st with
    | [] => cond (decide (ty = none)) (some none) none
    | _ => none
  | _ => none
def xmt (n : Nat) : xM := xtab.getD n ((⟨"", "", ""⟩, ⟨#[]⟩, 0, none), [])
def xmax (n : Nat) : Nat := (xmt n).1.2.2.1
def xrun (ext : List xC) : Nat → Nat → Nat → Nat → List Value → List Value → xH → Option (Option Value × xH)
  | 0, _, _, _, _, _, _ => none
  | n + 1, d, mi, pc, L, st, h => (xfind (xmt mi).2 pc).bind fun q =>
    match xs ext d q.1 q.2.1 q.2.2 L st h with
    | some w => xrun ext n d mi w.1 w.2.1 w.2.2.1 w.2.2.2
    | none => match xret (xmt mi).1.2.2.2 q.1 st with
      | some r => some (r, h)
      | none => match d with
        | 0 => none
        | d' + 1 => (xcallee ext q.1 q.2.2 st h).bind fun a =>
          if 8 < xcat a.2.2 ∨ xmax a.1 < (xspread a.2.1).length then none else
          (xrun ext n d' a.1 0 (xent (xmax a.1) a.2.1) [] h).bind fun b =>
            xrun ext n (d' + 1) mi q.2.1 L (b.1.toList ++ a.2.2) b.2
/-- the method mi, at pc, with those locals, that stack, those cells, comes to an end, answers r, and leaves the cells h' -/
def Ev (ext : List xC) (d mi pc : Nat) (L st : List Value) (h : xH) (r : Option Value) (h' : xH) : Prop := ∃ n, xrun ext n d mi pc L st h = some (r, h')
end
section
/-! What an instruction's numbers must be, looked at by program: each word by its place in the tables. -/
def xwI (ps : List Nat) (j : Nat) (w : Jvm.Cond) : Bool := match ps[j]? with
  | some i => decide (lw_tbl[i]? = some w)
  | none => false
def xhost : String := "RentedViews"
def xlinkI (ps : List Nat) (own : String) (idx : Nat) (y : MethodName) : Bool := xwI ps 0 (.methodLink own idx y) || xwI ps 0 (.methodLinkNest own idx y xhost)
/-- the callee: no handle's method, its parameters, its locals, its code among the words -/
def xcalI (m : xM) (na : Nat) (w : Bool) : Bool := decide (m.1.1.cls ≠ "java/lang/invoke/MethodHandle" ∧ m.1.1.cls ≠ "java/lang/invoke/VarHandle") && (decide ((parseMethodDescriptor m.1.1.desc).map (fun d => d.parameters.length) = some na) && (decide (m.1.2.2.1 ≤ 16) && (plainFor m.1.1 && w)))
def xcod (ps : List Nat) (j : Nat) (m : xM) : Bool := xwI ps j (.code m.1.1 m.1.2.1 m.1.2.2.1 m.1.2.2.2)
/-- a call by the receiver's class: for each class its words, seven to a class, from place j on -/
def xdisI (own : String) (idx na : Nat) (ps : List Nat) : List Nat → Nat → Bool
  | ci :: mi :: r, j => (match xcl[ci]?, lw_tbl[ps.getD 0 0]?, lw_tbl[ps.getD j 0]? with
    | some c, some (.methodLink o i x), some (.sameMethod xc ow nm ds) =>
      decide (o = own ∧ i = idx ∧ xc = x.cls ∧ nm = x.name ∧ ds = x.desc ∧ (xmt mi).1.1.desc = x.desc ∧ ow ≠ "java/lang/invoke/MethodHandle" ∧ ow ≠ "java/lang/invoke/VarHandle") &&
      (xwI ps (j + 1) (.instanceMethod ⟨ow, x.name, x.desc⟩) && ((match lw_tbl[ps.getD (j + 2) 0]? with
        | some (.code z _ _ _) => decide (z = ⟨ow, x.name, x.desc⟩)
        | _ => false) && (xwI ps (j + 3) (.selects c.1 x (xmt mi).1.1) && (xwI ps (j + 4) (.instanceMethod (xmt mi).1.1) && (xwI ps (j + 5) (.initialized (xmt mi).1.1.cls) && xcalI (xmt mi) na (xcod ps (j + 6) (xmt mi)))))))
    | _, _, _ => false) && xdisI own idx na ps r (j + 7)
  | [], _ => true
  | _, _ => false
/-- super.m(..): the method that the superclass has, or inherits -/
def xspI (own : String) (idx na : Nat) (m : xM) (ps : List Nat) : Bool := match lw_tbl[ps.getD 0 0]? with
  | some (.methodLink o i x) => decide (o = own ∧ i = idx ∧ x.name = m.1.1.name ∧ x.desc = m.1.1.desc ∧ x.name ≠ "<init>") && (xwI ps 1 (.sameMethod x.cls m.1.1.cls x.name x.desc) && (xwI ps 2 (.superclass own x.cls) && (xwI ps 3 (.instanceMethod m.1.1) && (xwI ps 4 (.initialized m.1.1.cls) && ((decide (x.cls = m.1.1.cls) || xwI ps 6 (.superclass x.cls m.1.1.cls)) && xcalI m na (xcod ps 5 m))))))
  | _ => false
def xcn (ci : Nat) : Option String := if ci = 13 then some "java/lang/String" else (xcl[ci]?).map (·.1)
/-- a call of the receiver's own class's method -/
def xvirI (own : String) (idx na ci mi : Nat) (ps : List Nat) : Bool := decide (xcn ci = some (xmt mi).1.1.cls) && (xwI ps 0 (.methodLink own idx (xmt mi).1.1) && (xwI ps 1 (.instanceMethod (xmt mi).1.1) && (xwI ps 2 (.selects (xmt mi).1.1.cls (xmt mi).1.1 (xmt mi).1.1) && (xwI ps 3 (.initialized (xmt mi).1.1.cls) && xcalI (xmt mi) na (xcod ps 4 (xmt mi))))))
def xlkI (pc : Nat) : List (Int × Int) → List Nat → Bool
  | (k, o) :: r, a :: t :: ts => decide (k = (a : Int)) && (decide (a < 2147483648) && (decide ((pc : Int) + o = (t : Int)) && xlkI pc r ts))
  | [], [] => true
  | _, _ => false
def xstrT : List String := ["", "shop", "view", "renter", "thing"]
def xchkI (own nm : String) (pc : Nat) (ins : Instr) (info ps : List Nat) : Bool := match ins with
  | .goto o => match info with
    | [t] => decide ((pc : Int) + o = (t : Int))
    | _ => false
  | .if_icmp _ o => match info with
    | [t] => decide ((pc : Int) + o = (t : Int))
    | _ => false
  | .ifCond _ o => match info with
    | [t] => decide ((pc : Int) + o = (t : Int))
    | _ => false
  | .ifnonnull o => match info with
    | [t] => decide ((pc : Int) + o = (t : Int))
    | _ => false
  | .tableswitch dt lo hi os => match info with
    | t :: ts => decide ((pc : Int) + dt = (t : Int)) && decide (os.toList.map (fun o => (pc : Int) + o) = ts.map Int.ofNat)
    | _ => false
  | .lookupswitch dt prs => match info with
    | t :: ts => decide ((pc : Int) + dt = (t : Int)) && (xlkI pc prs.toList ts && (prs.toList.zip (prs.toList.drop 1)).all (fun (a, next) => a.1 < next.1))
    | _ => false
  | .getfield idx => match info with
    | [ci, k] => if ci = 13 then (match k with
        | 0 => xwI ps 0 (.fieldLink own idx "java/lang/String" "value" "[B")
        | 1 => xwI ps 0 (.fieldLink own idx "java/lang/String" "coder" "B")
        | _ => false) else (match xcl[ci]? with
      | some c => Nat.blt k c.2.2 && xwI ps 0 (.fieldLink own idx (c.2.1 k).1 (c.2.1 k).2.1 (c.2.1 k).2.2.1)
      | none => false)
    | _ => false
  | .putfield idx => match info with
    | [ci, k] => (match xcl[ci]? with
      | some c => Nat.blt k c.2.2 && (xwI ps 0 (.fieldLink own idx (c.2.1 k).1 (c.2.1 k).2.1 (c.2.1 k).2.2.1) && (decide (parseFieldDescriptor (c.2.1 k).2.2.1 = some (xfty ci k)) && (!(c.2.1 k).2.2.2 || decide (nm = "<init>" ∧ (c.2.1 k).1 = own))))
      | none => false)
    | _ => false
  | .new idx => match info with
    | [ci] => (match xcl[ci]? with
      | some c => decide (xnf ci = c.2.2) && (xwI ps 0 (.classLink own idx c.1) && (xwI ps 1 (.instantiable c.1 c.2.2) && xwI ps 2 (.initialized c.1)))
      | none => false)
    | _ => false
  | .newarray a => match info with
    | [t] => decide (19 < t ∧ t < 23) && (decide (newarray.typeOf a = xaty t) && xwI ps 0 (.arrayClass (xaty t)))
    | _ => false
  | .anewarray idx => match info with
    | [t] => decide (22 < t ∧ t < 26) && (match xaty t with
      | .object c => xwI ps 0 (.classLink own idx c) && xwI ps 1 (.arrayOver (.object c))
      | _ => false)
    | _ => false
  | .multianewarray idx dm => decide (dm = 2) && (xwI ps 0 (.classLink own idx "[[I") && (xwI ps 1 (.arrayOver (.array .int)) && xwI ps 2 (.arrayClass .int)))
  | .ldc idx => match info with
    | [0, v] => xwI ps 0 (.constant own idx (Int32.ofNat v))
    | [1, j] => decide (j < 5) && xwI ps 0 (.stringRef own idx (xstrT.getD j ""))
    | _ => false
  | .ldc_w idx => match info with
    | [0, v] => xwI ps 0 (.constant own idx (Int32.ofNat v))
    | _ => false
  | .ldc2_w idx => match info with
    | [v] => xwI ps 0 (.constantLong own idx (Int64.ofNat v))
    | _ => false
  | .getstatic idx => match info with
    | [0] => xwI ps 0 (.fieldLink own idx "java/lang/String" "COMPACT_STRINGS" "Z")
    | [1] => xwI ps 0 (.fieldLink own idx "jdk/internal/util/Preconditions" "SIOOBE_FORMATTER" "Ljava/util/function/BiFunction;")
    | _ => false
  | .invokestatic idx => match info with
    | [99] => xwI ps 0 (.methodLink own idx arraycopyName) && (xwI ps 1 (.native arraycopyName) && (xwI ps 2 (.static arraycopyName) && xwI ps 3 (.initialized "java/lang/System")))
    | [na, mi] => xlinkI ps own idx (xmt mi).1.1 && (xwI ps 1 (.static (xmt mi).1.1) && (xwI ps 2 (.initialized (xmt mi).1.1.cls) && xcalI (xmt mi) na (xcod ps 3 (xmt mi))))
    | _ => false
  | .invokespecial idx => match info with
    | [98] => xwI ps 0 (.methodLink own idx Lib.objectInit) && (xwI ps 1 (.instanceMethod Lib.objectInit) && xwI ps 2 (.code Lib.objectInit ⟨#[0xb1]⟩ 1 none))
    | [na, mi] => (if (xmt mi).1.1.name = "<init>" then xlinkI ps own idx (xmt mi).1.1 && (xwI ps 1 (.instanceMethod (xmt mi).1.1) && (xwI ps 2 (.initialized (xmt mi).1.1.cls) && xcalI (xmt mi) na (xcod ps 3 (xmt mi) && decide ((xmt mi).1.2.2.2 = none))))
      else xspI own idx na (xmt mi) ps)
    | _ => false
  | .invokevirtual idx => match info with
    | [na, ci, mi] => xvirI own idx na ci mi ps || xdisI own idx na ps [ci, mi] 1
    | na :: tb => xdisI own idx na ps tb 1
    | _ => false
  | _ => true
/-- how long an instruction is, where the kit's rows ask it -/
def xlenI (ins : Instr) (n : Nat) : Bool := match ins with
  | .tableswitch .. => true
  | .lookupswitch .. => true
  | .bipush _ => Nat.beq n 2
  | .ldc _ => Nat.beq n 2
  | .iload _ => Nat.beq n 2
  | .lload _ => Nat.beq n 2
  | .aload _ => Nat.beq n 2
  | .istore _ => Nat.beq n 2
  | .lstore _ => Nat.beq n 2
  | .astore _ => Nat.beq n 2
  | .newarray _ => Nat.beq n 2
  | .sipush _ => Nat.beq n 3
  | .ldc_w _ => Nat.beq n 3
  | .ldc2_w _ => Nat.beq n 3
  | .iinc .. => Nat.beq n 3
  | .goto _ => Nat.beq n 3
  | .if_icmp .. => Nat.beq n 3
  | .ifCond .. => Nat.beq n 3
  | .ifnonnull _ => Nat.beq n 3
  | .getfield _ => Nat.beq n 3
  | .putfield _ => Nat.beq n 3
  | .getstatic _ => Nat.beq n 3
  | .new _ => Nat.beq n 3
  | .anewarray _ => Nat.beq n 3
  | .invokestatic _ => Nat.beq n 3
  | .invokespecial _ => Nat.beq n 3
  | .invokevirtual _ => Nat.beq n 3
  | .multianewarray .. => Nat.beq n 4
  | _ => Nat.beq n 1
def xchk (m : xM) (q : xI) (ps : List Nat) : Bool := decide (decode m.1.2.1 q.1 = .ok (q.2.1, q.2.2.1 - q.1)) && (Nat.blt q.1 q.2.2.1 && (xlenI q.2.1 (q.2.2.1 - q.1) && xchkI m.1.1.cls m.1.1.name q.1 q.2.1 q.2.2.2 ps))
def xall (m : xM) : List xI → List (List Nat) → Bool
  | q :: r, p :: t => xchk m q p && xall m r t
  | [], [] => true
  | _, _ => false
theorem xall_mem {m : xM} : ∀ {l : List xI} {ps : List (List Nat)}, xall m l ps = true → ∀ q ∈ l, ∃ p, xchk m q p = true
  | [], _, _, q, h => absurd h List.not_mem_nil
  | a :: r, [], h, _, _ => by simp [xall] at h
  | a :: r, p :: t, h, q, hq => by
    simp only [xall, Bool.and_eq_true] at h
    rcases List.mem_cons.mp hq with e | e
    · exact ⟨p, by rw [e]; exact h.1⟩
    · exact xall_mem h.2 q e
end
section
def xp_X0_init : List (List Nat) := [[], [224, 90, 91], [], [], [122], [235], [], [], [122], [239], [], [], [122], [242], [], [], [122], [244], [], [], [122], [246], []]
set_option maxRecDepth 100000 in
theorem k_X0_init : xall xm_X0_init xc_X0_init xp_X0_init = true := by decide +kernel
theorem o_X0_init : ∀ q ∈ xm_X0_init.2, ∃ p, xchk xm_X0_init q p = true := xall_mem k_X0_init
def xp_X0_empty : List (List Nat) := [[], [], [225], [], [], [230], [], [], [232], [], [274, 275, 276, 75, 277], []]
set_option maxRecDepth 100000 in
theorem k_X0_empty : xall xm_X0_empty xc_X0_empty xp_X0_empty = true := by decide +kernel
theorem o_X0_empty : ∀ q ∈ xm_X0_empty.2, ∃ p, xchk xm_X0_empty q p = true := xall_mem k_X0_empty
def xp_X0_copyFrom : List (List Nat) := [[], [], [225], [225], [], [], [230], [230], [], [], [232], [232], [], [235], [], [], [235], [], [], [620, 622, 621, 82], [], [239], [], [], [239], [], [], [620, 622, 621, 82], [], [242], [], [], [242], [], [], [620, 622, 621, 82], [], [244], [], [], [244], [], [], [620, 622, 621, 82], [], [246], [], [], [246], [], [], [620, 622, 621, 82], []]
set_option maxRecDepth 100000 in
theorem k_X0_copyFrom : xall xm_X0_copyFrom xc_X0_copyFrom xp_X0_copyFrom = true := by decide +kernel
theorem o_X0_copyFrom : ∀ q ∈ xm_X0_copyFrom.2, ∃ p, xchk xm_X0_copyFrom q p = true := xall_mem k_X0_copyFrom
def xp_X0_bringAllBack : List (List Nat) := [[], [239], [], [278, 279, 76, 280], []]
set_option maxRecDepth 100000 in
theorem k_X0_bringAllBack : xall xm_X0_bringAllBack xc_X0_bringAllBack xp_X0_bringAllBack = true := by decide +kernel
theorem o_X0_bringAllBack : ∀ q ∈ xm_X0_bringAllBack.2, ∃ p, xchk xm_X0_bringAllBack q p = true := xall_mem k_X0_bringAllBack
def xp_X0_write : List (List Nat) := [[], [235], [], [], [], [], [], [], [], [], [230], [], [], [230], [], [239], [], [], [], [], [232], [], [], [], [628, 630, 14, 75, 631], [], [242], [], [232], [], [], [], [244], [], [232], [], [], [], [246], [], [232], [], [225], [], [], [], [232], [], [], [232], []]
set_option maxRecDepth 100000 in
theorem k_X0_write : xall xm_X0_write xc_X0_write xp_X0_write = true := by decide +kernel
theorem o_X0_write : ∀ q ∈ xm_X0_write.2, ∃ p, xchk xm_X0_write q p = true := xall_mem k_X0_write
def xp_X0_dropFirstLetting : List (List Nat) := [[], [242], [], [], [242], [], [], [620, 622, 621, 82], [], [244], [], [], [244], [], [], [620, 622, 621, 82], [], [246], [], [], [246], [], [], [620, 622, 621, 82], [], [], [232], []]
set_option maxRecDepth 100000 in
theorem k_X0_dropFirstLetting : xall xm_X0_dropFirstLetting xc_X0_dropFirstLetting xp_X0_dropFirstLetting = true := by decide +kernel
theorem o_X0_dropFirstLetting : ∀ q ∈ xm_X0_dropFirstLetting.2, ∃ p, xchk xm_X0_dropFirstLetting q p = true := xall_mem k_X0_dropFirstLetting
def xp_X0_viewHeldBy : List (List Nat) := [[], [], [], [], [], [], [239], [], [], [], [], [], [], [], [], [], []]
set_option maxRecDepth 100000 in
theorem k_X0_viewHeldBy : xall xm_X0_viewHeldBy xc_X0_viewHeldBy xp_X0_viewHeldBy = true := by decide +kernel
theorem o_X0_viewHeldBy : ∀ q ∈ xm_X0_viewHeldBy.2, ∃ p, xchk xm_X0_viewHeldBy q p = true := xall_mem k_X0_viewHeldBy
def xp_X0_letNow : List (List Nat) := [[], [], [], [], [], [], [], [], [239], [], [], [], [], [], [], [], [], []]
set_option maxRecDepth 100000 in
theorem k_X0_letNow : xall xm_X0_letNow xc_X0_letNow xp_X0_letNow = true := by decide +kernel
theorem o_X0_letNow : ∀ q ∈ xm_X0_letNow.2, ∃ p, xchk xm_X0_letNow q p = true := xall_mem k_X0_letNow
def xp_X0_rentersWhoHad : List (List Nat) := [[], [], [], [], [], [], [232], [], [], [242], [], [], [], [], [], [], [], [244], [], [], [], [], [], [], [], [], []]
set_option maxRecDepth 100000 in
theorem k_X0_rentersWhoHad : xall xm_X0_rentersWhoHad xc_X0_rentersWhoHad xp_X0_rentersWhoHad = true := by decide +kernel
theorem o_X0_rentersWhoHad : ∀ q ∈ xm_X0_rentersWhoHad.2, ∃ p, xchk xm_X0_rentersWhoHad q p = true := xall_mem k_X0_rentersWhoHad
def xp_X0_firstEveningOf : List (List Nat) := [[], [], [], [], [232], [], [], [242], [], [], [], [], [], [246], [], [], [], [], [], [], []]
set_option maxRecDepth 100000 in
theorem k_X0_firstEveningOf : xall xm_X0_firstEveningOf xc_X0_firstEveningOf xp_X0_firstEveningOf = true := by decide +kernel
theorem o_X0_firstEveningOf : ∀ q ∈ xm_X0_firstEveningOf.2, ∃ p, xchk xm_X0_firstEveningOf q p = true := xall_mem k_X0_firstEveningOf
def xp_X1_init : List (List Nat) := [[], [210, 180, 69, 181], []]
set_option maxRecDepth 100000 in
theorem k_X1_init : xall xm_X1_init xc_X1_init xp_X1_init = true := by decide +kernel
theorem o_X1_init : ∀ q ∈ xm_X1_init.2, ∃ p, xchk xm_X1_init q p = true := xall_mem k_X1_init
def xp_X1_fee : List (List Nat) := [[], [], [592, 588, 211, 586, 69, 607], [], [], []]
set_option maxRecDepth 100000 in
theorem k_X1_fee : xall xm_X1_fee xc_X1_fee xp_X1_fee = true := by decide +kernel
theorem o_X1_fee : ∀ q ∈ xm_X1_fee.2, ∃ p, xchk xm_X1_fee q p = true := xall_mem k_X1_fee
def xp_X1_fits : List (List Nat) := [[], []]
set_option maxRecDepth 100000 in
theorem k_X1_fits : xall xm_X1_fits xc_X1_fits xp_X1_fits = true := by decide +kernel
theorem o_X1_fits : ∀ q ∈ xm_X1_fits.2, ∃ p, xchk xm_X1_fits q p = true := xall_mem k_X1_fits
def xp_X2_init : List (List Nat) := [[], [128, 90, 91], [], [], [122], [133], [], [], [122], [134], [], [], [122], [135], [], [], [], [129, 130, 122], [136], [], [], [122], [137], []]
set_option maxRecDepth 100000 in
theorem k_X2_init : xall xm_X2_init xc_X2_init xp_X2_init = true := by decide +kernel
theorem o_X2_init : ∀ q ∈ xm_X2_init.2, ∃ p, xchk xm_X2_init q p = true := xall_mem k_X2_init
def xp_X2_suitedIn : List (List Nat) := [[], [], [], []]
set_option maxRecDepth 100000 in
theorem k_X2_suitedIn : xall xm_X2_suitedIn xc_X2_suitedIn xp_X2_suitedIn = true := by decide +kernel
theorem o_X2_suitedIn : ∀ q ∈ xm_X2_suitedIn.2, ∃ p, xchk xm_X2_suitedIn q p = true := xall_mem k_X2_suitedIn
def xp_X2_moneyIn : List (List Nat) := [[], [], [], []]
set_option maxRecDepth 100000 in
theorem k_X2_moneyIn : xall xm_X2_moneyIn xc_X2_moneyIn xp_X2_moneyIn = true := by decide +kernel
theorem o_X2_moneyIn : ∀ q ∈ xm_X2_moneyIn.2, ∃ p, xchk xm_X2_moneyIn q p = true := xall_mem k_X2_moneyIn
def xp_X2_open : List (List Nat) := [[], [], [285], [131], [], [], [132], [], [], [], [], [131], [], [], [134], [], [], [], [701, 578, 579, 68, 580], [], [], [135], [], [], [], [], [702, 654, 655, 68, 656], [], [], [], [], [], [], [], [290], [], [], [], [], [308], [], [], [], [320], [236], [], [], [], [311], [], [], [703, 704, 705, 66, 706], [], [], []]
set_option maxRecDepth 100000 in
theorem k_X2_open : xall xm_X2_open xc_X2_open xp_X2_open = true := by decide +kernel
theorem o_X2_open : ∀ q ∈ xm_X2_open.2, ∃ p, xchk xm_X2_open q p = true := xall_mem k_X2_open
def xp_X2_addRenter : List (List Nat) := [[], [132], [], [], [], [], [], [], [], [], [], [131], [], [], [134], [], [], [], [], [], [], [], [], [], [707, 709, 16, 66, 710], [], [], [], [], [], [], [], [], [], [], [133], [], [132], [], [], [], [], [132], [], [], [132], []]
set_option maxRecDepth 100000 in
theorem k_X2_addRenter : xall xm_X2_addRenter xc_X2_addRenter xp_X2_addRenter = true := by decide +kernel
theorem o_X2_addRenter : ∀ q ∈ xm_X2_addRenter.2, ∃ p, xchk xm_X2_addRenter q p = true := xall_mem k_X2_addRenter
def xp_X2_suitsAtAnyPrice : List (List Nat) := [[], [], [], [711, 562, 563, 68, 564], [], [], [], [], [], [], [135], [], [], [], [], [], [], []]
set_option maxRecDepth 100000 in
theorem k_X2_suitsAtAnyPrice : xall xm_X2_suitsAtAnyPrice xc_X2_suitsAtAnyPrice xp_X2_suitsAtAnyPrice = true := by decide +kernel
theorem o_X2_suitsAtAnyPrice : ∀ q ∈ xm_X2_suitsAtAnyPrice.2, ∃ p, xchk xm_X2_suitsAtAnyPrice q p = true := xall_mem k_X2_suitsAtAnyPrice
def xp_X2_isSuited : List (List Nat) := [[], [133], [], [], [], [], [], [], [], [], [], [], [], []]
set_option maxRecDepth 100000 in
theorem k_X2_isSuited : xall xm_X2_isSuited xc_X2_isSuited xp_X2_isSuited = true := by decide +kernel
theorem o_X2_isSuited : ∀ q ∈ xm_X2_isSuited.2, ∃ p, xchk xm_X2_isSuited q p = true := xall_mem k_X2_isSuited
def xp_X2_solve : List (List Nat) := [[], [], [131], [], [], [], [], [], [136], [], [132], [], [], [724, 279, 76, 280], [], [132], [], [], [], [], [], [], [], [], [], [], [], [136], [], [], [], [], [], [], [725, 727, 17, 66, 728], [], [], [], [], [], [], [136], [], [], [], [], []]
set_option maxRecDepth 100000 in
theorem k_X2_solve : xall xm_X2_solve xc_X2_solve xp_X2_solve = true := by decide +kernel
theorem o_X2_solve : ∀ q ∈ xm_X2_solve.2, ∃ p, xchk xm_X2_solve q p = true := xall_mem k_X2_solve
def xp_X2_mostFor : List (List Nat) := [[], [136], [], [], [], [], [], [], [], [], [], [], [133], [], [], [], [], [], [], [], [], [], [131], [], [], [], [], [], [], [], [], [], [], [], [134], [], [], [], [], [], [], [], [], [], [], [], [729, 730, 83, 731], [], [], [], [], []]
set_option maxRecDepth 100000 in
theorem k_X2_mostFor : xall xm_X2_mostFor xc_X2_mostFor xp_X2_mostFor = true := by decide +kernel
theorem o_X2_mostFor : ∀ q ∈ xm_X2_mostFor.2, ∃ p, xchk xm_X2_mostFor q p = true := xall_mem k_X2_mostFor
def xp_X2_viewInBest : List (List Nat) := [[], [], [131], [], [], [], [], [], [], [], [], [], [], [], [], [], [132], [], [], [], [], [739, 741, 18, 66, 742], [], [], [], [], [], [], [], [], [], [], [], [], [], []]
set_option maxRecDepth 100000 in
theorem k_X2_viewInBest : xall xm_X2_viewInBest xc_X2_viewInBest xp_X2_viewInBest = true := by decide +kernel
theorem o_X2_viewInBest : ∀ q ∈ xm_X2_viewInBest.2, ∃ p, xchk xm_X2_viewInBest q p = true := xall_mem k_X2_viewInBest
def xp_X2_firstBest : List (List Nat) := [[], [136], [], [], [], [], [], [], [136], [], [], [], [], [], [], [], [], [], [], [], [], [], [133], [], [], [], [], [], [], [], [], [], [131], [], [], [], [], [], [], [], [], [], [], [134], [], [], [], [], [], [], [], [], [], [], [], [], [], [], [], [], [], [], []]
set_option maxRecDepth 100000 in
theorem k_X2_firstBest : xall xm_X2_firstBest xc_X2_firstBest xp_X2_firstBest = true := by decide +kernel
theorem o_X2_firstBest : ∀ q ∈ xm_X2_firstBest.2, ∃ p, xchk xm_X2_firstBest q p = true := xall_mem k_X2_firstBest
def xp_X2_asTheyCome : List (List Nat) := [[], [], [131], [], [], [], [], [], [], [], [], [], [], [132], [], [], [], [], [], [], [], [], [], [], [133], [], [], [], [], [758, 760, 19, 66, 761], [], [], [], [], [], [], [], [], [], [], [], [], [], [], [], [134], [], [], [], [], [], [], [], [], []]
set_option maxRecDepth 100000 in
theorem k_X2_asTheyCome : xall xm_X2_asTheyCome xc_X2_asTheyCome xp_X2_asTheyCome = true := by decide +kernel
theorem o_X2_asTheyCome : ∀ q ∈ xm_X2_asTheyCome.2, ∃ p, xchk xm_X2_asTheyCome q p = true := xall_mem k_X2_asTheyCome
def xp_X2_dearest : List (List Nat) := [[], [], [], [], [], [], [131], [], [], [], [], [], [], [], [], [], [], [], [], [134], [], [], [], [134], [], [], [], [], [], [], [], [], []]
set_option maxRecDepth 100000 in
theorem k_X2_dearest : xall xm_X2_dearest xc_X2_dearest xp_X2_dearest = true := by decide +kernel
theorem o_X2_dearest : ∀ q ∈ xm_X2_dearest.2, ∃ p, xchk xm_X2_dearest q p = true := xall_mem k_X2_dearest
def xp_X2_priceForMostMoney : List (List Nat) := [[], [], [], [775, 698, 699, 66, 700], [], [], [], [], [132], [], [], [133], [], [], [], [], [], [], [], [], [], [], [], [], [], [776, 721, 722, 66, 723], [], [], [], [], [], [132], [], [], [], [], [], [308], [], [], [], [311], [], [], [707, 709, 16, 66, 710], [], [], [137], [], [], [], [], [], [], [777, 779, 20, 66, 780], [], [], [], [], [], [], [], [], [], [], [], [], [], [], [], [], [], [], [], [], [781, 582, 583, 68, 584], [], [782, 784, 21, 66, 785], [786, 748, 66, 749], [], [], [], [], [], [], [], [], [], [], [], []]
set_option maxRecDepth 100000 in
theorem k_X2_priceForMostMoney : xall xm_X2_priceForMostMoney xc_X2_priceForMostMoney xp_X2_priceForMostMoney = true := by decide +kernel
theorem o_X2_priceForMostMoney : ∀ q ∈ xm_X2_priceForMostMoney.2, ∃ p, xchk xm_X2_priceForMostMoney q p = true := xall_mem k_X2_priceForMostMoney
def xp_X2_solveWithout : List (List Nat) := [[], [133], [], [], [], [], [133], [], [], [], [], [776, 721, 722, 66, 723], [], [], [133], [], [], [], [], []]
set_option maxRecDepth 100000 in
theorem k_X2_solveWithout : xall xm_X2_solveWithout xc_X2_solveWithout xp_X2_solveWithout = true := by decide +kernel
theorem o_X2_solveWithout : ∀ q ∈ xm_X2_solveWithout.2, ∃ p, xchk xm_X2_solveWithout q p = true := xall_mem k_X2_solveWithout
def xp_X2_mostAtFee : List (List Nat) := [[], [], [], [], [], [], [132], [], [], [137], [], [], [], [], [], [], [320], [236], [], [], [], [], [], [137], [], [], [], [], [729, 730, 83, 731], [], [], [], [], []]
set_option maxRecDepth 100000 in
theorem k_X2_mostAtFee : xall xm_X2_mostAtFee xc_X2_mostAtFee xp_X2_mostAtFee = true := by decide +kernel
theorem o_X2_mostAtFee : ∀ q ∈ xm_X2_mostAtFee.2, ∃ p, xchk xm_X2_mostAtFee q p = true := xall_mem k_X2_mostAtFee
def xp_X2_weighedMoney : List (List Nat) := [[], [], [], [], [], [], [], [132], [], [], [], [], [], [], [], [], [132], [], [], [], [], [], [], [], [], [], [], [], [], [], [], [], [], [], [], [], [], [], [], [], [], [], [], [], [], [880, 755, 756, 66, 757], [786, 748, 66, 749], [], [], [], [], [], [], [], []]
set_option maxRecDepth 100000 in
theorem k_X2_weighedMoney : xall xm_X2_weighedMoney xc_X2_weighedMoney xp_X2_weighedMoney = true := by decide +kernel
theorem o_X2_weighedMoney : ∀ q ∈ xm_X2_weighedMoney.2, ∃ p, xchk xm_X2_weighedMoney q p = true := xall_mem k_X2_weighedMoney
def xp_X2_suitedByDraw : List (List Nat) := [[], [], [], [], [], [], [], [], [], [], [], [], [], [320], [229], [], [], [775, 698, 699, 66, 700], [], [], [], [], [], [], [132], [], [], [894], [], [895], [], [896], [], [], [], [897], [], [898], [], [], [], [], [], [], [], [], [], [], [], [], [], [], [], [], [880, 755, 756, 66, 757], [899, 733, 66, 734], [], [], [], [], [], []]
set_option maxRecDepth 100000 in
theorem k_X2_suitedByDraw : xall xm_X2_suitedByDraw xc_X2_suitedByDraw xp_X2_suitedByDraw = true := by decide +kernel
theorem o_X2_suitedByDraw : ∀ q ∈ xm_X2_suitedByDraw.2, ∃ p, xchk xm_X2_suitedByDraw q p = true := xall_mem k_X2_suitedByDraw
def xp_X3_init : List (List Nat) := [[], [196, 180, 69, 181], []]
set_option maxRecDepth 100000 in
theorem k_X3_init : xall xm_X3_init xc_X3_init xp_X3_init = true := by decide +kernel
theorem o_X3_init : ∀ q ∈ xm_X3_init.2, ∃ p, xchk xm_X3_init q p = true := xall_mem k_X3_init
def xp_X3_showing : List (List Nat) := [[], [], [], [665, 660, 197, 658, 69, 679], [], [], [], [], [], [], [], []]
set_option maxRecDepth 100000 in
theorem k_X3_showing : xall xm_X3_showing xc_X3_showing xp_X3_showing = true := by decide +kernel
theorem o_X3_showing : ∀ q ∈ xm_X3_showing.2, ∃ p, xchk xm_X3_showing q p = true := xall_mem k_X3_showing
def xp_X3_fee : List (List Nat) := [[], [], [], [596, 588, 197, 586, 69, 607], [], []]
set_option maxRecDepth 100000 in
theorem k_X3_fee : xall xm_X3_fee xc_X3_fee xp_X3_fee = true := by decide +kernel
theorem o_X3_fee : ∀ q ∈ xm_X3_fee.2, ∃ p, xchk xm_X3_fee q p = true := xall_mem k_X3_fee
end
section
def xp_X4_init : List (List Nat) := [[], [217, 201, 72, 202], []]
set_option maxRecDepth 100000 in
theorem k_X4_init : xall xm_X4_init xc_X4_init xp_X4_init = true := by decide +kernel
theorem o_X4_init : ∀ q ∈ xm_X4_init.2, ∃ p, xchk xm_X4_init q p = true := xall_mem k_X4_init
def xp_X4_showing : List (List Nat) := [[], [], [], [], [], [], [], [], [], [], [669, 1383, 218, 670, 72, 671], []]
set_option maxRecDepth 100000 in
theorem k_X4_showing : xall xm_X4_showing xc_X4_showing xp_X4_showing = true := by decide +kernel
theorem o_X4_showing : ∀ q ∈ xm_X4_showing.2, ∃ p, xchk xm_X4_showing q p = true := xall_mem k_X4_showing
def xp_X4_fee : List (List Nat) := [[], []]
set_option maxRecDepth 100000 in
theorem k_X4_fee : xall xm_X4_fee xc_X4_fee xp_X4_fee = true := by decide +kernel
theorem o_X4_fee : ∀ q ∈ xm_X4_fee.2, ∃ p, xchk xm_X4_fee q p = true := xall_mem k_X4_fee
def xp_X5_init : List (List Nat) := [[], [158, 90, 91], [], [], [170], [161], [], [], [122], [162], []]
set_option maxRecDepth 100000 in
theorem k_X5_init : xall xm_X5_init xc_X5_init xp_X5_init = true := by decide +kernel
theorem o_X5_init : ∀ q ∈ xm_X5_init.2, ∃ p, xchk xm_X5_init q p = true := xall_mem k_X5_init
def xp_X5_guess : List (List Nat) := [[], [], [159], [], [], [], [], [], [], [161], [], [], [], [], [847, 848, 67, 849], [], [], [161], [], [], [], [], [], [159], [], [], [159], [], [], []]
set_option maxRecDepth 100000 in
theorem k_X5_guess : xall xm_X5_guess xc_X5_guess xp_X5_guess = true := by decide +kernel
theorem o_X5_guess : ∀ q ∈ xm_X5_guess.2, ∃ p, xchk xm_X5_guess q p = true := xall_mem k_X5_guess
def xp_X5_showing : List (List Nat) := [[], [282], [], [], [], [], [], [], [], [], [853, 660, 658, 679, 661, 658, 69, 679, 660, 658, 679, 662, 663, 71, 664, 660, 658, 679, 666, 667, 74, 668, 660, 658, 679, 672, 670, 72, 671, 660, 658, 679, 659, 658, 69, 679, 660, 658, 679, 673, 674, 70, 675], []]
set_option maxRecDepth 100000 in
theorem k_X5_showing : xall xm_X5_showing xc_X5_showing xp_X5_showing = true := by decide +kernel
theorem o_X5_showing : ∀ q ∈ xm_X5_showing.2, ∃ p, xchk xm_X5_showing q p = true := xall_mem k_X5_showing
def xp_X5_fitsReadings : List (List Nat) := [[], [], [], [], [292], [], [], [314], [], [], [], [], [], [], [], [316], [], [], [850, 851, 67, 852], [], [318], [], [], [], [], [], [], [], [], []]
set_option maxRecDepth 100000 in
theorem k_X5_fitsReadings : xall xm_X5_fitsReadings xc_X5_fitsReadings xp_X5_fitsReadings = true := by decide +kernel
theorem o_X5_fitsReadings : ∀ q ∈ xm_X5_fitsReadings.2, ∃ p, xchk xm_X5_fitsReadings q p = true := xall_mem k_X5_fitsReadings
def xp_X5_kindBits : List (List Nat) := [[], [], [], [], [], [], [], [], [161], [], [], [], [], [], [], [], [], [], [], [], [], [], [], []]
set_option maxRecDepth 100000 in
theorem k_X5_kindBits : xall xm_X5_kindBits xc_X5_kindBits xp_X5_kindBits = true := by decide +kernel
theorem o_X5_kindBits : ∀ q ∈ xm_X5_kindBits.2, ∃ p, xchk xm_X5_kindBits q p = true := xall_mem k_X5_kindBits
def xp_X5_bestEvening : List (List Nat) := [[], [159], [], [], [], [], [], [], [159], [], [], [], [], [], [], [], [], [], [], [], [321], [226], [], [], [866, 868, 24, 67, 869], [], [], [], [], [], [], [], [], [], [], [], [321], [226], [], [], []]
set_option maxRecDepth 100000 in
theorem k_X5_bestEvening : xall xm_X5_bestEvening xc_X5_bestEvening xp_X5_bestEvening = true := by decide +kernel
theorem o_X5_bestEvening : ∀ q ∈ xm_X5_bestEvening.2, ∃ p, xchk xm_X5_bestEvening q p = true := xall_mem k_X5_bestEvening
def xp_X5_mostAlike : List (List Nat) := [[], [162], [], [870, 279, 76, 280], [], [], [], [], [], [], [], [], [161], [], [], [], [], [], [], [850, 851, 67, 852], [], [], [162], [], [], [], [], [], [], [], [], [162], [], [], [871, 730, 83, 731], [], [], [], [], []]
set_option maxRecDepth 100000 in
theorem k_X5_mostAlike : xall xm_X5_mostAlike xc_X5_mostAlike xp_X5_mostAlike = true := by decide +kernel
theorem o_X5_mostAlike : ∀ q ∈ xm_X5_mostAlike.2, ∃ p, xchk xm_X5_mostAlike q p = true := xall_mem k_X5_mostAlike
def xp_X6_init : List (List Nat) := [[], [203, 187, 70, 188], []]
set_option maxRecDepth 100000 in
theorem k_X6_init : xall xm_X6_init xc_X6_init xp_X6_init = true := by decide +kernel
theorem o_X6_init : ∀ q ∈ xm_X6_init.2, ∃ p, xchk xm_X6_init q p = true := xall_mem k_X6_init
def xp_X6_showing : List (List Nat) := [[], []]
set_option maxRecDepth 100000 in
theorem k_X6_showing : xall xm_X6_showing xc_X6_showing xp_X6_showing = true := by decide +kernel
theorem o_X6_showing : ∀ q ∈ xm_X6_showing.2, ∃ p, xchk xm_X6_showing q p = true := xall_mem k_X6_showing
def xp_X6_fee : List (List Nat) := [[], [], [603, 604, 204, 586, 69, 607, 190], [], [], []]
set_option maxRecDepth 100000 in
theorem k_X6_fee : xall xm_X6_fee xc_X6_fee xp_X6_fee = true := by decide +kernel
theorem o_X6_fee : ∀ q ∈ xm_X6_fee.2, ∃ p, xchk xm_X6_fee q p = true := xall_mem k_X6_fee
def xp_X7_init : List (List Nat) := [[], [182, 90, 91], []]
set_option maxRecDepth 100000 in
theorem k_X7_init : xall xm_X7_init xc_X7_init xp_X7_init = true := by decide +kernel
theorem o_X7_init : ∀ q ∈ xm_X7_init.2, ∃ p, xchk xm_X7_init q p = true := xall_mem k_X7_init
def xp_X7_showing : List (List Nat) := [[], [], [], [], [680, 677, 83, 678], []]
set_option maxRecDepth 100000 in
theorem k_X7_showing : xall xm_X7_showing xc_X7_showing xp_X7_showing = true := by decide +kernel
theorem o_X7_showing : ∀ q ∈ xm_X7_showing.2, ∃ p, xchk xm_X7_showing q p = true := xall_mem k_X7_showing
def xp_X7_fee : List (List Nat) := [[], []]
set_option maxRecDepth 100000 in
theorem k_X7_fee : xall xm_X7_fee xc_X7_fee xp_X7_fee = true := by decide +kernel
theorem o_X7_fee : ∀ q ∈ xm_X7_fee.2, ∃ p, xchk xm_X7_fee q p = true := xall_mem k_X7_fee
def xp_X7_fits : List (List Nat) := [[], [], [], [], [], [], []]
set_option maxRecDepth 100000 in
theorem k_X7_fits : xall xm_X7_fits xc_X7_fits xp_X7_fits = true := by decide +kernel
theorem o_X7_fits : ∀ q ∈ xm_X7_fits.2, ∃ p, xchk xm_X7_fits q p = true := xall_mem k_X7_fits
def xp_X8_init : List (List Nat) := [[], [99, 90, 91], [], [], [121], [104], [], [], [122], [107], []]
set_option maxRecDepth 100000 in
theorem k_X8_init : xall xm_X8_init xc_X8_init xp_X8_init = true := by decide +kernel
theorem o_X8_init : ∀ q ∈ xm_X8_init.2, ∃ p, xchk xm_X8_init q p = true := xall_mem k_X8_init
def xp_X8_add : List (List Nat) := [[], [104], [], [102], [], [], [], [], [102], [], [], [102], []]
set_option maxRecDepth 100000 in
theorem k_X8_add : xall xm_X8_add xc_X8_add xp_X8_add = true := by decide +kernel
theorem o_X8_add : ∀ q ∈ xm_X8_add.2, ∃ p, xchk xm_X8_add q p = true := xall_mem k_X8_add
def xp_X8_readInto : List (List Nat) := [[], [], [105], [], [449, 267, 268, 68, 269], [], [450, 452, 2, 65, 453], [], [458], [459, 461, 4, 65, 462], [], [], [], [], [450, 452, 2, 65, 453], [], [511, 513, 5, 65, 514], [], [], [], [], [], [], [106], [], [], [], [], [], [], [515, 517, 6, 65, 518], [], [], [], [], [], [], []]
set_option maxRecDepth 100000 in
theorem k_X8_readInto : xall xm_X8_readInto xc_X8_readInto xp_X8_readInto = true := by decide +kernel
theorem o_X8_readInto : ∀ q ∈ xm_X8_readInto.2, ∃ p, xchk xm_X8_readInto q p = true := xall_mem k_X8_readInto
def xp_X8_readItem : List (List Nat) := [[], [519], [459, 461, 4, 65, 462], [], [], [286], [], [], [], [], [520, 522, 7, 65, 523], [], [], [], [], [], [], [534], [459, 461, 4, 65, 462], [], [], [289], [], [], [], [], [535, 537, 10, 65, 538], [], [], [], [], [], [], [540], [459, 461, 4, 65, 462], [], [], [], [541, 543, 11, 65, 544], [], [], [], [], []]
set_option maxRecDepth 100000 in
theorem k_X8_readItem : xall xm_X8_readItem xc_X8_readItem xp_X8_readItem = true := by decide +kernel
theorem o_X8_readItem : ∀ q ∈ xm_X8_readItem.2, ∃ p, xchk xm_X8_readItem q p = true := xall_mem k_X8_readItem
def xp_X8_readView : List (List Nat) := [[], [450, 452, 2, 65, 453], [], [], [], [], [524, 526, 8, 65, 527], [], [], [], [], [], [524, 526, 8, 65, 527], [], [], [], [], [], [524, 526, 8, 65, 527], [], [], [], [], [], [524, 526, 8, 65, 527], [], [], [511, 513, 5, 65, 514], [], [], [], [], [], [107], [], [], [], [107], [], [], [], [107], [], [], [], [107], [], [], [533, 407, 408, 68, 409], [], []]
set_option maxRecDepth 100000 in
theorem k_X8_readView : xall xm_X8_readView xc_X8_readView xp_X8_readView = true := by decide +kernel
theorem o_X8_readView : ∀ q ∈ xm_X8_readView.2, ∃ p, xchk xm_X8_readView q p = true := xall_mem k_X8_readView
def xp_X8_readRenter : List (List Nat) := [[], [450, 452, 2, 65, 453], [], [], [], [], [524, 526, 8, 65, 527], [], [], [], [], [], [524, 526, 8, 65, 527], [], [], [], [], [], [524, 526, 8, 65, 527], [], [], [511, 513, 5, 65, 514], [], [], [], [], [], [107], [], [], [], [107], [], [], [], [107], [], [], [539, 418, 419, 68, 420], [], []]
set_option maxRecDepth 100000 in
theorem k_X8_readRenter : xall xm_X8_readRenter xc_X8_readRenter xp_X8_readRenter = true := by decide +kernel
theorem o_X8_readRenter : ∀ q ∈ xm_X8_readRenter.2, ∃ p, xchk xm_X8_readRenter q p = true := xall_mem k_X8_readRenter
def xp_X8_readThing : List (List Nat) := [[], [450, 452, 2, 65, 453], [], [], [], [], [286], [], [], [524, 526, 8, 65, 527], [], [], [], [], [], [524, 526, 8, 65, 527], [], [], [511, 513, 5, 65, 514], [], [], [], [], [306], [], [107], [], [], [], [], [], [], [107], [], [], [], [], [], [], []]
set_option maxRecDepth 100000 in
theorem k_X8_readThing : xall xm_X8_readThing xc_X8_readThing xp_X8_readThing = true := by decide +kernel
theorem o_X8_readThing : ∀ q ∈ xm_X8_readThing.2, ∃ p, xchk xm_X8_readThing q p = true := xall_mem k_X8_readThing
def xp_X8_passMark : List (List Nat) := [[], [106], [], [], [], [], [], [450, 452, 2, 65, 453], [], []]
set_option maxRecDepth 100000 in
theorem k_X8_passMark : xall xm_X8_passMark xc_X8_passMark xp_X8_passMark = true := by decide +kernel
theorem o_X8_passMark : ∀ q ∈ xm_X8_passMark.2, ∃ p, xchk xm_X8_passMark q p = true := xall_mem k_X8_passMark
def xp_X8_passNumber : List (List Nat) := [[], [528, 530, 9, 65, 531], [], [], [], [], [], [], [], [532, 397, 64, 398], [], [], [], [], [107], [], [], [], [], [450, 452, 2, 65, 453], [], []]
set_option maxRecDepth 100000 in
theorem k_X8_passNumber : xall xm_X8_passNumber xc_X8_passNumber xp_X8_passNumber = true := by decide +kernel
theorem o_X8_passNumber : ∀ q ∈ xm_X8_passNumber.2, ∃ p, xchk xm_X8_passNumber q p = true := xall_mem k_X8_passNumber
def xp_X8_numberMet : List (List Nat) := [[], [106], [], [], [], [105], [], [101], [], [], [], [], [], [], [], [], [101], [], [], [], [105], [], [], [], [], [], [104], [], [], [], [], [], [], [], [], [], []]
set_option maxRecDepth 100000 in
theorem k_X8_numberMet : xall xm_X8_numberMet xc_X8_numberMet xp_X8_numberMet = true := by decide +kernel
theorem o_X8_numberMet : ∀ q ∈ xm_X8_numberMet.2, ∃ p, xchk xm_X8_numberMet q p = true := xall_mem k_X8_numberMet
def xp_X8_isWord : List (List Nat) := [[], [106], [], [], [], [105], [], [101], [], [], [463, 464, 465, 78, 466], [], [], [], [], [], [], [], [463, 464, 465, 78, 466], [], [], [104], [], [101], [], [], [], [], [], [473, 474, 475, 78, 476], [], [], [], [], [], [], []]
set_option maxRecDepth 100000 in
theorem k_X8_isWord : xall xm_X8_isWord xc_X8_isWord xp_X8_isWord = true := by decide +kernel
theorem o_X8_isWord : ∀ q ∈ xm_X8_isWord.2, ∃ p, xchk xm_X8_isWord q p = true := xall_mem k_X8_isWord
def xp_X8_step : List (List Nat) := [[], [], [105], [101], [], [101], [], [102], [], [], [104], [], [101], [], [], [], [], [], [101], [], [], [101], [], [], [], [], [101], [454, 456, 3, 65, 457], [106], [], [], [106], [], [], [101], [], [], [101], [], [], [105], [], [106], [], [], [], [106], [], [], [], [105], [], [102], [], [], [], [105], [454, 456, 3, 65, 457], [], [106], [], [], [], [105], [], [], [105], [], []]
set_option maxRecDepth 100000 in
theorem k_X8_step : xall xm_X8_step xc_X8_step xp_X8_step = true := by decide +kernel
theorem o_X8_step : ∀ q ∈ xm_X8_step.2, ∃ p, xchk xm_X8_step q p = true := xall_mem k_X8_step
def xp_X8_sortAt : List (List Nat) := [[], [], [102], [], [], [], [], [104], [], [], [], [], [], [], [], [], [], [], [], [], [], [], [], [], [], [], [], [], [], [], [], [], [], []]
set_option maxRecDepth 100000 in
theorem k_X8_sortAt : xall xm_X8_sortAt xc_X8_sortAt xp_X8_sortAt = true := by decide +kernel
theorem o_X8_sortAt : ∀ q ∈ xm_X8_sortAt.2, ∃ p, xchk xm_X8_sortAt q p = true := xall_mem k_X8_sortAt
def xp_X9_init : List (List Nat) := [[], [175, 90, 91], [], [], [176, 177], [], [], [176, 178, 69], [], [179, 180, 69, 181], [], [], [], [184, 185, 70], [], [186, 187, 70, 188], [], [], [], [191, 192, 71], [], [193, 194, 71, 195], [], [], [], [198, 199, 72], [], [200, 201, 72, 202], [], [], [], [205, 206, 73], [], [207, 208, 73, 209], [], [], [], [212, 213, 74], [], [214, 215, 74, 216], [], [281], [], [], [122], [296], [], [], [122], [298], [], [], [122], [300], [], [], [122], [302], [], [], [122], [304], [], [], [122], [307], [], [], [122], [310], [], [], [122], [313], [], [], [122], [315], [], [], [122], [317], [], [219, 220, 75], [], [221, 222, 75, 223], [319], [], [], [219, 265], [323], [], [], [], [], [], [], [323], [], [219, 220, 75], [], [221, 222, 75, 223], [], [], [], [], [266, 267, 268, 68, 269], []]
set_option maxRecDepth 100000 in
theorem k_X9_init : xall xm_X9_init xc_X9_init xp_X9_init = true := by decide +kernel
theorem o_X9_init : ∀ q ∈ xm_X9_init.2, ∃ p, xchk xm_X9_init q p = true := xall_mem k_X9_init
def xp_X9_empty : List (List Nat) := [[], [], [283], [], [], [287], [], [], [291], [], [], [294], [], [319], [270, 271, 272, 75, 273], []]
set_option maxRecDepth 100000 in
theorem k_X9_empty : xall xm_X9_empty xc_X9_empty xp_X9_empty = true := by decide +kernel
theorem o_X9_empty : ∀ q ∈ xm_X9_empty.2, ∃ p, xchk xm_X9_empty q p = true := xall_mem k_X9_empty
def xp_X9_copyFrom : List (List Nat) := [[], [], [283], [283], [], [], [287], [287], [], [], [291], [291], [], [], [294], [294], [], [296], [], [], [296], [], [], [912, 622, 621, 82], [], [298], [], [], [298], [], [], [912, 622, 621, 82], [], [300], [], [], [300], [], [], [912, 622, 621, 82], [], [302], [], [], [302], [], [], [912, 622, 621, 82], [], [304], [], [], [304], [], [], [912, 622, 621, 82], [], [307], [], [], [307], [], [], [912, 622, 621, 82], [], [310], [], [], [310], [], [], [912, 622, 621, 82], [], [313], [], [], [313], [], [], [912, 622, 621, 82], [], [315], [], [], [315], [], [], [912, 622, 621, 82], [], [317], [], [], [317], [], [], [912, 622, 621, 82], [], [319], [], [319], [616, 617, 618, 75, 619], [], [], [], [], [294], [], [], [323], [], [], [], [323], [], [], [616, 617, 618, 75, 619], [], [], []]
set_option maxRecDepth 100000 in
theorem k_X9_copyFrom : xall xm_X9_copyFrom xc_X9_copyFrom xp_X9_copyFrom = true := by decide +kernel
theorem o_X9_copyFrom : ∀ q ∈ xm_X9_copyFrom.2, ∃ p, xchk xm_X9_copyFrom q p = true := xall_mem k_X9_copyFrom
def xp_X9_addView : List (List Nat) := [[], [296], [], [283], [], [], [], [298], [], [283], [], [], [], [300], [], [283], [], [], [], [302], [], [283], [], [], [], [304], [], [283], [], [], [], [], [283], [], [], [283], [], [], [294], []]
set_option maxRecDepth 100000 in
theorem k_X9_addView : xall xm_X9_addView xc_X9_addView xp_X9_addView = true := by decide +kernel
theorem o_X9_addView : ∀ q ∈ xm_X9_addView.2, ∃ p, xchk xm_X9_addView q p = true := xall_mem k_X9_addView
def xp_X9_addRenter : List (List Nat) := [[], [307], [], [287], [], [], [], [310], [], [287], [], [], [], [319], [237], [], [287], [], [], [], [], [287], [], [], [287], [], [], [294], []]
set_option maxRecDepth 100000 in
theorem k_X9_addRenter : xall xm_X9_addRenter xc_X9_addRenter xp_X9_addRenter = true := by decide +kernel
theorem o_X9_addRenter : ∀ q ∈ xm_X9_addRenter.2, ∃ p, xchk xm_X9_addRenter q p = true := xall_mem k_X9_addRenter
def xp_X9_addReading : List (List Nat) := [[], [313], [], [291], [], [], [], [315], [], [291], [], [], [], [317], [], [291], [], [], [], [], [291], [], [], [291], []]
set_option maxRecDepth 100000 in
theorem k_X9_addReading : xall xm_X9_addReading xc_X9_addReading xp_X9_addReading = true := by decide +kernel
theorem o_X9_addReading : ∀ q ∈ xm_X9_addReading.2, ∃ p, xchk xm_X9_addReading q p = true := xall_mem k_X9_addReading
end
section
def xp_X9_remember : List (List Nat) := [[], [294], [], [], [], [612, 614, 13, 68, 615], [], [], [294], [], [323], [], [294], [], [], [319], [616, 617, 618, 75, 619], [], [], [294], [], [], [294], []]
set_option maxRecDepth 100000 in
theorem k_X9_remember : xall xm_X9_remember xc_X9_remember xp_X9_remember = true := by decide +kernel
theorem o_X9_remember : ∀ q ∈ xm_X9_remember.2, ∃ p, xchk xm_X9_remember q p = true := xall_mem k_X9_remember
def xp_X9_moveOldestToEnd : List (List Nat) := [[], [323], [], [], [], [], [], [], [], [], [], [323], [], [], [], [], [323], [], [], [], [], [], [], [323], [], [], [], []]
set_option maxRecDepth 100000 in
theorem k_X9_moveOldestToEnd : xall xm_X9_moveOldestToEnd xc_X9_moveOldestToEnd xp_X9_moveOldestToEnd = true := by decide +kernel
theorem o_X9_moveOldestToEnd : ∀ q ∈ xm_X9_moveOldestToEnd.2, ∃ p, xchk xm_X9_moveOldestToEnd q p = true := xall_mem k_X9_moveOldestToEnd
def xp_X9_goBack : List (List Nat) := [[], [], [294], [], [], [294], [], [319], [], [323], [], [294], [], [616, 617, 618, 75, 619], []]
set_option maxRecDepth 100000 in
theorem k_X9_goBack : xall xm_X9_goBack xc_X9_goBack xp_X9_goBack = true := by decide +kernel
theorem o_X9_goBack : ∀ q ∈ xm_X9_goBack.2, ∃ p, xchk xm_X9_goBack q p = true := xall_mem k_X9_goBack
def xp_X9_showing : List (List Nat) := [[], [281], [], [296], [], [], [], [], [302], [], [], [], [657, 660, 658, 679, 661, 658, 69, 679, 660, 658, 679, 662, 663, 71, 664, 660, 658, 679, 666, 667, 74, 668, 660, 658, 679, 672, 670, 72, 671, 660, 658, 679, 659, 658, 69, 679, 660, 658, 679, 673, 674, 70, 675], []]
set_option maxRecDepth 100000 in
theorem k_X9_showing : xall xm_X9_showing xc_X9_showing xp_X9_showing = true := by decide +kernel
theorem o_X9_showing : ∀ q ∈ xm_X9_showing.2, ∃ p, xchk xm_X9_showing q p = true := xall_mem k_X9_showing
def xp_X9_fee : List (List Nat) := [[], [], [], [300], [], [], [581, 582, 583, 68, 584], []]
set_option maxRecDepth 100000 in
theorem k_X9_fee : xall xm_X9_fee xc_X9_fee xp_X9_fee = true := by decide +kernel
theorem o_X9_fee : ∀ q ∈ xm_X9_fee.2, ∃ p, xchk xm_X9_fee q p = true := xall_mem k_X9_fee
def xp_X9_feeAt : List (List Nat) := [[], [281], [], [296], [], [], [], [], [585, 588, 586, 607, 589, 590, 73, 591, 588, 586, 607, 593, 594, 71, 595, 588, 586, 607, 597, 598, 74, 599, 588, 586, 607, 600, 601, 72, 602, 588, 586, 607, 587, 586, 69, 607, 588, 586, 607, 606, 586, 69, 607], []]
set_option maxRecDepth 100000 in
theorem k_X9_feeAt : xall xm_X9_feeAt xc_X9_feeAt xp_X9_feeAt = true := by decide +kernel
theorem o_X9_feeAt : ∀ q ∈ xm_X9_feeAt.2, ∃ p, xchk xm_X9_feeAt q p = true := xall_mem k_X9_feeAt
def xp_X9_fits : List (List Nat) := [[], [281], [], [296], [], [], [], [], [298], [], [], [], [565, 568, 566, 576, 569, 570, 73, 571, 568, 566, 576, 572, 566, 69, 576, 568, 566, 576, 573, 566, 69, 576, 568, 566, 576, 574, 566, 69, 576, 568, 566, 576, 567, 566, 69, 576, 568, 566, 576, 575, 566, 69, 576], []]
set_option maxRecDepth 100000 in
theorem k_X9_fits : xall xm_X9_fits xc_X9_fits xp_X9_fits = true := by decide +kernel
theorem o_X9_fits : ∀ q ∈ xm_X9_fits.2, ∃ p, xchk xm_X9_fits q p = true := xall_mem k_X9_fits
def xp_X9_mayLet : List (List Nat) := [[], [319], [241], [], [], [], [], [], [319], [], [557, 558, 559, 75, 560], [], [], [], [], [], [307], [], [], [561, 562, 563, 68, 564], [], [], [], [577, 578, 579, 68, 580], [], [319], [237], [], [], [], [], [], [], []]
set_option maxRecDepth 100000 in
theorem k_X9_mayLet : xall xm_X9_mayLet xc_X9_mayLet xp_X9_mayLet = true := by decide +kernel
theorem o_X9_mayLet : ∀ q ∈ xm_X9_mayLet.2, ∃ p, xchk xm_X9_mayLet q p = true := xall_mem k_X9_mayLet
def xp_X9_airNow : List (List Nat) := [[], [319], [], [557, 558, 559, 75, 560], [], [], [319], [], [557, 558, 559, 75, 560], [], [], [], [], [], [], [], [], [], [], [], [], [799, 801, 23, 68, 802], []]
set_option maxRecDepth 100000 in
theorem k_X9_airNow : xall xm_X9_airNow xc_X9_airNow xp_X9_airNow = true := by decide +kernel
theorem o_X9_airNow : ∀ q ∈ xm_X9_airNow.2, ∃ p, xchk xm_X9_airNow q p = true := xall_mem k_X9_airNow
def xp_X9_airOf : List (List Nat) := [[], [], [], [319], [228], [803, 654, 655, 68, 656], [], [], [], [319], [228], [803, 654, 655, 68, 656], [], [], [], [], [], []]
set_option maxRecDepth 100000 in
theorem k_X9_airOf : xall xm_X9_airOf xc_X9_airOf xp_X9_airOf = true := by decide +kernel
theorem o_X9_airOf : ∀ q ∈ xm_X9_airOf.2, ∃ p, xchk xm_X9_airOf q p = true := xall_mem k_X9_airOf
def xp_X9_fewestForAir : List (List Nat) := [[], [], [], [], [], [319], [], [557, 558, 559, 75, 560], [], [], [319], [], [557, 558, 559, 75, 560], [], [], [], [], [], [], [], [283], [], [], [], [], [], [283], [], [], [], [], [], [], [], [799, 801, 23, 68, 802], [], [], [], [], [], [307], [], [], [561, 562, 563, 68, 564], [], [], [], [], [307], [], [], [561, 562, 563, 68, 564], [], [], [], [], [], [], [], [], [], [], [], [], [], [], [], [], [], [], [], [], [], [], [], [], [], [], [], [], [], [], [], [], [], [812, 813, 83, 814], [], [], [], [], [], [], []]
set_option maxRecDepth 100000 in
theorem k_X9_fewestForAir : xall xm_X9_fewestForAir xc_X9_fewestForAir xp_X9_fewestForAir = true := by decide +kernel
theorem o_X9_fewestForAir : ∀ q ∈ xm_X9_fewestForAir.2, ∃ p, xchk xm_X9_fewestForAir q p = true := xall_mem k_X9_fewestForAir
def xp_X9_digestFrom : List (List Nat) := [[], [], [], [], [283], [], [940], [], [], [], [296], [], [], [], [], [], [940], [], [], [], [298], [], [], [], [], [], [940], [], [], [], [300], [], [], [], [], [], [940], [], [], [], [302], [], [], [], [], [], [940], [], [], [], [319], [241], [], [], [], [], [], [940], [], [], [], [304], [], [], [], [], [], [], [], [], [], [], [], [287], [], [940], [], [], [], [307], [], [], [], [], [], [940], [], [], [], [319], [237], [], [], [], [], [], [940], [], [], [], [310], [], [], [], [], [], [], [], [], [], [], [], [319], [233], [], [940], [], [], [], [319], [243], [], [], [], [], [], [940], [], [], [], [319], [245], [], [], [], [], [], [940], [], [], [], [319], [247], [], [], [], [], [], [], [], [], [], [], [], [291], [], [940], [], [], [], [313], [], [], [], [], [], [940], [], [], [], [315], [], [], [], [], [], [940], [], [], [], [317], [], [], [], [], [], [], [], [], []]
set_option maxRecDepth 100000 in
theorem k_X9_digestFrom : xall xm_X9_digestFrom xc_X9_digestFrom xp_X9_digestFrom = true := by decide +kernel
theorem o_X9_digestFrom : ∀ q ∈ xm_X9_digestFrom.2, ∃ p, xchk xm_X9_digestFrom q p = true := xall_mem k_X9_digestFrom
def xp_X10_init : List (List Nat) := [[], [189, 180, 69, 181], []]
set_option maxRecDepth 100000 in
theorem k_X10_init : xall xm_X10_init xc_X10_init xp_X10_init = true := by decide +kernel
theorem o_X10_init : ∀ q ∈ xm_X10_init.2, ∃ p, xchk xm_X10_init q p = true := xall_mem k_X10_init
def xp_X10_showing : List (List Nat) := [[], [], [], [], [], [], [676, 677, 83, 678], []]
set_option maxRecDepth 100000 in
theorem k_X10_showing : xall xm_X10_showing xc_X10_showing xp_X10_showing = true := by decide +kernel
theorem o_X10_showing : ∀ q ∈ xm_X10_showing.2, ∃ p, xchk xm_X10_showing q p = true := xall_mem k_X10_showing
def xp_X11_init : List (List Nat) := [[], [89, 90, 91], [], [], [92, 93], [359], [], [94, 95, 65], [], [96, 97, 65, 98], [360], [], [123, 124, 66], [], [125, 126, 66, 127], [361], [], [153, 154, 67], [], [155, 156, 67, 157], [362], [], [], [122], [363], [], [92, 171, 68], [], [172, 173, 68, 174], [364], [], [92, 171, 68], [], [172, 173, 68, 174], [365], [], [], [366], [], [], [367], []]
set_option maxRecDepth 100000 in
theorem k_X11_init : xall xm_X11_init xc_X11_init xp_X11_init = true := by decide +kernel
theorem o_X11_init : ∀ q ∈ xm_X11_init.2, ∃ p, xchk xm_X11_init q p = true := xall_mem k_X11_init
def xp_X11_shop : List (List Nat) := [[], [364], [284], [], [], [364], [391, 267, 268, 68, 269], [], []]
set_option maxRecDepth 100000 in
theorem k_X11_shop : xall xm_X11_shop xc_X11_shop xp_X11_shop = true := by decide +kernel
theorem o_X11_shop : ∀ q ∈ xm_X11_shop.2, ∃ p, xchk xm_X11_shop q p = true := xall_mem k_X11_shop
def xp_X11_view : List (List Nat) := [[], [], [], [396, 397, 64, 398], [], [], [], [], [396, 397, 64, 398], [], [], [], [], [396, 397, 64, 398], [], [], [399, 400, 64, 401], [], [], [], [402, 404, 0, 64, 405], [], [], [364], [284], [], [], [], [], [402, 404, 0, 64, 405], [], [], [364], [], [], [], [], [406, 407, 408, 68, 409], [], [364], [284], [], [], []]
set_option maxRecDepth 100000 in
theorem k_X11_view : xall xm_X11_view xc_X11_view xp_X11_view = true := by decide +kernel
theorem o_X11_view : ∀ q ∈ xm_X11_view.2, ∃ p, xchk xm_X11_view q p = true := xall_mem k_X11_view
def xp_X11_renter : List (List Nat) := [[], [], [], [414, 415, 64, 416], [], [], [], [402, 404, 0, 64, 405], [], [], [364], [288], [], [], [], [], [402, 404, 0, 64, 405], [], [], [364], [], [], [], [417, 418, 419, 68, 420], [], [364], [288], [], [], []]
set_option maxRecDepth 100000 in
theorem k_X11_renter : xall xm_X11_renter xc_X11_renter xp_X11_renter = true := by decide +kernel
theorem o_X11_renter : ∀ q ∈ xm_X11_renter.2, ∃ p, xchk xm_X11_renter q p = true := xall_mem k_X11_renter
def xp_X11_things : List (List Nat) := [[], [], [425, 427, 1, 64, 428], [], [], [], [], [396, 397, 64, 398], [], [], [], [402, 404, 0, 64, 405], [], [], [364], [305], [], [], [], [], [364], [305], [], [], [], [], []]
set_option maxRecDepth 100000 in
theorem k_X11_things : xall xm_X11_things xc_X11_things xp_X11_things = true := by decide +kernel
theorem o_X11_things : ∀ q ∈ xm_X11_things.2, ∃ p, xchk xm_X11_things q p = true := xall_mem k_X11_things
def xp_X11_type : List (List Nat) := [[], [], [], [396, 397, 64, 398], [], [], [], [402, 404, 0, 64, 405], [], [], [360], [103], [], [], [], [], [402, 404, 0, 64, 405], [], [], [360], [], [], [433, 434, 435, 65, 436], [], [360], [103], []]
set_option maxRecDepth 100000 in
theorem k_X11_type : xall xm_X11_type xc_X11_type xp_X11_type = true := by decide +kernel
theorem o_X11_type : ∀ q ∈ xm_X11_type.2, ∃ p, xchk xm_X11_type q p = true := xall_mem k_X11_type
def xp_X11_clear : List (List Nat) := [[], [360], [103], [], [], [360], [], [103], [], []]
set_option maxRecDepth 100000 in
theorem k_X11_clear : xall xm_X11_clear xc_X11_clear xp_X11_clear = true := by decide +kernel
theorem o_X11_clear : ∀ q ∈ xm_X11_clear.2, ∃ p, xchk xm_X11_clear q p = true := xall_mem k_X11_clear
def xp_X11_read : List (List Nat) := [[], [360], [], [365], [445, 446, 447, 65, 448], [], [], [], [], [], [], [360], [100], [], [], [], [364], [], [], [], [365], [364], [], [], [365], [], []]
set_option maxRecDepth 100000 in
theorem k_X11_read : xall xm_X11_read xc_X11_read xp_X11_read = true := by decide +kernel
theorem o_X11_read : ∀ q ∈ xm_X11_read.2, ∃ p, xchk xm_X11_read q p = true := xall_mem k_X11_read
def xp_X11_let : List (List Nat) := [[], [], [425, 427, 1, 64, 428], [], [], [], [549, 551, 12, 64, 552], [], [], [], [402, 404, 0, 64, 405], [], [], [364], [], [], [553, 554, 555, 68, 556], [], [], [], [402, 404, 0, 64, 405], [], [], [364], [608, 609, 610, 68, 611], [], [364], [], [623, 578, 579, 68, 580], [], [], [364], [322], [], [], [], [624, 625, 626, 75, 627], [], []]
set_option maxRecDepth 100000 in
theorem k_X11_let : xall xm_X11_let xc_X11_let xp_X11_let = true := by decide +kernel
theorem o_X11_let : ∀ q ∈ xm_X11_let.2, ∃ p, xchk xm_X11_let q p = true := xall_mem k_X11_let
def xp_X11_night : List (List Nat) := [[], [364], [608, 609, 610, 68, 611], [], [364], [322], [636, 275, 276, 75, 277], [], [364], [322], [], [227], [], [], [227], [], [364], [322], [227], []]
set_option maxRecDepth 100000 in
theorem k_X11_night : xall xm_X11_night xc_X11_night xp_X11_night = true := by decide +kernel
theorem o_X11_night : ∀ q ∈ xm_X11_night.2, ∃ p, xchk xm_X11_night q p = true := xall_mem k_X11_night
def xp_X11_undo : List (List Nat) := [[], [364], [295], [], [], [], [402, 404, 0, 64, 405], [], [], [364], [641, 642, 643, 68, 644], [], [364], [322], [231], []]
set_option maxRecDepth 100000 in
theorem k_X11_undo : xall xm_X11_undo xc_X11_undo xp_X11_undo = true := by decide +kernel
theorem o_X11_undo : ∀ q ∈ xm_X11_undo.2, ∃ p, xchk xm_X11_undo q p = true := xall_mem k_X11_undo
def xp_X11_of : List (List Nat) := [[], [], [425, 427, 1, 64, 428], [], [], [649, 651, 15, 64, 652], [], [], [], [], [364], [297], [], [], [], [], [364], [299], [], [], [], [], [364], [301], [], [], [], [], [364], [303], [], [], [], [], [364], [], [], [364], [322], [227], [653, 654, 655, 68, 656], [], [], [364], [], [623, 578, 579, 68, 580], [], [], [364], [322], [240], [], [], [], [], [364], [305], [], [], [], [], [649, 651, 15, 64, 652], []]
set_option maxRecDepth 100000 in
theorem k_X11_of : xall xm_X11_of xc_X11_of xp_X11_of = true := by decide +kernel
theorem o_X11_of : ∀ q ∈ xm_X11_of.2, ∃ p, xchk xm_X11_of q p = true := xall_mem k_X11_of
def xp_X11_about : List (List Nat) := [[], [], [549, 551, 12, 64, 552], [], [], [649, 651, 15, 64, 652], [], [], [], [], [364], [309], [], [], [], [], [364], [322], [238], [], [], [], [], [364], [312], [], [], [], [], [364], [322], [], [685, 558, 559, 75, 560], [], [], [649, 651, 15, 64, 652], []]
set_option maxRecDepth 100000 in
theorem k_X11_about : xall xm_X11_about xc_X11_about xp_X11_about = true := by decide +kernel
theorem o_X11_about : ∀ q ∈ xm_X11_about.2, ∃ p, xchk xm_X11_about q p = true := xall_mem k_X11_about
def xp_X11_shows : List (List Nat) := [[], [], [425, 427, 1, 64, 428], [], [], [690, 691, 64, 692], [], [], [], [402, 404, 0, 64, 405], [], [], [364], [], [], [653, 654, 655, 68, 656], []]
set_option maxRecDepth 100000 in
theorem k_X11_shows : xall xm_X11_shows xc_X11_shows xp_X11_shows = true := by decide +kernel
theorem o_X11_shows : ∀ q ∈ xm_X11_shows.2, ∃ p, xchk xm_X11_shows q p = true := xall_mem k_X11_shows
def xp_X11_suits : List (List Nat) := [[], [], [425, 427, 1, 64, 428], [], [], [], [549, 551, 12, 64, 552], [], [], [690, 691, 64, 692], [], [], [], [402, 404, 0, 64, 405], [], [], [361], [], [364], [], [697, 698, 699, 66, 700], [], [361], [], [], [712, 713, 714, 66, 715], [], [], [], [], []]
set_option maxRecDepth 100000 in
theorem k_X11_suits : xall xm_X11_suits xc_X11_suits xp_X11_suits = true := by decide +kernel
theorem o_X11_suits : ∀ q ∈ xm_X11_suits.2, ∃ p, xchk xm_X11_suits q p = true := xall_mem k_X11_suits
def xp_X11_best : List (List Nat) := [[], [690, 691, 64, 692], [], [], [], [], [], [], [549, 551, 12, 64, 552], [], [], [649, 651, 15, 64, 652], [], [], [361], [], [364], [], [697, 698, 699, 66, 700], [], [361], [720, 721, 722, 66, 723], [], [], [], [], [], [732, 733, 66, 734], [], [], [361], [], [735, 736, 737, 66, 738], []]
set_option maxRecDepth 100000 in
theorem k_X11_best : xall xm_X11_best xc_X11_best xp_X11_best = true := by decide +kernel
theorem o_X11_best : ∀ q ∈ xm_X11_best.2, ∃ p, xchk xm_X11_best q p = true := xall_mem k_X11_best
def xp_X11_money : List (List Nat) := [[], [690, 691, 64, 692], [], [], [], [402, 404, 0, 64, 405], [], [], [361], [], [364], [], [697, 698, 699, 66, 700], [], [361], [720, 721, 722, 66, 723], [747, 748, 66, 749], []]
set_option maxRecDepth 100000 in
theorem k_X11_money : xall xm_X11_money xc_X11_money xp_X11_money = true := by decide +kernel
theorem o_X11_money : ∀ q ∈ xm_X11_money.2, ∃ p, xchk xm_X11_money q p = true := xall_mem k_X11_money
def xp_X11_come : List (List Nat) := [[], [690, 691, 64, 692], [], [], [], [], [396, 397, 64, 398], [], [], [], [402, 404, 0, 64, 405], [], [], [361], [], [364], [], [697, 698, 699, 66, 700], [], [361], [], [754, 755, 756, 66, 757], [], [], [], [], [732, 733, 66, 734], [], [], [747, 748, 66, 749], [], [], [361], [720, 721, 722, 66, 723], [732, 733, 66, 734], [], [732, 733, 66, 734], [], []]
set_option maxRecDepth 100000 in
theorem k_X11_come : xall xm_X11_come xc_X11_come xp_X11_come = true := by decide +kernel
theorem o_X11_come : ∀ q ∈ xm_X11_come.2, ∃ p, xchk xm_X11_come q p = true := xall_mem k_X11_come
end
section
def xp_X11_more : List (List Nat) := [[], [690, 691, 64, 692], [], [], [], [], [414, 415, 64, 416], [], [], [], [402, 404, 0, 64, 405], [], [], [364], [288], [], [], [], [], [402, 404, 0, 64, 405], [], [], [361], [], [364], [], [697, 698, 699, 66, 700], [], [361], [720, 721, 722, 66, 723], [732, 733, 66, 734], [], [], [361], [], [364], [], [], [], [766, 704, 705, 66, 706], [], [361], [720, 721, 722, 66, 723], [732, 733, 66, 734], [], [], []]
set_option maxRecDepth 100000 in
theorem k_X11_more : xall xm_X11_more xc_X11_more xp_X11_more = true := by decide +kernel
theorem o_X11_more : ∀ q ∈ xm_X11_more.2, ∃ p, xchk xm_X11_more q p = true := xall_mem k_X11_more
def xp_X11_changed : List (List Nat) := [[], [690, 691, 64, 692], [], [], [], [425, 427, 1, 64, 428], [], [], [], [402, 404, 0, 64, 405], [], [], [361], [], [364], [], [], [771, 772, 773, 66, 774], []]
set_option maxRecDepth 100000 in
theorem k_X11_changed : xall xm_X11_changed xc_X11_changed xp_X11_changed = true := by decide +kernel
theorem o_X11_changed : ∀ q ∈ xm_X11_changed.2, ∃ p, xchk xm_X11_changed q p = true := xall_mem k_X11_changed
def xp_X11_air : List (List Nat) := [[], [], [791, 793, 22, 64, 794], [], [], [], [402, 404, 0, 64, 405], [], [], [364], [], [], [], [], [795, 796, 797, 68, 798], []]
set_option maxRecDepth 100000 in
theorem k_X11_air : xall xm_X11_air xc_X11_air xp_X11_air = true := by decide +kernel
theorem o_X11_air : ∀ q ∈ xm_X11_air.2, ∃ p, xchk xm_X11_air q p = true := xall_mem k_X11_air
def xp_X11_bring : List (List Nat) := [[], [], [791, 793, 22, 64, 794], [], [], [], [], [], [], [399, 400, 64, 401], [], [], [], [], [396, 397, 64, 398], [], [], [], [402, 404, 0, 64, 405], [], [], [364], [], [], [808, 809, 810, 68, 811], [], [], [], [], [], [], [], [], [], [], [], [], [], [], [], []]
set_option maxRecDepth 100000 in
theorem k_X11_bring : xall xm_X11_bring xc_X11_bring xp_X11_bring = true := by decide +kernel
theorem o_X11_bring : ∀ q ∈ xm_X11_bring.2, ∃ p, xchk xm_X11_bring q p = true := xall_mem k_X11_bring
def xp_X11_left : List (List Nat) := [[], [], [425, 427, 1, 64, 428], [], [], [], [], [396, 397, 64, 398], [], [], [], [], [396, 397, 64, 398], [], [], [364], [305], [], [], [], [], [], [], [], [], [649, 651, 15, 64, 652], [], [], [], [], [364], [322], [], [819, 820, 821, 75, 822], [], [], [364], [322], [], [823, 824, 825, 75, 826], []]
set_option maxRecDepth 100000 in
theorem k_X11_left : xall xm_X11_left xc_X11_left xp_X11_left = true := by decide +kernel
theorem o_X11_left : ∀ q ∈ xm_X11_left.2, ∃ p, xchk xm_X11_left q p = true := xall_mem k_X11_left
def xp_X11_reading : List (List Nat) := [[], [], [425, 427, 1, 64, 428], [], [], [690, 691, 64, 692], [], [], [399, 400, 64, 401], [], [], [], [402, 404, 0, 64, 405], [], [], [364], [293], [], [], [], [], [402, 404, 0, 64, 405], [], [], [364], [], [], [], [831, 832, 833, 68, 834], [], [364], [293], []]
set_option maxRecDepth 100000 in
theorem k_X11_reading : xall xm_X11_reading xc_X11_reading xp_X11_reading = true := by decide +kernel
theorem o_X11_reading : ∀ q ∈ xm_X11_reading.2, ∃ p, xchk xm_X11_reading q p = true := xall_mem k_X11_reading
def xp_X11_forget : List (List Nat) := [[], [364], [293], [], [], [364], [], [293], [], []]
set_option maxRecDepth 100000 in
theorem k_X11_forget : xall xm_X11_forget xc_X11_forget xp_X11_forget = true := by decide +kernel
theorem o_X11_forget : ∀ q ∈ xm_X11_forget.2, ∃ p, xchk xm_X11_forget q p = true := xall_mem k_X11_forget
def xp_X11_is : List (List Nat) := [[], [], [425, 427, 1, 64, 428], [], [], [], [], [396, 397, 64, 398], [], [], [], [402, 404, 0, 64, 405], [], [], [362], [], [364], [], [843, 844, 845, 67, 846], [], [], [], [362], [854, 855, 856, 67, 857], [], [], [362], [160], []]
set_option maxRecDepth 100000 in
theorem k_X11_is : xall xm_X11_is xc_X11_is xp_X11_is = true := by decide +kernel
theorem o_X11_is : ∀ q ∈ xm_X11_is.2, ∃ p, xchk xm_X11_is q p = true := xall_mem k_X11_is
def xp_X11_look : List (List Nat) := [[], [], [425, 427, 1, 64, 428], [], [], [], [402, 404, 0, 64, 405], [], [], [362], [], [364], [], [843, 844, 845, 67, 846], [], [362], [], [364], [862, 863, 864, 67, 865], []]
set_option maxRecDepth 100000 in
theorem k_X11_look : xall xm_X11_look xc_X11_look xp_X11_look = true := by decide +kernel
theorem o_X11_look : ∀ q ∈ xm_X11_look.2, ∃ p, xchk xm_X11_look q p = true := xall_mem k_X11_look
def xp_X11_odds : List (List Nat) := [[], [], [], [396, 397, 64, 398], [], [], [], [402, 404, 0, 64, 405], [], [], [361], [], [364], [], [364], [322], [227], [697, 698, 699, 66, 700], [], [361], [], [876, 877, 878, 66, 879], [], [], [], [], [], [], [], [364], [288], [], [], [881], [], [], [], [], [], [], [882, 883, 64, 884], [], [], [], [], [], [366], [], [], [], [], [367], [], []]
set_option maxRecDepth 100000 in
theorem k_X11_odds : xall xm_X11_odds xc_X11_odds xp_X11_odds = true := by decide +kernel
theorem o_X11_odds : ∀ q ∈ xm_X11_odds.2, ∃ p, xchk xm_X11_odds q p = true := xall_mem k_X11_odds
def xp_X11_drawn : List (List Nat) := [[], [], [889], [396, 397, 64, 398], [], [], [], [], [396, 397, 64, 398], [], [], [], [], [396, 397, 64, 398], [], [], [], [402, 404, 0, 64, 405], [], [], [361], [], [364], [], [], [], [890, 891, 892, 66, 893], []]
set_option maxRecDepth 100000 in
theorem k_X11_drawn : xall xm_X11_drawn xc_X11_drawn xp_X11_drawn = true := by decide +kernel
theorem o_X11_drawn : ∀ q ∈ xm_X11_drawn.2, ∃ p, xchk xm_X11_drawn q p = true := xall_mem k_X11_drawn
def xp_X11_part : List (List Nat) := [[], [], [], [366], [], [], [367], [], [], [], [402, 404, 0, 64, 405], [], []]
set_option maxRecDepth 100000 in
theorem k_X11_part : xall xm_X11_part xc_X11_part xp_X11_part = true := by decide +kernel
theorem o_X11_part : ∀ q ∈ xm_X11_part.2, ∃ p, xchk xm_X11_part q p = true := xall_mem k_X11_part
def xp_X11_image : List (List Nat) := [[], [], [], [396, 397, 64, 398], [], [], [], [402, 404, 0, 64, 405], [], [], [359], [], [], [], [], [359], [], [92, 171, 68], [], [172, 173, 68, 174], [], [], [359], [], [], [], [364], [908, 909, 910, 68, 911], [], []]
set_option maxRecDepth 100000 in
theorem k_X11_image : xall xm_X11_image xc_X11_image xp_X11_image = true := by decide +kernel
theorem o_X11_image : ∀ q ∈ xm_X11_image.2, ∃ p, xchk xm_X11_image q p = true := xall_mem k_X11_image
def xp_X11_from : List (List Nat) := [[], [], [], [396, 397, 64, 398], [], [], [], [402, 404, 0, 64, 405], [], [], [359], [], [], [], [], [], [402, 404, 0, 64, 405], [], [], [364], [], [359], [], [], [908, 909, 910, 68, 911], [], []]
set_option maxRecDepth 100000 in
theorem k_X11_from : xall xm_X11_from xc_X11_from xp_X11_from = true := by decide +kernel
theorem o_X11_from : ∀ q ∈ xm_X11_from.2, ∃ p, xchk xm_X11_from q p = true := xall_mem k_X11_from
def xp_X11_status : List (List Nat) := [[], [], [], [396, 397, 64, 398], [], [], [], [402, 404, 0, 64, 405], [], [], [], [], [363], [], [], []]
set_option maxRecDepth 100000 in
theorem k_X11_status : xall xm_X11_status xc_X11_status xp_X11_status = true := by decide +kernel
theorem o_X11_status : ∀ q ∈ xm_X11_status.2, ∃ p, xchk xm_X11_status q p = true := xall_mem k_X11_status
def xp_X11_count : List (List Nat) := [[], [], [], [364], [284], [], [], [364], [288], [], [], [364], [322], [227], [], [], [364], [322], [231], [], [], [364], [322], [925, 926, 927, 75, 928], [], [], [364], [322], [234], [], [], [364], [293], [], [], [364], [295], [], [], [360], [103], [], [], [], [402, 404, 0, 64, 405], []]
set_option maxRecDepth 100000 in
theorem k_X11_count : xall xm_X11_count xc_X11_count xp_X11_count = true := by decide +kernel
theorem o_X11_count : ∀ q ∈ xm_X11_count.2, ∃ p, xchk xm_X11_count q p = true := xall_mem k_X11_count
def xp_X11_digest : List (List Nat) := [[933], [], [], [], [], [], [], [934], [], [], [], [], [935, 922, 923, 64, 924], [], [], [], [], [], [], [364], [], [936, 937, 938, 68, 939], [], [934], [], [], [], [366], [], [], [934], [], [], [], [367], [], []]
set_option maxRecDepth 100000 in
theorem k_X11_digest : xall xm_X11_digest xc_X11_digest xp_X11_digest = true := by decide +kernel
theorem o_X11_digest : ∀ q ∈ xm_X11_digest.2, ∃ p, xchk xm_X11_digest q p = true := xall_mem k_X11_digest
def xp_X11_within : List (List Nat) := [[], [], [], [], [], [], [], [], [], []]
set_option maxRecDepth 100000 in
theorem k_X11_within : xall xm_X11_within xc_X11_within xp_X11_within = true := by decide +kernel
theorem o_X11_within : ∀ q ∈ xm_X11_within.2, ∃ p, xchk xm_X11_within q p = true := xall_mem k_X11_within
def xp_X11_isWeather : List (List Nat) := [[], [], [], [396, 397, 64, 398], []]
set_option maxRecDepth 100000 in
theorem k_X11_isWeather : xall xm_X11_isWeather xc_X11_isWeather xp_X11_isWeather = true := by decide +kernel
theorem o_X11_isWeather : ∀ q ∈ xm_X11_isWeather.2, ∃ p, xchk xm_X11_isWeather q p = true := xall_mem k_X11_isWeather
def xp_X11_isEvening : List (List Nat) := [[], [], [], [396, 397, 64, 398], []]
set_option maxRecDepth 100000 in
theorem k_X11_isEvening : xall xm_X11_isEvening xc_X11_isEvening xp_X11_isEvening = true := by decide +kernel
theorem o_X11_isEvening : ∀ q ∈ xm_X11_isEvening.2, ∃ p, xchk xm_X11_isEvening q p = true := xall_mem k_X11_isEvening
def xp_X11_isRenterTold : List (List Nat) := [[], [], [], [396, 397, 64, 398], [], [], [], [], [396, 397, 64, 398], [], [], [], [], [396, 397, 64, 398], [], [], [], [], []]
set_option maxRecDepth 100000 in
theorem k_X11_isRenterTold : xall xm_X11_isRenterTold xc_X11_isRenterTold xp_X11_isRenterTold = true := by decide +kernel
theorem o_X11_isRenterTold : ∀ q ∈ xm_X11_isRenterTold.2, ∃ p, xchk xm_X11_isRenterTold q p = true := xall_mem k_X11_isRenterTold
def xp_X11_isView : List (List Nat) := [[], [], [], [364], [284], [], [], [396, 397, 64, 398], []]
set_option maxRecDepth 100000 in
theorem k_X11_isView : xall xm_X11_isView xc_X11_isView xp_X11_isView = true := by decide +kernel
theorem o_X11_isView : ∀ q ∈ xm_X11_isView.2, ∃ p, xchk xm_X11_isView q p = true := xall_mem k_X11_isView
def xp_X11_isRenter : List (List Nat) := [[], [], [], [364], [288], [], [], [396, 397, 64, 398], []]
set_option maxRecDepth 100000 in
theorem k_X11_isRenter : xall xm_X11_isRenter xc_X11_isRenter xp_X11_isRenter = true := by decide +kernel
theorem o_X11_isRenter : ∀ q ∈ xm_X11_isRenter.2, ∃ p, xchk xm_X11_isRenter q p = true := xall_mem k_X11_isRenter
def xp_X11_isPair : List (List Nat) := [[], [], [549, 551, 12, 64, 552], [], [], [], [], [], [549, 551, 12, 64, 552], [], [], [], [], []]
set_option maxRecDepth 100000 in
theorem k_X11_isPair : xall xm_X11_isPair xc_X11_isPair xp_X11_isPair = true := by decide +kernel
theorem o_X11_isPair : ∀ q ∈ xm_X11_isPair.2, ∃ p, xchk xm_X11_isPair q p = true := xall_mem k_X11_isPair
def xp_X11_refuse : List (List Nat) := [[], [], [], [], [], [], [], [396, 397, 64, 398], [], [], [363], [], [], [], [], [], [], [], []]
set_option maxRecDepth 100000 in
theorem k_X11_refuse : xall xm_X11_refuse xc_X11_refuse xp_X11_refuse = true := by decide +kernel
theorem o_X11_refuse : ∀ q ∈ xm_X11_refuse.2, ∃ p, xchk xm_X11_refuse q p = true := xall_mem k_X11_refuse
def xp_X11_refuseApart : List (List Nat) := [[], [], [402, 404, 0, 64, 405], [], [], []]
set_option maxRecDepth 100000 in
theorem k_X11_refuseApart : xall xm_X11_refuseApart xc_X11_refuseApart xp_X11_refuseApart = true := by decide +kernel
theorem o_X11_refuseApart : ∀ q ∈ xm_X11_refuseApart.2, ∃ p, xchk xm_X11_refuseApart q p = true := xall_mem k_X11_refuseApart
def xp_X11_greatestCommon : List (List Nat) := [[], [], [], [], [], [], [], [], [], [], [], [], [], [], [], [], [], [], [], [], [], [], [], [], [], [], []]
set_option maxRecDepth 100000 in
theorem k_X11_greatestCommon : xall xm_X11_greatestCommon xc_X11_greatestCommon xp_X11_greatestCommon = true := by decide +kernel
theorem o_X11_greatestCommon : ∀ q ∈ xm_X11_greatestCommon.2, ∃ p, xchk xm_X11_greatestCommon q p = true := xall_mem k_X11_greatestCommon
def xp_X12_init : List (List Nat) := [[], [946, 90, 91], [], [], [122], [947], [], [], [122], [948], [], [], [170], [949], [], [], [122], [950], [], [], [952], [], [], [122], [953], [], [], [122], [955], [], [], [122], [956], [], [], [122], [957], [], [], [122], [958], [], [], [122], [959], [], [], [122], [960], [], [], [122], [965], [], [], [122], [966], [], [], [122], [972], [], [], [122], [973], []]
set_option maxRecDepth 100000 in
theorem k_X12_init : xall xm_X12_init xc_X12_init xp_X12_init = true := by decide +kernel
theorem o_X12_init : ∀ q ∈ xm_X12_init.2, ∃ p, xchk xm_X12_init q p = true := xall_mem k_X12_init
def xp_X12_in : List (List Nat) := [[], [], [], [], [], [], [], [], [], [], [], []]
set_option maxRecDepth 100000 in
theorem k_X12_in : xall xm_X12_in xc_X12_in xp_X12_in = true := by decide +kernel
theorem o_X12_in : ∀ q ∈ xm_X12_in.2, ∃ p, xchk xm_X12_in q p = true := xall_mem k_X12_in
def xp_X12_bad : List (List Nat) := [[], [950], [], [], [], [], [], [], [], []]
set_option maxRecDepth 100000 in
theorem k_X12_bad : xall xm_X12_bad xc_X12_bad xp_X12_bad = true := by decide +kernel
theorem o_X12_bad : ∀ q ∈ xm_X12_bad.2, ∃ p, xchk xm_X12_bad q p = true := xall_mem k_X12_bad
def xp_X12_no : List (List Nat) := [[], [950], [], [], [], [], [], [], [], []]
set_option maxRecDepth 100000 in
theorem k_X12_no : xall xm_X12_no xc_X12_no xp_X12_no = true := by decide +kernel
theorem o_X12_no : ∀ q ∈ xm_X12_no.2, ∃ p, xchk xm_X12_no q p = true := xall_mem k_X12_no
def xp_X12_full : List (List Nat) := [[], [950], [], [], [], [], [], [], [], []]
set_option maxRecDepth 100000 in
theorem k_X12_full : xall xm_X12_full xc_X12_full xp_X12_full = true := by decide +kernel
theorem o_X12_full : ∀ q ∈ xm_X12_full.2, ∃ p, xchk xm_X12_full q p = true := xall_mem k_X12_full
def xp_X12_begin : List (List Nat) := [[], [], [], [], [], [], [], [], [], [], [], []]
set_option maxRecDepth 100000 in
theorem k_X12_begin : xall xm_X12_begin xc_X12_begin xp_X12_begin = true := by decide +kernel
theorem o_X12_begin : ∀ q ∈ xm_X12_begin.2, ∃ p, xchk xm_X12_begin q p = true := xall_mem k_X12_begin
def xp_X12_views : List (List Nat) := [[], [947], [], [], []]
set_option maxRecDepth 100000 in
theorem k_X12_views : xall xm_X12_views xc_X12_views xp_X12_views = true := by decide +kernel
theorem o_X12_views : ∀ q ∈ xm_X12_views.2, ∃ p, xchk xm_X12_views q p = true := xall_mem k_X12_views
def xp_X12_renters : List (List Nat) := [[], [947], [], [], []]
set_option maxRecDepth 100000 in
theorem k_X12_renters : xall xm_X12_renters xc_X12_renters xp_X12_renters = true := by decide +kernel
theorem o_X12_renters : ∀ q ∈ xm_X12_renters.2, ∃ p, xchk xm_X12_renters q p = true := xall_mem k_X12_renters
def xp_X12_isView : List (List Nat) := [[], [], [], [], [1033, 1035, 25, 77, 1036], [], [], [], [1048, 1049, 77, 1050], []]
set_option maxRecDepth 100000 in
theorem k_X12_isView : xall xm_X12_isView xc_X12_isView xp_X12_isView = true := by decide +kernel
theorem o_X12_isView : ∀ q ∈ xm_X12_isView.2, ∃ p, xchk xm_X12_isView q p = true := xall_mem k_X12_isView
def xp_X12_isRenter : List (List Nat) := [[], [], [], [], [1076, 1078, 28, 77, 1079], [], [], [], [1048, 1049, 77, 1050], []]
set_option maxRecDepth 100000 in
theorem k_X12_isRenter : xall xm_X12_isRenter xc_X12_isRenter xp_X12_isRenter = true := by decide +kernel
theorem o_X12_isRenter : ∀ q ∈ xm_X12_isRenter.2, ∃ p, xchk xm_X12_isRenter q p = true := xall_mem k_X12_isRenter
def xp_X12_isEvening : List (List Nat) := [[], [], [], [1052], [1048, 1049, 77, 1050], []]
set_option maxRecDepth 100000 in
theorem k_X12_isEvening : xall xm_X12_isEvening xc_X12_isEvening xp_X12_isEvening = true := by decide +kernel
theorem o_X12_isEvening : ∀ q ∈ xm_X12_isEvening.2, ∃ p, xchk xm_X12_isEvening q p = true := xall_mem k_X12_isEvening
def xp_X12_isWeather : List (List Nat) := [[], [], [], [1047], [1048, 1049, 77, 1050], []]
set_option maxRecDepth 100000 in
theorem k_X12_isWeather : xall xm_X12_isWeather xc_X12_isWeather xp_X12_isWeather = true := by decide +kernel
theorem o_X12_isWeather : ∀ q ∈ xm_X12_isWeather.2, ∃ p, xchk xm_X12_isWeather q p = true := xall_mem k_X12_isWeather
def xp_X12_viewHas : List (List Nat) := [[], [947], [], [], [], [], [], [], [], [], []]
set_option maxRecDepth 100000 in
theorem k_X12_viewHas : xall xm_X12_viewHas xc_X12_viewHas xp_X12_viewHas = true := by decide +kernel
theorem o_X12_viewHas : ∀ q ∈ xm_X12_viewHas.2, ∃ p, xchk xm_X12_viewHas q p = true := xall_mem k_X12_viewHas
def xp_X12_renterHas : List (List Nat) := [[], [947], [], [], [], [], [], [], [], [], []]
set_option maxRecDepth 100000 in
theorem k_X12_renterHas : xall xm_X12_renterHas xc_X12_renterHas xp_X12_renterHas = true := by decide +kernel
theorem o_X12_renterHas : ∀ q ∈ xm_X12_renterHas.2, ∃ p, xchk xm_X12_renterHas q p = true := xall_mem k_X12_renterHas
def xp_X12_shop : List (List Nat) := [[], [1033, 1035, 25, 77, 1036], [], [], [947], [1037, 1038, 77, 1039], [], []]
set_option maxRecDepth 100000 in
theorem k_X12_shop : xall xm_X12_shop xc_X12_shop xp_X12_shop = true := by decide +kernel
theorem o_X12_shop : ∀ q ∈ xm_X12_shop.2, ∃ p, xchk xm_X12_shop q p = true := xall_mem k_X12_shop
def xp_X12_isViewTold : List (List Nat) := [[], [], [], [1047], [1048, 1049, 77, 1050], [], [], [], [], [1051], [1048, 1049, 77, 1050], [], [], [], [], [1052], [1048, 1049, 77, 1050], [], [], [1053, 1054, 77, 1055], [], [], [], [], []]
set_option maxRecDepth 100000 in
theorem k_X12_isViewTold : xall xm_X12_isViewTold xc_X12_isViewTold xp_X12_isViewTold = true := by decide +kernel
theorem o_X12_isViewTold : ∀ q ∈ xm_X12_isViewTold.2, ∃ p, xchk xm_X12_isViewTold q p = true := xall_mem k_X12_isViewTold
def xp_X12_layView : List (List Nat) := [[], [], [], [], [], [], [], [], [], [], [], [], [], [], [], [], [], [], [], [], [], [], [], [], [], [], [], [], [], [], [], [], [], [], [], [], [], [], [], [], [], [], [], [], [], [], [], [], [], [], [], []]
set_option maxRecDepth 100000 in
theorem k_X12_layView : xall xm_X12_layView xc_X12_layView xp_X12_layView = true := by decide +kernel
theorem o_X12_layView : ∀ q ∈ xm_X12_layView.2, ∃ p, xchk xm_X12_layView q p = true := xall_mem k_X12_layView
def xp_X12_view : List (List Nat) := [[], [], [], [], [1044, 1045, 77, 1046], [], [], [], [1056, 1058, 26, 77, 1059], [], [], [1033, 1035, 25, 77, 1036], [], [], [], [1060, 1062, 27, 77, 1063], [], [], [947], [], [], [], [], [1064, 1065, 77, 1066], [], [947], [], [], [], [], [1033, 1035, 25, 77, 1036], [], [], []]
set_option maxRecDepth 100000 in
theorem k_X12_view : xall xm_X12_view xc_X12_view xp_X12_view = true := by decide +kernel
theorem o_X12_view : ∀ q ∈ xm_X12_view.2, ∃ p, xchk xm_X12_view q p = true := xall_mem k_X12_view
def xp_X12_isRenterTold : List (List Nat) := [[], [], [], [1051], [1048, 1049, 77, 1050], [], [], [], [], [1074], [1048, 1049, 77, 1050], [], [], [], [], [1075], [1048, 1049, 77, 1050], [], [], [], [], []]
set_option maxRecDepth 100000 in
theorem k_X12_isRenterTold : xall xm_X12_isRenterTold xc_X12_isRenterTold xp_X12_isRenterTold = true := by decide +kernel
theorem o_X12_isRenterTold : ∀ q ∈ xm_X12_isRenterTold.2, ∃ p, xchk xm_X12_isRenterTold q p = true := xall_mem k_X12_isRenterTold
def xp_X12_layRenter : List (List Nat) := [[], [], [], [], [], [], [], [], [], [], [], [], [], [], [], [], [], [], [], [], [], [], [], [], [], [], [], [], [], [], [], [], [], []]
set_option maxRecDepth 100000 in
theorem k_X12_layRenter : xall xm_X12_layRenter xc_X12_layRenter xp_X12_layRenter = true := by decide +kernel
theorem o_X12_layRenter : ∀ q ∈ xm_X12_layRenter.2, ∃ p, xchk xm_X12_layRenter q p = true := xall_mem k_X12_layRenter
def xp_X12_renter : List (List Nat) := [[], [], [], [1071, 1072, 77, 1073], [], [], [], [1056, 1058, 26, 77, 1059], [], [], [1076, 1078, 28, 77, 1079], [], [], [], [1060, 1062, 27, 77, 1063], [], [], [947], [], [], [], [1080, 1081, 77, 1082], [], [947], [], [], [], [], [1076, 1078, 28, 77, 1079], [], [], []]
set_option maxRecDepth 100000 in
theorem k_X12_renter : xall xm_X12_renter xc_X12_renter xp_X12_renter = true := by decide +kernel
theorem o_X12_renter : ∀ q ∈ xm_X12_renter.2, ∃ p, xchk xm_X12_renter q p = true := xall_mem k_X12_renter
end
section
def xp_X12_things : List (List Nat) := [[], [], [1087, 1089, 29, 77, 1090], [], [], [], [], [1091], [1048, 1049, 77, 1050], [], [], [], [1056, 1058, 26, 77, 1059], [], [], [], [], [1092, 1094, 30, 77, 1095], [], [], [947], [], [], [], [], [], [], [], [], [], [], []]
set_option maxRecDepth 100000 in
theorem k_X12_things : xall xm_X12_things xc_X12_things xp_X12_things = true := by decide +kernel
theorem o_X12_things : ∀ q ∈ xm_X12_things.2, ∃ p, xchk xm_X12_things q p = true := xall_mem k_X12_things
def xp_X12_lake : List (List Nat) := [[], [], [], [], [], []]
set_option maxRecDepth 100000 in
theorem k_X12_lake : xall xm_X12_lake xc_X12_lake xp_X12_lake = true := by decide +kernel
theorem o_X12_lake : ∀ q ∈ xm_X12_lake.2, ∃ p, xchk xm_X12_lake q p = true := xall_mem k_X12_lake
def xp_X12_weatherOf : List (List Nat) := [[], [], [], [], [], [], [], [], [], [], [], [], [1155, 1156, 77, 1157], [], [], [], [], [], [], [1155, 1156, 77, 1157], [], [], [], [], [], [], [], [], [], [], [], [], [], [], [1155, 1156, 77, 1157], []]
set_option maxRecDepth 100000 in
theorem k_X12_weatherOf : xall xm_X12_weatherOf xc_X12_weatherOf xp_X12_weatherOf = true := by decide +kernel
theorem o_X12_weatherOf : ∀ q ∈ xm_X12_weatherOf.2, ∃ p, xchk xm_X12_weatherOf q p = true := xall_mem k_X12_weatherOf
def xp_X12_costOf : List (List Nat) := [[], [], [], [], [], [], [], [], [], [], [], [], [], [], [], [], [], [], [], [], [], [], []]
set_option maxRecDepth 100000 in
theorem k_X12_costOf : xall xm_X12_costOf xc_X12_costOf xp_X12_costOf = true := by decide +kernel
theorem o_X12_costOf : ∀ q ∈ xm_X12_costOf.2, ∃ p, xchk xm_X12_costOf q p = true := xall_mem k_X12_costOf
def xp_X12_showsIn : List (List Nat) := [[], [], [], [1092, 1094, 30, 77, 1095], [], [], [], [1092, 1094, 30, 77, 1095], [], [1152, 1153, 77, 1154], []]
set_option maxRecDepth 100000 in
theorem k_X12_showsIn : xall xm_X12_showsIn xc_X12_showsIn xp_X12_showsIn = true := by decide +kernel
theorem o_X12_showsIn : ∀ q ∈ xm_X12_showsIn.2, ∃ p, xchk xm_X12_showsIn q p = true := xall_mem k_X12_showsIn
def xp_X12_fits : List (List Nat) := [[], [], [], [1092, 1094, 30, 77, 1095], [], [], [], [], [], [1092, 1094, 30, 77, 1095], [], [], [], [], [], []]
set_option maxRecDepth 100000 in
theorem k_X12_fits : xall xm_X12_fits xc_X12_fits xp_X12_fits = true := by decide +kernel
theorem o_X12_fits : ∀ q ∈ xm_X12_fits.2, ∃ p, xchk xm_X12_fits q p = true := xall_mem k_X12_fits
def xp_X12_layHand : List (List Nat) := [[], [], [], [], [1033, 1035, 25, 77, 1036], [], [], [953], [], [], [], [], [1092, 1094, 30, 77, 1095], [], [], [], [1092, 1094, 30, 77, 1095], [1108, 1109, 77, 1110], [], [], [], [], [], [1076, 1078, 28, 77, 1079], [954], [], [], [], [], [1076, 1078, 28, 77, 1079], [], [], [955], [], [], [], [], [1111, 1113, 33, 77, 1114], [], [], [956], [], [], [], [], [1111, 1113, 33, 77, 1114], [], [], [957], [], [], [], [], [1111, 1113, 33, 77, 1114], [], [], [], []]
set_option maxRecDepth 100000 in
theorem k_X12_layHand : xall xm_X12_layHand xc_X12_layHand xp_X12_layHand = true := by decide +kernel
theorem o_X12_layHand : ∀ q ∈ xm_X12_layHand.2, ∃ p, xchk xm_X12_layHand q p = true := xall_mem k_X12_layHand
def xp_X12_doesSuit : List (List Nat) := [[], [], [], [955], [], [], [1119, 1121, 35, 77, 1122], [], [], [953], [], [], [], [956], [], [], [], [], [957], [], [], [], [], [], [957], [], [], [], [], [], [1148, 1150, 39, 77, 1151], [], [], [], [], []]
set_option maxRecDepth 100000 in
theorem k_X12_doesSuit : xall xm_X12_doesSuit xc_X12_doesSuit xp_X12_doesSuit = true := by decide +kernel
theorem o_X12_doesSuit : ∀ q ∈ xm_X12_doesSuit.2, ∃ p, xchk xm_X12_doesSuit q p = true := xall_mem k_X12_doesSuit
def xp_X12_laySuit : List (List Nat) := [[], [], [], [], [954], [], [], [958], [], [], [], [], [], [], [], [1033, 1035, 25, 77, 1036], [], [], [958], [], [], [], [], [], [], [], [1174, 1176, 40, 77, 1177], [], [], [], [], [], [], [], [], [], [], [], [], []]
set_option maxRecDepth 100000 in
theorem k_X12_laySuit : xall xm_X12_laySuit xc_X12_laySuit xp_X12_laySuit = true := by decide +kernel
theorem o_X12_laySuit : ∀ q ∈ xm_X12_laySuit.2, ∃ p, xchk xm_X12_laySuit q p = true := xall_mem k_X12_laySuit
def xp_X12_keep : List (List Nat) := [[], [947], [], [], [], [], [], [], [], [], [], [], [947], [], [], [], [], [947], [], [], [], [], [], [], [], [], [947], [], [], [], [], [], [], [947], [], [], [], [], [], [], [], [], [], [], [], [947], [], [], [], [], [], [], [1111, 1113, 33, 77, 1114], [], [], [947], [], [], [], [], [], [], [], [], [1092, 1094, 30, 77, 1095], [], [], [], [], [947], [], [], [], [], [947], [], [], [], [], [947], [], [], [], [], [947], [], [], [], [], [947], [], [], [], [], [947], [], [], [], [], [], [], [], [], [], [947], [], [], [], [], [], [], [947], [], [], [], [], [], [], [], [], [947], [], [], [], [], [], [], []]
set_option maxRecDepth 100000 in
theorem k_X12_keep : xall xm_X12_keep xc_X12_keep xp_X12_keep = true := by decide +kernel
theorem o_X12_keep : ∀ q ∈ xm_X12_keep.2, ∃ p, xchk xm_X12_keep q p = true := xall_mem k_X12_keep
def xp_X12_viewOf : List (List Nat) := [[], [], [], [], [], [], [1033, 1035, 25, 77, 1036], [], [], [], [], [1092, 1094, 30, 77, 1095], [], [], [], [], [], [], [], [], [], []]
set_option maxRecDepth 100000 in
theorem k_X12_viewOf : xall xm_X12_viewOf xc_X12_viewOf xp_X12_viewOf = true := by decide +kernel
theorem o_X12_viewOf : ∀ q ∈ xm_X12_viewOf.2, ∃ p, xchk xm_X12_viewOf q p = true := xall_mem k_X12_viewOf
def xp_X12_remember : List (List Nat) := [[], [947], [], [], [], [], [], [], [], [], [], [], [947], [], [], [], [], [947], [], [], [], [], [], [], [], [], [], [], [947], [], [], [], [], [], [], [947], [], [], [], [], [], [], [947], [], [], [], [], [947], [], [], [], [], [], [], [947], [], [], [], [], [947], [], [], [], [], [947], [], [], [], [], [], [], []]
set_option maxRecDepth 100000 in
theorem k_X12_remember : xall xm_X12_remember xc_X12_remember xp_X12_remember = true := by decide +kernel
theorem o_X12_remember : ∀ q ∈ xm_X12_remember.2, ∃ p, xchk xm_X12_remember q p = true := xall_mem k_X12_remember
def xp_X12_let : List (List Nat) := [[], [], [1087, 1089, 29, 77, 1090], [], [], [], [1100, 1102, 31, 77, 1103], [], [], [], [1056, 1058, 26, 77, 1059], [], [], [1104, 1106, 32, 77, 1107], [], [], [], [1092, 1094, 30, 77, 1095], [], [], [], [], [1115, 1117, 34, 77, 1118], [], [], [], [], [], [], [], [], [], [], [], [955], [], [], [1119, 1121, 35, 77, 1122], [], [], [953], [], [], [], [956], [], [], [], [], [1123, 1125, 36, 77, 1126], [], [], [1127, 1129, 37, 77, 1130], [], [947], [], [], [], [], [], [], [], [], [], [], [947], [], [], [], [], [], [], [], [], [], [], [953], [], [], [], [], [], [947], [], [], [], [], [953], [], [], [], [], [], [], [], [1131, 1133, 38, 77, 1134], [], [953], [], [], []]
set_option maxRecDepth 100000 in
theorem k_X12_let : xall xm_X12_let xc_X12_let xp_X12_let = true := by decide +kernel
theorem o_X12_let : ∀ q ∈ xm_X12_let.2, ∃ p, xchk xm_X12_let q p = true := xall_mem k_X12_let
def xp_X12_night : List (List Nat) := [[], [1127, 1129, 37, 77, 1130], [], [], [], [], [1033, 1035, 25, 77, 1036], [], [], [947], [], [], [], [], [], [], [], [], [], [], [], [], [947], [], [], [], [], [], [], [], [947], [], [], []]
set_option maxRecDepth 100000 in
theorem k_X12_night : xall xm_X12_night xc_X12_night xp_X12_night = true := by decide +kernel
theorem o_X12_night : ∀ q ∈ xm_X12_night.2, ∃ p, xchk xm_X12_night q p = true := xall_mem k_X12_night
def xp_X12_undo : List (List Nat) := [[], [947], [], [], [], [], [1123, 1125, 36, 77, 1126], [], [], [947], [], [], [], [], [], [], [], [], [], [947], [], [], [], [], [], [], [], [], [], [], [], [947], [], [], [], [], [], [], [], [], [947], [], [], [], [], [], [], [947], [], [], [], [], [], [], [], [], [947], [], [], [], [], [], [], [], [], [], [], [947], [], [], [947], [], [], [], [], [], [], [947], [], [], [947], [], [], [], [], [], [], [947], [], [], [947], [], [], [], [], [], [], [], [], [], [], [], [947], [], [], [], [], [947], [], [], [], [], [], [], [], [], [], [], [947], [], [], []]
set_option maxRecDepth 100000 in
theorem k_X12_undo : xall xm_X12_undo xc_X12_undo xp_X12_undo = true := by decide +kernel
theorem o_X12_undo : ∀ q ∈ xm_X12_undo.2, ∃ p, xchk xm_X12_undo q p = true := xall_mem k_X12_undo
def xp_X12_of : List (List Nat) := [[], [], [1087, 1089, 29, 77, 1090], [], [], [], [], [1147], [1048, 1049, 77, 1050], [], [], [], [1056, 1058, 26, 77, 1059], [], [], [], [], [], [], [947], [], [], [1148, 1150, 39, 77, 1151], [], [], [], [], [1092, 1094, 30, 77, 1095], [], [], [], [1092, 1094, 30, 77, 1095], [1108, 1109, 77, 1110], [], [], [], [], [1092, 1094, 30, 77, 1095], [], [], [], [], [1092, 1094, 30, 77, 1095], [], [], [], [], [1092, 1094, 30, 77, 1095], []]
set_option maxRecDepth 100000 in
theorem k_X12_of : xall xm_X12_of xc_X12_of xp_X12_of = true := by decide +kernel
theorem o_X12_of : ∀ q ∈ xm_X12_of.2, ∃ p, xchk xm_X12_of q p = true := xall_mem k_X12_of
def xp_X12_about : List (List Nat) := [[], [], [1100, 1102, 31, 77, 1103], [], [], [], [], [1162], [1048, 1049, 77, 1050], [], [], [], [1056, 1058, 26, 77, 1059], [], [], [], [], [], [], [1115, 1117, 34, 77, 1118], [], [], [], [], [1111, 1113, 33, 77, 1114], []]
set_option maxRecDepth 100000 in
theorem k_X12_about : xall xm_X12_about xc_X12_about xp_X12_about = true := by decide +kernel
theorem o_X12_about : ∀ q ∈ xm_X12_about.2, ∃ p, xchk xm_X12_about q p = true := xall_mem k_X12_about
def xp_X12_shows : List (List Nat) := [[], [], [1087, 1089, 29, 77, 1090], [], [], [1167, 1168, 77, 1169], [], [], [], [], [1148, 1150, 39, 77, 1151], [], [], [], [1056, 1058, 26, 77, 1059], []]
set_option maxRecDepth 100000 in
theorem k_X12_shows : xall xm_X12_shows xc_X12_shows xp_X12_shows = true := by decide +kernel
theorem o_X12_shows : ∀ q ∈ xm_X12_shows.2, ∃ p, xchk xm_X12_shows q p = true := xall_mem k_X12_shows
def xp_X12_suits : List (List Nat) := [[], [], [1087, 1089, 29, 77, 1090], [], [], [], [1100, 1102, 31, 77, 1103], [], [], [1167, 1168, 77, 1169], [], [], [], [1056, 1058, 26, 77, 1059], [], [], [1104, 1106, 32, 77, 1107], [], [], [], [], [1174, 1176, 40, 77, 1177], [], [], [], [], []]
set_option maxRecDepth 100000 in
theorem k_X12_suits : xall xm_X12_suits xc_X12_suits xp_X12_suits = true := by decide +kernel
theorem o_X12_suits : ∀ q ∈ xm_X12_suits.2, ∃ p, xchk xm_X12_suits q p = true := xall_mem k_X12_suits
def xp_X12_judgeRow : List (List Nat) := [[], [], [], [], [], [], [], [], [954], [], [], [], [959], [], [], [], [], [], [], [], [], [], [], [], [959], [], [], [], [], [], [], [], [953], [], [959], [], [], [], [], [], [], [], [], [], [961], [], [], [], [961], [], [], [], [962], [], [], [], [961], [], [], [962], [], [], [], [], [954], [], [], [960], [], [], [959], [], [], [], [], [], []]
set_option maxRecDepth 100000 in
theorem k_X12_judgeRow : xall xm_X12_judgeRow xc_X12_judgeRow xp_X12_judgeRow = true := by decide +kernel
theorem o_X12_judgeRow : ∀ q ∈ xm_X12_judgeRow.2, ∃ p, xchk xm_X12_judgeRow q p = true := xall_mem k_X12_judgeRow
def xp_X12_freeBut : List (List Nat) := [[], [], [1033, 1035, 25, 77, 1036], [], [], [], [], [], [], [], [], [], [], [], [959], [], [], [], [], [], [], [], [], [959], [], [], [], [], [], [], [], [], [], [], []]
set_option maxRecDepth 100000 in
theorem k_X12_freeBut : xall xm_X12_freeBut xc_X12_freeBut xp_X12_freeBut = true := by decide +kernel
theorem o_X12_freeBut : ∀ q ∈ xm_X12_freeBut.2, ∃ p, xchk xm_X12_freeBut q p = true := xall_mem k_X12_freeBut
def xp_X12_nextView : List (List Nat) := [[], [], [], [], [], [], [1033, 1035, 25, 77, 1036], [], [], [], [], [], [], [], [], [], [], []]
set_option maxRecDepth 100000 in
theorem k_X12_nextView : xall xm_X12_nextView xc_X12_nextView xp_X12_nextView = true := by decide +kernel
theorem o_X12_nextView : ∀ q ∈ xm_X12_nextView.2, ∃ p, xchk xm_X12_nextView q p = true := xall_mem k_X12_nextView
def xp_X12_layBest : List (List Nat) := [[], [], [1187, 1189, 42, 77, 1190], [], [], [961], [], [], [962], [], [], [], [959], [], [], [], [], [], [], [], [954], [], [], [1191, 1193, 43, 77, 1194], [], [], [], [959], [], [], [], [], [], [], [], [], [959], [], [], [], [958], [], [], [], [], [1195, 1197, 44, 77, 1198], [], [1199, 1201, 45, 77, 1202], [], [], [959], [], [], [], [], [], [1033, 1035, 25, 77, 1036], [], [], [], [], [], [], [], [], [], [954], [], [], [959], [], [], [], [], []]
set_option maxRecDepth 100000 in
theorem k_X12_layBest : xall xm_X12_layBest xc_X12_layBest xp_X12_layBest = true := by decide +kernel
theorem o_X12_layBest : ∀ q ∈ xm_X12_layBest.2, ∃ p, xchk xm_X12_layBest q p = true := xall_mem k_X12_layBest
end
section
def xp_X12_best : List (List Nat) := [[], [1167, 1168, 77, 1169], [], [], [], [1182], [], [1076, 1078, 28, 77, 1079], [], [], [], [1048, 1049, 77, 1050], [], [], [], [1056, 1058, 26, 77, 1059], [], [], [1104, 1106, 32, 77, 1107], [], [], [1183, 1185, 41, 77, 1186], [], [], [], [], [961], [], [], [960], [], [], []]
set_option maxRecDepth 100000 in
theorem k_X12_best : xall xm_X12_best xc_X12_best xp_X12_best = true := by decide +kernel
theorem o_X12_best : ∀ q ∈ xm_X12_best.2, ∃ p, xchk xm_X12_best q p = true := xall_mem k_X12_best
def xp_X12_money : List (List Nat) := [[], [1167, 1168, 77, 1169], [], [], [], [1056, 1058, 26, 77, 1059], [], [], [1104, 1106, 32, 77, 1107], [], [], [1183, 1185, 41, 77, 1186], [], [962], []]
set_option maxRecDepth 100000 in
theorem k_X12_money : xall xm_X12_money xc_X12_money xp_X12_money = true := by decide +kernel
theorem o_X12_money : ∀ q ∈ xm_X12_money.2, ∃ p, xchk xm_X12_money q p = true := xall_mem k_X12_money
def xp_X12_layCome : List (List Nat) := [[], [], [1033, 1035, 25, 77, 1036], [], [], [], [], [], [], [1187, 1189, 42, 77, 1190], [], [], [963], [], [], [964], [], [], [], [], [954], [], [], [], [], [], [], [], [1033, 1035, 25, 77, 1036], [], [], [], [], [], [], [], [], [], [], [958], [], [], [], [], [], [], [], [], [], [], [], [], [], [], [], [], [], [], [953], [], [], [], [953], [], [], [], [], [], [], [], [], [], [], [], [], [], [], [], [], [], [], [], [], [], [], [963], [], [], [963], [], [], [964], [], [953], [], [], [], [964], [], [], []]
set_option maxRecDepth 100000 in
theorem k_X12_layCome : xall xm_X12_layCome xc_X12_layCome xp_X12_layCome = true := by decide +kernel
theorem o_X12_layCome : ∀ q ∈ xm_X12_layCome.2, ∃ p, xchk xm_X12_layCome q p = true := xall_mem k_X12_layCome
def xp_X12_allRenters : List (List Nat) := [[], [], [1076, 1078, 28, 77, 1079], [], [], [], []]
set_option maxRecDepth 100000 in
theorem k_X12_allRenters : xall xm_X12_allRenters xc_X12_allRenters xp_X12_allRenters = true := by decide +kernel
theorem o_X12_allRenters : ∀ q ∈ xm_X12_allRenters.2, ∃ p, xchk xm_X12_allRenters q p = true := xall_mem k_X12_allRenters
def xp_X12_come : List (List Nat) := [[], [1167, 1168, 77, 1169], [], [], [], [], [1211], [1048, 1049, 77, 1050], [], [], [], [1056, 1058, 26, 77, 1059], [], [], [1104, 1106, 32, 77, 1107], [], [], [], [1212, 1214, 46, 77, 1215], [1216, 1218, 47, 77, 1219], [], [], [], [], [], [], [963], [], [], [964], [], [], [], [1183, 1185, 41, 77, 1186], [], [961], [], [963], [], []]
set_option maxRecDepth 100000 in
theorem k_X12_come : xall xm_X12_come xc_X12_come xp_X12_come = true := by decide +kernel
theorem o_X12_come : ∀ q ∈ xm_X12_come.2, ∃ p, xchk xm_X12_come q p = true := xall_mem k_X12_come
def xp_X12_more : List (List Nat) := [[], [1167, 1168, 77, 1169], [], [], [], [], [1071, 1072, 77, 1073], [], [], [], [1056, 1058, 26, 77, 1059], [], [], [1076, 1078, 28, 77, 1079], [], [], [], [1123, 1125, 36, 77, 1126], [], [], [1104, 1106, 32, 77, 1107], [], [], [1183, 1185, 41, 77, 1186], [], [961], [], [], [955], [], [954], [], [], [], [956], [], [954], [], [], [], [957], [], [954], [], [], [], [], [954], [], [], [954], [], [], [1183, 1185, 41, 77, 1186], [], [961], [], [], []]
set_option maxRecDepth 100000 in
theorem k_X12_more : xall xm_X12_more xc_X12_more xp_X12_more = true := by decide +kernel
theorem o_X12_more : ∀ q ∈ xm_X12_more.2, ∃ p, xchk xm_X12_more q p = true := xall_mem k_X12_more
def xp_X12_changed : List (List Nat) := [[], [1167, 1168, 77, 1169], [], [], [], [1087, 1089, 29, 77, 1090], [], [], [], [1056, 1058, 26, 77, 1059], [], [], [], [], [], [], [1104, 1106, 32, 77, 1107], [], [], [], [], [], [], [953], [], [], [], [], [1092, 1094, 30, 77, 1095], [], [1108, 1109, 77, 1110], [], [], [], [1183, 1185, 41, 77, 1186], [], [962], [], [], [], [], [], [], [], [962], [], [], [], [962], [], [], [], [], [], [], []]
set_option maxRecDepth 100000 in
theorem k_X12_changed : xall xm_X12_changed xc_X12_changed xp_X12_changed = true := by decide +kernel
theorem o_X12_changed : ∀ q ∈ xm_X12_changed.2, ∃ p, xchk xm_X12_changed q p = true := xall_mem k_X12_changed
def xp_X12_areOpposite : List (List Nat) := [[], [], [1100, 1102, 31, 77, 1103], [], [], [], [], [], [1100, 1102, 31, 77, 1103], [], [], [], [], []]
set_option maxRecDepth 100000 in
theorem k_X12_areOpposite : xall xm_X12_areOpposite xc_X12_areOpposite xp_X12_areOpposite = true := by decide +kernel
theorem o_X12_areOpposite : ∀ q ∈ xm_X12_areOpposite.2, ∃ p, xchk xm_X12_areOpposite q p = true := xall_mem k_X12_areOpposite
def xp_X12_air : List (List Nat) := [[], [], [1232, 1234, 48, 77, 1235], [], [], [], [1056, 1058, 26, 77, 1059], [], [], [], [1115, 1117, 34, 77, 1118], [], [], [], [], [], [1115, 1117, 34, 77, 1118], [], [], [], [], [], [], [], [], [], [], [], [], [947], [], [], [1148, 1150, 39, 77, 1151], [], [], [], [947], [], [], [1148, 1150, 39, 77, 1151], [], [], [], []]
set_option maxRecDepth 100000 in
theorem k_X12_air : xall xm_X12_air xc_X12_air xp_X12_air = true := by decide +kernel
theorem o_X12_air : ∀ q ∈ xm_X12_air.2, ∃ p, xchk xm_X12_air q p = true := xall_mem k_X12_air
def xp_X12_bring : List (List Nat) := [[], [], [1232, 1234, 48, 77, 1235], [], [], [], [], [], [], [], [1053, 1054, 77, 1055], [], [], [], [], [], [1048, 1049, 77, 1050], [], [], [], [1056, 1058, 26, 77, 1059], [], [], [], [1240], [], [], [1104, 1106, 32, 77, 1107], [], [], [], [], [1033, 1035, 25, 77, 1036], [], [], [], [], [], [1033, 1035, 25, 77, 1036], [], [], [], [], [], [], [], [955], [], [], [1119, 1121, 35, 77, 1122], [], [], [], [], [955], [], [], [], [], [1119, 1121, 35, 77, 1122], [], [], [], [], [], [], [], [], [1115, 1117, 34, 77, 1118], [], [], [], [], [], [], [], [], [], [1115, 1117, 34, 77, 1118], [], [], [], [], [], [], [], [], [], [], [], [], [], [], [947], [], [], [1148, 1150, 39, 77, 1151], [], [], [], [947], [], [], [1148, 1150, 39, 77, 1151], [], [], [], [], [], [], [], [], [], [], [], [], [], [], [], [], [], [], [], [], [], [], [], [], [], [], [], []]
set_option maxRecDepth 100000 in
theorem k_X12_bring : xall xm_X12_bring xc_X12_bring xp_X12_bring = true := by decide +kernel
theorem o_X12_bring : ∀ q ∈ xm_X12_bring.2, ∃ p, xchk xm_X12_bring q p = true := xall_mem k_X12_bring
def xp_X12_left : List (List Nat) := [[], [], [1087, 1089, 29, 77, 1090], [], [], [], [], [1147], [1048, 1049, 77, 1050], [], [], [], [], [1092, 1094, 30, 77, 1095], [], [], [], [], [], [], [], [], [], [1048, 1049, 77, 1050], [], [], [], [1056, 1058, 26, 77, 1059], [], [], [], [], [], [], [], [], [], [947], [], [], [], [], [947], [], [], [], [], [], [], [], [], [], [], [], [947], [], [], [], [], [], [], [], [], [], [], [], [], [], [], [], [947], [], [], [], [], [], [], [], [], [], [], [], [], [], [], [], [], [], [], []]
set_option maxRecDepth 100000 in
theorem k_X12_left : xall xm_X12_left xc_X12_left xp_X12_left = true := by decide +kernel
theorem o_X12_left : ∀ q ∈ xm_X12_left.2, ∃ p, xchk xm_X12_left q p = true := xall_mem k_X12_left
def xp_X12_reading : List (List Nat) := [[], [], [1087, 1089, 29, 77, 1090], [], [], [1167, 1168, 77, 1169], [], [], [1053, 1054, 77, 1055], [], [], [], [1056, 1058, 26, 77, 1059], [], [], [947], [], [], [], [], [], [1060, 1062, 27, 77, 1063], [], [], [], [], [947], [], [], [], [], [], [], [947], [], [], [], [], [947], [], [], [], [], [], [], [947], [], [], [], [], [], [], [947], [], [], [], [], [], [], [], [947], [], [], []]
set_option maxRecDepth 100000 in
theorem k_X12_reading : xall xm_X12_reading xc_X12_reading xp_X12_reading = true := by decide +kernel
theorem o_X12_reading : ∀ q ∈ xm_X12_reading.2, ∃ p, xchk xm_X12_reading q p = true := xall_mem k_X12_reading
def xp_X12_forget : List (List Nat) := [[], [947], [], [], [], [], [947], [], [], [], [], []]
set_option maxRecDepth 100000 in
theorem k_X12_forget : xall xm_X12_forget xc_X12_forget xp_X12_forget = true := by decide +kernel
theorem o_X12_forget : ∀ q ∈ xm_X12_forget.2, ∃ p, xchk xm_X12_forget q p = true := xall_mem k_X12_forget
def xp_X12_mayBe : List (List Nat) := [[], [], [], [], [], [], [947], [], [], [], [], [], [], [], [], [], [], [], [], [947], [], [], [], [], [], [], [], [947], [], [], [], [], [1152, 1153, 77, 1154], [], [947], [], [], [], [], [], [], [], [], [], [], [], [], []]
set_option maxRecDepth 100000 in
theorem k_X12_mayBe : xall xm_X12_mayBe xc_X12_mayBe xp_X12_mayBe = true := by decide +kernel
theorem o_X12_mayBe : ∀ q ∈ xm_X12_mayBe.2, ∃ p, xchk xm_X12_mayBe q p = true := xall_mem k_X12_mayBe
def xp_X12_is : List (List Nat) := [[], [], [1087, 1089, 29, 77, 1090], [], [], [], [], [], [1048, 1049, 77, 1050], [], [], [], [1056, 1058, 26, 77, 1059], [], [], [], [], [], [], [], [], [], [], [], [], [], [], [], [], [], [], [1257, 1259, 49, 77, 1260], [], [], [], [], [], [], [], [], [], [], [], [], [], [], [], [], [], [], [], [], [], [], [], [], [], [], [], [], []]
set_option maxRecDepth 100000 in
theorem k_X12_is : xall xm_X12_is xc_X12_is xp_X12_is = true := by decide +kernel
theorem o_X12_is : ∀ q ∈ xm_X12_is.2, ∃ p, xchk xm_X12_is q p = true := xall_mem k_X12_is
def xp_X12_mostLike : List (List Nat) := [[], [], [], [], [], [], [], [], [965], [], [], [], [], [], [], [], [], [], [], [], [], [], [], [], [], [], [], [1257, 1259, 49, 77, 1260], [], [], [], [], [], [], [], [], [1152, 1153, 77, 1154], [], [], [965], [], [], [], [], [], [], [], [965], [], [], [], [], [], [965], [], [], [], [], [], [], [], [], []]
set_option maxRecDepth 100000 in
theorem k_X12_mostLike : xall xm_X12_mostLike xc_X12_mostLike xp_X12_mostLike = true := by decide +kernel
theorem o_X12_mostLike : ∀ q ∈ xm_X12_mostLike.2, ∃ p, xchk xm_X12_mostLike q p = true := xall_mem k_X12_mostLike
def xp_X12_look : List (List Nat) := [[], [], [1087, 1089, 29, 77, 1090], [], [], [], [1056, 1058, 26, 77, 1059], [], [], [], [1240], [], [], [947], [], [], [], [], [], [947], [], [], [], [], [], [], [], [], [1265, 1267, 50, 77, 1268], [], [], [], [], [], [], [], [], [], [], [], [], [], [], [], [], [], [], [], [], [], [], []]
set_option maxRecDepth 100000 in
theorem k_X12_look : xall xm_X12_look xc_X12_look xp_X12_look = true := by decide +kernel
theorem o_X12_look : ∀ q ∈ xm_X12_look.2, ∃ p, xchk xm_X12_look q p = true := xall_mem k_X12_look
def xp_X12_fraction : List (List Nat) := [[], [], [], [], [], [], [], [], [], [], [], [], [], [], [], [], [], [], [], [], [], [951], [], [], [], [], [952], []]
set_option maxRecDepth 100000 in
theorem k_X12_fraction : xall xm_X12_fraction xc_X12_fraction xp_X12_fraction = true := by decide +kernel
theorem o_X12_fraction : ∀ q ∈ xm_X12_fraction.2, ∃ p, xchk xm_X12_fraction q p = true := xall_mem k_X12_fraction
def xp_X12_odds : List (List Nat) := [[], [], [], [1273], [1048, 1049, 77, 1050], [], [], [], [1056, 1058, 26, 77, 1059], [], [], [], [], [], [], [1104, 1106, 32, 77, 1107], [], [], [], [], [1076, 1078, 28, 77, 1079], [], [], [1273], [], [], [], [], [], [], [], [], [1212, 1214, 46, 77, 1215], [], [], [], [], [], [], [], [1076, 1078, 28, 77, 1079], [], [], [], [], [], [], [], [], [], [], [], [], [], [], [], [], [], [], [], [], [], [], [947], [], [], [], [1216, 1218, 47, 77, 1219], [], [], [], [964], [], [], [], [], [], [], [], [], [], [1274, 1276, 51, 77, 1277], [], []]
set_option maxRecDepth 100000 in
theorem k_X12_odds : xall xm_X12_odds xc_X12_odds xp_X12_odds = true := by decide +kernel
theorem o_X12_odds : ∀ q ∈ xm_X12_odds.2, ∃ p, xchk xm_X12_odds q p = true := xall_mem k_X12_odds
end
section
def xp_X12_drawn : List (List Nat) := [[], [], [], [1282], [1048, 1049, 77, 1050], [], [], [], [], [1283], [1048, 1049, 77, 1050], [], [], [], [], [1284], [1048, 1049, 77, 1050], [], [], [], [1056, 1058, 26, 77, 1059], [], [], [], [], [], [], [], [1104, 1106, 32, 77, 1107], [], [], [], [], [], [], [], [], [], [], [], [1076, 1078, 28, 77, 1079], [], [], [1285], [], [1286], [], [1287], [], [], [], [], [1288], [], [1284], [], [], [], [], [], [], [], [], [], [], [], [], [], [], [], [], [947], [], [], [], [], [], [1216, 1218, 47, 77, 1219], [], [], [963], [], [], [], [], [], []]
set_option maxRecDepth 100000 in
theorem k_X12_drawn : xall xm_X12_drawn xc_X12_drawn xp_X12_drawn = true := by decide +kernel
theorem o_X12_drawn : ∀ q ∈ xm_X12_drawn.2, ∃ p, xchk xm_X12_drawn q p = true := xall_mem k_X12_drawn
def xp_X12_type : List (List Nat) := [[], [], [], [1293], [1048, 1049, 77, 1050], [], [], [], [1056, 1058, 26, 77, 1059], [], [], [967], [], [], [], [1060, 1062, 27, 77, 1063], [], [], [966], [], [967], [], [], [], [], [967], [], [], [967], [], [967], []]
set_option maxRecDepth 100000 in
theorem k_X12_type : xall xm_X12_type xc_X12_type xp_X12_type = true := by decide +kernel
theorem o_X12_type : ∀ q ∈ xm_X12_type.2, ∃ p, xchk xm_X12_type q p = true := xall_mem k_X12_type
def xp_X12_clear : List (List Nat) := [[], [967], [], [], [], [967], [], []]
set_option maxRecDepth 100000 in
theorem k_X12_clear : xall xm_X12_clear xc_X12_clear xp_X12_clear = true := by decide +kernel
theorem o_X12_clear : ∀ q ∈ xm_X12_clear.2, ∃ p, xchk xm_X12_clear q p = true := xall_mem k_X12_clear
def xp_X12_isSmall : List (List Nat) := [[], [], [1309], [1310], [1048, 1049, 77, 1050], []]
set_option maxRecDepth 100000 in
theorem k_X12_isSmall : xall xm_X12_isSmall xc_X12_isSmall xp_X12_isSmall = true := by decide +kernel
theorem o_X12_isSmall : ∀ q ∈ xm_X12_isSmall.2, ∃ p, xchk xm_X12_isSmall q p = true := xall_mem k_X12_isSmall
def xp_X12_isFigure : List (List Nat) := [[], [], [1314], [1315], [1048, 1049, 77, 1050], []]
set_option maxRecDepth 100000 in
theorem k_X12_isFigure : xall xm_X12_isFigure xc_X12_isFigure xp_X12_isFigure = true := by decide +kernel
theorem o_X12_isFigure : ∀ q ∈ xm_X12_isFigure.2, ∃ p, xchk xm_X12_isFigure q p = true := xall_mem k_X12_isFigure
def xp_X12_lookAt : List (List Nat) := [[], [], [968], [], [968], [], [967], [], [], [966], [], [968], [], [], [], [], [], [968], [], [], [968], [], [], [], [969], [], [], [970], [], [], [971], [], [968], [], [967], [], [], [], [966], [], [968], [], [], [], [], [1306, 1307, 77, 1308], [], [], [], [], [1311, 1312, 77, 1313], [], [], [], [], [], [], [], [], [], [970], [], [], [969], [], [970], [], [], [], [], [], [], [], [], [], [968], [], [969], [], [], [967], [], [], [966], [], [968], [], [969], [], [], [], [], [970], [], [], [], [1306, 1307, 77, 1308], [], [], [1311, 1312, 77, 1313], [], [], [], [969], [], [], [], [], [], [], [969], [], [], [], [], [], [969], [], [], [], [], [], [970], [], [], [], [], [], [971], [], [], [966], [], [968], [], [], [], [], [], [], [971], [], [], [], [], [970], [], [], [], [969], [], [], [], [], [], [970], [970], []]
set_option maxRecDepth 100000 in
theorem k_X12_lookAt : xall xm_X12_lookAt xc_X12_lookAt xp_X12_lookAt = true := by decide +kernel
theorem o_X12_lookAt : ∀ q ∈ xm_X12_lookAt.2, ∃ p, xchk xm_X12_lookAt q p = true := xall_mem k_X12_lookAt
def xp_X12_goBehind : List (List Nat) := [[], [], [968], [], [969], [], [1302, 1304, 52, 77, 1305], []]
set_option maxRecDepth 100000 in
theorem k_X12_goBehind : xall xm_X12_goBehind xc_X12_goBehind xp_X12_goBehind = true := by decide +kernel
theorem o_X12_goBehind : ∀ q ∈ xm_X12_goBehind.2, ∃ p, xchk xm_X12_goBehind q p = true := xall_mem k_X12_goBehind
def xp_X12_isCalled : List (List Nat) := [[], [970], [], [], [], [969], [], [], [], [], [], [], [], [], [], [], [], [], [], [], [966], [], [968], [], [], [], [], [], [], [], [], [], [], [], [], [], [], [], [], [], [], [], [], [], [], [], [], [], [], [], [], [], [], [], [], [], [], [], [], []]
set_option maxRecDepth 100000 in
theorem k_X12_isCalled : xall xm_X12_isCalled xc_X12_isCalled xp_X12_isCalled = true := by decide +kernel
theorem o_X12_isCalled : ∀ q ∈ xm_X12_isCalled.2, ∃ p, xchk xm_X12_isCalled q p = true := xall_mem k_X12_isCalled
def xp_X12_takes : List (List Nat) := [[], [970], [], [], [], [971], [], [], [], [], [], [1048, 1049, 77, 1050], [], [], [], [], [973], [], [], [971], [], [], [1320, 1322, 54, 77, 1323], [], []]
set_option maxRecDepth 100000 in
theorem k_X12_takes : xall xm_X12_takes xc_X12_takes xp_X12_takes = true := by decide +kernel
theorem o_X12_takes : ∀ q ∈ xm_X12_takes.2, ∃ p, xchk xm_X12_takes q p = true := xall_mem k_X12_takes
def xp_X12_takesView : List (List Nat) := [[], [972], [], [], [], [], [], [], [], [1320, 1322, 54, 77, 1323], [], [], [], [], [1332, 1334, 57, 77, 1335], [], [], [], [], [], [1332, 1334, 57, 77, 1335], [], [], [], [], [], [1332, 1334, 57, 77, 1335], [], [], [], [], [], [1332, 1334, 57, 77, 1335], [], [], [], [], [972], [], [973], [], [], [], [973], [], [], [], [973], [], [], [], [973], [], [], [1064, 1065, 77, 1066], [], []]
set_option maxRecDepth 100000 in
theorem k_X12_takesView : xall xm_X12_takesView xc_X12_takesView xp_X12_takesView = true := by decide +kernel
theorem o_X12_takesView : ∀ q ∈ xm_X12_takesView.2, ∃ p, xchk xm_X12_takesView q p = true := xall_mem k_X12_takesView
def xp_X12_takesRenter : List (List Nat) := [[], [972], [], [], [], [], [], [], [], [1320, 1322, 54, 77, 1323], [], [], [], [], [1332, 1334, 57, 77, 1335], [], [], [], [], [], [1332, 1334, 57, 77, 1335], [], [], [], [], [], [1332, 1334, 57, 77, 1335], [], [], [], [], [972], [], [973], [], [], [], [973], [], [], [], [973], [], [], [1080, 1081, 77, 1082], [], []]
set_option maxRecDepth 100000 in
theorem k_X12_takesRenter : xall xm_X12_takesRenter xc_X12_takesRenter xp_X12_takesRenter = true := by decide +kernel
theorem o_X12_takesRenter : ∀ q ∈ xm_X12_takesRenter.2, ∃ p, xchk xm_X12_takesRenter q p = true := xall_mem k_X12_takesRenter
def xp_X12_takesThing : List (List Nat) := [[], [1320, 1322, 54, 77, 1323], [], [], [], [], [972], [], [], [], [], [1332, 1334, 57, 77, 1335], [], [], [], [], [], [1332, 1334, 57, 77, 1335], [], [], [], [], [972], [], [], [], [973], [], [], [], [], [], [], [], [], [], [], [973], [], [], [], [], [], [], []]
set_option maxRecDepth 100000 in
theorem k_X12_takesThing : xall xm_X12_takesThing xc_X12_takesThing xp_X12_takesThing = true := by decide +kernel
theorem o_X12_takesThing : ∀ q ∈ xm_X12_takesThing.2, ∃ p, xchk xm_X12_takesThing q p = true := xall_mem k_X12_takesThing
def xp_X12_takesItem : List (List Nat) := [[], [], [], [], [], [], [], [], [1316, 1318, 53, 77, 1319], [], [], [1328, 1330, 56, 77, 1331], [], [], [], [], [], [], [], [], [], [1316, 1318, 53, 77, 1319], [], [], [1336, 1338, 58, 77, 1339], [], [], [], [], [], [], [], [], [], [1316, 1318, 53, 77, 1319], [], [], [1340, 1342, 59, 77, 1343], [], [], [], [], []]
set_option maxRecDepth 100000 in
theorem k_X12_takesItem : xall xm_X12_takesItem xc_X12_takesItem xp_X12_takesItem = true := by decide +kernel
theorem o_X12_takesItem : ∀ q ∈ xm_X12_takesItem.2, ∃ p, xchk xm_X12_takesItem q p = true := xall_mem k_X12_takesItem
def xp_X12_read : List (List Nat) := [[], [], [1302, 1304, 52, 77, 1305], [], [], [], [], [], [], [], [], [1316, 1318, 53, 77, 1319], [], [], [], [968], [], [], [], [1320, 1322, 54, 77, 1323], [], [970], [], [], [], [], [968], [], [], [], [1320, 1322, 54, 77, 1323], [], [972], [1037, 1038, 77, 1039], [], [], [], [970], [], [], [1324, 1326, 55, 77, 1327], [], [], [970], [], [], [], [], [968], [], [], [], [1320, 1322, 54, 77, 1323], [], [], [], [], [], [], [], [], [947], [], [], [972], [], [], [], [], [], [], []]
set_option maxRecDepth 100000 in
theorem k_X12_read : xall xm_X12_read xc_X12_read xp_X12_read = true := by decide +kernel
theorem o_X12_read : ∀ q ∈ xm_X12_read.2, ∃ p, xchk xm_X12_read q p = true := xall_mem k_X12_read
def xp_X12_part : List (List Nat) := [[], [], [], [951], [], [], [], [], [], [952], [], [], [], [1056, 1058, 26, 77, 1059], [], []]
set_option maxRecDepth 100000 in
theorem k_X12_part : xall xm_X12_part xc_X12_part xp_X12_part = true := by decide +kernel
theorem o_X12_part : ∀ q ∈ xm_X12_part.2, ∃ p, xchk xm_X12_part q p = true := xall_mem k_X12_part
def xp_X12_image : List (List Nat) := [[], [], [], [], [1048, 1049, 77, 1050], [], [], [], [1056, 1058, 26, 77, 1059], [], [], [], [], [], [], [], [948], [], [], [], [], [], [], [947], [], [], [], [], [], [], [949], [], [], [], [], []]
set_option maxRecDepth 100000 in
theorem k_X12_image : xall xm_X12_image xc_X12_image xp_X12_image = true := by decide +kernel
theorem o_X12_image : ∀ q ∈ xm_X12_image.2, ∃ p, xchk xm_X12_image q p = true := xall_mem k_X12_image
def xp_X12_from : List (List Nat) := [[], [], [], [], [1048, 1049, 77, 1050], [], [], [], [1056, 1058, 26, 77, 1059], [], [], [949], [], [], [], [], [1123, 1125, 36, 77, 1126], [], [], [], [], [], [], [], [947], [], [], [948], [], [], [], [], [], [], [], [], [], [], []]
set_option maxRecDepth 100000 in
theorem k_X12_from : xall xm_X12_from xc_X12_from xp_X12_from = true := by decide +kernel
theorem o_X12_from : ∀ q ∈ xm_X12_from.2, ∃ p, xchk xm_X12_from q p = true := xall_mem k_X12_from
def xp_X12_status : List (List Nat) := [[], [], [], [1211], [1048, 1049, 77, 1050], [], [], [950], [], [], [], [], [], [1056, 1058, 26, 77, 1059], []]
set_option maxRecDepth 100000 in
theorem k_X12_status : xall xm_X12_status xc_X12_status xp_X12_status = true := by decide +kernel
theorem o_X12_status : ∀ q ∈ xm_X12_status.2, ∃ p, xchk xm_X12_status q p = true := xall_mem k_X12_status
def xp_X12_manyLet : List (List Nat) := [[], [], [], [], [], [], [1033, 1035, 25, 77, 1036], [], [], [], [], [], [1092, 1094, 30, 77, 1095], [], [], [], [], [], [], [], [], [], [], []]
set_option maxRecDepth 100000 in
theorem k_X12_manyLet : xall xm_X12_manyLet xc_X12_manyLet xp_X12_manyLet = true := by decide +kernel
theorem o_X12_manyLet : ∀ q ∈ xm_X12_manyLet.2, ∃ p, xchk xm_X12_manyLet q p = true := xall_mem k_X12_manyLet
def xp_X12_counted : List (List Nat) := [[], [], [], [1369, 1371, 61, 77, 1372], [], [], [947], [], [], [], [], [947], [], [], [], [], [947], [], [], [], [], [967], [], [], [947], [], [], []]
set_option maxRecDepth 100000 in
theorem k_X12_counted : xall xm_X12_counted xc_X12_counted xp_X12_counted = true := by decide +kernel
theorem o_X12_counted : ∀ q ∈ xm_X12_counted.2, ∃ p, xchk xm_X12_counted q p = true := xall_mem k_X12_counted
def xp_X12_count : List (List Nat) := [[], [], [], [1364], [1048, 1049, 77, 1050], [], [], [], [1365, 1367, 60, 77, 1368], [], [], [], [1056, 1058, 26, 77, 1059], []]
set_option maxRecDepth 100000 in
theorem k_X12_count : xall xm_X12_count xc_X12_count xp_X12_count = true := by decide +kernel
theorem o_X12_count : ∀ q ∈ xm_X12_count.2, ∃ p, xchk xm_X12_count q p = true := xall_mem k_X12_count
def xp_X12_sums : List (List Nat) := [[], [], [], [], [], [], [], [1378], [], [], [], [947], [], [], [], [], [], [], [], [], [], [], []]
set_option maxRecDepth 100000 in
theorem k_X12_sums : xall xm_X12_sums xc_X12_sums xp_X12_sums = true := by decide +kernel
theorem o_X12_sums : ∀ q ∈ xm_X12_sums.2, ∃ p, xchk xm_X12_sums q p = true := xall_mem k_X12_sums
def xp_X12_digest : List (List Nat) := [[1377], [], [], [], [], [], [], [1378], [], [], [], [], [1365, 1367, 60, 77, 1368], [], [], [], [], [], [], [], [], [], [], [1033, 1035, 25, 77, 1036], [], [1379, 1381, 62, 77, 1382], [], [], [], [], [], [], [1076, 1078, 28, 77, 1079], [], [1379, 1381, 62, 77, 1382], [], [], [], [], [], [], [947], [], [], [], [1379, 1381, 62, 77, 1382], [], [], [], [], [], [], [947], [], [], [], [1379, 1381, 62, 77, 1382], [], [1378], [1378], [], [], [], [951], [], [], [], [952], [], []]
set_option maxRecDepth 100000 in
theorem k_X12_digest : xall xm_X12_digest xc_X12_digest xp_X12_digest = true := by decide +kernel
theorem o_X12_digest : ∀ q ∈ xm_X12_digest.2, ∃ p, xchk xm_X12_digest q p = true := xall_mem k_X12_digest
def xp_J9_floorMod_7cf53 : List (List Nat) := [[], [], [], [], [], [], [], [], [], [], [], [], [], [], [], []]
set_option maxRecDepth 100000 in
theorem k_J9_floorMod_7cf53 : xall xm_J9_floorMod_7cf53 xc_J9_floorMod_7cf53 xp_J9_floorMod_7cf53 = true := by decide +kernel
theorem o_J9_floorMod_7cf53 : ∀ q ∈ xm_J9_floorMod_7cf53.2, ∃ p, xchk xm_J9_floorMod_7cf53 q p = true := xall_mem k_J9_floorMod_7cf53
def xp_J9_max_7cf53 : List (List Nat) := [[], [], [], [], [], [], []]
set_option maxRecDepth 100000 in
theorem k_J9_max_7cf53 : xall xm_J9_max_7cf53 xc_J9_max_7cf53 xp_J9_max_7cf53 = true := by decide +kernel
theorem o_J9_max_7cf53 : ∀ q ∈ xm_J9_max_7cf53.2, ∃ p, xchk xm_J9_max_7cf53 q p = true := xall_mem k_J9_max_7cf53
def xp_J9_min_7cf53 : List (List Nat) := [[], [], [], [], [], [], []]
set_option maxRecDepth 100000 in
theorem k_J9_min_7cf53 : xall xm_J9_min_7cf53 xc_J9_min_7cf53 xp_J9_min_7cf53 = true := by decide +kernel
theorem o_J9_min_7cf53 : ∀ q ∈ xm_J9_min_7cf53.2, ∃ p, xchk xm_J9_min_7cf53 q p = true := xall_mem k_J9_min_7cf53
def xp_J0_length_8abf5 : List (List Nat) := [[], [1389], [], [], [467, 468, 469, 78, 470], [], []]
set_option maxRecDepth 100000 in
theorem k_J0_length_8abf5 : xall xm_J0_length_8abf5 xc_J0_length_8abf5 xp_J0_length_8abf5 = true := by decide +kernel
theorem o_J0_length_8abf5 : ∀ q ∈ xm_J0_length_8abf5.2, ∃ p, xchk xm_J0_length_8abf5 q p = true := xall_mem k_J0_length_8abf5
def xp_J0_charAt_5068e : List (List Nat) := [[], [477, 478, 479, 78, 480], [], [], [1389], [], [481, 482, 79, 483], [], [], [1389], [], []]
set_option maxRecDepth 100000 in
theorem k_J0_charAt_5068e : xall xm_J0_charAt_5068e xc_J0_charAt_5068e xp_J0_charAt_5068e = true := by decide +kernel
theorem o_J0_charAt_5068e : ∀ q ∈ xm_J0_charAt_5068e.2, ∃ p, xchk xm_J0_charAt_5068e q p = true := xall_mem k_J0_charAt_5068e
def xp_J0_coder_7d493 : List (List Nat) := [[471], [], [], [1390], [], [], []]
set_option maxRecDepth 100000 in
theorem k_J0_coder_7d493 : xall xm_J0_coder_7d493 xc_J0_coder_7d493 xp_J0_coder_7d493 = true := by decide +kernel
theorem o_J0_coder_7d493 : ∀ q ∈ xm_J0_coder_7d493.2, ∃ p, xchk xm_J0_coder_7d493 q p = true := xall_mem k_J0_coder_7d493
def xp_J0_isLatin1_aae02 : List (List Nat) := [[471], [], [], [1390], [], [], [], [], []]
set_option maxRecDepth 100000 in
theorem k_J0_isLatin1_aae02 : xall xm_J0_isLatin1_aae02 xc_J0_isLatin1_aae02 xp_J0_isLatin1_aae02 = true := by decide +kernel
theorem o_J0_isLatin1_aae02 : ∀ q ∈ xm_J0_isLatin1_aae02.2, ∃ p, xchk xm_J0_isLatin1_aae02 q p = true := xall_mem k_J0_isLatin1_aae02
def xp_J0_checkIndex_df160 : List (List Nat) := [[], [], [487], [489, 490, 80, 491], [], []]
set_option maxRecDepth 100000 in
theorem k_J0_checkIndex_df160 : xall xm_J0_checkIndex_df160 xc_J0_checkIndex_df160 xp_J0_checkIndex_df160 = true := by decide +kernel
theorem o_J0_checkIndex_df160 : ∀ q ∈ xm_J0_checkIndex_df160.2, ∃ p, xchk xm_J0_checkIndex_df160 q p = true := xall_mem k_J0_checkIndex_df160
def xp_J1_charAt_3b067 : List (List Nat) := [[], [], [], [484, 485, 78, 486], [], [], [], [], [], [], []]
set_option maxRecDepth 100000 in
theorem k_J1_charAt_3b067 : xall xm_J1_charAt_3b067 xc_J1_charAt_3b067 xp_J1_charAt_3b067 = true := by decide +kernel
theorem o_J1_charAt_3b067 : ∀ q ∈ xm_J1_charAt_3b067.2, ∃ p, xchk xm_J1_charAt_3b067 q p = true := xall_mem k_J1_charAt_3b067
end
section
def xp_J7_fill_53178 : List (List Nat) := [[], [], [], [], [], [], [], [], [], [], [], [], [], [], []]
set_option maxRecDepth 100000 in
theorem k_J7_fill_53178 : xall xm_J7_fill_53178 xc_J7_fill_53178 xp_J7_fill_53178 = true := by decide +kernel
theorem o_J7_fill_53178 : ∀ q ∈ xm_J7_fill_53178.2, ∃ p, xchk xm_J7_fill_53178 q p = true := xall_mem k_J7_fill_53178
def xp_J3_checkIndex_8e157 : List (List Nat) := [[], [], [], [], [], [], [], [], [], []]
set_option maxRecDepth 100000 in
theorem k_J3_checkIndex_8e157 : xall xm_J3_checkIndex_8e157 xc_J3_checkIndex_8e157 xp_J3_checkIndex_8e157 = true := by decide +kernel
theorem o_J3_checkIndex_8e157 : ∀ q ∈ xm_J3_checkIndex_8e157.2, ∃ p, xchk xm_J3_checkIndex_8e157 q p = true := xall_mem k_J3_checkIndex_8e157
def xp_L_law_1 : List (List Nat) := [[84, 85, 64], [], [86, 87, 64, 88], [], [941, 942, 77], [], [943, 944, 77, 945], [], [], [], [], [], [], [], [], [], [], [], [], [], [], [], [], [387, 388, 389, 64, 390], [], [1029, 1030, 1031, 77, 1032], [], [], [], [], [], [], [], [], [], [], [], [], [], [], [], [], [], [], [], [], [], [], [], [], [392, 393, 394, 64, 395], [], [], [], [], [], [], [], [], [], [], [], [], [], [], [], [], [], [], [], [], [], [1040, 1041, 1042, 77, 1043], [], [], [], [], [], [], []]
set_option maxRecDepth 100000 in
theorem k_L_law_1 : xall xm_L_law xc_L_law_1 xp_L_law_1 = true := by decide +kernel
def xp_L_law_2 : List (List Nat) := [[], [], [], [], [], [], [], [], [], [], [], [], [410, 411, 412, 64, 413], [], [], [], [], [], [], [], [], [], [], [], [], [], [], [], [], [1067, 1068, 1069, 77, 1070], [], [], [], [], [], [], [], [], [], [], [], [], [], [], [421, 422, 423, 64, 424], [], [], [], [], [], [], [], [], [], [], [], [1083, 1084, 1085, 77, 1086], [], [], [], [], [], [], [], [], [], [429, 430, 431, 64, 432], [], [], [], [], [], [], [1289, 1290, 1291, 77, 1292], [], [], [], [], [437, 438, 439, 64, 440], []]
set_option maxRecDepth 100000 in
theorem k_L_law_2 : xall xm_L_law xc_L_law_2 xp_L_law_2 = true := by decide +kernel
def xp_L_law_3 : List (List Nat) := [[1294, 1295, 1296, 77, 1297], [], [], [], [], [441, 442, 443, 64, 444], [], [1298, 1299, 1300, 77, 1301], [], [], [], [], [], [], [], [], [], [], [], [], [], [], [545, 546, 547, 64, 548], [], [], [], [], [], [], [], [], [], [], [], [1096, 1097, 1098, 77, 1099], [], [], [], [], [632, 633, 634, 64, 635], [], [1135, 1136, 1137, 77, 1138], [], [], [], [], [637, 638, 639, 64, 640], [], [1139, 1140, 1141, 77, 1142], [], [], [], [], [], [], [], [], [], [], [], [], [], [], [645, 646, 647, 64, 648], [], [], [], [], [], [], [], [], [], [], [], [1143, 1144, 1145, 77, 1146], [], [], [], []]
set_option maxRecDepth 100000 in
theorem k_L_law_3 : xall xm_L_law xc_L_law_3 xp_L_law_3 = true := by decide +kernel
end
section
def xp_L_law_4 : List (List Nat) := [[], [], [], [], [], [], [], [], [], [], [681, 682, 683, 64, 684], [], [], [], [], [], [], [], [], [], [], [], [1158, 1159, 1160, 77, 1161], [], [], [], [], [], [], [], [], [], [], [], [], [], [], [686, 687, 688, 64, 689], [], [], [], [], [], [], [], [], [], [], [], [1163, 1164, 1165, 77, 1166], [], [], [], [], [], [], [], [], [], [], [], [], [], [], [], [], [], [], [], [693, 694, 695, 64, 696], [], [], [], [], [], [], [], [], [], []]
set_option maxRecDepth 100000 in
theorem k_L_law_4 : xall xm_L_law xc_L_law_4 xp_L_law_4 = true := by decide +kernel
def xp_L_law_5 : List (List Nat) := [[], [], [], [], [], [], [1170, 1171, 1172, 77, 1173], [], [], [], [], [], [], [], [], [], [], [], [], [], [], [716, 717, 718, 64, 719], [], [], [], [], [], [], [], [], [], [], [], [1178, 1179, 1180, 77, 1181], [], [], [], [], [], [], [], [], [], [743, 744, 745, 64, 746], [], [], [], [], [], [], [1203, 1204, 1205, 77, 1206], [], [], [], [], [], [], [], [], [], [], [], [], [], [], [750, 751, 752, 64, 753], [], [], [], [], [], [], [], [], [], [], [], [1207, 1208, 1209, 77, 1210], [], []]
set_option maxRecDepth 100000 in
theorem k_L_law_5 : xall xm_L_law xc_L_law_5 xp_L_law_5 = true := by decide +kernel
def xp_L_law_6 : List (List Nat) := [[], [], [], [], [], [], [], [], [], [], [], [], [], [], [], [], [], [], [], [], [], [], [762, 763, 764, 64, 765], [], [], [], [], [], [], [], [], [], [], [], [], [], [], [], [], [], [], [], [], [], [1220, 1221, 1222, 77, 1223], [], [], [], [], [], [], [], [], [], [], [], [], [], [], [767, 768, 769, 64, 770], [], [], [], [], [], [], [], [], [], [], [], [1224, 1225, 1226, 77, 1227], [], [], [], [], [], [], [], []]
set_option maxRecDepth 100000 in
theorem k_L_law_6 : xall xm_L_law xc_L_law_6 xp_L_law_6 = true := by decide +kernel
end
section
def xp_L_law_7 : List (List Nat) := [[], [787, 788, 789, 64, 790], [], [], [], [], [], [], [1228, 1229, 1230, 77, 1231], [], [], [], [], [], [], [], [], [], [], [], [], [], [], [], [], [], [], [], [804, 805, 806, 64, 807], [], [], [], [], [], [], [], [], [], [], [], [], [], [], [], [], [1236, 1237, 1238, 77, 1239], [], [], [], [], [], [], [], [], [], [], [], [], [], [], [], [], [], [], [], [815, 816, 817, 64, 818], [], [], [], [], [], [], [], [], [], [], [], [], [], []]
set_option maxRecDepth 100000 in
theorem k_L_law_7 : xall xm_L_law xc_L_law_7 xp_L_law_7 = true := by decide +kernel
def xp_L_law_8 : List (List Nat) := [[], [], [1241, 1242, 1243, 77, 1244], [], [], [], [], [], [], [], [], [], [], [], [], [], [], [], [], [], [], [], [827, 828, 829, 64, 830], [], [], [], [], [], [], [], [], [], [], [], [], [], [], [], [], [1245, 1246, 1247, 77, 1248], [], [], [], [], [835, 836, 837, 64, 838], [], [1249, 1250, 1251, 77, 1252], [], [], [], [], [], [], [], [], [], [], [], [], [], [], [839, 840, 841, 64, 842], [], [], [], [], [], [], [], [], [], [], [], [1253, 1254, 1255, 77, 1256], [], [], [], [], [], []]
set_option maxRecDepth 100000 in
theorem k_L_law_8 : xall xm_L_law xc_L_law_8 xp_L_law_8 = true := by decide +kernel
def xp_L_law_9 : List (List Nat) := [[], [], [], [858, 859, 860, 64, 861], [], [], [], [], [], [], [1261, 1262, 1263, 77, 1264], [], [], [], [], [], [], [], [], [], [872, 873, 874, 64, 875], [], [], [], [], [], [], [1269, 1270, 1271, 77, 1272], [], [], [], [], [], [], [], [], [], [], [], [], [], [], [], [], [], [], [], [885, 886, 887, 64, 888], [], [], [], [], [], [], [], [], [], [], [], [], [], [], [], [], [1278, 1279, 1280, 77, 1281], [], [], [], [], [], [], [], [], [], [900, 901, 902, 64, 903], [], [], [], [], []]
set_option maxRecDepth 100000 in
theorem k_L_law_9 : xall xm_L_law xc_L_law_9 xp_L_law_9 = true := by decide +kernel
end
section
def xp_L_law_10 : List (List Nat) := [[], [1344, 1345, 1346, 77, 1347], [], [], [], [], [], [], [], [], [], [], [904, 905, 906, 64, 907], [], [], [], [], [], [], [1348, 1349, 1350, 77, 1351], [], [], [], [], [], [], [], [], [], [913, 914, 915, 64, 916], [], [], [], [], [], [], [1352, 1353, 1354, 77, 1355], [], [], [], [], [], [], [], [], [], [917, 918, 919, 64, 920], [], [], [], [], [], [], [1356, 1357, 1358, 77, 1359], [], [], [], [], [], [], [], [], [], [921, 922, 923, 64, 924], [], [], [], [], [], [], [1360, 1361, 1362, 77, 1363], [], [], [], [], [929, 930, 931, 64, 932], [], [1373, 1374, 1375, 77, 1376], [], []]
set_option maxRecDepth 100000 in
theorem k_L_law_10 : xall xm_L_law xc_L_law_10 xp_L_law_10 = true := by decide +kernel
def xp_L_law_11 : List (List Nat) := [[], [], [], [], [], []]
set_option maxRecDepth 100000 in
theorem k_L_law_11 : xall xm_L_law xc_L_law_11 xp_L_law_11 = true := by decide +kernel
theorem o_L_law : ∀ q ∈ xm_L_law.2, ∃ p, xchk xm_L_law q p = true := List.forall_mem_append.mpr ⟨xall_mem k_L_law_1, List.forall_mem_append.mpr ⟨xall_mem k_L_law_2, List.forall_mem_append.mpr ⟨xall_mem k_L_law_3, List.forall_mem_append.mpr ⟨xall_mem k_L_law_4, List.forall_mem_append.mpr ⟨xall_mem k_L_law_5, List.forall_mem_append.mpr ⟨xall_mem k_L_law_6, List.forall_mem_append.mpr ⟨xall_mem k_L_law_7, List.forall_mem_append.mpr ⟨xall_mem k_L_law_8, List.forall_mem_append.mpr ⟨xall_mem k_L_law_9, List.forall_mem_append.mpr ⟨xall_mem k_L_law_10, xall_mem k_L_law_11⟩⟩⟩⟩⟩⟩⟩⟩⟩⟩
end
section
/-! What the small machine's values, locals and cells are on the machine: a reference k is the cell B0.size + k; a number of the outer ones (.retAddr j) is what ev says. -/
theorem xno {α : Type} {w : α} {P : Prop} (h : (none : Option α) = some w) : P := nomatch h
theorem xyes {α : Type} {a w : α} (h : some a = some w) : w = a := (Option.some.inj h).symm
def xv (b : Nat) (ev : Nat → Value) (v : Value) : Value := match v with
  | .ref k => .ref (b + k)
  | .retAddr j => ev j
  | v => v
def xevs (ev : Nat → Value) : Prop := ∀ j, ev j = .null ∨ ∃ a, ev j = .ref a
theorem xv_cat {b : Nat} {ev : Nat → Value} (h : xevs ev) (v : Value) : (xv b ev v).category = v.category := by
  cases v with
  | retAddr j => rcases h j with e | ⟨a, e⟩ <;> simp [xv, e, Value.category]
  | _ => rfl
theorem xcat_map {b : Nat} {ev : Nat → Value} (h : xevs ev) (st : List Value) : ((st.map (xv b ev)).map fun v => v.category).sum = xcat st := by
  unfold xcat
  rw [List.map_map]
  congr 2
  funext v
  exact xv_cat h v
def xLs (b : Nat) (ev : Nat → Value) (L : List Value) (ls : Array Slot) : Prop := ls.size = L.length ∧ lv_wf ls ∧ ∀ (i : Nat) (v : Value), L[i]? = some v → v ≠ xU → ls[i]? = some (.val (xv b ev v))
def xas (b : Nat) (ev : Nat → Value) (L : List Value) : List (Nat × Value) := (List.range L.length).filterMap fun i => (L[i]?).bind fun v => if v = xU then none else some (i, xv b ev v)
theorem xas_mem {b : Nat} {ev : Nat → Value} {L : List Value} {i : Nat} {v : Value} (h : L[i]? = some v) (hv : v ≠ xU) : (i, xv b ev v) ∈ xas b ev L := by
  refine List.mem_filterMap.mpr ⟨i, List.mem_range.mpr (List.getElem?_eq_some_iff.mp h).1, ?_⟩
  rw [h, Option.bind_some, if_neg hv]
theorem xas_of {b : Nat} {ev : Nat → Value} {L : List Value} {q : Nat × Value} (h : q ∈ xas b ev L) : ∃ v, L[q.1]? = some v ∧ v ≠ xU ∧ q.2 = xv b ev v := by
  obtain ⟨i, -, hi⟩ := List.mem_filterMap.mp h
  obtain ⟨v, hv, h2⟩ := Option.bind_eq_some_iff.mp hi
  by_cases e : v = xU
  · rw [if_pos e] at h2
    exact xno h2
  · rw [if_neg e] at h2
    obtain rfl := xyes h2
    exact ⟨v, hv, e, rfl⟩
theorem xLs.has {b : Nat} {ev : Nat → Value} {L : List Value} {ls : Array Slot} (h : xLs b ev L ls) : lv_has ls L.length (xas b ev L) := ⟨h.1, h.2.1, fun q hq => by
  obtain ⟨v, h1, h2, h3⟩ := xas_of hq
  rw [h3]
  exact h.2.2 q.1 v h1 h2⟩
theorem xkill_len (L : List Value) (i : Nat) : (xkill L i).length = L.length := by
  unfold xkill
  split
  · rfl
  · split
    · split
      · simp
      · rfl
    · rfl
theorem xkill_at {L : List Value} {i j : Nat} {w : Value} (h : (xkill L i)[j]? = some w) (hw : w ≠ xU) : L[j]? = some w ∧ (j + 1 = i → w.category ≠ 2) := by
  unfold xkill at h
  split at h
  · exact ⟨h, fun e => by omega⟩
  · rename_i k
    split at h
    · rename_i v hv
      split at h
      · rename_i hc
        by_cases e : j = k
        · subst e
          have hlt := (List.getElem?_eq_some_iff.mp hv).1
          rw [List.getElem?_set_self hlt] at h
          exact absurd (Option.some.inj h).symm hw
        · rw [List.getElem?_set_ne (fun q => e q.symm)] at h
          exact ⟨h, fun q => by omega⟩
      · rename_i hc
        refine ⟨h, fun q => ?_⟩
        have e : j = k := by omega
        subst e
        rw [hv] at h
        cases h
        exact hc
    · rename_i hv
      refine ⟨h, fun q => ?_⟩
      have e : j = k := by omega
      subst e
      rw [hv] at h
      exact xno h
theorem xst1_of {L L' : List Value} {i : Nat} {v : Value} (h : xst1 L i v = some L') : i < L.length ∧ L' = (xkill L i).set i v := by
  unfold xst1 at h
  by_cases hi : i < L.length
  · rw [if_pos hi] at h
    exact ⟨hi, xyes h⟩
  · rw [if_neg hi] at h
    exact xno h
theorem xst2_of {L L' : List Value} {i : Nat} {v : Value} (h : xst2 L i v = some L') : i + 1 < L.length ∧ L' = ((xkill L i).set i v).set (i + 1) xU := by
  unfold xst2 at h
  by_cases hi : i + 1 < L.length
  · rw [if_pos hi] at h
    exact ⟨hi, xyes h⟩
  · rw [if_neg hi] at h
    exact xno h
theorem xLs.st1 {b : Nat} {ev : Nat → Value} (hev : xevs ev) {L L' : List Value} {i : Nat} {v : Value} {ls' : Array Slot} (h : xst1 L i v = some L')
    (hl : lv_has ls' L.length ((i, xv b ev v) :: (xas b ev L).filter (fun q => !(q.1 == i) && !(q.1 + 1 == i && q.2.category == 2)))) : xLs b ev L' ls' := by
  obtain ⟨hi, rfl⟩ := xst1_of h
  refine ⟨by rw [hl.1, List.length_set, xkill_len], hl.2.1, fun j w hj hw => ?_⟩
  by_cases e : j = i
  · subst e
    rw [List.getElem?_set_self (by rw [xkill_len]; exact hi)] at hj
    cases hj
    exact hl.2.2 (j, xv b ev v) List.mem_cons_self
  · rw [List.getElem?_set_ne (fun q => e q.symm)] at hj
    obtain ⟨h1, h2⟩ := xkill_at hj hw
    refine hl.2.2 (j, xv b ev w) (List.mem_cons_of_mem _ (List.mem_filter.mpr ⟨xas_mem h1 hw, ?_⟩))
    have hc : j + 1 = i → ¬ (xv b ev w).category = 2 := fun q => by rw [xv_cat hev]; exact h2 q
    simp [e]
    exact Decidable.not_or_of_imp hc
theorem xLs.st2 {b : Nat} {ev : Nat → Value} (hev : xevs ev) {L L' : List Value} {i : Nat} {v : Value} {ls' : Array Slot} (h : xst2 L i v = some L')
    (hl : lv_has ls' L.length ((i, xv b ev v) :: (xas b ev L).filter (fun q => !(q.1 == i) && (!(q.1 == i + 1) && !(q.1 + 1 == i && q.2.category == 2))))) : xLs b ev L' ls' := by
  obtain ⟨hi, rfl⟩ := xst2_of h
  refine ⟨by rw [hl.1, List.length_set, List.length_set, xkill_len], hl.2.1, fun j w hj hw => ?_⟩
  by_cases e1 : j = i + 1
  · subst e1
    rw [List.getElem?_set_self (by rw [List.length_set, xkill_len]; exact hi)] at hj
    exact absurd (Option.some.inj hj).symm hw
  · rw [List.getElem?_set_ne (fun q => e1 q.symm)] at hj
    by_cases e : j = i
    · subst e
      rw [List.getElem?_set_self (by rw [xkill_len]; omega)] at hj
      cases hj
      exact hl.2.2 (j, xv b ev v) List.mem_cons_self
    · rw [List.getElem?_set_ne (fun q => e q.symm)] at hj
      obtain ⟨h1, h2⟩ := xkill_at hj hw
      refine hl.2.2 (j, xv b ev w) (List.mem_cons_of_mem _ (List.mem_filter.mpr ⟨xas_mem h1 hw, ?_⟩))
      have hc : j + 1 = i → ¬ (xv b ev w).category = 2 := fun q => by rw [xv_cat hev]; exact h2 q
      simp [e, e1]
      exact Decidable.not_or_of_imp hc
theorem xent_args {b : Nat} {ev : Nat → Value} (hev : xevs ev) : ∀ (vs : List Value) (i j : Nat) (w : Value), (xspread vs)[j]? = some w → w ≠ xU → (i + j, xv b ev w) ∈ lv_args i (vs.map (xv b ev))
  | [], _, _, _, h, _ => by simp [xspread] at h
  | v :: r, i, j, w, h, hw => by
    rw [List.map_cons, lv_args, xv_cat hev]
    by_cases hc : v.category = 2
    · rw [xspread, if_pos hc] at h
      rw [if_pos hc]
      match j, h with
      | 0, h =>
        cases h
        exact List.mem_cons_self
      | 1, h =>
        exact absurd (Option.some.inj h).symm hw
      | j + 2, h =>
        have h' : (xspread r)[j]? = some w := h
        have := xent_args (b := b) hev r (i + 2) j w h' hw
        rw [show i + (j + 2) = i + 2 + j by omega]
        exact List.mem_cons_of_mem _ this
    · rw [xspread, if_neg hc] at h
      rw [if_neg hc]
      match j, h with
      | 0, h =>
        cases h
        exact List.mem_cons_self
      | j + 1, h =>
        have h' : (xspread r)[j]? = some w := h
        have := xent_args (b := b) hev r (i + 1) j w h' hw
        rw [show i + (j + 1) = i + 1 + j by omega]
        exact List.mem_cons_of_mem _ this
theorem xspread_len {b : Nat} {ev : Nat → Value} (hev : xevs ev) : ∀ (vs : List Value), (lg_sl (vs.map (xv b ev))).length = (xspread vs).length
  | [] => rfl
  | v :: r => by
    have ih := xspread_len (b := b) hev r
    have e : lg_sl ((v :: r).map (xv b ev)) = (if (xv b ev v).category = 2 then [.val (xv b ev v), .second] else [.val (xv b ev v)]) ++ lg_sl (r.map (xv b ev)) := rfl
    rw [e, List.length_append, ih, xv_cat hev, xspread]
    by_cases hc : v.category = 2
    · rw [if_pos hc, if_pos hc]
      simp
      omega
    · rw [if_neg hc, if_neg hc]
      simp
      omega
theorem xLs_entry {b : Nat} {ev : Nat → Value} (hev : xevs ev) {vs : List Value} {n : Nat} (h : (xspread vs).length ≤ n) :
    xLs b ev (xent n vs) ((lg_sl (vs.map (xv b ev)) ++ List.replicate (n - (lg_sl (vs.map (xv b ev))).length) Slot.unset).toArray) := by
  have hl := lv_entry (vs.map (xv b ev)) (n := n) (by rw [xspread_len hev]; exact h)
  refine ⟨by rw [hl.1]; simp [xent]; omega, hl.2.1, fun j w hj hw => ?_⟩
  unfold xent at hj
  by_cases hlt : j < (xspread vs).length
  · rw [List.getElem?_append_left hlt] at hj
    have := xent_args (b := b) hev vs 0 j w hj hw
    rw [Nat.zero_add] at this
    exact hl.2.2 _ this
  · rw [List.getElem?_append_right (by omega), List.getElem?_replicate] at hj
    split at hj
    · exact absurd (Option.some.inj hj).symm hw
    · exact xno hj
/-- a cell on the machine -/
def xat (D : va_G) (cA : Nat → ClassId) (b : Nat) (ev : Nat → Value) (q : Nat) (c : xC) (H : Heap) : Prop :=
  if c.1 < 20 then ∃ r : vw_C, xcl[c.1]? = some r ∧ t_OB q (D.1 c.1) r.2.2 (D.2 c.1) H (fun k => xv b ev (c.2.getD k .null))
  else c.1 < 27 ∧ H[q]? = some (arrV (cA c.1) c.2.length (fun j => xv b ev (c.2.getD j .null)))
theorem xat.kept {D : va_G} {cA : Nat → ClassId} {b : Nat} {ev : Nat → Value} {q : Nat} {c : xC} {H H1 : Heap} (h : xat D cA b ev q c H) (hq : H1[q]? = H[q]?) : xat D cA b ev q c H1 := by
  unfold xat at h ⊢
  by_cases hc : c.1 < 20
  · rw [if_pos hc] at h ⊢
    obtain ⟨r, h1, h2⟩ := h
    exact ⟨r, h1, h2.kept hq⟩
  · rw [if_neg hc] at h ⊢
    rw [hq]
    exact h
/-- the cells h on the machine, behind those of B0, which stand as they stood -/
def xR (D : va_G) (cA : Nat → ClassId) (B0 : Heap) (ev : Nat → Value) (h : xH) (H : Heap) : Prop := H.size = B0.size + h.length ∧ (∀ q : Nat, q < B0.size → H[q]? = B0[q]?) ∧ ∀ (k : Nat) (c : xC), h[k]? = some c → xat D cA B0.size ev (B0.size + k) c H
theorem xR.set {D : va_G} {cA : Nat → ClassId} {B0 : Heap} {ev : Nat → Value} {h : xH} {H H1 : Heap} {a : Nat} {c c' : xC} (hR : xR D cA B0 ev h H) (ha : h[a]? = some c) (hz : H1.size = H.size) (ho : ∀ q : Nat, q ≠ B0.size + a → H1[q]? = H[q]?)
    (hc : xat D cA B0.size ev (B0.size + a) c' H1) : xR D cA B0 ev (h.set a c') H1 := by
  refine ⟨by rw [hz, hR.1, List.length_set], fun q hq => by rw [ho q (by omega)]; exact hR.2.1 q hq, fun k d hk => ?_⟩
  by_cases e : k = a
  · subst e
    rw [List.getElem?_set_self (List.getElem?_eq_some_iff.mp ha).1] at hk
    cases hk
    exact hc
  · rw [List.getElem?_set_ne (fun q => e q.symm)] at hk
    exact (hR.2.2 k d hk).kept (ho _ (by omega))
theorem xR.push {D : va_G} {cA : Nat → ClassId} {B0 : Heap} {ev : Nat → Value} {h : xH} {H H1 : Heap} {c : xC} (hR : xR D cA B0 ev h H) (hz : H1.size = H.size + 1) (ho : ∀ q : Nat, q < H.size → H1[q]? = H[q]?)
    (hc : xat D cA B0.size ev H.size c H1) : xR D cA B0 ev (h ++ [c]) H1 := by
  have hs := hR.1
  refine ⟨by rw [hz, hs]; simp; omega, fun q hq => by rw [ho q (by omega)]; exact hR.2.1 q hq, fun k d hk => ?_⟩
  by_cases e : k < h.length
  · rw [List.getElem?_append_left e] at hk
    exact (hR.2.2 k d hk).kept (ho _ (by omega))
  · rw [List.getElem?_append_right (by omega)] at hk
    have h0 : k - h.length < 1 := (List.getElem?_eq_some_iff.mp hk).1
    rw [show k - h.length = 0 by omega] at hk
    cases hk
    rw [show B0.size + k = H.size by omega]
    exact hc
theorem xR.lt {D : va_G} {cA : Nat → ClassId} {B0 : Heap} {ev : Nat → Value} {h : xH} {H : Heap} (hR : xR D cA B0 ev h H) {k : Nat} {c : xC} (hk : h[k]? = some c) : B0.size + k < H.size := by
  have := (List.getElem?_eq_some_iff.mp hk).1
  have := hR.1
  omega
/-- the words that stay true while the tables are warmed -/
def xgood : Jvm.Cond → Bool
  | .methodLinkNest .. => true
  | .castable .. => true
  | w => goodWord w
theorem xgood_warm {w : Jvm.Cond} (hg : xgood w = true) {s U : State} (hW : s.WarmedH U.vm) (h : va_Nw w s) : va_Nw w U := by
  cases w <;> first | exact va_Nw.warmM hW h | exact va_Nw.warmC hW h | exact word_at hW (good_of_word hg) h
theorem xgood_use {w : Jvm.Cond} (hg : xgood w = true) {s : State} {args : Array Value} (h : va_Nw w s) : w.before args s = true := by
  cases w <;> first | exact va_Nw.use rfl h | exact word_at (State.WarmedH.refl s) (good_of_word hg) h
theorem xgood_of {w : Jvm.Cond} (hg : xgood w = true) {s : State} {args : Array Value} (h : w.before args s = true) : va_Nw w s := by
  cases w <;> first | exact va_Nw.of rfl h | exact word_at (State.WarmedH.refl s) (good_of_word hg) h
theorem xAO_warm {ty : FieldType} {s U : State} (hW : s.WarmedH U.vm) (h : (Jvm.Cond.arrayOver ty).before #[] s = true) : (Jvm.Cond.arrayOver ty).before #[] U = true := by
  have h1 : (Jvm.Cond.arrayOver ty).before #[] (s.setVm U.vm) = true := by rw [Cond.arrayOver_setVmC hW.alike]; exact h
  exact h1
theorem xAO_use {ty : FieldType} {s : State} {args : Array Value} (h : (Jvm.Cond.arrayOver ty).before #[] s = true) : (Jvm.Cond.arrayOver ty).before args s = true := h
def xtys (cA : Nat → ClassId) : List (ClassId × FieldType) := [(cA 20, xaty 20), (cA 21, xaty 21), (cA 22, xaty 22), (cA 23, xaty 23), (cA 24, xaty 24), (cA 25, xaty 25), (cA 26, xaty 26)]
/-- an outer cell: the script, a constant text, its bytes -/
def xEx (B0 : Heap) (ev : Nat → Value) (j t : Nat) (vs : List Value) (U : State) : Prop := ∃ (a : Nat) (cell : Cell), ev j = .ref a ∧ a < B0.size ∧ B0[a]? = some cell ∧
  if t = 13 then cell.vm.isStatics = false ∧ U.vm.findClass "java/lang/String" = some cell.cls ∧ vs.length ≤ 2 ∧
    (∀ v, vs[0]? = some v → va_OF "java/lang/String" "value" "[B" (xv B0.size ev v) a (fun q => B0.size ≤ q) U B0) ∧ (∀ v, vs[1]? = some v → va_OF "java/lang/String" "coder" "B" (xv B0.size ev v) a (fun q => B0.size ≤ q) U B0)
  else (t = 20 ∨ t = 21) ∧ U.isArrayOf cell (xaty t) ∧ cell.vm ≠ .unknown ∧ vs.length ≤ cell.slots.size ∧ cell.slots.size.toInt32 = Int32.ofNat vs.length ∧ ∀ (i : Nat) (v : Value), vs[i]? = some v → cell.slots[i]? = some (xv B0.size ev v)
theorem xEx.warm {B0 : Heap} {ev : Nat → Value} {j t : Nat} {vs : List Value} {s U : State} (hW : s.WarmedH U.vm) (h : xEx B0 ev j t vs s) : xEx B0 ev j t vs U := by
  obtain ⟨a, cell, h1, h2, h3, h4⟩ := h
  refine ⟨a, cell, h1, h2, h3, ?_⟩
  by_cases ht : t = 13
  · rw [if_pos ht] at h4 ⊢
    obtain ⟨g1, g2, g3, g4, g5⟩ := h4
    exact ⟨g1, by rw [hW.alike.findClass]; exact g2, g3, fun v hv => (g4 v hv).moved hW.alike, fun v hv => (g5 v hv).moved hW.alike⟩
  · rw [if_neg ht] at h4 ⊢
    obtain ⟨g1, g2, g3⟩ := h4
    exact ⟨g1, State.isArrayOf_alike hW.alike g2, g3⟩
/-- what is known of a state's tables -/
def XF (B0 : Heap) (ev : Nat → Value) (ext : List xC) (D : va_G) (cA : Nat → ClassId) (U : State) : Prop :=
  (∀ w ∈ lw_tbl, xgood w = true → va_Nw w U) ∧ va_K D xcl (xtys cA) U ∧ (∀ t : Nat, 22 < t → t < 27 → (Jvm.Cond.arrayOver (xaty t)).before #[] U = true) ∧
  (∀ (j t : Nat) (vs : List Value), ext[j]? = some (t, vs) → xEx B0 ev j t vs U) ∧
  va_Z "java/lang/String" "COMPACT_STRINGS" "Z" (.int 1) (fun q => B0.size ≤ q) U B0 ∧ va_Z "jdk/internal/util/Preconditions" "SIOOBE_FORMATTER" "Ljava/util/function/BiFunction;" (ev 9) (fun q => B0.size ≤ q) U B0 ∧
  (∀ j : Nat, 0 < j → j < 5 → ∀ (own : String) (idx : Nat), Jvm.Cond.stringRef own idx (xstrT.getD j "") ∈ lw_tbl → ∃ a : Nat, ev j = .ref a ∧ vk_R own idx (xstrT.getD j "") a U)
theorem XF.warm {B0 : Heap} {ev : Nat → Value} {ext : List xC} {D : va_G} {cA : Nat → ClassId} {s U : State} (hW : s.WarmedH U.vm) (h : XF B0 ev ext D cA s) : XF B0 ev ext D cA U := by
  obtain ⟨h1, h2, h3, h4, h5, h6, h7⟩ := h
  refine ⟨fun w hw hg => xgood_warm hg hW (h1 w hw hg), h2.moved hW.alike, fun t a b => xAO_warm hW (h3 t a b), fun j t vs hj => (h4 j t vs hj).warm hW, h5.moved hW.alike, h6.moved hW.alike, fun j a b own idx hm => ?_⟩
  obtain ⟨q, q1, q2⟩ := h7 j a b own idx hm
  exact ⟨q, q1, q2.warm hW⟩
theorem XF.w {B0 : Heap} {ev : Nat → Value} {ext : List xC} {D : va_G} {cA : Nat → ClassId} {s : State} (h : XF B0 ev ext D cA s) {w : Jvm.Cond} (hw : w ∈ lw_tbl) (hg : xgood w = true) (args : Array Value) : w.before args s = true := xgood_use hg (h.1 w hw hg)
theorem xwI_mem {ps : List Nat} {j : Nat} {w : Jvm.Cond} (h : xwI ps j w = true) : w ∈ lw_tbl := by
  unfold xwI at h
  split at h
  · exact List.mem_of_getElem? (of_decide_eq_true h)
  · cases h
/-- every class's fields, as the tables lay them -/
theorem xlays : ∀ c ∈ xcl, ∀ w ∈ u_ws c.1 c.2.1 c.2.2, w ∈ lw_tbl ∧ xgood w = true := by decide +kernel
end
section
/-! Each simple instruction of the small machine is the machine's. -/
def XC (p : Program) (s : State) (m : MethodId) (meth : Method) (c : Code) (B0 : Heap) (ev : Nat → Value) (ext : List xC) (D : va_G) (cA : Nat → ClassId) (mi : Nat) : Prop :=
  p.tables.exec = Jvm.exec ∧ c.code = (xmt mi).1.2.1 ∧ c.maxLocals = xmax mi ∧ s.vm.findClass (xmt mi).1.1.cls = some m.cls ∧ ((xmt mi).1.1.name = "<init>" → meth.name = "<init>") ∧ XF B0 ev ext D cA s ∧ B0.size ≤ s.heap.size ∧ (∀ q : Nat, q < B0.size → s.heap[q]? = B0[q]?) ∧ xevs ev
def xG (p : Program) (l : Launch) (e : Env) (R : Room) (s : State) (m : MethodId) (args : Array Value) (below : List Frame) (meth : Method) (c : Code) (B0 : Heap) (ev : Nat → Value) (D : va_G) (cA : Nat → ClassId) (n0 : Nat) (Q : State → Prop) (pc : Nat) (L st : List Value) (h : xH) : Prop :=
  ∀ (H : Heap) (locs : List Loc) (ls : Array Slot), xR D cA B0 ev h H → (∀ q ∈ locs, B0.size ≤ q.base) → xLs B0.size ev L ls → ls.size = c.maxLocals → W p l e R s m args below meth c H locs (h.length - n0) (1100 * (h.length - n0)) Q (F0 m pc ls (st.map (xv B0.size ev)))
theorem xchk_any {m : xM} {pc nx : Nat} {ins : Instr} {info ps : List Nat} (h : xchk m (pc, ins, nx, info) ps = true) : decode m.1.2.1 pc = .ok (ins, nx - pc) ∧ pc < nx ∧ xchkI m.1.1.cls m.1.1.name pc ins info ps = true := by
  unfold xchk at h
  rw [Bool.and_eq_true, Bool.and_eq_true, Bool.and_eq_true] at h
  exact ⟨of_decide_eq_true h.1, Nat.blt_eq.mp h.2.1, h.2.2.2⟩
theorem xchk_len {m : xM} {pc nx : Nat} {ins : Instr} {info ps : List Nat} (k : Nat) (h : xchk m (pc, ins, nx, info) ps = true) (hl : ∀ n, xlenI ins n = true → n = k) : decode m.1.2.1 pc = .ok (ins, k) ∧ nx = pc + k ∧ xchkI m.1.1.cls m.1.1.name pc ins info ps = true := by
  obtain ⟨h1, h2, h3⟩ := xchk_any h
  unfold xchk at h
  rw [Bool.and_eq_true, Bool.and_eq_true, Bool.and_eq_true] at h
  have e := hl _ h.2.2.1
  have e' : nx - pc = k := e
  rw [e'] at h1
  exact ⟨h1, by omega, h3⟩
theorem xstr0 (ps : List Nat) (own : String) (idx : Nat) : ¬ xwI ps 0 (.stringRef own idx (xstrT.getD 0 "")) = true := by
  intro h
  have hm := xwI_mem h
  have hall : lw_tbl.all (fun w => match w with | .stringRef _ _ t => !(t == "") | _ => true) = true := by decide +kernel
  have := List.all_eq_true.mp hall _ hm
  simp [xstrT] at this
theorem xlk_of {pc t : Nat} {dt : Int} (hdt : (pc : Int) + dt = (t : Int)) : ∀ {prs : List (Int × Int)} {ts : List Nat}, xlkI pc prs ts = true → ∀ x : Int32, (pc : Int) + Op.lookupswitch.offset prs dt x.toInt = ((xlook ts x t : Nat) : Int)
  | [], [], _, x => by
    rw [show Op.lookupswitch.offset [] dt x.toInt = dt from rfl]
    exact hdt
  | [], _ :: _, h, _ => by cases h
  | (k, o) :: r, [], h, _ => by cases h
  | (k, o) :: r, [_], h, _ => by cases h
  | (k, o) :: r, a :: b :: ts, h, x => by
    unfold xlkI at h
    rw [Bool.and_eq_true, Bool.and_eq_true, Bool.and_eq_true] at h
    have h1 : k = (a : Int) := of_decide_eq_true h.1
    have h2 : a < 2147483648 := of_decide_eq_true h.2.1
    have h3 : (pc : Int) + o = (b : Int) := of_decide_eq_true h.2.2.1
    have hk : (Int32.ofNat a).toInt = (a : Int) := nI_toInt (by omega)
    rw [Op.lookupswitch.offset_cons]
    by_cases hxa : x = Int32.ofNat a
    · rw [if_pos (by rw [h1, hxa, hk])]
      unfold xlook
      rw [if_pos hxa]
      exact h3
    · rw [if_neg (fun q => hxa (Int32.toInt_inj.mp (by rw [hk, ← h1]; exact q.symm)))]
      unfold xlook
      rw [if_neg hxa]
      exact xlk_of hdt h.2.2.2 x
theorem xs_iconst {ext : List xC} {d nx : Nat} {info : List Nat} {L st : List Value} {h : xH} {n : Int} : xs ext d (.iconst n) nx info L st h = (some (nx, L, .int (Int32.ofInt n) :: st, h)) := rfl
theorem xs_bipush {ext : List xC} {d nx : Nat} {info : List Nat} {L st : List Value} {h : xH} {n : Int} : xs ext d (.bipush n) nx info L st h = (some (nx, L, .int (Int8.ofInt n).toInt32 :: st, h)) := rfl
theorem xs_sipush {ext : List xC} {d nx : Nat} {info : List Nat} {L st : List Value} {h : xH} {n : Int} : xs ext d (.sipush n) nx info L st h = (some (nx, L, .int (Int16.ofInt n).toInt32 :: st, h)) := rfl
theorem xs_lconst {ext : List xC} {d nx : Nat} {info : List Nat} {L st : List Value} {h : xH} {n : Fin 2} : xs ext d (.lconst n) nx info L st h = (some (nx, L, .long (Int64.ofNat n.val) :: st, h)) := rfl
theorem xs_ldc {ext : List xC} {d nx : Nat} {info : List Nat} {L st : List Value} {h : xH} {idx : Nat} : xs ext d (.ldc idx) nx info L st h = (match info with
    | [0, v] => some (nx, L, .int (Int32.ofNat v) :: st, h)
    | [1, j] => some (nx, L, .retAddr j :: st, h)
    | _ => none) := rfl
theorem xs_ldc_w {ext : List xC} {d nx : Nat} {info : List Nat} {L st : List Value} {h : xH} {idx : Nat} : xs ext d (.ldc_w idx) nx info L st h = (match info with
    | [0, v] => some (nx, L, .int (Int32.ofNat v) :: st, h)
    | _ => none) := rfl
theorem xs_ldc2_w {ext : List xC} {d nx : Nat} {info : List Nat} {L st : List Value} {h : xH} {idx : Nat} : xs ext d (.ldc2_w idx) nx info L st h = (match info with
    | [v] => some (nx, L, .long (Int64.ofNat v) :: st, h)
    | _ => none) := rfl
theorem xs_iload_n {ext : List xC} {d nx : Nat} {info : List Nat} {L st : List Value} {h : xH} {k : Fin 4} : xs ext d (.iload_n k) nx info L st h = (match L[k.val]? with
    | some (.int v) => some (nx, L, .int v :: st, h)
    | _ => none) := rfl
theorem xs_iload {ext : List xC} {d nx : Nat} {info : List Nat} {L st : List Value} {h : xH} {k : Nat} : xs ext d (.iload k) nx info L st h = (match L[k]? with
    | some (.int v) => some (nx, L, .int v :: st, h)
    | _ => none) := rfl
theorem xs_lload_n {ext : List xC} {d nx : Nat} {info : List Nat} {L st : List Value} {h : xH} {k : Fin 4} : xs ext d (.lload_n k) nx info L st h = (match L[k.val]? with
    | some (.long v) => some (nx, L, .long v :: st, h)
    | _ => none) := rfl
theorem xs_lload {ext : List xC} {d nx : Nat} {info : List Nat} {L st : List Value} {h : xH} {k : Nat} : xs ext d (.lload k) nx info L st h = (match L[k]? with
    | some (.long v) => some (nx, L, .long v :: st, h)
    | _ => none) := rfl
theorem xs_aload_n {ext : List xC} {d nx : Nat} {info : List Nat} {L st : List Value} {h : xH} {k : Fin 4} : xs ext d (.aload_n k) nx info L st h = (match L[k.val]? with
    | some (.ref a) => some (nx, L, .ref a :: st, h)
    | some (.retAddr j) => some (nx, L, .retAddr j :: st, h)
    | _ => none) := rfl
theorem xs_aload {ext : List xC} {d nx : Nat} {info : List Nat} {L st : List Value} {h : xH} {k : Nat} : xs ext d (.aload k) nx info L st h = (match L[k]? with
    | some (.ref a) => some (nx, L, .ref a :: st, h)
    | _ => none) := rfl
theorem xs_istore_n {ext : List xC} {d nx : Nat} {info : List Nat} {L st : List Value} {h : xH} {k : Fin 4} : xs ext d (.istore_n k) nx info L st h = (match st with
    | .int v :: r => (xst1 L k.val (.int v)).bind fun L' => some (nx, L', r, h)
    | _ => none) := rfl
theorem xs_istore {ext : List xC} {d nx : Nat} {info : List Nat} {L st : List Value} {h : xH} {k : Nat} : xs ext d (.istore k) nx info L st h = (match st with
    | .int v :: r => (xst1 L k (.int v)).bind fun L' => some (nx, L', r, h)
    | _ => none) := rfl
theorem xs_lstore_n {ext : List xC} {d nx : Nat} {info : List Nat} {L st : List Value} {h : xH} {k : Fin 4} : xs ext d (.lstore_n k) nx info L st h = (match st with
    | .long v :: r => (xst2 L k.val (.long v)).bind fun L' => some (nx, L', r, h)
    | _ => none) := rfl
theorem xs_lstore {ext : List xC} {d nx : Nat} {info : List Nat} {L st : List Value} {h : xH} {k : Nat} : xs ext d (.lstore k) nx info L st h = (match st with
    | .long v :: r => (xst2 L k (.long v)).bind fun L' => some (nx, L', r, h)
    | _ => none) := rfl
theorem xs_astore_n {ext : List xC} {d nx : Nat} {info : List Nat} {L st : List Value} {h : xH} {k : Fin 4} : xs ext d (.astore_n k) nx info L st h = (match st with
    | .ref a :: r => (xst1 L k.val (.ref a)).bind fun L' => some (nx, L', r, h)
    | _ => none) := rfl
theorem xs_astore {ext : List xC} {d nx : Nat} {info : List Nat} {L st : List Value} {h : xH} {k : Nat} : xs ext d (.astore k) nx info L st h = (match st with
    | .ref a :: r => (xst1 L k (.ref a)).bind fun L' => some (nx, L', r, h)
    | _ => none) := rfl
theorem xs_iinc {ext : List xC} {d nx : Nat} {info : List Nat} {L st : List Value} {h : xH} {k : Nat} {n : Int} : xs ext d (.iinc k n) nx info L st h = (match L[k]? with
    | some (.int v) => (xst1 L k (.int (v + Int32.ofInt n))).bind fun L' => some (nx, L', st, h)
    | _ => none) := rfl
theorem xs_iadd {ext : List xC} {d nx : Nat} {info : List Nat} {L st : List Value} {h : xH}  : xs ext d .iadd nx info L st h = (match st with
    | .int y :: .int x :: r => some (nx, L, .int (x + y) :: r, h)
    | _ => none) := rfl
theorem xs_isub {ext : List xC} {d nx : Nat} {info : List Nat} {L st : List Value} {h : xH}  : xs ext d .isub nx info L st h = (match st with
    | .int y :: .int x :: r => some (nx, L, .int (x - y) :: r, h)
    | _ => none) := rfl
theorem xs_imul {ext : List xC} {d nx : Nat} {info : List Nat} {L st : List Value} {h : xH}  : xs ext d .imul nx info L st h = (match st with
    | .int y :: .int x :: r => some (nx, L, .int (x * y) :: r, h)
    | _ => none) := rfl
theorem xs_idiv {ext : List xC} {d nx : Nat} {info : List Nat} {L st : List Value} {h : xH}  : xs ext d .idiv nx info L st h = (match st with
    | .int y :: .int x :: r => if y = 0 then none else some (nx, L, .int (x / y) :: r, h)
    | _ => none) := rfl
theorem xs_irem {ext : List xC} {d nx : Nat} {info : List Nat} {L st : List Value} {h : xH}  : xs ext d .irem nx info L st h = (match st with
    | .int y :: .int x :: r => if y = 0 then none else some (nx, L, .int (x - x / y * y) :: r, h)
    | _ => none) := rfl
theorem xs_iand {ext : List xC} {d nx : Nat} {info : List Nat} {L st : List Value} {h : xH}  : xs ext d .iand nx info L st h = (match st with
    | .int y :: .int x :: r => some (nx, L, .int (x &&& y) :: r, h)
    | _ => none) := rfl
theorem xs_ior {ext : List xC} {d nx : Nat} {info : List Nat} {L st : List Value} {h : xH}  : xs ext d .ior nx info L st h = (match st with
    | .int y :: .int x :: r => some (nx, L, .int (x ||| y) :: r, h)
    | _ => none) := rfl
theorem xs_ixor {ext : List xC} {d nx : Nat} {info : List Nat} {L st : List Value} {h : xH}  : xs ext d .ixor nx info L st h = (match st with
    | .int y :: .int x :: r => some (nx, L, .int (x ^^^ y) :: r, h)
    | _ => none) := rfl
theorem xs_ishl {ext : List xC} {d nx : Nat} {info : List Nat} {L st : List Value} {h : xH}  : xs ext d .ishl nx info L st h = (match st with
    | .int y :: .int x :: r => some (nx, L, .int (x <<< (y &&& 31)) :: r, h)
    | _ => none) := rfl
theorem xs_ishr {ext : List xC} {d nx : Nat} {info : List Nat} {L st : List Value} {h : xH}  : xs ext d .ishr nx info L st h = (match st with
    | .int y :: .int x :: r => some (nx, L, .int (x >>> (y &&& 31)) :: r, h)
    | _ => none) := rfl
theorem xs_ladd {ext : List xC} {d nx : Nat} {info : List Nat} {L st : List Value} {h : xH}  : xs ext d .ladd nx info L st h = (match st with
    | .long y :: .long x :: r => some (nx, L, .long (x + y) :: r, h)
    | _ => none) := rfl
theorem xs_lmul {ext : List xC} {d nx : Nat} {info : List Nat} {L st : List Value} {h : xH}  : xs ext d .lmul nx info L st h = (match st with
    | .long y :: .long x :: r => some (nx, L, .long (x * y) :: r, h)
    | _ => none) := rfl
theorem xs_ldiv {ext : List xC} {d nx : Nat} {info : List Nat} {L st : List Value} {h : xH}  : xs ext d .ldiv nx info L st h = (match st with
    | .long y :: .long x :: r => if y = 0 then none else some (nx, L, .long (x / y) :: r, h)
    | _ => none) := rfl
theorem xs_lrem {ext : List xC} {d nx : Nat} {info : List Nat} {L st : List Value} {h : xH}  : xs ext d .lrem nx info L st h = (match st with
    | .long y :: .long x :: r => if y = 0 then none else some (nx, L, .long (x - x / y * y) :: r, h)
    | _ => none) := rfl
theorem xs_lcmp {ext : List xC} {d nx : Nat} {info : List Nat} {L st : List Value} {h : xH}  : xs ext d .lcmp nx info L st h = (match st with
    | .long y :: .long x :: r => some (nx, L, .int (lg_cmp x y) :: r, h)
    | _ => none) := rfl
theorem xs_i2l {ext : List xC} {d nx : Nat} {info : List Nat} {L st : List Value} {h : xH}  : xs ext d .i2l nx info L st h = (match st with
    | .int x :: r => some (nx, L, .long x.toInt64 :: r, h)
    | _ => none) := rfl
theorem xs_i2b {ext : List xC} {d nx : Nat} {info : List Nat} {L st : List Value} {h : xH}  : xs ext d .i2b nx info L st h = (match st with
    | .int x :: r => some (nx, L, .int x.toInt8.toInt32 :: r, h)
    | _ => none) := rfl
theorem xs_i2c {ext : List xC} {d nx : Nat} {info : List Nat} {L st : List Value} {h : xH}  : xs ext d .i2c nx info L st h = (match st with
    | .int x :: r => some (nx, L, .int (x.toUInt32 % 65536).toInt32 :: r, h)
    | _ => none) := rfl
theorem xs_dup {ext : List xC} {d nx : Nat} {info : List Nat} {L st : List Value} {h : xH}  : xs ext d .dup nx info L st h = (match st with
    | .int x :: r => some (nx, L, .int x :: .int x :: r, h)
    | .ref a :: r => some (nx, L, .ref a :: .ref a :: r, h)
    | _ => none) := rfl
theorem xs_dup2 {ext : List xC} {d nx : Nat} {info : List Nat} {L st : List Value} {h : xH}  : xs ext d .dup2 nx info L st h = (match st with
    | .int x :: .ref a :: r => some (nx, L, .int x :: .ref a :: .int x :: .ref a :: r, h)
    | _ => none) := rfl
theorem xs_pop {ext : List xC} {d nx : Nat} {info : List Nat} {L st : List Value} {h : xH}  : xs ext d .pop nx info L st h = (match st with
    | .int _ :: r => some (nx, L, r, h)
    | _ => none) := rfl
theorem xs_goto {ext : List xC} {d nx : Nat} {info : List Nat} {L st : List Value} {h : xH} {o : Int} : xs ext d (.goto o) nx info L st h = (match info with
    | [t] => some (t, L, st, h)
    | _ => none) := rfl
theorem xs_if_icmp {ext : List xC} {d nx : Nat} {info : List Nat} {L st : List Value} {h : xH} {cd : Jvm.ClassFile.Cond} {o : Int} : xs ext d (.if_icmp cd o) nx info L st h = (match info, st with
    | [t], .int y :: .int x :: r => some (cond (xcmp cd x y) t nx, L, r, h)
    | _, _ => none) := rfl
theorem xs_ifCond {ext : List xC} {d nx : Nat} {info : List Nat} {L st : List Value} {h : xH} {cd : Jvm.ClassFile.Cond} {o : Int} : xs ext d (.ifCond cd o) nx info L st h = (match info, st with
    | [t], .int x :: r => some (cond (xcmp cd x 0) t nx, L, r, h)
    | _, _ => none) := rfl
theorem xs_ifnonnull {ext : List xC} {d nx : Nat} {info : List Nat} {L st : List Value} {h : xH} {o : Int} : xs ext d (.ifnonnull o) nx info L st h = (match info, st with
    | [t], .ref _ :: r => some (t, L, r, h)
    | [_], .null :: r => some (nx, L, r, h)
    | _, _ => none) := rfl
theorem xs_tableswitch {ext : List xC} {d nx : Nat} {info : List Nat} {L st : List Value} {h : xH} {dt lo hi : Int} {os : Array Int} : xs ext d (.tableswitch dt lo hi os) nx info L st h = (match info, st with
    | dt :: ts, .int x :: r => if x.toInt < lo ∨ hi < x.toInt then some (dt, L, r, h) else (ts[(x.toInt - lo).toNat]?).bind fun t => some (t, L, r, h)
    | _, _ => none) := rfl
theorem xs_lookupswitch {ext : List xC} {d nx : Nat} {info : List Nat} {L st : List Value} {h : xH} {dt : Int} {prs : Array (Int × Int)} : xs ext d (.lookupswitch dt prs) nx info L st h = (match info, st with
    | dt :: ts, .int x :: r => some (xlook ts x dt, L, r, h)
    | _, _ => none) := rfl
theorem xs_getfield {ext : List xC} {d nx : Nat} {info : List Nat} {L st : List Value} {h : xH} {idx : Nat} : xs ext d (.getfield idx) nx info L st h = (match info, st with
    | [ci, k], v :: r => (xget ext h v).bind fun c => cond (Nat.beq c.1 ci) ((c.2[k]?).bind fun w => some (nx, L, w :: r, h)) none
    | _, _ => none) := rfl
theorem xs_putfield {ext : List xC} {d nx : Nat} {info : List Nat} {L st : List Value} {h : xH} {idx : Nat} : xs ext d (.putfield idx) nx info L st h = (match info, st with
    | [ci, k], v :: .ref a :: r => (h[a]?).bind fun c => cond (Nat.beq c.1 ci && (Nat.blt k c.2.length && xfit (xfty ci k) v)) (some (nx, L, r, h.set a (c.1, c.2.set k v))) none
    | _, _ => none) := rfl
theorem xs_iaload {ext : List xC} {d nx : Nat} {info : List Nat} {L st : List Value} {h : xH}  : xs ext d .iaload nx info L st h = (match st with
    | .int i :: v :: r => (xget ext h v).bind fun c => cond (Nat.beq c.1 20) ((xix i c.2).bind fun w => some (nx, L, w :: r, h)) none
    | _ => none) := rfl
theorem xs_baload {ext : List xC} {d nx : Nat} {info : List Nat} {L st : List Value} {h : xH}  : xs ext d .baload nx info L st h = (match st with
    | .int i :: v :: r => (xget ext h v).bind fun c => cond (Nat.beq c.1 21 || Nat.beq c.1 22) ((xix i c.2).bind fun w => some (nx, L, w :: r, h)) none
    | _ => none) := rfl
theorem xs_aaload {ext : List xC} {d nx : Nat} {info : List Nat} {L st : List Value} {h : xH}  : xs ext d .aaload nx info L st h = (match st with
    | .int i :: .ref a :: r => (h[a]?).bind fun c => cond (Nat.blt 22 c.1 && Nat.blt c.1 27) ((xix i c.2).bind fun w => some (nx, L, w :: r, h)) none
    | _ => none) := rfl
theorem xs_iastore {ext : List xC} {d nx : Nat} {info : List Nat} {L st : List Value} {h : xH}  : xs ext d .iastore nx info L st h = (match st with
    | .int x :: .int i :: .ref a :: r => (h[a]?).bind fun c => cond (Nat.beq c.1 20) ((xix i c.2).bind fun _ => some (nx, L, r, h.set a (c.1, c.2.set i.toNatClampNeg (.int x)))) none
    | _ => none) := rfl
theorem xs_bastore {ext : List xC} {d nx : Nat} {info : List Nat} {L st : List Value} {h : xH}  : xs ext d .bastore nx info L st h = (match st with
    | .int x :: .int i :: .ref a :: r => (h[a]?).bind fun c => cond ((Nat.beq c.1 21 || Nat.beq c.1 22) && xfit (xaty c.1) (.int x)) ((xix i c.2).bind fun _ => some (nx, L, r, h.set a (c.1, c.2.set i.toNatClampNeg (.int x)))) none
    | _ => none) := rfl
theorem xs_aastore {ext : List xC} {d nx : Nat} {info : List Nat} {L st : List Value} {h : xH}  : xs ext d .aastore nx info L st h = (match st with
    | .ref v :: .int i :: .ref a :: r => (h[a]?).bind fun c => (h[v]?).bind fun cv => cond (xasg c.1 cv.1) ((xix i c.2).bind fun _ => some (nx, L, r, h.set a (c.1, c.2.set i.toNatClampNeg (.ref v)))) none
    | _ => none) := rfl
theorem xs_arraylength {ext : List xC} {d nx : Nat} {info : List Nat} {L st : List Value} {h : xH}  : xs ext d .arraylength nx info L st h = (match st with
    | v :: r => (xget ext h v).bind fun c => cond (Nat.blt 19 c.1) (some (nx, L, .int (Int32.ofNat c.2.length) :: r, h)) none
    | _ => none) := rfl
theorem xs_new {ext : List xC} {d nx : Nat} {info : List Nat} {L st : List Value} {h : xH} {idx : Nat} : xs ext d (.new idx) nx info L st h = (match info with
    | [ci] => (xadd h (ci, (List.range (xnf ci)).map fun k => defaultValue (xfty ci k))).bind fun h' => some (nx, L, .ref h.length :: st, h')
    | _ => none) := rfl
theorem xs_newarray {ext : List xC} {d nx : Nat} {info : List Nat} {L st : List Value} {h : xH} {at9 : ArrayType} : xs ext d (.newarray at9) nx info L st h = (match info, st with
    | [t], .int n :: r => if n < 0 then none else (xadd h (t, List.replicate n.toNatClampNeg (.int 0))).bind fun h' => some (nx, L, .ref h.length :: r, h')
    | _, _ => none) := rfl
theorem xs_anewarray {ext : List xC} {d nx : Nat} {info : List Nat} {L st : List Value} {h : xH} {idx : Nat} : xs ext d (.anewarray idx) nx info L st h = (match info, st with
    | [t], .int n :: r => if n < 0 then none else (xadd h (t, List.replicate n.toNatClampNeg .null)).bind fun h' => some (nx, L, .ref h.length :: r, h')
    | _, _ => none) := rfl
theorem xs_multianewarray {ext : List xC} {d nx : Nat} {info : List Nat} {L st : List Value} {h : xH} {idx dm : Nat} : xs ext d (.multianewarray idx dm) nx info L st h = (match st with
    | .int k :: .int n :: r => if n < 0 ∨ k < 0 ∨ 1100 < n.toNatClampNeg ∨ 1100 < k.toNatClampNeg ∨ 5000 < h.length + n.toNatClampNeg then none else
      some (nx, L, .ref h.length :: r, h ++ ((26, (List.range n.toNatClampNeg).map fun i => .ref (h.length + 1 + i)) :: List.replicate n.toNatClampNeg (20, List.replicate k.toNatClampNeg (.int 0))))
    | _ => none) := rfl
theorem xs_getstatic {ext : List xC} {d nx : Nat} {info : List Nat} {L st : List Value} {h : xH} {idx : Nat} : xs ext d (.getstatic idx) nx info L st h = (match info with
    | [0] => some (nx, L, .int 1 :: st, h)
    | [1] => some (nx, L, .retAddr 9 :: st, h)
    | _ => none) := rfl
theorem xs_invokestatic {ext : List xC} {d nx : Nat} {info : List Nat} {L st : List Value} {h : xH} {idx : Nat} : xs ext d (.invokestatic idx) nx info L st h = (match info, st with
    | [99], .int n :: .int dp :: .ref b :: .int sp :: .ref a :: r => (h[a]?).bind fun ca => (h[b]?).bind fun cb =>
      if d = 0 ∨ 8 < xcat r ∨ sp < 0 ∨ dp < 0 ∨ n < 0 ∨ ca.1 ≠ 20 ∨ cb.1 ≠ 20 ∨ ca.2.length < sp.toNatClampNeg + n.toNatClampNeg ∨ cb.2.length < dp.toNatClampNeg + n.toNatClampNeg ∨ ca.2.all (xfit .int) = false then none
      else some (nx, L, r, h.set b (cb.1, xcopy ca.2 cb.2 sp.toNatClampNeg dp.toNatClampNeg n.toNatClampNeg))
    | _, _ => none) := rfl
theorem xs_invokespecial {ext : List xC} {d nx : Nat} {info : List Nat} {L st : List Value} {h : xH} {idx : Nat} : xs ext d (.invokespecial idx) nx info L st h = (match info, st with
    | [98], .ref _ :: r => if d = 0 ∨ 8 < xcat r then none else some (nx, L, r, h)
    | _, _ => none) := rfl
section XST
variable {p : Program} {l : Launch} {e : Env} {R : Room} {s : State} {m : MethodId} {args : Array Value} {below : List Frame} {meth : Method} {c : Code} {Q : State → Prop}
variable {B0 : Heap} {ev : Nat → Value} {ext : List xC} {D : va_G} {cA : Nat → ClassId} {mi n0 : Nat}
theorem xS_iconst {pc d nx : Nat} {info ps : List Nat} {L st : List Value} {h : xH} {w : Nat × List Value × List Value × xH} {n : Int} (C : XC p s m meth c B0 ev ext D cA mi) (hq : xchk (xmt mi) (pc, (.iconst n), nx, info) ps = true) (hs : xs ext d (.iconst n) nx info L st h = some w)
    (hr : w.2.2.2.length - n0 ≤ R.cells ∧ 1100 * (w.2.2.2.length - n0) ≤ R.slots) (hn : n0 ≤ h.length) (hdp : d ≤ R.frames ∧ 35 * d ≤ R.locals) (kk : xG p l e R s m args below meth c B0 ev D cA n0 Q w.1 w.2.1 w.2.2.1 w.2.2.2) : xG p l e R s m args below meth c B0 ev D cA n0 Q pc L st h := by
  obtain ⟨hx, hb, hml, hown, hnm, hF, hz0, hs0, hev⟩ := id C
  obtain ⟨hd, rfl, hck⟩ := xchk_len 1 hq (fun n9 h9 => Nat.eq_of_beq_eq_true h9)
  rw [xs_iconst] at hs
  obtain rfl := xyes hs
  intro H locs ls hR hlo hl hz9
  exact lv_iconst hx hb hd rfl (kk H locs ls hR hlo hl hz9)
theorem xS_bipush {pc d nx : Nat} {info ps : List Nat} {L st : List Value} {h : xH} {w : Nat × List Value × List Value × xH} {n : Int} (C : XC p s m meth c B0 ev ext D cA mi) (hq : xchk (xmt mi) (pc, (.bipush n), nx, info) ps = true) (hs : xs ext d (.bipush n) nx info L st h = some w)
    (hr : w.2.2.2.length - n0 ≤ R.cells ∧ 1100 * (w.2.2.2.length - n0) ≤ R.slots) (hn : n0 ≤ h.length) (hdp : d ≤ R.frames ∧ 35 * d ≤ R.locals) (kk : xG p l e R s m args below meth c B0 ev D cA n0 Q w.1 w.2.1 w.2.2.1 w.2.2.2) : xG p l e R s m args below meth c B0 ev D cA n0 Q pc L st h := by
  obtain ⟨hx, hb, hml, hown, hnm, hF, hz0, hs0, hev⟩ := id C
  obtain ⟨hd, rfl, hck⟩ := xchk_len 2 hq (fun n9 h9 => Nat.eq_of_beq_eq_true h9)
  rw [xs_bipush] at hs
  obtain rfl := xyes hs
  intro H locs ls hR hlo hl hz9
  exact lv_bipush hx hb hd rfl (kk H locs ls hR hlo hl hz9)
theorem xS_sipush {pc d nx : Nat} {info ps : List Nat} {L st : List Value} {h : xH} {w : Nat × List Value × List Value × xH} {n : Int} (C : XC p s m meth c B0 ev ext D cA mi) (hq : xchk (xmt mi) (pc, (.sipush n), nx, info) ps = true) (hs : xs ext d (.sipush n) nx info L st h = some w)
    (hr : w.2.2.2.length - n0 ≤ R.cells ∧ 1100 * (w.2.2.2.length - n0) ≤ R.slots) (hn : n0 ≤ h.length) (hdp : d ≤ R.frames ∧ 35 * d ≤ R.locals) (kk : xG p l e R s m args below meth c B0 ev D cA n0 Q w.1 w.2.1 w.2.2.1 w.2.2.2) : xG p l e R s m args below meth c B0 ev D cA n0 Q pc L st h := by
  obtain ⟨hx, hb, hml, hown, hnm, hF, hz0, hs0, hev⟩ := id C
  obtain ⟨hd, rfl, hck⟩ := xchk_len 3 hq (fun n9 h9 => Nat.eq_of_beq_eq_true h9)
  rw [xs_sipush] at hs
  obtain rfl := xyes hs
  intro H locs ls hR hlo hl hz9
  exact lv_sipush hx hb hd rfl (kk H locs ls hR hlo hl hz9)
theorem xS_lconst {pc d nx : Nat} {info ps : List Nat} {L st : List Value} {h : xH} {w : Nat × List Value × List Value × xH} {n : Fin 2} (C : XC p s m meth c B0 ev ext D cA mi) (hq : xchk (xmt mi) (pc, (.lconst n), nx, info) ps = true) (hs : xs ext d (.lconst n) nx info L st h = some w)
    (hr : w.2.2.2.length - n0 ≤ R.cells ∧ 1100 * (w.2.2.2.length - n0) ≤ R.slots) (hn : n0 ≤ h.length) (hdp : d ≤ R.frames ∧ 35 * d ≤ R.locals) (kk : xG p l e R s m args below meth c B0 ev D cA n0 Q w.1 w.2.1 w.2.2.1 w.2.2.2) : xG p l e R s m args below meth c B0 ev D cA n0 Q pc L st h := by
  obtain ⟨hx, hb, hml, hown, hnm, hF, hz0, hs0, hev⟩ := id C
  obtain ⟨hd, rfl, hck⟩ := xchk_len 1 hq (fun n9 h9 => Nat.eq_of_beq_eq_true h9)
  rw [xs_lconst] at hs
  obtain rfl := xyes hs
  intro H locs ls hR hlo hl hz9
  exact lv_lconst hx hb hd rfl (kk H locs ls hR hlo hl hz9)
theorem xS_ldc {pc d nx : Nat} {info ps : List Nat} {L st : List Value} {h : xH} {w : Nat × List Value × List Value × xH} {idx : Nat} (C : XC p s m meth c B0 ev ext D cA mi) (hq : xchk (xmt mi) (pc, (.ldc idx), nx, info) ps = true) (hs : xs ext d (.ldc idx) nx info L st h = some w)
    (hr : w.2.2.2.length - n0 ≤ R.cells ∧ 1100 * (w.2.2.2.length - n0) ≤ R.slots) (hn : n0 ≤ h.length) (hdp : d ≤ R.frames ∧ 35 * d ≤ R.locals) (kk : xG p l e R s m args below meth c B0 ev D cA n0 Q w.1 w.2.1 w.2.2.1 w.2.2.2) : xG p l e R s m args below meth c B0 ev D cA n0 Q pc L st h := by
  obtain ⟨hx, hb, hml, hown, hnm, hF, hz0, hs0, hev⟩ := id C
  obtain ⟨hd, rfl, hck⟩ := xchk_len 2 hq (fun n9 h9 => Nat.eq_of_beq_eq_true h9)
  rw [xs_ldc] at hs
  split at hs
  · obtain rfl := xyes hs
    intro H locs ls hR hlo hl hz9
    exact lv_ldc hx hb hown (hF.w (xwI_mem hck) rfl args) hd (kk H locs ls hR hlo hl hz9)
  · rename_i j
    obtain rfl := xyes hs
    have hck' : (decide (j < 5) && xwI ps 0 (.stringRef (xmt mi).1.1.cls idx (xstrT.getD j ""))) = true := hck
    rw [Bool.and_eq_true] at hck'
    have hj0 : 0 < j := by
      rcases Nat.eq_zero_or_pos j with e | e
      · subst e
        exact absurd hck'.2 (xstr0 _ _ _)
      · exact e
    obtain ⟨a, ha, hZ⟩ := hF.2.2.2.2.2.2 j hj0 (of_decide_eq_true hck'.1) _ _ (xwI_mem hck'.2)
    intro H locs ls hR hlo hl hz9
    refine va_ldcS hx hb hown hZ hd ?_
    have := kk H locs ls hR hlo hl hz9
    rw [show List.map (xv B0.size ev) (Value.retAddr j :: st) = Value.ref a :: st.map (xv B0.size ev) by rw [List.map_cons]; exact congrArg (· :: _) ha] at this
    exact this
  · exact xno hs
theorem xS_ldc_w {pc d nx : Nat} {info ps : List Nat} {L st : List Value} {h : xH} {w : Nat × List Value × List Value × xH} {idx : Nat} (C : XC p s m meth c B0 ev ext D cA mi) (hq : xchk (xmt mi) (pc, (.ldc_w idx), nx, info) ps = true) (hs : xs ext d (.ldc_w idx) nx info L st h = some w)
    (hr : w.2.2.2.length - n0 ≤ R.cells ∧ 1100 * (w.2.2.2.length - n0) ≤ R.slots) (hn : n0 ≤ h.length) (hdp : d ≤ R.frames ∧ 35 * d ≤ R.locals) (kk : xG p l e R s m args below meth c B0 ev D cA n0 Q w.1 w.2.1 w.2.2.1 w.2.2.2) : xG p l e R s m args below meth c B0 ev D cA n0 Q pc L st h := by
  obtain ⟨hx, hb, hml, hown, hnm, hF, hz0, hs0, hev⟩ := id C
  obtain ⟨hd, rfl, hck⟩ := xchk_len 3 hq (fun n9 h9 => Nat.eq_of_beq_eq_true h9)
  rw [xs_ldc_w] at hs
  split at hs
  · obtain rfl := xyes hs
    intro H locs ls hR hlo hl hz9
    exact lv_ldcw hx hb hown (hF.w (xwI_mem hck) rfl args) hd (kk H locs ls hR hlo hl hz9)
  · exact xno hs
theorem xS_ldc2_w {pc d nx : Nat} {info ps : List Nat} {L st : List Value} {h : xH} {w : Nat × List Value × List Value × xH} {idx : Nat} (C : XC p s m meth c B0 ev ext D cA mi) (hq : xchk (xmt mi) (pc, (.ldc2_w idx), nx, info) ps = true) (hs : xs ext d (.ldc2_w idx) nx info L st h = some w)
    (hr : w.2.2.2.length - n0 ≤ R.cells ∧ 1100 * (w.2.2.2.length - n0) ≤ R.slots) (hn : n0 ≤ h.length) (hdp : d ≤ R.frames ∧ 35 * d ≤ R.locals) (kk : xG p l e R s m args below meth c B0 ev D cA n0 Q w.1 w.2.1 w.2.2.1 w.2.2.2) : xG p l e R s m args below meth c B0 ev D cA n0 Q pc L st h := by
  obtain ⟨hx, hb, hml, hown, hnm, hF, hz0, hs0, hev⟩ := id C
  obtain ⟨hd, rfl, hck⟩ := xchk_len 3 hq (fun n9 h9 => Nat.eq_of_beq_eq_true h9)
  rw [xs_ldc2_w] at hs
  split at hs
  · obtain rfl := xyes hs
    intro H locs ls hR hlo hl hz9
    exact lv_ldc2 hx hb hown (hF.w (xwI_mem hck) rfl args) hd (kk H locs ls hR hlo hl hz9)
  · exact xno hs
theorem xS_iload_n {pc d nx : Nat} {info ps : List Nat} {L st : List Value} {h : xH} {w : Nat × List Value × List Value × xH} {k : Fin 4} (C : XC p s m meth c B0 ev ext D cA mi) (hq : xchk (xmt mi) (pc, (.iload_n k), nx, info) ps = true) (hs : xs ext d (.iload_n k) nx info L st h = some w)
    (hr : w.2.2.2.length - n0 ≤ R.cells ∧ 1100 * (w.2.2.2.length - n0) ≤ R.slots) (hn : n0 ≤ h.length) (hdp : d ≤ R.frames ∧ 35 * d ≤ R.locals) (kk : xG p l e R s m args below meth c B0 ev D cA n0 Q w.1 w.2.1 w.2.2.1 w.2.2.2) : xG p l e R s m args below meth c B0 ev D cA n0 Q pc L st h := by
  obtain ⟨hx, hb, hml, hown, hnm, hF, hz0, hs0, hev⟩ := id C
  obtain ⟨hd, rfl, hck⟩ := xchk_len 1 hq (fun n9 h9 => Nat.eq_of_beq_eq_true h9)
  rw [xs_iload_n] at hs
  split at hs
  · rename_i v hv
    obtain rfl := xyes hs
    intro H locs ls hR hlo hl hz9
    exact lv_iload_n hx hb hd rfl (hl.2.2 _ _ hv (by intro q; cases q)) (kk H locs ls hR hlo hl hz9)
  · exact xno hs
theorem xS_iload {pc d nx : Nat} {info ps : List Nat} {L st : List Value} {h : xH} {w : Nat × List Value × List Value × xH} {k : Nat} (C : XC p s m meth c B0 ev ext D cA mi) (hq : xchk (xmt mi) (pc, (.iload k), nx, info) ps = true) (hs : xs ext d (.iload k) nx info L st h = some w)
    (hr : w.2.2.2.length - n0 ≤ R.cells ∧ 1100 * (w.2.2.2.length - n0) ≤ R.slots) (hn : n0 ≤ h.length) (hdp : d ≤ R.frames ∧ 35 * d ≤ R.locals) (kk : xG p l e R s m args below meth c B0 ev D cA n0 Q w.1 w.2.1 w.2.2.1 w.2.2.2) : xG p l e R s m args below meth c B0 ev D cA n0 Q pc L st h := by
  obtain ⟨hx, hb, hml, hown, hnm, hF, hz0, hs0, hev⟩ := id C
  obtain ⟨hd, rfl, hck⟩ := xchk_len 2 hq (fun n9 h9 => Nat.eq_of_beq_eq_true h9)
  rw [xs_iload] at hs
  split at hs
  · rename_i v hv
    obtain rfl := xyes hs
    intro H locs ls hR hlo hl hz9
    exact lv_iload hx hb hd (hl.2.2 _ _ hv (by intro q; cases q)) (kk H locs ls hR hlo hl hz9)
  · exact xno hs
theorem xS_lload_n {pc d nx : Nat} {info ps : List Nat} {L st : List Value} {h : xH} {w : Nat × List Value × List Value × xH} {k : Fin 4} (C : XC p s m meth c B0 ev ext D cA mi) (hq : xchk (xmt mi) (pc, (.lload_n k), nx, info) ps = true) (hs : xs ext d (.lload_n k) nx info L st h = some w)
    (hr : w.2.2.2.length - n0 ≤ R.cells ∧ 1100 * (w.2.2.2.length - n0) ≤ R.slots) (hn : n0 ≤ h.length) (hdp : d ≤ R.frames ∧ 35 * d ≤ R.locals) (kk : xG p l e R s m args below meth c B0 ev D cA n0 Q w.1 w.2.1 w.2.2.1 w.2.2.2) : xG p l e R s m args below meth c B0 ev D cA n0 Q pc L st h := by
  obtain ⟨hx, hb, hml, hown, hnm, hF, hz0, hs0, hev⟩ := id C
  obtain ⟨hd, rfl, hck⟩ := xchk_len 1 hq (fun n9 h9 => Nat.eq_of_beq_eq_true h9)
  rw [xs_lload_n] at hs
  split at hs
  · rename_i v hv
    obtain rfl := xyes hs
    intro H locs ls hR hlo hl hz9
    exact lv_lload_n hx hb hd rfl (hl.2.2 _ _ hv (by intro q; cases q)) (kk H locs ls hR hlo hl hz9)
  · exact xno hs
theorem xS_lload {pc d nx : Nat} {info ps : List Nat} {L st : List Value} {h : xH} {w : Nat × List Value × List Value × xH} {k : Nat} (C : XC p s m meth c B0 ev ext D cA mi) (hq : xchk (xmt mi) (pc, (.lload k), nx, info) ps = true) (hs : xs ext d (.lload k) nx info L st h = some w)
    (hr : w.2.2.2.length - n0 ≤ R.cells ∧ 1100 * (w.2.2.2.length - n0) ≤ R.slots) (hn : n0 ≤ h.length) (hdp : d ≤ R.frames ∧ 35 * d ≤ R.locals) (kk : xG p l e R s m args below meth c B0 ev D cA n0 Q w.1 w.2.1 w.2.2.1 w.2.2.2) : xG p l e R s m args below meth c B0 ev D cA n0 Q pc L st h := by
  obtain ⟨hx, hb, hml, hown, hnm, hF, hz0, hs0, hev⟩ := id C
  obtain ⟨hd, rfl, hck⟩ := xchk_len 2 hq (fun n9 h9 => Nat.eq_of_beq_eq_true h9)
  rw [xs_lload] at hs
  split at hs
  · rename_i v hv
    obtain rfl := xyes hs
    intro H locs ls hR hlo hl hz9
    exact lv_lload hx hb hd (hl.2.2 _ _ hv (by intro q; cases q)) (kk H locs ls hR hlo hl hz9)
  · exact xno hs
theorem xS_aload {pc d nx : Nat} {info ps : List Nat} {L st : List Value} {h : xH} {w : Nat × List Value × List Value × xH} {k : Nat} (C : XC p s m meth c B0 ev ext D cA mi) (hq : xchk (xmt mi) (pc, (.aload k), nx, info) ps = true) (hs : xs ext d (.aload k) nx info L st h = some w)
    (hr : w.2.2.2.length - n0 ≤ R.cells ∧ 1100 * (w.2.2.2.length - n0) ≤ R.slots) (hn : n0 ≤ h.length) (hdp : d ≤ R.frames ∧ 35 * d ≤ R.locals) (kk : xG p l e R s m args below meth c B0 ev D cA n0 Q w.1 w.2.1 w.2.2.1 w.2.2.2) : xG p l e R s m args below meth c B0 ev D cA n0 Q pc L st h := by
  obtain ⟨hx, hb, hml, hown, hnm, hF, hz0, hs0, hev⟩ := id C
  obtain ⟨hd, rfl, hck⟩ := xchk_len 2 hq (fun n9 h9 => Nat.eq_of_beq_eq_true h9)
  rw [xs_aload] at hs
  split at hs
  · rename_i v hv
    obtain rfl := xyes hs
    intro H locs ls hR hlo hl hz9
    exact lv_aload hx hb hd (hl.2.2 _ _ hv (by intro q; cases q)) (kk H locs ls hR hlo hl hz9)
  · exact xno hs
theorem xS_aload_n {pc d nx : Nat} {info ps : List Nat} {L st : List Value} {h : xH} {w : Nat × List Value × List Value × xH} {k : Fin 4} (C : XC p s m meth c B0 ev ext D cA mi) (hq : xchk (xmt mi) (pc, (.aload_n k), nx, info) ps = true) (hs : xs ext d (.aload_n k) nx info L st h = some w)
    (hr : w.2.2.2.length - n0 ≤ R.cells ∧ 1100 * (w.2.2.2.length - n0) ≤ R.slots) (hn : n0 ≤ h.length) (hdp : d ≤ R.frames ∧ 35 * d ≤ R.locals) (kk : xG p l e R s m args below meth c B0 ev D cA n0 Q w.1 w.2.1 w.2.2.1 w.2.2.2) : xG p l e R s m args below meth c B0 ev D cA n0 Q pc L st h := by
  obtain ⟨hx, hb, hml, hown, hnm, hF, hz0, hs0, hev⟩ := id C
  obtain ⟨hd, rfl, hck⟩ := xchk_len 1 hq (fun n9 h9 => Nat.eq_of_beq_eq_true h9)
  rw [xs_aload_n] at hs
  split at hs
  · rename_i v hv
    obtain rfl := xyes hs
    intro H locs ls hR hlo hl hz9
    exact lv_aload_n hx hb hd rfl (hl.2.2 _ _ hv (by intro q; cases q)) (kk H locs ls hR hlo hl hz9)
  · rename_i j hv
    obtain rfl := xyes hs
    intro H locs ls hR hlo hl hz9
    have h1 := hl.2.2 _ _ hv (by intro q; cases q)
    have h2 := kk H locs ls hR hlo hl hz9
    have e1 : xv B0.size ev (.retAddr j) = ev j := rfl
    rw [List.map_cons, e1] at h2
    rw [e1] at h1
    rcases hev j with e | ⟨a, e⟩
    · rw [e] at h1 h2
      exact lv_aload_nN hx hb hd rfl h1 h2
    · rw [e] at h1 h2
      exact lv_aload_n hx hb hd rfl h1 h2
  · exact xno hs
theorem xS_istore_n {pc d nx : Nat} {info ps : List Nat} {L st : List Value} {h : xH} {w : Nat × List Value × List Value × xH} {k : Fin 4} (C : XC p s m meth c B0 ev ext D cA mi) (hq : xchk (xmt mi) (pc, (.istore_n k), nx, info) ps = true) (hs : xs ext d (.istore_n k) nx info L st h = some w)
    (hr : w.2.2.2.length - n0 ≤ R.cells ∧ 1100 * (w.2.2.2.length - n0) ≤ R.slots) (hn : n0 ≤ h.length) (hdp : d ≤ R.frames ∧ 35 * d ≤ R.locals) (kk : xG p l e R s m args below meth c B0 ev D cA n0 Q w.1 w.2.1 w.2.2.1 w.2.2.2) : xG p l e R s m args below meth c B0 ev D cA n0 Q pc L st h := by
  obtain ⟨hx, hb, hml, hown, hnm, hF, hz0, hs0, hev⟩ := id C
  obtain ⟨hd, rfl, hck⟩ := xchk_len 1 hq (fun n9 h9 => Nat.eq_of_beq_eq_true h9)
  rw [xs_istore_n] at hs
  split at hs
  · obtain ⟨L', hL, hs⟩ := Option.bind_eq_some_iff.mp hs
    obtain rfl := xyes hs
    intro H locs ls hR hlo hl hz9
    exact lv_istore_n hx hb hd rfl hl.has (xst1_of hL).1 rfl (fun ls' hl' => kk H locs ls' hR hlo (xLs.st1 hev hL hl') (hl'.1.trans (hl.1.symm.trans hz9)))
  · exact xno hs
theorem xS_istore {pc d nx : Nat} {info ps : List Nat} {L st : List Value} {h : xH} {w : Nat × List Value × List Value × xH} {k : Nat} (C : XC p s m meth c B0 ev ext D cA mi) (hq : xchk (xmt mi) (pc, (.istore k), nx, info) ps = true) (hs : xs ext d (.istore k) nx info L st h = some w)
    (hr : w.2.2.2.length - n0 ≤ R.cells ∧ 1100 * (w.2.2.2.length - n0) ≤ R.slots) (hn : n0 ≤ h.length) (hdp : d ≤ R.frames ∧ 35 * d ≤ R.locals) (kk : xG p l e R s m args below meth c B0 ev D cA n0 Q w.1 w.2.1 w.2.2.1 w.2.2.2) : xG p l e R s m args below meth c B0 ev D cA n0 Q pc L st h := by
  obtain ⟨hx, hb, hml, hown, hnm, hF, hz0, hs0, hev⟩ := id C
  obtain ⟨hd, rfl, hck⟩ := xchk_len 2 hq (fun n9 h9 => Nat.eq_of_beq_eq_true h9)
  rw [xs_istore] at hs
  split at hs
  · obtain ⟨L', hL, hs⟩ := Option.bind_eq_some_iff.mp hs
    obtain rfl := xyes hs
    intro H locs ls hR hlo hl hz9
    exact lv_istore hx hb hd hl.has (xst1_of hL).1 rfl (fun ls' hl' => kk H locs ls' hR hlo (xLs.st1 hev hL hl') (hl'.1.trans (hl.1.symm.trans hz9)))
  · exact xno hs
theorem xS_lstore_n {pc d nx : Nat} {info ps : List Nat} {L st : List Value} {h : xH} {w : Nat × List Value × List Value × xH} {k : Fin 4} (C : XC p s m meth c B0 ev ext D cA mi) (hq : xchk (xmt mi) (pc, (.lstore_n k), nx, info) ps = true) (hs : xs ext d (.lstore_n k) nx info L st h = some w)
    (hr : w.2.2.2.length - n0 ≤ R.cells ∧ 1100 * (w.2.2.2.length - n0) ≤ R.slots) (hn : n0 ≤ h.length) (hdp : d ≤ R.frames ∧ 35 * d ≤ R.locals) (kk : xG p l e R s m args below meth c B0 ev D cA n0 Q w.1 w.2.1 w.2.2.1 w.2.2.2) : xG p l e R s m args below meth c B0 ev D cA n0 Q pc L st h := by
  obtain ⟨hx, hb, hml, hown, hnm, hF, hz0, hs0, hev⟩ := id C
  obtain ⟨hd, rfl, hck⟩ := xchk_len 1 hq (fun n9 h9 => Nat.eq_of_beq_eq_true h9)
  rw [xs_lstore_n] at hs
  split at hs
  · obtain ⟨L', hL, hs⟩ := Option.bind_eq_some_iff.mp hs
    obtain rfl := xyes hs
    intro H locs ls hR hlo hl hz9
    exact lv_lstore_n hx hb hd rfl hl.has (xst2_of hL).1 rfl (fun ls' hl' => kk H locs ls' hR hlo (xLs.st2 hev hL hl') (hl'.1.trans (hl.1.symm.trans hz9)))
  · exact xno hs
theorem xS_lstore {pc d nx : Nat} {info ps : List Nat} {L st : List Value} {h : xH} {w : Nat × List Value × List Value × xH} {k : Nat} (C : XC p s m meth c B0 ev ext D cA mi) (hq : xchk (xmt mi) (pc, (.lstore k), nx, info) ps = true) (hs : xs ext d (.lstore k) nx info L st h = some w)
    (hr : w.2.2.2.length - n0 ≤ R.cells ∧ 1100 * (w.2.2.2.length - n0) ≤ R.slots) (hn : n0 ≤ h.length) (hdp : d ≤ R.frames ∧ 35 * d ≤ R.locals) (kk : xG p l e R s m args below meth c B0 ev D cA n0 Q w.1 w.2.1 w.2.2.1 w.2.2.2) : xG p l e R s m args below meth c B0 ev D cA n0 Q pc L st h := by
  obtain ⟨hx, hb, hml, hown, hnm, hF, hz0, hs0, hev⟩ := id C
  obtain ⟨hd, rfl, hck⟩ := xchk_len 2 hq (fun n9 h9 => Nat.eq_of_beq_eq_true h9)
  rw [xs_lstore] at hs
  split at hs
  · obtain ⟨L', hL, hs⟩ := Option.bind_eq_some_iff.mp hs
    obtain rfl := xyes hs
    intro H locs ls hR hlo hl hz9
    exact lv_lstore hx hb hd hl.has (xst2_of hL).1 rfl (fun ls' hl' => kk H locs ls' hR hlo (xLs.st2 hev hL hl') (hl'.1.trans (hl.1.symm.trans hz9)))
  · exact xno hs
theorem xS_astore_n {pc d nx : Nat} {info ps : List Nat} {L st : List Value} {h : xH} {w : Nat × List Value × List Value × xH} {k : Fin 4} (C : XC p s m meth c B0 ev ext D cA mi) (hq : xchk (xmt mi) (pc, (.astore_n k), nx, info) ps = true) (hs : xs ext d (.astore_n k) nx info L st h = some w)
    (hr : w.2.2.2.length - n0 ≤ R.cells ∧ 1100 * (w.2.2.2.length - n0) ≤ R.slots) (hn : n0 ≤ h.length) (hdp : d ≤ R.frames ∧ 35 * d ≤ R.locals) (kk : xG p l e R s m args below meth c B0 ev D cA n0 Q w.1 w.2.1 w.2.2.1 w.2.2.2) : xG p l e R s m args below meth c B0 ev D cA n0 Q pc L st h := by
  obtain ⟨hx, hb, hml, hown, hnm, hF, hz0, hs0, hev⟩ := id C
  obtain ⟨hd, rfl, hck⟩ := xchk_len 1 hq (fun n9 h9 => Nat.eq_of_beq_eq_true h9)
  rw [xs_astore_n] at hs
  split at hs
  · obtain ⟨L', hL, hs⟩ := Option.bind_eq_some_iff.mp hs
    obtain rfl := xyes hs
    intro H locs ls hR hlo hl hz9
    exact lv_astore_n hx hb hd rfl hl.has (xst1_of hL).1 rfl (fun ls' hl' => kk H locs ls' hR hlo (xLs.st1 hev hL hl') (hl'.1.trans (hl.1.symm.trans hz9)))
  · exact xno hs
theorem xS_astore {pc d nx : Nat} {info ps : List Nat} {L st : List Value} {h : xH} {w : Nat × List Value × List Value × xH} {k : Nat} (C : XC p s m meth c B0 ev ext D cA mi) (hq : xchk (xmt mi) (pc, (.astore k), nx, info) ps = true) (hs : xs ext d (.astore k) nx info L st h = some w)
    (hr : w.2.2.2.length - n0 ≤ R.cells ∧ 1100 * (w.2.2.2.length - n0) ≤ R.slots) (hn : n0 ≤ h.length) (hdp : d ≤ R.frames ∧ 35 * d ≤ R.locals) (kk : xG p l e R s m args below meth c B0 ev D cA n0 Q w.1 w.2.1 w.2.2.1 w.2.2.2) : xG p l e R s m args below meth c B0 ev D cA n0 Q pc L st h := by
  obtain ⟨hx, hb, hml, hown, hnm, hF, hz0, hs0, hev⟩ := id C
  obtain ⟨hd, rfl, hck⟩ := xchk_len 2 hq (fun n9 h9 => Nat.eq_of_beq_eq_true h9)
  rw [xs_astore] at hs
  split at hs
  · obtain ⟨L', hL, hs⟩ := Option.bind_eq_some_iff.mp hs
    obtain rfl := xyes hs
    intro H locs ls hR hlo hl hz9
    exact lv_astore hx hb hd hl.has (xst1_of hL).1 rfl (fun ls' hl' => kk H locs ls' hR hlo (xLs.st1 hev hL hl') (hl'.1.trans (hl.1.symm.trans hz9)))
  · exact xno hs
theorem xS_iinc {pc d nx : Nat} {info ps : List Nat} {L st : List Value} {h : xH} {w : Nat × List Value × List Value × xH} {k : Nat} {n : Int} (C : XC p s m meth c B0 ev ext D cA mi) (hq : xchk (xmt mi) (pc, (.iinc k n), nx, info) ps = true) (hs : xs ext d (.iinc k n) nx info L st h = some w)
    (hr : w.2.2.2.length - n0 ≤ R.cells ∧ 1100 * (w.2.2.2.length - n0) ≤ R.slots) (hn : n0 ≤ h.length) (hdp : d ≤ R.frames ∧ 35 * d ≤ R.locals) (kk : xG p l e R s m args below meth c B0 ev D cA n0 Q w.1 w.2.1 w.2.2.1 w.2.2.2) : xG p l e R s m args below meth c B0 ev D cA n0 Q pc L st h := by
  obtain ⟨hx, hb, hml, hown, hnm, hF, hz0, hs0, hev⟩ := id C
  obtain ⟨hd, rfl, hck⟩ := xchk_len 3 hq (fun n9 h9 => Nat.eq_of_beq_eq_true h9)
  rw [xs_iinc] at hs
  split at hs
  · rename_i v hv
    obtain ⟨L', hL, hs⟩ := Option.bind_eq_some_iff.mp hs
    obtain rfl := xyes hs
    intro H locs ls hR hlo hl hz9
    obtain ⟨kx, hkx⟩ := List.mem_iff_getElem?.mp (xas_mem (b := B0.size) (ev := ev) hv (by intro q; cases q))
    exact lv_iinc hx hb hd hl.has hkx rfl (xst1_of hL).1 rfl (fun ls' hl' => kk H locs ls' hR hlo (xLs.st1 hev hL hl') (hl'.1.trans (hl.1.symm.trans hz9)))
  · exact xno hs
theorem xS_iadd {pc d nx : Nat} {info ps : List Nat} {L st : List Value} {h : xH} {w : Nat × List Value × List Value × xH}  (C : XC p s m meth c B0 ev ext D cA mi) (hq : xchk (xmt mi) (pc, .iadd, nx, info) ps = true) (hs : xs ext d .iadd nx info L st h = some w)
    (hr : w.2.2.2.length - n0 ≤ R.cells ∧ 1100 * (w.2.2.2.length - n0) ≤ R.slots) (hn : n0 ≤ h.length) (hdp : d ≤ R.frames ∧ 35 * d ≤ R.locals) (kk : xG p l e R s m args below meth c B0 ev D cA n0 Q w.1 w.2.1 w.2.2.1 w.2.2.2) : xG p l e R s m args below meth c B0 ev D cA n0 Q pc L st h := by
  obtain ⟨hx, hb, hml, hown, hnm, hF, hz0, hs0, hev⟩ := id C
  obtain ⟨hd, rfl, hck⟩ := xchk_len 1 hq (fun n9 h9 => Nat.eq_of_beq_eq_true h9)
  rw [xs_iadd] at hs
  split at hs
  · obtain rfl := xyes hs
    intro H locs ls hR hlo hl hz9
    exact lv_iadd hx hb hd (kk H locs ls hR hlo hl hz9)
  · exact xno hs
theorem xS_isub {pc d nx : Nat} {info ps : List Nat} {L st : List Value} {h : xH} {w : Nat × List Value × List Value × xH}  (C : XC p s m meth c B0 ev ext D cA mi) (hq : xchk (xmt mi) (pc, .isub, nx, info) ps = true) (hs : xs ext d .isub nx info L st h = some w)
    (hr : w.2.2.2.length - n0 ≤ R.cells ∧ 1100 * (w.2.2.2.length - n0) ≤ R.slots) (hn : n0 ≤ h.length) (hdp : d ≤ R.frames ∧ 35 * d ≤ R.locals) (kk : xG p l e R s m args below meth c B0 ev D cA n0 Q w.1 w.2.1 w.2.2.1 w.2.2.2) : xG p l e R s m args below meth c B0 ev D cA n0 Q pc L st h := by
  obtain ⟨hx, hb, hml, hown, hnm, hF, hz0, hs0, hev⟩ := id C
  obtain ⟨hd, rfl, hck⟩ := xchk_len 1 hq (fun n9 h9 => Nat.eq_of_beq_eq_true h9)
  rw [xs_isub] at hs
  split at hs
  · obtain rfl := xyes hs
    intro H locs ls hR hlo hl hz9
    exact lv_isub hx hb hd (kk H locs ls hR hlo hl hz9)
  · exact xno hs
theorem xS_imul {pc d nx : Nat} {info ps : List Nat} {L st : List Value} {h : xH} {w : Nat × List Value × List Value × xH}  (C : XC p s m meth c B0 ev ext D cA mi) (hq : xchk (xmt mi) (pc, .imul, nx, info) ps = true) (hs : xs ext d .imul nx info L st h = some w)
    (hr : w.2.2.2.length - n0 ≤ R.cells ∧ 1100 * (w.2.2.2.length - n0) ≤ R.slots) (hn : n0 ≤ h.length) (hdp : d ≤ R.frames ∧ 35 * d ≤ R.locals) (kk : xG p l e R s m args below meth c B0 ev D cA n0 Q w.1 w.2.1 w.2.2.1 w.2.2.2) : xG p l e R s m args below meth c B0 ev D cA n0 Q pc L st h := by
  obtain ⟨hx, hb, hml, hown, hnm, hF, hz0, hs0, hev⟩ := id C
  obtain ⟨hd, rfl, hck⟩ := xchk_len 1 hq (fun n9 h9 => Nat.eq_of_beq_eq_true h9)
  rw [xs_imul] at hs
  split at hs
  · obtain rfl := xyes hs
    intro H locs ls hR hlo hl hz9
    exact lv_imul hx hb hd (kk H locs ls hR hlo hl hz9)
  · exact xno hs
theorem xS_iand {pc d nx : Nat} {info ps : List Nat} {L st : List Value} {h : xH} {w : Nat × List Value × List Value × xH}  (C : XC p s m meth c B0 ev ext D cA mi) (hq : xchk (xmt mi) (pc, .iand, nx, info) ps = true) (hs : xs ext d .iand nx info L st h = some w)
    (hr : w.2.2.2.length - n0 ≤ R.cells ∧ 1100 * (w.2.2.2.length - n0) ≤ R.slots) (hn : n0 ≤ h.length) (hdp : d ≤ R.frames ∧ 35 * d ≤ R.locals) (kk : xG p l e R s m args below meth c B0 ev D cA n0 Q w.1 w.2.1 w.2.2.1 w.2.2.2) : xG p l e R s m args below meth c B0 ev D cA n0 Q pc L st h := by
  obtain ⟨hx, hb, hml, hown, hnm, hF, hz0, hs0, hev⟩ := id C
  obtain ⟨hd, rfl, hck⟩ := xchk_len 1 hq (fun n9 h9 => Nat.eq_of_beq_eq_true h9)
  rw [xs_iand] at hs
  split at hs
  · obtain rfl := xyes hs
    intro H locs ls hR hlo hl hz9
    exact lv_iand hx hb hd (kk H locs ls hR hlo hl hz9)
  · exact xno hs
theorem xS_ior {pc d nx : Nat} {info ps : List Nat} {L st : List Value} {h : xH} {w : Nat × List Value × List Value × xH}  (C : XC p s m meth c B0 ev ext D cA mi) (hq : xchk (xmt mi) (pc, .ior, nx, info) ps = true) (hs : xs ext d .ior nx info L st h = some w)
    (hr : w.2.2.2.length - n0 ≤ R.cells ∧ 1100 * (w.2.2.2.length - n0) ≤ R.slots) (hn : n0 ≤ h.length) (hdp : d ≤ R.frames ∧ 35 * d ≤ R.locals) (kk : xG p l e R s m args below meth c B0 ev D cA n0 Q w.1 w.2.1 w.2.2.1 w.2.2.2) : xG p l e R s m args below meth c B0 ev D cA n0 Q pc L st h := by
  obtain ⟨hx, hb, hml, hown, hnm, hF, hz0, hs0, hev⟩ := id C
  obtain ⟨hd, rfl, hck⟩ := xchk_len 1 hq (fun n9 h9 => Nat.eq_of_beq_eq_true h9)
  rw [xs_ior] at hs
  split at hs
  · obtain rfl := xyes hs
    intro H locs ls hR hlo hl hz9
    exact lv_ior hx hb hd (kk H locs ls hR hlo hl hz9)
  · exact xno hs
theorem xS_ixor {pc d nx : Nat} {info ps : List Nat} {L st : List Value} {h : xH} {w : Nat × List Value × List Value × xH}  (C : XC p s m meth c B0 ev ext D cA mi) (hq : xchk (xmt mi) (pc, .ixor, nx, info) ps = true) (hs : xs ext d .ixor nx info L st h = some w)
    (hr : w.2.2.2.length - n0 ≤ R.cells ∧ 1100 * (w.2.2.2.length - n0) ≤ R.slots) (hn : n0 ≤ h.length) (hdp : d ≤ R.frames ∧ 35 * d ≤ R.locals) (kk : xG p l e R s m args below meth c B0 ev D cA n0 Q w.1 w.2.1 w.2.2.1 w.2.2.2) : xG p l e R s m args below meth c B0 ev D cA n0 Q pc L st h := by
  obtain ⟨hx, hb, hml, hown, hnm, hF, hz0, hs0, hev⟩ := id C
  obtain ⟨hd, rfl, hck⟩ := xchk_len 1 hq (fun n9 h9 => Nat.eq_of_beq_eq_true h9)
  rw [xs_ixor] at hs
  split at hs
  · obtain rfl := xyes hs
    intro H locs ls hR hlo hl hz9
    exact lv_ixor hx hb hd (kk H locs ls hR hlo hl hz9)
  · exact xno hs
theorem xS_ishl {pc d nx : Nat} {info ps : List Nat} {L st : List Value} {h : xH} {w : Nat × List Value × List Value × xH}  (C : XC p s m meth c B0 ev ext D cA mi) (hq : xchk (xmt mi) (pc, .ishl, nx, info) ps = true) (hs : xs ext d .ishl nx info L st h = some w)
    (hr : w.2.2.2.length - n0 ≤ R.cells ∧ 1100 * (w.2.2.2.length - n0) ≤ R.slots) (hn : n0 ≤ h.length) (hdp : d ≤ R.frames ∧ 35 * d ≤ R.locals) (kk : xG p l e R s m args below meth c B0 ev D cA n0 Q w.1 w.2.1 w.2.2.1 w.2.2.2) : xG p l e R s m args below meth c B0 ev D cA n0 Q pc L st h := by
  obtain ⟨hx, hb, hml, hown, hnm, hF, hz0, hs0, hev⟩ := id C
  obtain ⟨hd, rfl, hck⟩ := xchk_len 1 hq (fun n9 h9 => Nat.eq_of_beq_eq_true h9)
  rw [xs_ishl] at hs
  split at hs
  · obtain rfl := xyes hs
    intro H locs ls hR hlo hl hz9
    exact lv_ishl hx hb hd (kk H locs ls hR hlo hl hz9)
  · exact xno hs
theorem xS_ishr {pc d nx : Nat} {info ps : List Nat} {L st : List Value} {h : xH} {w : Nat × List Value × List Value × xH}  (C : XC p s m meth c B0 ev ext D cA mi) (hq : xchk (xmt mi) (pc, .ishr, nx, info) ps = true) (hs : xs ext d .ishr nx info L st h = some w)
    (hr : w.2.2.2.length - n0 ≤ R.cells ∧ 1100 * (w.2.2.2.length - n0) ≤ R.slots) (hn : n0 ≤ h.length) (hdp : d ≤ R.frames ∧ 35 * d ≤ R.locals) (kk : xG p l e R s m args below meth c B0 ev D cA n0 Q w.1 w.2.1 w.2.2.1 w.2.2.2) : xG p l e R s m args below meth c B0 ev D cA n0 Q pc L st h := by
  obtain ⟨hx, hb, hml, hown, hnm, hF, hz0, hs0, hev⟩ := id C
  obtain ⟨hd, rfl, hck⟩ := xchk_len 1 hq (fun n9 h9 => Nat.eq_of_beq_eq_true h9)
  rw [xs_ishr] at hs
  split at hs
  · obtain rfl := xyes hs
    intro H locs ls hR hlo hl hz9
    exact lv_ishr hx hb hd (kk H locs ls hR hlo hl hz9)
  · exact xno hs
theorem xS_ladd {pc d nx : Nat} {info ps : List Nat} {L st : List Value} {h : xH} {w : Nat × List Value × List Value × xH}  (C : XC p s m meth c B0 ev ext D cA mi) (hq : xchk (xmt mi) (pc, .ladd, nx, info) ps = true) (hs : xs ext d .ladd nx info L st h = some w)
    (hr : w.2.2.2.length - n0 ≤ R.cells ∧ 1100 * (w.2.2.2.length - n0) ≤ R.slots) (hn : n0 ≤ h.length) (hdp : d ≤ R.frames ∧ 35 * d ≤ R.locals) (kk : xG p l e R s m args below meth c B0 ev D cA n0 Q w.1 w.2.1 w.2.2.1 w.2.2.2) : xG p l e R s m args below meth c B0 ev D cA n0 Q pc L st h := by
  obtain ⟨hx, hb, hml, hown, hnm, hF, hz0, hs0, hev⟩ := id C
  obtain ⟨hd, rfl, hck⟩ := xchk_len 1 hq (fun n9 h9 => Nat.eq_of_beq_eq_true h9)
  rw [xs_ladd] at hs
  split at hs
  · obtain rfl := xyes hs
    intro H locs ls hR hlo hl hz9
    exact lv_ladd hx hb hd (kk H locs ls hR hlo hl hz9)
  · exact xno hs
theorem xS_lmul {pc d nx : Nat} {info ps : List Nat} {L st : List Value} {h : xH} {w : Nat × List Value × List Value × xH}  (C : XC p s m meth c B0 ev ext D cA mi) (hq : xchk (xmt mi) (pc, .lmul, nx, info) ps = true) (hs : xs ext d .lmul nx info L st h = some w)
    (hr : w.2.2.2.length - n0 ≤ R.cells ∧ 1100 * (w.2.2.2.length - n0) ≤ R.slots) (hn : n0 ≤ h.length) (hdp : d ≤ R.frames ∧ 35 * d ≤ R.locals) (kk : xG p l e R s m args below meth c B0 ev D cA n0 Q w.1 w.2.1 w.2.2.1 w.2.2.2) : xG p l e R s m args below meth c B0 ev D cA n0 Q pc L st h := by
  obtain ⟨hx, hb, hml, hown, hnm, hF, hz0, hs0, hev⟩ := id C
  obtain ⟨hd, rfl, hck⟩ := xchk_len 1 hq (fun n9 h9 => Nat.eq_of_beq_eq_true h9)
  rw [xs_lmul] at hs
  split at hs
  · obtain rfl := xyes hs
    intro H locs ls hR hlo hl hz9
    exact lv_lmul hx hb hd (kk H locs ls hR hlo hl hz9)
  · exact xno hs
theorem xS_lcmp {pc d nx : Nat} {info ps : List Nat} {L st : List Value} {h : xH} {w : Nat × List Value × List Value × xH}  (C : XC p s m meth c B0 ev ext D cA mi) (hq : xchk (xmt mi) (pc, .lcmp, nx, info) ps = true) (hs : xs ext d .lcmp nx info L st h = some w)
    (hr : w.2.2.2.length - n0 ≤ R.cells ∧ 1100 * (w.2.2.2.length - n0) ≤ R.slots) (hn : n0 ≤ h.length) (hdp : d ≤ R.frames ∧ 35 * d ≤ R.locals) (kk : xG p l e R s m args below meth c B0 ev D cA n0 Q w.1 w.2.1 w.2.2.1 w.2.2.2) : xG p l e R s m args below meth c B0 ev D cA n0 Q pc L st h := by
  obtain ⟨hx, hb, hml, hown, hnm, hF, hz0, hs0, hev⟩ := id C
  obtain ⟨hd, rfl, hck⟩ := xchk_len 1 hq (fun n9 h9 => Nat.eq_of_beq_eq_true h9)
  rw [xs_lcmp] at hs
  split at hs
  · obtain rfl := xyes hs
    intro H locs ls hR hlo hl hz9
    exact W.lcmp hx hb hd (kk H locs ls hR hlo hl hz9)
  · exact xno hs
theorem xS_idiv {pc d nx : Nat} {info ps : List Nat} {L st : List Value} {h : xH} {w : Nat × List Value × List Value × xH}  (C : XC p s m meth c B0 ev ext D cA mi) (hq : xchk (xmt mi) (pc, .idiv, nx, info) ps = true) (hs : xs ext d .idiv nx info L st h = some w)
    (hr : w.2.2.2.length - n0 ≤ R.cells ∧ 1100 * (w.2.2.2.length - n0) ≤ R.slots) (hn : n0 ≤ h.length) (hdp : d ≤ R.frames ∧ 35 * d ≤ R.locals) (kk : xG p l e R s m args below meth c B0 ev D cA n0 Q w.1 w.2.1 w.2.2.1 w.2.2.2) : xG p l e R s m args below meth c B0 ev D cA n0 Q pc L st h := by
  obtain ⟨hx, hb, hml, hown, hnm, hF, hz0, hs0, hev⟩ := id C
  obtain ⟨hd, rfl, hck⟩ := xchk_len 1 hq (fun n9 h9 => Nat.eq_of_beq_eq_true h9)
  rw [xs_idiv] at hs
  split at hs
  · rename_i y x r
    by_cases hy : y = 0
    · rw [if_pos hy] at hs
      exact xno hs
    · rw [if_neg hy] at hs
      obtain rfl := xyes hs
      intro H locs ls hR hlo hl hz9
      exact lv_idiv hx hb hd hy (kk H locs ls hR hlo hl hz9)
  · exact xno hs
theorem xS_irem {pc d nx : Nat} {info ps : List Nat} {L st : List Value} {h : xH} {w : Nat × List Value × List Value × xH}  (C : XC p s m meth c B0 ev ext D cA mi) (hq : xchk (xmt mi) (pc, .irem, nx, info) ps = true) (hs : xs ext d .irem nx info L st h = some w)
    (hr : w.2.2.2.length - n0 ≤ R.cells ∧ 1100 * (w.2.2.2.length - n0) ≤ R.slots) (hn : n0 ≤ h.length) (hdp : d ≤ R.frames ∧ 35 * d ≤ R.locals) (kk : xG p l e R s m args below meth c B0 ev D cA n0 Q w.1 w.2.1 w.2.2.1 w.2.2.2) : xG p l e R s m args below meth c B0 ev D cA n0 Q pc L st h := by
  obtain ⟨hx, hb, hml, hown, hnm, hF, hz0, hs0, hev⟩ := id C
  obtain ⟨hd, rfl, hck⟩ := xchk_len 1 hq (fun n9 h9 => Nat.eq_of_beq_eq_true h9)
  rw [xs_irem] at hs
  split at hs
  · rename_i y x r
    by_cases hy : y = 0
    · rw [if_pos hy] at hs
      exact xno hs
    · rw [if_neg hy] at hs
      obtain rfl := xyes hs
      intro H locs ls hR hlo hl hz9
      exact lv_irem hx hb hd hy (kk H locs ls hR hlo hl hz9)
  · exact xno hs
theorem xS_ldiv {pc d nx : Nat} {info ps : List Nat} {L st : List Value} {h : xH} {w : Nat × List Value × List Value × xH}  (C : XC p s m meth c B0 ev ext D cA mi) (hq : xchk (xmt mi) (pc, .ldiv, nx, info) ps = true) (hs : xs ext d .ldiv nx info L st h = some w)
    (hr : w.2.2.2.length - n0 ≤ R.cells ∧ 1100 * (w.2.2.2.length - n0) ≤ R.slots) (hn : n0 ≤ h.length) (hdp : d ≤ R.frames ∧ 35 * d ≤ R.locals) (kk : xG p l e R s m args below meth c B0 ev D cA n0 Q w.1 w.2.1 w.2.2.1 w.2.2.2) : xG p l e R s m args below meth c B0 ev D cA n0 Q pc L st h := by
  obtain ⟨hx, hb, hml, hown, hnm, hF, hz0, hs0, hev⟩ := id C
  obtain ⟨hd, rfl, hck⟩ := xchk_len 1 hq (fun n9 h9 => Nat.eq_of_beq_eq_true h9)
  rw [xs_ldiv] at hs
  split at hs
  · rename_i y x r
    by_cases hy : y = 0
    · rw [if_pos hy] at hs
      exact xno hs
    · rw [if_neg hy] at hs
      obtain rfl := xyes hs
      intro H locs ls hR hlo hl hz9
      exact lv_ldiv hx hb hd hy (kk H locs ls hR hlo hl hz9)
  · exact xno hs
theorem xS_lrem {pc d nx : Nat} {info ps : List Nat} {L st : List Value} {h : xH} {w : Nat × List Value × List Value × xH}  (C : XC p s m meth c B0 ev ext D cA mi) (hq : xchk (xmt mi) (pc, .lrem, nx, info) ps = true) (hs : xs ext d .lrem nx info L st h = some w)
    (hr : w.2.2.2.length - n0 ≤ R.cells ∧ 1100 * (w.2.2.2.length - n0) ≤ R.slots) (hn : n0 ≤ h.length) (hdp : d ≤ R.frames ∧ 35 * d ≤ R.locals) (kk : xG p l e R s m args below meth c B0 ev D cA n0 Q w.1 w.2.1 w.2.2.1 w.2.2.2) : xG p l e R s m args below meth c B0 ev D cA n0 Q pc L st h := by
  obtain ⟨hx, hb, hml, hown, hnm, hF, hz0, hs0, hev⟩ := id C
  obtain ⟨hd, rfl, hck⟩ := xchk_len 1 hq (fun n9 h9 => Nat.eq_of_beq_eq_true h9)
  rw [xs_lrem] at hs
  split at hs
  · rename_i y x r
    by_cases hy : y = 0
    · rw [if_pos hy] at hs
      exact xno hs
    · rw [if_neg hy] at hs
      obtain rfl := xyes hs
      intro H locs ls hR hlo hl hz9
      exact lv_lrem hx hb hd hy (kk H locs ls hR hlo hl hz9)
  · exact xno hs
theorem xS_i2l {pc d nx : Nat} {info ps : List Nat} {L st : List Value} {h : xH} {w : Nat × List Value × List Value × xH}  (C : XC p s m meth c B0 ev ext D cA mi) (hq : xchk (xmt mi) (pc, .i2l, nx, info) ps = true) (hs : xs ext d .i2l nx info L st h = some w)
    (hr : w.2.2.2.length - n0 ≤ R.cells ∧ 1100 * (w.2.2.2.length - n0) ≤ R.slots) (hn : n0 ≤ h.length) (hdp : d ≤ R.frames ∧ 35 * d ≤ R.locals) (kk : xG p l e R s m args below meth c B0 ev D cA n0 Q w.1 w.2.1 w.2.2.1 w.2.2.2) : xG p l e R s m args below meth c B0 ev D cA n0 Q pc L st h := by
  obtain ⟨hx, hb, hml, hown, hnm, hF, hz0, hs0, hev⟩ := id C
  obtain ⟨hd, rfl, hck⟩ := xchk_len 1 hq (fun n9 h9 => Nat.eq_of_beq_eq_true h9)
  rw [xs_i2l] at hs
  split at hs
  · obtain rfl := xyes hs
    intro H locs ls hR hlo hl hz9
    exact lv_i2l hx hb hd rfl (kk H locs ls hR hlo hl hz9)
  · exact xno hs
theorem xS_i2b {pc d nx : Nat} {info ps : List Nat} {L st : List Value} {h : xH} {w : Nat × List Value × List Value × xH}  (C : XC p s m meth c B0 ev ext D cA mi) (hq : xchk (xmt mi) (pc, .i2b, nx, info) ps = true) (hs : xs ext d .i2b nx info L st h = some w)
    (hr : w.2.2.2.length - n0 ≤ R.cells ∧ 1100 * (w.2.2.2.length - n0) ≤ R.slots) (hn : n0 ≤ h.length) (hdp : d ≤ R.frames ∧ 35 * d ≤ R.locals) (kk : xG p l e R s m args below meth c B0 ev D cA n0 Q w.1 w.2.1 w.2.2.1 w.2.2.2) : xG p l e R s m args below meth c B0 ev D cA n0 Q pc L st h := by
  obtain ⟨hx, hb, hml, hown, hnm, hF, hz0, hs0, hev⟩ := id C
  obtain ⟨hd, rfl, hck⟩ := xchk_len 1 hq (fun n9 h9 => Nat.eq_of_beq_eq_true h9)
  rw [xs_i2b] at hs
  split at hs
  · obtain rfl := xyes hs
    intro H locs ls hR hlo hl hz9
    exact lv_i2b hx hb hd rfl (kk H locs ls hR hlo hl hz9)
  · exact xno hs
theorem xS_i2c {pc d nx : Nat} {info ps : List Nat} {L st : List Value} {h : xH} {w : Nat × List Value × List Value × xH}  (C : XC p s m meth c B0 ev ext D cA mi) (hq : xchk (xmt mi) (pc, .i2c, nx, info) ps = true) (hs : xs ext d .i2c nx info L st h = some w)
    (hr : w.2.2.2.length - n0 ≤ R.cells ∧ 1100 * (w.2.2.2.length - n0) ≤ R.slots) (hn : n0 ≤ h.length) (hdp : d ≤ R.frames ∧ 35 * d ≤ R.locals) (kk : xG p l e R s m args below meth c B0 ev D cA n0 Q w.1 w.2.1 w.2.2.1 w.2.2.2) : xG p l e R s m args below meth c B0 ev D cA n0 Q pc L st h := by
  obtain ⟨hx, hb, hml, hown, hnm, hF, hz0, hs0, hev⟩ := id C
  obtain ⟨hd, rfl, hck⟩ := xchk_len 1 hq (fun n9 h9 => Nat.eq_of_beq_eq_true h9)
  rw [xs_i2c] at hs
  split at hs
  · obtain rfl := xyes hs
    intro H locs ls hR hlo hl hz9
    exact lv_i2c hx hb hd rfl (kk H locs ls hR hlo hl hz9)
  · exact xno hs
theorem xS_dup {pc d nx : Nat} {info ps : List Nat} {L st : List Value} {h : xH} {w : Nat × List Value × List Value × xH}  (C : XC p s m meth c B0 ev ext D cA mi) (hq : xchk (xmt mi) (pc, .dup, nx, info) ps = true) (hs : xs ext d .dup nx info L st h = some w)
    (hr : w.2.2.2.length - n0 ≤ R.cells ∧ 1100 * (w.2.2.2.length - n0) ≤ R.slots) (hn : n0 ≤ h.length) (hdp : d ≤ R.frames ∧ 35 * d ≤ R.locals) (kk : xG p l e R s m args below meth c B0 ev D cA n0 Q w.1 w.2.1 w.2.2.1 w.2.2.2) : xG p l e R s m args below meth c B0 ev D cA n0 Q pc L st h := by
  obtain ⟨hx, hb, hml, hown, hnm, hF, hz0, hs0, hev⟩ := id C
  obtain ⟨hd, rfl, hck⟩ := xchk_len 1 hq (fun n9 h9 => Nat.eq_of_beq_eq_true h9)
  rw [xs_dup] at hs
  split at hs
  · obtain rfl := xyes hs
    intro H locs ls hR hlo hl hz9
    exact lv_dup hx hb hd rfl (kk H locs ls hR hlo hl hz9)
  · obtain rfl := xyes hs
    intro H locs ls hR hlo hl hz9
    exact lv_dup hx hb hd rfl (kk H locs ls hR hlo hl hz9)
  · exact xno hs
theorem xS_dup2 {pc d nx : Nat} {info ps : List Nat} {L st : List Value} {h : xH} {w : Nat × List Value × List Value × xH}  (C : XC p s m meth c B0 ev ext D cA mi) (hq : xchk (xmt mi) (pc, .dup2, nx, info) ps = true) (hs : xs ext d .dup2 nx info L st h = some w)
    (hr : w.2.2.2.length - n0 ≤ R.cells ∧ 1100 * (w.2.2.2.length - n0) ≤ R.slots) (hn : n0 ≤ h.length) (hdp : d ≤ R.frames ∧ 35 * d ≤ R.locals) (kk : xG p l e R s m args below meth c B0 ev D cA n0 Q w.1 w.2.1 w.2.2.1 w.2.2.2) : xG p l e R s m args below meth c B0 ev D cA n0 Q pc L st h := by
  obtain ⟨hx, hb, hml, hown, hnm, hF, hz0, hs0, hev⟩ := id C
  obtain ⟨hd, rfl, hck⟩ := xchk_len 1 hq (fun n9 h9 => Nat.eq_of_beq_eq_true h9)
  rw [xs_dup2] at hs
  split at hs
  · obtain rfl := xyes hs
    intro H locs ls hR hlo hl hz9
    exact lv_dup2_11 hx hb hd rfl rfl (kk H locs ls hR hlo hl hz9)
  · exact xno hs
theorem xS_pop {pc d nx : Nat} {info ps : List Nat} {L st : List Value} {h : xH} {w : Nat × List Value × List Value × xH}  (C : XC p s m meth c B0 ev ext D cA mi) (hq : xchk (xmt mi) (pc, .pop, nx, info) ps = true) (hs : xs ext d .pop nx info L st h = some w)
    (hr : w.2.2.2.length - n0 ≤ R.cells ∧ 1100 * (w.2.2.2.length - n0) ≤ R.slots) (hn : n0 ≤ h.length) (hdp : d ≤ R.frames ∧ 35 * d ≤ R.locals) (kk : xG p l e R s m args below meth c B0 ev D cA n0 Q w.1 w.2.1 w.2.2.1 w.2.2.2) : xG p l e R s m args below meth c B0 ev D cA n0 Q pc L st h := by
  obtain ⟨hx, hb, hml, hown, hnm, hF, hz0, hs0, hev⟩ := id C
  obtain ⟨hd, rfl, hck⟩ := xchk_len 1 hq (fun n9 h9 => Nat.eq_of_beq_eq_true h9)
  rw [xs_pop] at hs
  split at hs
  · obtain rfl := xyes hs
    intro H locs ls hR hlo hl hz9
    exact lv_pop hx hb hd rfl (kk H locs ls hR hlo hl hz9)
  · exact xno hs
theorem xS_goto {pc d nx : Nat} {info ps : List Nat} {L st : List Value} {h : xH} {w : Nat × List Value × List Value × xH} {o : Int} (C : XC p s m meth c B0 ev ext D cA mi) (hq : xchk (xmt mi) (pc, (.goto o), nx, info) ps = true) (hs : xs ext d (.goto o) nx info L st h = some w)
    (hr : w.2.2.2.length - n0 ≤ R.cells ∧ 1100 * (w.2.2.2.length - n0) ≤ R.slots) (hn : n0 ≤ h.length) (hdp : d ≤ R.frames ∧ 35 * d ≤ R.locals) (kk : xG p l e R s m args below meth c B0 ev D cA n0 Q w.1 w.2.1 w.2.2.1 w.2.2.2) : xG p l e R s m args below meth c B0 ev D cA n0 Q pc L st h := by
  obtain ⟨hx, hb, hml, hown, hnm, hF, hz0, hs0, hev⟩ := id C
  obtain ⟨hd, rfl, hck⟩ := xchk_len 3 hq (fun n9 h9 => Nat.eq_of_beq_eq_true h9)
  rw [xs_goto] at hs
  split at hs
  · obtain rfl := xyes hs
    intro H locs ls hR hlo hl hz9
    exact lv_goto hx hb hd (of_decide_eq_true hck) (kk H locs ls hR hlo hl hz9)
  · exact xno hs
theorem xS_if_icmp {pc d nx : Nat} {info ps : List Nat} {L st : List Value} {h : xH} {w : Nat × List Value × List Value × xH} {cd : Jvm.ClassFile.Cond} {o : Int} (C : XC p s m meth c B0 ev ext D cA mi) (hq : xchk (xmt mi) (pc, (.if_icmp cd o), nx, info) ps = true) (hs : xs ext d (.if_icmp cd o) nx info L st h = some w)
    (hr : w.2.2.2.length - n0 ≤ R.cells ∧ 1100 * (w.2.2.2.length - n0) ≤ R.slots) (hn : n0 ≤ h.length) (hdp : d ≤ R.frames ∧ 35 * d ≤ R.locals) (kk : xG p l e R s m args below meth c B0 ev D cA n0 Q w.1 w.2.1 w.2.2.1 w.2.2.2) : xG p l e R s m args below meth c B0 ev D cA n0 Q pc L st h := by
  obtain ⟨hx, hb, hml, hown, hnm, hF, hz0, hs0, hev⟩ := id C
  obtain ⟨hd, rfl, hck⟩ := xchk_len 3 hq (fun n9 h9 => Nat.eq_of_beq_eq_true h9)
  rw [xs_if_icmp] at hs
  split at hs
  · rename_i t y x r
    obtain rfl := xyes hs
    have ht : (pc : Int) + o = (t : Int) := of_decide_eq_true hck
    have k1 : xcmp cd x y = true → xG p l e R s m args below meth c B0 ev D cA n0 Q t L r h := fun e9 => by
      have k2 := kk
      simp only [e9] at k2
      exact k2
    have k0 : xcmp cd x y = false → xG p l e R s m args below meth c B0 ev D cA n0 Q (pc + 3) L r h := fun e9 => by
      have k2 := kk
      simp only [e9] at k2
      exact k2
    intro H locs ls hR hlo hl hz9
    cases cd
    · exact lv_icmp_eq (tgt := t) hx hb hd ht (fun hc => k1 (by simp [xcmp, hc]) H locs ls hR hlo hl hz9) (fun hc => k0 (by simp [xcmp, hc]) H locs ls hR hlo hl hz9)
    · exact lv_icmp_ne (tgt := t) hx hb hd ht (fun hc => k1 (by simp [xcmp, hc]) H locs ls hR hlo hl hz9) (fun hc => k0 (by simp [xcmp, hc]) H locs ls hR hlo hl hz9)
    · exact lv_icmp_lt (tgt := t) hx hb hd ht (fun hc => k1 (by simp [xcmp, hc]) H locs ls hR hlo hl hz9) (fun hc => k0 (by simp [xcmp, hc]) H locs ls hR hlo hl hz9)
    · exact lv_icmp_ge (tgt := t) hx hb hd ht (fun hc => k1 (by simp [xcmp, hc]) H locs ls hR hlo hl hz9) (fun hc => k0 (by simp [xcmp, hc]) H locs ls hR hlo hl hz9)
    · exact lv_icmp_gt (tgt := t) hx hb hd ht (fun hc => k1 (by simp [xcmp, hc]) H locs ls hR hlo hl hz9) (fun hc => k0 (by simp [xcmp, hc]) H locs ls hR hlo hl hz9)
    · exact lv_icmp_le (tgt := t) hx hb hd ht (fun hc => k1 (by simp [xcmp, hc]) H locs ls hR hlo hl hz9) (fun hc => k0 (by simp [xcmp, hc]) H locs ls hR hlo hl hz9)
  · exact xno hs
theorem xS_ifCond {pc d nx : Nat} {info ps : List Nat} {L st : List Value} {h : xH} {w : Nat × List Value × List Value × xH} {cd : Jvm.ClassFile.Cond} {o : Int} (C : XC p s m meth c B0 ev ext D cA mi) (hq : xchk (xmt mi) (pc, (.ifCond cd o), nx, info) ps = true) (hs : xs ext d (.ifCond cd o) nx info L st h = some w)
    (hr : w.2.2.2.length - n0 ≤ R.cells ∧ 1100 * (w.2.2.2.length - n0) ≤ R.slots) (hn : n0 ≤ h.length) (hdp : d ≤ R.frames ∧ 35 * d ≤ R.locals) (kk : xG p l e R s m args below meth c B0 ev D cA n0 Q w.1 w.2.1 w.2.2.1 w.2.2.2) : xG p l e R s m args below meth c B0 ev D cA n0 Q pc L st h := by
  obtain ⟨hx, hb, hml, hown, hnm, hF, hz0, hs0, hev⟩ := id C
  obtain ⟨hd, rfl, hck⟩ := xchk_len 3 hq (fun n9 h9 => Nat.eq_of_beq_eq_true h9)
  rw [xs_ifCond] at hs
  split at hs
  · rename_i t x r
    obtain rfl := xyes hs
    have ht : (pc : Int) + o = (t : Int) := of_decide_eq_true hck
    have k1 : xcmp cd x 0 = true → xG p l e R s m args below meth c B0 ev D cA n0 Q t L r h := fun e9 => by
      have k2 := kk
      simp only [e9] at k2
      exact k2
    have k0 : xcmp cd x 0 = false → xG p l e R s m args below meth c B0 ev D cA n0 Q (pc + 3) L r h := fun e9 => by
      have k2 := kk
      simp only [e9] at k2
      exact k2
    intro H locs ls hR hlo hl hz9
    cases cd
    · exact lv_if_eq (tgt := t) hx hb hd ht (fun hc => k1 (by simp [xcmp, hc]) H locs ls hR hlo hl hz9) (fun hc => k0 (by simp [xcmp, hc]) H locs ls hR hlo hl hz9)
    · exact lv_if_ne (tgt := t) hx hb hd ht (fun hc => k1 (by simp [xcmp, hc]) H locs ls hR hlo hl hz9) (fun hc => k0 (by simp [xcmp, hc]) H locs ls hR hlo hl hz9)
    · exact lv_if_lt (tgt := t) hx hb hd ht (fun hc => k1 (by simp [xcmp, hc]) H locs ls hR hlo hl hz9) (fun hc => k0 (by simp [xcmp, hc]) H locs ls hR hlo hl hz9)
    · exact lv_if_ge (tgt := t) hx hb hd ht (fun hc => k1 (by simp [xcmp, hc]) H locs ls hR hlo hl hz9) (fun hc => k0 (by simp [xcmp, hc]) H locs ls hR hlo hl hz9)
    · exact lv_if_gt (tgt := t) hx hb hd ht (fun hc => k1 (by simp [xcmp, hc]) H locs ls hR hlo hl hz9) (fun hc => k0 (by simp [xcmp, hc]) H locs ls hR hlo hl hz9)
    · exact lv_if_le (tgt := t) hx hb hd ht (fun hc => k1 (by simp [xcmp, hc]) H locs ls hR hlo hl hz9) (fun hc => k0 (by simp [xcmp, hc]) H locs ls hR hlo hl hz9)
  · exact xno hs
theorem xS_ifnonnull {pc d nx : Nat} {info ps : List Nat} {L st : List Value} {h : xH} {w : Nat × List Value × List Value × xH} {o : Int} (C : XC p s m meth c B0 ev ext D cA mi) (hq : xchk (xmt mi) (pc, (.ifnonnull o), nx, info) ps = true) (hs : xs ext d (.ifnonnull o) nx info L st h = some w)
    (hr : w.2.2.2.length - n0 ≤ R.cells ∧ 1100 * (w.2.2.2.length - n0) ≤ R.slots) (hn : n0 ≤ h.length) (hdp : d ≤ R.frames ∧ 35 * d ≤ R.locals) (kk : xG p l e R s m args below meth c B0 ev D cA n0 Q w.1 w.2.1 w.2.2.1 w.2.2.2) : xG p l e R s m args below meth c B0 ev D cA n0 Q pc L st h := by
  obtain ⟨hx, hb, hml, hown, hnm, hF, hz0, hs0, hev⟩ := id C
  obtain ⟨hd, rfl, hck⟩ := xchk_len 3 hq (fun n9 h9 => Nat.eq_of_beq_eq_true h9)
  rw [xs_ifnonnull] at hs
  split at hs
  · obtain rfl := xyes hs
    intro H locs ls hR hlo hl hz9
    exact lv_ifnonnull hx hb hd (of_decide_eq_true hck) (kk H locs ls hR hlo hl hz9)
  · obtain rfl := xyes hs
    intro H locs ls hR hlo hl hz9
    exact lv_ifnonnullN hx hb hd (kk H locs ls hR hlo hl hz9)
  · exact xno hs
theorem xS_tableswitch {pc d nx : Nat} {info ps : List Nat} {L st : List Value} {h : xH} {w : Nat × List Value × List Value × xH} {dt lo hi : Int} {os : Array Int} (C : XC p s m meth c B0 ev ext D cA mi) (hq : xchk (xmt mi) (pc, (.tableswitch dt lo hi os), nx, info) ps = true) (hs : xs ext d (.tableswitch dt lo hi os) nx info L st h = some w)
    (hr : w.2.2.2.length - n0 ≤ R.cells ∧ 1100 * (w.2.2.2.length - n0) ≤ R.slots) (hn : n0 ≤ h.length) (hdp : d ≤ R.frames ∧ 35 * d ≤ R.locals) (kk : xG p l e R s m args below meth c B0 ev D cA n0 Q w.1 w.2.1 w.2.2.1 w.2.2.2) : xG p l e R s m args below meth c B0 ev D cA n0 Q pc L st h := by
  obtain ⟨hx, hb, hml, hown, hnm, hF, hz0, hs0, hev⟩ := id C
  obtain ⟨hd, hnx, hck⟩ := xchk_any hq
  rw [xs_tableswitch] at hs
  split at hs
  · rename_i t ts x r
    have hck' : (decide ((pc : Int) + dt = (t : Int)) && decide (os.toList.map (fun o => (pc : Int) + o) = ts.map Int.ofNat)) = true := hck
    rw [Bool.and_eq_true] at hck'
    by_cases hy : x.toInt < lo ∨ hi < x.toInt
    · rw [if_pos hy] at hs
      obtain rfl := xyes hs
      intro H locs ls hR hlo hl hz9
      exact lv_tableOut hx hb hd hy (of_decide_eq_true hck'.1) (kk H locs ls hR hlo hl hz9)
    · rw [if_neg hy] at hs
      obtain ⟨t2, h2, hs⟩ := Option.bind_eq_some_iff.mp hs
      obtain rfl := xyes hs
      have h3 : (os.toList.map (fun o => (pc : Int) + o))[(x.toInt - lo).toNat]? = some (Int.ofNat t2) := by rw [of_decide_eq_true hck'.2, List.getElem?_map, h2]; rfl
      rw [List.getElem?_map] at h3
      obtain ⟨off, h4, h5⟩ := Option.map_eq_some_iff.mp h3
      intro H locs ls hR hlo hl hz9
      exact lv_tableIn hx hb hd (fun q => hy (Or.inl q)) (fun q => hy (Or.inr q)) (by rw [← Array.getElem?_toList]; exact h4) h5 (kk H locs ls hR hlo hl hz9)
  · exact xno hs
theorem xS_lookupswitch {pc d nx : Nat} {info ps : List Nat} {L st : List Value} {h : xH} {w : Nat × List Value × List Value × xH} {dt : Int} {prs : Array (Int × Int)} (C : XC p s m meth c B0 ev ext D cA mi) (hq : xchk (xmt mi) (pc, (.lookupswitch dt prs), nx, info) ps = true) (hs : xs ext d (.lookupswitch dt prs) nx info L st h = some w)
    (hr : w.2.2.2.length - n0 ≤ R.cells ∧ 1100 * (w.2.2.2.length - n0) ≤ R.slots) (hn : n0 ≤ h.length) (hdp : d ≤ R.frames ∧ 35 * d ≤ R.locals) (kk : xG p l e R s m args below meth c B0 ev D cA n0 Q w.1 w.2.1 w.2.2.1 w.2.2.2) : xG p l e R s m args below meth c B0 ev D cA n0 Q pc L st h := by
  obtain ⟨hx, hb, hml, hown, hnm, hF, hz0, hs0, hev⟩ := id C
  obtain ⟨hd, hnx, hck⟩ := xchk_any hq
  rw [xs_lookupswitch] at hs
  split at hs
  · rename_i t ts x r
    have hck' : (decide ((pc : Int) + dt = (t : Int)) && (xlkI pc prs.toList ts && (prs.toList.zip (prs.toList.drop 1)).all (fun (a, next) => a.1 < next.1))) = true := hck
    rw [Bool.and_eq_true, Bool.and_eq_true] at hck'
    obtain rfl := xyes hs
    intro H locs ls hR hlo hl hz9
    exact lv_lookup hx hb hd hck'.2.2 rfl (xlk_of (of_decide_eq_true hck'.1) hck'.2.1 x) (kk H locs ls hR hlo hl hz9)
  · exact xno hs
end XST
end
section
/-! The small machine's instructions on cells are the machine's. -/
theorem xcond {α : Type} {b : Bool} {o : Option α} {w : α} (h : cond b o none = some w) : b = true ∧ o = some w := by
  cases b
  · exact xno h
  · exact ⟨rfl, h⟩
theorem xix_of {i : Int32} {vs : List Value} {w : Value} (h : xix i vs = some w) : ¬ i < 0 ∧ i.toNatClampNeg < vs.length ∧ vs[i.toNatClampNeg]? = some w := by
  unfold xix at h
  by_cases hi : i < 0
  · rw [if_pos hi] at h
    exact xno h
  · rw [if_neg hi] at h
    exact ⟨hi, (List.getElem?_eq_some_iff.mp h).1, h⟩
theorem xgetD {vs : List Value} {k : Nat} {w : Value} (h : vs[k]? = some w) : vs.getD k .null = w := by
  rw [List.getD_eq_getElem?_getD, h]
  rfl
theorem xcl_lt {ci : Nat} {r : vw_C} (h : xcl[ci]? = some r) : ci < 13 := (List.getElem?_eq_some_iff.mp h).1
theorem xat_ob {D : va_G} {cA : Nat → ClassId} {b : Nat} {ev : Nat → Value} {q : Nat} {c : xC} {H : Heap} (h : xat D cA b ev q c H) (hc : c.1 < 20) : ∃ r : vw_C, xcl[c.1]? = some r ∧ t_OB q (D.1 c.1) r.2.2 (D.2 c.1) H (fun k => xv b ev (c.2.getD k .null)) := by
  unfold xat at h
  rw [if_pos hc] at h
  exact h
theorem xat_ar {D : va_G} {cA : Nat → ClassId} {b : Nat} {ev : Nat → Value} {q : Nat} {c : xC} {H : Heap} (h : xat D cA b ev q c H) (hc : ¬ c.1 < 20) : H[q]? = some (arrV (cA c.1) c.2.length (fun j => xv b ev (c.2.getD j .null))) := by
  unfold xat at h
  rw [if_neg hc] at h
  exact h.2
theorem xnmty : ∀ (ci : Nat) (r : vw_C), xcl[ci]? = some r → (∀ a, a < r.2.2 → ∀ b, b < r.2.2 → a ≠ b → (r.2.1 a).2.1 ≠ (r.2.1 b).2.1) ∧ ∀ k, k < r.2.2 → parseFieldDescriptor (r.2.1 k).2.2.1 = some (xfty ci k) := by
  intro ci r h
  match ci, h with
  | 0, h => cases h; exact ⟨nmX0, tyX0_ok⟩
  | 1, h => cases h; exact ⟨nmX1, tyX1_ok⟩
  | 2, h => cases h; exact ⟨nmX2, tyX2_ok⟩
  | 3, h => cases h; exact ⟨nmX3, tyX3_ok⟩
  | 4, h => cases h; exact ⟨nmX4, tyX4_ok⟩
  | 5, h => cases h; exact ⟨nmX5, tyX5_ok⟩
  | 6, h => cases h; exact ⟨nmX6, tyX6_ok⟩
  | 7, h => cases h; exact ⟨nmX7, tyX7_ok⟩
  | 8, h => cases h; exact ⟨nmX8, tyX8_ok⟩
  | 9, h => cases h; exact ⟨nmX9, tyX9_ok⟩
  | 10, h => cases h; exact ⟨nmX10, tyX10_ok⟩
  | 11, h => cases h; exact ⟨nmX11, tyX11_ok⟩
  | 12, h => cases h; exact ⟨nmX12, tyX12_ok⟩
  | k + 13, h => cases h
theorem xv_upd {b : Nat} {ev : Nat → Value} {fs : List Value} {k : Nat} (hk : k < fs.length) (v : Value) (j : Nat) : updV (fun k => xv b ev (fs.getD k .null)) k (xv b ev v) j = xv b ev ((fs.set k v).getD j .null) := by
  unfold updV
  by_cases e : j = k
  · subst e
    rw [if_pos rfl, List.getD_eq_getElem?_getD, List.getElem?_set_self hk]
    rfl
  · rw [if_neg e]
    show xv b ev (fs.getD j .null) = _
    rw [List.getD_eq_getElem?_getD, List.getD_eq_getElem?_getD, List.getElem?_set_ne (fun q => e q.symm)]
theorem xtys_at (cA : Nat → ClassId) {t : Nat} (h1 : 19 < t) (h2 : t < 27) : (xtys cA)[t - 20]? = some (cA t, xaty t) := by
  have : t = 20 ∨ t = 21 ∨ t = 22 ∨ t = 23 ∨ t = 24 ∨ t = 25 ∨ t = 26 := by omega
  rcases this with rfl | rfl | rfl | rfl | rfl | rfl | rfl <;> rfl
theorem xfit_ok {ty : FieldType} {v : Value} {b : Nat} {ev : Nat → Value} (h : xfit ty v = true) : narrow ty (xv b ev v) = xv b ev v ∧ fits ty (xv b ev v) = true := by
  unfold xfit at h
  split at h
  · exact ⟨rfl, rfl⟩
  · exact ⟨rfl, rfl⟩
  · rw [Bool.and_eq_true] at h
    exact ⟨of_decide_eq_true h.1, h.2⟩
  · rw [Bool.and_eq_true] at h
    exact ⟨of_decide_eq_true h.1, h.2⟩
  · exact ⟨rfl, rfl⟩
  · exact ⟨rfl, rfl⟩
  · exact ⟨rfl, rfl⟩
  · exact ⟨rfl, rfl⟩
  · cases h
theorem xadd_of {h h' : xH} {c : xC} (e : xadd h c = some h') : h.length < 5000 ∧ c.2.length ≤ 1100 ∧ h' = h ++ [c] := by
  unfold xadd at e
  by_cases q : h.length < 5000 ∧ c.2.length ≤ 1100
  · rw [if_pos q] at e
    exact ⟨q.1, q.2, xyes e⟩
  · rw [if_neg q] at e
    exact xno e
theorem xcasts : ∀ c ∈ ["RentedViews$Bricks", "RentedViews$Fire", "RentedViews$Fogged", "RentedViews$Kitchen", "RentedViews$Street"], Jvm.Cond.castable c "RentedViews$Lake" ∈ lw_tbl := by decide +kernel
theorem xfield {B0 : Heap} {ev : Nat → Value} {ext : List xC} {D : va_G} {cA : Nat → ClassId} {s : State} {args : Array Value} (hF : XF B0 ev ext D cA s) {ci k : Nat} {r : vw_C} (hc : xcl[ci]? = some r) (hk : k < r.2.2) :
    ∃ (cf : Nat) (kf : Class) (fi : Nat) (f : Field) (kC : Class), s.fieldFound? (r.2.1 k).1 (r.2.1 k).2.1 (r.2.1 k).2.2.1 = some (cf, kf, fi, f) ∧ f.slot = D.2 ci k ∧ f.isStatic = false ∧ s.vm.findClass r.1 = some (D.1 ci) ∧ s.vm.classes[D.1 ci]? = some kC ∧ kC.kind = .ordinary ∧
      (∀ a b, a < r.2.2 → b < r.2.2 → a ≠ b → D.2 ci a ≠ D.2 ci b) ∧ (u_lay r.1 r.2.1 k).before args s = true := by
  have hm : r ∈ xcl := List.mem_of_getElem? hc
  have hts : ∀ w ∈ u_ws r.1 r.2.1 r.2.2, w.before args s = true := fun w hw => hF.w (xlays r hm w hw).1 (xlays r hm w hw).2 args
  have hin : ∀ w ∈ u_ws r.1 r.2.1 r.2.2, w ∈ u_ws r.1 r.2.1 r.2.2 := fun _ h => h
  obtain ⟨hS, hfc, kC, hkC, hkind⟩ := hF.2.1.1 ci r hc
  obtain ⟨cf, kf, fi, f, hi, hsl⟩ := hS k hk
  obtain ⟨hnm, hty⟩ := xnmty ci r hc
  exact ⟨cf, kf, fi, f, kC, hi, hsl, (u_facts hfc hkC (u_lays hts hin hk) hi).1, hfc, hkC, hkind, va_apart (own := r.1) hts hin (xfty ci) hty hnm hF.2.1 hc, hts _ (u_in_lay hk)⟩
theorem xarr {B0 : Heap} {ev : Nat → Value} {ext : List xC} {D : va_G} {cA : Nat → ClassId} {s : State} (hF : XF B0 ev ext D cA s) {h : xH} {H : Heap} (hR : xR D cA B0 ev h H) {v : Value} {c : xC} (hg : xget ext h v = some c) (h1 : 19 < c.1) (h2 : c.1 < 27) :
    ∃ (a : Nat) (cell : Cell), xv B0.size ev v = .ref a ∧ H[a]? = some cell ∧ s.isArrayOf cell (xaty c.1) ∧ cell.vm ≠ .unknown ∧ cell.slots.size.toInt32 = Int32.ofNat c.2.length ∧ c.2.length ≤ cell.slots.size ∧ (∀ (i : Nat) (w : Value), c.2[i]? = some w → cell.slots[i]? = some (xv B0.size ev w)) := by
  cases v with
  | ref a =>
    have hA := xat_ar (hR.2.2 a c hg) (by omega)
    refine ⟨B0.size + a, _, rfl, hA, (hF.2.1.2 _ _ (xtys_at cA h1 h2)).1 _ _, (fun q => by cases q), by rw [arrV_size], by rw [arrV_size]; exact Nat.le_refl _, fun i w hw => ?_⟩
    rw [arrV_read _ _ (List.getElem?_eq_some_iff.mp hw).1, xgetD hw]
  | retAddr j =>
    obtain ⟨a, cell, e1, e2, e3, e4⟩ := hF.2.2.2.1 j c.1 c.2 hg
    rw [if_neg (by omega)] at e4
    obtain ⟨g1, g2, g3, g4, g5, g6⟩ := e4
    exact ⟨a, cell, e1, by rw [hR.2.1 a e2]; exact e3, g2, g3, g5, g4, g6⟩
  | _ => exact xno hg
theorem xstore {B0 : Heap} {ev : Nat → Value} {D : va_G} {cA : Nat → ClassId} {h : xH} {H H' : Heap} (hR : xR D cA B0 ev h H) {a i : Nat} {c : xC} (hg : h[a]? = some c) (h1 : 19 < c.1) (hi : i < c.2.length) {v : Value}
    (e1 : H'[B0.size + a]? = some ((arrV (cA c.1) c.2.length (fun j => xv B0.size ev (c.2.getD j .null))).setSlot i (xv B0.size ev v))) (e2 : H'.size = H.size) (e3 : ∀ q : Nat, q ≠ B0.size + a → H'[q]? = H[q]?) : xR D cA B0 ev (h.set a (c.1, c.2.set i v)) H' := by
  refine hR.set hg e2 e3 ?_
  have h27 : c.1 < 27 := by
    have h9 := hR.2.2 a c hg
    unfold xat at h9
    rw [if_neg (by omega)] at h9
    exact h9.1
  unfold xat
  rw [if_neg (show ¬ c.1 < 20 by omega)]
  refine ⟨h27, ?_⟩
  rw [e1, arrV_store]
  have e9 : (c.2.set i v).length = c.2.length := List.length_set
  simp only [e9]
  refine congrArg (fun f => some (arrV (cA c.1) c.2.length f)) (funext fun j => ?_)
  exact xv_upd hi v j
theorem xlocs {B0 : Heap} {locs : List Loc} (hlo : ∀ q ∈ locs, B0.size ≤ q.base) (a i : Nat) : ∀ q ∈ locs ++ [⟨B0.size + a, i⟩], B0.size ≤ q.base := by
  intro q hq
  rcases List.mem_append.mp hq with h9 | h9
  · exact hlo q h9
  · rw [List.mem_singleton.mp h9]
    exact Nat.le_add_right _ _
theorem xlarge {B0 : Heap} {ev : Nat → Value} {ext : List xC} {D : va_G} {cA : Nat → ClassId} {s : State} (hF : XF B0 ev ext D cA s) {h : xH} {H : Heap} (hR : xR D cA B0 ev h H) {v : Value} {c : xC} (hg : xget ext h v = some c) (h1 : 19 < c.1) : c.1 < 27 := by
  cases v with
  | ref a =>
    have h9 := hR.2.2 a c hg
    unfold xat at h9
    rw [if_neg (by omega)] at h9
    exact h9.1
  | retAddr j =>
    obtain ⟨a, cell, e1, e2, e3, e4⟩ := hF.2.2.2.1 j c.1 c.2 hg
    rw [if_neg (by omega)] at e4
    omega
  | _ => exact xno hg
theorem xasg_of {t ci : Nat} (h : xasg t ci = true) : 22 < t ∧ t < 26 ∧ ci < 20 := by
  unfold xasg at h
  split at h
  · refine ⟨by omega, by omega, ?_⟩
    simp at h
    omega
  · refine ⟨by omega, by omega, ?_⟩
    simp at h
    omega
  · refine ⟨by omega, by omega, ?_⟩
    simp at h
    omega
  · cases h
theorem xasg_exact {B0 : Heap} {ev : Nat → Value} {ext : List xC} {D : va_G} {cA : Nat → ClassId} {s : State} (hF : XF B0 ev ext D cA s) {ci : Nat} {r : vw_C} (h8 : xcl[ci]? = some r) (comp : ClassId) (h : s.vm.findClass r.1 = some comp) :
    s.vm.assignable (D.1 ci) comp = true ∧ ∃ kc : Class, s.vm.classes[comp]? = some kc := by
  have hca := (hF.2.1.1 ci r h8).2
  cases hca.1.symm.trans h
  exact ⟨va_assign hca, hca.2.choose, hca.2.choose_spec.1⟩
theorem xasg_sub {B0 : Heap} {ev : Nat → Value} {ext : List xC} {D : va_G} {cA : Nat → ClassId} {s : State} (hF : XF B0 ev ext D cA s) {ci cj : Nat} {r q : vw_C} (h8 : xcl[ci]? = some r) (h7 : xcl[cj]? = some q) (hw : Jvm.Cond.castable r.1 q.1 ∈ lw_tbl) (comp : ClassId) (h : s.vm.findClass q.1 = some comp) :
    s.vm.assignable (D.1 ci) comp = true ∧ ∃ kc : Class, s.vm.classes[comp]? = some kc := by
  have hca := (hF.2.1.1 ci r h8).2
  have hcb := (hF.2.1.1 cj q h7).2
  cases hcb.1.symm.trans h
  exact ⟨vb_asgC (hF.1 _ hw rfl) _ _ h hca.1, hcb.2.choose, hcb.2.choose_spec.1⟩
theorem xassign {B0 : Heap} {ev : Nat → Value} {ext : List xC} {D : va_G} {cA : Nat → ClassId} {s : State} (hF : XF B0 ev ext D cA s) {t ci : Nat} (h : xasg t ci = true) {r : vw_C} (h8 : xcl[ci]? = some r) :
    ∃ E : String, xaty t = .object E ∧ ∀ comp : ClassId, s.vm.findClass E = some comp → s.vm.assignable (D.1 ci) comp = true ∧ ∃ kc : Class, s.vm.classes[comp]? = some kc := by
  unfold xasg at h
  split at h
  · refine ⟨_, rfl, fun comp hc => ?_⟩
    simp at h
    have h7 : xcl[7]? = some (RX7, TX7, 0) := rfl
    rcases h with ((((h | h) | h) | h) | h) | h <;> subst h <;> cases h8
    · exact xasg_sub hF (ci := 1) rfl h7 (xcasts _ (by decide)) comp hc
    · exact xasg_sub hF (ci := 3) rfl h7 (xcasts _ (by decide)) comp hc
    · exact xasg_sub hF (ci := 4) rfl h7 (xcasts _ (by decide)) comp hc
    · exact xasg_sub hF (ci := 6) rfl h7 (xcasts _ (by decide)) comp hc
    · exact xasg_exact hF (ci := 7) rfl comp hc
    · exact xasg_sub hF (ci := 10) rfl h7 (xcasts _ (by decide)) comp hc
  · refine ⟨_, rfl, fun comp hc => ?_⟩
    simp at h
    subst h
    cases h8
    exact xasg_exact hF (ci := 9) rfl comp hc
  · refine ⟨_, rfl, fun comp hc => ?_⟩
    simp at h
    subst h
    cases h8
    exact xasg_exact hF (ci := 0) rfl comp hc
  · cases h
section XST
variable {p : Program} {l : Launch} {e : Env} {R : Room} {s : State} {m : MethodId} {args : Array Value} {below : List Frame} {meth : Method} {c : Code} {Q : State → Prop}
variable {B0 : Heap} {ev : Nat → Value} {ext : List xC} {D : va_G} {cA : Nat → ClassId} {mi n0 : Nat}
theorem xS_getfield {pc d nx : Nat} {info ps : List Nat} {L st : List Value} {h : xH} {w : Nat × List Value × List Value × xH} {idx : Nat} (C : XC p s m meth c B0 ev ext D cA mi) (hq : xchk (xmt mi) (pc, (.getfield idx), nx, info) ps = true) (hs : xs ext d (.getfield idx) nx info L st h = some w)
    (hr : w.2.2.2.length - n0 ≤ R.cells ∧ 1100 * (w.2.2.2.length - n0) ≤ R.slots) (hn : n0 ≤ h.length) (hdp : d ≤ R.frames ∧ 35 * d ≤ R.locals) (kk : xG p l e R s m args below meth c B0 ev D cA n0 Q w.1 w.2.1 w.2.2.1 w.2.2.2) : xG p l e R s m args below meth c B0 ev D cA n0 Q pc L st h := by
  obtain ⟨hx, hb, hml, hown, hnm, hF, hz0, hs0, hev⟩ := id C
  obtain ⟨hd, rfl, hck⟩ := xchk_len 3 hq (fun n9 h9 => Nat.eq_of_beq_eq_true h9)
  rw [xs_getfield] at hs
  split at hs
  · rename_i ci k v r
    obtain ⟨c9, hg, hs⟩ := Option.bind_eq_some_iff.mp hs
    obtain ⟨hci, hs⟩ := xcond hs
    obtain ⟨w9, hw, hs⟩ := Option.bind_eq_some_iff.mp hs
    obtain rfl := xyes hs
    have hci : c9.1 = ci := Nat.eq_of_beq_eq_true hci
    subst hci
    intro H locs ls hR hlo hl hz9
    have kk := kk H locs ls hR hlo hl hz9
    by_cases h13 : c9.1 = 13
    · cases v with
      | retAddr j =>
        obtain ⟨a, cell, e1, e2, e3, e4⟩ := hF.2.2.2.1 j c9.1 c9.2 hg
        rw [if_pos h13] at e4
        obtain ⟨-, -, hlen, g0, g1⟩ := e4
        have e5 : List.map (xv B0.size ev) (Value.retAddr j :: r) = Value.ref a :: r.map (xv B0.size ev) := by rw [List.map_cons]; exact congrArg (· :: _) e1
        rw [e5]
        rcases k with _ | _ | k
        · have hck' : xwI ps 0 (.fieldLink (xmt mi).1.1.cls idx "java/lang/String" "value" "[B") = true := by
            have := hck
            unfold xchkI at this
            simp only [h13, if_true] at this
            exact this
          obtain ⟨cf, k1, i1, f, cell', q1, q2, q3, q4, q5, -⟩ := g0 w9 hw
          exact W.getf hx hb hown (hF.w (xwI_mem hck') rfl args) q1 q2 (by rw [hR.2.1 a e2]; exact q3) q4 q5 rfl rfl hd kk
        · have hck' : xwI ps 0 (.fieldLink (xmt mi).1.1.cls idx "java/lang/String" "coder" "B") = true := by
            have := hck
            unfold xchkI at this
            simp only [h13, if_true] at this
            exact this
          obtain ⟨cf, k1, i1, f, cell', q1, q2, q3, q4, q5, -⟩ := g1 w9 hw
          exact W.getf hx hb hown (hF.w (xwI_mem hck') rfl args) q1 q2 (by rw [hR.2.1 a e2]; exact q3) q4 q5 rfl rfl hd kk
        · have hck' : false = true := by
            have := hck
            unfold xchkI at this
            simp only [h13, if_true] at this
            exact this
          cases hck'
      | ref a =>
        obtain ⟨r9, h9, -⟩ := xat_ob (hR.2.2 a c9 hg) (by omega)
        have := xcl_lt h9
        omega
      | _ => exact xno hg
    · have hck' : (match xcl[c9.1]? with
          | some r9 => Nat.blt k r9.2.2 && xwI ps 0 (.fieldLink (xmt mi).1.1.cls idx (r9.2.1 k).1 (r9.2.1 k).2.1 (r9.2.1 k).2.2.1)
          | none => false) = true := by
        have := hck
        unfold xchkI at this
        simp only [h13, if_false] at this
        exact this
      split at hck'
      · rename_i r9 hr9
        rw [Bool.and_eq_true] at hck'
        have hk := Nat.blt_eq.mp hck'.1
        obtain ⟨cf, kf, fi, f, kC, hi, hsl, hst, -⟩ := xfield (args := args) hF hr9 hk
        cases v with
        | ref a =>
          obtain ⟨r8, h8, cell, q1, q2, q3, q4⟩ := xat_ob (hR.2.2 a c9 hg) (by have := xcl_lt hr9; omega)
          cases hr9.symm.trans h8
          refine W.getf hx hb hown (hF.w (xwI_mem hck'.2) rfl args) hi hst q1 (by rw [q3]; exact fun h => by cases h) (v := xv B0.size ev w9) ?_ rfl rfl hd kk
          rw [hsl, q4 k hk]
          show some (xv B0.size ev (c9.2.getD k .null)) = _
          rw [xgetD hw]
        | retAddr j =>
          obtain ⟨a, cell, -, -, -, e4⟩ := hF.2.2.2.1 j c9.1 c9.2 hg
          rw [if_neg h13] at e4
          have := xcl_lt hr9
          omega
        | _ => exact xno hg
      · cases hck'
  · exact xno hs
theorem xS_putfield {pc d nx : Nat} {info ps : List Nat} {L st : List Value} {h : xH} {w : Nat × List Value × List Value × xH} {idx : Nat} (C : XC p s m meth c B0 ev ext D cA mi) (hq : xchk (xmt mi) (pc, (.putfield idx), nx, info) ps = true) (hs : xs ext d (.putfield idx) nx info L st h = some w)
    (hr : w.2.2.2.length - n0 ≤ R.cells ∧ 1100 * (w.2.2.2.length - n0) ≤ R.slots) (hn : n0 ≤ h.length) (hdp : d ≤ R.frames ∧ 35 * d ≤ R.locals) (kk : xG p l e R s m args below meth c B0 ev D cA n0 Q w.1 w.2.1 w.2.2.1 w.2.2.2) : xG p l e R s m args below meth c B0 ev D cA n0 Q pc L st h := by
  obtain ⟨hx, hb, hml, hown, hnm, hF, hz0, hs0, hev⟩ := id C
  obtain ⟨hd, rfl, hck⟩ := xchk_len 3 hq (fun n9 h9 => Nat.eq_of_beq_eq_true h9)
  rw [xs_putfield] at hs
  split at hs
  · rename_i ci k v a r
    obtain ⟨c9, hg, hs⟩ := Option.bind_eq_some_iff.mp hs
    obtain ⟨hci, hs⟩ := xcond hs
    obtain rfl := xyes hs
    rw [Bool.and_eq_true, Bool.and_eq_true] at hci
    obtain ⟨hci, hkl, hft⟩ := hci
    have hci : c9.1 = ci := Nat.eq_of_beq_eq_true hci
    subst hci
    have hkl := Nat.blt_eq.mp hkl
    have hck' : (match xcl[c9.1]? with
      | some r9 => Nat.blt k r9.2.2 && (xwI ps 0 (.fieldLink (xmt mi).1.1.cls idx (r9.2.1 k).1 (r9.2.1 k).2.1 (r9.2.1 k).2.2.1) && (decide (parseFieldDescriptor (r9.2.1 k).2.2.1 = some (xfty c9.1 k)) && (!(r9.2.1 k).2.2.2 || decide ((xmt mi).1.1.name = "<init>" ∧ (r9.2.1 k).1 = (xmt mi).1.1.cls))))
      | none => false) = true := hck
    split at hck'
    · rename_i r9 hr9
      rw [Bool.and_eq_true, Bool.and_eq_true, Bool.and_eq_true] at hck'
      obtain ⟨hk, hlk, hpd, hfin⟩ := hck'
      have hk := Nat.blt_eq.mp hk
      have hpd := of_decide_eq_true hpd
      obtain ⟨cf, kf, fi, f, kC, hi, hsl, hst, hfc, hkC, hkind, hap, hlay⟩ := xfield (args := args) hF hr9 hk
      obtain ⟨hn1, hn2⟩ := xfit_ok (b := B0.size) (ev := ev) hft
      intro H locs ls hR hlo hl hz9
      obtain ⟨r8, h8, cell, q1, q2, q3, q4⟩ := xat_ob (hR.2.2 a c9 hg) (by have := xcl_lt hr9; omega)
      cases hr9.symm.trans h8
      have fin : ∀ H' : Heap, H'[B0.size + a]? = some (cell.setSlot f.slot (xv B0.size ev v)) → H'.size = H.size → (∀ q, q ≠ B0.size + a → H'[q]? = H[q]?) →
          W p l e R s m args below meth c H' (locs ++ [⟨B0.size + a, f.slot⟩]) (h.length - n0) (1100 * (h.length - n0)) Q (F0 m (pc + 3) ls (r.map (xv B0.size ev))) := by
        intro H' e1 e2 e3
        have k9 := kk H' (locs ++ [⟨B0.size + a, f.slot⟩]) ls (hR.set hg e2 e3 ?_) ?_ hl hz9
        · have e9 : (h.set a (c9.1, c9.2.set k v)).length = h.length := List.length_set
          simp only [e9] at k9
          exact k9
        · unfold xat
          rw [if_pos (show c9.1 < 20 by have := xcl_lt hr9; omega)]
          rw [hsl] at e1
          exact ⟨r9, hr9, t_OB.to (V := updV (fun k => xv B0.size ev (c9.2.getD k .null)) k (xv B0.size ev v)) ⟨_, e1, q2, q3, t_set q4 hap hk _⟩ (fun j _ => xv_upd hkl v j)⟩
        · intro q hq
          rcases List.mem_append.mp hq with h9 | h9
          · exact hlo q h9
          · rw [List.mem_singleton.mp h9]
            exact Nat.le_add_right _ _
      by_cases hfl : (r9.2.1 k).2.2.2 = true
      · rw [hfl] at hfin
        have hfin : (xmt mi).1.1.name = "<init>" ∧ (r9.2.1 k).1 = (xmt mi).1.1.cls := of_decide_eq_true hfin
        have hlay2 : (Jvm.Cond.laysFinal r9.1 (r9.2.1 k).1 (r9.2.1 k).2.1 (r9.2.1 k).2.2.1).before args s = true := by
          unfold u_lay at hlay
          rw [if_pos hfl] at hlay
          exact hlay
        have hcf : m.cls = cf := by
          obtain ⟨_, _, c', _, _, _, -, -, hf', -, -, -, hown2, -⟩ := Cond.laysFinal_spec hlay2
          have e1 : c' = cf := by have := hi.symm.trans hf'; simp at this; exact this.1.symm
          rw [hfin.2] at hown2
          rw [← e1]
          exact Option.some.inj (hown.symm.trans hown2)
        have h6 := u_fits hfc hkC hkind (Or.inr hlay2) hi hpd hn1 hn2
        exact W.putFinK hx hb hown (hF.w (xwI_mem hlk) rfl args) hi hst hcf (hnm hfin.1) (by rw [q2]; exact h6) q1 q3 (by rw [hsl]; exact k2_hasslot (q4 k hk)) rfl rfl hd fin
      · have hlay2 : (Jvm.Cond.lays r9.1 (r9.2.1 k).1 (r9.2.1 k).2.1 (r9.2.1 k).2.2.1).before args s = true := by
          unfold u_lay at hlay
          rw [if_neg hfl] at hlay
          exact hlay
        have h6 := u_store hfc hkC hkind hlay2 hi hpd hn1 hn2
        exact W.putK hx hb (f := f) ⟨hown, hF.w (xwI_mem hlk) rfl args, ⟨_, _, _, hi⟩, hst⟩ (by rw [q2]; exact h6) q1 q3 (by rw [hsl]; exact k2_hasslot (q4 k hk)) rfl rfl hd fin
    · cases hck'
  · exact xno hs
theorem xS_iaload {pc d nx : Nat} {info ps : List Nat} {L st : List Value} {h : xH} {w : Nat × List Value × List Value × xH}  (C : XC p s m meth c B0 ev ext D cA mi) (hq : xchk (xmt mi) (pc, .iaload, nx, info) ps = true) (hs : xs ext d .iaload nx info L st h = some w)
    (hr : w.2.2.2.length - n0 ≤ R.cells ∧ 1100 * (w.2.2.2.length - n0) ≤ R.slots) (hn : n0 ≤ h.length) (hdp : d ≤ R.frames ∧ 35 * d ≤ R.locals) (kk : xG p l e R s m args below meth c B0 ev D cA n0 Q w.1 w.2.1 w.2.2.1 w.2.2.2) : xG p l e R s m args below meth c B0 ev D cA n0 Q pc L st h := by
  obtain ⟨hx, hb, hml, hown, hnm, hF, hz0, hs0, hev⟩ := id C
  obtain ⟨hd, rfl, hck⟩ := xchk_len 1 hq (fun n9 h9 => Nat.eq_of_beq_eq_true h9)
  rw [xs_iaload] at hs
  split at hs
  · rename_i i v r
    obtain ⟨c9, hg, hs⟩ := Option.bind_eq_some_iff.mp hs
    obtain ⟨hci, hs⟩ := xcond hs
    obtain ⟨w9, hw, hs⟩ := Option.bind_eq_some_iff.mp hs
    obtain rfl := xyes hs
    obtain ⟨hi0, hi1, hi2⟩ := xix_of hw
    intro H locs ls hR hlo hl hz9
    have ht : c9.1 = 20 := Nat.eq_of_beq_eq_true hci
    obtain ⟨a, cell, e1, e2, e3, e4, e5, e6, e7⟩ := xarr hF hR hg (by omega) (by omega)
    rw [List.map_cons, List.map_cons, e1]
    rw [ht] at e3
    exact W.iald (v := xv B0.size ev w9) hx hb e2 e3 e4 (fun q => q.elim hi0 (fun z => by omega)) (e7 _ _ hi2) rfl rfl hd (kk H locs ls hR hlo hl hz9)
  · exact xno hs
theorem xS_baload {pc d nx : Nat} {info ps : List Nat} {L st : List Value} {h : xH} {w : Nat × List Value × List Value × xH}  (C : XC p s m meth c B0 ev ext D cA mi) (hq : xchk (xmt mi) (pc, .baload, nx, info) ps = true) (hs : xs ext d .baload nx info L st h = some w)
    (hr : w.2.2.2.length - n0 ≤ R.cells ∧ 1100 * (w.2.2.2.length - n0) ≤ R.slots) (hn : n0 ≤ h.length) (hdp : d ≤ R.frames ∧ 35 * d ≤ R.locals) (kk : xG p l e R s m args below meth c B0 ev D cA n0 Q w.1 w.2.1 w.2.2.1 w.2.2.2) : xG p l e R s m args below meth c B0 ev D cA n0 Q pc L st h := by
  obtain ⟨hx, hb, hml, hown, hnm, hF, hz0, hs0, hev⟩ := id C
  obtain ⟨hd, rfl, hck⟩ := xchk_len 1 hq (fun n9 h9 => Nat.eq_of_beq_eq_true h9)
  rw [xs_baload] at hs
  split at hs
  · rename_i i v r
    obtain ⟨c9, hg, hs⟩ := Option.bind_eq_some_iff.mp hs
    obtain ⟨hci, hs⟩ := xcond hs
    obtain ⟨w9, hw, hs⟩ := Option.bind_eq_some_iff.mp hs
    obtain rfl := xyes hs
    obtain ⟨hi0, hi1, hi2⟩ := xix_of hw
    intro H locs ls hR hlo hl hz9
    rw [Bool.or_eq_true] at hci
    rcases hci with hci | hci
    · have ht : c9.1 = 21 := Nat.eq_of_beq_eq_true hci
      obtain ⟨a, cell, e1, e2, e3, e4, e5, e6, e7⟩ := xarr hF hR hg (by omega) (by omega)
      rw [List.map_cons, List.map_cons, e1]
      rw [ht] at e3
      exact W.bald (v := xv B0.size ev w9) hx hb e2 e3 e4 (fun q => q.elim hi0 (fun z => by omega)) (e7 _ _ hi2) rfl rfl hd (kk H locs ls hR hlo hl hz9)
    · have ht : c9.1 = 22 := Nat.eq_of_beq_eq_true hci
      obtain ⟨a, cell, e1, e2, e3, e4, e5, e6, e7⟩ := xarr hF hR hg (by omega) (by omega)
      rw [List.map_cons, List.map_cons, e1]
      rw [ht] at e3
      exact W.zald (v := xv B0.size ev w9) hx hb e2 e3 e4 (fun q => q.elim hi0 (fun z => by omega)) (e7 _ _ hi2) rfl rfl hd (kk H locs ls hR hlo hl hz9)
  · exact xno hs
theorem xS_aaload {pc d nx : Nat} {info ps : List Nat} {L st : List Value} {h : xH} {w : Nat × List Value × List Value × xH}  (C : XC p s m meth c B0 ev ext D cA mi) (hq : xchk (xmt mi) (pc, .aaload, nx, info) ps = true) (hs : xs ext d .aaload nx info L st h = some w)
    (hr : w.2.2.2.length - n0 ≤ R.cells ∧ 1100 * (w.2.2.2.length - n0) ≤ R.slots) (hn : n0 ≤ h.length) (hdp : d ≤ R.frames ∧ 35 * d ≤ R.locals) (kk : xG p l e R s m args below meth c B0 ev D cA n0 Q w.1 w.2.1 w.2.2.1 w.2.2.2) : xG p l e R s m args below meth c B0 ev D cA n0 Q pc L st h := by
  obtain ⟨hx, hb, hml, hown, hnm, hF, hz0, hs0, hev⟩ := id C
  obtain ⟨hd, rfl, hck⟩ := xchk_len 1 hq (fun n9 h9 => Nat.eq_of_beq_eq_true h9)
  rw [xs_aaload] at hs
  split at hs
  · rename_i i a0 r
    obtain ⟨c9, hg, hs⟩ := Option.bind_eq_some_iff.mp hs
    obtain ⟨hci, hs⟩ := xcond hs
    obtain ⟨w9, hw, hs⟩ := Option.bind_eq_some_iff.mp hs
    obtain rfl := xyes hs
    obtain ⟨hi0, hi1, hi2⟩ := xix_of hw
    rw [Bool.and_eq_true] at hci
    have t1 := Nat.blt_eq.mp hci.1
    have t2 := Nat.blt_eq.mp hci.2
    intro H locs ls hR hlo hl hz9
    obtain ⟨a, cell, e1, e2, e3, e4, e5, e6, e7⟩ := xarr (ext := ext) hF hR (v := .ref a0) hg (by omega) (by omega)
    rw [List.map_cons, List.map_cons, e1]
    have hrf : (xaty c9.1).isReference = true := by
      have : c9.1 = 23 ∨ c9.1 = 24 ∨ c9.1 = 25 ∨ c9.1 = 26 := by omega
      rcases this with q | q | q | q <;> rw [q] <;> rfl
    exact W.aald (v := xv B0.size ev w9) hx hb e2 e3 hrf e4 (fun q => q.elim hi0 (fun z => by omega)) (e7 _ _ hi2) rfl rfl hd (kk H locs ls hR hlo hl hz9)
  · exact xno hs
theorem xS_arraylength {pc d nx : Nat} {info ps : List Nat} {L st : List Value} {h : xH} {w : Nat × List Value × List Value × xH}  (C : XC p s m meth c B0 ev ext D cA mi) (hq : xchk (xmt mi) (pc, .arraylength, nx, info) ps = true) (hs : xs ext d .arraylength nx info L st h = some w)
    (hr : w.2.2.2.length - n0 ≤ R.cells ∧ 1100 * (w.2.2.2.length - n0) ≤ R.slots) (hn : n0 ≤ h.length) (hdp : d ≤ R.frames ∧ 35 * d ≤ R.locals) (kk : xG p l e R s m args below meth c B0 ev D cA n0 Q w.1 w.2.1 w.2.2.1 w.2.2.2) : xG p l e R s m args below meth c B0 ev D cA n0 Q pc L st h := by
  obtain ⟨hx, hb, hml, hown, hnm, hF, hz0, hs0, hev⟩ := id C
  obtain ⟨hd, rfl, hck⟩ := xchk_len 1 hq (fun n9 h9 => Nat.eq_of_beq_eq_true h9)
  rw [xs_arraylength] at hs
  split at hs
  · rename_i v r
    obtain ⟨c9, hg, hs⟩ := Option.bind_eq_some_iff.mp hs
    obtain ⟨hci, hs⟩ := xcond hs
    obtain rfl := xyes hs
    have t1 := Nat.blt_eq.mp hci
    intro H locs ls hR hlo hl hz9
    obtain ⟨a, cell, e1, e2, e3, e4, e5, e6, e7⟩ := xarr hF hR hg t1 (xlarge hF hR hg t1)
    rw [List.map_cons, e1]
    exact W.alen hx hb e2 e3 e5 rfl rfl hd (kk H locs ls hR hlo hl hz9)
  · exact xno hs
theorem xS_iastore {pc d nx : Nat} {info ps : List Nat} {L st : List Value} {h : xH} {w : Nat × List Value × List Value × xH}  (C : XC p s m meth c B0 ev ext D cA mi) (hq : xchk (xmt mi) (pc, .iastore, nx, info) ps = true) (hs : xs ext d .iastore nx info L st h = some w)
    (hr : w.2.2.2.length - n0 ≤ R.cells ∧ 1100 * (w.2.2.2.length - n0) ≤ R.slots) (hn : n0 ≤ h.length) (hdp : d ≤ R.frames ∧ 35 * d ≤ R.locals) (kk : xG p l e R s m args below meth c B0 ev D cA n0 Q w.1 w.2.1 w.2.2.1 w.2.2.2) : xG p l e R s m args below meth c B0 ev D cA n0 Q pc L st h := by
  obtain ⟨hx, hb, hml, hown, hnm, hF, hz0, hs0, hev⟩ := id C
  obtain ⟨hd, rfl, hck⟩ := xchk_len 1 hq (fun n9 h9 => Nat.eq_of_beq_eq_true h9)
  rw [xs_iastore] at hs
  split at hs
  · rename_i x i a r
    obtain ⟨c9, hg, hs⟩ := Option.bind_eq_some_iff.mp hs
    obtain ⟨hci, hs⟩ := xcond hs
    obtain ⟨w9, hw, hs⟩ := Option.bind_eq_some_iff.mp hs
    obtain rfl := xyes hs
    obtain ⟨hi0, hi1, hi2⟩ := xix_of hw
    have ht : c9.1 = 20 := Nat.eq_of_beq_eq_true hci
    intro H locs ls hR hlo hl hz9
    have hA := xat_ar (hR.2.2 a c9 hg) (by omega)
    have hT := (hF.2.1.2 _ _ (xtys_at cA (t := c9.1) (by omega) (by omega))).1 c9.2.length (fun j => xv B0.size ev (c9.2.getD j .null))
    have hT' : s.isArrayOf (arrV (cA c9.1) c9.2.length (fun j => xv B0.size ev (c9.2.getD j .null))) .int := by
      have h8 := hT
      rw [show xaty c9.1 = .int by rw [ht]; rfl] at h8
      exact h8
    refine W.iast hx hb hA hT' (fun q => by cases q) (by rw [arrV_size]; exact fun q => q.elim hi0 (fun z => by omega)) rfl rfl hd fun H' e1 e2 e3 => ?_
    have k9 := kk H' (locs ++ [⟨B0.size + a, i.toNatClampNeg⟩]) ls (xstore hR hg (by omega) hi1 e1 e2 e3) (xlocs hlo a _) hl hz9
    have e9 : (h.set a (c9.1, c9.2.set i.toNatClampNeg (.int x))).length = h.length := List.length_set
    simp only [e9] at k9
    exact k9
  · exact xno hs
theorem xS_bastore {pc d nx : Nat} {info ps : List Nat} {L st : List Value} {h : xH} {w : Nat × List Value × List Value × xH}  (C : XC p s m meth c B0 ev ext D cA mi) (hq : xchk (xmt mi) (pc, .bastore, nx, info) ps = true) (hs : xs ext d .bastore nx info L st h = some w)
    (hr : w.2.2.2.length - n0 ≤ R.cells ∧ 1100 * (w.2.2.2.length - n0) ≤ R.slots) (hn : n0 ≤ h.length) (hdp : d ≤ R.frames ∧ 35 * d ≤ R.locals) (kk : xG p l e R s m args below meth c B0 ev D cA n0 Q w.1 w.2.1 w.2.2.1 w.2.2.2) : xG p l e R s m args below meth c B0 ev D cA n0 Q pc L st h := by
  obtain ⟨hx, hb, hml, hown, hnm, hF, hz0, hs0, hev⟩ := id C
  obtain ⟨hd, rfl, hck⟩ := xchk_len 1 hq (fun n9 h9 => Nat.eq_of_beq_eq_true h9)
  rw [xs_bastore] at hs
  split at hs
  · rename_i x i a r
    obtain ⟨c9, hg, hs⟩ := Option.bind_eq_some_iff.mp hs
    obtain ⟨hci, hs⟩ := xcond hs
    obtain ⟨w9, hw, hs⟩ := Option.bind_eq_some_iff.mp hs
    obtain rfl := xyes hs
    obtain ⟨hi0, hi1, hi2⟩ := xix_of hw
    rw [Bool.and_eq_true, Bool.or_eq_true] at hci
    obtain ⟨hct, hft⟩ := hci
    have hnar := (xfit_ok (b := B0.size) (ev := ev) hft).1
    have hnar : narrow (xaty c9.1) (.int x) = .int x := hnar
    intro H locs ls hR hlo hl hz9
    rcases hct with hct | hct
    · have ht : c9.1 = 21 := Nat.eq_of_beq_eq_true hct
      have hA := xat_ar (hR.2.2 a c9 hg) (by omega)
      have hT := (hF.2.1.2 _ _ (xtys_at cA (t := c9.1) (by omega) (by omega))).1 c9.2.length (fun j => xv B0.size ev (c9.2.getD j .null))
      have e8 : xaty c9.1 = .byte := by rw [ht]; rfl
      have hT' : s.isArrayOf (arrV (cA c9.1) c9.2.length (fun j => xv B0.size ev (c9.2.getD j .null))) .byte := by
        have h8 := hT
        simp only [e8] at h8
        exact h8
      rw [e8] at hnar
      refine W.bast hx hb hA hT' (fun q => by cases q) (by rw [arrV_size]; exact fun q => q.elim hi0 (fun z => by omega)) rfl rfl hd fun H' e1 e2 e3 => ?_
      rw [hnar] at e1
      have k9 := kk H' (locs ++ [⟨B0.size + a, i.toNatClampNeg⟩]) ls (xstore hR hg (by omega) hi1 e1 e2 e3) (xlocs hlo a _) hl hz9
      have e9 : (h.set a (c9.1, c9.2.set i.toNatClampNeg (.int x))).length = h.length := List.length_set
      simp only [e9] at k9
      exact k9
    · have ht : c9.1 = 22 := Nat.eq_of_beq_eq_true hct
      have hA := xat_ar (hR.2.2 a c9 hg) (by omega)
      have hT := (hF.2.1.2 _ _ (xtys_at cA (t := c9.1) (by omega) (by omega))).1 c9.2.length (fun j => xv B0.size ev (c9.2.getD j .null))
      have e8 : xaty c9.1 = .boolean := by rw [ht]; rfl
      have hT' : s.isArrayOf (arrV (cA c9.1) c9.2.length (fun j => xv B0.size ev (c9.2.getD j .null))) .boolean := by
        have h8 := hT
        simp only [e8] at h8
        exact h8
      rw [e8] at hnar
      refine W.zast hx hb hA hT' (fun q => by cases q) (by rw [arrV_size]; exact fun q => q.elim hi0 (fun z => by omega)) rfl rfl hd fun H' e1 e2 e3 => ?_
      rw [hnar] at e1
      have k9 := kk H' (locs ++ [⟨B0.size + a, i.toNatClampNeg⟩]) ls (xstore hR hg (by omega) hi1 e1 e2 e3) (xlocs hlo a _) hl hz9
      have e9 : (h.set a (c9.1, c9.2.set i.toNatClampNeg (.int x))).length = h.length := List.length_set
      simp only [e9] at k9
      exact k9
  · exact xno hs
theorem xS_aastore {pc d nx : Nat} {info ps : List Nat} {L st : List Value} {h : xH} {w : Nat × List Value × List Value × xH}  (C : XC p s m meth c B0 ev ext D cA mi) (hq : xchk (xmt mi) (pc, .aastore, nx, info) ps = true) (hs : xs ext d .aastore nx info L st h = some w)
    (hr : w.2.2.2.length - n0 ≤ R.cells ∧ 1100 * (w.2.2.2.length - n0) ≤ R.slots) (hn : n0 ≤ h.length) (hdp : d ≤ R.frames ∧ 35 * d ≤ R.locals) (kk : xG p l e R s m args below meth c B0 ev D cA n0 Q w.1 w.2.1 w.2.2.1 w.2.2.2) : xG p l e R s m args below meth c B0 ev D cA n0 Q pc L st h := by
  obtain ⟨hx, hb, hml, hown, hnm, hF, hz0, hs0, hev⟩ := id C
  obtain ⟨hd, rfl, hck⟩ := xchk_len 1 hq (fun n9 h9 => Nat.eq_of_beq_eq_true h9)
  rw [xs_aastore] at hs
  split at hs
  · rename_i v i a r
    obtain ⟨c9, hg, hs⟩ := Option.bind_eq_some_iff.mp hs
    obtain ⟨cv, hgv, hs⟩ := Option.bind_eq_some_iff.mp hs
    obtain ⟨hci, hs⟩ := xcond hs
    obtain ⟨w9, hw, hs⟩ := Option.bind_eq_some_iff.mp hs
    obtain rfl := xyes hs
    obtain ⟨hi0, hi1, hi2⟩ := xix_of hw
    obtain ⟨t1, t2, t3⟩ := xasg_of hci
    intro H locs ls hR hlo hl hz9
    have hA := xat_ar (hR.2.2 a c9 hg) (by omega)
    obtain ⟨r8, h8, cell, q1, q2, q3, q4⟩ := xat_ob (hR.2.2 v cv hgv) (by omega)
    obtain ⟨E, hE, hasg⟩ := xassign hF hci h8
    have hRA : va_RA s (cA c9.1) (xaty c9.1) := (hF.2.1.2 _ _ (xtys_at cA (t := c9.1) (by omega) (by omega))).2
    rw [hE] at hRA
    obtain ⟨kA, comp, k1, k2, k3, -⟩ := hRA
    obtain ⟨-, hfc8, kC8, hkC8, -⟩ := hF.2.1.1 cv.1 r8 h8
    obtain ⟨hasg1, kcomp, hkcomp⟩ := hasg comp k3
    refine W.aast hx hb hA (fun q h9 => by cases h9) (fun h9 => by cases h9) k1 k2 rfl hkcomp ⟨hi0, by rw [arrV_size]; exact hi1⟩ q1 (fun q h9 => by rw [q3] at h9; cases h9) (by rw [q2]; exact hkC8) (by rw [q2]; exact hasg1) rfl rfl hd fun H' e1 e2 e3 => ?_
    have k9 := kk H' (locs ++ [⟨B0.size + a, i.toNatClampNeg⟩]) ls (xstore hR hg (by omega) hi1 e1 e2 e3) (xlocs hlo a _) hl hz9
    have e9 : (h.set a (c9.1, c9.2.set i.toNatClampNeg (.ref v))).length = h.length := List.length_set
    simp only [e9] at k9
    exact k9
  · exact xno hs
end XST
end
section
/-! Making cells, static fields, System.arraycopy, Object.<init>. -/
theorem xdef_int (t : Nat) (h1 : 19 < t) (h2 : t < 23) : defaultValue (xaty t) = .int 0 := by
  have : t = 20 ∨ t = 21 ∨ t = 22 := by omega
  rcases this with rfl | rfl | rfl <;> rfl
theorem xcls_at {B0 : Heap} {ev : Nat → Value} {ext : List xC} {D : va_G} {cA : Nat → ClassId} {s : State} (hF : XF B0 ev ext D cA s) {t : Nat} (h1 : 19 < t) (h2 : t < 27) : va_RA s (cA t) (xaty t) := (hF.2.1.2 _ _ (xtys_at cA h1 h2)).2
theorem xgetR {n : Nat} {v : Value} {j : Nat} (h : j < n) : (List.replicate n v).getD j .null = v := by
  rw [List.getD_eq_getElem?_getD, List.getElem?_replicate, if_pos h]
  rfl
theorem xarrV_eq (cI : ClassId) (n : Nat) {f g : Nat → Value} (h : ∀ j, j < n → f j = g j) : arrV cI n f = arrV cI n g := by
  unfold arrV
  congr 1
  apply Array.ext_getElem?
  intro i
  by_cases hi : i < n
  · simp [hi, h i hi]
  · simp [hi]
theorem xcopy_get {f g : List Value} {sp dp n : Nat} (h1 : sp + n ≤ f.length) (h2 : dp + n ≤ g.length) (j : Nat) : (xcopy f g sp dp n).getD j .null = va_cpy (fun j => f.getD j .null) (fun j => g.getD j .null) sp dp n j := by
  unfold xcopy va_cpy
  have e1 : (g.take dp).length = dp := by rw [List.length_take]; omega
  have e2 : ((f.drop sp).take n).length = n := by rw [List.length_take, List.length_drop]; omega
  rw [List.getD_eq_getElem?_getD]
  by_cases hj : j < dp
  · rw [List.getElem?_append_left (by rw [e1]; exact hj), if_neg (by omega), List.getElem?_take, if_pos hj]
    exact (List.getD_eq_getElem?_getD ..).symm
  · rw [List.getElem?_append_right (by rw [e1]; omega), e1]
    by_cases hj2 : j < dp + n
    · rw [List.getElem?_append_left (by rw [e2]; omega), if_pos (by omega), List.getElem?_take, if_pos (by omega), List.getElem?_drop]
      exact (List.getD_eq_getElem?_getD ..).symm
    · rw [List.getElem?_append_right (by rw [e2]; omega), e2, if_neg (by omega), List.getElem?_drop, show dp + n + (j - dp - n) = j by omega]
      exact (List.getD_eq_getElem?_getD ..).symm
theorem xcopy_len {f g : List Value} {sp dp n : Nat} (h1 : sp + n ≤ f.length) (h2 : dp + n ≤ g.length) : (xcopy f g sp dp n).length = g.length := by
  unfold xcopy
  rw [List.length_append, List.length_append, List.length_take, List.length_take, List.length_drop, List.length_drop]
  omega
section XST
variable {p : Program} {l : Launch} {e : Env} {R : Room} {s : State} {m : MethodId} {args : Array Value} {below : List Frame} {meth : Method} {c : Code} {Q : State → Prop}
variable {B0 : Heap} {ev : Nat → Value} {ext : List xC} {D : va_G} {cA : Nat → ClassId} {mi n0 : Nat}
theorem xS_new {pc d nx : Nat} {info ps : List Nat} {L st : List Value} {h : xH} {w : Nat × List Value × List Value × xH} {idx : Nat} (C : XC p s m meth c B0 ev ext D cA mi) (hq : xchk (xmt mi) (pc, (.new idx), nx, info) ps = true) (hs : xs ext d (.new idx) nx info L st h = some w)
    (hr : w.2.2.2.length - n0 ≤ R.cells ∧ 1100 * (w.2.2.2.length - n0) ≤ R.slots) (hn : n0 ≤ h.length) (hdp : d ≤ R.frames ∧ 35 * d ≤ R.locals) (kk : xG p l e R s m args below meth c B0 ev D cA n0 Q w.1 w.2.1 w.2.2.1 w.2.2.2) : xG p l e R s m args below meth c B0 ev D cA n0 Q pc L st h := by
  obtain ⟨hx, hb, hml, hown, hnm, hF, hz0, hs0, hev⟩ := id C
  obtain ⟨hd, rfl, hck⟩ := xchk_len 3 hq (fun n9 h9 => Nat.eq_of_beq_eq_true h9)
  rw [xs_new] at hs
  split at hs
  · rename_i ci
    obtain ⟨h', ha, hs⟩ := Option.bind_eq_some_iff.mp hs
    obtain rfl := xyes hs
    obtain ⟨hl5, hl11, rfl⟩ := xadd_of ha
    have hck' : (match xcl[ci]? with
      | some c => decide (xnf ci = c.2.2) && (xwI ps 0 (.classLink (xmt mi).1.1.cls idx c.1) && (xwI ps 1 (.instantiable c.1 c.2.2) && xwI ps 2 (.initialized c.1)))
      | none => false) = true := hck
    split at hck'
    · rename_i r9 hr9
      rw [Bool.and_eq_true, Bool.and_eq_true, Bool.and_eq_true] at hck'
      obtain ⟨hnf, w0, w1, w2⟩ := hck'
      have hnf := of_decide_eq_true hnf
      have hKn := hF.2.1.1 ci r9 hr9
      have hm : r9 ∈ xcl := List.mem_of_getElem? hr9
      have hts : ∀ w ∈ u_ws r9.1 r9.2.1 r9.2.2, w.before args s = true := fun w hw => hF.w (xlays r9 hm w hw).1 (xlays r9 hm w hw).2 args
      have elen : (h ++ [((ci, (List.range (xnf ci)).map fun k => defaultValue (xfty ci k)) : xC)]).length - n0 = h.length - n0 + 1 := by
        rw [List.length_append, List.length_singleton]
        omega
      simp only [elen] at hr kk
      have hN : r9.2.2 ≤ 1100 := by
        have : (List.map (fun k => defaultValue (xfty ci k)) (List.range (xnf ci))).length ≤ 1100 := hl11
        rw [List.length_map, List.length_range, hnf] at this
        exact this
      intro H locs ls hR hlo hl hz9
      refine W.newcK hx hb hown (hF.w (xwI_mem w0) rfl args) (hF.w (xwI_mem w1) rfl args) (hF.w (xwI_mem w2) rfl args) rfl hd hr.1 (by have := hr.2; omega) hKn.2.1 rfl fun H1 kC hkC e1 z1 o1 => ?_
      have hR1 : xR D cA B0 ev (h ++ [((ci, (List.range (xnf ci)).map fun k => defaultValue (xfty ci k)) : xC)]) H1 := by
        refine hR.push z1 o1 ?_
        unfold xat
        rw [if_pos (show ci < 20 by have := xcl_lt hr9; omega)]
        refine ⟨r9, hr9, (u_born (xfty ci) hts (fun _ h9 => h9) hKn hkC e1 (xnmty ci r9 hr9).2).to (fun j hj => ?_)⟩
        have e8 : ((List.range (xnf ci)).map fun k => defaultValue (xfty ci k)).getD j .null = defaultValue (xfty ci j) := by
          refine xgetD ?_
          rw [List.getElem?_map, List.getElem?_range (by omega)]
          rfl
        show defaultValue (xfty ci j) = xv B0.size ev (((List.range (xnf ci)).map fun k => defaultValue (xfty ci k)).getD j .null)
        rw [e8]
        cases xfty ci j <;> rfl
      have k9 := kk H1 locs ls hR1 hlo hl hz9
      rw [List.map_cons] at k9
      have e7 : xv B0.size ev (.ref h.length) = .ref H.size := by rw [hR.1]; rfl
      rw [e7] at k9
      simp only [elen] at k9
      exact W.widen (Nat.le_refl _) (by omega) k9
    · cases hck'
  · exact xno hs
theorem xS_newarray {pc d nx : Nat} {info ps : List Nat} {L st : List Value} {h : xH} {w : Nat × List Value × List Value × xH} {at9 : ArrayType} (C : XC p s m meth c B0 ev ext D cA mi) (hq : xchk (xmt mi) (pc, (.newarray at9), nx, info) ps = true) (hs : xs ext d (.newarray at9) nx info L st h = some w)
    (hr : w.2.2.2.length - n0 ≤ R.cells ∧ 1100 * (w.2.2.2.length - n0) ≤ R.slots) (hn : n0 ≤ h.length) (hdp : d ≤ R.frames ∧ 35 * d ≤ R.locals) (kk : xG p l e R s m args below meth c B0 ev D cA n0 Q w.1 w.2.1 w.2.2.1 w.2.2.2) : xG p l e R s m args below meth c B0 ev D cA n0 Q pc L st h := by
  obtain ⟨hx, hb, hml, hown, hnm, hF, hz0, hs0, hev⟩ := id C
  obtain ⟨hd, rfl, hck⟩ := xchk_len 2 hq (fun n9 h9 => Nat.eq_of_beq_eq_true h9)
  rw [xs_newarray] at hs
  split at hs
  · rename_i t n r
    by_cases hn0 : n < 0
    · rw [if_pos hn0] at hs
      exact xno hs
    · rw [if_neg hn0] at hs
      obtain ⟨h', ha, hs⟩ := Option.bind_eq_some_iff.mp hs
      obtain rfl := xyes hs
      obtain ⟨hl5, hl11, rfl⟩ := xadd_of ha
      have hck' : (decide (19 < t ∧ t < 23) && (decide (newarray.typeOf at9 = xaty t) && xwI ps 0 (.arrayClass (xaty t)))) = true := hck
      rw [Bool.and_eq_true, Bool.and_eq_true] at hck'
      obtain ⟨ht, hty, w0⟩ := hck'
      have ht := of_decide_eq_true ht
      have hty := of_decide_eq_true hty
      have elen : (h ++ [((t, List.replicate n.toNatClampNeg (.int 0)) : xC)]).length - n0 = h.length - n0 + 1 := by
        rw [List.length_append, List.length_singleton]
        omega
      simp only [elen] at hr kk
      have hN : n.toNatClampNeg ≤ 1100 := by
        have : (List.replicate n.toNatClampNeg (Value.int 0)).length ≤ 1100 := hl11
        rw [List.length_replicate] at this
        exact this
      have hw0 : (Jvm.Cond.arrayClass (newarray.typeOf at9)).before args s = true := by rw [hty]; exact hF.w (xwI_mem w0) rfl args
      intro H locs ls hR hlo hl hz9
      refine va_newaK hx hb hw0 rfl hd rfl hn0 rfl ?_ hr.1 (by have := hr.2; omega) rfl fun H1 cA9 e1 z1 o1 hAr hNm => ?_
      · have hcb : componentBytes (newarray.typeOf at9) ≤ 8 := by cases at9 <;> decide
        have := Nat.mul_le_mul hN hcb
        omega
      · have hcA : cA9 = cA t := by
          have h9 : va_RA s (cA t) (xaty t) := xcls_at hF (by omega) (by omega)
          have h8 : s.vm.findClass ("[" ++ (xaty t).toString) = some (cA t) := by
            have : t = 20 ∨ t = 21 ∨ t = 22 := by omega
            rcases this with rfl | rfl | rfl <;> exact h9
          rw [hty] at hNm
          exact Option.some.inj (hNm.symm.trans h8)
        subst hcA
        have hR1 : xR D cA B0 ev (h ++ [((t, List.replicate n.toNatClampNeg (.int 0)) : xC)]) H1 := by
          refine hR.push z1 o1 ?_
          unfold xat
          rw [if_neg (show ¬ t < 20 by omega)]
          refine ⟨(show t < 27 by omega), ?_⟩
          rw [e1, hty, xdef_int t ht.1 ht.2]
          show some _ = some (arrV (cA t) (List.replicate n.toNatClampNeg (Value.int 0)).length (fun j => xv B0.size ev ((List.replicate n.toNatClampNeg (Value.int 0)).getD j .null)))
          rw [List.length_replicate]
          refine congrArg some (xarrV_eq _ _ (fun j hj => ?_))
          rw [xgetR hj]
          rfl
        have k9 := kk H1 locs ls hR1 hlo hl hz9
        rw [List.map_cons] at k9
        have e7 : xv B0.size ev (.ref h.length) = .ref H.size := by rw [hR.1]; rfl
        rw [e7] at k9
        simp only [elen] at k9
        exact W.widen (Nat.le_refl _) (by omega) k9
  · exact xno hs
theorem xS_anewarray {pc d nx : Nat} {info ps : List Nat} {L st : List Value} {h : xH} {w : Nat × List Value × List Value × xH} {idx : Nat} (C : XC p s m meth c B0 ev ext D cA mi) (hq : xchk (xmt mi) (pc, (.anewarray idx), nx, info) ps = true) (hs : xs ext d (.anewarray idx) nx info L st h = some w)
    (hr : w.2.2.2.length - n0 ≤ R.cells ∧ 1100 * (w.2.2.2.length - n0) ≤ R.slots) (hn : n0 ≤ h.length) (hdp : d ≤ R.frames ∧ 35 * d ≤ R.locals) (kk : xG p l e R s m args below meth c B0 ev D cA n0 Q w.1 w.2.1 w.2.2.1 w.2.2.2) : xG p l e R s m args below meth c B0 ev D cA n0 Q pc L st h := by
  obtain ⟨hx, hb, hml, hown, hnm, hF, hz0, hs0, hev⟩ := id C
  obtain ⟨hd, rfl, hck⟩ := xchk_len 3 hq (fun n9 h9 => Nat.eq_of_beq_eq_true h9)
  rw [xs_anewarray] at hs
  split at hs
  · rename_i t n r
    by_cases hn0 : n < 0
    · rw [if_pos hn0] at hs
      exact xno hs
    · rw [if_neg hn0] at hs
      obtain ⟨h', ha, hs⟩ := Option.bind_eq_some_iff.mp hs
      obtain rfl := xyes hs
      obtain ⟨hl5, hl11, rfl⟩ := xadd_of ha
      have hck' : (decide (22 < t ∧ t < 26) && (match xaty t with
        | .object c => xwI ps 0 (.classLink (xmt mi).1.1.cls idx c) && xwI ps 1 (.arrayOver (.object c))
        | _ => false)) = true := hck
      rw [Bool.and_eq_true] at hck'
      obtain ⟨ht, hck'⟩ := hck'
      have ht := of_decide_eq_true ht
      have elen : (h ++ [((t, List.replicate n.toNatClampNeg .null) : xC)]).length - n0 = h.length - n0 + 1 := by
        rw [List.length_append, List.length_singleton]
        omega
      simp only [elen] at hr kk
      have hN : n.toNatClampNeg ≤ 1100 := by
        have : (List.replicate n.toNatClampNeg Value.null).length ≤ 1100 := hl11
        rw [List.length_replicate] at this
        exact this
      split at hck'
      · rename_i E hE
        rw [Bool.and_eq_true] at hck'
        have hov : (Jvm.Cond.arrayOver (.object E)).before args s = true := by
          have := hF.2.2.1 t (by omega) (by omega)
          rw [hE] at this
          exact xAO_use this
        have hRA : va_RA s (cA t) (xaty t) := xcls_at hF (by omega) (by omega)
        rw [hE] at hRA
        obtain ⟨kA9, comp9, -, -, -, hnm9⟩ := hRA
        intro H locs ls hR hlo hl hz9
        refine W.anew hx hb hown (hF.w (xwI_mem hck'.1) rfl args) hov rfl hd rfl hn0 (by omega) hr.1 (by have := hr.2; omega) fun cA9 kA comp f1 f2 f3 f4 => ?_
        have hcA : cA9 = cA t := Option.some.inj (f1.symm.trans hnm9)
        subst hcA
        have hR1 : xR D cA B0 ev (h ++ [((t, List.replicate n.toNatClampNeg .null) : xC)]) (H.push { cls := cA t, slots := Array.replicate n.toNatClampNeg .null, vm := .none }) := by
          refine hR.push (by rw [Array.size_push]) (fun q hq => by rw [Array.getElem?_push, if_neg (by omega)]) ?_
          unfold xat
          rw [if_neg (show ¬ t < 20 by omega)]
          refine ⟨(show t < 27 by omega), ?_⟩
          rw [Array.getElem?_push_size, arrV_new]
          show some _ = some (arrV (cA t) (List.replicate n.toNatClampNeg Value.null).length (fun j => xv B0.size ev ((List.replicate n.toNatClampNeg Value.null).getD j .null)))
          rw [List.length_replicate]
          refine congrArg some (xarrV_eq _ _ (fun j hj => ?_))
          rw [xgetR hj]
          rfl
        have k9 := kk _ locs ls hR1 hlo hl hz9
        rw [List.map_cons] at k9
        have e7 : xv B0.size ev (.ref h.length) = .ref H.size := by rw [hR.1]; rfl
        rw [e7] at k9
        simp only [elen] at k9
        exact W.widen (Nat.le_refl _) (by omega) k9
      · cases hck'
  · exact xno hs
theorem xS_multianewarray {pc d nx : Nat} {info ps : List Nat} {L st : List Value} {h : xH} {w : Nat × List Value × List Value × xH} {idx dm : Nat} (C : XC p s m meth c B0 ev ext D cA mi) (hq : xchk (xmt mi) (pc, (.multianewarray idx dm), nx, info) ps = true) (hs : xs ext d (.multianewarray idx dm) nx info L st h = some w)
    (hr : w.2.2.2.length - n0 ≤ R.cells ∧ 1100 * (w.2.2.2.length - n0) ≤ R.slots) (hn : n0 ≤ h.length) (hdp : d ≤ R.frames ∧ 35 * d ≤ R.locals) (kk : xG p l e R s m args below meth c B0 ev D cA n0 Q w.1 w.2.1 w.2.2.1 w.2.2.2) : xG p l e R s m args below meth c B0 ev D cA n0 Q pc L st h := by
  obtain ⟨hx, hb, hml, hown, hnm, hF, hz0, hs0, hev⟩ := id C
  obtain ⟨hd, rfl, hck⟩ := xchk_len 4 hq (fun n9 h9 => Nat.eq_of_beq_eq_true h9)
  rw [xs_multianewarray] at hs
  split at hs
  · rename_i k n r
    by_cases hb9 : n < 0 ∨ k < 0 ∨ 1100 < n.toNatClampNeg ∨ 1100 < k.toNatClampNeg ∨ 5000 < h.length + n.toNatClampNeg
    · rw [if_pos hb9] at hs
      exact xno hs
    · rw [if_neg hb9] at hs
      obtain rfl := xyes hs
      have hn0 : ¬ n < 0 := fun q => hb9 (Or.inl q)
      have hk0 : ¬ k < 0 := fun q => hb9 (Or.inr (Or.inl q))
      have hn1 : n.toNatClampNeg ≤ 1100 := Nat.not_lt.mp fun q => hb9 (Or.inr (Or.inr (Or.inl q)))
      have hk1 : k.toNatClampNeg ≤ 1100 := Nat.not_lt.mp fun q => hb9 (Or.inr (Or.inr (Or.inr (Or.inl q))))
      have hck' : (decide (dm = 2) && (xwI ps 0 (.classLink (xmt mi).1.1.cls idx "[[I") && (xwI ps 1 (.arrayOver (.array .int)) && xwI ps 2 (.arrayClass .int)))) = true := hck
      rw [Bool.and_eq_true, Bool.and_eq_true, Bool.and_eq_true] at hck'
      obtain ⟨hdm, w0, w1, w2⟩ := hck'
      obtain rfl := of_decide_eq_true hdm
      generalize hN : n.toNatClampNeg = N at *
      generalize hK : k.toNatClampNeg = K at *
      have elen : (h ++ (((26, (List.range N).map fun i => .ref (h.length + 1 + i)) : xC) :: List.replicate N (20, List.replicate K (.int 0)))).length - n0 = h.length - n0 + 1 + N := by
        rw [List.length_append, List.length_cons, List.length_replicate]
        omega
      simp only [elen] at hr kk
      have hov : (Jvm.Cond.arrayOver (.array .int)).before args s = true := xAO_use (hF.2.2.1 26 (by omega) (by omega))
      have hA26 : s.vm.findClass ("[" ++ (FieldType.array .int).toString) = some (cA 26) := xcls_at hF (t := 26) (by omega) (by omega)
      have hA20 : s.vm.findClass (FieldType.array .int).toString = some (cA 20) := xcls_at hF (t := 20) (by omega) (by omega)
      have hm : N * K ≤ N * 1100 := Nat.mul_le_mul_left N hk1
      intro H locs ls hR hlo hl hz9
      refine xr_mna hx hb hown (hF.w (xwI_mem w0) rfl args) hov (hF.w (xwI_mem w2) rfl args) hn0 hk0 hN hK hn1 hk1 (by have := hr.1; omega) (by have := hr.2; omega) hd fun cA9 comp9 H1 f1 f2 z1 o1 e1 e2 => ?_
      have hc1 : cA9 = cA 26 := Option.some.inj (f1.symm.trans hA26)
      have hc2 : comp9 = cA 20 := Option.some.inj (f2.symm.trans hA20)
      subst hc1
      subst hc2
      have hs9 := hR.1
      have hR1 : xR D cA B0 ev (h ++ (((26, (List.range N).map fun i => .ref (h.length + 1 + i)) : xC) :: List.replicate N (20, List.replicate K (.int 0)))) H1 := by
        refine ⟨by rw [z1, hs9, List.length_append, List.length_cons, List.length_replicate]; omega, fun q hq => by rw [o1 q (by omega)]; exact hR.2.1 q hq, fun j d9 hj => ?_⟩
        by_cases hj1 : j < h.length
        · rw [List.getElem?_append_left hj1] at hj
          exact (hR.2.2 j d9 hj).kept (o1 _ (by omega))
        · rw [List.getElem?_append_right (by omega)] at hj
          by_cases hj2 : j = h.length
          · subst hj2
            rw [Nat.sub_self] at hj
            cases hj
            unfold xat
            rw [if_neg (show ¬ (26 : Nat) < 20 by omega), show B0.size + h.length = H.size by omega]
            refine ⟨(show (26 : Nat) < 27 by omega), ?_⟩
            rw [e1]
            show some _ = some (arrV (cA 26) ((List.range N).map fun i => Value.ref (h.length + 1 + i)).length (fun j => xv B0.size ev (((List.range N).map fun i => Value.ref (h.length + 1 + i)).getD j .null)))
            rw [List.length_map, List.length_range]
            refine congrArg some (xarrV_eq _ _ (fun i hi => ?_))
            have e8 : ((List.range N).map fun i => Value.ref (h.length + 1 + i)).getD i .null = .ref (h.length + 1 + i) := by
              refine xgetD ?_
              rw [List.getElem?_map, List.getElem?_range hi]
              rfl
            rw [e8, if_pos hi]
            show Value.ref (H.size + 1 + i) = Value.ref (B0.size + (h.length + 1 + i))
            have e6 : H.size + 1 + i = B0.size + (h.length + 1 + i) := by omega
            rw [e6]
          · obtain ⟨i, hi⟩ : ∃ i, j = h.length + 1 + i := ⟨j - h.length - 1, by omega⟩
            subst hi
            rw [show h.length + 1 + i - h.length = i + 1 by omega, List.getElem?_cons_succ, List.getElem?_replicate] at hj
            split at hj
            · rename_i hi9
              cases hj
              unfold xat
              rw [if_neg (show ¬ (20 : Nat) < 20 by omega), show B0.size + (h.length + 1 + i) = H.size + 1 + i by omega]
              refine ⟨(show (20 : Nat) < 27 by omega), ?_⟩
              rw [e2 i hi9]
              show some _ = some (arrV (cA 20) (List.replicate K (Value.int 0)).length (fun j => xv B0.size ev ((List.replicate K (Value.int 0)).getD j .null)))
              rw [List.length_replicate]
              refine congrArg some (xarrV_eq _ _ (fun j hj => ?_))
              rw [xgetR hj]
              rfl
            · exact xno hj
      have k9 := kk H1 locs ls hR1 hlo hl hz9
      rw [List.map_cons] at k9
      have e7 : xv B0.size ev (.ref h.length) = .ref H.size := by rw [hR.1]; rfl
      rw [e7] at k9
      simp only [elen] at k9
      exact W.widen (Nat.le_refl _) (by omega) k9
  · exact xno hs
theorem xS_getstatic {pc d nx : Nat} {info ps : List Nat} {L st : List Value} {h : xH} {w : Nat × List Value × List Value × xH} {idx : Nat} (C : XC p s m meth c B0 ev ext D cA mi) (hq : xchk (xmt mi) (pc, (.getstatic idx), nx, info) ps = true) (hs : xs ext d (.getstatic idx) nx info L st h = some w)
    (hr : w.2.2.2.length - n0 ≤ R.cells ∧ 1100 * (w.2.2.2.length - n0) ≤ R.slots) (hn : n0 ≤ h.length) (hdp : d ≤ R.frames ∧ 35 * d ≤ R.locals) (kk : xG p l e R s m args below meth c B0 ev D cA n0 Q w.1 w.2.1 w.2.2.1 w.2.2.2) : xG p l e R s m args below meth c B0 ev D cA n0 Q pc L st h := by
  obtain ⟨hx, hb, hml, hown, hnm, hF, hz0, hs0, hev⟩ := id C
  obtain ⟨hd, rfl, hck⟩ := xchk_len 3 hq (fun n9 h9 => Nat.eq_of_beq_eq_true h9)
  rw [xs_getstatic] at hs
  have hA : ∀ {H : Heap} {locs : List Loc} {h : xH}, xR D cA B0 ev h H → (∀ q ∈ locs, B0.size ≤ q.base) → s.heap.size ≤ H.size → va_S (fun q => B0.size ≤ q) s.heap H locs := fun hR hlo hz => ⟨hz, fun q _ h2 => (hR.2.1 q (Nat.not_le.mp h2)).trans (hs0 q (Nat.not_le.mp h2)).symm, hlo⟩
  have hkZ : ∀ {Cn nm ds : String} {v : Value}, va_Z Cn nm ds v (fun q => B0.size ≤ q) s B0 → ∀ {H : Heap} {h : xH}, xR D cA B0 ev h H → ∃ (cf : ClassId) (kf : Class) (fi : Nat) (f : Field) (a : Nat) (cell : Cell), s.fieldFound? Cn nm ds = some (cf, kf, fi, f) ∧ f.isStatic = true ∧ kf.init = .initialized ∧ kf.statics = some a ∧ H[a]? = some cell ∧ cell.vm.isStatics = true ∧ cell.slots[f.slot]? = some v := fun {_ _ _ _} hZ {_ _} hR => by
    obtain ⟨cf, kf, fi, f, a, cell, h1, h2, h3, h4, h5, h6, h7, h8⟩ := hZ
    exact ⟨cf, kf, fi, f, a, cell, h1, h2, h3, h4, by rw [hR.2.1 a (Nat.not_le.mp h8)]; exact h5, h6, h7⟩
  split at hs
  · obtain rfl := xyes hs
    intro H locs ls hR hlo hl hz9
    obtain ⟨cf, kf, fi, f, a, cell, h1, h2, h3, h4, h5, h6, h7⟩ := hkZ hF.2.2.2.2.1 (h := h) hR
    exact W.gets hx hb hown (hF.w (xwI_mem hck) rfl args) h1 h2 h3 h4 h5 (fun e9 => by rw [e9] at h6; cases h6) h7 rfl hd (kk H locs ls hR hlo hl hz9)
  · obtain rfl := xyes hs
    intro H locs ls hR hlo hl hz9
    obtain ⟨cf, kf, fi, f, a, cell, h1, h2, h3, h4, h5, h6, h7⟩ := hkZ hF.2.2.2.2.2.1 (h := h) hR
    exact W.gets hx hb hown (hF.w (xwI_mem hck) rfl args) h1 h2 h3 h4 h5 (fun e9 => by rw [e9] at h6; cases h6) h7 rfl hd (kk H locs ls hR hlo hl hz9)
  · exact xno hs
theorem xS_invokespecial {pc d nx : Nat} {info ps : List Nat} {L st : List Value} {h : xH} {w : Nat × List Value × List Value × xH} {idx : Nat} (C : XC p s m meth c B0 ev ext D cA mi) (hq : xchk (xmt mi) (pc, (.invokespecial idx), nx, info) ps = true) (hs : xs ext d (.invokespecial idx) nx info L st h = some w)
    (hr : w.2.2.2.length - n0 ≤ R.cells ∧ 1100 * (w.2.2.2.length - n0) ≤ R.slots) (hn : n0 ≤ h.length) (hdp : d ≤ R.frames ∧ 35 * d ≤ R.locals) (kk : xG p l e R s m args below meth c B0 ev D cA n0 Q w.1 w.2.1 w.2.2.1 w.2.2.2) : xG p l e R s m args below meth c B0 ev D cA n0 Q pc L st h := by
  obtain ⟨hx, hb, hml, hown, hnm, hF, hz0, hs0, hev⟩ := id C
  obtain ⟨hd, rfl, hck⟩ := xchk_len 3 hq (fun n9 h9 => Nat.eq_of_beq_eq_true h9)
  rw [xs_invokespecial] at hs
  split at hs
  · rename_i a r
    by_cases hb9 : d = 0 ∨ 8 < xcat r
    · rw [if_pos hb9] at hs
      exact xno hs
    · rw [if_neg hb9] at hs
      obtain rfl := xyes hs
      have hck' : (xwI ps 0 (.methodLink (xmt mi).1.1.cls idx Lib.objectInit) && (xwI ps 1 (.instanceMethod Lib.objectInit) && xwI ps 2 (.code Lib.objectInit ⟨#[0xb1]⟩ 1 none))) = true := hck
      rw [Bool.and_eq_true, Bool.and_eq_true] at hck'
      obtain ⟨w0, w1, w2⟩ := hck'
      intro H locs ls hR hlo hl hz9
      have hd0 : d ≠ 0 := fun q => hb9 (Or.inl q)
      have hr8 : xcat r ≤ 8 := Nat.not_lt.mp fun q => hb9 (Or.inr q)
      refine W.objInit (a := B0.size + a) (rest := r.map (xv B0.size ev)) hx hb hown (hF.w (xwI_mem w0) rfl args) (hF.w (xwI_mem w1) rfl args) (hF.w (xwI_mem w2) rfl args) rfl ?_ rfl hd (by omega) ?_ (kk H locs ls hR hlo hl hz9)
      · exact hz9
      · rw [xcat_map hev]
        show 2 * 0 + xcat r + 12 ≤ R.locals
        omega
  · exact xno hs
theorem xS_invokestatic {pc d nx : Nat} {info ps : List Nat} {L st : List Value} {h : xH} {w : Nat × List Value × List Value × xH} {idx : Nat} (C : XC p s m meth c B0 ev ext D cA mi) (hq : xchk (xmt mi) (pc, (.invokestatic idx), nx, info) ps = true) (hs : xs ext d (.invokestatic idx) nx info L st h = some w)
    (hr : w.2.2.2.length - n0 ≤ R.cells ∧ 1100 * (w.2.2.2.length - n0) ≤ R.slots) (hn : n0 ≤ h.length) (hdp : d ≤ R.frames ∧ 35 * d ≤ R.locals) (kk : xG p l e R s m args below meth c B0 ev D cA n0 Q w.1 w.2.1 w.2.2.1 w.2.2.2) : xG p l e R s m args below meth c B0 ev D cA n0 Q pc L st h := by
  obtain ⟨hx, hb, hml, hown, hnm, hF, hz0, hs0, hev⟩ := id C
  obtain ⟨hd, rfl, hck⟩ := xchk_len 3 hq (fun n9 h9 => Nat.eq_of_beq_eq_true h9)
  rw [xs_invokestatic] at hs
  split at hs
  · rename_i n dp b sp a r
    obtain ⟨ca, hga, hs⟩ := Option.bind_eq_some_iff.mp hs
    obtain ⟨cb, hgb, hs⟩ := Option.bind_eq_some_iff.mp hs
    split at hs
    · exact xno hs
    · rename_i hb9
      obtain rfl := xyes hs
      have hck' : (xwI ps 0 (.methodLink (xmt mi).1.1.cls idx arraycopyName) && (xwI ps 1 (.native arraycopyName) && (xwI ps 2 (.static arraycopyName) && xwI ps 3 (.initialized "java/lang/System")))) = true := hck
      rw [Bool.and_eq_true, Bool.and_eq_true, Bool.and_eq_true] at hck'
      obtain ⟨w0, w1, w2, w3⟩ := hck'
      simp only [not_or] at hb9
      obtain ⟨d0, d1, d2, d3, d4, d5, d6, d7, d8, d9⟩ := hb9
      have t1 : ca.1 = 20 := Decidable.not_not.mp d5
      have t2 : cb.1 = 20 := Decidable.not_not.mp d6
      have d9 : ca.2.all (xfit .int) = true := by simpa using d9
      have nn : ∀ z : Int32, ¬ z < 0 → z.toInt = (z.toNatClampNeg : Int) := by
        intro z hz
        have hz0 : (0 : Int) ≤ z.toInt := by
          have := Int32.not_lt.mp hz
          simpa using Int32.le_iff_toInt_le.mp this
        show z.toInt = ((z.toInt.toNat : Nat) : Int)
        omega
      intro H locs ls hR hlo hl hz9
      have hA := xat_ar (hR.2.2 a ca hga) (by omega)
      have hB := xat_ar (hR.2.2 b cb hgb) (by omega)
      obtain ⟨-, k0, hk0, cm0, hkk0⟩ := (hF.2.1.2 _ _ (xtys_at cA (t := ca.1) (by omega) (by omega))).1 ca.2.length (fun j => xv B0.size ev (ca.2.getD j .null))
      obtain ⟨-, k1, hk1, cm1, hkk1⟩ := (hF.2.1.2 _ _ (xtys_at cA (t := cb.1) (by omega) (by omega))).1 cb.2.length (fun j => xv B0.size ev (cb.2.getD j .null))
      have ty1 : xaty ca.1 = .int := by rw [t1]; rfl
      have ty2 : xaty cb.1 = .int := by rw [t2]; rfl
      simp only [ty1] at hkk0
      simp only [ty2] at hkk1
      intro T hT X
      obtain ⟨vm', X', step⟩ := X.arraycopy hx hown (hF.w (xwI_mem w0) rfl args) (hF.w (xwI_mem w1) rfl args) (hF.w (xwI_mem w2) rfl args) (hF.w (xwI_mem w3) rfl args) (src := B0.size + a) (dst := B0.size + b) (cs := arrV (cA ca.1) ca.2.length (fun j => xv B0.size ev (ca.2.getD j .null))) (cd := arrV (cA cb.1) cb.2.length (fun j => xv B0.size ev (cb.2.getD j .null))) (srcPos := sp) (destPos := dp) (n := n) (by rw [hT]; exact hA) (by rw [hT]; exact hB)
        (fun _ h9 => by cases h9) (fun _ h9 => by cases h9) (fun h9 => by cases h9) (fun h9 => by cases h9) hk0 hk1 hkk0 hkk1 rfl d2 d3 d4
        (by rw [nn sp d2, nn n d4, arrV_size]; omega) (by rw [nn dp d3, nn n d4, arrV_size]; omega)
        (fun vm₁ _ i hi => by
          obtain ⟨w9, hw9⟩ : ∃ w9, ca.2[sp.toNatClampNeg + i]? = some w9 := ⟨_, List.getElem?_eq_getElem (by omega)⟩
          have hx9 := List.all_eq_true.mp d9 w9 (List.mem_of_getElem? hw9)
          obtain ⟨z, rfl⟩ : ∃ z, w9 = .int z := by
            cases w9 <;> first | exact ⟨_, rfl⟩ | (exfalso; cases hx9)
          have e9 : (arrV (cA ca.1) ca.2.length (fun j => xv B0.size ev (ca.2.getD j .null))).slots.getD (sp.toNatClampNeg + i) .null = .int z := by
            rw [Array.getD_eq_getD_getElem?, arrV_read _ _ (by omega), xgetD hw9]
            rfl
          rw [e9]
          exact ⟨rfl, trivial⟩)
        (g := F0 m pc ls (List.map (xv B0.size ev) (.int n :: .int dp :: .ref b :: .int sp :: .ref a :: r))) rfl hz9 (rest := r.map (xv B0.size ev)) rfl (by rw [hb]; exact hd) (by omega) (by rw [xcat_map hev]; show 2 * 0 + xcat r + (7 + 11) ≤ R.locals; omega)
      have e1 : copied (arrV (cA ca.1) ca.2.length (fun j => xv B0.size ev (ca.2.getD j .null))) (arrV (cA cb.1) cb.2.length (fun j => xv B0.size ev (cb.2.getD j .null))) sp dp n = arrV (cA cb.1) cb.2.length (va_cpy (fun j => xv B0.size ev (ca.2.getD j .null)) (fun j => xv B0.size ev (cb.2.getD j .null)) sp.toNatClampNeg dp.toNatClampNeg n.toNatClampNeg) := va_copied (fun z => z) _ _ _ _ (by omega)
      rw [e1] at X' step
      have hlb : B0.size + b < H.size := hR.lt hgb
      have hheap : ((T.setVm vm').setCell (B0.size + b) (arrV (cA cb.1) cb.2.length (va_cpy (fun j => xv B0.size ev (ca.2.getD j .null)) (fun j => xv B0.size ev (cb.2.getD j .null)) sp.toNatClampNeg dp.toNatClampNeg n.toNatClampNeg))).heap = H.setIfInBounds (B0.size + b) (arrV (cA cb.1) cb.2.length (va_cpy (fun j => xv B0.size ev (ca.2.getD j .null)) (fun j => xv B0.size ev (cb.2.getD j .null)) sp.toNatClampNeg dp.toNatClampNeg n.toNatClampNeg)) := by rw [← hT]; rfl
      have hR1 : xR D cA B0 ev (h.set b (cb.1, xcopy ca.2 cb.2 sp.toNatClampNeg dp.toNatClampNeg n.toNatClampNeg)) (H.setIfInBounds (B0.size + b) (arrV (cA cb.1) cb.2.length (va_cpy (fun j => xv B0.size ev (ca.2.getD j .null)) (fun j => xv B0.size ev (cb.2.getD j .null)) sp.toNatClampNeg dp.toNatClampNeg n.toNatClampNeg))) := by
        refine hR.set hgb (by simp) (fun q hq => by simp [Array.getElem?_setIfInBounds, Ne.symm hq]) ?_
        unfold xat
        rw [if_neg (show ¬ cb.1 < 20 by omega)]
        refine ⟨(show cb.1 < 27 by omega), ?_⟩
        rw [Array.getElem?_setIfInBounds, if_pos rfl, if_pos hlb]
        show some _ = some (arrV (cA cb.1) (xcopy ca.2 cb.2 sp.toNatClampNeg dp.toNatClampNeg n.toNatClampNeg).length (fun j => xv B0.size ev ((xcopy ca.2 cb.2 sp.toNatClampNeg dp.toNatClampNeg n.toNatClampNeg).getD j .null)))
        rw [xcopy_len (by omega) (by omega)]
        refine congrArg some (xarrV_eq _ _ (fun j hj => ?_))
        rw [xcopy_get (by omega) (by omega)]
        unfold va_cpy
        split <;> rfl
      have k9 := kk _ (locs ++ ((arrV (cA ca.1) ca.2.length (fun j => xv B0.size ev (ca.2.getD j .null))).stretch sp.toNatClampNeg n.toNatClampNeg).zipIdx.map fun q => ⟨B0.size + b, dp.toNatClampNeg + q.2⟩) ls hR1 (fun q hq => by
        rcases List.mem_append.mp hq with h9 | h9
        · exact hlo q h9
        · obtain ⟨z, -, hz⟩ := List.mem_map.mp h9
          rw [← hz]
          exact Nat.le_add_right _ _) hl hz9
      have e8 : (h.set b (cb.1, xcopy ca.2 cb.2 sp.toNatClampNeg dp.toNatClampNeg n.toNatClampNeg)).length = h.length := List.length_set
      simp only [e8] at k9
      obtain ⟨t, a1, b1⟩ := k9 _ hheap X'
      exact ⟨t, step t a1, b1⟩
  · exact xno hs
end XST
end
section
/-! Every simple instruction together; the cells only grow. -/
theorem xM_iconst {ext : List xC} {d nx : Nat} {info : List Nat} {L st : List Value} {h : xH} {n : Int} {w : Nat × List Value × List Value × xH} (hs : xs ext d (.iconst n) nx info L st h = some w) : h.length ≤ w.2.2.2.length := by
  rw [xs_iconst] at hs
  obtain rfl := xyes hs
  exact Nat.le_refl _
theorem xM_bipush {ext : List xC} {d nx : Nat} {info : List Nat} {L st : List Value} {h : xH} {n : Int} {w : Nat × List Value × List Value × xH} (hs : xs ext d (.bipush n) nx info L st h = some w) : h.length ≤ w.2.2.2.length := by
  rw [xs_bipush] at hs
  obtain rfl := xyes hs
  exact Nat.le_refl _
theorem xM_sipush {ext : List xC} {d nx : Nat} {info : List Nat} {L st : List Value} {h : xH} {n : Int} {w : Nat × List Value × List Value × xH} (hs : xs ext d (.sipush n) nx info L st h = some w) : h.length ≤ w.2.2.2.length := by
  rw [xs_sipush] at hs
  obtain rfl := xyes hs
  exact Nat.le_refl _
theorem xM_lconst {ext : List xC} {d nx : Nat} {info : List Nat} {L st : List Value} {h : xH} {n : Fin 2} {w : Nat × List Value × List Value × xH} (hs : xs ext d (.lconst n) nx info L st h = some w) : h.length ≤ w.2.2.2.length := by
  rw [xs_lconst] at hs
  obtain rfl := xyes hs
  exact Nat.le_refl _
theorem xM_ldc {ext : List xC} {d nx : Nat} {info : List Nat} {L st : List Value} {h : xH} {idx : Nat} {w : Nat × List Value × List Value × xH} (hs : xs ext d (.ldc idx) nx info L st h = some w) : h.length ≤ w.2.2.2.length := by
  rw [xs_ldc] at hs
  split at hs
  · obtain rfl := xyes hs
    exact Nat.le_refl _
  · obtain rfl := xyes hs
    exact Nat.le_refl _
  · exact xno hs
theorem xM_ldc_w {ext : List xC} {d nx : Nat} {info : List Nat} {L st : List Value} {h : xH} {idx : Nat} {w : Nat × List Value × List Value × xH} (hs : xs ext d (.ldc_w idx) nx info L st h = some w) : h.length ≤ w.2.2.2.length := by
  rw [xs_ldc_w] at hs
  split at hs
  · obtain rfl := xyes hs
    exact Nat.le_refl _
  · exact xno hs
theorem xM_ldc2_w {ext : List xC} {d nx : Nat} {info : List Nat} {L st : List Value} {h : xH} {idx : Nat} {w : Nat × List Value × List Value × xH} (hs : xs ext d (.ldc2_w idx) nx info L st h = some w) : h.length ≤ w.2.2.2.length := by
  rw [xs_ldc2_w] at hs
  split at hs
  · obtain rfl := xyes hs
    exact Nat.le_refl _
  · exact xno hs
theorem xM_iload_n {ext : List xC} {d nx : Nat} {info : List Nat} {L st : List Value} {h : xH} {k : Fin 4} {w : Nat × List Value × List Value × xH} (hs : xs ext d (.iload_n k) nx info L st h = some w) : h.length ≤ w.2.2.2.length := by
  rw [xs_iload_n] at hs
  split at hs
  · obtain rfl := xyes hs
    exact Nat.le_refl _
  · exact xno hs
theorem xM_iload {ext : List xC} {d nx : Nat} {info : List Nat} {L st : List Value} {h : xH} {k : Nat} {w : Nat × List Value × List Value × xH} (hs : xs ext d (.iload k) nx info L st h = some w) : h.length ≤ w.2.2.2.length := by
  rw [xs_iload] at hs
  split at hs
  · obtain rfl := xyes hs
    exact Nat.le_refl _
  · exact xno hs
theorem xM_lload_n {ext : List xC} {d nx : Nat} {info : List Nat} {L st : List Value} {h : xH} {k : Fin 4} {w : Nat × List Value × List Value × xH} (hs : xs ext d (.lload_n k) nx info L st h = some w) : h.length ≤ w.2.2.2.length := by
  rw [xs_lload_n] at hs
  split at hs
  · obtain rfl := xyes hs
    exact Nat.le_refl _
  · exact xno hs
theorem xM_lload {ext : List xC} {d nx : Nat} {info : List Nat} {L st : List Value} {h : xH} {k : Nat} {w : Nat × List Value × List Value × xH} (hs : xs ext d (.lload k) nx info L st h = some w) : h.length ≤ w.2.2.2.length := by
  rw [xs_lload] at hs
  split at hs
  · obtain rfl := xyes hs
    exact Nat.le_refl _
  · exact xno hs
theorem xM_aload_n {ext : List xC} {d nx : Nat} {info : List Nat} {L st : List Value} {h : xH} {k : Fin 4} {w : Nat × List Value × List Value × xH} (hs : xs ext d (.aload_n k) nx info L st h = some w) : h.length ≤ w.2.2.2.length := by
  rw [xs_aload_n] at hs
  split at hs
  · obtain rfl := xyes hs
    exact Nat.le_refl _
  · obtain rfl := xyes hs
    exact Nat.le_refl _
  · exact xno hs
theorem xM_aload {ext : List xC} {d nx : Nat} {info : List Nat} {L st : List Value} {h : xH} {k : Nat} {w : Nat × List Value × List Value × xH} (hs : xs ext d (.aload k) nx info L st h = some w) : h.length ≤ w.2.2.2.length := by
  rw [xs_aload] at hs
  split at hs
  · obtain rfl := xyes hs
    exact Nat.le_refl _
  · exact xno hs
theorem xM_istore_n {ext : List xC} {d nx : Nat} {info : List Nat} {L st : List Value} {h : xH} {k : Fin 4} {w : Nat × List Value × List Value × xH} (hs : xs ext d (.istore_n k) nx info L st h = some w) : h.length ≤ w.2.2.2.length := by
  rw [xs_istore_n] at hs
  split at hs
  · obtain ⟨_, _, hs⟩ := Option.bind_eq_some_iff.mp hs
    obtain rfl := xyes hs
    exact Nat.le_refl _
  · exact xno hs
theorem xM_istore {ext : List xC} {d nx : Nat} {info : List Nat} {L st : List Value} {h : xH} {k : Nat} {w : Nat × List Value × List Value × xH} (hs : xs ext d (.istore k) nx info L st h = some w) : h.length ≤ w.2.2.2.length := by
  rw [xs_istore] at hs
  split at hs
  · obtain ⟨_, _, hs⟩ := Option.bind_eq_some_iff.mp hs
    obtain rfl := xyes hs
    exact Nat.le_refl _
  · exact xno hs
theorem xM_lstore_n {ext : List xC} {d nx : Nat} {info : List Nat} {L st : List Value} {h : xH} {k : Fin 4} {w : Nat × List Value × List Value × xH} (hs : xs ext d (.lstore_n k) nx info L st h = some w) : h.length ≤ w.2.2.2.length := by
  rw [xs_lstore_n] at hs
  split at hs
  · obtain ⟨_, _, hs⟩ := Option.bind_eq_some_iff.mp hs
    obtain rfl := xyes hs
    exact Nat.le_refl _
  · exact xno hs
theorem xM_lstore {ext : List xC} {d nx : Nat} {info : List Nat} {L st : List Value} {h : xH} {k : Nat} {w : Nat × List Value × List Value × xH} (hs : xs ext d (.lstore k) nx info L st h = some w) : h.length ≤ w.2.2.2.length := by
  rw [xs_lstore] at hs
  split at hs
  · obtain ⟨_, _, hs⟩ := Option.bind_eq_some_iff.mp hs
    obtain rfl := xyes hs
    exact Nat.le_refl _
  · exact xno hs
theorem xM_astore_n {ext : List xC} {d nx : Nat} {info : List Nat} {L st : List Value} {h : xH} {k : Fin 4} {w : Nat × List Value × List Value × xH} (hs : xs ext d (.astore_n k) nx info L st h = some w) : h.length ≤ w.2.2.2.length := by
  rw [xs_astore_n] at hs
  split at hs
  · obtain ⟨_, _, hs⟩ := Option.bind_eq_some_iff.mp hs
    obtain rfl := xyes hs
    exact Nat.le_refl _
  · exact xno hs
theorem xM_astore {ext : List xC} {d nx : Nat} {info : List Nat} {L st : List Value} {h : xH} {k : Nat} {w : Nat × List Value × List Value × xH} (hs : xs ext d (.astore k) nx info L st h = some w) : h.length ≤ w.2.2.2.length := by
  rw [xs_astore] at hs
  split at hs
  · obtain ⟨_, _, hs⟩ := Option.bind_eq_some_iff.mp hs
    obtain rfl := xyes hs
    exact Nat.le_refl _
  · exact xno hs
theorem xM_iinc {ext : List xC} {d nx : Nat} {info : List Nat} {L st : List Value} {h : xH} {k : Nat} {n : Int} {w : Nat × List Value × List Value × xH} (hs : xs ext d (.iinc k n) nx info L st h = some w) : h.length ≤ w.2.2.2.length := by
  rw [xs_iinc] at hs
  split at hs
  · obtain ⟨_, _, hs⟩ := Option.bind_eq_some_iff.mp hs
    obtain rfl := xyes hs
    exact Nat.le_refl _
  · exact xno hs
theorem xM_iadd {ext : List xC} {d nx : Nat} {info : List Nat} {L st : List Value} {h : xH}  {w : Nat × List Value × List Value × xH} (hs : xs ext d .iadd nx info L st h = some w) : h.length ≤ w.2.2.2.length := by
  rw [xs_iadd] at hs
  split at hs
  · obtain rfl := xyes hs
    exact Nat.le_refl _
  · exact xno hs
theorem xM_isub {ext : List xC} {d nx : Nat} {info : List Nat} {L st : List Value} {h : xH}  {w : Nat × List Value × List Value × xH} (hs : xs ext d .isub nx info L st h = some w) : h.length ≤ w.2.2.2.length := by
  rw [xs_isub] at hs
  split at hs
  · obtain rfl := xyes hs
    exact Nat.le_refl _
  · exact xno hs
theorem xM_imul {ext : List xC} {d nx : Nat} {info : List Nat} {L st : List Value} {h : xH}  {w : Nat × List Value × List Value × xH} (hs : xs ext d .imul nx info L st h = some w) : h.length ≤ w.2.2.2.length := by
  rw [xs_imul] at hs
  split at hs
  · obtain rfl := xyes hs
    exact Nat.le_refl _
  · exact xno hs
theorem xM_idiv {ext : List xC} {d nx : Nat} {info : List Nat} {L st : List Value} {h : xH}  {w : Nat × List Value × List Value × xH} (hs : xs ext d .idiv nx info L st h = some w) : h.length ≤ w.2.2.2.length := by
  rw [xs_idiv] at hs
  split at hs
  · split at hs
    · exact xno hs
    · obtain rfl := xyes hs
      exact Nat.le_refl _
  · exact xno hs
theorem xM_irem {ext : List xC} {d nx : Nat} {info : List Nat} {L st : List Value} {h : xH}  {w : Nat × List Value × List Value × xH} (hs : xs ext d .irem nx info L st h = some w) : h.length ≤ w.2.2.2.length := by
  rw [xs_irem] at hs
  split at hs
  · split at hs
    · exact xno hs
    · obtain rfl := xyes hs
      exact Nat.le_refl _
  · exact xno hs
theorem xM_iand {ext : List xC} {d nx : Nat} {info : List Nat} {L st : List Value} {h : xH}  {w : Nat × List Value × List Value × xH} (hs : xs ext d .iand nx info L st h = some w) : h.length ≤ w.2.2.2.length := by
  rw [xs_iand] at hs
  split at hs
  · obtain rfl := xyes hs
    exact Nat.le_refl _
  · exact xno hs
theorem xM_ior {ext : List xC} {d nx : Nat} {info : List Nat} {L st : List Value} {h : xH}  {w : Nat × List Value × List Value × xH} (hs : xs ext d .ior nx info L st h = some w) : h.length ≤ w.2.2.2.length := by
  rw [xs_ior] at hs
  split at hs
  · obtain rfl := xyes hs
    exact Nat.le_refl _
  · exact xno hs
theorem xM_ixor {ext : List xC} {d nx : Nat} {info : List Nat} {L st : List Value} {h : xH}  {w : Nat × List Value × List Value × xH} (hs : xs ext d .ixor nx info L st h = some w) : h.length ≤ w.2.2.2.length := by
  rw [xs_ixor] at hs
  split at hs
  · obtain rfl := xyes hs
    exact Nat.le_refl _
  · exact xno hs
theorem xM_ishl {ext : List xC} {d nx : Nat} {info : List Nat} {L st : List Value} {h : xH}  {w : Nat × List Value × List Value × xH} (hs : xs ext d .ishl nx info L st h = some w) : h.length ≤ w.2.2.2.length := by
  rw [xs_ishl] at hs
  split at hs
  · obtain rfl := xyes hs
    exact Nat.le_refl _
  · exact xno hs
theorem xM_ishr {ext : List xC} {d nx : Nat} {info : List Nat} {L st : List Value} {h : xH}  {w : Nat × List Value × List Value × xH} (hs : xs ext d .ishr nx info L st h = some w) : h.length ≤ w.2.2.2.length := by
  rw [xs_ishr] at hs
  split at hs
  · obtain rfl := xyes hs
    exact Nat.le_refl _
  · exact xno hs
theorem xM_ladd {ext : List xC} {d nx : Nat} {info : List Nat} {L st : List Value} {h : xH}  {w : Nat × List Value × List Value × xH} (hs : xs ext d .ladd nx info L st h = some w) : h.length ≤ w.2.2.2.length := by
  rw [xs_ladd] at hs
  split at hs
  · obtain rfl := xyes hs
    exact Nat.le_refl _
  · exact xno hs
theorem xM_lmul {ext : List xC} {d nx : Nat} {info : List Nat} {L st : List Value} {h : xH}  {w : Nat × List Value × List Value × xH} (hs : xs ext d .lmul nx info L st h = some w) : h.length ≤ w.2.2.2.length := by
  rw [xs_lmul] at hs
  split at hs
  · obtain rfl := xyes hs
    exact Nat.le_refl _
  · exact xno hs
theorem xM_ldiv {ext : List xC} {d nx : Nat} {info : List Nat} {L st : List Value} {h : xH}  {w : Nat × List Value × List Value × xH} (hs : xs ext d .ldiv nx info L st h = some w) : h.length ≤ w.2.2.2.length := by
  rw [xs_ldiv] at hs
  split at hs
  · split at hs
    · exact xno hs
    · obtain rfl := xyes hs
      exact Nat.le_refl _
  · exact xno hs
theorem xM_lrem {ext : List xC} {d nx : Nat} {info : List Nat} {L st : List Value} {h : xH}  {w : Nat × List Value × List Value × xH} (hs : xs ext d .lrem nx info L st h = some w) : h.length ≤ w.2.2.2.length := by
  rw [xs_lrem] at hs
  split at hs
  · split at hs
    · exact xno hs
    · obtain rfl := xyes hs
      exact Nat.le_refl _
  · exact xno hs
theorem xM_lcmp {ext : List xC} {d nx : Nat} {info : List Nat} {L st : List Value} {h : xH}  {w : Nat × List Value × List Value × xH} (hs : xs ext d .lcmp nx info L st h = some w) : h.length ≤ w.2.2.2.length := by
  rw [xs_lcmp] at hs
  split at hs
  · obtain rfl := xyes hs
    exact Nat.le_refl _
  · exact xno hs
theorem xM_i2l {ext : List xC} {d nx : Nat} {info : List Nat} {L st : List Value} {h : xH}  {w : Nat × List Value × List Value × xH} (hs : xs ext d .i2l nx info L st h = some w) : h.length ≤ w.2.2.2.length := by
  rw [xs_i2l] at hs
  split at hs
  · obtain rfl := xyes hs
    exact Nat.le_refl _
  · exact xno hs
theorem xM_i2b {ext : List xC} {d nx : Nat} {info : List Nat} {L st : List Value} {h : xH}  {w : Nat × List Value × List Value × xH} (hs : xs ext d .i2b nx info L st h = some w) : h.length ≤ w.2.2.2.length := by
  rw [xs_i2b] at hs
  split at hs
  · obtain rfl := xyes hs
    exact Nat.le_refl _
  · exact xno hs
theorem xM_i2c {ext : List xC} {d nx : Nat} {info : List Nat} {L st : List Value} {h : xH}  {w : Nat × List Value × List Value × xH} (hs : xs ext d .i2c nx info L st h = some w) : h.length ≤ w.2.2.2.length := by
  rw [xs_i2c] at hs
  split at hs
  · obtain rfl := xyes hs
    exact Nat.le_refl _
  · exact xno hs
theorem xM_dup {ext : List xC} {d nx : Nat} {info : List Nat} {L st : List Value} {h : xH}  {w : Nat × List Value × List Value × xH} (hs : xs ext d .dup nx info L st h = some w) : h.length ≤ w.2.2.2.length := by
  rw [xs_dup] at hs
  split at hs
  · obtain rfl := xyes hs
    exact Nat.le_refl _
  · obtain rfl := xyes hs
    exact Nat.le_refl _
  · exact xno hs
theorem xM_dup2 {ext : List xC} {d nx : Nat} {info : List Nat} {L st : List Value} {h : xH}  {w : Nat × List Value × List Value × xH} (hs : xs ext d .dup2 nx info L st h = some w) : h.length ≤ w.2.2.2.length := by
  rw [xs_dup2] at hs
  split at hs
  · obtain rfl := xyes hs
    exact Nat.le_refl _
  · exact xno hs
theorem xM_pop {ext : List xC} {d nx : Nat} {info : List Nat} {L st : List Value} {h : xH}  {w : Nat × List Value × List Value × xH} (hs : xs ext d .pop nx info L st h = some w) : h.length ≤ w.2.2.2.length := by
  rw [xs_pop] at hs
  split at hs
  · obtain rfl := xyes hs
    exact Nat.le_refl _
  · exact xno hs
theorem xM_goto {ext : List xC} {d nx : Nat} {info : List Nat} {L st : List Value} {h : xH} {o : Int} {w : Nat × List Value × List Value × xH} (hs : xs ext d (.goto o) nx info L st h = some w) : h.length ≤ w.2.2.2.length := by
  rw [xs_goto] at hs
  split at hs
  · obtain rfl := xyes hs
    exact Nat.le_refl _
  · exact xno hs
theorem xM_if_icmp {ext : List xC} {d nx : Nat} {info : List Nat} {L st : List Value} {h : xH} {cd : Jvm.ClassFile.Cond} {o : Int} {w : Nat × List Value × List Value × xH} (hs : xs ext d (.if_icmp cd o) nx info L st h = some w) : h.length ≤ w.2.2.2.length := by
  rw [xs_if_icmp] at hs
  split at hs
  · obtain rfl := xyes hs
    exact Nat.le_refl _
  · exact xno hs
theorem xM_ifCond {ext : List xC} {d nx : Nat} {info : List Nat} {L st : List Value} {h : xH} {cd : Jvm.ClassFile.Cond} {o : Int} {w : Nat × List Value × List Value × xH} (hs : xs ext d (.ifCond cd o) nx info L st h = some w) : h.length ≤ w.2.2.2.length := by
  rw [xs_ifCond] at hs
  split at hs
  · obtain rfl := xyes hs
    exact Nat.le_refl _
  · exact xno hs
theorem xM_ifnonnull {ext : List xC} {d nx : Nat} {info : List Nat} {L st : List Value} {h : xH} {o : Int} {w : Nat × List Value × List Value × xH} (hs : xs ext d (.ifnonnull o) nx info L st h = some w) : h.length ≤ w.2.2.2.length := by
  rw [xs_ifnonnull] at hs
  split at hs
  · obtain rfl := xyes hs
    exact Nat.le_refl _
  · obtain rfl := xyes hs
    exact Nat.le_refl _
  · exact xno hs
theorem xM_tableswitch {ext : List xC} {d nx : Nat} {info : List Nat} {L st : List Value} {h : xH} {dt lo hi : Int} {os : Array Int} {w : Nat × List Value × List Value × xH} (hs : xs ext d (.tableswitch dt lo hi os) nx info L st h = some w) : h.length ≤ w.2.2.2.length := by
  rw [xs_tableswitch] at hs
  split at hs
  · split at hs
    · obtain rfl := xyes hs
      exact Nat.le_refl _
    · obtain ⟨_, _, hs⟩ := Option.bind_eq_some_iff.mp hs
      obtain rfl := xyes hs
      exact Nat.le_refl _
  · exact xno hs
theorem xM_lookupswitch {ext : List xC} {d nx : Nat} {info : List Nat} {L st : List Value} {h : xH} {dt : Int} {prs : Array (Int × Int)} {w : Nat × List Value × List Value × xH} (hs : xs ext d (.lookupswitch dt prs) nx info L st h = some w) : h.length ≤ w.2.2.2.length := by
  rw [xs_lookupswitch] at hs
  split at hs
  · obtain rfl := xyes hs
    exact Nat.le_refl _
  · exact xno hs
theorem xM_getfield {ext : List xC} {d nx : Nat} {info : List Nat} {L st : List Value} {h : xH} {idx : Nat} {w : Nat × List Value × List Value × xH} (hs : xs ext d (.getfield idx) nx info L st h = some w) : h.length ≤ w.2.2.2.length := by
  rw [xs_getfield] at hs
  split at hs
  · obtain ⟨_, _, hs⟩ := Option.bind_eq_some_iff.mp hs
    obtain ⟨_, hs⟩ := xcond hs
    obtain ⟨_, _, hs⟩ := Option.bind_eq_some_iff.mp hs
    obtain rfl := xyes hs
    exact Nat.le_refl _
  · exact xno hs
theorem xM_putfield {ext : List xC} {d nx : Nat} {info : List Nat} {L st : List Value} {h : xH} {idx : Nat} {w : Nat × List Value × List Value × xH} (hs : xs ext d (.putfield idx) nx info L st h = some w) : h.length ≤ w.2.2.2.length := by
  rw [xs_putfield] at hs
  split at hs
  · obtain ⟨_, _, hs⟩ := Option.bind_eq_some_iff.mp hs
    obtain ⟨_, hs⟩ := xcond hs
    obtain rfl := xyes hs
    exact Nat.le_of_eq List.length_set.symm
  · exact xno hs
theorem xM_iaload {ext : List xC} {d nx : Nat} {info : List Nat} {L st : List Value} {h : xH}  {w : Nat × List Value × List Value × xH} (hs : xs ext d .iaload nx info L st h = some w) : h.length ≤ w.2.2.2.length := by
  rw [xs_iaload] at hs
  split at hs
  · obtain ⟨_, _, hs⟩ := Option.bind_eq_some_iff.mp hs
    obtain ⟨_, hs⟩ := xcond hs
    obtain ⟨_, _, hs⟩ := Option.bind_eq_some_iff.mp hs
    obtain rfl := xyes hs
    exact Nat.le_refl _
  · exact xno hs
theorem xM_baload {ext : List xC} {d nx : Nat} {info : List Nat} {L st : List Value} {h : xH}  {w : Nat × List Value × List Value × xH} (hs : xs ext d .baload nx info L st h = some w) : h.length ≤ w.2.2.2.length := by
  rw [xs_baload] at hs
  split at hs
  · obtain ⟨_, _, hs⟩ := Option.bind_eq_some_iff.mp hs
    obtain ⟨_, hs⟩ := xcond hs
    obtain ⟨_, _, hs⟩ := Option.bind_eq_some_iff.mp hs
    obtain rfl := xyes hs
    exact Nat.le_refl _
  · exact xno hs
theorem xM_aaload {ext : List xC} {d nx : Nat} {info : List Nat} {L st : List Value} {h : xH}  {w : Nat × List Value × List Value × xH} (hs : xs ext d .aaload nx info L st h = some w) : h.length ≤ w.2.2.2.length := by
  rw [xs_aaload] at hs
  split at hs
  · obtain ⟨_, _, hs⟩ := Option.bind_eq_some_iff.mp hs
    obtain ⟨_, hs⟩ := xcond hs
    obtain ⟨_, _, hs⟩ := Option.bind_eq_some_iff.mp hs
    obtain rfl := xyes hs
    exact Nat.le_refl _
  · exact xno hs
theorem xM_iastore {ext : List xC} {d nx : Nat} {info : List Nat} {L st : List Value} {h : xH}  {w : Nat × List Value × List Value × xH} (hs : xs ext d .iastore nx info L st h = some w) : h.length ≤ w.2.2.2.length := by
  rw [xs_iastore] at hs
  split at hs
  · obtain ⟨_, _, hs⟩ := Option.bind_eq_some_iff.mp hs
    obtain ⟨_, hs⟩ := xcond hs
    obtain ⟨_, _, hs⟩ := Option.bind_eq_some_iff.mp hs
    obtain rfl := xyes hs
    exact Nat.le_of_eq List.length_set.symm
  · exact xno hs
theorem xM_bastore {ext : List xC} {d nx : Nat} {info : List Nat} {L st : List Value} {h : xH}  {w : Nat × List Value × List Value × xH} (hs : xs ext d .bastore nx info L st h = some w) : h.length ≤ w.2.2.2.length := by
  rw [xs_bastore] at hs
  split at hs
  · obtain ⟨_, _, hs⟩ := Option.bind_eq_some_iff.mp hs
    obtain ⟨_, hs⟩ := xcond hs
    obtain ⟨_, _, hs⟩ := Option.bind_eq_some_iff.mp hs
    obtain rfl := xyes hs
    exact Nat.le_of_eq List.length_set.symm
  · exact xno hs
theorem xM_aastore {ext : List xC} {d nx : Nat} {info : List Nat} {L st : List Value} {h : xH}  {w : Nat × List Value × List Value × xH} (hs : xs ext d .aastore nx info L st h = some w) : h.length ≤ w.2.2.2.length := by
  rw [xs_aastore] at hs
  split at hs
  · obtain ⟨_, _, hs⟩ := Option.bind_eq_some_iff.mp hs
    obtain ⟨_, _, hs⟩ := Option.bind_eq_some_iff.mp hs
    obtain ⟨_, hs⟩ := xcond hs
    obtain ⟨_, _, hs⟩ := Option.bind_eq_some_iff.mp hs
    obtain rfl := xyes hs
    exact Nat.le_of_eq List.length_set.symm
  · exact xno hs
theorem xM_arraylength {ext : List xC} {d nx : Nat} {info : List Nat} {L st : List Value} {h : xH}  {w : Nat × List Value × List Value × xH} (hs : xs ext d .arraylength nx info L st h = some w) : h.length ≤ w.2.2.2.length := by
  rw [xs_arraylength] at hs
  split at hs
  · obtain ⟨_, _, hs⟩ := Option.bind_eq_some_iff.mp hs
    obtain ⟨_, hs⟩ := xcond hs
    obtain rfl := xyes hs
    exact Nat.le_refl _
  · exact xno hs
theorem xM_new {ext : List xC} {d nx : Nat} {info : List Nat} {L st : List Value} {h : xH} {idx : Nat} {w : Nat × List Value × List Value × xH} (hs : xs ext d (.new idx) nx info L st h = some w) : h.length ≤ w.2.2.2.length := by
  rw [xs_new] at hs
  split at hs
  · obtain ⟨h9, ha, hs⟩ := Option.bind_eq_some_iff.mp hs
    obtain rfl := xyes hs
    have e9 := (xadd_of ha).2.2
    subst e9
    exact Nat.le_trans (Nat.le_add_right _ _) (Nat.le_of_eq List.length_append.symm)
  · exact xno hs
theorem xM_newarray {ext : List xC} {d nx : Nat} {info : List Nat} {L st : List Value} {h : xH} {at9 : ArrayType} {w : Nat × List Value × List Value × xH} (hs : xs ext d (.newarray at9) nx info L st h = some w) : h.length ≤ w.2.2.2.length := by
  rw [xs_newarray] at hs
  split at hs
  · split at hs
    · exact xno hs
    · obtain ⟨h9, ha, hs⟩ := Option.bind_eq_some_iff.mp hs
      obtain rfl := xyes hs
      have e9 := (xadd_of ha).2.2
      subst e9
      exact Nat.le_trans (Nat.le_add_right _ _) (Nat.le_of_eq List.length_append.symm)
  · exact xno hs
theorem xM_anewarray {ext : List xC} {d nx : Nat} {info : List Nat} {L st : List Value} {h : xH} {idx : Nat} {w : Nat × List Value × List Value × xH} (hs : xs ext d (.anewarray idx) nx info L st h = some w) : h.length ≤ w.2.2.2.length := by
  rw [xs_anewarray] at hs
  split at hs
  · split at hs
    · exact xno hs
    · obtain ⟨h9, ha, hs⟩ := Option.bind_eq_some_iff.mp hs
      obtain rfl := xyes hs
      have e9 := (xadd_of ha).2.2
      subst e9
      exact Nat.le_trans (Nat.le_add_right _ _) (Nat.le_of_eq List.length_append.symm)
  · exact xno hs
theorem xM_multianewarray {ext : List xC} {d nx : Nat} {info : List Nat} {L st : List Value} {h : xH} {idx dm : Nat} {w : Nat × List Value × List Value × xH} (hs : xs ext d (.multianewarray idx dm) nx info L st h = some w) : h.length ≤ w.2.2.2.length := by
  rw [xs_multianewarray] at hs
  split at hs
  · split at hs
    · exact xno hs
    · obtain rfl := xyes hs
      exact Nat.le_trans (Nat.le_add_right _ _) (Nat.le_of_eq List.length_append.symm)
  · exact xno hs
theorem xM_getstatic {ext : List xC} {d nx : Nat} {info : List Nat} {L st : List Value} {h : xH} {idx : Nat} {w : Nat × List Value × List Value × xH} (hs : xs ext d (.getstatic idx) nx info L st h = some w) : h.length ≤ w.2.2.2.length := by
  rw [xs_getstatic] at hs
  split at hs
  · obtain rfl := xyes hs
    exact Nat.le_refl _
  · obtain rfl := xyes hs
    exact Nat.le_refl _
  · exact xno hs
theorem xM_invokestatic {ext : List xC} {d nx : Nat} {info : List Nat} {L st : List Value} {h : xH} {idx : Nat} {w : Nat × List Value × List Value × xH} (hs : xs ext d (.invokestatic idx) nx info L st h = some w) : h.length ≤ w.2.2.2.length := by
  rw [xs_invokestatic] at hs
  split at hs
  · obtain ⟨_, _, hs⟩ := Option.bind_eq_some_iff.mp hs
    obtain ⟨_, _, hs⟩ := Option.bind_eq_some_iff.mp hs
    split at hs
    · exact xno hs
    · obtain rfl := xyes hs
      exact Nat.le_of_eq List.length_set.symm
  · exact xno hs
theorem xM_invokespecial {ext : List xC} {d nx : Nat} {info : List Nat} {L st : List Value} {h : xH} {idx : Nat} {w : Nat × List Value × List Value × xH} (hs : xs ext d (.invokespecial idx) nx info L st h = some w) : h.length ≤ w.2.2.2.length := by
  rw [xs_invokespecial] at hs
  split at hs
  · split at hs
    · exact xno hs
    · obtain rfl := xyes hs
      exact Nat.le_refl _
  · exact xno hs
theorem xs_mono {ext : List xC} {d nx : Nat} {ins : Instr} {info : List Nat} {L st : List Value} {h : xH} {w : Nat × List Value × List Value × xH} (hs : xs ext d ins nx info L st h = some w) : h.length ≤ w.2.2.2.length := by
  cases ins with
  | iconst n => exact xM_iconst hs
  | bipush n => exact xM_bipush hs
  | sipush n => exact xM_sipush hs
  | lconst n => exact xM_lconst hs
  | ldc idx => exact xM_ldc hs
  | ldc_w idx => exact xM_ldc_w hs
  | ldc2_w idx => exact xM_ldc2_w hs
  | iload_n k => exact xM_iload_n hs
  | iload k => exact xM_iload hs
  | lload_n k => exact xM_lload_n hs
  | lload k => exact xM_lload hs
  | aload_n k => exact xM_aload_n hs
  | aload k => exact xM_aload hs
  | istore_n k => exact xM_istore_n hs
  | istore k => exact xM_istore hs
  | lstore_n k => exact xM_lstore_n hs
  | lstore k => exact xM_lstore hs
  | astore_n k => exact xM_astore_n hs
  | astore k => exact xM_astore hs
  | iinc k n => exact xM_iinc hs
  | iadd => exact xM_iadd hs
  | isub => exact xM_isub hs
  | imul => exact xM_imul hs
  | idiv => exact xM_idiv hs
  | irem => exact xM_irem hs
  | iand => exact xM_iand hs
  | ior => exact xM_ior hs
  | ixor => exact xM_ixor hs
  | ishl => exact xM_ishl hs
  | ishr => exact xM_ishr hs
  | ladd => exact xM_ladd hs
  | lmul => exact xM_lmul hs
  | ldiv => exact xM_ldiv hs
  | lrem => exact xM_lrem hs
  | lcmp => exact xM_lcmp hs
  | i2l => exact xM_i2l hs
  | i2b => exact xM_i2b hs
  | i2c => exact xM_i2c hs
  | dup => exact xM_dup hs
  | dup2 => exact xM_dup2 hs
  | pop => exact xM_pop hs
  | goto o => exact xM_goto hs
  | if_icmp cd o => exact xM_if_icmp hs
  | ifCond cd o => exact xM_ifCond hs
  | ifnonnull o => exact xM_ifnonnull hs
  | tableswitch dt lo hi os => exact xM_tableswitch hs
  | lookupswitch dt prs => exact xM_lookupswitch hs
  | getfield idx => exact xM_getfield hs
  | putfield idx => exact xM_putfield hs
  | iaload => exact xM_iaload hs
  | baload => exact xM_baload hs
  | aaload => exact xM_aaload hs
  | iastore => exact xM_iastore hs
  | bastore => exact xM_bastore hs
  | aastore => exact xM_aastore hs
  | arraylength => exact xM_arraylength hs
  | new idx => exact xM_new hs
  | newarray at9 => exact xM_newarray hs
  | anewarray idx => exact xM_anewarray hs
  | multianewarray idx dm => exact xM_multianewarray hs
  | getstatic idx => exact xM_getstatic hs
  | invokestatic idx => exact xM_invokestatic hs
  | invokespecial idx => exact xM_invokespecial hs
  | _ => exact xno hs
section XST
variable {p : Program} {l : Launch} {e : Env} {R : Room} {s : State} {m : MethodId} {args : Array Value} {below : List Frame} {meth : Method} {c : Code} {Q : State → Prop}
variable {B0 : Heap} {ev : Nat → Value} {ext : List xC} {D : va_G} {cA : Nat → ClassId} {mi n0 : Nat}
theorem xstep {pc d nx : Nat} {ins : Instr} {info ps : List Nat} {L st : List Value} {h : xH} {w : Nat × List Value × List Value × xH} (C : XC p s m meth c B0 ev ext D cA mi) (hq : xchk (xmt mi) (pc, ins, nx, info) ps = true) (hs : xs ext d ins nx info L st h = some w)
    (hr : w.2.2.2.length - n0 ≤ R.cells ∧ 1100 * (w.2.2.2.length - n0) ≤ R.slots) (hn : n0 ≤ h.length) (hdp : d ≤ R.frames ∧ 35 * d ≤ R.locals) (kk : xG p l e R s m args below meth c B0 ev D cA n0 Q w.1 w.2.1 w.2.2.1 w.2.2.2) : xG p l e R s m args below meth c B0 ev D cA n0 Q pc L st h := by
  cases ins with
  | iconst n => exact xS_iconst C hq hs hr hn hdp kk
  | bipush n => exact xS_bipush C hq hs hr hn hdp kk
  | sipush n => exact xS_sipush C hq hs hr hn hdp kk
  | lconst n => exact xS_lconst C hq hs hr hn hdp kk
  | ldc idx => exact xS_ldc C hq hs hr hn hdp kk
  | ldc_w idx => exact xS_ldc_w C hq hs hr hn hdp kk
  | ldc2_w idx => exact xS_ldc2_w C hq hs hr hn hdp kk
  | iload_n k => exact xS_iload_n C hq hs hr hn hdp kk
  | iload k => exact xS_iload C hq hs hr hn hdp kk
  | lload_n k => exact xS_lload_n C hq hs hr hn hdp kk
  | lload k => exact xS_lload C hq hs hr hn hdp kk
  | aload_n k => exact xS_aload_n C hq hs hr hn hdp kk
  | aload k => exact xS_aload C hq hs hr hn hdp kk
  | istore_n k => exact xS_istore_n C hq hs hr hn hdp kk
  | istore k => exact xS_istore C hq hs hr hn hdp kk
  | lstore_n k => exact xS_lstore_n C hq hs hr hn hdp kk
  | lstore k => exact xS_lstore C hq hs hr hn hdp kk
  | astore_n k => exact xS_astore_n C hq hs hr hn hdp kk
  | astore k => exact xS_astore C hq hs hr hn hdp kk
  | iinc k n => exact xS_iinc C hq hs hr hn hdp kk
  | iadd => exact xS_iadd C hq hs hr hn hdp kk
  | isub => exact xS_isub C hq hs hr hn hdp kk
  | imul => exact xS_imul C hq hs hr hn hdp kk
  | idiv => exact xS_idiv C hq hs hr hn hdp kk
  | irem => exact xS_irem C hq hs hr hn hdp kk
  | iand => exact xS_iand C hq hs hr hn hdp kk
  | ior => exact xS_ior C hq hs hr hn hdp kk
  | ixor => exact xS_ixor C hq hs hr hn hdp kk
  | ishl => exact xS_ishl C hq hs hr hn hdp kk
  | ishr => exact xS_ishr C hq hs hr hn hdp kk
  | ladd => exact xS_ladd C hq hs hr hn hdp kk
  | lmul => exact xS_lmul C hq hs hr hn hdp kk
  | ldiv => exact xS_ldiv C hq hs hr hn hdp kk
  | lrem => exact xS_lrem C hq hs hr hn hdp kk
  | lcmp => exact xS_lcmp C hq hs hr hn hdp kk
  | i2l => exact xS_i2l C hq hs hr hn hdp kk
  | i2b => exact xS_i2b C hq hs hr hn hdp kk
  | i2c => exact xS_i2c C hq hs hr hn hdp kk
  | dup => exact xS_dup C hq hs hr hn hdp kk
  | dup2 => exact xS_dup2 C hq hs hr hn hdp kk
  | pop => exact xS_pop C hq hs hr hn hdp kk
  | goto o => exact xS_goto C hq hs hr hn hdp kk
  | if_icmp cd o => exact xS_if_icmp C hq hs hr hn hdp kk
  | ifCond cd o => exact xS_ifCond C hq hs hr hn hdp kk
  | ifnonnull o => exact xS_ifnonnull C hq hs hr hn hdp kk
  | tableswitch dt lo hi os => exact xS_tableswitch C hq hs hr hn hdp kk
  | lookupswitch dt prs => exact xS_lookupswitch C hq hs hr hn hdp kk
  | getfield idx => exact xS_getfield C hq hs hr hn hdp kk
  | putfield idx => exact xS_putfield C hq hs hr hn hdp kk
  | iaload => exact xS_iaload C hq hs hr hn hdp kk
  | baload => exact xS_baload C hq hs hr hn hdp kk
  | aaload => exact xS_aaload C hq hs hr hn hdp kk
  | iastore => exact xS_iastore C hq hs hr hn hdp kk
  | bastore => exact xS_bastore C hq hs hr hn hdp kk
  | aastore => exact xS_aastore C hq hs hr hn hdp kk
  | arraylength => exact xS_arraylength C hq hs hr hn hdp kk
  | new idx => exact xS_new C hq hs hr hn hdp kk
  | newarray at9 => exact xS_newarray C hq hs hr hn hdp kk
  | anewarray idx => exact xS_anewarray C hq hs hr hn hdp kk
  | multianewarray idx dm => exact xS_multianewarray C hq hs hr hn hdp kk
  | getstatic idx => exact xS_getstatic C hq hs hr hn hdp kk
  | invokestatic idx => exact xS_invokestatic C hq hs hr hn hdp kk
  | invokespecial idx => exact xS_invokespecial C hq hs hr hn hdp kk
  | _ => exact xno hs
end XST
end
section
/-! A whole run of the small machine is a contract of the machine's. -/
theorem xrun_succ {ext : List xC} {n d mi pc : Nat} {L st : List Value} {h : xH} {z : Option Value × xH} (e : xrun ext (n + 1) d mi pc L st h = some z) : ∃ q : Instr × Nat × List Nat, xfind (xmt mi).2 pc = some q ∧
    ((∃ w, xs ext d q.1 q.2.1 q.2.2 L st h = some w ∧ xrun ext n d mi w.1 w.2.1 w.2.2.1 w.2.2.2 = some z) ∨
     (∃ r, xret (xmt mi).1.2.2.2 q.1 st = some r ∧ z = (r, h)) ∨
     (∃ (d' : Nat) (a : Nat × List Value × List Value) (b : Option Value × xH), d = d' + 1 ∧ xcallee ext q.1 q.2.2 st h = some a ∧ xcat a.2.2 ≤ 8 ∧ (xspread a.2.1).length ≤ xmax a.1 ∧ xrun ext n d' a.1 0 (xent (xmax a.1) a.2.1) [] h = some b ∧ xrun ext n (d' + 1) mi q.2.1 L (b.1.toList ++ a.2.2) b.2 = some z)) := by
  rw [xrun] at e
  obtain ⟨q, hq, e⟩ := Option.bind_eq_some_iff.mp e
  refine ⟨q, hq, ?_⟩
  cases hs : xs ext d q.1 q.2.1 q.2.2 L st h with
  | some w =>
    rw [hs] at e
    exact Or.inl ⟨w, rfl, e⟩
  | none =>
    rw [hs] at e
    cases hr : xret (xmt mi).1.2.2.2 q.1 st with
    | some r =>
      rw [hr] at e
      exact Or.inr (Or.inl ⟨r, rfl, xyes e⟩)
    | none =>
      rw [hr] at e
      cases d with
      | zero => exact xno e
      | succ d' =>
        obtain ⟨a, ha, e⟩ := Option.bind_eq_some_iff.mp e
        by_cases hc : 8 < xcat a.2.2 ∨ xmax a.1 < (xspread a.2.1).length
        · rw [if_pos hc] at e
          exact xno e
        · rw [if_neg hc] at e
          obtain ⟨b, hb, e⟩ := Option.bind_eq_some_iff.mp e
          exact Or.inr (Or.inr ⟨d', a, b, rfl, ha, Nat.not_lt.mp fun q => hc (Or.inl q), Nat.not_lt.mp fun q => hc (Or.inr q), hb, e⟩)
theorem xrun_mono {ext : List xC} : ∀ (n d mi pc : Nat) (L st : List Value) (h : xH) (z : Option Value × xH), xrun ext n d mi pc L st h = some z → h.length ≤ z.2.length
  | 0, _, _, _, _, _, _, _, e => xno e
  | n + 1, d, mi, pc, L, st, h, z, e => by
    obtain ⟨q, -, ⟨w, hs, hw⟩ | ⟨r, -, rfl⟩ | ⟨d', a, b, -, -, -, -, h1, h2⟩⟩ := xrun_succ e
    · exact Nat.le_trans (xs_mono hs) (xrun_mono n _ _ _ _ _ _ _ hw)
    · exact Nat.le_refl _
    · exact Nat.le_trans (xrun_mono n _ _ _ _ _ _ _ h1) (xrun_mono n _ _ _ _ _ _ _ h2)
theorem xfind_mem : ∀ {l : List xI} {pc : Nat} {q : Instr × Nat × List Nat}, xfind l pc = some q → (pc, q) ∈ l
  | [], _, _, h => xno h
  | a :: r, pc, q, h => by
    unfold xfind at h
    cases hb : Nat.beq a.1 pc with
    | true =>
      rw [hb] at h
      have e1 : a.1 = pc := Nat.eq_of_beq_eq_true hb
      have e2 : a.2 = q := Option.some.inj h
      rw [← e1, ← e2]
      exact List.mem_cons_self
    | false =>
      rw [hb] at h
      exact List.mem_cons_of_mem _ (xfind_mem h)
/-- as the kit's, for a method that no native stands for -/
theorem xmet_of {l : Launch} {y : MethodName} {ws ws' : List Jvm.Cond} {rm : Room} {Pc : Array Value → State → Prop} {Qc : Array Value → State → Outcome → State → Prop} {mc ms : Nat} {free : Addr → Prop} {cc : ByteArray} {maxL : Nat} {ret : Option FieldType}
    (hy : plainFor y = true) (hw : ws = Jvm.Cond.code y cc maxL ret :: ws')
    (body : ∀ p e s m args below meth c s₁, BodyLoose p l y (headSpec ws rm) cc maxL ret e s m args below meth c s₁ → c.maxLocals = maxL → Pc args s →
      W p l e (headSpec ws rm).room s m args below meth c s.heap [] 0 0 (MQ below Qc args s mc ms free) (entryFrame m args maxL)) : Met l y ws rm Pc Qc mc ms free := by
  refine MetFree.of_bodySF (code := cc) (maxLocals := maxL) (ret := ret) hy ?_ ?_
  · intro args s m h hn
    obtain ⟨meth, c, h1, h2, h3, h4, h5, h6, -, -⟩ := Cond.code_spec hn (atoms_spec (ws := ws) h _ (by rw [hw]; exact List.mem_cons_self))
    exact ⟨meth, c, h1, h2, h3, h4, h5, h6⟩
  · intro p e s m args below meth c s₁ B hml hP _
    have hh0 : s₁.heap = s.heap := by rw [B.state]; rfl
    obtain ⟨t, a1, o, b1, b2, b3⟩ := body p e s m args below meth c s₁ B hml hP s₁ hh0 (Stand.of_body B)
    exact ⟨t, o, a1, b1, b2, ⟨b3.1, b3.2⟩⟩
/-- a method's contract, as a run of the small machine says it -/
def xMet (l : Launch) (B0 : Heap) (ev : Nat → Value) (ext : List xC) (D : va_G) (cA : Nat → ClassId) (d mi : Nat) (vs : List Value) (h : xH) (r : Option Value) (h1 : xH) : Prop :=
  Met l (xmt mi).1.1 [.code (xmt mi).1.1 (xmt mi).1.2.1 (xmt mi).1.2.2.1 (xmt mi).1.2.2.2] { frames := d, cells := h1.length - h.length, slots := 1100 * (h1.length - h.length), locals := 35 * d }
    (fun a U => a = (vs.map (xv B0.size ev)).toArray ∧ XF B0 ev ext D cA U ∧ xR D cA B0 ev h U.heap) (fun _ _ o t => o = .returned (r.map (xv B0.size ev)) ∧ xR D cA B0 ev h1 t.heap) (h1.length - h.length) (1100 * (h1.length - h.length)) (fun q => B0.size ≤ q)
theorem xblind {B0 : Heap} {ev : Nat → Value} {ext : List xC} {D : va_G} {cA : Nat → ClassId} {vs : List Value} {h : xH} : FrameBlind (fun a U => a = (vs.map (xv B0.size ev)).toArray ∧ XF B0 ev ext D cA U ∧ xR D cA B0 ev h U.heap) :=
  fun a U g mk q => ⟨q.1, XF.warm (s := U) (U := U.calling g mk a) (State.WarmedH.refl U) q.2.1, q.2.2⟩
section XRN
variable {p : Program} {l : Launch} {e : Env} {R : Room} {s : State} {m : MethodId} {args : Array Value} {below : List Frame} {meth : Method} {c : Code} {Q : State → Prop}
variable {B0 : Heap} {ev : Nat → Value} {ext : List xC} {D : va_G} {cA : Nat → ClassId} {mi n0 : Nat}
/-- behind a call: what va_Run says, and the rest of the walk -/
theorem xcall_go {pc : Nat} {L st rest : List Value} {h h1 : xH} {r : Option Value} {H : Heap} {locs : List Loc} {ls : Array Slot}
    (hrun : va_Run p l e R s m args below meth c H locs (h.length - n0) (1100 * (h.length - n0)) (h1.length - h.length) (1100 * (h1.length - h.length)) (F0 m pc ls (st.map (xv B0.size ev))) (rest.map (xv B0.size ev)) (fun (_ : State) (o : Outcome) (t : State) => o = .returned (r.map (xv B0.size ev)) ∧ xR D cA B0 ev h1 t.heap) (fun q => B0.size ≤ q))
    (hn : n0 ≤ h.length) (hm : h.length ≤ h1.length) (hlo : ∀ q ∈ locs, B0.size ≤ q.base) (hl : xLs B0.size ev L ls) (hz9 : ls.size = c.maxLocals) (kk : xG p l e R s m args below meth c B0 ev D cA n0 Q (pc + 3) L (r.toList ++ rest) h1) :
    W p l e R s m args below meth c H locs (h.length - n0) (1100 * (h.length - n0)) Q (F0 m pc ls (st.map (xv B0.size ev))) := by
  intro T hT X
  obtain ⟨v, st₀, t, T', L', h0, X', hL, e1, e2, ⟨hv, hR1⟩, go⟩ := hrun T hT X
  have hv : v = r.map (xv B0.size ev) := Outcome.returned.inj hv
  subst hv
  have en : h.length - n0 + (h1.length - h.length) = h1.length - n0 := by omega
  have en2 : 1100 * (h.length - n0) + 1100 * (h1.length - h.length) = 1100 * (h1.length - n0) := by omega
  rw [en, en2] at X'
  have k9 := kk T'.heap (locs ++ L') ls (by rw [e1]; exact hR1) (fun q hq => (List.mem_append.mp hq).elim (hlo q) (hL q)) hl hz9 T' rfl X'
  obtain ⟨t2, a1, b1⟩ := k9
  refine ⟨t2, go t2 ?_, b1⟩
  have e5 : (r.toList ++ rest).map (xv B0.size ev) = (r.map (xv B0.size ev)).toList ++ rest.map (xv B0.size ev) := by
    rw [List.map_append]
    cases r <;> rfl
  rw [e5] at a1
  exact a1
theorem xcal_of {m9 : xM} {na : Nat} {b : Bool} (h : xcalI m9 na b = true) : (m9.1.1.cls ≠ "java/lang/invoke/MethodHandle" ∧ m9.1.1.cls ≠ "java/lang/invoke/VarHandle") ∧ (∀ sig, parseMethodDescriptor m9.1.1.desc = some sig → na = sig.parameters.length) ∧ m9.1.2.2.1 ≤ 16 ∧ plainFor m9.1.1 = true ∧ b = true := by
  unfold xcalI at h
  rw [Bool.and_eq_true, Bool.and_eq_true, Bool.and_eq_true, Bool.and_eq_true] at h
  refine ⟨of_decide_eq_true h.1, fun sig hs => ?_, of_decide_eq_true h.2.2.1, h.2.2.2.1, h.2.2.2.2⟩
  have h2 := of_decide_eq_true h.2.1
  rw [hs] at h2
  exact (Option.some.inj h2).symm
theorem xlink_of {ps : List Nat} {own : String} {idx : Nat} {y : MethodName} (h : xlinkI ps own idx y = true) : Jvm.Cond.methodLink own idx y ∈ lw_tbl ∨ Jvm.Cond.methodLinkNest own idx y xhost ∈ lw_tbl := by
  unfold xlinkI at h
  rw [Bool.or_eq_true] at h
  exact h.imp xwI_mem xwI_mem
/-- what the callee's word pays -/
theorem xpay (hF : XF B0 ev ext D cA s) {m9 : xM} (hc : Jvm.Cond.code m9.1.1 m9.1.2.1 m9.1.2.2.1 m9.1.2.2.2 ∈ lw_tbl) : ∀ w ∈ [Jvm.Cond.code m9.1.1 m9.1.2.1 m9.1.2.2.1 m9.1.2.2.2], ∀ (a' : Array Value) (U : State), s.WarmedH U.vm → w.before a' U = true := by
  intro w hw a' U hW
  rw [List.mem_singleton.mp hw]
  exact (hF.warm hW).w hc rfl a'
theorem xsplit {st : List Value} {na : Nat} {f : Value → Value} : ((st.take na).reverse.map f).reverse ++ (st.drop na).map f = st.map f := by
  rw [← List.map_reverse, List.reverse_reverse, ← List.map_append, List.take_append_drop]
theorem xcall_static {pc d' nx na mj idx : Nat} {ps : List Nat} {L st : List Value} {h h1 : xH} {r : Option Value} (C : XC p s m meth c B0 ev ext D cA mi) (hq : xchk (xmt mi) (pc, .invokestatic idx, nx, [na, mj]) ps = true) (hna : na ≤ st.length)
    (hcat : xcat (st.drop na) ≤ 8) (hM : xMet l B0 ev ext D cA d' mj (st.take na).reverse h r h1) (hr : h1.length - n0 ≤ R.cells ∧ 1100 * (h1.length - n0) ≤ R.slots) (hn : n0 ≤ h.length) (hm : h.length ≤ h1.length) (hdp : d' + 1 ≤ R.frames ∧ 35 * (d' + 1) ≤ R.locals)
    (kk : xG p l e R s m args below meth c B0 ev D cA n0 Q nx L (r.toList ++ st.drop na) h1) : xG p l e R s m args below meth c B0 ev D cA n0 Q pc L st h := by
  obtain ⟨hx, hb, hml, hown, hnm, hF, hz0, hs0, hev⟩ := id C
  obtain ⟨hd, rfl, hck⟩ := xchk_len 3 hq (fun n9 h9 => Nat.eq_of_beq_eq_true h9)
  have hck' : (xlinkI ps (xmt mi).1.1.cls idx (xmt mj).1.1 && (xwI ps 1 (.static (xmt mj).1.1) && (xwI ps 2 (.initialized (xmt mj).1.1.cls) && xcalI (xmt mj) na (xcod ps 3 (xmt mj))))) = true := by
    have h9 := hck
    simp only [xchkI] at h9
    exact h9
  rw [Bool.and_eq_true, Bool.and_eq_true, Bool.and_eq_true] at hck'
  obtain ⟨hl0, w1, w2, hcal⟩ := hck'
  obtain ⟨c1, c2, c3, c4, c5⟩ := xcal_of hcal
  have hcw := xwI_mem (show xwI ps 3 (.code (xmt mj).1.1 (xmt mj).1.2.1 (xmt mj).1.2.2.1 (xmt mj).1.2.2.2) = true from c5)
  intro H locs ls hR hlo hl hz9
  have hf : h.length - n0 + (h1.length - h.length) ≤ R.cells ∧ 1100 * (h.length - n0) + 1100 * (h1.length - h.length) ≤ R.slots := ⟨by omega, by omega⟩
  have hlen : ((st.take na).reverse.map (xv B0.size ev)).length = na := by rw [List.length_map, List.length_reverse, List.length_take]; omega
  have hW8 : 2 * (F0 m pc ls (st.map (xv B0.size ev))).monitorRoom + (((st.drop na).map (xv B0.size ev)).map fun v => v.category).sum ≤ 8 := by
    rw [xcat_map hev]
    show 2 * 0 + xcat (st.drop na) ≤ 8
    omega
  have hPre : PreS s H (fun a U => a = ((st.take na).reverse.map (xv B0.size ev)).toArray ∧ XF B0 ev ext D cA U ∧ xR D cA B0 ev h U.heap) ((st.take na).reverse.map (xv B0.size ev)) := ⟨xblind, fun U hU hW => ⟨rfl, hF.warm hW, by rw [hU]; exact hR⟩⟩
  rcases xlink_of hl0 with hl1 | hl1
  · exact xcall_go (va_runS (Ts := []) ⟨hx, hb, rfl, hown, fun _ h9 => absurd h9 List.not_mem_nil⟩ hM ⟨⟨rfl, rfl, hdp.1, (by show 8 + ((xmt mj).1.2.2.1 + 11) + 35 * d' ≤ R.locals; omega), xpay hF hcw, List.mem_singleton.mpr rfl, hF.w hcw rfl args, hF.w (xwI_mem w2) rfl args, c1, c2, hF.w hl1 rfl args⟩, hF.w (xwI_mem w1) rfl args⟩ hPre rfl hlen hz9 xsplit.symm hW8 hd hf) hn hm hlo hl hz9 kk
  · exact xcall_go (va_runSN (Ts := []) ⟨hx, hb, rfl, hown, fun _ h9 => absurd h9 List.not_mem_nil⟩ hM ⟨⟨⟨rfl, rfl, hdp.1, (by show 8 + ((xmt mj).1.2.2.1 + 11) + 35 * d' ≤ R.locals; omega), xpay hF hcw, List.mem_singleton.mpr rfl⟩, hF.w hcw rfl args, hF.w (xwI_mem w2) rfl args, c1, c2, hF.w hl1 rfl args⟩, hF.w (xwI_mem w1) rfl args, trivial⟩ hPre rfl hlen hz9 xsplit.symm hW8 hd hf) hn hm hlo hl hz9 kk
/-- the receiver of a call: its address, its cell, its class -/
theorem xrecv (hF : XF B0 ev ext D cA s) {h : xH} {H : Heap} (hR : xR D cA B0 ev h H) {v : Value} {t : xC} (hg : xget ext h v = some t) {Cn : String} (hc : xcn t.1 = some Cn) :
    ∃ (b : Addr) (cell : Cell), xv B0.size ev v = .ref b ∧ H[b]? = some cell ∧ cell.vm.isStatics = false ∧ s.vm.findClass Cn = some cell.cls := by
  unfold xcn at hc
  by_cases h13 : t.1 = 13
  · rw [if_pos h13] at hc
    obtain rfl := xyes hc
    cases v with
    | ref a =>
      obtain ⟨r9, h9, -⟩ := xat_ob (hR.2.2 a t hg) (by omega)
      have := xcl_lt h9
      omega
    | retAddr j =>
      obtain ⟨a, cell, e1, e2, e3, e4⟩ := hF.2.2.2.1 j t.1 t.2 hg
      rw [if_pos h13] at e4
      exact ⟨a, cell, e1, by rw [hR.2.1 a e2]; exact e3, e4.1, e4.2.1⟩
    | _ => exact xno hg
  · rw [if_neg h13] at hc
    obtain ⟨r9, h9, rfl⟩ := Option.map_eq_some_iff.mp hc
    have hlt := xcl_lt h9
    cases v with
    | ref a =>
      obtain ⟨r8, h8, cell, q1, q2, q3, q4⟩ := xat_ob (hR.2.2 a t hg) (by omega)
      cases h9.symm.trans h8
      exact ⟨B0.size + a, cell, rfl, q1, by rw [q3]; rfl, by rw [q2]; exact (hF.2.1.1 t.1 r9 h9).2.1⟩
    | retAddr j =>
      obtain ⟨a, cell, -, -, -, e4⟩ := hF.2.2.2.1 j t.1 t.2 hg
      rw [if_neg h13] at e4
      omega
    | _ => exact xno hg
theorem xsplitV {st r : List Value} {na : Nat} {v : Value} {b : Addr} {f : Value → Value} (h : st.drop na = v :: r) (hv : f v = .ref b) : st.map f = ((st.take na).reverse.map f).reverse ++ .ref b :: r.map f := by
  rw [← xsplit (na := na), h, List.map_cons, hv]
theorem xlenV {st r : List Value} {na : Nat} {v : Value} (h : st.drop na = v :: r) : (st.take na).length = na := by
  have : (st.drop na).length = r.length + 1 := by rw [h]; rfl
  rw [List.length_drop] at this
  rw [List.length_take]
  omega
theorem xcall_virt {pc d' nx na ci mj idx : Nat} {ps : List Nat} {L st r9 : List Value} {v : Value} {t : xC} {h h1 : xH} {r : Option Value} (C : XC p s m meth c B0 ev ext D cA mi) (hd : decode (xmt mi).1.2.1 pc = .ok (.invokevirtual idx, 3)) (hnx : nx = pc + 3)
    (hck : xvirI (xmt mi).1.1.cls idx na ci mj ps = true) (hdr : st.drop na = v :: r9) (hg : xget ext h v = some t) (ht : t.1 = ci)
    (hcat : xcat r9 ≤ 8) (hM : xMet l B0 ev ext D cA d' mj (v :: (st.take na).reverse) h r h1) (hr : h1.length - n0 ≤ R.cells ∧ 1100 * (h1.length - n0) ≤ R.slots) (hn : n0 ≤ h.length) (hm : h.length ≤ h1.length) (hdp : d' + 1 ≤ R.frames ∧ 35 * (d' + 1) ≤ R.locals)
    (kk : xG p l e R s m args below meth c B0 ev D cA n0 Q nx L (r.toList ++ r9) h1) : xG p l e R s m args below meth c B0 ev D cA n0 Q pc L st h := by
  obtain ⟨hx, hb, hml, hown, hnm, hF, hz0, hs0, hev⟩ := id C
  subst hnx
  unfold xvirI at hck
  rw [Bool.and_eq_true, Bool.and_eq_true, Bool.and_eq_true, Bool.and_eq_true, Bool.and_eq_true] at hck
  obtain ⟨hcn, w0, w1, w2, w3, hcal⟩ := hck
  obtain ⟨c1, c2, c3, c4, c5⟩ := xcal_of hcal
  have hcw := xwI_mem (show xwI ps 4 (.code (xmt mj).1.1 (xmt mj).1.2.1 (xmt mj).1.2.2.1 (xmt mj).1.2.2.2) = true from c5)
  have hcn : xcn t.1 = some (xmt mj).1.1.cls := by rw [ht]; exact of_decide_eq_true hcn
  intro H locs ls hR hlo hl hz9
  have hf : h.length - n0 + (h1.length - h.length) ≤ R.cells ∧ 1100 * (h.length - n0) + 1100 * (h1.length - h.length) ≤ R.slots := ⟨by omega, by omega⟩
  obtain ⟨b, cell, e1, e2, e3, e4⟩ := xrecv hF hR hg hcn
  have hlen : ((st.take na).reverse.map (xv B0.size ev)).length = na := by rw [List.length_map, List.length_reverse]; exact xlenV hdr
  have hW8 : 2 * (F0 m pc ls (st.map (xv B0.size ev))).monitorRoom + ((r9.map (xv B0.size ev)).map fun v => v.category).sum ≤ 8 := by
    rw [xcat_map hev]
    show 2 * 0 + xcat r9 ≤ 8
    omega
  refine xcall_go (va_runV (Ts := []) ⟨hx, hb, rfl, hown, fun _ h9 => absurd h9 List.not_mem_nil⟩ hM ⟨⟨rfl, rfl, hdp.1, (by show 8 + ((xmt mj).1.2.2.1 + 11) + 35 * d' ≤ R.locals; omega), xpay hF hcw, List.mem_singleton.mpr rfl, hF.w hcw rfl args, hF.w (xwI_mem w3) rfl args, c1, c2, hF.w (xwI_mem w0) rfl args⟩, hF.w (xwI_mem w1) rfl args, hF.w (xwI_mem w2) rfl args⟩
    ⟨xblind, ⟨cell, e2, e3, e4⟩, fun U hU hW => ⟨by rw [List.map_cons, e1], hF.warm hW, by rw [hU]; exact hR⟩⟩ rfl hlen hz9 (xsplitV hdr e1) hW8 hd hf) hn hm hlo hl hz9 kk
/-- a call by the receiver's class, at the class's place in the table -/
theorem xdis_at {own : String} {idx na : Nat} {ps : List Nat} {ci mj : Nat} : ∀ {tb : List Nat} {j : Nat}, xdisI own idx na ps tb j = true → xpairs tb ci = some mj → ∃ j', xdisI own idx na ps [ci, mj] j' = true
  | [], _, _, h => xno h
  | [_], _, h, _ => by cases h
  | a :: b :: r, j, h, hp => by
    unfold xpairs at hp
    unfold xdisI at h
    rw [Bool.and_eq_true] at h
    cases hb : Nat.beq a ci with
    | true =>
      rw [hb] at hp
      have e1 : a = ci := Nat.eq_of_beq_eq_true hb
      have e2 : b = mj := Option.some.inj hp
      subst e1
      subst e2
      refine ⟨j, ?_⟩
      unfold xdisI
      rw [Bool.and_eq_true]
      exact ⟨h.1, rfl⟩
    | false =>
      rw [hb] at hp
      exact xdis_at h.2 hp
theorem xcall_dis {pc d' nx na ci mj idx j : Nat} {ps : List Nat} {L st r9 : List Value} {v : Value} {t : xC} {h h1 : xH} {r : Option Value} (C : XC p s m meth c B0 ev ext D cA mi) (hd : decode (xmt mi).1.2.1 pc = .ok (.invokevirtual idx, 3)) (hnx : nx = pc + 3)
    (hck : xdisI (xmt mi).1.1.cls idx na ps [ci, mj] j = true) (hdr : st.drop na = v :: r9) (hg : xget ext h v = some t) (ht : t.1 = ci)
    (hcat : xcat r9 ≤ 8) (hM : xMet l B0 ev ext D cA d' mj (v :: (st.take na).reverse) h r h1) (hr : h1.length - n0 ≤ R.cells ∧ 1100 * (h1.length - n0) ≤ R.slots) (hn : n0 ≤ h.length) (hm : h.length ≤ h1.length) (hdp : d' + 1 ≤ R.frames ∧ 35 * (d' + 1) ≤ R.locals)
    (kk : xG p l e R s m args below meth c B0 ev D cA n0 Q nx L (r.toList ++ r9) h1) : xG p l e R s m args below meth c B0 ev D cA n0 Q pc L st h := by
  obtain ⟨hx, hb, hml, hown, hnm, hF, hz0, hs0, hev⟩ := id C
  subst hnx
  unfold xdisI at hck
  rw [Bool.and_eq_true] at hck
  have hck := hck.1
  split at hck
  · rename_i c9 o i x xc ow nm9 ds hc9 hk0 hk1
    rw [Bool.and_eq_true, Bool.and_eq_true, Bool.and_eq_true, Bool.and_eq_true, Bool.and_eq_true, Bool.and_eq_true] at hck
    obtain ⟨hall, w1, w2, w3, w4, w5, hcal⟩ := hck
    obtain ⟨rfl, rfl, rfl, rfl, rfl, hds, hmh1, hmh2⟩ := of_decide_eq_true hall
    obtain ⟨c1, c2, c3, c4, c5⟩ := xcal_of hcal
    have hcw := xwI_mem (show xwI ps (j + 6) (.code (xmt mj).1.1 (xmt mj).1.2.1 (xmt mj).1.2.2.1 (xmt mj).1.2.2.2) = true from c5)
    have hcn : xcn t.1 = some c9.1 := by
      have := xcl_lt hc9
      unfold xcn
      rw [ht, if_neg (by omega), hc9]
      rfl
    have hdecl : va_Decl s ⟨ow, x.name, x.desc⟩ := by
      split at w2
      · rename_i z b0 m0 r0 hk2
        have hz := of_decide_eq_true w2
        have := hF.w (List.mem_of_getElem? hk2) rfl args
        rw [hz] at this
        exact va_Decl.of (hF.w (xwI_mem w1) rfl args) this
      · cases w2
    intro H locs ls hR hlo hl hz9
    have hf : h.length - n0 + (h1.length - h.length) ≤ R.cells ∧ 1100 * (h.length - n0) + 1100 * (h1.length - h.length) ≤ R.slots := ⟨by omega, by omega⟩
    obtain ⟨b, cell, e1, e2, e3, e4⟩ := xrecv hF hR hg hcn
    have hlen : ((st.take na).reverse.map (xv B0.size ev)).length = na := by rw [List.length_map, List.length_reverse]; exact xlenV hdr
    have hW8 : 2 * (F0 m pc ls (st.map (xv B0.size ev))).monitorRoom + ((r9.map (xv B0.size ev)).map fun v => v.category).sum ≤ 8 := by
      rw [xcat_map hev]
      show 2 * 0 + xcat r9 ≤ 8
      omega
    refine xcall_go (va_runU (Ts := []) (x := x) (owner := ow) ⟨hx, hb, rfl, hown, fun _ h9 => absurd h9 List.not_mem_nil⟩ hM ⟨⟨rfl, rfl, hdp.1, (by show 8 + ((xmt mj).1.2.2.1 + 11) + 35 * d' ≤ R.locals; omega), xpay hF hcw, List.mem_singleton.mpr rfl⟩, hF.w hcw rfl args, hF.w (xwI_mem w5) rfl args, ⟨hmh1, hmh2⟩, (fun sig h9 => c2 sig (by rw [hds]; exact h9)), hF.w (List.mem_of_getElem? hk0) rfl args, hF.w (List.mem_of_getElem? hk1) rfl args, hdecl, hF.w (xwI_mem w3) rfl args, hF.w (xwI_mem w4) rfl args⟩
      ⟨xblind, ⟨cell, e2, e3, e4⟩, fun U hU hW => ⟨by rw [List.map_cons, e1], hF.warm hW, by rw [hU]; exact hR⟩⟩ rfl hlen hz9 (xsplitV hdr e1) hW8 hd hf) hn hm hlo hl hz9 kk
  · cases hck
theorem xcall_init {pc d' nx na mj idx a : Nat} {ps : List Nat} {L st r9 : List Value} {h h1 : xH} {r : Option Value} (C : XC p s m meth c B0 ev ext D cA mi) (hd : decode (xmt mi).1.2.1 pc = .ok (.invokespecial idx, 3)) (hnx : nx = pc + 3)
    (hin : (xmt mj).1.1.name = "<init>") (hck : (xlinkI ps (xmt mi).1.1.cls idx (xmt mj).1.1 && (xwI ps 1 (.instanceMethod (xmt mj).1.1) && (xwI ps 2 (.initialized (xmt mj).1.1.cls) && xcalI (xmt mj) na (xcod ps 3 (xmt mj) && decide ((xmt mj).1.2.2.2 = none))))) = true) (hdr : st.drop na = .ref a :: r9)
    (hcat : xcat r9 ≤ 8) (hM : xMet l B0 ev ext D cA d' mj (.ref a :: (st.take na).reverse) h r h1) (hr : h1.length - n0 ≤ R.cells ∧ 1100 * (h1.length - n0) ≤ R.slots) (hn : n0 ≤ h.length) (hm : h.length ≤ h1.length) (hdp : d' + 1 ≤ R.frames ∧ 35 * (d' + 1) ≤ R.locals)
    (kk : xG p l e R s m args below meth c B0 ev D cA n0 Q nx L (r.toList ++ r9) h1) : xG p l e R s m args below meth c B0 ev D cA n0 Q pc L st h := by
  obtain ⟨hx, hb, hml, hown, hnm, hF, hz0, hs0, hev⟩ := id C
  subst hnx
  rw [Bool.and_eq_true, Bool.and_eq_true, Bool.and_eq_true] at hck
  obtain ⟨hl0, w1, w2, hcal⟩ := hck
  obtain ⟨c1, c2, c3, c4, c5⟩ := xcal_of hcal
  rw [Bool.and_eq_true] at c5
  have hret : (xmt mj).1.2.2.2 = none := of_decide_eq_true c5.2
  have hcw := xwI_mem (show xwI ps 3 (.code (xmt mj).1.1 (xmt mj).1.2.1 (xmt mj).1.2.2.1 (xmt mj).1.2.2.2) = true from c5.1)
  intro H locs ls hR hlo hl hz9
  have hf : h.length - n0 + (h1.length - h.length) ≤ R.cells ∧ 1100 * (h.length - n0) + 1100 * (h1.length - h.length) ≤ R.slots := ⟨by omega, by omega⟩
  have hlen : ((st.take na).reverse.map (xv B0.size ev)).length = na := by rw [List.length_map, List.length_reverse]; exact xlenV hdr
  have hW8 : 2 * (F0 m pc ls (st.map (xv B0.size ev))).monitorRoom + ((r9.map (xv B0.size ev)).map fun v => v.category).sum ≤ 8 := by
    rw [xcat_map hev]
    show 2 * 0 + xcat r9 ≤ 8
    omega
  have hM' := hM
  unfold xMet at hM'
  have hp := xpay hF hcw
  have hc0 : (Jvm.Cond.code (xmt mj).1.1 (xmt mj).1.2.1 (xmt mj).1.2.2.1 (xmt mj).1.2.2.2).before args s = true := hF.w hcw rfl args
  rw [hret] at hM' hp hc0
  have hPre : PreS s H (fun a9 U => a9 = ((Value.ref a :: (st.take na).reverse).map (xv B0.size ev)).toArray ∧ XF B0 ev ext D cA U ∧ xR D cA B0 ev h U.heap) (Value.ref (B0.size + a) :: (st.take na).reverse.map (xv B0.size ev)) := ⟨xblind, fun U hU hW => ⟨rfl, hF.warm hW, by rw [hU]; exact hR⟩⟩
  rcases xlink_of hl0 with hl1 | hl1
  · exact xcall_go (va_runI (Ts := []) ⟨hx, hb, rfl, hown, fun _ h9 => absurd h9 List.not_mem_nil⟩ hM' ⟨⟨rfl, rfl, hdp.1, (by show 8 + ((xmt mj).1.2.2.1 + 11) + 35 * d' ≤ R.locals; omega), hp, List.mem_singleton.mpr rfl, hc0, hF.w (xwI_mem w2) rfl args, c1, c2, hF.w hl1 rfl args⟩, hin, hF.w (xwI_mem w1) rfl args⟩ hPre rfl hlen hz9 (xsplitV (f := xv B0.size ev) hdr rfl) hW8 hd hf) hn hm hlo hl hz9 kk
  · exact xcall_go (va_runIN (Ts := []) ⟨hx, hb, rfl, hown, fun _ h9 => absurd h9 List.not_mem_nil⟩ hM' ⟨⟨⟨rfl, rfl, hdp.1, (by show 8 + ((xmt mj).1.2.2.1 + 11) + 35 * d' ≤ R.locals; omega), hp, List.mem_singleton.mpr rfl⟩, hc0, hF.w (xwI_mem w2) rfl args, c1, c2, hF.w hl1 rfl args⟩, hin, hF.w (xwI_mem w1) rfl args⟩ hPre rfl hlen hz9 (xsplitV (f := xv B0.size ev) hdr rfl) hW8 hd hf) hn hm hlo hl hz9 kk
end XRN
end
section
/-! super.m(..), and the whole: xsound. -/
theorem xsub_self (vm : Vm) (k : ClassId) : vm.isSubclass k k = true := by simp [Vm.isSubclass, Vm.isSubclassAux]
theorem xsub_up {vm : Vm} {k k2 : ClassId} {dk : Class} (h : vm.classes[k]? = some dk) (hs : dk.super = some k2) : vm.isSubclass k k2 = true := by
  have hlt : k < vm.classes.size := (Array.getElem?_eq_some_iff.mp h).1
  by_cases e : k = k2
  · subst e
    exact xsub_self vm k
  · obtain ⟨n, hn⟩ : ∃ n, vm.classes.size = n + 1 := Nat.exists_eq_add_one_of_ne_zero (Nat.ne_of_gt (Nat.lt_of_le_of_lt (Nat.zero_le _) hlt))
    cases n <;> simp [Vm.isSubclass, hn, Vm.isSubclassAux, h, hs, e]
section XSU
variable {p : Program} {l : Launch} {e : Env} {R : Room} {s : State} {m : MethodId} {args : Array Value} {below : List Frame} {meth : Method} {c : Code} {H : Heap} {locs : List Loc} {cells slots : Nat}
theorem xrunSU {x y : MethodName} {bytes cc : ByteArray} {maxL nL mc ms n index : Nat} {ret : Option FieldType} {ws : List Jvm.Cond} {rm : Room} {Pc : Array Value → State → Prop} {Qc : Array Value → State → Outcome → State → Prop} {free : Addr → Prop} {own C : String} {cC : ClassId} {b : Addr} {As rest : List Value} {g : JFrame}
    (hat : ClassAt s C cC) (hx : p.tables.exec = Jvm.exec) (hb : c.code = cc) (hml : c.maxLocals = nL) (ho : s.vm.findClass own = some m.cls) (hM : Met l y ws rm Pc Qc mc ms free)
    (hrc : rm.cells = mc) (hrs : rm.slots = ms) (hfr : rm.frames + 1 ≤ R.frames) (hlo : 8 + (maxL + 11) + rm.locals ≤ R.locals) (hws : ∀ w ∈ ws, ∀ (a' : Array Value) (U : State), s.WarmedH U.vm → w.before a' U = true) (hcw : Jvm.Cond.code y bytes maxL ret ∈ ws)
    (hlink : (Jvm.Cond.methodLink own index x).before args s = true) (hsame : (Jvm.Cond.sameMethod x.cls y.cls x.name x.desc).before args s = true) (hsup : (Jvm.Cond.superclass own x.cls).before args s = true) (hxy : x.cls = y.cls ∨ (Jvm.Cond.superclass x.cls y.cls).before args s = true) (hnm : x.name = y.name) (hds : x.desc = y.desc)
    (hinst : (Jvm.Cond.instanceMethod y).before args s = true) (hini : (Jvm.Cond.initialized y.cls).before args s = true) (hcode : (Jvm.Cond.code y bytes maxL ret).before args s = true) (hno : x.name ≠ "<init>") (hlen : ∀ sig, parseMethodDescriptor y.desc = some sig → n = sig.parameters.length)
    (hp : PreV s H C b Pc As) (hg : g.method = m) (hn : As.length = n) (hsize : g.locals.size = nL) (hstack : g.stack = As.reverse ++ .ref b :: rest) (hW : 2 * g.monitorRoom + (rest.map fun v => v.category).sum ≤ 8) (hdg : decode cc g.pc = .ok (.invokespecial index, 3)) (hf : cells + mc ≤ R.cells ∧ slots + ms ≤ R.slots) :
    va_Run p l e R s m args below meth c H locs cells slots mc ms g rest (Qc (Value.ref b :: As).toArray) (free) := by
  have hK : Back l R p e below s args y 3 8 (PreOf R mc ms Pc) (PostOf Qc mc ms free) := back_of (bytes := bytes) (maxL := maxL) (ret := ret) hM hp.1 hrc hrs hfr hlo hws hcw (fun a' U hW => word_at hW (Or.inl (by first | rfl | simp [Cond.onTables, Cond.keeps, Cond.steady])) hini)
  obtain ⟨-, ⟨cellB, hcB, hoB, hclB⟩, hPc⟩ := hp
  obtain ⟨hfc, kB, hkB, -⟩ := hat
  cases hfc.symm.trans hclB
  obtain ⟨mk, methM, hnamed, hmethM, hstM, habM⟩ := Cond.instanceMethod_spec hinst
  obtain ⟨methM', cM, hmethM', -, -, -, -, -, -, hsigM⟩ := Cond.code_spec hnamed hcode
  cases hmethM.symm.trans hmethM'
  obtain ⟨psc, dk, kp, hps, hdk, hkp, hsuper, -, -, hnid⟩ := Cond.superclass_spec ho hsup
  have hn9 : s.methodNamed? ⟨y.cls, x.name, x.desc⟩ = some mk := by rw [hnm, hds]; exact hnamed
  have hmk := findClass_of_methodNamed hnamed
  have hsub : s.vm.isSubclass psc mk.cls = true := by
    rcases hxy with hxy | hxy
    · rw [hxy] at hps
      have : psc = mk.cls := Option.some.inj (hps.symm.trans hmk)
      rw [this]
      exact xsub_self _ _
    · obtain ⟨p2, dk2, kp2, hps2, hdk2, hkp2, hsuper2, -⟩ := Cond.superclass_spec hps hxy
      have : p2 = mk.cls := Option.some.inj (hps2.symm.trans hmk)
      rw [← this]
      exact xsub_up hdk2 hsuper2
  intro T hT X
  obtain ⟨vm₁, X₁, hstep₁⟩ := X.invokespecialUp hx ho hlink hsame hn9 hmethM hstM habM hno hdk hnid hps hsuper hsub (a := b) (cell := cellB) (by rw [hT]; exact hcB)
    (fun z h => by rw [h] at hoB; cases hoB) hkB (g := g) hg (argsL := As) (rest := rest) (hn.trans (hlen _ hsigM)) hstack (by rw [hb]; exact hdg)
  obtain ⟨v, ⟨U', l2, c2, s2⟩, X', ⟨g', mk', t, L, e1, e2, hq, h1, hL, h2, h3⟩, hsteps⟩ := hK m meth c ⟨T.setVm vm₁, locs, cells, slots⟩ { g with stack := rest } (.invokespecial index) mk (Value.ref b :: As).toArray X₁ hg (hsize.trans hml.symm) (by rw [hb]; exact hdg) hW (X₁.named hnamed) ⟨hf.1, hf.2, hPc (T.setVm vm₁) hT X₁.warmed⟩
  dsimp only [Pt.U, Pt.locs, Pt.cells, Pt.slots] at X' e1 e2 h1 h2 h3 hsteps
  subst h1; subst h2; subst h3
  exact ⟨v, (T.setVm vm₁).calling g' mk' (Value.ref b :: As).toArray, t, U', L, hT, X', hL, e1, e2, hq, fun target h => hstep₁ _ (by rw [doInvoke_state]; exact hsteps.trans h)⟩
end XSU
section XSV
variable {p : Program} {l : Launch} {e : Env} {R : Room} {s : State} {m : MethodId} {args : Array Value} {below : List Frame} {meth : Method} {c : Code} {Q : State → Prop}
variable {B0 : Heap} {ev : Nat → Value} {ext : List xC} {D : va_G} {cA : Nat → ClassId} {mi n0 : Nat}
theorem xcall_super {pc d' nx na mj idx a : Nat} {ps : List Nat} {t : xC} {L st r9 : List Value} {h h1 : xH} {r : Option Value} (C : XC p s m meth c B0 ev ext D cA mi) (hd : decode (xmt mi).1.2.1 pc = .ok (.invokespecial idx, 3)) (hnx : nx = pc + 3)
    (hck : xspI (xmt mi).1.1.cls idx na (xmt mj) ps = true) (hdr : st.drop na = .ref a :: r9) (hg : h[a]? = some t) (ht : t.1 < 13)
    (hcat : xcat r9 ≤ 8) (hM : xMet l B0 ev ext D cA d' mj (.ref a :: (st.take na).reverse) h r h1) (hr : h1.length - n0 ≤ R.cells ∧ 1100 * (h1.length - n0) ≤ R.slots) (hn : n0 ≤ h.length) (hm : h.length ≤ h1.length) (hdp : d' + 1 ≤ R.frames ∧ 35 * (d' + 1) ≤ R.locals)
    (kk : xG p l e R s m args below meth c B0 ev D cA n0 Q nx L (r.toList ++ r9) h1) : xG p l e R s m args below meth c B0 ev D cA n0 Q pc L st h := by
  obtain ⟨hx, hb, hml, hown, hnm, hF, hz0, hs0, hev⟩ := id C
  subst hnx
  unfold xspI at hck
  split at hck
  · rename_i o i x hk0
    rw [Bool.and_eq_true, Bool.and_eq_true, Bool.and_eq_true, Bool.and_eq_true, Bool.and_eq_true, Bool.and_eq_true] at hck
    obtain ⟨hall, w1, w2, w3, w4, w5, hcal⟩ := hck
    obtain ⟨rfl, rfl, hxn, hxd, hxi⟩ := of_decide_eq_true hall
    obtain ⟨c1, c2, c3, c4, c5⟩ := xcal_of hcal
    have hcw := xwI_mem (show xwI ps 5 (.code (xmt mj).1.1 (xmt mj).1.2.1 (xmt mj).1.2.2.1 (xmt mj).1.2.2.2) = true from c5)
    rw [Bool.or_eq_true] at w5
    have hxy : x.cls = (xmt mj).1.1.cls ∨ (Jvm.Cond.superclass x.cls (xmt mj).1.1.cls).before args s = true := w5.imp (fun q => of_decide_eq_true q) (fun q => hF.w (xwI_mem q) rfl args)
    intro H locs ls hR hlo hl hz9
    have hf : h.length - n0 + (h1.length - h.length) ≤ R.cells ∧ 1100 * (h.length - n0) + 1100 * (h1.length - h.length) ≤ R.slots := ⟨by omega, by omega⟩
    obtain ⟨r8, h8, cell, q1, q2, q3, q4⟩ := xat_ob (hR.2.2 a t hg) (by omega)
    have hat := (hF.2.1.1 t.1 r8 h8).2
    have hlen : ((st.take na).reverse.map (xv B0.size ev)).length = na := by rw [List.length_map, List.length_reverse]; exact xlenV hdr
    have hW8 : 2 * (F0 m pc ls (st.map (xv B0.size ev))).monitorRoom + ((r9.map (xv B0.size ev)).map fun v => v.category).sum ≤ 8 := by
      rw [xcat_map hev]
      show 2 * 0 + xcat r9 ≤ 8
      omega
    exact xcall_go (xrunSU hat hx hb rfl hown hM rfl rfl hdp.1 (by show 8 + ((xmt mj).1.2.2.1 + 11) + 35 * d' ≤ R.locals; omega) (xpay hF hcw) (List.mem_singleton.mpr rfl) (hF.w (List.mem_of_getElem? hk0) rfl args) (hF.w (xwI_mem w1) rfl args) (hF.w (xwI_mem w2) rfl args) hxy hxn hxd (hF.w (xwI_mem w3) rfl args) (hF.w (xwI_mem w4) rfl args) (hF.w hcw rfl args) hxi c2
      ⟨xblind, ⟨cell, q1, by rw [q3]; rfl, by rw [q2]; exact hat.1⟩, fun U hU hW => ⟨rfl, hF.warm hW, by rw [hU]; exact hR⟩⟩ rfl hlen hz9 (xsplitV (f := xv B0.size ev) hdr rfl) hW8 hd hf) hn hm hlo hl hz9 kk
  · cases hck
/-- what a walk's end stands on: at every return instruction with that answer and those cells -/
def xEnd (p : Program) (l : Launch) (e : Env) (R : Room) (s : State) (m : MethodId) (args : Array Value) (below : List Frame) (meth : Method) (c : Code) (B0 : Heap) (ev : Nat → Value) (D : va_G) (cA : Nat → ClassId) (mi n0 : Nat) (Q : State → Prop) (r : Option Value) (hf : xH) : Prop :=
  ∀ (pc : Nat) (ins : Instr) (st : List Value) (H : Heap) (locs : List Loc) (ls : Array Slot), decode (xmt mi).1.2.1 pc = .ok (ins, 1) → xret (xmt mi).1.2.2.2 ins st = some r → xR D cA B0 ev hf H → (∀ q ∈ locs, B0.size ≤ q.base) → W p l e R s m args below meth c H locs (hf.length - n0) (1100 * (hf.length - n0)) Q (F0 m pc ls (st.map (xv B0.size ev)))
end XSV
theorem xret_len {ty : Option FieldType} {ins : Instr} {st : List Value} {r : Option Value} (h : xret ty ins st = some r) (n : Nat) (hl : xlenI ins n = true) : n = 1 := by
  unfold xret at h
  split at h
  · exact Nat.eq_of_beq_eq_true hl
  · exact Nat.eq_of_beq_eq_true hl
  · exact Nat.eq_of_beq_eq_true hl
  · exact xno h
/-- THE SMALL MACHINE IS THE MACHINE -/
theorem xsound (l : Launch) (B0 : Heap) (ev : Nat → Value) (ext : List xC) (D : va_G) (cA : Nat → ClassId) (hev : xevs ev) (hall : ∀ mi, ∀ q ∈ (xmt mi).2, ∃ ps, xchk (xmt mi) q ps = true) : ∀ (n : Nat) {p : Program} {e : Env} {R : Room} {s : State} {m : MethodId} {args : Array Value} {below : List Frame} {meth : Method} {c : Code} {Q : State → Prop} {mi n0 d pc : Nat} {L st : List Value} {h hf : xH} {r : Option Value},
    xrun ext n d mi pc L st h = some (r, hf) → XC p s m meth c B0 ev ext D cA mi → n0 ≤ h.length → (hf.length - n0 ≤ R.cells ∧ 1100 * (hf.length - n0) ≤ R.slots) → (d ≤ R.frames ∧ 35 * d ≤ R.locals) → xEnd p l e R s m args below meth c B0 ev D cA mi n0 Q r hf →
    xG p l e R s m args below meth c B0 ev D cA n0 Q pc L st h
  | 0, _, _, _, _, _, _, _, _, _, _, _, _, _, _, _, _, _, _, _, hrun, _, _, _, _, _ => xno hrun
  | n + 1, p, e, R, s, m, args, below, meth, c, Q, mi, n0, d, pc, L, st, h, hf, r, hrun, C, hn, hr, hdp, hE => by
    obtain ⟨⟨ins, nx, info⟩, hq, hcase⟩ := xrun_succ hrun
    dsimp only at hcase
    obtain ⟨ps, hps⟩ := hall mi _ (xfind_mem hq)
    rcases hcase with ⟨w, hs, hw⟩ | ⟨r', hr', e9⟩ | ⟨d', a, b, rfl, ha, hc8, hsl, h1, h2⟩
    · have hm1 := xs_mono hs
      have hm2 := xrun_mono _ _ _ _ _ _ _ _ hw
      exact xstep C hps hs ⟨by have := hr.1; have h9 : (r, hf).2.length = hf.length := rfl; omega, by have := hr.2; have h9 : (r, hf).2.length = hf.length := rfl; omega⟩ hn hdp (xsound l B0 ev ext D cA hev hall n hw C (by omega) hr hdp hE)
    · cases e9
      obtain ⟨hd, hnx, -⟩ := xchk_len 1 hps (xret_len hr')
      intro H locs ls hR hlo hl hz9
      exact hE pc ins st H locs ls hd hr' hR hlo
    · obtain ⟨rb, hb1⟩ := b
      have hm1 := xrun_mono _ _ _ _ _ _ _ _ h1
      have hm2 := xrun_mono _ _ _ _ _ _ _ _ h2
      have hm1 : h.length ≤ hb1.length := hm1
      have hm2 : hb1.length ≤ hf.length := hm2
      have kk := xsound l B0 ev ext D cA hev hall n h2 C (by show n0 ≤ hb1.length; omega) hr hdp hE
      have hr1 : hb1.length - n0 ≤ R.cells ∧ 1100 * (hb1.length - n0) ≤ R.slots := ⟨by omega, by omega⟩
      have hM : ∀ (hy : plainFor (xmt a.1).1.1 = true), xMet l B0 ev ext D cA d' a.1 a.2.1 h rb hb1 := by
        intro hy
        refine xmet_of hy rfl ?_
        intro p9 e9 s9 m9 args9 below9 meth9 c9 s1 B hml9 hv
        obtain ⟨rfl, hF9, hR9⟩ := hv
        have hx9 := B.exec
        have C9 : XC p9 s9 m9 meth9 c9 B0 ev ext D cA a.1 := ⟨B.exec, B.bytes, hml9, findClass_of_methodNamed B.named, (fun h9 => (name_of_methodNamed B.named B.method).1.trans h9), hF9, by have := hR9.1; omega, hR9.2.1, hev⟩
        have k9 := xsound l B0 ev ext D cA hev hall n (p := p9) (e := e9) (R := { frames := d', cells := hb1.length - h.length, slots := 1100 * (hb1.length - h.length), locals := 35 * d' }) (args := (a.2.1.map (xv B0.size ev)).toArray) (below := below9) (Q := MQ below9 (fun _ _ o t => o = .returned (rb.map (xv B0.size ev)) ∧ xR D cA B0 ev hb1 t.heap) (a.2.1.map (xv B0.size ev)).toArray s9 (hb1.length - h.length) (1100 * (hb1.length - h.length)) (fun q => B0.size ≤ q)) (n0 := h.length) h1 C9 (Nat.le_refl _) ⟨Nat.le_refl _, Nat.le_refl _⟩ ⟨Nat.le_refl _, Nat.le_refl _⟩ ?_
        · rw [lg_entry_eq]
          have k8 := k9 s9.heap [] _ hR9 (fun _ h9 => absurd h9 List.not_mem_nil) (xLs_entry hev hsl) (by rw [(xLs_entry (b := B0.size) hev hsl).1, hml9]; show (xent (xmax a.1) a.2.1).length = xmax a.1; unfold xent; rw [List.length_append, List.length_replicate]; omega)
          rw [Nat.sub_self] at k8
          exact k8
        · intro pc8 ins8 st8 H8 locs8 ls8 hd8 hr8 hR8 hlo8
          have hlk := B.notSynchronized
          have hret := B.returns
          unfold xret at hr8
          split at hr8
          · split at hr8
            · rename_i v8
              obtain ⟨hnar, hr8⟩ := xcond hr8
              obtain rfl := xyes hr8
              unfold xnar at hnar
              split at hnar
              · rename_i hty
                rw [hty] at hret
                exact W.iret (v := v8) B.exec B.bytes hret (fun t ht hW => ⟨rfl, by rw [ht]; exact hR8⟩) hlo8 hd8
              · rename_i hty
                rw [hty] at hret
                have hnz : narrow .boolean (.int v8) = .int v8 := by
                  rw [Bool.or_eq_true] at hnar
                  rcases hnar with q | q
                  · rw [of_decide_eq_true q]; rfl
                  · rw [of_decide_eq_true q]; rfl
                exact W.zret (v := v8) B.exec B.bytes hret hnz (fun t ht hW => ⟨rfl, by rw [ht]; exact hR8⟩) hlo8 hd8
              · rename_i hty
                rw [hty] at hret
                exact W.zret (v := v8) B.exec B.bytes hret (of_decide_eq_true hnar) (fun t ht hW => ⟨rfl, by rw [ht]; exact hR8⟩) hlo8 hd8
              · rename_i hty
                rw [hty] at hret
                exact W.zret (v := v8) B.exec B.bytes hret (of_decide_eq_true hnar) (fun t ht hW => ⟨rfl, by rw [ht]; exact hR8⟩) hlo8 hd8
              · cases hnar
            · exact xno hr8
          · split at hr8
            · rename_i v8
              obtain ⟨hnar, hr8⟩ := xcond hr8
              obtain rfl := xyes hr8
              rw [of_decide_eq_true hnar] at hret
              exact W.lret (v := v8) B.exec B.bytes hret (fun t ht hW => ⟨rfl, by rw [ht]; exact hR8⟩) hlo8 hd8
            · exact xno hr8
          · split at hr8
            · obtain ⟨hnar, hr8⟩ := xcond hr8
              obtain rfl := xyes hr8
              rw [of_decide_eq_true hnar] at hret
              exact W.vret B.exec B.bytes hret (fun t ht hW => ⟨rfl, by rw [ht]; exact hR8⟩) hlo8 hd8
            · exact xno hr8
          · exact xno hr8
      unfold xcallee at ha
      split at ha
      · rename_i idx
        split at ha
        · rename_i na mj
          split at ha
          · rename_i hna
            obtain rfl := xyes ha
            have hpf : plainFor (xmt mj).1.1 = true := by
              obtain ⟨-, -, hck⟩ := xchk_any hps
              have h9 := hck
              simp only [xchkI] at h9
              rw [Bool.and_eq_true, Bool.and_eq_true, Bool.and_eq_true] at h9
              exact (xcal_of h9.2.2.2).2.2.2.1
            exact xcall_static C hps hna hc8 (hM hpf) hr1 hn hm1 hdp kk
          · exact xno ha
        · exact xno ha
      · rename_i idx
        obtain ⟨hd, hnx, hck⟩ := xchk_len 3 hps (fun n9 h9 => Nat.eq_of_beq_eq_true h9)
        split at ha
        · rename_i na mj
          split at ha
          · rename_i a9 r9 hdr
            obtain ⟨t, hg, ha⟩ := Option.bind_eq_some_iff.mp ha
            obtain ⟨ht, ha⟩ := xcond ha
            obtain rfl := xyes ha
            have ht := Nat.blt_eq.mp ht
            have hck' : (if (xmt mj).1.1.name = "<init>" then xlinkI ps (xmt mi).1.1.cls idx (xmt mj).1.1 && (xwI ps 1 (.instanceMethod (xmt mj).1.1) && (xwI ps 2 (.initialized (xmt mj).1.1.cls) && xcalI (xmt mj) na (xcod ps 3 (xmt mj) && decide ((xmt mj).1.2.2.2 = none))))
              else xspI (xmt mi).1.1.cls idx na (xmt mj) ps) = true := by
              have h9 := hck
              simp only [xchkI] at h9
              exact h9
            by_cases hin : (xmt mj).1.1.name = "<init>"
            · rw [if_pos hin] at hck'
              have hpf : plainFor (xmt mj).1.1 = true := by
                have h9 := hck'
                rw [Bool.and_eq_true, Bool.and_eq_true, Bool.and_eq_true] at h9
                exact (xcal_of h9.2.2.2).2.2.2.1
              exact xcall_init C hd hnx hin hck' hdr hc8 (hM hpf) hr1 hn hm1 hdp kk
            · rw [if_neg hin] at hck'
              have hpf : plainFor (xmt mj).1.1 = true := by
                have h9 := hck'
                unfold xspI at h9
                split at h9
                · rw [Bool.and_eq_true, Bool.and_eq_true, Bool.and_eq_true, Bool.and_eq_true, Bool.and_eq_true, Bool.and_eq_true] at h9
                  exact (xcal_of h9.2.2.2.2.2.2).2.2.2.1
                · cases h9
              exact xcall_super C hd hnx hck' hdr hg ht hc8 (hM hpf) hr1 hn hm1 hdp kk
          · exact xno ha
        · exact xno ha
      · rename_i idx
        obtain ⟨hd, hnx, hck⟩ := xchk_len 3 hps (fun n9 h9 => Nat.eq_of_beq_eq_true h9)
        split at ha
        · rename_i na tb
          split at ha
          · rename_i v9 r9 hdr
            obtain ⟨t, hg, ha⟩ := Option.bind_eq_some_iff.mp ha
            obtain ⟨mj, hp9, ha⟩ := Option.bind_eq_some_iff.mp ha
            obtain rfl := xyes ha
            have hdis : ∀ j, xdisI (xmt mi).1.1.cls idx na ps tb j = true → xG p l e R s m args below meth c B0 ev D cA n0 Q pc L st h := by
              intro j hj
              obtain ⟨j', hj'⟩ := xdis_at hj hp9
              have hpf : plainFor (xmt mj).1.1 = true := by
                have h9 := hj'
                unfold xdisI at h9
                rw [Bool.and_eq_true] at h9
                have h9 := h9.1
                split at h9
                · rw [Bool.and_eq_true, Bool.and_eq_true, Bool.and_eq_true, Bool.and_eq_true, Bool.and_eq_true, Bool.and_eq_true] at h9
                  exact (xcal_of h9.2.2.2.2.2.2).2.2.2.1
                · cases h9
              exact xcall_dis C hd hnx hj' hdr hg rfl hc8 (hM hpf) hr1 hn hm1 hdp kk
            rcases tb with _ | ⟨ci, _ | ⟨mk, _ | ⟨x3, tb3⟩⟩⟩
            · exact xno hp9
            · exact xno hp9
            · have hck' : (xvirI (xmt mi).1.1.cls idx na ci mk ps || xdisI (xmt mi).1.1.cls idx na ps [ci, mk] 1) = true := hck
              rw [Bool.or_eq_true] at hck'
              rcases hck' with hck' | hck'
              · unfold xpairs at hp9
                obtain ⟨hbq, hp9⟩ : Nat.beq ci t.1 = true ∧ some mk = some mj := by
                  cases hbq : Nat.beq ci t.1 with
                  | true => rw [hbq] at hp9; exact ⟨rfl, hp9⟩
                  | false => rw [hbq] at hp9; exact xno hp9
                obtain rfl := xyes hp9
                have hpf : plainFor (xmt mj).1.1 = true := by
                  have h9 := hck'
                  unfold xvirI at h9
                  rw [Bool.and_eq_true, Bool.and_eq_true, Bool.and_eq_true, Bool.and_eq_true, Bool.and_eq_true] at h9
                  exact (xcal_of h9.2.2.2.2.2).2.2.2.1
                exact xcall_virt C hd hnx hck' hdr hg (Nat.eq_of_beq_eq_true hbq).symm hc8 (hM hpf) hr1 hn hm1 hdp kk
              · exact hdis 1 hck'
            · exact hdis 1 hck
          · exact xno ha
        · exact xno ha
      · exact xno ha
end
