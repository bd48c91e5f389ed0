/-! new int[n][k], over exact cells. A proof of our own: nothing of Shelf42 is named here, so the claim is read over the short library. The state on the way is told whole, in one go, by how many rows hang in the outer one. -/
def xr_o (c : ClassId) (N h i : Nat) : Cell := arrV c N (fun j => if j < i then .ref (h + 1 + j) else .null)
def xr_z (c : ClassId) (K : Nat) : Cell := arrV c K (fun _ => .int 0)
/-- i rows of K noughts have been made, and hang in the outer one -/
def xr_at (T : State) (a b : ClassId) (N K i : Nat) : State :=
  { T with heap := T.heap.push (xr_o a N T.heap.size i) ++ Array.replicate i (xr_z b K), slotsUsed := T.slotsUsed + N + i * K }
theorem xr_hung (c : ClassId) (N h i : Nat) : (xr_o c N h i).setSlot i (.ref (h + 1 + i)) = xr_o c N h (i + 1) := by
  unfold xr_o
  rw [arrV_store]
  refine congrArg (arrV c N) (funext fun j => ?_)
  unfold updV
  show (if j = i then Value.ref (h + 1 + i) else if j < i then Value.ref (h + 1 + j) else Value.null) = _
  rcases Nat.lt_trichotomy j i with g | g | g
  · rw [if_neg (Nat.ne_of_lt g), if_pos g, if_pos (Nat.lt_succ_of_lt g)]
  · subst g
    rw [if_pos rfl, if_pos (Nat.lt_succ_self j)]
  · rw [if_neg (Nat.ne_of_gt g), if_neg (Nat.lt_asymm g), if_neg (by omega)]
theorem xr_like (T : State) {x y : Heap} {u v : Nat} (h : x = y) (g : u = v) : ({ T with heap := x, slotsUsed := u } : State) = { T with heap := y, slotsUsed := v } := by
  rw [h, g]
theorem xr_first (T : State) (a b : ClassId) (N K : Nat) : T.pushCell { cls := a, slots := Array.replicate N .null, vm := .none } = xr_at T a b N K 0 := by
  refine xr_like T ?_ ?_
  · rw [arrV_new, Array.replicate_zero, Array.append_empty]
    refine congrArg T.heap.push (congrArg (arrV a N) (funext fun j => ?_))
    rw [if_neg (Nat.not_lt_zero j)]
  · simp
theorem xr_next (T : State) (a b : ClassId) (N K i : Nat) : ((xr_at T a b N K i).pushCell (xr_z b K)).setCell T.heap.size ((xr_o a N T.heap.size i).setSlot i (.ref (T.heap.size + 1 + i))) = xr_at T a b N K (i + 1) := by
  rw [xr_hung]
  refine xr_like T ?_ ?_
  · refine Array.toList_inj.mp ?_
    simp [xr_at, List.set_append, List.replicate_succ']
  · show T.slotsUsed + N + i * K + (xr_z b K).slots.size = _
    rw [xr_z, arrV_size, Nat.succ_mul]
    omega
theorem xr_size (T : State) (a b : ClassId) (N K i : Nat) : (xr_at T a b N K i).heap.size = T.heap.size + 1 + i := by
  simp [xr_at]
theorem xr_in (T : State) (a b : ClassId) (N K i : Nat) : T.heap.size < (xr_at T a b N K i).heap.size := by
  rw [xr_size]
  omega
theorem xr_old (T : State) (a b : ClassId) (N K i : Nat) {q : Nat} (h : q < T.heap.size) : (xr_at T a b N K i).heap[q]? = T.heap[q]? := by
  show (T.heap.push _ ++ _)[q]? = _
  rw [Array.getElem?_append_left (by rw [Array.size_push]; omega), Array.getElem?_push, if_neg (Nat.ne_of_lt h)]
theorem xr_outer (T : State) (a b : ClassId) (N K i : Nat) : (xr_at T a b N K i).heap[T.heap.size]? = some (xr_o a N T.heap.size i) := by
  show (T.heap.push _ ++ _)[T.heap.size]? = _
  rw [Array.getElem?_append_left (by rw [Array.size_push]; omega), Array.getElem?_push, if_pos rfl]
theorem xr_inner (T : State) (a b : ClassId) (N K i : Nat) {j : Nat} (h : j < i) : (xr_at T a b N K i).heap[T.heap.size + 1 + j]? = some (xr_z b K) := by
  show (T.heap.push _ ++ _)[T.heap.size + 1 + j]? = _
  rw [Array.getElem?_append_right (by rw [Array.size_push]; omega), Array.size_push, Array.getElem?_replicate, if_pos (by omega)]
section XMN
variable {p : Program} {l : Launch} {e : Env} {R : Room} {s : State} {m : MethodId} {args : Array Value} {below : List Frame} {meth : Method} {c : Code} {H : Heap} {locs : List Loc} {cells slots : Nat} {Q : State → Prop}
variable {cc : ByteArray} {pc : Nat} {ls : Array Slot} {rest : List Value}
theorem xr_stand {T : State} (X : Stand p l e R s m args below meth c T locs cells slots) (a b : ClassId) (N K : Nat) : ∀ i : Nat, Stand p l e R s m args below meth c (xr_at T a b N K i) locs (cells + 1 + i) (slots + N + i * K)
  | 0 => by
    have h := X.pushed { cls := a, slots := Array.replicate N .null, vm := .none }
    rw [xr_first T a b N K] at h
    simpa using h
  | i + 1 => by
    have h := ((xr_stand X a b N K i).pushed (xr_z b K)).stored (a := T.heap.size) (cell := xr_o a N T.heap.size i) (by rw [State.heap_pushCell_of_lt (h := xr_in T a b N K i)]; exact xr_outer T a b N K i) i (.ref (T.heap.size + 1 + i))
    rw [xr_next, xr_z, arrV_size] at h
    have g := h.dropFresh (fun x hx => by rw [List.mem_singleton.mp hx]; exact X.heapGrown)
    have z : slots + N + (i + 1) * K = slots + N + i * K + K := by rw [Nat.succ_mul]; omega
    rw [z]
    exact g
theorem xr_one {E : CtlPost} {d : Bool} {acts : List Action} {S : State} {b bb : ClassId} {kb : Class} {k : Int32} (h1 : S.vm.classes[b]? = some kb) (h2 : kb.kind = .array bb .int) (hk : ¬ k < 0) (h3 : ¬ k.toNatClampNeg > e.platform.arrayLengthLimit)
    (h4 : ¬ k.toNatClampNeg * componentBytes .int > e.platform.maxHeapBytes) (h5 : S.heap.size < e.platform.maxCells) (h6 : S.slotsUsed + k.toNatClampNeg ≤ e.platform.maxSlots) {P : Addr → Pre} (hP : ∀ acts', P S.heap.size d acts' (S.pushCell (xr_z b k.toNatClampNeg))) :
    wp (multianewarray.make b [k]) P E e d acts S := by
  rw [multianewarray.make]
  simp only [wp_bind', W.ite, hk, if_false, wp_pure', W.theClass, h1, h2, Option.some.injEq, exists_eq_left']
  refine W.newArray_of h1 h2 h3 h4 h5 h6 rfl fun acts' => ?_
  have g := hP acts'
  rw [xr_z, ← arrV_new] at g
  exact g
/-- the rows from i on -/
theorem xr_loop {E : CtlPost} {T : State} {a b aa bb : ClassId} {ka kb : Class} {t0 : FieldType} {k : Int32} {N : Nat} (h1 : T.vm.classes[b]? = some kb) (h2 : kb.kind = .array bb .int) (hk : ¬ k < 0) (h3 : ¬ k.toNatClampNeg > e.platform.arrayLengthLimit)
    (h4 : ¬ k.toNatClampNeg * componentBytes .int > e.platform.maxHeapBytes) (g1 : T.vm.classes[a]? = some ka) (g2 : ka.kind = .array aa t0) (g3 : ∀ q : Addr, fits t0 (.ref q) = true) (h5 : T.heap.size + (1 + N) ≤ e.platform.maxCells) (h6 : T.slotsUsed + (N + N * k.toNatClampNeg) ≤ e.platform.maxSlots)
    (f : Nat → PUnit → Sem (ForInStep PUnit)) (hf : ∀ x u, f x u = (do let r ← multianewarray.make b [k]; Jvm.writeLoc T.heap.size x (.ref r); Pure.pure (ForInStep.yield PUnit.unit))) :
    ∀ (r i : Nat) (d : Bool) (acts : List Action) (P : PUnit → Pre), i + r = N → (∀ d' acts', P PUnit.unit d' acts' (xr_at T a b N k.toNatClampNeg N)) → wp (forIn (List.range' i r) PUnit.unit f) P E e d acts (xr_at T a b N k.toNatClampNeg i)
  | 0, i, d, acts, P, hi, hP => by
    have z : i = N := by omega
    subst z
    rw [List.range'_zero, List.forIn_nil, wp_pure']
    exact hP d acts
  | r + 1, i, d, acts, P, hi, hP => by
    have w : i * k.toNatClampNeg + k.toNatClampNeg ≤ N * k.toNatClampNeg := by
      rw [← Nat.succ_mul]
      exact Nat.mul_le_mul_right _ (by omega)
    have so : (xr_o a N T.heap.size i).slots.size = N := arrV_size _ _ _
    rw [List.range'_succ, List.forIn_cons, wp_bind', hf, wp_bind']
    refine xr_one (S := xr_at T a b N k.toNatClampNeg i) h1 h2 hk h3 h4 (by rw [xr_size]; omega) (by show T.slotsUsed + N + i * k.toNatClampNeg + k.toNatClampNeg ≤ _; omega) fun acts' => ?_
    rw [wp_bind', W.writeLoc]
    refine ⟨xr_o a N T.heap.size i, by rw [State.heap_pushCell_of_lt (h := xr_in T a b N k.toNatClampNeg i)]; exact xr_outer T a b N _ i, (by intro h; cases h), (by rw [so]; omega), ?_, ?_⟩
    · show State.fitsSlot _ a .none i _ = true
      have g1' : (xr_at T a b N k.toNatClampNeg i).vm.classes[a]? = some ka := g1
      simp [State.fitsSlot, State.slotType?, g1', g2, g3]
    · rw [xr_size, xr_next, wp_pure']
      exact xr_loop h1 h2 hk h3 h4 g1 g2 g3 h5 h6 f hf r (i + 1) _ _ P (by omega) hP
/-- the outer one, then all its rows -/
theorem xr_two {E : CtlPost} {d : Bool} {acts : List Action} {T : State} {a b bb : ClassId} {ka kb : Class} {n k : Int32} (h1 : T.vm.classes[b]? = some kb) (h2 : kb.kind = .array bb .int) (hk : ¬ k < 0) (h3 : ¬ k.toNatClampNeg > e.platform.arrayLengthLimit)
    (h4 : ¬ k.toNatClampNeg * componentBytes .int > e.platform.maxHeapBytes) (g1 : T.vm.classes[a]? = some ka) (g2 : ka.kind = .array b (.array .int)) (hn : ¬ n < 0) (g3 : ¬ n.toNatClampNeg > e.platform.arrayLengthLimit)
    (g4 : ¬ n.toNatClampNeg * componentBytes (.array .int) > e.platform.maxHeapBytes) (h5 : T.heap.size + (1 + n.toNatClampNeg) ≤ e.platform.maxCells) (h6 : T.slotsUsed + (n.toNatClampNeg + n.toNatClampNeg * k.toNatClampNeg) ≤ e.platform.maxSlots)
    {P : Addr → Pre} (hP : ∀ d' acts', P T.heap.size d' acts' (xr_at T a b n.toNatClampNeg k.toNatClampNeg n.toNatClampNeg)) : wp (multianewarray.make a [n, k]) P E e d acts T := by
  have none_bad : [k].find? (fun x => decide (x < 0)) = none := by simp [hk]
  have room : 0 ≤ n.toNatClampNeg * k.toNatClampNeg := Nat.zero_le _
  rw [multianewarray.make]
  simp only [wp_bind', W.ite, hn, if_false, wp_pure', W.theClass, g1, g2, Option.some.injEq, exists_eq_left']
  refine W.newArray_of g1 g2 g3 g4 (by omega) (by omega) rfl fun acts' => ?_
  rw [xr_first T a b n.toNatClampNeg k.toNatClampNeg]
  simp only [none_bad, ite_self, wp_bind', wp_pure', Std.Legacy.Range.forIn_eq_forIn_range']
  rw [show ([:n.toNatClampNeg] : Std.Legacy.Range).size = n.toNatClampNeg by simp [Std.Legacy.Range.size]]
  exact xr_loop h1 h2 hk h3 h4 g1 g2 (fun _ => rfl) h5 h6 _ (fun _ _ => rfl) n.toNatClampNeg 0 d acts' _ (Nat.zero_add _) fun d' acts'' => hP d' acts''
theorem xr_mna (hexec : p.tables.exec = Jvm.exec) (hb : c.code = cc) {own : String} {index : Nat} (hown : s.vm.findClass own = some m.cls) (hclink : (Jvm.Cond.classLink own index ("[" ++ (FieldType.array .int).toString)).before args s = true) (hover : (Jvm.Cond.arrayOver (.array .int)).before args s = true) (harr : (Jvm.Cond.arrayClass .int).before args s = true)
    {n k : Int32} {N K : Nat} (hn : ¬ n < 0) (hk : ¬ k < 0) (hN : n.toNatClampNeg = N) (hM : k.toNatClampNeg = K) (hb1 : N ≤ 1100) (hb2 : K ≤ 1100) (hcells : cells + (1 + N) ≤ R.cells) (hslots : slots + (N + N * K) ≤ R.slots) (hdg : decode cc pc = .ok (.multianewarray index 2, 4))
    (kk : ∀ (cA comp : ClassId) (H1 : Heap), s.vm.findClass ("[" ++ (FieldType.array .int).toString) = some cA → s.vm.findClass (FieldType.array .int).toString = some comp → H1.size = H.size + 1 + N → (∀ q : Nat, q < H.size → H1[q]? = H[q]?) →
      H1[H.size]? = some (arrV cA N (fun j => if j < N then .ref (H.size + 1 + j) else .null)) → (∀ j : Nat, j < N → H1[H.size + 1 + j]? = some (arrV comp K (fun _ => .int 0))) →
      W p l e R s m args below meth c H1 locs (cells + 1 + N) (slots + N + N * K) Q (F0 m (pc + 4) ls (.ref H.size :: rest))) : W p l e R s m args below meth c H locs cells slots Q (F0 m pc ls (.int k :: .int n :: rest)) := by
  subst hb
  intro T hT X
  subst hT
  obtain ⟨b, a, ka, fb, -, ca, da, fa⟩ := arrayOverA_spec hover
  obtain ⟨b', kb, bb, fb', cb, db⟩ := Cond.arrayClass_spec harr
  cases Option.some.inj (fb'.symm.trans fb)
  obtain ⟨a', fa', lk⟩ := Cond.classLink_spec hown hclink e.platform (by rw [X.admits.platform])
  cases Option.some.inj (fa'.symm.trans fa)
  obtain ⟨gv, wv, -⟩ := State.classEntry (e := e) X.warmed lk
  generalize T.vm.noted m.cls index (.cls a) = V at gv wv
  obtain ⟨ka1, ca1, ea⟩ := wv.alike.2.2 _ _ ca
  obtain ⟨kb1, cb1, eb⟩ := wv.alike.2.2 _ _ cb
  have da1 : ka1.kind = .array b (.array .int) := by rw [ea]; exact da
  have db1 : kb1.kind = .array bb .int := by rw [eb]; exact db
  obtain ⟨r1, r2⟩ := X.roomAbove hcells hslots
  have XE := xr_stand (X.noted wv) a b N K N
  obtain ⟨t, st, qt⟩ := kk a b (xr_at (T.setVm V) a b N K N).heap fa fb (xr_size _ _ _ _ _ _) (fun q hq => xr_old _ _ _ _ _ _ hq) (xr_outer _ _ _ _ _ _) (fun j hj => xr_inner _ _ _ _ _ _ hj) _ rfl XE
  refine ⟨t, ?_, qt⟩
  have l1 : ¬ n.toNatClampNeg > e.platform.arrayLengthLimit := by rw [Launch.admits_arrayLengthLimit X.admits]; omega
  have l2 : ¬ n.toNatClampNeg * componentBytes (.array .int) > e.platform.maxHeapBytes := by
    rw [Launch.admits_maxHeapBytes X.admits]
    show ¬ n.toNatClampNeg * 4 > 536870912
    omega
  have l3 : ¬ k.toNatClampNeg > e.platform.arrayLengthLimit := by rw [Launch.admits_arrayLengthLimit X.admits]; omega
  have l4 : ¬ k.toNatClampNeg * componentBytes .int > e.platform.maxHeapBytes := by
    rw [Launch.admits_maxHeapBytes X.admits]
    show ¬ k.toNatClampNeg * 4 > 536870912
    omega
  subst hN
  subst hM
  jvm_step X.here [hexec, hdg]
  simp only [multianewarray.sem, wp_bind', W.resolveClassAt_links (t := T.setTop (F0 m pc ls (.int k :: .int n :: rest))) (mm := m) (vm' := V) (State.method?_setTop _ X.here.top) gv]
  rw [W.popN, if_neg (by decide)]
  refine ⟨_, State.topJava?_setTop' (s := T.setVm V) _ X.here.top, [.int n, .int k], rest, rfl, rfl, ?_⟩
  simp only [List.mapM_cons, List.mapM_nil, wp_bind', wp_pure']
  rw [State.setVm_setTop, State.setTop_setTop]
  refine xr_two (T := (T.setVm V).setTop (F0 m pc ls rest)) (kb := kb1) (ka := ka1) cb1 db1 hk l3 l4 ca1 da1 hn l1 l2 r1 r2 fun d' acts' => ?_
  show wp _ _ _ e d' acts' ((xr_at (T.setVm V) a b n.toNatClampNeg k.toNatClampNeg n.toNatClampNeg).setTop (F0 m pc ls rest))
  simp only [wp_bind', W.mark, W.pushRef, State.topJava?_setTop' _ XE.here.top, Option.some.injEq, exists_eq_left', State.setTop_setTop, State.heap_setTop]
  intro acts
  simp [jvm, XE.here.top]
  exact st
end XMN
