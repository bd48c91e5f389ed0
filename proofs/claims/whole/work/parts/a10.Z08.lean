/-! The same rows with what holds at the end. -/
def ZE (ext : List xC) (d mi pc : Nat) (L st : List V) (σ : zSh) (μ : zM) (Q : Option V → zM → Prop) : Prop := ∃ rv μ', Zv ext d mi pc L st σ μ (rv.map vv) (hz σ μ') ∧ Q rv μ'
def ZQ (ext : List xC) (d mi : Nat) (vs : List V) (σ : zSh) (μ : zM) (Q : Option V → zM → Prop) : Prop := ∃ rv μ', ZM ext d mi vs σ μ rv μ' ∧ Q rv μ'
section
variable {ext : List xC} {σ : zSh} {d mi pc nx t : Nat} {L st : List V} {μ : zM} {cd : Jvm.ClassFile.Cond} {o : Int} {Q : Option V → zM → Prop}
theorem ZQ.i {vs L0 : List V} (e : fL (zent (xmax mi) vs) some = some L0) (k : ZE ext d mi 0 L0 [] σ μ Q) : ZQ ext d mi vs σ μ Q := by
  obtain ⟨rv, μ', h, hq⟩ := k
  exact ⟨rv, μ', ZM.i e h, hq⟩
theorem ZQ.of {vs : List V} {rv : Option V} {μ1 : zM} (h : ZM ext d mi vs σ μ rv μ1) (hq : Q rv μ1) : ZQ ext d mi vs σ μ Q := ⟨rv, μ1, h, hq⟩
theorem ZQ.im {vs : List V} {Q' : Option V → zM → Prop} (h : ZQ ext d mi vs σ μ Q) (hq : ∀ rv μ1, Q rv μ1 → Q' rv μ1) : ZQ ext d mi vs σ μ Q' := by
  obtain ⟨rv, μ1, h1, h2⟩ := h
  exact ⟨rv, μ1, h1, hq _ _ h2⟩
theorem ZQ.ex {vs : List V} {rv : Option V} {μ1 : zM} (h : ZQ ext d mi vs σ μ (fun a b => a = rv ∧ b = μ1)) : ZM ext d mi vs σ μ rv μ1 := by
  obtain ⟨a, b, h1, rfl, rfl⟩ := h
  exact h1
theorem ZQ.more {vs : List V} (j : Nat) (h : ZQ ext d mi vs σ μ Q) : ZQ ext (d + j) mi vs σ μ Q := by
  obtain ⟨rv, μ1, h1, h2⟩ := h
  exact ⟨rv, μ1, h1.more j, h2⟩
theorem ZE.go {C' : Prop} {pc' : Nat} {L' st' : List V} {μ' : zM} (hW : Wl σ) (cut : Nat) (e : zgo σ d mi cut 80 True pc L st μ = some (C', pc', L', st', μ')) (hC : C') (k : ZE ext d mi pc' L' st' σ μ' Q) : ZE ext d mi pc L st σ μ Q := by
  obtain ⟨rv, μ1, h, hq⟩ := k
  exact ⟨rv, μ1, Zv.go hW cut e hC h, hq⟩
theorem zc_em (cd : Jvm.ClassFile.Cond) (x y : Int) : (∀ P, zc1 cd x y P → P) ∧ (∀ P : Prop, zc0 cd x y P) ∨ (∀ P, zc0 cd x y P → P) ∧ (∀ P : Prop, zc1 cd x y P) := by
  have h1 : x < y ∨ x = y ∨ y < x := by omega
  rcases h1 with h | h | h <;> cases cd <;> simp only [zc1, zc0]
  all_goals first
    | exact Or.inl ⟨fun P f => f (by omega), fun P g => absurd g (by omega)⟩
    | exact Or.inr ⟨fun P f => f (by omega), fun P g => absurd g (by omega)⟩
theorem ZE.b {x y : Int} (hf : xfind (xmt mi).2 pc = some (.if_icmp cd o, nx, [t])) (hx : zrng x) (hy : zrng y) (h1 : zc1 cd x y (ZE ext d mi t L st σ μ Q)) (h0 : zc0 cd x y (ZE ext d mi nx L st σ μ Q)) : ZE ext d mi pc L ((0, y) :: (0, x) :: st) σ μ Q := by
  rcases zc_em cd x y with ⟨f, g⟩ | ⟨f, g⟩
  · obtain ⟨rv, μ1, h, hq⟩ := f _ h1
    refine ⟨rv, μ1, Zv.b hf hx hy ?_ (g _), hq⟩
    cases cd <;> exact fun _ => h
  · obtain ⟨rv, μ1, h, hq⟩ := f _ h0
    refine ⟨rv, μ1, Zv.b hf hx hy (g _) ?_, hq⟩
    cases cd <;> exact fun _ => h
theorem ZE.b0 {x : Int} (hf : xfind (xmt mi).2 pc = some (.ifCond cd o, nx, [t])) (hx : zrng x) (h1 : zc1 cd x 0 (ZE ext d mi t L st σ μ Q)) (h0 : zc0 cd x 0 (ZE ext d mi nx L st σ μ Q)) : ZE ext d mi pc L ((0, x) :: st) σ μ Q := by
  rcases zc_em cd x 0 with ⟨f, g⟩ | ⟨f, g⟩
  · obtain ⟨rv, μ1, h, hq⟩ := f _ h1
    refine ⟨rv, μ1, Zv.b0 hf hx ?_ (g _), hq⟩
    cases cd <;> exact fun _ => h
  · obtain ⟨rv, μ1, h, hq⟩ := f _ h0
    refine ⟨rv, μ1, Zv.b0 hf hx (g _) ?_, hq⟩
    cases cd <;> exact fun _ => h
theorem ZE.bp {P : Prop} (hf : xfind (xmt mi).2 pc = some (.ifCond cd o, nx, [t])) (hcd : (match cd with | .eq => true | .ne => true | _ => false) = true) (h1 : zt1 cd P (ZE ext d mi t L st σ μ Q)) (h0 : zt0 cd P (ZE ext d mi nx L st σ μ Q)) : ZE ext d mi pc L ((0, bz P) :: st) σ μ Q := by
  classical
  by_cases hP : P
  · cases cd with
    | eq =>
      obtain ⟨rv, μ1, h, hq⟩ := h0 hP
      exact ⟨rv, μ1, Zv.bp hf (fun g => absurd hP g) (fun _ => h), hq⟩
    | ne =>
      obtain ⟨rv, μ1, h, hq⟩ := h1 hP
      exact ⟨rv, μ1, Zv.bp hf (fun _ => h) (fun g => absurd hP g), hq⟩
    | _ => exact Bool.noConfusion hcd
  · cases cd with
    | eq =>
      obtain ⟨rv, μ1, h, hq⟩ := h1 hP
      exact ⟨rv, μ1, Zv.bp hf (fun _ => h) (fun g => absurd g hP), hq⟩
    | ne =>
      obtain ⟨rv, μ1, h, hq⟩ := h0 hP
      exact ⟨rv, μ1, Zv.bp hf (fun g => absurd g hP) (fun _ => h), hq⟩
    | _ => exact Bool.noConfusion hcd
theorem ZE.ri {x : Int} (hf : xfind (xmt mi).2 pc = some (.ireturn, nx, [])) (ht : (xmt mi).1.2.2.2 = some .int) (hq : Q (some (0, x)) μ) : ZE ext d mi pc L [(0, x)] σ μ Q := ⟨some (0, x), μ, Zv.ri hf ht rfl rfl, hq⟩
theorem ZE.rb {x : Int} (hf : xfind (xmt mi).2 pc = some (.ireturn, nx, [])) (ht : (xmt mi).1.2.2.2 = some .boolean) (hx : x = 0 ∨ x = 1) (hq : Q (some (0, x)) μ) : ZE ext d mi pc L [(0, x)] σ μ Q := by
  refine ⟨some (0, x), μ, Ev.r hf ?_, hq⟩
  rw [ht]
  rcases hx with h | h <;> rw [h] <;> rfl
theorem ZE.rl {x : Int} (hf : xfind (xmt mi).2 pc = some (.lreturn, nx, [])) (ht : (xmt mi).1.2.2.2 = some .long) (hq : Q (some (1, x)) μ) : ZE ext d mi pc L [(1, x)] σ μ Q := ⟨some (1, x), μ, Zv.rl hf ht rfl rfl, hq⟩
theorem ZE.rv (hf : xfind (xmt mi).2 pc = some (.return_, nx, [])) (ht : (xmt mi).1.2.2.2 = none) (hq : Q none μ) : ZE ext d mi pc L [] σ μ Q := ⟨none, μ, Zv.rv hf ht rfl, hq⟩
theorem ZE.c0 {ins : Instr} {info : List Nat} {mj : Nat} {rest : List V} {vs : List V} {rb : Option V} {μ1 : zM} (hW : Wl σ) (hf : xfind (xmt mi).2 pc = some (ins, nx, info)) (e : zcal σ ins info st = some (none, mj, vs, rest)) (h8 : zcat rest ≤ 8) (hl : (zspread vs).length ≤ xmax mj)
    (kc : ZM ext d mj vs σ μ rb μ1) (k : ZE ext (d + 1) mi nx L (rb.toList ++ rest) σ μ1 Q) : ZE ext (d + 1) mi pc L st σ μ Q := by
  obtain ⟨rv, μ2, h, hq⟩ := k
  exact ⟨rv, μ2, Zv.c0 hW hf e h8 hl kc h, hq⟩
theorem ZE.c1 {ins : Instr} {info : List Nat} {mj : Nat} {rest : List V} {c : Prop} {vs : List V} {rb : Option V} {μ1 : zM} (hW : Wl σ) (hf : xfind (xmt mi).2 pc = some (ins, nx, info)) (e : zcal σ ins info st = some (some c, mj, vs, rest)) (hc : c) (h8 : zcat rest ≤ 8) (hl : (zspread vs).length ≤ xmax mj)
    (kc : ZM ext d mj vs σ μ rb μ1) (k : ZE ext (d + 1) mi nx L (rb.toList ++ rest) σ μ1 Q) : ZE ext (d + 1) mi pc L st σ μ Q := by
  obtain ⟨rv, μ2, h, hq⟩ := k
  exact ⟨rv, μ2, Zv.c1 hW hf e hc h8 hl kc h, hq⟩
theorem ZE.q0 {ins : Instr} {info : List Nat} {mj : Nat} {rest : List V} {vs : List V} {Q1 : Option V → zM → Prop} (hW : Wl σ) (hf : xfind (xmt mi).2 pc = some (ins, nx, info)) (e : zcal σ ins info st = some (none, mj, vs, rest)) (h8 : zcat rest ≤ 8) (hl : (zspread vs).length ≤ xmax mj)
    (kc : ZQ ext d mj vs σ μ Q1) (k : ∀ rb μ1, Q1 rb μ1 → ZE ext (d + 1) mi nx L (rb.toList ++ rest) σ μ1 Q) : ZE ext (d + 1) mi pc L st σ μ Q := by
  obtain ⟨rb, μ1, kc, hq1⟩ := kc
  exact ZE.c0 hW hf e h8 hl kc (k rb μ1 hq1)
theorem ZE.q1 {ins : Instr} {info : List Nat} {mj : Nat} {rest : List V} {c : Prop} {vs : List V} {Q1 : Option V → zM → Prop} (hW : Wl σ) (hf : xfind (xmt mi).2 pc = some (ins, nx, info)) (e : zcal σ ins info st = some (some c, mj, vs, rest)) (hc : c) (h8 : zcat rest ≤ 8) (hl : (zspread vs).length ≤ xmax mj)
    (kc : ZQ ext d mj vs σ μ Q1) (k : ∀ rb μ1, Q1 rb μ1 → ZE ext (d + 1) mi nx L (rb.toList ++ rest) σ μ1 Q) : ZE ext (d + 1) mi pc L st σ μ Q := by
  obtain ⟨rb, μ1, kc, hq1⟩ := kc
  exact ZE.c1 hW hf e hc h8 hl kc (k rb μ1 hq1)
theorem ZE.ck {na idx : Nat} {tb : List Nat} {rest : List V} {μ1 : zM} {p k : Int} {rb : Option V} (hf : xfind (xmt mi).2 pc = some (.invokevirtual idx, nx, na :: tb)) (hd : st.drop na = (30, p + 2 + k) :: rest) (hS : Sp σ p) (hk : 0 ≤ k ∧ k < 6) (h8 : zcat rest ≤ 8)
    (kc : ∃ mj, xpairs tb (zKt k) = some mj ∧ (zspread ((30, p + 2 + k) :: (st.take na).reverse)).length ≤ xmax mj ∧ ZM ext d mj ((30, p + 2 + k) :: (st.take na).reverse) σ μ rb μ1) (kk : ZE ext (d + 1) mi nx L (rb.toList ++ rest) σ μ1 Q) : ZE ext (d + 1) mi pc L st σ μ Q := by
  obtain ⟨rv, μ2, h, hq⟩ := kk
  exact ⟨rv, μ2, Zv.ck (mj := 0) hf hd hS hk h8 kc h, hq⟩
theorem ZE.ts {dt : Nat} {ts : List Nat} {a lo hi x : Int} {os : Array Int} (hf : xfind (xmt mi).2 pc = some (.tableswitch a lo hi os, nx, dt :: ts)) (hx : zrng x) (ht : zswt lo hi dt ts x = some t) (k : ZE ext d mi t L st σ μ Q) : ZE ext d mi pc L ((0, x) :: st) σ μ Q := by
  obtain ⟨rv, μ2, h, hq⟩ := k
  exact ⟨rv, μ2, Zv.ts hf hx ht h, hq⟩
theorem ZE.ls {dt : Nat} {ts : List Nat} {a x : Int} {os : Array (Int × Int)} (hf : xfind (xmt mi).2 pc = some (.lookupswitch a os, nx, dt :: ts)) (hx : zrng x) (hk : ts.all (fun k => Nat.blt k 2147483648) = true) (ht : zlook ts x dt = t) (k : ZE ext d mi t L st σ μ Q) : ZE ext d mi pc L ((0, x) :: st) σ μ Q := by
  obtain ⟨rv, μ2, h, hq⟩ := k
  exact ⟨rv, μ2, Zv.ls hf hx hk ht h, hq⟩
theorem ZE.eqm {μ1 : zM} (h : μ = μ1) (k : ZE ext d mi pc L st σ μ1 Q) : ZE ext d mi pc L st σ μ Q := by
  rw [h]
  exact k
end
