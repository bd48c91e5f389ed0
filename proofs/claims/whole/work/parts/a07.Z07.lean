/-- methods that are run through where they are called: straight ones -/
def zin : List Nat := [n_X12_views, n_X12_renters, n_X12_viewHas, n_X12_renterHas, n_X2_suitedIn, n_X2_moneyIn, n_X12_bad, n_X12_no, n_X12_full, n_X12_layView, n_X12_layRenter, n_X12_lake, n_X9_addView, n_X9_addRenter, n_X9_addReading, n_X8_add]
def zmem (l : List Nat) (k : Nat) : Bool := match l with
  | [] => false
  | a :: r => cond (Nat.beq a k) true (zmem r k)
def zret (ty : Option FieldType) (ins : Instr) (st : List V) : Option (Option V) := match ins, ty, st with
  | .ireturn, some .int, [(0, x)] => some (some (0, x))
  | .lreturn, some .long, [(1, x)] => some (some (1, x))
  | .return_, none, [] => some none
  | _, _, _ => none
def zspread : List V → List V
  | [] => []
  | (1, p) :: r => (1, p) :: (4, 0) :: zspread r
  | (t, p) :: r => (t, p) :: zspread r
def zent (n : Nat) (vs : List V) : List V := zspread vs ++ List.replicate (n - (zspread vs).length) (4, 0)
def zfn (σ : zSh) (d mi : Nat) : Nat → Prop → Nat → List V → List V → zM → Option (Prop × Option V × zM)
  | 0, _, _, _, _, _ => none
  | n + 1, C, pc, L, st, μ => match xfind (xmt mi).2 pc with
    | none => none
    | some (ins, nx, info) => match zs σ d ins nx info L st μ with
      | some (none, pc', L', st', μ') => zfn σ d mi n C pc' L' st' μ'
      | some (some c, pc', L', st', μ') => zfn σ d mi n (c ∧ C) pc' L' st' μ'
      | none => match zret (xmt mi).1.2.2.2 ins st with
        | some r => some (C, r, μ)
        | none => none
/-- what is called there: method, arguments, rest -/
def zcal (σ : zSh) (ins : Instr) (info : List Nat) (st : List V) : Option (Option Prop × Nat × List V × List V) := match ins with
  | .invokestatic _ => match info with
    | [na, mi] => cond (Nat.ble na st.length) (some (none, mi, (st.take na).reverse, st.drop na)) none
    | _ => none
  | .invokevirtual _ => match info with
    | na :: tb => match st.drop na with
      | (t, p) :: r => zf t fun rg ct ln md o sl => cond (Nat.blt ct 13) (match xpairs tb ct with
        | some mi => zK σ rg md o p fun oc _ => some (oc, mi, (t, p) :: (st.take na).reverse, r)
        | none => none) none
      | _ => none
    | _ => none
  | _ => none
def zgo (σ : zSh) (d mi cut : Nat) : Nat → Prop → Nat → List V → List V → zM → Option (Prop × Nat × List V × List V × zM)
  | 0, C, pc, L, st, μ => some (C, pc, L, st, μ)
  | n + 1, C, pc, L, st, μ => match xfind (xmt mi).2 pc with
    | none => none
    | some (ins, nx, info) => match zs σ d ins nx info L st μ with
      | some (none, pc', L', st', μ') => cond (Nat.beq pc' cut) (some (C, pc', L', st', μ')) (zgo σ d mi cut n C pc' L' st' μ')
      | some (some c, pc', L', st', μ') => cond (Nat.beq pc' cut) (some (c ∧ C, pc', L', st', μ')) (zgo σ d mi cut n (c ∧ C) pc' L' st' μ')
      | none => match zcal σ ins info st with
        | none => some (C, pc, L, st, μ)
        | some (oc, mj, vs, rest) => match d with
          | 0 => some (C, pc, L, st, μ)
          | d' + 1 => cond (zmem zin mj && Nat.ble (zcat rest) 8 && Nat.ble (zspread vs).length (xmax mj)) (match oc with
            | none => match zfn σ d' mj 60 C 0 (zent (xmax mj) vs) [] μ with
              | some (C', some v, μ') => zgo σ d mi cut n C' nx L (v :: rest) μ'
              | some (C', none, μ') => zgo σ d mi cut n C' nx L rest μ'
              | none => none
            | some c => match zfn σ d' mj 60 (c ∧ C) 0 (zent (xmax mj) vs) [] μ with
              | some (C', some v, μ') => zgo σ d mi cut n C' nx L (v :: rest) μ'
              | some (C', none, μ') => zgo σ d mi cut n C' nx L rest μ'
              | none => none) (some (C, pc, L, st, μ))
theorem zspread_map : ∀ vs : List V, (zspread vs).map vv = xspread (vs.map vv)
  | [] => rfl
  | (t, p) :: r => by
    have ih := zspread_map r
    have e : xspread (((t, p) :: r).map vv) = if (vv (t, p)).category = 2 then vv (t, p) :: xU :: xspread (r.map vv) else vv (t, p) :: xspread (r.map vv) := rfl
    rw [e, zcatg, ← ih]
    match t with
    | 0 => rfl
    | 1 => rfl
    | n + 2 => rfl
theorem zent_map {n : Nat} {vs : List V} : (zent n vs).map vv = xent n (vs.map vv) := by
  unfold zent xent
  rw [List.map_append, zspread_map, List.map_replicate, ← zspread_map, List.length_map]
  rfl
def Zv (ext : List xC) (d mi pc : Nat) (L st : List V) (σ : zSh) (μ : zM) (r : Option Value) (h' : xH) : Prop := Ev ext d mi pc (L.map vv) (st.map vv) (hz σ μ) r h'
/-- a method's contract -/
def ZM (ext : List xC) (d mi : Nat) (vs : List V) (σ : zSh) (μ : zM) (r : Option V) (μ' : zM) : Prop := Zv ext d mi 0 (zent (xmax mi) vs) [] σ μ (r.map vv) (hz σ μ')
theorem ZM.ev {ext : List xC} {d mi : Nat} {vs : List V} {σ : zSh} {μ : zM} {r : Option V} {μ' : zM} (h : ZM ext d mi vs σ μ r μ') : Ev ext d mi 0 (xent (xmax mi) (vs.map vv)) [] (hz σ μ) (r.map vv) (hz σ μ') := by
  unfold ZM Zv at h
  rw [zent_map] at h
  exact h
theorem zret_ok {ty : Option FieldType} {ins : Instr} {st : List V} {r : Option V} (e : zret ty ins st = some r) : xret ty ins (st.map vv) = some (r.map vv) := by
  unfold zret at e
  split at e
  · cases e
    rfl
  · cases e
    rfl
  · cases e
    rfl
  · exact xno e
theorem zfn_ok {ext : List xC} {σ : zSh} {d mi : Nat} (hW : Wl σ) : ∀ (n : Nat) {C : Prop} {pc : Nat} {L st : List V} {μ : zM} {C' : Prop} {r : Option V} {μ' : zM}, zfn σ d mi n C pc L st μ = some (C', r, μ') → C' → C ∧ Zv ext d mi pc L st σ μ (r.map vv) (hz σ μ')
  | 0, _, _, _, _, _, _, _, _, e, _ => xno e
  | n + 1, C, pc, L, st, μ, C', r, μ', e, h => by
    unfold zfn at e
    split at e
    · exact xno e
    · rename_i ins nx info hq
      split at e
      · rename_i h2
        have ih := zfn_ok (ext := ext) hW n e h
        exact ⟨ih.1, Ev.s hq (zs_ok hW h2 (fun c hc => nomatch hc)) ih.2⟩
      · rename_i h2
        have ih := zfn_ok (ext := ext) hW n e h
        exact ⟨ih.1.2, Ev.s hq (zs_ok hW h2 (fun c hc => by cases hc; exact ih.1.1)) ih.2⟩
      · split at e
        · rename_i h3
          cases e
          exact ⟨h, Ev.r hq (zret_ok h3)⟩
        · exact xno e
theorem zcal_ok {ext : List xC} {σ : zSh} {ins : Instr} {info : List Nat} {st : List V} {μ : zM} {oc : Option Prop} {mj : Nat} {vs rest : List V} (hW : Wl σ) (e : zcal σ ins info st = some (oc, mj, vs, rest)) (hc : ∀ c, oc = some c → c) : xcallee ext ins info (st.map vv) (hz σ μ) = some (mj, vs.map vv, rest.map vv) := by
  unfold zcal at e
  split at e
  · split at e
    · rename_i na mi
      obtain ⟨hb, e⟩ := zcond e
      cases e
      show (if na ≤ (st.map vv).length then some (mj, ((st.map vv).take na).reverse, (st.map vv).drop na) else none) = _
      rw [List.length_map, if_pos (Nat.le_of_ble_eq_true hb), List.map_reverse, List.map_take, List.map_drop]
    · exact xno e
  · split at e
    · rename_i na tb
      split at e
      · rename_i t p r hd
        obtain ⟨rg, ct, ln, md, o, sl, hf, e⟩ := zf_some e
        obtain ⟨hb, e⟩ := zcond e
        split at e
        · rename_i hx
          obtain ⟨oc2, hr, e⟩ := zK_some e
          cases e
          have hR := Rok hW hf (hr hc)
          show (match (st.map vv).drop na with
            | v :: r => (xget ext (hz σ μ) v).bind fun c => (xpairs tb c.1).bind fun mi => some (mi, v :: ((st.map vv).take na).reverse, r)
            | _ => none) = _
          rw [← List.map_drop, hd, List.map_cons, vv_r hf]
          show ((hz σ μ)[(zkey md o p).toNat]?).bind _ = _
          rw [hz_get hR.1 hR.2, Option.bind_some]
          show (xpairs tb ct).bind _ = _
          rw [hx, Option.bind_some, List.map_cons, vv_r hf, List.map_reverse, List.map_take]
        · exact xno e
      · exact xno e
    · exact xno e
  · exact xno e
theorem Zv.cal {ext : List xC} {σ : zSh} {d mi pc : Nat} {L st : List V} {μ : zM} {q : Instr × Nat × List Nat} {oc : Option Prop} {mj : Nat} {vs rest : List V} {rb : Option V} {μ1 : zM} {r : Option Value} {h' : xH} (hW : Wl σ) (hf : xfind (xmt mi).2 pc = some q) (e : zcal σ q.1 q.2.2 st = some (oc, mj, vs, rest)) (hc : ∀ c, oc = some c → c) (h8 : zcat rest ≤ 8) (hl : (zspread vs).length ≤ xmax mj)
    (kc : ZM ext d mj vs σ μ rb μ1) (k : Zv ext (d + 1) mi q.2.1 L (rb.toList ++ rest) σ μ1 r h') : Zv ext (d + 1) mi pc L st σ μ r h' := by
  refine Ev.c hf (zcal_ok hW e hc) (by rw [zcat_ok]; exact h8) (by rw [← zspread_map, List.length_map]; exact hl) kc.ev ?_
  have k2 : Ev ext (d + 1) mi q.2.1 (L.map vv) ((rb.toList ++ rest).map vv) (hz σ μ1) r h' := k
  rw [List.map_append] at k2
  cases rb with
  | none => exact k2
  | some v => exact k2
theorem zgo_ok {ext : List xC} {σ : zSh} {d mi cut : Nat} {r : Option Value} {h' : xH} (hW : Wl σ) : ∀ (n : Nat) {C : Prop} {pc : Nat} {L st : List V} {μ : zM} {C' : Prop} {pc' : Nat} {L' st' : List V} {μ' : zM}, zgo σ d mi cut n C pc L st μ = some (C', pc', L', st', μ') → C' → Zv ext d mi pc' L' st' σ μ' r h' → C ∧ Zv ext d mi pc L st σ μ r h'
  | 0, _, _, _, _, _, _, _, _, _, _, e, h, k => by
    cases e
    exact ⟨h, k⟩
  | n + 1, C, pc, L, st, μ, C', pc', L', st', μ', e, h, k => by
    unfold zgo at e
    split at e
    · exact xno e
    · rename_i ins nx info hq
      split at e
      · rename_i pc1 L1 st1 μ1 h2
        cases hb : Nat.beq pc1 cut with
        | true =>
          rw [hb] at e
          cases e
          exact ⟨h, Ev.s hq (zs_ok hW h2 (fun c hc => nomatch hc)) k⟩
        | false =>
          rw [hb] at e
          have ih := zgo_ok hW n e h k
          exact ⟨ih.1, Ev.s hq (zs_ok hW h2 (fun c hc => nomatch hc)) ih.2⟩
      · rename_i c1 pc1 L1 st1 μ1 h2
        cases hb : Nat.beq pc1 cut with
        | true =>
          rw [hb] at e
          cases e
          exact ⟨h.2, Ev.s hq (zs_ok hW h2 (fun c hc => by cases hc; exact h.1)) k⟩
        | false =>
          rw [hb] at e
          have ih := zgo_ok hW n e h k
          exact ⟨ih.1.2, Ev.s hq (zs_ok hW h2 (fun c hc => by cases hc; exact ih.1.1)) ih.2⟩
      · split at e
        · cases e
          exact ⟨h, k⟩
        · rename_i oc mj vs rest hcal
          split at e
          · cases e
            exact ⟨h, k⟩
          · rename_i d'
            cases hb : (zmem zin mj && Nat.ble (zcat rest) 8 && Nat.ble (zspread vs).length (xmax mj)) with
            | false =>
              rw [hb] at e
              cases e
              exact ⟨h, k⟩
            | true =>
              rw [hb] at e
              obtain ⟨hb1, hb3⟩ := band hb
              obtain ⟨hb1, hb2⟩ := band hb1
              simp only [cond_true] at e
              split at e
              · split at e
                · rename_i C1 v μ1 hfn
                  have ih := zgo_ok hW n e h k
                  have hq1 := zfn_ok (ext := ext) hW 60 hfn ih.1
                  exact ⟨hq1.1, Zv.cal (rb := some v) hW hq hcal (fun c hc => nomatch hc) (Nat.le_of_ble_eq_true hb2) (Nat.le_of_ble_eq_true hb3) hq1.2 ih.2⟩
                · rename_i C1 μ1 hfn
                  have ih := zgo_ok hW n e h k
                  have hq1 := zfn_ok (ext := ext) hW 60 hfn ih.1
                  exact ⟨hq1.1, Zv.cal (rb := none) hW hq hcal (fun c hc => nomatch hc) (Nat.le_of_ble_eq_true hb2) (Nat.le_of_ble_eq_true hb3) hq1.2 ih.2⟩
                · exact xno e
              · rename_i c1
                split at e
                · rename_i C1 v μ1 hfn
                  have ih := zgo_ok hW n e h k
                  have hq1 := zfn_ok (ext := ext) hW 60 hfn ih.1
                  exact ⟨hq1.1.2, Zv.cal (rb := some v) hW hq hcal (fun c hc => by cases hc; exact hq1.1.1) (Nat.le_of_ble_eq_true hb2) (Nat.le_of_ble_eq_true hb3) hq1.2 ih.2⟩
                · rename_i C1 μ1 hfn
                  have ih := zgo_ok hW n e h k
                  have hq1 := zfn_ok (ext := ext) hW 60 hfn ih.1
                  exact ⟨hq1.1.2, Zv.cal (rb := none) hW hq hcal (fun c hc => by cases hc; exact hq1.1.1) (Nat.le_of_ble_eq_true hb2) (Nat.le_of_ble_eq_true hb3) hq1.2 ih.2⟩
                · exact xno e
theorem Zv.go {ext : List xC} {σ : zSh} {d mi : Nat} {r : Option Value} {h' : xH} {pc : Nat} {L st : List V} {μ : zM} {C' : Prop} {pc' : Nat} {L' st' : List V} {μ' : zM} (hW : Wl σ) (cut : Nat) (e : zgo σ d mi cut 80 True pc L st μ = some (C', pc', L', st', μ')) (hC : C') (k : Zv ext d mi pc' L' st' σ μ' r h') : Zv ext d mi pc L st σ μ r h' :=
  (zgo_ok hW 80 e hC k).2
/-! Branches. -/
def zc1 (cd : Jvm.ClassFile.Cond) (x y : Int) (P : Prop) : Prop := match cd with
  | .eq => x = y → P
  | .ne => x ≠ y → P
  | .lt => x < y → P
  | .ge => y ≤ x → P
  | .gt => y < x → P
  | .le => x ≤ y → P
def zc0 (cd : Jvm.ClassFile.Cond) (x y : Int) (P : Prop) : Prop := match cd with
  | .eq => x ≠ y → P
  | .ne => x = y → P
  | .lt => y ≤ x → P
  | .ge => x < y → P
  | .gt => x ≤ y → P
  | .le => y < x → P
theorem zcm {cd : Jvm.ClassFile.Cond} {x y : Int} {P Q : Prop} (hx : zrng x) (hy : zrng y) (h1 : zc1 cd x y P) (h0 : zc0 cd x y Q) : (xcmp cd (Int32.ofInt x) (Int32.ofInt y) = true → P) ∧ (xcmp cd (Int32.ofInt x) (Int32.ofInt y) = false → Q) := by
  have e1 : Int32.ofInt x = Int32.ofInt y ↔ x = y := by
    rw [← Int32.toInt_inj, ofInt_toInt32 hx.1 hx.2, ofInt_toInt32 hy.1 hy.2]
  have e2 : Int32.ofInt x < Int32.ofInt y ↔ x < y := by
    rw [Int32.lt_iff_toInt_lt, ofInt_toInt32 hx.1 hx.2, ofInt_toInt32 hy.1 hy.2]
  have e3 : Int32.ofInt y < Int32.ofInt x ↔ y < x := by
    rw [Int32.lt_iff_toInt_lt, ofInt_toInt32 hx.1 hx.2, ofInt_toInt32 hy.1 hy.2]
  have e4 : Int32.ofInt x ≤ Int32.ofInt y ↔ x ≤ y := by
    rw [Int32.le_iff_toInt_le, ofInt_toInt32 hx.1 hx.2, ofInt_toInt32 hy.1 hy.2]
  have e5 : Int32.ofInt y ≤ Int32.ofInt x ↔ y ≤ x := by
    rw [Int32.le_iff_toInt_le, ofInt_toInt32 hx.1 hx.2, ofInt_toInt32 hy.1 hy.2]
  cases cd <;> simp only [xcmp, zc1, zc0, e1, e2, e3, e4, e5, decide_eq_true_eq, decide_eq_false_iff_not, Bool.not_eq_true', Bool.not_eq_false', Int.not_lt, Int.not_le] at h1 h0 ⊢ <;> exact ⟨h1, h0⟩
section
variable {ext : List xC} {σ : zSh} {d mi pc nx t : Nat} {r : Option Value} {h' : xH} {L st : List V} {μ : zM} {cd : Jvm.ClassFile.Cond} {o : Int}
theorem Zv.b {x y : Int} (hf : xfind (xmt mi).2 pc = some (.if_icmp cd o, nx, [t])) (hx : zrng x) (hy : zrng y) (h1 : zc1 cd x y (Zv ext d mi t L st σ μ r h')) (h0 : zc0 cd x y (Zv ext d mi nx L st σ μ r h')) : Zv ext d mi pc L ((0, y) :: (0, x) :: st) σ μ r h' :=
  Ev.icmp hf (zcm hx hy h1 h0).1 (zcm hx hy h1 h0).2
theorem Zv.b0 {x : Int} (hf : xfind (xmt mi).2 pc = some (.ifCond cd o, nx, [t])) (hx : zrng x) (h1 : zc1 cd x 0 (Zv ext d mi t L st σ μ r h')) (h0 : zc0 cd x 0 (Zv ext d mi nx L st σ μ r h')) : Zv ext d mi pc L ((0, x) :: st) σ μ r h' :=
  Ev.if0 hf (zcm (y := 0) hx ⟨by decide, by decide⟩ h1 h0).1 (zcm (y := 0) hx ⟨by decide, by decide⟩ h1 h0).2
def zt1 (cd : Jvm.ClassFile.Cond) (P X : Prop) : Prop := match cd with
  | .ne => P → X
  | .eq => ¬ P → X
  | _ => X
def zt0 (cd : Jvm.ClassFile.Cond) (P X : Prop) : Prop := match cd with
  | .ne => ¬ P → X
  | .eq => P → X
  | _ => X
/-- a truth value -/
noncomputable def bz (P : Prop) : Int := by
  classical
  exact if P then 1 else 0
theorem bz_t {P : Prop} (h : P) : bz P = 1 := by unfold bz; exact if_pos h
theorem bz_f {P : Prop} (h : ¬ P) : bz P = 0 := by unfold bz; exact if_neg h
theorem bz_01 (P : Prop) : bz P = 0 ∨ bz P = 1 := by
  classical
  by_cases h : P
  · exact Or.inr (bz_t h)
  · exact Or.inl (bz_f h)
theorem bz_c {P Q : Prop} (h : P ↔ Q) : bz P = bz Q := by rw [propext h]
theorem Zv.bp {P : Prop} (hf : xfind (xmt mi).2 pc = some (.ifCond cd o, nx, [t])) (h1 : zt1 cd P (Zv ext d mi t L st σ μ r h')) (h0 : zt0 cd P (Zv ext d mi nx L st σ μ r h')) : Zv ext d mi pc L ((0, bz P) :: st) σ μ r h' := by
  classical
  by_cases hP : P
  · rw [bz_t hP]
    refine Zv.b0 hf ⟨by decide, by decide⟩ ?_ ?_
    · cases cd with
      | ne => exact fun _ => h1 hP
      | eq => exact fun h => absurd h (by decide)
      | lt => exact fun _ => h1
      | ge => exact fun _ => h1
      | gt => exact fun _ => h1
      | le => exact fun _ => h1
    · cases cd with
      | ne => exact fun h => absurd h (by decide)
      | eq => exact fun _ => h0 hP
      | lt => exact fun _ => h0
      | ge => exact fun _ => h0
      | gt => exact fun _ => h0
      | le => exact fun _ => h0
  · rw [bz_f hP]
    refine Zv.b0 hf ⟨by decide, by decide⟩ ?_ ?_
    · cases cd with
      | ne => exact fun h => absurd rfl h
      | eq => exact fun _ => h1 hP
      | lt => exact fun _ => h1
      | ge => exact fun _ => h1
      | gt => exact fun _ => h1
      | le => exact fun _ => h1
    · cases cd with
      | ne => exact fun _ => h0 hP
      | eq => exact fun h => absurd rfl h
      | lt => exact fun _ => h0
      | ge => exact fun _ => h0
      | gt => exact fun _ => h0
      | le => exact fun _ => h0
/-! Returns. -/
theorem Zv.ret {q : Instr × Nat × List Nat} {v : Option V} (hf : xfind (xmt mi).2 pc = some q) (hr : zret (xmt mi).1.2.2.2 q.1 st = some v) : Zv ext d mi pc L st σ μ (v.map vv) (hz σ μ) := Ev.r hf (zret_ok hr)
theorem Zv.rv {μ' : zM} (hf : xfind (xmt mi).2 pc = some (.return_, nx, [])) (ht : (xmt mi).1.2.2.2 = none) (hm : μ = μ') : Zv ext d mi pc L [] σ μ none (hz σ μ') := by
  subst hm
  refine Ev.r hf ?_
  rw [ht]
  rfl
theorem Zv.ri {x y : Int} {μ' : zM} (hf : xfind (xmt mi).2 pc = some (.ireturn, nx, [])) (ht : (xmt mi).1.2.2.2 = some .int) (hm : μ = μ') (hx : x = y) : Zv ext d mi pc L [(0, x)] σ μ (some (vv (0, y))) (hz σ μ') := by
  subst hm
  subst hx
  refine Ev.r hf ?_
  rw [ht]
  rfl
theorem Zv.rl {x y : Int} {μ' : zM} (hf : xfind (xmt mi).2 pc = some (.lreturn, nx, [])) (ht : (xmt mi).1.2.2.2 = some .long) (hm : μ = μ') (hx : x = y) : Zv ext d mi pc L [(1, x)] σ μ (some (vv (1, y))) (hz σ μ') := by
  subst hm
  subst hx
  refine Ev.r hf ?_
  rw [ht]
  rfl
/-- a truth value is answered -/
theorem Zv.rb {x : Int} {P : Prop} {μ' : zM} (hf : xfind (xmt mi).2 pc = some (.ireturn, nx, [])) (ht : (xmt mi).1.2.2.2 = some .boolean) (hm : μ = μ') (hx : x = bz P) : Zv ext d mi pc L [(0, x)] σ μ (some (vv (0, bz P))) (hz σ μ') := by
  subst hm
  subst hx
  refine Ev.r hf ?_
  rw [ht]
  rcases bz_01 P with h | h <;> rw [h] <;> rfl
theorem Zv.more (j : Nat) (k : Zv ext d mi pc L st σ μ r h') : Zv ext (d + j) mi pc L st σ μ r h' := Ev.more j k
theorem ZM.more {vs : List V} {rv : Option V} {μ' : zM} (j : Nat) (k : ZM ext d mi vs σ μ rv μ') : ZM ext (d + j) mi vs σ μ rv μ' := Zv.more j k
theorem Zv.eqm {μ1 : zM} (h : μ = μ1) (k : Zv ext d mi pc L st σ μ1 r h') : Zv ext d mi pc L st σ μ r h' := by
  rw [h]
  exact k
/-! Calls. -/
theorem Zv.c0 {ins : Instr} {info : List Nat} {mj : Nat} {rest : List V} {vs : List V} {rb : Option V} {μ1 : zM} (hW : Wl σ) (hf : xfind (xmt mi).2 pc = some (ins, nx, info)) (e : zcal σ ins info st = some (none, mj, vs, rest)) (h8 : zcat rest ≤ 8) (hl : (zspread vs).length ≤ xmax mj)
    (kc : ZM ext d mj vs σ μ rb μ1) (k : Zv ext (d + 1) mi nx L (rb.toList ++ rest) σ μ1 r h') : Zv ext (d + 1) mi pc L st σ μ r h' := Zv.cal hW hf e (fun c hc => nomatch hc) h8 hl kc k
theorem Zv.c1 {ins : Instr} {info : List Nat} {mj : Nat} {rest : List V} {c : Prop} {vs : List V} {rb : Option V} {μ1 : zM} (hW : Wl σ) (hf : xfind (xmt mi).2 pc = some (ins, nx, info)) (e : zcal σ ins info st = some (some c, mj, vs, rest)) (hc : c) (h8 : zcat rest ≤ 8) (hl : (zspread vs).length ≤ xmax mj)
    (kc : ZM ext d mj vs σ μ rb μ1) (k : Zv ext (d + 1) mi nx L (rb.toList ++ rest) σ μ1 r h') : Zv ext (d + 1) mi pc L st σ μ r h' := Zv.cal hW hf e (fun c hc2 => by cases hc2; exact hc) h8 hl kc k
theorem ZM.i {vs L0 : List V} {rv : Option V} {μ' : zM} (e : fL (zent (xmax mi) vs) some = some L0) (k : Zv ext d mi 0 L0 [] σ μ (rv.map vv) (hz σ μ')) : ZM ext d mi vs σ μ rv μ' := by
  rw [fL_eq] at e
  injection e with e
  unfold ZM
  rw [e]
  exact k
end
/-! Switches. -/
def zswt (lo hi : Int) (dt : Nat) (ts : List Nat) (x : Int) : Option Nat := if x < lo ∨ hi < x then some dt else ts[(x - lo).toNat]?
theorem Zv.ts {ext : List xC} {σ : zSh} {d mi pc nx dt t : Nat} {ts : List Nat} {L st : List V} {μ : zM} {r : Option Value} {h' : xH} {a lo hi x : Int} {os : Array Int} (hf : xfind (xmt mi).2 pc = some (.tableswitch a lo hi os, nx, dt :: ts)) (hx : zrng x) (ht : zswt lo hi dt ts x = some t) (k : Zv ext d mi t L st σ μ r h') : Zv ext d mi pc L ((0, x) :: st) σ μ r h' := by
  refine Ev.s hf (w := (t, L.map vv, st.map vv, hz σ μ)) ?_ k
  show (if (Int32.ofInt x).toInt < lo ∨ hi < (Int32.ofInt x).toInt then some (dt, L.map vv, st.map vv, hz σ μ) else (ts[((Int32.ofInt x).toInt - lo).toNat]?).bind fun t => some (t, L.map vv, st.map vv, hz σ μ)) = _
  rw [ofInt_toInt32 hx.1 hx.2]
  unfold zswt at ht
  split at ht
  · rename_i h1
    rw [if_pos h1, xyes ht]
  · rename_i h1
    rw [if_neg h1, ht]
    rfl
def zlook : List Nat → Int → Nat → Nat
  | k :: t :: r, x, d => if x = (k : Int) then t else zlook r x d
  | _, _, d => d
theorem zlook_ok : ∀ (ts : List Nat) (x : Int) (dt : Nat), zrng x → (∀ k ∈ ts, k < 2147483648) → xlook ts (Int32.ofInt x) dt = zlook ts x dt
  | [], _, _, _, _ => rfl
  | [_], _, _, _, _ => rfl
  | k :: t :: r, x, dt, hx, hk => by
    have ih := zlook_ok r x dt hx (fun q hq => hk q (List.mem_cons_of_mem _ (List.mem_cons_of_mem _ hq)))
    have h2 := hk k List.mem_cons_self
    have e : Int32.ofInt x = Int32.ofNat k ↔ x = (k : Int) := by
      rw [← Int32_ofInt_nat, ← Int32.toInt_inj, ofInt_toInt32 hx.1 hx.2, ofInt_toInt32 (by omega) (by omega)]
    show (if Int32.ofInt x = Int32.ofNat k then t else xlook r (Int32.ofInt x) dt) = if x = (k : Int) then t else zlook r x dt
    rw [ih]
    by_cases h : x = (k : Int)
    · rw [if_pos h, if_pos (e.mpr h)]
    · rw [if_neg h, if_neg (fun q => h (e.mp q))]
theorem Zv.ls {ext : List xC} {σ : zSh} {d mi pc nx dt t : Nat} {ts : List Nat} {L st : List V} {μ : zM} {r : Option Value} {h' : xH} {a x : Int} {os : Array (Int × Int)} (hf : xfind (xmt mi).2 pc = some (.lookupswitch a os, nx, dt :: ts)) (hx : zrng x) (hk : ts.all (fun k => Nat.blt k 2147483648) = true) (ht : zlook ts x dt = t) (k : Zv ext d mi t L st σ μ r h') : Zv ext d mi pc L ((0, x) :: st) σ μ r h' := by
  refine Ev.s hf (w := (t, L.map vv, st.map vv, hz σ μ)) ?_ k
  show some (xlook ts (Int32.ofInt x) dt, L.map vv, st.map vv, hz σ μ) = _
  rw [zlook_ok ts x dt hx (fun k hk2 => Nat.blt_eq.mp (List.all_eq_true.mp hk k hk2)), ht]
