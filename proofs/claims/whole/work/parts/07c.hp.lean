/-! The cells as a shape and a memory of ints: a slot of the shape is an int of the memory (none), or a value that stands (some v). -/
abbrev xSp : Type := Nat × List (Option Value)
abbrev xMem : Type := Nat → Nat → Int32
def hc (c : xSp) (f : Nat → Int32) : xC := (c.1, c.2.mapIdx fun j o => o.getD (.int (f j)))
def hp (σ : List xSp) (μ : xMem) : xH := σ.mapIdx fun k c => hc c (μ k)
def up2 (μ : xMem) (k j : Nat) (x : Int32) : xMem := fun k' j' => if k' = k ∧ j' = j then x else μ k' j'
/-- an int array's shape -/
def ar (n : Nat) : xSp := (20, List.replicate n none)
theorem hp_at {σ : List xSp} {μ : xMem} {k : Nat} {c : xSp} (h : σ[k]? = some c) : (hp σ μ)[k]? = some (hc c (μ k)) := by
  unfold hp
  rw [List.getElem?_mapIdx, h]
  rfl
theorem hp_len {σ : List xSp} {μ : xMem} : (hp σ μ).length = σ.length := by
  unfold hp
  rw [List.length_mapIdx]
theorem hc_at {c : xSp} {f : Nat → Int32} {j : Nat} {o : Option Value} (h : c.2[j]? = some o) : (hc c f).2[j]? = some (o.getD (.int (f j))) := by
  unfold hc
  rw [List.getElem?_mapIdx, h]
  rfl
theorem hc_len {c : xSp} {f : Nat → Int32} : (hc c f).2.length = c.2.length := by
  unfold hc
  rw [List.length_mapIdx]
theorem hp_set_int {σ : List xSp} {μ : xMem} {k j : Nat} {c : xSp} (h : σ[k]? = some c) (hj : c.2[j]? = some none) (x : Int32) : (hp σ μ).set k (c.1, (hc c (μ k)).2.set j (.int x)) = hp σ (up2 μ k j x) := by
  apply List.ext_getElem?
  intro i
  have hk := (List.getElem?_eq_some_iff.mp h).1
  by_cases e : i = k
  · subst e
    rw [List.getElem?_set_self (by rw [hp_len]; exact hk), hp_at h]
    refine congrArg some (Prod.ext rfl ?_)
    apply List.ext_getElem?
    intro q
    by_cases e2 : q = j
    · subst e2
      rw [List.getElem?_set_self (by rw [hc_len]; exact (List.getElem?_eq_some_iff.mp hj).1), hc_at hj]
      simp [up2]
    · rw [List.getElem?_set_ne (fun z => e2 z.symm)]
      cases hq : c.2[q]? with
      | none =>
        rw [List.getElem?_eq_none (by rw [hc_len]; exact List.getElem?_eq_none_iff.mp hq), List.getElem?_eq_none (by rw [hc_len]; exact List.getElem?_eq_none_iff.mp hq)]
      | some o =>
        rw [hc_at hq, hc_at hq]
        simp [up2, e2]
  · rw [List.getElem?_set_ne (fun z => e z.symm)]
    cases hq : σ[i]? with
    | none => rw [List.getElem?_eq_none (by rw [hp_len]; exact List.getElem?_eq_none_iff.mp hq), List.getElem?_eq_none (by rw [hp_len]; exact List.getElem?_eq_none_iff.mp hq)]
    | some c' =>
      rw [hp_at hq, hp_at hq]
      congr 2
      funext q
      simp [up2, e]
theorem hp_set_val {σ : List xSp} {μ : xMem} {k j : Nat} {c : xSp} {v0 : Value} (h : σ[k]? = some c) (hj : c.2[j]? = some (some v0)) (v : Value) : (hp σ μ).set k (c.1, (hc c (μ k)).2.set j v) = hp (σ.set k (c.1, c.2.set j (some v))) μ := by
  apply List.ext_getElem?
  intro i
  have hk := (List.getElem?_eq_some_iff.mp h).1
  have hjl := (List.getElem?_eq_some_iff.mp hj).1
  by_cases e : i = k
  · subst e
    rw [List.getElem?_set_self (by rw [hp_len]; exact hk), hp_at (c := (c.1, c.2.set j (some v))) (by rw [List.getElem?_set_self hk])]
    refine congrArg some (Prod.ext rfl ?_)
    apply List.ext_getElem?
    intro q
    by_cases e2 : q = j
    · subst e2
      rw [List.getElem?_set_self (by rw [hc_len]; exact hjl), hc_at (o := some v) (by show (c.2.set q (some v))[q]? = _; rw [List.getElem?_set_self hjl])]
      rfl
    · rw [List.getElem?_set_ne (fun z => e2 z.symm)]
      cases hq : c.2[q]? with
      | none =>
        rw [List.getElem?_eq_none (by rw [hc_len]; exact List.getElem?_eq_none_iff.mp hq), List.getElem?_eq_none (by rw [hc_len]; show (c.2.set j (some v)).length ≤ q; rw [List.length_set]; exact List.getElem?_eq_none_iff.mp hq)]
      | some o =>
        rw [hc_at hq, hc_at (o := o) (by show (c.2.set j (some v))[q]? = _; rw [List.getElem?_set_ne (fun z => e2 z.symm)]; exact hq)]
  · rw [List.getElem?_set_ne (fun z => e z.symm)]
    cases hq : σ[i]? with
    | none => rw [List.getElem?_eq_none (by rw [hp_len]; exact List.getElem?_eq_none_iff.mp hq), List.getElem?_eq_none (by rw [hp_len, List.length_set]; exact List.getElem?_eq_none_iff.mp hq)]
    | some c' => rw [hp_at hq, hp_at (c := c') (by rw [List.getElem?_set_ne (fun z => e z.symm)]; exact hq)]
section XHP
variable {ext : List xC} {d mi pc nx ci k idx a : Nat} {L st : List Value} {σ : List xSp} {μ : xMem} {h' : xH} {r : Option Value} {sl : List (Option Value)}
/-- an int field -/
theorem Ev.gi (hf : xfind (xmt mi).2 pc = some (.getfield idx, nx, [ci, k])) (hσ : σ[a]? = some (ci, sl)) (hk : sl[k]? = some none) (kk : Ev ext d mi nx L (.int (μ a k) :: st) (hp σ μ) r h') : Ev ext d mi pc L (.ref a :: st) (hp σ μ) r h' :=
  Ev.gf hf (hp_at hσ) (hc_at (c := (ci, sl)) hk) kk
/-- a field that stands -/
theorem Ev.gv {v : Value} (hf : xfind (xmt mi).2 pc = some (.getfield idx, nx, [ci, k])) (hσ : σ[a]? = some (ci, sl)) (hk : sl[k]? = some (some v)) (kk : Ev ext d mi nx L (v :: st) (hp σ μ) r h') : Ev ext d mi pc L (.ref a :: st) (hp σ μ) r h' :=
  Ev.gf hf (hp_at hσ) (hc_at (c := (ci, sl)) hk) kk
theorem Ev.pi {x : Int32} (hf : xfind (xmt mi).2 pc = some (.putfield idx, nx, [ci, k])) (hσ : σ[a]? = some (ci, sl)) (hk : sl[k]? = some none) (hv : xfty ci k = .int) (kk : Ev ext d mi nx L st (hp σ (up2 μ a k x)) r h') : Ev ext d mi pc L (.int x :: .ref a :: st) (hp σ μ) r h' := by
  refine Ev.pf hf (hp_at hσ) (Nat.blt_eq.mpr (by show k < (hc (ci, sl) (μ a)).2.length; rw [hc_len]; exact (List.getElem?_eq_some_iff.mp hk).1)) (by rw [hv]; rfl) ?_
  have e := hp_set_int (μ := μ) hσ hk x
  show Ev ext d mi nx L st ((hp σ μ).set a (ci, (hc (ci, sl) (μ a)).2.set k (.int x))) r h'
  rw [show (ci, (hc (ci, sl) (μ a)).2.set k (Value.int x)) = ((ci, sl).1, (hc (ci, sl) (μ a)).2.set k (Value.int x)) from rfl, e]
  exact kk
theorem Ev.pv {v v0 : Value} (hf : xfind (xmt mi).2 pc = some (.putfield idx, nx, [ci, k])) (hσ : σ[a]? = some (ci, sl)) (hk : sl[k]? = some (some v0)) (hv : xfit (xfty ci k) v = true) (kk : Ev ext d mi nx L st (hp (σ.set a (ci, sl.set k (some v))) μ) r h') : Ev ext d mi pc L (v :: .ref a :: st) (hp σ μ) r h' := by
  refine Ev.pf hf (hp_at hσ) (Nat.blt_eq.mpr (by show k < (hc (ci, sl) (μ a)).2.length; rw [hc_len]; exact (List.getElem?_eq_some_iff.mp hk).1)) hv ?_
  have e := hp_set_val (μ := μ) hσ hk v
  show Ev ext d mi nx L st ((hp σ μ).set a (ci, (hc (ci, sl) (μ a)).2.set k v)) r h'
  rw [show (ci, (hc (ci, sl) (μ a)).2.set k v) = ((ci, sl).1, (hc (ci, sl) (μ a)).2.set k v) from rfl, e]
  exact kk
theorem xix_hc {c : xSp} {f : Nat → Int32} {j : Nat} {o : Option Value} {i : Int32} (hi : i = nI j) (hj : c.2[j]? = some o) (hl : j < 2 ^ 31) : xix i (hc c f).2 = some (o.getD (.int (f j))) := by
  subst hi
  unfold xix
  rw [if_neg (nI_pos hl), nI_clamp hl]
  exact hc_at hj
theorem ar_at {n j : Nat} (h : j < n) : (ar n).2[j]? = some none := by
  show (List.replicate n none)[j]? = _
  rw [List.getElem?_replicate, if_pos h]
/-- an int of an int array -/
theorem Ev.al {n : Nat} {i : Int32} (j : Nat) (hf : xfind (xmt mi).2 pc = some (.iaload, nx, [])) (hσ : σ[a]? = some (ar n)) (hi : i = nI j) (hj : j < n) (hn : n < 2000) (kk : Ev ext d mi nx L (.int (μ a j) :: st) (hp σ μ) r h') : Ev ext d mi pc L (.int i :: .ref a :: st) (hp σ μ) r h' :=
  Ev.ia hf (hp_at hσ) (xix_hc hi (ar_at hj) (by omega)) kk
theorem Ev.as {n : Nat} {i x : Int32} (j : Nat) (hf : xfind (xmt mi).2 pc = some (.iastore, nx, [])) (hσ : σ[a]? = some (ar n)) (hi : i = nI j) (hj : j < n) (hn : n < 2000) (kk : Ev ext d mi nx L st (hp σ (up2 μ a j x)) r h') : Ev ext d mi pc L (.int x :: .int i :: .ref a :: st) (hp σ μ) r h' := by
  refine Ev.is hf (hp_at hσ) (xix_hc hi (ar_at hj) (by omega)) ?_
  have e := hp_set_int (μ := μ) hσ (ar_at hj) x
  rw [hi, nI_clamp (by omega)]
  show Ev ext d mi nx L st ((hp σ μ).set a ((ar n).1, (hc (ar n) (μ a)).2.set j (Value.int x))) r h'
  rw [e]
  exact kk
/-- a method of an object -/
theorem Ev.v {na mj : Nat} {tb : List Nat} {rest : List Value} {rb : Option Value} {h1 : xH} (hf : xfind (xmt mi).2 pc = some (.invokevirtual idx, nx, na :: tb)) (hd : st.drop na = .ref a :: rest) (hσ : σ[a]? = some (ci, sl)) (hx : xpairs tb ci = some mj) (h8 : xcat rest ≤ 8) (hl : (xspread (.ref a :: (st.take na).reverse)).length ≤ xmax mj)
    (kc : EvM ext d mj (.ref a :: (st.take na).reverse) (hp σ μ) rb h1) (k : Ev ext (d + 1) mi nx L (rb.toList ++ rest) h1 r h') : Ev ext (d + 1) mi pc L st (hp σ μ) r h' := by
  refine Ev.c hf (mj := mj) (vs := .ref a :: (st.take na).reverse) (rest := rest) ?_ h8 hl kc k
  show (match st.drop na with
      | v :: r => (xget ext (hp σ μ) v).bind fun c => (xpairs tb c.1).bind fun mi => some (mi, v :: (st.take na).reverse, r)
      | _ => none) = _
  rw [hd]
  show ((hp σ μ)[a]?).bind _ = _
  rw [hp_at hσ, Option.bind_some]
  show (xpairs tb ci).bind _ = _
  rw [hx]
  rfl
/-- a static method -/
theorem Ev.t {na mj : Nat} {rb : Option Value} {h h1 : xH} (hf : xfind (xmt mi).2 pc = some (.invokestatic idx, nx, [na, mj])) (hn : Nat.ble na st.length = true) (h8 : xcat (st.drop na) ≤ 8) (hl : (xspread (st.take na).reverse).length ≤ xmax mj)
    (kc : EvM ext d mj (st.take na).reverse h rb h1) (k : Ev ext (d + 1) mi nx L (rb.toList ++ st.drop na) h1 r h') : Ev ext (d + 1) mi pc L st h r h' := by
  refine Ev.c hf (mj := mj) (vs := (st.take na).reverse) (rest := st.drop na) ?_ h8 hl kc k
  show (if na ≤ st.length then some (mj, (st.take na).reverse, st.drop na) else none) = _
  rw [if_pos (Nat.le_of_ble_eq_true hn)]
/-- super.m(..), a constructor -/
theorem Ev.u {na mj : Nat} {rest : List Value} {rb : Option Value} {h1 : xH} (hf : xfind (xmt mi).2 pc = some (.invokespecial idx, nx, [na, mj])) (hd : st.drop na = .ref a :: rest) (hσ : σ[a]? = some (ci, sl)) (hx : Nat.blt ci 13 = true) (h8 : xcat rest ≤ 8) (hl : (xspread (.ref a :: (st.take na).reverse)).length ≤ xmax mj)
    (kc : EvM ext d mj (.ref a :: (st.take na).reverse) (hp σ μ) rb h1) (k : Ev ext (d + 1) mi nx L (rb.toList ++ rest) h1 r h') : Ev ext (d + 1) mi pc L st (hp σ μ) r h' := by
  refine Ev.c hf (mj := mj) (vs := .ref a :: (st.take na).reverse) (rest := rest) ?_ h8 hl kc k
  show (match st.drop na with
      | .ref a :: r => ((hp σ μ)[a]?).bind fun c => cond (Nat.blt c.1 13) (some (mj, Value.ref a :: (st.take na).reverse, r)) none
      | _ => none) = _
  rw [hd]
  show ((hp σ μ)[a]?).bind _ = _
  rw [hp_at hσ, Option.bind_some]
  show cond (Nat.blt ci 13) _ _ = _
  rw [hx]
  rfl
end XHP
/-- k simple instructions, none of which reads a cell -/
def xgo (ext : List xC) (d mi : Nat) : Nat → Nat × List Value × List Value × xH → Option (Nat × List Value × List Value × xH)
  | 0, w => some w
  | n + 1, w => match xfind (xmt mi).2 w.1 with
    | some q => match xs ext d q.1 q.2.1 q.2.2 w.2.1 w.2.2.1 w.2.2.2 with
      | some w' => xgo ext d mi n w'
      | none => none
    | none => none
theorem Ev.go {ext : List xC} {d mi : Nat} {h' : xH} {r : Option Value} : ∀ (n : Nat) {pc : Nat} {L st : List Value} {h : xH} {w : Nat × List Value × List Value × xH} (e : xgo ext d mi n (pc, L, st, h) = some w) (k : Ev ext d mi w.1 w.2.1 w.2.2.1 w.2.2.2 r h'), Ev ext d mi pc L st h r h'
  | 0, _, _, _, _, _, e, k => by
    obtain rfl := xyes e
    exact k
  | n + 1, pc, L, st, h, w, e, k => by
    unfold xgo at e
    split at e
    · rename_i q hq
      split at e
      · rename_i w' hw
        exact Ev.s hq hw (Ev.go n (w := w) e k)
      · exact xno e
    · exact xno e
theorem up2_s {μ : xMem} {k j : Nat} {x : Int32} : up2 μ k j x k j = x := by simp [up2]
theorem up2_k {μ : xMem} {k j k' j' : Nat} {x : Int32} (h : k' ≠ k) : up2 μ k j x k' j' = μ k' j' := by simp [up2, h]
theorem up2_j {μ : xMem} {k j k' j' : Nat} {x : Int32} (h : j' ≠ j) : up2 μ k j x k' j' = μ k' j' := by simp [up2, h]
