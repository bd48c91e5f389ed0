theorem app_get {h0 t : xH} {k : Nat} : (h0 ++ t)[h0.length + k]? = t[k]? := by
  rw [List.getElem?_append_right (by omega)]
  congr 1
  omega
theorem app_set {h0 t : xH} {k : Nat} {c : xC} : (h0 ++ t).set (h0.length + k) c = h0 ++ t.set k c := by
  rw [List.set_append_right _ _ (by omega)]
  congr 2
  omega
section
variable {ext : List xC} {d mi pc nx : Nat} {L st : List Value} {h0 t : xH} {r : Option Value} {h' : xH}
theorem Ev.o98 {idx a : Nat} {h : xH} (hf : xfind (xmt mi).2 pc = some (.invokespecial idx, nx, [98])) (h8 : xcat st ≤ 8) (k : Ev ext (d + 1) mi nx L st h r h') : Ev ext (d + 1) mi pc L (.ref a :: st) h r h' := by
  refine Ev.s hf (w := (nx, L, st, h)) ?_ k
  show (if d + 1 = 0 ∨ 8 < xcat st then none else some (nx, L, st, h)) = _
  rw [if_neg (by omega)]
theorem Ev.naA {ty : ArrayType} {i : Int32} {k m : Nat} (hf : xfind (xmt mi).2 pc = some (.newarray ty, nx, [20])) (hi : ¬ i < 0) (hk : i.toNatClampNeg = k) (hk2 : k ≤ 1100) (hm : t.length = m) (h5 : h0.length + m < 5000) (kk : Ev ext d mi nx L (.ref (h0.length + m) :: st) (h0 ++ (t ++ [(20, List.replicate k (.int 0))])) r h') : Ev ext d mi pc L (.int i :: st) (h0 ++ t) r h' := by
  refine Ev.s hf (w := (nx, L, .ref (h0.length + m) :: st, h0 ++ (t ++ [(20, List.replicate k (.int 0))]))) ?_ kk
  show (if i < 0 then none else (xadd (h0 ++ t) (20, List.replicate i.toNatClampNeg (.int 0))).bind fun h' => some (nx, L, .ref (h0 ++ t).length :: st, h')) = _
  rw [if_neg hi, hk]
  unfold xadd
  rw [if_pos ⟨by rw [List.length_append, hm]; exact h5, by rw [List.length_replicate]; exact hk2⟩, Option.bind_some, List.length_append, hm, List.append_assoc]
theorem Ev.anA {ty : Nat} {i : Int32} {k m : Nat} (hf : xfind (xmt mi).2 pc = some (.anewarray ty, nx, [25])) (hi : ¬ i < 0) (hk : i.toNatClampNeg = k) (hk2 : k ≤ 1100) (hm : t.length = m) (h5 : h0.length + m < 5000) (kk : Ev ext d mi nx L (.ref (h0.length + m) :: st) (h0 ++ (t ++ [(25, List.replicate k .null)])) r h') : Ev ext d mi pc L (.int i :: st) (h0 ++ t) r h' := by
  refine Ev.s hf (w := (nx, L, .ref (h0.length + m) :: st, h0 ++ (t ++ [(25, List.replicate k .null)]))) ?_ kk
  show (if i < 0 then none else (xadd (h0 ++ t) (25, List.replicate i.toNatClampNeg .null)).bind fun h' => some (nx, L, .ref (h0 ++ t).length :: st, h')) = _
  rw [if_neg hi, hk]
  unfold xadd
  rw [if_pos ⟨by rw [List.length_append, hm]; exact h5, by rw [List.length_replicate]; exact hk2⟩, Option.bind_some, List.length_append, hm, List.append_assoc]
theorem Ev.nwA {idx ci m : Nat} {fs : List Value} (hf : xfind (xmt mi).2 pc = some (.new idx, nx, [ci])) (hfs : (List.range (xnf ci)).map (fun k => defaultValue (xfty ci k)) = fs) (hl : fs.length ≤ 1100) (hm : t.length = m) (h5 : h0.length + m < 5000) (kk : Ev ext d mi nx L (.ref (h0.length + m) :: st) (h0 ++ (t ++ [(ci, fs)])) r h') : Ev ext d mi pc L st (h0 ++ t) r h' := by
  refine Ev.s hf (w := (nx, L, .ref (h0.length + m) :: st, h0 ++ (t ++ [(ci, fs)]))) ?_ kk
  show (xadd (h0 ++ t) (ci, (List.range (xnf ci)).map fun k => defaultValue (xfty ci k))).bind (fun h' => some (nx, L, .ref (h0 ++ t).length :: st, h')) = _
  rw [hfs]
  unfold xadd
  rw [if_pos ⟨by rw [List.length_append, hm]; exact h5, hl⟩, Option.bind_some, List.length_append, hm, List.append_assoc]
theorem Ev.pfA {ci k idx p : Nat} {v : Value} {fs : List Value} (hf : xfind (xmt mi).2 pc = some (.putfield idx, nx, [ci, k])) (hc : t[p]? = some (ci, fs)) (hk : Nat.blt k fs.length = true) (hv : xfit (xfty ci k) v = true) (kk : Ev ext d mi nx L st (h0 ++ t.set p (ci, fs.set k v)) r h') : Ev ext d mi pc L (v :: .ref (h0.length + p) :: st) (h0 ++ t) r h' := by
  refine Ev.pf hf (fs := fs) (by rw [app_get]; exact hc) hk hv ?_
  rw [app_set]
  exact kk
theorem Ev.gfA {ci k idx p : Nat} {v : Value} {fs : List Value} (hf : xfind (xmt mi).2 pc = some (.getfield idx, nx, [ci, k])) (hc : t[p]? = some (ci, fs)) (hk : fs[k]? = some v) (kk : Ev ext d mi nx L (v :: st) (h0 ++ t) r h') : Ev ext d mi pc L (.ref (h0.length + p) :: st) (h0 ++ t) r h' :=
  Ev.gf hf (fs := fs) (by rw [app_get]; exact hc) hk kk
theorem Ev.eqt {t' : xH} (e : t = t') (k : Ev ext d mi pc L st (h0 ++ t') r h') : Ev ext d mi pc L st (h0 ++ t) r h' := by
  rw [e]
  exact k
theorem Ev.asA {i : Int32} {p q : Nat} {vs : List Value} {w : Value} {cv : xC} (hf : xfind (xmt mi).2 pc = some (.aastore, nx, [])) (hc : t[p]? = some (25, vs)) (hv : t[q]? = some cv) (hv0 : cv.1 = 0) (hi : ¬ i < 0) (hk : vs[i.toNatClampNeg]? = some w) (kk : Ev ext d mi nx L st (h0 ++ t.set p (25, vs.set i.toNatClampNeg (.ref (h0.length + q)))) r h') : Ev ext d mi pc L (.ref (h0.length + q) :: .int i :: .ref (h0.length + p) :: st) (h0 ++ t) r h' := by
  refine Ev.s hf (w := (nx, L, st, h0 ++ t.set p (25, vs.set i.toNatClampNeg (.ref (h0.length + q))))) ?_ kk
  show ((h0 ++ t)[h0.length + p]?).bind (fun c => ((h0 ++ t)[h0.length + q]?).bind fun cv => cond (xasg c.1 cv.1) ((xix i c.2).bind fun _ => some (nx, L, st, (h0 ++ t).set (h0.length + p) (c.1, c.2.set i.toNatClampNeg (.ref (h0.length + q))))) none) = _
  rw [app_get, hc, Option.bind_some, app_get, hv, Option.bind_some]
  show cond (xasg 25 cv.1) _ _ = _
  rw [hv0]
  show (xix i vs).bind _ = _
  unfold xix
  rw [if_neg hi, hk, Option.bind_some]
  show some (nx, L, st, (h0 ++ t).set (h0.length + p) (25, vs.set i.toNatClampNeg (.ref (h0.length + q)))) = _
  rw [app_set]
end
def rep0 (n : Nat) : xC := (20, List.replicate n (.int 0))
/-- the cells of a new Book at a -/
def bkH (a : Nat) : xH := [(0, [.int 0, .int 0, .int 0, .ref (a + 1), .ref (a + 2), .ref (a + 3), .ref (a + 4), .ref (a + 5)]), rep0 6, rep0 6, rep0 12, rep0 12, rep0 12]
def nb0 : xC := (0, [.int 0, .int 0, .int 0, .null, .null, .null, .null, .null])
def ns0 : xC := (9, [.null, .int 0, .int 0, .int 0, .int 0, .null, .null, .null, .null, .null, .null, .null, .null, .null, .null, .null, .null])

theorem c_Book_init {ext : List xC} {d : Nat} {h0 : xH} (h5 : h0.length + 6 ≤ 5000) : EvM ext (d + 1) n_X0_init [.ref h0.length] (h0 ++ [nb0]) none (h0 ++ bkH h0.length) := by
  show Ev ext (d + 1) n_X0_init 0 [.ref (h0.length + 0)] [] (h0 ++ [nb0]) none (h0 ++ bkH h0.length)
  refine Ev.go 1 rfl ?_
  refine Ev.o98 rfl (Nat.le_of_ble_eq_true rfl) ?_
  refine Ev.go 2 rfl ?_
  refine Ev.naA (k := 6) (m := 1) rfl (by decide) rfl (by decide) rfl (by omega) ?_
  refine Ev.pfA (p := 0) rfl rfl rfl rfl ?_
  refine Ev.eqt (t' := (0, [.int 0, .int 0, .int 0, .ref (h0.length + 1), .null, .null, .null, .null]) :: [rep0 6]) rfl ?_
  refine Ev.go 2 rfl ?_
  refine Ev.naA (k := 6) (m := 2) rfl (by decide) rfl (by decide) rfl (by omega) ?_
  refine Ev.pfA (p := 0) rfl rfl rfl rfl ?_
  refine Ev.eqt (t' := (0, [.int 0, .int 0, .int 0, .ref (h0.length + 1), .ref (h0.length + 2), .null, .null, .null]) :: [rep0 6, rep0 6]) rfl ?_
  refine Ev.go 2 rfl ?_
  refine Ev.naA (k := 12) (m := 3) rfl (by decide) rfl (by decide) rfl (by omega) ?_
  refine Ev.pfA (p := 0) rfl rfl rfl rfl ?_
  refine Ev.eqt (t' := (0, [.int 0, .int 0, .int 0, .ref (h0.length + 1), .ref (h0.length + 2), .ref (h0.length + 3), .null, .null]) :: [rep0 6, rep0 6, rep0 12]) rfl ?_
  refine Ev.go 2 rfl ?_
  refine Ev.naA (k := 12) (m := 4) rfl (by decide) rfl (by decide) rfl (by omega) ?_
  refine Ev.pfA (p := 0) rfl rfl rfl rfl ?_
  refine Ev.eqt (t' := (0, [.int 0, .int 0, .int 0, .ref (h0.length + 1), .ref (h0.length + 2), .ref (h0.length + 3), .ref (h0.length + 4), .null]) :: [rep0 6, rep0 6, rep0 12, rep0 12]) rfl ?_
  refine Ev.go 2 rfl ?_
  refine Ev.naA (k := 12) (m := 5) rfl (by decide) rfl (by decide) rfl (by omega) ?_
  refine Ev.pfA (p := 0) rfl rfl rfl rfl ?_
  refine Ev.eqt (t' := (0, [.int 0, .int 0, .int 0, .ref (h0.length + 1), .ref (h0.length + 2), .ref (h0.length + 3), .ref (h0.length + 4), .ref (h0.length + 5)]) :: [rep0 6, rep0 6, rep0 12, rep0 12, rep0 12]) rfl ?_
  exact Ev.r rfl rfl
section
variable {ext : List xC} {d mi pc : Nat} {L st : List Value} {h0 t : xH} {r : Option Value} {h' : xH}
theorem Ev.mkB {p1 p2 p3 i0 i2 m : Nat} (hf0 : xfind (xmt mi).2 pc = some (.new i0, p1, [0])) (hf1 : xfind (xmt mi).2 p1 = some (.dup, p2, [])) (hf2 : xfind (xmt mi).2 p2 = some (.invokespecial i2, p3, [0, n_X0_init])) (hm : t.length = m) (h5 : h0.length + m + 6 ≤ 5000) (h8 : xcat (.ref (h0.length + m) :: st) ≤ 8) (kk : Ev ext (d + 2) mi p3 L (.ref (h0.length + m) :: st) (h0 ++ (t ++ bkH (h0.length + m))) r h') : Ev ext (d + 2) mi pc L st (h0 ++ t) r h' := by
  refine Ev.nwA (m := m) (fs := nb0.2) hf0 rfl (by decide) hm (by omega) ?_
  refine Ev.s hf1 rfl ?_
  have e1 : (h0 ++ t).length = h0.length + m := by rw [List.length_append, hm]
  have hb := c_Book_init (ext := ext) (d := d) (h0 := h0 ++ t) (by rw [e1]; exact h5)
  rw [e1, List.append_assoc, List.append_assoc] at hb
  refine Ev.u (na := 0) (rest := .ref (h0.length + m) :: st) (a := h0.length + m) (fs := nb0.2) (ci := 0) hf2 rfl ?_ rfl h8 (Nat.le_of_ble_eq_true rfl) hb ?_
  · rw [app_get, List.getElem?_append_right (by omega), hm, Nat.sub_self]
    rfl
  · exact kk
end
/-- the cells of a new shop at a, but for what empty() writes -/
def spH (a : Nat) : xH := (9, [.ref 1, .int 0, .int 0, .int 0, .int 0, .ref (a + 1), .ref (a + 2), .ref (a + 3), .ref (a + 4), .ref (a + 5), .ref (a + 6), .ref (a + 7), .ref (a + 8), .ref (a + 9), .ref (a + 10), .ref (a + 11), .ref (a + 17)]) :: (List.replicate 10 (rep0 6) ++ (bkH (a + 11) ++ ((25, [.ref (a + 18), .ref (a + 24), .ref (a + 30), .ref (a + 36), .ref (a + 42), .ref (a + 48), .ref (a + 54), .ref (a + 60)]) :: (bkH (a + 18) ++ (bkH (a + 24) ++ (bkH (a + 30) ++ (bkH (a + 36) ++ (bkH (a + 42) ++ (bkH (a + 48) ++ (bkH (a + 54) ++ bkH (a + 60))))))))))) 
theorem c_Shop_init {ext : List xC} {d : Nat} {h0 : xH} {h' : xH} (h5 : h0.length + 66 ≤ 5000) (kk : Ev ext (d + 2) n_X9_init 136 [.ref (h0.length + 0), .ref 1, .int 8] [] (h0 ++ spH h0.length) none h') : EvM ext (d + 2) n_X9_init [.ref h0.length, .ref 1] (h0 ++ [ns0]) none h' := by
  show Ev ext (d + 2) n_X9_init 0 [.ref (h0.length + 0), .ref 1, xU] [] (h0 ++ [ns0]) none h'
  refine Ev.go 1 rfl ?_
  refine Ev.o98 rfl (Nat.le_of_ble_eq_true rfl) ?_
  refine Ev.go 2 rfl ?_
  refine Ev.naA (k := 6) (m := 1) rfl (by decide) rfl (by decide) rfl (by omega) ?_
  refine Ev.pfA (p := 0) rfl rfl rfl rfl ?_
  refine Ev.eqt (t' := (9, [.null, .int 0, .int 0, .int 0, .int 0, .ref (h0.length + 1), .null, .null, .null, .null, .null, .null, .null, .null, .null, .null, .null]) :: List.replicate 1 (rep0 6)) rfl ?_
  refine Ev.go 2 rfl ?_
  refine Ev.naA (k := 6) (m := 2) rfl (by decide) rfl (by decide) rfl (by omega) ?_
  refine Ev.pfA (p := 0) rfl rfl rfl rfl ?_
  refine Ev.eqt (t' := (9, [.null, .int 0, .int 0, .int 0, .int 0, .ref (h0.length + 1), .ref (h0.length + 2), .null, .null, .null, .null, .null, .null, .null, .null, .null, .null]) :: List.replicate 2 (rep0 6)) rfl ?_
  refine Ev.go 2 rfl ?_
  refine Ev.naA (k := 6) (m := 3) rfl (by decide) rfl (by decide) rfl (by omega) ?_
  refine Ev.pfA (p := 0) rfl rfl rfl rfl ?_
  refine Ev.eqt (t' := (9, [.null, .int 0, .int 0, .int 0, .int 0, .ref (h0.length + 1), .ref (h0.length + 2), .ref (h0.length + 3), .null, .null, .null, .null, .null, .null, .null, .null, .null]) :: List.replicate 3 (rep0 6)) rfl ?_
  refine Ev.go 2 rfl ?_
  refine Ev.naA (k := 6) (m := 4) rfl (by decide) rfl (by decide) rfl (by omega) ?_
  refine Ev.pfA (p := 0) rfl rfl rfl rfl ?_
  refine Ev.eqt (t' := (9, [.null, .int 0, .int 0, .int 0, .int 0, .ref (h0.length + 1), .ref (h0.length + 2), .ref (h0.length + 3), .ref (h0.length + 4), .null, .null, .null, .null, .null, .null, .null, .null]) :: List.replicate 4 (rep0 6)) rfl ?_
  refine Ev.go 2 rfl ?_
  refine Ev.naA (k := 6) (m := 5) rfl (by decide) rfl (by decide) rfl (by omega) ?_
  refine Ev.pfA (p := 0) rfl rfl rfl rfl ?_
  refine Ev.eqt (t' := (9, [.null, .int 0, .int 0, .int 0, .int 0, .ref (h0.length + 1), .ref (h0.length + 2), .ref (h0.length + 3), .ref (h0.length + 4), .ref (h0.length + 5), .null, .null, .null, .null, .null, .null, .null]) :: List.replicate 5 (rep0 6)) rfl ?_
  refine Ev.go 2 rfl ?_
  refine Ev.naA (k := 6) (m := 6) rfl (by decide) rfl (by decide) rfl (by omega) ?_
  refine Ev.pfA (p := 0) rfl rfl rfl rfl ?_
  refine Ev.eqt (t' := (9, [.null, .int 0, .int 0, .int 0, .int 0, .ref (h0.length + 1), .ref (h0.length + 2), .ref (h0.length + 3), .ref (h0.length + 4), .ref (h0.length + 5), .ref (h0.length + 6), .null, .null, .null, .null, .null, .null]) :: List.replicate 6 (rep0 6)) rfl ?_
  refine Ev.go 2 rfl ?_
  refine Ev.naA (k := 6) (m := 7) rfl (by decide) rfl (by decide) rfl (by omega) ?_
  refine Ev.pfA (p := 0) rfl rfl rfl rfl ?_
  refine Ev.eqt (t' := (9, [.null, .int 0, .int 0, .int 0, .int 0, .ref (h0.length + 1), .ref (h0.length + 2), .ref (h0.length + 3), .ref (h0.length + 4), .ref (h0.length + 5), .ref (h0.length + 6), .ref (h0.length + 7), .null, .null, .null, .null, .null]) :: List.replicate 7 (rep0 6)) rfl ?_
  refine Ev.go 2 rfl ?_
  refine Ev.naA (k := 6) (m := 8) rfl (by decide) rfl (by decide) rfl (by omega) ?_
  refine Ev.pfA (p := 0) rfl rfl rfl rfl ?_
  refine Ev.eqt (t' := (9, [.null, .int 0, .int 0, .int 0, .int 0, .ref (h0.length + 1), .ref (h0.length + 2), .ref (h0.length + 3), .ref (h0.length + 4), .ref (h0.length + 5), .ref (h0.length + 6), .ref (h0.length + 7), .ref (h0.length + 8), .null, .null, .null, .null]) :: List.replicate 8 (rep0 6)) rfl ?_
  refine Ev.go 2 rfl ?_
  refine Ev.naA (k := 6) (m := 9) rfl (by decide) rfl (by decide) rfl (by omega) ?_
  refine Ev.pfA (p := 0) rfl rfl rfl rfl ?_
  refine Ev.eqt (t' := (9, [.null, .int 0, .int 0, .int 0, .int 0, .ref (h0.length + 1), .ref (h0.length + 2), .ref (h0.length + 3), .ref (h0.length + 4), .ref (h0.length + 5), .ref (h0.length + 6), .ref (h0.length + 7), .ref (h0.length + 8), .ref (h0.length + 9), .null, .null, .null]) :: List.replicate 9 (rep0 6)) rfl ?_
  refine Ev.go 2 rfl ?_
  refine Ev.naA (k := 6) (m := 10) rfl (by decide) rfl (by decide) rfl (by omega) ?_
  refine Ev.pfA (p := 0) rfl rfl rfl rfl ?_
  refine Ev.eqt (t' := (9, [.null, .int 0, .int 0, .int 0, .int 0, .ref (h0.length + 1), .ref (h0.length + 2), .ref (h0.length + 3), .ref (h0.length + 4), .ref (h0.length + 5), .ref (h0.length + 6), .ref (h0.length + 7), .ref (h0.length + 8), .ref (h0.length + 9), .ref (h0.length + 10), .null, .null]) :: List.replicate 10 (rep0 6)) rfl ?_
  refine Ev.go 1 rfl ?_
  refine Ev.mkB (m := 11) rfl rfl rfl rfl (by omega) (Nat.le_of_ble_eq_true rfl) ?_
  refine Ev.pfA (p := 0) rfl rfl rfl rfl ?_
  refine Ev.eqt (t' := (9, [.null, .int 0, .int 0, .int 0, .int 0, .ref (h0.length + 1), .ref (h0.length + 2), .ref (h0.length + 3), .ref (h0.length + 4), .ref (h0.length + 5), .ref (h0.length + 6), .ref (h0.length + 7), .ref (h0.length + 8), .ref (h0.length + 9), .ref (h0.length + 10), .ref (h0.length + 11), .null]) :: (List.replicate 10 (rep0 6) ++ (bkH (h0.length + 11) ++ []))) rfl ?_
  refine Ev.go 2 rfl ?_
  refine Ev.anA (k := 8) (m := 17) rfl (by decide) rfl (by decide) rfl (by omega) ?_
  refine Ev.pfA (p := 0) rfl rfl rfl rfl ?_
  refine Ev.eqt (t' := (9, [.null, .int 0, .int 0, .int 0, .int 0, .ref (h0.length + 1), .ref (h0.length + 2), .ref (h0.length + 3), .ref (h0.length + 4), .ref (h0.length + 5), .ref (h0.length + 6), .ref (h0.length + 7), .ref (h0.length + 8), .ref (h0.length + 9), .ref (h0.length + 10), .ref (h0.length + 11), .ref (h0.length + 17)]) :: (List.replicate 10 (rep0 6) ++ (bkH (h0.length + 11) ++ ((25, [.null, .null, .null, .null, .null, .null, .null, .null]) :: [])))) rfl ?_
  refine Ev.go 2 rfl ?_
  refine Ev.pfA (p := 0) rfl rfl rfl rfl ?_
  refine Ev.eqt (t' := (9, [.ref 1, .int 0, .int 0, .int 0, .int 0, .ref (h0.length + 1), .ref (h0.length + 2), .ref (h0.length + 3), .ref (h0.length + 4), .ref (h0.length + 5), .ref (h0.length + 6), .ref (h0.length + 7), .ref (h0.length + 8), .ref (h0.length + 9), .ref (h0.length + 10), .ref (h0.length + 11), .ref (h0.length + 17)]) :: (List.replicate 10 (rep0 6) ++ (bkH (h0.length + 11) ++ ((25, [.null, .null, .null, .null, .null, .null, .null, .null]) :: [])))) rfl ?_
  refine Ev.go 2 rfl ?_
  show Ev ext (d + 2) n_X9_init 111 [.ref (h0.length + 0), .ref 1, .int 0] [] (h0 ++ ((9, [.ref 1, .int 0, .int 0, .int 0, .int 0, .ref (h0.length + 1), .ref (h0.length + 2), .ref (h0.length + 3), .ref (h0.length + 4), .ref (h0.length + 5), .ref (h0.length + 6), .ref (h0.length + 7), .ref (h0.length + 8), .ref (h0.length + 9), .ref (h0.length + 10), .ref (h0.length + 11), .ref (h0.length + 17)]) :: (List.replicate 10 (rep0 6) ++ (bkH (h0.length + 11) ++ ((25, [.null, .null, .null, .null, .null, .null, .null, .null]) :: []))))) none h'

  refine Ev.go 4 rfl ?_
  refine Ev.gfA (p := 0) rfl rfl rfl ?_
  refine Ev.go 1 rfl ?_
  refine Ev.mkB (m := 18) rfl rfl rfl rfl (by omega) (Nat.le_of_ble_eq_true rfl) ?_
  refine Ev.asA (p := 17) (q := 18) rfl rfl rfl rfl (by decide) rfl ?_
  refine Ev.eqt (t' := (9, [.ref 1, .int 0, .int 0, .int 0, .int 0, .ref (h0.length + 1), .ref (h0.length + 2), .ref (h0.length + 3), .ref (h0.length + 4), .ref (h0.length + 5), .ref (h0.length + 6), .ref (h0.length + 7), .ref (h0.length + 8), .ref (h0.length + 9), .ref (h0.length + 10), .ref (h0.length + 11), .ref (h0.length + 17)]) :: (List.replicate 10 (rep0 6) ++ (bkH (h0.length + 11) ++ ((25, [.ref (h0.length + 18), .null, .null, .null, .null, .null, .null, .null]) :: (bkH (h0.length + 18) ++ []))))) rfl ?_
  refine Ev.go 2 rfl ?_
  show Ev ext (d + 2) n_X9_init 111 [.ref (h0.length + 0), .ref 1, .int 1] [] (h0 ++ ((9, [.ref 1, .int 0, .int 0, .int 0, .int 0, .ref (h0.length + 1), .ref (h0.length + 2), .ref (h0.length + 3), .ref (h0.length + 4), .ref (h0.length + 5), .ref (h0.length + 6), .ref (h0.length + 7), .ref (h0.length + 8), .ref (h0.length + 9), .ref (h0.length + 10), .ref (h0.length + 11), .ref (h0.length + 17)]) :: (List.replicate 10 (rep0 6) ++ (bkH (h0.length + 11) ++ ((25, [.ref (h0.length + 18), .null, .null, .null, .null, .null, .null, .null]) :: (bkH (h0.length + 18) ++ [])))))) none h'

  refine Ev.go 4 rfl ?_
  refine Ev.gfA (p := 0) rfl rfl rfl ?_
  refine Ev.go 1 rfl ?_
  refine Ev.mkB (m := 24) rfl rfl rfl rfl (by omega) (Nat.le_of_ble_eq_true rfl) ?_
  refine Ev.asA (p := 17) (q := 24) rfl rfl rfl rfl (by decide) rfl ?_
  refine Ev.eqt (t' := (9, [.ref 1, .int 0, .int 0, .int 0, .int 0, .ref (h0.length + 1), .ref (h0.length + 2), .ref (h0.length + 3), .ref (h0.length + 4), .ref (h0.length + 5), .ref (h0.length + 6), .ref (h0.length + 7), .ref (h0.length + 8), .ref (h0.length + 9), .ref (h0.length + 10), .ref (h0.length + 11), .ref (h0.length + 17)]) :: (List.replicate 10 (rep0 6) ++ (bkH (h0.length + 11) ++ ((25, [.ref (h0.length + 18), .ref (h0.length + 24), .null, .null, .null, .null, .null, .null]) :: (bkH (h0.length + 18) ++ (bkH (h0.length + 24) ++ [])))))) rfl ?_
  refine Ev.go 2 rfl ?_
  show Ev ext (d + 2) n_X9_init 111 [.ref (h0.length + 0), .ref 1, .int 2] [] (h0 ++ ((9, [.ref 1, .int 0, .int 0, .int 0, .int 0, .ref (h0.length + 1), .ref (h0.length + 2), .ref (h0.length + 3), .ref (h0.length + 4), .ref (h0.length + 5), .ref (h0.length + 6), .ref (h0.length + 7), .ref (h0.length + 8), .ref (h0.length + 9), .ref (h0.length + 10), .ref (h0.length + 11), .ref (h0.length + 17)]) :: (List.replicate 10 (rep0 6) ++ (bkH (h0.length + 11) ++ ((25, [.ref (h0.length + 18), .ref (h0.length + 24), .null, .null, .null, .null, .null, .null]) :: (bkH (h0.length + 18) ++ (bkH (h0.length + 24) ++ []))))))) none h'

  refine Ev.go 4 rfl ?_
  refine Ev.gfA (p := 0) rfl rfl rfl ?_
  refine Ev.go 1 rfl ?_
  refine Ev.mkB (m := 30) rfl rfl rfl rfl (by omega) (Nat.le_of_ble_eq_true rfl) ?_
  refine Ev.asA (p := 17) (q := 30) rfl rfl rfl rfl (by decide) rfl ?_
  refine Ev.eqt (t' := (9, [.ref 1, .int 0, .int 0, .int 0, .int 0, .ref (h0.length + 1), .ref (h0.length + 2), .ref (h0.length + 3), .ref (h0.length + 4), .ref (h0.length + 5), .ref (h0.length + 6), .ref (h0.length + 7), .ref (h0.length + 8), .ref (h0.length + 9), .ref (h0.length + 10), .ref (h0.length + 11), .ref (h0.length + 17)]) :: (List.replicate 10 (rep0 6) ++ (bkH (h0.length + 11) ++ ((25, [.ref (h0.length + 18), .ref (h0.length + 24), .ref (h0.length + 30), .null, .null, .null, .null, .null]) :: (bkH (h0.length + 18) ++ (bkH (h0.length + 24) ++ (bkH (h0.length + 30) ++ []))))))) rfl ?_
  refine Ev.go 2 rfl ?_
  show Ev ext (d + 2) n_X9_init 111 [.ref (h0.length + 0), .ref 1, .int 3] [] (h0 ++ ((9, [.ref 1, .int 0, .int 0, .int 0, .int 0, .ref (h0.length + 1), .ref (h0.length + 2), .ref (h0.length + 3), .ref (h0.length + 4), .ref (h0.length + 5), .ref (h0.length + 6), .ref (h0.length + 7), .ref (h0.length + 8), .ref (h0.length + 9), .ref (h0.length + 10), .ref (h0.length + 11), .ref (h0.length + 17)]) :: (List.replicate 10 (rep0 6) ++ (bkH (h0.length + 11) ++ ((25, [.ref (h0.length + 18), .ref (h0.length + 24), .ref (h0.length + 30), .null, .null, .null, .null, .null]) :: (bkH (h0.length + 18) ++ (bkH (h0.length + 24) ++ (bkH (h0.length + 30) ++ [])))))))) none h'

  refine Ev.go 4 rfl ?_
  refine Ev.gfA (p := 0) rfl rfl rfl ?_
  refine Ev.go 1 rfl ?_
  refine Ev.mkB (m := 36) rfl rfl rfl rfl (by omega) (Nat.le_of_ble_eq_true rfl) ?_
  refine Ev.asA (p := 17) (q := 36) rfl rfl rfl rfl (by decide) rfl ?_
  refine Ev.eqt (t' := (9, [.ref 1, .int 0, .int 0, .int 0, .int 0, .ref (h0.length + 1), .ref (h0.length + 2), .ref (h0.length + 3), .ref (h0.length + 4), .ref (h0.length + 5), .ref (h0.length + 6), .ref (h0.length + 7), .ref (h0.length + 8), .ref (h0.length + 9), .ref (h0.length + 10), .ref (h0.length + 11), .ref (h0.length + 17)]) :: (List.replicate 10 (rep0 6) ++ (bkH (h0.length + 11) ++ ((25, [.ref (h0.length + 18), .ref (h0.length + 24), .ref (h0.length + 30), .ref (h0.length + 36), .null, .null, .null, .null]) :: (bkH (h0.length + 18) ++ (bkH (h0.length + 24) ++ (bkH (h0.length + 30) ++ (bkH (h0.length + 36) ++ [])))))))) rfl ?_
  refine Ev.go 2 rfl ?_
  show Ev ext (d + 2) n_X9_init 111 [.ref (h0.length + 0), .ref 1, .int 4] [] (h0 ++ ((9, [.ref 1, .int 0, .int 0, .int 0, .int 0, .ref (h0.length + 1), .ref (h0.length + 2), .ref (h0.length + 3), .ref (h0.length + 4), .ref (h0.length + 5), .ref (h0.length + 6), .ref (h0.length + 7), .ref (h0.length + 8), .ref (h0.length + 9), .ref (h0.length + 10), .ref (h0.length + 11), .ref (h0.length + 17)]) :: (List.replicate 10 (rep0 6) ++ (bkH (h0.length + 11) ++ ((25, [.ref (h0.length + 18), .ref (h0.length + 24), .ref (h0.length + 30), .ref (h0.length + 36), .null, .null, .null, .null]) :: (bkH (h0.length + 18) ++ (bkH (h0.length + 24) ++ (bkH (h0.length + 30) ++ (bkH (h0.length + 36) ++ []))))))))) none h'

  refine Ev.go 4 rfl ?_
  refine Ev.gfA (p := 0) rfl rfl rfl ?_
  refine Ev.go 1 rfl ?_
  refine Ev.mkB (m := 42) rfl rfl rfl rfl (by omega) (Nat.le_of_ble_eq_true rfl) ?_
  refine Ev.asA (p := 17) (q := 42) rfl rfl rfl rfl (by decide) rfl ?_
  refine Ev.eqt (t' := (9, [.ref 1, .int 0, .int 0, .int 0, .int 0, .ref (h0.length + 1), .ref (h0.length + 2), .ref (h0.length + 3), .ref (h0.length + 4), .ref (h0.length + 5), .ref (h0.length + 6), .ref (h0.length + 7), .ref (h0.length + 8), .ref (h0.length + 9), .ref (h0.length + 10), .ref (h0.length + 11), .ref (h0.length + 17)]) :: (List.replicate 10 (rep0 6) ++ (bkH (h0.length + 11) ++ ((25, [.ref (h0.length + 18), .ref (h0.length + 24), .ref (h0.length + 30), .ref (h0.length + 36), .ref (h0.length + 42), .null, .null, .null]) :: (bkH (h0.length + 18) ++ (bkH (h0.length + 24) ++ (bkH (h0.length + 30) ++ (bkH (h0.length + 36) ++ (bkH (h0.length + 42) ++ []))))))))) rfl ?_
  refine Ev.go 2 rfl ?_
  show Ev ext (d + 2) n_X9_init 111 [.ref (h0.length + 0), .ref 1, .int 5] [] (h0 ++ ((9, [.ref 1, .int 0, .int 0, .int 0, .int 0, .ref (h0.length + 1), .ref (h0.length + 2), .ref (h0.length + 3), .ref (h0.length + 4), .ref (h0.length + 5), .ref (h0.length + 6), .ref (h0.length + 7), .ref (h0.length + 8), .ref (h0.length + 9), .ref (h0.length + 10), .ref (h0.length + 11), .ref (h0.length + 17)]) :: (List.replicate 10 (rep0 6) ++ (bkH (h0.length + 11) ++ ((25, [.ref (h0.length + 18), .ref (h0.length + 24), .ref (h0.length + 30), .ref (h0.length + 36), .ref (h0.length + 42), .null, .null, .null]) :: (bkH (h0.length + 18) ++ (bkH (h0.length + 24) ++ (bkH (h0.length + 30) ++ (bkH (h0.length + 36) ++ (bkH (h0.length + 42) ++ [])))))))))) none h'

  refine Ev.go 4 rfl ?_
  refine Ev.gfA (p := 0) rfl rfl rfl ?_
  refine Ev.go 1 rfl ?_
  refine Ev.mkB (m := 48) rfl rfl rfl rfl (by omega) (Nat.le_of_ble_eq_true rfl) ?_
  refine Ev.asA (p := 17) (q := 48) rfl rfl rfl rfl (by decide) rfl ?_
  refine Ev.eqt (t' := (9, [.ref 1, .int 0, .int 0, .int 0, .int 0, .ref (h0.length + 1), .ref (h0.length + 2), .ref (h0.length + 3), .ref (h0.length + 4), .ref (h0.length + 5), .ref (h0.length + 6), .ref (h0.length + 7), .ref (h0.length + 8), .ref (h0.length + 9), .ref (h0.length + 10), .ref (h0.length + 11), .ref (h0.length + 17)]) :: (List.replicate 10 (rep0 6) ++ (bkH (h0.length + 11) ++ ((25, [.ref (h0.length + 18), .ref (h0.length + 24), .ref (h0.length + 30), .ref (h0.length + 36), .ref (h0.length + 42), .ref (h0.length + 48), .null, .null]) :: (bkH (h0.length + 18) ++ (bkH (h0.length + 24) ++ (bkH (h0.length + 30) ++ (bkH (h0.length + 36) ++ (bkH (h0.length + 42) ++ (bkH (h0.length + 48) ++ [])))))))))) rfl ?_
  refine Ev.go 2 rfl ?_
  show Ev ext (d + 2) n_X9_init 111 [.ref (h0.length + 0), .ref 1, .int 6] [] (h0 ++ ((9, [.ref 1, .int 0, .int 0, .int 0, .int 0, .ref (h0.length + 1), .ref (h0.length + 2), .ref (h0.length + 3), .ref (h0.length + 4), .ref (h0.length + 5), .ref (h0.length + 6), .ref (h0.length + 7), .ref (h0.length + 8), .ref (h0.length + 9), .ref (h0.length + 10), .ref (h0.length + 11), .ref (h0.length + 17)]) :: (List.replicate 10 (rep0 6) ++ (bkH (h0.length + 11) ++ ((25, [.ref (h0.length + 18), .ref (h0.length + 24), .ref (h0.length + 30), .ref (h0.length + 36), .ref (h0.length + 42), .ref (h0.length + 48), .null, .null]) :: (bkH (h0.length + 18) ++ (bkH (h0.length + 24) ++ (bkH (h0.length + 30) ++ (bkH (h0.length + 36) ++ (bkH (h0.length + 42) ++ (bkH (h0.length + 48) ++ []))))))))))) none h'

  refine Ev.go 4 rfl ?_
  refine Ev.gfA (p := 0) rfl rfl rfl ?_
  refine Ev.go 1 rfl ?_
  refine Ev.mkB (m := 54) rfl rfl rfl rfl (by omega) (Nat.le_of_ble_eq_true rfl) ?_
  refine Ev.asA (p := 17) (q := 54) rfl rfl rfl rfl (by decide) rfl ?_
  refine Ev.eqt (t' := (9, [.ref 1, .int 0, .int 0, .int 0, .int 0, .ref (h0.length + 1), .ref (h0.length + 2), .ref (h0.length + 3), .ref (h0.length + 4), .ref (h0.length + 5), .ref (h0.length + 6), .ref (h0.length + 7), .ref (h0.length + 8), .ref (h0.length + 9), .ref (h0.length + 10), .ref (h0.length + 11), .ref (h0.length + 17)]) :: (List.replicate 10 (rep0 6) ++ (bkH (h0.length + 11) ++ ((25, [.ref (h0.length + 18), .ref (h0.length + 24), .ref (h0.length + 30), .ref (h0.length + 36), .ref (h0.length + 42), .ref (h0.length + 48), .ref (h0.length + 54), .null]) :: (bkH (h0.length + 18) ++ (bkH (h0.length + 24) ++ (bkH (h0.length + 30) ++ (bkH (h0.length + 36) ++ (bkH (h0.length + 42) ++ (bkH (h0.length + 48) ++ (bkH (h0.length + 54) ++ []))))))))))) rfl ?_
  refine Ev.go 2 rfl ?_
  show Ev ext (d + 2) n_X9_init 111 [.ref (h0.length + 0), .ref 1, .int 7] [] (h0 ++ ((9, [.ref 1, .int 0, .int 0, .int 0, .int 0, .ref (h0.length + 1), .ref (h0.length + 2), .ref (h0.length + 3), .ref (h0.length + 4), .ref (h0.length + 5), .ref (h0.length + 6), .ref (h0.length + 7), .ref (h0.length + 8), .ref (h0.length + 9), .ref (h0.length + 10), .ref (h0.length + 11), .ref (h0.length + 17)]) :: (List.replicate 10 (rep0 6) ++ (bkH (h0.length + 11) ++ ((25, [.ref (h0.length + 18), .ref (h0.length + 24), .ref (h0.length + 30), .ref (h0.length + 36), .ref (h0.length + 42), .ref (h0.length + 48), .ref (h0.length + 54), .null]) :: (bkH (h0.length + 18) ++ (bkH (h0.length + 24) ++ (bkH (h0.length + 30) ++ (bkH (h0.length + 36) ++ (bkH (h0.length + 42) ++ (bkH (h0.length + 48) ++ (bkH (h0.length + 54) ++ [])))))))))))) none h'

  refine Ev.go 4 rfl ?_
  refine Ev.gfA (p := 0) rfl rfl rfl ?_
  refine Ev.go 1 rfl ?_
  refine Ev.mkB (m := 60) rfl rfl rfl rfl (by omega) (Nat.le_of_ble_eq_true rfl) ?_
  refine Ev.asA (p := 17) (q := 60) rfl rfl rfl rfl (by decide) rfl ?_
  refine Ev.eqt (t' := (9, [.ref 1, .int 0, .int 0, .int 0, .int 0, .ref (h0.length + 1), .ref (h0.length + 2), .ref (h0.length + 3), .ref (h0.length + 4), .ref (h0.length + 5), .ref (h0.length + 6), .ref (h0.length + 7), .ref (h0.length + 8), .ref (h0.length + 9), .ref (h0.length + 10), .ref (h0.length + 11), .ref (h0.length + 17)]) :: (List.replicate 10 (rep0 6) ++ (bkH (h0.length + 11) ++ ((25, [.ref (h0.length + 18), .ref (h0.length + 24), .ref (h0.length + 30), .ref (h0.length + 36), .ref (h0.length + 42), .ref (h0.length + 48), .ref (h0.length + 54), .ref (h0.length + 60)]) :: (bkH (h0.length + 18) ++ (bkH (h0.length + 24) ++ (bkH (h0.length + 30) ++ (bkH (h0.length + 36) ++ (bkH (h0.length + 42) ++ (bkH (h0.length + 48) ++ (bkH (h0.length + 54) ++ (bkH (h0.length + 60) ++ [])))))))))))) rfl ?_
  refine Ev.go 2 rfl ?_
  show Ev ext (d + 2) n_X9_init 111 [.ref (h0.length + 0), .ref 1, .int 8] [] (h0 ++ ((9, [.ref 1, .int 0, .int 0, .int 0, .int 0, .ref (h0.length + 1), .ref (h0.length + 2), .ref (h0.length + 3), .ref (h0.length + 4), .ref (h0.length + 5), .ref (h0.length + 6), .ref (h0.length + 7), .ref (h0.length + 8), .ref (h0.length + 9), .ref (h0.length + 10), .ref (h0.length + 11), .ref (h0.length + 17)]) :: (List.replicate 10 (rep0 6) ++ (bkH (h0.length + 11) ++ ((25, [.ref (h0.length + 18), .ref (h0.length + 24), .ref (h0.length + 30), .ref (h0.length + 36), .ref (h0.length + 42), .ref (h0.length + 48), .ref (h0.length + 54), .ref (h0.length + 60)]) :: (bkH (h0.length + 18) ++ (bkH (h0.length + 24) ++ (bkH (h0.length + 30) ++ (bkH (h0.length + 36) ++ (bkH (h0.length + 42) ++ (bkH (h0.length + 48) ++ (bkH (h0.length + 54) ++ (bkH (h0.length + 60) ++ []))))))))))))) none h'

  refine Ev.go 3 rfl ?_
  refine Ev.eqt (t' := spH h0.length) rfl ?_
  exact kk
