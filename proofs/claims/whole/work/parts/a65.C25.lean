theorem app_get {h0 t : xH} {k : Nat} : (h0 ++ t)[h0.length + k]? = t[k]? := by
  rw [List.getElem?_append_right (by omega)]
  congr 1
  omega
theorem app_set {h0 t : xH} {k : Nat} {c : xC} : (h0 ++ t).set (h0.length + k) c = h0 ++ t.set k c := by
  rw [List.set_append_right _ _ (by omega)]
  congr 2
  omega
section
variable {ext : List xC} {d mi pc nx : Nat} {L st : List Value} {h0 t : xH} {r : Option Value} {h' : xH}
theorem Ev.o98 {idx a : Nat} {h : xH} (hf : xfind (xmt mi).2 pc = some (.invokespecial idx, nx, [98])) (h8 : xcat st ≤ 8) (k : Ev ext (d + 1) mi nx L st h r h') : Ev ext (d + 1) mi pc L (.ref a :: st) h r h' := by
  refine Ev.s hf (w := (nx, L, st, h)) ?_ k
  show (if d + 1 = 0 ∨ 8 < xcat st then none else some (nx, L, st, h)) = _
  rw [if_neg (by omega)]
theorem Ev.naA {ty : ArrayType} {i : Int32} {k m : Nat} (hf : xfind (xmt mi).2 pc = some (.newarray ty, nx, [20])) (hi : ¬ i < 0) (hk : i.toNatClampNeg = k) (hk2 : k ≤ 1100) (hm : t.length = m) (h5 : h0.length + m < 5000) (kk : Ev ext d mi nx L (.ref (h0.length + m) :: st) (h0 ++ (t ++ [(20, List.replicate k (.int 0))])) r h') : Ev ext d mi pc L (.int i :: st) (h0 ++ t) r h' := by
  refine Ev.s hf (w := (nx, L, .ref (h0.length + m) :: st, h0 ++ (t ++ [(20, List.replicate k (.int 0))]))) ?_ kk
  show (if i < 0 then none else (xadd (h0 ++ t) (20, List.replicate i.toNatClampNeg (.int 0))).bind fun h' => some (nx, L, .ref (h0 ++ t).length :: st, h')) = _
  rw [if_neg hi, hk]
  unfold xadd
  rw [if_pos ⟨by rw [List.length_append, hm]; exact h5, by rw [List.length_replicate]; exact hk2⟩, Option.bind_some, List.length_append, hm, List.append_assoc]
theorem Ev.anA {ty tg : Nat} {i : Int32} {k m : Nat} (hf : xfind (xmt mi).2 pc = some (.anewarray ty, nx, [tg])) (hi : ¬ i < 0) (hk : i.toNatClampNeg = k) (hk2 : k ≤ 1100) (hm : t.length = m) (h5 : h0.length + m < 5000) (kk : Ev ext d mi nx L (.ref (h0.length + m) :: st) (h0 ++ (t ++ [(tg, List.replicate k .null)])) r h') : Ev ext d mi pc L (.int i :: st) (h0 ++ t) r h' := by
  refine Ev.s hf (w := (nx, L, .ref (h0.length + m) :: st, h0 ++ (t ++ [(tg, List.replicate k .null)]))) ?_ kk
  show (if i < 0 then none else (xadd (h0 ++ t) (tg, List.replicate i.toNatClampNeg .null)).bind fun h' => some (nx, L, .ref (h0 ++ t).length :: st, h')) = _
  rw [if_neg hi, hk]
  unfold xadd
  rw [if_pos ⟨by rw [List.length_append, hm]; exact h5, by rw [List.length_replicate]; exact hk2⟩, Option.bind_some, List.length_append, hm, List.append_assoc]
theorem Ev.nwA {idx ci m : Nat} {fs : List Value} (hf : xfind (xmt mi).2 pc = some (.new idx, nx, [ci])) (hfs : (List.range (xnf ci)).map (fun k => defaultValue (xfty ci k)) = fs) (hl : fs.length ≤ 1100) (hm : t.length = m) (h5 : h0.length + m < 5000) (kk : Ev ext d mi nx L (.ref (h0.length + m) :: st) (h0 ++ (t ++ [(ci, fs)])) r h') : Ev ext d mi pc L st (h0 ++ t) r h' := by
  refine Ev.s hf (w := (nx, L, .ref (h0.length + m) :: st, h0 ++ (t ++ [(ci, fs)]))) ?_ kk
  show (xadd (h0 ++ t) (ci, (List.range (xnf ci)).map fun k => defaultValue (xfty ci k))).bind (fun h' => some (nx, L, .ref (h0 ++ t).length :: st, h')) = _
  rw [hfs]
  unfold xadd
  rw [if_pos ⟨by rw [List.length_append, hm]; exact h5, hl⟩, Option.bind_some, List.length_append, hm, List.append_assoc]
theorem Ev.pfA {ci k idx p : Nat} {v : Value} {fs : List Value} (hf : xfind (xmt mi).2 pc = some (.putfield idx, nx, [ci, k])) (hc : t[p]? = some (ci, fs)) (hk : Nat.blt k fs.length = true) (hv : xfit (xfty ci k) v = true) (kk : Ev ext d mi nx L st (h0 ++ t.set p (ci, fs.set k v)) r h') : Ev ext d mi pc L (v :: .ref (h0.length + p) :: st) (h0 ++ t) r h' := by
  refine Ev.pf hf (fs := fs) (by rw [app_get]; exact hc) hk hv ?_
  rw [app_set]
  exact kk
theorem Ev.gfA {ci k idx p : Nat} {v : Value} {fs : List Value} (hf : xfind (xmt mi).2 pc = some (.getfield idx, nx, [ci, k])) (hc : t[p]? = some (ci, fs)) (hk : fs[k]? = some v) (kk : Ev ext d mi nx L (v :: st) (h0 ++ t) r h') : Ev ext d mi pc L (.ref (h0.length + p) :: st) (h0 ++ t) r h' :=
  Ev.gf hf (fs := fs) (by rw [app_get]; exact hc) hk kk
theorem Ev.eqt {t' : xH} (e : t = t') (k : Ev ext d mi pc L st (h0 ++ t') r h') : Ev ext d mi pc L st (h0 ++ t) r h' := by
  rw [e]
  exact k
theorem Ev.asA {i : Int32} {p q : Nat} {vs : List Value} {w : Value} {cv : xC} (hf : xfind (xmt mi).2 pc = some (.aastore, nx, [])) (hc : t[p]? = some (25, vs)) (hv : t[q]? = some cv) (hv0 : cv.1 = 0) (hi : ¬ i < 0) (hk : vs[i.toNatClampNeg]? = some w) (kk : Ev ext d mi nx L st (h0 ++ t.set p (25, vs.set i.toNatClampNeg (.ref (h0.length + q)))) r h') : Ev ext d mi pc L (.ref (h0.length + q) :: .int i :: .ref (h0.length + p) :: st) (h0 ++ t) r h' := by
  refine Ev.s hf (w := (nx, L, st, h0 ++ t.set p (25, vs.set i.toNatClampNeg (.ref (h0.length + q))))) ?_ kk
  show ((h0 ++ t)[h0.length + p]?).bind (fun c => ((h0 ++ t)[h0.length + q]?).bind fun cv => cond (xasg c.1 cv.1) ((xix i c.2).bind fun _ => some (nx, L, st, (h0 ++ t).set (h0.length + p) (c.1, c.2.set i.toNatClampNeg (.ref (h0.length + q))))) none) = _
  rw [app_get, hc, Option.bind_some, app_get, hv, Option.bind_some]
  show cond (xasg 25 cv.1) _ _ = _
  rw [hv0]
  show (xix i vs).bind _ = _
  unfold xix
  rw [if_neg hi, hk, Option.bind_some]
  show some (nx, L, st, (h0 ++ t).set (h0.length + p) (25, vs.set i.toNatClampNeg (.ref (h0.length + q)))) = _
  rw [app_set]
theorem Ev.asK {i : Int32} {p q : Nat} {vs : List Value} {w : Value} {cv : xC} (hf : xfind (xmt mi).2 pc = some (.aastore, nx, [])) (hc : t[p]? = some (23, vs)) (hv : t[q]? = some cv) (hv0 : xasg 23 cv.1 = true) (hi : ¬ i < 0) (hk : vs[i.toNatClampNeg]? = some w) (kk : Ev ext d mi nx L st (h0 ++ t.set p (23, vs.set i.toNatClampNeg (.ref (h0.length + q)))) r h') : Ev ext d mi pc L (.ref (h0.length + q) :: .int i :: .ref (h0.length + p) :: st) (h0 ++ t) r h' := by
  refine Ev.s hf (w := (nx, L, st, h0 ++ t.set p (23, vs.set i.toNatClampNeg (.ref (h0.length + q))))) ?_ kk
  show ((h0 ++ t)[h0.length + p]?).bind (fun c => ((h0 ++ t)[h0.length + q]?).bind fun cv => cond (xasg c.1 cv.1) ((xix i c.2).bind fun _ => some (nx, L, st, (h0 ++ t).set (h0.length + p) (c.1, c.2.set i.toNatClampNeg (.ref (h0.length + q))))) none) = _
  rw [app_get, hc, Option.bind_some, app_get, hv, Option.bind_some]
  show cond (xasg 23 cv.1) _ _ = _
  rw [hv0]
  show (xix i vs).bind _ = _
  unfold xix
  rw [if_neg hi, hk, Option.bind_some]
  show some (nx, L, st, (h0 ++ t).set (h0.length + p) (23, vs.set i.toNatClampNeg (.ref (h0.length + q)))) = _
  rw [app_set]
end
def rep0 (n : Nat) : xC := (20, List.replicate n (.int 0))
/-- the cells of a new Book at a -/
def bkH (a : Nat) : xH := [(0, [.int 0, .int 0, .int 0, .ref (a + 1), .ref (a + 2), .ref (a + 3), .ref (a + 4), .ref (a + 5)]), rep0 6, rep0 6, rep0 12, rep0 12, rep0 12]
def nb0 : xC := (0, [.int 0, .int 0, .int 0, .null, .null, .null, .null, .null])
def ns0 : xC := (9, [.null, .int 0, .int 0, .int 0, .int 0, .null, .null, .null, .null, .null, .null, .null, .null, .null, .null, .null, .null])

theorem c_Book_init {ext : List xC} {d : Nat} {h0 : xH} (h5 : h0.length + 6 ≤ 5000) : EvM ext (d + 1) n_X0_init [.ref h0.length] (h0 ++ [nb0]) none (h0 ++ bkH h0.length) := by
  show Ev ext (d + 1) n_X0_init 0 [.ref (h0.length + 0)] [] (h0 ++ [nb0]) none (h0 ++ bkH h0.length)
  refine Ev.go 1 rfl ?_
  refine Ev.o98 rfl (Nat.le_of_ble_eq_true rfl) ?_
  refine Ev.go 2 rfl ?_
  refine Ev.naA (k := 6) (m := 1) rfl (by decide) rfl (by decide) rfl (by omega) ?_
  refine Ev.pfA (p := 0) rfl rfl rfl rfl ?_
  refine Ev.eqt (t' := (0, [.int 0, .int 0, .int 0, .ref (h0.length + 1), .null, .null, .null, .null]) :: [rep0 6]) rfl ?_
  refine Ev.go 2 rfl ?_
  refine Ev.naA (k := 6) (m := 2) rfl (by decide) rfl (by decide) rfl (by omega) ?_
  refine Ev.pfA (p := 0) rfl rfl rfl rfl ?_
  refine Ev.eqt (t' := (0, [.int 0, .int 0, .int 0, .ref (h0.length + 1), .ref (h0.length + 2), .null, .null, .null]) :: [rep0 6, rep0 6]) rfl ?_
  refine Ev.go 2 rfl ?_
  refine Ev.naA (k := 12) (m := 3) rfl (by decide) rfl (by decide) rfl (by omega) ?_
  refine Ev.pfA (p := 0) rfl rfl rfl rfl ?_
  refine Ev.eqt (t' := (0, [.int 0, .int 0, .int 0, .ref (h0.length + 1), .ref (h0.length + 2), .ref (h0.length + 3), .null, .null]) :: [rep0 6, rep0 6, rep0 12]) rfl ?_
  refine Ev.go 2 rfl ?_
  refine Ev.naA (k := 12) (m := 4) rfl (by decide) rfl (by decide) rfl (by omega) ?_
  refine Ev.pfA (p := 0) rfl rfl rfl rfl ?_
  refine Ev.eqt (t' := (0, [.int 0, .int 0, .int 0, .ref (h0.length + 1), .ref (h0.length + 2), .ref (h0.length + 3), .ref (h0.length + 4), .null]) :: [rep0 6, rep0 6, rep0 12, rep0 12]) rfl ?_
  refine Ev.go 2 rfl ?_
  refine Ev.naA (k := 12) (m := 5) rfl (by decide) rfl (by decide) rfl (by omega) ?_
  refine Ev.pfA (p := 0) rfl rfl rfl rfl ?_
  refine Ev.eqt (t' := (0, [.int 0, .int 0, .int 0, .ref (h0.length + 1), .ref (h0.length + 2), .ref (h0.length + 3), .ref (h0.length + 4), .ref (h0.length + 5)]) :: [rep0 6, rep0 6, rep0 12, rep0 12, rep0 12]) rfl ?_
  exact Ev.r rfl rfl
theorem c_Lake_init {ext : List xC} {d a : Nat} {h : xH} : EvM ext (d + 1) n_X7_init [.ref a] h none h := by
  show Ev ext (d + 1) n_X7_init 0 [.ref a] [] h none h
  refine Ev.go 1 rfl ?_
  refine Ev.o98 rfl (Nat.le_of_ble_eq_true rfl) ?_
  exact Ev.r rfl rfl
theorem c_Street_init {ext : List xC} {d a ci : Nat} {fs : List Value} {h : xH} (hc : h[a]? = some (ci, fs)) (hx : Nat.blt ci 13 = true) : EvM ext (d + 2) n_X10_init [.ref a] h none h := by
  show Ev ext (d + 2) n_X10_init 0 [.ref a] [] h none h
  refine Ev.go 1 rfl ?_
  refine Ev.u (na := 0) (rest := []) (a := a) (ci := ci) (fs := fs) rfl rfl hc hx (Nat.le_of_ble_eq_true rfl) (Nat.le_of_ble_eq_true rfl) c_Lake_init ?_
  exact Ev.r rfl rfl
theorem c_Fire_init {ext : List xC} {d a ci : Nat} {fs : List Value} {h : xH} (hc : h[a]? = some (ci, fs)) (hx : Nat.blt ci 13 = true) : EvM ext (d + 2) n_X3_init [.ref a] h none h := by
  show Ev ext (d + 2) n_X3_init 0 [.ref a] [] h none h
  refine Ev.go 1 rfl ?_
  refine Ev.u (na := 0) (rest := []) (a := a) (ci := ci) (fs := fs) rfl rfl hc hx (Nat.le_of_ble_eq_true rfl) (Nat.le_of_ble_eq_true rfl) c_Lake_init ?_
  exact Ev.r rfl rfl
theorem c_Bricks_init {ext : List xC} {d a ci : Nat} {fs : List Value} {h : xH} (hc : h[a]? = some (ci, fs)) (hx : Nat.blt ci 13 = true) : EvM ext (d + 2) n_X1_init [.ref a] h none h := by
  show Ev ext (d + 2) n_X1_init 0 [.ref a] [] h none h
  refine Ev.go 1 rfl ?_
  refine Ev.u (na := 0) (rest := []) (a := a) (ci := ci) (fs := fs) rfl rfl hc hx (Nat.le_of_ble_eq_true rfl) (Nat.le_of_ble_eq_true rfl) c_Lake_init ?_
  exact Ev.r rfl rfl
theorem c_Kitchen_init {ext : List xC} {d a ci : Nat} {fs : List Value} {h : xH} (hc : h[a]? = some (ci, fs)) (hx : Nat.blt ci 13 = true) : EvM ext (d + 3) n_X6_init [.ref a] h none h := by
  show Ev ext (d + 3) n_X6_init 0 [.ref a] [] h none h
  refine Ev.go 1 rfl ?_
  refine Ev.u (na := 0) (rest := []) (a := a) (ci := ci) (fs := fs) rfl rfl hc hx (Nat.le_of_ble_eq_true rfl) (Nat.le_of_ble_eq_true rfl) (c_Street_init hc hx) ?_
  exact Ev.r rfl rfl
theorem c_Fogged_init {ext : List xC} {d a ci : Nat} {fs : List Value} {h : xH} (hc : h[a]? = some (ci, fs)) (hx : Nat.blt ci 13 = true) : EvM ext (d + 4) n_X4_init [.ref a] h none h := by
  show Ev ext (d + 4) n_X4_init 0 [.ref a] [] h none h
  refine Ev.go 1 rfl ?_
  refine Ev.u (na := 0) (rest := []) (a := a) (ci := ci) (fs := fs) rfl rfl hc hx (Nat.le_of_ble_eq_true rfl) (Nat.le_of_ble_eq_true rfl) (c_Kitchen_init hc hx) ?_
  exact Ev.r rfl rfl
section
variable {ext : List xC} {d mi pc : Nat} {L st : List Value} {h0 t : xH} {r : Option Value} {h' : xH}
theorem Ev.mkB {p1 p2 p3 i0 i2 m : Nat} (hf0 : xfind (xmt mi).2 pc = some (.new i0, p1, [0])) (hf1 : xfind (xmt mi).2 p1 = some (.dup, p2, [])) (hf2 : xfind (xmt mi).2 p2 = some (.invokespecial i2, p3, [0, n_X0_init])) (hm : t.length = m) (h5 : h0.length + m + 6 ≤ 5000) (h8 : xcat (.ref (h0.length + m) :: st) ≤ 8) (kk : Ev ext (d + 2) mi p3 L (.ref (h0.length + m) :: st) (h0 ++ (t ++ bkH (h0.length + m))) r h') : Ev ext (d + 2) mi pc L st (h0 ++ t) r h' := by
  refine Ev.nwA (m := m) (fs := nb0.2) hf0 rfl (by decide) hm (by omega) ?_
  refine Ev.s hf1 rfl ?_
  have e1 : (h0 ++ t).length = h0.length + m := by rw [List.length_append, hm]
  have hb := c_Book_init (ext := ext) (d := d) (h0 := h0 ++ t) (by rw [e1]; exact h5)
  rw [e1, List.append_assoc, List.append_assoc] at hb
  refine Ev.u (na := 0) (rest := .ref (h0.length + m) :: st) (a := h0.length + m) (fs := nb0.2) (ci := 0) hf2 rfl ?_ rfl h8 (Nat.le_of_ble_eq_true rfl) hb ?_
  · rw [app_get, List.getElem?_append_right (by omega), hm, Nat.sub_self]
    rfl
  · exact kk
theorem Ev.mkK {p1 p2 p3 i0 i2 m ci mj : Nat} (hf0 : xfind (xmt mi).2 pc = some (.new i0, p1, [ci])) (hfs : (List.range (xnf ci)).map (fun k => defaultValue (xfty ci k)) = []) (hf1 : xfind (xmt mi).2 p1 = some (.dup, p2, [])) (hf2 : xfind (xmt mi).2 p2 = some (.invokespecial i2, p3, [0, mj])) (hx : Nat.blt ci 13 = true) (hl : 1 ≤ xmax mj) (hm : t.length = m) (h5 : h0.length + m < 5000) (h8 : xcat (.ref (h0.length + m) :: st) ≤ 8) (hk : ∀ (h : xH) (a : Nat), h[a]? = some (ci, []) → EvM ext d mj [.ref a] h none h) (kk : Ev ext (d + 1) mi p3 L (.ref (h0.length + m) :: st) (h0 ++ (t ++ [(ci, [])])) r h') : Ev ext (d + 1) mi pc L st (h0 ++ t) r h' := by
  refine Ev.nwA (m := m) (fs := []) hf0 hfs (by decide) hm h5 ?_
  refine Ev.s hf1 rfl ?_
  have hg : (h0 ++ (t ++ [(ci, [])]))[h0.length + m]? = some (ci, []) := by
    rw [app_get, List.getElem?_append_right (by omega), hm, Nat.sub_self]
    rfl
  refine Ev.u (na := 0) (rest := .ref (h0.length + m) :: st) (a := h0.length + m) (fs := []) (ci := ci) hf2 rfl hg hx h8 hl (hk _ _ hg) ?_
  exact kk
end

/-- the cells of a new shop at a, but for what empty() writes -/
def spH (a : Nat) : xH := (9, [.ref (a + 1), .int 0, .int 0, .int 0, .int 0, .ref (a + 8), .ref (a + 9), .ref (a + 10), .ref (a + 11), .ref (a + 12), .ref (a + 13), .ref (a + 14), .ref (a + 15), .ref (a + 16), .ref (a + 17), .ref (a + 18), .ref (a + 24)]) :: (23, [.ref (a + 2), .ref (a + 3), .ref (a + 4), .ref (a + 5), .ref (a + 6), .ref (a + 7)]) :: (7, []) :: (10, []) :: (3, []) :: (6, []) :: (1, []) :: (4, []) :: (List.replicate 10 (rep0 6) ++ (bkH (a + 18) ++ ((25, [.ref (a + 25), .ref (a + 31), .ref (a + 37), .ref (a + 43), .ref (a + 49), .ref (a + 55), .ref (a + 61), .ref (a + 67)]) :: (bkH (a + 25) ++ (bkH (a + 31) ++ (bkH (a + 37) ++ (bkH (a + 43) ++ (bkH (a + 49) ++ (bkH (a + 55) ++ (bkH (a + 61) ++ (bkH (a + 67))))))))))))
theorem c_Shop_init {ext : List xC} {d : Nat} {h0 : xH} {h' : xH} (h5 : h0.length + 73 ≤ 5000) (kk : Ev ext (d + 5) n_X9_init 200 [.ref (h0.length + 0), .int 8] [] (h0 ++ spH h0.length) none h') : EvM ext (d + 5) n_X9_init [.ref h0.length] (h0 ++ [ns0]) none h' := by
  show Ev ext (d + 5) n_X9_init 0 [.ref (h0.length + 0), xU] [] (h0 ++ [ns0]) none h'
  refine Ev.go 1 rfl ?_
  refine Ev.o98 rfl (Nat.le_of_ble_eq_true rfl) ?_
  refine Ev.go 2 rfl ?_
  refine Ev.anA (k := 6) (m := 1) rfl (by decide) rfl (by decide) rfl (by omega) ?_
  refine Ev.go 2 rfl ?_
  refine Ev.mkK (ci := 7) (m := 2) rfl rfl rfl rfl rfl (Nat.le_of_ble_eq_true rfl) rfl (by omega) (Nat.le_of_ble_eq_true rfl) (fun h a hc => c_Lake_init (d := d + 3)) ?_
  refine Ev.asK (p := 1) (q := 2) rfl rfl rfl rfl (by decide) rfl ?_
  refine Ev.eqt (t' := (9, [.null, .int 0, .int 0, .int 0, .int 0, .null, .null, .null, .null, .null, .null, .null, .null, .null, .null, .null, .null]) :: (23, [.ref (h0.length + 2), .null, .null, .null, .null, .null]) :: (7, []) :: []) rfl ?_
  refine Ev.go 2 rfl ?_
  refine Ev.mkK (ci := 10) (m := 3) rfl rfl rfl rfl rfl (Nat.le_of_ble_eq_true rfl) rfl (by omega) (Nat.le_of_ble_eq_true rfl) (fun h a hc => c_Street_init (d := d + 2) hc rfl) ?_
  refine Ev.asK (p := 1) (q := 3) rfl rfl rfl rfl (by decide) rfl ?_
  refine Ev.eqt (t' := (9, [.null, .int 0, .int 0, .int 0, .int 0, .null, .null, .null, .null, .null, .null, .null, .null, .null, .null, .null, .null]) :: (23, [.ref (h0.length + 2), .ref (h0.length + 3), .null, .null, .null, .null]) :: (7, []) :: (10, []) :: []) rfl ?_
  refine Ev.go 2 rfl ?_
  refine Ev.mkK (ci := 3) (m := 4) rfl rfl rfl rfl rfl (Nat.le_of_ble_eq_true rfl) rfl (by omega) (Nat.le_of_ble_eq_true rfl) (fun h a hc => c_Fire_init (d := d + 2) hc rfl) ?_
  refine Ev.asK (p := 1) (q := 4) rfl rfl rfl rfl (by decide) rfl ?_
  refine Ev.eqt (t' := (9, [.null, .int 0, .int 0, .int 0, .int 0, .null, .null, .null, .null, .null, .null, .null, .null, .null, .null, .null, .null]) :: (23, [.ref (h0.length + 2), .ref (h0.length + 3), .ref (h0.length + 4), .null, .null, .null]) :: (7, []) :: (10, []) :: (3, []) :: []) rfl ?_
  refine Ev.go 2 rfl ?_
  refine Ev.mkK (ci := 6) (m := 5) rfl rfl rfl rfl rfl (Nat.le_of_ble_eq_true rfl) rfl (by omega) (Nat.le_of_ble_eq_true rfl) (fun h a hc => c_Kitchen_init (d := d + 1) hc rfl) ?_
  refine Ev.asK (p := 1) (q := 5) rfl rfl rfl rfl (by decide) rfl ?_
  refine Ev.eqt (t' := (9, [.null, .int 0, .int 0, .int 0, .int 0, .null, .null, .null, .null, .null, .null, .null, .null, .null, .null, .null, .null]) :: (23, [.ref (h0.length + 2), .ref (h0.length + 3), .ref (h0.length + 4), .ref (h0.length + 5), .null, .null]) :: (7, []) :: (10, []) :: (3, []) :: (6, []) :: []) rfl ?_
  refine Ev.go 2 rfl ?_
  refine Ev.mkK (ci := 1) (m := 6) rfl rfl rfl rfl rfl (Nat.le_of_ble_eq_true rfl) rfl (by omega) (Nat.le_of_ble_eq_true rfl) (fun h a hc => c_Bricks_init (d := d + 2) hc rfl) ?_
  refine Ev.asK (p := 1) (q := 6) rfl rfl rfl rfl (by decide) rfl ?_
  refine Ev.eqt (t' := (9, [.null, .int 0, .int 0, .int 0, .int 0, .null, .null, .null, .null, .null, .null, .null, .null, .null, .null, .null, .null]) :: (23, [.ref (h0.length + 2), .ref (h0.length + 3), .ref (h0.length + 4), .ref (h0.length + 5), .ref (h0.length + 6), .null]) :: (7, []) :: (10, []) :: (3, []) :: (6, []) :: (1, []) :: []) rfl ?_
  refine Ev.go 2 rfl ?_
  refine Ev.mkK (ci := 4) (m := 7) rfl rfl rfl rfl rfl (Nat.le_of_ble_eq_true rfl) rfl (by omega) (Nat.le_of_ble_eq_true rfl) (fun h a hc => c_Fogged_init (d := d) hc rfl) ?_
  refine Ev.asK (p := 1) (q := 7) rfl rfl rfl rfl (by decide) rfl ?_
  refine Ev.eqt (t' := (9, [.null, .int 0, .int 0, .int 0, .int 0, .null, .null, .null, .null, .null, .null, .null, .null, .null, .null, .null, .null]) :: (23, [.ref (h0.length + 2), .ref (h0.length + 3), .ref (h0.length + 4), .ref (h0.length + 5), .ref (h0.length + 6), .ref (h0.length + 7)]) :: (7, []) :: (10, []) :: (3, []) :: (6, []) :: (1, []) :: (4, []) :: []) rfl ?_
  refine Ev.pfA (p := 0) rfl rfl rfl rfl ?_
  refine Ev.eqt (t' := (9, [.ref (h0.length + 1), .int 0, .int 0, .int 0, .int 0, .null, .null, .null, .null, .null, .null, .null, .null, .null, .null, .null, .null]) :: (23, [.ref (h0.length + 2), .ref (h0.length + 3), .ref (h0.length + 4), .ref (h0.length + 5), .ref (h0.length + 6), .ref (h0.length + 7)]) :: (7, []) :: (10, []) :: (3, []) :: (6, []) :: (1, []) :: (4, []) :: []) rfl ?_
  refine Ev.go 2 rfl ?_
  refine Ev.naA (k := 6) (m := 8) rfl (by decide) rfl (by decide) rfl (by omega) ?_
  refine Ev.pfA (p := 0) rfl rfl rfl rfl ?_
  refine Ev.eqt (t' := (9, [.ref (h0.length + 1), .int 0, .int 0, .int 0, .int 0, .ref (h0.length + 8), .null, .null, .null, .null, .null, .null, .null, .null, .null, .null, .null]) :: (23, [.ref (h0.length + 2), .ref (h0.length + 3), .ref (h0.length + 4), .ref (h0.length + 5), .ref (h0.length + 6), .ref (h0.length + 7)]) :: (7, []) :: (10, []) :: (3, []) :: (6, []) :: (1, []) :: (4, []) :: List.replicate 1 (rep0 6)) rfl ?_
  refine Ev.go 2 rfl ?_
  refine Ev.naA (k := 6) (m := 9) rfl (by decide) rfl (by decide) rfl (by omega) ?_
  refine Ev.pfA (p := 0) rfl rfl rfl rfl ?_
  refine Ev.eqt (t' := (9, [.ref (h0.length + 1), .int 0, .int 0, .int 0, .int 0, .ref (h0.length + 8), .ref (h0.length + 9), .null, .null, .null, .null, .null, .null, .null, .null, .null, .null]) :: (23, [.ref (h0.length + 2), .ref (h0.length + 3), .ref (h0.length + 4), .ref (h0.length + 5), .ref (h0.length + 6), .ref (h0.length + 7)]) :: (7, []) :: (10, []) :: (3, []) :: (6, []) :: (1, []) :: (4, []) :: List.replicate 2 (rep0 6)) rfl ?_
  refine Ev.go 2 rfl ?_
  refine Ev.naA (k := 6) (m := 10) rfl (by decide) rfl (by decide) rfl (by omega) ?_
  refine Ev.pfA (p := 0) rfl rfl rfl rfl ?_
  refine Ev.eqt (t' := (9, [.ref (h0.length + 1), .int 0, .int 0, .int 0, .int 0, .ref (h0.length + 8), .ref (h0.length + 9), .ref (h0.length + 10), .null, .null, .null, .null, .null, .null, .null, .null, .null]) :: (23, [.ref (h0.length + 2), .ref (h0.length + 3), .ref (h0.length + 4), .ref (h0.length + 5), .ref (h0.length + 6), .ref (h0.length + 7)]) :: (7, []) :: (10, []) :: (3, []) :: (6, []) :: (1, []) :: (4, []) :: List.replicate 3 (rep0 6)) rfl ?_
  refine Ev.go 2 rfl ?_
  refine Ev.naA (k := 6) (m := 11) rfl (by decide) rfl (by decide) rfl (by omega) ?_
  refine Ev.pfA (p := 0) rfl rfl rfl rfl ?_
  refine Ev.eqt (t' := (9, [.ref (h0.length + 1), .int 0, .int 0, .int 0, .int 0, .ref (h0.length + 8), .ref (h0.length + 9), .ref (h0.length + 10), .ref (h0.length + 11), .null, .null, .null, .null, .null, .null, .null, .null]) :: (23, [.ref (h0.length + 2), .ref (h0.length + 3), .ref (h0.length + 4), .ref (h0.length + 5), .ref (h0.length + 6), .ref (h0.length + 7)]) :: (7, []) :: (10, []) :: (3, []) :: (6, []) :: (1, []) :: (4, []) :: List.replicate 4 (rep0 6)) rfl ?_
  refine Ev.go 2 rfl ?_
  refine Ev.naA (k := 6) (m := 12) rfl (by decide) rfl (by decide) rfl (by omega) ?_
  refine Ev.pfA (p := 0) rfl rfl rfl rfl ?_
  refine Ev.eqt (t' := (9, [.ref (h0.length + 1), .int 0, .int 0, .int 0, .int 0, .ref (h0.length + 8), .ref (h0.length + 9), .ref (h0.length + 10), .ref (h0.length + 11), .ref (h0.length + 12), .null, .null, .null, .null, .null, .null, .null]) :: (23, [.ref (h0.length + 2), .ref (h0.length + 3), .ref (h0.length + 4), .ref (h0.length + 5), .ref (h0.length + 6), .ref (h0.length + 7)]) :: (7, []) :: (10, []) :: (3, []) :: (6, []) :: (1, []) :: (4, []) :: List.replicate 5 (rep0 6)) rfl ?_
  refine Ev.go 2 rfl ?_
  refine Ev.naA (k := 6) (m := 13) rfl (by decide) rfl (by decide) rfl (by omega) ?_
  refine Ev.pfA (p := 0) rfl rfl rfl rfl ?_
  refine Ev.eqt (t' := (9, [.ref (h0.length + 1), .int 0, .int 0, .int 0, .int 0, .ref (h0.length + 8), .ref (h0.length + 9), .ref (h0.length + 10), .ref (h0.length + 11), .ref (h0.length + 12), .ref (h0.length + 13), .null, .null, .null, .null, .null, .null]) :: (23, [.ref (h0.length + 2), .ref (h0.length + 3), .ref (h0.length + 4), .ref (h0.length + 5), .ref (h0.length + 6), .ref (h0.length + 7)]) :: (7, []) :: (10, []) :: (3, []) :: (6, []) :: (1, []) :: (4, []) :: List.replicate 6 (rep0 6)) rfl ?_
  refine Ev.go 2 rfl ?_
  refine Ev.naA (k := 6) (m := 14) rfl (by decide) rfl (by decide) rfl (by omega) ?_
  refine Ev.pfA (p := 0) rfl rfl rfl rfl ?_
  refine Ev.eqt (t' := (9, [.ref (h0.length + 1), .int 0, .int 0, .int 0, .int 0, .ref (h0.length + 8), .ref (h0.length + 9), .ref (h0.length + 10), .ref (h0.length + 11), .ref (h0.length + 12), .ref (h0.length + 13), .ref (h0.length + 14), .null, .null, .null, .null, .null]) :: (23, [.ref (h0.length + 2), .ref (h0.length + 3), .ref (h0.length + 4), .ref (h0.length + 5), .ref (h0.length + 6), .ref (h0.length + 7)]) :: (7, []) :: (10, []) :: (3, []) :: (6, []) :: (1, []) :: (4, []) :: List.replicate 7 (rep0 6)) rfl ?_
  refine Ev.go 2 rfl ?_
  refine Ev.naA (k := 6) (m := 15) rfl (by decide) rfl (by decide) rfl (by omega) ?_
  refine Ev.pfA (p := 0) rfl rfl rfl rfl ?_
  refine Ev.eqt (t' := (9, [.ref (h0.length + 1), .int 0, .int 0, .int 0, .int 0, .ref (h0.length + 8), .ref (h0.length + 9), .ref (h0.length + 10), .ref (h0.length + 11), .ref (h0.length + 12), .ref (h0.length + 13), .ref (h0.length + 14), .ref (h0.length + 15), .null, .null, .null, .null]) :: (23, [.ref (h0.length + 2), .ref (h0.length + 3), .ref (h0.length + 4), .ref (h0.length + 5), .ref (h0.length + 6), .ref (h0.length + 7)]) :: (7, []) :: (10, []) :: (3, []) :: (6, []) :: (1, []) :: (4, []) :: List.replicate 8 (rep0 6)) rfl ?_
  refine Ev.go 2 rfl ?_
  refine Ev.naA (k := 6) (m := 16) rfl (by decide) rfl (by decide) rfl (by omega) ?_
  refine Ev.pfA (p := 0) rfl rfl rfl rfl ?_
  refine Ev.eqt (t' := (9, [.ref (h0.length + 1), .int 0, .int 0, .int 0, .int 0, .ref (h0.length + 8), .ref (h0.length + 9), .ref (h0.length + 10), .ref (h0.length + 11), .ref (h0.length + 12), .ref (h0.length + 13), .ref (h0.length + 14), .ref (h0.length + 15), .ref (h0.length + 16), .null, .null, .null]) :: (23, [.ref (h0.length + 2), .ref (h0.length + 3), .ref (h0.length + 4), .ref (h0.length + 5), .ref (h0.length + 6), .ref (h0.length + 7)]) :: (7, []) :: (10, []) :: (3, []) :: (6, []) :: (1, []) :: (4, []) :: List.replicate 9 (rep0 6)) rfl ?_
  refine Ev.go 2 rfl ?_
  refine Ev.naA (k := 6) (m := 17) rfl (by decide) rfl (by decide) rfl (by omega) ?_
  refine Ev.pfA (p := 0) rfl rfl rfl rfl ?_
  refine Ev.eqt (t' := (9, [.ref (h0.length + 1), .int 0, .int 0, .int 0, .int 0, .ref (h0.length + 8), .ref (h0.length + 9), .ref (h0.length + 10), .ref (h0.length + 11), .ref (h0.length + 12), .ref (h0.length + 13), .ref (h0.length + 14), .ref (h0.length + 15), .ref (h0.length + 16), .ref (h0.length + 17), .null, .null]) :: (23, [.ref (h0.length + 2), .ref (h0.length + 3), .ref (h0.length + 4), .ref (h0.length + 5), .ref (h0.length + 6), .ref (h0.length + 7)]) :: (7, []) :: (10, []) :: (3, []) :: (6, []) :: (1, []) :: (4, []) :: List.replicate 10 (rep0 6)) rfl ?_
  refine Ev.go 1 rfl ?_
  refine Ev.mkB (m := 18) rfl rfl rfl rfl (by omega) (Nat.le_of_ble_eq_true rfl) ?_
  refine Ev.pfA (p := 0) rfl rfl rfl rfl ?_
  refine Ev.eqt (t' := (9, [.ref (h0.length + 1), .int 0, .int 0, .int 0, .int 0, .ref (h0.length + 8), .ref (h0.length + 9), .ref (h0.length + 10), .ref (h0.length + 11), .ref (h0.length + 12), .ref (h0.length + 13), .ref (h0.length + 14), .ref (h0.length + 15), .ref (h0.length + 16), .ref (h0.length + 17), .ref (h0.length + 18), .null]) :: (23, [.ref (h0.length + 2), .ref (h0.length + 3), .ref (h0.length + 4), .ref (h0.length + 5), .ref (h0.length + 6), .ref (h0.length + 7)]) :: (7, []) :: (10, []) :: (3, []) :: (6, []) :: (1, []) :: (4, []) :: (List.replicate 10 (rep0 6) ++ (bkH (h0.length + 18) ++ []))) rfl ?_
  refine Ev.go 2 rfl ?_
  refine Ev.anA (k := 8) (m := 24) rfl (by decide) rfl (by decide) rfl (by omega) ?_
  refine Ev.pfA (p := 0) rfl rfl rfl rfl ?_
  refine Ev.eqt (t' := (9, [.ref (h0.length + 1), .int 0, .int 0, .int 0, .int 0, .ref (h0.length + 8), .ref (h0.length + 9), .ref (h0.length + 10), .ref (h0.length + 11), .ref (h0.length + 12), .ref (h0.length + 13), .ref (h0.length + 14), .ref (h0.length + 15), .ref (h0.length + 16), .ref (h0.length + 17), .ref (h0.length + 18), .ref (h0.length + 24)]) :: (23, [.ref (h0.length + 2), .ref (h0.length + 3), .ref (h0.length + 4), .ref (h0.length + 5), .ref (h0.length + 6), .ref (h0.length + 7)]) :: (7, []) :: (10, []) :: (3, []) :: (6, []) :: (1, []) :: (4, []) :: (List.replicate 10 (rep0 6) ++ (bkH (h0.length + 18) ++ ((25, [.null, .null, .null, .null, .null, .null, .null, .null]) :: [])))) rfl ?_
  refine Ev.go 2 rfl ?_
  show Ev ext (d + 5) n_X9_init 175 [.ref (h0.length + 0), .int 0] [] (h0 ++ ((9, [.ref (h0.length + 1), .int 0, .int 0, .int 0, .int 0, .ref (h0.length + 8), .ref (h0.length + 9), .ref (h0.length + 10), .ref (h0.length + 11), .ref (h0.length + 12), .ref (h0.length + 13), .ref (h0.length + 14), .ref (h0.length + 15), .ref (h0.length + 16), .ref (h0.length + 17), .ref (h0.length + 18), .ref (h0.length + 24)]) :: (23, [.ref (h0.length + 2), .ref (h0.length + 3), .ref (h0.length + 4), .ref (h0.length + 5), .ref (h0.length + 6), .ref (h0.length + 7)]) :: (7, []) :: (10, []) :: (3, []) :: (6, []) :: (1, []) :: (4, []) :: (List.replicate 10 (rep0 6) ++ (bkH (h0.length + 18) ++ ((25, [.null, .null, .null, .null, .null, .null, .null, .null]) :: []))))) none h'

  refine Ev.go 4 rfl ?_
  refine Ev.gfA (p := 0) rfl rfl rfl ?_
  refine Ev.go 1 rfl ?_
  refine Ev.mkB (m := 25) rfl rfl rfl rfl (by omega) (Nat.le_of_ble_eq_true rfl) ?_
  refine Ev.asA (p := 24) (q := 25) rfl rfl rfl rfl (by decide) rfl ?_
  refine Ev.eqt (t' := (9, [.ref (h0.length + 1), .int 0, .int 0, .int 0, .int 0, .ref (h0.length + 8), .ref (h0.length + 9), .ref (h0.length + 10), .ref (h0.length + 11), .ref (h0.length + 12), .ref (h0.length + 13), .ref (h0.length + 14), .ref (h0.length + 15), .ref (h0.length + 16), .ref (h0.length + 17), .ref (h0.length + 18), .ref (h0.length + 24)]) :: (23, [.ref (h0.length + 2), .ref (h0.length + 3), .ref (h0.length + 4), .ref (h0.length + 5), .ref (h0.length + 6), .ref (h0.length + 7)]) :: (7, []) :: (10, []) :: (3, []) :: (6, []) :: (1, []) :: (4, []) :: (List.replicate 10 (rep0 6) ++ (bkH (h0.length + 18) ++ ((25, [.ref (h0.length + 25), .null, .null, .null, .null, .null, .null, .null]) :: (bkH (h0.length + 25) ++ []))))) rfl ?_
  refine Ev.go 2 rfl ?_
  show Ev ext (d + 5) n_X9_init 175 [.ref (h0.length + 0), .int 1] [] (h0 ++ ((9, [.ref (h0.length + 1), .int 0, .int 0, .int 0, .int 0, .ref (h0.length + 8), .ref (h0.length + 9), .ref (h0.length + 10), .ref (h0.length + 11), .ref (h0.length + 12), .ref (h0.length + 13), .ref (h0.length + 14), .ref (h0.length + 15), .ref (h0.length + 16), .ref (h0.length + 17), .ref (h0.length + 18), .ref (h0.length + 24)]) :: (23, [.ref (h0.length + 2), .ref (h0.length + 3), .ref (h0.length + 4), .ref (h0.length + 5), .ref (h0.length + 6), .ref (h0.length + 7)]) :: (7, []) :: (10, []) :: (3, []) :: (6, []) :: (1, []) :: (4, []) :: (List.replicate 10 (rep0 6) ++ (bkH (h0.length + 18) ++ ((25, [.ref (h0.length + 25), .null, .null, .null, .null, .null, .null, .null]) :: (bkH (h0.length + 25) ++ [])))))) none h'

  refine Ev.go 4 rfl ?_
  refine Ev.gfA (p := 0) rfl rfl rfl ?_
  refine Ev.go 1 rfl ?_
  refine Ev.mkB (m := 31) rfl rfl rfl rfl (by omega) (Nat.le_of_ble_eq_true rfl) ?_
  refine Ev.asA (p := 24) (q := 31) rfl rfl rfl rfl (by decide) rfl ?_
  refine Ev.eqt (t' := (9, [.ref (h0.length + 1), .int 0, .int 0, .int 0, .int 0, .ref (h0.length + 8), .ref (h0.length + 9), .ref (h0.length + 10), .ref (h0.length + 11), .ref (h0.length + 12), .ref (h0.length + 13), .ref (h0.length + 14), .ref (h0.length + 15), .ref (h0.length + 16), .ref (h0.length + 17), .ref (h0.length + 18), .ref (h0.length + 24)]) :: (23, [.ref (h0.length + 2), .ref (h0.length + 3), .ref (h0.length + 4), .ref (h0.length + 5), .ref (h0.length + 6), .ref (h0.length + 7)]) :: (7, []) :: (10, []) :: (3, []) :: (6, []) :: (1, []) :: (4, []) :: (List.replicate 10 (rep0 6) ++ (bkH (h0.length + 18) ++ ((25, [.ref (h0.length + 25), .ref (h0.length + 31), .null, .null, .null, .null, .null, .null]) :: (bkH (h0.length + 25) ++ (bkH (h0.length + 31) ++ [])))))) rfl ?_
  refine Ev.go 2 rfl ?_
  show Ev ext (d + 5) n_X9_init 175 [.ref (h0.length + 0), .int 2] [] (h0 ++ ((9, [.ref (h0.length + 1), .int 0, .int 0, .int 0, .int 0, .ref (h0.length + 8), .ref (h0.length + 9), .ref (h0.length + 10), .ref (h0.length + 11), .ref (h0.length + 12), .ref (h0.length + 13), .ref (h0.length + 14), .ref (h0.length + 15), .ref (h0.length + 16), .ref (h0.length + 17), .ref (h0.length + 18), .ref (h0.length + 24)]) :: (23, [.ref (h0.length + 2), .ref (h0.length + 3), .ref (h0.length + 4), .ref (h0.length + 5), .ref (h0.length + 6), .ref (h0.length + 7)]) :: (7, []) :: (10, []) :: (3, []) :: (6, []) :: (1, []) :: (4, []) :: (List.replicate 10 (rep0 6) ++ (bkH (h0.length + 18) ++ ((25, [.ref (h0.length + 25), .ref (h0.length + 31), .null, .null, .null, .null, .null, .null]) :: (bkH (h0.length + 25) ++ (bkH (h0.length + 31) ++ []))))))) none h'

  refine Ev.go 4 rfl ?_
  refine Ev.gfA (p := 0) rfl rfl rfl ?_
  refine Ev.go 1 rfl ?_
  refine Ev.mkB (m := 37) rfl rfl rfl rfl (by omega) (Nat.le_of_ble_eq_true rfl) ?_
  refine Ev.asA (p := 24) (q := 37) rfl rfl rfl rfl (by decide) rfl ?_
  refine Ev.eqt (t' := (9, [.ref (h0.length + 1), .int 0, .int 0, .int 0, .int 0, .ref (h0.length + 8), .ref (h0.length + 9), .ref (h0.length + 10), .ref (h0.length + 11), .ref (h0.length + 12), .ref (h0.length + 13), .ref (h0.length + 14), .ref (h0.length + 15), .ref (h0.length + 16), .ref (h0.length + 17), .ref (h0.length + 18), .ref (h0.length + 24)]) :: (23, [.ref (h0.length + 2), .ref (h0.length + 3), .ref (h0.length + 4), .ref (h0.length + 5), .ref (h0.length + 6), .ref (h0.length + 7)]) :: (7, []) :: (10, []) :: (3, []) :: (6, []) :: (1, []) :: (4, []) :: (List.replicate 10 (rep0 6) ++ (bkH (h0.length + 18) ++ ((25, [.ref (h0.length + 25), .ref (h0.length + 31), .ref (h0.length + 37), .null, .null, .null, .null, .null]) :: (bkH (h0.length + 25) ++ (bkH (h0.length + 31) ++ (bkH (h0.length + 37) ++ []))))))) rfl ?_
  refine Ev.go 2 rfl ?_
  show Ev ext (d + 5) n_X9_init 175 [.ref (h0.length + 0), .int 3] [] (h0 ++ ((9, [.ref (h0.length + 1), .int 0, .int 0, .int 0, .int 0, .ref (h0.length + 8), .ref (h0.length + 9), .ref (h0.length + 10), .ref (h0.length + 11), .ref (h0.length + 12), .ref (h0.length + 13), .ref (h0.length + 14), .ref (h0.length + 15), .ref (h0.length + 16), .ref (h0.length + 17), .ref (h0.length + 18), .ref (h0.length + 24)]) :: (23, [.ref (h0.length + 2), .ref (h0.length + 3), .ref (h0.length + 4), .ref (h0.length + 5), .ref (h0.length + 6), .ref (h0.length + 7)]) :: (7, []) :: (10, []) :: (3, []) :: (6, []) :: (1, []) :: (4, []) :: (List.replicate 10 (rep0 6) ++ (bkH (h0.length + 18) ++ ((25, [.ref (h0.length + 25), .ref (h0.length + 31), .ref (h0.length + 37), .null, .null, .null, .null, .null]) :: (bkH (h0.length + 25) ++ (bkH (h0.length + 31) ++ (bkH (h0.length + 37) ++ [])))))))) none h'

  refine Ev.go 4 rfl ?_
  refine Ev.gfA (p := 0) rfl rfl rfl ?_
  refine Ev.go 1 rfl ?_
  refine Ev.mkB (m := 43) rfl rfl rfl rfl (by omega) (Nat.le_of_ble_eq_true rfl) ?_
  refine Ev.asA (p := 24) (q := 43) rfl rfl rfl rfl (by decide) rfl ?_
  refine Ev.eqt (t' := (9, [.ref (h0.length + 1), .int 0, .int 0, .int 0, .int 0, .ref (h0.length + 8), .ref (h0.length + 9), .ref (h0.length + 10), .ref (h0.length + 11), .ref (h0.length + 12), .ref (h0.length + 13), .ref (h0.length + 14), .ref (h0.length + 15), .ref (h0.length + 16), .ref (h0.length + 17), .ref (h0.length + 18), .ref (h0.length + 24)]) :: (23, [.ref (h0.length + 2), .ref (h0.length + 3), .ref (h0.length + 4), .ref (h0.length + 5), .ref (h0.length + 6), .ref (h0.length + 7)]) :: (7, []) :: (10, []) :: (3, []) :: (6, []) :: (1, []) :: (4, []) :: (List.replicate 10 (rep0 6) ++ (bkH (h0.length + 18) ++ ((25, [.ref (h0.length + 25), .ref (h0.length + 31), .ref (h0.length + 37), .ref (h0.length + 43), .null, .null, .null, .null]) :: (bkH (h0.length + 25) ++ (bkH (h0.length + 31) ++ (bkH (h0.length + 37) ++ (bkH (h0.length + 43) ++ [])))))))) rfl ?_
  refine Ev.go 2 rfl ?_
  show Ev ext (d + 5) n_X9_init 175 [.ref (h0.length + 0), .int 4] [] (h0 ++ ((9, [.ref (h0.length + 1), .int 0, .int 0, .int 0, .int 0, .ref (h0.length + 8), .ref (h0.length + 9), .ref (h0.length + 10), .ref (h0.length + 11), .ref (h0.length + 12), .ref (h0.length + 13), .ref (h0.length + 14), .ref (h0.length + 15), .ref (h0.length + 16), .ref (h0.length + 17), .ref (h0.length + 18), .ref (h0.length + 24)]) :: (23, [.ref (h0.length + 2), .ref (h0.length + 3), .ref (h0.length + 4), .ref (h0.length + 5), .ref (h0.length + 6), .ref (h0.length + 7)]) :: (7, []) :: (10, []) :: (3, []) :: (6, []) :: (1, []) :: (4, []) :: (List.replicate 10 (rep0 6) ++ (bkH (h0.length + 18) ++ ((25, [.ref (h0.length + 25), .ref (h0.length + 31), .ref (h0.length + 37), .ref (h0.length + 43), .null, .null, .null, .null]) :: (bkH (h0.length + 25) ++ (bkH (h0.length + 31) ++ (bkH (h0.length + 37) ++ (bkH (h0.length + 43) ++ []))))))))) none h'

  refine Ev.go 4 rfl ?_
  refine Ev.gfA (p := 0) rfl rfl rfl ?_
  refine Ev.go 1 rfl ?_
  refine Ev.mkB (m := 49) rfl rfl rfl rfl (by omega) (Nat.le_of_ble_eq_true rfl) ?_
  refine Ev.asA (p := 24) (q := 49) rfl rfl rfl rfl (by decide) rfl ?_
  refine Ev.eqt (t' := (9, [.ref (h0.length + 1), .int 0, .int 0, .int 0, .int 0, .ref (h0.length + 8), .ref (h0.length + 9), .ref (h0.length + 10), .ref (h0.length + 11), .ref (h0.length + 12), .ref (h0.length + 13), .ref (h0.length + 14), .ref (h0.length + 15), .ref (h0.length + 16), .ref (h0.length + 17), .ref (h0.length + 18), .ref (h0.length + 24)]) :: (23, [.ref (h0.length + 2), .ref (h0.length + 3), .ref (h0.length + 4), .ref (h0.length + 5), .ref (h0.length + 6), .ref (h0.length + 7)]) :: (7, []) :: (10, []) :: (3, []) :: (6, []) :: (1, []) :: (4, []) :: (List.replicate 10 (rep0 6) ++ (bkH (h0.length + 18) ++ ((25, [.ref (h0.length + 25), .ref (h0.length + 31), .ref (h0.length + 37), .ref (h0.length + 43), .ref (h0.length + 49), .null, .null, .null]) :: (bkH (h0.length + 25) ++ (bkH (h0.length + 31) ++ (bkH (h0.length + 37) ++ (bkH (h0.length + 43) ++ (bkH (h0.length + 49) ++ []))))))))) rfl ?_
  refine Ev.go 2 rfl ?_
  show Ev ext (d + 5) n_X9_init 175 [.ref (h0.length + 0), .int 5] [] (h0 ++ ((9, [.ref (h0.length + 1), .int 0, .int 0, .int 0, .int 0, .ref (h0.length + 8), .ref (h0.length + 9), .ref (h0.length + 10), .ref (h0.length + 11), .ref (h0.length + 12), .ref (h0.length + 13), .ref (h0.length + 14), .ref (h0.length + 15), .ref (h0.length + 16), .ref (h0.length + 17), .ref (h0.length + 18), .ref (h0.length + 24)]) :: (23, [.ref (h0.length + 2), .ref (h0.length + 3), .ref (h0.length + 4), .ref (h0.length + 5), .ref (h0.length + 6), .ref (h0.length + 7)]) :: (7, []) :: (10, []) :: (3, []) :: (6, []) :: (1, []) :: (4, []) :: (List.replicate 10 (rep0 6) ++ (bkH (h0.length + 18) ++ ((25, [.ref (h0.length + 25), .ref (h0.length + 31), .ref (h0.length + 37), .ref (h0.length + 43), .ref (h0.length + 49), .null, .null, .null]) :: (bkH (h0.length + 25) ++ (bkH (h0.length + 31) ++ (bkH (h0.length + 37) ++ (bkH (h0.length + 43) ++ (bkH (h0.length + 49) ++ [])))))))))) none h'

  refine Ev.go 4 rfl ?_
  refine Ev.gfA (p := 0) rfl rfl rfl ?_
  refine Ev.go 1 rfl ?_
  refine Ev.mkB (m := 55) rfl rfl rfl rfl (by omega) (Nat.le_of_ble_eq_true rfl) ?_
  refine Ev.asA (p := 24) (q := 55) rfl rfl rfl rfl (by decide) rfl ?_
  refine Ev.eqt (t' := (9, [.ref (h0.length + 1), .int 0, .int 0, .int 0, .int 0, .ref (h0.length + 8), .ref (h0.length + 9), .ref (h0.length + 10), .ref (h0.length + 11), .ref (h0.length + 12), .ref (h0.length + 13), .ref (h0.length + 14), .ref (h0.length + 15), .ref (h0.length + 16), .ref (h0.length + 17), .ref (h0.length + 18), .ref (h0.length + 24)]) :: (23, [.ref (h0.length + 2), .ref (h0.length + 3), .ref (h0.length + 4), .ref (h0.length + 5), .ref (h0.length + 6), .ref (h0.length + 7)]) :: (7, []) :: (10, []) :: (3, []) :: (6, []) :: (1, []) :: (4, []) :: (List.replicate 10 (rep0 6) ++ (bkH (h0.length + 18) ++ ((25, [.ref (h0.length + 25), .ref (h0.length + 31), .ref (h0.length + 37), .ref (h0.length + 43), .ref (h0.length + 49), .ref (h0.length + 55), .null, .null]) :: (bkH (h0.length + 25) ++ (bkH (h0.length + 31) ++ (bkH (h0.length + 37) ++ (bkH (h0.length + 43) ++ (bkH (h0.length + 49) ++ (bkH (h0.length + 55) ++ [])))))))))) rfl ?_
  refine Ev.go 2 rfl ?_
  show Ev ext (d + 5) n_X9_init 175 [.ref (h0.length + 0), .int 6] [] (h0 ++ ((9, [.ref (h0.length + 1), .int 0, .int 0, .int 0, .int 0, .ref (h0.length + 8), .ref (h0.length + 9), .ref (h0.length + 10), .ref (h0.length + 11), .ref (h0.length + 12), .ref (h0.length + 13), .ref (h0.length + 14), .ref (h0.length + 15), .ref (h0.length + 16), .ref (h0.length + 17), .ref (h0.length + 18), .ref (h0.length + 24)]) :: (23, [.ref (h0.length + 2), .ref (h0.length + 3), .ref (h0.length + 4), .ref (h0.length + 5), .ref (h0.length + 6), .ref (h0.length + 7)]) :: (7, []) :: (10, []) :: (3, []) :: (6, []) :: (1, []) :: (4, []) :: (List.replicate 10 (rep0 6) ++ (bkH (h0.length + 18) ++ ((25, [.ref (h0.length + 25), .ref (h0.length + 31), .ref (h0.length + 37), .ref (h0.length + 43), .ref (h0.length + 49), .ref (h0.length + 55), .null, .null]) :: (bkH (h0.length + 25) ++ (bkH (h0.length + 31) ++ (bkH (h0.length + 37) ++ (bkH (h0.length + 43) ++ (bkH (h0.length + 49) ++ (bkH (h0.length + 55) ++ []))))))))))) none h'

  refine Ev.go 4 rfl ?_
  refine Ev.gfA (p := 0) rfl rfl rfl ?_
  refine Ev.go 1 rfl ?_
  refine Ev.mkB (m := 61) rfl rfl rfl rfl (by omega) (Nat.le_of_ble_eq_true rfl) ?_
  refine Ev.asA (p := 24) (q := 61) rfl rfl rfl rfl (by decide) rfl ?_
  refine Ev.eqt (t' := (9, [.ref (h0.length + 1), .int 0, .int 0, .int 0, .int 0, .ref (h0.length + 8), .ref (h0.length + 9), .ref (h0.length + 10), .ref (h0.length + 11), .ref (h0.length + 12), .ref (h0.length + 13), .ref (h0.length + 14), .ref (h0.length + 15), .ref (h0.length + 16), .ref (h0.length + 17), .ref (h0.length + 18), .ref (h0.length + 24)]) :: (23, [.ref (h0.length + 2), .ref (h0.length + 3), .ref (h0.length + 4), .ref (h0.length + 5), .ref (h0.length + 6), .ref (h0.length + 7)]) :: (7, []) :: (10, []) :: (3, []) :: (6, []) :: (1, []) :: (4, []) :: (List.replicate 10 (rep0 6) ++ (bkH (h0.length + 18) ++ ((25, [.ref (h0.length + 25), .ref (h0.length + 31), .ref (h0.length + 37), .ref (h0.length + 43), .ref (h0.length + 49), .ref (h0.length + 55), .ref (h0.length + 61), .null]) :: (bkH (h0.length + 25) ++ (bkH (h0.length + 31) ++ (bkH (h0.length + 37) ++ (bkH (h0.length + 43) ++ (bkH (h0.length + 49) ++ (bkH (h0.length + 55) ++ (bkH (h0.length + 61) ++ []))))))))))) rfl ?_
  refine Ev.go 2 rfl ?_
  show Ev ext (d + 5) n_X9_init 175 [.ref (h0.length + 0), .int 7] [] (h0 ++ ((9, [.ref (h0.length + 1), .int 0, .int 0, .int 0, .int 0, .ref (h0.length + 8), .ref (h0.length + 9), .ref (h0.length + 10), .ref (h0.length + 11), .ref (h0.length + 12), .ref (h0.length + 13), .ref (h0.length + 14), .ref (h0.length + 15), .ref (h0.length + 16), .ref (h0.length + 17), .ref (h0.length + 18), .ref (h0.length + 24)]) :: (23, [.ref (h0.length + 2), .ref (h0.length + 3), .ref (h0.length + 4), .ref (h0.length + 5), .ref (h0.length + 6), .ref (h0.length + 7)]) :: (7, []) :: (10, []) :: (3, []) :: (6, []) :: (1, []) :: (4, []) :: (List.replicate 10 (rep0 6) ++ (bkH (h0.length + 18) ++ ((25, [.ref (h0.length + 25), .ref (h0.length + 31), .ref (h0.length + 37), .ref (h0.length + 43), .ref (h0.length + 49), .ref (h0.length + 55), .ref (h0.length + 61), .null]) :: (bkH (h0.length + 25) ++ (bkH (h0.length + 31) ++ (bkH (h0.length + 37) ++ (bkH (h0.length + 43) ++ (bkH (h0.length + 49) ++ (bkH (h0.length + 55) ++ (bkH (h0.length + 61) ++ [])))))))))))) none h'

  refine Ev.go 4 rfl ?_
  refine Ev.gfA (p := 0) rfl rfl rfl ?_
  refine Ev.go 1 rfl ?_
  refine Ev.mkB (m := 67) rfl rfl rfl rfl (by omega) (Nat.le_of_ble_eq_true rfl) ?_
  refine Ev.asA (p := 24) (q := 67) rfl rfl rfl rfl (by decide) rfl ?_
  refine Ev.eqt (t' := (9, [.ref (h0.length + 1), .int 0, .int 0, .int 0, .int 0, .ref (h0.length + 8), .ref (h0.length + 9), .ref (h0.length + 10), .ref (h0.length + 11), .ref (h0.length + 12), .ref (h0.length + 13), .ref (h0.length + 14), .ref (h0.length + 15), .ref (h0.length + 16), .ref (h0.length + 17), .ref (h0.length + 18), .ref (h0.length + 24)]) :: (23, [.ref (h0.length + 2), .ref (h0.length + 3), .ref (h0.length + 4), .ref (h0.length + 5), .ref (h0.length + 6), .ref (h0.length + 7)]) :: (7, []) :: (10, []) :: (3, []) :: (6, []) :: (1, []) :: (4, []) :: (List.replicate 10 (rep0 6) ++ (bkH (h0.length + 18) ++ ((25, [.ref (h0.length + 25), .ref (h0.length + 31), .ref (h0.length + 37), .ref (h0.length + 43), .ref (h0.length + 49), .ref (h0.length + 55), .ref (h0.length + 61), .ref (h0.length + 67)]) :: (bkH (h0.length + 25) ++ (bkH (h0.length + 31) ++ (bkH (h0.length + 37) ++ (bkH (h0.length + 43) ++ (bkH (h0.length + 49) ++ (bkH (h0.length + 55) ++ (bkH (h0.length + 61) ++ (bkH (h0.length + 67) ++ [])))))))))))) rfl ?_
  refine Ev.go 2 rfl ?_
  show Ev ext (d + 5) n_X9_init 175 [.ref (h0.length + 0), .int 8] [] (h0 ++ ((9, [.ref (h0.length + 1), .int 0, .int 0, .int 0, .int 0, .ref (h0.length + 8), .ref (h0.length + 9), .ref (h0.length + 10), .ref (h0.length + 11), .ref (h0.length + 12), .ref (h0.length + 13), .ref (h0.length + 14), .ref (h0.length + 15), .ref (h0.length + 16), .ref (h0.length + 17), .ref (h0.length + 18), .ref (h0.length + 24)]) :: (23, [.ref (h0.length + 2), .ref (h0.length + 3), .ref (h0.length + 4), .ref (h0.length + 5), .ref (h0.length + 6), .ref (h0.length + 7)]) :: (7, []) :: (10, []) :: (3, []) :: (6, []) :: (1, []) :: (4, []) :: (List.replicate 10 (rep0 6) ++ (bkH (h0.length + 18) ++ ((25, [.ref (h0.length + 25), .ref (h0.length + 31), .ref (h0.length + 37), .ref (h0.length + 43), .ref (h0.length + 49), .ref (h0.length + 55), .ref (h0.length + 61), .ref (h0.length + 67)]) :: (bkH (h0.length + 25) ++ (bkH (h0.length + 31) ++ (bkH (h0.length + 37) ++ (bkH (h0.length + 43) ++ (bkH (h0.length + 49) ++ (bkH (h0.length + 55) ++ (bkH (h0.length + 61) ++ (bkH (h0.length + 67) ++ []))))))))))))) none h'

  refine Ev.go 3 rfl ?_
  refine Ev.eqt (t' := spH h0.length) rfl ?_
  exact kk
