theorem xget_nil {ext : List xC} {h : xH} {v : Value} {c : xC} (e : xget [] h v = some c) : xget ext h v = some c := by
  cases v with
  | retAddr j => exact absurd e (by simp [xget])
  | _ => exact e
theorem xs_ext {ext : List xC} {d nx : Nat} {ins : Instr} {info : List Nat} {L st : List Value} {h : xH} {w : Nat × List Value × List Value × xH} (e : xs [] d ins nx info L st h = some w) : xs ext d ins nx info L st h = some w := by
  cases ins with
  | getfield idx =>
    rw [xs_getfield] at e ⊢
    split at e
    · obtain ⟨c, h1, e⟩ := Option.bind_eq_some_iff.mp e
      rw [xget_nil h1]
      exact e
    · exact xno e
  | iaload =>
    rw [xs_iaload] at e ⊢
    split at e
    · obtain ⟨c, h1, e⟩ := Option.bind_eq_some_iff.mp e
      rw [xget_nil h1]
      exact e
    · exact xno e
  | baload =>
    rw [xs_baload] at e ⊢
    split at e
    · obtain ⟨c, h1, e⟩ := Option.bind_eq_some_iff.mp e
      rw [xget_nil h1]
      exact e
    · exact xno e
  | arraylength =>
    rw [xs_arraylength] at e ⊢
    split at e
    · obtain ⟨c, h1, e⟩ := Option.bind_eq_some_iff.mp e
      rw [xget_nil h1]
      exact e
    · exact xno e
  | _ => exact e
theorem xcallee_ext {ext : List xC} {ins : Instr} {info : List Nat} {st : List Value} {h : xH} {a : Nat × List Value × List Value} (e : xcallee [] ins info st h = some a) : xcallee ext ins info st h = some a := by
  cases ins with
  | invokevirtual idx =>
    cases info with
    | nil => exact e
    | cons na tb =>
      have e1 : ∀ x : List xC, xcallee x (.invokevirtual idx) (na :: tb) st h = (match st.drop na with
        | v :: r => (xget x h v).bind fun c => (xpairs tb c.1).bind fun mi => some (mi, v :: (st.take na).reverse, r)
        | _ => none) := fun _ => rfl
      rw [e1] at e ⊢
      generalize hd : st.drop na = z at e ⊢
      cases z with
      | nil => exact e
      | cons v r =>
        obtain ⟨c, h1, e⟩ := Option.bind_eq_some_iff.mp e
        show (xget ext h v).bind _ = _
        rw [xget_nil h1]
        exact e
  | _ => exact e
theorem xrun_ext {ext : List xC} : ∀ (n : Nat) {d mi pc : Nat} {L st : List Value} {h : xH} {z : Option Value × xH}, xrun [] n d mi pc L st h = some z → xrun ext n d mi pc L st h = some z
  | 0, _, _, _, _, _, _, _, e => xno e
  | n + 1, d, mi, pc, L, st, h, z, e => by
    obtain ⟨q, hq, hc⟩ := xrun_succ e
    rcases hc with ⟨w, hs, hw⟩ | ⟨r, hr, e9⟩ | ⟨d', a, b, rfl, ha, hc8, hsl, h1, h2⟩
    · rw [xrun, hq, Option.bind_some, xs_ext hs]
      exact xrun_ext n hw
    · have hs : xs ext d q.1 q.2.1 q.2.2 L st h = none := xs_ret hr
      rw [xrun, hq, Option.bind_some, hs, hr, e9]
    · have ha' := xcallee_ext (ext := ext) ha
      have hs : xs ext (d' + 1) q.1 q.2.1 q.2.2 L st h = none := xs_call ha'
      have hr : xret (xmt mi).1.2.2.2 q.1 st = none := xret_call ha
      rw [xrun, hq, Option.bind_some, hs, hr]
      show (xcallee ext q.1 q.2.2 st h).bind _ = _
      rw [ha', Option.bind_some, if_neg (by omega), xrun_ext n h1, Option.bind_some]
      exact xrun_ext n h2
/-- the cells of a shape, one by one -/
def zvl (f : Int → Int) : Nat → List zD → List Value
  | _, [] => []
  | j, o :: r => vv (o.1, o.2.getD (f j)) :: zvl f (j + 1) r
def zml (μ : zM) : Nat → zSh → xH
  | _, [] => []
  | k, c :: r => (c.1, zvl (μ k) 0 c.2) :: zml μ (k + 1) r
theorem zvl_at (f : Int → Int) : ∀ (l : List zD) (j i : Nat), (zvl f j l)[i]? = (l[i]?).map fun o => vv (o.1, o.2.getD (f ((j + i : Nat) : Int)))
  | [], _, _ => rfl
  | o :: r, j, 0 => rfl
  | o :: r, j, i + 1 => by
    show (zvl f (j + 1) r)[i]? = (r[i]?).map _
    rw [zvl_at f r (j + 1) i, show j + 1 + i = j + (i + 1) by omega]
theorem zml_at (μ : zM) : ∀ (s : zSh) (k i : Nat), (zml μ k s)[i]? = (s[i]?).map fun c => (c.1, zvl (μ ((k + i : Nat) : Int)) 0 c.2)
  | [], _, _ => rfl
  | o :: r, k, 0 => rfl
  | o :: r, k, i + 1 => by
    show (zml μ (k + 1) r)[i]? = (r[i]?).map _
    rw [zml_at μ r (k + 1) i, show k + 1 + i = k + (i + 1) by omega]
theorem zml_hz (σ : zSh) (μ : zM) : zml μ 0 σ = hz σ μ := by
  apply List.ext_getElem?
  intro i
  rw [zml_at, Nat.zero_add]
  cases hq : σ[i]? with
  | none => rw [List.getElem?_eq_none (by rw [hz_len]; exact List.getElem?_eq_none_iff.mp hq)]; rfl
  | some c =>
    rw [hz_at hq]
    show some (c.1, zvl (μ (i : Int)) 0 c.2) = some (c.1, c.2.mapIdx fun j o => vv (o.1, o.2.getD (μ i j)))
    congr 2
    apply List.ext_getElem?
    intro j
    rw [zvl_at, Nat.zero_add, List.getElem?_mapIdx]
def pre22 : zSh := [zc 1000 0, zc 1008 0, zc 1010 0, zc 1009 0, zc 1011 0, zc 1012 0, zc 1013 0, zc 1014 0, zc 1015 0, zc 1016 0, zc 40 0, zc 40 1, zc 40 2, zc 40 3, zc 40 4, zc 40 5, zc 40 6, zc 1024 0, zc 1025 0, zc 1026 0, zc 1027 0, zc 1028 0]
def pst168 : zSh := [zc 1161 0, zc 1162 0, zc 1163 0, zc 1164 0, zc 1165 0, zc 1166 0, zc 1167 0, zc 1168 0, zc 1169 0, zc 1170 0, zc 1171 0, zc 1172 0, zc 1173 0, zc 1174 0, zc 1175 0, zc 1176 0]
def sh168 : zSh := (pre22 ++ spS 22) ++ spS 95
def mu0 : zM := fun k j => if k = 9 then j else if k = 0 then (if j = 5 then 22 else if j = 6 then 95 else if j = 8 then 1 else 0) else if k = 1 ∨ k = 42 ∨ k = 115 then -1 else if k = 46 then 47 + 6 * j else if k = 119 then 120 + 6 * j else if k = 168 ∧ j = 5 then 1 else 0
def dfl (ci : Nat) : List Value := (List.range (xnf ci)).map fun k => defaultValue (xfty ci k)
set_option maxRecDepth 100000 in
theorem x11_run : xrun [] 2000 10 n_X11_init 0 [.ref 0] [] [(11, dfl 11)] = some (none, zml mu0 0 sh168) := by decide +kernel
theorem x11_init {ext : List xC} : EvM ext 10 n_X11_init [.ref 0] [(11, dfl 11)] none (hz sh168 mu0) := by
  rw [← zml_hz]
  exact ⟨2000, xrun_ext 2000 x11_run⟩
