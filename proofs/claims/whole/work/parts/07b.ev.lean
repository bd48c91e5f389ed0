/-! Rows for runs of the small machine: no fuel is seen. -/
theorem xrun_more {ext : List xC} : ∀ (n : Nat) {d mi pc : Nat} {L st : List Value} {h : xH} {z : Option Value × xH} (k j : Nat), xrun ext n d mi pc L st h = some z → xrun ext (n + k) (d + j) mi pc L st h = some z
  | 0, _, _, _, _, _, _, _, _, _, e => xno e
  | n + 1, d, mi, pc, L, st, h, z, k, j, e => by
    rw [show n + 1 + k = (n + k) + 1 by omega]
    obtain ⟨q, hq, hc⟩ := xrun_succ e
    rcases hc with ⟨w, hs, hw⟩ | ⟨r, hr, e9⟩ | ⟨d', a, b, rfl, ha, hc8, hsl, h1, h2⟩
    · have hs' := xs_depth hs j
      rw [xrun, hq, Option.bind_some, hs']
      exact xrun_more n k j hw
    · have hs : xs ext (d + j) q.1 q.2.1 q.2.2 L st h = none := xs_ret hr
      rw [xrun, hq, Option.bind_some, hs, hr, e9]
    · have hs : xs ext (d' + 1 + j) q.1 q.2.1 q.2.2 L st h = none := xs_call ha
      have hr : xret (xmt mi).1.2.2.2 q.1 st = none := xret_call ha
      rw [xrun, hq, Option.bind_some, hs, hr, show d' + 1 + j = (d' + j) + 1 by omega]
      show (xcallee ext q.1 q.2.2 st h).bind _ = _
      rw [ha, Option.bind_some, if_neg (by omega), xrun_more n k j h1, Option.bind_some, show d' + j + 1 = d' + 1 + j by omega]
      exact xrun_more n k j h2
theorem Ev.more {ext : List xC} {d mi pc : Nat} {L st : List Value} {h h' : xH} {r : Option Value} (j : Nat) (k : Ev ext d mi pc L st h r h') : Ev ext (d + j) mi pc L st h r h' := by
  obtain ⟨n, hn⟩ := k
  exact ⟨n + 0, xrun_more n 0 j hn⟩
theorem Ev.s {ext : List xC} {d mi pc : Nat} {L st : List Value} {h h' : xH} {r : Option Value} {q : Instr × Nat × List Nat} {w : Nat × List Value × List Value × xH} (hf : xfind (xmt mi).2 pc = some q) (hs : xs ext d q.1 q.2.1 q.2.2 L st h = some w)
    (k : Ev ext d mi w.1 w.2.1 w.2.2.1 w.2.2.2 r h') : Ev ext d mi pc L st h r h' := by
  obtain ⟨n, hn⟩ := k
  refine ⟨n + 1, ?_⟩
  rw [xrun, hf, Option.bind_some, hs]
  exact hn
theorem Ev.r {ext : List xC} {d mi pc : Nat} {L st : List Value} {h : xH} {r : Option Value} {q : Instr × Nat × List Nat} (hf : xfind (xmt mi).2 pc = some q) (hr : xret (xmt mi).1.2.2.2 q.1 st = some r) : Ev ext d mi pc L st h r h := by
  refine ⟨1, ?_⟩
  rw [xrun, hf, Option.bind_some, xs_ret hr, hr]
theorem Ev.c {ext : List xC} {d mi pc mj : Nat} {vs rest : List Value} {L st : List Value} {h h1 h' : xH} {r rb : Option Value} {q : Instr × Nat × List Nat} (hf : xfind (xmt mi).2 pc = some q) (ha : xcallee ext q.1 q.2.2 st h = some (mj, vs, rest))
    (h8 : xcat rest ≤ 8) (hl : (xspread vs).length ≤ xmax mj) (kc : Ev ext d mj 0 (xent (xmax mj) vs) [] h rb h1) (k : Ev ext (d + 1) mi q.2.1 L (rb.toList ++ rest) h1 r h') : Ev ext (d + 1) mi pc L st h r h' := by
  obtain ⟨n1, hn1⟩ := kc
  obtain ⟨n2, hn2⟩ := k
  refine ⟨(n1 + n2) + 1, ?_⟩
  rw [xrun, hf, Option.bind_some, xs_call ha, xret_call ha]
  show (xcallee ext q.1 q.2.2 st h).bind _ = _
  rw [ha, Option.bind_some, if_neg (by show ¬ (8 < xcat rest ∨ xmax mj < (xspread vs).length); omega)]
  show (xrun ext (n1 + n2) d mj 0 (xent (xmax mj) vs) [] h).bind _ = _
  have e1 := xrun_more n1 n2 0 hn1
  have e2 := xrun_more n2 n1 0 hn2
  rw [Nat.add_comm n2 n1] at e2
  rw [Nat.add_zero] at e1 e2
  rw [e1, Option.bind_some]
  exact e2
/-- a method's contract -/
def EvM (ext : List xC) (d mi : Nat) (vs : List Value) (h : xH) (r : Option Value) (h' : xH) : Prop := Ev ext d mi 0 (xent (xmax mi) vs) [] h r h'
theorem Ev.icmp {ext : List xC} {d mi pc nx t : Nat} {cd : Jvm.ClassFile.Cond} {o : Int} {x y : Int32} {L st : List Value} {h h' : xH} {r : Option Value} (hf : xfind (xmt mi).2 pc = some (.if_icmp cd o, nx, [t])) (k1 : xcmp cd x y = true → Ev ext d mi t L st h r h') (k0 : xcmp cd x y = false → Ev ext d mi nx L st h r h') : Ev ext d mi pc L (.int y :: .int x :: st) h r h' := by
  refine Ev.s hf rfl ?_
  cases hc : xcmp cd x y with
  | true => exact k1 hc
  | false => exact k0 hc
theorem Ev.if0 {ext : List xC} {d mi pc nx t : Nat} {cd : Jvm.ClassFile.Cond} {o : Int} {x : Int32} {L st : List Value} {h h' : xH} {r : Option Value} (hf : xfind (xmt mi).2 pc = some (.ifCond cd o, nx, [t])) (k1 : xcmp cd x 0 = true → Ev ext d mi t L st h r h') (k0 : xcmp cd x 0 = false → Ev ext d mi nx L st h r h') : Ev ext d mi pc L (.int x :: st) h r h' := by
  refine Ev.s hf rfl ?_
  cases hc : xcmp cd x 0 with
  | true => exact k1 hc
  | false => exact k0 hc
/-- a field is read -/
theorem Ev.gf {ext : List xC} {d mi pc nx ci k idx a : Nat} {v : Value} {fs : List Value} {L st : List Value} {h h' : xH} {r : Option Value} (hf : xfind (xmt mi).2 pc = some (.getfield idx, nx, [ci, k])) (hc : h[a]? = some (ci, fs)) (hk : fs[k]? = some v) (kk : Ev ext d mi nx L (v :: st) h r h') : Ev ext d mi pc L (.ref a :: st) h r h' := by
  refine Ev.s hf (w := (nx, L, v :: st, h)) ?_ kk
  show (h[a]?).bind _ = _
  rw [hc, Option.bind_some]
  show cond (Nat.beq ci ci) _ _ = _
  rw [Nat.beq_refl ci]
  show (fs[k]?).bind _ = _
  rw [hk]
  rfl
/-- a field is written -/
theorem Ev.pf {ext : List xC} {d mi pc nx ci k idx a : Nat} {v : Value} {fs : List Value} {L st : List Value} {h h' : xH} {r : Option Value} (hf : xfind (xmt mi).2 pc = some (.putfield idx, nx, [ci, k])) (hc : h[a]? = some (ci, fs)) (hk : Nat.blt k fs.length = true) (hv : xfit (xfty ci k) v = true) (kk : Ev ext d mi nx L st (h.set a (ci, fs.set k v)) r h') : Ev ext d mi pc L (v :: .ref a :: st) h r h' := by
  refine Ev.s hf (w := (nx, L, st, h.set a (ci, fs.set k v))) ?_ kk
  show (h[a]?).bind _ = _
  rw [hc, Option.bind_some]
  show cond (Nat.beq ci ci && (Nat.blt k fs.length && xfit (xfty ci k) v)) _ _ = _
  rw [Nat.beq_refl ci, hk, hv]
  rfl
/-- an int of an array -/
theorem Ev.ia {ext : List xC} {d mi pc nx a : Nat} {i : Int32} {v : Value} {vs : List Value} {L st : List Value} {h h' : xH} {r : Option Value} (hf : xfind (xmt mi).2 pc = some (.iaload, nx, [])) (hc : h[a]? = some (20, vs)) (hk : xix i vs = some v) (kk : Ev ext d mi nx L (v :: st) h r h') : Ev ext d mi pc L (.int i :: .ref a :: st) h r h' := by
  refine Ev.s hf (w := (nx, L, v :: st, h)) ?_ kk
  show (h[a]?).bind _ = _
  rw [hc, Option.bind_some]
  show (xix i vs).bind _ = _
  rw [hk]
  rfl
/-- an int into an array -/
theorem Ev.is {ext : List xC} {d mi pc nx a : Nat} {i x : Int32} {v : Value} {vs : List Value} {L st : List Value} {h h' : xH} {r : Option Value} (hf : xfind (xmt mi).2 pc = some (.iastore, nx, [])) (hc : h[a]? = some (20, vs)) (hk : xix i vs = some v) (kk : Ev ext d mi nx L st (h.set a (20, vs.set i.toNatClampNeg (.int x))) r h') : Ev ext d mi pc L (.int x :: .int i :: .ref a :: st) h r h' := by
  refine Ev.s hf (w := (nx, L, st, h.set a (20, vs.set i.toNatClampNeg (.int x)))) ?_ kk
  show (h[a]?).bind _ = _
  rw [hc, Option.bind_some]
  show (xix i vs).bind _ = _
  rw [hk]
  rfl
