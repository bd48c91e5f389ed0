/-! A whole run of the small machine is a contract of the machine's. -/
theorem xrun_succ {ext : List xC} {n d mi pc : Nat} {L st : List Value} {h : xH} {z : Option Value × xH} (e : xrun ext (n + 1) d mi pc L st h = some z) : ∃ q : Instr × Nat × List Nat, xfind (xmt mi).2 pc = some q ∧
    ((∃ w, xs ext d q.1 q.2.1 q.2.2 L st h = some w ∧ xrun ext n d mi w.1 w.2.1 w.2.2.1 w.2.2.2 = some z) ∨
     (∃ r, xret (xmt mi).1.2.2.2 q.1 st = some r ∧ z = (r, h)) ∨
     (∃ (d' : Nat) (a : Nat × List Value × List Value) (b : Option Value × xH), d = d' + 1 ∧ xcallee ext q.1 q.2.2 st h = some a ∧ xcat a.2.2 ≤ 8 ∧ (xspread a.2.1).length ≤ xmax a.1 ∧ xrun ext n d' a.1 0 (xent (xmax a.1) a.2.1) [] h = some b ∧ xrun ext n (d' + 1) mi q.2.1 L (b.1.toList ++ a.2.2) b.2 = some z)) := by
  rw [xrun] at e
  obtain ⟨q, hq, e⟩ := Option.bind_eq_some_iff.mp e
  refine ⟨q, hq, ?_⟩
  cases hs : xs ext d q.1 q.2.1 q.2.2 L st h with
  | some w =>
    rw [hs] at e
    exact Or.inl ⟨w, rfl, e⟩
  | none =>
    rw [hs] at e
    cases hr : xret (xmt mi).1.2.2.2 q.1 st with
    | some r =>
      rw [hr] at e
      exact Or.inr (Or.inl ⟨r, rfl, xyes e⟩)
    | none =>
      rw [hr] at e
      cases d with
      | zero => exact xno e
      | succ d' =>
        obtain ⟨a, ha, e⟩ := Option.bind_eq_some_iff.mp e
        by_cases hc : 8 < xcat a.2.2 ∨ xmax a.1 < (xspread a.2.1).length
        · rw [if_pos hc] at e
          exact xno e
        · rw [if_neg hc] at e
          obtain ⟨b, hb, e⟩ := Option.bind_eq_some_iff.mp e
          exact Or.inr (Or.inr ⟨d', a, b, rfl, ha, Nat.not_lt.mp fun q => hc (Or.inl q), Nat.not_lt.mp fun q => hc (Or.inr q), hb, e⟩)
theorem xrun_mono {ext : List xC} : ∀ (n d mi pc : Nat) (L st : List Value) (h : xH) (z : Option Value × xH), xrun ext n d mi pc L st h = some z → h.length ≤ z.2.length
  | 0, _, _, _, _, _, _, _, e => xno e
  | n + 1, d, mi, pc, L, st, h, z, e => by
    obtain ⟨q, -, ⟨w, hs, hw⟩ | ⟨r, -, rfl⟩ | ⟨d', a, b, -, -, -, -, h1, h2⟩⟩ := xrun_succ e
    · exact Nat.le_trans (xs_mono hs) (xrun_mono n _ _ _ _ _ _ _ hw)
    · exact Nat.le_refl _
    · exact Nat.le_trans (xrun_mono n _ _ _ _ _ _ _ h1) (xrun_mono n _ _ _ _ _ _ _ h2)
theorem xfind_mem : ∀ {l : List xI} {pc : Nat} {q : Instr × Nat × List Nat}, xfind l pc = some q → (pc, q) ∈ l
  | [], _, _, h => xno h
  | a :: r, pc, q, h => by
    unfold xfind at h
    cases hb : Nat.beq a.1 pc with
    | true =>
      rw [hb] at h
      have e1 : a.1 = pc := Nat.eq_of_beq_eq_true hb
      have e2 : a.2 = q := Option.some.inj h
      rw [← e1, ← e2]
      exact List.mem_cons_self
    | false =>
      rw [hb] at h
      exact List.mem_cons_of_mem _ (xfind_mem h)
/-- as the kit's, for a method that no native stands for -/
theorem xmet_of {l : Launch} {y : MethodName} {ws ws' : List Jvm.Cond} {rm : Room} {Pc : Array Value → State → Prop} {Qc : Array Value → State → Outcome → State → Prop} {mc ms : Nat} {free : Addr → Prop} {cc : ByteArray} {maxL : Nat} {ret : Option FieldType}
    (hy : plainFor y = true) (hw : ws = Jvm.Cond.code y cc maxL ret :: ws')
    (body : ∀ p e s m args below meth c s₁, BodyLoose p l y (headSpec ws rm) cc maxL ret e s m args below meth c s₁ → c.maxLocals = maxL → Pc args s →
      W p l e (headSpec ws rm).room s m args below meth c s.heap [] 0 0 (MQ below Qc args s mc ms free) (entryFrame m args maxL)) : Met l y ws rm Pc Qc mc ms free := by
  refine MetFree.of_bodySF (code := cc) (maxLocals := maxL) (ret := ret) hy ?_ ?_
  · intro args s m h hn
    obtain ⟨meth, c, h1, h2, h3, h4, h5, h6, -, -⟩ := Cond.code_spec hn (atoms_spec (ws := ws) h _ (by rw [hw]; exact List.mem_cons_self))
    exact ⟨meth, c, h1, h2, h3, h4, h5, h6⟩
  · intro p e s m args below meth c s₁ B hml hP _
    have hh0 : s₁.heap = s.heap := by rw [B.state]; rfl
    obtain ⟨t, a1, o, b1, b2, b3⟩ := body p e s m args below meth c s₁ B hml hP s₁ hh0 (Stand.of_body B)
    exact ⟨t, o, a1, b1, b2, ⟨b3.1, b3.2⟩⟩
/-- a method's contract, as a run of the small machine says it -/
def xMet (l : Launch) (B0 : Heap) (ev : Nat → Value) (ext : List xC) (D : va_G) (cA : Nat → ClassId) (d mi : Nat) (vs : List Value) (h : xH) (r : Option Value) (h1 : xH) : Prop :=
  Met l (xmt mi).1.1 [.code (xmt mi).1.1 (xmt mi).1.2.1 (xmt mi).1.2.2.1 (xmt mi).1.2.2.2] { frames := d, cells := h1.length - h.length, slots := 1100 * (h1.length - h.length), locals := 35 * d }
    (fun a U => a = (vs.map (xv B0.size ev)).toArray ∧ XF B0 ev ext D cA U ∧ xR D cA B0 ev h U.heap) (fun _ _ o t => o = .returned (r.map (xv B0.size ev)) ∧ xR D cA B0 ev h1 t.heap) (h1.length - h.length) (1100 * (h1.length - h.length)) (fun q => B0.size ≤ q)
theorem xblind {B0 : Heap} {ev : Nat → Value} {ext : List xC} {D : va_G} {cA : Nat → ClassId} {vs : List Value} {h : xH} : FrameBlind (fun a U => a = (vs.map (xv B0.size ev)).toArray ∧ XF B0 ev ext D cA U ∧ xR D cA B0 ev h U.heap) :=
  fun a U g mk q => ⟨q.1, XF.warm (s := U) (U := U.calling g mk a) (State.WarmedH.refl U) q.2.1, q.2.2⟩
section XRN
variable {p : Program} {l : Launch} {e : Env} {R : Room} {s : State} {m : MethodId} {args : Array Value} {below : List Frame} {meth : Method} {c : Code} {Q : State → Prop}
variable {B0 : Heap} {ev : Nat → Value} {ext : List xC} {D : va_G} {cA : Nat → ClassId} {mi n0 : Nat}
/-- behind a call: what va_Run says, and the rest of the walk -/
theorem xcall_go {pc : Nat} {L st rest : List Value} {h h1 : xH} {r : Option Value} {H : Heap} {locs : List Loc} {ls : Array Slot}
    (hrun : va_Run p l e R s m args below meth c H locs (h.length - n0) (1100 * (h.length - n0)) (h1.length - h.length) (1100 * (h1.length - h.length)) (F0 m pc ls (st.map (xv B0.size ev))) (rest.map (xv B0.size ev)) (fun (_ : State) (o : Outcome) (t : State) => o = .returned (r.map (xv B0.size ev)) ∧ xR D cA B0 ev h1 t.heap) (fun q => B0.size ≤ q))
    (hn : n0 ≤ h.length) (hm : h.length ≤ h1.length) (hlo : ∀ q ∈ locs, B0.size ≤ q.base) (hl : xLs B0.size ev L ls) (hz9 : ls.size = c.maxLocals) (kk : xG p l e R s m args below meth c B0 ev D cA n0 Q (pc + 3) L (r.toList ++ rest) h1) :
    W p l e R s m args below meth c H locs (h.length - n0) (1100 * (h.length - n0)) Q (F0 m pc ls (st.map (xv B0.size ev))) := by
  intro T hT X
  obtain ⟨v, st₀, t, T', L', h0, X', hL, e1, e2, ⟨hv, hR1⟩, go⟩ := hrun T hT X
  have hv : v = r.map (xv B0.size ev) := Outcome.returned.inj hv
  subst hv
  have en : h.length - n0 + (h1.length - h.length) = h1.length - n0 := by omega
  have en2 : 1100 * (h.length - n0) + 1100 * (h1.length - h.length) = 1100 * (h1.length - n0) := by omega
  rw [en, en2] at X'
  have k9 := kk T'.heap (locs ++ L') ls (by rw [e1]; exact hR1) (fun q hq => (List.mem_append.mp hq).elim (hlo q) (hL q)) hl hz9 T' rfl X'
  obtain ⟨t2, a1, b1⟩ := k9
  refine ⟨t2, go t2 ?_, b1⟩
  have e5 : (r.toList ++ rest).map (xv B0.size ev) = (r.map (xv B0.size ev)).toList ++ rest.map (xv B0.size ev) := by
    rw [List.map_append]
    cases r <;> rfl
  rw [e5] at a1
  exact a1
theorem xcal_of {m9 : xM} {na : Nat} {b : Bool} (h : xcalI m9 na b = true) : (m9.1.1.cls ≠ "java/lang/invoke/MethodHandle" ∧ m9.1.1.cls ≠ "java/lang/invoke/VarHandle") ∧ (∀ sig, parseMethodDescriptor m9.1.1.desc = some sig → na = sig.parameters.length) ∧ m9.1.2.2.1 ≤ 16 ∧ plainFor m9.1.1 = true ∧ b = true := by
  unfold xcalI at h
  rw [Bool.and_eq_true, Bool.and_eq_true, Bool.and_eq_true, Bool.and_eq_true] at h
  refine ⟨of_decide_eq_true h.1, fun sig hs => ?_, of_decide_eq_true h.2.2.1, h.2.2.2.1, h.2.2.2.2⟩
  have h2 := of_decide_eq_true h.2.1
  rw [hs] at h2
  exact (Option.some.inj h2).symm
theorem xlink_of {ps : List Nat} {own : String} {idx : Nat} {y : MethodName} (h : xlinkI ps own idx y = true) : Jvm.Cond.methodLink own idx y ∈ lw_tbl ∨ Jvm.Cond.methodLinkNest own idx y xhost ∈ lw_tbl := by
  unfold xlinkI at h
  rw [Bool.or_eq_true] at h
  exact h.imp xwI_mem xwI_mem
/-- what the callee's word pays -/
theorem xpay (hF : XF B0 ev ext D cA s) {m9 : xM} (hc : Jvm.Cond.code m9.1.1 m9.1.2.1 m9.1.2.2.1 m9.1.2.2.2 ∈ lw_tbl) : ∀ w ∈ [Jvm.Cond.code m9.1.1 m9.1.2.1 m9.1.2.2.1 m9.1.2.2.2], ∀ (a' : Array Value) (U : State), s.WarmedH U.vm → w.before a' U = true := by
  intro w hw a' U hW
  rw [List.mem_singleton.mp hw]
  exact (hF.warm hW).w hc rfl a'
theorem xsplit {st : List Value} {na : Nat} {f : Value → Value} : ((st.take na).reverse.map f).reverse ++ (st.drop na).map f = st.map f := by
  rw [← List.map_reverse, List.reverse_reverse, ← List.map_append, List.take_append_drop]
theorem xcall_static {pc d' nx na mj idx : Nat} {ps : List Nat} {L st : List Value} {h h1 : xH} {r : Option Value} (C : XC p s m meth c B0 ev ext D cA mi) (hq : xchk (xmt mi) (pc, .invokestatic idx, nx, [na, mj]) ps = true) (hna : na ≤ st.length)
    (hcat : xcat (st.drop na) ≤ 8) (hM : xMet l B0 ev ext D cA d' mj (st.take na).reverse h r h1) (hr : h1.length - n0 ≤ R.cells ∧ 1100 * (h1.length - n0) ≤ R.slots) (hn : n0 ≤ h.length) (hm : h.length ≤ h1.length) (hdp : d' + 1 ≤ R.frames ∧ 35 * (d' + 1) ≤ R.locals)
    (kk : xG p l e R s m args below meth c B0 ev D cA n0 Q nx L (r.toList ++ st.drop na) h1) : xG p l e R s m args below meth c B0 ev D cA n0 Q pc L st h := by
  obtain ⟨hx, hb, hml, hown, hnm, hF, hz0, hs0, hev⟩ := id C
  obtain ⟨hd, rfl, hck⟩ := xchk_len 3 hq (fun n9 h9 => Nat.eq_of_beq_eq_true h9)
  have hck' : (xlinkI ps (xmt mi).1.1.cls idx (xmt mj).1.1 && (xwI ps 1 (.static (xmt mj).1.1) && (xwI ps 2 (.initialized (xmt mj).1.1.cls) && xcalI (xmt mj) na (xcod ps 3 (xmt mj))))) = true := by
    have h9 := hck
    simp only [xchkI] at h9
    exact h9
  rw [Bool.and_eq_true, Bool.and_eq_true, Bool.and_eq_true] at hck'
  obtain ⟨hl0, w1, w2, hcal⟩ := hck'
  obtain ⟨c1, c2, c3, c4, c5⟩ := xcal_of hcal
  have hcw := xwI_mem (show xwI ps 3 (.code (xmt mj).1.1 (xmt mj).1.2.1 (xmt mj).1.2.2.1 (xmt mj).1.2.2.2) = true from c5)
  intro H locs ls hR hlo hl hz9
  have hf : h.length - n0 + (h1.length - h.length) ≤ R.cells ∧ 1100 * (h.length - n0) + 1100 * (h1.length - h.length) ≤ R.slots := ⟨by omega, by omega⟩
  have hlen : ((st.take na).reverse.map (xv B0.size ev)).length = na := by rw [List.length_map, List.length_reverse, List.length_take]; omega
  have hW8 : 2 * (F0 m pc ls (st.map (xv B0.size ev))).monitorRoom + (((st.drop na).map (xv B0.size ev)).map fun v => v.category).sum ≤ 8 := by
    rw [xcat_map hev]
    show 2 * 0 + xcat (st.drop na) ≤ 8
    omega
  have hPre : PreS s H (fun a U => a = ((st.take na).reverse.map (xv B0.size ev)).toArray ∧ XF B0 ev ext D cA U ∧ xR D cA B0 ev h U.heap) ((st.take na).reverse.map (xv B0.size ev)) := ⟨xblind, fun U hU hW => ⟨rfl, hF.warm hW, by rw [hU]; exact hR⟩⟩
  rcases xlink_of hl0 with hl1 | hl1
  · exact xcall_go (va_runS (Ts := []) ⟨hx, hb, rfl, hown, fun _ h9 => absurd h9 List.not_mem_nil⟩ hM ⟨⟨rfl, rfl, hdp.1, (by show 8 + ((xmt mj).1.2.2.1 + 11) + 35 * d' ≤ R.locals; omega), xpay hF hcw, List.mem_singleton.mpr rfl, hF.w hcw rfl args, hF.w (xwI_mem w2) rfl args, c1, c2, hF.w hl1 rfl args⟩, hF.w (xwI_mem w1) rfl args⟩ hPre rfl hlen hz9 xsplit.symm hW8 hd hf) hn hm hlo hl hz9 kk
  · exact xcall_go (va_runSN (Ts := []) ⟨hx, hb, rfl, hown, fun _ h9 => absurd h9 List.not_mem_nil⟩ hM ⟨⟨⟨rfl, rfl, hdp.1, (by show 8 + ((xmt mj).1.2.2.1 + 11) + 35 * d' ≤ R.locals; omega), xpay hF hcw, List.mem_singleton.mpr rfl⟩, hF.w hcw rfl args, hF.w (xwI_mem w2) rfl args, c1, c2, hF.w hl1 rfl args⟩, hF.w (xwI_mem w1) rfl args, trivial⟩ hPre rfl hlen hz9 xsplit.symm hW8 hd hf) hn hm hlo hl hz9 kk
/-- the receiver of a call: its address, its cell, its class -/
theorem xrecv (hF : XF B0 ev ext D cA s) {h : xH} {H : Heap} (hR : xR D cA B0 ev h H) {v : Value} {t : xC} (hg : xget ext h v = some t) {Cn : String} (hc : xcn t.1 = some Cn) :
    ∃ (b : Addr) (cell : Cell), xv B0.size ev v = .ref b ∧ H[b]? = some cell ∧ cell.vm.isStatics = false ∧ s.vm.findClass Cn = some cell.cls := by
  unfold xcn at hc
  by_cases h13 : t.1 = 13
  · rw [if_pos h13] at hc
    obtain rfl := xyes hc
    cases v with
    | ref a =>
      obtain ⟨r9, h9, -⟩ := xat_ob (hR.2.2 a t hg) (by omega)
      have := xcl_lt h9
      omega
    | retAddr j =>
      obtain ⟨a, cell, e1, e2, e3, e4⟩ := hF.2.2.2.1 j t.1 t.2 hg
      rw [if_pos h13] at e4
      exact ⟨a, cell, e1, by rw [hR.2.1 a e2]; exact e3, e4.1, e4.2.1⟩
    | _ => exact xno hg
  · rw [if_neg h13] at hc
    obtain ⟨r9, h9, rfl⟩ := Option.map_eq_some_iff.mp hc
    have hlt := xcl_lt h9
    cases v with
    | ref a =>
      obtain ⟨r8, h8, cell, q1, q2, q3, q4⟩ := xat_ob (hR.2.2 a t hg) (by omega)
      cases h9.symm.trans h8
      exact ⟨B0.size + a, cell, rfl, q1, by rw [q3]; rfl, by rw [q2]; exact (hF.2.1.1 t.1 r9 h9).2.1⟩
    | retAddr j =>
      obtain ⟨a, cell, -, -, -, e4⟩ := hF.2.2.2.1 j t.1 t.2 hg
      rw [if_neg h13] at e4
      omega
    | _ => exact xno hg
theorem xsplitV {st r : List Value} {na : Nat} {v : Value} {b : Addr} {f : Value → Value} (h : st.drop na = v :: r) (hv : f v = .ref b) : st.map f = ((st.take na).reverse.map f).reverse ++ .ref b :: r.map f := by
  rw [← xsplit (na := na), h, List.map_cons, hv]
theorem xlenV {st r : List Value} {na : Nat} {v : Value} (h : st.drop na = v :: r) : (st.take na).length = na := by
  have : (st.drop na).length = r.length + 1 := by rw [h]; rfl
  rw [List.length_drop] at this
  rw [List.length_take]
  omega
theorem xcall_virt {pc d' nx na ci mj idx : Nat} {ps : List Nat} {L st r9 : List Value} {v : Value} {t : xC} {h h1 : xH} {r : Option Value} (C : XC p s m meth c B0 ev ext D cA mi) (hd : decode (xmt mi).1.2.1 pc = .ok (.invokevirtual idx, 3)) (hnx : nx = pc + 3)
    (hck : xvirI (xmt mi).1.1.cls idx na ci mj ps = true) (hdr : st.drop na = v :: r9) (hg : xget ext h v = some t) (ht : t.1 = ci)
    (hcat : xcat r9 ≤ 8) (hM : xMet l B0 ev ext D cA d' mj (v :: (st.take na).reverse) h r h1) (hr : h1.length - n0 ≤ R.cells ∧ 1100 * (h1.length - n0) ≤ R.slots) (hn : n0 ≤ h.length) (hm : h.length ≤ h1.length) (hdp : d' + 1 ≤ R.frames ∧ 35 * (d' + 1) ≤ R.locals)
    (kk : xG p l e R s m args below meth c B0 ev D cA n0 Q nx L (r.toList ++ r9) h1) : xG p l e R s m args below meth c B0 ev D cA n0 Q pc L st h := by
  obtain ⟨hx, hb, hml, hown, hnm, hF, hz0, hs0, hev⟩ := id C
  subst hnx
  unfold xvirI at hck
  rw [Bool.and_eq_true, Bool.and_eq_true, Bool.and_eq_true, Bool.and_eq_true, Bool.and_eq_true] at hck
  obtain ⟨hcn, w0, w1, w2, w3, hcal⟩ := hck
  obtain ⟨c1, c2, c3, c4, c5⟩ := xcal_of hcal
  have hcw := xwI_mem (show xwI ps 4 (.code (xmt mj).1.1 (xmt mj).1.2.1 (xmt mj).1.2.2.1 (xmt mj).1.2.2.2) = true from c5)
  have hcn : xcn t.1 = some (xmt mj).1.1.cls := by rw [ht]; exact of_decide_eq_true hcn
  intro H locs ls hR hlo hl hz9
  have hf : h.length - n0 + (h1.length - h.length) ≤ R.cells ∧ 1100 * (h.length - n0) + 1100 * (h1.length - h.length) ≤ R.slots := ⟨by omega, by omega⟩
  obtain ⟨b, cell, e1, e2, e3, e4⟩ := xrecv hF hR hg hcn
  have hlen : ((st.take na).reverse.map (xv B0.size ev)).length = na := by rw [List.length_map, List.length_reverse]; exact xlenV hdr
  have hW8 : 2 * (F0 m pc ls (st.map (xv B0.size ev))).monitorRoom + ((r9.map (xv B0.size ev)).map fun v => v.category).sum ≤ 8 := by
    rw [xcat_map hev]
    show 2 * 0 + xcat r9 ≤ 8
    omega
  refine xcall_go (va_runV (Ts := []) ⟨hx, hb, rfl, hown, fun _ h9 => absurd h9 List.not_mem_nil⟩ hM ⟨⟨rfl, rfl, hdp.1, (by show 8 + ((xmt mj).1.2.2.1 + 11) + 35 * d' ≤ R.locals; omega), xpay hF hcw, List.mem_singleton.mpr rfl, hF.w hcw rfl args, hF.w (xwI_mem w3) rfl args, c1, c2, hF.w (xwI_mem w0) rfl args⟩, hF.w (xwI_mem w1) rfl args, hF.w (xwI_mem w2) rfl args⟩
    ⟨xblind, ⟨cell, e2, e3, e4⟩, fun U hU hW => ⟨by rw [List.map_cons, e1], hF.warm hW, by rw [hU]; exact hR⟩⟩ rfl hlen hz9 (xsplitV hdr e1) hW8 hd hf) hn hm hlo hl hz9 kk
/-- a call by the receiver's class, at the class's place in the table -/
theorem xdis_at {own : String} {idx na : Nat} {ps : List Nat} {ci mj : Nat} : ∀ {tb : List Nat} {j : Nat}, xdisI own idx na ps tb j = true → xpairs tb ci = some mj → ∃ j', xdisI own idx na ps [ci, mj] j' = true
  | [], _, _, h => xno h
  | [_], _, h, _ => by cases h
  | a :: b :: r, j, h, hp => by
    unfold xpairs at hp
    unfold xdisI at h
    rw [Bool.and_eq_true] at h
    cases hb : Nat.beq a ci with
    | true =>
      rw [hb] at hp
      have e1 : a = ci := Nat.eq_of_beq_eq_true hb
      have e2 : b = mj := Option.some.inj hp
      subst e1
      subst e2
      refine ⟨j, ?_⟩
      unfold xdisI
      rw [Bool.and_eq_true]
      exact ⟨h.1, rfl⟩
    | false =>
      rw [hb] at hp
      exact xdis_at h.2 hp
theorem xcall_dis {pc d' nx na ci mj idx j : Nat} {ps : List Nat} {L st r9 : List Value} {v : Value} {t : xC} {h h1 : xH} {r : Option Value} (C : XC p s m meth c B0 ev ext D cA mi) (hd : decode (xmt mi).1.2.1 pc = .ok (.invokevirtual idx, 3)) (hnx : nx = pc + 3)
    (hck : xdisI (xmt mi).1.1.cls idx na ps [ci, mj] j = true) (hdr : st.drop na = v :: r9) (hg : xget ext h v = some t) (ht : t.1 = ci)
    (hcat : xcat r9 ≤ 8) (hM : xMet l B0 ev ext D cA d' mj (v :: (st.take na).reverse) h r h1) (hr : h1.length - n0 ≤ R.cells ∧ 1100 * (h1.length - n0) ≤ R.slots) (hn : n0 ≤ h.length) (hm : h.length ≤ h1.length) (hdp : d' + 1 ≤ R.frames ∧ 35 * (d' + 1) ≤ R.locals)
    (kk : xG p l e R s m args below meth c B0 ev D cA n0 Q nx L (r.toList ++ r9) h1) : xG p l e R s m args below meth c B0 ev D cA n0 Q pc L st h := by
  obtain ⟨hx, hb, hml, hown, hnm, hF, hz0, hs0, hev⟩ := id C
  subst hnx
  unfold xdisI at hck
  rw [Bool.and_eq_true] at hck
  have hck := hck.1
  split at hck
  · rename_i c9 o i x xc ow nm9 ds hc9 hk0 hk1
    rw [Bool.and_eq_true, Bool.and_eq_true, Bool.and_eq_true, Bool.and_eq_true, Bool.and_eq_true, Bool.and_eq_true] at hck
    obtain ⟨hall, w1, w2, w3, w4, w5, hcal⟩ := hck
    obtain ⟨rfl, rfl, rfl, rfl, rfl, hds, hmh1, hmh2⟩ := of_decide_eq_true hall
    obtain ⟨c1, c2, c3, c4, c5⟩ := xcal_of hcal
    have hcw := xwI_mem (show xwI ps (j + 6) (.code (xmt mj).1.1 (xmt mj).1.2.1 (xmt mj).1.2.2.1 (xmt mj).1.2.2.2) = true from c5)
    have hcn : xcn t.1 = some c9.1 := by
      have := xcl_lt hc9
      unfold xcn
      rw [ht, if_neg (by omega), hc9]
      rfl
    have hdecl : va_Decl s ⟨ow, x.name, x.desc⟩ := by
      split at w2
      · rename_i z b0 m0 r0 hk2
        have hz := of_decide_eq_true w2
        have := hF.w (List.mem_of_getElem? hk2) rfl args
        rw [hz] at this
        exact va_Decl.of (hF.w (xwI_mem w1) rfl args) this
      · cases w2
    intro H locs ls hR hlo hl hz9
    have hf : h.length - n0 + (h1.length - h.length) ≤ R.cells ∧ 1100 * (h.length - n0) + 1100 * (h1.length - h.length) ≤ R.slots := ⟨by omega, by omega⟩
    obtain ⟨b, cell, e1, e2, e3, e4⟩ := xrecv hF hR hg hcn
    have hlen : ((st.take na).reverse.map (xv B0.size ev)).length = na := by rw [List.length_map, List.length_reverse]; exact xlenV hdr
    have hW8 : 2 * (F0 m pc ls (st.map (xv B0.size ev))).monitorRoom + ((r9.map (xv B0.size ev)).map fun v => v.category).sum ≤ 8 := by
      rw [xcat_map hev]
      show 2 * 0 + xcat r9 ≤ 8
      omega
    refine xcall_go (va_runU (Ts := []) (x := x) (owner := ow) ⟨hx, hb, rfl, hown, fun _ h9 => absurd h9 List.not_mem_nil⟩ hM ⟨⟨rfl, rfl, hdp.1, (by show 8 + ((xmt mj).1.2.2.1 + 11) + 35 * d' ≤ R.locals; omega), xpay hF hcw, List.mem_singleton.mpr rfl⟩, hF.w hcw rfl args, hF.w (xwI_mem w5) rfl args, ⟨hmh1, hmh2⟩, (fun sig h9 => c2 sig (by rw [hds]; exact h9)), hF.w (List.mem_of_getElem? hk0) rfl args, hF.w (List.mem_of_getElem? hk1) rfl args, hdecl, hF.w (xwI_mem w3) rfl args, hF.w (xwI_mem w4) rfl args⟩
      ⟨xblind, ⟨cell, e2, e3, e4⟩, fun U hU hW => ⟨by rw [List.map_cons, e1], hF.warm hW, by rw [hU]; exact hR⟩⟩ rfl hlen hz9 (xsplitV hdr e1) hW8 hd hf) hn hm hlo hl hz9 kk
  · cases hck
theorem xcall_init {pc d' nx na mj idx a : Nat} {ps : List Nat} {L st r9 : List Value} {h h1 : xH} {r : Option Value} (C : XC p s m meth c B0 ev ext D cA mi) (hd : decode (xmt mi).1.2.1 pc = .ok (.invokespecial idx, 3)) (hnx : nx = pc + 3)
    (hin : (xmt mj).1.1.name = "<init>") (hck : (xlinkI ps (xmt mi).1.1.cls idx (xmt mj).1.1 && (xwI ps 1 (.instanceMethod (xmt mj).1.1) && (xwI ps 2 (.initialized (xmt mj).1.1.cls) && xcalI (xmt mj) na (xcod ps 3 (xmt mj) && decide ((xmt mj).1.2.2.2 = none))))) = true) (hdr : st.drop na = .ref a :: r9)
    (hcat : xcat r9 ≤ 8) (hM : xMet l B0 ev ext D cA d' mj (.ref a :: (st.take na).reverse) h r h1) (hr : h1.length - n0 ≤ R.cells ∧ 1100 * (h1.length - n0) ≤ R.slots) (hn : n0 ≤ h.length) (hm : h.length ≤ h1.length) (hdp : d' + 1 ≤ R.frames ∧ 35 * (d' + 1) ≤ R.locals)
    (kk : xG p l e R s m args below meth c B0 ev D cA n0 Q nx L (r.toList ++ r9) h1) : xG p l e R s m args below meth c B0 ev D cA n0 Q pc L st h := by
  obtain ⟨hx, hb, hml, hown, hnm, hF, hz0, hs0, hev⟩ := id C
  subst hnx
  rw [Bool.and_eq_true, Bool.and_eq_true, Bool.and_eq_true] at hck
  obtain ⟨hl0, w1, w2, hcal⟩ := hck
  obtain ⟨c1, c2, c3, c4, c5⟩ := xcal_of hcal
  rw [Bool.and_eq_true] at c5
  have hret : (xmt mj).1.2.2.2 = none := of_decide_eq_true c5.2
  have hcw := xwI_mem (show xwI ps 3 (.code (xmt mj).1.1 (xmt mj).1.2.1 (xmt mj).1.2.2.1 (xmt mj).1.2.2.2) = true from c5.1)
  intro H locs ls hR hlo hl hz9
  have hf : h.length - n0 + (h1.length - h.length) ≤ R.cells ∧ 1100 * (h.length - n0) + 1100 * (h1.length - h.length) ≤ R.slots := ⟨by omega, by omega⟩
  have hlen : ((st.take na).reverse.map (xv B0.size ev)).length = na := by rw [List.length_map, List.length_reverse]; exact xlenV hdr
  have hW8 : 2 * (F0 m pc ls (st.map (xv B0.size ev))).monitorRoom + ((r9.map (xv B0.size ev)).map fun v => v.category).sum ≤ 8 := by
    rw [xcat_map hev]
    show 2 * 0 + xcat r9 ≤ 8
    omega
  have hM' := hM
  unfold xMet at hM'
  have hp := xpay hF hcw
  have hc0 : (Jvm.Cond.code (xmt mj).1.1 (xmt mj).1.2.1 (xmt mj).1.2.2.1 (xmt mj).1.2.2.2).before args s = true := hF.w hcw rfl args
  rw [hret] at hM' hp hc0
  have hPre : PreS s H (fun a9 U => a9 = ((Value.ref a :: (st.take na).reverse).map (xv B0.size ev)).toArray ∧ XF B0 ev ext D cA U ∧ xR D cA B0 ev h U.heap) (Value.ref (B0.size + a) :: (st.take na).reverse.map (xv B0.size ev)) := ⟨xblind, fun U hU hW => ⟨rfl, hF.warm hW, by rw [hU]; exact hR⟩⟩
  rcases xlink_of hl0 with hl1 | hl1
  · exact xcall_go (va_runI (Ts := []) ⟨hx, hb, rfl, hown, fun _ h9 => absurd h9 List.not_mem_nil⟩ hM' ⟨⟨rfl, rfl, hdp.1, (by show 8 + ((xmt mj).1.2.2.1 + 11) + 35 * d' ≤ R.locals; omega), hp, List.mem_singleton.mpr rfl, hc0, hF.w (xwI_mem w2) rfl args, c1, c2, hF.w hl1 rfl args⟩, hin, hF.w (xwI_mem w1) rfl args⟩ hPre rfl hlen hz9 (xsplitV (f := xv B0.size ev) hdr rfl) hW8 hd hf) hn hm hlo hl hz9 kk
  · exact xcall_go (va_runIN (Ts := []) ⟨hx, hb, rfl, hown, fun _ h9 => absurd h9 List.not_mem_nil⟩ hM' ⟨⟨⟨rfl, rfl, hdp.1, (by show 8 + ((xmt mj).1.2.2.1 + 11) + 35 * d' ≤ R.locals; omega), hp, List.mem_singleton.mpr rfl⟩, hc0, hF.w (xwI_mem w2) rfl args, c1, c2, hF.w hl1 rfl args⟩, hin, hF.w (xwI_mem w1) rfl args⟩ hPre rfl hlen hz9 (xsplitV (f := xv B0.size ev) hdr rfl) hW8 hd hf) hn hm hlo hl hz9 kk
end XRN
