/-! super.m(..), and the whole: xsound. -/
theorem xsub_self (vm : Vm) (k : ClassId) : vm.isSubclass k k = true := by simp [Vm.isSubclass, Vm.isSubclassAux]
theorem xsub_up {vm : Vm} {k k2 : ClassId} {dk : Class} (h : vm.classes[k]? = some dk) (hs : dk.super = some k2) : vm.isSubclass k k2 = true := by
  have hlt : k < vm.classes.size := (Array.getElem?_eq_some_iff.mp h).1
  by_cases e : k = k2
  · subst e
    exact xsub_self vm k
  · obtain ⟨n, hn⟩ : ∃ n, vm.classes.size = n + 1 := Nat.exists_eq_add_one_of_ne_zero (Nat.ne_of_gt (Nat.lt_of_le_of_lt (Nat.zero_le _) hlt))
    cases n <;> simp [Vm.isSubclass, hn, Vm.isSubclassAux, h, hs, e]
section XSU
variable {p : Program} {l : Launch} {e : Env} {R : Room} {s : State} {m : MethodId} {args : Array Value} {below : List Frame} {meth : Method} {c : Code} {H : Heap} {locs : List Loc} {cells slots : Nat}
theorem xrunSU {x y : MethodName} {bytes cc : ByteArray} {maxL nL mc ms n index : Nat} {ret : Option FieldType} {ws : List Jvm.Cond} {rm : Room} {Pc : Array Value → State → Prop} {Qc : Array Value → State → Outcome → State → Prop} {free : Addr → Prop} {own C : String} {cC : ClassId} {b : Addr} {As rest : List Value} {g : JFrame}
    (hat : ClassAt s C cC) (hx : p.tables.exec = Jvm.exec) (hb : c.code = cc) (hml : c.maxLocals = nL) (ho : s.vm.findClass own = some m.cls) (hM : Met l y ws rm Pc Qc mc ms free)
    (hrc : rm.cells = mc) (hrs : rm.slots = ms) (hfr : rm.frames + 1 ≤ R.frames) (hlo : 8 + (maxL + 11) + rm.locals ≤ R.locals) (hws : ∀ w ∈ ws, ∀ (a' : Array Value) (U : State), s.WarmedH U.vm → w.before a' U = true) (hcw : Jvm.Cond.code y bytes maxL ret ∈ ws)
    (hlink : (Jvm.Cond.methodLink own index x).before args s = true) (hsame : (Jvm.Cond.sameMethod x.cls y.cls x.name x.desc).before args s = true) (hsup : (Jvm.Cond.superclass own x.cls).before args s = true) (hxy : x.cls = y.cls ∨ (Jvm.Cond.superclass x.cls y.cls).before args s = true) (hnm : x.name = y.name) (hds : x.desc = y.desc)
    (hinst : (Jvm.Cond.instanceMethod y).before args s = true) (hini : (Jvm.Cond.initialized y.cls).before args s = true) (hcode : (Jvm.Cond.code y bytes maxL ret).before args s = true) (hno : x.name ≠ "<init>") (hlen : ∀ sig, parseMethodDescriptor y.desc = some sig → n = sig.parameters.length)
    (hp : PreV s H C b Pc As) (hg : g.method = m) (hn : As.length = n) (hsize : g.locals.size = nL) (hstack : g.stack = As.reverse ++ .ref b :: rest) (hW : 2 * g.monitorRoom + (rest.map fun v => v.category).sum ≤ 8) (hdg : decode cc g.pc = .ok (.invokespecial index, 3)) (hf : cells + mc ≤ R.cells ∧ slots + ms ≤ R.slots) :
    va_Run p l e R s m args below meth c H locs cells slots mc ms g rest (Qc (Value.ref b :: As).toArray) (free) := by
  have hK : Back l R p e below s args y 3 8 (PreOf R mc ms Pc) (PostOf Qc mc ms free) := back_of (bytes := bytes) (maxL := maxL) (ret := ret) hM hp.1 hrc hrs hfr hlo hws hcw (fun a' U hW => word_at hW (Or.inl (by first | rfl | simp [Cond.onTables, Cond.keeps, Cond.steady])) hini)
  obtain ⟨-, ⟨cellB, hcB, hoB, hclB⟩, hPc⟩ := hp
  obtain ⟨hfc, kB, hkB, -⟩ := hat
  cases hfc.symm.trans hclB
  obtain ⟨mk, methM, hnamed, hmethM, hstM, habM⟩ := Cond.instanceMethod_spec hinst
  obtain ⟨methM', cM, hmethM', -, -, -, -, -, -, hsigM⟩ := Cond.code_spec hnamed hcode
  cases hmethM.symm.trans hmethM'
  obtain ⟨psc, dk, kp, hps, hdk, hkp, hsuper, -, -, hnid⟩ := Cond.superclass_spec ho hsup
  have hn9 : s.methodNamed? ⟨y.cls, x.name, x.desc⟩ = some mk := by rw [hnm, hds]; exact hnamed
  have hmk := findClass_of_methodNamed hnamed
  have hsub : s.vm.isSubclass psc mk.cls = true := by
    rcases hxy with hxy | hxy
    · rw [hxy] at hps
      have : psc = mk.cls := Option.some.inj (hps.symm.trans hmk)
      rw [this]
      exact xsub_self _ _
    · obtain ⟨p2, dk2, kp2, hps2, hdk2, hkp2, hsuper2, -⟩ := Cond.superclass_spec hps hxy
      have : p2 = mk.cls := Option.some.inj (hps2.symm.trans hmk)
      rw [← this]
      exact xsub_up hdk2 hsuper2
  intro T hT X
  obtain ⟨vm₁, X₁, hstep₁⟩ := X.invokespecialUp hx ho hlink hsame hn9 hmethM hstM habM hno hdk hnid hps hsuper hsub (a := b) (cell := cellB) (by rw [hT]; exact hcB)
    (fun z h => by rw [h] at hoB; cases hoB) hkB (g := g) hg (argsL := As) (rest := rest) (hn.trans (hlen _ hsigM)) hstack (by rw [hb]; exact hdg)
  obtain ⟨v, ⟨U', l2, c2, s2⟩, X', ⟨g', mk', t, L, e1, e2, hq, h1, hL, h2, h3⟩, hsteps⟩ := hK m meth c ⟨T.setVm vm₁, locs, cells, slots⟩ { g with stack := rest } (.invokespecial index) mk (Value.ref b :: As).toArray X₁ hg (hsize.trans hml.symm) (by rw [hb]; exact hdg) hW (X₁.named hnamed) ⟨hf.1, hf.2, hPc (T.setVm vm₁) hT X₁.warmed⟩
  dsimp only [Pt.U, Pt.locs, Pt.cells, Pt.slots] at X' e1 e2 h1 h2 h3 hsteps
  subst h1; subst h2; subst h3
  exact ⟨v, (T.setVm vm₁).calling g' mk' (Value.ref b :: As).toArray, t, U', L, hT, X', hL, e1, e2, hq, fun target h => hstep₁ _ (by rw [doInvoke_state]; exact hsteps.trans h)⟩
end XSU
section XSV
variable {p : Program} {l : Launch} {e : Env} {R : Room} {s : State} {m : MethodId} {args : Array Value} {below : List Frame} {meth : Method} {c : Code} {Q : State → Prop}
variable {B0 : Heap} {ev : Nat → Value} {ext : List xC} {D : va_G} {cA : Nat → ClassId} {mi n0 : Nat}
theorem xcall_super {pc d' nx na mj idx a : Nat} {ps : List Nat} {t : xC} {L st r9 : List Value} {h h1 : xH} {r : Option Value} (C : XC p s m meth c B0 ev ext D cA mi) (hd : decode (xmt mi).1.2.1 pc = .ok (.invokespecial idx, 3)) (hnx : nx = pc + 3)
    (hck : xspI (xmt mi).1.1.cls idx na (xmt mj) ps = true) (hdr : st.drop na = .ref a :: r9) (hg : h[a]? = some t) (ht : t.1 < 13)
    (hcat : xcat r9 ≤ 8) (hM : xMet l B0 ev ext D cA d' mj (.ref a :: (st.take na).reverse) h r h1) (hr : h1.length - n0 ≤ R.cells ∧ 1100 * (h1.length - n0) ≤ R.slots) (hn : n0 ≤ h.length) (hm : h.length ≤ h1.length) (hdp : d' + 1 ≤ R.frames ∧ 35 * (d' + 1) ≤ R.locals)
    (kk : xG p l e R s m args below meth c B0 ev D cA n0 Q nx L (r.toList ++ r9) h1) : xG p l e R s m args below meth c B0 ev D cA n0 Q pc L st h := by
  obtain ⟨hx, hb, hml, hown, hnm, hF, hz0, hs0, hev⟩ := id C
  subst hnx
  unfold xspI at hck
  split at hck
  · rename_i o i x hk0
    rw [Bool.and_eq_true, Bool.and_eq_true, Bool.and_eq_true, Bool.and_eq_true, Bool.and_eq_true, Bool.and_eq_true] at hck
    obtain ⟨hall, w1, w2, w3, w4, w5, hcal⟩ := hck
    obtain ⟨rfl, rfl, hxn, hxd, hxi⟩ := of_decide_eq_true hall
    obtain ⟨c1, c2, c3, c4, c5⟩ := xcal_of hcal
    have hcw := xwI_mem (show xwI ps 5 (.code (xmt mj).1.1 (xmt mj).1.2.1 (xmt mj).1.2.2.1 (xmt mj).1.2.2.2) = true from c5)
    rw [Bool.or_eq_true] at w5
    have hxy : x.cls = (xmt mj).1.1.cls ∨ (Jvm.Cond.superclass x.cls (xmt mj).1.1.cls).before args s = true := w5.imp (fun q => of_decide_eq_true q) (fun q => hF.w (xwI_mem q) rfl args)
    intro H locs ls hR hlo hl hz9
    have hf : h.length - n0 + (h1.length - h.length) ≤ R.cells ∧ 1100 * (h.length - n0) + 1100 * (h1.length - h.length) ≤ R.slots := ⟨by omega, by omega⟩
    obtain ⟨r8, h8, cell, q1, q2, q3, q4⟩ := xat_ob (hR.2.2 a t hg) (by omega)
    have hat := (hF.2.1.1 t.1 r8 h8).2
    have hlen : ((st.take na).reverse.map (xv B0.size ev)).length = na := by rw [List.length_map, List.length_reverse]; exact xlenV hdr
    have hW8 : 2 * (F0 m pc ls (st.map (xv B0.size ev))).monitorRoom + ((r9.map (xv B0.size ev)).map fun v => v.category).sum ≤ 8 := by
      rw [xcat_map hev]
      show 2 * 0 + xcat r9 ≤ 8
      omega
    exact xcall_go (xrunSU hat hx hb rfl hown hM rfl rfl hdp.1 (by show 8 + ((xmt mj).1.2.2.1 + 11) + 35 * d' ≤ R.locals; omega) (xpay hF hcw) (List.mem_singleton.mpr rfl) (hF.w (List.mem_of_getElem? hk0) rfl args) (hF.w (xwI_mem w1) rfl args) (hF.w (xwI_mem w2) rfl args) hxy hxn hxd (hF.w (xwI_mem w3) rfl args) (hF.w (xwI_mem w4) rfl args) (hF.w hcw rfl args) hxi c2
      ⟨xblind, ⟨cell, q1, by rw [q3]; rfl, by rw [q2]; exact hat.1⟩, fun U hU hW => ⟨rfl, hF.warm hW, by rw [hU]; exact hR⟩⟩ rfl hlen hz9 (xsplitV (f := xv B0.size ev) hdr rfl) hW8 hd hf) hn hm hlo hl hz9 kk
  · cases hck
/-- what a walk's end stands on: at every return instruction with that answer and those cells -/
def xEnd (p : Program) (l : Launch) (e : Env) (R : Room) (s : State) (m : MethodId) (args : Array Value) (below : List Frame) (meth : Method) (c : Code) (B0 : Heap) (ev : Nat → Value) (D : va_G) (cA : Nat → ClassId) (mi n0 : Nat) (Q : State → Prop) (r : Option Value) (hf : xH) : Prop :=
  ∀ (pc : Nat) (ins : Instr) (st : List Value) (H : Heap) (locs : List Loc) (ls : Array Slot), decode (xmt mi).1.2.1 pc = .ok (ins, 1) → xret (xmt mi).1.2.2.2 ins st = some r → xR D cA B0 ev hf H → (∀ q ∈ locs, B0.size ≤ q.base) → W p l e R s m args below meth c H locs (hf.length - n0) (1100 * (hf.length - n0)) Q (F0 m pc ls (st.map (xv B0.size ev)))
end XSV
theorem xret_len {ty : Option FieldType} {ins : Instr} {st : List Value} {r : Option Value} (h : xret ty ins st = some r) (n : Nat) (hl : xlenI ins n = true) : n = 1 := by
  unfold xret at h
  split at h
  · exact Nat.eq_of_beq_eq_true hl
  · exact Nat.eq_of_beq_eq_true hl
  · exact Nat.eq_of_beq_eq_true hl
  · exact xno h
/-- THE SMALL MACHINE IS THE MACHINE -/
theorem xsound (l : Launch) (B0 : Heap) (ev : Nat → Value) (ext : List xC) (D : va_G) (cA : Nat → ClassId) (hev : xevs ev) (hall : ∀ mi, ∀ q ∈ (xmt mi).2, ∃ ps, xchk (xmt mi) q ps = true) : ∀ (n : Nat) {p : Program} {e : Env} {R : Room} {s : State} {m : MethodId} {args : Array Value} {below : List Frame} {meth : Method} {c : Code} {Q : State → Prop} {mi n0 d pc : Nat} {L st : List Value} {h hf : xH} {r : Option Value},
    xrun ext n d mi pc L st h = some (r, hf) → XC p s m meth c B0 ev ext D cA mi → n0 ≤ h.length → (hf.length - n0 ≤ R.cells ∧ 1100 * (hf.length - n0) ≤ R.slots) → (d ≤ R.frames ∧ 35 * d ≤ R.locals) → xEnd p l e R s m args below meth c B0 ev D cA mi n0 Q r hf →
    xG p l e R s m args below meth c B0 ev D cA n0 Q pc L st h
  | 0, _, _, _, _, _, _, _, _, _, _, _, _, _, _, _, _, _, _, _, hrun, _, _, _, _, _ => xno hrun
  | n + 1, p, e, R, s, m, args, below, meth, c, Q, mi, n0, d, pc, L, st, h, hf, r, hrun, C, hn, hr, hdp, hE => by
    obtain ⟨⟨ins, nx, info⟩, hq, hcase⟩ := xrun_succ hrun
    dsimp only at hcase
    obtain ⟨ps, hps⟩ := hall mi _ (xfind_mem hq)
    rcases hcase with ⟨w, hs, hw⟩ | ⟨r', hr', e9⟩ | ⟨d', a, b, rfl, ha, hc8, hsl, h1, h2⟩
    · have hm1 := xs_mono hs
      have hm2 := xrun_mono _ _ _ _ _ _ _ _ hw
      exact xstep C hps hs ⟨by have := hr.1; have h9 : (r, hf).2.length = hf.length := rfl; omega, by have := hr.2; have h9 : (r, hf).2.length = hf.length := rfl; omega⟩ hn hdp (xsound l B0 ev ext D cA hev hall n hw C (by omega) hr hdp hE)
    · cases e9
      obtain ⟨hd, hnx, -⟩ := xchk_len 1 hps (xret_len hr')
      intro H locs ls hR hlo hl hz9
      exact hE pc ins st H locs ls hd hr' hR hlo
    · obtain ⟨rb, hb1⟩ := b
      have hm1 := xrun_mono _ _ _ _ _ _ _ _ h1
      have hm2 := xrun_mono _ _ _ _ _ _ _ _ h2
      have hm1 : h.length ≤ hb1.length := hm1
      have hm2 : hb1.length ≤ hf.length := hm2
      have kk := xsound l B0 ev ext D cA hev hall n h2 C (by show n0 ≤ hb1.length; omega) hr hdp hE
      have hr1 : hb1.length - n0 ≤ R.cells ∧ 1100 * (hb1.length - n0) ≤ R.slots := ⟨by omega, by omega⟩
      have hM : ∀ (hy : plainFor (xmt a.1).1.1 = true), xMet l B0 ev ext D cA d' a.1 a.2.1 h rb hb1 := by
        intro hy
        refine xmet_of hy rfl ?_
        intro p9 e9 s9 m9 args9 below9 meth9 c9 s1 B hml9 hv
        obtain ⟨rfl, hF9, hR9⟩ := hv
        have hx9 := B.exec
        have C9 : XC p9 s9 m9 meth9 c9 B0 ev ext D cA a.1 := ⟨B.exec, B.bytes, hml9, findClass_of_methodNamed B.named, (fun h9 => (name_of_methodNamed B.named B.method).1.trans h9), hF9, by have := hR9.1; omega, hR9.2.1, hev⟩
        have k9 := xsound l B0 ev ext D cA hev hall n (p := p9) (e := e9) (R := { frames := d', cells := hb1.length - h.length, slots := 1100 * (hb1.length - h.length), locals := 35 * d' }) (args := (a.2.1.map (xv B0.size ev)).toArray) (below := below9) (Q := MQ below9 (fun _ _ o t => o = .returned (rb.map (xv B0.size ev)) ∧ xR D cA B0 ev hb1 t.heap) (a.2.1.map (xv B0.size ev)).toArray s9 (hb1.length - h.length) (1100 * (hb1.length - h.length)) (fun q => B0.size ≤ q)) (n0 := h.length) h1 C9 (Nat.le_refl _) ⟨Nat.le_refl _, Nat.le_refl _⟩ ⟨Nat.le_refl _, Nat.le_refl _⟩ ?_
        · rw [lg_entry_eq]
          have k8 := k9 s9.heap [] _ hR9 (fun _ h9 => absurd h9 List.not_mem_nil) (xLs_entry hev hsl) (by rw [(xLs_entry (b := B0.size) hev hsl).1, hml9]; show (xent (xmax a.1) a.2.1).length = xmax a.1; unfold xent; rw [List.length_append, List.length_replicate]; omega)
          rw [Nat.sub_self] at k8
          exact k8
        · intro pc8 ins8 st8 H8 locs8 ls8 hd8 hr8 hR8 hlo8
          have hlk := B.notSynchronized
          have hret := B.returns
          unfold xret at hr8
          split at hr8
          · split at hr8
            · rename_i v8
              obtain ⟨hnar, hr8⟩ := xcond hr8
              obtain rfl := xyes hr8
              unfold xnar at hnar
              split at hnar
              · rename_i hty
                rw [hty] at hret
                exact W.iret (v := v8) B.exec B.bytes hret (fun t ht hW => ⟨rfl, by rw [ht]; exact hR8⟩) hlo8 hd8
              · rename_i hty
                rw [hty] at hret
                have hnz : narrow .boolean (.int v8) = .int v8 := by
                  rw [Bool.or_eq_true] at hnar
                  rcases hnar with q | q
                  · rw [of_decide_eq_true q]; rfl
                  · rw [of_decide_eq_true q]; rfl
                exact W.zret (v := v8) B.exec B.bytes hret hnz (fun t ht hW => ⟨rfl, by rw [ht]; exact hR8⟩) hlo8 hd8
              · rename_i hty
                rw [hty] at hret
                exact W.zret (v := v8) B.exec B.bytes hret (of_decide_eq_true hnar) (fun t ht hW => ⟨rfl, by rw [ht]; exact hR8⟩) hlo8 hd8
              · rename_i hty
                rw [hty] at hret
                exact W.zret (v := v8) B.exec B.bytes hret (of_decide_eq_true hnar) (fun t ht hW => ⟨rfl, by rw [ht]; exact hR8⟩) hlo8 hd8
              · cases hnar
            · exact xno hr8
          · split at hr8
            · rename_i v8
              obtain ⟨hnar, hr8⟩ := xcond hr8
              obtain rfl := xyes hr8
              rw [of_decide_eq_true hnar] at hret
              exact W.lret (v := v8) B.exec B.bytes hret (fun t ht hW => ⟨rfl, by rw [ht]; exact hR8⟩) hlo8 hd8
            · exact xno hr8
          · split at hr8
            · obtain ⟨hnar, hr8⟩ := xcond hr8
              obtain rfl := xyes hr8
              rw [of_decide_eq_true hnar] at hret
              exact W.vret B.exec B.bytes hret (fun t ht hW => ⟨rfl, by rw [ht]; exact hR8⟩) hlo8 hd8
            · exact xno hr8
          · exact xno hr8
      unfold xcallee at ha
      split at ha
      · rename_i idx
        split at ha
        · rename_i na mj
          split at ha
          · rename_i hna
            obtain rfl := xyes ha
            have hpf : plainFor (xmt mj).1.1 = true := by
              obtain ⟨-, -, hck⟩ := xchk_any hps
              have h9 := hck
              simp only [xchkI] at h9
              rw [Bool.and_eq_true, Bool.and_eq_true, Bool.and_eq_true] at h9
              exact (xcal_of h9.2.2.2).2.2.2.1
            exact xcall_static C hps hna hc8 (hM hpf) hr1 hn hm1 hdp kk
          · exact xno ha
        · exact xno ha
      · rename_i idx
        obtain ⟨hd, hnx, hck⟩ := xchk_len 3 hps (fun n9 h9 => Nat.eq_of_beq_eq_true h9)
        split at ha
        · rename_i na mj
          split at ha
          · rename_i a9 r9 hdr
            obtain ⟨t, hg, ha⟩ := Option.bind_eq_some_iff.mp ha
            obtain ⟨ht, ha⟩ := xcond ha
            obtain rfl := xyes ha
            have ht := Nat.blt_eq.mp ht
            have hck' : (if (xmt mj).1.1.name = "<init>" then xlinkI ps (xmt mi).1.1.cls idx (xmt mj).1.1 && (xwI ps 1 (.instanceMethod (xmt mj).1.1) && (xwI ps 2 (.initialized (xmt mj).1.1.cls) && xcalI (xmt mj) na (xcod ps 3 (xmt mj) && decide ((xmt mj).1.2.2.2 = none))))
              else xspI (xmt mi).1.1.cls idx na (xmt mj) ps) = true := by
              have h9 := hck
              simp only [xchkI] at h9
              exact h9
            by_cases hin : (xmt mj).1.1.name = "<init>"
            · rw [if_pos hin] at hck'
              have hpf : plainFor (xmt mj).1.1 = true := by
                have h9 := hck'
                rw [Bool.and_eq_true, Bool.and_eq_true, Bool.and_eq_true] at h9
                exact (xcal_of h9.2.2.2).2.2.2.1
              exact xcall_init C hd hnx hin hck' hdr hc8 (hM hpf) hr1 hn hm1 hdp kk
            · rw [if_neg hin] at hck'
              have hpf : plainFor (xmt mj).1.1 = true := by
                have h9 := hck'
                unfold xspI at h9
                split at h9
                · rw [Bool.and_eq_true, Bool.and_eq_true, Bool.and_eq_true, Bool.and_eq_true, Bool.and_eq_true, Bool.and_eq_true] at h9
                  exact (xcal_of h9.2.2.2.2.2.2).2.2.2.1
                · cases h9
              exact xcall_super C hd hnx hck' hdr hg ht hc8 (hM hpf) hr1 hn hm1 hdp kk
          · exact xno ha
        · exact xno ha
      · rename_i idx
        obtain ⟨hd, hnx, hck⟩ := xchk_len 3 hps (fun n9 h9 => Nat.eq_of_beq_eq_true h9)
        split at ha
        · rename_i na tb
          split at ha
          · rename_i v9 r9 hdr
            obtain ⟨t, hg, ha⟩ := Option.bind_eq_some_iff.mp ha
            obtain ⟨mj, hp9, ha⟩ := Option.bind_eq_some_iff.mp ha
            obtain rfl := xyes ha
            have hdis : ∀ j, xdisI (xmt mi).1.1.cls idx na ps tb j = true → xG p l e R s m args below meth c B0 ev D cA n0 Q pc L st h := by
              intro j hj
              obtain ⟨j', hj'⟩ := xdis_at hj hp9
              have hpf : plainFor (xmt mj).1.1 = true := by
                have h9 := hj'
                unfold xdisI at h9
                rw [Bool.and_eq_true] at h9
                have h9 := h9.1
                split at h9
                · rw [Bool.and_eq_true, Bool.and_eq_true, Bool.and_eq_true, Bool.and_eq_true, Bool.and_eq_true, Bool.and_eq_true] at h9
                  exact (xcal_of h9.2.2.2.2.2.2).2.2.2.1
                · cases h9
              exact xcall_dis C hd hnx hj' hdr hg rfl hc8 (hM hpf) hr1 hn hm1 hdp kk
            rcases tb with _ | ⟨ci, _ | ⟨mk, _ | ⟨x3, tb3⟩⟩⟩
            · exact xno hp9
            · exact xno hp9
            · have hck' : (xvirI (xmt mi).1.1.cls idx na ci mk ps || xdisI (xmt mi).1.1.cls idx na ps [ci, mk] 1) = true := hck
              rw [Bool.or_eq_true] at hck'
              rcases hck' with hck' | hck'
              · unfold xpairs at hp9
                obtain ⟨hbq, hp9⟩ : Nat.beq ci t.1 = true ∧ some mk = some mj := by
                  cases hbq : Nat.beq ci t.1 with
                  | true => rw [hbq] at hp9; exact ⟨rfl, hp9⟩
                  | false => rw [hbq] at hp9; exact xno hp9
                obtain rfl := xyes hp9
                have hpf : plainFor (xmt mj).1.1 = true := by
                  have h9 := hck'
                  unfold xvirI at h9
                  rw [Bool.and_eq_true, Bool.and_eq_true, Bool.and_eq_true, Bool.and_eq_true, Bool.and_eq_true] at h9
                  exact (xcal_of h9.2.2.2.2.2).2.2.2.1
                exact xcall_virt C hd hnx hck' hdr hg (Nat.eq_of_beq_eq_true hbq).symm hc8 (hM hpf) hr1 hn hm1 hdp kk
              · exact hdis 1 hck'
            · exact hdis 1 hck
          · exact xno ha
        · exact xno ha
      · exact xno ha
