/-! Making cells, static fields, System.arraycopy, Object.<init>. -/
theorem xdef_int (t : Nat) (h1 : 19 < t) (h2 : t < 23) : defaultValue (xaty t) = .int 0 := by
  have : t = 20 ∨ t = 21 ∨ t = 22 := by omega
  rcases this with rfl | rfl | rfl <;> rfl
theorem xcls_at {B0 : Heap} {ev : Nat → Value} {ext : List xC} {D : va_G} {cA : Nat → ClassId} {s : State} (hF : XF B0 ev ext D cA s) {t : Nat} (h1 : 19 < t) (h2 : t < 27) : va_RA s (cA t) (xaty t) := (hF.2.1.2 _ _ (xtys_at cA h1 h2)).2
theorem xgetR {n : Nat} {v : Value} {j : Nat} (h : j < n) : (List.replicate n v).getD j .null = v := by
  rw [List.getD_eq_getElem?_getD, List.getElem?_replicate, if_pos h]
  rfl
theorem xarrV_eq (cI : ClassId) (n : Nat) {f g : Nat → Value} (h : ∀ j, j < n → f j = g j) : arrV cI n f = arrV cI n g := by
  unfold arrV
  congr 1
  apply Array.ext_getElem?
  intro i
  by_cases hi : i < n
  · simp [hi, h i hi]
  · simp [hi]
theorem xcopy_get {f g : List Value} {sp dp n : Nat} (h1 : sp + n ≤ f.length) (h2 : dp + n ≤ g.length) (j : Nat) : (xcopy f g sp dp n).getD j .null = va_cpy (fun j => f.getD j .null) (fun j => g.getD j .null) sp dp n j := by
  unfold xcopy va_cpy
  have e1 : (g.take dp).length = dp := by rw [List.length_take]; omega
  have e2 : ((f.drop sp).take n).length = n := by rw [List.length_take, List.length_drop]; omega
  rw [List.getD_eq_getElem?_getD]
  by_cases hj : j < dp
  · rw [List.getElem?_append_left (by rw [e1]; exact hj), if_neg (by omega), List.getElem?_take, if_pos hj]
    exact (List.getD_eq_getElem?_getD ..).symm
  · rw [List.getElem?_append_right (by rw [e1]; omega), e1]
    by_cases hj2 : j < dp + n
    · rw [List.getElem?_append_left (by rw [e2]; omega), if_pos (by omega), List.getElem?_take, if_pos (by omega), List.getElem?_drop]
      exact (List.getD_eq_getElem?_getD ..).symm
    · rw [List.getElem?_append_right (by rw [e2]; omega), e2, if_neg (by omega), List.getElem?_drop, show dp + n + (j - dp - n) = j by omega]
      exact (List.getD_eq_getElem?_getD ..).symm
theorem xcopy_len {f g : List Value} {sp dp n : Nat} (h1 : sp + n ≤ f.length) (h2 : dp + n ≤ g.length) : (xcopy f g sp dp n).length = g.length := by
  unfold xcopy
  rw [List.length_append, List.length_append, List.length_take, List.length_take, List.length_drop, List.length_drop]
  omega
section XST
variable {p : Program} {l : Launch} {e : Env} {R : Room} {s : State} {m : MethodId} {args : Array Value} {below : List Frame} {meth : Method} {c : Code} {Q : State → Prop}
variable {B0 : Heap} {ev : Nat → Value} {ext : List xC} {D : va_G} {cA : Nat → ClassId} {mi n0 : Nat}
theorem xS_new {pc d nx : Nat} {info ps : List Nat} {L st : List Value} {h : xH} {w : Nat × List Value × List Value × xH} {idx : Nat} (C : XC p s m meth c B0 ev ext D cA mi) (hq : xchk (xmt mi) (pc, (.new idx), nx, info) ps = true) (hs : xs ext d (.new idx) nx info L st h = some w)
    (hr : w.2.2.2.length - n0 ≤ R.cells ∧ 1100 * (w.2.2.2.length - n0) ≤ R.slots) (hn : n0 ≤ h.length) (hdp : d ≤ R.frames ∧ 35 * d ≤ R.locals) (kk : xG p l e R s m args below meth c B0 ev D cA n0 Q w.1 w.2.1 w.2.2.1 w.2.2.2) : xG p l e R s m args below meth c B0 ev D cA n0 Q pc L st h := by
  obtain ⟨hx, hb, hml, hown, hnm, hF, hz0, hs0, hev⟩ := id C
  obtain ⟨hd, rfl, hck⟩ := xchk_len 3 hq (fun n9 h9 => Nat.eq_of_beq_eq_true h9)
  rw [xs_new] at hs
  split at hs
  · rename_i ci
    obtain ⟨h', ha, hs⟩ := Option.bind_eq_some_iff.mp hs
    obtain rfl := xyes hs
    obtain ⟨hl5, hl11, rfl⟩ := xadd_of ha
    have hck' : (match xcl[ci]? with
      | some c => decide (xnf ci = c.2.2) && (xwI ps 0 (.classLink (xmt mi).1.1.cls idx c.1) && (xwI ps 1 (.instantiable c.1 c.2.2) && xwI ps 2 (.initialized c.1)))
      | none => false) = true := hck
    split at hck'
    · rename_i r9 hr9
      rw [Bool.and_eq_true, Bool.and_eq_true, Bool.and_eq_true] at hck'
      obtain ⟨hnf, w0, w1, w2⟩ := hck'
      have hnf := of_decide_eq_true hnf
      have hKn := hF.2.1.1 ci r9 hr9
      have hm : r9 ∈ xcl := List.mem_of_getElem? hr9
      have hts : ∀ w ∈ u_ws r9.1 r9.2.1 r9.2.2, w.before args s = true := fun w hw => hF.w (xlays r9 hm w hw).1 (xlays r9 hm w hw).2 args
      have elen : (h ++ [((ci, (List.range (xnf ci)).map fun k => defaultValue (xfty ci k)) : xC)]).length - n0 = h.length - n0 + 1 := by
        rw [List.length_append, List.length_singleton]
        omega
      simp only [elen] at hr kk
      have hN : r9.2.2 ≤ 1100 := by
        have : (List.map (fun k => defaultValue (xfty ci k)) (List.range (xnf ci))).length ≤ 1100 := hl11
        rw [List.length_map, List.length_range, hnf] at this
        exact this
      intro H locs ls hR hlo hl hz9
      refine W.newcK hx hb hown (hF.w (xwI_mem w0) rfl args) (hF.w (xwI_mem w1) rfl args) (hF.w (xwI_mem w2) rfl args) rfl hd hr.1 (by have := hr.2; omega) hKn.2.1 rfl fun H1 kC hkC e1 z1 o1 => ?_
      have hR1 : xR D cA B0 ev (h ++ [((ci, (List.range (xnf ci)).map fun k => defaultValue (xfty ci k)) : xC)]) H1 := by
        refine hR.push z1 o1 ?_
        unfold xat
        rw [if_pos (show ci < 20 by have := xcl_lt hr9; omega)]
        refine ⟨r9, hr9, (u_born (xfty ci) hts (fun _ h9 => h9) hKn hkC e1 (xnmty ci r9 hr9).2).to (fun j hj => ?_)⟩
        have e8 : ((List.range (xnf ci)).map fun k => defaultValue (xfty ci k)).getD j .null = defaultValue (xfty ci j) := by
          refine xgetD ?_
          rw [List.getElem?_map, List.getElem?_range (by omega)]
          rfl
        show defaultValue (xfty ci j) = xv B0.size ev (((List.range (xnf ci)).map fun k => defaultValue (xfty ci k)).getD j .null)
        rw [e8]
        cases xfty ci j <;> rfl
      have k9 := kk H1 locs ls hR1 hlo hl hz9
      rw [List.map_cons] at k9
      have e7 : xv B0.size ev (.ref h.length) = .ref H.size := by rw [hR.1]; rfl
      rw [e7] at k9
      simp only [elen] at k9
      exact W.widen (Nat.le_refl _) (by omega) k9
    · cases hck'
  · exact xno hs
theorem xS_newarray {pc d nx : Nat} {info ps : List Nat} {L st : List Value} {h : xH} {w : Nat × List Value × List Value × xH} {at9 : ArrayType} (C : XC p s m meth c B0 ev ext D cA mi) (hq : xchk (xmt mi) (pc, (.newarray at9), nx, info) ps = true) (hs : xs ext d (.newarray at9) nx info L st h = some w)
    (hr : w.2.2.2.length - n0 ≤ R.cells ∧ 1100 * (w.2.2.2.length - n0) ≤ R.slots) (hn : n0 ≤ h.length) (hdp : d ≤ R.frames ∧ 35 * d ≤ R.locals) (kk : xG p l e R s m args below meth c B0 ev D cA n0 Q w.1 w.2.1 w.2.2.1 w.2.2.2) : xG p l e R s m args below meth c B0 ev D cA n0 Q pc L st h := by
  obtain ⟨hx, hb, hml, hown, hnm, hF, hz0, hs0, hev⟩ := id C
  obtain ⟨hd, rfl, hck⟩ := xchk_len 2 hq (fun n9 h9 => Nat.eq_of_beq_eq_true h9)
  rw [xs_newarray] at hs
  split at hs
  · rename_i t n r
    by_cases hn0 : n < 0
    · rw [if_pos hn0] at hs
      exact xno hs
    · rw [if_neg hn0] at hs
      obtain ⟨h', ha, hs⟩ := Option.bind_eq_some_iff.mp hs
      obtain rfl := xyes hs
      obtain ⟨hl5, hl11, rfl⟩ := xadd_of ha
      have hck' : (decide (19 < t ∧ t < 23) && (decide (newarray.typeOf at9 = xaty t) && xwI ps 0 (.arrayClass (xaty t)))) = true := hck
      rw [Bool.and_eq_true, Bool.and_eq_true] at hck'
      obtain ⟨ht, hty, w0⟩ := hck'
      have ht := of_decide_eq_true ht
      have hty := of_decide_eq_true hty
      have elen : (h ++ [((t, List.replicate n.toNatClampNeg (.int 0)) : xC)]).length - n0 = h.length - n0 + 1 := by
        rw [List.length_append, List.length_singleton]
        omega
      simp only [elen] at hr kk
      have hN : n.toNatClampNeg ≤ 1100 := by
        have : (List.replicate n.toNatClampNeg (Value.int 0)).length ≤ 1100 := hl11
        rw [List.length_replicate] at this
        exact this
      have hw0 : (Jvm.Cond.arrayClass (newarray.typeOf at9)).before args s = true := by rw [hty]; exact hF.w (xwI_mem w0) rfl args
      intro H locs ls hR hlo hl hz9
      refine va_newaK hx hb hw0 rfl hd rfl hn0 rfl ?_ hr.1 (by have := hr.2; omega) rfl fun H1 cA9 e1 z1 o1 hAr hNm => ?_
      · have hcb : componentBytes (newarray.typeOf at9) ≤ 8 := by cases at9 <;> decide
        have := Nat.mul_le_mul hN hcb
        omega
      · have hcA : cA9 = cA t := by
          have h9 : va_RA s (cA t) (xaty t) := xcls_at hF (by omega) (by omega)
          have h8 : s.vm.findClass ("[" ++ (xaty t).toString) = some (cA t) := by
            have : t = 20 ∨ t = 21 ∨ t = 22 := by omega
            rcases this with rfl | rfl | rfl <;> exact h9
          rw [hty] at hNm
          exact Option.some.inj (hNm.symm.trans h8)
        subst hcA
        have hR1 : xR D cA B0 ev (h ++ [((t, List.replicate n.toNatClampNeg (.int 0)) : xC)]) H1 := by
          refine hR.push z1 o1 ?_
          unfold xat
          rw [if_neg (show ¬ t < 20 by omega)]
          refine ⟨(show t < 27 by omega), ?_⟩
          rw [e1, hty, xdef_int t ht.1 ht.2]
          show some _ = some (arrV (cA t) (List.replicate n.toNatClampNeg (Value.int 0)).length (fun j => xv B0.size ev ((List.replicate n.toNatClampNeg (Value.int 0)).getD j .null)))
          rw [List.length_replicate]
          refine congrArg some (xarrV_eq _ _ (fun j hj => ?_))
          rw [xgetR hj]
          rfl
        have k9 := kk H1 locs ls hR1 hlo hl hz9
        rw [List.map_cons] at k9
        have e7 : xv B0.size ev (.ref h.length) = .ref H.size := by rw [hR.1]; rfl
        rw [e7] at k9
        simp only [elen] at k9
        exact W.widen (Nat.le_refl _) (by omega) k9
  · exact xno hs
theorem xS_anewarray {pc d nx : Nat} {info ps : List Nat} {L st : List Value} {h : xH} {w : Nat × List Value × List Value × xH} {idx : Nat} (C : XC p s m meth c B0 ev ext D cA mi) (hq : xchk (xmt mi) (pc, (.anewarray idx), nx, info) ps = true) (hs : xs ext d (.anewarray idx) nx info L st h = some w)
    (hr : w.2.2.2.length - n0 ≤ R.cells ∧ 1100 * (w.2.2.2.length - n0) ≤ R.slots) (hn : n0 ≤ h.length) (hdp : d ≤ R.frames ∧ 35 * d ≤ R.locals) (kk : xG p l e R s m args below meth c B0 ev D cA n0 Q w.1 w.2.1 w.2.2.1 w.2.2.2) : xG p l e R s m args below meth c B0 ev D cA n0 Q pc L st h := by
  obtain ⟨hx, hb, hml, hown, hnm, hF, hz0, hs0, hev⟩ := id C
  obtain ⟨hd, rfl, hck⟩ := xchk_len 3 hq (fun n9 h9 => Nat.eq_of_beq_eq_true h9)
  rw [xs_anewarray] at hs
  split at hs
  · rename_i t n r
    by_cases hn0 : n < 0
    · rw [if_pos hn0] at hs
      exact xno hs
    · rw [if_neg hn0] at hs
      obtain ⟨h', ha, hs⟩ := Option.bind_eq_some_iff.mp hs
      obtain rfl := xyes hs
      obtain ⟨hl5, hl11, rfl⟩ := xadd_of ha
      have hck' : (decide (22 < t ∧ t < 26) && (match xaty t with
        | .object c => xwI ps 0 (.classLink (xmt mi).1.1.cls idx c) && xwI ps 1 (.arrayOver (.object c))
        | _ => false)) = true := hck
      rw [Bool.and_eq_true] at hck'
      obtain ⟨ht, hck'⟩ := hck'
      have ht := of_decide_eq_true ht
      have elen : (h ++ [((t, List.replicate n.toNatClampNeg .null) : xC)]).length - n0 = h.length - n0 + 1 := by
        rw [List.length_append, List.length_singleton]
        omega
      simp only [elen] at hr kk
      have hN : n.toNatClampNeg ≤ 1100 := by
        have : (List.replicate n.toNatClampNeg Value.null).length ≤ 1100 := hl11
        rw [List.length_replicate] at this
        exact this
      split at hck'
      · rename_i E hE
        rw [Bool.and_eq_true] at hck'
        have hov : (Jvm.Cond.arrayOver (.object E)).before args s = true := by
          have := hF.2.2.1 t (by omega) (by omega)
          rw [hE] at this
          exact xAO_use this
        have hRA : va_RA s (cA t) (xaty t) := xcls_at hF (by omega) (by omega)
        rw [hE] at hRA
        obtain ⟨kA9, comp9, -, -, -, hnm9⟩ := hRA
        intro H locs ls hR hlo hl hz9
        refine W.anew hx hb hown (hF.w (xwI_mem hck'.1) rfl args) hov rfl hd rfl hn0 (by omega) hr.1 (by have := hr.2; omega) fun cA9 kA comp f1 f2 f3 f4 => ?_
        have hcA : cA9 = cA t := Option.some.inj (f1.symm.trans hnm9)
        subst hcA
        have hR1 : xR D cA B0 ev (h ++ [((t, List.replicate n.toNatClampNeg .null) : xC)]) (H.push { cls := cA t, slots := Array.replicate n.toNatClampNeg .null, vm := .none }) := by
          refine hR.push (by rw [Array.size_push]) (fun q hq => by rw [Array.getElem?_push, if_neg (by omega)]) ?_
          unfold xat
          rw [if_neg (show ¬ t < 20 by omega)]
          refine ⟨(show t < 27 by omega), ?_⟩
          rw [Array.getElem?_push_size, arrV_new]
          show some _ = some (arrV (cA t) (List.replicate n.toNatClampNeg Value.null).length (fun j => xv B0.size ev ((List.replicate n.toNatClampNeg Value.null).getD j .null)))
          rw [List.length_replicate]
          refine congrArg some (xarrV_eq _ _ (fun j hj => ?_))
          rw [xgetR hj]
          rfl
        have k9 := kk _ locs ls hR1 hlo hl hz9
        rw [List.map_cons] at k9
        have e7 : xv B0.size ev (.ref h.length) = .ref H.size := by rw [hR.1]; rfl
        rw [e7] at k9
        simp only [elen] at k9
        exact W.widen (Nat.le_refl _) (by omega) k9
      · cases hck'
  · exact xno hs
theorem xS_multianewarray {pc d nx : Nat} {info ps : List Nat} {L st : List Value} {h : xH} {w : Nat × List Value × List Value × xH} {idx dm : Nat} (C : XC p s m meth c B0 ev ext D cA mi) (hq : xchk (xmt mi) (pc, (.multianewarray idx dm), nx, info) ps = true) (hs : xs ext d (.multianewarray idx dm) nx info L st h = some w)
    (hr : w.2.2.2.length - n0 ≤ R.cells ∧ 1100 * (w.2.2.2.length - n0) ≤ R.slots) (hn : n0 ≤ h.length) (hdp : d ≤ R.frames ∧ 35 * d ≤ R.locals) (kk : xG p l e R s m args below meth c B0 ev D cA n0 Q w.1 w.2.1 w.2.2.1 w.2.2.2) : xG p l e R s m args below meth c B0 ev D cA n0 Q pc L st h := by
  obtain ⟨hx, hb, hml, hown, hnm, hF, hz0, hs0, hev⟩ := id C
  obtain ⟨hd, rfl, hck⟩ := xchk_len 4 hq (fun n9 h9 => Nat.eq_of_beq_eq_true h9)
  rw [xs_multianewarray] at hs
  split at hs
  · rename_i k n r
    by_cases hb9 : n < 0 ∨ k < 0 ∨ 1100 < n.toNatClampNeg ∨ 1100 < k.toNatClampNeg ∨ 5000 < h.length + n.toNatClampNeg
    · rw [if_pos hb9] at hs
      exact xno hs
    · rw [if_neg hb9] at hs
      obtain rfl := xyes hs
      have hn0 : ¬ n < 0 := fun q => hb9 (Or.inl q)
      have hk0 : ¬ k < 0 := fun q => hb9 (Or.inr (Or.inl q))
      have hn1 : n.toNatClampNeg ≤ 1100 := Nat.not_lt.mp fun q => hb9 (Or.inr (Or.inr (Or.inl q)))
      have hk1 : k.toNatClampNeg ≤ 1100 := Nat.not_lt.mp fun q => hb9 (Or.inr (Or.inr (Or.inr (Or.inl q))))
      have hck' : (decide (dm = 2) && (xwI ps 0 (.classLink (xmt mi).1.1.cls idx "[[I") && (xwI ps 1 (.arrayOver (.array .int)) && xwI ps 2 (.arrayClass .int)))) = true := hck
      rw [Bool.and_eq_true, Bool.and_eq_true, Bool.and_eq_true] at hck'
      obtain ⟨hdm, w0, w1, w2⟩ := hck'
      obtain rfl := of_decide_eq_true hdm
      generalize hN : n.toNatClampNeg = N at *
      generalize hK : k.toNatClampNeg = K at *
      have elen : (h ++ (((26, (List.range N).map fun i => .ref (h.length + 1 + i)) : xC) :: List.replicate N (20, List.replicate K (.int 0)))).length - n0 = h.length - n0 + 1 + N := by
        rw [List.length_append, List.length_cons, List.length_replicate]
        omega
      simp only [elen] at hr kk
      have hov : (Jvm.Cond.arrayOver (.array .int)).before args s = true := xAO_use (hF.2.2.1 26 (by omega) (by omega))
      have hA26 : s.vm.findClass ("[" ++ (FieldType.array .int).toString) = some (cA 26) := xcls_at hF (t := 26) (by omega) (by omega)
      have hA20 : s.vm.findClass (FieldType.array .int).toString = some (cA 20) := xcls_at hF (t := 20) (by omega) (by omega)
      have hm : N * K ≤ N * 1100 := Nat.mul_le_mul_left N hk1
      intro H locs ls hR hlo hl hz9
      refine xr_mna hx hb hown (hF.w (xwI_mem w0) rfl args) hov (hF.w (xwI_mem w2) rfl args) hn0 hk0 hN hK hn1 hk1 (by have := hr.1; omega) (by have := hr.2; omega) hd fun cA9 comp9 H1 f1 f2 z1 o1 e1 e2 => ?_
      have hc1 : cA9 = cA 26 := Option.some.inj (f1.symm.trans hA26)
      have hc2 : comp9 = cA 20 := Option.some.inj (f2.symm.trans hA20)
      subst hc1
      subst hc2
      have hs9 := hR.1
      have hR1 : xR D cA B0 ev (h ++ (((26, (List.range N).map fun i => .ref (h.length + 1 + i)) : xC) :: List.replicate N (20, List.replicate K (.int 0)))) H1 := by
        refine ⟨by rw [z1, hs9, List.length_append, List.length_cons, List.length_replicate]; omega, fun q hq => by rw [o1 q (by omega)]; exact hR.2.1 q hq, fun j d9 hj => ?_⟩
        by_cases hj1 : j < h.length
        · rw [List.getElem?_append_left hj1] at hj
          exact (hR.2.2 j d9 hj).kept (o1 _ (by omega))
        · rw [List.getElem?_append_right (by omega)] at hj
          by_cases hj2 : j = h.length
          · subst hj2
            rw [Nat.sub_self] at hj
            cases hj
            unfold xat
            rw [if_neg (show ¬ (26 : Nat) < 20 by omega), show B0.size + h.length = H.size by omega]
            refine ⟨(show (26 : Nat) < 27 by omega), ?_⟩
            rw [e1]
            show some _ = some (arrV (cA 26) ((List.range N).map fun i => Value.ref (h.length + 1 + i)).length (fun j => xv B0.size ev (((List.range N).map fun i => Value.ref (h.length + 1 + i)).getD j .null)))
            rw [List.length_map, List.length_range]
            refine congrArg some (xarrV_eq _ _ (fun i hi => ?_))
            have e8 : ((List.range N).map fun i => Value.ref (h.length + 1 + i)).getD i .null = .ref (h.length + 1 + i) := by
              refine xgetD ?_
              rw [List.getElem?_map, List.getElem?_range hi]
              rfl
            rw [e8, if_pos hi]
            show Value.ref (H.size + 1 + i) = Value.ref (B0.size + (h.length + 1 + i))
            have e6 : H.size + 1 + i = B0.size + (h.length + 1 + i) := by omega
            rw [e6]
          · obtain ⟨i, hi⟩ : ∃ i, j = h.length + 1 + i := ⟨j - h.length - 1, by omega⟩
            subst hi
            rw [show h.length + 1 + i - h.length = i + 1 by omega, List.getElem?_cons_succ, List.getElem?_replicate] at hj
            split at hj
            · rename_i hi9
              cases hj
              unfold xat
              rw [if_neg (show ¬ (20 : Nat) < 20 by omega), show B0.size + (h.length + 1 + i) = H.size + 1 + i by omega]
              refine ⟨(show (20 : Nat) < 27 by omega), ?_⟩
              rw [e2 i hi9]
              show some _ = some (arrV (cA 20) (List.replicate K (Value.int 0)).length (fun j => xv B0.size ev ((List.replicate K (Value.int 0)).getD j .null)))
              rw [List.length_replicate]
              refine congrArg some (xarrV_eq _ _ (fun j hj => ?_))
              rw [xgetR hj]
              rfl
            · exact xno hj
      have k9 := kk H1 locs ls hR1 hlo hl hz9
      rw [List.map_cons] at k9
      have e7 : xv B0.size ev (.ref h.length) = .ref H.size := by rw [hR.1]; rfl
      rw [e7] at k9
      simp only [elen] at k9
      exact W.widen (Nat.le_refl _) (by omega) k9
  · exact xno hs
theorem xS_getstatic {pc d nx : Nat} {info ps : List Nat} {L st : List Value} {h : xH} {w : Nat × List Value × List Value × xH} {idx : Nat} (C : XC p s m meth c B0 ev ext D cA mi) (hq : xchk (xmt mi) (pc, (.getstatic idx), nx, info) ps = true) (hs : xs ext d (.getstatic idx) nx info L st h = some w)
    (hr : w.2.2.2.length - n0 ≤ R.cells ∧ 1100 * (w.2.2.2.length - n0) ≤ R.slots) (hn : n0 ≤ h.length) (hdp : d ≤ R.frames ∧ 35 * d ≤ R.locals) (kk : xG p l e R s m args below meth c B0 ev D cA n0 Q w.1 w.2.1 w.2.2.1 w.2.2.2) : xG p l e R s m args below meth c B0 ev D cA n0 Q pc L st h := by
  obtain ⟨hx, hb, hml, hown, hnm, hF, hz0, hs0, hev⟩ := id C
  obtain ⟨hd, rfl, hck⟩ := xchk_len 3 hq (fun n9 h9 => Nat.eq_of_beq_eq_true h9)
  rw [xs_getstatic] at hs
  have hA : ∀ {H : Heap} {locs : List Loc} {h : xH}, xR D cA B0 ev h H → (∀ q ∈ locs, B0.size ≤ q.base) → s.heap.size ≤ H.size → va_S (fun q => B0.size ≤ q) s.heap H locs := fun hR hlo hz => ⟨hz, fun q _ h2 => (hR.2.1 q (Nat.not_le.mp h2)).trans (hs0 q (Nat.not_le.mp h2)).symm, hlo⟩
  have hkZ : ∀ {Cn nm ds : String} {v : Value}, va_Z Cn nm ds v (fun q => B0.size ≤ q) s B0 → ∀ {H : Heap} {h : xH}, xR D cA B0 ev h H → ∃ (cf : ClassId) (kf : Class) (fi : Nat) (f : Field) (a : Nat) (cell : Cell), s.fieldFound? Cn nm ds = some (cf, kf, fi, f) ∧ f.isStatic = true ∧ kf.init = .initialized ∧ kf.statics = some a ∧ H[a]? = some cell ∧ cell.vm.isStatics = true ∧ cell.slots[f.slot]? = some v := fun {_ _ _ _} hZ {_ _} hR => by
    obtain ⟨cf, kf, fi, f, a, cell, h1, h2, h3, h4, h5, h6, h7, h8⟩ := hZ
    exact ⟨cf, kf, fi, f, a, cell, h1, h2, h3, h4, by rw [hR.2.1 a (Nat.not_le.mp h8)]; exact h5, h6, h7⟩
  split at hs
  · obtain rfl := xyes hs
    intro H locs ls hR hlo hl hz9
    obtain ⟨cf, kf, fi, f, a, cell, h1, h2, h3, h4, h5, h6, h7⟩ := hkZ hF.2.2.2.2.1 (h := h) hR
    exact W.gets hx hb hown (hF.w (xwI_mem hck) rfl args) h1 h2 h3 h4 h5 (fun e9 => by rw [e9] at h6; cases h6) h7 rfl hd (kk H locs ls hR hlo hl hz9)
  · obtain rfl := xyes hs
    intro H locs ls hR hlo hl hz9
    obtain ⟨cf, kf, fi, f, a, cell, h1, h2, h3, h4, h5, h6, h7⟩ := hkZ hF.2.2.2.2.2.1 (h := h) hR
    exact W.gets hx hb hown (hF.w (xwI_mem hck) rfl args) h1 h2 h3 h4 h5 (fun e9 => by rw [e9] at h6; cases h6) h7 rfl hd (kk H locs ls hR hlo hl hz9)
  · exact xno hs
theorem xS_invokespecial {pc d nx : Nat} {info ps : List Nat} {L st : List Value} {h : xH} {w : Nat × List Value × List Value × xH} {idx : Nat} (C : XC p s m meth c B0 ev ext D cA mi) (hq : xchk (xmt mi) (pc, (.invokespecial idx), nx, info) ps = true) (hs : xs ext d (.invokespecial idx) nx info L st h = some w)
    (hr : w.2.2.2.length - n0 ≤ R.cells ∧ 1100 * (w.2.2.2.length - n0) ≤ R.slots) (hn : n0 ≤ h.length) (hdp : d ≤ R.frames ∧ 35 * d ≤ R.locals) (kk : xG p l e R s m args below meth c B0 ev D cA n0 Q w.1 w.2.1 w.2.2.1 w.2.2.2) : xG p l e R s m args below meth c B0 ev D cA n0 Q pc L st h := by
  obtain ⟨hx, hb, hml, hown, hnm, hF, hz0, hs0, hev⟩ := id C
  obtain ⟨hd, rfl, hck⟩ := xchk_len 3 hq (fun n9 h9 => Nat.eq_of_beq_eq_true h9)
  rw [xs_invokespecial] at hs
  split at hs
  · rename_i a r
    by_cases hb9 : d = 0 ∨ 8 < xcat r
    · rw [if_pos hb9] at hs
      exact xno hs
    · rw [if_neg hb9] at hs
      obtain rfl := xyes hs
      have hck' : (xwI ps 0 (.methodLink (xmt mi).1.1.cls idx Lib.objectInit) && (xwI ps 1 (.instanceMethod Lib.objectInit) && xwI ps 2 (.code Lib.objectInit ⟨#[0xb1]⟩ 1 none))) = true := hck
      rw [Bool.and_eq_true, Bool.and_eq_true] at hck'
      obtain ⟨w0, w1, w2⟩ := hck'
      intro H locs ls hR hlo hl hz9
      have hd0 : d ≠ 0 := fun q => hb9 (Or.inl q)
      have hr8 : xcat r ≤ 8 := Nat.not_lt.mp fun q => hb9 (Or.inr q)
      refine W.objInit (a := B0.size + a) (rest := r.map (xv B0.size ev)) hx hb hown (hF.w (xwI_mem w0) rfl args) (hF.w (xwI_mem w1) rfl args) (hF.w (xwI_mem w2) rfl args) rfl ?_ rfl hd (by omega) ?_ (kk H locs ls hR hlo hl hz9)
      · exact hz9
      · rw [xcat_map hev]
        show 2 * 0 + xcat r + 12 ≤ R.locals
        omega
  · exact xno hs
theorem xS_invokestatic {pc d nx : Nat} {info ps : List Nat} {L st : List Value} {h : xH} {w : Nat × List Value × List Value × xH} {idx : Nat} (C : XC p s m meth c B0 ev ext D cA mi) (hq : xchk (xmt mi) (pc, (.invokestatic idx), nx, info) ps = true) (hs : xs ext d (.invokestatic idx) nx info L st h = some w)
    (hr : w.2.2.2.length - n0 ≤ R.cells ∧ 1100 * (w.2.2.2.length - n0) ≤ R.slots) (hn : n0 ≤ h.length) (hdp : d ≤ R.frames ∧ 35 * d ≤ R.locals) (kk : xG p l e R s m args below meth c B0 ev D cA n0 Q w.1 w.2.1 w.2.2.1 w.2.2.2) : xG p l e R s m args below meth c B0 ev D cA n0 Q pc L st h := by
  obtain ⟨hx, hb, hml, hown, hnm, hF, hz0, hs0, hev⟩ := id C
  obtain ⟨hd, rfl, hck⟩ := xchk_len 3 hq (fun n9 h9 => Nat.eq_of_beq_eq_true h9)
  rw [xs_invokestatic] at hs
  split at hs
  · rename_i n dp b sp a r
    obtain ⟨ca, hga, hs⟩ := Option.bind_eq_some_iff.mp hs
    obtain ⟨cb, hgb, hs⟩ := Option.bind_eq_some_iff.mp hs
    split at hs
    · exact xno hs
    · rename_i hb9
      obtain rfl := xyes hs
      have hck' : (xwI ps 0 (.methodLink (xmt mi).1.1.cls idx arraycopyName) && (xwI ps 1 (.native arraycopyName) && (xwI ps 2 (.static arraycopyName) && xwI ps 3 (.initialized "java/lang/System")))) = true := hck
      rw [Bool.and_eq_true, Bool.and_eq_true, Bool.and_eq_true] at hck'
      obtain ⟨w0, w1, w2, w3⟩ := hck'
      simp only [not_or] at hb9
      obtain ⟨d0, d1, d2, d3, d4, d5, d6, d7, d8, d9⟩ := hb9
      have t1 : ca.1 = 20 := Decidable.not_not.mp d5
      have t2 : cb.1 = 20 := Decidable.not_not.mp d6
      have d9 : ca.2.all (xfit .int) = true := by simpa using d9
      have nn : ∀ z : Int32, ¬ z < 0 → z.toInt = (z.toNatClampNeg : Int) := by
        intro z hz
        have hz0 : (0 : Int) ≤ z.toInt := by
          have := Int32.not_lt.mp hz
          simpa using Int32.le_iff_toInt_le.mp this
        show z.toInt = ((z.toInt.toNat : Nat) : Int)
        omega
      intro H locs ls hR hlo hl hz9
      have hA := xat_ar (hR.2.2 a ca hga) (by omega)
      have hB := xat_ar (hR.2.2 b cb hgb) (by omega)
      obtain ⟨-, k0, hk0, cm0, hkk0⟩ := (hF.2.1.2 _ _ (xtys_at cA (t := ca.1) (by omega) (by omega))).1 ca.2.length (fun j => xv B0.size ev (ca.2.getD j .null))
      obtain ⟨-, k1, hk1, cm1, hkk1⟩ := (hF.2.1.2 _ _ (xtys_at cA (t := cb.1) (by omega) (by omega))).1 cb.2.length (fun j => xv B0.size ev (cb.2.getD j .null))
      have ty1 : xaty ca.1 = .int := by rw [t1]; rfl
      have ty2 : xaty cb.1 = .int := by rw [t2]; rfl
      simp only [ty1] at hkk0
      simp only [ty2] at hkk1
      intro T hT X
      obtain ⟨vm', X', step⟩ := X.arraycopy hx hown (hF.w (xwI_mem w0) rfl args) (hF.w (xwI_mem w1) rfl args) (hF.w (xwI_mem w2) rfl args) (hF.w (xwI_mem w3) rfl args) (src := B0.size + a) (dst := B0.size + b) (cs := arrV (cA ca.1) ca.2.length (fun j => xv B0.size ev (ca.2.getD j .null))) (cd := arrV (cA cb.1) cb.2.length (fun j => xv B0.size ev (cb.2.getD j .null))) (srcPos := sp) (destPos := dp) (n := n) (by rw [hT]; exact hA) (by rw [hT]; exact hB)
        (fun _ h9 => by cases h9) (fun _ h9 => by cases h9) (fun h9 => by cases h9) (fun h9 => by cases h9) hk0 hk1 hkk0 hkk1 rfl d2 d3 d4
        (by rw [nn sp d2, nn n d4, arrV_size]; omega) (by rw [nn dp d3, nn n d4, arrV_size]; omega)
        (fun vm₁ _ i hi => by
          obtain ⟨w9, hw9⟩ : ∃ w9, ca.2[sp.toNatClampNeg + i]? = some w9 := ⟨_, List.getElem?_eq_getElem (by omega)⟩
          have hx9 := List.all_eq_true.mp d9 w9 (List.mem_of_getElem? hw9)
          obtain ⟨z, rfl⟩ : ∃ z, w9 = .int z := by
            cases w9 <;> first | exact ⟨_, rfl⟩ | (exfalso; cases hx9)
          have e9 : (arrV (cA ca.1) ca.2.length (fun j => xv B0.size ev (ca.2.getD j .null))).slots.getD (sp.toNatClampNeg + i) .null = .int z := by
            rw [Array.getD_eq_getD_getElem?, arrV_read _ _ (by omega), xgetD hw9]
            rfl
          rw [e9]
          exact ⟨rfl, trivial⟩)
        (g := F0 m pc ls (List.map (xv B0.size ev) (.int n :: .int dp :: .ref b :: .int sp :: .ref a :: r))) rfl hz9 (rest := r.map (xv B0.size ev)) rfl (by rw [hb]; exact hd) (by omega) (by rw [xcat_map hev]; show 2 * 0 + xcat r + (7 + 11) ≤ R.locals; omega)
      have e1 : copied (arrV (cA ca.1) ca.2.length (fun j => xv B0.size ev (ca.2.getD j .null))) (arrV (cA cb.1) cb.2.length (fun j => xv B0.size ev (cb.2.getD j .null))) sp dp n = arrV (cA cb.1) cb.2.length (va_cpy (fun j => xv B0.size ev (ca.2.getD j .null)) (fun j => xv B0.size ev (cb.2.getD j .null)) sp.toNatClampNeg dp.toNatClampNeg n.toNatClampNeg) := va_copied (fun z => z) _ _ _ _ (by omega)
      rw [e1] at X' step
      have hlb : B0.size + b < H.size := hR.lt hgb
      have hheap : ((T.setVm vm').setCell (B0.size + b) (arrV (cA cb.1) cb.2.length (va_cpy (fun j => xv B0.size ev (ca.2.getD j .null)) (fun j => xv B0.size ev (cb.2.getD j .null)) sp.toNatClampNeg dp.toNatClampNeg n.toNatClampNeg))).heap = H.setIfInBounds (B0.size + b) (arrV (cA cb.1) cb.2.length (va_cpy (fun j => xv B0.size ev (ca.2.getD j .null)) (fun j => xv B0.size ev (cb.2.getD j .null)) sp.toNatClampNeg dp.toNatClampNeg n.toNatClampNeg)) := by rw [← hT]; rfl
      have hR1 : xR D cA B0 ev (h.set b (cb.1, xcopy ca.2 cb.2 sp.toNatClampNeg dp.toNatClampNeg n.toNatClampNeg)) (H.setIfInBounds (B0.size + b) (arrV (cA cb.1) cb.2.length (va_cpy (fun j => xv B0.size ev (ca.2.getD j .null)) (fun j => xv B0.size ev (cb.2.getD j .null)) sp.toNatClampNeg dp.toNatClampNeg n.toNatClampNeg))) := by
        refine hR.set hgb (by simp) (fun q hq => by simp [Array.getElem?_setIfInBounds, Ne.symm hq]) ?_
        unfold xat
        rw [if_neg (show ¬ cb.1 < 20 by omega)]
        refine ⟨(show cb.1 < 27 by omega), ?_⟩
        rw [Array.getElem?_setIfInBounds, if_pos rfl, if_pos hlb]
        show some _ = some (arrV (cA cb.1) (xcopy ca.2 cb.2 sp.toNatClampNeg dp.toNatClampNeg n.toNatClampNeg).length (fun j => xv B0.size ev ((xcopy ca.2 cb.2 sp.toNatClampNeg dp.toNatClampNeg n.toNatClampNeg).getD j .null)))
        rw [xcopy_len (by omega) (by omega)]
        refine congrArg some (xarrV_eq _ _ (fun j hj => ?_))
        rw [xcopy_get (by omega) (by omega)]
        unfold va_cpy
        split <;> rfl
      have k9 := kk _ (locs ++ ((arrV (cA ca.1) ca.2.length (fun j => xv B0.size ev (ca.2.getD j .null))).stretch sp.toNatClampNeg n.toNatClampNeg).zipIdx.map fun q => ⟨B0.size + b, dp.toNatClampNeg + q.2⟩) ls hR1 (fun q hq => by
        rcases List.mem_append.mp hq with h9 | h9
        · exact hlo q h9
        · obtain ⟨z, -, hz⟩ := List.mem_map.mp h9
          rw [← hz]
          exact Nat.le_add_right _ _) hl hz9
      have e8 : (h.set b (cb.1, xcopy ca.2 cb.2 sp.toNatClampNeg dp.toNatClampNeg n.toNatClampNeg)).length = h.length := List.length_set
      simp only [e8] at k9
      obtain ⟨t, a1, b1⟩ := k9 _ hheap X'
      exact ⟨t, step t a1, b1⟩
  · exact xno hs
end XST
