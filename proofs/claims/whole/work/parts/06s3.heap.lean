/-! The small machine's instructions on cells are the machine's. -/
theorem xcond {α : Type} {b : Bool} {o : Option α} {w : α} (h : cond b o none = some w) : b = true ∧ o = some w := by
  cases b
  · exact xno h
  · exact ⟨rfl, h⟩
theorem xix_of {i : Int32} {vs : List Value} {w : Value} (h : xix i vs = some w) : ¬ i < 0 ∧ i.toNatClampNeg < vs.length ∧ vs[i.toNatClampNeg]? = some w := by
  unfold xix at h
  by_cases hi : i < 0
  · rw [if_pos hi] at h
    exact xno h
  · rw [if_neg hi] at h
    exact ⟨hi, (List.getElem?_eq_some_iff.mp h).1, h⟩
theorem xgetD {vs : List Value} {k : Nat} {w : Value} (h : vs[k]? = some w) : vs.getD k .null = w := by
  rw [List.getD_eq_getElem?_getD, h]
  rfl
theorem xcl_lt {ci : Nat} {r : vw_C} (h : xcl[ci]? = some r) : ci < 13 := (List.getElem?_eq_some_iff.mp h).1
theorem xat_ob {D : va_G} {cA : Nat → ClassId} {b : Nat} {ev : Nat → Value} {q : Nat} {c : xC} {H : Heap} (h : xat D cA b ev q c H) (hc : c.1 < 20) : ∃ r : vw_C, xcl[c.1]? = some r ∧ t_OB q (D.1 c.1) r.2.2 (D.2 c.1) H (fun k => xv b ev (c.2.getD k .null)) := by
  unfold xat at h
  rw [if_pos hc] at h
  exact h
theorem xat_ar {D : va_G} {cA : Nat → ClassId} {b : Nat} {ev : Nat → Value} {q : Nat} {c : xC} {H : Heap} (h : xat D cA b ev q c H) (hc : ¬ c.1 < 20) : H[q]? = some (arrV (cA c.1) c.2.length (fun j => xv b ev (c.2.getD j .null))) := by
  unfold xat at h
  rw [if_neg hc] at h
  exact h.2
theorem xnmty : ∀ (ci : Nat) (r : vw_C), xcl[ci]? = some r → (∀ a, a < r.2.2 → ∀ b, b < r.2.2 → a ≠ b → (r.2.1 a).2.1 ≠ (r.2.1 b).2.1) ∧ ∀ k, k < r.2.2 → parseFieldDescriptor (r.2.1 k).2.2.1 = some (xfty ci k) := by
  intro ci r h
  match ci, h with
  | 0, h => cases h; exact ⟨nmX0, tyX0_ok⟩
  | 1, h => cases h; exact ⟨nmX1, tyX1_ok⟩
  | 2, h => cases h; exact ⟨nmX2, tyX2_ok⟩
  | 3, h => cases h; exact ⟨nmX3, tyX3_ok⟩
  | 4, h => cases h; exact ⟨nmX4, tyX4_ok⟩
  | 5, h => cases h; exact ⟨nmX5, tyX5_ok⟩
  | 6, h => cases h; exact ⟨nmX6, tyX6_ok⟩
  | 7, h => cases h; exact ⟨nmX7, tyX7_ok⟩
  | 8, h => cases h; exact ⟨nmX8, tyX8_ok⟩
  | 9, h => cases h; exact ⟨nmX9, tyX9_ok⟩
  | 10, h => cases h; exact ⟨nmX10, tyX10_ok⟩
  | 11, h => cases h; exact ⟨nmX11, tyX11_ok⟩
  | 12, h => cases h; exact ⟨nmX12, tyX12_ok⟩
  | k + 13, h => cases h
theorem xv_upd {b : Nat} {ev : Nat → Value} {fs : List Value} {k : Nat} (hk : k < fs.length) (v : Value) (j : Nat) : updV (fun k => xv b ev (fs.getD k .null)) k (xv b ev v) j = xv b ev ((fs.set k v).getD j .null) := by
  unfold updV
  by_cases e : j = k
  · subst e
    rw [if_pos rfl, List.getD_eq_getElem?_getD, List.getElem?_set_self hk]
    rfl
  · rw [if_neg e]
    show xv b ev (fs.getD j .null) = _
    rw [List.getD_eq_getElem?_getD, List.getD_eq_getElem?_getD, List.getElem?_set_ne (fun q => e q.symm)]
theorem xtys_at (cA : Nat → ClassId) {t : Nat} (h1 : 19 < t) (h2 : t < 27) : (xtys cA)[t - 20]? = some (cA t, xaty t) := by
  have : t = 20 ∨ t = 21 ∨ t = 22 ∨ t = 23 ∨ t = 24 ∨ t = 25 ∨ t = 26 := by omega
  rcases this with rfl | rfl | rfl | rfl | rfl | rfl | rfl <;> rfl
theorem xfit_ok {ty : FieldType} {v : Value} {b : Nat} {ev : Nat → Value} (h : xfit ty v = true) : narrow ty (xv b ev v) = xv b ev v ∧ fits ty (xv b ev v) = true := by
  unfold xfit at h
  split at h
  · exact ⟨rfl, rfl⟩
  · exact ⟨rfl, rfl⟩
  · rw [Bool.and_eq_true] at h
    exact ⟨of_decide_eq_true h.1, h.2⟩
  · rw [Bool.and_eq_true] at h
    exact ⟨of_decide_eq_true h.1, h.2⟩
  · exact ⟨rfl, rfl⟩
  · exact ⟨rfl, rfl⟩
  · exact ⟨rfl, rfl⟩
  · exact ⟨rfl, rfl⟩
  · cases h
theorem xadd_of {h h' : xH} {c : xC} (e : xadd h c = some h') : h.length < 5000 ∧ c.2.length ≤ 1100 ∧ h' = h ++ [c] := by
  unfold xadd at e
  by_cases q : h.length < 5000 ∧ c.2.length ≤ 1100
  · rw [if_pos q] at e
    exact ⟨q.1, q.2, xyes e⟩
  · rw [if_neg q] at e
    exact xno e
theorem xcasts : ∀ c ∈ ["RentedViews$Bricks", "RentedViews$Fire", "RentedViews$Fogged", "RentedViews$Kitchen", "RentedViews$Street"], Jvm.Cond.castable c "RentedViews$Lake" ∈ lw_tbl := by decide +kernel
theorem xfield {B0 : Heap} {ev : Nat → Value} {ext : List xC} {D : va_G} {cA : Nat → ClassId} {s : State} {args : Array Value} (hF : XF B0 ev ext D cA s) {ci k : Nat} {r : vw_C} (hc : xcl[ci]? = some r) (hk : k < r.2.2) :
    ∃ (cf : Nat) (kf : Class) (fi : Nat) (f : Field) (kC : Class), s.fieldFound? (r.2.1 k).1 (r.2.1 k).2.1 (r.2.1 k).2.2.1 = some (cf, kf, fi, f) ∧ f.slot = D.2 ci k ∧ f.isStatic = false ∧ s.vm.findClass r.1 = some (D.1 ci) ∧ s.vm.classes[D.1 ci]? = some kC ∧ kC.kind = .ordinary ∧
      (∀ a b, a < r.2.2 → b < r.2.2 → a ≠ b → D.2 ci a ≠ D.2 ci b) ∧ (u_lay r.1 r.2.1 k).before args s = true := by
  have hm : r ∈ xcl := List.mem_of_getElem? hc
  have hts : ∀ w ∈ u_ws r.1 r.2.1 r.2.2, w.before args s = true := fun w hw => hF.w (xlays r hm w hw).1 (xlays r hm w hw).2 args
  have hin : ∀ w ∈ u_ws r.1 r.2.1 r.2.2, w ∈ u_ws r.1 r.2.1 r.2.2 := fun _ h => h
  obtain ⟨hS, hfc, kC, hkC, hkind⟩ := hF.2.1.1 ci r hc
  obtain ⟨cf, kf, fi, f, hi, hsl⟩ := hS k hk
  obtain ⟨hnm, hty⟩ := xnmty ci r hc
  exact ⟨cf, kf, fi, f, kC, hi, hsl, (u_facts hfc hkC (u_lays hts hin hk) hi).1, hfc, hkC, hkind, va_apart (own := r.1) hts hin (xfty ci) hty hnm hF.2.1 hc, hts _ (u_in_lay hk)⟩
theorem xarr {B0 : Heap} {ev : Nat → Value} {ext : List xC} {D : va_G} {cA : Nat → ClassId} {s : State} (hF : XF B0 ev ext D cA s) {h : xH} {H : Heap} (hR : xR D cA B0 ev h H) {v : Value} {c : xC} (hg : xget ext h v = some c) (h1 : 19 < c.1) (h2 : c.1 < 27) :
    ∃ (a : Nat) (cell : Cell), xv B0.size ev v = .ref a ∧ H[a]? = some cell ∧ s.isArrayOf cell (xaty c.1) ∧ cell.vm ≠ .unknown ∧ cell.slots.size.toInt32 = Int32.ofNat c.2.length ∧ c.2.length ≤ cell.slots.size ∧ (∀ (i : Nat) (w : Value), c.2[i]? = some w → cell.slots[i]? = some (xv B0.size ev w)) := by
  cases v with
  | ref a =>
    have hA := xat_ar (hR.2.2 a c hg) (by omega)
    refine ⟨B0.size + a, _, rfl, hA, (hF.2.1.2 _ _ (xtys_at cA h1 h2)).1 _ _, (fun q => by cases q), by rw [arrV_size], by rw [arrV_size]; exact Nat.le_refl _, fun i w hw => ?_⟩
    rw [arrV_read _ _ (List.getElem?_eq_some_iff.mp hw).1, xgetD hw]
  | retAddr j =>
    obtain ⟨a, cell, e1, e2, e3, e4⟩ := hF.2.2.2.1 j c.1 c.2 hg
    rw [if_neg (by omega)] at e4
    obtain ⟨g1, g2, g3, g4, g5, g6⟩ := e4
    exact ⟨a, cell, e1, by rw [hR.2.1 a e2]; exact e3, g2, g3, g5, g4, g6⟩
  | _ => exact xno hg
theorem xstore {B0 : Heap} {ev : Nat → Value} {D : va_G} {cA : Nat → ClassId} {h : xH} {H H' : Heap} (hR : xR D cA B0 ev h H) {a i : Nat} {c : xC} (hg : h[a]? = some c) (h1 : 19 < c.1) (hi : i < c.2.length) {v : Value}
    (e1 : H'[B0.size + a]? = some ((arrV (cA c.1) c.2.length (fun j => xv B0.size ev (c.2.getD j .null))).setSlot i (xv B0.size ev v))) (e2 : H'.size = H.size) (e3 : ∀ q : Nat, q ≠ B0.size + a → H'[q]? = H[q]?) : xR D cA B0 ev (h.set a (c.1, c.2.set i v)) H' := by
  refine hR.set hg e2 e3 ?_
  have h27 : c.1 < 27 := by
    have h9 := hR.2.2 a c hg
    unfold xat at h9
    rw [if_neg (by omega)] at h9
    exact h9.1
  unfold xat
  rw [if_neg (show ¬ c.1 < 20 by omega)]
  refine ⟨h27, ?_⟩
  rw [e1, arrV_store]
  have e9 : (c.2.set i v).length = c.2.length := List.length_set
  simp only [e9]
  refine congrArg (fun f => some (arrV (cA c.1) c.2.length f)) (funext fun j => ?_)
  exact xv_upd hi v j
theorem xlocs {B0 : Heap} {locs : List Loc} (hlo : ∀ q ∈ locs, B0.size ≤ q.base) (a i : Nat) : ∀ q ∈ locs ++ [⟨B0.size + a, i⟩], B0.size ≤ q.base := by
  intro q hq
  rcases List.mem_append.mp hq with h9 | h9
  · exact hlo q h9
  · rw [List.mem_singleton.mp h9]
    exact Nat.le_add_right _ _
theorem xlarge {B0 : Heap} {ev : Nat → Value} {ext : List xC} {D : va_G} {cA : Nat → ClassId} {s : State} (hF : XF B0 ev ext D cA s) {h : xH} {H : Heap} (hR : xR D cA B0 ev h H) {v : Value} {c : xC} (hg : xget ext h v = some c) (h1 : 19 < c.1) : c.1 < 27 := by
  cases v with
  | ref a =>
    have h9 := hR.2.2 a c hg
    unfold xat at h9
    rw [if_neg (by omega)] at h9
    exact h9.1
  | retAddr j =>
    obtain ⟨a, cell, e1, e2, e3, e4⟩ := hF.2.2.2.1 j c.1 c.2 hg
    rw [if_neg (by omega)] at e4
    omega
  | _ => exact xno hg
theorem xasg_of {t ci : Nat} (h : xasg t ci = true) : 22 < t ∧ t < 26 ∧ ci < 20 := by
  unfold xasg at h
  split at h
  · refine ⟨by omega, by omega, ?_⟩
    simp at h
    omega
  · refine ⟨by omega, by omega, ?_⟩
    simp at h
    omega
  · refine ⟨by omega, by omega, ?_⟩
    simp at h
    omega
  · cases h
theorem xasg_exact {B0 : Heap} {ev : Nat → Value} {ext : List xC} {D : va_G} {cA : Nat → ClassId} {s : State} (hF : XF B0 ev ext D cA s) {ci : Nat} {r : vw_C} (h8 : xcl[ci]? = some r) (comp : ClassId) (h : s.vm.findClass r.1 = some comp) :
    s.vm.assignable (D.1 ci) comp = true ∧ ∃ kc : Class, s.vm.classes[comp]? = some kc := by
  have hca := (hF.2.1.1 ci r h8).2
  cases hca.1.symm.trans h
  exact ⟨va_assign hca, hca.2.choose, hca.2.choose_spec.1⟩
theorem xasg_sub {B0 : Heap} {ev : Nat → Value} {ext : List xC} {D : va_G} {cA : Nat → ClassId} {s : State} (hF : XF B0 ev ext D cA s) {ci cj : Nat} {r q : vw_C} (h8 : xcl[ci]? = some r) (h7 : xcl[cj]? = some q) (hw : Jvm.Cond.castable r.1 q.1 ∈ lw_tbl) (comp : ClassId) (h : s.vm.findClass q.1 = some comp) :
    s.vm.assignable (D.1 ci) comp = true ∧ ∃ kc : Class, s.vm.classes[comp]? = some kc := by
  have hca := (hF.2.1.1 ci r h8).2
  have hcb := (hF.2.1.1 cj q h7).2
  cases hcb.1.symm.trans h
  exact ⟨vb_asgC (hF.1 _ hw rfl) _ _ h hca.1, hcb.2.choose, hcb.2.choose_spec.1⟩
theorem xassign {B0 : Heap} {ev : Nat → Value} {ext : List xC} {D : va_G} {cA : Nat → ClassId} {s : State} (hF : XF B0 ev ext D cA s) {t ci : Nat} (h : xasg t ci = true) {r : vw_C} (h8 : xcl[ci]? = some r) :
    ∃ E : String, xaty t = .object E ∧ ∀ comp : ClassId, s.vm.findClass E = some comp → s.vm.assignable (D.1 ci) comp = true ∧ ∃ kc : Class, s.vm.classes[comp]? = some kc := by
  unfold xasg at h
  split at h
  · refine ⟨_, rfl, fun comp hc => ?_⟩
    simp at h
    have h7 : xcl[7]? = some (RX7, TX7, 0) := rfl
    rcases h with ((((h | h) | h) | h) | h) | h <;> subst h <;> cases h8
    · exact xasg_sub hF (ci := 1) rfl h7 (xcasts _ (by decide)) comp hc
    · exact xasg_sub hF (ci := 3) rfl h7 (xcasts _ (by decide)) comp hc
    · exact xasg_sub hF (ci := 4) rfl h7 (xcasts _ (by decide)) comp hc
    · exact xasg_sub hF (ci := 6) rfl h7 (xcasts _ (by decide)) comp hc
    · exact xasg_exact hF (ci := 7) rfl comp hc
    · exact xasg_sub hF (ci := 10) rfl h7 (xcasts _ (by decide)) comp hc
  · refine ⟨_, rfl, fun comp hc => ?_⟩
    simp at h
    subst h
    cases h8
    exact xasg_exact hF (ci := 9) rfl comp hc
  · refine ⟨_, rfl, fun comp hc => ?_⟩
    simp at h
    subst h
    cases h8
    exact xasg_exact hF (ci := 0) rfl comp hc
  · cases h
section XST
variable {p : Program} {l : Launch} {e : Env} {R : Room} {s : State} {m : MethodId} {args : Array Value} {below : List Frame} {meth : Method} {c : Code} {Q : State → Prop}
variable {B0 : Heap} {ev : Nat → Value} {ext : List xC} {D : va_G} {cA : Nat → ClassId} {mi n0 : Nat}
theorem xS_getfield {pc d nx : Nat} {info ps : List Nat} {L st : List Value} {h : xH} {w : Nat × List Value × List Value × xH} {idx : Nat} (C : XC p s m meth c B0 ev ext D cA mi) (hq : xchk (xmt mi) (pc, (.getfield idx), nx, info) ps = true) (hs : xs ext d (.getfield idx) nx info L st h = some w)
    (hr : w.2.2.2.length - n0 ≤ R.cells ∧ 1100 * (w.2.2.2.length - n0) ≤ R.slots) (hn : n0 ≤ h.length) (hdp : d ≤ R.frames ∧ 35 * d ≤ R.locals) (kk : xG p l e R s m args below meth c B0 ev D cA n0 Q w.1 w.2.1 w.2.2.1 w.2.2.2) : xG p l e R s m args below meth c B0 ev D cA n0 Q pc L st h := by
  obtain ⟨hx, hb, hml, hown, hnm, hF, hz0, hs0, hev⟩ := id C
  obtain ⟨hd, rfl, hck⟩ := xchk_len 3 hq (fun n9 h9 => Nat.eq_of_beq_eq_true h9)
  rw [xs_getfield] at hs
  split at hs
  · rename_i ci k v r
    obtain ⟨c9, hg, hs⟩ := Option.bind_eq_some_iff.mp hs
    obtain ⟨hci, hs⟩ := xcond hs
    obtain ⟨w9, hw, hs⟩ := Option.bind_eq_some_iff.mp hs
    obtain rfl := xyes hs
    have hci : c9.1 = ci := Nat.eq_of_beq_eq_true hci
    subst hci
    intro H locs ls hR hlo hl hz9
    have kk := kk H locs ls hR hlo hl hz9
    by_cases h13 : c9.1 = 13
    · cases v with
      | retAddr j =>
        obtain ⟨a, cell, e1, e2, e3, e4⟩ := hF.2.2.2.1 j c9.1 c9.2 hg
        rw [if_pos h13] at e4
        obtain ⟨-, -, hlen, g0, g1⟩ := e4
        have e5 : List.map (xv B0.size ev) (Value.retAddr j :: r) = Value.ref a :: r.map (xv B0.size ev) := by rw [List.map_cons]; exact congrArg (· :: _) e1
        rw [e5]
        rcases k with _ | _ | k
        · have hck' : xwI ps 0 (.fieldLink (xmt mi).1.1.cls idx "java/lang/String" "value" "[B") = true := by
            have := hck
            unfold xchkI at this
            simp only [h13, if_true] at this
            exact this
          obtain ⟨cf, k1, i1, f, cell', q1, q2, q3, q4, q5, -⟩ := g0 w9 hw
          exact W.getf hx hb hown (hF.w (xwI_mem hck') rfl args) q1 q2 (by rw [hR.2.1 a e2]; exact q3) q4 q5 rfl rfl hd kk
        · have hck' : xwI ps 0 (.fieldLink (xmt mi).1.1.cls idx "java/lang/String" "coder" "B") = true := by
            have := hck
            unfold xchkI at this
            simp only [h13, if_true] at this
            exact this
          obtain ⟨cf, k1, i1, f, cell', q1, q2, q3, q4, q5, -⟩ := g1 w9 hw
          exact W.getf hx hb hown (hF.w (xwI_mem hck') rfl args) q1 q2 (by rw [hR.2.1 a e2]; exact q3) q4 q5 rfl rfl hd kk
        · have hck' : false = true := by
            have := hck
            unfold xchkI at this
            simp only [h13, if_true] at this
            exact this
          cases hck'
      | ref a =>
        obtain ⟨r9, h9, -⟩ := xat_ob (hR.2.2 a c9 hg) (by omega)
        have := xcl_lt h9
        omega
      | _ => exact xno hg
    · have hck' : (match xcl[c9.1]? with
          | some r9 => Nat.blt k r9.2.2 && xwI ps 0 (.fieldLink (xmt mi).1.1.cls idx (r9.2.1 k).1 (r9.2.1 k).2.1 (r9.2.1 k).2.2.1)
          | none => false) = true := by
        have := hck
        unfold xchkI at this
        simp only [h13, if_false] at this
        exact this
      split at hck'
      · rename_i r9 hr9
        rw [Bool.and_eq_true] at hck'
        have hk := Nat.blt_eq.mp hck'.1
        obtain ⟨cf, kf, fi, f, kC, hi, hsl, hst, -⟩ := xfield (args := args) hF hr9 hk
        cases v with
        | ref a =>
          obtain ⟨r8, h8, cell, q1, q2, q3, q4⟩ := xat_ob (hR.2.2 a c9 hg) (by have := xcl_lt hr9; omega)
          cases hr9.symm.trans h8
          refine W.getf hx hb hown (hF.w (xwI_mem hck'.2) rfl args) hi hst q1 (by rw [q3]; exact fun h => by cases h) (v := xv B0.size ev w9) ?_ rfl rfl hd kk
          rw [hsl, q4 k hk]
          show some (xv B0.size ev (c9.2.getD k .null)) = _
          rw [xgetD hw]
        | retAddr j =>
          obtain ⟨a, cell, -, -, -, e4⟩ := hF.2.2.2.1 j c9.1 c9.2 hg
          rw [if_neg h13] at e4
          have := xcl_lt hr9
          omega
        | _ => exact xno hg
      · cases hck'
  · exact xno hs
theorem xS_putfield {pc d nx : Nat} {info ps : List Nat} {L st : List Value} {h : xH} {w : Nat × List Value × List Value × xH} {idx : Nat} (C : XC p s m meth c B0 ev ext D cA mi) (hq : xchk (xmt mi) (pc, (.putfield idx), nx, info) ps = true) (hs : xs ext d (.putfield idx) nx info L st h = some w)
    (hr : w.2.2.2.length - n0 ≤ R.cells ∧ 1100 * (w.2.2.2.length - n0) ≤ R.slots) (hn : n0 ≤ h.length) (hdp : d ≤ R.frames ∧ 35 * d ≤ R.locals) (kk : xG p l e R s m args below meth c B0 ev D cA n0 Q w.1 w.2.1 w.2.2.1 w.2.2.2) : xG p l e R s m args below meth c B0 ev D cA n0 Q pc L st h := by
  obtain ⟨hx, hb, hml, hown, hnm, hF, hz0, hs0, hev⟩ := id C
  obtain ⟨hd, rfl, hck⟩ := xchk_len 3 hq (fun n9 h9 => Nat.eq_of_beq_eq_true h9)
  rw [xs_putfield] at hs
  split at hs
  · rename_i ci k v a r
    obtain ⟨c9, hg, hs⟩ := Option.bind_eq_some_iff.mp hs
    obtain ⟨hci, hs⟩ := xcond hs
    obtain rfl := xyes hs
    rw [Bool.and_eq_true, Bool.and_eq_true] at hci
    obtain ⟨hci, hkl, hft⟩ := hci
    have hci : c9.1 = ci := Nat.eq_of_beq_eq_true hci
    subst hci
    have hkl := Nat.blt_eq.mp hkl
    have hck' : (match xcl[c9.1]? with
      | some r9 => Nat.blt k r9.2.2 && (xwI ps 0 (.fieldLink (xmt mi).1.1.cls idx (r9.2.1 k).1 (r9.2.1 k).2.1 (r9.2.1 k).2.2.1) && (decide (parseFieldDescriptor (r9.2.1 k).2.2.1 = some (xfty c9.1 k)) && (!(r9.2.1 k).2.2.2 || decide ((xmt mi).1.1.name = "<init>" ∧ (r9.2.1 k).1 = (xmt mi).1.1.cls))))
      | none => false) = true := hck
    split at hck'
    · rename_i r9 hr9
      rw [Bool.and_eq_true, Bool.and_eq_true, Bool.and_eq_true] at hck'
      obtain ⟨hk, hlk, hpd, hfin⟩ := hck'
      have hk := Nat.blt_eq.mp hk
      have hpd := of_decide_eq_true hpd
      obtain ⟨cf, kf, fi, f, kC, hi, hsl, hst, hfc, hkC, hkind, hap, hlay⟩ := xfield (args := args) hF hr9 hk
      obtain ⟨hn1, hn2⟩ := xfit_ok (b := B0.size) (ev := ev) hft
      intro H locs ls hR hlo hl hz9
      obtain ⟨r8, h8, cell, q1, q2, q3, q4⟩ := xat_ob (hR.2.2 a c9 hg) (by have := xcl_lt hr9; omega)
      cases hr9.symm.trans h8
      have fin : ∀ H' : Heap, H'[B0.size + a]? = some (cell.setSlot f.slot (xv B0.size ev v)) → H'.size = H.size → (∀ q, q ≠ B0.size + a → H'[q]? = H[q]?) →
          W p l e R s m args below meth c H' (locs ++ [⟨B0.size + a, f.slot⟩]) (h.length - n0) (1100 * (h.length - n0)) Q (F0 m (pc + 3) ls (r.map (xv B0.size ev))) := by
        intro H' e1 e2 e3
        have k9 := kk H' (locs ++ [⟨B0.size + a, f.slot⟩]) ls (hR.set hg e2 e3 ?_) ?_ hl hz9
        · have e9 : (h.set a (c9.1, c9.2.set k v)).length = h.length := List.length_set
          simp only [e9] at k9
          exact k9
        · unfold xat
          rw [if_pos (show c9.1 < 20 by have := xcl_lt hr9; omega)]
          rw [hsl] at e1
          exact ⟨r9, hr9, t_OB.to (V := updV (fun k => xv B0.size ev (c9.2.getD k .null)) k (xv B0.size ev v)) ⟨_, e1, q2, q3, t_set q4 hap hk _⟩ (fun j _ => xv_upd hkl v j)⟩
        · intro q hq
          rcases List.mem_append.mp hq with h9 | h9
          · exact hlo q h9
          · rw [List.mem_singleton.mp h9]
            exact Nat.le_add_right _ _
      by_cases hfl : (r9.2.1 k).2.2.2 = true
      · rw [hfl] at hfin
        have hfin : (xmt mi).1.1.name = "<init>" ∧ (r9.2.1 k).1 = (xmt mi).1.1.cls := of_decide_eq_true hfin
        have hlay2 : (Jvm.Cond.laysFinal r9.1 (r9.2.1 k).1 (r9.2.1 k).2.1 (r9.2.1 k).2.2.1).before args s = true := by
          unfold u_lay at hlay
          rw [if_pos hfl] at hlay
          exact hlay
        have hcf : m.cls = cf := by
          obtain ⟨_, _, c', _, _, _, -, -, hf', -, -, -, hown2, -⟩ := Cond.laysFinal_spec hlay2
          have e1 : c' = cf := by have := hi.symm.trans hf'; simp at this; exact this.1.symm
          rw [hfin.2] at hown2
          rw [← e1]
          exact Option.some.inj (hown.symm.trans hown2)
        have h6 := u_fits hfc hkC hkind (Or.inr hlay2) hi hpd hn1 hn2
        exact W.putFinK hx hb hown (hF.w (xwI_mem hlk) rfl args) hi hst hcf (hnm hfin.1) (by rw [q2]; exact h6) q1 q3 (by rw [hsl]; exact k2_hasslot (q4 k hk)) rfl rfl hd fin
      · have hlay2 : (Jvm.Cond.lays r9.1 (r9.2.1 k).1 (r9.2.1 k).2.1 (r9.2.1 k).2.2.1).before args s = true := by
          unfold u_lay at hlay
          rw [if_neg hfl] at hlay
          exact hlay
        have h6 := u_store hfc hkC hkind hlay2 hi hpd hn1 hn2
        exact W.putK hx hb (f := f) ⟨hown, hF.w (xwI_mem hlk) rfl args, ⟨_, _, _, hi⟩, hst⟩ (by rw [q2]; exact h6) q1 q3 (by rw [hsl]; exact k2_hasslot (q4 k hk)) rfl rfl hd fin
    · cases hck'
  · exact xno hs
theorem xS_iaload {pc d nx : Nat} {info ps : List Nat} {L st : List Value} {h : xH} {w : Nat × List Value × List Value × xH}  (C : XC p s m meth c B0 ev ext D cA mi) (hq : xchk (xmt mi) (pc, .iaload, nx, info) ps = true) (hs : xs ext d .iaload nx info L st h = some w)
    (hr : w.2.2.2.length - n0 ≤ R.cells ∧ 1100 * (w.2.2.2.length - n0) ≤ R.slots) (hn : n0 ≤ h.length) (hdp : d ≤ R.frames ∧ 35 * d ≤ R.locals) (kk : xG p l e R s m args below meth c B0 ev D cA n0 Q w.1 w.2.1 w.2.2.1 w.2.2.2) : xG p l e R s m args below meth c B0 ev D cA n0 Q pc L st h := by
  obtain ⟨hx, hb, hml, hown, hnm, hF, hz0, hs0, hev⟩ := id C
  obtain ⟨hd, rfl, hck⟩ := xchk_len 1 hq (fun n9 h9 => Nat.eq_of_beq_eq_true h9)
  rw [xs_iaload] at hs
  split at hs
  · rename_i i v r
    obtain ⟨c9, hg, hs⟩ := Option.bind_eq_some_iff.mp hs
    obtain ⟨hci, hs⟩ := xcond hs
    obtain ⟨w9, hw, hs⟩ := Option.bind_eq_some_iff.mp hs
    obtain rfl := xyes hs
    obtain ⟨hi0, hi1, hi2⟩ := xix_of hw
    intro H locs ls hR hlo hl hz9
    have ht : c9.1 = 20 := Nat.eq_of_beq_eq_true hci
    obtain ⟨a, cell, e1, e2, e3, e4, e5, e6, e7⟩ := xarr hF hR hg (by omega) (by omega)
    rw [List.map_cons, List.map_cons, e1]
    rw [ht] at e3
    exact W.iald (v := xv B0.size ev w9) hx hb e2 e3 e4 (fun q => q.elim hi0 (fun z => by omega)) (e7 _ _ hi2) rfl rfl hd (kk H locs ls hR hlo hl hz9)
  · exact xno hs
theorem xS_baload {pc d nx : Nat} {info ps : List Nat} {L st : List Value} {h : xH} {w : Nat × List Value × List Value × xH}  (C : XC p s m meth c B0 ev ext D cA mi) (hq : xchk (xmt mi) (pc, .baload, nx, info) ps = true) (hs : xs ext d .baload nx info L st h = some w)
    (hr : w.2.2.2.length - n0 ≤ R.cells ∧ 1100 * (w.2.2.2.length - n0) ≤ R.slots) (hn : n0 ≤ h.length) (hdp : d ≤ R.frames ∧ 35 * d ≤ R.locals) (kk : xG p l e R s m args below meth c B0 ev D cA n0 Q w.1 w.2.1 w.2.2.1 w.2.2.2) : xG p l e R s m args below meth c B0 ev D cA n0 Q pc L st h := by
  obtain ⟨hx, hb, hml, hown, hnm, hF, hz0, hs0, hev⟩ := id C
  obtain ⟨hd, rfl, hck⟩ := xchk_len 1 hq (fun n9 h9 => Nat.eq_of_beq_eq_true h9)
  rw [xs_baload] at hs
  split at hs
  · rename_i i v r
    obtain ⟨c9, hg, hs⟩ := Option.bind_eq_some_iff.mp hs
    obtain ⟨hci, hs⟩ := xcond hs
    obtain ⟨w9, hw, hs⟩ := Option.bind_eq_some_iff.mp hs
    obtain rfl := xyes hs
    obtain ⟨hi0, hi1, hi2⟩ := xix_of hw
    intro H locs ls hR hlo hl hz9
    rw [Bool.or_eq_true] at hci
    rcases hci with hci | hci
    · have ht : c9.1 = 21 := Nat.eq_of_beq_eq_true hci
      obtain ⟨a, cell, e1, e2, e3, e4, e5, e6, e7⟩ := xarr hF hR hg (by omega) (by omega)
      rw [List.map_cons, List.map_cons, e1]
      rw [ht] at e3
      exact W.bald (v := xv B0.size ev w9) hx hb e2 e3 e4 (fun q => q.elim hi0 (fun z => by omega)) (e7 _ _ hi2) rfl rfl hd (kk H locs ls hR hlo hl hz9)
    · have ht : c9.1 = 22 := Nat.eq_of_beq_eq_true hci
      obtain ⟨a, cell, e1, e2, e3, e4, e5, e6, e7⟩ := xarr hF hR hg (by omega) (by omega)
      rw [List.map_cons, List.map_cons, e1]
      rw [ht] at e3
      exact W.zald (v := xv B0.size ev w9) hx hb e2 e3 e4 (fun q => q.elim hi0 (fun z => by omega)) (e7 _ _ hi2) rfl rfl hd (kk H locs ls hR hlo hl hz9)
  · exact xno hs
theorem xS_aaload {pc d nx : Nat} {info ps : List Nat} {L st : List Value} {h : xH} {w : Nat × List Value × List Value × xH}  (C : XC p s m meth c B0 ev ext D cA mi) (hq : xchk (xmt mi) (pc, .aaload, nx, info) ps = true) (hs : xs ext d .aaload nx info L st h = some w)
    (hr : w.2.2.2.length - n0 ≤ R.cells ∧ 1100 * (w.2.2.2.length - n0) ≤ R.slots) (hn : n0 ≤ h.length) (hdp : d ≤ R.frames ∧ 35 * d ≤ R.locals) (kk : xG p l e R s m args below meth c B0 ev D cA n0 Q w.1 w.2.1 w.2.2.1 w.2.2.2) : xG p l e R s m args below meth c B0 ev D cA n0 Q pc L st h := by
  obtain ⟨hx, hb, hml, hown, hnm, hF, hz0, hs0, hev⟩ := id C
  obtain ⟨hd, rfl, hck⟩ := xchk_len 1 hq (fun n9 h9 => Nat.eq_of_beq_eq_true h9)
  rw [xs_aaload] at hs
  split at hs
  · rename_i i a0 r
    obtain ⟨c9, hg, hs⟩ := Option.bind_eq_some_iff.mp hs
    obtain ⟨hci, hs⟩ := xcond hs
    obtain ⟨w9, hw, hs⟩ := Option.bind_eq_some_iff.mp hs
    obtain rfl := xyes hs
    obtain ⟨hi0, hi1, hi2⟩ := xix_of hw
    rw [Bool.and_eq_true] at hci
    have t1 := Nat.blt_eq.mp hci.1
    have t2 := Nat.blt_eq.mp hci.2
    intro H locs ls hR hlo hl hz9
    obtain ⟨a, cell, e1, e2, e3, e4, e5, e6, e7⟩ := xarr (ext := ext) hF hR (v := .ref a0) hg (by omega) (by omega)
    rw [List.map_cons, List.map_cons, e1]
    have hrf : (xaty c9.1).isReference = true := by
      have : c9.1 = 23 ∨ c9.1 = 24 ∨ c9.1 = 25 ∨ c9.1 = 26 := by omega
      rcases this with q | q | q | q <;> rw [q] <;> rfl
    exact W.aald (v := xv B0.size ev w9) hx hb e2 e3 hrf e4 (fun q => q.elim hi0 (fun z => by omega)) (e7 _ _ hi2) rfl rfl hd (kk H locs ls hR hlo hl hz9)
  · exact xno hs
theorem xS_arraylength {pc d nx : Nat} {info ps : List Nat} {L st : List Value} {h : xH} {w : Nat × List Value × List Value × xH}  (C : XC p s m meth c B0 ev ext D cA mi) (hq : xchk (xmt mi) (pc, .arraylength, nx, info) ps = true) (hs : xs ext d .arraylength nx info L st h = some w)
    (hr : w.2.2.2.length - n0 ≤ R.cells ∧ 1100 * (w.2.2.2.length - n0) ≤ R.slots) (hn : n0 ≤ h.length) (hdp : d ≤ R.frames ∧ 35 * d ≤ R.locals) (kk : xG p l e R s m args below meth c B0 ev D cA n0 Q w.1 w.2.1 w.2.2.1 w.2.2.2) : xG p l e R s m args below meth c B0 ev D cA n0 Q pc L st h := by
  obtain ⟨hx, hb, hml, hown, hnm, hF, hz0, hs0, hev⟩ := id C
  obtain ⟨hd, rfl, hck⟩ := xchk_len 1 hq (fun n9 h9 => Nat.eq_of_beq_eq_true h9)
  rw [xs_arraylength] at hs
  split at hs
  · rename_i v r
    obtain ⟨c9, hg, hs⟩ := Option.bind_eq_some_iff.mp hs
    obtain ⟨hci, hs⟩ := xcond hs
    obtain rfl := xyes hs
    have t1 := Nat.blt_eq.mp hci
    intro H locs ls hR hlo hl hz9
    obtain ⟨a, cell, e1, e2, e3, e4, e5, e6, e7⟩ := xarr hF hR hg t1 (xlarge hF hR hg t1)
    rw [List.map_cons, e1]
    exact W.alen hx hb e2 e3 e5 rfl rfl hd (kk H locs ls hR hlo hl hz9)
  · exact xno hs
theorem xS_iastore {pc d nx : Nat} {info ps : List Nat} {L st : List Value} {h : xH} {w : Nat × List Value × List Value × xH}  (C : XC p s m meth c B0 ev ext D cA mi) (hq : xchk (xmt mi) (pc, .iastore, nx, info) ps = true) (hs : xs ext d .iastore nx info L st h = some w)
    (hr : w.2.2.2.length - n0 ≤ R.cells ∧ 1100 * (w.2.2.2.length - n0) ≤ R.slots) (hn : n0 ≤ h.length) (hdp : d ≤ R.frames ∧ 35 * d ≤ R.locals) (kk : xG p l e R s m args below meth c B0 ev D cA n0 Q w.1 w.2.1 w.2.2.1 w.2.2.2) : xG p l e R s m args below meth c B0 ev D cA n0 Q pc L st h := by
  obtain ⟨hx, hb, hml, hown, hnm, hF, hz0, hs0, hev⟩ := id C
  obtain ⟨hd, rfl, hck⟩ := xchk_len 1 hq (fun n9 h9 => Nat.eq_of_beq_eq_true h9)
  rw [xs_iastore] at hs
  split at hs
  · rename_i x i a r
    obtain ⟨c9, hg, hs⟩ := Option.bind_eq_some_iff.mp hs
    obtain ⟨hci, hs⟩ := xcond hs
    obtain ⟨w9, hw, hs⟩ := Option.bind_eq_some_iff.mp hs
    obtain rfl := xyes hs
    obtain ⟨hi0, hi1, hi2⟩ := xix_of hw
    have ht : c9.1 = 20 := Nat.eq_of_beq_eq_true hci
    intro H locs ls hR hlo hl hz9
    have hA := xat_ar (hR.2.2 a c9 hg) (by omega)
    have hT := (hF.2.1.2 _ _ (xtys_at cA (t := c9.1) (by omega) (by omega))).1 c9.2.length (fun j => xv B0.size ev (c9.2.getD j .null))
    have hT' : s.isArrayOf (arrV (cA c9.1) c9.2.length (fun j => xv B0.size ev (c9.2.getD j .null))) .int := by
      have h8 := hT
      rw [show xaty c9.1 = .int by rw [ht]; rfl] at h8
      exact h8
    refine W.iast hx hb hA hT' (fun q => by cases q) (by rw [arrV_size]; exact fun q => q.elim hi0 (fun z => by omega)) rfl rfl hd fun H' e1 e2 e3 => ?_
    have k9 := kk H' (locs ++ [⟨B0.size + a, i.toNatClampNeg⟩]) ls (xstore hR hg (by omega) hi1 e1 e2 e3) (xlocs hlo a _) hl hz9
    have e9 : (h.set a (c9.1, c9.2.set i.toNatClampNeg (.int x))).length = h.length := List.length_set
    simp only [e9] at k9
    exact k9
  · exact xno hs
theorem xS_bastore {pc d nx : Nat} {info ps : List Nat} {L st : List Value} {h : xH} {w : Nat × List Value × List Value × xH}  (C : XC p s m meth c B0 ev ext D cA mi) (hq : xchk (xmt mi) (pc, .bastore, nx, info) ps = true) (hs : xs ext d .bastore nx info L st h = some w)
    (hr : w.2.2.2.length - n0 ≤ R.cells ∧ 1100 * (w.2.2.2.length - n0) ≤ R.slots) (hn : n0 ≤ h.length) (hdp : d ≤ R.frames ∧ 35 * d ≤ R.locals) (kk : xG p l e R s m args below meth c B0 ev D cA n0 Q w.1 w.2.1 w.2.2.1 w.2.2.2) : xG p l e R s m args below meth c B0 ev D cA n0 Q pc L st h := by
  obtain ⟨hx, hb, hml, hown, hnm, hF, hz0, hs0, hev⟩ := id C
  obtain ⟨hd, rfl, hck⟩ := xchk_len 1 hq (fun n9 h9 => Nat.eq_of_beq_eq_true h9)
  rw [xs_bastore] at hs
  split at hs
  · rename_i x i a r
    obtain ⟨c9, hg, hs⟩ := Option.bind_eq_some_iff.mp hs
    obtain ⟨hci, hs⟩ := xcond hs
    obtain ⟨w9, hw, hs⟩ := Option.bind_eq_some_iff.mp hs
    obtain rfl := xyes hs
    obtain ⟨hi0, hi1, hi2⟩ := xix_of hw
    rw [Bool.and_eq_true, Bool.or_eq_true] at hci
    obtain ⟨hct, hft⟩ := hci
    have hnar := (xfit_ok (b := B0.size) (ev := ev) hft).1
    have hnar : narrow (xaty c9.1) (.int x) = .int x := hnar
    intro H locs ls hR hlo hl hz9
    rcases hct with hct | hct
    · have ht : c9.1 = 21 := Nat.eq_of_beq_eq_true hct
      have hA := xat_ar (hR.2.2 a c9 hg) (by omega)
      have hT := (hF.2.1.2 _ _ (xtys_at cA (t := c9.1) (by omega) (by omega))).1 c9.2.length (fun j => xv B0.size ev (c9.2.getD j .null))
      have e8 : xaty c9.1 = .byte := by rw [ht]; rfl
      have hT' : s.isArrayOf (arrV (cA c9.1) c9.2.length (fun j => xv B0.size ev (c9.2.getD j .null))) .byte := by
        have h8 := hT
        simp only [e8] at h8
        exact h8
      rw [e8] at hnar
      refine W.bast hx hb hA hT' (fun q => by cases q) (by rw [arrV_size]; exact fun q => q.elim hi0 (fun z => by omega)) rfl rfl hd fun H' e1 e2 e3 => ?_
      rw [hnar] at e1
      have k9 := kk H' (locs ++ [⟨B0.size + a, i.toNatClampNeg⟩]) ls (xstore hR hg (by omega) hi1 e1 e2 e3) (xlocs hlo a _) hl hz9
      have e9 : (h.set a (c9.1, c9.2.set i.toNatClampNeg (.int x))).length = h.length := List.length_set
      simp only [e9] at k9
      exact k9
    · have ht : c9.1 = 22 := Nat.eq_of_beq_eq_true hct
      have hA := xat_ar (hR.2.2 a c9 hg) (by omega)
      have hT := (hF.2.1.2 _ _ (xtys_at cA (t := c9.1) (by omega) (by omega))).1 c9.2.length (fun j => xv B0.size ev (c9.2.getD j .null))
      have e8 : xaty c9.1 = .boolean := by rw [ht]; rfl
      have hT' : s.isArrayOf (arrV (cA c9.1) c9.2.length (fun j => xv B0.size ev (c9.2.getD j .null))) .boolean := by
        have h8 := hT
        simp only [e8] at h8
        exact h8
      rw [e8] at hnar
      refine W.zast hx hb hA hT' (fun q => by cases q) (by rw [arrV_size]; exact fun q => q.elim hi0 (fun z => by omega)) rfl rfl hd fun H' e1 e2 e3 => ?_
      rw [hnar] at e1
      have k9 := kk H' (locs ++ [⟨B0.size + a, i.toNatClampNeg⟩]) ls (xstore hR hg (by omega) hi1 e1 e2 e3) (xlocs hlo a _) hl hz9
      have e9 : (h.set a (c9.1, c9.2.set i.toNatClampNeg (.int x))).length = h.length := List.length_set
      simp only [e9] at k9
      exact k9
  · exact xno hs
theorem xS_aastore {pc d nx : Nat} {info ps : List Nat} {L st : List Value} {h : xH} {w : Nat × List Value × List Value × xH}  (C : XC p s m meth c B0 ev ext D cA mi) (hq : xchk (xmt mi) (pc, .aastore, nx, info) ps = true) (hs : xs ext d .aastore nx info L st h = some w)
    (hr : w.2.2.2.length - n0 ≤ R.cells ∧ 1100 * (w.2.2.2.length - n0) ≤ R.slots) (hn : n0 ≤ h.length) (hdp : d ≤ R.frames ∧ 35 * d ≤ R.locals) (kk : xG p l e R s m args below meth c B0 ev D cA n0 Q w.1 w.2.1 w.2.2.1 w.2.2.2) : xG p l e R s m args below meth c B0 ev D cA n0 Q pc L st h := by
  obtain ⟨hx, hb, hml, hown, hnm, hF, hz0, hs0, hev⟩ := id C
  obtain ⟨hd, rfl, hck⟩ := xchk_len 1 hq (fun n9 h9 => Nat.eq_of_beq_eq_true h9)
  rw [xs_aastore] at hs
  split at hs
  · rename_i v i a r
    obtain ⟨c9, hg, hs⟩ := Option.bind_eq_some_iff.mp hs
    obtain ⟨cv, hgv, hs⟩ := Option.bind_eq_some_iff.mp hs
    obtain ⟨hci, hs⟩ := xcond hs
    obtain ⟨w9, hw, hs⟩ := Option.bind_eq_some_iff.mp hs
    obtain rfl := xyes hs
    obtain ⟨hi0, hi1, hi2⟩ := xix_of hw
    obtain ⟨t1, t2, t3⟩ := xasg_of hci
    intro H locs ls hR hlo hl hz9
    have hA := xat_ar (hR.2.2 a c9 hg) (by omega)
    obtain ⟨r8, h8, cell, q1, q2, q3, q4⟩ := xat_ob (hR.2.2 v cv hgv) (by omega)
    obtain ⟨E, hE, hasg⟩ := xassign hF hci h8
    have hRA : va_RA s (cA c9.1) (xaty c9.1) := (hF.2.1.2 _ _ (xtys_at cA (t := c9.1) (by omega) (by omega))).2
    rw [hE] at hRA
    obtain ⟨kA, comp, k1, k2, k3, -⟩ := hRA
    obtain ⟨-, hfc8, kC8, hkC8, -⟩ := hF.2.1.1 cv.1 r8 h8
    obtain ⟨hasg1, kcomp, hkcomp⟩ := hasg comp k3
    refine W.aast hx hb hA (fun q h9 => by cases h9) (fun h9 => by cases h9) k1 k2 rfl hkcomp ⟨hi0, by rw [arrV_size]; exact hi1⟩ q1 (fun q h9 => by rw [q3] at h9; cases h9) (by rw [q2]; exact hkC8) (by rw [q2]; exact hasg1) rfl rfl hd fun H' e1 e2 e3 => ?_
    have k9 := kk H' (locs ++ [⟨B0.size + a, i.toNatClampNeg⟩]) ls (xstore hR hg (by omega) hi1 e1 e2 e3) (xlocs hlo a _) hl hz9
    have e9 : (h.set a (c9.1, c9.2.set i.toNatClampNeg (.ref v))).length = h.length := List.length_set
    simp only [e9] at k9
    exact k9
  · exact xno hs
end XST
