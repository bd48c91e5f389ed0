/-! What the small machine's values, locals and cells are on the machine: a reference k is the cell B0.size + k; a number of the outer ones (.retAddr j) is what ev says. -/
theorem xno {α : Type} {w : α} {P : Prop} (h : (none : Option α) = some w) : P := nomatch h
theorem xyes {α : Type} {a w : α} (h : some a = some w) : w = a := (Option.some.inj h).symm
def xv (b : Nat) (ev : Nat → Value) (v : Value) : Value := match v with
  | .ref k => .ref (b + k)
  | .retAddr j => ev j
  | v => v
def xevs (ev : Nat → Value) : Prop := ∀ j, ev j = .null ∨ ∃ a, ev j = .ref a
theorem xv_cat {b : Nat} {ev : Nat → Value} (h : xevs ev) (v : Value) : (xv b ev v).category = v.category := by
  cases v with
  | retAddr j => rcases h j with e | ⟨a, e⟩ <;> simp [xv, e, Value.category]
  | _ => rfl
theorem xcat_map {b : Nat} {ev : Nat → Value} (h : xevs ev) (st : List Value) : ((st.map (xv b ev)).map fun v => v.category).sum = xcat st := by
  unfold xcat
  rw [List.map_map]
  congr 2
  funext v
  exact xv_cat h v
def xLs (b : Nat) (ev : Nat → Value) (L : List Value) (ls : Array Slot) : Prop := ls.size = L.length ∧ lv_wf ls ∧ ∀ (i : Nat) (v : Value), L[i]? = some v → v ≠ xU → ls[i]? = some (.val (xv b ev v))
def xas (b : Nat) (ev : Nat → Value) (L : List Value) : List (Nat × Value) := (List.range L.length).filterMap fun i => (L[i]?).bind fun v => if v = xU then none else some (i, xv b ev v)
theorem xas_mem {b : Nat} {ev : Nat → Value} {L : List Value} {i : Nat} {v : Value} (h : L[i]? = some v) (hv : v ≠ xU) : (i, xv b ev v) ∈ xas b ev L := by
  refine List.mem_filterMap.mpr ⟨i, List.mem_range.mpr (List.getElem?_eq_some_iff.mp h).1, ?_⟩
  rw [h, Option.bind_some, if_neg hv]
theorem xas_of {b : Nat} {ev : Nat → Value} {L : List Value} {q : Nat × Value} (h : q ∈ xas b ev L) : ∃ v, L[q.1]? = some v ∧ v ≠ xU ∧ q.2 = xv b ev v := by
  obtain ⟨i, -, hi⟩ := List.mem_filterMap.mp h
  obtain ⟨v, hv, h2⟩ := Option.bind_eq_some_iff.mp hi
  by_cases e : v = xU
  · rw [if_pos e] at h2
    exact xno h2
  · rw [if_neg e] at h2
    obtain rfl := xyes h2
    exact ⟨v, hv, e, rfl⟩
theorem xLs.has {b : Nat} {ev : Nat → Value} {L : List Value} {ls : Array Slot} (h : xLs b ev L ls) : lv_has ls L.length (xas b ev L) := ⟨h.1, h.2.1, fun q hq => by
  obtain ⟨v, h1, h2, h3⟩ := xas_of hq
  rw [h3]
  exact h.2.2 q.1 v h1 h2⟩
theorem xkill_len (L : List Value) (i : Nat) : (xkill L i).length = L.length := by
  unfold xkill
  split
  · rfl
  · split
    · split
      · simp
      · rfl
    · rfl
theorem xkill_at {L : List Value} {i j : Nat} {w : Value} (h : (xkill L i)[j]? = some w) (hw : w ≠ xU) : L[j]? = some w ∧ (j + 1 = i → w.category ≠ 2) := by
  unfold xkill at h
  split at h
  · exact ⟨h, fun e => by omega⟩
  · rename_i k
    split at h
    · rename_i v hv
      split at h
      · rename_i hc
        by_cases e : j = k
        · subst e
          have hlt := (List.getElem?_eq_some_iff.mp hv).1
          rw [List.getElem?_set_self hlt] at h
          exact absurd (Option.some.inj h).symm hw
        · rw [List.getElem?_set_ne (fun q => e q.symm)] at h
          exact ⟨h, fun q => by omega⟩
      · rename_i hc
        refine ⟨h, fun q => ?_⟩
        have e : j = k := by omega
        subst e
        rw [hv] at h
        cases h
        exact hc
    · rename_i hv
      refine ⟨h, fun q => ?_⟩
      have e : j = k := by omega
      subst e
      rw [hv] at h
      exact xno h
theorem xst1_of {L L' : List Value} {i : Nat} {v : Value} (h : xst1 L i v = some L') : i < L.length ∧ L' = (xkill L i).set i v := by
  unfold xst1 at h
  by_cases hi : i < L.length
  · rw [if_pos hi] at h
    exact ⟨hi, xyes h⟩
  · rw [if_neg hi] at h
    exact xno h
theorem xst2_of {L L' : List Value} {i : Nat} {v : Value} (h : xst2 L i v = some L') : i + 1 < L.length ∧ L' = ((xkill L i).set i v).set (i + 1) xU := by
  unfold xst2 at h
  by_cases hi : i + 1 < L.length
  · rw [if_pos hi] at h
    exact ⟨hi, xyes h⟩
  · rw [if_neg hi] at h
    exact xno h
theorem xLs.st1 {b : Nat} {ev : Nat → Value} (hev : xevs ev) {L L' : List Value} {i : Nat} {v : Value} {ls' : Array Slot} (h : xst1 L i v = some L')
    (hl : lv_has ls' L.length ((i, xv b ev v) :: (xas b ev L).filter (fun q => !(q.1 == i) && !(q.1 + 1 == i && q.2.category == 2)))) : xLs b ev L' ls' := by
  obtain ⟨hi, rfl⟩ := xst1_of h
  refine ⟨by rw [hl.1, List.length_set, xkill_len], hl.2.1, fun j w hj hw => ?_⟩
  by_cases e : j = i
  · subst e
    rw [List.getElem?_set_self (by rw [xkill_len]; exact hi)] at hj
    cases hj
    exact hl.2.2 (j, xv b ev v) List.mem_cons_self
  · rw [List.getElem?_set_ne (fun q => e q.symm)] at hj
    obtain ⟨h1, h2⟩ := xkill_at hj hw
    refine hl.2.2 (j, xv b ev w) (List.mem_cons_of_mem _ (List.mem_filter.mpr ⟨xas_mem h1 hw, ?_⟩))
    have hc : j + 1 = i → ¬ (xv b ev w).category = 2 := fun q => by rw [xv_cat hev]; exact h2 q
    simp [e]
    exact Decidable.not_or_of_imp hc
theorem xLs.st2 {b : Nat} {ev : Nat → Value} (hev : xevs ev) {L L' : List Value} {i : Nat} {v : Value} {ls' : Array Slot} (h : xst2 L i v = some L')
    (hl : lv_has ls' L.length ((i, xv b ev v) :: (xas b ev L).filter (fun q => !(q.1 == i) && (!(q.1 == i + 1) && !(q.1 + 1 == i && q.2.category == 2))))) : xLs b ev L' ls' := by
  obtain ⟨hi, rfl⟩ := xst2_of h
  refine ⟨by rw [hl.1, List.length_set, List.length_set, xkill_len], hl.2.1, fun j w hj hw => ?_⟩
  by_cases e1 : j = i + 1
  · subst e1
    rw [List.getElem?_set_self (by rw [List.length_set, xkill_len]; exact hi)] at hj
    exact absurd (Option.some.inj hj).symm hw
  · rw [List.getElem?_set_ne (fun q => e1 q.symm)] at hj
    by_cases e : j = i
    · subst e
      rw [List.getElem?_set_self (by rw [xkill_len]; omega)] at hj
      cases hj
      exact hl.2.2 (j, xv b ev v) List.mem_cons_self
    · rw [List.getElem?_set_ne (fun q => e q.symm)] at hj
      obtain ⟨h1, h2⟩ := xkill_at hj hw
      refine hl.2.2 (j, xv b ev w) (List.mem_cons_of_mem _ (List.mem_filter.mpr ⟨xas_mem h1 hw, ?_⟩))
      have hc : j + 1 = i → ¬ (xv b ev w).category = 2 := fun q => by rw [xv_cat hev]; exact h2 q
      simp [e, e1]
      exact Decidable.not_or_of_imp hc
theorem xent_args {b : Nat} {ev : Nat → Value} (hev : xevs ev) : ∀ (vs : List Value) (i j : Nat) (w : Value), (xspread vs)[j]? = some w → w ≠ xU → (i + j, xv b ev w) ∈ lv_args i (vs.map (xv b ev))
  | [], _, _, _, h, _ => by simp [xspread] at h
  | v :: r, i, j, w, h, hw => by
    rw [List.map_cons, lv_args, xv_cat hev]
    by_cases hc : v.category = 2
    · rw [xspread, if_pos hc] at h
      rw [if_pos hc]
      match j, h with
      | 0, h =>
        cases h
        exact List.mem_cons_self
      | 1, h =>
        exact absurd (Option.some.inj h).symm hw
      | j + 2, h =>
        have h' : (xspread r)[j]? = some w := h
        have := xent_args (b := b) hev r (i + 2) j w h' hw
        rw [show i + (j + 2) = i + 2 + j by omega]
        exact List.mem_cons_of_mem _ this
    · rw [xspread, if_neg hc] at h
      rw [if_neg hc]
      match j, h with
      | 0, h =>
        cases h
        exact List.mem_cons_self
      | j + 1, h =>
        have h' : (xspread r)[j]? = some w := h
        have := xent_args (b := b) hev r (i + 1) j w h' hw
        rw [show i + (j + 1) = i + 1 + j by omega]
        exact List.mem_cons_of_mem _ this
theorem xspread_len {b : Nat} {ev : Nat → Value} (hev : xevs ev) : ∀ (vs : List Value), (lg_sl (vs.map (xv b ev))).length = (xspread vs).length
  | [] => rfl
  | v :: r => by
    have ih := xspread_len (b := b) hev r
    have e : lg_sl ((v :: r).map (xv b ev)) = (if (xv b ev v).category = 2 then [.val (xv b ev v), .second] else [.val (xv b ev v)]) ++ lg_sl (r.map (xv b ev)) := rfl
    rw [e, List.length_append, ih, xv_cat hev, xspread]
    by_cases hc : v.category = 2
    · rw [if_pos hc, if_pos hc]
      simp
      omega
    · rw [if_neg hc, if_neg hc]
      simp
      omega
theorem xLs_entry {b : Nat} {ev : Nat → Value} (hev : xevs ev) {vs : List Value} {n : Nat} (h : (xspread vs).length ≤ n) :
    xLs b ev (xent n vs) ((lg_sl (vs.map (xv b ev)) ++ List.replicate (n - (lg_sl (vs.map (xv b ev))).length) Slot.unset).toArray) := by
  have hl := lv_entry (vs.map (xv b ev)) (n := n) (by rw [xspread_len hev]; exact h)
  refine ⟨by rw [hl.1]; simp [xent]; omega, hl.2.1, fun j w hj hw => ?_⟩
  unfold xent at hj
  by_cases hlt : j < (xspread vs).length
  · rw [List.getElem?_append_left hlt] at hj
    have := xent_args (b := b) hev vs 0 j w hj hw
    rw [Nat.zero_add] at this
    exact hl.2.2 _ this
  · rw [List.getElem?_append_right (by omega), List.getElem?_replicate] at hj
    split at hj
    · exact absurd (Option.some.inj hj).symm hw
    · exact xno hj
/-- a cell on the machine -/
def xat (D : va_G) (cA : Nat → ClassId) (b : Nat) (ev : Nat → Value) (q : Nat) (c : xC) (H : Heap) : Prop :=
  if c.1 < 20 then ∃ r : vw_C, xcl[c.1]? = some r ∧ t_OB q (D.1 c.1) r.2.2 (D.2 c.1) H (fun k => xv b ev (c.2.getD k .null))
  else c.1 < 27 ∧ H[q]? = some (arrV (cA c.1) c.2.length (fun j => xv b ev (c.2.getD j .null)))
theorem xat.kept {D : va_G} {cA : Nat → ClassId} {b : Nat} {ev : Nat → Value} {q : Nat} {c : xC} {H H1 : Heap} (h : xat D cA b ev q c H) (hq : H1[q]? = H[q]?) : xat D cA b ev q c H1 := by
  unfold xat at h ⊢
  by_cases hc : c.1 < 20
  · rw [if_pos hc] at h ⊢
    obtain ⟨r, h1, h2⟩ := h
    exact ⟨r, h1, h2.kept hq⟩
  · rw [if_neg hc] at h ⊢
    rw [hq]
    exact h
/-- the cells h on the machine, behind those of B0, which stand as they stood -/
def xR (D : va_G) (cA : Nat → ClassId) (B0 : Heap) (ev : Nat → Value) (h : xH) (H : Heap) : Prop := H.size = B0.size + h.length ∧ (∀ q : Nat, q < B0.size → H[q]? = B0[q]?) ∧ ∀ (k : Nat) (c : xC), h[k]? = some c → xat D cA B0.size ev (B0.size + k) c H
theorem xR.set {D : va_G} {cA : Nat → ClassId} {B0 : Heap} {ev : Nat → Value} {h : xH} {H H1 : Heap} {a : Nat} {c c' : xC} (hR : xR D cA B0 ev h H) (ha : h[a]? = some c) (hz : H1.size = H.size) (ho : ∀ q : Nat, q ≠ B0.size + a → H1[q]? = H[q]?)
    (hc : xat D cA B0.size ev (B0.size + a) c' H1) : xR D cA B0 ev (h.set a c') H1 := by
  refine ⟨by rw [hz, hR.1, List.length_set], fun q hq => by rw [ho q (by omega)]; exact hR.2.1 q hq, fun k d hk => ?_⟩
  by_cases e : k = a
  · subst e
    rw [List.getElem?_set_self (List.getElem?_eq_some_iff.mp ha).1] at hk
    cases hk
    exact hc
  · rw [List.getElem?_set_ne (fun q => e q.symm)] at hk
    exact (hR.2.2 k d hk).kept (ho _ (by omega))
theorem xR.push {D : va_G} {cA : Nat → ClassId} {B0 : Heap} {ev : Nat → Value} {h : xH} {H H1 : Heap} {c : xC} (hR : xR D cA B0 ev h H) (hz : H1.size = H.size + 1) (ho : ∀ q : Nat, q < H.size → H1[q]? = H[q]?)
    (hc : xat D cA B0.size ev H.size c H1) : xR D cA B0 ev (h ++ [c]) H1 := by
  have hs := hR.1
  refine ⟨by rw [hz, hs]; simp; omega, fun q hq => by rw [ho q (by omega)]; exact hR.2.1 q hq, fun k d hk => ?_⟩
  by_cases e : k < h.length
  · rw [List.getElem?_append_left e] at hk
    exact (hR.2.2 k d hk).kept (ho _ (by omega))
  · rw [List.getElem?_append_right (by omega)] at hk
    have h0 : k - h.length < 1 := (List.getElem?_eq_some_iff.mp hk).1
    rw [show k - h.length = 0 by omega] at hk
    cases hk
    rw [show B0.size + k = H.size by omega]
    exact hc
theorem xR.lt {D : va_G} {cA : Nat → ClassId} {B0 : Heap} {ev : Nat → Value} {h : xH} {H : Heap} (hR : xR D cA B0 ev h H) {k : Nat} {c : xC} (hk : h[k]? = some c) : B0.size + k < H.size := by
  have := (List.getElem?_eq_some_iff.mp hk).1
  have := hR.1
  omega
/-- the words that stay true while the tables are warmed -/
def xgood : Jvm.Cond → Bool
  | .methodLinkNest .. => true
  | .castable .. => true
  | w => goodWord w
theorem xgood_warm {w : Jvm.Cond} (hg : xgood w = true) {s U : State} (hW : s.WarmedH U.vm) (h : va_Nw w s) : va_Nw w U := by
  cases w <;> first | exact va_Nw.warmM hW h | exact va_Nw.warmC hW h | exact word_at hW (good_of_word hg) h
theorem xgood_use {w : Jvm.Cond} (hg : xgood w = true) {s : State} {args : Array Value} (h : va_Nw w s) : w.before args s = true := by
  cases w <;> first | exact va_Nw.use rfl h | exact word_at (State.WarmedH.refl s) (good_of_word hg) h
theorem xgood_of {w : Jvm.Cond} (hg : xgood w = true) {s : State} {args : Array Value} (h : w.before args s = true) : va_Nw w s := by
  cases w <;> first | exact va_Nw.of rfl h | exact word_at (State.WarmedH.refl s) (good_of_word hg) h
theorem xAO_warm {ty : FieldType} {s U : State} (hW : s.WarmedH U.vm) (h : (Jvm.Cond.arrayOver ty).before #[] s = true) : (Jvm.Cond.arrayOver ty).before #[] U = true := by
  have h1 : (Jvm.Cond.arrayOver ty).before #[] (s.setVm U.vm) = true := by rw [Cond.arrayOver_setVmC hW.alike]; exact h
  exact h1
theorem xAO_use {ty : FieldType} {s : State} {args : Array Value} (h : (Jvm.Cond.arrayOver ty).before #[] s = true) : (Jvm.Cond.arrayOver ty).before args s = true := h
def xtys (cA : Nat → ClassId) : List (ClassId × FieldType) := [(cA 20, xaty 20), (cA 21, xaty 21), (cA 22, xaty 22), (cA 23, xaty 23), (cA 24, xaty 24), (cA 25, xaty 25), (cA 26, xaty 26)]
/-- an outer cell: the script, a constant text, its bytes -/
def xEx (B0 : Heap) (ev : Nat → Value) (j t : Nat) (vs : List Value) (U : State) : Prop := ∃ (a : Nat) (cell : Cell), ev j = .ref a ∧ a < B0.size ∧ B0[a]? = some cell ∧
  if t = 13 then cell.vm.isStatics = false ∧ U.vm.findClass "java/lang/String" = some cell.cls ∧ vs.length ≤ 2 ∧
    (∀ v, vs[0]? = some v → va_OF "java/lang/String" "value" "[B" (xv B0.size ev v) a (fun q => B0.size ≤ q) U B0) ∧ (∀ v, vs[1]? = some v → va_OF "java/lang/String" "coder" "B" (xv B0.size ev v) a (fun q => B0.size ≤ q) U B0)
  else (t = 20 ∨ t = 21) ∧ U.isArrayOf cell (xaty t) ∧ cell.vm ≠ .unknown ∧ vs.length ≤ cell.slots.size ∧ cell.slots.size.toInt32 = Int32.ofNat vs.length ∧ ∀ (i : Nat) (v : Value), vs[i]? = some v → cell.slots[i]? = some (xv B0.size ev v)
theorem xEx.warm {B0 : Heap} {ev : Nat → Value} {j t : Nat} {vs : List Value} {s U : State} (hW : s.WarmedH U.vm) (h : xEx B0 ev j t vs s) : xEx B0 ev j t vs U := by
  obtain ⟨a, cell, h1, h2, h3, h4⟩ := h
  refine ⟨a, cell, h1, h2, h3, ?_⟩
  by_cases ht : t = 13
  · rw [if_pos ht] at h4 ⊢
    obtain ⟨g1, g2, g3, g4, g5⟩ := h4
    exact ⟨g1, by rw [hW.alike.findClass]; exact g2, g3, fun v hv => (g4 v hv).moved hW.alike, fun v hv => (g5 v hv).moved hW.alike⟩
  · rw [if_neg ht] at h4 ⊢
    obtain ⟨g1, g2, g3⟩ := h4
    exact ⟨g1, State.isArrayOf_alike hW.alike g2, g3⟩
/-- what is known of a state's tables -/
def XF (B0 : Heap) (ev : Nat → Value) (ext : List xC) (D : va_G) (cA : Nat → ClassId) (U : State) : Prop :=
  (∀ w ∈ lw_tbl, xgood w = true → va_Nw w U) ∧ va_K D xcl (xtys cA) U ∧ (∀ t : Nat, 22 < t → t < 27 → (Jvm.Cond.arrayOver (xaty t)).before #[] U = true) ∧
  (∀ (j t : Nat) (vs : List Value), ext[j]? = some (t, vs) → xEx B0 ev j t vs U) ∧
  va_Z "java/lang/String" "COMPACT_STRINGS" "Z" (.int 1) (fun q => B0.size ≤ q) U B0 ∧ va_Z "jdk/internal/util/Preconditions" "SIOOBE_FORMATTER" "Ljava/util/function/BiFunction;" (ev 9) (fun q => B0.size ≤ q) U B0 ∧
  (∀ j : Nat, 0 < j → j < 5 → ∀ (own : String) (idx : Nat), Jvm.Cond.stringRef own idx (xstrT.getD j "") ∈ lw_tbl → ∃ a : Nat, ev j = .ref a ∧ vk_R own idx (xstrT.getD j "") a U)
theorem XF.warm {B0 : Heap} {ev : Nat → Value} {ext : List xC} {D : va_G} {cA : Nat → ClassId} {s U : State} (hW : s.WarmedH U.vm) (h : XF B0 ev ext D cA s) : XF B0 ev ext D cA U := by
  obtain ⟨h1, h2, h3, h4, h5, h6, h7⟩ := h
  refine ⟨fun w hw hg => xgood_warm hg hW (h1 w hw hg), h2.moved hW.alike, fun t a b => xAO_warm hW (h3 t a b), fun j t vs hj => (h4 j t vs hj).warm hW, h5.moved hW.alike, h6.moved hW.alike, fun j a b own idx hm => ?_⟩
  obtain ⟨q, q1, q2⟩ := h7 j a b own idx hm
  exact ⟨q, q1, q2.warm hW⟩
theorem XF.w {B0 : Heap} {ev : Nat → Value} {ext : List xC} {D : va_G} {cA : Nat → ClassId} {s : State} (h : XF B0 ev ext D cA s) {w : Jvm.Cond} (hw : w ∈ lw_tbl) (hg : xgood w = true) (args : Array Value) : w.before args s = true := xgood_use hg (h.1 w hw hg)
theorem xwI_mem {ps : List Nat} {j : Nat} {w : Jvm.Cond} (h : xwI ps j w = true) : w ∈ lw_tbl := by
  unfold xwI at h
  split at h
  · exact List.mem_of_getElem? (of_decide_eq_true h)
  · cases h
/-- every class's fields, as the tables lay them -/
theorem xlays : ∀ c ∈ xcl, ∀ w ∈ u_ws c.1 c.2.1 c.2.2, w ∈ lw_tbl ∧ xgood w = true := by decide +kernel
