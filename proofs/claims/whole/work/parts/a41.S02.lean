theorem BI_cg {pu le pu' le' : Int → Int} {ev tk hc ev' tk' hc' : Int} {hv hr he hv' hr' he' : Int → Int} {nv nr nv' nr' t t' : Int} (h : BI pu le ev tk hc hv hr he nv nr t) (e1 : ev' = ev) (e2 : tk' = tk) (e3 : hc' = hc) (e4 : nv' = nv) (e5 : nr' = nr) (ht : t ≤ t') (e6 : ∀ r, 0 ≤ r → r < nr → pu' r = pu r) (e7 : ∀ v, 0 ≤ v → v < nv → le' v = le v) (e8 : ∀ i, 0 ≤ i → i < hc → hv' i = hv i ∧ hr' i = hr i ∧ he' i = he i) : BI pu' le' ev' tk' hc' hv' hr' he' nv' nr' t' := by
  subst e1 e2 e3 e4 e5
  obtain ⟨a1, a2, a3, a4, a5, a6, a7⟩ := h
  refine ⟨by omega, a2, ?_, ?_, ?_, ?_, by omega⟩
  · intro r p q; rw [e6 r p q]; exact a3 r p q
  · intro v p q; rw [e7 v p q]; exact a4 v p q
  · intro v w p q p2 q2 ne
    rw [e7 v p q, e7 w p2 q2]; exact a5 v w p q p2 q2 ne
  · intro i p q
    have := e8 i p q
    rw [this.1, this.2.1, this.2.2]
    have := a6 i p q
    omega
theorem BP_cg {N N' : Int → Int} {u t t' : Int} (h : BP N u t) (hu : 0 ≤ u) (ht : t ≤ t') (e : ∀ j, 115 ≤ j → N' j = N j) (e0 : N' 0 = N 0) (e1 : N' 1 = N 1) : BP N' u t' := by
  unfold BP at h ⊢
  exact BI_cg h (e _ (by omega)) (e _ (by omega)) (e _ (by omega)) e0 e1 ht (fun r p q => e _ (by omega)) (fun r p q => e _ (by omega)) (fun r p q => ⟨e _ (by omega), e _ (by omega), e _ (by omega)⟩)
theorem NI_mono {N : Int → Int} {t t' : Int} (h : NI N t) (ht : t ≤ t') : NI N t' := by
  obtain ⟨h0, hV, hR, hD, hB, hP⟩ := h
  refine ⟨h0, hV, hR, hD, ?_, fun u p q => BP_cg (hP u p q) p ht (fun _ _ => rfl) rfl rfl⟩
  unfold BN at hB ⊢
  exact BI_cg hB rfl rfl rfl rfl rfl ht (fun r p q => rfl) (fun r p q => rfl) (fun r p q => ⟨rfl, rfl, rfl⟩)
theorem z115_lo {N : Int → Int} {j : Int} (h : 0 ≤ j ∧ j < 115) : z115 N j = 0 := if_pos h
theorem NI_z {N : Int → Int} {t : Int} (ht : 0 ≤ t) : NI (z115 N) t := by
  have z := fun j h => z115_lo (N := N) (j := j) h
  have e0 := z 0 (by omega)
  have e1 := z 1 (by omega)
  have e2 := z 2 (by omega)
  have e3 := z 3 (by omega)
  have e4 := z 4 (by omega)
  have e5 := z 5 (by omega)
  have e6 := z 6 (by omega)
  refine ⟨by omega, fun v p q => by omega, fun v p q => by omega, fun v p q => by omega, ⟨by omega, by omega, ?_, ?_, ?_, ?_, by omega⟩, fun v p q => by omega⟩
  · intro r p q; omega
  · intro r p q; omega
  · intro v w p q; omega
  · intro r p q; omega
/-- of a row that was read -/
theorem NI_rdB {R N : Int → Int} {t : Int} (h : NA R) (ht : 0 ≤ t) : NI (fun j => if 0 ≤ j ∧ j < 115 then R j else N j) t := by
  obtain ⟨h0, h1, hV, hR, hp, hl, h2, h3, h4, h5, h6⟩ := h
  have e : ∀ j, 0 ≤ j → j < 115 → (fun j => if 0 ≤ j ∧ j < 115 then R j else N j) j = R j := fun j a b => if_pos ⟨a, b⟩
  have e0 := e 0 (by omega) (by omega)
  have e1 := e 1 (by omega) (by omega)
  have e2 := e 2 (by omega) (by omega)
  have e3 := e 3 (by omega) (by omega)
  have e4 := e 4 (by omega) (by omega)
  have e5 := e 5 (by omega) (by omega)
  have e6 := e 6 (by omega) (by omega)
  generalize (fun j => if 0 ≤ j ∧ j < 115 then R j else N j) = M at *
  refine ⟨by omega, ?_, ?_, ?_, ⟨by omega, by omega, ?_, ?_, ?_, ?_, by omega⟩, ?_⟩
  · intro v p q
    rw [e _ (by omega) (by omega), e _ (by omega) (by omega), e _ (by omega) (by omega), e _ (by omega) (by omega), e _ (by omega) (by omega)]
    exact hV v p (by omega)
  · intro r p q
    rw [e _ (by omega) (by omega), e _ (by omega) (by omega)]
    exact hR r p (by omega)
  · intro r p q; omega
  · intro r p q
    show 0 ≤ M (43 + 3 * r + 1) ∧ M (43 + 3 * r + 1) ≤ 999
    rw [e _ (by omega) (by omega)]
    exact hp r p (by omega)
  · intro v p q
    show -1 ≤ M (7 + 6 * v + 4) ∧ M (7 + 6 * v + 4) < 6
    rw [e _ (by omega) (by omega), hl v p (by omega)]
    omega
  · intro v w p q _ _ _ _
    show M (7 + 6 * v + 4) = -1
    rw [e _ (by omega) (by omega), hl v p (by omega)]
  · intro i p q; omega
  · intro i p q; omega
theorem NI_vw {N : Int → Int} {k s p w t : Int} (h : NI N t) (h6 : N 0 ≠ 6) (hk : 0 ≤ k ∧ k ≤ 5) (hs : 1 ≤ s ∧ s ≤ 9) (hp : 0 ≤ p ∧ p ≤ 99) (hw : 0 ≤ w ∧ w ≤ 5) : NI (vwN N k s p w) t := by
  obtain ⟨h0, hV, hR, hD, hB, hP⟩ := h
  have o : ∀ j, j ≠ 0 → j ≠ 6 → (j < 7 + 6 * N 0 ∨ 7 + 6 * N 0 + 5 < j) → vwN N k s p w j = N j := by
    intro j x y z
    unfold vwN
    rw [if_neg y, if_neg x, if_neg (by omega), if_neg (by omega), if_neg (by omega), if_neg (by omega), if_neg (by omega), if_neg (by omega)]
  have e0 : vwN N k s p w 0 = N 0 + 1 := by unfold vwN; rw [if_neg (by omega), if_pos rfl]
  have e6 : vwN N k s p w 6 = 0 := by unfold vwN; rw [if_pos rfl]
  have v0 : vwN N k s p w (7 + 6 * N 0 + 0) = k := by unfold vwN; rw [if_neg (by omega), if_neg (by omega), if_neg (by omega), if_neg (by omega), if_neg (by omega), if_neg (by omega), if_neg (by omega), if_pos (by omega)]
  have v1 : vwN N k s p w (7 + 6 * N 0 + 1) = s := by unfold vwN; rw [if_neg (by omega), if_neg (by omega), if_neg (by omega), if_neg (by omega), if_neg (by omega), if_neg (by omega), if_pos (by omega)]
  have v2 : vwN N k s p w (7 + 6 * N 0 + 2) = p := by unfold vwN; rw [if_neg (by omega), if_neg (by omega), if_neg (by omega), if_neg (by omega), if_neg (by omega), if_pos (by omega)]
  have v3 : vwN N k s p w (7 + 6 * N 0 + 3) = w := by unfold vwN; rw [if_neg (by omega), if_neg (by omega), if_neg (by omega), if_neg (by omega), if_pos (by omega)]
  have v4 : vwN N k s p w (7 + 6 * N 0 + 4) = -1 := by unfold vwN; rw [if_neg (by omega), if_neg (by omega), if_neg (by omega), if_pos (by omega)]
  have v5 : vwN N k s p w (7 + 6 * N 0 + 5) = 0 := by unfold vwN; rw [if_neg (by omega), if_neg (by omega), if_pos (by omega)]
  generalize vwN N k s p w = M at *
  have o1 := o 1 (by omega) (by omega) (by omega)
  have o2 := o 2 (by omega) (by omega) (by omega)
  have o3 := o 3 (by omega) (by omega) (by omega)
  have o4 := o 4 (by omega) (by omega) (by omega)
  have o5 := o 5 (by omega) (by omega) (by omega)
  obtain ⟨b1, b2, b3, b4, b5, b6, b7⟩ := hB
  have le4 : ∀ v, 0 ≤ v → v < N 0 + 1 → M (7 + 6 * v + 4) = if v = N 0 then -1 else N (7 + 6 * v + 4) := by
    intro v x y
    by_cases e : v = N 0
    · rw [if_pos e, e]; exact v4
    · rw [if_neg e]; exact o _ (by omega) (by omega) (by omega)
  refine ⟨by omega, ?_, ?_, ?_, ⟨by omega, by omega, ?_, ?_, ?_, ?_, by omega⟩, ?_⟩
  · intro v x y
    by_cases e : v = N 0
    · subst e; rw [v0, v1, v2, v3, v5]; omega
    · rw [o _ (by omega) (by omega) (by omega), o _ (by omega) (by omega) (by omega), o _ (by omega) (by omega) (by omega), o _ (by omega) (by omega) (by omega), o _ (by omega) (by omega) (by omega)]
      exact hV v x (by omega)
  · intro r x y
    rw [o _ (by omega) (by omega) (by omega), o _ (by omega) (by omega) (by omega)]
    exact hR r x (by omega)
  · intro r x y
    rw [o _ (by omega) (by omega) (by omega), o _ (by omega) (by omega) (by omega), o _ (by omega) (by omega) (by omega)]
    exact hD r x (by omega)
  · intro r x y
    show 0 ≤ M (43 + 3 * r + 1) ∧ M (43 + 3 * r + 1) ≤ 999
    rw [o _ (by omega) (by omega) (by omega)]
    exact b3 r x (by omega)
  · intro v x y
    show -1 ≤ M (7 + 6 * v + 4) ∧ M (7 + 6 * v + 4) < 6
    rw [le4 v x (by omega)]
    split
    · omega
    · exact b4 v x (by omega)
  · intro v u x y x2 y2 ne e
    show M (7 + 6 * v + 4) = -1
    have e : M (7 + 6 * v + 4) = M (7 + 6 * u + 4) := e
    rw [le4 v x (by omega), le4 u x2 (by omega)] at e
    rw [le4 v x (by omega)]
    by_cases q : v = N 0
    · rw [if_pos q]
    · rw [if_neg q] at e ⊢
      by_cases q2 : u = N 0
      · rw [if_pos q2] at e; exact e
      · rw [if_neg q2] at e
        exact b5 v u x (by omega) x2 (by omega) ne e
  · intro i x y
    show (0 ≤ M (61 + 3 * i) ∧ M (61 + 3 * i) < 6) ∧ (0 ≤ M (61 + 3 * i + 1) ∧ M (61 + 3 * i + 1) < 6) ∧ (0 ≤ M (61 + 3 * i + 2) ∧ M (61 + 3 * i + 2) ≤ t)
    rw [o _ (by omega) (by omega) (by omega), o _ (by omega) (by omega) (by omega), o _ (by omega) (by omega) (by omega)]
    exact b6 i x (by omega)
  · intro u x y; omega
theorem NI_rn {N : Int → Int} {w p a t : Int} (h : NI N t) (h6 : N 1 ≠ 6) (hw : 1 ≤ w ∧ w ≤ 9) (hp : 0 ≤ p ∧ p ≤ 999) (ha : 0 ≤ a ∧ a ≤ 6) : NI (rnN N w p a) t := by
  obtain ⟨h0, hV, hR, hD, hB, hP⟩ := h
  have o : ∀ j, j ≠ 1 → j ≠ 6 → (j < 43 + 3 * N 1 ∨ 43 + 3 * N 1 + 2 < j) → rnN N w p a j = N j := by
    intro j x y z
    unfold rnN
    rw [if_neg y, if_neg x, if_neg (by omega), if_neg (by omega), if_neg (by omega)]
  have e1 : rnN N w p a 1 = N 1 + 1 := by unfold rnN; rw [if_neg (by omega), if_pos rfl]
  have e6 : rnN N w p a 6 = 0 := by unfold rnN; rw [if_pos rfl]
  have v0 : rnN N w p a (43 + 3 * N 1 + 0) = w := by unfold rnN; rw [if_neg (by omega), if_neg (by omega), if_neg (by omega), if_neg (by omega), if_pos (by omega)]
  have v1 : rnN N w p a (43 + 3 * N 1 + 1) = p := by unfold rnN; rw [if_neg (by omega), if_neg (by omega), if_neg (by omega), if_pos (by omega)]
  have v2 : rnN N w p a (43 + 3 * N 1 + 2) = a := by unfold rnN; rw [if_neg (by omega), if_neg (by omega), if_pos (by omega)]
  generalize rnN N w p a = M at *
  have o0 := o 0 (by omega) (by omega) (by omega)
  have o2 := o 2 (by omega) (by omega) (by omega)
  have o3 := o 3 (by omega) (by omega) (by omega)
  have o4 := o 4 (by omega) (by omega) (by omega)
  have o5 := o 5 (by omega) (by omega) (by omega)
  obtain ⟨b1, b2, b3, b4, b5, b6, b7⟩ := hB
  refine ⟨by omega, ?_, ?_, ?_, ⟨by omega, by omega, ?_, ?_, ?_, ?_, by omega⟩, ?_⟩
  · intro v x y
    rw [o _ (by omega) (by omega) (by omega), o _ (by omega) (by omega) (by omega), o _ (by omega) (by omega) (by omega), o _ (by omega) (by omega) (by omega), o _ (by omega) (by omega) (by omega)]
    exact hV v x (by omega)
  · intro r x y
    by_cases e : r = N 1
    · subst e; rw [v0, v2]; omega
    · rw [o _ (by omega) (by omega) (by omega), o _ (by omega) (by omega) (by omega)]
      exact hR r x (by omega)
  · intro r x y
    rw [o _ (by omega) (by omega) (by omega), o _ (by omega) (by omega) (by omega), o _ (by omega) (by omega) (by omega)]
    exact hD r x (by omega)
  · intro r x y
    show 0 ≤ M (43 + 3 * r + 1) ∧ M (43 + 3 * r + 1) ≤ 999
    by_cases e : r = N 1
    · subst e; rw [v1]; exact hp
    · rw [o _ (by omega) (by omega) (by omega)]
      exact b3 r x (by omega)
  · intro v x y
    show -1 ≤ M (7 + 6 * v + 4) ∧ M (7 + 6 * v + 4) < 6
    rw [o _ (by omega) (by omega) (by omega)]
    exact b4 v x (by omega)
  · intro v u x y x2 y2 ne e
    show M (7 + 6 * v + 4) = -1
    have e : M (7 + 6 * v + 4) = M (7 + 6 * u + 4) := e
    rw [o _ (by omega) (by omega) (by omega), o (7 + 6 * u + 4) (by omega) (by omega) (by omega)] at e
    rw [o _ (by omega) (by omega) (by omega)]
    exact b5 v u x (by omega) x2 (by omega) ne e
  · intro i x y
    show (0 ≤ M (61 + 3 * i) ∧ M (61 + 3 * i) < 6) ∧ (0 ≤ M (61 + 3 * i + 1) ∧ M (61 + 3 * i + 1) < 6) ∧ (0 ≤ M (61 + 3 * i + 2) ∧ M (61 + 3 * i + 2) ≤ t)
    rw [o _ (by omega) (by omega) (by omega), o _ (by omega) (by omega) (by omega), o _ (by omega) (by omega) (by omega)]
    exact b6 i x (by omega)
  · intro u x y; omega
/-- a place outside what the Books need is changed -/
theorem NI_ex {N : Int → Int} {v s t : Int} (h : NI N t) (hv : 0 ≤ v ∧ v < N 0) (hs : 0 ≤ s ∧ s ≤ 255) : NI (ex1 N (7 + 6 * v + 5) s) t := by
  obtain ⟨h0, hV, hR, hD, hB, hP⟩ := h
  have o : ∀ j, j ≠ 7 + 6 * v + 5 → ex1 N (7 + 6 * v + 5) s j = N j := fun j x => if_neg x
  have e : ex1 N (7 + 6 * v + 5) s (7 + 6 * v + 5) = s := if_pos rfl
  generalize ex1 N (7 + 6 * v + 5) s = M at *
  have o0 := o 0 (by omega)
  have o1 := o 1 (by omega)
  have o2 := o 2 (by omega)
  have o3 := o 3 (by omega)
  have o4 := o 4 (by omega)
  have o5 := o 5 (by omega)
  have o6 := o 6 (by omega)
  refine ⟨by omega, ?_, ?_, ?_, ?_, ?_⟩
  · intro u x y
    have := hV u x (by omega)
    rw [o (7 + 6 * u + 0) (by omega), o (7 + 6 * u + 1) (by omega), o (7 + 6 * u + 2) (by omega), o (7 + 6 * u + 3) (by omega)]
    by_cases q : u = v
    · subst q; rw [e]; omega
    · rw [o (7 + 6 * u + 5) (by omega)]; exact this
  · intro r x y
    rw [o _ (by omega), o _ (by omega)]
    exact hR r x (by omega)
  · intro r x y
    rw [o _ (by omega), o _ (by omega), o _ (by omega)]
    exact hD r x (by omega)
  · unfold BN at hB ⊢
    exact BI_cg hB o2 o3 o4 o0 o1 (Int.le_refl t) (fun r p q => o _ (by omega)) (fun r p q => o _ (by omega)) (fun r p q => ⟨o _ (by omega), o _ (by omega), o _ (by omega)⟩)
  · intro u x y
    exact BP_cg (hP u x (by omega)) x (Int.le_refl t) (fun j q => o j (by omega)) o0 o1
theorem NI_rd {N : Int → Int} {v e w t : Int} (h : NI N t) (h6 : N 5 ≠ 6) (hv : 0 ≤ v ∧ v < 6) (he : 0 ≤ e ∧ e ≤ 99) (hw : 0 ≤ w ∧ w ≤ 5) : NI (rdN N v e w) t := by
  obtain ⟨h0, hV, hR, hD, hB, hP⟩ := h
  have o : ∀ j, j ≠ 5 → (j < 97 + 3 * N 5 ∨ 97 + 3 * N 5 + 2 < j) → rdN N v e w j = N j := by
    intro j x z
    unfold rdN
    rw [if_neg x, if_neg (by omega), if_neg (by omega), if_neg (by omega)]
  have e5 : rdN N v e w 5 = N 5 + 1 := by unfold rdN; rw [if_pos rfl]
  have v0 : rdN N v e w (97 + 3 * N 5) = v := by unfold rdN; rw [if_neg (by omega), if_neg (by omega), if_neg (by omega), if_pos (by omega)]
  have v1 : rdN N v e w (97 + 3 * N 5 + 1) = e := by unfold rdN; rw [if_neg (by omega), if_neg (by omega), if_pos (by omega)]
  have v2 : rdN N v e w (97 + 3 * N 5 + 2) = w := by unfold rdN; rw [if_neg (by omega), if_pos (by omega)]
  generalize rdN N v e w = M at *
  have o0 := o 0 (by omega) (by omega)
  have o1 := o 1 (by omega) (by omega)
  have o2 := o 2 (by omega) (by omega)
  have o3 := o 3 (by omega) (by omega)
  have o4 := o 4 (by omega) (by omega)
  have o6 := o 6 (by omega) (by omega)
  have hc : 0 ≤ N 4 ∧ N 4 ≤ 12 := hB.2.1
  refine ⟨by omega, ?_, ?_, ?_, ?_, ?_⟩
  · intro u x y
    rw [o _ (by omega) (by omega), o _ (by omega) (by omega), o _ (by omega) (by omega), o _ (by omega) (by omega), o _ (by omega) (by omega)]
    exact hV u x (by omega)
  · intro r x y
    rw [o _ (by omega) (by omega), o _ (by omega) (by omega)]
    exact hR r x (by omega)
  · intro r x y
    by_cases q : r = N 5
    · subst q; rw [v0, v1, v2]; omega
    · rw [o _ (by omega) (by omega), o _ (by omega) (by omega), o _ (by omega) (by omega)]
      exact hD r x (by omega)
  · unfold BN at hB ⊢
    exact BI_cg hB o2 o3 o4 o0 o1 (Int.le_refl t) (fun r p q => o _ (by omega) (by omega)) (fun r p q => o _ (by omega) (by omega)) (fun r p q => ⟨o _ (by omega) (by omega), o _ (by omega) (by omega), o _ (by omega) (by omega)⟩)
  · intro u x y
    exact BP_cg (hP u x (by omega)) x (Int.le_refl t) (fun j q => o j (by omega) (by omega)) o0 o1
theorem NI_fg {N : Int → Int} {t : Int} (h : NI N t) : NI (ex1 N 5 0) t := by
  obtain ⟨h0, hV, hR, hD, hB, hP⟩ := h
  have o : ∀ j, j ≠ 5 → ex1 N 5 0 j = N j := fun j x => if_neg x
  have e : ex1 N 5 0 5 = 0 := if_pos rfl
  generalize ex1 N 5 0 = M at *
  have o0 := o 0 (by omega)
  have o1 := o 1 (by omega)
  have o2 := o 2 (by omega)
  have o3 := o 3 (by omega)
  have o4 := o 4 (by omega)
  have o6 := o 6 (by omega)
  refine ⟨by omega, ?_, ?_, ?_, ?_, ?_⟩
  · intro u x y
    rw [o _ (by omega), o _ (by omega), o _ (by omega), o _ (by omega), o _ (by omega)]
    exact hV u x (by omega)
  · intro r x y
    rw [o _ (by omega), o _ (by omega)]
    exact hR r x (by omega)
  · intro r x y; omega
  · unfold BN at hB ⊢
    exact BI_cg hB o2 o3 o4 o0 o1 (Int.le_refl t) (fun r p q => o _ (by omega)) (fun r p q => o _ (by omega)) (fun r p q => ⟨o _ (by omega), o _ (by omega), o _ (by omega)⟩)
  · intro u x y
    exact BP_cg (hP u x (by omega)) x (Int.le_refl t) (fun j q => o j (by omega)) o0 o1
