section
variable {N : Int → Int} {t : Int}
theorem kpA_lo {j : Int} (h : j < 115) (h6 : j ≠ 6) : kpA N j = N j := by
  unfold kpA
  rw [if_neg (by omega), if_neg h6]
theorem kpA_hi {j : Int} (h : 115 ≤ j) (h2 : j < 472) : kpA N j = N (j + 51) := if_pos ⟨h, h2⟩
theorem kpA_6 : kpA N 6 = 7 := by unfold kpA; rw [if_neg (by omega), if_pos rfl]
theorem NI_kpA (h : NI N t) (h8 : N 6 = 8) : NI (kpA N) t := by
  obtain ⟨h0, hV, hR, hD, hB, hP⟩ := h
  have o := fun j (a : j < 115) b => kpA_lo (N := N) (j := j) a b
  have o0 := o 0 (by omega) (by omega)
  have o1 := o 1 (by omega) (by omega)
  have o2 := o 2 (by omega) (by omega)
  have o3 := o 3 (by omega) (by omega)
  have o4 := o 4 (by omega) (by omega)
  have o5 := o 5 (by omega) (by omega)
  have o6 := kpA_6 (N := N)
  have hi := fun j (a : 115 ≤ j) b => kpA_hi (N := N) (j := j) a b
  generalize kpA N = M at *
  have hc : 0 ≤ N 4 ∧ N 4 ≤ 12 := hB.2.1
  refine ⟨by omega, ?_, ?_, ?_, ?_, ?_⟩
  · intro u x y
    rw [o _ (by omega) (by omega), o _ (by omega) (by omega), o _ (by omega) (by omega), o _ (by omega) (by omega), o _ (by omega) (by omega)]
    exact hV u x (by omega)
  · intro r x y
    rw [o _ (by omega) (by omega), o _ (by omega) (by omega)]
    exact hR r x (by omega)
  · intro r x y
    rw [o _ (by omega) (by omega), o _ (by omega) (by omega), o _ (by omega) (by omega)]
    exact hD r x (by omega)
  · unfold BN at hB ⊢
    exact BI_cg hB o2 o3 o4 o0 o1 (Int.le_refl t) (fun r p q => o _ (by omega) (by omega)) (fun r p q => o _ (by omega) (by omega)) (fun r p q => ⟨o _ (by omega) (by omega), o _ (by omega) (by omega), o _ (by omega) (by omega)⟩)
  · intro u x y
    have hp := hP (u + 1) (by omega) (by omega)
    unfold BP at hp ⊢
    have hc2 : 0 ≤ N (115 + 51 * (u + 1) + 14) ∧ N (115 + 51 * (u + 1) + 14) ≤ 12 := hp.2.1
    refine BI_cg hp ?_ ?_ ?_ o0 o1 (Int.le_refl t) (fun r p q => ?_) (fun r p q => ?_) (fun r p q => ⟨?_, ?_, ?_⟩)
    · rw [hi _ (by omega) (by omega)]; congr 1; omega
    · rw [hi _ (by omega) (by omega)]; congr 1; omega
    · rw [hi _ (by omega) (by omega)]; congr 1; omega
    · show M _ = N _
      rw [hi _ (by omega) (by omega)]; congr 1; omega
    · show M _ = N _
      rw [hi _ (by omega) (by omega)]; congr 1; omega
    · show M _ = N _
      rw [hi _ (by omega) (by omega)]; congr 1; omega
    · show M _ = N _
      rw [hi _ (by omega) (by omega)]; congr 1; omega
    · show M _ = N _
      rw [hi _ (by omega) (by omega)]; congr 1; omega
theorem kpB_lo {j : Int} (hn : 0 ≤ N 6) (h : j < 115 + 51 * N 6) (h6 : j ≠ 6) : kpB N j = N j := by
  unfold kpB
  rw [if_neg (by omega), if_neg (by omega), if_neg (by omega), if_neg (by omega), if_neg (by omega), if_neg (by omega), if_neg h6]
theorem kpB_6 (hn : 0 ≤ N 6) : kpB N 6 = N 6 + 1 := by
  unfold kpB
  rw [if_neg (by omega), if_neg (by omega), if_neg (by omega), if_neg (by omega), if_neg (by omega), if_neg (by omega), if_pos rfl]
theorem kpB_pu {r : Int} (h : 0 ≤ r ∧ r < 6) : kpB N (115 + 51 * N 6 + r) = N (43 + 3 * r + 1) := by
  unfold kpB
  rw [if_pos (by omega)]; congr 1; omega
theorem kpB_le {v : Int} (h : 0 ≤ v ∧ v < 6) : kpB N (115 + 51 * N 6 + 6 + v) = N (7 + 6 * v + 4) := by
  unfold kpB
  rw [if_neg (by omega), if_pos (by omega)]; congr 1; omega
theorem kpB_12 : kpB N (115 + 51 * N 6 + 12) = N 2 := by
  unfold kpB
  rw [if_neg (by omega), if_neg (by omega), if_pos rfl]
theorem kpB_13 : kpB N (115 + 51 * N 6 + 13) = N 3 := by
  unfold kpB
  rw [if_neg (by omega), if_neg (by omega), if_neg (by omega), if_pos rfl]
theorem kpB_14 : kpB N (115 + 51 * N 6 + 14) = N 4 := by
  unfold kpB
  rw [if_neg (by omega), if_neg (by omega), if_neg (by omega), if_neg (by omega), if_pos rfl]
theorem kpB_h {i : Int} (h : 0 ≤ i ∧ i < 36) : kpB N (115 + 51 * N 6 + 15 + i) = N (61 + i) := by
  unfold kpB
  rw [if_neg (by omega), if_neg (by omega), if_neg (by omega), if_neg (by omega), if_neg (by omega), if_pos (by omega)]; congr 1; omega
theorem NI_kpB (h : NI N t) (h8 : N 6 ≤ 7) : NI (kpB N) t := by
  obtain ⟨h0, hV, hR, hD, hB, hP⟩ := h
  have o := fun j a b => kpB_lo (N := N) (j := j) h0.2.2.2.1 a b
  have o0 := o 0 (by omega) (by omega)
  have o1 := o 1 (by omega) (by omega)
  have o2 := o 2 (by omega) (by omega)
  have o3 := o 3 (by omega) (by omega)
  have o4 := o 4 (by omega) (by omega)
  have o5 := o 5 (by omega) (by omega)
  have o6 := kpB_6 (N := N) h0.2.2.2.1
  have hc : 0 ≤ N 4 ∧ N 4 ≤ 12 := hB.2.1
  refine ⟨by omega, ?_, ?_, ?_, ?_, ?_⟩
  · intro u x y
    rw [o _ (by omega) (by omega), o _ (by omega) (by omega), o _ (by omega) (by omega), o _ (by omega) (by omega), o _ (by omega) (by omega)]
    exact hV u x (by omega)
  · intro r x y
    rw [o _ (by omega) (by omega), o _ (by omega) (by omega)]
    exact hR r x (by omega)
  · intro r x y
    rw [o _ (by omega) (by omega), o _ (by omega) (by omega), o _ (by omega) (by omega)]
    exact hD r x (by omega)
  · unfold BN at hB ⊢
    exact BI_cg hB o2 o3 o4 o0 o1 (Int.le_refl t) (fun r p q => o _ (by omega) (by omega)) (fun r p q => o _ (by omega) (by omega)) (fun r p q => ⟨o _ (by omega) (by omega), o _ (by omega) (by omega), o _ (by omega) (by omega)⟩)
  · intro u x y
    by_cases e : u = N 6
    · subst e
      unfold BN at hB
      unfold BP
      refine BI_cg hB kpB_12 kpB_13 kpB_14 o0 o1 (Int.le_refl t) (fun r p q => kpB_pu (by omega)) (fun r p q => kpB_le (by omega)) (fun r p q => ⟨kpB_h (by omega), ?_, ?_⟩)
      · show kpB N (115 + 51 * N 6 + 15 + (3 * r + 1)) = N (61 + 3 * r + 1)
        rw [kpB_h (by omega)]; congr 1; omega
      · show kpB N (115 + 51 * N 6 + 15 + (3 * r + 2)) = N (61 + 3 * r + 2)
        rw [kpB_h (by omega)]; congr 1; omega
    · have hp := hP u x (by omega)
      unfold BP at hp ⊢
      have hc2 : 0 ≤ N (115 + 51 * u + 14) ∧ N (115 + 51 * u + 14) ≤ 12 := hp.2.1
      exact BI_cg hp (o _ (by omega) (by omega)) (o _ (by omega) (by omega)) (o _ (by omega) (by omega)) o0 o1 (Int.le_refl t) (fun r p q => o _ (by omega) (by omega)) (fun r p q => o _ (by omega) (by omega)) (fun r p q => ⟨o _ (by omega) (by omega), o _ (by omega) (by omega), o _ (by omega) (by omega)⟩)
theorem NI_kp (h : NI N t) : NI (kpN N) t := by
  have h0 := h.1
  unfold kpN
  split
  · rename_i h8
    exact NI_kpB (NI_kpA h h8) (by rw [kpA_6]; omega)
  · exact NI_kpB h (by omega)
theorem ng_o {j : Int} (h2 : j ≠ 2) (h : ¬ ((11 ≤ j ∧ j < 11 + 6 * N 0) ∧ (j - 11) % 6 = 0)) : ngN N j = N j := by
  unfold ngN
  rw [if_neg h2, if_neg h]
theorem ng_l {v : Int} (h : 0 ≤ v ∧ v < N 0) : ngN N (7 + 6 * v + 4) = -1 := by
  unfold ngN
  rw [if_neg (by omega), if_pos (by omega)]
theorem ng_2 : ngN N 2 = N 2 + 1 := by unfold ngN; rw [if_pos rfl]
theorem NI_ng (h : NI N t) : NI (ngN N) (t + 1) := by
  have h := h
  obtain ⟨h0, hV, hR, hD, hB, hP⟩ := h
  have o := fun j a b => ng_o (N := N) (j := j) a b
  have l := fun v a => ng_l (N := N) (v := v) a
  have e2 := ng_2 (N := N)
  have o0 := o 0 (by omega) (by omega)
  have o1 := o 1 (by omega) (by omega)
  have o3 := o 3 (by omega) (by omega)
  have o4 := o 4 (by omega) (by omega)
  have o5 := o 5 (by omega) (by omega)
  have o6 := o 6 (by omega) (by omega)
  generalize ngN N = M at *
  obtain ⟨b1, b2, b3, b4, b5, b6, b7⟩ := hB
  refine ⟨by omega, ?_, ?_, ?_, ⟨by omega, by omega, ?_, ?_, ?_, ?_, by omega⟩, ?_⟩
  · intro u x y
    rw [o _ (by omega) (by omega), o _ (by omega) (by omega), o _ (by omega) (by omega), o _ (by omega) (by omega), o _ (by omega) (by omega)]
    exact hV u x (by omega)
  · intro r x y
    rw [o _ (by omega) (by omega), o _ (by omega) (by omega)]
    exact hR r x (by omega)
  · intro r x y
    rw [o _ (by omega) (by omega), o _ (by omega) (by omega), o _ (by omega) (by omega)]
    exact hD r x (by omega)
  · intro r x y
    show 0 ≤ M (43 + 3 * r + 1) ∧ M (43 + 3 * r + 1) ≤ 999
    rw [o _ (by omega) (by omega)]
    exact b3 r x (by omega)
  · intro v x y
    show -1 ≤ M (7 + 6 * v + 4) ∧ M (7 + 6 * v + 4) < 6
    rw [l v (by omega)]
    omega
  · intro v u x y _ _ _ _
    exact l v (by omega)
  · intro i x y
    show (0 ≤ M (61 + 3 * i) ∧ M (61 + 3 * i) < 6) ∧ (0 ≤ M (61 + 3 * i + 1) ∧ M (61 + 3 * i + 1) < 6) ∧ (0 ≤ M (61 + 3 * i + 2) ∧ M (61 + 3 * i + 2) ≤ t + 1)
    rw [o _ (by omega) (by omega), o _ (by omega) (by omega), o _ (by omega) (by omega)]
    have : (0 ≤ N (61 + 3 * i) ∧ N (61 + 3 * i) < 6) ∧ (0 ≤ N (61 + 3 * i + 1) ∧ N (61 + 3 * i + 1) < 6) ∧ (0 ≤ N (61 + 3 * i + 2) ∧ N (61 + 3 * i + 2) ≤ t) := b6 i x (by omega)
    omega
  · intro u x y
    exact BP_cg (hP u x (by omega)) x (by omega) (fun j q => o j (by omega) (by omega)) o0 o1
theorem lt_o {v r c j : Int} (h1 : j ≠ 7 + 6 * v + 4) (h2 : j ≠ 43 + 3 * r + 1) (h3 : j ≠ 3) : ltN N v r c j = N j := by
  unfold ltN
  rw [if_neg h1, if_neg h2, if_neg h3]
theorem lt_v {v r c : Int} : ltN N v r c (7 + 6 * v + 4) = r := if_pos rfl
theorem lt_p {v r c : Int} (h : 43 + 3 * r + 1 ≠ 7 + 6 * v + 4) : ltN N v r c (43 + 3 * r + 1) = N (43 + 3 * r + 1) - c := by
  unfold ltN
  rw [if_neg h, if_pos rfl]
theorem lt_3 {v r c : Int} (h1 : 3 ≠ 7 + 6 * v + 4) (h2 : 3 ≠ 43 + 3 * r + 1) : ltN N v r c 3 = N 3 + c := by
  unfold ltN
  rw [if_neg h1, if_neg h2, if_pos rfl]
theorem rmA_lo {j : Int} (h : j < 61 ∨ 94 ≤ j) (h4 : j ≠ 4) : rmA N j = N j := by
  unfold rmA
  rw [if_neg (by omega), if_neg h4]
theorem rmA_h {j : Int} (h : 61 ≤ j ∧ j < 94) : rmA N j = N (j + 3) := if_pos h
theorem rmA_4 : rmA N 4 = 11 := by unfold rmA; rw [if_neg (by omega), if_pos rfl]
theorem rmB_o {v r j : Int} (h : j < 61 + 3 * N 4 ∨ 61 + 3 * N 4 + 2 < j) (h4 : j ≠ 4) : rmB N v r j = N j := by
  unfold rmB
  rw [if_neg (by omega), if_neg (by omega), if_neg (by omega), if_neg h4]
theorem rmB_4 {v r : Int} (h : 0 ≤ N 4) : rmB N v r 4 = N 4 + 1 := by
  unfold rmB
  rw [if_neg (by omega), if_neg (by omega), if_neg (by omega), if_pos rfl]
theorem rmB_v {v r : Int} : rmB N v r (61 + 3 * N 4) = v := if_pos rfl
theorem rmB_r {v r : Int} : rmB N v r (61 + 3 * N 4 + 1) = r := by
  unfold rmB
  rw [if_neg (by omega), if_pos rfl]
theorem rmB_e {v r : Int} : rmB N v r (61 + 3 * N 4 + 2) = N 2 := by
  unfold rmB
  rw [if_neg (by omega), if_neg (by omega), if_pos rfl]
theorem NI_lt {v r c : Int} (h : NI N t) (hv : 0 ≤ v ∧ v < N 0) (hr : 0 ≤ r ∧ r < N 1) (hc : 0 ≤ c ∧ c ≤ N (43 + 3 * r + 1) ∧ c ≤ 200) (hf : ∀ w, 0 ≤ w → w < N 0 → N (7 + 6 * w + 4) ≠ r) : NI (ltN N v r c) (t + 1) := by
  have h := h
  obtain ⟨h0, hV, hR, hD, hB, hP⟩ := h
  have o := fun j a b d => lt_o (N := N) (v := v) (r := r) (c := c) (j := j) a b d
  have e3 := lt_3 (N := N) (v := v) (r := r) (c := c) (by omega) (by omega)
  have ep := lt_p (N := N) (v := v) (r := r) (c := c) (by omega)
  have ev := lt_v (N := N) (v := v) (r := r) (c := c)
  have o0 := o 0 (by omega) (by omega) (by omega)
  have o1 := o 1 (by omega) (by omega) (by omega)
  have o2 := o 2 (by omega) (by omega) (by omega)
  have o4 := o 4 (by omega) (by omega) (by omega)
  have o5 := o 5 (by omega) (by omega) (by omega)
  have o6 := o 6 (by omega) (by omega) (by omega)
  generalize ltN N v r c = M at *
  obtain ⟨b1, b2, b3, b4, b5, b6, b7⟩ := hB
  refine ⟨by omega, ?_, ?_, ?_, ⟨by omega, by omega, ?_, ?_, ?_, ?_, by omega⟩, ?_⟩
  · intro u x y
    rw [o _ (by omega) (by omega) (by omega), o _ (by omega) (by omega) (by omega), o _ (by omega) (by omega) (by omega), o _ (by omega) (by omega) (by omega), o _ (by omega) (by omega) (by omega)]
    exact hV u x (by omega)
  · intro u x y
    rw [o _ (by omega) (by omega) (by omega), o _ (by omega) (by omega) (by omega)]
    exact hR u x (by omega)
  · intro u x y
    rw [o _ (by omega) (by omega) (by omega), o _ (by omega) (by omega) (by omega), o _ (by omega) (by omega) (by omega)]
    exact hD u x (by omega)
  · intro u x y
    show 0 ≤ M (43 + 3 * u + 1) ∧ M (43 + 3 * u + 1) ≤ 999
    have := b3 u x (by omega)
    by_cases q : u = r
    · subst q; rw [ep]
      have this : 0 ≤ N (43 + 3 * u + 1) ∧ N (43 + 3 * u + 1) ≤ 999 := this
      omega
    · rw [o _ (by omega) (by omega) (by omega)]
      exact this
  · intro u x y
    show -1 ≤ M (7 + 6 * u + 4) ∧ M (7 + 6 * u + 4) < 6
    by_cases q : u = v
    · subst q; rw [ev]; omega
    · rw [o _ (by omega) (by omega) (by omega)]
      exact b4 u x (by omega)
  · intro u w x y x2 y2 ne e
    show M (7 + 6 * u + 4) = -1
    have e : M (7 + 6 * u + 4) = M (7 + 6 * w + 4) := e
    by_cases q : u = v
    · subst q
      rw [ev, o (7 + 6 * w + 4) (by omega) (by omega) (by omega)] at e
      exact absurd e.symm (hf w x2 (by omega))
    · by_cases q2 : w = v
      · subst q2
        rw [ev, o (7 + 6 * u + 4) (by omega) (by omega) (by omega)] at e
        exact absurd e (hf u x (by omega))
      · rw [o (7 + 6 * u + 4) (by omega) (by omega) (by omega), o (7 + 6 * w + 4) (by omega) (by omega) (by omega)] at e
        rw [o (7 + 6 * u + 4) (by omega) (by omega) (by omega)]
        exact b5 u w x (by omega) x2 (by omega) ne e
  · intro i x y
    show (0 ≤ M (61 + 3 * i) ∧ M (61 + 3 * i) < 6) ∧ (0 ≤ M (61 + 3 * i + 1) ∧ M (61 + 3 * i + 1) < 6) ∧ (0 ≤ M (61 + 3 * i + 2) ∧ M (61 + 3 * i + 2) ≤ t + 1)
    rw [o _ (by omega) (by omega) (by omega), o _ (by omega) (by omega) (by omega), o _ (by omega) (by omega) (by omega)]
    have : (0 ≤ N (61 + 3 * i) ∧ N (61 + 3 * i) < 6) ∧ (0 ≤ N (61 + 3 * i + 1) ∧ N (61 + 3 * i + 1) < 6) ∧ (0 ≤ N (61 + 3 * i + 2) ∧ N (61 + 3 * i + 2) ≤ t) := b6 i x (by omega)
    omega
  · intro u x y
    exact BP_cg (hP u x (by omega)) x (by omega) (fun j q => o j (by omega) (by omega) (by omega)) o0 o1
theorem NI_rmA (h : NI N t) (h12 : N 4 = 12) : NI (rmA N) t := by
  obtain ⟨h0, hV, hR, hD, hB, hP⟩ := h
  have o := fun j a b => rmA_lo (N := N) (j := j) a b
  have hh := fun j a => rmA_h (N := N) (j := j) a
  have e4 := rmA_4 (N := N)
  have o0 := o 0 (by omega) (by omega)
  have o1 := o 1 (by omega) (by omega)
  have o2 := o 2 (by omega) (by omega)
  have o3 := o 3 (by omega) (by omega)
  have o5 := o 5 (by omega) (by omega)
  have o6 := o 6 (by omega) (by omega)
  generalize rmA N = M at *
  obtain ⟨b1, b2, b3, b4, b5, b6, b7⟩ := hB
  refine ⟨by omega, ?_, ?_, ?_, ⟨by omega, by omega, ?_, ?_, ?_, ?_, by omega⟩, ?_⟩
  · intro u x y
    rw [o _ (by omega) (by omega), o _ (by omega) (by omega), o _ (by omega) (by omega), o _ (by omega) (by omega), o _ (by omega) (by omega)]
    exact hV u x (by omega)
  · intro u x y
    rw [o _ (by omega) (by omega), o _ (by omega) (by omega)]
    exact hR u x (by omega)
  · intro u x y
    rw [o _ (by omega) (by omega), o _ (by omega) (by omega), o _ (by omega) (by omega)]
    exact hD u x (by omega)
  · intro u x y
    show 0 ≤ M (43 + 3 * u + 1) ∧ M (43 + 3 * u + 1) ≤ 999
    rw [o _ (by omega) (by omega)]
    exact b3 u x (by omega)
  · intro u x y
    show -1 ≤ M (7 + 6 * u + 4) ∧ M (7 + 6 * u + 4) < 6
    rw [o _ (by omega) (by omega)]
    exact b4 u x (by omega)
  · intro u w x y x2 y2 ne e
    show M (7 + 6 * u + 4) = -1
    have e : M (7 + 6 * u + 4) = M (7 + 6 * w + 4) := e
    rw [o (7 + 6 * u + 4) (by omega) (by omega), o (7 + 6 * w + 4) (by omega) (by omega)] at e
    rw [o (7 + 6 * u + 4) (by omega) (by omega)]
    exact b5 u w x (by omega) x2 (by omega) ne e
  · intro i x y
    show (0 ≤ M (61 + 3 * i) ∧ M (61 + 3 * i) < 6) ∧ (0 ≤ M (61 + 3 * i + 1) ∧ M (61 + 3 * i + 1) < 6) ∧ (0 ≤ M (61 + 3 * i + 2) ∧ M (61 + 3 * i + 2) ≤ t)
    rw [hh _ (by omega), hh _ (by omega), hh _ (by omega), show 61 + 3 * i + 3 = 61 + 3 * (i + 1) by omega, show 61 + 3 * i + 1 + 3 = 61 + 3 * (i + 1) + 1 by omega, show 61 + 3 * i + 2 + 3 = 61 + 3 * (i + 1) + 2 by omega]
    exact b6 (i + 1) (by omega) (by omega)
  · intro u x y
    exact BP_cg (hP u x (by omega)) x (Int.le_refl t) (fun j q => o j (by omega) (by omega)) o0 o1
theorem NI_rmB {v r : Int} (h : NI N t) (h12 : N 4 ≤ 11) (hv : 0 ≤ v ∧ v < 6) (hr : 0 ≤ r ∧ r < 6) : NI (rmB N v r) t := by
  obtain ⟨h0, hV, hR, hD, hB, hP⟩ := h
  obtain ⟨b1, b2, b3, b4, b5, b6, b7⟩ := hB
  have o := fun j a b => rmB_o (N := N) (v := v) (r := r) (j := j) a b
  have e4 := rmB_4 (N := N) (v := v) (r := r) b2.1
  have ev := rmB_v (N := N) (v := v) (r := r)
  have er := rmB_r (N := N) (v := v) (r := r)
  have ee := rmB_e (N := N) (v := v) (r := r)
  have o0 := o 0 (by omega) (by omega)
  have o1 := o 1 (by omega) (by omega)
  have o2 := o 2 (by omega) (by omega)
  have o3 := o 3 (by omega) (by omega)
  have o5 := o 5 (by omega) (by omega)
  have o6 := o 6 (by omega) (by omega)
  generalize rmB N v r = M at *
  refine ⟨by omega, ?_, ?_, ?_, ⟨by omega, by omega, ?_, ?_, ?_, ?_, by omega⟩, ?_⟩
  · intro u x y
    rw [o _ (by omega) (by omega), o _ (by omega) (by omega), o _ (by omega) (by omega), o _ (by omega) (by omega), o _ (by omega) (by omega)]
    exact hV u x (by omega)
  · intro u x y
    rw [o _ (by omega) (by omega), o _ (by omega) (by omega)]
    exact hR u x (by omega)
  · intro u x y
    rw [o _ (by omega) (by omega), o _ (by omega) (by omega), o _ (by omega) (by omega)]
    exact hD u x (by omega)
  · intro u x y
    show 0 ≤ M (43 + 3 * u + 1) ∧ M (43 + 3 * u + 1) ≤ 999
    rw [o _ (by omega) (by omega)]
    exact b3 u x (by omega)
  · intro u x y
    show -1 ≤ M (7 + 6 * u + 4) ∧ M (7 + 6 * u + 4) < 6
    rw [o _ (by omega) (by omega)]
    exact b4 u x (by omega)
  · intro u w x y x2 y2 ne e
    show M (7 + 6 * u + 4) = -1
    have e : M (7 + 6 * u + 4) = M (7 + 6 * w + 4) := e
    rw [o (7 + 6 * u + 4) (by omega) (by omega), o (7 + 6 * w + 4) (by omega) (by omega)] at e
    rw [o (7 + 6 * u + 4) (by omega) (by omega)]
    exact b5 u w x (by omega) x2 (by omega) ne e
  · intro i x y
    show (0 ≤ M (61 + 3 * i) ∧ M (61 + 3 * i) < 6) ∧ (0 ≤ M (61 + 3 * i + 1) ∧ M (61 + 3 * i + 1) < 6) ∧ (0 ≤ M (61 + 3 * i + 2) ∧ M (61 + 3 * i + 2) ≤ t)
    by_cases q : i = N 4
    · subst q; rw [ev, er, ee]; omega
    · rw [o _ (by omega) (by omega), o _ (by omega) (by omega), o _ (by omega) (by omega)]
      exact b6 i x (by omega)
  · intro u x y
    exact BP_cg (hP u x (by omega)) x (Int.le_refl t) (fun j q => o j (by omega) (by omega)) o0 o1
theorem NI_rm {v r : Int} (h : NI N t) (hv : 0 ≤ v ∧ v < 6) (hr : 0 ≤ r ∧ r < 6) : NI (rmN N v r) t := by
  have hc : 0 ≤ N 4 ∧ N 4 ≤ 12 := h.2.2.2.2.1.2.1
  unfold rmN
  split
  · rename_i h8
    exact NI_rmB (NI_rmA h h8) (by rw [rmA_4]; omega) hv hr
  · exact NI_rmB h (by omega) hv hr
theorem unE {j : Int} : unN N j = if j = 6 then N 6 - 1 else if j = 2 then N (115 + 51 * (N 6 - 1) + 12) else if j = 3 then N (115 + 51 * (N 6 - 1) + 13) else if j = 4 then N (115 + 51 * (N 6 - 1) + 14)
  else if (44 ≤ j ∧ j < 62) ∧ (j - 44) % 3 = 0 ∧ j < 61 then N (115 + 51 * (N 6 - 1) + (j - 44) / 3)
  else if (11 ≤ j ∧ j < 43) ∧ (j - 11) % 6 = 0 then N (115 + 51 * (N 6 - 1) + 6 + (j - 11) / 6)
  else if 61 ≤ j ∧ j < 97 then N (115 + 51 * (N 6 - 1) + 15 + (j - 61)) else N j := rfl
theorem un_o {j : Int} (h : j < 11 ∨ 97 ≤ j) (h2 : j ≠ 2) (h3 : j ≠ 3) (h4 : j ≠ 4) (h6 : j ≠ 6) : unN N j = N j := by
  rw [unE]
  rw [if_neg h6, if_neg h2, if_neg h3, if_neg h4, if_neg (by omega), if_neg (by omega), if_neg (by omega)]
theorem un_v {v i : Int} (h : 0 ≤ v ∧ v < 6) (hi : 0 ≤ i ∧ i < 6 ∧ i ≠ 4) : unN N (7 + 6 * v + i) = N (7 + 6 * v + i) := by
  rw [unE]
  rw [if_neg (by omega), if_neg (by omega), if_neg (by omega), if_neg (by omega), if_neg (by omega), if_neg (by omega), if_neg (by omega)]
theorem un_r {v i : Int} (h : 0 ≤ v ∧ v < 6) (hi : i = 0 ∨ i = 2) : unN N (43 + 3 * v + i) = N (43 + 3 * v + i) := by
  rw [unE]
  rw [if_neg (by omega), if_neg (by omega), if_neg (by omega), if_neg (by omega), if_neg (by omega), if_neg (by omega), if_neg (by omega)]
theorem un_6 : unN N 6 = N 6 - 1 := by rw [unE]; rw [if_pos rfl]
theorem un_2 : unN N 2 = N (115 + 51 * (N 6 - 1) + 12) := by rw [unE]; rw [if_neg (by omega), if_pos rfl]
theorem un_3 : unN N 3 = N (115 + 51 * (N 6 - 1) + 13) := by rw [unE]; rw [if_neg (by omega), if_neg (by omega), if_pos rfl]
theorem un_4 : unN N 4 = N (115 + 51 * (N 6 - 1) + 14) := by rw [unE]; rw [if_neg (by omega), if_neg (by omega), if_neg (by omega), if_pos rfl]
theorem un_p {r : Int} (h : 0 ≤ r ∧ r < 6) : unN N (43 + 3 * r + 1) = N (115 + 51 * (N 6 - 1) + r) := by
  rw [unE]
  rw [if_neg (by omega), if_neg (by omega), if_neg (by omega), if_neg (by omega), if_pos (by omega)]; congr 1; omega
theorem un_l {v : Int} (h : 0 ≤ v ∧ v < 6) : unN N (7 + 6 * v + 4) = N (115 + 51 * (N 6 - 1) + 6 + v) := by
  rw [unE]
  rw [if_neg (by omega), if_neg (by omega), if_neg (by omega), if_neg (by omega), if_neg (by omega), if_pos (by omega)]; congr 1; omega
theorem un_h {i : Int} (h : 0 ≤ i ∧ i < 36) : unN N (61 + i) = N (115 + 51 * (N 6 - 1) + 15 + i) := by
  rw [unE]
  rw [if_neg (by omega), if_neg (by omega), if_neg (by omega), if_neg (by omega), if_neg (by omega), if_neg (by omega), if_pos (by omega)]; congr 1; omega
theorem NI_un (h : NI N t) (h6 : N 6 ≠ 0) : NI (unN N) t := by
  obtain ⟨h0, hV, hR, hD, hB, hP⟩ := h
  have hp := hP (N 6 - 1) (by omega) (by omega)
  unfold BP at hp
  have hc2 : 0 ≤ N (115 + 51 * (N 6 - 1) + 14) ∧ N (115 + 51 * (N 6 - 1) + 14) ≤ 12 := hp.2.1
  have o0 := un_o (N := N) (j := 0) (by omega) (by omega) (by omega) (by omega) (by omega)
  have o1 := un_o (N := N) (j := 1) (by omega) (by omega) (by omega) (by omega) (by omega)
  have o5 := un_o (N := N) (j := 5) (by omega) (by omega) (by omega) (by omega) (by omega)
  have o6 := un_6 (N := N)
  refine ⟨by omega, ?_, ?_, ?_, ?_, ?_⟩
  · intro u x y
    rw [un_v (by omega) (by omega), un_v (by omega) (by omega), un_v (by omega) (by omega), un_v (by omega) (by omega), un_v (by omega) (by omega)]
    exact hV u x (by omega)
  · intro u x y
    rw [un_r (by omega) (by omega), un_r (by omega) (by omega)]
    exact hR u x (by omega)
  · intro u x y
    rw [un_o (by omega) (by omega) (by omega) (by omega) (by omega), un_o (by omega) (by omega) (by omega) (by omega) (by omega), un_o (by omega) (by omega) (by omega) (by omega) (by omega)]
    exact hD u x (by omega)
  · unfold BN
    refine BI_cg hp un_2 un_3 un_4 o0 o1 (Int.le_refl t) (fun r p q => un_p (by omega)) (fun r p q => un_l (by omega)) (fun r p q => ⟨un_h (by omega), ?_, ?_⟩)
    · show unN N (61 + 3 * r + 1) = N (115 + 51 * (N 6 - 1) + 15 + (3 * r + 1))
      rw [Int.add_assoc 61, un_h (by omega)]
    · show unN N (61 + 3 * r + 2) = N (115 + 51 * (N 6 - 1) + 15 + (3 * r + 2))
      rw [Int.add_assoc 61, un_h (by omega)]
  · intro u x y
    exact BP_cg (hP u x (by omega)) x (Int.le_refl t) (fun j q => un_o (by omega) (by omega) (by omega) (by omega) (by omega)) o0 o1
end
