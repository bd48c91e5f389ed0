def adV (μ : zM) (a n k s p w : Int) : zM := up (up (up (up (up (up (up μ (a + 8) n k) (a + 9) n s) (a + 10) n p) (a + 11) n w) (a + 12) n 0) a 1 (n + 1)) a 4 0
def adR (μ : zM) (a n w p x : Int) : zM := up (up (up (up (up μ (a + 13) n w) (a + 14) n x) (a + 18 + 1) n p) a 2 (n + 1)) a 4 0
def adD (μ : zM) (a n v e w : Int) : zM := up (up (up (up μ (a + 15) n v) (a + 16) n e) (a + 17) n w) a 3 (n + 1)
section
variable {σ : zSh} {μ : zM} {a t : Int} {N : Int → Int}
theorem SR.addV {k s p w : Int} (h : SR σ μ a N t) (h6 : N 0 ≠ 6) (hk : 0 ≤ k ∧ k ≤ 5) (hs : 1 ≤ s ∧ s ≤ 9) (hp : 0 ≤ p ∧ p ≤ 99) (hw : 0 ≤ w ∧ w ≤ 5) : SR σ (adV μ a (N 0) k s p w) a (vwN N k s p w) t := by
  have hC := h.ct
  have hT := h.ten
  obtain ⟨hK, hS, hR, hN, hP, h29⟩ := h
  have o : ∀ j, j ≠ 0 → j ≠ 6 → (j < 7 + 6 * N 0 ∨ 7 + 6 * N 0 + 5 < j) → vwN N k s p w j = N j := by
    intro j x y z
    unfold vwN
    rw [if_neg y, if_neg x, if_neg (by omega), if_neg (by omega), if_neg (by omega), if_neg (by omega), if_neg (by omega), if_neg (by omega)]
  have e0 : vwN N k s p w 0 = N 0 + 1 := by unfold vwN; rw [if_neg (by omega), if_pos rfl]
  have e6 : vwN N k s p w 6 = 0 := by unfold vwN; rw [if_pos rfl]
  have v0 : vwN N k s p w (7 + 6 * N 0 + 0) = k := by unfold vwN; rw [if_neg (by omega), if_neg (by omega), if_neg (by omega), if_neg (by omega), if_neg (by omega), if_neg (by omega), if_neg (by omega), if_pos (by omega)]
  have v1 : vwN N k s p w (7 + 6 * N 0 + 1) = s := by unfold vwN; rw [if_neg (by omega), if_neg (by omega), if_neg (by omega), if_neg (by omega), if_neg (by omega), if_neg (by omega), if_pos (by omega)]
  have v2 : vwN N k s p w (7 + 6 * N 0 + 2) = p := by unfold vwN; rw [if_neg (by omega), if_neg (by omega), if_neg (by omega), if_neg (by omega), if_neg (by omega), if_pos (by omega)]
  have v3 : vwN N k s p w (7 + 6 * N 0 + 3) = w := by unfold vwN; rw [if_neg (by omega), if_neg (by omega), if_neg (by omega), if_neg (by omega), if_pos (by omega)]
  have v4 : vwN N k s p w (7 + 6 * N 0 + 4) = -1 := by unfold vwN; rw [if_neg (by omega), if_neg (by omega), if_neg (by omega), if_pos (by omega)]
  have v5 : vwN N k s p w (7 + 6 * N 0 + 5) = 0 := by unfold vwN; rw [if_neg (by omega), if_neg (by omega), if_pos (by omega)]
  have hNI := NI_vw (k := k) (s := s) (p := p) (w := w) hN h6 hk hs hp hw
  generalize vwN N k s p w = M at *
  unfold adV
  have o1 := o 1 (by omega) (by omega) (by omega)
  have o2 := o 2 (by omega) (by omega) (by omega)
  have o3 := o 3 (by omega) (by omega) (by omega)
  have o4 := o 4 (by omega) (by omega) (by omega)
  have o5 := o 5 (by omega) (by omega) (by omega)
  obtain ⟨⟨z1, z2, z3, z4⟩, zV, zR, zD, zB, zP⟩ := hR
  obtain ⟨⟨b0, b1, b2⟩, b3, b4, b5, b6⟩ := zB
  refine ⟨hK.fr (fun j => ?_), hS, ⟨⟨?_, ?_, ?_, ?_⟩, fun v x y => ?_, fun r x y => ?_, fun r x y => ?_, ⟨⟨?_, ?_, ?_⟩, fun r x y => ?_, fun v x y => ?_, fun v x y => ?_, fun i x y => ?_⟩, fun u x y => by omega⟩, hNI, ⟨fun u x y => ?_, fun u w x y x2 y2 e => ?_⟩, h29⟩
  · simp (disch := omega) only [up_n]
  · simp (disch := omega) only [up_n, up_e]; exact e0.symm
  · simp (disch := omega) only [up_n]; rw [z2, o1]
  · simp (disch := omega) only [up_n]; rw [z3, o5]
  · simp (disch := omega) only [up_e]; exact e6.symm
  · by_cases e : v = N 0
    · subst e
      simp (disch := omega) only [up_n, up_e]
      exact ⟨v0.symm, v1.symm, v2.symm, v3.symm, v5.symm⟩
    · simp (disch := omega) only [up_n]
      rw [o _ (by omega) (by omega) (by omega), o _ (by omega) (by omega) (by omega), o _ (by omega) (by omega) (by omega), o _ (by omega) (by omega) (by omega), o _ (by omega) (by omega) (by omega)]
      exact zV v x (by omega)
  · simp (disch := omega) only [up_n]
    rw [o _ (by omega) (by omega) (by omega), o _ (by omega) (by omega) (by omega)]
    exact zR r x (by omega)
  · simp (disch := omega) only [up_n]
    rw [o _ (by omega) (by omega) (by omega), o _ (by omega) (by omega) (by omega), o _ (by omega) (by omega) (by omega)]
    exact zD r x (by omega)
  · simp (disch := omega) only [up_n]; rw [b0, o2]
  · simp (disch := omega) only [up_n]; rw [b1, o3]
  · simp (disch := omega) only [up_n]; rw [b2, o4]
  · simp (disch := omega) only [up_n]
    rw [o _ (by omega) (by omega) (by omega)]
    exact b3 r x (by omega)
  · simp (disch := omega) only [up_n]
    by_cases e : v = N 0
    · subst e
      rw [v4]; exact b5 _ (by omega) (by omega)
    · rw [o _ (by omega) (by omega) (by omega)]
      exact b4 v x (by omega)
  · simp (disch := omega) only [up_n]
    exact b5 v (by omega) y
  · simp (disch := omega) only [up_n]
    rw [o _ (by omega) (by omega) (by omega), o _ (by omega) (by omega) (by omega), o _ (by omega) (by omega) (by omega)]
    exact b6 i x (by omega)
  · simp (disch := omega) only [up_n]
    exact hP.1 u x y
  · simp (disch := omega) only [up_n] at e
    exact hP.2 u w x y x2 y2 e
theorem SR.addR {w p x : Int} (h : SR σ μ a N t) (h6 : N 1 ≠ 6) (hw : 1 ≤ w ∧ w ≤ 9) (hp : 0 ≤ p ∧ p ≤ 999) (hx : 0 ≤ x ∧ x ≤ 6) : SR σ (adR μ a (N 1) w p x) a (rnN N w p x) t := by
  have hC := h.ct
  obtain ⟨hK, hS, hR, hN, hP, h29⟩ := h
  have o : ∀ j, j ≠ 1 → j ≠ 6 → (j < 43 + 3 * N 1 ∨ 43 + 3 * N 1 + 2 < j) → rnN N w p x j = N j := by
    intro j x y z
    unfold rnN
    rw [if_neg y, if_neg x, if_neg (by omega), if_neg (by omega), if_neg (by omega)]
  have e1 : rnN N w p x 1 = N 1 + 1 := by unfold rnN; rw [if_neg (by omega), if_pos rfl]
  have e6 : rnN N w p x 6 = 0 := by unfold rnN; rw [if_pos rfl]
  have v0 : rnN N w p x (43 + 3 * N 1 + 0) = w := by unfold rnN; rw [if_neg (by omega), if_neg (by omega), if_neg (by omega), if_neg (by omega), if_pos (by omega)]
  have v1 : rnN N w p x (43 + 3 * N 1 + 1) = p := by unfold rnN; rw [if_neg (by omega), if_neg (by omega), if_neg (by omega), if_pos (by omega)]
  have v2 : rnN N w p x (43 + 3 * N 1 + 2) = x := by unfold rnN; rw [if_neg (by omega), if_neg (by omega), if_pos (by omega)]
  have hNI := NI_rn (w := w) (p := p) (a := x) hN h6 hw hp hx
  generalize rnN N w p x = M at *
  unfold adR
  have o0 := o 0 (by omega) (by omega) (by omega)
  have o2 := o 2 (by omega) (by omega) (by omega)
  have o3 := o 3 (by omega) (by omega) (by omega)
  have o4 := o 4 (by omega) (by omega) (by omega)
  have o5 := o 5 (by omega) (by omega) (by omega)
  obtain ⟨⟨z1, z2, z3, z4⟩, zV, zR, zD, zB, zP⟩ := hR
  obtain ⟨⟨b0, b1, b2⟩, b3, b4, b5, b6⟩ := zB
  refine ⟨hK.fr (fun j => ?_), hS, ⟨⟨?_, ?_, ?_, ?_⟩, fun v x y => ?_, fun r x y => ?_, fun r x y => ?_, ⟨⟨?_, ?_, ?_⟩, fun r x y => ?_, fun v x y => ?_, fun v x y => ?_, fun i x y => ?_⟩, fun u x y => by omega⟩, hNI, ⟨fun u x y => ?_, fun u w x y x2 y2 e => ?_⟩, h29⟩
  · simp (disch := omega) only [up_n]
  · simp (disch := omega) only [up_n]; rw [z1, o0]
  · simp (disch := omega) only [up_n, up_e]; exact e1.symm
  · simp (disch := omega) only [up_n]; rw [z3, o5]
  · simp (disch := omega) only [up_e]; exact e6.symm
  · simp (disch := omega) only [up_n]
    rw [o _ (by omega) (by omega) (by omega), o _ (by omega) (by omega) (by omega), o _ (by omega) (by omega) (by omega), o _ (by omega) (by omega) (by omega), o _ (by omega) (by omega) (by omega)]
    exact zV v x (by omega)
  · by_cases e : r = N 1
    · subst e
      simp (disch := omega) only [up_n, up_e]
      exact ⟨v0.symm, v2.symm⟩
    · simp (disch := omega) only [up_n]
      rw [o _ (by omega) (by omega) (by omega), o _ (by omega) (by omega) (by omega)]
      exact zR r x (by omega)
  · simp (disch := omega) only [up_n]
    rw [o _ (by omega) (by omega) (by omega), o _ (by omega) (by omega) (by omega), o _ (by omega) (by omega) (by omega)]
    exact zD r x (by omega)
  · simp (disch := omega) only [up_n]; rw [b0, o2]
  · simp (disch := omega) only [up_n]; rw [b1, o3]
  · simp (disch := omega) only [up_n]; rw [b2, o4]
  · by_cases e : r = N 1
    · subst e
      simp (disch := omega) only [up_n, up_e]
      exact v1.symm
    · simp (disch := omega) only [up_n]
      rw [o _ (by omega) (by omega) (by omega)]
      exact b3 r x (by omega)
  · simp (disch := omega) only [up_n]
    rw [o _ (by omega) (by omega) (by omega)]
    exact b4 v x (by omega)
  · simp (disch := omega) only [up_n]
    exact b5 v (by omega) y
  · simp (disch := omega) only [up_n]
    rw [o _ (by omega) (by omega) (by omega), o _ (by omega) (by omega) (by omega), o _ (by omega) (by omega) (by omega)]
    exact b6 i x (by omega)
  · simp (disch := omega) only [up_n]
    exact hP.1 u x y
  · simp (disch := omega) only [up_n] at e
    exact hP.2 u w x y x2 y2 e
/-- a change that leaves Book and past alone -/
theorem SR.mkD {μ' : zM} {M : Int → Int} (h : SR σ μ a N t) (hNI : NI M t) (hf : ∀ k j, ¬ (k = a ∧ j = 3) → ¬ (k = a + 12) → ¬ (a + 15 ≤ k ∧ k ≤ a + 17) → μ' k j = μ k j) (o : ∀ j, j ≠ 5 → (j < 97 ∨ 115 ≤ j) → (∀ v, 0 ≤ v → v < 6 → j ≠ 7 + 6 * v + 5) → M j = N j) (h3 : μ' a 3 = M 5) (hT : ∀ v, 0 ≤ v → v < N 0 → μ' (a + 12) v = M (7 + 6 * v + 5)) (hD : RD μ' a M) : SR σ μ' a M t := by
  have hC := h.ct
  obtain ⟨hK, hS, hR, hN, hP, h29⟩ := h
  have o0 := o 0 (by omega) (by omega) (by omega)
  have o1 := o 1 (by omega) (by omega) (by omega)
  have o2 := o 2 (by omega) (by omega) (by omega)
  have o3 := o 3 (by omega) (by omega) (by omega)
  have o4 := o 4 (by omega) (by omega) (by omega)
  have o6 := o 6 (by omega) (by omega) (by omega)
  have p17 : ∀ u, μ' (a + 24) u = μ (a + 24) u := fun u => hf _ _ (by omega) (by omega) (by omega)
  obtain ⟨⟨z1, z2, z3, z4⟩, zV, zR, zD, zB, zP⟩ := hR
  refine ⟨hK.fr (fun j => hf _ _ (by omega) (by omega) (by omega)), hS, ⟨⟨?_, ?_, h3, ?_⟩, fun v x y => ?_, fun r x y => ?_, hD, ?_, fun u x y => ?_⟩, hNI, ⟨fun u x y => ?_, fun u w x y x2 y2 e => ?_⟩, h29⟩
  · rw [hf _ _ (by omega) (by omega) (by omega), z1, o0]
  · rw [hf _ _ (by omega) (by omega) (by omega), z2, o1]
  · rw [hf _ _ (by omega) (by omega) (by omega), z4, o6]
  · have zv := zV v x (by omega)
    rw [hf (a + 8) _ (by omega) (by omega) (by omega), hf (a + 9) _ (by omega) (by omega) (by omega), hf (a + 10) _ (by omega) (by omega) (by omega), hf (a + 11) _ (by omega) (by omega) (by omega), hT v x (by omega), o (7 + 6 * v + 0) (by omega) (by omega) (by omega), o (7 + 6 * v + 1) (by omega) (by omega) (by omega), o (7 + 6 * v + 2) (by omega) (by omega) (by omega), o (7 + 6 * v + 3) (by omega) (by omega) (by omega)]
    exact ⟨zv.1, zv.2.1, zv.2.2.1, zv.2.2.2.1, rfl⟩
  · rw [hf _ _ (by omega) (by omega) (by omega), hf _ _ (by omega) (by omega) (by omega), o _ (by omega) (by omega) (by omega), o _ (by omega) (by omega) (by omega)]
    exact zR r x (by omega)
  · unfold RN at zB ⊢
    exact BR_cg (BR_tr (μ' := μ') (b' := a + 18) zB (by omega) (fun j p q => hf _ _ (by omega) (by omega) (by omega)) (fun j p q => hf _ _ (by omega) (by omega) (by omega)) (fun j p q => hf _ _ (by omega) (by omega) (by omega)) (by omega) (fun j p q => ⟨hf _ _ (by omega) (by omega) (by omega), hf _ _ (by omega) (by omega) (by omega), hf _ _ (by omega) (by omega) (by omega)⟩)) o2.symm o3.symm o4.symm o0.symm o1.symm (fun r p q => (o _ (by omega) (by omega) (by omega)).symm) (fun r p q => (o _ (by omega) (by omega) (by omega)).symm) (fun r p q => ⟨(o _ (by omega) (by omega) (by omega)).symm, (o _ (by omega) (by omega) (by omega)).symm, (o _ (by omega) (by omega) (by omega)).symm⟩)
  · have hu := hP.1 u x (by omega)
    have hc2 : 0 ≤ N (115 + 51 * u + 14) ∧ N (115 + 51 * u + 14) ≤ 12 := (hN.2.2.2.2.2 u x (by omega)).2.1
    rw [p17]
    exact RP.keep (zP u x (by omega)) rfl (fun i j x y => hf _ _ (by omega) (by omega) (by omega)) x (by omega) (fun j x y => o _ (by omega) (by omega) (by omega)) o0 o1 (by omega) hc2.2
  · rw [p17]; exact hP.1 u x y
  · rw [p17, p17] at e; exact hP.2 u w x y x2 y2 e
theorem SR.addD {v e w : Int} (h : SR σ μ a N t) (h6 : N 5 ≠ 6) (hv : 0 ≤ v ∧ v < 6) (he : 0 ≤ e ∧ e ≤ 99) (hw : 0 ≤ w ∧ w ≤ 5) : SR σ (adD μ a (N 5) v e w) a (rdN N v e w) t := by
  have hC := h.ct
  have hV := fun v => h.vw (v := v)
  have hD := fun i => h.rd (i := i)
  have o : ∀ j, j ≠ 5 → (j < 97 + 3 * N 5 ∨ 97 + 3 * N 5 + 2 < j) → rdN N v e w j = N j := by
    intro j x z
    unfold rdN
    rw [if_neg x, if_neg (by omega), if_neg (by omega), if_neg (by omega)]
  have e5 : rdN N v e w 5 = N 5 + 1 := by unfold rdN; rw [if_pos rfl]
  have v0 : rdN N v e w (97 + 3 * N 5) = v := by unfold rdN; rw [if_neg (by omega), if_neg (by omega), if_neg (by omega), if_pos (by omega)]
  have v1 : rdN N v e w (97 + 3 * N 5 + 1) = e := by unfold rdN; rw [if_neg (by omega), if_neg (by omega), if_pos (by omega)]
  have v2 : rdN N v e w (97 + 3 * N 5 + 2) = w := by unfold rdN; rw [if_neg (by omega), if_pos (by omega)]
  refine h.mkD (NI_rd h.2.2.2.1 h6 hv he hw) (fun k j x y z => ?_) (fun j x y z => o j x (by omega)) ?_ (fun u x y => ?_) (fun i x y => ?_)
  · unfold adD
    simp (disch := omega) only [up_n]
  · unfold adD
    rw [up_e rfl rfl, e5]
  · unfold adD
    simp (disch := omega) only [up_n]
    rw [o _ (by omega) (by omega)]
    exact (hV u ⟨x, y⟩).1.2.2.2.2
  · rw [e5] at y
    unfold adD
    by_cases q : i = N 5
    · subst q
      simp (disch := omega) only [up_n, up_e]
      exact ⟨v0.symm, v1.symm, v2.symm⟩
    · simp (disch := omega) only [up_n]
      rw [o _ (by omega) (by omega), o _ (by omega) (by omega), o _ (by omega) (by omega)]
      exact (hD i ⟨x, by omega⟩).1
theorem SR.setT {v s : Int} (h : SR σ μ a N t) (hv : 0 ≤ v ∧ v < N 0) (hs : 0 ≤ s ∧ s ≤ 255) : SR σ (up μ (a + 12) v s) a (ex1 N (7 + 6 * v + 5) s) t := by
  have hC := h.ct
  have hV := fun v => h.vw (v := v)
  have hD := fun i => h.rd (i := i)
  refine h.mkD (NI_ex h.2.2.2.1 hv hs) (fun k j x y z => ?_) (fun j x y z => ex1_o (z v hv.1 (by omega))) ?_ (fun u x y => ?_) (fun i x y => ?_)
  · rw [up_n (by omega)]
  · rw [up_n (by omega), ex1_o (by omega)]; exact hC.1.2.2.1
  · by_cases e : u = v
    · subst e; rw [up_e rfl rfl, ex1_s]
    · rw [up_n (by omega), ex1_o (by omega)]; exact (hV u ⟨x, y⟩).1.2.2.2.2
  · rw [ex1_o (by omega)] at y
    simp (disch := omega) only [up_n, ex1_o]
    exact (hD i ⟨x, y⟩).1
theorem SR.forg (h : SR σ μ a N t) : SR σ (up μ a 3 0) a (ex1 N 5 0) t := by
  have hC := h.ct
  have hV := fun v => h.vw (v := v)
  refine h.mkD (NI_fg h.2.2.2.1) (fun k j x y z => ?_) (fun j x y z => ex1_o x) ?_ (fun u x y => ?_) (fun i x y => ?_)
  · rw [up_n (by omega)]
  · rw [up_e rfl rfl, ex1_s]
  · rw [up_n (by omega), ex1_o (by omega)]; exact (hV u ⟨x, y⟩).1.2.2.2.2
  · rw [ex1_s] at y
    omega
theorem SR.empt {μ' : zM} {N' : Int → Int} (hK : Wk σ μ) (hS : Sh σ a) (hP : PS μ a) (h29 : 22 ≤ a) (hE : Em μ a μ') (ht : 0 ≤ t) : SR σ μ' a (z115 N') t := by
  have z := fun j h => z115_lo (N := N') (j := j) h
  have e0 := z 0 (by omega)
  have e1 := z 1 (by omega)
  have e2 := z 2 (by omega)
  have e3 := z 3 (by omega)
  have e4 := z 4 (by omega)
  have e5 := z 5 (by omega)
  have e6 := z 6 (by omega)
  obtain ⟨⟨c1, c2, c3, c4⟩, ⟨d0, d1, d2⟩, hv, hf⟩ := hE
  have p17 : ∀ u, μ' (a + 24) u = μ (a + 24) u := fun u => hf _ _ (by omega) (by omega) (by omega)
  refine ⟨hK.fr (fun j => hf _ _ (by omega) (by omega) (by omega)), hS, ⟨⟨by omega, by omega, by omega, by omega⟩, fun v x y => by omega, fun r x y => by omega, fun r x y => by omega, ⟨⟨by omega, by omega, by omega⟩, fun r x y => by omega, fun v x y => by omega, fun v x y => hv v (by omega) y, fun i x y => by omega⟩, fun u x y => by omega⟩, NI_z ht, ⟨fun u x y => ?_, fun u w x y x2 y2 e => ?_⟩, h29⟩
  · rw [p17]; exact hP.1 u x y
  · rw [p17, p17] at e; exact hP.2 u w x y x2 y2 e
end
