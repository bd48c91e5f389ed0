section
variable {σ : zSh} {μ : zM} {t : Int}
/-- the text, or the two parts, have changed -/
theorem WS.tx {μ2 : zM} (h : WS σ μ t) (hf : ∀ k j, ¬ scr k j → ¬ (k = 0 ∧ 7 ≤ j ∧ j ≤ 8 ∨ k = 2 ∧ j = 1) → k ≠ 3 → k ≠ 181 → ¬ (k = 168 ∧ (j = 4 ∨ j = 5 ∨ j = 20)) → μ2 k j = μ k j) (hT : TX μ2) (hA : AB μ2) : WS σ μ2 (t + 1) := by
  have ha := h.a
  have hsr := h.sr
  obtain ⟨hK, hN, hRS, hP, hT0, hA0, hF, hI, hL, hD⟩ := h
  have g : ∀ k j, (k = 1 ∨ k = 9 ∨ k = 21 ∨ k = 169 ∨ k = 170 ∨ k = 171 ∨ k = 172 ∨ (22 ≤ k ∧ k ≤ 167) ∨ 184 ≤ k ∨ (k = 0 ∧ (j = 5 ∨ j = 6))) → μ2 k j = μ k j := fun k j p => hf k j (by unfold scr; omega) (by omega) (by omega) (by omega) (by omega)
  have e162 : μ2 169 = μ 169 := funext fun j => g 169 j (by omega)
  have e7 : μ2 0 5 = μ 0 5 := g 0 5 (by omega)
  have e8 : μ2 0 6 = μ 0 6 := g 0 6 (by omega)
  have hS := (hsr.fr (μ' := μ2) (fun k j p q => g k j (by omega)) (fun j => g _ _ (by omega))).mono (t' := t + 1) (by omega)
  have imf : ∀ i, 0 ≤ i → i ≤ 1 → IM σ μ i t → IM σ μ2 i (t + 1) := fun i p q hi => hi.fr (by omega) hK (fun j => g _ _ (by omega)) (g _ _ (by omega)) (g _ _ (by omega)) (fun j _ _ => g _ _ (by omega)) (fun _ _ e => BI_523 e) (fun _ _ _ e hn => RS_523 e hn) (fun k j p q r => g _ _ (by omega))
  refine ⟨hS.1, by rw [e162]; exact hS.2.2.2.1, by rw [e162, e7]; exact hS.2.2.1, ⟨hP.1.fr (fun j => g _ _ (by omega)), hP.2.fr (fun j => g _ _ (by omega))⟩, hT, hA, fun i p q => ?_, ⟨imf 0 (by omega) (by omega) hI.1, imf 1 (by omega) (by omega) hI.2⟩, ?_, ?_⟩
  · rw [g 21 i (by omega), g 172 i (by omega)]; exact hF i p q
  · unfold IL
    rw [g 1 0 (by omega), g 1 1 (by omega)]
    exact hL
  · unfold AD
    rw [e7, e8]
    exact hD
/-- now and draft may have changed, and places -/
theorem WS.rd {μ2 : zM} (h : WS σ μ t) (hf : ∀ k j, ¬ scr k j → k ≠ 169 → ¬ (22 ≤ k ∧ k ≤ 167) → ¬ (k = 0 ∧ (j = 5 ∨ j = 6)) → μ2 k j = μ k j) (hS : SR σ μ2 (μ2 0 5) (μ2 169) (t + 1)) (hP : PS μ2 22 ∧ PS μ2 95) (hA : μ2 0 5 = 22 ∧ μ2 0 6 = 95 ∨ μ2 0 5 = 95 ∧ μ2 0 6 = 22) : WS σ μ2 (t + 1) := by
  obtain ⟨hK, hN, hRS, hP0, hT, hA0, hF, hI, hL, hD⟩ := h
  have g : ∀ k j, (k = 1 ∨ k = 3 ∨ k = 9 ∨ k = 21 ∨ k = 170 ∨ k = 171 ∨ k = 172 ∨ k = 181 ∨ 184 ≤ k ∨ (k = 0 ∧ 7 ≤ j) ∨ (k = 2 ∧ j = 1) ∨ (k = 168 ∧ (j = 4 ∨ j = 5 ∨ j = 20))) → μ2 k j = μ k j := fun k j p => hf k j (by unfold scr; omega) (by omega) (by omega) (by omega)
  have imf : ∀ i, 0 ≤ i → i ≤ 1 → IM σ μ i t → IM σ μ2 i (t + 1) := fun i p q hi => hi.fr (by omega) hK (fun j => g _ _ (by omega)) (g _ _ (by omega)) (g _ _ (by omega)) (fun j _ _ => g _ _ (by omega)) (fun _ _ e => BI_523 e) (fun _ _ _ e hn => RS_523 e hn) (fun k j p q r => g _ _ (by omega))
  refine ⟨hS.1, hS.2.2.2.1, hS.2.2.1, hP, ?_, ?_, fun i p q => ?_, ⟨imf 0 (by omega) (by omega) hI.1, imf 1 (by omega) (by omega) hI.2⟩, ?_, ⟨hA, hD.2⟩⟩
  · have q9 := g 2 1 (by omega)
    have q20 := g 168 20 (by omega)
    refine ⟨by rw [q9, q20]; exact hT.1, fun j p q => ?_⟩
    rw [q9] at q
    rw [g 3 j (by omega), g 181 j (by omega)]
    exact hT.2 j p q
  · unfold AB
    rw [g 168 4 (by omega), g 168 5 (by omega), g 0 7 (by omega), g 0 8 (by omega)]
    exact hA0
  · rw [g 21 i (by omega), g 172 i (by omega)]; exact hF i p q
  · unfold IL
    rw [g 1 0 (by omega), g 1 1 (by omega)]
    exact hL
theorem RS_115 {a : Int} {N N' : Int → Int} {t : Int} (e : ∀ k, 0 ≤ k → k < 115 → N' k = N k) (h6 : N 6 = 0) (hN : NI N t) (h : RS μ a N) : RS μ a N' := by
  obtain ⟨h0, hV, hR, hD, hB, hP⟩ := hN
  have e0 := e 0 (by omega) (by omega)
  have e1 := e 1 (by omega) (by omega)
  have e2 := e 2 (by omega) (by omega)
  have e3 := e 3 (by omega) (by omega)
  have e4 := e 4 (by omega) (by omega)
  have e5 := e 5 (by omega) (by omega)
  have e6 := e 6 (by omega) (by omega)
  have hc : 0 ≤ N 4 ∧ N 4 ≤ 12 := hB.2.1
  obtain ⟨⟨z1, z2, z3, z4⟩, zV, zR, zD, zB, zP⟩ := h
  refine ⟨⟨by omega, by omega, by omega, by omega⟩, ?_, ?_, ?_, ?_, fun u x y => by omega⟩
  · intro u x y
    rw [e _ (by omega) (by omega), e _ (by omega) (by omega), e _ (by omega) (by omega), e _ (by omega) (by omega), e _ (by omega) (by omega)]
    exact zV u x (by omega)
  · intro r x y
    rw [e _ (by omega) (by omega), e _ (by omega) (by omega)]
    exact zR r x (by omega)
  · intro r x y
    rw [e _ (by omega) (by omega), e _ (by omega) (by omega), e _ (by omega) (by omega)]
    exact zD r x (by omega)
  · unfold RN at zB ⊢
    exact BR_cg zB e2.symm e3.symm e4.symm e0.symm e1.symm (fun r p q => (e _ (by omega) (by omega)).symm) (fun r p q => (e _ (by omega) (by omega)).symm) (fun r p q => ⟨(e _ (by omega) (by omega)).symm, (e _ (by omega) (by omega)).symm, (e _ (by omega) (by omega)).symm⟩)
end
section
variable {ext : List xC} {σ : zSh} {μ : zM} {t : Int}
theorem s_clear (h : WS σ μ t) : STP ext σ μ t n_X11_clear n_X12_clear [] 0 := by
  have hT : TX μ := h.2.2.2.2.1
  have hA : AB μ := h.2.2.2.2.2.1
  have c1 := k_x_clear (ext := ext) (d := 10) (μ := μ) (σ := σ) h.1.1
  have c2 := k_m_clear (ext := ext) (d := 10) (μ := up μ 2 1 0) (σ := σ) h.1.1
  rw [up_n (by omega), hT.1.2.2] at c2
  refine STP.of c1 c2 (h.tx (fun k j p q r s u => by rw [up_n (by omega), up_n (by omega)]) ⟨?_, fun j p q => ?_⟩ ?_)
  · rw [up_s, up_n (by omega), up_s]
    omega
  · rw [up_n (by omega), up_s] at q
    omega
  · unfold AB
    simp (disch := omega) only [up_n]
    exact hA
theorem s_type {c : Int} (h : WS σ μ t) (hc : zrng c) : STP ext σ μ t n_X11_type n_X12_type [(0, c)] 0 := by
  have hT : TX μ := h.2.2.2.2.1
  have hA : AB μ := h.2.2.2.2.2.1
  obtain ⟨rv1, μ1, c1, q1⟩ := k_x_type (ext := ext) (d := 8) (μ := μ) (σ := σ) h.1.1 hc (by have := hT.1; omega)
  have m1 : ∀ m : zM, m 168 20 = μ 2 1 → ZQ ext 10 n_X12_type [(1161, 0), (0, c)] σ m _ := fun m em => k_m_type (ext := ext) (d := 8) (μ := m) h.1.1 hc (by have := hT.1; omega)
  have e20 := hT.1.2.2
  by_cases hok : 0 ≤ c ∧ c ≤ 127
  · by_cases h6 : μ 2 1 = 150
    · obtain ⟨rfl, hq1⟩ := (q1.2 hok).1 h6
      have em : μ1 168 20 = μ 2 1 := by rw [hq1, up_n (by omega)]; exact e20
      obtain ⟨rv2, μ2, c2, q2⟩ := m1 μ1 em
      obtain ⟨rfl, hq2⟩ := (q2.2 hok).1 (by omega)
      refine STP.of c1 c2 (h.ref (i := 2) (by omega) hq1 (fun k j p q => by rw [hq2, up_n q]) ?_)
      rw [hq2, up_s, hq1, up_n (by omega)]
    · obtain ⟨rfl, hq1⟩ := (q1.2 hok).2 h6
      have em : μ1 168 20 = μ 2 1 := by rw [hq1, up_n (by omega), up_n (by omega)]; exact e20
      obtain ⟨rv2, μ2, c2, q2⟩ := m1 μ1 em
      obtain ⟨q2a, hq2⟩ := (q2.2 hok).2 (by omega)
      rw [em] at q2a hq2
      subst q2a
      have ff : ∀ k j, ¬ (k = 2 ∧ j = 1) → ¬ (k = 3 ∧ j = μ 2 1) → ¬ (k = 181 ∧ j = μ 2 1) → ¬ (k = 168 ∧ j = 20) → μ2 k j = μ k j := by
        intro k j a b c d
        rw [hq2, up_n d, up_n c, hq1, up_n a, up_n b]
      have f9 : μ2 2 1 = μ 2 1 + 1 := by rw [hq2, up_n (by omega), up_n (by omega), hq1, up_s]
      refine STP.of c1 c2 (h.tx (fun k j p q r s u => ff k j (by omega) (by omega) (by omega) (by omega)) ⟨?_, fun j p q => ?_⟩ ?_)
      · rw [f9, hq2, up_s]
        have := hT.1
        omega
      · rw [f9] at q
        by_cases ej : j = μ 2 1
        · subst ej
          have a9 : μ2 3 (μ 2 1) = c := by rw [hq2, up_n (by omega), up_n (by omega), hq1, up_n (by omega), up_s]
          have a174 : μ2 181 (μ 2 1) = c := by rw [hq2, up_n (by omega), up_s]
          rw [a9, a174]
          omega
        · rw [ff 3 j (by omega) (by omega) (by omega) (by omega), ff 181 j (by omega) (by omega) (by omega) (by omega)]
          exact hT.2 j p (by omega)
      · unfold AB
        rw [ff 168 4 (by omega) (by omega) (by omega) (by omega), ff 168 5 (by omega) (by omega) (by omega) (by omega), ff 0 7 (by omega) (by omega) (by omega) (by omega), ff 0 8 (by omega) (by omega) (by omega) (by omega)]
        exact hA
  · obtain ⟨rfl, hq1⟩ := q1.1 hok
    have em : μ1 168 20 = μ 2 1 := by rw [hq1, up_n (by omega)]; exact e20
    obtain ⟨rv2, μ2, c2, q2⟩ := m1 μ1 em
    obtain ⟨rfl, hq2⟩ := q2.1 hok
    refine STP.of c1 c2 (h.ref (i := 0) (by omega) hq1 (fun k j p q => by rw [hq2, up_n q]) ?_)
    rw [hq2, up_s, hq1, up_n (by omega)]
theorem s_odds {o : Int} (h : WS σ μ t) (ht : t ≤ 100) (ho : zrng o) : STP ext σ μ t n_X11_odds n_X12_odds [(0, o)] 0 := by
  have hT : TX μ := h.2.2.2.2.1
  have hA : AB μ := h.2.2.2.2.2.1
  obtain ⟨rv1, μ1, c1, q1⟩ := k_x_odds (ext := ext) (d := 5) h.sr ht ho
  have m1 : ∀ m : zM, m 169 = μ 169 → ZQ ext 10 n_X12_odds [(1161, 0), (0, o)] σ m _ := fun m em => k_m_odds (ext := ext) (d := 4) (μ := m) h.1.1 (t := t) (by rw [em]; exact h.2.1) ht ho
  by_cases hok : 0 ≤ o ∧ o ≤ 10
  · obtain ⟨rfl, μ0, hq0, hq1⟩ := q1.2 hok
    have em : μ1 169 = μ 169 := funext fun j => by rw [hq1, up_n (by omega), up_n (by omega)]; exact hq0 169 j (by omega) (by omega)
    obtain ⟨rv2, μ2, c2, q2⟩ := m1 μ1 em
    rw [em] at q2
    obtain ⟨rfl, μ3, hq3, hq2⟩ := q2.2 hok
    have ff : ∀ k j, ¬ scr k j → ¬ (k = 168 ∧ (j = 4 ∨ j = 5)) → ¬ (k = 0 ∧ (j = 7 ∨ j = 8)) → μ2 k j = μ k j := by
      intro k j p q r
      unfold scr at p
      rw [hq2, up_n (by omega), up_n (by omega), hq3 k j (by omega) (by omega), hq1, up_n (by omega), up_n (by omega), hq0 k j (by omega) (by omega)]
    refine STP.of c1 c2 (h.tx (fun k j p q r s u => ff k j p (by omega) (by omega)) ⟨?_, fun j p q => ?_⟩ ?_)
    · rw [ff 2 1 (by unfold scr; omega) (by omega) (by omega), ff 168 20 (by unfold scr; omega) (by omega) (by omega)]
      exact hT.1
    · rw [ff 2 1 (by unfold scr; omega) (by omega) (by omega)] at q
      rw [ff 3 j (by unfold scr; omega) (by omega) (by omega), ff 181 j (by unfold scr; omega) (by omega) (by omega)]
      exact hT.2 j p q
    · refine ⟨?_, ?_⟩
      · rw [hq2, up_n (by omega), up_s, up_n (by omega), up_n (by omega), hq3 0 7 (by omega) (by omega), hq1, up_n (by omega), up_s]
      · rw [hq2, up_s, up_n (by omega), up_n (by omega), hq3 0 8 (by omega) (by omega), hq1, up_s]
  · obtain ⟨rfl, hq1⟩ := q1.1 hok
    have em : μ1 169 = μ 169 := funext fun j => by rw [hq1, up_n (by omega)]
    obtain ⟨rv2, μ2, c2, q2⟩ := m1 μ1 em
    obtain ⟨rfl, hq2⟩ := q2.1 hok
    refine STP.of c1 c2 (h.ref (i := 0) (by omega) hq1 (fun k j p q => by rw [hq2, up_n q]) ?_)
    rw [hq2, up_s, hq1, up_n (by omega)]
end
section
variable {L : Nat} {xs : Nat → Int32} {σ : zSh} {μ : zM} {t : Int}
theorem s_read (h : WS σ μ t) (ht : 0 ≤ t) : STP (xext L xs) σ μ t n_X11_read n_X12_read [] 0 := by
  have ha := h.a
  have hT : TX μ := h.2.2.2.2.1
  have hP := h.2.2.2.1
  have hD := h.2.2.2.2.2.2.2.2.2
  have hS8 : Sh σ (μ 0 6) := by
    rcases ha with a | a
    · rw [a.2]; exact hD.2.2
    · rw [a.2]; exact hD.2.1
  have hP8 : PS μ (μ 0 6) := by
    rcases ha with a | a
    · rw [a.2]; exact hP.2
    · rw [a.2]; exact hP.1
  obtain ⟨rv1, μ1, c1, e1, p1, f1, y1, n1⟩ := k_x_read (L := L) (xs := xs) (d := 2) (T := μ 181) (l := μ 2 1) (N0 := μ 182) h.1 hS8 hP8 (by omega) ht (by have := hT.1; omega) rfl (fun j p q => hT.2 j p q)
  have g1 : ∀ k j, 168 ≤ k → k ≤ 183 → μ1 k j = μ k j := fun k j p q => f1 k j (by omega) (by omega) (by omega) (by omega)
  have e174 : μ1 181 = μ 181 := funext fun j => g1 181 j (by omega) (by omega)
  have e175 : μ1 182 = μ 182 := funext fun j => g1 182 j (by omega) (by omega)
  have e162 : μ1 169 = μ 169 := funext fun j => g1 169 j (by omega) (by omega)
  have e20 : μ1 168 20 = μ 2 1 := by rw [g1 168 20 (by omega) (by omega)]; exact hT.1.2.2
  have hTT : TT μ1 := by
    refine ⟨by rw [e20]; have := hT.1; omega, fun j p q => ?_⟩
    rw [e20] at q
    rw [e174]
    exact (hT.2 j p q).2
  obtain ⟨rv2, μ2, c2, e2, f2, n2, y2⟩ := k_m_read (ext := xext L xs) (d := 3) (μ := μ1) (σ := σ) h.1.1 hTT
  rw [e174, e20, e175] at e2 n2 y2
  generalize rdB (μ 181) (μ 2 1) (z115 (μ 182)) = R at *
  subst e1 e2
  have g2 : ∀ k j, ¬ scr k j → k ≠ 169 → μ2 k j = μ1 k j := by
    intro k j p q
    unfold scr at p
    exact f2 k j q (by omega) (by omega) (by omega)
  have pw : ∀ a, a = 22 ∨ a = 95 → PS μ1 a := by
    intro a ea
    by_cases q : a = μ 0 6
    · rw [q]; exact p1
    · have : PS μ a := by
        rcases ea with rfl | rfl
        · exact hP.1
        · exact hP.2
      exact this.fr (fun j => f1 _ _ (by omega) (by omega) (by omega) (by omega))
  have pw2 : ∀ a, a = 22 ∨ a = 95 → PS μ2 a := fun a ea => (pw a ea).fr (fun j => g2 _ _ (by unfold scr; omega) (by omega))
  have ff : ∀ k j, ¬ scr k j → k ≠ 169 → ¬ (22 ≤ k ∧ k ≤ 167) → ¬ (k = 0 ∧ (j = 5 ∨ j = 6)) → μ2 k j = μ k j := by
    intro k j p q r s
    rw [g2 k j p q]
    unfold scr at p
    exact f1 k j s (by omega) (by omega) (by omega)
  by_cases h0 : 0 ≤ R.1
  · obtain ⟨z7, z8, zS, zN⟩ := y1 h0
    have w7 : μ2 0 5 = μ 0 6 := by rw [g2 0 5 (by unfold scr; omega) (by omega)]; exact z7
    have w8 : μ2 0 6 = μ 0 5 := by rw [g2 0 6 (by unfold scr; omega) (by omega)]; exact z8
    refine STP.of c1 c2 (h.rd ff ?_ ⟨pw2 22 (by omega), pw2 95 (by omega)⟩ (by omega))
    rw [w7]
    have h2 := zS.fr (μ' := μ2) (fun k j p q => g2 k j (by unfold scr; omega) (by omega)) (fun j => g2 9 j (by unfold scr; omega) (by omega))
    have eN : μ2 169 = fun j => if 0 ≤ j ∧ j < 115 then R.2 j else μ1 169 j := funext fun j => y2 h0 j
    have hNI : NI (μ2 169) (t + 1) := by rw [eN]; exact NI_rdB zN (by omega)
    refine ⟨h2.1, h2.2.1, RS_115 (N := R.2) (fun k p q => by rw [y2 h0 k, if_pos ⟨p, q⟩]) zN.2.2.2.2.2.2.2.2.2.2 h2.2.2.2.1 h2.2.2.1, hNI, h2.2.2.2.2⟩
  · obtain ⟨z7, z8⟩ := n1 (by omega)
    have w7 : μ2 0 5 = μ 0 5 := by rw [g2 0 5 (by unfold scr; omega) (by omega)]; exact z7
    have w8 : μ2 0 6 = μ 0 6 := by rw [g2 0 6 (by unfold scr; omega) (by omega)]; exact z8
    refine STP.of c1 c2 (h.rd ff ?_ ⟨pw2 22 (by omega), pw2 95 (by omega)⟩ (by omega))
    rw [w7, n2 (by omega), e162]
    have gA : ∀ k j, μ 0 5 ≤ k → k ≤ μ 0 5 + 72 → μ2 k j = μ k j := fun k j p q => by rw [g2 k j (by unfold scr; omega) (by omega)]; exact f1 k j (by omega) (by omega) (by omega) (by omega)
    exact (h.sr.fr gA (fun j => ff _ _ (by unfold scr; omega) (by omega) (by omega) (by omega))).mono (by omega)
end
