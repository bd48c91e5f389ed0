section
variable {ext : List xC} {σ σ' : zSh} {μ : zM} {t : Int}
theorem IM.sh {i : Int} (h : IM σ μ i t) (hS : ∀ a, Sh σ a → Sh σ' a) : IM σ' μ i t := by
  rcases h with z | ⟨a, b, c, d⟩
  · exact Or.inl z
  · exact Or.inr ⟨a, b, hS _ c, d⟩
theorem WS.img {μ2 : zM} {i c : Int} (h : WS σ μ t) (hi : 0 ≤ i ∧ i ≤ 1) (hWl : Wl σ') (hSh : ∀ a, Sh σ a → Sh σ' a) (hc : c = 184 ∨ c = 257) (h8 : μ2 1 i = c) (hne : μ 1 (1 - i) ≠ c)
    (hf : ∀ k j, ¬ scr k j → ¬ (k = 1 ∧ j = i) → ¬ (k = 171 ∧ j = i) → ¬ (k = 170 ∧ 523 * i ≤ j ∧ j < 523 * i + 523) → (k < 184 ∨ (184 ≤ μ 1 (1 - i) ∧ μ 1 (1 - i) ≤ k ∧ k ≤ μ 1 (1 - i) + 72)) → μ2 k j = μ k j)
    (hS : SR σ' μ2 c (μ 169) t) (h164 : μ2 171 i = 1) (h163 : ∀ k, 0 ≤ k → k < 523 → μ2 170 (523 * i + k) = μ 169 k) (hL2 : IL σ' μ2) : WS σ' μ2 (t + 1) := by
  have ha := h.a
  have hsr := h.sr
  obtain ⟨hK, hN, hRS, hP, hT, hA, hF, hI, hL, hD⟩ := h
  have g : ∀ k j, (k = 0 ∨ (k = 2 ∧ j = 1) ∨ k = 3 ∨ k = 9 ∨ k = 21 ∨ k = 169 ∨ k = 172 ∨ k = 181 ∨ (22 ≤ k ∧ k ≤ 167) ∨ (k = 168 ∧ (j = 4 ∨ j = 5 ∨ j = 20))) → μ2 k j = μ k j := fun k j p => hf k j (by unfold scr; omega) (by omega) (by omega) (by omega) (by omega)
  have e162 : μ2 169 = μ 169 := funext fun j => g 169 j (by omega)
  have e7 : μ2 0 5 = μ 0 5 := g 0 5 (by omega)
  have e8 : μ2 0 6 = μ 0 6 := g 0 6 (by omega)
  have hS0 := (hsr.fr (μ' := μ2) (fun k j p q => g k j (by omega)) (fun j => g _ _ (by omega))).mono (t' := t + 1) (by omega)
  have hIi : IM σ' μ2 i (t + 1) := by
    have ek : ∀ k, 0 ≤ k → k < 523 → (fun k => μ2 170 (523 * i + k)) k = μ 169 k := fun k p q => h163 k p q
    refine Or.inr ⟨h164, by rw [h8]; exact hc, by rw [h8]; exact hS.2.1, NI_mono (BI_523 ek hN) (by omega), ?_, by rw [h8]; exact hS.2.2.2.2.1⟩
    rw [h8]
    exact RS_523 ek hN hS.2.2.1
  have hIo : IM σ' μ2 (1 - i) (t + 1) := by
    have hi0 : IM σ μ (1 - i) t := by
      rcases (by omega : i = 0 ∨ i = 1) with rfl | rfl
      · exact hI.2
      · exact hI.1
    have g8 : μ2 1 (1 - i) = μ 1 (1 - i) := hf _ _ (by unfold scr; omega) (by omega) (by omega) (by omega) (by omega)
    refine IM.sh (hi0.fr (by omega) hK (fun j => g _ _ (by omega)) g8 (hf _ _ (by unfold scr; omega) (by omega) (by omega) (by omega) (by omega)) (fun j p q => hf _ _ (by unfold scr; omega) (by omega) (by omega) (by omega) (by omega)) (fun _ _ e => BI_523 e) (fun _ _ _ e hn => RS_523 e hn) (fun k j p q r => ?_)) hSh
    exact hf _ _ (by unfold scr; omega) (by omega) (by omega) (by omega) (by omega)
  refine ⟨⟨hWl, hS0.1.2⟩, by rw [e162]; exact hS0.2.2.2.1, by rw [e162, e7]; exact hS0.2.2.1, ⟨hP.1.fr (fun j => g _ _ (by omega)), hP.2.fr (fun j => g _ _ (by omega))⟩, ?_, ?_, fun i p q => ?_, ?_, hL2, ?_⟩
  · have q9 := g 2 1 (by omega)
    have q20 := g 168 20 (by omega)
    refine ⟨by rw [q9, q20]; exact hT.1, fun j p q => ?_⟩
    rw [q9] at q
    rw [g 3 j (by omega), g 181 j (by omega)]
    exact hT.2 j p q
  · unfold AB
    rw [g 168 4 (by omega), g 168 5 (by omega), g 0 7 (by omega), g 0 8 (by omega)]
    exact hA
  · rw [g 21 i (by omega), g 172 i (by omega)]; exact hF i p q
  · rcases (by omega : i = 0 ∨ i = 1) with rfl | rfl
    · exact ⟨hIi, hIo⟩
    · exact ⟨hIo, hIi⟩
  · unfold AD
    rw [e7, e8]
    exact ⟨hD.1, hSh _ hD.2.1, hSh _ hD.2.2⟩
theorem s_image {i : Int} (h : WS σ μ t) (hi : zrng i) : STP ext σ μ t n_X11_image n_X12_image [(0, i)] 0 := by
  have ha := h.a
  have hI := h.2.2.2.2.2.2.2.1
  have hL := h.2.2.2.2.2.2.2.2.1
  by_cases hok : 0 ≤ i ∧ i ≤ 1
  · have hIi : IM σ μ i t := by
      rcases (by omega : i = 0 ∨ i = 1) with rfl | rfl
      · exact hI.1
      · exact hI.2
    have hio : μ 1 (1 - i) = -1 ∨ μ 1 (1 - i) = 184 ∨ μ 1 (1 - i) = 257 := by
      rcases (by omega : i = 0 ∨ i = 1) with rfl | rfl
      · rcases hI.2 with z | z
        · exact Or.inl z.1
        · exact Or.inr z.2.1
      · rcases hI.1 with z | z
        · exact Or.inl z.1
        · exact Or.inr z.2.1
    rcases hIi with z | z
    · -- a new one
      have hn : ∃ n : Nat, σ.length = n ∧ (n = 184 ∧ μ 1 (1 - i) = -1 ∨ n = 257 ∧ μ 1 (1 - i) = 184) := by
        unfold IL at hL
        rcases (by omega : i = 0 ∨ i = 1) with rfl | rfl
        · rw [z.1] at hL
          show ∃ n : Nat, σ.length = n ∧ (n = 184 ∧ μ 1 1 = -1 ∨ n = 257 ∧ μ 1 1 = 184)
          exact ⟨σ.length, rfl, by omega⟩
        · rw [z.1] at hL
          show ∃ n : Nat, σ.length = n ∧ (n = 184 ∧ μ 1 0 = -1 ∨ n = 257 ∧ μ 1 0 = 184)
          exact ⟨σ.length, rfl, by omega⟩
      obtain ⟨n, hn, hno⟩ := hn
      obtain ⟨μ1, c1, f1, e8, hS1⟩ := k_x_image2 (ext := ext) (d := 4) h.sr hok z.1 hn (by omega) (by omega)
      have hW2 : Wl (σ ++ spS (n : Int)) := h.1.1.app
      obtain ⟨rv2, μ2, c2, q2⟩ := k_m_image (ext := ext) (d := 8) (μ := μ1) (σ := σ ++ spS (n : Int)) hW2 hi
      obtain ⟨rfl, q164, q163, q0⟩ := q2.2 hok
      refine ⟨1, σ ++ spS (n : Int), μ1, μ2, c1, c2, ?_⟩
      have g2 : ∀ k j, k ≠ 171 → k ≠ 170 → μ2 k j = μ1 k j := fun k j p q => q0 k j (by omega) (by omega)
      have gg8 : μ2 1 i = n := by rw [g2 1 i (by omega) (by omega)]; exact e8
      have g8o : μ2 1 (1 - i) = μ 1 (1 - i) := by rw [g2 _ _ (by omega) (by omega)]; exact f1 _ _ (by omega) (by omega)
      refine h.img (c := (n : Int)) hok hW2 (fun a hs => hs.app) (by omega) gg8 (by omega) (fun k j p q r s u => ?_) (hS1.fr (fun k j p q => g2 k j (by omega) (by omega)) (fun j => g2 9 j (by omega) (by omega))) q164 (fun k p q => by rw [q163 k p q]; exact f1 169 k (by omega) (by omega)) ?_
      · rw [q0 k j r s]; exact f1 k j (by omega) q
      · have hlen : (σ ++ spS (n : Int)).length = n + 73 := by
          rw [List.length_append, hn]
          rfl
        unfold IL
        rw [hlen]
        rcases (by omega : i = 0 ∨ i = 1) with rfl | rfl
        · have g8o : μ2 1 1 = μ 1 1 := g8o
          have hno : n = 184 ∧ μ 1 1 = -1 ∨ n = 257 ∧ μ 1 1 = 184 := hno
          omega
        · have g8o : μ2 1 0 = μ 1 0 := g8o
          have hno : n = 184 ∧ μ 1 0 = -1 ∨ n = 257 ∧ μ 1 0 = 184 := hno
          omega
    · -- one that is there
      obtain ⟨z1, z2, z3, z4, z5, z6⟩ := z
      obtain ⟨rv1, μ1, c1, rfl, f1, hS1⟩ := k_x_image1 (ext := ext) (d := 7) h.sr hok rfl z3 z6 (by omega) (by omega)
      obtain ⟨rv2, μ2, c2, q2⟩ := k_m_image (ext := ext) (d := 8) (μ := μ1) (σ := σ) h.1.1 hi
      obtain ⟨rfl, q164, q163, q0⟩ := q2.2 hok
      have g2 : ∀ k j, k ≠ 171 → k ≠ 170 → μ2 k j = μ1 k j := fun k j p q => q0 k j (by omega) (by omega)
      have gg8 : ∀ j, μ2 1 j = μ 1 j := fun j => by rw [g2 1 j (by omega) (by omega)]; exact f1 _ _ (by omega)
      have hne : μ 1 (1 - i) ≠ μ 1 i := by
        unfold IL at hL
        rcases (by omega : i = 0 ∨ i = 1) with rfl | rfl
        · show μ 1 1 ≠ μ 1 0
          omega
        · show μ 1 0 ≠ μ 1 1
          omega
      refine STP.of c1 c2 (h.img (c := μ 1 i) hok h.1.1 (fun a hs => hs) z2 (gg8 i) hne (fun k j p q r s u => ?_) (hS1.fr (fun k j p q => g2 k j (by omega) (by omega)) (fun j => g2 9 j (by omega) (by omega))) q164 (fun k p q => by rw [q163 k p q]; exact f1 169 k (by omega)) ?_)
      · rw [q0 k j r s]; exact f1 k j (by omega)
      · unfold IL
        rw [gg8, gg8]
        exact hL
  · have c1 := k_x_image0 (ext := ext) (d := 8) (μ := μ) (σ := σ) h.1.1 hi hok
    obtain ⟨rv2, μ2, c2, q2⟩ := k_m_image (ext := ext) (d := 8) (μ := up μ 21 0 (μ 21 0 + 1)) (σ := σ) h.1.1 hi
    obtain ⟨rfl, hq2⟩ := q2.1 hok
    refine STP.of c1 c2 (h.ref (i := 0) (by omega) rfl (fun k j p q => by rw [hq2, up_n q]) ?_)
    rw [hq2, up_s, up_n (by omega)]
end
