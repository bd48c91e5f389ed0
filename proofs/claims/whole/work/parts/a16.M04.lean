/-- does the view suit the renter of the hand on that evening -/
def dS (μ : zM) (e r v : Int) : Prop := wFit (μ 169 (7 + 6 * v + 0)) (μ 169 (7 + 6 * v + 1)) (μ 174 r) ∧ μ 173 v ≤ μ 175 r ∧ (μ 176 r = 6 ∨ μ 176 r = wSh (μ 169 (7 + 6 * v + 0)) (μ 169 (7 + 6 * v + 3)) e)
/-- the hand's ranges -/
def HR (μ : zM) : Prop := (0 ≤ μ 168 7 ∧ μ 168 7 ≤ 7) ∧ (∀ v, 0 ≤ v → v < μ 169 0 → 0 ≤ μ 173 v ∧ μ 173 v < 200) ∧ (∀ r, 0 ≤ r → r < μ 168 7 → (1 ≤ μ 174 r ∧ μ 174 r ≤ 9) ∧ (0 ≤ μ 175 r ∧ μ 175 r ≤ 999) ∧ (0 ≤ μ 176 r ∧ μ 176 r ≤ 6))
section
variable {ext : List xC} {σ : zSh} {d : Nat} {μ : zM}
theorem HL.hr {t : Int} (h : HL μ) (hN : NI (μ 169) t) : HR μ := by
  obtain ⟨⟨h1, h2, h3, h4⟩, hV, hR, hD, hB, hP⟩ := hN
  have h43 : ∀ r, 0 ≤ r → r < μ 169 1 → 0 ≤ μ 169 (43 + 3 * r + 1) ∧ μ 169 (43 + 3 * r + 1) ≤ 999 := hB.2.2.1
  obtain ⟨a, b, c⟩ := h
  refine ⟨by omega, ?_, ?_⟩
  · intro v p q
    rw [a v p q]
    have := hV v p q
    exact wFee_rng (by omega)
  · intro r p q
    have c1 := c r p (by omega)
    have := hR r p (by omega)
    have := h43 r p (by omega)
    rw [c1.1, c1.2.1, c1.2.2]
    omega
set_option maxRecDepth 100000 in set_option maxHeartbeats 4000000 in theorem k_m_doesSuit {v r e t : Int} (hW : Wl σ) (hN : NI (μ 169) t) (hH : HR μ) (hv : 0 ≤ v ∧ v < μ 169 0) (hr : 0 ≤ r ∧ r < μ 168 7) (he : 0 ≤ e ∧ e < 1000) : ZM ext (d + 3) n_X12_doesSuit [(1161, 0), (0, v), (0, r), (0, e)] σ μ (some (0, bz (dS μ e r v))) μ := by
  obtain ⟨⟨h1, h2, h3, h4⟩, hV, hR, hD, hB, hP⟩ := hN
  have hv1 := hV v hv.1 hv.2
  have hh1 := hH.2.1 v hv.1 hv.2
  have hh2 := hH.2.2 r hr.1 hr.2
  have hh3 := hH.1
  have hws := wSh_rng (k := μ 169 (7 + 6 * v + 0)) hv1.2.2.2.1 he.1
  refine ZM.i rfl ?_
  refine Zv.go hW 9999 rfl (by and_intros <;> first | trivial | assumption | omega) ?_
  refine Zv.c0 hW rfl rfl (Nat.le_of_ble_eq_true rfl) (Nat.le_of_ble_eq_true rfl) (k_m_fits (d := d + 1) hW (by omega) hv1.1 (by omega) (by omega)) ?_
  refine Zv.bp rfl ?_ ?_ <;> intro g1
  · refine Zv.go hW 9999 rfl (by and_intros <;> first | trivial | assumption | omega) ?_
    refine Zv.rb rfl rfl rfl ?_
    exact (bz_f (fun q => g1 q.1)).symm
  · refine Zv.go hW 9999 rfl (by and_intros <;> first | trivial | assumption | omega) ?_
    refine Zv.b rfl (by omega) (by omega) ?_ ?_ <;> intro g2
    · refine Zv.go hW 9999 rfl (by and_intros <;> first | trivial | assumption | omega) ?_
      refine Zv.rb rfl rfl rfl ?_
      exact (bz_f (fun q => absurd q.2.1 (by omega))).symm
    · refine Zv.go hW 9999 rfl (by and_intros <;> first | trivial | assumption | omega) ?_
      refine Zv.b rfl (by omega) (by omega) ?_ ?_ <;> intro g3
      · refine Zv.go hW 9999 rfl (by and_intros <;> first | trivial | assumption | omega) ?_
        refine Zv.rb rfl rfl rfl ?_
        exact (bz_t ⟨g1, g2, Or.inl g3⟩).symm
      · refine Zv.go hW 9999 rfl (by and_intros <;> first | trivial | assumption | omega) ?_
        refine Zv.c0 hW rfl rfl (Nat.le_of_ble_eq_true rfl) (Nat.le_of_ble_eq_true rfl) (k_m_showsIn (d := d) hW (by omega) hv1.1 hv1.2.2.2.1 he) ?_
        refine Zv.b rfl (by omega) (by omega) ?_ ?_ <;> intro g4
        · refine Zv.go hW 9999 rfl (by and_intros <;> first | trivial | assumption | omega) ?_
          refine Zv.rb rfl rfl rfl ?_
          exact (bz_f (fun q => q.2.2.elim g3 g4)).symm
        · refine Zv.go hW 9999 rfl (by and_intros <;> first | trivial | assumption | omega) ?_
          refine Zv.rb rfl rfl rfl ?_
          exact (bz_t ⟨g1, g2, Or.inr g4⟩).symm
end
