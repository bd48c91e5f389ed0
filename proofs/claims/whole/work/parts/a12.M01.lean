theorem zcmp_lt {x y : Int} : zcmp x y < 0 ↔ x < y := by unfold zcmp; split <;> (try split) <;> omega
theorem zcmp_gt {x y : Int} : 0 < zcmp x y ↔ y < x := by unfold zcmp; split <;> (try split) <;> omega
theorem zcmp_eq {x y : Int} : zcmp x y = 0 ↔ x = y := by unfold zcmp; split <;> (try split) <;> omega
theorem zcmp_rng {x y : Int} : zrng (zcmp x y) := by unfold zcmp; split <;> (try split) <;> omega
section
variable {ext : List xC} {σ : zSh} {d : Nat} {μ : zM}
set_option maxRecDepth 100000 in set_option maxHeartbeats 4000000 in theorem k_in {v lo hi : Int} (hW : Wl σ) (hv : zrng v) (hl : zrng lo) (hh : zrng hi) : ZM ext d n_X12_in [(1, v), (1, lo), (1, hi)] σ μ (some (0, bz (lo ≤ v ∧ v ≤ hi))) μ := by
  refine ZM.i rfl ?_
  refine Zv.go hW 9999 rfl (by and_intros <;> first | trivial | assumption | omega) ?_
  refine Zv.b0 rfl (zcmp_rng) ?_ ?_ <;> intro h1
  · refine Zv.go hW 9999 rfl (by and_intros <;> first | trivial | assumption | omega) ?_
    refine Zv.rb rfl rfl rfl ?_
    rw [zcmp_lt] at h1
    exact (bz_f (by omega)).symm
  · refine Zv.go hW 9999 rfl (by and_intros <;> first | trivial | assumption | omega) ?_
    refine Zv.b0 rfl (zcmp_rng) ?_ ?_ <;> intro h2
    · refine Zv.go hW 9999 rfl (by and_intros <;> first | trivial | assumption | omega) ?_
      refine Zv.rb rfl rfl rfl ?_
      rw [zcmp_gt] at h2
      exact (bz_f (by omega)).symm
    · refine Zv.go hW 9999 rfl (by and_intros <;> first | trivial | assumption | omega) ?_
      refine Zv.rb rfl rfl rfl ?_
      have := (not_congr (zcmp_lt (x := v) (y := lo))).mp (by omega)
      have := (not_congr (zcmp_gt (x := v) (y := hi))).mp (by omega)
      exact (bz_t (by omega)).symm
set_option maxRecDepth 100000 in set_option maxHeartbeats 4000000 in theorem k_m_isView {v : Int} (hW : Wl σ) (hv : zrng v) (hn : 0 ≤ μ 169 0 ∧ μ 169 0 ≤ 6) : ZM ext (d + 1) n_X12_isView [(1161, 0), (0, v)] σ μ (some (0, bz (0 ≤ v ∧ v ≤ μ 169 0 - 1))) μ := by
  refine ZM.i rfl ?_
  refine Zv.go hW 9999 rfl (by and_intros <;> first | trivial | assumption | omega) ?_
  refine Zv.c0 hW rfl rfl (Nat.le_of_ble_eq_true rfl) (Nat.le_of_ble_eq_true rfl) (k_in hW hv (by omega) (by omega)) ?_
  refine Zv.rb rfl rfl rfl ?_
  rfl
set_option maxRecDepth 100000 in set_option maxHeartbeats 4000000 in theorem k_m_isRenter {v : Int} (hW : Wl σ) (hv : zrng v) (hn : 0 ≤ μ 169 1 ∧ μ 169 1 ≤ 6) : ZM ext (d + 1) n_X12_isRenter [(1161, 0), (0, v)] σ μ (some (0, bz (0 ≤ v ∧ v ≤ μ 169 1 - 1))) μ := by
  refine ZM.i rfl ?_
  refine Zv.go hW 9999 rfl (by and_intros <;> first | trivial | assumption | omega) ?_
  refine Zv.c0 hW rfl rfl (Nat.le_of_ble_eq_true rfl) (Nat.le_of_ble_eq_true rfl) (k_in hW hv (by omega) (by omega)) ?_
  refine Zv.rb rfl rfl rfl ?_
  rfl
set_option maxRecDepth 100000 in set_option maxHeartbeats 4000000 in theorem k_m_isEvening {v : Int} (hW : Wl σ) (hv : zrng v) : ZM ext (d + 1) n_X12_isEvening [(0, v)] σ μ (some (0, bz (0 ≤ v ∧ v ≤ 99))) μ := by
  refine ZM.i rfl ?_
  refine Zv.go hW 9999 rfl (by and_intros <;> first | trivial | assumption | omega) ?_
  refine Zv.c0 hW rfl rfl (Nat.le_of_ble_eq_true rfl) (Nat.le_of_ble_eq_true rfl) (k_in hW hv (by omega) (by omega)) ?_
  refine Zv.rb rfl rfl rfl ?_
  rfl
end
