def fill (μ : zM) (k lo hi x : Int) : zM := fun k' j => if k' = k ∧ lo ≤ j ∧ j < hi then x else μ k' j
theorem fill_up {μ : zM} {k lo i x : Int} (h : lo ≤ i) : up (fill μ k lo i x) k i x = fill μ k lo (i + 1) x := by
  funext k' j
  unfold up fill
  by_cases h1 : k' = k ∧ j = i
  · rw [if_pos h1, if_pos (by omega)]
  · rw [if_neg h1]
    by_cases h2 : k' = k ∧ lo ≤ j ∧ j < i
    · rw [if_pos h2, if_pos (by omega)]
    · rw [if_neg h2, if_neg (by omega)]
theorem fill_0 {μ : zM} {k lo x : Int} : fill μ k lo lo x = μ := by
  funext k' j
  unfold fill
  rw [if_neg (by omega)]
theorem loopU {G : Int → Prop} {n : Int} (hs : ∀ i, 0 ≤ i → i < n → G (i + 1) → G i) (he : G n) : ∀ i, 0 ≤ i → i ≤ n → G i := by
  have : ∀ (k : Nat) i, 0 ≤ i → i + k = n → G i := by
    intro k
    induction k with
    | zero =>
      intro i h0 h1
      rw [show i = n by omega]
      exact he
    | succ k ih =>
      intro i h0 h1
      exact hs i h0 (by omega) (ih (i + 1) (by omega) (by omega))
  intro i h0 h1
  exact this (n - i).toNat i h0 (by omega)
/-- the last of k places from i on where f is r, else what was -/
def zlst (f : Int → Int) (r : Int) : Nat → Int → Int → Int
  | 0, _, a => a
  | k + 1, i, a => zlst f r k (i + 1) (if f i = r then i else a)
section
variable {ext : List xC} {σ : zSh} {d : Nat} {μ : zM}
set_option maxRecDepth 100000 in set_option maxHeartbeats 4000000 in theorem k_m_isWeather {v : Int} (hW : Wl σ) (hv : zrng v) : ZM ext (d + 1) n_X12_isWeather [(0, v)] σ μ (some (0, bz (0 ≤ v ∧ v ≤ 5))) μ := by
  refine ZM.i rfl ?_
  refine Zv.go hW 9999 rfl (by and_intros <;> first | trivial | assumption | omega) ?_
  refine Zv.c0 hW rfl rfl (Nat.le_of_ble_eq_true rfl) (Nat.le_of_ble_eq_true rfl) (k_in hW hv (by omega) (by omega)) ?_
  refine Zv.rb rfl rfl rfl ?_
  rfl
set_option maxRecDepth 100000 in set_option maxHeartbeats 4000000 in theorem k_m_isViewTold {k s p w : Int} (hW : Wl σ) (hk : zrng k) (hs : zrng s) (hp : zrng p) (hw : zrng w) : ZM ext (d + 2) n_X12_isViewTold [(0, k), (0, s), (0, p), (0, w)] σ μ (some (0, bz ((0 ≤ k ∧ k ≤ 5) ∧ (1 ≤ s ∧ s ≤ 9) ∧ (0 ≤ p ∧ p ≤ 99) ∧ (0 ≤ w ∧ w ≤ 5)))) μ := by
  refine ZM.i rfl ?_
  refine Zv.go hW 9999 rfl (by and_intros <;> first | trivial | assumption | omega) ?_
  refine Zv.c0 hW rfl rfl (Nat.le_of_ble_eq_true rfl) (Nat.le_of_ble_eq_true rfl) (k_in (d := d + 1) hW hk (by omega) (by omega)) ?_
  refine Zv.bp rfl ?_ ?_ <;> intro h1
  · refine Zv.go hW 9999 rfl (by and_intros <;> first | trivial | assumption | omega) ?_
    refine Zv.rb rfl rfl rfl ?_
    exact (bz_f (by omega)).symm
  · refine Zv.go hW 9999 rfl (by and_intros <;> first | trivial | assumption | omega) ?_
    refine Zv.c0 hW rfl rfl (Nat.le_of_ble_eq_true rfl) (Nat.le_of_ble_eq_true rfl) (k_in (d := d + 1) hW hs (by omega) (by omega)) ?_
    refine Zv.bp rfl ?_ ?_ <;> intro h2
    · refine Zv.go hW 9999 rfl (by and_intros <;> first | trivial | assumption | omega) ?_
      refine Zv.rb rfl rfl rfl ?_
      exact (bz_f (by omega)).symm
    · refine Zv.go hW 9999 rfl (by and_intros <;> first | trivial | assumption | omega) ?_
      refine Zv.c0 hW rfl rfl (Nat.le_of_ble_eq_true rfl) (Nat.le_of_ble_eq_true rfl) (k_in (d := d + 1) hW hp (by omega) (by omega)) ?_
      refine Zv.bp rfl ?_ ?_ <;> intro h3
      · refine Zv.go hW 9999 rfl (by and_intros <;> first | trivial | assumption | omega) ?_
        refine Zv.rb rfl rfl rfl ?_
        exact (bz_f (by omega)).symm
      · refine Zv.go hW 9999 rfl (by and_intros <;> first | trivial | assumption | omega) ?_
        refine Zv.c0 hW rfl rfl (Nat.le_of_ble_eq_true rfl) (Nat.le_of_ble_eq_true rfl) (k_m_isWeather hW hw) ?_
        refine Zv.bp rfl ?_ ?_ <;> intro h4
        · refine Zv.go hW 9999 rfl (by and_intros <;> first | trivial | assumption | omega) ?_
          refine Zv.rb rfl rfl rfl ?_
          exact (bz_f (by omega)).symm
        · refine Zv.go hW 9999 rfl (by and_intros <;> first | trivial | assumption | omega) ?_
          refine Zv.rb rfl rfl rfl ?_
          exact (bz_t (by omega)).symm
set_option maxRecDepth 100000 in set_option maxHeartbeats 4000000 in theorem k_m_isRenterTold {k s p : Int} (hW : Wl σ) (hk : zrng k) (hs : zrng s) (hp : zrng p) : ZM ext (d + 1) n_X12_isRenterTold [(0, k), (0, s), (0, p)] σ μ (some (0, bz ((1 ≤ k ∧ k ≤ 9) ∧ (0 ≤ s ∧ s ≤ 999) ∧ (0 ≤ p ∧ p ≤ 6)))) μ := by
  refine ZM.i rfl ?_
  refine Zv.go hW 9999 rfl (by and_intros <;> first | trivial | assumption | omega) ?_
  refine Zv.c0 hW rfl rfl (Nat.le_of_ble_eq_true rfl) (Nat.le_of_ble_eq_true rfl) (k_in hW hk (by omega) (by omega)) ?_
  refine Zv.bp rfl ?_ ?_ <;> intro h1
  · refine Zv.go hW 9999 rfl (by and_intros <;> first | trivial | assumption | omega) ?_
    refine Zv.rb rfl rfl rfl ?_
    exact (bz_f (by omega)).symm
  · refine Zv.go hW 9999 rfl (by and_intros <;> first | trivial | assumption | omega) ?_
    refine Zv.c0 hW rfl rfl (Nat.le_of_ble_eq_true rfl) (Nat.le_of_ble_eq_true rfl) (k_in hW hs (by omega) (by omega)) ?_
    refine Zv.bp rfl ?_ ?_ <;> intro h2
    · refine Zv.go hW 9999 rfl (by and_intros <;> first | trivial | assumption | omega) ?_
      refine Zv.rb rfl rfl rfl ?_
      exact (bz_f (by omega)).symm
    · refine Zv.go hW 9999 rfl (by and_intros <;> first | trivial | assumption | omega) ?_
      refine Zv.c0 hW rfl rfl (Nat.le_of_ble_eq_true rfl) (Nat.le_of_ble_eq_true rfl) (k_in hW hp (by omega) (by omega)) ?_
      refine Zv.bp rfl ?_ ?_ <;> intro h3
      · refine Zv.go hW 9999 rfl (by and_intros <;> first | trivial | assumption | omega) ?_
        refine Zv.rb rfl rfl rfl ?_
        exact (bz_f (by omega)).symm
      · refine Zv.go hW 9999 rfl (by and_intros <;> first | trivial | assumption | omega) ?_
        refine Zv.rb rfl rfl rfl ?_
        exact (bz_t (by omega)).symm
set_option maxRecDepth 100000 in set_option maxHeartbeats 4000000 in theorem k_m_begin {d : Nat} (hW : Wl σ) : ZM ext d n_X12_begin [(1162, 0)] σ μ none (fill μ 169 0 115 0) := by
  refine ZM.i rfl ?_
  refine Zv.go hW 2 rfl (by and_intros <;> first | trivial | assumption | omega) ?_
  refine Zv.eqm (fill_0 (k := 169) (lo := 0) (x := 0)).symm ?_
  refine loopU (n := 115) (G := fun i => Zv ext d n_X12_begin 2 [(1162, 0), (0, i)] [] σ (fill μ 169 0 i 0) none (hz σ (fill μ 169 0 115 0))) ?_ ?_ 0 (by omega) (by omega)
  · intro i h0 h1 ih
    refine Zv.go hW 9999 rfl (by and_intros <;> first | trivial | assumption | omega) ?_
    refine Zv.b rfl (by omega) (by omega) ?_ ?_ <;> intro hc
    · omega
    · refine Zv.go hW 2 rfl (by and_intros <;> first | trivial | assumption | omega) ?_
      refine Zv.eqm (fill_up h0) ih
  · refine Zv.go hW 9999 rfl (by and_intros <;> first | trivial | assumption | omega) ?_
    refine Zv.b rfl (by omega) (by omega) ?_ ?_ <;> intro hc
    · refine Zv.rv rfl rfl rfl
    · omega
set_option maxRecDepth 100000 in set_option maxHeartbeats 4000000 in theorem k_m_begin2 {d : Nat} (hW : Wl σ) : ZM ext d n_X12_begin [(1175, 0)] σ μ none (fill μ 182 0 115 0) := by
  refine ZM.i rfl ?_
  refine Zv.go hW 2 rfl (by and_intros <;> first | trivial | assumption | omega) ?_
  refine Zv.eqm (fill_0 (k := 182) (lo := 0) (x := 0)).symm ?_
  refine loopU (n := 115) (G := fun i => Zv ext d n_X12_begin 2 [(1175, 0), (0, i)] [] σ (fill μ 182 0 i 0) none (hz σ (fill μ 182 0 115 0))) ?_ ?_ 0 (by omega) (by omega)
  · intro i h0 h1 ih
    refine Zv.go hW 9999 rfl (by and_intros <;> first | trivial | assumption | omega) ?_
    refine Zv.b rfl (by omega) (by omega) ?_ ?_ <;> intro hc
    · omega
    · refine Zv.go hW 2 rfl (by and_intros <;> first | trivial | assumption | omega) ?_
      refine Zv.eqm (fill_up h0) ih
  · refine Zv.go hW 9999 rfl (by and_intros <;> first | trivial | assumption | omega) ?_
    refine Zv.b rfl (by omega) (by omega) ?_ ?_ <;> intro hc
    · refine Zv.rv rfl rfl rfl
    · omega
set_option maxRecDepth 100000 in set_option maxHeartbeats 4000000 in theorem k_m_weatherOf {k w e : Int} (hW : Wl σ) (hk : 0 ≤ k ∧ k < 6) (hw : 0 ≤ w ∧ w < 6) (he : 0 ≤ e ∧ e < 1000) : ZM ext (d + 1) n_X12_weatherOf [(0, k), (0, w), (0, e)] σ μ (some (0, wSh k w e)) μ := by
  have : k = 0 ∨ k = 1 ∨ k = 2 ∨ k = 3 ∨ k = 4 ∨ k = 5 := by omega
  rcases this with rfl | rfl | rfl | rfl | rfl | rfl
  · refine ZM.i rfl ?_
    refine Zv.go hW 9999 rfl (by and_intros <;> first | trivial | assumption | omega) ?_
    refine Zv.ts rfl (by omega) rfl ?_
    refine Zv.go hW 9999 rfl (by and_intros <;> first | trivial | assumption | omega) ?_
    exact Zv.ri rfl rfl rfl rfl
  · refine ZM.i rfl ?_
    refine Zv.go hW 9999 rfl (by and_intros <;> first | trivial | assumption | omega) ?_
    refine Zv.ts rfl (by omega) rfl ?_
    refine Zv.go hW 9999 rfl (by and_intros <;> first | trivial | assumption | omega) ?_
    exact Zv.ri rfl rfl rfl rfl
  · refine ZM.i rfl ?_
    refine Zv.go hW 9999 rfl (by and_intros <;> first | trivial | assumption | omega) ?_
    refine Zv.ts rfl (by omega) rfl ?_
    refine Zv.go hW 9999 rfl (by and_intros <;> first | trivial | assumption | omega) ?_
    refine Zv.b rfl (by omega) (by omega) ?_ ?_ <;> intro hc
    · refine Zv.go hW 9999 rfl (by and_intros <;> first | trivial | assumption | omega) ?_
      refine Zv.ri rfl rfl rfl ?_
      show (w + e) % 6 = if (w + e) % 6 = 1 then 0 else (w + e) % 6
      rw [if_neg hc]
    · refine Zv.go hW 9999 rfl (by and_intros <;> first | trivial | assumption | omega) ?_
      refine Zv.ri rfl rfl rfl ?_
      show 0 = if (w + e) % 6 = 1 then 0 else (w + e) % 6
      rw [if_pos hc]
  · refine ZM.i rfl ?_
    refine Zv.go hW 9999 rfl (by and_intros <;> first | trivial | assumption | omega) ?_
    refine Zv.ts rfl (by omega) rfl ?_
    refine Zv.go hW 9999 rfl (by and_intros <;> first | trivial | assumption | omega) ?_
    exact Zv.ri rfl rfl rfl rfl
  · refine ZM.i rfl ?_
    refine Zv.go hW 9999 rfl (by and_intros <;> first | trivial | assumption | omega) ?_
    refine Zv.ts rfl (by omega) rfl ?_
    refine Zv.go hW 9999 rfl (by and_intros <;> first | trivial | assumption | omega) ?_
    exact Zv.ri rfl rfl rfl rfl
  · refine ZM.i rfl ?_
    refine Zv.go hW 9999 rfl (by and_intros <;> first | trivial | assumption | omega) ?_
    refine Zv.ts rfl (by omega) rfl ?_
    refine Zv.go hW 9999 rfl (by and_intros <;> first | trivial | assumption | omega) ?_
    refine Zv.b rfl (by omega) (by omega) ?_ ?_ <;> intro hc
    · refine Zv.go hW 9999 rfl (by and_intros <;> first | trivial | assumption | omega) ?_
      refine Zv.ri rfl rfl rfl ?_
      show w = if e % 2 = 1 then 5 else w
      rw [if_neg hc]
    · refine Zv.go hW 9999 rfl (by and_intros <;> first | trivial | assumption | omega) ?_
      refine Zv.ri rfl rfl rfl ?_
      show 5 = if e % 2 = 1 then 5 else w
      rw [if_pos hc]
set_option maxRecDepth 100000 in set_option maxHeartbeats 4000000 in theorem k_m_costOf {k p : Int} (hW : Wl σ) (hk : 0 ≤ k ∧ k < 6) (hp : 0 ≤ p ∧ p < 100) : ZM ext d n_X12_costOf [(0, k), (0, p)] σ μ (some (0, wFee k p)) μ := by
  unfold wFee
  refine ZM.i rfl ?_
  refine Zv.go hW 9999 rfl (by and_intros <;> first | trivial | assumption | omega) ?_
  refine Zv.b rfl (by omega) (by omega) ?_ ?_ <;> intro h1
  · refine Zv.go hW 9999 rfl (by and_intros <;> first | trivial | assumption | omega) ?_
    refine Zv.b rfl (by omega) (by omega) ?_ ?_ <;> intro h2
    · refine Zv.go hW 9999 rfl (by and_intros <;> first | trivial | assumption | omega) ?_
      refine Zv.b rfl (by omega) (by omega) ?_ ?_ <;> intro h3
      · refine Zv.go hW 9999 rfl (by and_intros <;> first | trivial | assumption | omega) ?_
        refine Zv.ri rfl rfl rfl ?_
        rw [if_neg h1, if_neg h2, if_neg h3]
      · refine Zv.go hW 9999 rfl (by and_intros <;> first | trivial | assumption | omega) ?_
        refine Zv.ri rfl rfl rfl ?_
        rw [if_neg h1, if_neg h2, if_pos h3]
    · refine Zv.go hW 9999 rfl (by and_intros <;> first | trivial | assumption | omega) ?_
      refine Zv.ri rfl rfl rfl ?_
      rw [if_neg h1, if_pos h2]
  · refine Zv.go hW 9999 rfl (by and_intros <;> first | trivial | assumption | omega) ?_
    refine Zv.ri rfl rfl rfl ?_
    rw [if_pos h1]
set_option maxRecDepth 100000 in set_option maxHeartbeats 4000000 in theorem k_m_showsIn {v e : Int} (hW : Wl σ) (hv : 0 ≤ v ∧ v < 6) (hk : 0 ≤ μ 169 (7 + 6 * v + 0) ∧ μ 169 (7 + 6 * v + 0) < 6) (hw : 0 ≤ μ 169 (7 + 6 * v + 3) ∧ μ 169 (7 + 6 * v + 3) < 6) (he : 0 ≤ e ∧ e < 1000) : ZM ext (d + 2) n_X12_showsIn [(1161, 0), (0, v), (0, e)] σ μ (some (0, wSh (μ 169 (7 + 6 * v + 0)) (μ 169 (7 + 6 * v + 3)) e)) μ := by
  refine ZM.i rfl ?_
  refine Zv.go hW 9999 rfl (by and_intros <;> first | trivial | assumption | omega) ?_
  refine Zv.c0 hW rfl rfl (Nat.le_of_ble_eq_true rfl) (Nat.le_of_ble_eq_true rfl) (k_m_weatherOf hW hk hw he) ?_
  exact Zv.ri rfl rfl rfl rfl
set_option maxRecDepth 100000 in set_option maxHeartbeats 4000000 in theorem k_m_fits {v w : Int} (hW : Wl σ) (hv : 0 ≤ v ∧ v < 6) (hk : 0 ≤ μ 169 (7 + 6 * v + 0) ∧ μ 169 (7 + 6 * v + 0) < 6) (hs : 0 ≤ μ 169 (7 + 6 * v + 1) ∧ μ 169 (7 + 6 * v + 1) < 100) (hw : 0 ≤ w ∧ w < 100) : ZM ext (d + 1) n_X12_fits [(1161, 0), (0, v), (0, w)] σ μ (some (0, bz (wFit (μ 169 (7 + 6 * v + 0)) (μ 169 (7 + 6 * v + 1)) w))) μ := by
  unfold wFit
  refine ZM.i rfl ?_
  refine Zv.go hW 9999 rfl (by and_intros <;> first | trivial | assumption | omega) ?_
  refine Zv.b rfl (by omega) (by omega) ?_ ?_ <;> intro h1
  · refine Zv.go hW 9999 rfl (by and_intros <;> first | trivial | assumption | omega) ?_
    refine Zv.rb rfl rfl rfl ?_
    exact (bz_t (Or.inl h1)).symm
  · refine Zv.go hW 9999 rfl (by and_intros <;> first | trivial | assumption | omega) ?_
    refine Zv.b rfl (by omega) (by omega) ?_ ?_ <;> intro h2
    · refine Zv.go hW 9999 rfl (by and_intros <;> first | trivial | assumption | omega) ?_
      refine Zv.rb rfl rfl rfl ?_
      exact (bz_f (by omega)).symm
    · refine Zv.go hW 9999 rfl (by and_intros <;> first | trivial | assumption | omega) ?_
      refine Zv.rb rfl rfl rfl ?_
      exact (bz_t (Or.inr h2)).symm
set_option maxRecDepth 100000 in set_option maxHeartbeats 4000000 in theorem k_m_viewOf {r : Int} (hW : Wl σ) (hr : zrng r) (hn : 0 ≤ μ 169 0 ∧ μ 169 0 ≤ 6) (hm : ∀ v, 0 ≤ v → v < μ 169 0 → zrng (μ 169 (7 + 6 * v + 4))) : ZM ext (d + 1) n_X12_viewOf [(1161, 0), (0, r)] σ μ (some (0, zlst (fun v => μ 169 (7 + 6 * v + 4)) r (μ 169 0).toNat 0 (-1))) μ := by
  have loop : ∀ (k : Nat) (i a : Int), 0 ≤ i → i + k = μ 169 0 → Zv ext (d + 1) n_X12_viewOf 4 [(1161, 0), (0, r), (0, a), (0, i)] [] σ μ (some (vv (0, zlst (fun v => μ 169 (7 + 6 * v + 4)) r k i a))) (hz σ μ) := by
    intro k
    induction k with
    | zero =>
      intro i a h0 h6
      refine Zv.go hW 9999 rfl (by and_intros <;> first | trivial | assumption | omega) ?_
      refine Zv.b rfl (by omega) (by omega) ?_ ?_ <;> intro hc
      · refine Zv.go hW 9999 rfl (by and_intros <;> first | trivial | assumption | omega) ?_
        exact Zv.ri rfl rfl rfl rfl
      · omega
    | succ k ih =>
      intro i a h0 h6
      have := hm i h0 (by omega)
      refine Zv.go hW 9999 rfl (by and_intros <;> first | trivial | assumption | omega) ?_
      refine Zv.b rfl (by omega) (by omega) ?_ ?_ <;> intro hc
      · omega
      · refine Zv.go hW 9999 rfl (by and_intros <;> first | trivial | assumption | omega) ?_
        refine Zv.b rfl (by omega) (by omega) ?_ ?_ <;> intro hd
        · refine Zv.go hW 4 rfl (by and_intros <;> first | trivial | assumption | omega) ?_
          have e : zlst (fun v => μ 169 (7 + 6 * v + 4)) r (k + 1) i a = zlst (fun v => μ 169 (7 + 6 * v + 4)) r k (i + 1) a := by
            show zlst _ r k (i + 1) (if _ then i else a) = _
            rw [if_neg hd]
          rw [e]
          exact ih (i + 1) a (by omega) (by omega)
        · refine Zv.go hW 4 rfl (by and_intros <;> first | trivial | assumption | omega) ?_
          have e : zlst (fun v => μ 169 (7 + 6 * v + 4)) r (k + 1) i a = zlst (fun v => μ 169 (7 + 6 * v + 4)) r k (i + 1) i := by
            show zlst _ r k (i + 1) (if _ then i else a) = _
            rw [if_pos hd]
          rw [e]
          exact ih (i + 1) i (by omega) (by omega)
  refine ZM.i rfl ?_
  refine Zv.go hW 4 rfl (by and_intros <;> first | trivial | assumption | omega) ?_
  exact loop (μ 169 0).toNat 0 (-1) (by omega) (by omega)
end
