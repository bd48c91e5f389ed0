def Mn (μ μ' : zM) : Prop := ∀ k j, k ≠ 169 → ¬ (173 ≤ k ∧ k ≤ 180) → ¬ (k = 168 ∧ 7 ≤ j ∧ j ≤ 17) → μ' k j = μ k j
/-- an answer, or a refusal that is counted -/
def Qm (ok : Prop) (bad val : Int) (μ : zM) (rv : Option V) (μ' : zM) : Prop := (ok → rv = some (0, val) ∧ Mq μ μ') ∧ (¬ ok → rv = some (0, bad) ∧ μ' = up μ 172 0 (μ 172 0 + 1))
section
variable {ext : List xC} {σ : zSh} {d : Nat} {μ : zM}
set_option maxRecDepth 100000 in set_option maxHeartbeats 4000000 in theorem k_m_shop (hW : Wl σ) : ZM ext (d + 1) n_X12_shop [(1161, 0)] σ μ (some (0, μ 169 0)) (fill μ 169 0 115 0) := by
  refine ZM.i rfl ?_
  refine Zv.go hW 9999 rfl (by and_intros <;> first | trivial | assumption | omega) ?_
  refine Zv.c0 hW rfl rfl (Nat.le_of_ble_eq_true rfl) (Nat.le_of_ble_eq_true rfl) (k_m_begin hW) ?_
  refine Zv.go hW 9999 rfl (by and_intros <;> first | trivial | assumption | omega) ?_
  exact Zv.ri rfl rfl rfl rfl
def vwN (N : Int → Int) (k s p w : Int) : Int → Int := fun j => if j = 6 then 0 else if j = 0 then N 0 + 1 else if j = 7 + 6 * N 0 + 5 then 0 else if j = 7 + 6 * N 0 + 4 then -1 else if j = 7 + 6 * N 0 + 3 then w else if j = 7 + 6 * N 0 + 2 then p else if j = 7 + 6 * N 0 + 1 then s else if j = 7 + 6 * N 0 + 0 then k else N j
set_option maxRecDepth 100000 in set_option maxHeartbeats 4000000 in theorem k_m_view {k s p w : Int} (hW : Wl σ) (hn : 0 ≤ μ 169 0 ∧ μ 169 0 ≤ 6) (hk : zrng k) (hs : zrng s) (hp : zrng p) (hw : zrng w) : ZQ ext (d + 3) n_X12_view [(1161, 0), (0, k), (0, s), (0, p), (0, w)] σ μ (fun rv μ' =>
    (¬ ((0 ≤ k ∧ k ≤ 5) ∧ (1 ≤ s ∧ s ≤ 9) ∧ (0 ≤ p ∧ p ≤ 99) ∧ (0 ≤ w ∧ w ≤ 5)) → rv = some (0, -2) ∧ μ' = up μ 172 0 (μ 172 0 + 1)) ∧
    ((0 ≤ k ∧ k ≤ 5) ∧ (1 ≤ s ∧ s ≤ 9) ∧ (0 ≤ p ∧ p ≤ 99) ∧ (0 ≤ w ∧ w ≤ 5) → (μ 169 0 = 6 → rv = some (0, -4) ∧ μ' = up μ 172 2 (μ 172 2 + 1)) ∧ (μ 169 0 ≠ 6 → rv = some (0, μ 169 0) ∧ μ' 169 = vwN (μ 169) k s p w ∧ Nx μ μ'))) := by
  refine ZQ.i rfl ?_
  refine ZE.go hW 9999 rfl (by and_intros <;> first | trivial | assumption | omega) ?_
  refine ZE.c0 hW rfl rfl (Nat.le_of_ble_eq_true rfl) (Nat.le_of_ble_eq_true rfl) (k_m_isViewTold (d := d) hW hk hs hp hw) ?_
  refine ZE.bp rfl rfl ?_ ?_ <;> intro h1
  · refine ZE.go hW 9999 rfl (by and_intros <;> first | trivial | assumption | omega) ?_
    refine ZE.b rfl (by omega) (by omega) ?_ ?_ <;> intro h2
    · refine ZE.go hW 9999 rfl (by and_intros <;> first | trivial | assumption | omega) ?_
      refine ZE.ri rfl rfl ?_
      refine ⟨fun q => absurd h1 q, fun _ => ⟨fun q => absurd q h2, fun _ => ⟨?_, ?_, Nx.rfl'.up.up.up.up.up.up.up.up⟩⟩⟩
      · refine congrArg (fun x => some ((0 : Nat), x)) ?_
        rw [up162, if_neg (by decide), up162, if_pos rfl]
        simp only [up162]
        rw [if_neg (show ¬ 0 = 7 + 6 * μ 169 0 + 5 by omega), if_neg (show ¬ 0 = 7 + 6 * μ 169 0 + 4 by omega), if_neg (show ¬ 0 = 7 + 6 * μ 169 0 + 3 by omega), if_neg (show ¬ 0 = 7 + 6 * μ 169 0 + 2 by omega), if_neg (show ¬ 0 = 7 + 6 * μ 169 0 + 1 by omega), if_neg (show ¬ 0 = 7 + 6 * μ 169 0 + 0 by omega)]
        omega
      · funext j
        simp only [up162]
        unfold vwN
        rw [if_neg (show ¬ 0 = 7 + 6 * μ 169 0 + 0 by omega), if_neg (show ¬ 0 = 7 + 6 * μ 169 0 + 1 by omega), if_neg (show ¬ 0 = 7 + 6 * μ 169 0 + 2 by omega), if_neg (show ¬ 0 = 7 + 6 * μ 169 0 + 3 by omega), if_neg (show ¬ 0 = 7 + 6 * μ 169 0 + 4 by omega), if_neg (show ¬ 0 = 7 + 6 * μ 169 0 + 5 by omega)]
    · refine ZE.go hW 9999 rfl (by and_intros <;> first | trivial | assumption | omega) ?_
      refine ZE.ri rfl rfl ?_
      exact ⟨fun q => absurd h1 q, fun _ => ⟨fun _ => ⟨rfl, rfl⟩, fun q => absurd h2 q⟩⟩
  · refine ZE.go hW 9999 rfl (by and_intros <;> first | trivial | assumption | omega) ?_
    refine ZE.ri rfl rfl ?_
    exact ⟨fun _ => ⟨rfl, rfl⟩, fun q => absurd q h1⟩
def rnN (N : Int → Int) (w p a : Int) : Int → Int := fun j => if j = 6 then 0 else if j = 1 then N 1 + 1 else if j = 43 + 3 * N 1 + 2 then a else if j = 43 + 3 * N 1 + 1 then p else if j = 43 + 3 * N 1 + 0 then w else N j
set_option maxRecDepth 100000 in set_option maxHeartbeats 4000000 in theorem k_m_renter {w p a : Int} (hW : Wl σ) (hn : 0 ≤ μ 169 1 ∧ μ 169 1 ≤ 6) (hk : zrng w) (hs : zrng p) (hp : zrng a) : ZQ ext (d + 3) n_X12_renter [(1161, 0), (0, w), (0, p), (0, a)] σ μ (fun rv μ' =>
    (¬ ((1 ≤ w ∧ w ≤ 9) ∧ (0 ≤ p ∧ p ≤ 999) ∧ (0 ≤ a ∧ a ≤ 6)) → rv = some (0, -2) ∧ μ' = up μ 172 0 (μ 172 0 + 1)) ∧
    ((1 ≤ w ∧ w ≤ 9) ∧ (0 ≤ p ∧ p ≤ 999) ∧ (0 ≤ a ∧ a ≤ 6) → (μ 169 1 = 6 → rv = some (0, -4) ∧ μ' = up μ 172 2 (μ 172 2 + 1)) ∧ (μ 169 1 ≠ 6 → rv = some (0, μ 169 1) ∧ μ' 169 = rnN (μ 169) w p a ∧ Nx μ μ'))) := by
  refine ZQ.i rfl ?_
  refine ZE.go hW 9999 rfl (by and_intros <;> first | trivial | assumption | omega) ?_
  refine ZE.c0 hW rfl rfl (Nat.le_of_ble_eq_true rfl) (Nat.le_of_ble_eq_true rfl) (k_m_isRenterTold (d := d + 1) hW hk hs hp) ?_
  refine ZE.bp rfl rfl ?_ ?_ <;> intro h1
  · refine ZE.go hW 9999 rfl (by and_intros <;> first | trivial | assumption | omega) ?_
    refine ZE.b rfl (by omega) (by omega) ?_ ?_ <;> intro h2
    · refine ZE.go hW 9999 rfl (by and_intros <;> first | trivial | assumption | omega) ?_
      refine ZE.ri rfl rfl ?_
      refine ⟨fun q => absurd h1 q, fun _ => ⟨fun q => absurd q h2, fun _ => ⟨?_, ?_, Nx.rfl'.up.up.up.up.up⟩⟩⟩
      · refine congrArg (fun x => some ((0 : Nat), x)) ?_
        rw [up162, if_neg (by decide), up162, if_pos rfl]
        simp only [up162]
        rw [if_neg (show ¬ 1 = 43 + 3 * μ 169 1 + 2 by omega), if_neg (show ¬ 1 = 43 + 3 * μ 169 1 + 1 by omega), if_neg (show ¬ 1 = 43 + 3 * μ 169 1 + 0 by omega)]
        omega
      · funext j
        simp only [up162]
        unfold rnN
        rw [if_neg (show ¬ 1 = 43 + 3 * μ 169 1 + 0 by omega), if_neg (show ¬ 1 = 43 + 3 * μ 169 1 + 1 by omega), if_neg (show ¬ 1 = 43 + 3 * μ 169 1 + 2 by omega)]
    · refine ZE.go hW 9999 rfl (by and_intros <;> first | trivial | assumption | omega) ?_
      refine ZE.ri rfl rfl ?_
      exact ⟨fun q => absurd h1 q, fun _ => ⟨fun _ => ⟨rfl, rfl⟩, fun q => absurd h2 q⟩⟩
  · refine ZE.go hW 9999 rfl (by and_intros <;> first | trivial | assumption | omega) ?_
    refine ZE.ri rfl rfl ?_
    exact ⟨fun _ => ⟨rfl, rfl⟩, fun q => absurd q h1⟩
set_option maxRecDepth 100000 in set_option maxHeartbeats 4000000 in theorem k_m_things {v s : Int} (hW : Wl σ) (hn : 0 ≤ μ 169 0 ∧ μ 169 0 ≤ 6) (hv : zrng v) (hs : zrng s) : ZQ ext (d + 3) n_X12_things [(1161, 0), (0, v), (0, s)] σ μ (fun rv μ' =>
    (¬ ((0 ≤ v ∧ v ≤ μ 169 0 - 1) ∧ (0 ≤ s ∧ s ≤ 255)) → rv = some (0, -2) ∧ μ' = up μ 172 0 (μ 172 0 + 1)) ∧
    ((0 ≤ v ∧ v ≤ μ 169 0 - 1) ∧ (0 ≤ s ∧ s ≤ 255) → rv = some (0, μ 169 (7 + 6 * v + 5)) ∧ μ' = up μ 169 (7 + 6 * v + 5) s)) := by
  refine ZQ.i rfl ?_
  refine ZE.go hW 9999 rfl (by and_intros <;> first | trivial | assumption | omega) ?_
  refine ZE.c0 hW rfl rfl (Nat.le_of_ble_eq_true rfl) (Nat.le_of_ble_eq_true rfl) (k_m_isView (d := d + 1) hW hv hn) ?_
  refine ZE.bp rfl rfl ?_ ?_ <;> intro h1
  · refine ZE.go hW 9999 rfl (by and_intros <;> first | trivial | assumption | omega) ?_
    refine ZE.ri rfl rfl ?_
    exact ⟨fun _ => ⟨rfl, rfl⟩, fun q => absurd q.1 h1⟩
  · refine ZE.go hW 9999 rfl (by and_intros <;> first | trivial | assumption | omega) ?_
    refine ZE.c0 hW rfl rfl (Nat.le_of_ble_eq_true rfl) (Nat.le_of_ble_eq_true rfl) (k_in (d := d + 2) hW hs (by omega) (by omega)) ?_
    refine ZE.bp rfl rfl ?_ ?_ <;> intro h2
    · refine ZE.go hW 9999 rfl (by and_intros <;> first | trivial | assumption | omega) ?_
      refine ZE.ri rfl rfl ?_
      exact ⟨fun q => absurd ⟨h1, h2⟩ q, fun _ => ⟨rfl, rfl⟩⟩
    · refine ZE.go hW 9999 rfl (by and_intros <;> first | trivial | assumption | omega) ?_
      refine ZE.ri rfl rfl ?_
      exact ⟨fun _ => ⟨rfl, rfl⟩, fun q => absurd q.2 h2⟩
set_option maxRecDepth 100000 in set_option maxHeartbeats 4000000 in theorem k_m_shows {v e : Int} (hW : Wl σ) {t : Int} (hN : NI (μ 169) t) (hv : zrng v) (he : zrng e) : ZQ ext (d + 3) n_X12_shows [(1161, 0), (0, v), (0, e)] σ μ (Qm ((0 ≤ v ∧ v ≤ μ 169 0 - 1) ∧ (0 ≤ e ∧ e ≤ 99)) (-2) (wSh (μ 169 (7 + 6 * v + 0)) (μ 169 (7 + 6 * v + 3)) e) μ) := by
  obtain ⟨⟨h1, h2, h3, h4⟩, hV, hR, hD, hB, hP⟩ := hN
  refine ZQ.i rfl ?_
  refine ZE.go hW 9999 rfl (by and_intros <;> first | trivial | assumption | omega) ?_
  refine ZE.c0 hW rfl rfl (Nat.le_of_ble_eq_true rfl) (Nat.le_of_ble_eq_true rfl) (k_m_isView (d := d + 1) hW hv h1) ?_
  refine ZE.bp rfl rfl ?_ ?_ <;> intro g1
  · refine ZE.go hW 9999 rfl (by and_intros <;> first | trivial | assumption | omega) ?_
    refine ZE.ri rfl rfl ?_
    exact ⟨fun q => absurd q.1 g1, fun _ => ⟨rfl, rfl⟩⟩
  · refine ZE.go hW 9999 rfl (by and_intros <;> first | trivial | assumption | omega) ?_
    refine ZE.c0 hW rfl rfl (Nat.le_of_ble_eq_true rfl) (Nat.le_of_ble_eq_true rfl) (k_m_isEvening (d := d + 1) hW he) ?_
    refine ZE.bp rfl rfl ?_ ?_ <;> intro g2
    · refine ZE.go hW 9999 rfl (by and_intros <;> first | trivial | assumption | omega) ?_
      refine ZE.ri rfl rfl ?_
      exact ⟨fun q => absurd q.2 g2, fun _ => ⟨rfl, rfl⟩⟩
    · have := hV v g1.1 (by omega)
      refine ZE.go hW 9999 rfl (by and_intros <;> first | trivial | assumption | omega) ?_
      refine ZE.c0 hW rfl rfl (Nat.le_of_ble_eq_true rfl) (Nat.le_of_ble_eq_true rfl) (k_m_showsIn (d := d) hW (by omega) this.1 this.2.2.2.1 (by omega)) ?_
      refine ZE.go hW 9999 rfl (by and_intros <;> first | trivial | assumption | omega) ?_
      refine ZE.ri rfl rfl ?_
      exact ⟨fun _ => ⟨rfl, Mq.rfl'⟩, fun q => absurd ⟨g1, g2⟩ q⟩
set_option maxRecDepth 100000 in set_option maxHeartbeats 4000000 in theorem k_m_suits {v r e : Int} (hW : Wl σ) {t : Int} (hN : NI (μ 169) t) (hv : zrng v) (hr : zrng r) (he : zrng e) : ZQ ext (d + 4) n_X12_suits [(1161, 0), (0, v), (0, r), (0, e)] σ μ (Qm ((0 ≤ v ∧ v ≤ μ 169 0 - 1) ∧ (0 ≤ r ∧ r ≤ μ 169 1 - 1) ∧ (0 ≤ e ∧ e ≤ 99)) (-2) (bz (wFit (μ 169 (7 + 6 * v + 0)) (μ 169 (7 + 6 * v + 1)) (μ 169 (43 + 3 * r + 0)) ∧ wFee (μ 169 (7 + 6 * v + 0)) (μ 169 (7 + 6 * v + 2)) ≤ μ 169 (43 + 3 * r + 1) ∧ (μ 169 (43 + 3 * r + 2) = 6 ∨ μ 169 (43 + 3 * r + 2) = wSh (μ 169 (7 + 6 * v + 0)) (μ 169 (7 + 6 * v + 3)) e))) μ) := by
  have hN0 := hN
  obtain ⟨⟨h1, h2, h3, h4⟩, hV, hR, hD, hB, hP⟩ := hN
  refine ZQ.i rfl ?_
  refine ZE.go hW 9999 rfl (by and_intros <;> first | trivial | assumption | omega) ?_
  refine ZE.c0 hW rfl rfl (Nat.le_of_ble_eq_true rfl) (Nat.le_of_ble_eq_true rfl) (k_m_isView (d := d + 2) hW hv h1) ?_
  refine ZE.bp rfl rfl ?_ ?_ <;> intro g1
  · refine ZE.go hW 9999 rfl (by and_intros <;> first | trivial | assumption | omega) ?_
    refine ZE.ri rfl rfl ?_
    exact ⟨fun q => absurd q.1 g1, fun _ => ⟨rfl, rfl⟩⟩
  · refine ZE.go hW 9999 rfl (by and_intros <;> first | trivial | assumption | omega) ?_
    refine ZE.c0 hW rfl rfl (Nat.le_of_ble_eq_true rfl) (Nat.le_of_ble_eq_true rfl) (k_m_isRenter (d := d + 2) hW hr h2) ?_
    refine ZE.bp rfl rfl ?_ ?_ <;> intro g2
    · refine ZE.go hW 9999 rfl (by and_intros <;> first | trivial | assumption | omega) ?_
      refine ZE.ri rfl rfl ?_
      exact ⟨fun q => absurd q.2.1 g2, fun _ => ⟨rfl, rfl⟩⟩
    · refine ZE.go hW 9999 rfl (by and_intros <;> first | trivial | assumption | omega) ?_
      refine ZE.c0 hW rfl rfl (Nat.le_of_ble_eq_true rfl) (Nat.le_of_ble_eq_true rfl) (k_m_isEvening (d := d + 2) hW he) ?_
      refine ZE.bp rfl rfl ?_ ?_ <;> intro g3
      · refine ZE.go hW 9999 rfl (by and_intros <;> first | trivial | assumption | omega) ?_
        refine ZE.q0 hW rfl rfl (Nat.le_of_ble_eq_true rfl) (Nat.le_of_ble_eq_true rfl) (k_m_layHand (d := d + 2) hW hN0) ?_
        rintro rv9 μ9 ⟨rfl, hq, hl⟩
        have e1 := hq.n
        have n0 := congrFun e1 0
        have n1 := congrFun e1 1
        have hN9 : NI (μ9 169) t := by rw [e1]; exact hN0
        have l2 := hl.2.1
        refine ZE.go hW 9999 rfl (by and_intros <;> first | trivial | assumption | omega) ?_
        refine ZE.c0 hW rfl rfl (Nat.le_of_ble_eq_true rfl) (Nat.le_of_ble_eq_true rfl) (k_m_doesSuit (d := d) hW hN9 (hl.hr hN9) (by omega) (by omega) (by omega)) ?_
        have ed : dS μ9 e r v ↔ (wFit (μ 169 (7 + 6 * v + 0)) (μ 169 (7 + 6 * v + 1)) (μ 169 (43 + 3 * r + 0)) ∧ wFee (μ 169 (7 + 6 * v + 0)) (μ 169 (7 + 6 * v + 2)) ≤ μ 169 (43 + 3 * r + 1) ∧ (μ 169 (43 + 3 * r + 2) = 6 ∨ μ 169 (43 + 3 * r + 2) = wSh (μ 169 (7 + 6 * v + 0)) (μ 169 (7 + 6 * v + 3)) e)) := by
          unfold dS
          rw [hl.1 v g1.1 (by omega), (hl.2.2 r g2.1 (by omega)).1, (hl.2.2 r g2.1 (by omega)).2.1, (hl.2.2 r g2.1 (by omega)).2.2, e1]
        rw [bz_c ed]
        refine ZE.bp rfl rfl ?_ ?_ <;> intro g4
        · refine ZE.go hW 9999 rfl (by and_intros <;> first | trivial | assumption | omega) ?_
          refine ZE.ri rfl rfl ?_
          refine ⟨fun _ => ⟨?_, hq⟩, fun q => absurd ⟨g1, g2, g3⟩ q⟩
          rw [bz_f g4]
        · refine ZE.go hW 9999 rfl (by and_intros <;> first | trivial | assumption | omega) ?_
          refine ZE.ri rfl rfl ?_
          refine ⟨fun _ => ⟨?_, hq⟩, fun q => absurd ⟨g1, g2, g3⟩ q⟩
          rw [bz_t g4]
      · refine ZE.go hW 9999 rfl (by and_intros <;> first | trivial | assumption | omega) ?_
        refine ZE.ri rfl rfl ?_
        exact ⟨fun q => absurd q.2.2 g3, fun _ => ⟨rfl, rfl⟩⟩
end
