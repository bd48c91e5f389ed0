section
variable {ext : List xC} {σ : zSh} {d : Nat} {μ : zM}
set_option maxRecDepth 100000 in set_option maxHeartbeats 4000000 in theorem k_m_type {c : Int} (hW : Wl σ) (hc : zrng c) (hl : 0 ≤ μ 168 20 ∧ μ 168 20 ≤ 150) : ZQ ext (d + 2) n_X12_type [(1161, 0), (0, c)] σ μ (fun rv μ' =>
    (¬ (0 ≤ c ∧ c ≤ 127) → rv = some (0, -2) ∧ μ' = up μ 172 0 (μ 172 0 + 1)) ∧ (0 ≤ c ∧ c ≤ 127 → (μ 168 20 = 150 → rv = some (0, -4) ∧ μ' = up μ 172 2 (μ 172 2 + 1)) ∧ (μ 168 20 ≠ 150 → rv = some (0, μ 168 20 + 1) ∧ μ' = up (up μ 181 (μ 168 20) c) 168 20 (μ 168 20 + 1)))) := by
  refine ZQ.i rfl ?_
  refine ZE.go hW 9999 rfl (by and_intros <;> first | trivial | assumption | omega) ?_
  refine ZE.c0 hW rfl rfl (Nat.le_of_ble_eq_true rfl) (Nat.le_of_ble_eq_true rfl) (k_in (d := d + 1) hW hc (by omega) (by omega)) ?_
  refine ZE.bp rfl rfl ?_ ?_ <;> intro g1
  · refine ZE.go hW 9999 rfl (by and_intros <;> first | trivial | assumption | omega) ?_
    refine ZE.b rfl (by omega) (by omega) ?_ ?_ <;> intro g2
    · refine ZE.go hW 9999 rfl (by and_intros <;> first | trivial | assumption | omega) ?_
      refine ZE.ri rfl rfl ?_
      refine ⟨fun q => absurd g1 q, fun _ => ⟨fun q => absurd q g2, fun _ => ⟨?_, ?_⟩⟩⟩
      · rw [up_s, up_n (by omega)]
      · rw [up_n (by omega)]
    · refine ZE.go hW 9999 rfl (by and_intros <;> first | trivial | assumption | omega) ?_
      refine ZE.ri rfl rfl ?_
      exact ⟨fun q => absurd g1 q, fun _ => ⟨fun _ => ⟨rfl, rfl⟩, fun q => absurd g2 q⟩⟩
  · refine ZE.go hW 9999 rfl (by and_intros <;> first | trivial | assumption | omega) ?_
    refine ZE.ri rfl rfl ?_
    exact ⟨fun _ => ⟨rfl, rfl⟩, fun q => absurd q g1⟩
set_option maxRecDepth 100000 in set_option maxHeartbeats 4000000 in theorem k_m_clear (hW : Wl σ) : ZM ext d n_X12_clear [(1161, 0)] σ μ (some (0, μ 168 20)) (up μ 168 20 0) := by
  refine ZM.i rfl ?_
  refine Zv.go hW 9999 rfl (by and_intros <;> first | trivial | assumption | omega) ?_
  exact Zv.ri rfl rfl rfl rfl
set_option maxRecDepth 100000 in set_option maxHeartbeats 4000000 in theorem k_m_forget (hW : Wl σ) : ZM ext d n_X12_forget [(1161, 0)] σ μ (some (0, μ 169 5)) (up μ 169 5 0) := by
  refine ZM.i rfl ?_
  refine Zv.go hW 9999 rfl (by and_intros <;> first | trivial | assumption | omega) ?_
  exact Zv.ri rfl rfl rfl rfl
def rdN (N : Int → Int) (v e w : Int) : Int → Int := fun j => if j = 5 then N 5 + 1 else if j = 97 + 3 * N 5 + 2 then w else if j = 97 + 3 * N 5 + 1 then e else if j = 97 + 3 * N 5 then v else N j
set_option maxRecDepth 100000 in set_option maxHeartbeats 4000000 in theorem k_m_reading {v e w : Int} (hW : Wl σ) {t : Int} (hN : NI (μ 169) t) (hv : zrng v) (he : zrng e) (hw : zrng w) : ZQ ext (d + 3) n_X12_reading [(1161, 0), (0, v), (0, e), (0, w)] σ μ (fun rv μ' =>
    (¬ ((0 ≤ v ∧ v ≤ μ 169 0 - 1) ∧ (0 ≤ e ∧ e ≤ 99) ∧ (0 ≤ w ∧ w ≤ 5)) → rv = some (0, -2) ∧ μ' = up μ 172 0 (μ 172 0 + 1)) ∧
    ((0 ≤ v ∧ v ≤ μ 169 0 - 1) ∧ (0 ≤ e ∧ e ≤ 99) ∧ (0 ≤ w ∧ w ≤ 5) → (μ 169 5 = 6 → rv = some (0, -4) ∧ μ' = up μ 172 2 (μ 172 2 + 1)) ∧ (μ 169 5 ≠ 6 → rv = some (0, μ 169 5 + 1) ∧ μ' 169 = rdN (μ 169) v e w ∧ Nx μ μ'))) := by
  obtain ⟨⟨h1, h2, h3, h4⟩, hV, hR, hD, hB, hP⟩ := hN
  refine ZQ.i rfl ?_
  refine ZE.go hW 9999 rfl (by and_intros <;> first | trivial | assumption | omega) ?_
  refine ZE.c0 hW rfl rfl (Nat.le_of_ble_eq_true rfl) (Nat.le_of_ble_eq_true rfl) (k_m_isView (d := d + 1) hW hv h1) ?_
  refine ZE.bp rfl rfl ?_ ?_ <;> intro g1
  · refine ZE.go hW 9999 rfl (by and_intros <;> first | trivial | assumption | omega) ?_
    refine ZE.ri rfl rfl ?_
    exact ⟨fun _ => ⟨rfl, rfl⟩, fun q => absurd q.1 g1⟩
  · refine ZE.go hW 9999 rfl (by and_intros <;> first | trivial | assumption | omega) ?_
    refine ZE.c0 hW rfl rfl (Nat.le_of_ble_eq_true rfl) (Nat.le_of_ble_eq_true rfl) (k_m_isEvening (d := d + 1) hW he) ?_
    refine ZE.bp rfl rfl ?_ ?_ <;> intro g2
    · refine ZE.go hW 9999 rfl (by and_intros <;> first | trivial | assumption | omega) ?_
      refine ZE.ri rfl rfl ?_
      exact ⟨fun _ => ⟨rfl, rfl⟩, fun q => absurd q.2.1 g2⟩
    · refine ZE.go hW 9999 rfl (by and_intros <;> first | trivial | assumption | omega) ?_
      refine ZE.c0 hW rfl rfl (Nat.le_of_ble_eq_true rfl) (Nat.le_of_ble_eq_true rfl) (k_m_isWeather (d := d + 1) hW hw) ?_
      refine ZE.bp rfl rfl ?_ ?_ <;> intro g3
      · refine ZE.go hW 9999 rfl (by and_intros <;> first | trivial | assumption | omega) ?_
        refine ZE.b rfl (by omega) (by omega) ?_ ?_ <;> intro g4
        · refine ZE.go hW 9999 rfl (by and_intros <;> first | trivial | assumption | omega) ?_
          refine ZE.ri rfl rfl ?_
          refine ⟨fun q => absurd ⟨g1, g2, g3⟩ q, fun _ => ⟨fun q => absurd q g4, fun _ => ⟨?_, ?_, Nx.rfl'.up.up.up.up⟩⟩⟩
          · refine congrArg (fun x => some ((0 : Nat), x)) ?_
            simp only [up162]
            rw [if_pos trivial, if_neg (show ¬ 5 = 97 + 3 * μ 169 5 + 2 by omega), if_neg (show ¬ 5 = 97 + 3 * μ 169 5 + 1 by omega), if_neg (show ¬ 5 = 97 + 3 * μ 169 5 by omega)]
          · funext j
            simp only [up162]
            rw [if_neg (show ¬ 5 = 97 + 3 * μ 169 5 + 2 by omega), if_neg (show ¬ 5 = 97 + 3 * μ 169 5 + 1 by omega), if_neg (show ¬ 5 = 97 + 3 * μ 169 5 by omega)]
            rfl
        · refine ZE.go hW 9999 rfl (by and_intros <;> first | trivial | assumption | omega) ?_
          refine ZE.ri rfl rfl ?_
          exact ⟨fun q => absurd ⟨g1, g2, g3⟩ q, fun _ => ⟨fun _ => ⟨rfl, rfl⟩, fun q => absurd g4 q⟩⟩
      · refine ZE.go hW 9999 rfl (by and_intros <;> first | trivial | assumption | omega) ?_
        refine ZE.ri rfl rfl ?_
        exact ⟨fun _ => ⟨rfl, rfl⟩, fun q => absurd q.2.2 g3⟩
set_option maxRecDepth 100000 in set_option maxHeartbeats 4000000 in theorem k_m_part {w : Int} (hW : Wl σ) (hw : zrng w) : ZQ ext (d + 2) n_X12_part [(1161, 0), (0, w)] σ μ (fun rv μ' => (w = 0 → rv = some (1, μ 168 4) ∧ μ' = μ) ∧ (w = 1 → rv = some (1, μ 168 5) ∧ μ' = μ) ∧ (w ≠ 0 → w ≠ 1 → rv = some (1, -2) ∧ μ' = up μ 172 0 (μ 172 0 + 1))) := by
  refine ZQ.i rfl ?_
  refine ZE.go hW 9999 rfl (by and_intros <;> first | trivial | assumption | omega) ?_
  refine ZE.b0 rfl (by omega) ?_ ?_ <;> intro g1
  · refine ZE.go hW 9999 rfl (by and_intros <;> first | trivial | assumption | omega) ?_
    refine ZE.b rfl (by omega) (by omega) ?_ ?_ <;> intro g2
    · refine ZE.go hW 9999 rfl (by and_intros <;> first | trivial | assumption | omega) ?_
      refine ZE.rl rfl rfl ?_
      exact ⟨fun q => absurd q g1, fun q => absurd q g2, fun _ _ => ⟨rfl, rfl⟩⟩
    · refine ZE.go hW 9999 rfl (by and_intros <;> first | trivial | assumption | omega) ?_
      refine ZE.rl rfl rfl ?_
      exact ⟨fun q => absurd q g1, fun _ => ⟨rfl, rfl⟩, fun _ q => absurd g2 q⟩
  · refine ZE.go hW 9999 rfl (by and_intros <;> first | trivial | assumption | omega) ?_
    refine ZE.rl rfl rfl ?_
    exact ⟨fun _ => ⟨rfl, rfl⟩, fun q => absurd q (by omega), fun q => absurd g1 q⟩
set_option maxRecDepth 100000 in set_option maxHeartbeats 4000000 in theorem k_m_status {w : Int} (hW : Wl σ) (hw : zrng w) : ZQ ext (d + 2) n_X12_status [(1161, 0), (0, w)] σ μ (fun rv μ' => (0 ≤ w ∧ w ≤ 2 → rv = some (0, μ 172 w) ∧ μ' = μ) ∧ (¬ (0 ≤ w ∧ w ≤ 2) → rv = some (0, -1) ∧ μ' = up μ 172 0 (μ 172 0 + 1))) := by
  refine ZQ.i rfl ?_
  refine ZE.go hW 9999 rfl (by and_intros <;> first | trivial | assumption | omega) ?_
  refine ZE.c0 hW rfl rfl (Nat.le_of_ble_eq_true rfl) (Nat.le_of_ble_eq_true rfl) (k_in (d := d + 1) hW hw (by omega) (by omega)) ?_
  refine ZE.bp rfl rfl ?_ ?_ <;> intro g1
  · refine ZE.go hW 9999 rfl (by and_intros <;> first | trivial | assumption | omega) ?_
    refine ZE.ri rfl rfl ?_
    exact ⟨fun q => absurd q g1, fun _ => ⟨rfl, rfl⟩⟩
  · refine ZE.go hW 9999 rfl (by and_intros <;> first | trivial | assumption | omega) ?_
    refine ZE.ri rfl rfl ?_
    exact ⟨fun _ => ⟨rfl, rfl⟩, fun q => absurd g1 q⟩
set_option maxRecDepth 100000 in set_option maxHeartbeats 4000000 in theorem k_m_image {i : Int} (hW : Wl σ) (hi : zrng i) : ZQ ext (d + 2) n_X12_image [(1161, 0), (0, i)] σ μ (fun rv μ' => (¬ (0 ≤ i ∧ i ≤ 1) → rv = some (0, -2) ∧ μ' = up μ 172 0 (μ 172 0 + 1)) ∧
    (0 ≤ i ∧ i ≤ 1 → rv = some (0, 1) ∧ μ' 171 i = 1 ∧ (∀ k, 0 ≤ k → k < 523 → μ' 170 (523 * i + k) = μ 169 k) ∧ (∀ k j, ¬ (k = 171 ∧ j = i) → ¬ (k = 170 ∧ 523 * i ≤ j ∧ j < 523 * i + 523) → μ' k j = μ k j))) := by
  refine ZQ.i rfl ?_
  refine ZE.go hW 9999 rfl (by and_intros <;> first | trivial | assumption | omega) ?_
  refine ZE.c0 hW rfl rfl (Nat.le_of_ble_eq_true rfl) (Nat.le_of_ble_eq_true rfl) (k_in (d := d + 1) hW hi (by omega) (by omega)) ?_
  refine ZE.bp rfl rfl ?_ ?_ <;> intro g1
  · refine ZE.go hW 19 rfl (by and_intros <;> first | trivial | assumption | omega) ?_
    refine loopU (n := 523) (G := fun k => ∀ μ1, ((∀ q, 0 ≤ q → q < k → μ1 170 (523 * i + q) = μ 169 q) ∧ (∀ k' j, ¬ (k' = 170 ∧ 523 * i ≤ j ∧ j < 523 * i + 523) → μ1 k' j = μ k' j)) → ZE ext (d + 2) n_X12_image 19 [(1161, 0), (0, i), (0, k)] [] σ μ1 _) ?_ ?_ 0 (by omega) (by omega) μ ⟨fun q a b => by omega, fun _ _ _ => rfl⟩
    · intro k h0 h1 ih μ1 ⟨hc, hf⟩
      refine ZE.go hW 9999 rfl (by and_intros <;> first | trivial | assumption | omega) ?_
      refine ZE.b rfl (by omega) (by omega) ?_ ?_ <;> intro hb
      · omega
      · refine ZE.go hW 19 rfl (by and_intros <;> first | trivial | assumption | omega) ?_
        refine ih _ ⟨?_, ?_⟩
        · intro q a b
          by_cases e : q = k
          · subst e
            rw [up_s, hf 169 q (by omega)]
          · rw [up_n (by omega)]
            exact hc q a (by omega)
        · intro k' j hn
          rw [up_n (by omega)]
          exact hf k' j hn
    · intro μ1 ⟨hc, hf⟩
      refine ZE.go hW 9999 rfl (by and_intros <;> first | trivial | assumption | omega) ?_
      refine ZE.b rfl (by omega) (by omega) ?_ ?_ <;> intro hb
      · refine ZE.go hW 9999 rfl (by and_intros <;> first | trivial | assumption | omega) ?_
        refine ZE.ri rfl rfl ?_
        refine ⟨fun q => absurd g1 q, fun _ => ⟨rfl, up_s, ?_, ?_⟩⟩
        · intro k a b
          rw [up_n (by omega)]
          exact hc k a b
        · intro k j p q
          rw [up_n p]
          exact hf k j q
      · omega
  · refine ZE.go hW 9999 rfl (by and_intros <;> first | trivial | assumption | omega) ?_
    refine ZE.ri rfl rfl ?_
    exact ⟨fun _ => ⟨rfl, rfl⟩, fun q => absurd q g1⟩
set_option maxRecDepth 100000 in set_option maxHeartbeats 4000000 in theorem k_m_from {i : Int} (hW : Wl σ) (hi : zrng i) (hk : ∀ j, 0 ≤ j → j < 2 → μ 171 j = 0 ∨ μ 171 j = 1) : ZQ ext (d + 2) n_X12_from [(1161, 0), (0, i)] σ μ (fun rv μ' => (¬ (0 ≤ i ∧ i ≤ 1) → rv = some (0, -2) ∧ μ' = up μ 172 0 (μ 172 0 + 1)) ∧
    (0 ≤ i ∧ i ≤ 1 → (μ 171 i = 0 → rv = some (0, -3) ∧ μ' = up μ 172 1 (μ 172 1 + 1)) ∧ (μ 171 i = 1 → rv = some (0, 1) ∧ (∀ k, 0 ≤ k → k < 523 → μ' 169 k = μ 170 (523 * i + k)) ∧ Nx μ μ'))) := by
  refine ZQ.i rfl ?_
  refine ZE.go hW 9999 rfl (by and_intros <;> first | trivial | assumption | omega) ?_
  refine ZE.c0 hW rfl rfl (Nat.le_of_ble_eq_true rfl) (Nat.le_of_ble_eq_true rfl) (k_in (d := d + 1) hW hi (by omega) (by omega)) ?_
  refine ZE.bp rfl rfl ?_ ?_ <;> intro g1
  · have h01 := hk i g1.1 (by omega)
    refine ZE.go hW 9999 rfl (by and_intros <;> first | trivial | assumption | omega) ?_
    refine ZE.b0 rfl (by omega) ?_ ?_ <;> intro g2
    · refine ZE.go hW 33 rfl (by and_intros <;> first | trivial | assumption | omega) ?_
      refine loopU (n := 523) (G := fun k => ∀ μ1, ((∀ q, 0 ≤ q → q < k → μ1 169 q = μ 170 (523 * i + q)) ∧ Nx μ μ1) → ZE ext (d + 2) n_X12_from 33 [(1161, 0), (0, i), (0, k)] [] σ μ1 _) ?_ ?_ 0 (by omega) (by omega) μ ⟨fun q a b => by omega, Nx.rfl'⟩
      · intro k h0 h1 ih μ1 ⟨hc, hf⟩
        refine ZE.go hW 9999 rfl (by and_intros <;> first | trivial | assumption | omega) ?_
        refine ZE.b rfl (by omega) (by omega) ?_ ?_ <;> intro hb
        · omega
        · refine ZE.go hW 33 rfl (by and_intros <;> first | trivial | assumption | omega) ?_
          refine ih _ ⟨?_, hf.up⟩
          intro q a b
          by_cases e : q = k
          · subst e
            rw [up_s, hf 170 _ (by omega)]
          · rw [up_n (by omega)]
            exact hc q a (by omega)
      · intro μ1 ⟨hc, hf⟩
        refine ZE.go hW 9999 rfl (by and_intros <;> first | trivial | assumption | omega) ?_
        refine ZE.b rfl (by omega) (by omega) ?_ ?_ <;> intro hb
        · refine ZE.go hW 9999 rfl (by and_intros <;> first | trivial | assumption | omega) ?_
          refine ZE.ri rfl rfl ?_
          exact ⟨fun q => absurd g1 q, fun _ => ⟨fun q => absurd q g2, fun _ => ⟨rfl, hc, hf⟩⟩⟩
        · omega
    · refine ZE.go hW 9999 rfl (by and_intros <;> first | trivial | assumption | omega) ?_
      refine ZE.ri rfl rfl ?_
      exact ⟨fun q => absurd g1 q, fun _ => ⟨fun _ => ⟨rfl, rfl⟩, fun q => absurd g2 (by omega)⟩⟩
  · refine ZE.go hW 9999 rfl (by and_intros <;> first | trivial | assumption | omega) ?_
    refine ZE.ri rfl rfl ?_
    exact ⟨fun _ => ⟨rfl, rfl⟩, fun q => absurd q g1⟩
/-- may the view be let to the renter -/
def mayL (N : Int → Int) (v r : Int) : Prop := N (7 + 6 * v + 4) = -1 ∧ zlst (fun w => N (7 + 6 * w + 4)) r (N 0).toNat 0 (-1) = -1 ∧ wFit (N (7 + 6 * v + 0)) (N (7 + 6 * v + 1)) (N (43 + 3 * r + 0)) ∧ wFee (N (7 + 6 * v + 0)) (N (7 + 6 * v + 2)) ≤ N (43 + 3 * r + 1)
theorem zlst_rng (f : Int → Int) (r : Int) : ∀ (k : Nat) (i a : Int), -1 ≤ i → (-1 ≤ a ∧ a < i + k ∨ a = -1) → -1 ≤ zlst f r k i a ∧ zlst f r k i a < i + k ∨ zlst f r k i a = -1
  | 0, i, a, h0, h => h
  | k + 1, i, a, h0, h => by
    show -1 ≤ zlst f r k (i + 1) _ ∧ zlst f r k (i + 1) _ < _ ∨ _
    have := zlst_rng f r k (i + 1) (if f i = r then i else a) (by omega) (by split <;> omega)
    have e : i + ((k + 1 : Nat) : Int) = i + 1 + (k : Int) := by omega
    rw [e]
    exact this
set_option maxRecDepth 100000 in set_option maxHeartbeats 4000000 in theorem k_m_let {v r : Int} (hW : Wl σ) {t : Int} (hN : NI (μ 169) t) (hv : zrng v) (hr : zrng r) : ZQ ext (d + 4) n_X12_let [(1161, 0), (0, v), (0, r)] σ μ (fun rv μ' =>
    (¬ ((0 ≤ v ∧ v ≤ μ 169 0 - 1) ∧ (0 ≤ r ∧ r ≤ μ 169 1 - 1)) → rv = some (0, -2) ∧ μ' = up μ 172 0 (μ 172 0 + 1)) ∧
    ((0 ≤ v ∧ v ≤ μ 169 0 - 1) ∧ (0 ≤ r ∧ r ≤ μ 169 1 - 1) → (¬ mayL (μ 169) v r → rv = some (0, -3) ∧ ∃ μ0, Mq μ μ0 ∧ μ' = up μ0 172 1 (μ0 172 1 + 1)) ∧
      (mayL (μ 169) v r → rv = some (0, wFee (μ 169 (7 + 6 * v + 0)) (μ 169 (7 + 6 * v + 2))) ∧ μ' 169 = rmN (ltN (kpN (μ 169)) v r (wFee (μ 169 (7 + 6 * v + 0)) (μ 169 (7 + 6 * v + 2)))) v r ∧ Mn μ μ'))) := by
  have hN0 := hN
  obtain ⟨⟨h1, h2, h3, h4⟩, hV, hR, hD, hB, hP⟩ := hN
  have hl : ∀ v, 0 ≤ v → v < μ 169 0 → -1 ≤ μ 169 (7 + 6 * v + 4) ∧ μ 169 (7 + 6 * v + 4) < 6 := hB.2.2.2.1
  have h44 : 0 ≤ μ 169 4 ∧ μ 169 4 ≤ 12 := hB.2.1
  refine ZQ.i rfl ?_
  refine ZE.go hW 9999 rfl (by and_intros <;> first | trivial | assumption | omega) ?_
  refine ZE.c0 hW rfl rfl (Nat.le_of_ble_eq_true rfl) (Nat.le_of_ble_eq_true rfl) (k_m_isView (d := d + 2) hW hv h1) ?_
  refine ZE.bp rfl rfl ?_ ?_ <;> intro g1
  · refine ZE.go hW 9999 rfl (by and_intros <;> first | trivial | assumption | omega) ?_
    refine ZE.ri rfl rfl ?_
    exact ⟨fun _ => ⟨rfl, rfl⟩, fun q => absurd q.1 g1⟩
  · refine ZE.go hW 9999 rfl (by and_intros <;> first | trivial | assumption | omega) ?_
    refine ZE.c0 hW rfl rfl (Nat.le_of_ble_eq_true rfl) (Nat.le_of_ble_eq_true rfl) (k_m_isRenter (d := d + 2) hW hr h2) ?_
    refine ZE.bp rfl rfl ?_ ?_ <;> intro g2
    · have hv1 := hV v g1.1 (by omega)
      have hr1 := hR r g2.1 (by omega)
      have hl1 := hl v g1.1 (by omega)
      have hpu : 0 ≤ μ 169 (43 + 3 * r + 1) ∧ μ 169 (43 + 3 * r + 1) ≤ 999 := hB.2.2.1 r g2.1 (by omega)
      have hfee := wFee_rng (k := μ 169 (7 + 6 * v + 0)) (p := μ 169 (7 + 6 * v + 2)) (by omega)
      have bad : ∀ μ0, Mq μ μ0 → ¬ mayL (μ 169) v r → ((¬ ((0 ≤ v ∧ v ≤ μ 169 0 - 1) ∧ (0 ≤ r ∧ r ≤ μ 169 1 - 1)) → some ((0 : Nat), (-3 : Int)) = some (0, -2) ∧ up μ0 172 1 (μ0 172 1 + 1) = up μ 172 0 (μ 172 0 + 1)) ∧
    ((0 ≤ v ∧ v ≤ μ 169 0 - 1) ∧ (0 ≤ r ∧ r ≤ μ 169 1 - 1) → (¬ mayL (μ 169) v r → some ((0 : Nat), (-3 : Int)) = some (0, -3) ∧ ∃ μ2, Mq μ μ2 ∧ up μ0 172 1 (μ0 172 1 + 1) = up μ2 172 1 (μ2 172 1 + 1)) ∧
      (mayL (μ 169) v r → some ((0 : Nat), (-3 : Int)) = some (0, wFee (μ 169 (7 + 6 * v + 0)) (μ 169 (7 + 6 * v + 2))) ∧ up μ0 172 1 (μ0 172 1 + 1) 169 = rmN (ltN (kpN (μ 169)) v r (wFee (μ 169 (7 + 6 * v + 0)) (μ 169 (7 + 6 * v + 2)))) v r ∧ Mn μ (up μ0 172 1 (μ0 172 1 + 1))))) := by
        intro μ0 hq hm
        exact ⟨fun q => absurd ⟨g1, g2⟩ q, fun _ => ⟨fun _ => ⟨rfl, μ0, hq, rfl⟩, fun q => absurd q hm⟩⟩
      refine ZE.go hW 9999 rfl (by and_intros <;> first | trivial | assumption | omega) ?_
      refine ZE.q0 hW rfl rfl (Nat.le_of_ble_eq_true rfl) (Nat.le_of_ble_eq_true rfl) (k_m_layHand (d := d + 2) hW hN0) ?_
      rintro rv9 μ9 ⟨rfl, hq, hl9⟩
      have e1 := hq.n
      have n0 := congrFun e1 0
      have n1 := congrFun e1 1
      have n4 := congrFun e1 (7 + 6 * v + 4)
      have hN9 : NI (μ9 169) t := by rw [e1]; exact hN0
      have c1 := hl9.1 v g1.1 (by omega)
      have c2 := hl9.2.2 r g2.1 (by omega)
      rw [e1] at c1 c2
      refine ZE.go hW 9999 rfl (by and_intros <;> first | trivial | assumption | omega) ?_
      refine ZE.b rfl (by omega) (by omega) ?_ ?_ <;> intro g3
      · refine ZE.go hW 9999 rfl (by and_intros <;> first | trivial | assumption | omega) ?_
        refine ZE.b0 rfl (by omega) ?_ ?_ <;> intro g9
        · refine ZE.go hW 9999 rfl (by and_intros <;> first | trivial | assumption | omega) ?_
          refine ZE.ri rfl rfl ?_
          exact bad _ hq (fun q => g3 (by rw [n4]; exact q.1))
        · omega
      · refine ZE.go hW 9999 rfl (by and_intros <;> first | trivial | assumption | omega) ?_
        refine ZE.c0 hW rfl rfl (Nat.le_of_ble_eq_true rfl) (Nat.le_of_ble_eq_true rfl) (k_m_viewOf (d := d + 2) hW hr (by omega) (fun w p q => by rw [e1]; have := hl w p (by omega); omega)) ?_
        rw [e1]
        have zr := zlst_rng (fun w => μ 169 (7 + 6 * w + 4)) r (μ 169 0).toNat 0 (-1) (by omega) (by omega)
        refine ZE.go hW 9999 rfl (by and_intros <;> first | trivial | assumption | omega) ?_
        refine ZE.b rfl (by omega) (by omega) ?_ ?_ <;> intro g4
        · refine ZE.go hW 9999 rfl (by and_intros <;> first | trivial | assumption | omega) ?_
          refine ZE.b0 rfl (by omega) ?_ ?_ <;> intro g9
          · refine ZE.go hW 9999 rfl (by and_intros <;> first | trivial | assumption | omega) ?_
            refine ZE.ri rfl rfl ?_
            exact bad _ hq (fun q => g4 q.2.1)
          · omega
        · refine ZE.go hW 9999 rfl (by and_intros <;> first | trivial | assumption | omega) ?_
          refine ZE.b0 rfl (by omega) ?_ ?_ <;> intro g9
          · omega
          · refine ZE.go hW 9999 rfl (by and_intros <;> first | trivial | assumption | omega) ?_
            rw [c2.1]
            have m0 := congrFun e1 (7 + 6 * v + 0)
            have m1 := congrFun e1 (7 + 6 * v + 1)
            refine ZE.c0 hW rfl rfl (Nat.le_of_ble_eq_true rfl) (Nat.le_of_ble_eq_true rfl) (k_m_fits (d := d + 2) hW (by omega) (by omega) (by omega) (by omega)) ?_
            rw [e1]
            refine ZE.bp rfl rfl ?_ ?_ <;> intro g5
            · refine ZE.go hW 9999 rfl (by and_intros <;> first | trivial | assumption | omega) ?_
              refine ZE.ri rfl rfl ?_
              exact bad _ hq (fun q => g5 q.2.2.1)
            · refine ZE.go hW 9999 rfl (by and_intros <;> first | trivial | assumption | omega) ?_
              refine ZE.b rfl (by omega) (by omega) ?_ ?_ <;> intro g6
              · rw [c1, c2.2.1] at g6
                have hmay : mayL (μ 169) v r := ⟨by rw [← n4]; exact g3, g4, g5, g6⟩
                refine ZE.go hW 9999 rfl (by and_intros <;> first | trivial | assumption | omega) ?_
                refine ZE.q0 hW rfl rfl (Nat.le_of_ble_eq_true rfl) (Nat.le_of_ble_eq_true rfl) (k_m_keep (d := d + 2) hW (by rw [e1]; exact h4)) ?_
                rintro rv9 μk ⟨rfl, e2, hx2⟩
                rw [e1] at e2
                have hc2 : μk 173 v = wFee (μ 169 (7 + 6 * v + 0)) (μ 169 (7 + 6 * v + 2)) := by rw [hx2 173 v (by omega)]; exact c1
                have k4 := kpN_lo (N := μ 169) (j := 4) h4 (by omega) (by omega)
                refine ZE.go hW 9999 rfl (by and_intros <;> first | trivial | assumption | omega) ?_
                have eL : up (up (up μk 169 (7 + 6 * v + 4) r) 169 (43 + 3 * r + 1) (up μk 169 (7 + 6 * v + 4) r 169 (43 + 3 * r + 1) - up μk 169 (7 + 6 * v + 4) r 173 v)) 169 3 (up (up μk 169 (7 + 6 * v + 4) r) 169 (43 + 3 * r + 1) (up μk 169 (7 + 6 * v + 4) r 169 (43 + 3 * r + 1) - up μk 169 (7 + 6 * v + 4) r 173 v) 169 3 + up (up μk 169 (7 + 6 * v + 4) r) 169 (43 + 3 * r + 1) (up μk 169 (7 + 6 * v + 4) r 169 (43 + 3 * r + 1) - up μk 169 (7 + 6 * v + 4) r 173 v) 173 v) 169 = ltN (kpN (μ 169)) v r (wFee (μ 169 (7 + 6 * v + 0)) (μ 169 (7 + 6 * v + 2))) := by
                  funext j
                  have u166 : ∀ (m : zM) (a x : Int), up m 169 a x 173 v = m 173 v := fun m a x => up_n (by omega)
                  simp only [u166, hc2]
                  simp only [up162]
                  rw [if_neg (show ¬ 3 = 43 + 3 * r + 1 by omega), if_neg (show ¬ 3 = 7 + 6 * v + 4 by omega), if_neg (show ¬ 43 + 3 * r + 1 = 7 + 6 * v + 4 by omega), e2]
                  unfold ltN
                  repeat' split
                  all_goals first
                    | rfl
                    | (exfalso; omega)
                have hxL : Nx μk (up (up (up μk 169 (7 + 6 * v + 4) r) 169 (43 + 3 * r + 1) (up μk 169 (7 + 6 * v + 4) r 169 (43 + 3 * r + 1) - up μk 169 (7 + 6 * v + 4) r 173 v)) 169 3 (up (up μk 169 (7 + 6 * v + 4) r) 169 (43 + 3 * r + 1) (up μk 169 (7 + 6 * v + 4) r 169 (43 + 3 * r + 1) - up μk 169 (7 + 6 * v + 4) r 173 v) 169 3 + up (up μk 169 (7 + 6 * v + 4) r) 169 (43 + 3 * r + 1) (up μk 169 (7 + 6 * v + 4) r 169 (43 + 3 * r + 1) - up μk 169 (7 + 6 * v + 4) r 173 v) 173 v)) := Nx.rfl'.up.up.up
                generalize up (up (up μk 169 (7 + 6 * v + 4) r) 169 (43 + 3 * r + 1) (up μk 169 (7 + 6 * v + 4) r 169 (43 + 3 * r + 1) - up μk 169 (7 + 6 * v + 4) r 173 v)) 169 3 (up (up μk 169 (7 + 6 * v + 4) r) 169 (43 + 3 * r + 1) (up μk 169 (7 + 6 * v + 4) r 169 (43 + 3 * r + 1) - up μk 169 (7 + 6 * v + 4) r 173 v) 169 3 + up (up μk 169 (7 + 6 * v + 4) r) 169 (43 + 3 * r + 1) (up μk 169 (7 + 6 * v + 4) r 169 (43 + 3 * r + 1) - up μk 169 (7 + 6 * v + 4) r 173 v) 173 v) = μL at eL hxL
                have hL4 : μL 169 4 = μ 169 4 := by
                  rw [eL]
                  unfold ltN
                  rw [if_neg (by omega), if_neg (by omega), if_neg (by omega), k4]
                refine ZE.q0 hW rfl rfl (Nat.le_of_ble_eq_true rfl) (Nat.le_of_ble_eq_true rfl) (k_m_remember (d := d + 3) (v := v) (r := r) hW (by rw [hL4]; exact h44)) ?_
                rintro rv9 μr ⟨rfl, e3, hx3⟩
                have hcr : μr 173 v = wFee (μ 169 (7 + 6 * v + 0)) (μ 169 (7 + 6 * v + 2)) := by rw [hx3 173 v (by omega), hxL 173 v (by omega)]; exact hc2
                refine ZE.go hW 9999 rfl (by and_intros <;> first | trivial | assumption | omega) ?_
                rw [hcr]
                refine ZE.ri rfl rfl ?_
                refine ⟨fun q => absurd ⟨g1, g2⟩ q, fun _ => ⟨fun q => absurd hmay q, fun _ => ⟨rfl, by rw [e3, eL], ?_⟩⟩⟩
                intro k j p q s
                rw [hx3 k j p, hxL k j p, hx2 k j p]
                exact hq k j q s
              · rw [c1, c2.2.1] at g6
                refine ZE.go hW 9999 rfl (by and_intros <;> first | trivial | assumption | omega) ?_
                refine ZE.ri rfl rfl ?_
                exact bad _ hq (fun q => absurd q.2.2.2 (by omega))
    · refine ZE.go hW 9999 rfl (by and_intros <;> first | trivial | assumption | omega) ?_
      refine ZE.ri rfl rfl ?_
      exact ⟨fun _ => ⟨rfl, rfl⟩, fun q => absurd q.2 g2⟩
end
