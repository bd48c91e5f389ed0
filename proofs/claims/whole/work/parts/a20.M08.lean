/-- how many of k places from i on are not -1 -/
def cnt (f : Int → Int) : Nat → Int → Int → Int
  | 0, _, a => a
  | k + 1, i, a => cnt f k (i + 1) (a + (if f i = -1 then 0 else 1))
theorem cnt_rng (f : Int → Int) : ∀ (k : Nat) (i a : Int), a ≤ cnt f k i a ∧ cnt f k i a ≤ a + k
  | 0, i, a => by
    show a ≤ a ∧ a ≤ a + (0 : Nat)
    omega
  | k + 1, i, a => by
    have := cnt_rng f k (i + 1) (a + (if f i = -1 then 0 else 1))
    show a ≤ cnt f k (i + 1) _ ∧ cnt f k (i + 1) _ ≤ _
    have : (if f i = -1 then (0 : Int) else 1) = 0 ∨ (if f i = -1 then (0 : Int) else 1) = 1 := by split <;> simp
    omega
/-- what count tells of the row N and the text's length -/
def ctN (N : Int → Int) (l w : Int) : Int := if w = 4 then cnt (fun v => N (7 + 6 * v + 4)) (N 0).toNat 0 0 else if w = 5 then N 4 else if w = 6 then N 5 else if w = 7 then N 6 else if w = 8 then l else N w
def smf (N : Int → Int) : Nat → Int → Int → Int
  | 0, _, h => h
  | k + 1, i, h => smf N k (i + 1) (31 * h + N i)
section
variable {ext : List xC} {σ : zSh} {d : Nat} {μ : zM}
set_option maxRecDepth 100000 in set_option maxHeartbeats 4000000 in theorem k_m_manyLet (hW : Wl σ) {t : Int} (hN : NI (μ 169) t) : ZM ext (d + 1) n_X12_manyLet [(1161, 0)] σ μ (some (0, cnt (fun v => μ 169 (7 + 6 * v + 4)) (μ 169 0).toNat 0 0)) μ := by
  obtain ⟨⟨h1, h2, h3, h4⟩, hV, hR, hD, hB, hP⟩ := hN
  have hl : ∀ v, 0 ≤ v → v < μ 169 0 → -1 ≤ μ 169 (7 + 6 * v + 4) ∧ μ 169 (7 + 6 * v + 4) < 6 := hB.2.2.2.1
  have loop : ∀ (k : Nat) (i a : Int), 0 ≤ i → i + k = μ 169 0 → Zv ext (d + 1) n_X12_manyLet 4 [(1161, 0), (0, a), (0, i)] [] σ μ (some (vv (0, cnt (fun v => μ 169 (7 + 6 * v + 4)) k i a))) (hz σ μ) := by
    intro k
    induction k with
    | zero =>
      intro i a h0 h6
      refine Zv.go hW 9999 rfl (by and_intros <;> first | trivial | assumption | omega) ?_
      refine Zv.b rfl (by omega) (by omega) ?_ ?_ <;> intro hc
      · refine Zv.go hW 9999 rfl (by and_intros <;> first | trivial | assumption | omega) ?_
        exact Zv.ri rfl rfl rfl rfl
      · omega
    | succ k ih =>
      intro i a h0 h6
      have := hl i h0 (by omega)
      refine Zv.go hW 9999 rfl (by and_intros <;> first | trivial | assumption | omega) ?_
      refine Zv.b rfl (by omega) (by omega) ?_ ?_ <;> intro hc
      · omega
      · refine Zv.go hW 9999 rfl (by and_intros <;> first | trivial | assumption | omega) ?_
        refine Zv.b rfl (by omega) (by omega) ?_ ?_ <;> intro hd
        · refine Zv.go hW 4 rfl (by and_intros <;> first | trivial | assumption | omega) ?_
          have e : cnt (fun v => μ 169 (7 + 6 * v + 4)) (k + 1) i a = cnt (fun v => μ 169 (7 + 6 * v + 4)) k (i + 1) (a + 1) := by
            show cnt _ k (i + 1) (a + (if _ then 0 else 1)) = _
            rw [if_neg hd]
          rw [e]
          exact ih (i + 1) (a + 1) (by omega) (by omega)
        · refine Zv.go hW 4 rfl (by and_intros <;> first | trivial | assumption | omega) ?_
          have e : cnt (fun v => μ 169 (7 + 6 * v + 4)) (k + 1) i a = cnt (fun v => μ 169 (7 + 6 * v + 4)) k (i + 1) (a + 0) := by
            show cnt _ k (i + 1) (a + (if _ then 0 else 1)) = _
            rw [if_pos hd]
          rw [e]
          exact ih (i + 1) (a + 0) (by omega) (by omega)
  refine ZM.i rfl ?_
  refine Zv.go hW 4 rfl (by and_intros <;> first | trivial | assumption | omega) ?_
  exact loop (μ 169 0).toNat 0 0 (by omega) (by omega)
set_option maxRecDepth 100000 in set_option maxHeartbeats 4000000 in theorem k_m_counted {w : Int} (hW : Wl σ) {t : Int} (hN : NI (μ 169) t) (hw : 0 ≤ w ∧ w ≤ 8) : ZM ext (d + 2) n_X12_counted [(1161, 0), (0, w)] σ μ (some (0, ctN (μ 169) (μ 168 20) w)) μ := by
  have : w = 0 ∨ w = 1 ∨ w = 2 ∨ w = 3 ∨ w = 4 ∨ w = 5 ∨ w = 6 ∨ w = 7 ∨ w = 8 := by omega
  rcases this with rfl | rfl | rfl | rfl | rfl | rfl | rfl | rfl | rfl
  · refine ZM.i rfl ?_
    refine Zv.go hW 9999 rfl (by and_intros <;> first | trivial | assumption | omega) ?_
    refine Zv.ts rfl (by omega) rfl ?_
    refine Zv.go hW 9999 rfl (by and_intros <;> first | trivial | assumption | omega) ?_
    exact Zv.ri rfl rfl rfl rfl
  · refine ZM.i rfl ?_
    refine Zv.go hW 9999 rfl (by and_intros <;> first | trivial | assumption | omega) ?_
    refine Zv.ts rfl (by omega) rfl ?_
    refine Zv.go hW 9999 rfl (by and_intros <;> first | trivial | assumption | omega) ?_
    exact Zv.ri rfl rfl rfl rfl
  · refine ZM.i rfl ?_
    refine Zv.go hW 9999 rfl (by and_intros <;> first | trivial | assumption | omega) ?_
    refine Zv.ts rfl (by omega) rfl ?_
    refine Zv.go hW 9999 rfl (by and_intros <;> first | trivial | assumption | omega) ?_
    exact Zv.ri rfl rfl rfl rfl
  · refine ZM.i rfl ?_
    refine Zv.go hW 9999 rfl (by and_intros <;> first | trivial | assumption | omega) ?_
    refine Zv.ts rfl (by omega) rfl ?_
    refine Zv.go hW 9999 rfl (by and_intros <;> first | trivial | assumption | omega) ?_
    exact Zv.ri rfl rfl rfl rfl
  · refine ZM.i rfl ?_
    refine Zv.go hW 9999 rfl (by and_intros <;> first | trivial | assumption | omega) ?_
    refine Zv.ts rfl (by omega) rfl ?_
    refine Zv.go hW 9999 rfl (by and_intros <;> first | trivial | assumption | omega) ?_
    refine Zv.c0 hW rfl rfl (Nat.le_of_ble_eq_true rfl) (Nat.le_of_ble_eq_true rfl) (k_m_manyLet hW hN) ?_
    exact Zv.ri rfl rfl rfl rfl
  · refine ZM.i rfl ?_
    refine Zv.go hW 9999 rfl (by and_intros <;> first | trivial | assumption | omega) ?_
    refine Zv.ts rfl (by omega) rfl ?_
    refine Zv.go hW 9999 rfl (by and_intros <;> first | trivial | assumption | omega) ?_
    exact Zv.ri rfl rfl rfl rfl
  · refine ZM.i rfl ?_
    refine Zv.go hW 9999 rfl (by and_intros <;> first | trivial | assumption | omega) ?_
    refine Zv.ts rfl (by omega) rfl ?_
    refine Zv.go hW 9999 rfl (by and_intros <;> first | trivial | assumption | omega) ?_
    exact Zv.ri rfl rfl rfl rfl
  · refine ZM.i rfl ?_
    refine Zv.go hW 9999 rfl (by and_intros <;> first | trivial | assumption | omega) ?_
    refine Zv.ts rfl (by omega) rfl ?_
    refine Zv.go hW 9999 rfl (by and_intros <;> first | trivial | assumption | omega) ?_
    exact Zv.ri rfl rfl rfl rfl
  · refine ZM.i rfl ?_
    refine Zv.go hW 9999 rfl (by and_intros <;> first | trivial | assumption | omega) ?_
    refine Zv.ts rfl (by omega) rfl ?_
    refine Zv.go hW 9999 rfl (by and_intros <;> first | trivial | assumption | omega) ?_
    exact Zv.ri rfl rfl rfl rfl
set_option maxRecDepth 100000 in set_option maxHeartbeats 4000000 in theorem k_m_count {w : Int} (hW : Wl σ) {t : Int} (hN : NI (μ 169) t) (hw : zrng w) : ZQ ext (d + 3) n_X12_count [(1161, 0), (0, w)] σ μ (Qm (0 ≤ w ∧ w ≤ 8) (-2) (ctN (μ 169) (μ 168 20) w) μ) := by
  refine ZQ.i rfl ?_
  refine ZE.go hW 9999 rfl (by and_intros <;> first | trivial | assumption | omega) ?_
  refine ZE.c0 hW rfl rfl (Nat.le_of_ble_eq_true rfl) (Nat.le_of_ble_eq_true rfl) (k_in (d := d + 2) hW hw (by omega) (by omega)) ?_
  refine ZE.bp rfl rfl ?_ ?_ <;> intro g1
  · refine ZE.go hW 9999 rfl (by and_intros <;> first | trivial | assumption | omega) ?_
    refine ZE.ri rfl rfl ?_
    exact ⟨fun q => absurd q g1, fun _ => ⟨rfl, rfl⟩⟩
  · refine ZE.go hW 9999 rfl (by and_intros <;> first | trivial | assumption | omega) ?_
    refine ZE.c0 hW rfl rfl (Nat.le_of_ble_eq_true rfl) (Nat.le_of_ble_eq_true rfl) (k_m_counted (d := d) hW hN g1) ?_
    refine ZE.go hW 9999 rfl (by and_intros <;> first | trivial | assumption | omega) ?_
    refine ZE.ri rfl rfl ?_
    exact ⟨fun _ => ⟨rfl, Mq.rfl'⟩, fun q => absurd g1 q⟩
set_option maxRecDepth 100000 in set_option maxHeartbeats 4000000 in theorem k_m_sums {h f n : Int} (hW : Wl σ) (hn : 0 ≤ n ∧ n ≤ 100) (hf : 0 ≤ f ∧ f ≤ 100) (hm : ∀ j, f ≤ j → j < f + n → zrng (μ 169 j)) : ZM ext d n_X12_sums [(1161, 0), (1, h), (0, f), (0, n)] σ μ (some (1, smf (μ 169) n.toNat f h)) μ := by
  have loop : ∀ (k : Nat) (i a : Int), 0 ≤ i → i + k = n → Zv ext d n_X12_sums 6 [(1161, 0), (1, h), (4, 0), (0, f), (0, n), (1, a), (4, 0), (0, i)] [] σ μ (some (vv (1, smf (μ 169) k (f + i) a))) (hz σ μ) := by
    intro k
    induction k with
    | zero =>
      intro i a h0 h6
      refine Zv.go hW 9999 rfl (by and_intros <;> first | trivial | assumption | omega) ?_
      refine Zv.b rfl (by omega) (by omega) ?_ ?_ <;> intro hc
      · refine Zv.go hW 9999 rfl (by and_intros <;> first | trivial | assumption | omega) ?_
        exact Zv.rl rfl rfl rfl rfl
      · omega
    | succ k ih =>
      intro i a h0 h6
      have := hm (f + i) (by omega) (by omega)
      refine Zv.go hW 9999 rfl (by and_intros <;> first | trivial | assumption | omega) ?_
      refine Zv.b rfl (by omega) (by omega) ?_ ?_ <;> intro hc
      · omega
      · refine Zv.go hW 6 rfl (by and_intros <;> first | trivial | assumption | omega) ?_
        have e : smf (μ 169) (k + 1) (f + i) a = smf (μ 169) k (f + (i + 1)) (31 * a + μ 169 (f + i)) := by
          show smf (μ 169) k (f + i + 1) (31 * a + μ 169 (f + i)) = _
          rw [Int.add_assoc]
        rw [e]
        exact ih (i + 1) _ (by omega) (by omega)
  refine ZM.i rfl ?_
  refine Zv.go hW 6 rfl (by and_intros <;> first | trivial | assumption | omega) ?_
  have := loop n.toNat 0 h (by omega) (by omega)
  rw [Int.add_zero] at this
  exact this
/-- the digest, from the row N, the text's length, the two parts -/
def dgC (N : Int → Int) (l : Int) : Nat → Int → Int → Int
  | 0, _, h => h
  | k + 1, i, h => dgC N l k (i + 1) (31 * h + ctN N l i)
def dgN (N : Int → Int) (l a b : Int) : Int := 31 * (31 * smf N (3 * N 5).toNat 97 (smf N (3 * N 4).toNat 61 (smf N (3 * N 1).toNat 43 (smf N (6 * N 0).toNat 7 (dgC N l 9 0 997)))) + a) + b
theorem ctN_rng {N : Int → Int} {l w t : Int} (hN : NI N t) (hl : 0 ≤ l ∧ l ≤ 150) (ht : 0 ≤ t ∧ t ≤ 100) (hw : 0 ≤ w ∧ w ≤ 8) : zrng (ctN N l w) := by
  obtain ⟨⟨h1, h2, h3, h4⟩, hV, hR, hD, hB, hP⟩ := hN
  have b1 : 0 ≤ N 2 ∧ N 2 ≤ t := hB.1
  have b2 : 0 ≤ N 4 ∧ N 4 ≤ 12 := hB.2.1
  have b3 : 0 ≤ N 3 ∧ N 3 ≤ 200 * t := hB.2.2.2.2.2.2
  have c := cnt_rng (fun v => N (7 + 6 * v + 4)) (N 0).toNat 0 0
  unfold ctN
  split
  · omega
  · split
    · omega
    · split
      · omega
      · split
        · omega
        · split
          · omega
          · have : w = 0 ∨ w = 1 ∨ w = 2 ∨ w = 3 := by omega
            rcases this with rfl | rfl | rfl | rfl <;> omega
theorem NI.v {N : Int → Int} {t j : Int} (hN : NI N t) (h0 : 7 ≤ j) (h1 : j < 7 + 6 * N 0) : zrng (N j) := by
  obtain ⟨⟨h1, h2, h3, h4⟩, hV, hR, hD, hB, hP⟩ := hN
  have hv := hV ((j - 7) / 6) (by omega) (by omega)
  have hl := hB.2.2.2.1 ((j - 7) / 6) (by omega) (by omega)
  have : (j - 7) % 6 = 0 ∨ (j - 7) % 6 = 1 ∨ (j - 7) % 6 = 2 ∨ (j - 7) % 6 = 3 ∨ (j - 7) % 6 = 4 ∨ (j - 7) % 6 = 5 := by omega
  rcases this with h | h | h | h | h | h
  · rw [show j = 7 + 6 * ((j - 7) / 6) + 0 by omega]; omega
  · rw [show j = 7 + 6 * ((j - 7) / 6) + 1 by omega]; omega
  · rw [show j = 7 + 6 * ((j - 7) / 6) + 2 by omega]; omega
  · rw [show j = 7 + 6 * ((j - 7) / 6) + 3 by omega]; omega
  · have h9 : j = 7 + 6 * ((j - 7) / 6) + 4 := by omega
    simp only [← h9] at hl
    omega
  · rw [show j = 7 + 6 * ((j - 7) / 6) + 5 by omega]; omega
theorem NI.r {N : Int → Int} {t j : Int} (hN : NI N t) (h0 : 43 ≤ j) (h1 : j < 43 + 3 * N 1) : zrng (N j) := by
  obtain ⟨⟨h1, h2, h3, h4⟩, hV, hR, hD, hB, hP⟩ := hN
  have hv := hR ((j - 43) / 3) (by omega) (by omega)
  have hl := hB.2.2.1 ((j - 43) / 3) (by omega) (by omega)
  have : (j - 43) % 3 = 0 ∨ (j - 43) % 3 = 1 ∨ (j - 43) % 3 = 2 := by omega
  rcases this with h | h | h
  · rw [show j = 43 + 3 * ((j - 43) / 3) + 0 by omega]; omega
  · have h9 : j = 43 + 3 * ((j - 43) / 3) + 1 := by omega
    simp only [← h9] at hl
    omega
  · rw [show j = 43 + 3 * ((j - 43) / 3) + 2 by omega]; omega
theorem NI.h {N : Int → Int} {t j : Int} (hN : NI N t) (ht : t ≤ 100) (h0 : 61 ≤ j) (h1 : j < 61 + 3 * N 4) : zrng (N j) := by
  obtain ⟨⟨h1, h2, h3, h4⟩, hV, hR, hD, hB, hP⟩ := hN
  have hl := hB.2.2.2.2.2.1 ((j - 61) / 3) (by omega) (by omega)
  have : (j - 61) % 3 = 0 ∨ (j - 61) % 3 = 1 ∨ (j - 61) % 3 = 2 := by omega
  rcases this with h | h | h
  · have h9 : j = 61 + 3 * ((j - 61) / 3) := by omega
    simp only [← h9] at hl
    omega
  · have h9 : j = 61 + 3 * ((j - 61) / 3) + 1 := by omega
    simp only [← h9] at hl
    omega
  · have h9 : j = 61 + 3 * ((j - 61) / 3) + 2 := by omega
    simp only [← h9] at hl
    omega
theorem NI.sd {N : Int → Int} {t j : Int} (hN : NI N t) (h0 : 97 ≤ j) (h1 : j < 97 + 3 * N 5) : zrng (N j) := by
  obtain ⟨⟨h1, h2, h3, h4⟩, hV, hR, hD, hB, hP⟩ := hN
  have hv := hD ((j - 97) / 3) (by omega) (by omega)
  have : (j - 97) % 3 = 0 ∨ (j - 97) % 3 = 1 ∨ (j - 97) % 3 = 2 := by omega
  rcases this with h | h | h
  · rw [show j = 97 + 3 * ((j - 97) / 3) by omega]; omega
  · rw [show j = 97 + 3 * ((j - 97) / 3) + 1 by omega]; omega
  · rw [show j = 97 + 3 * ((j - 97) / 3) + 2 by omega]; omega
set_option maxRecDepth 100000 in set_option maxHeartbeats 4000000 in theorem k_m_digest (hW : Wl σ) {t : Int} (hN : NI (μ 169) t) (ht : 0 ≤ t ∧ t ≤ 100) (hl : 0 ≤ μ 168 20 ∧ μ 168 20 ≤ 150) : ZM ext (d + 3) n_X12_digest [(1161, 0)] σ μ (some (1, dgN (μ 169) (μ 168 20) (μ 168 4) (μ 168 5))) μ := by
  have hB : 0 ≤ μ 169 4 ∧ μ 169 4 ≤ 12 := hN.2.2.2.2.1.2.1
  have hN1 := hN.1
  refine ZM.i rfl ?_
  refine Zv.go hW 6 rfl (by and_intros <;> first | trivial | assumption | omega) ?_
  have loop : ∀ (k : Nat) (i a : Int), 0 ≤ i → i + k = 9 → Zv ext (d + 3) n_X12_digest 6 [(1161, 0), (1, a), (4, 0), (0, i)] [] σ μ (some (vv (1, 31 * (31 * smf (μ 169) (3 * μ 169 5).toNat 97 (smf (μ 169) (3 * μ 169 4).toNat 61 (smf (μ 169) (3 * μ 169 1).toNat 43 (smf (μ 169) (6 * μ 169 0).toNat 7 (dgC (μ 169) (μ 168 20) k i a)))) + μ 168 4) + μ 168 5))) (hz σ μ) := by
    intro k
    induction k with
    | zero =>
      intro i a h0 h6
      refine Zv.go hW 9999 rfl (by and_intros <;> first | trivial | assumption | omega) ?_
      refine Zv.b rfl (by omega) (by omega) ?_ ?_ <;> intro hc
      · refine Zv.go hW 9999 rfl (by and_intros <;> first | trivial | assumption | omega) ?_
        refine Zv.c0 hW rfl rfl (Nat.le_of_ble_eq_true rfl) (Nat.le_of_ble_eq_true rfl) (k_m_sums (d := d + 2) hW (by omega) (by omega) (fun j p q => hN.v p q)) ?_
        refine Zv.go hW 9999 rfl (by and_intros <;> first | trivial | assumption | omega) ?_
        refine Zv.c0 hW rfl rfl (Nat.le_of_ble_eq_true rfl) (Nat.le_of_ble_eq_true rfl) (k_m_sums (d := d + 2) hW (by omega) (by omega) (fun j p q => hN.r p q)) ?_
        refine Zv.go hW 9999 rfl (by and_intros <;> first | trivial | assumption | omega) ?_
        refine Zv.c0 hW rfl rfl (Nat.le_of_ble_eq_true rfl) (Nat.le_of_ble_eq_true rfl) (k_m_sums (d := d + 2) hW (by omega) (by omega) (fun j p q => hN.h ht.2 p q)) ?_
        refine Zv.go hW 9999 rfl (by and_intros <;> first | trivial | assumption | omega) ?_
        refine Zv.c0 hW rfl rfl (Nat.le_of_ble_eq_true rfl) (Nat.le_of_ble_eq_true rfl) (k_m_sums (d := d + 2) hW (by omega) (by omega) (fun j p q => hN.sd p q)) ?_
        refine Zv.go hW 9999 rfl (by and_intros <;> first | trivial | assumption | omega) ?_
        exact Zv.rl rfl rfl rfl rfl
      · omega
    | succ k ih =>
      intro i a h0 h6
      have hc9 := ctN_rng (w := i) hN hl ht (by omega)
      refine Zv.go hW 9999 rfl (by and_intros <;> first | trivial | assumption | omega) ?_
      refine Zv.b rfl (by omega) (by omega) ?_ ?_ <;> intro hc
      · omega
      · refine Zv.go hW 9999 rfl (by and_intros <;> first | trivial | assumption | omega) ?_
        refine Zv.c0 hW rfl rfl (Nat.le_of_ble_eq_true rfl) (Nat.le_of_ble_eq_true rfl) (k_m_counted (d := d) hW hN (by omega)) ?_
        refine Zv.go hW 6 rfl (by and_intros <;> first | trivial | assumption | omega) ?_
        exact ih (i + 1) _ (by omega) (by omega)
  exact loop 9 0 997 (by omega) (by omega)
set_option maxRecDepth 100000 in set_option maxHeartbeats 4000000 in theorem k_m_of {v w : Int} (hW : Wl σ) {t : Int} (hN : NI (μ 169) t) (ht : t ≤ 100) (hv : zrng v) (hw : zrng w) : ZQ ext (d + 3) n_X12_of [(1161, 0), (0, v), (0, w)] σ μ (Qm ((0 ≤ v ∧ v ≤ μ 169 0 - 1) ∧ (0 ≤ w ∧ w ≤ 7)) (-10) (if w = 4 then wSh (μ 169 (7 + 6 * v + 0)) (μ 169 (7 + 6 * v + 3)) (μ 169 2) else if w = 5 then wFee (μ 169 (7 + 6 * v + 0)) (μ 169 (7 + 6 * v + 2)) else if w = 6 then μ 169 (7 + 6 * v + 4) else if w = 7 then μ 169 (7 + 6 * v + 5) else μ 169 (7 + 6 * v + w)) μ) := by
  obtain ⟨⟨h1, h2, h3, h4⟩, hV, hR, hD, hB, hP⟩ := hN
  have hev : 0 ≤ μ 169 2 ∧ μ 169 2 ≤ t := hB.1
  refine ZQ.i rfl ?_
  refine ZE.go hW 9999 rfl (by and_intros <;> first | trivial | assumption | omega) ?_
  refine ZE.c0 hW rfl rfl (Nat.le_of_ble_eq_true rfl) (Nat.le_of_ble_eq_true rfl) (k_m_isView (d := d + 1) hW hv h1) ?_
  refine ZE.bp rfl rfl ?_ ?_ <;> intro g1
  · refine ZE.go hW 9999 rfl (by and_intros <;> first | trivial | assumption | omega) ?_
    refine ZE.ri rfl rfl ?_
    exact ⟨fun q => absurd q.1 g1, fun _ => ⟨rfl, rfl⟩⟩
  · have hv1 := hV v g1.1 (by omega)
    refine ZE.go hW 9999 rfl (by and_intros <;> first | trivial | assumption | omega) ?_
    refine ZE.c0 hW rfl rfl (Nat.le_of_ble_eq_true rfl) (Nat.le_of_ble_eq_true rfl) (k_in (d := d + 2) hW hw (by omega) (by omega)) ?_
    refine ZE.bp rfl rfl ?_ ?_ <;> intro g2
    · by_cases w4 : w = 4
      · subst w4
        refine ZE.go hW 9999 rfl (by and_intros <;> first | trivial | assumption | omega) ?_
        refine ZE.ts rfl (by omega) rfl ?_
        refine ZE.go hW 9999 rfl (by and_intros <;> first | trivial | assumption | omega) ?_
        refine ZE.c0 hW rfl rfl (Nat.le_of_ble_eq_true rfl) (Nat.le_of_ble_eq_true rfl) (k_m_showsIn (d := d) hW (by omega) hv1.1 hv1.2.2.2.1 (by omega)) ?_
        refine ZE.ri rfl rfl ?_
        exact ⟨fun _ => ⟨rfl, Mq.rfl'⟩, fun q => absurd ⟨g1, g2⟩ q⟩
      by_cases w5 : w = 5
      · subst w5
        refine ZE.go hW 9999 rfl (by and_intros <;> first | trivial | assumption | omega) ?_
        refine ZE.ts rfl (by omega) rfl ?_
        refine ZE.go hW 9999 rfl (by and_intros <;> first | trivial | assumption | omega) ?_
        refine ZE.c0 hW rfl rfl (Nat.le_of_ble_eq_true rfl) (Nat.le_of_ble_eq_true rfl) (k_m_costOf (d := d + 2) hW (by omega) (by omega)) ?_
        refine ZE.ri rfl rfl ?_
        exact ⟨fun _ => ⟨rfl, Mq.rfl'⟩, fun q => absurd ⟨g1, g2⟩ q⟩
      by_cases w6 : w = 6
      · subst w6
        refine ZE.go hW 9999 rfl (by and_intros <;> first | trivial | assumption | omega) ?_
        refine ZE.ts rfl (by omega) rfl ?_
        refine ZE.go hW 9999 rfl (by and_intros <;> first | trivial | assumption | omega) ?_
        refine ZE.ri rfl rfl ?_
        exact ⟨fun _ => ⟨rfl, Mq.rfl'⟩, fun q => absurd ⟨g1, g2⟩ q⟩
      by_cases w7 : w = 7
      · subst w7
        refine ZE.go hW 9999 rfl (by and_intros <;> first | trivial | assumption | omega) ?_
        refine ZE.ts rfl (by omega) rfl ?_
        refine ZE.go hW 9999 rfl (by and_intros <;> first | trivial | assumption | omega) ?_
        refine ZE.ri rfl rfl ?_
        exact ⟨fun _ => ⟨rfl, Mq.rfl'⟩, fun q => absurd ⟨g1, g2⟩ q⟩
      refine ZE.go hW 9999 rfl (by and_intros <;> first | trivial | assumption | omega) ?_
      refine ZE.ts rfl (by omega) (if_pos (by omega)) ?_
      refine ZE.go hW 9999 rfl (by and_intros <;> first | trivial | assumption | omega) ?_
      refine ZE.ri rfl rfl ?_
      refine ⟨fun _ => ⟨?_, Mq.rfl'⟩, fun q => absurd ⟨g1, g2⟩ q⟩
      rw [if_neg w4, if_neg w5, if_neg w6, if_neg w7]
    · refine ZE.go hW 9999 rfl (by and_intros <;> first | trivial | assumption | omega) ?_
      refine ZE.ri rfl rfl ?_
      exact ⟨fun q => absurd q.2 g2, fun _ => ⟨rfl, rfl⟩⟩
set_option maxRecDepth 100000 in set_option maxHeartbeats 4000000 in theorem k_m_about {r w : Int} (hW : Wl σ) {t : Int} (hN : NI (μ 169) t) (hv : zrng r) (hw : zrng w) : ZQ ext (d + 3) n_X12_about [(1161, 0), (0, r), (0, w)] σ μ (Qm ((0 ≤ r ∧ r ≤ μ 169 1 - 1) ∧ (0 ≤ w ∧ w ≤ 3)) (-10) (if w = 3 then zlst (fun v => μ 169 (7 + 6 * v + 4)) r (μ 169 0).toNat 0 (-1) else μ 169 (43 + 3 * r + w)) μ) := by
  obtain ⟨⟨h1, h2, h3, h4⟩, hV, hR, hD, hB, hP⟩ := hN
  have hl : ∀ v, 0 ≤ v → v < μ 169 0 → -1 ≤ μ 169 (7 + 6 * v + 4) ∧ μ 169 (7 + 6 * v + 4) < 6 := hB.2.2.2.1
  refine ZQ.i rfl ?_
  refine ZE.go hW 9999 rfl (by and_intros <;> first | trivial | assumption | omega) ?_
  refine ZE.c0 hW rfl rfl (Nat.le_of_ble_eq_true rfl) (Nat.le_of_ble_eq_true rfl) (k_m_isRenter (d := d + 1) hW hv h2) ?_
  refine ZE.bp rfl rfl ?_ ?_ <;> intro g1
  · refine ZE.go hW 9999 rfl (by and_intros <;> first | trivial | assumption | omega) ?_
    refine ZE.ri rfl rfl ?_
    exact ⟨fun q => absurd q.1 g1, fun _ => ⟨rfl, rfl⟩⟩
  · refine ZE.go hW 9999 rfl (by and_intros <;> first | trivial | assumption | omega) ?_
    refine ZE.c0 hW rfl rfl (Nat.le_of_ble_eq_true rfl) (Nat.le_of_ble_eq_true rfl) (k_in (d := d + 2) hW hw (by omega) (by omega)) ?_
    refine ZE.bp rfl rfl ?_ ?_ <;> intro g2
    · refine ZE.go hW 9999 rfl (by and_intros <;> first | trivial | assumption | omega) ?_
      refine ZE.b rfl (by omega) (by omega) ?_ ?_ <;> intro g3
      · refine ZE.go hW 9999 rfl (by and_intros <;> first | trivial | assumption | omega) ?_
        refine ZE.ri rfl rfl ?_
        refine ⟨fun _ => ⟨?_, Mq.rfl'⟩, fun q => absurd ⟨g1, g2⟩ q⟩
        rw [if_neg g3]
      · refine ZE.go hW 9999 rfl (by and_intros <;> first | trivial | assumption | omega) ?_
        refine ZE.c0 hW rfl rfl (Nat.le_of_ble_eq_true rfl) (Nat.le_of_ble_eq_true rfl) (k_m_viewOf (d := d + 1) hW hv h1 (fun v p q => by have := hl v p q; omega)) ?_
        refine ZE.go hW 9999 rfl (by and_intros <;> first | trivial | assumption | omega) ?_
        refine ZE.ri rfl rfl ?_
        refine ⟨fun _ => ⟨?_, Mq.rfl'⟩, fun q => absurd ⟨g1, g2⟩ q⟩
        rw [if_pos g3]
    · refine ZE.go hW 9999 rfl (by and_intros <;> first | trivial | assumption | omega) ?_
      refine ZE.ri rfl rfl ?_
      exact ⟨fun q => absurd q.2 g2, fun _ => ⟨rfl, rfl⟩⟩
end
