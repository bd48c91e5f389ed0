/-- a shop of the class at a that is as the row N tells -/
def SR (σ : zSh) (μ : zM) (a : Int) (N : Int → Int) (t : Int) : Prop := Wk σ μ ∧ Sh σ a ∧ RS μ a N ∧ NI N t ∧ PS μ a ∧ 22 ≤ a
section
variable {ext : List xC} {σ : zSh} {d : Nat} {μ : zM} {a t : Int} {N : Int → Int}
theorem vOf_no {r : Int} (h0 : 0 ≤ N 0) (h : ∀ v, 0 ≤ v → v < N 0 → N (7 + 6 * v + 4) ≠ r) : vOf N r = -1 := zlst_no _ _ _ (fun j p q => h j p (by omega))
theorem vOf_at {r v : Int} (hN : NI N t) (hr : r ≠ -1) (hv : 0 ≤ v ∧ v < N 0) (h : N (7 + 6 * v + 4) = r) : vOf N r = v := by
  refine zlst_at (f := fun w => N (7 + 6 * w + 4)) (v := v) h (N 0).toNat 0 (-1) hv.1 (by omega) (fun j p q e => ?_)
  have hu : ∀ v w, 0 ≤ v → v < N 0 → 0 ≤ w → w < N 0 → v ≠ w → N (7 + 6 * v + 4) = N (7 + 6 * w + 4) → N (7 + 6 * v + 4) = -1 := hN.2.2.2.2.1.2.2.2.2.1
  have := hu v j hv.1 hv.2 (by omega) (by omega) (by omega) (by rw [h]; exact e.symm)
  omega
theorem SR.ten (h : SR σ μ a N t) : (∀ v, 0 ≤ v → v < N 0 → μ (a + 18 + 2) v = N (7 + 6 * v + 4) ∧ -1 ≤ N (7 + 6 * v + 4) ∧ N (7 + 6 * v + 4) < 6) ∧ (∀ v, N 0 ≤ v → v < 6 → μ (a + 18 + 2) v = -1) := by
  obtain ⟨hK, hS, hR, hN, hP⟩ := h
  have r1 := hR.2.2.2.2.1
  have h2 : ∀ v, 0 ≤ v → v < N 0 → -1 ≤ N (7 + 6 * v + 4) ∧ N (7 + 6 * v + 4) < 6 := hN.2.2.2.2.1.2.2.2.1
  exact ⟨fun v p q => ⟨r1.2.2.1 v p q, h2 v p q⟩, r1.2.2.2.1⟩
theorem SR.vw (h : SR σ μ a N t) {v : Int} (hv : 0 ≤ v ∧ v < N 0) : (μ (a + 8) v = N (7 + 6 * v + 0) ∧ μ (a + 9) v = N (7 + 6 * v + 1) ∧ μ (a + 10) v = N (7 + 6 * v + 2) ∧ μ (a + 11) v = N (7 + 6 * v + 3) ∧ μ (a + 12) v = N (7 + 6 * v + 5)) ∧ (0 ≤ N (7 + 6 * v + 0) ∧ N (7 + 6 * v + 0) < 6) ∧ (1 ≤ N (7 + 6 * v + 1) ∧ N (7 + 6 * v + 1) ≤ 9) ∧ (0 ≤ N (7 + 6 * v + 2) ∧ N (7 + 6 * v + 2) ≤ 99) ∧ (0 ≤ N (7 + 6 * v + 3) ∧ N (7 + 6 * v + 3) < 6) ∧ (0 ≤ N (7 + 6 * v + 5) ∧ N (7 + 6 * v + 5) ≤ 255) :=
  ⟨h.2.2.1.2.1 v hv.1 hv.2, h.2.2.2.1.2.1 v hv.1 hv.2⟩
theorem SR.rt (h : SR σ μ a N t) {r : Int} (hr : 0 ≤ r ∧ r < N 1) : (μ (a + 13) r = N (43 + 3 * r + 0) ∧ μ (a + 18 + 1) r = N (43 + 3 * r + 1) ∧ μ (a + 14) r = N (43 + 3 * r + 2)) ∧ (1 ≤ N (43 + 3 * r + 0) ∧ N (43 + 3 * r + 0) ≤ 9) ∧ (0 ≤ N (43 + 3 * r + 1) ∧ N (43 + 3 * r + 1) ≤ 999) ∧ (0 ≤ N (43 + 3 * r + 2) ∧ N (43 + 3 * r + 2) ≤ 6) := by
  obtain ⟨hK, hS, hR, hN, hP⟩ := h
  have r1 := hR.2.2.1 r hr.1 hr.2
  have r2 := hR.2.2.2.2.1.2.1 r hr.1 hr.2
  have n1 := hN.2.2.1 r hr.1 hr.2
  have n2 := hN.2.2.2.2.1.2.2.1 r hr.1 hr.2
  exact ⟨⟨r1.1, r2, r1.2⟩, n1.1, n2, n1.2⟩
theorem SR.ct (h : SR σ μ a N t) : (μ a 1 = N 0 ∧ μ a 2 = N 1 ∧ μ a 3 = N 5 ∧ μ a 4 = N 6) ∧ (μ (a + 18) 0 = N 2 ∧ μ (a + 18) 1 = N 3 ∧ μ (a + 18) 2 = N 4) ∧ ((0 ≤ N 0 ∧ N 0 ≤ 6) ∧ (0 ≤ N 1 ∧ N 1 ≤ 6) ∧ (0 ≤ N 5 ∧ N 5 ≤ 6) ∧ (0 ≤ N 6 ∧ N 6 ≤ 8)) ∧ (0 ≤ N 2 ∧ N 2 ≤ t) ∧ (0 ≤ N 4 ∧ N 4 ≤ 12) ∧ (0 ≤ N 3 ∧ N 3 ≤ 200 * t) :=
  ⟨h.2.2.1.1, h.2.2.1.2.2.2.2.1.1, h.2.2.2.1.1, h.2.2.2.1.2.2.2.2.1.1, h.2.2.2.1.2.2.2.2.1.2.1, h.2.2.2.1.2.2.2.2.1.2.2.2.2.2.2⟩
theorem SR.hi (h : SR σ μ a N t) {i : Int} (hi : 0 ≤ i ∧ i < N 4) : (μ (a + 18 + 3) i = N (61 + 3 * i) ∧ μ (a + 18 + 4) i = N (61 + 3 * i + 1) ∧ μ (a + 18 + 5) i = N (61 + 3 * i + 2)) ∧ (0 ≤ N (61 + 3 * i) ∧ N (61 + 3 * i) < 6) ∧ (0 ≤ N (61 + 3 * i + 1) ∧ N (61 + 3 * i + 1) < 6) ∧ (0 ≤ N (61 + 3 * i + 2) ∧ N (61 + 3 * i + 2) ≤ t) :=
  ⟨h.2.2.1.2.2.2.2.1.2.2.2.2 i hi.1 hi.2, h.2.2.2.1.2.2.2.2.1.2.2.2.2.2.1 i hi.1 hi.2⟩
theorem SR.rd (h : SR σ μ a N t) {i : Int} (hi : 0 ≤ i ∧ i < N 5) : (μ (a + 15) i = N (97 + 3 * i) ∧ μ (a + 16) i = N (97 + 3 * i + 1) ∧ μ (a + 17) i = N (97 + 3 * i + 2)) ∧ (0 ≤ N (97 + 3 * i) ∧ N (97 + 3 * i) < 6) ∧ (0 ≤ N (97 + 3 * i + 1) ∧ N (97 + 3 * i + 1) ≤ 99) ∧ (0 ≤ N (97 + 3 * i + 2) ∧ N (97 + 3 * i + 2) < 6) :=
  ⟨h.2.2.1.2.2.2.1 i hi.1 hi.2, h.2.2.2.1.2.2.2.1 i hi.1 hi.2⟩
set_option maxRecDepth 100000 in set_option maxHeartbeats 4000000 in theorem k_c_viewHeldBy {r : Int} (h : SR σ μ a N t) (hr : zrng r) (hr1 : r ≠ -1) : ZM ext d n_X0_viewHeldBy [(20, a + 18), (0, r)] σ μ (some (0, vOf N r)) μ := by
  have hT := h.ten
  have hC := h.ct
  obtain ⟨hK, hS, hR, hN, hP⟩ := h
  have hW := hK.1
  have hB := hS.bk
  apply ZQ.ex
  refine ZQ.i rfl ?_
  refine ZE.go hW 2 rfl (by repeat' first | exact True.intro | assumption | apply And.intro | omega) ?_
  refine loopU (n := 6) (G := fun i => (∀ j, 0 ≤ j → j < i → μ (a + 18 + 2) j ≠ r) → ZE ext d n_X0_viewHeldBy 2 [(20, a + 18), (0, r), (0, i)] [] σ μ _) ?_ ?_ 0 (by omega) (by omega) (fun j p q => by omega)
  · intro i h0 hi ih hq
    have t1 := hT.1 i h0
    have t2 := hT.2 i
    refine ZE.go hW 9999 rfl (by repeat' first | exact True.intro | assumption | apply And.intro | omega) ?_
    refine ZE.b rfl (by omega) (by omega) ?_ ?_ <;> intro g1
    · omega
    · refine ZE.go hW 9999 rfl (by repeat' first | exact True.intro | assumption | apply And.intro | omega) ?_
      refine ZE.b rfl (by omega) (hr) ?_ ?_ <;> intro g2
      · refine ZE.go hW 2 rfl (by repeat' first | exact True.intro | assumption | apply And.intro | omega) ?_
        refine ih (fun j p q => ?_)
        by_cases e : j = i
        · rw [e]; exact g2
        · exact hq j p (by omega)
      · refine ZE.go hW 9999 rfl (by repeat' first | exact True.intro | assumption | apply And.intro | omega) ?_
        refine ZE.ri rfl rfl ?_
        refine ⟨?_, rfl⟩
        rw [vOf_at hN hr1 (v := i) (by omega) (by omega)]
  · intro hq
    refine ZE.go hW 9999 rfl (by repeat' first | exact True.intro | assumption | apply And.intro | omega) ?_
    refine ZE.b rfl (by omega) (by omega) ?_ ?_ <;> intro g1
    · refine ZE.go hW 9999 rfl (by repeat' first | exact True.intro | assumption | apply And.intro | omega) ?_
      refine ZE.ri rfl rfl ?_
      refine ⟨?_, rfl⟩
      rw [vOf_no hC.2.2.1.1.1 (fun v p q => ?_)]
      rw [← (hT.1 v p q).1]
      exact hq v p (by omega)
    · omega
set_option maxRecDepth 100000 in set_option maxHeartbeats 4000000 in theorem k_c_letNow (h : SR σ μ a N t) : ZM ext d n_X0_letNow [(20, a + 18)] σ μ (some (0, cnt (fun v => N (7 + 6 * v + 4)) (N 0).toNat 0 0)) μ := by
  have hT := h.ten
  have hC := h.ct
  obtain ⟨hK, hS, hR, hN, hP⟩ := h
  have hW := hK.1
  have hB := hS.bk
  apply ZQ.ex
  have l2 : ∀ (k : Nat) (i c : Int), N 0 ≤ i → i + k = 6 → c = cnt (fun v => N (7 + 6 * v + 4)) (N 0).toNat 0 0 → ZE ext d n_X0_letNow 4 [(20, a + 18), (0, c), (0, i)] [] σ μ (fun rv μ' => rv = some (0, cnt (fun v => N (7 + 6 * v + 4)) (N 0).toNat 0 0) ∧ μ' = μ) := by
    intro k
    induction k with
    | zero =>
      intro i c h0 h1 hc
      refine ZE.go hW 9999 rfl (by repeat' first | exact True.intro | assumption | apply And.intro | omega) ?_
      refine ZE.b rfl (by omega) (by omega) ?_ ?_ <;> intro g1
      · refine ZE.go hW 9999 rfl (by repeat' first | exact True.intro | assumption | apply And.intro | omega) ?_
        refine ZE.ri rfl rfl ?_
        exact ⟨by rw [hc], rfl⟩
      · omega
    | succ k ih =>
      intro i c h0 h1 hc
      have t2 := hT.2 i h0 (by omega)
      refine ZE.go hW 9999 rfl (by repeat' first | exact True.intro | assumption | apply And.intro | omega) ?_
      refine ZE.b rfl (by omega) (by omega) ?_ ?_ <;> intro g1
      · omega
      · refine ZE.go hW 9999 rfl (by repeat' first | exact True.intro | assumption | apply And.intro | omega) ?_
        refine ZE.b rfl (by omega) (by omega) ?_ ?_ <;> intro g2
        · refine ZE.go hW 4 rfl (by repeat' first | exact True.intro | assumption | apply And.intro | omega) ?_
          exact ih (i + 1) c (by omega) (by omega) hc
        · omega
  have l1 : ∀ (k : Nat) (i c : Int), 0 ≤ i → i + k = N 0 → cnt (fun v => N (7 + 6 * v + 4)) k i c = cnt (fun v => N (7 + 6 * v + 4)) (N 0).toNat 0 0 → ZE ext d n_X0_letNow 4 [(20, a + 18), (0, c), (0, i)] [] σ μ (fun rv μ' => rv = some (0, cnt (fun v => N (7 + 6 * v + 4)) (N 0).toNat 0 0) ∧ μ' = μ) := by
    intro k
    induction k with
    | zero =>
      intro i c h0 h1 hc
      exact l2 (6 - i).toNat i c (by omega) (by omega) hc
    | succ k ih =>
      intro i c h0 h1 hc
      have t1 := hT.1 i h0 (by omega)
      have hc : cnt (fun v => N (7 + 6 * v + 4)) k (i + 1) (c + (if N (7 + 6 * i + 4) = -1 then 0 else 1)) = _ := hc
      refine ZE.go hW 9999 rfl (by repeat' first | exact True.intro | assumption | apply And.intro | omega) ?_
      refine ZE.b rfl (by omega) (by omega) ?_ ?_ <;> intro g1
      · omega
      · refine ZE.go hW 9999 rfl (by repeat' first | exact True.intro | assumption | apply And.intro | omega) ?_
        refine ZE.b rfl (by omega) (by omega) ?_ ?_ <;> intro g2
        · refine ZE.go hW 4 rfl (by repeat' first | exact True.intro | assumption | apply And.intro | omega) ?_
          first
            | (rw [if_pos (by omega), Int.add_zero] at hc; exact ih (i + 1) c (by omega) (by omega) hc)
            | (rw [if_neg (by omega)] at hc; exact ih (i + 1) (c + 1) (by omega) (by omega) hc)
        · refine ZE.go hW 4 rfl (by repeat' first | exact True.intro | assumption | apply And.intro | omega) ?_
          first
            | (rw [if_pos (by omega), Int.add_zero] at hc; exact ih (i + 1) c (by omega) (by omega) hc)
            | (rw [if_neg (by omega)] at hc; exact ih (i + 1) (c + 1) (by omega) (by omega) hc)
  refine ZQ.i rfl ?_
  refine ZE.go hW 4 rfl (by repeat' first | exact True.intro | assumption | apply And.intro | omega) ?_
  exact l1 (N 0).toNat 0 0 (by omega) (by omega) rfl
set_option maxRecDepth 100000 in set_option maxHeartbeats 4000000 in theorem k_c_rentersWhoHad {v : Int} (h : SR σ μ a N t) (ht : t ≤ 100) (hv : 0 ≤ v ∧ v < 6) : ZM ext d n_X0_rentersWhoHad [(20, a + 18), (0, v)] σ μ (some (0, lfW N v (N 4).toNat 0 0)) μ := by
  have hC := h.ct
  have hH := fun i => h.hi (i := i)
  obtain ⟨hK, hS, hR, hN, hP⟩ := h
  have hW := hK.1
  have hB := hS.bk
  apply ZQ.ex
  have l1 : ∀ (k : Nat) (i c : Int), 0 ≤ i → i + k = N 4 → lfW N v k i c = lfW N v (N 4).toNat 0 0 → ZE ext d n_X0_rentersWhoHad 4 [(20, a + 18), (0, v), (0, c), (0, i)] [] σ μ (fun rv μ' => rv = some (0, lfW N v (N 4).toNat 0 0) ∧ μ' = μ) := by
    intro k
    induction k with
    | zero =>
      intro i c h0 h1 hc
      refine ZE.go hW 9999 rfl (by repeat' first | exact True.intro | assumption | apply And.intro | omega) ?_
      refine ZE.b rfl (by omega) (by omega) ?_ ?_ <;> intro g1
      · refine ZE.go hW 9999 rfl (by repeat' first | exact True.intro | assumption | apply And.intro | omega) ?_
        refine ZE.ri rfl rfl ?_
        exact ⟨by rw [← hc]; rfl, rfl⟩
      · omega
    | succ k ih =>
      intro i c h0 h1 hc
      have t1 := hH i ⟨h0, by omega⟩
      have hc : lfW N v k (i + 1) (if N (61 + 3 * i) = v then zor c (zshl 1 (N (61 + 3 * i + 1))) else c) = _ := hc
      refine ZE.go hW 9999 rfl (by repeat' first | exact True.intro | assumption | apply And.intro | omega) ?_
      refine ZE.b rfl (by omega) (by omega) ?_ ?_ <;> intro g1
      · omega
      · refine ZE.go hW 9999 rfl (by repeat' first | exact True.intro | assumption | apply And.intro | omega) ?_
        refine ZE.b rfl (by omega) (by omega) ?_ ?_ <;> intro g2
        · refine ZE.go hW 4 rfl (by repeat' first | exact True.intro | assumption | apply And.intro | omega) ?_
          first
            | (rw [if_neg (by omega)] at hc; exact ih (i + 1) _ (by omega) (by omega) hc)
            | (rw [if_pos (by omega)] at hc; rw [t1.1.2.1]; exact ih (i + 1) _ (by omega) (by omega) hc)
        · refine ZE.go hW 4 rfl (by repeat' first | exact True.intro | assumption | apply And.intro | omega) ?_
          first
            | (rw [if_neg (by omega)] at hc; exact ih (i + 1) _ (by omega) (by omega) hc)
            | (rw [if_pos (by omega)] at hc; rw [t1.1.2.1]; exact ih (i + 1) _ (by omega) (by omega) hc)
  refine ZQ.i rfl ?_
  refine ZE.go hW 4 rfl (by repeat' first | exact True.intro | assumption | apply And.intro | omega) ?_
  exact l1 (N 4).toNat 0 0 (by omega) (by omega) rfl
theorem lfE_no {v : Int} : ∀ (k : Nat) (i b : Int), b ≠ -1 → lfE N v k i b = b
  | 0, _, _, _ => rfl
  | k + 1, i, b, hb => by
    show lfE N v k (i + 1) (if N (61 + 3 * i) = v then (if b = -1 then N (61 + 3 * i + 2) else b) else b) = b
    rw [if_neg hb, ite_self]
    exact lfE_no k (i + 1) b hb
set_option maxRecDepth 100000 in set_option maxHeartbeats 4000000 in theorem k_c_firstEveningOf {v : Int} (h : SR σ μ a N t) (ht : t ≤ 100) (hv : 0 ≤ v ∧ v < 6) : ZM ext d n_X0_firstEveningOf [(20, a + 18), (0, v)] σ μ (some (0, lfE N v (N 4).toNat 0 (-1))) μ := by
  have hC := h.ct
  have hH := fun i => h.hi (i := i)
  obtain ⟨hK, hS, hR, hN, hP⟩ := h
  have hW := hK.1
  have hB := hS.bk
  apply ZQ.ex
  have l1 : ∀ (k : Nat) (i : Int), 0 ≤ i → i + k = N 4 → lfE N v k i (-1) = lfE N v (N 4).toNat 0 (-1) → ZE ext d n_X0_firstEveningOf 2 [(20, a + 18), (0, v), (0, i)] [] σ μ (fun rv μ' => rv = some (0, lfE N v (N 4).toNat 0 (-1)) ∧ μ' = μ) := by
    intro k
    induction k with
    | zero =>
      intro i h0 h1 hc
      refine ZE.go hW 9999 rfl (by repeat' first | exact True.intro | assumption | apply And.intro | omega) ?_
      refine ZE.b rfl (by omega) (by omega) ?_ ?_ <;> intro g1
      · refine ZE.go hW 9999 rfl (by repeat' first | exact True.intro | assumption | apply And.intro | omega) ?_
        refine ZE.ri rfl rfl ?_
        exact ⟨by rw [← hc]; rfl, rfl⟩
      · omega
    | succ k ih =>
      intro i h0 h1 hc
      have t1 := hH i ⟨h0, by omega⟩
      have hc : lfE N v k (i + 1) (if N (61 + 3 * i) = v then (if (-1 : Int) = -1 then N (61 + 3 * i + 2) else -1) else -1) = _ := hc
      rw [if_pos (rfl : (-1 : Int) = -1)] at hc
      refine ZE.go hW 9999 rfl (by repeat' first | exact True.intro | assumption | apply And.intro | omega) ?_
      refine ZE.b rfl (by omega) (by omega) ?_ ?_ <;> intro g1
      · omega
      · refine ZE.go hW 9999 rfl (by repeat' first | exact True.intro | assumption | apply And.intro | omega) ?_
        refine ZE.b rfl (by omega) (by omega) ?_ ?_ <;> intro g2
        · refine ZE.go hW 2 rfl (by repeat' first | exact True.intro | assumption | apply And.intro | omega) ?_
          rw [if_neg (by omega)] at hc
          exact ih (i + 1) (by omega) (by omega) hc
        · refine ZE.go hW 9999 rfl (by repeat' first | exact True.intro | assumption | apply And.intro | omega) ?_
          refine ZE.ri rfl rfl ?_
          rw [if_pos (by omega), lfE_no k _ _ (by omega)] at hc
          refine ⟨?_, rfl⟩
          rw [← hc, t1.1.2.2]
  refine ZQ.i rfl ?_
  refine ZE.go hW 2 rfl (by repeat' first | exact True.intro | assumption | apply And.intro | omega) ?_
  exact l1 (N 4).toNat 0 (by omega) (by omega) rfl
set_option maxRecDepth 100000 in set_option maxHeartbeats 4000000 in theorem k_c_showing {v e : Int} (h : SR σ μ a N t) (hv : 0 ≤ v ∧ v < N 0) (he : 0 ≤ e ∧ e < 1000) : ZM ext (d + 3) n_X9_showing [(100, a), (0, v), (0, e)] σ μ (some (0, shN N v e)) μ := by
  have hC := h.ct
  have hV := h.vw hv
  obtain ⟨hK, hS, hR, hN, hP⟩ := h
  have hW := hK.1
  have hSp := hS.1
  apply ZQ.ex
  refine ZQ.i rfl ?_
  refine ZE.go hW 9999 rfl (by repeat' first | exact True.intro | assumption | apply And.intro | omega) ?_
  rw [hV.1.1, hV.1.2.2.2.1]
  refine ZE.ck rfl rfl (by assumption) (by omega) (Nat.le_of_ble_eq_true rfl) (kk_showing (d := d) hSp hV.2.1 hV.2.2.2.2.1 he) ?_
  refine ZE.ri rfl rfl ?_
  exact ⟨rfl, rfl⟩
set_option maxRecDepth 100000 in set_option maxHeartbeats 4000000 in theorem k_c_feeAt {v p : Int} (h : SR σ μ a N t) (hv : 0 ≤ v ∧ v < N 0) (hp : 0 ≤ p ∧ p < 100) : ZM ext (d + 2) n_X9_feeAt [(100, a), (0, v), (0, p)] σ μ (some (0, wFee (N (7 + 6 * v + 0)) p)) μ := by
  have hC := h.ct
  have hV := h.vw hv
  obtain ⟨hK, hS, hR, hN, hP⟩ := h
  have hW := hK.1
  have hSp := hS.1
  apply ZQ.ex
  refine ZQ.i rfl ?_
  refine ZE.go hW 9999 rfl (by repeat' first | exact True.intro | assumption | apply And.intro | omega) ?_
  rw [hV.1.1]
  refine ZE.ck rfl rfl (by assumption) (by omega) (Nat.le_of_ble_eq_true rfl) (kk_fee (d := d) hSp hV.2.1 hp) ?_
  refine ZE.ri rfl rfl ?_
  exact ⟨rfl, rfl⟩
set_option maxRecDepth 100000 in set_option maxHeartbeats 4000000 in theorem k_c_fee {v : Int} (h : SR σ μ a N t) (hv : 0 ≤ v ∧ v < N 0) : ZM ext (d + 3) n_X9_fee [(100, a), (0, v)] σ μ (some (0, cN N v)) μ := by
  have hC := h.ct
  have hV := h.vw hv
  have h' := h
  obtain ⟨hK, hS, hR, hN, hP⟩ := h
  have hW := hK.1
  have hSp := hS.1
  apply ZQ.ex
  refine ZQ.i rfl ?_
  refine ZE.go hW 9999 rfl (by repeat' first | exact True.intro | assumption | apply And.intro | omega) ?_
  rw [hV.1.2.2.1]
  refine ZE.c1 hW rfl rfl (by repeat' first | exact True.intro | assumption | apply And.intro | omega) (Nat.le_of_ble_eq_true rfl) (Nat.le_of_ble_eq_true rfl) (k_c_feeAt (d := d) h' hv (by omega)) ?_
  refine ZE.ri rfl rfl ?_
  exact ⟨rfl, rfl⟩
set_option maxRecDepth 100000 in set_option maxHeartbeats 4000000 in theorem k_c_fits {v w : Int} (h : SR σ μ a N t) (hv : 0 ≤ v ∧ v < N 0) (hw : 0 ≤ w ∧ w < 100) : ZM ext (d + 1) n_X9_fits [(100, a), (0, v), (0, w)] σ μ (some (0, bz (wFit (N (7 + 6 * v + 0)) (N (7 + 6 * v + 1)) w))) μ := by
  have hC := h.ct
  have hV := h.vw hv
  obtain ⟨hK, hS, hR, hN, hP⟩ := h
  have hW := hK.1
  have hSp := hS.1
  apply ZQ.ex
  refine ZQ.i rfl ?_
  refine ZE.go hW 9999 rfl (by repeat' first | exact True.intro | assumption | apply And.intro | omega) ?_
  rw [hV.1.1, hV.1.2.1]
  refine ZE.ck rfl rfl (by assumption) (by omega) (Nat.le_of_ble_eq_true rfl) (kk_fits (d := d) hSp hV.2.1 (by omega) hw) ?_
  refine ZE.rb rfl rfl (bz_01 _) ?_
  exact ⟨rfl, rfl⟩
set_option maxRecDepth 100000 in set_option maxHeartbeats 4000000 in theorem k_c_mayLet {v r : Int} (h : SR σ μ a N t) (hv : 0 ≤ v ∧ v < N 0) (hr : 0 ≤ r ∧ r < N 1) : ZM ext (d + 4) n_X9_mayLet [(100, a), (0, v), (0, r)] σ μ (some (0, bz (mayL N v r))) μ := by
  have hC := h.ct
  have hT := h.ten.1 v hv.1 hv.2
  have hV := h.vw hv
  have hr1 := h.rt hr
  have hO := vOf_rng (N := N) (r := r) hC.2.2.1.1.1
  have hF := wFee_rng (k := N (7 + 6 * v + 0)) (p := N (7 + 6 * v + 2)) (by omega)
  have hcN : cN N v = wFee (N (7 + 6 * v + 0)) (N (7 + 6 * v + 2)) := rfl
  have h' := h
  obtain ⟨hK, hS, hR, hN, hP⟩ := h
  have hW := hK.1
  have hSp := hS.1
  have hB := hS.bk
  have eM : mayL N v r ↔ N (7 + 6 * v + 4) = -1 ∧ vOf N r = -1 ∧ wFit (N (7 + 6 * v + 0)) (N (7 + 6 * v + 1)) (N (43 + 3 * r + 0)) ∧ wFee (N (7 + 6 * v + 0)) (N (7 + 6 * v + 2)) ≤ N (43 + 3 * r + 1) := Iff.rfl
  rw [bz_c eM]
  apply ZQ.ex
  refine ZQ.i rfl ?_
  refine ZE.go hW 9999 rfl (by repeat' first | exact True.intro | assumption | apply And.intro | omega) ?_
  refine ZE.b rfl (by omega) (by omega) ?_ ?_ <;> intro g1
  · refine ZE.go hW 9999 rfl (by repeat' first | exact True.intro | assumption | apply And.intro | omega) ?_
    refine ZE.rb rfl rfl (by first | exact Or.inl rfl | exact Or.inr rfl | omega) ?_
    first
      | exact ⟨by rw [bz_f (fun q => absurd q.1 (by omega))], rfl⟩
      | exact ⟨by rw [bz_f (fun q => absurd q.2.1 (by omega))], rfl⟩
      | exact ⟨by rw [bz_f (fun q => g3 q.2.2.1)], rfl⟩
      | exact ⟨by rw [bz_f (fun q => absurd q.2.2.2 (by omega))], rfl⟩
      | exact ⟨by rw [bz_t ⟨by omega, by omega, g3, by omega⟩], rfl⟩
  · refine ZE.go hW 9999 rfl (by repeat' first | exact True.intro | assumption | apply And.intro | omega) ?_
    refine ZE.c1 hW rfl rfl (by repeat' first | exact True.intro | assumption | apply And.intro | omega) (Nat.le_of_ble_eq_true rfl) (Nat.le_of_ble_eq_true rfl) (k_c_viewHeldBy (d := d + 3) h' (by omega) (by omega)) ?_
    refine ZE.go hW 9999 rfl (by repeat' first | exact True.intro | assumption | apply And.intro | omega) ?_
    refine ZE.b rfl (by omega) (by omega) ?_ ?_ <;> intro g2
    · refine ZE.go hW 9999 rfl (by repeat' first | exact True.intro | assumption | apply And.intro | omega) ?_
      refine ZE.rb rfl rfl (by first | exact Or.inl rfl | exact Or.inr rfl | omega) ?_
      first
        | exact ⟨by rw [bz_f (fun q => absurd q.1 (by omega))], rfl⟩
        | exact ⟨by rw [bz_f (fun q => absurd q.2.1 (by omega))], rfl⟩
        | exact ⟨by rw [bz_f (fun q => g3 q.2.2.1)], rfl⟩
        | exact ⟨by rw [bz_f (fun q => absurd q.2.2.2 (by omega))], rfl⟩
        | exact ⟨by rw [bz_t ⟨by omega, by omega, g3, by omega⟩], rfl⟩
    · refine ZE.go hW 9999 rfl (by repeat' first | exact True.intro | assumption | apply And.intro | omega) ?_
      rw [hr1.1.1]
      refine ZE.c1 hW rfl rfl (by repeat' first | exact True.intro | assumption | apply And.intro | omega) (Nat.le_of_ble_eq_true rfl) (Nat.le_of_ble_eq_true rfl) (k_c_fits (d := d + 2) h' hv (by omega)) ?_
      refine ZE.bp rfl rfl ?_ ?_ <;> intro g3
      · refine ZE.go hW 9999 rfl (by repeat' first | exact True.intro | assumption | apply And.intro | omega) ?_
        refine ZE.rb rfl rfl (by first | exact Or.inl rfl | exact Or.inr rfl | omega) ?_
        first
          | exact ⟨by rw [bz_f (fun q => absurd q.1 (by omega))], rfl⟩
          | exact ⟨by rw [bz_f (fun q => absurd q.2.1 (by omega))], rfl⟩
          | exact ⟨by rw [bz_f (fun q => g3 q.2.2.1)], rfl⟩
          | exact ⟨by rw [bz_f (fun q => absurd q.2.2.2 (by omega))], rfl⟩
          | exact ⟨by rw [bz_t ⟨by omega, by omega, g3, by omega⟩], rfl⟩
      · refine ZE.go hW 9999 rfl (by repeat' first | exact True.intro | assumption | apply And.intro | omega) ?_
        refine ZE.c1 hW rfl rfl (by repeat' first | exact True.intro | assumption | apply And.intro | omega) (Nat.le_of_ble_eq_true rfl) (Nat.le_of_ble_eq_true rfl) (k_c_fee (d := d) h' hv) ?_
        rw [hcN]
        refine ZE.go hW 9999 rfl (by repeat' first | exact True.intro | assumption | apply And.intro | omega) ?_
        refine ZE.b rfl (by omega) (by omega) ?_ ?_ <;> intro g4
        · refine ZE.go hW 9999 rfl (by repeat' first | exact True.intro | assumption | apply And.intro | omega) ?_
          refine ZE.rb rfl rfl (by first | exact Or.inl rfl | exact Or.inr rfl | omega) ?_
          first
            | exact ⟨by rw [bz_f (fun q => absurd q.1 (by omega))], rfl⟩
            | exact ⟨by rw [bz_f (fun q => absurd q.2.1 (by omega))], rfl⟩
            | exact ⟨by rw [bz_f (fun q => g3 q.2.2.1)], rfl⟩
            | exact ⟨by rw [bz_f (fun q => absurd q.2.2.2 (by omega))], rfl⟩
            | exact ⟨by rw [bz_t ⟨by omega, by omega, g3, by omega⟩], rfl⟩
        · refine ZE.go hW 9999 rfl (by repeat' first | exact True.intro | assumption | apply And.intro | omega) ?_
          refine ZE.rb rfl rfl (by first | exact Or.inl rfl | exact Or.inr rfl | omega) ?_
          first
            | exact ⟨by rw [bz_f (fun q => absurd q.1 (by omega))], rfl⟩
            | exact ⟨by rw [bz_f (fun q => absurd q.2.1 (by omega))], rfl⟩
            | exact ⟨by rw [bz_f (fun q => g3 q.2.2.1)], rfl⟩
            | exact ⟨by rw [bz_f (fun q => absurd q.2.2.2 (by omega))], rfl⟩
            | exact ⟨by rw [bz_t ⟨by omega, by omega, g3, by omega⟩], rfl⟩
set_option maxRecDepth 100000 in set_option maxHeartbeats 4000000 in theorem k_c_airOf {x y : Int} (h : SR σ μ a N t) (ht : t ≤ 100) (hx : 0 ≤ x ∧ x < N 0) (hy : 0 ≤ y ∧ y < N 0) : ZM ext (d + 4) n_X9_airOf [(100, a), (0, x), (0, y)] σ μ (some (0, (shN N x (N 2) + shN N y (N 2)) % 6)) μ := by
  have hC := h.ct
  have h' := h
  have hx1 := h.vw hx
  have hy1 := h.vw hy
  have s1 : 0 ≤ shN N x (N 2) ∧ shN N x (N 2) < 6 := wSh_rng hx1.2.2.2.2.1 hC.2.2.2.1.1
  have s2 : 0 ≤ shN N y (N 2) ∧ shN N y (N 2) < 6 := wSh_rng hy1.2.2.2.2.1 hC.2.2.2.1.1
  obtain ⟨hK, hS, hR, hN, hP⟩ := h
  have hW := hK.1
  have hSp := hS.1
  have hB := hS.bk
  apply ZQ.ex
  refine ZQ.i rfl ?_
  refine ZE.go hW 9999 rfl (by repeat' first | exact True.intro | assumption | apply And.intro | omega) ?_
  rw [hC.2.1.1]
  refine ZE.c1 hW rfl rfl (by repeat' first | exact True.intro | assumption | apply And.intro | omega) (Nat.le_of_ble_eq_true rfl) (Nat.le_of_ble_eq_true rfl) (k_c_showing (d := d) h' hx (by omega)) ?_
  refine ZE.go hW 9999 rfl (by repeat' first | exact True.intro | assumption | apply And.intro | omega) ?_
  rw [hC.2.1.1]
  refine ZE.c1 hW rfl rfl (by repeat' first | exact True.intro | assumption | apply And.intro | omega) (Nat.le_of_ble_eq_true rfl) (Nat.le_of_ble_eq_true rfl) (k_c_showing (d := d) h' hy (by omega)) ?_
  refine ZE.go hW 9999 rfl (by repeat' first | exact True.intro | assumption | apply And.intro | omega) ?_
  refine ZE.ri rfl rfl ?_
  exact ⟨rfl, rfl⟩
set_option maxRecDepth 100000 in set_option maxHeartbeats 4000000 in theorem k_c_airNow {r : Int} (h : SR σ μ a N t) (ht : t ≤ 100) (hr : 0 ≤ r ∧ r < N 1) (hr2 : 0 ≤ zxor r 1 ∧ zxor r 1 < N 1) : ZM ext (d + 5) n_X9_airNow [(100, a), (0, r), (0, zxor r 1)] σ μ (some (0, airN N r)) μ := by
  have hC := h.ct
  have h' := h
  have hO := vOf_rng (N := N) (r := r) hC.2.2.1.1.1
  have hO2 := vOf_rng (N := N) (r := zxor r 1) hC.2.2.1.1.1
  obtain ⟨hK, hS, hR, hN, hP⟩ := h
  have hW := hK.1
  have hSp := hS.1
  have hB := hS.bk
  apply ZQ.ex
  unfold airN
  refine ZQ.i rfl ?_
  refine ZE.go hW 9999 rfl (by repeat' first | exact True.intro | assumption | apply And.intro | omega) ?_
  refine ZE.c1 hW rfl rfl (by repeat' first | exact True.intro | assumption | apply And.intro | omega) (Nat.le_of_ble_eq_true rfl) (Nat.le_of_ble_eq_true rfl) (k_c_viewHeldBy (d := d + 4) h' (by omega) (by omega)) ?_
  refine ZE.go hW 9999 rfl (by repeat' first | exact True.intro | assumption | apply And.intro | omega) ?_
  refine ZE.c1 hW rfl rfl (by repeat' first | exact True.intro | assumption | apply And.intro | omega) (Nat.le_of_ble_eq_true rfl) (Nat.le_of_ble_eq_true rfl) (k_c_viewHeldBy (d := d + 4) h' (by omega) (by omega)) ?_
  refine ZE.go hW 9999 rfl (by repeat' first | exact True.intro | assumption | apply And.intro | omega) ?_
  refine ZE.b rfl (by omega) (by omega) ?_ ?_ <;> intro g1
  · refine ZE.go hW 9999 rfl (by repeat' first | exact True.intro | assumption | apply And.intro | omega) ?_
    refine ZE.ri rfl rfl ?_
    first
      | exact ⟨by rw [if_pos (by omega)], rfl⟩
      | exact ⟨by rw [if_neg (by omega)], rfl⟩
  · refine ZE.go hW 9999 rfl (by repeat' first | exact True.intro | assumption | apply And.intro | omega) ?_
    refine ZE.b rfl (by omega) (by omega) ?_ ?_ <;> intro g2
    · refine ZE.go hW 9999 rfl (by repeat' first | exact True.intro | assumption | apply And.intro | omega) ?_
      refine ZE.c1 hW rfl rfl (by repeat' first | exact True.intro | assumption | apply And.intro | omega) (Nat.le_of_ble_eq_true rfl) (Nat.le_of_ble_eq_true rfl) (k_c_airOf (d := d) h' ht (by omega) (by omega)) ?_
      refine ZE.ri rfl rfl ?_
      first
        | exact ⟨by rw [if_pos (by omega)], rfl⟩
        | exact ⟨by rw [if_neg (by omega)], rfl⟩
    · refine ZE.go hW 9999 rfl (by repeat' first | exact True.intro | assumption | apply And.intro | omega) ?_
      refine ZE.ri rfl rfl ?_
      first
        | exact ⟨by rw [if_pos (by omega)], rfl⟩
        | exact ⟨by rw [if_neg (by omega)], rfl⟩
end
