/-- only the class's scratch has changed -/
def Cq (μ μ' : zM) : Prop := ∀ k j, ¬ (5 ≤ k ∧ k ≤ 8) → ¬ (10 ≤ k ∧ k ≤ 20) → μ' k j = μ k j
theorem Cq.rfl' {μ : zM} : Cq μ μ := fun _ _ _ _ => rfl
theorem Cf.q {a b : zM} (h : Cf a b) : Cq a b := fun k j p q => h k j (by omega) (by omega)
theorem Gf.q {a b : zM} (h : Gf a b) : Cq a b := fun k j p q => h k j (by omega)
theorem Cq.trans {a b c : zM} (h : Cq a b) (h2 : Cq b c) : Cq a c := fun k j p q => (h2 k j p q).trans (h k j p q)
def Qc (ok : Prop) (bad val : Int) (μ : zM) (rv : Option V) (μ' : zM) : Prop := (ok → rv = some (0, val) ∧ Cq μ μ') ∧ (¬ ok → rv = some (0, bad) ∧ μ' = up μ 21 0 (μ 21 0 + 1))
section
variable {ext : List xC} {σ : zSh} {d : Nat} {μ : zM} {t : Int} {N : Int → Int}
theorem Qc.b {ok : Prop} {bad val x : Int} (h : ¬ ok) (hx : x = bad) : Qc ok bad val μ (some (0, x)) (up μ 21 0 (μ 21 0 + 1)) := ⟨fun q => absurd q h, fun _ => ⟨by rw [hx], rfl⟩⟩
theorem Qc.y {ok : Prop} {bad val x : Int} {μ' : zM} (h : ok) (hx : x = val) (hq : Cq μ μ') : Qc ok bad val μ (some (0, x)) μ' := ⟨fun _ => ⟨by rw [hx], hq⟩, fun q => absurd h q⟩
set_option maxRecDepth 100000 in set_option maxHeartbeats 4000000 in theorem k_x_of {v w : Int} (h : SR σ μ (μ 0 5) N t) (ht : t ≤ 100) (hv : zrng v) (hw : zrng w) : ZQ ext (d + 4) n_X11_of [(1000, 0), (0, v), (0, w)] σ μ (Qc ((0 ≤ v ∧ v ≤ N 0 - 1) ∧ (0 ≤ w ∧ w ≤ 7)) (-10) (if w = 4 then wSh (N (7 + 6 * v + 0)) (N (7 + 6 * v + 3)) (N 2) else if w = 5 then wFee (N (7 + 6 * v + 0)) (N (7 + 6 * v + 2)) else if w = 6 then N (7 + 6 * v + 4) else if w = 7 then N (7 + 6 * v + 5) else N (7 + 6 * v + w)) μ) := by
  have hC := h.ct
  have hW := h.1.1
  have hSp := h.2.1.1
  have hBk := h.2.1.bk
  have hT := fun a b => h.ten.1 v a b
  have hV := fun q => h.vw (v := v) q
  refine ZQ.i rfl ?_
  refine ZE.go hW 9999 rfl (by repeat' first | exact True.intro | assumption | apply And.intro | omega | (simp (disch := omega) only [up_n, up_e]; omega)) ?_
  refine ZE.c0 hW rfl rfl (Nat.le_of_ble_eq_true rfl) (Nat.le_of_ble_eq_true rfl) (k_c_isView (d := d + 2) hW rfl hSp hv (by omega)) ?_
  refine ZE.bp rfl rfl ?_ ?_ <;> intro g1
  · refine ZE.go hW 9999 rfl (by repeat' first | exact True.intro | assumption | apply And.intro | omega | (simp (disch := omega) only [up_n, up_e]; omega)) ?_
    rcases (by omega : w = 0 ∨ w = 1 ∨ w = 2 ∨ w = 3 ∨ w = 4 ∨ w = 5 ∨ w = 6 ∨ w = 7 ∨ (w < 0 ∨ 7 < w)) with rfl | rfl | rfl | rfl | rfl | rfl | rfl | rfl | hsw
    · refine ZE.ts rfl (by omega) rfl ?_
      refine ZE.go hW 9999 rfl (by repeat' first | exact True.intro | assumption | apply And.intro | omega | (simp (disch := omega) only [up_n, up_e]; omega)) ?_
      refine ZE.ri rfl rfl ?_
      first
        | exact Qc.b (by omega) rfl
        | exact Qc.y (by omega) (hV (by omega)).1.1 Cq.rfl'
        | exact Qc.y (by omega) (hV (by omega)).1.2.1 Cq.rfl'
        | exact Qc.y (by omega) (hV (by omega)).1.2.2.1 Cq.rfl'
        | exact Qc.y (by omega) (hV (by omega)).1.2.2.2.1 Cq.rfl'
        | exact Qc.y (by omega) (hV (by omega)).1.2.2.2.2 Cq.rfl'
        | exact Qc.y (by omega) (hT (by omega) (by omega)).1 Cq.rfl'
        | exact Qc.y (by omega) rfl Cq.rfl'
    · refine ZE.ts rfl (by omega) rfl ?_
      refine ZE.go hW 9999 rfl (by repeat' first | exact True.intro | assumption | apply And.intro | omega | (simp (disch := omega) only [up_n, up_e]; omega)) ?_
      refine ZE.ri rfl rfl ?_
      first
        | exact Qc.b (by omega) rfl
        | exact Qc.y (by omega) (hV (by omega)).1.1 Cq.rfl'
        | exact Qc.y (by omega) (hV (by omega)).1.2.1 Cq.rfl'
        | exact Qc.y (by omega) (hV (by omega)).1.2.2.1 Cq.rfl'
        | exact Qc.y (by omega) (hV (by omega)).1.2.2.2.1 Cq.rfl'
        | exact Qc.y (by omega) (hV (by omega)).1.2.2.2.2 Cq.rfl'
        | exact Qc.y (by omega) (hT (by omega) (by omega)).1 Cq.rfl'
        | exact Qc.y (by omega) rfl Cq.rfl'
    · refine ZE.ts rfl (by omega) rfl ?_
      refine ZE.go hW 9999 rfl (by repeat' first | exact True.intro | assumption | apply And.intro | omega | (simp (disch := omega) only [up_n, up_e]; omega)) ?_
      refine ZE.ri rfl rfl ?_
      first
        | exact Qc.b (by omega) rfl
        | exact Qc.y (by omega) (hV (by omega)).1.1 Cq.rfl'
        | exact Qc.y (by omega) (hV (by omega)).1.2.1 Cq.rfl'
        | exact Qc.y (by omega) (hV (by omega)).1.2.2.1 Cq.rfl'
        | exact Qc.y (by omega) (hV (by omega)).1.2.2.2.1 Cq.rfl'
        | exact Qc.y (by omega) (hV (by omega)).1.2.2.2.2 Cq.rfl'
        | exact Qc.y (by omega) (hT (by omega) (by omega)).1 Cq.rfl'
        | exact Qc.y (by omega) rfl Cq.rfl'
    · refine ZE.ts rfl (by omega) rfl ?_
      refine ZE.go hW 9999 rfl (by repeat' first | exact True.intro | assumption | apply And.intro | omega | (simp (disch := omega) only [up_n, up_e]; omega)) ?_
      refine ZE.ri rfl rfl ?_
      first
        | exact Qc.b (by omega) rfl
        | exact Qc.y (by omega) (hV (by omega)).1.1 Cq.rfl'
        | exact Qc.y (by omega) (hV (by omega)).1.2.1 Cq.rfl'
        | exact Qc.y (by omega) (hV (by omega)).1.2.2.1 Cq.rfl'
        | exact Qc.y (by omega) (hV (by omega)).1.2.2.2.1 Cq.rfl'
        | exact Qc.y (by omega) (hV (by omega)).1.2.2.2.2 Cq.rfl'
        | exact Qc.y (by omega) (hT (by omega) (by omega)).1 Cq.rfl'
        | exact Qc.y (by omega) rfl Cq.rfl'
    · refine ZE.ts rfl (by omega) rfl ?_
      refine ZE.go hW 9999 rfl (by repeat' first | exact True.intro | assumption | apply And.intro | omega | (simp (disch := omega) only [up_n, up_e]; omega)) ?_
      rw [hC.2.1.1]
      refine ZE.c1 hW rfl rfl (by repeat' first | exact True.intro | assumption | apply And.intro | omega | (simp (disch := omega) only [up_n, up_e]; omega)) (Nat.le_of_ble_eq_true rfl) (Nat.le_of_ble_eq_true rfl) (k_c_showing (d := d) h (by omega) (by omega)) ?_
      refine ZE.ri rfl rfl ?_
      first
        | exact Qc.b (by omega) rfl
        | exact Qc.y (by omega) (hV (by omega)).1.1 Cq.rfl'
        | exact Qc.y (by omega) (hV (by omega)).1.2.1 Cq.rfl'
        | exact Qc.y (by omega) (hV (by omega)).1.2.2.1 Cq.rfl'
        | exact Qc.y (by omega) (hV (by omega)).1.2.2.2.1 Cq.rfl'
        | exact Qc.y (by omega) (hV (by omega)).1.2.2.2.2 Cq.rfl'
        | exact Qc.y (by omega) (hT (by omega) (by omega)).1 Cq.rfl'
        | exact Qc.y (by omega) rfl Cq.rfl'
    · refine ZE.ts rfl (by omega) rfl ?_
      refine ZE.go hW 9999 rfl (by repeat' first | exact True.intro | assumption | apply And.intro | omega | (simp (disch := omega) only [up_n, up_e]; omega)) ?_
      refine ZE.c1 hW rfl rfl (by repeat' first | exact True.intro | assumption | apply And.intro | omega | (simp (disch := omega) only [up_n, up_e]; omega)) (Nat.le_of_ble_eq_true rfl) (Nat.le_of_ble_eq_true rfl) (k_c_fee (d := d) h (by omega)) ?_
      refine ZE.ri rfl rfl ?_
      first
        | exact Qc.b (by omega) rfl
        | exact Qc.y (by omega) (hV (by omega)).1.1 Cq.rfl'
        | exact Qc.y (by omega) (hV (by omega)).1.2.1 Cq.rfl'
        | exact Qc.y (by omega) (hV (by omega)).1.2.2.1 Cq.rfl'
        | exact Qc.y (by omega) (hV (by omega)).1.2.2.2.1 Cq.rfl'
        | exact Qc.y (by omega) (hV (by omega)).1.2.2.2.2 Cq.rfl'
        | exact Qc.y (by omega) (hT (by omega) (by omega)).1 Cq.rfl'
        | exact Qc.y (by omega) rfl Cq.rfl'
    · refine ZE.ts rfl (by omega) rfl ?_
      refine ZE.go hW 9999 rfl (by repeat' first | exact True.intro | assumption | apply And.intro | omega | (simp (disch := omega) only [up_n, up_e]; omega)) ?_
      refine ZE.ri rfl rfl ?_
      first
        | exact Qc.b (by omega) rfl
        | exact Qc.y (by omega) (hV (by omega)).1.1 Cq.rfl'
        | exact Qc.y (by omega) (hV (by omega)).1.2.1 Cq.rfl'
        | exact Qc.y (by omega) (hV (by omega)).1.2.2.1 Cq.rfl'
        | exact Qc.y (by omega) (hV (by omega)).1.2.2.2.1 Cq.rfl'
        | exact Qc.y (by omega) (hV (by omega)).1.2.2.2.2 Cq.rfl'
        | exact Qc.y (by omega) (hT (by omega) (by omega)).1 Cq.rfl'
        | exact Qc.y (by omega) rfl Cq.rfl'
    · refine ZE.ts rfl (by omega) rfl ?_
      refine ZE.go hW 9999 rfl (by repeat' first | exact True.intro | assumption | apply And.intro | omega | (simp (disch := omega) only [up_n, up_e]; omega)) ?_
      refine ZE.ri rfl rfl ?_
      first
        | exact Qc.b (by omega) rfl
        | exact Qc.y (by omega) (hV (by omega)).1.1 Cq.rfl'
        | exact Qc.y (by omega) (hV (by omega)).1.2.1 Cq.rfl'
        | exact Qc.y (by omega) (hV (by omega)).1.2.2.1 Cq.rfl'
        | exact Qc.y (by omega) (hV (by omega)).1.2.2.2.1 Cq.rfl'
        | exact Qc.y (by omega) (hV (by omega)).1.2.2.2.2 Cq.rfl'
        | exact Qc.y (by omega) (hT (by omega) (by omega)).1 Cq.rfl'
        | exact Qc.y (by omega) rfl Cq.rfl'
    · refine ZE.ts rfl (by omega) (if_pos (by omega)) ?_
      refine ZE.go hW 9999 rfl (by repeat' first | exact True.intro | assumption | apply And.intro | omega | (simp (disch := omega) only [up_n, up_e]; omega)) ?_
      refine ZE.c0 hW rfl rfl (Nat.le_of_ble_eq_true rfl) (Nat.le_of_ble_eq_true rfl) (k_c_refuseApart (d := d + 1) hW) ?_
      refine ZE.ri rfl rfl ?_
      first
        | exact Qc.b (by omega) rfl
        | exact Qc.y (by omega) (hV (by omega)).1.1 Cq.rfl'
        | exact Qc.y (by omega) (hV (by omega)).1.2.1 Cq.rfl'
        | exact Qc.y (by omega) (hV (by omega)).1.2.2.1 Cq.rfl'
        | exact Qc.y (by omega) (hV (by omega)).1.2.2.2.1 Cq.rfl'
        | exact Qc.y (by omega) (hV (by omega)).1.2.2.2.2 Cq.rfl'
        | exact Qc.y (by omega) (hT (by omega) (by omega)).1 Cq.rfl'
        | exact Qc.y (by omega) rfl Cq.rfl'
  · refine ZE.go hW 9999 rfl (by repeat' first | exact True.intro | assumption | apply And.intro | omega | (simp (disch := omega) only [up_n, up_e]; omega)) ?_
    refine ZE.c0 hW rfl rfl (Nat.le_of_ble_eq_true rfl) (Nat.le_of_ble_eq_true rfl) (k_c_refuseApart (d := d + 1) hW) ?_
    refine ZE.ri rfl rfl ?_
    first
      | exact Qc.b (by omega) rfl
      | exact Qc.y (by omega) (hV (by omega)).1.1 Cq.rfl'
      | exact Qc.y (by omega) (hV (by omega)).1.2.1 Cq.rfl'
      | exact Qc.y (by omega) (hV (by omega)).1.2.2.1 Cq.rfl'
      | exact Qc.y (by omega) (hV (by omega)).1.2.2.2.1 Cq.rfl'
      | exact Qc.y (by omega) (hV (by omega)).1.2.2.2.2 Cq.rfl'
      | exact Qc.y (by omega) (hT (by omega) (by omega)).1 Cq.rfl'
      | exact Qc.y (by omega) rfl Cq.rfl'
set_option maxRecDepth 100000 in set_option maxHeartbeats 4000000 in theorem k_x_about {r w : Int} (h : SR σ μ (μ 0 5) N t) (hv : zrng r) (hw : zrng w) : ZQ ext (d + 3) n_X11_about [(1000, 0), (0, r), (0, w)] σ μ (Qc ((0 ≤ r ∧ r ≤ N 1 - 1) ∧ (0 ≤ w ∧ w ≤ 3)) (-10) (if w = 3 then zlst (fun v => N (7 + 6 * v + 4)) r (N 0).toNat 0 (-1) else N (43 + 3 * r + w)) μ) := by
  have hC := h.ct
  have hW := h.1.1
  have hSp := h.2.1.1
  have hBk := h.2.1.bk
  have hR := fun q => h.rt (r := r) q
  refine ZQ.i rfl ?_
  refine ZE.go hW 9999 rfl (by repeat' first | exact True.intro | assumption | apply And.intro | omega | (simp (disch := omega) only [up_n, up_e]; omega)) ?_
  refine ZE.c0 hW rfl rfl (Nat.le_of_ble_eq_true rfl) (Nat.le_of_ble_eq_true rfl) (k_c_isRenter (d := d + 1) hW rfl hSp hv (by omega)) ?_
  refine ZE.bp rfl rfl ?_ ?_ <;> intro g1
  · refine ZE.go hW 9999 rfl (by repeat' first | exact True.intro | assumption | apply And.intro | omega | (simp (disch := omega) only [up_n, up_e]; omega)) ?_
    rcases (by omega : w = 0 ∨ w = 1 ∨ w = 2 ∨ w = 3 ∨ (w < 0 ∨ 3 < w)) with rfl | rfl | rfl | rfl | hsw
    · refine ZE.ts rfl (by omega) rfl ?_
      refine ZE.go hW 9999 rfl (by repeat' first | exact True.intro | assumption | apply And.intro | omega | (simp (disch := omega) only [up_n, up_e]; omega)) ?_
      refine ZE.ri rfl rfl ?_
      first
        | exact Qc.b (by omega) rfl
        | exact Qc.y (by omega) (hR (by omega)).1.1 Cq.rfl'
        | exact Qc.y (by omega) (hR (by omega)).1.2.1 Cq.rfl'
        | exact Qc.y (by omega) (hR (by omega)).1.2.2 Cq.rfl'
        | exact Qc.y (by omega) rfl Cq.rfl'
    · refine ZE.ts rfl (by omega) rfl ?_
      refine ZE.go hW 9999 rfl (by repeat' first | exact True.intro | assumption | apply And.intro | omega | (simp (disch := omega) only [up_n, up_e]; omega)) ?_
      refine ZE.ri rfl rfl ?_
      first
        | exact Qc.b (by omega) rfl
        | exact Qc.y (by omega) (hR (by omega)).1.1 Cq.rfl'
        | exact Qc.y (by omega) (hR (by omega)).1.2.1 Cq.rfl'
        | exact Qc.y (by omega) (hR (by omega)).1.2.2 Cq.rfl'
        | exact Qc.y (by omega) rfl Cq.rfl'
    · refine ZE.ts rfl (by omega) rfl ?_
      refine ZE.go hW 9999 rfl (by repeat' first | exact True.intro | assumption | apply And.intro | omega | (simp (disch := omega) only [up_n, up_e]; omega)) ?_
      refine ZE.ri rfl rfl ?_
      first
        | exact Qc.b (by omega) rfl
        | exact Qc.y (by omega) (hR (by omega)).1.1 Cq.rfl'
        | exact Qc.y (by omega) (hR (by omega)).1.2.1 Cq.rfl'
        | exact Qc.y (by omega) (hR (by omega)).1.2.2 Cq.rfl'
        | exact Qc.y (by omega) rfl Cq.rfl'
    · refine ZE.ts rfl (by omega) rfl ?_
      refine ZE.go hW 9999 rfl (by repeat' first | exact True.intro | assumption | apply And.intro | omega | (simp (disch := omega) only [up_n, up_e]; omega)) ?_
      refine ZE.c1 hW rfl rfl (by repeat' first | exact True.intro | assumption | apply And.intro | omega | (simp (disch := omega) only [up_n, up_e]; omega)) (Nat.le_of_ble_eq_true rfl) (Nat.le_of_ble_eq_true rfl) (k_c_viewHeldBy (d := d + 2) h hv (by omega)) ?_
      refine ZE.ri rfl rfl ?_
      first
        | exact Qc.b (by omega) rfl
        | exact Qc.y (by omega) (hR (by omega)).1.1 Cq.rfl'
        | exact Qc.y (by omega) (hR (by omega)).1.2.1 Cq.rfl'
        | exact Qc.y (by omega) (hR (by omega)).1.2.2 Cq.rfl'
        | exact Qc.y (by omega) rfl Cq.rfl'
    · refine ZE.ts rfl (by omega) (if_pos (by omega)) ?_
      refine ZE.go hW 9999 rfl (by repeat' first | exact True.intro | assumption | apply And.intro | omega | (simp (disch := omega) only [up_n, up_e]; omega)) ?_
      refine ZE.c0 hW rfl rfl (Nat.le_of_ble_eq_true rfl) (Nat.le_of_ble_eq_true rfl) (k_c_refuseApart (d := d) hW) ?_
      refine ZE.ri rfl rfl ?_
      first
        | exact Qc.b (by omega) rfl
        | exact Qc.y (by omega) (hR (by omega)).1.1 Cq.rfl'
        | exact Qc.y (by omega) (hR (by omega)).1.2.1 Cq.rfl'
        | exact Qc.y (by omega) (hR (by omega)).1.2.2 Cq.rfl'
        | exact Qc.y (by omega) rfl Cq.rfl'
  · refine ZE.go hW 9999 rfl (by repeat' first | exact True.intro | assumption | apply And.intro | omega | (simp (disch := omega) only [up_n, up_e]; omega)) ?_
    refine ZE.c0 hW rfl rfl (Nat.le_of_ble_eq_true rfl) (Nat.le_of_ble_eq_true rfl) (k_c_refuseApart (d := d) hW) ?_
    refine ZE.ri rfl rfl ?_
    first
      | exact Qc.b (by omega) rfl
      | exact Qc.y (by omega) (hR (by omega)).1.1 Cq.rfl'
      | exact Qc.y (by omega) (hR (by omega)).1.2.1 Cq.rfl'
      | exact Qc.y (by omega) (hR (by omega)).1.2.2 Cq.rfl'
      | exact Qc.y (by omega) rfl Cq.rfl'
set_option maxRecDepth 100000 in set_option maxHeartbeats 4000000 in theorem k_x_shows {v e : Int} (h : SR σ μ (μ 0 5) N t) (hv : zrng v) (he : zrng e) : ZQ ext (d + 4) n_X11_shows [(1000, 0), (0, v), (0, e)] σ μ (Qc ((0 ≤ v ∧ v ≤ N 0 - 1) ∧ (0 ≤ e ∧ e ≤ 99)) (-2) (wSh (N (7 + 6 * v + 0)) (N (7 + 6 * v + 3)) e) μ) := by
  have hC := h.ct
  have hW := h.1.1
  have hSp := h.2.1.1
  refine ZQ.i rfl ?_
  refine ZE.go hW 9999 rfl (by repeat' first | exact True.intro | assumption | apply And.intro | omega | (simp (disch := omega) only [up_n, up_e]; omega)) ?_
  refine ZE.c0 hW rfl rfl (Nat.le_of_ble_eq_true rfl) (Nat.le_of_ble_eq_true rfl) (k_c_isView (d := d + 2) hW rfl hSp hv (by omega)) ?_
  refine ZE.bp rfl rfl ?_ ?_ <;> intro g1
  · refine ZE.go hW 9999 rfl (by repeat' first | exact True.intro | assumption | apply And.intro | omega | (simp (disch := omega) only [up_n, up_e]; omega)) ?_
    refine ZE.c0 hW rfl rfl (Nat.le_of_ble_eq_true rfl) (Nat.le_of_ble_eq_true rfl) (k_c_refuse (d := d + 2) (x := -2) hW (by omega)) ?_
    refine ZE.ri rfl rfl ?_
    first
      | exact Qc.b (by omega) rfl
      | exact Qc.y (by omega) rfl Cq.rfl'
  · refine ZE.go hW 9999 rfl (by repeat' first | exact True.intro | assumption | apply And.intro | omega | (simp (disch := omega) only [up_n, up_e]; omega)) ?_
    refine ZE.c0 hW rfl rfl (Nat.le_of_ble_eq_true rfl) (Nat.le_of_ble_eq_true rfl) (k_c_isEvening (d := d + 2) hW he) ?_
    refine ZE.bp rfl rfl ?_ ?_ <;> intro g2
    · refine ZE.go hW 9999 rfl (by repeat' first | exact True.intro | assumption | apply And.intro | omega | (simp (disch := omega) only [up_n, up_e]; omega)) ?_
      refine ZE.c1 hW rfl rfl (by repeat' first | exact True.intro | assumption | apply And.intro | omega | (simp (disch := omega) only [up_n, up_e]; omega)) (Nat.le_of_ble_eq_true rfl) (Nat.le_of_ble_eq_true rfl) (k_c_showing (d := d) h (by omega) (by omega)) ?_
      refine ZE.ri rfl rfl ?_
      first
        | exact Qc.b (by omega) rfl
        | exact Qc.y (by omega) rfl Cq.rfl'
    · refine ZE.go hW 9999 rfl (by repeat' first | exact True.intro | assumption | apply And.intro | omega | (simp (disch := omega) only [up_n, up_e]; omega)) ?_
      refine ZE.c0 hW rfl rfl (Nat.le_of_ble_eq_true rfl) (Nat.le_of_ble_eq_true rfl) (k_c_refuse (d := d + 2) (x := -2) hW (by omega)) ?_
      refine ZE.ri rfl rfl ?_
      first
        | exact Qc.b (by omega) rfl
        | exact Qc.y (by omega) rfl Cq.rfl'
set_option maxRecDepth 100000 in set_option maxHeartbeats 4000000 in theorem k_x_suits {v r e : Int} (h : SR σ μ (μ 0 5) N t) (hv : zrng v) (hr : zrng r) (he : zrng e) : ZQ ext (d + 5) n_X11_suits [(1000, 0), (0, v), (0, r), (0, e)] σ μ (Qc ((0 ≤ v ∧ v ≤ N 0 - 1) ∧ (0 ≤ r ∧ r ≤ N 1 - 1) ∧ (0 ≤ e ∧ e ≤ 99)) (-2) (bz (wFit (N (7 + 6 * v + 0)) (N (7 + 6 * v + 1)) (N (43 + 3 * r + 0)) ∧ wFee (N (7 + 6 * v + 0)) (N (7 + 6 * v + 2)) ≤ N (43 + 3 * r + 1) ∧ (N (43 + 3 * r + 2) = 6 ∨ N (43 + 3 * r + 2) = wSh (N (7 + 6 * v + 0)) (N (7 + 6 * v + 3)) e))) μ) := by
  have hC := h.ct
  have hW := h.1.1
  have hSp := h.2.1.1
  have hN := h.2.2.2.1
  refine ZQ.i rfl ?_
  refine ZE.go hW 9999 rfl (by repeat' first | exact True.intro | assumption | apply And.intro | omega | (simp (disch := omega) only [up_n, up_e]; omega)) ?_
  refine ZE.c0 hW rfl rfl (Nat.le_of_ble_eq_true rfl) (Nat.le_of_ble_eq_true rfl) (k_c_isView (d := d + 3) hW rfl hSp hv (by omega)) ?_
  refine ZE.bp rfl rfl ?_ ?_ <;> intro g1
  · refine ZE.go hW 9999 rfl (by repeat' first | exact True.intro | assumption | apply And.intro | omega | (simp (disch := omega) only [up_n, up_e]; omega)) ?_
    refine ZE.c0 hW rfl rfl (Nat.le_of_ble_eq_true rfl) (Nat.le_of_ble_eq_true rfl) (k_c_refuse (d := d + 3) (x := -2) hW (by omega)) ?_
    refine ZE.ri rfl rfl ?_
    first
      | exact Qc.b (by omega) rfl
      | exact Qc.y (by omega) (bz_t g4).symm hf.q
      | exact Qc.y (by omega) (bz_f g4).symm hf.q
  · refine ZE.go hW 9999 rfl (by repeat' first | exact True.intro | assumption | apply And.intro | omega | (simp (disch := omega) only [up_n, up_e]; omega)) ?_
    refine ZE.c0 hW rfl rfl (Nat.le_of_ble_eq_true rfl) (Nat.le_of_ble_eq_true rfl) (k_c_isRenter (d := d + 3) hW rfl hSp hr (by omega)) ?_
    refine ZE.bp rfl rfl ?_ ?_ <;> intro g2
    · refine ZE.go hW 9999 rfl (by repeat' first | exact True.intro | assumption | apply And.intro | omega | (simp (disch := omega) only [up_n, up_e]; omega)) ?_
      refine ZE.c0 hW rfl rfl (Nat.le_of_ble_eq_true rfl) (Nat.le_of_ble_eq_true rfl) (k_c_refuse (d := d + 3) (x := -2) hW (by omega)) ?_
      refine ZE.ri rfl rfl ?_
      first
        | exact Qc.b (by omega) rfl
        | exact Qc.y (by omega) (bz_t g4).symm hf.q
        | exact Qc.y (by omega) (bz_f g4).symm hf.q
    · refine ZE.go hW 9999 rfl (by repeat' first | exact True.intro | assumption | apply And.intro | omega | (simp (disch := omega) only [up_n, up_e]; omega)) ?_
      refine ZE.c0 hW rfl rfl (Nat.le_of_ble_eq_true rfl) (Nat.le_of_ble_eq_true rfl) (k_c_isEvening (d := d + 3) hW he) ?_
      refine ZE.bp rfl rfl ?_ ?_ <;> intro g3
      · refine ZE.go hW 9999 rfl (by repeat' first | exact True.intro | assumption | apply And.intro | omega | (simp (disch := omega) only [up_n, up_e]; omega)) ?_
        refine ZE.q0 hW rfl rfl (Nat.le_of_ble_eq_true rfl) (Nat.le_of_ble_eq_true rfl) (k_c_open (d := d) h (e := e) (by omega)) ?_
        rintro rv9 μ1 ⟨rfl, hf, hO⟩
        have hsr := hO.2 r (by omega) (by omega)
        have hrg := sN_rng (e := e) hN r
        have hM := mkm_SM (P := sG N e (cN N) (wlN N) (puN N) (waN N) r) (N 0).toNat (by omega)
        have hb := hM.2 v (by omega) (by omega)
        have eb : bt (μ1 6 r) v ↔ (wFit (N (7 + 6 * v + 0)) (N (7 + 6 * v + 1)) (N (43 + 3 * r + 0)) ∧ wFee (N (7 + 6 * v + 0)) (N (7 + 6 * v + 2)) ≤ N (43 + 3 * r + 1) ∧ (N (43 + 3 * r + 2) = 6 ∨ N (43 + 3 * r + 2) = wSh (N (7 + 6 * v + 0)) (N (7 + 6 * v + 3)) e)) := by
          rw [hsr]
          constructor
          · intro q; exact (hb.mp q).2
          · intro q; exact hb.mpr ⟨by omega, q⟩
        refine ZE.go hW 9999 rfl (by repeat' first | exact True.intro | assumption | apply And.intro | omega | (simp (disch := omega) only [up_n, up_e]; omega)) ?_
        refine ZE.c0 hW rfl rfl (Nat.le_of_ble_eq_true rfl) (Nat.le_of_ble_eq_true rfl) (k_c_isSuited (d := d + 4) hW (by omega) (by omega) (by rw [hsr]; exact hrg)) ?_
        rw [bz_c eb]
        refine ZE.bp rfl rfl ?_ ?_ <;> intro g4
        · refine ZE.go hW 9999 rfl (by repeat' first | exact True.intro | assumption | apply And.intro | omega | (simp (disch := omega) only [up_n, up_e]; omega)) ?_
          refine ZE.ri rfl rfl ?_
          first
            | exact Qc.b (by omega) rfl
            | exact Qc.y (by omega) (bz_t g4).symm hf.q
            | exact Qc.y (by omega) (bz_f g4).symm hf.q
        · refine ZE.go hW 9999 rfl (by repeat' first | exact True.intro | assumption | apply And.intro | omega | (simp (disch := omega) only [up_n, up_e]; omega)) ?_
          refine ZE.ri rfl rfl ?_
          first
            | exact Qc.b (by omega) rfl
            | exact Qc.y (by omega) (bz_t g4).symm hf.q
            | exact Qc.y (by omega) (bz_f g4).symm hf.q
      · refine ZE.go hW 9999 rfl (by repeat' first | exact True.intro | assumption | apply And.intro | omega | (simp (disch := omega) only [up_n, up_e]; omega)) ?_
        refine ZE.c0 hW rfl rfl (Nat.le_of_ble_eq_true rfl) (Nat.le_of_ble_eq_true rfl) (k_c_refuse (d := d + 3) (x := -2) hW (by omega)) ?_
        refine ZE.ri rfl rfl ?_
        first
          | exact Qc.b (by omega) rfl
          | exact Qc.y (by omega) (bz_t g4).symm hf.q
          | exact Qc.y (by omega) (bz_f g4).symm hf.q
set_option maxRecDepth 100000 in set_option maxHeartbeats 4000000 in theorem k_x_best {e r : Int} (h : SR σ μ (μ 0 5) N t) (he : zrng e) (hr : zrng r) : ZQ ext (d + 5) n_X11_best [(1000, 0), (0, e), (0, r)] σ μ (Qc ((0 ≤ e ∧ e ≤ 99) ∧ (-1 ≤ r ∧ r ≤ N 1 - 1)) (-10) (if r = -1 then Bn N e / 10000 else Rn N e r) μ) := by
  have hC := h.ct
  have hW := h.1.1
  have hSp := h.2.1.1
  have hN := h.2.2.2.1
  have h29 : 22 ≤ μ 0 5 := h.2.2.2.2.2
  refine ZQ.i rfl ?_
  refine ZE.go hW 9999 rfl (by repeat' first | exact True.intro | assumption | apply And.intro | omega | (simp (disch := omega) only [up_n, up_e]; omega)) ?_
  refine ZE.c0 hW rfl rfl (Nat.le_of_ble_eq_true rfl) (Nat.le_of_ble_eq_true rfl) (k_c_isEvening (d := d + 3) hW he) ?_
  refine ZE.bp rfl rfl ?_ ?_ <;> intro g1
  · refine ZE.go hW 9999 rfl (by repeat' first | exact True.intro | assumption | apply And.intro | omega | (simp (disch := omega) only [up_n, up_e]; omega)) ?_
    refine ZE.c0 hW rfl rfl (Nat.le_of_ble_eq_true rfl) (Nat.le_of_ble_eq_true rfl) (k_c_refuseApart (d := d + 2) hW) ?_
    refine ZE.ri rfl rfl ?_
    first
      | (exfalso; omega)
      | exact Qc.b (by omega) rfl
      | exact Qc.y (by omega) (by rw [if_pos (by omega)]) hf3.q
      | exact Qc.y (by omega) (by rw [if_neg (by omega)]) hf3.q
  · refine ZE.go hW 9999 rfl (by repeat' first | exact True.intro | assumption | apply And.intro | omega | (simp (disch := omega) only [up_n, up_e]; omega)) ?_
    refine ZE.b rfl (by omega) (by omega) ?_ ?_ <;> intro g2
    · refine ZE.go hW 9999 rfl (by repeat' first | exact True.intro | assumption | apply And.intro | omega | (simp (disch := omega) only [up_n, up_e]; omega)) ?_
      refine ZE.q0 hW rfl rfl (Nat.le_of_ble_eq_true rfl) (Nat.le_of_ble_eq_true rfl) (k_c_open (d := d) h (e := e) (by omega)) ?_
      rintro rv9 μ1 ⟨rfl, hf, hO⟩
      have h16 := (h.cf hf).1.2
      have h0 := hO.c0 hN h16
      have hB := cB_rng h0 (k := (N 1).toNat) (by omega) 0 (zshl 1 (N 0) - 1)
      rw [hO.B hN] at hB
      refine ZE.go hW 9999 rfl (by repeat' first | exact True.intro | assumption | apply And.intro | omega | (simp (disch := omega) only [up_n, up_e]; omega)) ?_
      refine ZE.q0 hW rfl rfl (Nat.le_of_ble_eq_true rfl) (Nat.le_of_ble_eq_true rfl) (k_c_solve (d := d + 2) hW h0) ?_
      rintro rv9 μ2 ⟨rfl, hf2, hT⟩
      rw [hO.B hN]
      have hf3 : Cf μ μ2 := hf.trans (fun k j p q => hf2 k j (by omega))
      refine ZE.go hW 9999 rfl (by repeat' first | exact True.intro | assumption | apply And.intro | omega | (simp (disch := omega) only [up_n, up_e]; omega)) ?_
      refine ZE.b rfl (by omega) (by omega) ?_ ?_ <;> intro g3
      · have e12 : μ2 5 = μ1 5 := funext fun j => hf2 5 j (by omega)
        have e13 : μ2 6 = μ1 6 := funext fun j => hf2 6 j (by omega)
        have e14 : μ2 7 = μ1 7 := funext fun j => hf2 7 j (by omega)
        have e16 : μ2 9 = μ1 9 := funext fun j => hf2 9 j (by omega)
        have h02 : Cn0 μ2 (N 0) (N 1) := by
          unfold Cn0
          rw [e12, e13, e14, e16]
          exact h0
        have hT2 : ∀ r f, 0 ≤ r → r ≤ N 1 → 0 ≤ f → f ≤ zshl 1 (N 0) - 1 → μ2 (r + 10) f = (cB μ2 (N 0) (N 1 - r).toNat r f).1 := by
          intro r f p q x y
          unfold cB
          rw [e13, e14]
          exact hT r f p q x y
        refine ZE.go hW 9999 rfl (by repeat' first | exact True.intro | assumption | apply And.intro | omega | (simp (disch := omega) only [up_n, up_e]; omega)) ?_
        refine ZE.c0 hW rfl rfl (Nat.le_of_ble_eq_true rfl) (Nat.le_of_ble_eq_true rfl) (k_c_viewInBest (d := d + 3) hW h02 (by omega) hT2) ?_
        rw [e13, e14, hO.R hN]
        refine ZE.ri rfl rfl ?_
        first
          | (exfalso; omega)
          | exact Qc.b (by omega) rfl
          | exact Qc.y (by omega) (by rw [if_pos (by omega)]) hf3.q
          | exact Qc.y (by omega) (by rw [if_neg (by omega)]) hf3.q
      · refine ZE.go hW 9999 rfl (by repeat' first | exact True.intro | assumption | apply And.intro | omega | (simp (disch := omega) only [up_n, up_e]; omega)) ?_
        refine ZE.ri rfl rfl ?_
        first
          | (exfalso; omega)
          | exact Qc.b (by omega) rfl
          | exact Qc.y (by omega) (by rw [if_pos (by omega)]) hf3.q
          | exact Qc.y (by omega) (by rw [if_neg (by omega)]) hf3.q
    · refine ZE.go hW 9999 rfl (by repeat' first | exact True.intro | assumption | apply And.intro | omega | (simp (disch := omega) only [up_n, up_e]; omega)) ?_
      refine ZE.c0 hW rfl rfl (Nat.le_of_ble_eq_true rfl) (Nat.le_of_ble_eq_true rfl) (k_c_isRenter (d := d + 3) hW rfl hSp hr (by omega)) ?_
      refine ZE.bp rfl rfl ?_ ?_ <;> intro g3
      · refine ZE.go hW 9999 rfl (by repeat' first | exact True.intro | assumption | apply And.intro | omega | (simp (disch := omega) only [up_n, up_e]; omega)) ?_
        refine ZE.q0 hW rfl rfl (Nat.le_of_ble_eq_true rfl) (Nat.le_of_ble_eq_true rfl) (k_c_open (d := d) h (e := e) (by omega)) ?_
        rintro rv9 μ1 ⟨rfl, hf, hO⟩
        have h16 := (h.cf hf).1.2
        have h0 := hO.c0 hN h16
        have hB := cB_rng h0 (k := (N 1).toNat) (by omega) 0 (zshl 1 (N 0) - 1)
        rw [hO.B hN] at hB
        refine ZE.go hW 9999 rfl (by repeat' first | exact True.intro | assumption | apply And.intro | omega | (simp (disch := omega) only [up_n, up_e]; omega)) ?_
        refine ZE.q0 hW rfl rfl (Nat.le_of_ble_eq_true rfl) (Nat.le_of_ble_eq_true rfl) (k_c_solve (d := d + 2) hW h0) ?_
        rintro rv9 μ2 ⟨rfl, hf2, hT⟩
        rw [hO.B hN]
        have hf3 : Cf μ μ2 := hf.trans (fun k j p q => hf2 k j (by omega))
        refine ZE.go hW 9999 rfl (by repeat' first | exact True.intro | assumption | apply And.intro | omega | (simp (disch := omega) only [up_n, up_e]; omega)) ?_
        refine ZE.b rfl (by omega) (by omega) ?_ ?_ <;> intro g4
        · have e12 : μ2 5 = μ1 5 := funext fun j => hf2 5 j (by omega)
          have e13 : μ2 6 = μ1 6 := funext fun j => hf2 6 j (by omega)
          have e14 : μ2 7 = μ1 7 := funext fun j => hf2 7 j (by omega)
          have e16 : μ2 9 = μ1 9 := funext fun j => hf2 9 j (by omega)
          have h02 : Cn0 μ2 (N 0) (N 1) := by
            unfold Cn0
            rw [e12, e13, e14, e16]
            exact h0
          have hT2 : ∀ r f, 0 ≤ r → r ≤ N 1 → 0 ≤ f → f ≤ zshl 1 (N 0) - 1 → μ2 (r + 10) f = (cB μ2 (N 0) (N 1 - r).toNat r f).1 := by
            intro r f p q x y
            unfold cB
            rw [e13, e14]
            exact hT r f p q x y
          refine ZE.go hW 9999 rfl (by repeat' first | exact True.intro | assumption | apply And.intro | omega | (simp (disch := omega) only [up_n, up_e]; omega)) ?_
          refine ZE.c0 hW rfl rfl (Nat.le_of_ble_eq_true rfl) (Nat.le_of_ble_eq_true rfl) (k_c_viewInBest (d := d + 3) hW h02 (by omega) hT2) ?_
          rw [e13, e14, hO.R hN]
          refine ZE.ri rfl rfl ?_
          first
            | (exfalso; omega)
            | exact Qc.b (by omega) rfl
            | exact Qc.y (by omega) (by rw [if_pos (by omega)]) hf3.q
            | exact Qc.y (by omega) (by rw [if_neg (by omega)]) hf3.q
        · refine ZE.go hW 9999 rfl (by repeat' first | exact True.intro | assumption | apply And.intro | omega | (simp (disch := omega) only [up_n, up_e]; omega)) ?_
          refine ZE.ri rfl rfl ?_
          first
            | (exfalso; omega)
            | exact Qc.b (by omega) rfl
            | exact Qc.y (by omega) (by rw [if_pos (by omega)]) hf3.q
            | exact Qc.y (by omega) (by rw [if_neg (by omega)]) hf3.q
      · refine ZE.go hW 9999 rfl (by repeat' first | exact True.intro | assumption | apply And.intro | omega | (simp (disch := omega) only [up_n, up_e]; omega)) ?_
        refine ZE.c0 hW rfl rfl (Nat.le_of_ble_eq_true rfl) (Nat.le_of_ble_eq_true rfl) (k_c_refuseApart (d := d + 2) hW) ?_
        refine ZE.ri rfl rfl ?_
        first
          | (exfalso; omega)
          | exact Qc.b (by omega) rfl
          | exact Qc.y (by omega) (by rw [if_pos (by omega)]) hf3.q
          | exact Qc.y (by omega) (by rw [if_neg (by omega)]) hf3.q
set_option maxRecDepth 100000 in set_option maxHeartbeats 4000000 in theorem k_x_money {e : Int} (h : SR σ μ (μ 0 5) N t) (he : zrng e) : ZQ ext (d + 5) n_X11_money [(1000, 0), (0, e)] σ μ (Qc (0 ≤ e ∧ e ≤ 99) (-2) (Bn N e % 10000) μ) := by
  have hC := h.ct
  have hW := h.1.1
  have hSp := h.2.1.1
  have hN := h.2.2.2.1
  refine ZQ.i rfl ?_
  refine ZE.go hW 9999 rfl (by repeat' first | exact True.intro | assumption | apply And.intro | omega | (simp (disch := omega) only [up_n, up_e]; omega)) ?_
  refine ZE.c0 hW rfl rfl (Nat.le_of_ble_eq_true rfl) (Nat.le_of_ble_eq_true rfl) (k_c_isEvening (d := d + 3) hW he) ?_
  refine ZE.bp rfl rfl ?_ ?_ <;> intro g1
  · refine ZE.go hW 9999 rfl (by repeat' first | exact True.intro | assumption | apply And.intro | omega | (simp (disch := omega) only [up_n, up_e]; omega)) ?_
    refine ZE.q0 hW rfl rfl (Nat.le_of_ble_eq_true rfl) (Nat.le_of_ble_eq_true rfl) (k_c_open (d := d) h (e := e) (by omega)) ?_
    rintro rv9 μ1 ⟨rfl, hf, hO⟩
    have h16 := (h.cf hf).1.2
    have h0 := hO.c0 hN h16
    have hB := cB_rng h0 (k := (N 1).toNat) (by omega) 0 (zshl 1 (N 0) - 1)
    rw [hO.B hN] at hB
    refine ZE.go hW 9999 rfl (by repeat' first | exact True.intro | assumption | apply And.intro | omega | (simp (disch := omega) only [up_n, up_e]; omega)) ?_
    refine ZE.q0 hW rfl rfl (Nat.le_of_ble_eq_true rfl) (Nat.le_of_ble_eq_true rfl) (k_c_solve (d := d + 2) hW h0) ?_
    rintro rv9 μ2 ⟨rfl, hf2, hT⟩
    rw [hO.B hN]
    have hf3 : Cf μ μ2 := hf.trans (fun k j p q => hf2 k j (by omega))
    refine ZE.go hW 9999 rfl (by repeat' first | exact True.intro | assumption | apply And.intro | omega | (simp (disch := omega) only [up_n, up_e]; omega)) ?_
    refine ZE.ri rfl rfl ?_
    first
      | exact Qc.b (by omega) rfl
      | exact Qc.y (by omega) rfl hf3.q
  · refine ZE.go hW 9999 rfl (by repeat' first | exact True.intro | assumption | apply And.intro | omega | (simp (disch := omega) only [up_n, up_e]; omega)) ?_
    refine ZE.c0 hW rfl rfl (Nat.le_of_ble_eq_true rfl) (Nat.le_of_ble_eq_true rfl) (k_c_refuse (d := d + 3) (x := -2) hW (by omega)) ?_
    refine ZE.ri rfl rfl ?_
    first
      | exact Qc.b (by omega) rfl
      | exact Qc.y (by omega) rfl hf3.q
theorem Cn_63 {e : Int} (hN : NI N t) : Cn N e 63 = Cn N e (zshl 1 (N 1) - 1) := by
  have h0 := hN.1
  have a1 := bt_all h0.2.1
  have a2 := bt_all (n := 6) (by omega)
  have e6 : zshl 1 6 - 1 = 63 := by decide
  rw [e6] at a2
  unfold Cn
  refine gC_cg h0.1.1 (fun _ _ _ => rfl) (fun _ _ _ => ⟨rfl, rfl, rfl⟩) (fun r p q => ?_)
  have b1 : zand (zshr (zshl 1 (N 1) - 1) r) 1 = 1 := (a1.2.1 r p (by omega)).mpr q
  have b2 : zand (zshr 63 r) 1 = 1 := (a2.2.1 r p (by omega)).mpr (by omega)
  rw [b1, b2]
set_option maxRecDepth 100000 in set_option maxHeartbeats 4000000 in theorem k_x_come {e w : Int} (h : SR σ μ (μ 0 5) N t) (he : zrng e) (hw : zrng w) : ZQ ext (d + 5) n_X11_come [(1000, 0), (0, e), (0, w)] σ μ (Qc ((0 ≤ e ∧ e ≤ 99) ∧ (0 ≤ w ∧ w ≤ 2)) (-2) (if w = 0 then (Cn N e (zshl 1 (N 1) - 1)).1 else if w = 1 then (Cn N e (zshl 1 (N 1) - 1)).2 else Bn N e / 10000 - (Cn N e (zshl 1 (N 1) - 1)).1) μ) := by
  have hC := h.ct
  have hW := h.1.1
  have hSp := h.2.1.1
  have hN := h.2.2.2.1
  have hc := Cn_rng (e := e) (w := 63) hN
  have hc63 := Cn_63 (e := e) hN
  refine ZQ.i rfl ?_
  refine ZE.go hW 9999 rfl (by repeat' first | exact True.intro | assumption | apply And.intro | omega | (simp (disch := omega) only [up_n, up_e]; omega)) ?_
  refine ZE.c0 hW rfl rfl (Nat.le_of_ble_eq_true rfl) (Nat.le_of_ble_eq_true rfl) (k_c_isEvening (d := d + 3) hW he) ?_
  refine ZE.bp rfl rfl ?_ ?_ <;> intro g1
  · refine ZE.go hW 9999 rfl (by repeat' first | exact True.intro | assumption | apply And.intro | omega | (simp (disch := omega) only [up_n, up_e]; omega)) ?_
    refine ZE.c0 hW rfl rfl (Nat.le_of_ble_eq_true rfl) (Nat.le_of_ble_eq_true rfl) (k_c_refuse (d := d + 3) (x := -2) hW (by omega)) ?_
    refine ZE.ri rfl rfl ?_
    exact Qc.b (by omega) rfl
  · refine ZE.go hW 9999 rfl (by repeat' first | exact True.intro | assumption | apply And.intro | omega | (simp (disch := omega) only [up_n, up_e]; omega)) ?_
    refine ZE.c0 hW rfl rfl (Nat.le_of_ble_eq_true rfl) (Nat.le_of_ble_eq_true rfl) (k_c_within (d := d + 4) hW hw (by omega) (by omega)) ?_
    refine ZE.bp rfl rfl ?_ ?_ <;> intro g2
    · refine ZE.go hW 9999 rfl (by repeat' first | exact True.intro | assumption | apply And.intro | omega | (simp (disch := omega) only [up_n, up_e]; omega)) ?_
      refine ZE.q0 hW rfl rfl (Nat.le_of_ble_eq_true rfl) (Nat.le_of_ble_eq_true rfl) (k_c_open (d := d) h (e := e) (by omega)) ?_
      rintro rv9 μ1 ⟨rfl, hf, hO⟩
      have h16 := (h.cf hf).1.2
      refine ZE.go hW 9999 rfl (by repeat' first | exact True.intro | assumption | apply And.intro | omega | (simp (disch := omega) only [up_n, up_e]; omega)) ?_
      refine ZE.c0 hW rfl rfl (Nat.le_of_ble_eq_true rfl) (Nat.le_of_ble_eq_true rfl) (k_c_come (d := d + 3) hW hN hO h16 (who := 63) (by omega)) ?_
      refine ZE.go hW 46 rfl (by repeat' first | exact True.intro | assumption | apply And.intro | omega | (simp (disch := omega) only [up_n, up_e]; omega)) ?_
      rw [← hc63]
      generalize (Cn N e 63).1 = c1 at *
      generalize (Cn N e 63).2 = c2 at *
      have h0 := hO.c0 hN h16
      have hB := cB_rng h0 (k := (N 1).toNat) (by omega) 0 (zshl 1 (N 0) - 1)
      rw [hO.B hN] at hB
      rcases (by omega : w = 0 ∨ w = 1 ∨ w = 2) with rfl | rfl | rfl
      · refine ZE.ls rfl (by omega) rfl rfl ?_
        refine ZE.go hW 9999 rfl (by repeat' first | exact True.intro | assumption | apply And.intro | omega | (simp (disch := omega) only [up_n, up_e]; omega)) ?_
        refine ZE.ri rfl rfl ?_
        exact Qc.y (by omega) (by rw [if_pos rfl]; omega) hf.q
      · refine ZE.ls rfl (by omega) rfl rfl ?_
        refine ZE.go hW 9999 rfl (by repeat' first | exact True.intro | assumption | apply And.intro | omega | (simp (disch := omega) only [up_n, up_e]; omega)) ?_
        refine ZE.ri rfl rfl ?_
        exact Qc.y (by omega) (by rw [if_neg (by omega), if_pos rfl]; omega) hf.q
      · refine ZE.ls rfl (by omega) rfl rfl ?_
        refine ZE.go hW 9999 rfl (by repeat' first | exact True.intro | assumption | apply And.intro | omega | (simp (disch := omega) only [up_n, up_e]; omega)) ?_
        refine ZE.q0 hW rfl rfl (Nat.le_of_ble_eq_true rfl) (Nat.le_of_ble_eq_true rfl) (k_c_solve (d := d + 2) hW h0) ?_
        rintro rv9 μ2 ⟨rfl, hf2, hT⟩
        rw [hO.B hN]
        have hf3 : Cf μ μ2 := hf.trans (fun k j p q => hf2 k j (by omega))
        refine ZE.go hW 9999 rfl (by repeat' first | exact True.intro | assumption | apply And.intro | omega | (simp (disch := omega) only [up_n, up_e]; omega)) ?_
        refine ZE.ri rfl rfl ?_
        refine Qc.y (by omega) ?_ hf3.q
        rw [if_neg (by omega), if_neg (by omega)]
        omega
    · refine ZE.go hW 9999 rfl (by repeat' first | exact True.intro | assumption | apply And.intro | omega | (simp (disch := omega) only [up_n, up_e]; omega)) ?_
      refine ZE.c0 hW rfl rfl (Nat.le_of_ble_eq_true rfl) (Nat.le_of_ble_eq_true rfl) (k_c_refuse (d := d + 3) (x := -2) hW (by omega)) ?_
      refine ZE.ri rfl rfl ?_
      exact Qc.b (by omega) rfl
set_option maxRecDepth 100000 in set_option maxHeartbeats 4000000 in theorem k_x_changed {e v : Int} (h : SR σ μ (μ 0 5) N t) (he : zrng e) (hv : zrng v) : ZQ ext (d + 6) n_X11_changed [(1000, 0), (0, e), (0, v)] σ μ (Qc ((0 ≤ e ∧ e ≤ 99) ∧ (0 ≤ v ∧ v ≤ N 0 - 1)) (-2) (chN N e v) μ) := by
  have hC := h.ct
  have hW := h.1.1
  have hSp := h.2.1.1
  refine ZQ.i rfl ?_
  refine ZE.go hW 9999 rfl (by repeat' first | exact True.intro | assumption | apply And.intro | omega | (simp (disch := omega) only [up_n, up_e]; omega)) ?_
  refine ZE.c0 hW rfl rfl (Nat.le_of_ble_eq_true rfl) (Nat.le_of_ble_eq_true rfl) (k_c_isEvening (d := d + 4) hW he) ?_
  refine ZE.bp rfl rfl ?_ ?_ <;> intro g1
  · refine ZE.go hW 9999 rfl (by repeat' first | exact True.intro | assumption | apply And.intro | omega | (simp (disch := omega) only [up_n, up_e]; omega)) ?_
    refine ZE.c0 hW rfl rfl (Nat.le_of_ble_eq_true rfl) (Nat.le_of_ble_eq_true rfl) (k_c_refuse (d := d + 4) (x := -2) hW (by omega)) ?_
    refine ZE.ri rfl rfl ?_
    first
      | exact Qc.b (by omega) rfl
      | exact Qc.y (by omega) rfl hf.q
  · refine ZE.go hW 9999 rfl (by repeat' first | exact True.intro | assumption | apply And.intro | omega | (simp (disch := omega) only [up_n, up_e]; omega)) ?_
    refine ZE.c0 hW rfl rfl (Nat.le_of_ble_eq_true rfl) (Nat.le_of_ble_eq_true rfl) (k_c_isView (d := d + 4) hW rfl hSp hv (by omega)) ?_
    refine ZE.bp rfl rfl ?_ ?_ <;> intro g2
    · refine ZE.go hW 9999 rfl (by repeat' first | exact True.intro | assumption | apply And.intro | omega | (simp (disch := omega) only [up_n, up_e]; omega)) ?_
      refine ZE.q0 hW rfl rfl (Nat.le_of_ble_eq_true rfl) (Nat.le_of_ble_eq_true rfl) (k_c_price (d := d) h (e := e) (by omega) (by omega)) ?_
      rintro rv9 μ1 ⟨rfl, hf⟩
      refine ZE.ri rfl rfl ?_
      first
        | exact Qc.b (by omega) rfl
        | exact Qc.y (by omega) rfl hf.q
    · refine ZE.go hW 9999 rfl (by repeat' first | exact True.intro | assumption | apply And.intro | omega | (simp (disch := omega) only [up_n, up_e]; omega)) ?_
      refine ZE.c0 hW rfl rfl (Nat.le_of_ble_eq_true rfl) (Nat.le_of_ble_eq_true rfl) (k_c_refuse (d := d + 4) (x := -2) hW (by omega)) ?_
      refine ZE.ri rfl rfl ?_
      first
        | exact Qc.b (by omega) rfl
        | exact Qc.y (by omega) rfl hf.q
set_option maxRecDepth 100000 in set_option maxHeartbeats 4000000 in theorem k_x_drawn {sd n w : Int} (h : SR σ μ (μ 0 5) N t) (ht : t ≤ 100) (hs : zrng sd) (hn : zrng n) (hw : zrng w) : ZQ ext (d + 6) n_X11_drawn [(1000, 0), (0, sd), (0, n), (0, w)] σ μ (Qc ((0 ≤ sd ∧ sd ≤ 999999) ∧ (0 ≤ n ∧ n ≤ 30) ∧ (0 ≤ w ∧ w ≤ 100)) (-2) (dwF N w n.toNat 0 sd 0) μ) := by
  have hC := h.ct
  have hW := h.1.1
  have hSp := h.2.1.1
  refine ZQ.i rfl ?_
  refine ZE.go hW 9999 rfl (by repeat' first | exact True.intro | assumption | apply And.intro | omega | (simp (disch := omega) only [up_n, up_e]; omega)) ?_
  refine ZE.c0 hW rfl rfl (Nat.le_of_ble_eq_true rfl) (Nat.le_of_ble_eq_true rfl) (k_c_within (d := d + 5) hW hs (by omega) (by omega)) ?_
  refine ZE.bp rfl rfl ?_ ?_ <;> intro g1
  · refine ZE.go hW 9999 rfl (by repeat' first | exact True.intro | assumption | apply And.intro | omega | (simp (disch := omega) only [up_n, up_e]; omega)) ?_
    refine ZE.c0 hW rfl rfl (Nat.le_of_ble_eq_true rfl) (Nat.le_of_ble_eq_true rfl) (k_c_refuse (d := d + 4) (x := -2) hW (by omega)) ?_
    refine ZE.ri rfl rfl ?_
    first
      | exact Qc.b (by omega) rfl
      | exact Qc.y (by omega) rfl hf.q
  · refine ZE.go hW 9999 rfl (by repeat' first | exact True.intro | assumption | apply And.intro | omega | (simp (disch := omega) only [up_n, up_e]; omega)) ?_
    refine ZE.c0 hW rfl rfl (Nat.le_of_ble_eq_true rfl) (Nat.le_of_ble_eq_true rfl) (k_c_within (d := d + 5) hW hn (by omega) (by omega)) ?_
    refine ZE.bp rfl rfl ?_ ?_ <;> intro g2
    · refine ZE.go hW 9999 rfl (by repeat' first | exact True.intro | assumption | apply And.intro | omega | (simp (disch := omega) only [up_n, up_e]; omega)) ?_
      refine ZE.c0 hW rfl rfl (Nat.le_of_ble_eq_true rfl) (Nat.le_of_ble_eq_true rfl) (k_c_refuse (d := d + 4) (x := -2) hW (by omega)) ?_
      refine ZE.ri rfl rfl ?_
      first
        | exact Qc.b (by omega) rfl
        | exact Qc.y (by omega) rfl hf.q
    · refine ZE.go hW 9999 rfl (by repeat' first | exact True.intro | assumption | apply And.intro | omega | (simp (disch := omega) only [up_n, up_e]; omega)) ?_
      refine ZE.c0 hW rfl rfl (Nat.le_of_ble_eq_true rfl) (Nat.le_of_ble_eq_true rfl) (k_c_within (d := d + 5) hW hw (by omega) (by omega)) ?_
      refine ZE.bp rfl rfl ?_ ?_ <;> intro g3
      · refine ZE.go hW 9999 rfl (by repeat' first | exact True.intro | assumption | apply And.intro | omega | (simp (disch := omega) only [up_n, up_e]; omega)) ?_
        refine ZE.q0 hW rfl rfl (Nat.le_of_ble_eq_true rfl) (Nat.le_of_ble_eq_true rfl) (k_c_drawn (d := d) h ht (by omega) (by omega) (by omega)) ?_
        rintro rv9 μ1 ⟨rfl, hf⟩
        refine ZE.ri rfl rfl ?_
        first
          | exact Qc.b (by omega) rfl
          | exact Qc.y (by omega) rfl hf.q
      · refine ZE.go hW 9999 rfl (by repeat' first | exact True.intro | assumption | apply And.intro | omega | (simp (disch := omega) only [up_n, up_e]; omega)) ?_
        refine ZE.c0 hW rfl rfl (Nat.le_of_ble_eq_true rfl) (Nat.le_of_ble_eq_true rfl) (k_c_refuse (d := d + 4) (x := -2) hW (by omega)) ?_
        refine ZE.ri rfl rfl ?_
        first
          | exact Qc.b (by omega) rfl
          | exact Qc.y (by omega) rfl hf.q
end
