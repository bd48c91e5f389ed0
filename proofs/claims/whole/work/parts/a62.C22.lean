section
variable {ext : List xC} {σ : zSh} {d : Nat} {μ : zM} {t : Int} {N : Int → Int}
/-- only the shop at a has changed -/
def Fs (a : Int) (μ μ' : zM) : Prop := ∀ k j, ¬ (a ≤ k ∧ k ≤ a + 72) → μ' k j = μ k j
set_option maxRecDepth 100000 in set_option maxHeartbeats 4000000 in theorem k_x_shop {N' : Int → Int} (h : SR σ μ (μ 0 5) N t) (ht : 0 ≤ t) : ZQ ext (d + 4) n_X11_shop [(1000, 0)] σ μ (fun rv μ' => rv = some (0, N 0) ∧ Fs (μ 0 5) μ μ' ∧ SR σ μ' (μ 0 5) (z115 N') t) := by
  have hC := h.ct
  have hW := h.1.1
  have hSp := h.2.1.1
  refine ZQ.i rfl ?_
  refine ZE.go hW 9999 rfl (by repeat' first | exact True.intro | assumption | apply And.intro | omega | (simp (disch := omega) only [up_n, up_e]; omega)) ?_
  refine ZE.q1 hW rfl rfl (by repeat' first | exact True.intro | assumption | apply And.intro | omega | (simp (disch := omega) only [up_n, up_e]; omega)) (Nat.le_of_ble_eq_true rfl) (Nat.le_of_ble_eq_true rfl) (k_c_empty (d := d) hW hSp) ?_
  rintro rv9 μ1 ⟨rfl, hE⟩
  refine ZE.go hW 9999 rfl (by repeat' first | exact True.intro | assumption | apply And.intro | omega | (simp (disch := omega) only [up_n, up_e]; omega)) ?_
  refine ZE.ri rfl rfl ?_
  refine ⟨?_, fun k j p => hE.2.2.2 k j (by omega) (by omega) (by omega), SR.empt h.1 h.2.1 h.2.2.2.2.1 h.2.2.2.2.2 hE ht⟩
  rw [hC.1.1]
set_option maxRecDepth 100000 in set_option maxHeartbeats 4000000 in theorem k_x_view {k s p w : Int} (h : SR σ μ (μ 0 5) N t) (hk : zrng k) (hs : zrng s) (hp : zrng p) (hw : zrng w) : ZQ ext (d + 3) n_X11_view [(1000, 0), (0, k), (0, s), (0, p), (0, w)] σ μ (fun rv μ' =>
    (¬ ((0 ≤ k ∧ k ≤ 5) ∧ (1 ≤ s ∧ s ≤ 9) ∧ (0 ≤ p ∧ p ≤ 99) ∧ (0 ≤ w ∧ w ≤ 5)) → rv = some (0, -2) ∧ μ' = up μ 21 0 (μ 21 0 + 1)) ∧
    ((0 ≤ k ∧ k ≤ 5) ∧ (1 ≤ s ∧ s ≤ 9) ∧ (0 ≤ p ∧ p ≤ 99) ∧ (0 ≤ w ∧ w ≤ 5) → (N 0 = 6 → rv = some (0, -4) ∧ μ' = up μ 21 2 (μ 21 2 + 1)) ∧ (N 0 ≠ 6 → rv = some (0, N 0) ∧ Fs (μ 0 5) μ μ' ∧ SR σ μ' (μ 0 5) (vwN N k s p w) t))) := by
  have hC := h.ct
  have hW := h.1.1
  have hSp := h.2.1.1
  have h29 : 22 ≤ μ 0 5 := h.2.2.2.2.2
  refine ZQ.i rfl ?_
  refine ZE.go hW 9999 rfl (by repeat' first | exact True.intro | assumption | apply And.intro | omega | (simp (disch := omega) only [up_n, up_e]; omega)) ?_
  refine ZE.c0 hW rfl rfl (Nat.le_of_ble_eq_true rfl) (Nat.le_of_ble_eq_true rfl) (k_c_within (d := d + 2) hW hk (by omega) (by omega)) ?_
  refine ZE.bp rfl rfl ?_ ?_ <;> intro g1
  · refine ZE.go hW 9999 rfl (by repeat' first | exact True.intro | assumption | apply And.intro | omega | (simp (disch := omega) only [up_n, up_e]; omega)) ?_
    refine ZE.c0 hW rfl rfl (Nat.le_of_ble_eq_true rfl) (Nat.le_of_ble_eq_true rfl) (k_c_refuse (d := d + 1) (x := -2) hW (by omega)) ?_
    refine ZE.ri rfl rfl ?_
    first
      | exact ⟨fun _ => ⟨rfl, rfl⟩, fun q => absurd q (by omega)⟩
      | exact ⟨fun q => absurd (by omega) q, fun _ => ⟨fun _ => ⟨rfl, rfl⟩, fun q => absurd (by omega) q⟩⟩
      | (refine ⟨fun q => absurd (by omega) q, fun _ => ⟨fun q => absurd q (by omega), fun _ => ⟨?_, fun k j p => ?_, ?_⟩⟩⟩
         · simp (disch := omega) only [up_n, up_e]
           refine congrArg (fun x => some ((0 : Nat), x)) ?_
           omega
         · simp (disch := omega) only [up_n]
         · exact h.addV (by omega) (by omega) (by omega) (by omega) (by omega))
  · refine ZE.go hW 9999 rfl (by repeat' first | exact True.intro | assumption | apply And.intro | omega | (simp (disch := omega) only [up_n, up_e]; omega)) ?_
    refine ZE.c0 hW rfl rfl (Nat.le_of_ble_eq_true rfl) (Nat.le_of_ble_eq_true rfl) (k_c_within (d := d + 2) hW hs (by omega) (by omega)) ?_
    refine ZE.bp rfl rfl ?_ ?_ <;> intro g2
    · refine ZE.go hW 9999 rfl (by repeat' first | exact True.intro | assumption | apply And.intro | omega | (simp (disch := omega) only [up_n, up_e]; omega)) ?_
      refine ZE.c0 hW rfl rfl (Nat.le_of_ble_eq_true rfl) (Nat.le_of_ble_eq_true rfl) (k_c_refuse (d := d + 1) (x := -2) hW (by omega)) ?_
      refine ZE.ri rfl rfl ?_
      first
        | exact ⟨fun _ => ⟨rfl, rfl⟩, fun q => absurd q (by omega)⟩
        | exact ⟨fun q => absurd (by omega) q, fun _ => ⟨fun _ => ⟨rfl, rfl⟩, fun q => absurd (by omega) q⟩⟩
        | (refine ⟨fun q => absurd (by omega) q, fun _ => ⟨fun q => absurd q (by omega), fun _ => ⟨?_, fun k j p => ?_, ?_⟩⟩⟩
           · simp (disch := omega) only [up_n, up_e]
             refine congrArg (fun x => some ((0 : Nat), x)) ?_
             omega
           · simp (disch := omega) only [up_n]
           · exact h.addV (by omega) (by omega) (by omega) (by omega) (by omega))
    · refine ZE.go hW 9999 rfl (by repeat' first | exact True.intro | assumption | apply And.intro | omega | (simp (disch := omega) only [up_n, up_e]; omega)) ?_
      refine ZE.c0 hW rfl rfl (Nat.le_of_ble_eq_true rfl) (Nat.le_of_ble_eq_true rfl) (k_c_within (d := d + 2) hW hp (by omega) (by omega)) ?_
      refine ZE.bp rfl rfl ?_ ?_ <;> intro g3
      · refine ZE.go hW 9999 rfl (by repeat' first | exact True.intro | assumption | apply And.intro | omega | (simp (disch := omega) only [up_n, up_e]; omega)) ?_
        refine ZE.c0 hW rfl rfl (Nat.le_of_ble_eq_true rfl) (Nat.le_of_ble_eq_true rfl) (k_c_refuse (d := d + 1) (x := -2) hW (by omega)) ?_
        refine ZE.ri rfl rfl ?_
        first
          | exact ⟨fun _ => ⟨rfl, rfl⟩, fun q => absurd q (by omega)⟩
          | exact ⟨fun q => absurd (by omega) q, fun _ => ⟨fun _ => ⟨rfl, rfl⟩, fun q => absurd (by omega) q⟩⟩
          | (refine ⟨fun q => absurd (by omega) q, fun _ => ⟨fun q => absurd q (by omega), fun _ => ⟨?_, fun k j p => ?_, ?_⟩⟩⟩
             · simp (disch := omega) only [up_n, up_e]
               refine congrArg (fun x => some ((0 : Nat), x)) ?_
               omega
             · simp (disch := omega) only [up_n]
             · exact h.addV (by omega) (by omega) (by omega) (by omega) (by omega))
      · refine ZE.go hW 9999 rfl (by repeat' first | exact True.intro | assumption | apply And.intro | omega | (simp (disch := omega) only [up_n, up_e]; omega)) ?_
        refine ZE.c0 hW rfl rfl (Nat.le_of_ble_eq_true rfl) (Nat.le_of_ble_eq_true rfl) (k_c_isWeather (d := d + 1) hW hw) ?_
        refine ZE.bp rfl rfl ?_ ?_ <;> intro g4
        · refine ZE.go hW 9999 rfl (by repeat' first | exact True.intro | assumption | apply And.intro | omega | (simp (disch := omega) only [up_n, up_e]; omega)) ?_
          refine ZE.b rfl (by omega) (by omega) ?_ ?_ <;> intro g5
          · refine ZE.go hW 79 rfl (by repeat' first | exact True.intro | assumption | apply And.intro | omega | (simp (disch := omega) only [up_n, up_e]; omega)) ?_
            simp (disch := omega) only [up_n, hC.1.1]
            refine ZE.go hW 9999 rfl (by repeat' first | exact True.intro | assumption | apply And.intro | omega | (simp (disch := omega) only [up_n, up_e]; omega)) ?_
            refine ZE.ri rfl rfl ?_
            first
              | exact ⟨fun _ => ⟨rfl, rfl⟩, fun q => absurd q (by omega)⟩
              | exact ⟨fun q => absurd (by omega) q, fun _ => ⟨fun _ => ⟨rfl, rfl⟩, fun q => absurd (by omega) q⟩⟩
              | (refine ⟨fun q => absurd (by omega) q, fun _ => ⟨fun q => absurd q (by omega), fun _ => ⟨?_, fun k j p => ?_, ?_⟩⟩⟩
                 · simp (disch := omega) only [up_n, up_e]
                   refine congrArg (fun x => some ((0 : Nat), x)) ?_
                   omega
                 · simp (disch := omega) only [up_n]
                 · exact h.addV (by omega) (by omega) (by omega) (by omega) (by omega))
          · refine ZE.go hW 9999 rfl (by repeat' first | exact True.intro | assumption | apply And.intro | omega | (simp (disch := omega) only [up_n, up_e]; omega)) ?_
            refine ZE.c0 hW rfl rfl (Nat.le_of_ble_eq_true rfl) (Nat.le_of_ble_eq_true rfl) (k_c_refuse (d := d + 1) (x := -4) hW (by omega)) ?_
            refine ZE.ri rfl rfl ?_
            first
              | exact ⟨fun _ => ⟨rfl, rfl⟩, fun q => absurd q (by omega)⟩
              | exact ⟨fun q => absurd (by omega) q, fun _ => ⟨fun _ => ⟨rfl, rfl⟩, fun q => absurd (by omega) q⟩⟩
              | (refine ⟨fun q => absurd (by omega) q, fun _ => ⟨fun q => absurd q (by omega), fun _ => ⟨?_, fun k j p => ?_, ?_⟩⟩⟩
                 · simp (disch := omega) only [up_n, up_e]
                   refine congrArg (fun x => some ((0 : Nat), x)) ?_
                   omega
                 · simp (disch := omega) only [up_n]
                 · exact h.addV (by omega) (by omega) (by omega) (by omega) (by omega))
        · refine ZE.go hW 9999 rfl (by repeat' first | exact True.intro | assumption | apply And.intro | omega | (simp (disch := omega) only [up_n, up_e]; omega)) ?_
          refine ZE.c0 hW rfl rfl (Nat.le_of_ble_eq_true rfl) (Nat.le_of_ble_eq_true rfl) (k_c_refuse (d := d + 1) (x := -2) hW (by omega)) ?_
          refine ZE.ri rfl rfl ?_
          first
            | exact ⟨fun _ => ⟨rfl, rfl⟩, fun q => absurd q (by omega)⟩
            | exact ⟨fun q => absurd (by omega) q, fun _ => ⟨fun _ => ⟨rfl, rfl⟩, fun q => absurd (by omega) q⟩⟩
            | (refine ⟨fun q => absurd (by omega) q, fun _ => ⟨fun q => absurd q (by omega), fun _ => ⟨?_, fun k j p => ?_, ?_⟩⟩⟩
               · simp (disch := omega) only [up_n, up_e]
                 refine congrArg (fun x => some ((0 : Nat), x)) ?_
                 omega
               · simp (disch := omega) only [up_n]
               · exact h.addV (by omega) (by omega) (by omega) (by omega) (by omega))
set_option maxRecDepth 100000 in set_option maxHeartbeats 4000000 in theorem k_x_renter {w p x : Int} (h : SR σ μ (μ 0 5) N t) (hw : zrng w) (hp : zrng p) (hx : zrng x) : ZQ ext (d + 3) n_X11_renter [(1000, 0), (0, w), (0, p), (0, x)] σ μ (fun rv μ' =>
    (¬ ((1 ≤ w ∧ w ≤ 9) ∧ (0 ≤ p ∧ p ≤ 999) ∧ (0 ≤ x ∧ x ≤ 6)) → rv = some (0, -2) ∧ μ' = up μ 21 0 (μ 21 0 + 1)) ∧
    ((1 ≤ w ∧ w ≤ 9) ∧ (0 ≤ p ∧ p ≤ 999) ∧ (0 ≤ x ∧ x ≤ 6) → (N 1 = 6 → rv = some (0, -4) ∧ μ' = up μ 21 2 (μ 21 2 + 1)) ∧ (N 1 ≠ 6 → rv = some (0, N 1) ∧ Fs (μ 0 5) μ μ' ∧ SR σ μ' (μ 0 5) (rnN N w p x) t))) := by
  have hC := h.ct
  have hW := h.1.1
  have hSp := h.2.1.1
  have hBk := h.2.1.bk
  have h29 : 22 ≤ μ 0 5 := h.2.2.2.2.2
  refine ZQ.i rfl ?_
  refine ZE.go hW 9999 rfl (by repeat' first | exact True.intro | assumption | apply And.intro | omega | (simp (disch := omega) only [up_n, up_e]; omega)) ?_
  refine ZE.c0 hW rfl rfl (Nat.le_of_ble_eq_true rfl) (Nat.le_of_ble_eq_true rfl) (k_c_isRenterTold (d := d + 1) hW hw hp hx) ?_
  refine ZE.bp rfl rfl ?_ ?_ <;> intro g1
  · refine ZE.go hW 9999 rfl (by repeat' first | exact True.intro | assumption | apply And.intro | omega | (simp (disch := omega) only [up_n, up_e]; omega)) ?_
    refine ZE.b rfl (by omega) (by omega) ?_ ?_ <;> intro g2
    · refine ZE.go hW 49 rfl (by repeat' first | exact True.intro | assumption | apply And.intro | omega | (simp (disch := omega) only [up_n, up_e]; omega)) ?_
      simp (disch := omega) only [up_n, hC.1.2.1]
      refine ZE.go hW 9999 rfl (by repeat' first | exact True.intro | assumption | apply And.intro | omega | (simp (disch := omega) only [up_n, up_e]; omega)) ?_
      refine ZE.ri rfl rfl ?_
      first
        | exact ⟨fun _ => ⟨rfl, rfl⟩, fun q => absurd q (by omega)⟩
        | exact ⟨fun q => absurd (by omega) q, fun _ => ⟨fun _ => ⟨rfl, rfl⟩, fun q => absurd (by omega) q⟩⟩
        | (refine ⟨fun q => absurd (by omega) q, fun _ => ⟨fun q => absurd q (by omega), fun _ => ⟨?_, fun k j p => ?_, ?_⟩⟩⟩
           · simp (disch := omega) only [up_n, up_e]
             refine congrArg (fun x => some ((0 : Nat), x)) ?_
             omega
           · simp (disch := omega) only [up_n]
           · exact h.addR (by omega) (by omega) (by omega) (by omega))
    · refine ZE.go hW 9999 rfl (by repeat' first | exact True.intro | assumption | apply And.intro | omega | (simp (disch := omega) only [up_n, up_e]; omega)) ?_
      refine ZE.c0 hW rfl rfl (Nat.le_of_ble_eq_true rfl) (Nat.le_of_ble_eq_true rfl) (k_c_refuse (d := d + 1) (x := -4) hW (by omega)) ?_
      refine ZE.ri rfl rfl ?_
      first
        | exact ⟨fun _ => ⟨rfl, rfl⟩, fun q => absurd q (by omega)⟩
        | exact ⟨fun q => absurd (by omega) q, fun _ => ⟨fun _ => ⟨rfl, rfl⟩, fun q => absurd (by omega) q⟩⟩
        | (refine ⟨fun q => absurd (by omega) q, fun _ => ⟨fun q => absurd q (by omega), fun _ => ⟨?_, fun k j p => ?_, ?_⟩⟩⟩
           · simp (disch := omega) only [up_n, up_e]
             refine congrArg (fun x => some ((0 : Nat), x)) ?_
             omega
           · simp (disch := omega) only [up_n]
           · exact h.addR (by omega) (by omega) (by omega) (by omega))
  · refine ZE.go hW 9999 rfl (by repeat' first | exact True.intro | assumption | apply And.intro | omega | (simp (disch := omega) only [up_n, up_e]; omega)) ?_
    refine ZE.c0 hW rfl rfl (Nat.le_of_ble_eq_true rfl) (Nat.le_of_ble_eq_true rfl) (k_c_refuse (d := d + 1) (x := -2) hW (by omega)) ?_
    refine ZE.ri rfl rfl ?_
    first
      | exact ⟨fun _ => ⟨rfl, rfl⟩, fun q => absurd q (by omega)⟩
      | exact ⟨fun q => absurd (by omega) q, fun _ => ⟨fun _ => ⟨rfl, rfl⟩, fun q => absurd (by omega) q⟩⟩
      | (refine ⟨fun q => absurd (by omega) q, fun _ => ⟨fun q => absurd q (by omega), fun _ => ⟨?_, fun k j p => ?_, ?_⟩⟩⟩
         · simp (disch := omega) only [up_n, up_e]
           refine congrArg (fun x => some ((0 : Nat), x)) ?_
           omega
         · simp (disch := omega) only [up_n]
         · exact h.addR (by omega) (by omega) (by omega) (by omega))
set_option maxRecDepth 100000 in set_option maxHeartbeats 4000000 in theorem k_x_things {v s : Int} (h : SR σ μ (μ 0 5) N t) (hv : zrng v) (hs : zrng s) : ZQ ext (d + 3) n_X11_things [(1000, 0), (0, v), (0, s)] σ μ (fun rv μ' =>
    (¬ ((0 ≤ v ∧ v ≤ N 0 - 1) ∧ (0 ≤ s ∧ s ≤ 255)) → rv = some (0, -2) ∧ μ' = up μ 21 0 (μ 21 0 + 1)) ∧
    ((0 ≤ v ∧ v ≤ N 0 - 1) ∧ (0 ≤ s ∧ s ≤ 255) → rv = some (0, N (7 + 6 * v + 5)) ∧ Fs (μ 0 5) μ μ' ∧ SR σ μ' (μ 0 5) (ex1 N (7 + 6 * v + 5) s) t)) := by
  have hC := h.ct
  have hW := h.1.1
  have hSp := h.2.1.1
  have h29 : 22 ≤ μ 0 5 := h.2.2.2.2.2
  refine ZQ.i rfl ?_
  refine ZE.go hW 9999 rfl (by repeat' first | exact True.intro | assumption | apply And.intro | omega | (simp (disch := omega) only [up_n, up_e]; omega)) ?_
  refine ZE.c0 hW rfl rfl (Nat.le_of_ble_eq_true rfl) (Nat.le_of_ble_eq_true rfl) (k_c_isView (d := d + 1) hW rfl hSp hv (by omega)) ?_
  refine ZE.bp rfl rfl ?_ ?_ <;> intro g1
  · refine ZE.go hW 9999 rfl (by repeat' first | exact True.intro | assumption | apply And.intro | omega | (simp (disch := omega) only [up_n, up_e]; omega)) ?_
    refine ZE.c0 hW rfl rfl (Nat.le_of_ble_eq_true rfl) (Nat.le_of_ble_eq_true rfl) (k_c_refuse (d := d + 1) (x := -2) hW (by omega)) ?_
    refine ZE.ri rfl rfl ?_
    first
      | exact ⟨fun _ => ⟨rfl, rfl⟩, fun q => absurd q (by omega)⟩
      | (refine ⟨fun q => absurd (by omega) q, fun _ => ⟨?_, fun k j p => up_n (by omega), h.setT (by omega) (by omega)⟩⟩
         rw [(h.vw (v := v) (by omega)).1.2.2.2.2])
  · refine ZE.go hW 9999 rfl (by repeat' first | exact True.intro | assumption | apply And.intro | omega | (simp (disch := omega) only [up_n, up_e]; omega)) ?_
    refine ZE.c0 hW rfl rfl (Nat.le_of_ble_eq_true rfl) (Nat.le_of_ble_eq_true rfl) (k_c_within (d := d + 2) hW hs (by omega) (by omega)) ?_
    refine ZE.bp rfl rfl ?_ ?_ <;> intro g2
    · refine ZE.go hW 9999 rfl (by repeat' first | exact True.intro | assumption | apply And.intro | omega | (simp (disch := omega) only [up_n, up_e]; omega)) ?_
      refine ZE.ri rfl rfl ?_
      first
        | exact ⟨fun _ => ⟨rfl, rfl⟩, fun q => absurd q (by omega)⟩
        | (refine ⟨fun q => absurd (by omega) q, fun _ => ⟨?_, fun k j p => up_n (by omega), h.setT (by omega) (by omega)⟩⟩
           rw [(h.vw (v := v) (by omega)).1.2.2.2.2])
    · refine ZE.go hW 9999 rfl (by repeat' first | exact True.intro | assumption | apply And.intro | omega | (simp (disch := omega) only [up_n, up_e]; omega)) ?_
      refine ZE.c0 hW rfl rfl (Nat.le_of_ble_eq_true rfl) (Nat.le_of_ble_eq_true rfl) (k_c_refuse (d := d + 1) (x := -2) hW (by omega)) ?_
      refine ZE.ri rfl rfl ?_
      first
        | exact ⟨fun _ => ⟨rfl, rfl⟩, fun q => absurd q (by omega)⟩
        | (refine ⟨fun q => absurd (by omega) q, fun _ => ⟨?_, fun k j p => up_n (by omega), h.setT (by omega) (by omega)⟩⟩
           rw [(h.vw (v := v) (by omega)).1.2.2.2.2])
set_option maxRecDepth 100000 in set_option maxHeartbeats 4000000 in theorem k_x_type {c : Int} (hW : Wl σ) (hc : zrng c) (hl : 0 ≤ μ 2 1 ∧ μ 2 1 ≤ 150) : ZQ ext (d + 2) n_X11_type [(1000, 0), (0, c)] σ μ (fun rv μ' =>
    (¬ (0 ≤ c ∧ c ≤ 127) → rv = some (0, -2) ∧ μ' = up μ 21 0 (μ 21 0 + 1)) ∧ (0 ≤ c ∧ c ≤ 127 → (μ 2 1 = 150 → rv = some (0, -4) ∧ μ' = up μ 21 2 (μ 21 2 + 1)) ∧ (μ 2 1 ≠ 150 → rv = some (0, μ 2 1 + 1) ∧ μ' = up (up μ 3 (μ 2 1) c) 2 1 (μ 2 1 + 1)))) := by
  refine ZQ.i rfl ?_
  refine ZE.go hW 9999 rfl (by repeat' first | exact True.intro | assumption | apply And.intro | omega | (simp (disch := omega) only [up_n, up_e]; omega)) ?_
  refine ZE.c0 hW rfl rfl (Nat.le_of_ble_eq_true rfl) (Nat.le_of_ble_eq_true rfl) (k_c_within (d := d + 1) hW hc (by omega) (by omega)) ?_
  refine ZE.bp rfl rfl ?_ ?_ <;> intro g1
  · refine ZE.go hW 9999 rfl (by repeat' first | exact True.intro | assumption | apply And.intro | omega | (simp (disch := omega) only [up_n, up_e]; omega)) ?_
    refine ZE.b rfl (by omega) (by omega) ?_ ?_ <;> intro g2
    · refine ZE.go hW 9999 rfl (by repeat' first | exact True.intro | assumption | apply And.intro | omega | (simp (disch := omega) only [up_n, up_e]; omega)) ?_
      refine ZE.ri rfl rfl ?_
      first
        | exact ⟨fun _ => ⟨rfl, rfl⟩, fun q => absurd q (by omega)⟩
        | exact ⟨fun q => absurd (by omega) q, fun _ => ⟨fun _ => ⟨rfl, rfl⟩, fun q => absurd (by omega) q⟩⟩
        | (simp (disch := omega) only [up_n, up_e]
           exact ⟨fun q => absurd (by omega) q, fun _ => ⟨fun q => absurd q (by omega), fun _ => by trivial⟩⟩)
    · refine ZE.go hW 9999 rfl (by repeat' first | exact True.intro | assumption | apply And.intro | omega | (simp (disch := omega) only [up_n, up_e]; omega)) ?_
      refine ZE.c0 hW rfl rfl (Nat.le_of_ble_eq_true rfl) (Nat.le_of_ble_eq_true rfl) (k_c_refuse (d := d) (x := -4) hW (by omega)) ?_
      refine ZE.ri rfl rfl ?_
      first
        | exact ⟨fun _ => ⟨rfl, rfl⟩, fun q => absurd q (by omega)⟩
        | exact ⟨fun q => absurd (by omega) q, fun _ => ⟨fun _ => ⟨rfl, rfl⟩, fun q => absurd (by omega) q⟩⟩
        | (simp (disch := omega) only [up_n, up_e]
           exact ⟨fun q => absurd (by omega) q, fun _ => ⟨fun q => absurd q (by omega), fun _ => by trivial⟩⟩)
  · refine ZE.go hW 9999 rfl (by repeat' first | exact True.intro | assumption | apply And.intro | omega | (simp (disch := omega) only [up_n, up_e]; omega)) ?_
    refine ZE.c0 hW rfl rfl (Nat.le_of_ble_eq_true rfl) (Nat.le_of_ble_eq_true rfl) (k_c_refuse (d := d) (x := -2) hW (by omega)) ?_
    refine ZE.ri rfl rfl ?_
    first
      | exact ⟨fun _ => ⟨rfl, rfl⟩, fun q => absurd q (by omega)⟩
      | exact ⟨fun q => absurd (by omega) q, fun _ => ⟨fun _ => ⟨rfl, rfl⟩, fun q => absurd (by omega) q⟩⟩
      | (simp (disch := omega) only [up_n, up_e]
         exact ⟨fun q => absurd (by omega) q, fun _ => ⟨fun q => absurd q (by omega), fun _ => by trivial⟩⟩)
set_option maxRecDepth 100000 in set_option maxHeartbeats 4000000 in theorem k_x_clear (hW : Wl σ) : ZM ext d n_X11_clear [(1000, 0)] σ μ (some (0, μ 2 1)) (up μ 2 1 0) := by
  refine ZM.i rfl ?_
  refine Zv.go hW 9999 rfl (by repeat' first | exact True.intro | assumption | apply And.intro | omega | (simp (disch := omega) only [up_n, up_e]; omega)) ?_
  exact Zv.ri rfl rfl rfl rfl
set_option maxRecDepth 100000 in set_option maxHeartbeats 4000000 in theorem k_x_forget (h : SR σ μ (μ 0 5) N t) : ZQ ext d n_X11_forget [(1000, 0)] σ μ (fun rv μ' => rv = some (0, N 5) ∧ Fs (μ 0 5) μ μ' ∧ SR σ μ' (μ 0 5) (ex1 N 5 0) t) := by
  have hC := h.ct
  have hW := h.1.1
  have hSp := h.2.1.1
  have h29 : 22 ≤ μ 0 5 := h.2.2.2.2.2
  refine ZQ.i rfl ?_
  refine ZE.go hW 9999 rfl (by repeat' first | exact True.intro | assumption | apply And.intro | omega | (simp (disch := omega) only [up_n, up_e]; omega)) ?_
  refine ZE.ri rfl rfl ?_
  refine ⟨?_, fun k j p => up_n (by omega), h.forg⟩
  rw [hC.1.2.2.1]
set_option maxRecDepth 100000 in set_option maxHeartbeats 4000000 in theorem k_x_reading {v e w : Int} (h : SR σ μ (μ 0 5) N t) (hv : zrng v) (he : zrng e) (hw : zrng w) : ZQ ext (d + 3) n_X11_reading [(1000, 0), (0, v), (0, e), (0, w)] σ μ (fun rv μ' =>
    (¬ ((0 ≤ v ∧ v ≤ N 0 - 1) ∧ (0 ≤ e ∧ e ≤ 99) ∧ (0 ≤ w ∧ w ≤ 5)) → rv = some (0, -2) ∧ μ' = up μ 21 0 (μ 21 0 + 1)) ∧
    ((0 ≤ v ∧ v ≤ N 0 - 1) ∧ (0 ≤ e ∧ e ≤ 99) ∧ (0 ≤ w ∧ w ≤ 5) → (N 5 = 6 → rv = some (0, -4) ∧ μ' = up μ 21 2 (μ 21 2 + 1)) ∧ (N 5 ≠ 6 → rv = some (0, N 5 + 1) ∧ Fs (μ 0 5) μ μ' ∧ SR σ μ' (μ 0 5) (rdN N v e w) t))) := by
  have hC := h.ct
  have hW := h.1.1
  have hSp := h.2.1.1
  have h29 : 22 ≤ μ 0 5 := h.2.2.2.2.2
  refine ZQ.i rfl ?_
  refine ZE.go hW 9999 rfl (by repeat' first | exact True.intro | assumption | apply And.intro | omega | (simp (disch := omega) only [up_n, up_e]; omega)) ?_
  refine ZE.c0 hW rfl rfl (Nat.le_of_ble_eq_true rfl) (Nat.le_of_ble_eq_true rfl) (k_c_isView (d := d + 1) hW rfl hSp hv (by omega)) ?_
  refine ZE.bp rfl rfl ?_ ?_ <;> intro g1
  · refine ZE.go hW 9999 rfl (by repeat' first | exact True.intro | assumption | apply And.intro | omega | (simp (disch := omega) only [up_n, up_e]; omega)) ?_
    refine ZE.c0 hW rfl rfl (Nat.le_of_ble_eq_true rfl) (Nat.le_of_ble_eq_true rfl) (k_c_refuse (d := d + 1) (x := -2) hW (by omega)) ?_
    refine ZE.ri rfl rfl ?_
    first
      | exact ⟨fun _ => ⟨rfl, rfl⟩, fun q => absurd q (by omega)⟩
      | exact ⟨fun q => absurd (by omega) q, fun _ => ⟨fun _ => ⟨rfl, rfl⟩, fun q => absurd (by omega) q⟩⟩
      | (refine ⟨fun q => absurd (by omega) q, fun _ => ⟨fun q => absurd q (by omega), fun _ => ⟨?_, fun k j p => ?_, ?_⟩⟩⟩
         · simp (disch := omega) only [up_n, up_e]
         · simp (disch := omega) only [up_n]
         · exact h.addD (by omega) (by omega) (by omega) (by omega))
  · refine ZE.go hW 9999 rfl (by repeat' first | exact True.intro | assumption | apply And.intro | omega | (simp (disch := omega) only [up_n, up_e]; omega)) ?_
    refine ZE.c0 hW rfl rfl (Nat.le_of_ble_eq_true rfl) (Nat.le_of_ble_eq_true rfl) (k_c_isEvening (d := d + 1) hW he) ?_
    refine ZE.bp rfl rfl ?_ ?_ <;> intro g2
    · refine ZE.go hW 9999 rfl (by repeat' first | exact True.intro | assumption | apply And.intro | omega | (simp (disch := omega) only [up_n, up_e]; omega)) ?_
      refine ZE.c0 hW rfl rfl (Nat.le_of_ble_eq_true rfl) (Nat.le_of_ble_eq_true rfl) (k_c_refuse (d := d + 1) (x := -2) hW (by omega)) ?_
      refine ZE.ri rfl rfl ?_
      first
        | exact ⟨fun _ => ⟨rfl, rfl⟩, fun q => absurd q (by omega)⟩
        | exact ⟨fun q => absurd (by omega) q, fun _ => ⟨fun _ => ⟨rfl, rfl⟩, fun q => absurd (by omega) q⟩⟩
        | (refine ⟨fun q => absurd (by omega) q, fun _ => ⟨fun q => absurd q (by omega), fun _ => ⟨?_, fun k j p => ?_, ?_⟩⟩⟩
           · simp (disch := omega) only [up_n, up_e]
           · simp (disch := omega) only [up_n]
           · exact h.addD (by omega) (by omega) (by omega) (by omega))
    · refine ZE.go hW 9999 rfl (by repeat' first | exact True.intro | assumption | apply And.intro | omega | (simp (disch := omega) only [up_n, up_e]; omega)) ?_
      refine ZE.c0 hW rfl rfl (Nat.le_of_ble_eq_true rfl) (Nat.le_of_ble_eq_true rfl) (k_c_isWeather (d := d + 1) hW hw) ?_
      refine ZE.bp rfl rfl ?_ ?_ <;> intro g3
      · refine ZE.go hW 9999 rfl (by repeat' first | exact True.intro | assumption | apply And.intro | omega | (simp (disch := omega) only [up_n, up_e]; omega)) ?_
        refine ZE.b rfl (by omega) (by omega) ?_ ?_ <;> intro g4
        · refine ZE.go hW 62 rfl (by repeat' first | exact True.intro | assumption | apply And.intro | omega | (simp (disch := omega) only [up_n, up_e]; omega)) ?_
          simp (disch := omega) only [up_n, hC.1.2.2.1]
          refine ZE.go hW 9999 rfl (by repeat' first | exact True.intro | assumption | apply And.intro | omega | (simp (disch := omega) only [up_n, up_e]; omega)) ?_
          refine ZE.ri rfl rfl ?_
          first
            | exact ⟨fun _ => ⟨rfl, rfl⟩, fun q => absurd q (by omega)⟩
            | exact ⟨fun q => absurd (by omega) q, fun _ => ⟨fun _ => ⟨rfl, rfl⟩, fun q => absurd (by omega) q⟩⟩
            | (refine ⟨fun q => absurd (by omega) q, fun _ => ⟨fun q => absurd q (by omega), fun _ => ⟨?_, fun k j p => ?_, ?_⟩⟩⟩
               · simp (disch := omega) only [up_n, up_e]
               · simp (disch := omega) only [up_n]
               · exact h.addD (by omega) (by omega) (by omega) (by omega))
        · refine ZE.go hW 9999 rfl (by repeat' first | exact True.intro | assumption | apply And.intro | omega | (simp (disch := omega) only [up_n, up_e]; omega)) ?_
          refine ZE.c0 hW rfl rfl (Nat.le_of_ble_eq_true rfl) (Nat.le_of_ble_eq_true rfl) (k_c_refuse (d := d + 1) (x := -4) hW (by omega)) ?_
          refine ZE.ri rfl rfl ?_
          first
            | exact ⟨fun _ => ⟨rfl, rfl⟩, fun q => absurd q (by omega)⟩
            | exact ⟨fun q => absurd (by omega) q, fun _ => ⟨fun _ => ⟨rfl, rfl⟩, fun q => absurd (by omega) q⟩⟩
            | (refine ⟨fun q => absurd (by omega) q, fun _ => ⟨fun q => absurd q (by omega), fun _ => ⟨?_, fun k j p => ?_, ?_⟩⟩⟩
               · simp (disch := omega) only [up_n, up_e]
               · simp (disch := omega) only [up_n]
               · exact h.addD (by omega) (by omega) (by omega) (by omega))
      · refine ZE.go hW 9999 rfl (by repeat' first | exact True.intro | assumption | apply And.intro | omega | (simp (disch := omega) only [up_n, up_e]; omega)) ?_
        refine ZE.c0 hW rfl rfl (Nat.le_of_ble_eq_true rfl) (Nat.le_of_ble_eq_true rfl) (k_c_refuse (d := d + 1) (x := -2) hW (by omega)) ?_
        refine ZE.ri rfl rfl ?_
        first
          | exact ⟨fun _ => ⟨rfl, rfl⟩, fun q => absurd q (by omega)⟩
          | exact ⟨fun q => absurd (by omega) q, fun _ => ⟨fun _ => ⟨rfl, rfl⟩, fun q => absurd (by omega) q⟩⟩
          | (refine ⟨fun q => absurd (by omega) q, fun _ => ⟨fun q => absurd q (by omega), fun _ => ⟨?_, fun k j p => ?_, ?_⟩⟩⟩
             · simp (disch := omega) only [up_n, up_e]
             · simp (disch := omega) only [up_n]
             · exact h.addD (by omega) (by omega) (by omega) (by omega))
set_option maxRecDepth 100000 in set_option maxHeartbeats 4000000 in theorem k_x_undo (h : SR σ μ (μ 0 5) N t) : ZQ ext (d + 3) n_X11_undo [(1000, 0)] σ μ (fun rv μ' => (N 6 = 0 → rv = some (0, -3) ∧ μ' = up μ 21 1 (μ 21 1 + 1)) ∧ (N 6 ≠ 0 → rv = some (0, unN N 3) ∧ Fs (μ 0 5) μ μ' ∧ SR σ μ' (μ 0 5) (unN N) t)) := by
  have hC := h.ct
  have hW := h.1.1
  have hSp := h.2.1.1
  have hBk := h.2.1.bk
  have h29 : 22 ≤ μ 0 5 := h.2.2.2.2.2
  refine ZQ.i rfl ?_
  refine ZE.go hW 9999 rfl (by repeat' first | exact True.intro | assumption | apply And.intro | omega | (simp (disch := omega) only [up_n, up_e]; omega)) ?_
  refine ZE.b0 rfl (by omega) ?_ ?_ <;> intro g1
  · refine ZE.go hW 9999 rfl (by repeat' first | exact True.intro | assumption | apply And.intro | omega | (simp (disch := omega) only [up_n, up_e]; omega)) ?_
    refine ZE.q1 hW rfl rfl (by repeat' first | exact True.intro | assumption | apply And.intro | omega | (simp (disch := omega) only [up_n, up_e]; omega)) (Nat.le_of_ble_eq_true rfl) (Nat.le_of_ble_eq_true rfl) (k_c_goBack (d := d) h (by omega)) ?_
    rintro rv9 μ1 ⟨rfl, hf, h1⟩
    have e7 : μ1 0 5 = μ 0 5 := hf 0 5 (by omega)
    have c1 := h1.ct
    refine ZE.go hW 28 rfl (by repeat' first | exact True.intro | assumption | apply And.intro | omega | (simp (disch := omega) only [up_n, up_e]; omega)) ?_
    rw [e7]
    refine ZE.go hW 9999 rfl (by repeat' first | exact True.intro | assumption | apply And.intro | omega | (simp (disch := omega) only [up_n, up_e]; omega)) ?_
    refine ZE.ri rfl rfl ?_
    first
      | exact ⟨fun _ => ⟨rfl, rfl⟩, fun q => absurd (by omega) q⟩
      | (refine ⟨fun q => absurd q (by omega), fun _ => ⟨?_, hf, h1⟩⟩
         rw [c1.2.1.2.1])
  · refine ZE.go hW 9999 rfl (by repeat' first | exact True.intro | assumption | apply And.intro | omega | (simp (disch := omega) only [up_n, up_e]; omega)) ?_
    refine ZE.c0 hW rfl rfl (Nat.le_of_ble_eq_true rfl) (Nat.le_of_ble_eq_true rfl) (k_c_refuse (d := d + 1) (x := -3) hW (by omega)) ?_
    refine ZE.ri rfl rfl ?_
    first
      | exact ⟨fun _ => ⟨rfl, rfl⟩, fun q => absurd (by omega) q⟩
      | (refine ⟨fun q => absurd q (by omega), fun _ => ⟨?_, hf, h1⟩⟩
         rw [c1.2.1.2.1])
end
