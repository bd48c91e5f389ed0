section
variable {ext : List xC} {σ : zSh} {d : Nat} {μ : zM} {t : Int} {N : Int → Int}
set_option maxRecDepth 100000 in set_option maxHeartbeats 4000000 in theorem k_x_more {e w p x : Int} (h : SR σ μ (μ 0 5) N t) (he : zrng e) (hw : zrng w) (hp : zrng p) (ha : zrng x) : ZQ ext (d + 5) n_X11_more [(1000, 0), (0, e), (0, w), (0, p), (0, x)] σ μ (fun rv μ' =>
    (¬ ((0 ≤ e ∧ e ≤ 99) ∧ (1 ≤ w ∧ w ≤ 9) ∧ (0 ≤ p ∧ p ≤ 999) ∧ (0 ≤ x ∧ x ≤ 6)) → rv = some (0, -2) ∧ μ' = up μ 21 0 (μ 21 0 + 1)) ∧
    ((0 ≤ e ∧ e ≤ 99) ∧ (1 ≤ w ∧ w ≤ 9) ∧ (0 ≤ p ∧ p ≤ 999) ∧ (0 ≤ x ∧ x ≤ 6) → (N 1 = 6 → rv = some (0, -3) ∧ μ' = up μ 21 1 (μ 21 1 + 1)) ∧ (N 1 ≠ 6 → rv = some (0, Mn1 N e w p x / 10000 - Bn N e / 10000) ∧ Cq μ μ'))) := by
  have hC := h.ct
  have hW := h.1.1
  have hSp := h.2.1.1
  have hN := h.2.2.2.1
  have h29 : 22 ≤ μ 0 5 := h.2.2.2.2.2
  refine ZQ.i rfl ?_
  refine ZE.go hW 9999 rfl (by repeat' first | exact True.intro | assumption | apply And.intro | omega | (simp (disch := omega) only [up_n, up_e]; omega)) ?_
  refine ZE.c0 hW rfl rfl (Nat.le_of_ble_eq_true rfl) (Nat.le_of_ble_eq_true rfl) (k_c_isEvening (d := d + 3) hW he) ?_
  refine ZE.bp rfl rfl ?_ ?_ <;> intro g1
  · refine ZE.go hW 9999 rfl (by repeat' first | exact True.intro | assumption | apply And.intro | omega | (simp (disch := omega) only [up_n, up_e]; omega)) ?_
    refine ZE.c0 hW rfl rfl (Nat.le_of_ble_eq_true rfl) (Nat.le_of_ble_eq_true rfl) (k_c_refuse (d := d + 3) (x := -2) hW (by omega)) ?_
    refine ZE.ri rfl rfl ?_
    first
      | exact ⟨fun _ => ⟨rfl, rfl⟩, fun q => absurd q (by omega)⟩
      | exact ⟨fun q => absurd (by omega) q, fun _ => ⟨fun _ => ⟨rfl, rfl⟩, fun q => absurd (by omega) q⟩⟩
      | exact ⟨fun q => absurd (by omega) q, fun _ => ⟨fun q => absurd q (by omega), fun _ => ⟨rfl, hf5.q⟩⟩⟩
  · refine ZE.go hW 9999 rfl (by repeat' first | exact True.intro | assumption | apply And.intro | omega | (simp (disch := omega) only [up_n, up_e]; omega)) ?_
    refine ZE.c0 hW rfl rfl (Nat.le_of_ble_eq_true rfl) (Nat.le_of_ble_eq_true rfl) (k_c_isRenterTold (d := d + 3) hW hw hp ha) ?_
    refine ZE.bp rfl rfl ?_ ?_ <;> intro g2
    · refine ZE.go hW 9999 rfl (by repeat' first | exact True.intro | assumption | apply And.intro | omega | (simp (disch := omega) only [up_n, up_e]; omega)) ?_
      refine ZE.b rfl (by omega) (by omega) ?_ ?_ <;> intro g3
      · refine ZE.go hW 9999 rfl (by repeat' first | exact True.intro | assumption | apply And.intro | omega | (simp (disch := omega) only [up_n, up_e]; omega)) ?_
        refine ZE.q0 hW rfl rfl (Nat.le_of_ble_eq_true rfl) (Nat.le_of_ble_eq_true rfl) (k_c_open (d := d) h (e := e) (by omega)) ?_
        rintro rv9 μ1 ⟨rfl, hf, hO⟩
        have h16 := (h.cf hf).1.2
        have h0 := hO.c0 hN h16
        have hB := cB_rng h0 (k := (N 1).toNat) (by omega) 0 (zshl 1 (N 0) - 1)
        rw [hO.B hN] at hB
        refine ZE.go hW 9999 rfl (by repeat' first | exact True.intro | assumption | apply And.intro | omega | (simp (disch := omega) only [up_n, up_e]; omega)) ?_
        refine ZE.q0 hW rfl rfl (Nat.le_of_ble_eq_true rfl) (Nat.le_of_ble_eq_true rfl) (k_c_solve (d := d + 2) hW h0) ?_
        rintro rv9 μ2 ⟨rfl, hf2, hT⟩
        rw [hO.B hN]
        have hf3 : Cf μ μ2 := hf.trans (fun k j p q => hf2 k j (by omega))
        have h2 := h.cf hf3
        have e7 : μ2 0 5 = μ 0 5 := hf3 0 5 (by omega) (by omega)
        have hO2 : Op μ2 N e (N 1) := ⟨by rw [hf2 5 0 (by omega)]; exact hO.1.1, by rw [hf2 5 1 (by omega)]; exact hO.1.2.1, fun v p q => by rw [hf2 7 v (by omega), hf2 8 v (by omega)]; exact hO.1.2.2 v p q⟩
        refine ZE.go hW 9999 rfl (by repeat' first | exact True.intro | assumption | apply And.intro | omega | (simp (disch := omega) only [up_n, up_e]; omega)) ?_
        rw [e7]
        refine ZE.c0 hW rfl rfl (Nat.le_of_ble_eq_true rfl) (Nat.le_of_ble_eq_true rfl) (k_c_addRenter (d := d + 1) h2 hO2 (by omega) (by omega) (by omega) (by omega) (by omega)) ?_
        refine ZE.gen (fun m => m = up (up μ2 6 (N 1) (mk1 N e w p x)) 5 1 (N 1 + 1)) rfl ?_
        intro m hm
        have hs13 : ∀ r, 0 ≤ r → r < N 1 + 1 → m 6 r = sM N e (cN N) (ex1 (wlN N) (N 1) w) (ex1 (puN N) (N 1) p) (ex1 (waN N) (N 1) x) r := by
          intro r y z
          by_cases er : r = N 1
          · subst er
            rw [hm, up_n (by omega), up_e rfl rfl]
            unfold sM sG
            simp only [ex1_s]
            rfl
          · rw [hm, up_n (by omega), up_n (by omega), hf2 6 r (by omega), hO.2 r y (by omega)]
            exact sM_cg h0.1.2.1 (fun _ _ _ => rfl) (ex1_o er).symm (ex1_o er).symm (ex1_o er).symm
        have hs14 : ∀ v, 0 ≤ v → v < N 0 → m 7 v = cN N v := fun v y z => by rw [hm, up_n (by omega), up_n (by omega)]; exact (hO2.2.2 v y z).1
        have hm0 : Cn0 m (N 0) (N 1 + 1) := by
          refine ⟨⟨?_, h0.1.2⟩, ⟨?_, by omega⟩, fun v y z => ?_, fun r y z => ?_, fun r y z => ?_⟩
          · rw [hm, up_n (by omega), up_n (by omega)]; exact hO2.1
          · rw [hm, up_s]
          · rw [hs14 v y z]; exact cN_rng hN ⟨y, z⟩
          · rw [hs13 r y z]
            exact (mkm_SM (P := sG N e (cN N) (ex1 (wlN N) (N 1) w) (ex1 (puN N) (N 1) p) (ex1 (waN N) (N 1) x) r) (N 0).toNat (by omega)).1
          · rw [hm, up_n (by omega), up_n (by omega)]; exact h2.1.2 r y z
        have eM : (cB m (N 0) (N 1 + 1).toNat 0 (zshl 1 (N 0) - 1)).1 = Mn1 N e w p x := by
          unfold cB Mn1 gB
          rw [bB_cg (c' := cN N) (s' := sM N e (cN N) (ex1 (wlN N) (N 1) w) (ex1 (puN N) (N 1) p) (ex1 (waN N) (N 1) x)) (fun v y z => hs14 v y (by omega)) _ _ _ (fun j y z => hs13 j y (by omega))]
        have hMr := cB_rng hm0 (k := (N 1 + 1).toNat) (by omega) 0 (zshl 1 (N 0) - 1)
        rw [eM] at hMr
        refine ZE.go hW 9999 rfl (by repeat' first | exact True.intro | assumption | apply And.intro | omega | (simp (disch := omega) only [up_n, up_e]; omega)) ?_
        refine ZE.q0 hW rfl rfl (Nat.le_of_ble_eq_true rfl) (Nat.le_of_ble_eq_true rfl) (k_c_solve (d := d + 2) hW hm0) ?_
        rintro rv9 μ4 ⟨rfl, hf4, hT4⟩
        rw [eM]
        have hf5 : Cf μ μ4 := hf3.trans (fun k j p q => by rw [hf4 k j (by omega), hm, up_n (by omega), up_n (by omega)])
        refine ZE.go hW 9999 rfl (by repeat' first | exact True.intro | assumption | apply And.intro | omega | (simp (disch := omega) only [up_n, up_e]; omega)) ?_
        refine ZE.ri rfl rfl ?_
        first
          | exact ⟨fun _ => ⟨rfl, rfl⟩, fun q => absurd q (by omega)⟩
          | exact ⟨fun q => absurd (by omega) q, fun _ => ⟨fun _ => ⟨rfl, rfl⟩, fun q => absurd (by omega) q⟩⟩
          | exact ⟨fun q => absurd (by omega) q, fun _ => ⟨fun q => absurd q (by omega), fun _ => ⟨rfl, hf5.q⟩⟩⟩
      · refine ZE.go hW 9999 rfl (by repeat' first | exact True.intro | assumption | apply And.intro | omega | (simp (disch := omega) only [up_n, up_e]; omega)) ?_
        refine ZE.c0 hW rfl rfl (Nat.le_of_ble_eq_true rfl) (Nat.le_of_ble_eq_true rfl) (k_c_refuse (d := d + 3) (x := -3) hW (by omega)) ?_
        refine ZE.ri rfl rfl ?_
        first
          | exact ⟨fun _ => ⟨rfl, rfl⟩, fun q => absurd q (by omega)⟩
          | exact ⟨fun q => absurd (by omega) q, fun _ => ⟨fun _ => ⟨rfl, rfl⟩, fun q => absurd (by omega) q⟩⟩
          | exact ⟨fun q => absurd (by omega) q, fun _ => ⟨fun q => absurd q (by omega), fun _ => ⟨rfl, hf5.q⟩⟩⟩
    · refine ZE.go hW 9999 rfl (by repeat' first | exact True.intro | assumption | apply And.intro | omega | (simp (disch := omega) only [up_n, up_e]; omega)) ?_
      refine ZE.c0 hW rfl rfl (Nat.le_of_ble_eq_true rfl) (Nat.le_of_ble_eq_true rfl) (k_c_refuse (d := d + 3) (x := -2) hW (by omega)) ?_
      refine ZE.ri rfl rfl ?_
      first
        | exact ⟨fun _ => ⟨rfl, rfl⟩, fun q => absurd q (by omega)⟩
        | exact ⟨fun q => absurd (by omega) q, fun _ => ⟨fun _ => ⟨rfl, rfl⟩, fun q => absurd (by omega) q⟩⟩
        | exact ⟨fun q => absurd (by omega) q, fun _ => ⟨fun q => absurd q (by omega), fun _ => ⟨rfl, hf5.q⟩⟩⟩
set_option maxRecDepth 100000 in set_option maxHeartbeats 4000000 in theorem k_x_air {r : Int} (h : SR σ μ (μ 0 5) N t) (ht : t ≤ 100) (hr : zrng r) : ZQ ext (d + 6) n_X11_air [(1000, 0), (0, r)] σ μ (Qc (opN N r) (-2) (airN N r) μ) := by
  have hC := h.ct
  have hW := h.1.1
  have hSp := h.2.1.1
  have eo : opN N r ↔ (0 ≤ r ∧ r ≤ N 1 - 1) ∧ (0 ≤ zxor r 1 ∧ zxor r 1 ≤ N 1 - 1) := Iff.rfl
  refine ZQ.i rfl ?_
  refine ZE.go hW 9999 rfl (by repeat' first | exact True.intro | assumption | apply And.intro | omega | (simp (disch := omega) only [up_n, up_e]; omega)) ?_
  refine ZE.c0 hW rfl rfl (Nat.le_of_ble_eq_true rfl) (Nat.le_of_ble_eq_true rfl) (k_c_isPair (d := d + 3) hW rfl hSp hr (by omega)) ?_
  rw [hC.1.2.1]
  refine ZE.bp rfl rfl ?_ ?_ <;> intro g1
  · refine ZE.go hW 9999 rfl (by repeat' first | exact True.intro | assumption | apply And.intro | omega | (simp (disch := omega) only [up_n, up_e]; omega)) ?_
    refine ZE.c1 hW rfl rfl (by repeat' first | exact True.intro | assumption | apply And.intro | omega | (simp (disch := omega) only [up_n, up_e]; omega)) (Nat.le_of_ble_eq_true rfl) (Nat.le_of_ble_eq_true rfl) (k_c_airNow (d := d) h ht (by omega) (by omega)) ?_
    refine ZE.ri rfl rfl ?_
    first
      | exact Qc.b g1 rfl
      | exact Qc.y g1 rfl Cq.rfl'
  · refine ZE.go hW 9999 rfl (by repeat' first | exact True.intro | assumption | apply And.intro | omega | (simp (disch := omega) only [up_n, up_e]; omega)) ?_
    refine ZE.c0 hW rfl rfl (Nat.le_of_ble_eq_true rfl) (Nat.le_of_ble_eq_true rfl) (k_c_refuse (d := d + 4) (x := -2) hW (by omega)) ?_
    refine ZE.ri rfl rfl ?_
    first
      | exact Qc.b g1 rfl
      | exact Qc.y g1 rfl Cq.rfl'
theorem zxor_even {r : Int} (hr : 0 ≤ r ∧ r < 6) : (r % 2 = 0 → zxor r 1 = r + 1) ∧ (zand r 1 = r % 2) := by
  have key : ∀ r, r < 6 → (((r : Nat) : Int) % 2 = 0 → zxor ((r : Nat) : Int) 1 = ((r : Nat) : Int) + 1) ∧ zand ((r : Nat) : Int) 1 = ((r : Nat) : Int) % 2 := by decide +kernel
  obtain ⟨x, rfl, hx⟩ := toN hr.1 hr.2
  exact key x (by omega)
theorem brN_rng {r w : Int} (hN : NI N t) : -1 ≤ brN N r w ∧ brN N r w < 1000 := by
  have h0 := hN.1
  have hg : ∀ x y, 0 ≤ x → x < 6 → 0 ≤ y → y < 6 → -1 ≤ brg N r w x y ∧ brg N r w x y < 1000 := by
    intro x y a b c d
    by_cases hok : brok N r w x y
    · rw [brg_t hok]
      have := brch_rng (N := N) (r := r) (x := x) (y := y)
      omega
    · rw [brg_f hok]; omega
  have inner : ∀ (x : Int), 0 ≤ x → x < 6 → ∀ (q : Nat) (y l : Int), 0 ≤ y → y + q ≤ 6 → (-1 ≤ l ∧ l < 1000) → -1 ≤ brI (brg N r w x) q y l ∧ brI (brg N r w x) q y l < 1000 := by
    intro x hx hx2 q
    induction q with
    | zero => intro y l _ _ hl; exact hl
    | succ q ih =>
      intro y l hy hq hl
      show -1 ≤ brI (brg N r w x) q (y + 1) _ ∧ brI (brg N r w x) q (y + 1) _ < 1000
      refine ih (y + 1) _ (by omega) (by omega) ?_
      have := hg x y hx hx2 hy (by omega)
      repeat' split
      all_goals omega
  have outer : ∀ (q : Nat) (x l : Int), 0 ≤ x → x + q ≤ 6 → (-1 ≤ l ∧ l < 1000) → -1 ≤ brO (brg N r w) (N 0).toNat q x l ∧ brO (brg N r w) (N 0).toNat q x l < 1000 := by
    intro q
    induction q with
    | zero => intro x l _ _ hl; exact hl
    | succ q ih =>
      intro x l hx hq hl
      show -1 ≤ brO (brg N r w) (N 0).toNat q (x + 1) _ ∧ brO (brg N r w) (N 0).toNat q (x + 1) _ < 1000
      exact ih (x + 1) _ (by omega) (by omega) (inner x hx (by omega) _ 0 l (by omega) (by omega) hl)
  exact outer _ 0 (-1) (by omega) (by omega) (by omega)
set_option maxRecDepth 100000 in set_option maxHeartbeats 4000000 in theorem k_x_bring {r w x : Int} (h : SR σ μ (μ 0 5) N t) (ht : t ≤ 100) (hr : zrng r) (hw : zrng w) (hx : zrng x) : ZQ ext (d + 6) n_X11_bring [(1000, 0), (0, r), (0, w), (0, x)] σ μ (Qc (opN N r ∧ r % 2 ≠ 1 ∧ (0 ≤ w ∧ w ≤ 5) ∧ (0 ≤ x ∧ x ≤ 1)) (-2) (if brN N r w = -1 then -1 else if x = 0 then brN N r w / 100 else brN N r w % 100) μ) := by
  have hC := h.ct
  have hW := h.1.1
  have hSp := h.2.1.1
  have hN := h.2.2.2.1
  have hb := brN_rng (r := r) (w := w) hN
  have eo : opN N r ↔ (0 ≤ r ∧ r ≤ N 1 - 1) ∧ (0 ≤ zxor r 1 ∧ zxor r 1 ≤ N 1 - 1) := Iff.rfl
  refine ZQ.i rfl ?_
  refine ZE.go hW 9999 rfl (by repeat' first | exact True.intro | assumption | apply And.intro | omega | (simp (disch := omega) only [up_n, up_e]; omega)) ?_
  refine ZE.c0 hW rfl rfl (Nat.le_of_ble_eq_true rfl) (Nat.le_of_ble_eq_true rfl) (k_c_isPair (d := d + 3) hW rfl hSp hr (by omega)) ?_
  rw [hC.1.2.1]
  refine ZE.bp rfl rfl ?_ ?_ <;> intro g1
  · refine ZE.go hW 9999 rfl (by repeat' first | exact True.intro | assumption | apply And.intro | omega | (simp (disch := omega) only [up_n, up_e]; omega)) ?_
    refine ZE.c0 hW rfl rfl (Nat.le_of_ble_eq_true rfl) (Nat.le_of_ble_eq_true rfl) (k_c_refuse (d := d + 4) (x := -2) hW (by omega)) ?_
    refine ZE.ri rfl rfl ?_
    first
      | exact Qc.b (fun q => g1 q.1) rfl
      | exact Qc.b (fun q => absurd q.2 (by omega)) rfl
      | exact Qc.y ⟨g1, by omega⟩ (by rw [if_pos (by omega)]) Cq.rfl'
      | exact Qc.y ⟨g1, by omega⟩ (by rw [if_neg (by omega), if_pos (by omega)]) Cq.rfl'
      | exact Qc.y ⟨g1, by omega⟩ (by rw [if_neg (by omega), if_neg (by omega)]) Cq.rfl'
  · have ze := zxor_even (r := r) (by omega)
    refine ZE.go hW 9999 rfl (by repeat' first | exact True.intro | assumption | apply And.intro | omega | (simp (disch := omega) only [up_n, up_e]; omega)) ?_
    refine ZE.b0 rfl (by omega) ?_ ?_ <;> intro g2
    · refine ZE.go hW 9999 rfl (by repeat' first | exact True.intro | assumption | apply And.intro | omega | (simp (disch := omega) only [up_n, up_e]; omega)) ?_
      refine ZE.c0 hW rfl rfl (Nat.le_of_ble_eq_true rfl) (Nat.le_of_ble_eq_true rfl) (k_c_refuse (d := d + 4) (x := -2) hW (by omega)) ?_
      refine ZE.ri rfl rfl ?_
      first
        | exact Qc.b (fun q => g1 q.1) rfl
        | exact Qc.b (fun q => absurd q.2 (by omega)) rfl
        | exact Qc.y ⟨g1, by omega⟩ (by rw [if_pos (by omega)]) Cq.rfl'
        | exact Qc.y ⟨g1, by omega⟩ (by rw [if_neg (by omega), if_pos (by omega)]) Cq.rfl'
        | exact Qc.y ⟨g1, by omega⟩ (by rw [if_neg (by omega), if_neg (by omega)]) Cq.rfl'
    · refine ZE.go hW 9999 rfl (by repeat' first | exact True.intro | assumption | apply And.intro | omega | (simp (disch := omega) only [up_n, up_e]; omega)) ?_
      refine ZE.c0 hW rfl rfl (Nat.le_of_ble_eq_true rfl) (Nat.le_of_ble_eq_true rfl) (k_c_isWeather (d := d + 4) hW hw) ?_
      refine ZE.bp rfl rfl ?_ ?_ <;> intro g3
      · refine ZE.go hW 9999 rfl (by repeat' first | exact True.intro | assumption | apply And.intro | omega | (simp (disch := omega) only [up_n, up_e]; omega)) ?_
        refine ZE.c0 hW rfl rfl (Nat.le_of_ble_eq_true rfl) (Nat.le_of_ble_eq_true rfl) (k_c_refuse (d := d + 4) (x := -2) hW (by omega)) ?_
        refine ZE.ri rfl rfl ?_
        first
          | exact Qc.b (fun q => g1 q.1) rfl
          | exact Qc.b (fun q => absurd q.2 (by omega)) rfl
          | exact Qc.y ⟨g1, by omega⟩ (by rw [if_pos (by omega)]) Cq.rfl'
          | exact Qc.y ⟨g1, by omega⟩ (by rw [if_neg (by omega), if_pos (by omega)]) Cq.rfl'
          | exact Qc.y ⟨g1, by omega⟩ (by rw [if_neg (by omega), if_neg (by omega)]) Cq.rfl'
      · refine ZE.go hW 9999 rfl (by repeat' first | exact True.intro | assumption | apply And.intro | omega | (simp (disch := omega) only [up_n, up_e]; omega)) ?_
        refine ZE.c0 hW rfl rfl (Nat.le_of_ble_eq_true rfl) (Nat.le_of_ble_eq_true rfl) (k_c_within (d := d + 5) hW hx (by omega) (by omega)) ?_
        refine ZE.bp rfl rfl ?_ ?_ <;> intro g4
        · refine ZE.go hW 9999 rfl (by repeat' first | exact True.intro | assumption | apply And.intro | omega | (simp (disch := omega) only [up_n, up_e]; omega)) ?_
          refine ZE.c1 hW rfl rfl (by repeat' first | exact True.intro | assumption | apply And.intro | omega | (simp (disch := omega) only [up_n, up_e]; omega)) (Nat.le_of_ble_eq_true rfl) (Nat.le_of_ble_eq_true rfl) (k_c_fewestForAir (d := d) h ht (by omega) (by omega)) ?_
          refine ZE.go hW 9999 rfl (by repeat' first | exact True.intro | assumption | apply And.intro | omega | (simp (disch := omega) only [up_n, up_e]; omega)) ?_
          refine ZE.b rfl (by omega) (by omega) ?_ ?_ <;> intro g5
          · refine ZE.go hW 9999 rfl (by repeat' first | exact True.intro | assumption | apply And.intro | omega | (simp (disch := omega) only [up_n, up_e]; omega)) ?_
            refine ZE.b0 rfl (by omega) ?_ ?_ <;> intro g6
            · refine ZE.go hW 9999 rfl (by repeat' first | exact True.intro | assumption | apply And.intro | omega | (simp (disch := omega) only [up_n, up_e]; omega)) ?_
              refine ZE.ri rfl rfl ?_
              first
                | exact Qc.b (fun q => g1 q.1) rfl
                | exact Qc.b (fun q => absurd q.2 (by omega)) rfl
                | exact Qc.y ⟨g1, by omega⟩ (by rw [if_pos (by omega)]) Cq.rfl'
                | exact Qc.y ⟨g1, by omega⟩ (by rw [if_neg (by omega), if_pos (by omega)]) Cq.rfl'
                | exact Qc.y ⟨g1, by omega⟩ (by rw [if_neg (by omega), if_neg (by omega)]) Cq.rfl'
            · refine ZE.go hW 9999 rfl (by repeat' first | exact True.intro | assumption | apply And.intro | omega | (simp (disch := omega) only [up_n, up_e]; omega)) ?_
              refine ZE.ri rfl rfl ?_
              first
                | exact Qc.b (fun q => g1 q.1) rfl
                | exact Qc.b (fun q => absurd q.2 (by omega)) rfl
                | exact Qc.y ⟨g1, by omega⟩ (by rw [if_pos (by omega)]) Cq.rfl'
                | exact Qc.y ⟨g1, by omega⟩ (by rw [if_neg (by omega), if_pos (by omega)]) Cq.rfl'
                | exact Qc.y ⟨g1, by omega⟩ (by rw [if_neg (by omega), if_neg (by omega)]) Cq.rfl'
          · refine ZE.go hW 9999 rfl (by repeat' first | exact True.intro | assumption | apply And.intro | omega | (simp (disch := omega) only [up_n, up_e]; omega)) ?_
            refine ZE.ri rfl rfl ?_
            first
              | exact Qc.b (fun q => g1 q.1) rfl
              | exact Qc.b (fun q => absurd q.2 (by omega)) rfl
              | exact Qc.y ⟨g1, by omega⟩ (by rw [if_pos (by omega)]) Cq.rfl'
              | exact Qc.y ⟨g1, by omega⟩ (by rw [if_neg (by omega), if_pos (by omega)]) Cq.rfl'
              | exact Qc.y ⟨g1, by omega⟩ (by rw [if_neg (by omega), if_neg (by omega)]) Cq.rfl'
        · refine ZE.go hW 9999 rfl (by repeat' first | exact True.intro | assumption | apply And.intro | omega | (simp (disch := omega) only [up_n, up_e]; omega)) ?_
          refine ZE.c0 hW rfl rfl (Nat.le_of_ble_eq_true rfl) (Nat.le_of_ble_eq_true rfl) (k_c_refuse (d := d + 4) (x := -2) hW (by omega)) ?_
          refine ZE.ri rfl rfl ?_
          first
            | exact Qc.b (fun q => g1 q.1) rfl
            | exact Qc.b (fun q => absurd q.2 (by omega)) rfl
            | exact Qc.y ⟨g1, by omega⟩ (by rw [if_pos (by omega)]) Cq.rfl'
            | exact Qc.y ⟨g1, by omega⟩ (by rw [if_neg (by omega), if_pos (by omega)]) Cq.rfl'
            | exact Qc.y ⟨g1, by omega⟩ (by rw [if_neg (by omega), if_neg (by omega)]) Cq.rfl'
set_option maxRecDepth 100000 in set_option maxHeartbeats 4000000 in theorem k_x_left {v n w : Int} (h : SR σ μ (μ 0 5) N t) (ht : t ≤ 100) (hv : zrng v) (hn : zrng n) (hw : zrng w) : ZQ ext (d + 3) n_X11_left [(1000, 0), (0, v), (0, n), (0, w)] σ μ (Qc ((0 ≤ v ∧ v ≤ N 0 - 1) ∧ (0 ≤ n ∧ n ≤ 7) ∧ zand (zshr (N (7 + 6 * v + 5)) n) 1 ≠ 0 ∧ (0 ≤ w ∧ w ≤ 1)) (-10) (if w = 0 then lfW N v (N 4).toNat 0 0 else lfE N v (N 4).toNat 0 (-1)) μ) := by
  have hC := h.ct
  have hW := h.1.1
  have hSp := h.2.1.1
  have hBk := h.2.1.bk
  refine ZQ.i rfl ?_
  refine ZE.go hW 9999 rfl (by repeat' first | exact True.intro | assumption | apply And.intro | omega | (simp (disch := omega) only [up_n, up_e]; omega)) ?_
  refine ZE.c0 hW rfl rfl (Nat.le_of_ble_eq_true rfl) (Nat.le_of_ble_eq_true rfl) (k_c_isView (d := d + 1) hW rfl hSp hv (by omega)) ?_
  refine ZE.bp rfl rfl ?_ ?_ <;> intro g1
  · refine ZE.go hW 9999 rfl (by repeat' first | exact True.intro | assumption | apply And.intro | omega | (simp (disch := omega) only [up_n, up_e]; omega)) ?_
    refine ZE.c0 hW rfl rfl (Nat.le_of_ble_eq_true rfl) (Nat.le_of_ble_eq_true rfl) (k_c_refuseApart (d := d) hW) ?_
    refine ZE.ri rfl rfl ?_
    first
      | exact Qc.b (fun q => absurd q.1 (by omega)) rfl
      | exact Qc.b (fun q => absurd q.2.1 (by omega)) rfl
      | exact Qc.b (fun q => absurd q.2.2.2 (by omega)) rfl
      | exact Qc.b (fun q => q.2.2.1 g4) rfl
      | exact Qc.y ⟨by omega, by omega, g4, by omega⟩ (by rw [if_pos (by omega)]) Cq.rfl'
      | exact Qc.y ⟨by omega, by omega, g4, by omega⟩ (by rw [if_neg (by omega)]) Cq.rfl'
  · refine ZE.go hW 9999 rfl (by repeat' first | exact True.intro | assumption | apply And.intro | omega | (simp (disch := omega) only [up_n, up_e]; omega)) ?_
    refine ZE.c0 hW rfl rfl (Nat.le_of_ble_eq_true rfl) (Nat.le_of_ble_eq_true rfl) (k_c_within (d := d + 2) hW hn (by omega) (by omega)) ?_
    refine ZE.bp rfl rfl ?_ ?_ <;> intro g2
    · refine ZE.go hW 9999 rfl (by repeat' first | exact True.intro | assumption | apply And.intro | omega | (simp (disch := omega) only [up_n, up_e]; omega)) ?_
      refine ZE.c0 hW rfl rfl (Nat.le_of_ble_eq_true rfl) (Nat.le_of_ble_eq_true rfl) (k_c_refuseApart (d := d) hW) ?_
      refine ZE.ri rfl rfl ?_
      first
        | exact Qc.b (fun q => absurd q.1 (by omega)) rfl
        | exact Qc.b (fun q => absurd q.2.1 (by omega)) rfl
        | exact Qc.b (fun q => absurd q.2.2.2 (by omega)) rfl
        | exact Qc.b (fun q => q.2.2.1 g4) rfl
        | exact Qc.y ⟨by omega, by omega, g4, by omega⟩ (by rw [if_pos (by omega)]) Cq.rfl'
        | exact Qc.y ⟨by omega, by omega, g4, by omega⟩ (by rw [if_neg (by omega)]) Cq.rfl'
    · refine ZE.go hW 9999 rfl (by repeat' first | exact True.intro | assumption | apply And.intro | omega | (simp (disch := omega) only [up_n, up_e]; omega)) ?_
      refine ZE.c0 hW rfl rfl (Nat.le_of_ble_eq_true rfl) (Nat.le_of_ble_eq_true rfl) (k_c_within (d := d + 2) hW hw (by omega) (by omega)) ?_
      refine ZE.bp rfl rfl ?_ ?_ <;> intro g3
      · refine ZE.go hW 9999 rfl (by repeat' first | exact True.intro | assumption | apply And.intro | omega | (simp (disch := omega) only [up_n, up_e]; omega)) ?_
        refine ZE.c0 hW rfl rfl (Nat.le_of_ble_eq_true rfl) (Nat.le_of_ble_eq_true rfl) (k_c_refuseApart (d := d) hW) ?_
        refine ZE.ri rfl rfl ?_
        first
          | exact Qc.b (fun q => absurd q.1 (by omega)) rfl
          | exact Qc.b (fun q => absurd q.2.1 (by omega)) rfl
          | exact Qc.b (fun q => absurd q.2.2.2 (by omega)) rfl
          | exact Qc.b (fun q => q.2.2.1 g4) rfl
          | exact Qc.y ⟨by omega, by omega, g4, by omega⟩ (by rw [if_pos (by omega)]) Cq.rfl'
          | exact Qc.y ⟨by omega, by omega, g4, by omega⟩ (by rw [if_neg (by omega)]) Cq.rfl'
      · have hVv := h.vw (v := v) (by omega)
        refine ZE.go hW 9999 rfl (by repeat' first | exact True.intro | assumption | apply And.intro | omega | (simp (disch := omega) only [up_n, up_e]; omega)) ?_
        rw [hVv.1.2.2.2.2]
        refine ZE.b0 rfl (bt_rng (by omega) (by omega)) ?_ ?_ <;> intro g4
        · refine ZE.go hW 9999 rfl (by repeat' first | exact True.intro | assumption | apply And.intro | omega | (simp (disch := omega) only [up_n, up_e]; omega)) ?_
          refine ZE.b0 rfl (by omega) ?_ ?_ <;> intro g5
          · refine ZE.go hW 9999 rfl (by repeat' first | exact True.intro | assumption | apply And.intro | omega | (simp (disch := omega) only [up_n, up_e]; omega)) ?_
            refine ZE.c1 hW rfl rfl (by repeat' first | exact True.intro | assumption | apply And.intro | omega | (simp (disch := omega) only [up_n, up_e]; omega)) (Nat.le_of_ble_eq_true rfl) (Nat.le_of_ble_eq_true rfl) (k_c_firstEveningOf (d := d + 2) h ht (by omega)) ?_
            refine ZE.ri rfl rfl ?_
            first
              | exact Qc.b (fun q => absurd q.1 (by omega)) rfl
              | exact Qc.b (fun q => absurd q.2.1 (by omega)) rfl
              | exact Qc.b (fun q => absurd q.2.2.2 (by omega)) rfl
              | exact Qc.b (fun q => q.2.2.1 g4) rfl
              | exact Qc.y ⟨by omega, by omega, g4, by omega⟩ (by rw [if_pos (by omega)]) Cq.rfl'
              | exact Qc.y ⟨by omega, by omega, g4, by omega⟩ (by rw [if_neg (by omega)]) Cq.rfl'
          · refine ZE.go hW 9999 rfl (by repeat' first | exact True.intro | assumption | apply And.intro | omega | (simp (disch := omega) only [up_n, up_e]; omega)) ?_
            refine ZE.c1 hW rfl rfl (by repeat' first | exact True.intro | assumption | apply And.intro | omega | (simp (disch := omega) only [up_n, up_e]; omega)) (Nat.le_of_ble_eq_true rfl) (Nat.le_of_ble_eq_true rfl) (k_c_rentersWhoHad (d := d + 2) h ht (by omega)) ?_
            refine ZE.go hW 9999 rfl (by repeat' first | exact True.intro | assumption | apply And.intro | omega | (simp (disch := omega) only [up_n, up_e]; omega)) ?_
            refine ZE.ri rfl rfl ?_
            first
              | exact Qc.b (fun q => absurd q.1 (by omega)) rfl
              | exact Qc.b (fun q => absurd q.2.1 (by omega)) rfl
              | exact Qc.b (fun q => absurd q.2.2.2 (by omega)) rfl
              | exact Qc.b (fun q => q.2.2.1 g4) rfl
              | exact Qc.y ⟨by omega, by omega, g4, by omega⟩ (by rw [if_pos (by omega)]) Cq.rfl'
              | exact Qc.y ⟨by omega, by omega, g4, by omega⟩ (by rw [if_neg (by omega)]) Cq.rfl'
        · refine ZE.go hW 9999 rfl (by repeat' first | exact True.intro | assumption | apply And.intro | omega | (simp (disch := omega) only [up_n, up_e]; omega)) ?_
          refine ZE.c0 hW rfl rfl (Nat.le_of_ble_eq_true rfl) (Nat.le_of_ble_eq_true rfl) (k_c_refuseApart (d := d) hW) ?_
          refine ZE.ri rfl rfl ?_
          first
            | exact Qc.b (fun q => absurd q.1 (by omega)) rfl
            | exact Qc.b (fun q => absurd q.2.1 (by omega)) rfl
            | exact Qc.b (fun q => absurd q.2.2.2 (by omega)) rfl
            | exact Qc.b (fun q => q.2.2.1 g4) rfl
            | exact Qc.y ⟨by omega, by omega, g4, by omega⟩ (by rw [if_pos (by omega)]) Cq.rfl'
            | exact Qc.y ⟨by omega, by omega, g4, by omega⟩ (by rw [if_neg (by omega)]) Cq.rfl'
set_option maxRecDepth 100000 in set_option maxHeartbeats 4000000 in theorem k_x_is {v w : Int} (h : SR σ μ (μ 0 5) N t) (hv : zrng v) (hw : zrng w) : ZQ ext (d + 6) n_X11_is [(1000, 0), (0, v), (0, w)] σ μ (Qc ((0 ≤ v ∧ v ≤ N 0 - 1) ∧ (0 ≤ w ∧ w ≤ 1)) (-2) (if w = 0 then isW (mb N v) 36 0 0 else isP (mb N v) 36 0 0) μ) := by
  have hC := h.ct
  have hW := h.1.1
  have hSp := h.2.1.1
  refine ZQ.i rfl ?_
  refine ZE.go hW 9999 rfl (by repeat' first | exact True.intro | assumption | apply And.intro | omega | (simp (disch := omega) only [up_n, up_e]; omega)) ?_
  refine ZE.c0 hW rfl rfl (Nat.le_of_ble_eq_true rfl) (Nat.le_of_ble_eq_true rfl) (k_c_isView (d := d + 4) hW rfl hSp hv (by omega)) ?_
  refine ZE.bp rfl rfl ?_ ?_ <;> intro g1
  · refine ZE.go hW 9999 rfl (by repeat' first | exact True.intro | assumption | apply And.intro | omega | (simp (disch := omega) only [up_n, up_e]; omega)) ?_
    refine ZE.c0 hW rfl rfl (Nat.le_of_ble_eq_true rfl) (Nat.le_of_ble_eq_true rfl) (k_c_refuse (d := d + 4) (x := -2) hW (by omega)) ?_
    refine ZE.ri rfl rfl ?_
    first
      | exact Qc.b (by omega) rfl
      | exact Qc.y (by omega) (by rw [if_pos (by omega)]) hf.q
      | exact Qc.y (by omega) (by rw [if_neg (by omega), hp]) hf.q
  · refine ZE.go hW 9999 rfl (by repeat' first | exact True.intro | assumption | apply And.intro | omega | (simp (disch := omega) only [up_n, up_e]; omega)) ?_
    refine ZE.c0 hW rfl rfl (Nat.le_of_ble_eq_true rfl) (Nat.le_of_ble_eq_true rfl) (k_c_within (d := d + 5) hW hw (by omega) (by omega)) ?_
    refine ZE.bp rfl rfl ?_ ?_ <;> intro g2
    · refine ZE.go hW 9999 rfl (by repeat' first | exact True.intro | assumption | apply And.intro | omega | (simp (disch := omega) only [up_n, up_e]; omega)) ?_
      refine ZE.q0 hW rfl rfl (Nat.le_of_ble_eq_true rfl) (Nat.le_of_ble_eq_true rfl) (k_c_guess (d := d) h (v := v) (by omega)) ?_
      rintro rv9 μ1 ⟨rfl, hf, hp, hm⟩
      refine ZE.go hW 9999 rfl (by repeat' first | exact True.intro | assumption | apply And.intro | omega | (simp (disch := omega) only [up_n, up_e]; omega)) ?_
      refine ZE.b0 rfl (by omega) ?_ ?_ <;> intro g3
      · refine ZE.go hW 9999 rfl (by repeat' first | exact True.intro | assumption | apply And.intro | omega | (simp (disch := omega) only [up_n, up_e]; omega)) ?_
        refine ZE.ri rfl rfl ?_
        first
          | exact Qc.b (by omega) rfl
          | exact Qc.y (by omega) (by rw [if_pos (by omega)]) hf.q
          | exact Qc.y (by omega) (by rw [if_neg (by omega), hp]) hf.q
      · refine ZE.go hW 9999 rfl (by repeat' first | exact True.intro | assumption | apply And.intro | omega | (simp (disch := omega) only [up_n, up_e]; omega)) ?_
        refine ZE.c0 hW rfl rfl (Nat.le_of_ble_eq_true rfl) (Nat.le_of_ble_eq_true rfl) (k_c_kindBits (d := d + 5) (v := v) (N := N) hW hm) ?_
        refine ZE.go hW 9999 rfl (by repeat' first | exact True.intro | assumption | apply And.intro | omega | (simp (disch := omega) only [up_n, up_e]; omega)) ?_
        refine ZE.ri rfl rfl ?_
        first
          | exact Qc.b (by omega) rfl
          | exact Qc.y (by omega) (by rw [if_pos (by omega)]) hf.q
          | exact Qc.y (by omega) (by rw [if_neg (by omega), hp]) hf.q
    · refine ZE.go hW 9999 rfl (by repeat' first | exact True.intro | assumption | apply And.intro | omega | (simp (disch := omega) only [up_n, up_e]; omega)) ?_
      refine ZE.c0 hW rfl rfl (Nat.le_of_ble_eq_true rfl) (Nat.le_of_ble_eq_true rfl) (k_c_refuse (d := d + 4) (x := -2) hW (by omega)) ?_
      refine ZE.ri rfl rfl ?_
      first
        | exact Qc.b (by omega) rfl
        | exact Qc.y (by omega) (by rw [if_pos (by omega)]) hf.q
        | exact Qc.y (by omega) (by rw [if_neg (by omega), hp]) hf.q
set_option maxRecDepth 100000 in set_option maxHeartbeats 4000000 in theorem k_x_look {v : Int} (h : SR σ μ (μ 0 5) N t) (ht : t ≤ 100) (hv : zrng v) : ZQ ext (d + 6) n_X11_look [(1000, 0), (0, v)] σ μ (Qc (0 ≤ v ∧ v ≤ N 0 - 1) (-2) (lkN N v) μ) := by
  have hC := h.ct
  have hW := h.1.1
  have hSp := h.2.1.1
  refine ZQ.i rfl ?_
  refine ZE.go hW 9999 rfl (by repeat' first | exact True.intro | assumption | apply And.intro | omega | (simp (disch := omega) only [up_n, up_e]; omega)) ?_
  refine ZE.c0 hW rfl rfl (Nat.le_of_ble_eq_true rfl) (Nat.le_of_ble_eq_true rfl) (k_c_isView (d := d + 4) hW rfl hSp hv (by omega)) ?_
  refine ZE.bp rfl rfl ?_ ?_ <;> intro g1
  · refine ZE.go hW 9999 rfl (by repeat' first | exact True.intro | assumption | apply And.intro | omega | (simp (disch := omega) only [up_n, up_e]; omega)) ?_
    refine ZE.q0 hW rfl rfl (Nat.le_of_ble_eq_true rfl) (Nat.le_of_ble_eq_true rfl) (k_c_guess (d := d) h (v := v) (by omega)) ?_
    rintro rv9 μ1 ⟨rfl, hf, hp, hm⟩
    have e7 : μ1 0 5 = μ 0 5 := hf 0 5 (by omega)
    refine ZE.go hW 9999 rfl (by repeat' first | exact True.intro | assumption | apply And.intro | omega | (simp (disch := omega) only [up_n, up_e]; omega)) ?_
    rw [e7]
    refine ZE.q0 hW rfl rfl (Nat.le_of_ble_eq_true rfl) (Nat.le_of_ble_eq_true rfl) (k_c_bestEvening (d := d) (h.gf hf) ht hp hm) ?_
    rintro rv9 μ2 ⟨rfl, hf2⟩
    refine ZE.ri rfl rfl ?_
    first
      | exact Qc.b (by omega) rfl
      | exact Qc.y (by omega) rfl (hf.trans hf2).q
  · refine ZE.go hW 9999 rfl (by repeat' first | exact True.intro | assumption | apply And.intro | omega | (simp (disch := omega) only [up_n, up_e]; omega)) ?_
    refine ZE.c0 hW rfl rfl (Nat.le_of_ble_eq_true rfl) (Nat.le_of_ble_eq_true rfl) (k_c_refuse (d := d + 4) (x := -2) hW (by omega)) ?_
    refine ZE.ri rfl rfl ?_
    first
      | exact Qc.b (by omega) rfl
      | exact Qc.y (by omega) rfl (hf.trans hf2).q
set_option maxRecDepth 100000 in set_option maxHeartbeats 4000000 in theorem k_x_status {w : Int} (hW : Wl σ) (hw : zrng w) : ZQ ext (d + 2) n_X11_status [(1000, 0), (0, w)] σ μ (fun rv μ' => (0 ≤ w ∧ w ≤ 2 → rv = some (0, μ 21 w) ∧ μ' = μ) ∧ (¬ (0 ≤ w ∧ w ≤ 2) → rv = some (0, -1) ∧ μ' = up μ 21 0 (μ 21 0 + 1))) := by
  refine ZQ.i rfl ?_
  refine ZE.go hW 9999 rfl (by repeat' first | exact True.intro | assumption | apply And.intro | omega | (simp (disch := omega) only [up_n, up_e]; omega)) ?_
  refine ZE.c0 hW rfl rfl (Nat.le_of_ble_eq_true rfl) (Nat.le_of_ble_eq_true rfl) (k_c_within (d := d + 1) hW hw (by omega) (by omega)) ?_
  refine ZE.bp rfl rfl ?_ ?_ <;> intro g1
  · refine ZE.go hW 9999 rfl (by repeat' first | exact True.intro | assumption | apply And.intro | omega | (simp (disch := omega) only [up_n, up_e]; omega)) ?_
    refine ZE.ri rfl rfl ?_
    first
      | exact ⟨fun q => absurd q g1, fun _ => ⟨rfl, rfl⟩⟩
      | exact ⟨fun _ => ⟨rfl, rfl⟩, fun q => absurd g1 q⟩
  · refine ZE.go hW 9999 rfl (by repeat' first | exact True.intro | assumption | apply And.intro | omega | (simp (disch := omega) only [up_n, up_e]; omega)) ?_
    refine ZE.c0 hW rfl rfl (Nat.le_of_ble_eq_true rfl) (Nat.le_of_ble_eq_true rfl) (k_c_refuse (d := d) (x := -2) hW (by omega)) ?_
    refine ZE.go hW 9999 rfl (by repeat' first | exact True.intro | assumption | apply And.intro | omega | (simp (disch := omega) only [up_n, up_e]; omega)) ?_
    refine ZE.ri rfl rfl ?_
    first
      | exact ⟨fun q => absurd q g1, fun _ => ⟨rfl, rfl⟩⟩
      | exact ⟨fun _ => ⟨rfl, rfl⟩, fun q => absurd g1 q⟩
set_option maxRecDepth 100000 in set_option maxHeartbeats 4000000 in theorem k_x_part {w : Int} (hW : Wl σ) (hw : zrng w) : ZQ ext (d + 2) n_X11_part [(1000, 0), (0, w)] σ μ (fun rv μ' => (w = 0 → rv = some (1, μ 0 7) ∧ μ' = μ) ∧ (w = 1 → rv = some (1, μ 0 8) ∧ μ' = μ) ∧ (w ≠ 0 → w ≠ 1 → rv = some (1, -2) ∧ μ' = up μ 21 0 (μ 21 0 + 1))) := by
  by_cases w0 : w = 0
  · subst w0
    refine ZQ.i rfl ?_
    refine ZE.go hW 9999 rfl (by repeat' first | exact True.intro | assumption | apply And.intro | omega | (simp (disch := omega) only [up_n, up_e]; omega)) ?_
    refine ZE.ls rfl (by omega) rfl rfl ?_
    refine ZE.go hW 9999 rfl (by repeat' first | exact True.intro | assumption | apply And.intro | omega | (simp (disch := omega) only [up_n, up_e]; omega)) ?_
    refine ZE.rl rfl rfl ?_
    exact ⟨fun _ => ⟨rfl, rfl⟩, fun q => absurd q (by omega), fun q => absurd rfl q⟩
  · by_cases w1 : w = 1
    · subst w1
      refine ZQ.i rfl ?_
      refine ZE.go hW 9999 rfl (by repeat' first | exact True.intro | assumption | apply And.intro | omega | (simp (disch := omega) only [up_n, up_e]; omega)) ?_
      refine ZE.ls rfl (by omega) rfl rfl ?_
      refine ZE.go hW 9999 rfl (by repeat' first | exact True.intro | assumption | apply And.intro | omega | (simp (disch := omega) only [up_n, up_e]; omega)) ?_
      refine ZE.rl rfl rfl ?_
      exact ⟨fun q => absurd q (by omega), fun _ => ⟨rfl, rfl⟩, fun _ q => absurd rfl q⟩
    · refine ZQ.i rfl ?_
      refine ZE.go hW 9999 rfl (by repeat' first | exact True.intro | assumption | apply And.intro | omega | (simp (disch := omega) only [up_n, up_e]; omega)) ?_
      refine ZE.ls rfl (by omega) rfl (t := 38) ?_ ?_
      · show (if w = ((0 : Nat) : Int) then 28 else if w = ((1 : Nat) : Int) then 33 else 38) = 38
        rw [if_neg (by omega), if_neg (by omega)]
      · refine ZE.go hW 9999 rfl (by repeat' first | exact True.intro | assumption | apply And.intro | omega | (simp (disch := omega) only [up_n, up_e]; omega)) ?_
        refine ZE.c0 hW rfl rfl (Nat.le_of_ble_eq_true rfl) (Nat.le_of_ble_eq_true rfl) (k_c_refuse (d := d) (x := -2) hW (by omega)) ?_
        refine ZE.go hW 9999 rfl (by repeat' first | exact True.intro | assumption | apply And.intro | omega | (simp (disch := omega) only [up_n, up_e]; omega)) ?_
        refine ZE.rl rfl rfl ?_
        exact ⟨fun q => absurd q w0, fun q => absurd q w1, fun _ _ => ⟨rfl, rfl⟩⟩
set_option maxRecDepth 100000 in set_option maxHeartbeats 4000000 in theorem k_x_count {w : Int} (h : SR σ μ (μ 0 5) N t) (hw : zrng w) : ZQ ext (d + 2) n_X11_count [(1000, 0), (0, w)] σ μ (Qc (0 ≤ w ∧ w ≤ 8) (-2) (ctN N (μ 2 1) w) μ) := by
  have hC := h.ct
  have hW := h.1.1
  have hSp := h.2.1.1
  have hBk := h.2.1.bk
  refine ZQ.i rfl ?_
  refine ZE.go hW 9999 rfl (by repeat' first | exact True.intro | assumption | apply And.intro | omega | (simp (disch := omega) only [up_n, up_e]; omega)) ?_
  rcases (by omega : w = 0 ∨ w = 1 ∨ w = 2 ∨ w = 3 ∨ w = 4 ∨ w = 5 ∨ w = 6 ∨ w = 7 ∨ w = 8 ∨ (w < 0 ∨ 8 < w)) with rfl | rfl | rfl | rfl | rfl | rfl | rfl | rfl | rfl | hsw
  · refine ZE.ts rfl (by omega) rfl ?_
    refine ZE.go hW 9999 rfl (by repeat' first | exact True.intro | assumption | apply And.intro | omega | (simp (disch := omega) only [up_n, up_e]; omega)) ?_
    refine ZE.ri rfl rfl ?_
    first
      | exact Qc.b (by omega) rfl
      | exact Qc.y (by omega) hC.1.1 Cq.rfl'
      | exact Qc.y (by omega) hC.1.2.1 Cq.rfl'
      | exact Qc.y (by omega) hC.2.1.1 Cq.rfl'
      | exact Qc.y (by omega) hC.2.1.2.1 Cq.rfl'
      | exact Qc.y (by omega) hC.2.1.2.2 Cq.rfl'
      | exact Qc.y (by omega) hC.1.2.2.1 Cq.rfl'
      | exact Qc.y (by omega) hC.1.2.2.2 Cq.rfl'
      | exact Qc.y (by omega) rfl Cq.rfl'
  · refine ZE.ts rfl (by omega) rfl ?_
    refine ZE.go hW 9999 rfl (by repeat' first | exact True.intro | assumption | apply And.intro | omega | (simp (disch := omega) only [up_n, up_e]; omega)) ?_
    refine ZE.ri rfl rfl ?_
    first
      | exact Qc.b (by omega) rfl
      | exact Qc.y (by omega) hC.1.1 Cq.rfl'
      | exact Qc.y (by omega) hC.1.2.1 Cq.rfl'
      | exact Qc.y (by omega) hC.2.1.1 Cq.rfl'
      | exact Qc.y (by omega) hC.2.1.2.1 Cq.rfl'
      | exact Qc.y (by omega) hC.2.1.2.2 Cq.rfl'
      | exact Qc.y (by omega) hC.1.2.2.1 Cq.rfl'
      | exact Qc.y (by omega) hC.1.2.2.2 Cq.rfl'
      | exact Qc.y (by omega) rfl Cq.rfl'
  · refine ZE.ts rfl (by omega) rfl ?_
    refine ZE.go hW 9999 rfl (by repeat' first | exact True.intro | assumption | apply And.intro | omega | (simp (disch := omega) only [up_n, up_e]; omega)) ?_
    refine ZE.ri rfl rfl ?_
    first
      | exact Qc.b (by omega) rfl
      | exact Qc.y (by omega) hC.1.1 Cq.rfl'
      | exact Qc.y (by omega) hC.1.2.1 Cq.rfl'
      | exact Qc.y (by omega) hC.2.1.1 Cq.rfl'
      | exact Qc.y (by omega) hC.2.1.2.1 Cq.rfl'
      | exact Qc.y (by omega) hC.2.1.2.2 Cq.rfl'
      | exact Qc.y (by omega) hC.1.2.2.1 Cq.rfl'
      | exact Qc.y (by omega) hC.1.2.2.2 Cq.rfl'
      | exact Qc.y (by omega) rfl Cq.rfl'
  · refine ZE.ts rfl (by omega) rfl ?_
    refine ZE.go hW 9999 rfl (by repeat' first | exact True.intro | assumption | apply And.intro | omega | (simp (disch := omega) only [up_n, up_e]; omega)) ?_
    refine ZE.ri rfl rfl ?_
    first
      | exact Qc.b (by omega) rfl
      | exact Qc.y (by omega) hC.1.1 Cq.rfl'
      | exact Qc.y (by omega) hC.1.2.1 Cq.rfl'
      | exact Qc.y (by omega) hC.2.1.1 Cq.rfl'
      | exact Qc.y (by omega) hC.2.1.2.1 Cq.rfl'
      | exact Qc.y (by omega) hC.2.1.2.2 Cq.rfl'
      | exact Qc.y (by omega) hC.1.2.2.1 Cq.rfl'
      | exact Qc.y (by omega) hC.1.2.2.2 Cq.rfl'
      | exact Qc.y (by omega) rfl Cq.rfl'
  · refine ZE.ts rfl (by omega) rfl ?_
    refine ZE.go hW 9999 rfl (by repeat' first | exact True.intro | assumption | apply And.intro | omega | (simp (disch := omega) only [up_n, up_e]; omega)) ?_
    refine ZE.c1 hW rfl rfl (by repeat' first | exact True.intro | assumption | apply And.intro | omega | (simp (disch := omega) only [up_n, up_e]; omega)) (Nat.le_of_ble_eq_true rfl) (Nat.le_of_ble_eq_true rfl) (k_c_letNow (d := d + 1) h) ?_
    refine ZE.ri rfl rfl ?_
    first
      | exact Qc.b (by omega) rfl
      | exact Qc.y (by omega) hC.1.1 Cq.rfl'
      | exact Qc.y (by omega) hC.1.2.1 Cq.rfl'
      | exact Qc.y (by omega) hC.2.1.1 Cq.rfl'
      | exact Qc.y (by omega) hC.2.1.2.1 Cq.rfl'
      | exact Qc.y (by omega) hC.2.1.2.2 Cq.rfl'
      | exact Qc.y (by omega) hC.1.2.2.1 Cq.rfl'
      | exact Qc.y (by omega) hC.1.2.2.2 Cq.rfl'
      | exact Qc.y (by omega) rfl Cq.rfl'
  · refine ZE.ts rfl (by omega) rfl ?_
    refine ZE.go hW 9999 rfl (by repeat' first | exact True.intro | assumption | apply And.intro | omega | (simp (disch := omega) only [up_n, up_e]; omega)) ?_
    refine ZE.ri rfl rfl ?_
    first
      | exact Qc.b (by omega) rfl
      | exact Qc.y (by omega) hC.1.1 Cq.rfl'
      | exact Qc.y (by omega) hC.1.2.1 Cq.rfl'
      | exact Qc.y (by omega) hC.2.1.1 Cq.rfl'
      | exact Qc.y (by omega) hC.2.1.2.1 Cq.rfl'
      | exact Qc.y (by omega) hC.2.1.2.2 Cq.rfl'
      | exact Qc.y (by omega) hC.1.2.2.1 Cq.rfl'
      | exact Qc.y (by omega) hC.1.2.2.2 Cq.rfl'
      | exact Qc.y (by omega) rfl Cq.rfl'
  · refine ZE.ts rfl (by omega) rfl ?_
    refine ZE.go hW 9999 rfl (by repeat' first | exact True.intro | assumption | apply And.intro | omega | (simp (disch := omega) only [up_n, up_e]; omega)) ?_
    refine ZE.ri rfl rfl ?_
    first
      | exact Qc.b (by omega) rfl
      | exact Qc.y (by omega) hC.1.1 Cq.rfl'
      | exact Qc.y (by omega) hC.1.2.1 Cq.rfl'
      | exact Qc.y (by omega) hC.2.1.1 Cq.rfl'
      | exact Qc.y (by omega) hC.2.1.2.1 Cq.rfl'
      | exact Qc.y (by omega) hC.2.1.2.2 Cq.rfl'
      | exact Qc.y (by omega) hC.1.2.2.1 Cq.rfl'
      | exact Qc.y (by omega) hC.1.2.2.2 Cq.rfl'
      | exact Qc.y (by omega) rfl Cq.rfl'
  · refine ZE.ts rfl (by omega) rfl ?_
    refine ZE.go hW 9999 rfl (by repeat' first | exact True.intro | assumption | apply And.intro | omega | (simp (disch := omega) only [up_n, up_e]; omega)) ?_
    refine ZE.ri rfl rfl ?_
    first
      | exact Qc.b (by omega) rfl
      | exact Qc.y (by omega) hC.1.1 Cq.rfl'
      | exact Qc.y (by omega) hC.1.2.1 Cq.rfl'
      | exact Qc.y (by omega) hC.2.1.1 Cq.rfl'
      | exact Qc.y (by omega) hC.2.1.2.1 Cq.rfl'
      | exact Qc.y (by omega) hC.2.1.2.2 Cq.rfl'
      | exact Qc.y (by omega) hC.1.2.2.1 Cq.rfl'
      | exact Qc.y (by omega) hC.1.2.2.2 Cq.rfl'
      | exact Qc.y (by omega) rfl Cq.rfl'
  · refine ZE.ts rfl (by omega) rfl ?_
    refine ZE.go hW 9999 rfl (by repeat' first | exact True.intro | assumption | apply And.intro | omega | (simp (disch := omega) only [up_n, up_e]; omega)) ?_
    refine ZE.ri rfl rfl ?_
    first
      | exact Qc.b (by omega) rfl
      | exact Qc.y (by omega) hC.1.1 Cq.rfl'
      | exact Qc.y (by omega) hC.1.2.1 Cq.rfl'
      | exact Qc.y (by omega) hC.2.1.1 Cq.rfl'
      | exact Qc.y (by omega) hC.2.1.2.1 Cq.rfl'
      | exact Qc.y (by omega) hC.2.1.2.2 Cq.rfl'
      | exact Qc.y (by omega) hC.1.2.2.1 Cq.rfl'
      | exact Qc.y (by omega) hC.1.2.2.2 Cq.rfl'
      | exact Qc.y (by omega) rfl Cq.rfl'
  · refine ZE.ts rfl (by omega) (if_pos (by omega)) ?_
    refine ZE.go hW 9999 rfl (by repeat' first | exact True.intro | assumption | apply And.intro | omega | (simp (disch := omega) only [up_n, up_e]; omega)) ?_
    refine ZE.c0 hW rfl rfl (Nat.le_of_ble_eq_true rfl) (Nat.le_of_ble_eq_true rfl) (k_c_refuse (d := d) (x := -2) hW (by omega)) ?_
    refine ZE.ri rfl rfl ?_
    first
      | exact Qc.b (by omega) rfl
      | exact Qc.y (by omega) hC.1.1 Cq.rfl'
      | exact Qc.y (by omega) hC.1.2.1 Cq.rfl'
      | exact Qc.y (by omega) hC.2.1.1 Cq.rfl'
      | exact Qc.y (by omega) hC.2.1.2.1 Cq.rfl'
      | exact Qc.y (by omega) hC.2.1.2.2 Cq.rfl'
      | exact Qc.y (by omega) hC.1.2.2.1 Cq.rfl'
      | exact Qc.y (by omega) hC.1.2.2.2 Cq.rfl'
      | exact Qc.y (by omega) rfl Cq.rfl'
set_option maxRecDepth 100000 in set_option maxHeartbeats 4000000 in theorem k_x_digest (h : SR σ μ (μ 0 5) N t) (ht : 0 ≤ t ∧ t ≤ 100) (hl : 0 ≤ μ 2 1 ∧ μ 2 1 ≤ 150) : ZM ext (d + 3) n_X11_digest [(1000, 0)] σ μ (some (1, dgN N (μ 2 1) (μ 0 7) (μ 0 8))) μ := by
  have hW := h.1.1
  have hSp := h.2.1.1
  have hN := h.2.2.2.1
  have hcnt : ∀ w, 0 ≤ w ∧ w ≤ 8 → ZM ext (d + 2) n_X11_count [(1000, 0), (0, w)] σ μ (some (0, ctN N (μ 2 1) w)) μ := by
    intro w hw
    have hC := h.ct
    have hBk := h.2.1.bk
    apply ZQ.ex
    refine ZQ.i rfl ?_
    refine ZE.go hW 9999 rfl (by repeat' first | exact True.intro | assumption | apply And.intro | omega | (simp (disch := omega) only [up_n, up_e]; omega)) ?_
    rcases (by omega : w = 0 ∨ w = 1 ∨ w = 2 ∨ w = 3 ∨ w = 4 ∨ w = 5 ∨ w = 6 ∨ w = 7 ∨ w = 8 ∨ (w < 0 ∨ 8 < w)) with rfl | rfl | rfl | rfl | rfl | rfl | rfl | rfl | rfl | hsw
    · refine ZE.ts rfl (by omega) rfl ?_
      refine ZE.go hW 9999 rfl (by repeat' first | exact True.intro | assumption | apply And.intro | omega | (simp (disch := omega) only [up_n, up_e]; omega)) ?_
      refine ZE.ri rfl rfl ?_
      first
        | exact ⟨congrArg (fun x => some ((0 : Nat), x)) hC.1.1, rfl⟩
        | exact ⟨congrArg (fun x => some ((0 : Nat), x)) hC.1.2.1, rfl⟩
        | exact ⟨congrArg (fun x => some ((0 : Nat), x)) hC.2.1.1, rfl⟩
        | exact ⟨congrArg (fun x => some ((0 : Nat), x)) hC.2.1.2.1, rfl⟩
        | exact ⟨congrArg (fun x => some ((0 : Nat), x)) hC.2.1.2.2, rfl⟩
        | exact ⟨congrArg (fun x => some ((0 : Nat), x)) hC.1.2.2.1, rfl⟩
        | exact ⟨congrArg (fun x => some ((0 : Nat), x)) hC.1.2.2.2, rfl⟩
        | exact ⟨rfl, rfl⟩
    · refine ZE.ts rfl (by omega) rfl ?_
      refine ZE.go hW 9999 rfl (by repeat' first | exact True.intro | assumption | apply And.intro | omega | (simp (disch := omega) only [up_n, up_e]; omega)) ?_
      refine ZE.ri rfl rfl ?_
      first
        | exact ⟨congrArg (fun x => some ((0 : Nat), x)) hC.1.1, rfl⟩
        | exact ⟨congrArg (fun x => some ((0 : Nat), x)) hC.1.2.1, rfl⟩
        | exact ⟨congrArg (fun x => some ((0 : Nat), x)) hC.2.1.1, rfl⟩
        | exact ⟨congrArg (fun x => some ((0 : Nat), x)) hC.2.1.2.1, rfl⟩
        | exact ⟨congrArg (fun x => some ((0 : Nat), x)) hC.2.1.2.2, rfl⟩
        | exact ⟨congrArg (fun x => some ((0 : Nat), x)) hC.1.2.2.1, rfl⟩
        | exact ⟨congrArg (fun x => some ((0 : Nat), x)) hC.1.2.2.2, rfl⟩
        | exact ⟨rfl, rfl⟩
    · refine ZE.ts rfl (by omega) rfl ?_
      refine ZE.go hW 9999 rfl (by repeat' first | exact True.intro | assumption | apply And.intro | omega | (simp (disch := omega) only [up_n, up_e]; omega)) ?_
      refine ZE.ri rfl rfl ?_
      first
        | exact ⟨congrArg (fun x => some ((0 : Nat), x)) hC.1.1, rfl⟩
        | exact ⟨congrArg (fun x => some ((0 : Nat), x)) hC.1.2.1, rfl⟩
        | exact ⟨congrArg (fun x => some ((0 : Nat), x)) hC.2.1.1, rfl⟩
        | exact ⟨congrArg (fun x => some ((0 : Nat), x)) hC.2.1.2.1, rfl⟩
        | exact ⟨congrArg (fun x => some ((0 : Nat), x)) hC.2.1.2.2, rfl⟩
        | exact ⟨congrArg (fun x => some ((0 : Nat), x)) hC.1.2.2.1, rfl⟩
        | exact ⟨congrArg (fun x => some ((0 : Nat), x)) hC.1.2.2.2, rfl⟩
        | exact ⟨rfl, rfl⟩
    · refine ZE.ts rfl (by omega) rfl ?_
      refine ZE.go hW 9999 rfl (by repeat' first | exact True.intro | assumption | apply And.intro | omega | (simp (disch := omega) only [up_n, up_e]; omega)) ?_
      refine ZE.ri rfl rfl ?_
      first
        | exact ⟨congrArg (fun x => some ((0 : Nat), x)) hC.1.1, rfl⟩
        | exact ⟨congrArg (fun x => some ((0 : Nat), x)) hC.1.2.1, rfl⟩
        | exact ⟨congrArg (fun x => some ((0 : Nat), x)) hC.2.1.1, rfl⟩
        | exact ⟨congrArg (fun x => some ((0 : Nat), x)) hC.2.1.2.1, rfl⟩
        | exact ⟨congrArg (fun x => some ((0 : Nat), x)) hC.2.1.2.2, rfl⟩
        | exact ⟨congrArg (fun x => some ((0 : Nat), x)) hC.1.2.2.1, rfl⟩
        | exact ⟨congrArg (fun x => some ((0 : Nat), x)) hC.1.2.2.2, rfl⟩
        | exact ⟨rfl, rfl⟩
    · refine ZE.ts rfl (by omega) rfl ?_
      refine ZE.go hW 9999 rfl (by repeat' first | exact True.intro | assumption | apply And.intro | omega | (simp (disch := omega) only [up_n, up_e]; omega)) ?_
      refine ZE.c1 hW rfl rfl (by repeat' first | exact True.intro | assumption | apply And.intro | omega | (simp (disch := omega) only [up_n, up_e]; omega)) (Nat.le_of_ble_eq_true rfl) (Nat.le_of_ble_eq_true rfl) (k_c_letNow (d := d + 1) h) ?_
      refine ZE.ri rfl rfl ?_
      first
        | exact ⟨congrArg (fun x => some ((0 : Nat), x)) hC.1.1, rfl⟩
        | exact ⟨congrArg (fun x => some ((0 : Nat), x)) hC.1.2.1, rfl⟩
        | exact ⟨congrArg (fun x => some ((0 : Nat), x)) hC.2.1.1, rfl⟩
        | exact ⟨congrArg (fun x => some ((0 : Nat), x)) hC.2.1.2.1, rfl⟩
        | exact ⟨congrArg (fun x => some ((0 : Nat), x)) hC.2.1.2.2, rfl⟩
        | exact ⟨congrArg (fun x => some ((0 : Nat), x)) hC.1.2.2.1, rfl⟩
        | exact ⟨congrArg (fun x => some ((0 : Nat), x)) hC.1.2.2.2, rfl⟩
        | exact ⟨rfl, rfl⟩
    · refine ZE.ts rfl (by omega) rfl ?_
      refine ZE.go hW 9999 rfl (by repeat' first | exact True.intro | assumption | apply And.intro | omega | (simp (disch := omega) only [up_n, up_e]; omega)) ?_
      refine ZE.ri rfl rfl ?_
      first
        | exact ⟨congrArg (fun x => some ((0 : Nat), x)) hC.1.1, rfl⟩
        | exact ⟨congrArg (fun x => some ((0 : Nat), x)) hC.1.2.1, rfl⟩
        | exact ⟨congrArg (fun x => some ((0 : Nat), x)) hC.2.1.1, rfl⟩
        | exact ⟨congrArg (fun x => some ((0 : Nat), x)) hC.2.1.2.1, rfl⟩
        | exact ⟨congrArg (fun x => some ((0 : Nat), x)) hC.2.1.2.2, rfl⟩
        | exact ⟨congrArg (fun x => some ((0 : Nat), x)) hC.1.2.2.1, rfl⟩
        | exact ⟨congrArg (fun x => some ((0 : Nat), x)) hC.1.2.2.2, rfl⟩
        | exact ⟨rfl, rfl⟩
    · refine ZE.ts rfl (by omega) rfl ?_
      refine ZE.go hW 9999 rfl (by repeat' first | exact True.intro | assumption | apply And.intro | omega | (simp (disch := omega) only [up_n, up_e]; omega)) ?_
      refine ZE.ri rfl rfl ?_
      first
        | exact ⟨congrArg (fun x => some ((0 : Nat), x)) hC.1.1, rfl⟩
        | exact ⟨congrArg (fun x => some ((0 : Nat), x)) hC.1.2.1, rfl⟩
        | exact ⟨congrArg (fun x => some ((0 : Nat), x)) hC.2.1.1, rfl⟩
        | exact ⟨congrArg (fun x => some ((0 : Nat), x)) hC.2.1.2.1, rfl⟩
        | exact ⟨congrArg (fun x => some ((0 : Nat), x)) hC.2.1.2.2, rfl⟩
        | exact ⟨congrArg (fun x => some ((0 : Nat), x)) hC.1.2.2.1, rfl⟩
        | exact ⟨congrArg (fun x => some ((0 : Nat), x)) hC.1.2.2.2, rfl⟩
        | exact ⟨rfl, rfl⟩
    · refine ZE.ts rfl (by omega) rfl ?_
      refine ZE.go hW 9999 rfl (by repeat' first | exact True.intro | assumption | apply And.intro | omega | (simp (disch := omega) only [up_n, up_e]; omega)) ?_
      refine ZE.ri rfl rfl ?_
      first
        | exact ⟨congrArg (fun x => some ((0 : Nat), x)) hC.1.1, rfl⟩
        | exact ⟨congrArg (fun x => some ((0 : Nat), x)) hC.1.2.1, rfl⟩
        | exact ⟨congrArg (fun x => some ((0 : Nat), x)) hC.2.1.1, rfl⟩
        | exact ⟨congrArg (fun x => some ((0 : Nat), x)) hC.2.1.2.1, rfl⟩
        | exact ⟨congrArg (fun x => some ((0 : Nat), x)) hC.2.1.2.2, rfl⟩
        | exact ⟨congrArg (fun x => some ((0 : Nat), x)) hC.1.2.2.1, rfl⟩
        | exact ⟨congrArg (fun x => some ((0 : Nat), x)) hC.1.2.2.2, rfl⟩
        | exact ⟨rfl, rfl⟩
    · refine ZE.ts rfl (by omega) rfl ?_
      refine ZE.go hW 9999 rfl (by repeat' first | exact True.intro | assumption | apply And.intro | omega | (simp (disch := omega) only [up_n, up_e]; omega)) ?_
      refine ZE.ri rfl rfl ?_
      first
        | exact ⟨congrArg (fun x => some ((0 : Nat), x)) hC.1.1, rfl⟩
        | exact ⟨congrArg (fun x => some ((0 : Nat), x)) hC.1.2.1, rfl⟩
        | exact ⟨congrArg (fun x => some ((0 : Nat), x)) hC.2.1.1, rfl⟩
        | exact ⟨congrArg (fun x => some ((0 : Nat), x)) hC.2.1.2.1, rfl⟩
        | exact ⟨congrArg (fun x => some ((0 : Nat), x)) hC.2.1.2.2, rfl⟩
        | exact ⟨congrArg (fun x => some ((0 : Nat), x)) hC.1.2.2.1, rfl⟩
        | exact ⟨congrArg (fun x => some ((0 : Nat), x)) hC.1.2.2.2, rfl⟩
        | exact ⟨rfl, rfl⟩
    · omega
  apply ZQ.ex
  have loop : ∀ (k : Nat) (i x : Int), 0 ≤ i → i + k = 9 → dgC N (μ 2 1) k i x = dgC N (μ 2 1) 9 0 997 → ZE ext (d + 3) n_X11_digest 6 [(1000, 0), (1, x), (4, 0), (0, i)] [] σ μ (fun rv μ' => rv = some (1, dgN N (μ 2 1) (μ 0 7) (μ 0 8)) ∧ μ' = μ) := by
    intro k
    induction k with
    | zero =>
      intro i x h0 hk hx
      have hx : x = _ := hx
      refine ZE.go hW 9999 rfl (by repeat' first | exact True.intro | assumption | apply And.intro | omega | (simp (disch := omega) only [up_n, up_e]; omega)) ?_
      refine ZE.b rfl (by omega) (by omega) ?_ ?_ <;> intro g1
      · refine ZE.go hW 9999 rfl (by repeat' first | exact True.intro | assumption | apply And.intro | omega | (simp (disch := omega) only [up_n, up_e]; omega)) ?_
        refine ZE.c1 hW rfl rfl (by repeat' first | exact True.intro | assumption | apply And.intro | omega | (simp (disch := omega) only [up_n, up_e]; omega)) (Nat.le_of_ble_eq_true rfl) (Nat.le_of_ble_eq_true rfl) (k_c_digestFrom (d := d + 2) h ht.2) ?_
        refine ZE.go hW 9999 rfl (by repeat' first | exact True.intro | assumption | apply And.intro | omega | (simp (disch := omega) only [up_n, up_e]; omega)) ?_
        refine ZE.rl rfl rfl ?_
        refine ⟨?_, rfl⟩
        rw [hx]
        rfl
      · omega
    | succ k ih =>
      intro i x h0 hk hx
      have hc9 := ctN_rng (w := i) hN hl ht (by omega)
      refine ZE.go hW 9999 rfl (by repeat' first | exact True.intro | assumption | apply And.intro | omega | (simp (disch := omega) only [up_n, up_e]; omega)) ?_
      refine ZE.b rfl (by omega) (by omega) ?_ ?_ <;> intro g1
      · omega
      · refine ZE.go hW 9999 rfl (by repeat' first | exact True.intro | assumption | apply And.intro | omega | (simp (disch := omega) only [up_n, up_e]; omega)) ?_
        refine ZE.c0 hW rfl rfl (Nat.le_of_ble_eq_true rfl) (Nat.le_of_ble_eq_true rfl) (hcnt i (by omega)) ?_
        refine ZE.go hW 6 rfl (by repeat' first | exact True.intro | assumption | apply And.intro | omega | (simp (disch := omega) only [up_n, up_e]; omega)) ?_
        exact ih (i + 1) _ (by omega) (by omega) hx
  refine ZQ.i rfl ?_
  refine ZE.go hW 6 rfl (by repeat' first | exact True.intro | assumption | apply And.intro | omega | (simp (disch := omega) only [up_n, up_e]; omega)) ?_
  exact loop 9 0 997 (by omega) (by omega) rfl
end
