theorem lr_o {M : Int → Int} {v r c j : Int} (h3 : j ≠ 3) (h4 : j ≠ 4) (h : j < 61 ∨ 97 ≤ j) (hv : j ≠ 7 + 6 * v + 4) (hr : j ≠ 43 + 3 * r + 1) (hc : 0 ≤ M 4 ∧ M 4 ≤ 12) (v0 : 0 ≤ v) (r0 : 0 ≤ r) : rmN (ltN M v r c) v r j = M j := by
  have l4 := lt_o (N := M) (v := v) (r := r) (c := c) (j := 4) (by omega) (by omega) (by omega)
  have lj := lt_o (N := M) (v := v) (r := r) (c := c) (j := j) hv hr h3
  unfold rmN
  split
  · rw [rmB_o (by rw [rmA_4]; omega) h4, rmA_lo (by omega) h4, lj]
  · rw [rmB_o (by rw [l4]; omega) h4, lj]
theorem ZE.eq1 {ext : List xC} {σ : zSh} {d mi pc : Nat} {L st : List V} {μ : zM} {v v' : V} {Q : Option V → zM → Prop} (h : vv v = vv v') (k : ZE ext d mi pc L (v' :: st) σ μ Q) : ZE ext d mi pc L (v :: st) σ μ Q := by
  obtain ⟨rv, μ1, h1, hq⟩ := k
  refine ⟨rv, μ1, ?_, hq⟩
  have h1 : Ev ext d mi pc (L.map vv) (vv v' :: st.map vv) (hz σ μ) (rv.map vv) (hz σ μ1) := h1
  rw [← h] at h1
  exact h1
theorem vv50 {x : Int} (h : 0 ≤ x) : vv (50, x) = vv (100, x) := by
  show (if x < 0 then Value.null else Value.ref x.toNat) = Value.ref x.toNat
  rw [if_neg (by omega)]
theorem ZE.nn1 {ext : List xC} {σ : zSh} {d mi pc nx t : Nat} {o : Int} {L st : List V} {μ : zM} {x : Int} {Q : Option V → zM → Prop} (hf : xfind (xmt mi).2 pc = some (.ifnonnull o, nx, [t])) (hx : 0 ≤ x) (k : ZE ext d mi t L st σ μ Q) : ZE ext d mi pc L ((50, x) :: st) σ μ Q := by
  obtain ⟨rv, μ1, h1, hq⟩ := k
  refine ⟨rv, μ1, Ev.s hf (w := (t, L.map vv, st.map vv, hz σ μ)) ?_ h1, hq⟩
  rw [List.map_cons, vv50 hx]
  rfl
theorem ZE.nn0 {ext : List xC} {σ : zSh} {d mi pc nx t : Nat} {o : Int} {L st : List V} {μ : zM} {x : Int} {Q : Option V → zM → Prop} (hf : xfind (xmt mi).2 pc = some (.ifnonnull o, nx, [t])) (hx : x < 0) (k : ZE ext d mi nx L st σ μ Q) : ZE ext d mi pc L ((50, x) :: st) σ μ Q := by
  obtain ⟨rv, μ1, h1, hq⟩ := k
  refine ⟨rv, μ1, Ev.s hf (w := (nx, L.map vv, st.map vv, hz σ μ)) ?_ h1, hq⟩
  have e : vv (50, x) = Value.null := by
    show (if x < 0 then Value.null else Value.ref x.toNat) = Value.null
    rw [if_pos hx]
  rw [List.map_cons, e]
  rfl
section
variable {ext : List xC} {σ : zSh} {d : Nat} {μ : zM} {t : Int} {N : Int → Int}
/-- a Book is changed, and nothing else of its shop -/
theorem SR.book {a : Int} {μ' : zM} {M : Int → Int} {t' : Int} (h : SR σ μ a N t) (hf : ∀ k j, ¬ (a + 18 ≤ k ∧ k ≤ a + 23) → μ' k j = μ k j) (hNI : NI M t') (o : ∀ j, j ≠ 2 → j ≠ 3 → j ≠ 4 → (j < 61 ∨ 97 ≤ j) → (∀ v, 0 ≤ v → v < 6 → j ≠ 7 + 6 * v + 4) → (∀ r, 0 ≤ r → r < 6 → j ≠ 43 + 3 * r + 1) → M j = N j) (hB : RN μ' (a + 18) M) : SR σ μ' a M t' := by
  have hC := h.ct
  obtain ⟨hK, hS, hR, hN, hP, h29⟩ := h
  have o0 := o 0 (by omega) (by omega) (by omega) (by omega) (by omega) (by omega)
  have o1 := o 1 (by omega) (by omega) (by omega) (by omega) (by omega) (by omega)
  have o5 := o 5 (by omega) (by omega) (by omega) (by omega) (by omega) (by omega)
  have o6 := o 6 (by omega) (by omega) (by omega) (by omega) (by omega) (by omega)
  have p17 : ∀ u, μ' (a + 24) u = μ (a + 24) u := fun u => hf _ _ (by omega)
  refine ⟨hK.fr (fun j => hf _ _ (by omega)), hS, ?_, hNI, ⟨fun u p q => ?_, fun u w p q r s e => ?_⟩, h29⟩
  · refine RS.mk' hR (fun j p q => hf _ _ (by omega)) (by rw [hf _ _ (by omega), o6]; exact hC.1.2.2.2) (fun i j p q => hf _ _ (by omega)) o0 o1 o5 (by omega) (by omega) (by omega) (fun v i p q r s z => o _ (by omega) (by omega) (by omega) (by omega) (by omega) (by omega)) (fun v i p q r => o _ (by omega) (by omega) (by omega) (by omega) (by omega) (by omega)) (fun j p q => o _ (by omega) (by omega) (by omega) (by omega) (by omega) (by omega)) hB ?_
    intro u p q
    have hu := hP.1 u p (by omega)
    have hc2 : 0 ≤ N (115 + 51 * u + 14) ∧ N (115 + 51 * u + 14) ≤ 12 := (hN.2.2.2.2.2 u p (by omega)).2.1
    rw [p17]
    exact RP.keep (hR.2.2.2.2.2 u p (by omega)) rfl (fun i j x y => hf _ _ (by omega)) p (by omega) (fun j x y => o _ (by omega) (by omega) (by omega) (by omega) (by omega) (by omega)) o0 o1 (by omega) hc2.2
  · rw [p17]; exact hP.1 u p q
  · rw [p17, p17] at e; exact hP.2 u w p q r s e
set_option maxRecDepth 100000 in set_option maxHeartbeats 4000000 in theorem k_x_let {v r : Int} (h : SR σ μ (μ 0 5) N t) (ht : t ≤ 100) (hv : zrng v) (hr : zrng r) : ZQ ext (d + 5) n_X11_let [(1000, 0), (0, v), (0, r)] σ μ (fun rv μ' =>
    (¬ ((0 ≤ v ∧ v ≤ N 0 - 1) ∧ (0 ≤ r ∧ r ≤ N 1 - 1)) → rv = some (0, -2) ∧ μ' = up μ 21 0 (μ 21 0 + 1)) ∧
    ((0 ≤ v ∧ v ≤ N 0 - 1) ∧ (0 ≤ r ∧ r ≤ N 1 - 1) → (¬ mayL N v r → rv = some (0, -3) ∧ μ' = up μ 21 1 (μ 21 1 + 1)) ∧
      (mayL N v r → rv = some (0, wFee (N (7 + 6 * v + 0)) (N (7 + 6 * v + 2))) ∧ Fs (μ 0 5) μ μ' ∧ SR σ μ' (μ 0 5) (rmN (ltN (kpN N) v r (wFee (N (7 + 6 * v + 0)) (N (7 + 6 * v + 2)))) v r) (t + 1)))) := by
  have hC := h.ct
  have hW := h.1.1
  have hSp := h.2.1.1
  have hBk := h.2.1.bk
  have hN := h.2.2.2.1
  have h29 : 22 ≤ μ 0 5 := h.2.2.2.2.2
  have klo := fun j a b => kpN_lo (N := N) (j := j) hC.2.2.1.2.2.2 a b
  have k0 := klo 0 (by omega) (by omega)
  have k1 := klo 1 (by omega) (by omega)
  have k3 := klo 3 (by omega) (by omega)
  have k4 := klo 4 (by omega) (by omega)
  refine ZQ.i rfl ?_
  refine ZE.go hW 9999 rfl (by repeat' first | exact True.intro | assumption | apply And.intro | omega | (simp (disch := omega) only [up_n, up_e]; omega)) ?_
  refine ZE.c0 hW rfl rfl (Nat.le_of_ble_eq_true rfl) (Nat.le_of_ble_eq_true rfl) (k_c_isView (d := d + 3) hW rfl hSp hv (by omega)) ?_
  refine ZE.bp rfl rfl ?_ ?_ <;> intro g1
  · refine ZE.go hW 9999 rfl (by repeat' first | exact True.intro | assumption | apply And.intro | omega | (simp (disch := omega) only [up_n, up_e]; omega)) ?_
    refine ZE.c0 hW rfl rfl (Nat.le_of_ble_eq_true rfl) (Nat.le_of_ble_eq_true rfl) (k_c_refuse (d := d + 3) (x := -2) hW (by omega)) ?_
    refine ZE.ri rfl rfl ?_
    first
      | exact ⟨fun _ => ⟨rfl, rfl⟩, fun q => absurd q (by omega)⟩
      | exact ⟨fun q => absurd (by omega) q, fun _ => ⟨fun _ => ⟨rfl, rfl⟩, fun q => absurd q g3⟩⟩
      | (refine ⟨fun q => absurd (by omega) q, fun _ => ⟨fun q => absurd g3 q, fun _ => ⟨rfl, fun k j p => ?_, ?_⟩⟩⟩
         · rw [hf2 k j (by omega)]; exact hf1 k j p
         · refine h1.book hf2 (NI_rm (NI_lt h1.2.2.2.1 (by omega) (by omega) ?_ (fun w p q => ?_)) (by omega) (by omega)) (fun j p q s x y z => lr_o q s x (y v (by omega) (by omega)) (z r (by omega) (by omega)) (by omega) (by omega) (by omega)) hR2
           · rw [klo _ (by omega) (by omega)]
             have := g3.2.2.2
             omega
           · rw [klo _ (by omega) (by omega)]
             intro e
             have hvo : vOf N r = -1 := g3.2.1
             have := vOf_at (v := w) hN (by omega) (by omega) e
             omega)
  · refine ZE.go hW 9999 rfl (by repeat' first | exact True.intro | assumption | apply And.intro | omega | (simp (disch := omega) only [up_n, up_e]; omega)) ?_
    refine ZE.c0 hW rfl rfl (Nat.le_of_ble_eq_true rfl) (Nat.le_of_ble_eq_true rfl) (k_c_isRenter (d := d + 3) hW rfl hSp hr (by omega)) ?_
    refine ZE.bp rfl rfl ?_ ?_ <;> intro g2
    · refine ZE.go hW 9999 rfl (by repeat' first | exact True.intro | assumption | apply And.intro | omega | (simp (disch := omega) only [up_n, up_e]; omega)) ?_
      refine ZE.c1 hW rfl rfl (by repeat' first | exact True.intro | assumption | apply And.intro | omega | (simp (disch := omega) only [up_n, up_e]; omega)) (Nat.le_of_ble_eq_true rfl) (Nat.le_of_ble_eq_true rfl) (k_c_mayLet (d := d) h (by omega) (by omega)) ?_
      refine ZE.bp rfl rfl ?_ ?_ <;> intro g3
      · refine ZE.go hW 9999 rfl (by repeat' first | exact True.intro | assumption | apply And.intro | omega | (simp (disch := omega) only [up_n, up_e]; omega)) ?_
        refine ZE.q1 hW rfl rfl (by repeat' first | exact True.intro | assumption | apply And.intro | omega | (simp (disch := omega) only [up_n, up_e]; omega)) (Nat.le_of_ble_eq_true rfl) (Nat.le_of_ble_eq_true rfl) (k_c_remember (d := d + 2) h) ?_
        rintro rv9 μ1 ⟨rfl, hf1, h1⟩
        have e7 : μ1 0 5 = μ 0 5 := hf1 0 5 (by omega)
        have hc1 := h1.ct
        have ecN : cN (kpN N) v = wFee (N (7 + 6 * v + 0)) (N (7 + 6 * v + 2)) := by unfold cN; rw [klo _ (by omega) (by omega), klo _ (by omega) (by omega)]
        have hfee := cN_rng hN (v := v) (by omega)
        have hfe : cN N v = wFee (N (7 + 6 * v + 0)) (N (7 + 6 * v + 2)) := rfl
        refine ZE.go hW 9999 rfl (by repeat' first | exact True.intro | assumption | apply And.intro | omega | (simp (disch := omega) only [up_n, up_e]; omega)) ?_
        rw [e7]
        refine ZE.c1 hW rfl rfl (by repeat' first | exact True.intro | assumption | apply And.intro | omega | (simp (disch := omega) only [up_n, up_e]; omega)) (Nat.le_of_ble_eq_true rfl) (Nat.le_of_ble_eq_true rfl) (k_c_fee (d := d + 1) h1 (by omega)) ?_
        rw [ecN]
        refine ZE.go hW 62 rfl (by repeat' first | exact True.intro | assumption | apply And.intro | omega | (simp (disch := omega) only [up_n, up_e]; omega)) ?_
        rw [e7]
        refine ZE.go hW 9999 rfl (by repeat' first | exact True.intro | assumption | apply And.intro | omega | (simp (disch := omega) only [up_n, up_e]; omega)) ?_
        refine ZE.q1 hW rfl rfl (by repeat' first | exact True.intro | assumption | apply And.intro | omega | (simp (disch := omega) only [up_n, up_e]; omega)) (Nat.le_of_ble_eq_true rfl) (Nat.le_of_ble_eq_true rfl) (k_c_write (d := d + 2) hW hBk h1.2.2.1.2.2.2.2.1 (by omega) (by omega) (by omega) (by omega) (by omega)) ?_
        rintro rv9 μ2 ⟨rfl, hf2, hR2⟩
        refine ZE.go hW 9999 rfl (by repeat' first | exact True.intro | assumption | apply And.intro | omega | (simp (disch := omega) only [up_n, up_e]; omega)) ?_
        refine ZE.ri rfl rfl ?_
        first
          | exact ⟨fun _ => ⟨rfl, rfl⟩, fun q => absurd q (by omega)⟩
          | exact ⟨fun q => absurd (by omega) q, fun _ => ⟨fun _ => ⟨rfl, rfl⟩, fun q => absurd q g3⟩⟩
          | (refine ⟨fun q => absurd (by omega) q, fun _ => ⟨fun q => absurd g3 q, fun _ => ⟨rfl, fun k j p => ?_, ?_⟩⟩⟩
             · rw [hf2 k j (by omega)]; exact hf1 k j p
             · refine h1.book hf2 (NI_rm (NI_lt h1.2.2.2.1 (by omega) (by omega) ?_ (fun w p q => ?_)) (by omega) (by omega)) (fun j p q s x y z => lr_o q s x (y v (by omega) (by omega)) (z r (by omega) (by omega)) (by omega) (by omega) (by omega)) hR2
               · rw [klo _ (by omega) (by omega)]
                 have := g3.2.2.2
                 omega
               · rw [klo _ (by omega) (by omega)]
                 intro e
                 have hvo : vOf N r = -1 := g3.2.1
                 have := vOf_at (v := w) hN (by omega) (by omega) e
                 omega)
      · refine ZE.go hW 9999 rfl (by repeat' first | exact True.intro | assumption | apply And.intro | omega | (simp (disch := omega) only [up_n, up_e]; omega)) ?_
        refine ZE.c0 hW rfl rfl (Nat.le_of_ble_eq_true rfl) (Nat.le_of_ble_eq_true rfl) (k_c_refuse (d := d + 3) (x := -3) hW (by omega)) ?_
        refine ZE.ri rfl rfl ?_
        first
          | exact ⟨fun _ => ⟨rfl, rfl⟩, fun q => absurd q (by omega)⟩
          | exact ⟨fun q => absurd (by omega) q, fun _ => ⟨fun _ => ⟨rfl, rfl⟩, fun q => absurd q g3⟩⟩
          | (refine ⟨fun q => absurd (by omega) q, fun _ => ⟨fun q => absurd g3 q, fun _ => ⟨rfl, fun k j p => ?_, ?_⟩⟩⟩
             · rw [hf2 k j (by omega)]; exact hf1 k j p
             · refine h1.book hf2 (NI_rm (NI_lt h1.2.2.2.1 (by omega) (by omega) ?_ (fun w p q => ?_)) (by omega) (by omega)) (fun j p q s x y z => lr_o q s x (y v (by omega) (by omega)) (z r (by omega) (by omega)) (by omega) (by omega) (by omega)) hR2
               · rw [klo _ (by omega) (by omega)]
                 have := g3.2.2.2
                 omega
               · rw [klo _ (by omega) (by omega)]
                 intro e
                 have hvo : vOf N r = -1 := g3.2.1
                 have := vOf_at (v := w) hN (by omega) (by omega) e
                 omega)
    · refine ZE.go hW 9999 rfl (by repeat' first | exact True.intro | assumption | apply And.intro | omega | (simp (disch := omega) only [up_n, up_e]; omega)) ?_
      refine ZE.c0 hW rfl rfl (Nat.le_of_ble_eq_true rfl) (Nat.le_of_ble_eq_true rfl) (k_c_refuse (d := d + 3) (x := -2) hW (by omega)) ?_
      refine ZE.ri rfl rfl ?_
      first
        | exact ⟨fun _ => ⟨rfl, rfl⟩, fun q => absurd q (by omega)⟩
        | exact ⟨fun q => absurd (by omega) q, fun _ => ⟨fun _ => ⟨rfl, rfl⟩, fun q => absurd q g3⟩⟩
        | (refine ⟨fun q => absurd (by omega) q, fun _ => ⟨fun q => absurd g3 q, fun _ => ⟨rfl, fun k j p => ?_, ?_⟩⟩⟩
           · rw [hf2 k j (by omega)]; exact hf1 k j p
           · refine h1.book hf2 (NI_rm (NI_lt h1.2.2.2.1 (by omega) (by omega) ?_ (fun w p q => ?_)) (by omega) (by omega)) (fun j p q s x y z => lr_o q s x (y v (by omega) (by omega)) (z r (by omega) (by omega)) (by omega) (by omega) (by omega)) hR2
             · rw [klo _ (by omega) (by omega)]
               have := g3.2.2.2
               omega
             · rw [klo _ (by omega) (by omega)]
               intro e
               have hvo : vOf N r = -1 := g3.2.1
               have := vOf_at (v := w) hN (by omega) (by omega) e
               omega)
set_option maxRecDepth 100000 in set_option maxHeartbeats 4000000 in theorem k_x_night (h : SR σ μ (μ 0 5) N t) (ht : 0 ≤ t ∧ t ≤ 100) : ZQ ext (d + 4) n_X11_night [(1000, 0)] σ μ (fun rv μ' => rv = some (0, N 2 + 1) ∧ Fs (μ 0 5) μ μ' ∧ SR σ μ' (μ 0 5) (ngN (kpN N)) (t + 1)) := by
  have hC := h.ct
  have hW := h.1.1
  have hSp := h.2.1.1
  have hBk := h.2.1.bk
  have hN := h.2.2.2.1
  have h29 : 22 ≤ μ 0 5 := h.2.2.2.2.2
  have klo := fun j a b => kpN_lo (N := N) (j := j) hC.2.2.1.2.2.2 a b
  have k0 := klo 0 (by omega) (by omega)
  have k1 := klo 1 (by omega) (by omega)
  have k2 := klo 2 (by omega) (by omega)
  refine ZQ.i rfl ?_
  refine ZE.go hW 9999 rfl (by repeat' first | exact True.intro | assumption | apply And.intro | omega | (simp (disch := omega) only [up_n, up_e]; omega)) ?_
  refine ZE.q1 hW rfl rfl (by repeat' first | exact True.intro | assumption | apply And.intro | omega | (simp (disch := omega) only [up_n, up_e]; omega)) (Nat.le_of_ble_eq_true rfl) (Nat.le_of_ble_eq_true rfl) (k_c_remember (d := d + 1) h) ?_
  rintro rv9 μ1 ⟨rfl, hf1, h1⟩
  have e7 : μ1 0 5 = μ 0 5 := hf1 0 5 (by omega)
  have hc1 := h1.ct
  refine ZE.go hW 11 rfl (by repeat' first | exact True.intro | assumption | apply And.intro | omega | (simp (disch := omega) only [up_n, up_e]; omega)) ?_
  rw [e7]
  refine ZE.go hW 9999 rfl (by repeat' first | exact True.intro | assumption | apply And.intro | omega | (simp (disch := omega) only [up_n, up_e]; omega)) ?_
  refine ZE.c1 hW rfl rfl (by repeat' first | exact True.intro | assumption | apply And.intro | omega | (simp (disch := omega) only [up_n, up_e]; omega)) (Nat.le_of_ble_eq_true rfl) (Nat.le_of_ble_eq_true rfl) (k_c_bringAllBack (d := d + 2) hW hBk) ?_
  refine ZE.gen (fun m => m = fill μ1 (μ 0 5 + 18 + 2) 0 6 (-1)) rfl ?_
  intro m hm
  have m7 : m 0 5 = μ 0 5 := by rw [hm, fill_n (by omega)]; exact e7
  have m0 : m (μ 0 5 + 18) 0 = N 2 := by rw [hm, fill_n (by omega)]; omega
  refine ZE.go hW 21 rfl (by repeat' first | exact True.intro | assumption | apply And.intro | omega | (simp (disch := omega) only [up_n, up_e]; omega)) ?_
  rw [m7]
  refine ZE.go hW 33 rfl (by repeat' first | exact True.intro | assumption | apply And.intro | omega | (simp (disch := omega) only [up_n, up_e]; omega)) ?_
  rw [m0]
  refine ZE.gen (fun q => q = up m (μ 0 5 + 18) 0 (N 2 + 1)) rfl ?_
  intro q hq
  have q7 : q 0 5 = μ 0 5 := by rw [hq, up_n (by omega)]; exact m7
  have q0 : q (μ 0 5 + 18) 0 = N 2 + 1 := by rw [hq, up_s]
  refine ZE.go hW 37 rfl (by repeat' first | exact True.intro | assumption | apply And.intro | omega | (simp (disch := omega) only [up_n, up_e]; omega)) ?_
  rw [q7]
  refine ZE.go hW 9999 rfl (by repeat' first | exact True.intro | assumption | apply And.intro | omega | (simp (disch := omega) only [up_n, up_e]; omega)) ?_
  refine ZE.ri rfl rfl ?_
  have fq : ∀ k j, ¬ (μ 0 5 + 18 ≤ k ∧ k ≤ μ 0 5 + 23) → q k j = μ1 k j := fun k j p => by rw [hq, up_n (by omega), hm, fill_n (by omega)]
  have fq2 : ∀ k j, ¬ (k = μ 0 5 + 18 ∧ j = 0) → k ≠ μ 0 5 + 18 + 2 → q k j = μ1 k j := fun k j p z => by rw [hq, up_n (by omega), hm, fill_n (by omega)]
  have l := fun v a => ng_l (N := kpN N) (v := v) a
  have o := fun j a b => ng_o (N := kpN N) (j := j) a b
  refine ⟨by rw [q0], fun k j p => ?_, h1.book fq (NI_ng h1.2.2.2.1) (fun j x y z w a b => o j x (by
    intro hh
    exact a ((j - 11) / 6) (by omega) (by omega) (by omega))) ?_⟩
  · rw [fq k j (by omega)]; exact hf1 k j p
  · obtain ⟨⟨b0, b1, b2⟩, b3, b4, b5, b6⟩ := h1.2.2.1.2.2.2.2.1
    have e0 := o 0 (by omega) (by omega)
    have e1 := o 1 (by omega) (by omega)
    have e3 := o 3 (by omega) (by omega)
    have e4 := o 4 (by omega) (by omega)
    have e2 := ng_2 (N := kpN N)
    refine ⟨⟨?_, ?_, ?_⟩, fun r x y => ?_, fun v x y => ?_, fun v x y => ?_, fun i x y => ?_⟩
    · rw [q0, e2, k2]
    · rw [fq2 _ _ (by omega) (by omega), b1, e3]
    · rw [fq2 _ _ (by omega) (by omega), b2, e4]
    · show _ = ngN (kpN N) (43 + 3 * r + 1)
      rw [fq2 _ _ (by omega) (by omega), b3 r x (by omega), o _ (by omega) (by omega)]
    · show _ = ngN (kpN N) (7 + 6 * v + 4)
      rw [hq, up_n (by omega), hm, fill_e rfl x (by omega), l v (by omega)]
    · rw [hq, up_n (by omega), hm, fill_e rfl (by omega) y]
    · show _ = ngN (kpN N) (61 + 3 * i) ∧ _ = ngN (kpN N) (61 + 3 * i + 1) ∧ _ = ngN (kpN N) (61 + 3 * i + 2)
      rw [fq2 _ _ (by omega) (by omega), fq2 _ _ (by omega) (by omega), fq2 _ _ (by omega) (by omega), o _ (by omega) (by omega), o _ (by omega) (by omega), o _ (by omega) (by omega)]
      exact b6 i x (by omega)
set_option maxRecDepth 100000 in set_option maxHeartbeats 4000000 in theorem k_x_from {i c : Int} {K : Int → Int} (h : SR σ μ (μ 0 5) N t) (hi : zrng i) (h8 : 0 ≤ i ∧ i ≤ 1 → μ 1 i = c) (hc : c = -1 ∨ SR σ μ c K t ∧ (μ 0 5 + 73 ≤ c ∨ c + 73 ≤ μ 0 5)) : ZQ ext (d + 3) n_X11_from [(1000, 0), (0, i)] σ μ (fun rv μ' => (¬ (0 ≤ i ∧ i ≤ 1) → rv = some (0, -2) ∧ μ' = up μ 21 0 (μ 21 0 + 1)) ∧
    (0 ≤ i ∧ i ≤ 1 → (c = -1 → rv = some (0, -3) ∧ μ' = up μ 21 1 (μ 21 1 + 1)) ∧ (c ≠ -1 → rv = some (0, 1) ∧ Fs (μ 0 5) μ μ' ∧ SR σ μ' (μ 0 5) K t))) := by
  have hW := h.1.1
  have hSp := h.2.1.1
  have h29 : 22 ≤ μ 0 5 := h.2.2.2.2.2
  refine ZQ.i rfl ?_
  refine ZE.go hW 9999 rfl (by repeat' first | exact True.intro | assumption | apply And.intro | omega | (simp (disch := omega) only [up_n, up_e]; omega)) ?_
  refine ZE.c0 hW rfl rfl (Nat.le_of_ble_eq_true rfl) (Nat.le_of_ble_eq_true rfl) (k_c_within (d := d + 2) hW hi (by omega) (by omega)) ?_
  refine ZE.bp rfl rfl ?_ ?_ <;> intro g1
  · have e8 := h8 g1
    refine ZE.go hW 9999 rfl (by repeat' first | exact True.intro | assumption | apply And.intro | omega | (simp (disch := omega) only [up_n, up_e]; omega)) ?_
    rw [e8]
    rcases hc with hc | ⟨hc, hd⟩
    · refine ZE.nn0 rfl (by omega) ?_
      refine ZE.go hW 9999 rfl (by repeat' first | exact True.intro | assumption | apply And.intro | omega | (simp (disch := omega) only [up_n, up_e]; omega)) ?_
      refine ZE.c0 hW rfl rfl (Nat.le_of_ble_eq_true rfl) (Nat.le_of_ble_eq_true rfl) (k_c_refuse (d := d + 1) (x := -3) hW (by omega)) ?_
      refine ZE.ri rfl rfl ?_
      exact ⟨fun q => absurd g1 q, fun _ => ⟨fun _ => ⟨rfl, rfl⟩, fun q => absurd hc q⟩⟩
    · have hc29 : 22 ≤ c := hc.2.2.2.2.2
      refine ZE.nn1 rfl (by omega) ?_
      refine ZE.go hW 9999 rfl (by repeat' first | exact True.intro | assumption | apply And.intro | omega | (simp (disch := omega) only [up_n, up_e]; omega)) ?_
      rw [e8]
      refine ZE.eq1 (v' := (100, c)) (vv50 (by omega)) ?_
      refine ZE.q1 hW rfl rfl hSp (Nat.le_of_ble_eq_true rfl) (Nat.le_of_ble_eq_true rfl) (k_c_copyS (d := d) hc h.2.1 h.2.2.2.2.1 h29 hd) ?_
      rintro rv9 μ9 ⟨rfl, hf, h9⟩
      refine ZE.go hW 9999 rfl (by repeat' first | exact True.intro | assumption | apply And.intro | omega | (simp (disch := omega) only [up_n, up_e]; omega)) ?_
      refine ZE.ri rfl rfl ?_
      exact ⟨fun q => absurd g1 q, fun _ => ⟨fun q => absurd q (by omega), fun _ => ⟨rfl, hf, h9⟩⟩⟩
  · refine ZE.go hW 9999 rfl (by repeat' first | exact True.intro | assumption | apply And.intro | omega | (simp (disch := omega) only [up_n, up_e]; omega)) ?_
    refine ZE.c0 hW rfl rfl (Nat.le_of_ble_eq_true rfl) (Nat.le_of_ble_eq_true rfl) (k_c_refuse (d := d + 1) (x := -2) hW (by omega)) ?_
    refine ZE.ri rfl rfl ?_
    exact ⟨fun _ => ⟨rfl, rfl⟩, fun q => absurd q g1⟩
end
section
variable {L : Nat} {xs : Nat → Int32} {σ : zSh} {d : Nat} {μ : zM} {t : Int}
set_option maxRecDepth 100000 in set_option maxHeartbeats 4000000 in theorem k_x_read {N0 T : Int → Int} {l : Int} (hK : Wk σ μ) (hS : Sh σ (μ 0 6)) (hP : PS μ (μ 0 6)) (h29 : 22 ≤ μ 0 6) (ht : 0 ≤ t) (hl : 0 ≤ l ∧ l ≤ 150) (e9 : μ 2 1 = l) (hc : ∀ j, 0 ≤ j → j < l → μ 3 j = T j ∧ 0 ≤ T j ∧ T j ≤ 127) : ZQ (xext L xs) (d + 8) n_X11_read [(1000, 0)] σ μ (fun rv μ' => rv = some (0, (rdB T l (z115 N0)).1) ∧ PS μ' (μ 0 6) ∧ (∀ k j, ¬ (k = 0 ∧ (j = 5 ∨ j = 6)) → ¬ (k = 2 ∧ j ≠ 1) → k ≠ 4 → ¬ (μ 0 6 ≤ k ∧ k ≤ μ 0 6 + 72) → μ' k j = μ k j) ∧
    (0 ≤ (rdB T l (z115 N0)).1 → μ' 0 5 = μ 0 6 ∧ μ' 0 6 = μ 0 5 ∧ SR σ μ' (μ 0 6) (rdB T l (z115 N0)).2 t ∧ NA (rdB T l (z115 N0)).2) ∧ ((rdB T l (z115 N0)).1 < 0 → μ' 0 5 = μ 0 5 ∧ μ' 0 6 = μ 0 6)) := by
  have hW := hK.1
  subst e9
  refine ZQ.i rfl ?_
  refine ZE.go hW 9999 rfl (by repeat' first | exact True.intro | assumption | apply And.intro | omega | (simp (disch := omega) only [up_n, up_e]; omega)) ?_
  refine ZE.q0 hW rfl rfl (Nat.le_of_ble_eq_true rfl) (Nat.le_of_ble_eq_true rfl) (k_c_readInto (d := d) (N0 := N0) (T := T) hK hS hP h29 ht hl rfl hc) ?_
  rintro rv9 μ1 ⟨hg, hP1, hy, hn⟩
  generalize rdB T (μ 2 1) (z115 N0) = R at *
  have f1 : ∀ k j, ¬ (k = 2 ∧ j ≠ 1) → k ≠ 4 → ¬ (μ 0 6 ≤ k ∧ k ≤ μ 0 6 + 72) → μ1 k j = μ k j := by
    intro k j p q r
    exact hg k j (by omega) q r
  have e7 : μ1 0 5 = μ 0 5 := f1 0 5 (by omega) (by omega) (by omega)
  have e8 : μ1 0 6 = μ 0 6 := f1 0 6 (by omega) (by omega) (by omega)
  by_cases h0 : 0 ≤ R.1
  · obtain ⟨y1, rfl, y3, y4⟩ := hy h0
    refine ZE.go hW 9999 rfl (by repeat' first | exact True.intro | assumption | apply And.intro | omega | (simp (disch := omega) only [up_n, up_e]; omega)) ?_
    refine ZE.b rfl (by omega) (by omega) ?_ ?_ <;> intro g1
    · refine ZE.go hW 9999 rfl (by repeat' first | exact True.intro | assumption | apply And.intro | omega | (simp (disch := omega) only [up_n, up_e]; omega)) ?_
      refine ZE.ri rfl rfl ?_
      refine ⟨rfl, ⟨fun u p q => ?_, fun u w p q r s e => ?_⟩, fun k j p q r s => ?_, fun _ => ⟨?_, ?_, ?_, y4⟩, fun q => absurd q (by omega)⟩
      · rw [up_n (by omega), up_n (by omega)]; exact hP1.1 u p q
      · rw [up_n (by omega), up_n (by omega), up_n (by omega), up_n (by omega)] at e; exact hP1.2 u w p q r s e
      · rw [up_n (by omega), up_n (by omega)]; exact f1 k j q r s
      · rw [up_n (by omega), up_s]; exact e8
      · rw [up_s]; exact e7
      · exact y3.fr (fun k j p q => by rw [up_n (by omega), up_n (by omega)]) (fun j => by rw [up_n (by omega), up_n (by omega)])
    · omega
  · obtain ⟨rfl, n2⟩ := hn (by omega)
    refine ZE.go hW 9999 rfl (by repeat' first | exact True.intro | assumption | apply And.intro | omega | (simp (disch := omega) only [up_n, up_e]; omega)) ?_
    refine ZE.b rfl (by omega) (by omega) ?_ ?_ <;> intro g1
    · omega
    · refine ZE.go hW 9999 rfl (by repeat' first | exact True.intro | assumption | apply And.intro | omega | (simp (disch := omega) only [up_n, up_e]; omega)) ?_
      refine ZE.ri rfl rfl ?_
      exact ⟨by rw [n2], hP1, fun k j p q r s => f1 k j q r s, fun q => absurd q h0, fun _ => ⟨e7, e8⟩⟩
end
