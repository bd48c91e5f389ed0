section
variable {ext : List xC} {σ : zSh} {d : Nat} {μ : zM} {T : Int → Int} {l a t : Int} {N : Int → Int}
set_option maxRecDepth 100000 in set_option maxHeartbeats 4000000 in theorem k_c_readRenter {f : Int} (h : SR σ μ a N t) (hX : RX μ T l) (hf : 0 ≤ f ∧ f ≤ l) (hT : RT μ T l f) (hN : NA N) (h6 : N 1 ≠ 6) : ZQ ext (d + 3) n_X8_readRenter [(1010, 0), (100, a)] σ μ (Itc σ a t T l N (trn T l f N) μ) := by
  have hW := h.1.1
  have hSp := h.2.1.1
  have hBk := h.2.1.bk
  have h29 : 22 ≤ a := h.2.2.2.2.2
  have h0 := hN.2.1
  have n6 : N 6 = 0 := hN.2.2.2.2.2.2.2.2.2.2
  have a1 := tEE (T := T) hf
  have a2 := tEE (T := T) (l := l) (f := tE T l f) (by omega)
  have a3 := tEE (T := T) (l := l) (f := tE T l (tE T l f)) (by omega)
  have a4 := tEE (T := T) (l := l) (f := tE T l (tE T l (tE T l f))) (by omega)
  generalize hr : trn T l f N = R
  unfold trn at hr
  rw [if_neg h6] at hr
  refine ZQ.i rfl ?_
  refine ZE.go hW 9999 rfl (by repeat' first | exact True.intro | assumption | apply And.intro | omega | (simp (disch := omega) only [up_n, up_e]; omega)) ?_
  refine ZE.q0 hW rfl rfl (Nat.le_of_ble_eq_true rfl) (Nat.le_of_ble_eq_true rfl) (k_c_step (d := d + 1) hW hX hT.2.1 (by omega)) ?_
  rintro rv9 μ1 ⟨rfl, x1, s1⟩
  have x1 := x1.k
  refine ZE.go hW 9999 rfl (by repeat' first | exact True.intro | assumption | apply And.intro | omega | (simp (disch := omega) only [up_n, up_e]; omega)) ?_
  refine ZE.q0 hW rfl rfl (Nat.le_of_ble_eq_true rfl) (Nat.le_of_ble_eq_true rfl) (k_c_passNumber (d := d) (k := 0) (lo := 1) (hi := 9) hW (hX.rk x1) (by omega) s1 (by omega) (by omega) (by omega)) ?_
  rintro rv9 μ2 ⟨rfl, y1, n1⟩
  refine ZE.bp rfl rfl ?_ ?_ <;> intro g1
  · refine ZE.go hW 9999 rfl (by repeat' first | exact True.intro | assumption | apply And.intro | omega | (simp (disch := omega) only [up_n, up_e]; omega)) ?_
    refine ZE.rb rfl rfl (by first | exact Or.inl rfl | exact Or.inr rfl | omega) ?_
    first
      | (rw [if_pos g1] at hr
         rw [← hr, n1 g1]
         exact Itc.no x1.g s1 (h.rk x1))
      | (rw [if_pos g2] at hr
         rw [← hr, n2 g2]
         exact Itc.no x2.g s2 (h.rk x2))
      | (rw [if_pos g3] at hr
         rw [← hr, n3 g3]
         exact Itc.no x3.g s3 (h.rk x3))
      | (have g5n : ¬ tK T l (tE T l (tE T l (tE T l (tE T l f)))) = 3 := g4
         rw [← hr, n5 g4]
         exact Itc.nomark x4.g s4 (h.rk x4) g5n)
      | (simp (disch := omega) only [up_n, C6.1.2.1, c0, c1, c2]
         rw [← hr, ← rn_lr n6 h0.1]
         have hA := hS6.addR h6 g1.2 g2.2 g3.2
         unfold adR at hA
         refine Itc.yes ?_ ?_ hA g4
         · exact (((((z6.g (a := a)).up (by omega)).up (by omega)).up (by omega)).up (by omega)).up (by omega)
         · exact ((((s6.up h29 (by omega)).up h29 (by omega)).up h29 (by omega)).up h29 (by omega)).up h29 (by omega))
  · obtain ⟨s2, v1, w1⟩ := y1 g1
    have x2 : Rk μ μ2 := x1.trans (fun k j p q => w1 k j p (by omega))
    rw [if_neg (fun z => z g1)] at hr
    refine ZE.go hW 9999 rfl (by repeat' first | exact True.intro | assumption | apply And.intro | omega | (simp (disch := omega) only [up_n, up_e]; omega)) ?_
    refine ZE.q0 hW rfl rfl (Nat.le_of_ble_eq_true rfl) (Nat.le_of_ble_eq_true rfl) (k_c_passNumber (d := d) (k := 1) (lo := 0) (hi := 999) hW (hX.rk x2) (by omega) s2 (by omega) (by omega) (by omega)) ?_
    rintro rv9 μ3 ⟨rfl, y2, n2⟩
    refine ZE.bp rfl rfl ?_ ?_ <;> intro g2
    · refine ZE.go hW 9999 rfl (by repeat' first | exact True.intro | assumption | apply And.intro | omega | (simp (disch := omega) only [up_n, up_e]; omega)) ?_
      refine ZE.rb rfl rfl (by first | exact Or.inl rfl | exact Or.inr rfl | omega) ?_
      first
        | (rw [if_pos g1] at hr
           rw [← hr, n1 g1]
           exact Itc.no x1.g s1 (h.rk x1))
        | (rw [if_pos g2] at hr
           rw [← hr, n2 g2]
           exact Itc.no x2.g s2 (h.rk x2))
        | (rw [if_pos g3] at hr
           rw [← hr, n3 g3]
           exact Itc.no x3.g s3 (h.rk x3))
        | (have g5n : ¬ tK T l (tE T l (tE T l (tE T l (tE T l f)))) = 3 := g4
           rw [← hr, n5 g4]
           exact Itc.nomark x4.g s4 (h.rk x4) g5n)
        | (simp (disch := omega) only [up_n, C6.1.2.1, c0, c1, c2]
           rw [← hr, ← rn_lr n6 h0.1]
           have hA := hS6.addR h6 g1.2 g2.2 g3.2
           unfold adR at hA
           refine Itc.yes ?_ ?_ hA g4
           · exact (((((z6.g (a := a)).up (by omega)).up (by omega)).up (by omega)).up (by omega)).up (by omega)
           · exact ((((s6.up h29 (by omega)).up h29 (by omega)).up h29 (by omega)).up h29 (by omega)).up h29 (by omega))
    · obtain ⟨s3, v2, w2⟩ := y2 g2
      have x3 : Rk μ μ3 := x2.trans (fun k j p q => w2 k j p (by omega))
      rw [if_neg (fun z => z g2)] at hr
      refine ZE.go hW 9999 rfl (by repeat' first | exact True.intro | assumption | apply And.intro | omega | (simp (disch := omega) only [up_n, up_e]; omega)) ?_
      refine ZE.q0 hW rfl rfl (Nat.le_of_ble_eq_true rfl) (Nat.le_of_ble_eq_true rfl) (k_c_passNumber (d := d) (k := 2) (lo := 0) (hi := 6) hW (hX.rk x3) (by omega) s3 (by omega) (by omega) (by omega)) ?_
      rintro rv9 μ4 ⟨rfl, y3, n3⟩
      refine ZE.bp rfl rfl ?_ ?_ <;> intro g3
      · refine ZE.go hW 9999 rfl (by repeat' first | exact True.intro | assumption | apply And.intro | omega | (simp (disch := omega) only [up_n, up_e]; omega)) ?_
        refine ZE.rb rfl rfl (by first | exact Or.inl rfl | exact Or.inr rfl | omega) ?_
        first
          | (rw [if_pos g1] at hr
             rw [← hr, n1 g1]
             exact Itc.no x1.g s1 (h.rk x1))
          | (rw [if_pos g2] at hr
             rw [← hr, n2 g2]
             exact Itc.no x2.g s2 (h.rk x2))
          | (rw [if_pos g3] at hr
             rw [← hr, n3 g3]
             exact Itc.no x3.g s3 (h.rk x3))
          | (have g5n : ¬ tK T l (tE T l (tE T l (tE T l (tE T l f)))) = 3 := g4
             rw [← hr, n5 g4]
             exact Itc.nomark x4.g s4 (h.rk x4) g5n)
          | (simp (disch := omega) only [up_n, C6.1.2.1, c0, c1, c2]
             rw [← hr, ← rn_lr n6 h0.1]
             have hA := hS6.addR h6 g1.2 g2.2 g3.2
             unfold adR at hA
             refine Itc.yes ?_ ?_ hA g4
             · exact (((((z6.g (a := a)).up (by omega)).up (by omega)).up (by omega)).up (by omega)).up (by omega)
             · exact ((((s6.up h29 (by omega)).up h29 (by omega)).up h29 (by omega)).up h29 (by omega)).up h29 (by omega))
      · obtain ⟨s4, v3, w3⟩ := y3 g3
        have x4 : Rk μ μ4 := x3.trans (fun k j p q => w3 k j p (by omega))
        rw [if_neg (fun z => z g3)] at hr
        refine ZE.go hW 9999 rfl (by repeat' first | exact True.intro | assumption | apply And.intro | omega | (simp (disch := omega) only [up_n, up_e]; omega)) ?_
        refine ZE.q0 hW rfl rfl (Nat.le_of_ble_eq_true rfl) (Nat.le_of_ble_eq_true rfl) (k_c_passMark (d := d) hW (hX.rk x4) (by omega) s4) ?_
        rintro rv9 μ6 ⟨rfl, x6, y5, n5⟩
        refine ZE.bp rfl rfl ?_ ?_ <;> intro g4
        · have z6 : Rk μ μ6 := x4.trans x6.k
          have s6 := y5 g4
          have hS6 := h.rk z6
          have C6 := hS6.ct
          have c0 : μ6 4 0 = tV T l (tE T l f) := by
            rw [x6 4 0 (by omega), w3 4 0 (by omega) (by omega), w2 4 0 (by omega) (by omega)]; exact v1
          have c1 : μ6 4 1 = tV T l (tE T l (tE T l f)) := by
            rw [x6 4 1 (by omega), w3 4 1 (by omega) (by omega)]; exact v2
          have c2 : μ6 4 2 = tV T l (tE T l (tE T l (tE T l f))) := by
            rw [x6 4 2 (by omega)]; exact v3
          refine ZE.go hW 9999 rfl (by repeat' first | exact True.intro | assumption | apply And.intro | omega | (simp (disch := omega) only [up_n, up_e]; omega)) ?_
          refine ZE.rb rfl rfl (by first | exact Or.inl rfl | exact Or.inr rfl | omega) ?_
          first
            | (rw [if_pos g1] at hr
               rw [← hr, n1 g1]
               exact Itc.no x1.g s1 (h.rk x1))
            | (rw [if_pos g2] at hr
               rw [← hr, n2 g2]
               exact Itc.no x2.g s2 (h.rk x2))
            | (rw [if_pos g3] at hr
               rw [← hr, n3 g3]
               exact Itc.no x3.g s3 (h.rk x3))
            | (have g5n : ¬ tK T l (tE T l (tE T l (tE T l (tE T l f)))) = 3 := g4
               rw [← hr, n5 g4]
               exact Itc.nomark x4.g s4 (h.rk x4) g5n)
            | (simp (disch := omega) only [up_n, C6.1.2.1, c0, c1, c2]
               rw [← hr, ← rn_lr n6 h0.1]
               have hA := hS6.addR h6 g1.2 g2.2 g3.2
               unfold adR at hA
               refine Itc.yes ?_ ?_ hA g4
               · exact (((((z6.g (a := a)).up (by omega)).up (by omega)).up (by omega)).up (by omega)).up (by omega)
               · exact ((((s6.up h29 (by omega)).up h29 (by omega)).up h29 (by omega)).up h29 (by omega)).up h29 (by omega))
        · refine ZE.go hW 9999 rfl (by repeat' first | exact True.intro | assumption | apply And.intro | omega | (simp (disch := omega) only [up_n, up_e]; omega)) ?_
          refine ZE.rb rfl rfl (by first | exact Or.inl rfl | exact Or.inr rfl | omega) ?_
          first
            | (rw [if_pos g1] at hr
               rw [← hr, n1 g1]
               exact Itc.no x1.g s1 (h.rk x1))
            | (rw [if_pos g2] at hr
               rw [← hr, n2 g2]
               exact Itc.no x2.g s2 (h.rk x2))
            | (rw [if_pos g3] at hr
               rw [← hr, n3 g3]
               exact Itc.no x3.g s3 (h.rk x3))
            | (have g5n : ¬ tK T l (tE T l (tE T l (tE T l (tE T l f)))) = 3 := g4
               rw [← hr, n5 g4]
               exact Itc.nomark x4.g s4 (h.rk x4) g5n)
            | (simp (disch := omega) only [up_n, C6.1.2.1, c0, c1, c2]
               rw [← hr, ← rn_lr n6 h0.1]
               have hA := hS6.addR h6 g1.2 g2.2 g3.2
               unfold adR at hA
               refine Itc.yes ?_ ?_ hA g4
               · exact (((((z6.g (a := a)).up (by omega)).up (by omega)).up (by omega)).up (by omega)).up (by omega)
               · exact ((((s6.up h29 (by omega)).up h29 (by omega)).up h29 (by omega)).up h29 (by omega)).up h29 (by omega))
set_option maxRecDepth 100000 in set_option maxHeartbeats 4000000 in theorem k_c_readThing {f : Int} (h : SR σ μ a N t) (hX : RX μ T l) (hf : 0 ≤ f ∧ f ≤ l) (hT : RT μ T l f) (hN : NA N) : ZQ ext (d + 3) n_X8_readThing [(1010, 0), (100, a)] σ μ (Itc σ a t T l N (tth T l f N) μ) := by
  have hW := h.1.1
  have hSp := h.2.1.1
  have h29 : 22 ≤ a := h.2.2.2.2.2
  have h0 := hN.1
  have hC := h.ct
  have a1 := tEE (T := T) hf
  have a2 := tEE (T := T) (l := l) (f := tE T l f) (by omega)
  have a3 := tEE (T := T) (l := l) (f := tE T l (tE T l f)) (by omega)
  generalize hr : tth T l f N = R
  unfold tth at hr
  refine ZQ.i rfl ?_
  refine ZE.go hW 9999 rfl (by repeat' first | exact True.intro | assumption | apply And.intro | omega | (simp (disch := omega) only [up_n, up_e]; omega)) ?_
  refine ZE.q0 hW rfl rfl (Nat.le_of_ble_eq_true rfl) (Nat.le_of_ble_eq_true rfl) (k_c_step (d := d + 1) hW hX hT.2.1 (by omega)) ?_
  rintro rv9 μ1 ⟨rfl, x1, s1⟩
  have x1 := x1.k
  have b1 : μ1 a 1 = N 0 := (h.rk x1).ct.1.1
  refine ZE.go hW 9999 rfl (by repeat' first | exact True.intro | assumption | apply And.intro | omega | (simp (disch := omega) only [up_n, up_e]; omega)) ?_
  rw [b1]
  refine ZE.q0 hW rfl rfl (Nat.le_of_ble_eq_true rfl) (Nat.le_of_ble_eq_true rfl) (k_c_passNumber (d := d) (k := 0) (lo := 0) (hi := N 0 - 1) hW (hX.rk x1) (by omega) s1 (by omega) (by omega) (by omega)) ?_
  rintro rv9 μ2 ⟨rfl, y1, n1⟩
  refine ZE.bp rfl rfl ?_ ?_ <;> intro g1
  · refine ZE.go hW 9999 rfl (by repeat' first | exact True.intro | assumption | apply And.intro | omega | (simp (disch := omega) only [up_n, up_e]; omega)) ?_
    refine ZE.rb rfl rfl (by first | exact Or.inl rfl | exact Or.inr rfl | omega) ?_
    first
      | (rw [if_pos g1] at hr
         rw [← hr, n1 g1]
         exact Itc.no x1.g s1 (h.rk x1))
      | (rw [if_pos g2] at hr
         rw [← hr, n2 g2]
         exact Itc.no x2.g s2 (h.rk x2))
      | (have g5n : ¬ tK T l (tE T l (tE T l (tE T l f))) = 3 := g3
         rw [← hr, n5 g3]
         exact Itc.nomark x3.g s3 (h.rk x3) g5n)
      | (rw [c0, c1, hv.1.2.2.2.2, ← hr]
         have hb := bt_or8 (a := N (7 + 6 * tV T l (tE T l f) + 5)) (v := tV T l (tE T l (tE T l f))) (by omega) (by omega)
         refine Itc.yes ((z6.g (a := a)).up (by omega)) (s6.up h29 (by omega)) ?_ g3
         exact hS6.setT (by omega) (by omega))
  · obtain ⟨s2, v1, w1⟩ := y1 g1
    have x2 : Rk μ μ2 := x1.trans (fun k j p q => w1 k j p (by omega))
    rw [if_neg (fun z => z g1)] at hr
    refine ZE.go hW 9999 rfl (by repeat' first | exact True.intro | assumption | apply And.intro | omega | (simp (disch := omega) only [up_n, up_e]; omega)) ?_
    refine ZE.q0 hW rfl rfl (Nat.le_of_ble_eq_true rfl) (Nat.le_of_ble_eq_true rfl) (k_c_passNumber (d := d) (k := 1) (lo := 0) (hi := 7) hW (hX.rk x2) (by omega) s2 (by omega) (by omega) (by omega)) ?_
    rintro rv9 μ3 ⟨rfl, y2, n2⟩
    refine ZE.bp rfl rfl ?_ ?_ <;> intro g2
    · refine ZE.go hW 9999 rfl (by repeat' first | exact True.intro | assumption | apply And.intro | omega | (simp (disch := omega) only [up_n, up_e]; omega)) ?_
      refine ZE.rb rfl rfl (by first | exact Or.inl rfl | exact Or.inr rfl | omega) ?_
      first
        | (rw [if_pos g1] at hr
           rw [← hr, n1 g1]
           exact Itc.no x1.g s1 (h.rk x1))
        | (rw [if_pos g2] at hr
           rw [← hr, n2 g2]
           exact Itc.no x2.g s2 (h.rk x2))
        | (have g5n : ¬ tK T l (tE T l (tE T l (tE T l f))) = 3 := g3
           rw [← hr, n5 g3]
           exact Itc.nomark x3.g s3 (h.rk x3) g5n)
        | (rw [c0, c1, hv.1.2.2.2.2, ← hr]
           have hb := bt_or8 (a := N (7 + 6 * tV T l (tE T l f) + 5)) (v := tV T l (tE T l (tE T l f))) (by omega) (by omega)
           refine Itc.yes ((z6.g (a := a)).up (by omega)) (s6.up h29 (by omega)) ?_ g3
           exact hS6.setT (by omega) (by omega))
    · obtain ⟨s3, v2, w2⟩ := y2 g2
      have x3 : Rk μ μ3 := x2.trans (fun k j p q => w2 k j p (by omega))
      rw [if_neg (fun z => z g2)] at hr
      refine ZE.go hW 9999 rfl (by repeat' first | exact True.intro | assumption | apply And.intro | omega | (simp (disch := omega) only [up_n, up_e]; omega)) ?_
      refine ZE.q0 hW rfl rfl (Nat.le_of_ble_eq_true rfl) (Nat.le_of_ble_eq_true rfl) (k_c_passMark (d := d) hW (hX.rk x3) (by omega) s3) ?_
      rintro rv9 μ6 ⟨rfl, x6, y5, n5⟩
      refine ZE.bp rfl rfl ?_ ?_ <;> intro g3
      · have z6 : Rk μ μ6 := x3.trans x6.k
        have s6 := y5 g3
        have hS6 := h.rk z6
        have q1 := g1.2
        have q2 := g2.2
        have c0 : μ6 4 0 = tV T l (tE T l f) := by
          rw [x6 4 0 (by omega), w2 4 0 (by omega) (by omega)]; exact v1
        have c1 : μ6 4 1 = tV T l (tE T l (tE T l f)) := by
          rw [x6 4 1 (by omega)]; exact v2
        have hv := hS6.vw (v := tV T l (tE T l f)) (by omega)
        refine ZE.go hW 9999 rfl (by repeat' first | exact True.intro | assumption | apply And.intro | omega | (simp (disch := omega) only [up_n, up_e]; omega)) ?_
        refine ZE.rb rfl rfl (by first | exact Or.inl rfl | exact Or.inr rfl | omega) ?_
        first
          | (rw [if_pos g1] at hr
             rw [← hr, n1 g1]
             exact Itc.no x1.g s1 (h.rk x1))
          | (rw [if_pos g2] at hr
             rw [← hr, n2 g2]
             exact Itc.no x2.g s2 (h.rk x2))
          | (have g5n : ¬ tK T l (tE T l (tE T l (tE T l f))) = 3 := g3
             rw [← hr, n5 g3]
             exact Itc.nomark x3.g s3 (h.rk x3) g5n)
          | (rw [c0, c1, hv.1.2.2.2.2, ← hr]
             have hb := bt_or8 (a := N (7 + 6 * tV T l (tE T l f) + 5)) (v := tV T l (tE T l (tE T l f))) (by omega) (by omega)
             refine Itc.yes ((z6.g (a := a)).up (by omega)) (s6.up h29 (by omega)) ?_ g3
             exact hS6.setT (by omega) (by omega))
      · refine ZE.go hW 9999 rfl (by repeat' first | exact True.intro | assumption | apply And.intro | omega | (simp (disch := omega) only [up_n, up_e]; omega)) ?_
        refine ZE.rb rfl rfl (by first | exact Or.inl rfl | exact Or.inr rfl | omega) ?_
        first
          | (rw [if_pos g1] at hr
             rw [← hr, n1 g1]
             exact Itc.no x1.g s1 (h.rk x1))
          | (rw [if_pos g2] at hr
             rw [← hr, n2 g2]
             exact Itc.no x2.g s2 (h.rk x2))
          | (have g5n : ¬ tK T l (tE T l (tE T l (tE T l f))) = 3 := g3
             rw [← hr, n5 g3]
             exact Itc.nomark x3.g s3 (h.rk x3) g5n)
          | (rw [c0, c1, hv.1.2.2.2.2, ← hr]
             have hb := bt_or8 (a := N (7 + 6 * tV T l (tE T l f) + 5)) (v := tV T l (tE T l (tE T l f))) (by omega) (by omega)
             refine Itc.yes ((z6.g (a := a)).up (by omega)) (s6.up h29 (by omega)) ?_ g3
             exact hS6.setT (by omega) (by omega))
end
section
variable {L : Nat} {xs : Nat → Int32} {σ : zSh} {d : Nat} {μ : zM} {T : Int → Int} {l a t : Int} {N : Int → Int}
set_option maxRecDepth 100000 in set_option maxHeartbeats 4000000 in theorem k_c_readItem {f : Int} (h : SR σ μ a N t) (hX : RX μ T l) (hf : 0 ≤ f ∧ f ≤ l) (hT : RT μ T l f) (hN : NA N) : ZQ (xext L xs) (d + 6) n_X8_readItem [(1010, 0), (100, a)] σ μ (Itc σ a t T l N (itp T l f N) μ) := by
  have hW := h.1.1
  have hSp := h.2.1.1
  have hC := h.ct
  generalize hr : itp T l f N = R
  unfold itp at hr
  refine ZQ.i rfl ?_
  refine ZE.go hW 9999 rfl (by repeat' first | exact True.intro | assumption | apply And.intro | omega | (simp (disch := omega) only [up_n, up_e]; omega)) ?_
  refine ZE.c0 hW rfl rfl (Nat.le_of_ble_eq_true rfl) (Nat.le_of_ble_eq_true rfl) (k_c_isWord (d := d) hW hX hf hT (by omega) Wd_view (by omega) (by omega) (by omega) (by omega) (by omega) (by omega)) ?_
  refine ZE.bp rfl rfl ?_ ?_ <;> intro g1
  · rw [if_neg g1] at hr
    refine ZE.go hW 9999 rfl (by repeat' first | exact True.intro | assumption | apply And.intro | omega | (simp (disch := omega) only [up_n, up_e]; omega)) ?_
    refine ZE.c0 hW rfl rfl (Nat.le_of_ble_eq_true rfl) (Nat.le_of_ble_eq_true rfl) (k_c_isWord (d := d) hW hX hf hT (by omega) Wd_renter (by omega) (by omega) (by omega) (by omega) (by omega) (by omega)) ?_
    refine ZE.bp rfl rfl ?_ ?_ <;> intro g2
    · rw [if_neg g2] at hr
      refine ZE.go hW 9999 rfl (by repeat' first | exact True.intro | assumption | apply And.intro | omega | (simp (disch := omega) only [up_n, up_e]; omega)) ?_
      refine ZE.c0 hW rfl rfl (Nat.le_of_ble_eq_true rfl) (Nat.le_of_ble_eq_true rfl) (k_c_isWord (d := d) hW hX hf hT (by omega) Wd_thing (by omega) (by omega) (by omega) (by omega) (by omega) (by omega)) ?_
      refine ZE.bp rfl rfl ?_ ?_ <;> intro g3
      · refine ZE.go hW 9999 rfl (by repeat' first | exact True.intro | assumption | apply And.intro | omega | (simp (disch := omega) only [up_n, up_e]; omega)) ?_
        refine ZE.rb rfl rfl (by first | exact Or.inl rfl | exact Or.inr rfl | omega) ?_
        first
          | exact ⟨by rw [bz_t g3], x1, z1, z2⟩
          | exact ⟨by rw [bz_f g3], x1, z1, z2⟩
          | exact ⟨by rw [bz_t g4], x1, z1, z2⟩
          | exact ⟨by rw [bz_f g4], x1, z1, z2⟩
          | (rw [← hr]
             unfold tvw
             rw [if_pos (by omega)]
             exact Itc.no Rk.rfl'.g hT h)
          | (rw [← hr]
             unfold trn
             rw [if_pos (by omega)]
             exact Itc.no Rk.rfl'.g hT h)
          | (rw [if_neg g3] at hr
             rw [← hr]
             exact Itc.no Rk.rfl'.g hT h)
      · rw [if_pos g3] at hr
        refine ZE.go hW 9999 rfl (by repeat' first | exact True.intro | assumption | apply And.intro | omega | (simp (disch := omega) only [up_n, up_e]; omega)) ?_
        refine ZE.q0 hW rfl rfl (Nat.le_of_ble_eq_true rfl) (Nat.le_of_ble_eq_true rfl) (k_c_readThing (d := d + 2) h hX hf hT hN) ?_
        rintro rv9 μ1 ⟨rfl, x1, z1, z2⟩
        rw [hr] at z1 z2 ⊢
        refine ZE.bp rfl rfl ?_ ?_ <;> intro g4
        · refine ZE.go hW 9999 rfl (by repeat' first | exact True.intro | assumption | apply And.intro | omega | (simp (disch := omega) only [up_n, up_e]; omega)) ?_
          refine ZE.rb rfl rfl (by first | exact Or.inl rfl | exact Or.inr rfl | omega) ?_
          first
            | exact ⟨by rw [bz_t g3], x1, z1, z2⟩
            | exact ⟨by rw [bz_f g3], x1, z1, z2⟩
            | exact ⟨by rw [bz_t g4], x1, z1, z2⟩
            | exact ⟨by rw [bz_f g4], x1, z1, z2⟩
            | (rw [← hr]
               unfold tvw
               rw [if_pos (by omega)]
               exact Itc.no Rk.rfl'.g hT h)
            | (rw [← hr]
               unfold trn
               rw [if_pos (by omega)]
               exact Itc.no Rk.rfl'.g hT h)
            | (rw [if_neg g3] at hr
               rw [← hr]
               exact Itc.no Rk.rfl'.g hT h)
        · refine ZE.go hW 9999 rfl (by repeat' first | exact True.intro | assumption | apply And.intro | omega | (simp (disch := omega) only [up_n, up_e]; omega)) ?_
          refine ZE.rb rfl rfl (by first | exact Or.inl rfl | exact Or.inr rfl | omega) ?_
          first
            | exact ⟨by rw [bz_t g3], x1, z1, z2⟩
            | exact ⟨by rw [bz_f g3], x1, z1, z2⟩
            | exact ⟨by rw [bz_t g4], x1, z1, z2⟩
            | exact ⟨by rw [bz_f g4], x1, z1, z2⟩
            | (rw [← hr]
               unfold tvw
               rw [if_pos (by omega)]
               exact Itc.no Rk.rfl'.g hT h)
            | (rw [← hr]
               unfold trn
               rw [if_pos (by omega)]
               exact Itc.no Rk.rfl'.g hT h)
            | (rw [if_neg g3] at hr
               rw [← hr]
               exact Itc.no Rk.rfl'.g hT h)
    · rw [if_pos g2] at hr
      refine ZE.go hW 9999 rfl (by repeat' first | exact True.intro | assumption | apply And.intro | omega | (simp (disch := omega) only [up_n, up_e]; omega)) ?_
      refine ZE.b rfl (by omega) (by omega) ?_ ?_ <;> intro g3
      · refine ZE.go hW 9999 rfl (by repeat' first | exact True.intro | assumption | apply And.intro | omega | (simp (disch := omega) only [up_n, up_e]; omega)) ?_
        refine ZE.rb rfl rfl (by first | exact Or.inl rfl | exact Or.inr rfl | omega) ?_
        first
          | exact ⟨by rw [bz_t g3], x1, z1, z2⟩
          | exact ⟨by rw [bz_f g3], x1, z1, z2⟩
          | exact ⟨by rw [bz_t g4], x1, z1, z2⟩
          | exact ⟨by rw [bz_f g4], x1, z1, z2⟩
          | (rw [← hr]
             unfold tvw
             rw [if_pos (by omega)]
             exact Itc.no Rk.rfl'.g hT h)
          | (rw [← hr]
             unfold trn
             rw [if_pos (by omega)]
             exact Itc.no Rk.rfl'.g hT h)
          | (rw [if_neg g3] at hr
             rw [← hr]
             exact Itc.no Rk.rfl'.g hT h)
      · refine ZE.go hW 9999 rfl (by repeat' first | exact True.intro | assumption | apply And.intro | omega | (simp (disch := omega) only [up_n, up_e]; omega)) ?_
        refine ZE.q0 hW rfl rfl (Nat.le_of_ble_eq_true rfl) (Nat.le_of_ble_eq_true rfl) (k_c_readRenter (d := d + 2) h hX hf hT hN (by omega)) ?_
        rintro rv9 μ1 ⟨rfl, x1, z1, z2⟩
        rw [hr] at z1 z2 ⊢
        refine ZE.bp rfl rfl ?_ ?_ <;> intro g4
        · refine ZE.go hW 9999 rfl (by repeat' first | exact True.intro | assumption | apply And.intro | omega | (simp (disch := omega) only [up_n, up_e]; omega)) ?_
          refine ZE.rb rfl rfl (by first | exact Or.inl rfl | exact Or.inr rfl | omega) ?_
          first
            | exact ⟨by rw [bz_t g3], x1, z1, z2⟩
            | exact ⟨by rw [bz_f g3], x1, z1, z2⟩
            | exact ⟨by rw [bz_t g4], x1, z1, z2⟩
            | exact ⟨by rw [bz_f g4], x1, z1, z2⟩
            | (rw [← hr]
               unfold tvw
               rw [if_pos (by omega)]
               exact Itc.no Rk.rfl'.g hT h)
            | (rw [← hr]
               unfold trn
               rw [if_pos (by omega)]
               exact Itc.no Rk.rfl'.g hT h)
            | (rw [if_neg g3] at hr
               rw [← hr]
               exact Itc.no Rk.rfl'.g hT h)
        · refine ZE.go hW 9999 rfl (by repeat' first | exact True.intro | assumption | apply And.intro | omega | (simp (disch := omega) only [up_n, up_e]; omega)) ?_
          refine ZE.rb rfl rfl (by first | exact Or.inl rfl | exact Or.inr rfl | omega) ?_
          first
            | exact ⟨by rw [bz_t g3], x1, z1, z2⟩
            | exact ⟨by rw [bz_f g3], x1, z1, z2⟩
            | exact ⟨by rw [bz_t g4], x1, z1, z2⟩
            | exact ⟨by rw [bz_f g4], x1, z1, z2⟩
            | (rw [← hr]
               unfold tvw
               rw [if_pos (by omega)]
               exact Itc.no Rk.rfl'.g hT h)
            | (rw [← hr]
               unfold trn
               rw [if_pos (by omega)]
               exact Itc.no Rk.rfl'.g hT h)
            | (rw [if_neg g3] at hr
               rw [← hr]
               exact Itc.no Rk.rfl'.g hT h)
  · rw [if_pos g1] at hr
    refine ZE.go hW 9999 rfl (by repeat' first | exact True.intro | assumption | apply And.intro | omega | (simp (disch := omega) only [up_n, up_e]; omega)) ?_
    refine ZE.b rfl (by omega) (by omega) ?_ ?_ <;> intro g2
    · refine ZE.go hW 9999 rfl (by repeat' first | exact True.intro | assumption | apply And.intro | omega | (simp (disch := omega) only [up_n, up_e]; omega)) ?_
      refine ZE.rb rfl rfl (by first | exact Or.inl rfl | exact Or.inr rfl | omega) ?_
      first
        | exact ⟨by rw [bz_t g3], x1, z1, z2⟩
        | exact ⟨by rw [bz_f g3], x1, z1, z2⟩
        | exact ⟨by rw [bz_t g4], x1, z1, z2⟩
        | exact ⟨by rw [bz_f g4], x1, z1, z2⟩
        | (rw [← hr]
           unfold tvw
           rw [if_pos (by omega)]
           exact Itc.no Rk.rfl'.g hT h)
        | (rw [← hr]
           unfold trn
           rw [if_pos (by omega)]
           exact Itc.no Rk.rfl'.g hT h)
        | (rw [if_neg g3] at hr
           rw [← hr]
           exact Itc.no Rk.rfl'.g hT h)
    · refine ZE.go hW 9999 rfl (by repeat' first | exact True.intro | assumption | apply And.intro | omega | (simp (disch := omega) only [up_n, up_e]; omega)) ?_
      refine ZE.q0 hW rfl rfl (Nat.le_of_ble_eq_true rfl) (Nat.le_of_ble_eq_true rfl) (k_c_readView (d := d + 2) h hX hf hT hN (by omega)) ?_
      rintro rv9 μ1 ⟨rfl, x1, z1, z2⟩
      rw [hr] at z1 z2 ⊢
      refine ZE.bp rfl rfl ?_ ?_ <;> intro g3
      · refine ZE.go hW 9999 rfl (by repeat' first | exact True.intro | assumption | apply And.intro | omega | (simp (disch := omega) only [up_n, up_e]; omega)) ?_
        refine ZE.rb rfl rfl (by first | exact Or.inl rfl | exact Or.inr rfl | omega) ?_
        first
          | exact ⟨by rw [bz_t g3], x1, z1, z2⟩
          | exact ⟨by rw [bz_f g3], x1, z1, z2⟩
          | exact ⟨by rw [bz_t g4], x1, z1, z2⟩
          | exact ⟨by rw [bz_f g4], x1, z1, z2⟩
          | (rw [← hr]
             unfold tvw
             rw [if_pos (by omega)]
             exact Itc.no Rk.rfl'.g hT h)
          | (rw [← hr]
             unfold trn
             rw [if_pos (by omega)]
             exact Itc.no Rk.rfl'.g hT h)
          | (rw [if_neg g3] at hr
             rw [← hr]
             exact Itc.no Rk.rfl'.g hT h)
      · refine ZE.go hW 9999 rfl (by repeat' first | exact True.intro | assumption | apply And.intro | omega | (simp (disch := omega) only [up_n, up_e]; omega)) ?_
        refine ZE.rb rfl rfl (by first | exact Or.inl rfl | exact Or.inr rfl | omega) ?_
        first
          | exact ⟨by rw [bz_t g3], x1, z1, z2⟩
          | exact ⟨by rw [bz_f g3], x1, z1, z2⟩
          | exact ⟨by rw [bz_t g4], x1, z1, z2⟩
          | exact ⟨by rw [bz_f g4], x1, z1, z2⟩
          | (rw [← hr]
             unfold tvw
             rw [if_pos (by omega)]
             exact Itc.no Rk.rfl'.g hT h)
          | (rw [← hr]
             unfold trn
             rw [if_pos (by omega)]
             exact Itc.no Rk.rfl'.g hT h)
          | (rw [if_neg g3] at hr
             rw [← hr]
             exact Itc.no Rk.rfl'.g hT h)
end
