theorem no01 {P : Prop} : (0 : Int) = 1 → P := fun z => absurd z (by decide)
section
variable {ext : List xC} {σ : zSh} {d : Nat} {μ : zM}
set_option maxRecDepth 100000 in set_option maxHeartbeats 4000000 in theorem k_m_takesRenter {f : Int} (hW : Wl σ) (hT : TT μ) (hf : 0 ≤ f ∧ f ≤ μ 168 20) (hS : TS μ f) (hN : NA (μ 182)) : ZQ ext (d + 5) n_X12_takesRenter [(1161, 0)] σ μ (Ita (trn (μ 181) (μ 168 20) f (μ 182)) μ) := by
  have h0 := hN.2.1
  have a1 := tEE (T := μ 181) hf
  have a2 := tEE (T := μ 181) (l := μ 168 20) (f := tE (μ 181) (μ 168 20) f) (by omega)
  have a3 := tEE (T := μ 181) (l := μ 168 20) (f := tE (μ 181) (μ 168 20) (tE (μ 181) (μ 168 20) f)) (by omega)
  generalize hr : trn (μ 181) (μ 168 20) f (μ 182) = R
  unfold trn at hr
  refine ZQ.i rfl ?_
  refine ZE.go hW 9999 rfl (by and_intros <;> first | exact True.intro | omega | assumption) ?_
  refine ZE.b rfl (by omega) (by omega) ?_ ?_ <;> intro g1
  · refine ZE.go hW 9999 rfl (by and_intros <;> first | exact True.intro | omega | assumption) ?_
    refine ZE.q0 hW rfl rfl (Nat.le_of_ble_eq_true rfl) (Nat.le_of_ble_eq_true rfl) (k_m_goBehind (d := d + 1) hW hT hf hS) ?_
    rintro rv9 μ1 ⟨rfl, x1, s1⟩
    have f175 : μ1 182 = μ 182 := funext fun j => x1 182 j (by omega)
    have x1 := x1.x
    rw [if_neg g1] at hr
    refine ZE.go hW 9999 rfl (by and_intros <;> first | exact True.intro | omega | assumption) ?_
    refine ZE.q0 hW rfl rfl (Nat.le_of_ble_eq_true rfl) (Nat.le_of_ble_eq_true rfl) (k_m_takes (d := d) (k := 0) (lo := 1) (hi := 9) hW (x1.tt hT) (by rw [x1.l]; omega) s1 (by omega) (by omega) (by omega)) ?_
    rintro rv9 μ2 ⟨rfl, y1, n1⟩
    rw [x1.t, x1.l] at y1 n1
    rw [x1.t, x1.l]
    refine ZE.bp rfl rfl ?_ ?_ <;> intro g2
    · refine ZE.go hW 9999 rfl (by and_intros <;> first | exact True.intro | omega | assumption) ?_
      refine ZE.rb rfl rfl (by first | exact Or.inl rfl | exact Or.inr rfl | omega) ?_
      first
        | (rw [if_pos g1] at hr
           rw [← hr]
           exact ⟨rfl, fun _ _ _ _ _ => rfl, hS, no01⟩)
        | (rw [if_pos g2] at hr
           rw [← hr, n1 g2]
           exact ⟨rfl, x1, s1, no01⟩)
        | (rw [if_pos g3] at hr
           rw [← hr, n2 g3]
           exact ⟨rfl, x2, s2, no01⟩)
        | (rw [if_pos g4] at hr
           rw [← hr, n3 g4]
           exact ⟨rfl, x3, s3, no01⟩)
        | (rw [← hr]
           refine ⟨rfl, ?_, ?_, fun _ => ?_⟩
           · intro k j p q r
             rw [up_n (by omega), up_n (by omega), up_n (by omega), up_n (by omega)]
             exact x4 k j p q r
           · refine s4.cg (fun j a b => ?_) (funext fun j => ?_)
             · rw [up_n (by omega), up_n (by omega), up_n (by omega), up_n (by omega)]
             · rw [up_n (by omega), up_n (by omega), up_n (by omega), up_n (by omega)]
           · funext j
             simp only [up_row, c0, c1, v3, b0]
             rw [f4]
             show _ = lrN (μ 182) _ _ _ j
             unfold ex1 lrN
             repeat' split
             all_goals first
               | rfl
               | (exfalso; omega))
    · obtain ⟨s2, v1, w1⟩ := y1 g2
      have x2 : Fx μ μ2 := x1.trans (fun k j p q r => w1 k j p (by omega))
      rw [if_neg (fun z => z g2)] at hr
      refine ZE.go hW 9999 rfl (by and_intros <;> first | exact True.intro | omega | assumption) ?_
      refine ZE.q0 hW rfl rfl (Nat.le_of_ble_eq_true rfl) (Nat.le_of_ble_eq_true rfl) (k_m_takes (d := d) (k := 1) (lo := 0) (hi := 999) hW (x2.tt hT) (by rw [x2.l]; omega) s2 (by omega) (by omega) (by omega)) ?_
      rintro rv9 μ3 ⟨rfl, y2, n2⟩
      rw [x2.t, x2.l] at y2 n2
      rw [x2.t, x2.l]
      refine ZE.bp rfl rfl ?_ ?_ <;> intro g3
      · refine ZE.go hW 9999 rfl (by and_intros <;> first | exact True.intro | omega | assumption) ?_
        refine ZE.rb rfl rfl (by first | exact Or.inl rfl | exact Or.inr rfl | omega) ?_
        first
          | (rw [if_pos g1] at hr
             rw [← hr]
             exact ⟨rfl, fun _ _ _ _ _ => rfl, hS, no01⟩)
          | (rw [if_pos g2] at hr
             rw [← hr, n1 g2]
             exact ⟨rfl, x1, s1, no01⟩)
          | (rw [if_pos g3] at hr
             rw [← hr, n2 g3]
             exact ⟨rfl, x2, s2, no01⟩)
          | (rw [if_pos g4] at hr
             rw [← hr, n3 g4]
             exact ⟨rfl, x3, s3, no01⟩)
          | (rw [← hr]
             refine ⟨rfl, ?_, ?_, fun _ => ?_⟩
             · intro k j p q r
               rw [up_n (by omega), up_n (by omega), up_n (by omega), up_n (by omega)]
               exact x4 k j p q r
             · refine s4.cg (fun j a b => ?_) (funext fun j => ?_)
               · rw [up_n (by omega), up_n (by omega), up_n (by omega), up_n (by omega)]
               · rw [up_n (by omega), up_n (by omega), up_n (by omega), up_n (by omega)]
             · funext j
               simp only [up_row, c0, c1, v3, b0]
               rw [f4]
               show _ = lrN (μ 182) _ _ _ j
               unfold ex1 lrN
               repeat' split
               all_goals first
                 | rfl
                 | (exfalso; omega))
      · obtain ⟨s3, v2, w2⟩ := y2 g3
        have x3 : Fx μ μ3 := x2.trans (fun k j p q r => w2 k j p (by omega))
        rw [if_neg (fun z => z g3)] at hr
        refine ZE.go hW 9999 rfl (by and_intros <;> first | exact True.intro | omega | assumption) ?_
        refine ZE.q0 hW rfl rfl (Nat.le_of_ble_eq_true rfl) (Nat.le_of_ble_eq_true rfl) (k_m_takes (d := d) (k := 2) (lo := 0) (hi := 6) hW (x3.tt hT) (by rw [x3.l]; omega) s3 (by omega) (by omega) (by omega)) ?_
        rintro rv9 μ4 ⟨rfl, y3, n3⟩
        rw [x3.t, x3.l] at y3 n3
        rw [x3.t, x3.l]
        refine ZE.bp rfl rfl ?_ ?_ <;> intro g4
        · obtain ⟨s4, v3, w3⟩ := y3 g4
          have x4 : Fx μ μ4 := x3.trans (fun k j p q r => w3 k j p (by omega))
          rw [if_neg (fun z => z g4)] at hr
          have f4 : μ4 182 = μ 182 := by
            funext j
            rw [w3 182 j (by omega) (by omega), w2 182 j (by omega) (by omega), w1 182 j (by omega) (by omega)]
            exact congrFun f175 j
          have b0 : μ4 182 1 = μ 182 1 := congrFun f4 1
          have c0 : μ4 183 0 = tV (μ 181) (μ 168 20) (tE (μ 181) (μ 168 20) f) := by
            rw [w3 183 0 (by omega) (by omega), w2 183 0 (by omega) (by omega)]; exact v1
          have c1 : μ4 183 1 = tV (μ 181) (μ 168 20) (tE (μ 181) (μ 168 20) (tE (μ 181) (μ 168 20) f)) := by
            rw [w3 183 1 (by omega) (by omega)]; exact v2
          refine ZE.go hW 9999 rfl (by and_intros <;> first | exact True.intro | omega | assumption) ?_
          refine ZE.rb rfl rfl (by first | exact Or.inl rfl | exact Or.inr rfl | omega) ?_
          first
            | (rw [if_pos g1] at hr
               rw [← hr]
               exact ⟨rfl, fun _ _ _ _ _ => rfl, hS, no01⟩)
            | (rw [if_pos g2] at hr
               rw [← hr, n1 g2]
               exact ⟨rfl, x1, s1, no01⟩)
            | (rw [if_pos g3] at hr
               rw [← hr, n2 g3]
               exact ⟨rfl, x2, s2, no01⟩)
            | (rw [if_pos g4] at hr
               rw [← hr, n3 g4]
               exact ⟨rfl, x3, s3, no01⟩)
            | (rw [← hr]
               refine ⟨rfl, ?_, ?_, fun _ => ?_⟩
               · intro k j p q r
                 rw [up_n (by omega), up_n (by omega), up_n (by omega), up_n (by omega)]
                 exact x4 k j p q r
               · refine s4.cg (fun j a b => ?_) (funext fun j => ?_)
                 · rw [up_n (by omega), up_n (by omega), up_n (by omega), up_n (by omega)]
                 · rw [up_n (by omega), up_n (by omega), up_n (by omega), up_n (by omega)]
               · funext j
                 simp only [up_row, c0, c1, v3, b0]
                 rw [f4]
                 show _ = lrN (μ 182) _ _ _ j
                 unfold ex1 lrN
                 repeat' split
                 all_goals first
                   | rfl
                   | (exfalso; omega))
        · refine ZE.go hW 9999 rfl (by and_intros <;> first | exact True.intro | omega | assumption) ?_
          refine ZE.rb rfl rfl (by first | exact Or.inl rfl | exact Or.inr rfl | omega) ?_
          first
            | (rw [if_pos g1] at hr
               rw [← hr]
               exact ⟨rfl, fun _ _ _ _ _ => rfl, hS, no01⟩)
            | (rw [if_pos g2] at hr
               rw [← hr, n1 g2]
               exact ⟨rfl, x1, s1, no01⟩)
            | (rw [if_pos g3] at hr
               rw [← hr, n2 g3]
               exact ⟨rfl, x2, s2, no01⟩)
            | (rw [if_pos g4] at hr
               rw [← hr, n3 g4]
               exact ⟨rfl, x3, s3, no01⟩)
            | (rw [← hr]
               refine ⟨rfl, ?_, ?_, fun _ => ?_⟩
               · intro k j p q r
                 rw [up_n (by omega), up_n (by omega), up_n (by omega), up_n (by omega)]
                 exact x4 k j p q r
               · refine s4.cg (fun j a b => ?_) (funext fun j => ?_)
                 · rw [up_n (by omega), up_n (by omega), up_n (by omega), up_n (by omega)]
                 · rw [up_n (by omega), up_n (by omega), up_n (by omega), up_n (by omega)]
               · funext j
                 simp only [up_row, c0, c1, v3, b0]
                 rw [f4]
                 show _ = lrN (μ 182) _ _ _ j
                 unfold ex1 lrN
                 repeat' split
                 all_goals first
                   | rfl
                   | (exfalso; omega))
  · refine ZE.go hW 9999 rfl (by and_intros <;> first | exact True.intro | omega | assumption) ?_
    refine ZE.rb rfl rfl (by first | exact Or.inl rfl | exact Or.inr rfl | omega) ?_
    first
      | (rw [if_pos g1] at hr
         rw [← hr]
         exact ⟨rfl, fun _ _ _ _ _ => rfl, hS, no01⟩)
      | (rw [if_pos g2] at hr
         rw [← hr, n1 g2]
         exact ⟨rfl, x1, s1, no01⟩)
      | (rw [if_pos g3] at hr
         rw [← hr, n2 g3]
         exact ⟨rfl, x2, s2, no01⟩)
      | (rw [if_pos g4] at hr
         rw [← hr, n3 g4]
         exact ⟨rfl, x3, s3, no01⟩)
      | (rw [← hr]
         refine ⟨rfl, ?_, ?_, fun _ => ?_⟩
         · intro k j p q r
           rw [up_n (by omega), up_n (by omega), up_n (by omega), up_n (by omega)]
           exact x4 k j p q r
         · refine s4.cg (fun j a b => ?_) (funext fun j => ?_)
           · rw [up_n (by omega), up_n (by omega), up_n (by omega), up_n (by omega)]
           · rw [up_n (by omega), up_n (by omega), up_n (by omega), up_n (by omega)]
         · funext j
           simp only [up_row, c0, c1, v3, b0]
           rw [f4]
           show _ = lrN (μ 182) _ _ _ j
           unfold ex1 lrN
           repeat' split
           all_goals first
             | rfl
             | (exfalso; omega))
set_option maxRecDepth 100000 in set_option maxHeartbeats 4000000 in theorem k_m_takesThing {f : Int} (hW : Wl σ) (hT : TT μ) (hf : 0 ≤ f ∧ f ≤ μ 168 20) (hS : TS μ f) (hN : NA (μ 182)) : ZQ ext (d + 5) n_X12_takesThing [(1161, 0)] σ μ (Ita (tth (μ 181) (μ 168 20) f (μ 182)) μ) := by
  have h0 := hN.1
  have a1 := tEE (T := μ 181) hf
  have a2 := tEE (T := μ 181) (l := μ 168 20) (f := tE (μ 181) (μ 168 20) f) (by omega)
  have a3 := tEE (T := μ 181) (l := μ 168 20) (f := tE (μ 181) (μ 168 20) (tE (μ 181) (μ 168 20) f)) (by omega)
  generalize hr : tth (μ 181) (μ 168 20) f (μ 182) = R
  unfold tth at hr
  refine ZQ.i rfl ?_
  refine ZE.go hW 9999 rfl (by and_intros <;> first | exact True.intro | omega | assumption) ?_
  refine ZE.q0 hW rfl rfl (Nat.le_of_ble_eq_true rfl) (Nat.le_of_ble_eq_true rfl) (k_m_goBehind (d := d + 1) hW hT hf hS) ?_
  rintro rv9 μ1 ⟨rfl, x1, s1⟩
  have f175 : μ1 182 = μ 182 := funext fun j => x1 182 j (by omega)
  have b1 : μ1 182 0 = μ 182 0 := congrFun f175 0
  have x1 := x1.x
  refine ZE.go hW 9999 rfl (by and_intros <;> first | exact True.intro | omega | assumption) ?_
  refine ZE.q0 hW rfl rfl (Nat.le_of_ble_eq_true rfl) (Nat.le_of_ble_eq_true rfl) (k_m_takes (d := d) (k := 0) (lo := 0) (hi := μ1 182 0 - 1) hW (x1.tt hT) (by rw [x1.l]; omega) s1 (by omega) (by omega) (by omega)) ?_
  rintro rv9 μ2 ⟨rfl, y1, n1⟩
  rw [x1.t, x1.l, b1] at y1 n1
  rw [x1.t, x1.l, b1]
  refine ZE.bp rfl rfl ?_ ?_ <;> intro g1
  · refine ZE.go hW 9999 rfl (by and_intros <;> first | exact True.intro | omega | assumption) ?_
    refine ZE.rb rfl rfl (by first | exact Or.inl rfl | exact Or.inr rfl | omega) ?_
    first
      | (rw [if_pos g1] at hr
         rw [← hr, n1 g1]
         exact ⟨rfl, x1, s1, no01⟩)
      | (rw [if_pos g2] at hr
         rw [← hr, n2 g2]
         exact ⟨rfl, x2, s2, no01⟩)
      | (rw [← hr]
         refine ⟨rfl, ?_, ?_, fun _ => ?_⟩
         · intro k j p q r
           rw [up_n (by omega)]
           exact x3 k j p q r
         · refine s3.cg (fun j a b => ?_) (funext fun j => ?_)
           · rw [up_n (by omega)]
           · rw [up_n (by omega)]
         · rw [up_row, c0, v2, f3]
           rfl)
  · obtain ⟨s2, v1, w1⟩ := y1 g1
    have x2 : Fx μ μ2 := x1.trans (fun k j p q r => w1 k j p (by omega))
    rw [if_neg (fun z => z g1)] at hr
    refine ZE.go hW 9999 rfl (by and_intros <;> first | exact True.intro | omega | assumption) ?_
    refine ZE.q0 hW rfl rfl (Nat.le_of_ble_eq_true rfl) (Nat.le_of_ble_eq_true rfl) (k_m_takes (d := d) (k := 1) (lo := 0) (hi := 7) hW (x2.tt hT) (by rw [x2.l]; omega) s2 (by omega) (by omega) (by omega)) ?_
    rintro rv9 μ3 ⟨rfl, y2, n2⟩
    rw [x2.t, x2.l] at y2 n2
    rw [x2.t, x2.l]
    refine ZE.bp rfl rfl ?_ ?_ <;> intro g2
    · obtain ⟨s3, v2, w2⟩ := y2 g2
      have x3 : Fx μ μ3 := x2.trans (fun k j p q r => w2 k j p (by omega))
      rw [if_neg (fun z => z g2)] at hr
      have f3 : μ3 182 = μ 182 := by
        funext j
        rw [w2 182 j (by omega) (by omega), w1 182 j (by omega) (by omega)]
        exact congrFun f175 j
      have c0 : μ3 183 0 = tV (μ 181) (μ 168 20) (tE (μ 181) (μ 168 20) f) := by
        rw [w2 183 0 (by omega) (by omega)]; exact v1
      have q1 := g1.2
      have q2 := g2.2
      refine ZE.go hW 9999 rfl (by and_intros <;> first | exact True.intro | omega | assumption) ?_
      refine ZE.rb rfl rfl (by first | exact Or.inl rfl | exact Or.inr rfl | omega) ?_
      first
        | (rw [if_pos g1] at hr
           rw [← hr, n1 g1]
           exact ⟨rfl, x1, s1, no01⟩)
        | (rw [if_pos g2] at hr
           rw [← hr, n2 g2]
           exact ⟨rfl, x2, s2, no01⟩)
        | (rw [← hr]
           refine ⟨rfl, ?_, ?_, fun _ => ?_⟩
           · intro k j p q r
             rw [up_n (by omega)]
             exact x3 k j p q r
           · refine s3.cg (fun j a b => ?_) (funext fun j => ?_)
             · rw [up_n (by omega)]
             · rw [up_n (by omega)]
           · rw [up_row, c0, v2, f3]
             rfl)
    · refine ZE.go hW 9999 rfl (by and_intros <;> first | exact True.intro | omega | assumption) ?_
      refine ZE.rb rfl rfl (by first | exact Or.inl rfl | exact Or.inr rfl | omega) ?_
      first
        | (rw [if_pos g1] at hr
           rw [← hr, n1 g1]
           exact ⟨rfl, x1, s1, no01⟩)
        | (rw [if_pos g2] at hr
           rw [← hr, n2 g2]
           exact ⟨rfl, x2, s2, no01⟩)
        | (rw [← hr]
           refine ⟨rfl, ?_, ?_, fun _ => ?_⟩
           · intro k j p q r
             rw [up_n (by omega)]
             exact x3 k j p q r
           · refine s3.cg (fun j a b => ?_) (funext fun j => ?_)
             · rw [up_n (by omega)]
             · rw [up_n (by omega)]
           · rw [up_row, c0, v2, f3]
             rfl)
set_option maxRecDepth 100000 in set_option maxHeartbeats 4000000 in theorem k_m_takesItem {f : Int} (hW : Wl σ) (hT : TT μ) (hf : 0 ≤ f ∧ f ≤ μ 168 20) (hS : TS μ f) (hN : NA (μ 182)) (hk : tK (μ 181) (μ 168 20) f ≠ 0) : ZQ ext (d + 6) n_X12_takesItem [(1161, 0)] σ μ (Ita (itp (μ 181) (μ 168 20) f (μ 182)) μ) := by
  have hi := itp_I (T := μ 181) hf hk hN
  generalize hr : itp (μ 181) (μ 168 20) f (μ 182) = R at hi
  unfold itp at hr
  refine ZQ.i rfl ?_
  refine ZE.go hW 9999 rfl (by and_intros <;> first | exact True.intro | omega | assumption) ?_
  refine ZE.c0 hW rfl rfl (Nat.le_of_ble_eq_true rfl) (Nat.le_of_ble_eq_true rfl) (k_m_isCalled (d := d + 5) hW hT hf hS (by omega) (by omega) (by omega) (by omega) (by omega) (by omega) (by omega)) ?_
  refine ZE.bp rfl rfl ?_ ?_ <;> intro g1
  · rw [if_neg g1] at hr
    refine ZE.go hW 9999 rfl (by and_intros <;> first | exact True.intro | omega | assumption) ?_
    refine ZE.c0 hW rfl rfl (Nat.le_of_ble_eq_true rfl) (Nat.le_of_ble_eq_true rfl) (k_m_isCalled (d := d + 5) hW hT hf hS (by omega) (by omega) (by omega) (by omega) (by omega) (by omega) (by omega)) ?_
    refine ZE.bp rfl rfl ?_ ?_ <;> intro g2
    · rw [if_neg g2] at hr
      refine ZE.go hW 9999 rfl (by and_intros <;> first | exact True.intro | omega | assumption) ?_
      refine ZE.c0 hW rfl rfl (Nat.le_of_ble_eq_true rfl) (Nat.le_of_ble_eq_true rfl) (k_m_isCalled (d := d + 5) hW hT hf hS (by omega) (by omega) (by omega) (by omega) (by omega) (by omega) (by omega)) ?_
      refine ZE.bp rfl rfl ?_ ?_ <;> intro g3
      · refine ZE.go hW 9999 rfl (by and_intros <;> first | exact True.intro | omega | assumption) ?_
        refine ZE.rb rfl rfl (by first | exact Or.inl rfl | exact Or.inr rfl | exact hi.1) ?_
        first
          | exact ⟨rfl, x1, s1, z1⟩
          | (rw [if_neg g3] at hr
             rw [← hr]
             exact ⟨rfl, fun _ _ _ _ _ => rfl, hS, no01⟩)
          | (refine ⟨?_, x1, s1, z1⟩
             have := hi.1
             refine congrArg (fun x => some ((0 : Nat), x)) ?_
             omega)
      · rw [if_pos g3] at hr
        refine ZE.go hW 9999 rfl (by and_intros <;> first | exact True.intro | omega | assumption) ?_
        refine ZE.q0 hW rfl rfl (Nat.le_of_ble_eq_true rfl) (Nat.le_of_ble_eq_true rfl) (k_m_takesThing (d := d) hW hT hf hS hN) ?_
        rintro rv9 μ1 ⟨rfl, x1, s1, z1⟩
        rw [hr] at s1 z1 ⊢
        refine ZE.b0 rfl (by have := hi.1; omega) ?_ ?_ <;> intro g4
        · refine ZE.go hW 9999 rfl (by and_intros <;> first | exact True.intro | omega | assumption) ?_
          refine ZE.rb rfl rfl (by first | exact Or.inl rfl | exact Or.inr rfl | exact hi.1) ?_
          first
            | exact ⟨rfl, x1, s1, z1⟩
            | (rw [if_neg g3] at hr
               rw [← hr]
               exact ⟨rfl, fun _ _ _ _ _ => rfl, hS, no01⟩)
            | (refine ⟨?_, x1, s1, z1⟩
               have := hi.1
               refine congrArg (fun x => some ((0 : Nat), x)) ?_
               omega)
        · refine ZE.go hW 9999 rfl (by and_intros <;> first | exact True.intro | omega | assumption) ?_
          refine ZE.rb rfl rfl (by first | exact Or.inl rfl | exact Or.inr rfl | exact hi.1) ?_
          first
            | exact ⟨rfl, x1, s1, z1⟩
            | (rw [if_neg g3] at hr
               rw [← hr]
               exact ⟨rfl, fun _ _ _ _ _ => rfl, hS, no01⟩)
            | (refine ⟨?_, x1, s1, z1⟩
               have := hi.1
               refine congrArg (fun x => some ((0 : Nat), x)) ?_
               omega)
    · rw [if_pos g2] at hr
      refine ZE.go hW 9999 rfl (by and_intros <;> first | exact True.intro | omega | assumption) ?_
      refine ZE.q0 hW rfl rfl (Nat.le_of_ble_eq_true rfl) (Nat.le_of_ble_eq_true rfl) (k_m_takesRenter (d := d) hW hT hf hS hN) ?_
      rintro rv9 μ1 ⟨rfl, x1, s1, z1⟩
      rw [hr] at s1 z1 ⊢
      refine ZE.rb rfl rfl (by first | exact Or.inl rfl | exact Or.inr rfl | exact hi.1) ?_
      first
        | exact ⟨rfl, x1, s1, z1⟩
        | (rw [if_neg g3] at hr
           rw [← hr]
           exact ⟨rfl, fun _ _ _ _ _ => rfl, hS, no01⟩)
        | (refine ⟨?_, x1, s1, z1⟩
           have := hi.1
           refine congrArg (fun x => some ((0 : Nat), x)) ?_
           omega)
  · rw [if_pos g1] at hr
    refine ZE.go hW 9999 rfl (by and_intros <;> first | exact True.intro | omega | assumption) ?_
    refine ZE.q0 hW rfl rfl (Nat.le_of_ble_eq_true rfl) (Nat.le_of_ble_eq_true rfl) (k_m_takesView (d := d) hW hT hf hS hN) ?_
    rintro rv9 μ1 ⟨rfl, x1, s1, z1⟩
    rw [hr] at s1 z1 ⊢
    refine ZE.rb rfl rfl (by first | exact Or.inl rfl | exact Or.inr rfl | exact hi.1) ?_
    first
      | exact ⟨rfl, x1, s1, z1⟩
      | (rw [if_neg g3] at hr
         rw [← hr]
         exact ⟨rfl, fun _ _ _ _ _ => rfl, hS, no01⟩)
      | (refine ⟨?_, x1, s1, z1⟩
         have := hi.1
         refine congrArg (fun x => some ((0 : Nat), x)) ?_
         omega)
end
