def z115 (N : Int → Int) : Int → Int := fun j => if 0 ≤ j ∧ j < 115 then 0 else N j
noncomputable def rdB (T : Int → Int) (l : Int) (N0 : Int → Int) : Int × (Int → Int) := by
  classical
  exact if ¬ wdO T l 0 4 115 104 111 112 0 0 then (-10 - tA T l 0, N0) else if tK T l (tE T l 0) ≠ 3 then (-10 - tA T l (tE T l 0), N0) else prs T l 151 (tE T l (tE T l 0)) N0 1
theorem fill_row {μ : zM} {k : Int} : fill μ k 0 115 0 k = z115 (μ k) := by
  funext j
  unfold fill z115
  by_cases h : 0 ≤ j ∧ j < 115
  · rw [if_pos ⟨rfl, h⟩, if_pos h]
  · rw [if_neg (fun q => h q.2), if_neg h]
theorem fill_o {μ : zM} {k k' lo hi x : Int} (h : k' ≠ k) : fill μ k lo hi x k' = μ k' := by
  funext j
  unfold fill
  exact if_neg (fun q => h q.1)
theorem NA_z (N : Int → Int) : NA (z115 N) := by
  have e : ∀ j, 0 ≤ j → j < 115 → z115 N j = 0 := fun j a b => if_pos ⟨a, b⟩
  have e0 := e 0 (by omega) (by omega)
  have e1 := e 1 (by omega) (by omega)
  refine ⟨by omega, by omega, fun v a b => ?_, fun v a b => ?_, fun v a b => ?_, fun v a b => ?_, ⟨e 2 (by omega) (by omega), e 3 (by omega) (by omega), e 4 (by omega) (by omega), e 5 (by omega) (by omega), e 6 (by omega) (by omega)⟩⟩
  all_goals (exfalso; omega)
theorem prs_0 {T : Int → Int} {l f i : Int} {N : Int → Int} {k : Nat} (h : tK T l f = 0) : prs T l (k + 1) f N i = (i, N) := by
  conv => lhs; unfold prs
  exact if_pos h
theorem prs_b {T : Int → Int} {l f i : Int} {N : Int → Int} {k : Nat} (h : tK T l f ≠ 0) (h2 : (itp T l f N).1 = 0 ∨ tK T l (itp T l f N).2.1 ≠ 3) : prs T l (k + 1) f N i = (-10 - tA T l (itp T l f N).2.1, N) := by
  conv => lhs; unfold prs
  rw [if_neg h, if_pos h2]
theorem prs_s {T : Int → Int} {l f i : Int} {N : Int → Int} {k : Nat} (h : tK T l f ≠ 0) (h2 : ¬ (itp T l f N).1 = 0) (h3 : tK T l (itp T l f N).2.1 = 3) : prs T l (k + 1) f N i = prs T l k (tE T l (itp T l f N).2.1) (itp T l f N).2.2 (i + 1) := by
  conv => lhs; unfold prs
  rw [if_neg h, if_neg (fun q => q.elim h2 (fun z => z h3))]
/-- the end of a reading -/
def Rde (R : Int × (Int → Int)) (μ : zM) (rv : Option V) (μ' : zM) : Prop := rv = some (0, R.1) ∧ (∀ k j, k ≠ 169 → ¬ (k = 168 ∧ 21 ≤ j ∧ j ≤ 24) → k ≠ 182 → k ≠ 183 → μ' k j = μ k j) ∧ (R.1 < 0 → μ' 169 = μ 169) ∧ (0 ≤ R.1 → ∀ j, μ' 169 j = if 0 ≤ j ∧ j < 115 then R.2 j else μ 169 j)
theorem Rde.bad {x : Int} {N : Int → Int} {μ μ' : zM} (h : Fx μ μ') (hx : 0 ≤ x) {y : Int} (e : y = -10 - x) : Rde (-10 - x, N) μ (some (0, y)) μ' := by
  subst e
  refine ⟨rfl, fun k j _ p q r => h k j p q r, fun _ => funext fun j => h 169 j (by omega) (by omega) (by omega), fun q => ?_⟩
  have q : 0 ≤ -10 - x := q
  omega
section
variable {ext : List xC} {σ : zSh} {d : Nat} {μ : zM}
set_option maxRecDepth 100000 in set_option maxHeartbeats 4000000 in theorem k_m_readEnd {it : Int} {R : Int × (Int → Int)} (hW : Wl σ) {μ1 : zM} (hF : Fx μ μ1) (hit : 1 ≤ it) (hR : (it, μ1 182) = R) {x : V} : ZE ext d n_X12_read 104 [(1161, 0), (0, it), x] [] σ μ1 (Rde R μ) := by
  refine ZE.go hW 106 rfl (by and_intros <;> first | exact True.intro | omega | assumption) ?_
  refine loopU (n := 115) (G := fun i => ∀ μ2, ((∀ k j, k ≠ 169 → μ2 k j = μ1 k j) ∧ ∀ j, μ2 169 j = if 0 ≤ j ∧ j < i then μ1 182 j else μ1 169 j) → ZE ext d n_X12_read 106 [(1161, 0), (0, it), (0, i)] [] σ μ2 _) ?_ ?_ 0 (by omega) (by omega) μ1 ⟨fun _ _ _ => rfl, fun j => by rw [if_neg (by omega)]⟩
  · intro i h0 hi ih μ2 ⟨h1, h2⟩
    refine ZE.go hW 9999 rfl (by and_intros <;> first | exact True.intro | omega | assumption) ?_
    refine ZE.b rfl (by omega) (by omega) ?_ ?_ <;> intro g1
    · omega
    · refine ZE.go hW 106 rfl (by and_intros <;> first | exact True.intro | omega | assumption) ?_
      refine ih _ ⟨fun k j p => by rw [up_n (by omega)]; exact h1 k j p, fun j => ?_⟩
      rw [up162, h1 182 i (by omega), h2 j]
      repeat' split
      all_goals first
        | rfl
        | (exfalso; omega)
        | (congr 1; omega)
  · intro μ2 ⟨h1, h2⟩
    refine ZE.go hW 9999 rfl (by and_intros <;> first | exact True.intro | omega | assumption) ?_
    refine ZE.b rfl (by omega) (by omega) ?_ ?_ <;> intro g1
    · refine ZE.go hW 9999 rfl (by and_intros <;> first | exact True.intro | omega | assumption) ?_
      refine ZE.ri rfl rfl ?_
      rw [← hR]
      refine ⟨rfl, fun k j p q r s => by rw [h1 k j p]; exact hF k j q r s, fun q => ?_, fun _ j => ?_⟩
      · have q : it < 0 := q
        omega
      · rw [h2 j, hF 169 j (by omega) (by omega) (by omega)]
    · omega
set_option maxRecDepth 100000 in set_option maxHeartbeats 4000000 in theorem k_m_read (hW : Wl σ) (hT : TT μ) : ZQ ext (d + 7) n_X12_read [(1161, 0)] σ μ (Rde (rdB (μ 181) (μ 168 20) (z115 (μ 182))) μ) := by
  have hl := hT.1
  generalize hr : rdB (μ 181) (μ 168 20) (z115 (μ 182)) = R
  unfold rdB at hr
  have main : ∀ (k : Nat) (f i : Int) (μ1 : zM) (x : V), Fx μ μ1 → TS μ1 f → 0 ≤ f ∧ f ≤ μ 168 20 → NA (μ1 182) → 1 ≤ i ∧ i ≤ f → i + k = 152 → prs (μ 181) (μ 168 20) k f (μ1 182) i = R → ZE ext (d + 7) n_X12_read 64 [(1161, 0), (0, i), x] [] σ μ1 (Rde R μ) := by
    intro k
    induction k with
    | zero =>
      intro f i μ1 x hF hS hf hN hi hk hR
      omega
    | succ k ih =>
      intro f i μ1 x hF hS hf hN hi hk hR
      have ht := hS.tok
      rw [hF.t, hF.l] at ht
      have hf1 : 0 ≤ f ∧ f ≤ μ1 168 20 := by rw [hF.l]; exact hf
      have hT1 := hF.tt hT
      by_cases hk0 : tK (μ 181) (μ 168 20) f = 0
      · rw [prs_0 hk0] at hR
        refine ZE.go hW 9999 rfl (by and_intros <;> first | exact True.intro | omega | assumption) ?_
        refine ZE.b0 rfl (by omega) ?_ ?_ <;> intro g1
        · exact k_m_readEnd hW hF hi.1 hR
        · omega
      · have hI := itp_I (T := μ 181) hf hk0 hN
        have hAr := tA_rng (T := μ 181) (l := μ 168 20) (f := (itp (μ 181) (μ 168 20) f (μ1 182)).2.1) (by have := hI.2.1; omega)
        have hEE := tEE (T := μ 181) (l := μ 168 20) (f := (itp (μ 181) (μ 168 20) f (μ1 182)).2.1) (by have := hI.2.1; omega)
        refine ZE.go hW 9999 rfl (by and_intros <;> first | exact True.intro | omega | assumption) ?_
        refine ZE.b0 rfl (by omega) ?_ ?_ <;> intro g1
        · omega
        · refine ZE.go hW 9999 rfl (by and_intros <;> first | exact True.intro | omega | assumption) ?_
          refine ZE.q0 hW rfl rfl (Nat.le_of_ble_eq_true rfl) (Nat.le_of_ble_eq_true rfl) (k_m_takesItem (d := d) hW hT1 hf1 hS hN (by rw [hF.t, hF.l]; exact hk0)) ?_
          rintro rv9 μ2 ⟨rfl, x2, s2, z2⟩
          rw [hF.t, hF.l] at s2 z2 ⊢
          have F2 := hF.trans x2
          have t2 := s2.tok
          rw [F2.t, F2.l] at t2
          have e21 := s2.1
          rw [F2.t, F2.l] at e21
          refine ZE.b0 rfl (by have := hI.1; omega) ?_ ?_ <;> intro g2
          · refine ZE.go hW 9999 rfl (by and_intros <;> first | exact True.intro | omega | assumption) ?_
            refine ZE.ri rfl rfl ?_
            rw [prs_b hk0 (by omega)] at hR
            rw [← hR]
            exact Rde.bad F2 (by have := hI.2.1; omega) (by rw [e21])
          · refine ZE.go hW 9999 rfl (by and_intros <;> first | exact True.intro | omega | assumption) ?_
            refine ZE.b rfl (by omega) (by omega) ?_ ?_ <;> intro g3
            · have z3 := z2 (by have := hI.1; omega)
              have hI3 := hI.2.2 (by have := hI.1; omega)
              refine ZE.go hW 9999 rfl (by and_intros <;> first | exact True.intro | omega | assumption) ?_
              refine ZE.q0 hW rfl rfl (Nat.le_of_ble_eq_true rfl) (Nat.le_of_ble_eq_true rfl) (k_m_goBehind (d := d + 3) hW (F2.tt hT) (by rw [F2.l]; have := hI.2.1; omega) s2) ?_
              rintro rv9 μ3 ⟨rfl, x3, s3⟩
              rw [F2.t, F2.l] at s3
              have F3 := F2.trans x3.x
              have f3 : μ3 182 = (itp (μ 181) (μ 168 20) f (μ1 182)).2.2 := by
                rw [← z3]
                exact funext fun j => x3 182 j (by omega)
              refine ZE.go hW 64 rfl (by and_intros <;> first | exact True.intro | omega | assumption) ?_
              refine ih _ (i + 1) μ3 _ F3 s3 (by omega) (by rw [f3]; exact hI3.2) (by omega) (by omega) ?_
              rw [f3, ← prs_s hk0 (by omega) (by omega)]
              exact hR
            · refine ZE.go hW 9999 rfl (by and_intros <;> first | exact True.intro | omega | assumption) ?_
              refine ZE.ri rfl rfl ?_
              rw [prs_b hk0 (by omega)] at hR
              rw [← hR]
              exact Rde.bad F2 (by have := hI.2.1; omega) (by rw [e21])
  have hf0 : 0 ≤ (0 : Int) ∧ (0 : Int) ≤ μ 168 20 := ⟨Int.le_refl 0, hl.1⟩
  have a0 := tEE (T := μ 181) hf0
  have b0 := tA_rng (T := μ 181) hf0
  have a1 := tEE (T := μ 181) (l := μ 168 20) (f := tE (μ 181) (μ 168 20) 0) (by omega)
  have b1 := tA_rng (T := μ 181) (l := μ 168 20) (f := tE (μ 181) (μ 168 20) 0) (by omega)
  refine ZQ.i rfl ?_
  refine ZE.go hW 9999 rfl (by and_intros <;> first | exact True.intro | omega | assumption) ?_
  refine ZE.q0 hW rfl rfl (Nat.le_of_ble_eq_true rfl) (Nat.le_of_ble_eq_true rfl) (k_m_lookAt (d := d + 4) hW hT hf0) ?_
  rintro rv9 μ1 ⟨rfl, x1, s1⟩
  have f1 : μ1 182 = μ 182 := funext fun j => x1 182 j (by omega)
  have x1 := x1.x
  have e1 := s1.1
  rw [x1.t, x1.l] at e1
  refine ZE.go hW 9999 rfl (by and_intros <;> first | exact True.intro | omega | assumption) ?_
  refine ZE.c0 hW rfl rfl (Nat.le_of_ble_eq_true rfl) (Nat.le_of_ble_eq_true rfl) (k_m_isCalled (d := d + 6) hW (x1.tt hT) (by rw [x1.l]; exact hf0) s1 (by omega) (by omega) (by omega) (by omega) (by omega) (by omega) (by omega)) ?_
  rw [x1.t, x1.l]
  refine ZE.bp rfl rfl ?_ ?_ <;> intro g1
  · rw [if_neg (fun z => z g1)] at hr
    have w1 := g1.1
    refine ZE.go hW 9999 rfl (by and_intros <;> first | exact True.intro | omega | assumption) ?_
    refine ZE.q0 hW rfl rfl (Nat.le_of_ble_eq_true rfl) (Nat.le_of_ble_eq_true rfl) (k_m_goBehind (d := d + 3) hW (x1.tt hT) (by rw [x1.l]; exact hf0) s1) ?_
    rintro rv9 μ2 ⟨rfl, x2, s2⟩
    rw [x1.t, x1.l] at s2
    have f2 : μ2 182 = μ1 182 := funext fun j => x2 182 j (by omega)
    have x2 := x1.trans x2.x
    have t2 := s2.tok
    have e2 := s2.1
    rw [x2.t, x2.l] at t2 e2
    refine ZE.go hW 9999 rfl (by and_intros <;> first | exact True.intro | omega | assumption) ?_
    refine ZE.b rfl (by omega) (by omega) ?_ ?_ <;> intro g2
    · rw [if_neg (by omega)] at hr
      refine ZE.go hW 9999 rfl (by and_intros <;> first | exact True.intro | omega | assumption) ?_
      refine ZE.q0 hW rfl rfl (Nat.le_of_ble_eq_true rfl) (Nat.le_of_ble_eq_true rfl) (k_m_goBehind (d := d + 3) hW (x2.tt hT) (by rw [x2.l]; omega) s2) ?_
      rintro rv9 μ3 ⟨rfl, x3, s3⟩
      rw [x2.t, x2.l] at s3
      have f3 : μ3 182 = μ2 182 := funext fun j => x3 182 j (by omega)
      have x3 := x2.trans x3.x
      refine ZE.go hW 9999 rfl (by and_intros <;> first | exact True.intro | omega | assumption) ?_
      refine ZE.c0 hW rfl rfl (Nat.le_of_ble_eq_true rfl) (Nat.le_of_ble_eq_true rfl) (k_m_begin2 (d := d + 6) hW) ?_
      refine ZE.go hW 64 rfl (by and_intros <;> first | exact True.intro | omega | assumption) ?_
      refine main 151 (tE (μ 181) (μ 168 20) (tE (μ 181) (μ 168 20) 0)) 1 _ _ ?_ ?_ (by omega) ?_ (by omega) (by omega) ?_
      · intro k j p q r
        rw [fill_o q]
        exact x3 k j p q r
      · exact s3.cg (fun j a b => congrFun (fill_o (k := 182) (k' := 168) (by omega)) j) (fill_o (k := 182) (k' := 181) (by omega))
      · rw [fill_row]; exact NA_z _
      · rw [fill_row]
        rw [f3, f2, f1]
        exact hr
    · refine ZE.go hW 9999 rfl (by and_intros <;> first | exact True.intro | omega | assumption) ?_
      refine ZE.ri rfl rfl ?_
      first
        | (rw [if_pos g1] at hr
           rw [← hr]
           exact Rde.bad x1 b0.1 (by rw [e1]))
        | (rw [if_pos (by omega)] at hr
           rw [← hr]
           exact Rde.bad x2 (by omega) (by rw [e2]))
  · refine ZE.go hW 9999 rfl (by and_intros <;> first | exact True.intro | omega | assumption) ?_
    refine ZE.ri rfl rfl ?_
    first
      | (rw [if_pos g1] at hr
         rw [← hr]
         exact Rde.bad x1 b0.1 (by rw [e1]))
      | (rw [if_pos (by omega)] at hr
         rw [← hr]
         exact Rde.bad x2 (by omega) (by rw [e2]))
end
