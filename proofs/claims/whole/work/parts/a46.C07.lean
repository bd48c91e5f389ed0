section
variable {ext : List xC} {σ : zSh} {d : Nat} {μ : zM} {a t : Int} {N : Int → Int}
set_option maxRecDepth 100000 in set_option maxHeartbeats 4000000 in theorem k_c_goBack (h : SR σ μ a N t) (h6 : N 6 ≠ 0) : ZQ ext (d + 2) n_X9_goBack [(100, a)] σ μ (fun rv μ' => rv = none ∧ (∀ k j, ¬ (a ≤ k ∧ k ≤ a + 72) → μ' k j = μ k j) ∧ SR σ μ' a (unN N) t) := by
  have hC := h.ct
  obtain ⟨hK, hS, hR, hN, hP, h29⟩ := h
  have hW := hK.1
  have hSp := hS.1
  have hbb := hS.bk
  have q4 : μ a 4 = N 6 := hC.1.2.2.2
  have hp := hP.1 (N 6 - 1) (by omega) (by omega)
  have hbk : Bk σ (μ (a + 24) (N 6 - 1)) := hS.2 _ hp.1 hp.2.1 hp.2.2
  refine ZQ.i rfl ?_
  refine ZE.go hW 10 rfl (by repeat' first | exact True.intro | assumption | apply And.intro | omega) ?_
  rw [q4]
  refine ZE.gen (fun m => m = up μ a 4 (N 6 - 1)) rfl ?_
  rintro m hm
  have m4 : m a 4 = N 6 - 1 := by rw [hm, up_e rfl rfl]
  have m17 : ∀ u, m (a + 24) u = μ (a + 24) u := fun u => by rw [hm, up_n (by omega)]
  have fm : ∀ k j, ¬ (k = a ∧ j = 4) → m k j = μ k j := fun k j p => by rw [hm, up_n p]
  refine ZE.go hW 9999 rfl (by repeat' first | exact True.intro | assumption | apply And.intro | omega) ?_
  rw [m4, m17]
  refine ZE.q1 hW rfl rfl (by repeat' first | exact True.intro | assumption | apply And.intro | omega) (Nat.le_of_ble_eq_true rfl) (Nat.le_of_ble_eq_true rfl) (k_c_copyB (d := d) hW hbb hbk (by omega)) ?_
  rintro rv9 μ1 ⟨rfl, hf, hc⟩
  refine ZE.rv rfl rfl ?_
  have f : ∀ k j, ¬ (k = a ∧ j = 4) → ¬ (a + 18 ≤ k ∧ k ≤ a + 18 + 5) → μ1 k j = μ k j := by
    intro k j p q
    rw [hf k j q]; exact fm k j p
  have e4 : μ1 a 4 = N 6 - 1 := by rw [hf a 4 (by omega)]; exact m4
  have o0 := un_o (N := N) (j := 0) (by omega) (by omega) (by omega) (by omega) (by omega)
  have o1 := un_o (N := N) (j := 1) (by omega) (by omega) (by omega) (by omega) (by omega)
  have o5 := un_o (N := N) (j := 5) (by omega) (by omega) (by omega) (by omega) (by omega)
  have o6 := un_6 (N := N)
  refine ⟨rfl, fun k j p => f k j (by omega) (by omega), Wk.fr hK (fun j => f _ _ (by omega) (by omega)), hS, ?_, NI_un hN h6, ⟨?_, ?_⟩, h29⟩
  · refine RS.mk' hR (fun j p q => f _ _ (by omega) (by omega)) (by omega) (fun i j p q => f _ _ (by omega) (by omega)) o0 o1 o5 (by omega) (by omega) (by omega) (fun v i p q r s z => un_v (by omega) (by omega)) (fun v i p q r => un_r (by omega) r) (fun j p q => un_o (by omega) (by omega) (by omega) (by omega) (by omega)) ?_ ?_
    · have hr := hR.2.2.2.2.2 (N 6 - 1) (by omega) (by omega)
      have hc2 : 0 ≤ N (115 + 51 * (N 6 - 1) + 14) ∧ N (115 + 51 * (N 6 - 1) + 14) ≤ 12 := (hN.2.2.2.2.2 (N 6 - 1) (by omega) (by omega)).2.1
      unfold RP at hr
      unfold RN
      refine BR_cg (BR_tr (μ' := μ1) (b' := a + 18) hr (by omega) (fun j p q => ?_) (fun j p q => ?_) (fun j p q => ?_) (by omega) (fun j p q => ⟨?_, ?_, ?_⟩)) un_2.symm un_3.symm un_4.symm o0.symm o1.symm (fun r p q => (un_p (by omega)).symm) (fun r p q => (un_l (by omega)).symm) (fun r p q => ⟨(un_h (by omega)).symm, ?_, ?_⟩)
      · rw [hc.1 j p q, fm _ _ (by omega)]
      · rw [(hc.2.1 j p (by omega)).1, fm _ _ (by omega)]
      · rw [(hc.2.1 j p (by omega)).2, fm _ _ (by omega)]
      · rw [(hc.2.2 j p (by omega)).1, fm _ _ (by omega)]
      · rw [(hc.2.2 j p (by omega)).2.1, fm _ _ (by omega)]
      · rw [(hc.2.2 j p (by omega)).2.2, fm _ _ (by omega)]
      · show N (115 + 51 * (N 6 - 1) + 15 + (3 * r + 1)) = unN N (61 + 3 * r + 1)
        rw [Int.add_assoc 61, un_h (by omega)]
      · show N (115 + 51 * (N 6 - 1) + 15 + (3 * r + 2)) = unN N (61 + 3 * r + 2)
        rw [Int.add_assoc 61, un_h (by omega)]
    · intro u p q
      have hu := hP.1 u p (by omega)
      have hc2 : 0 ≤ N (115 + 51 * u + 14) ∧ N (115 + 51 * u + 14) ≤ 12 := (hN.2.2.2.2.2 u p (by omega)).2.1
      rw [f _ _ (by omega) (by omega)]
      exact RP.keep (hR.2.2.2.2.2 u p (by omega)) rfl (fun i j x y => f _ _ (by omega) (by omega)) p (by omega) (fun j x y => un_o (by omega) (by omega) (by omega) (by omega) (by omega)) o0 o1 (by omega) hc2.2
  · intro u p q
    rw [f _ _ (by omega) (by omega)]; exact hP.1 u p q
  · intro u w p q r s e
    rw [f _ _ (by omega) (by omega), f _ _ (by omega) (by omega)] at e
    exact hP.2 u w p q r s e
set_option maxRecDepth 100000 in set_option maxHeartbeats 4000000 in theorem k_c_copyS {c : Int} (h : SR σ μ c N t) (hS : Sh σ a) (hP : PS μ a) (h29 : 22 ≤ a) (hd : a + 73 ≤ c ∨ c + 73 ≤ a) : ZQ ext (d + 2) n_X9_copyFrom [(100, a), (100, c)] σ μ (fun rv μ' => rv = none ∧ (∀ k j, ¬ (a ≤ k ∧ k ≤ a + 72) → μ' k j = μ k j) ∧ SR σ μ' a N t) := by
  have hC := h.ct
  obtain ⟨hK, hSc, hR, hN, hPc, h29c⟩ := h
  have hW := hK.1
  have hSp := hS.1
  have hSpc := hSc.1
  have hbb := hS.bk
  have hbc := hSc.bk
  have fin : ∀ μ1 : zM, (∀ k j, ¬ (a ≤ k ∧ k ≤ a + 23) → μ1 k j = μ k j) → (∀ j, 1 ≤ j → j ≤ 4 → μ1 a j = μ c j) → (∀ i j, 8 ≤ i → i ≤ 17 → 0 ≤ j → j < 6 → μ1 (a + i) j = μ (c + i) j) → CpC μ (a + 18) (c + 18) μ1 → ZE ext (d + 2) n_X9_copyFrom 195 [(100, a), (100, c), (0, 0)] [] σ μ1 (fun rv μ' => rv = none ∧ (∀ k j, ¬ (a ≤ k ∧ k ≤ a + 72) → μ' k j = μ k j) ∧ SR σ μ' a N t) := by
    intro μ1 f1 w1 w2 w3
    have q4 : μ1 a 4 = N 6 := by rw [w1 4 (by omega) (by omega)]; exact hC.1.2.2.2
    refine loopU (n := N 6) (G := fun i => ∀ μ2, ((∀ k j, ¬ (a + 25 ≤ k ∧ k ≤ a + 72) → μ2 k j = μ1 k j) ∧ (∀ u, 0 ≤ u → u < i → CpC μ (μ (a + 24) u) (μ (c + 24) u) μ2)) → ZE ext (d + 2) n_X9_copyFrom 195 [(100, a), (100, c), (0, i)] [] σ μ2 _) ?_ ?_ 0 (by omega) (by omega) μ1 ⟨fun _ _ _ => rfl, fun u p q => by omega⟩
    · intro i h0 hi ih μ2 ⟨f2, c2⟩
      have q42 : μ2 a 4 = N 6 := by rw [f2 _ _ (by omega)]; exact q4
      have e1 : μ2 (a + 24) i = μ (a + 24) i := by rw [f2 _ _ (by omega), f1 _ _ (by omega)]
      have e2 : μ2 (c + 24) i = μ (c + 24) i := by rw [f2 _ _ (by omega), f1 _ _ (by omega)]
      have hp := hP.1 i h0 (by omega)
      have hpc := hPc.1 i h0 (by omega)
      have b1 : Bk σ (μ (a + 24) i) := hS.2 _ hp.1 hp.2.1 hp.2.2
      have b2 : Bk σ (μ (c + 24) i) := hSc.2 _ hpc.1 hpc.2.1 hpc.2.2
      refine ZE.go hW 9999 rfl (by repeat' first | exact True.intro | assumption | apply And.intro | omega) ?_
      refine ZE.b rfl (by omega) (by omega) ?_ ?_ <;> intro g1
      · omega
      · refine ZE.go hW 9999 rfl (by repeat' first | exact True.intro | assumption | apply And.intro | omega) ?_
        rw [e1, e2]
        refine ZE.q1 hW rfl rfl (by repeat' first | exact True.intro | assumption | apply And.intro | omega) (Nat.le_of_ble_eq_true rfl) (Nat.le_of_ble_eq_true rfl) (k_c_copyB (d := d) hW b1 b2 (by omega)) ?_
        rintro rv9 μ3 ⟨rfl, hf3, hc3⟩
        refine ZE.go hW 195 rfl (by repeat' first | exact True.intro | assumption | apply And.intro | omega) ?_
        refine ih μ3 ⟨fun k j p => ?_, fun u p q => ?_⟩
        · rw [hf3 k j (by omega)]; exact f2 k j p
        · by_cases e : u = i
          · subst e
            refine ⟨fun j x y => ?_, fun j x y => ⟨?_, ?_⟩, fun j x y => ⟨?_, ?_, ?_⟩⟩
            · rw [hc3.1 j x y, f2 _ _ (by omega), f1 _ _ (by omega)]
            · rw [(hc3.2.1 j x y).1, f2 _ _ (by omega), f1 _ _ (by omega)]
            · rw [(hc3.2.1 j x y).2, f2 _ _ (by omega), f1 _ _ (by omega)]
            · rw [(hc3.2.2 j x y).1, f2 _ _ (by omega), f1 _ _ (by omega)]
            · rw [(hc3.2.2 j x y).2.1, f2 _ _ (by omega), f1 _ _ (by omega)]
            · rw [(hc3.2.2 j x y).2.2, f2 _ _ (by omega), f1 _ _ (by omega)]
          · have hpu := hP.1 u p (by omega)
            have hne : μ (a + 24) u ≠ μ (a + 24) i := fun z => e (hP.2 u i p (by omega) h0 (by omega) z)
            have cu := c2 u p (by omega)
            refine ⟨fun j x y => ?_, fun j x y => ⟨?_, ?_⟩, fun j x y => ⟨?_, ?_, ?_⟩⟩
            · rw [hf3 _ _ (by omega)]; exact cu.1 j x y
            · rw [hf3 _ _ (by omega)]; exact (cu.2.1 j x y).1
            · rw [hf3 _ _ (by omega)]; exact (cu.2.1 j x y).2
            · rw [hf3 _ _ (by omega)]; exact (cu.2.2 j x y).1
            · rw [hf3 _ _ (by omega)]; exact (cu.2.2 j x y).2.1
            · rw [hf3 _ _ (by omega)]; exact (cu.2.2 j x y).2.2
    · intro μ2 ⟨f2, c2⟩
      have q42 : μ2 a 4 = N 6 := by rw [f2 _ _ (by omega)]; exact q4
      refine ZE.go hW 9999 rfl (by repeat' first | exact True.intro | assumption | apply And.intro | omega) ?_
      refine ZE.b rfl (by omega) (by omega) ?_ ?_ <;> intro g1
      · refine ZE.rv rfl rfl ?_
        have ff : ∀ k j, ¬ (a ≤ k ∧ k ≤ a + 72) → μ2 k j = μ k j := by
          intro k j p
          rw [f2 k j (by omega)]; exact f1 k j (by omega)
        have p17 : ∀ u, μ2 (a + 24) u = μ (a + 24) u := fun u => by rw [f2 _ _ (by omega), f1 _ _ (by omega)]
        obtain ⟨⟨z1, z2, z3, z4⟩, zV, zR, zD, zB, zP⟩ := hR
        refine ⟨rfl, ff, Wk.fr hK (fun j => ff _ _ (by omega)), hS, ⟨⟨?_, ?_, ?_, q42⟩, ?_, ?_, ?_, ?_, ?_⟩, hN, ⟨?_, ?_⟩, h29⟩
        · rw [f2 _ _ (by omega), w1 1 (by omega) (by omega)]; exact z1
        · rw [f2 _ _ (by omega), w1 2 (by omega) (by omega)]; exact z2
        · rw [f2 _ _ (by omega), w1 3 (by omega) (by omega)]; exact z3
        · intro v x y
          rw [f2 _ _ (by omega), f2 _ _ (by omega), f2 _ _ (by omega), f2 _ _ (by omega), f2 _ _ (by omega), w2 8 v (by omega) (by omega) x (by omega), w2 9 v (by omega) (by omega) x (by omega), w2 10 v (by omega) (by omega) x (by omega), w2 11 v (by omega) (by omega) x (by omega), w2 12 v (by omega) (by omega) x (by omega)]
          exact zV v x y
        · intro v x y
          rw [f2 _ _ (by omega), f2 _ _ (by omega), w2 13 v (by omega) (by omega) x (by omega), w2 14 v (by omega) (by omega) x (by omega)]
          exact zR v x y
        · intro v x y
          rw [f2 _ _ (by omega), f2 _ _ (by omega), f2 _ _ (by omega), w2 15 v (by omega) (by omega) x (by omega), w2 16 v (by omega) (by omega) x (by omega), w2 17 v (by omega) (by omega) x (by omega)]
          exact zD v x y
        · unfold RN at zB ⊢
          refine BR_tr (μ' := μ2) (b' := a + 18) zB (by omega) (fun j p q => ?_) (fun j p q => ?_) (fun j p q => ?_) (by omega) (fun j p q => ⟨?_, ?_, ?_⟩)
          · rw [f2 _ _ (by omega)]; exact w3.1 j p q
          · rw [f2 _ _ (by omega)]; exact (w3.2.1 j p (by omega)).1
          · rw [f2 _ _ (by omega)]; exact (w3.2.1 j p (by omega)).2
          · rw [f2 _ _ (by omega)]; exact (w3.2.2 j p (by omega)).1
          · rw [f2 _ _ (by omega)]; exact (w3.2.2 j p (by omega)).2.1
          · rw [f2 _ _ (by omega)]; exact (w3.2.2 j p (by omega)).2.2
        · intro u p q
          have zu := zP u p q
          have cu := c2 u p q
          have hc2 : 0 ≤ N (115 + 51 * u + 14) ∧ N (115 + 51 * u + 14) ≤ 12 := (hN.2.2.2.2.2 u p q).2.1
          rw [p17]
          unfold RP at zu ⊢
          exact BR_tr (μ' := μ2) zu (by omega) (fun j p q => cu.1 j p q) (fun j p q => (cu.2.1 j p (by omega)).1) (fun j p q => (cu.2.1 j p q).2) (by omega) (fun j p q => cu.2.2 j p (by omega))
        · intro u p q
          rw [p17]; exact hP.1 u p q
        · intro u w p q r s e
          rw [p17, p17] at e
          exact hP.2 u w p q r s e
      · omega
  refine ZQ.i rfl ?_
  refine ZE.go hW 107 rfl (by repeat' first | exact True.intro | assumption | apply And.intro | omega) ?_
  refine ZE.go hW 182 rfl (by repeat' first | exact True.intro | assumption | apply And.intro | omega) ?_
  refine ZE.gen (fun m => (m a 1 = μ c 1 ∧ m a 2 = μ c 2 ∧ m a 3 = μ c 3 ∧ m a 4 = μ c 4) ∧ (∀ i j, 8 ≤ i → i ≤ 17 → 0 ≤ j → j < 6 → m (a + i) j = μ (c + i) j) ∧ ∀ k j, ¬ (a ≤ k ∧ k ≤ a + 17) → m k j = μ k j) ⟨⟨?_, ?_, ?_, ?_⟩, ?_, ?_⟩ ?_
  · simp (disch := omega) only [up_n, up_e, zcp_n]
  · simp (disch := omega) only [up_n, up_e, zcp_n]
  · simp (disch := omega) only [up_n, up_e, zcp_n]
  · simp (disch := omega) only [up_n, up_e, zcp_n]
  · intro i j p q r s
    have : i = 8 ∨ i = 9 ∨ i = 10 ∨ i = 11 ∨ i = 12 ∨ i = 13 ∨ i = 14 ∨ i = 15 ∨ i = 16 ∨ i = 17 := by omega
    rcases this with rfl | rfl | rfl | rfl | rfl | rfl | rfl | rfl | rfl | rfl <;> simp (disch := omega) only [up_n, zcp_n, zcp_e, Int.sub_zero, Int.zero_add]
  · intro k j p
    simp (disch := omega) only [up_n, zcp_n]
  rintro m ⟨m1, m2, m3⟩
  refine ZE.go hW 9999 rfl (by repeat' first | exact True.intro | assumption | apply And.intro | omega) ?_
  refine ZE.q1 hW rfl rfl (by repeat' first | exact True.intro | assumption | apply And.intro | omega) (Nat.le_of_ble_eq_true rfl) (Nat.le_of_ble_eq_true rfl) (k_c_copyB (d := d) hW hbb hbc (by omega)) ?_
  rintro rv9 μ1 ⟨rfl, hf, hc⟩
  refine ZE.go hW 195 rfl (by repeat' first | exact True.intro | assumption | apply And.intro | omega) ?_
  have f1 : ∀ k j, ¬ (a ≤ k ∧ k ≤ a + 23) → μ1 k j = μ k j := by
    intro k j p
    rw [hf k j (by omega)]; exact m3 k j (by omega)
  have w1 : ∀ j, 1 ≤ j → j ≤ 4 → μ1 a j = μ c j := by
    intro j p q
    rw [hf a j (by omega)]
    have : j = 1 ∨ j = 2 ∨ j = 3 ∨ j = 4 := by omega
    rcases this with rfl | rfl | rfl | rfl
    · exact m1.1
    · exact m1.2.1
    · exact m1.2.2.1
    · exact m1.2.2.2
  have w2 : ∀ i j, 8 ≤ i → i ≤ 17 → 0 ≤ j → j < 6 → μ1 (a + i) j = μ (c + i) j := by
    intro i j p q r s
    rw [hf _ j (by omega)]; exact m2 i j p q r s
  have w3 : CpC μ (a + 18) (c + 18) μ1 := by
    refine ⟨fun j p q => ?_, fun j p q => ⟨?_, ?_⟩, fun j p q => ⟨?_, ?_, ?_⟩⟩
    · rw [hc.1 j p q, m3 _ _ (by omega)]
    · rw [(hc.2.1 j p q).1, m3 _ _ (by omega)]
    · rw [(hc.2.1 j p q).2, m3 _ _ (by omega)]
    · rw [(hc.2.2 j p q).1, m3 _ _ (by omega)]
    · rw [(hc.2.2 j p q).2.1, m3 _ _ (by omega)]
    · rw [(hc.2.2 j p q).2.2, m3 _ _ (by omega)]
  exact fin μ1 f1 w1 w2 w3
end
