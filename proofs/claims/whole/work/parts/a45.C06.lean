section
variable {ext : List xC} {σ : zSh} {d : Nat} {μ : zM} {a t : Int} {N : Int → Int}
set_option maxRecDepth 100000 in set_option maxHeartbeats 4000000 in theorem k_c_moveOldest (hW : Wl σ) (hS : Sh σ a) (hP : PS μ a) : ZQ ext d n_X9_moveOldestToEnd [(100, a)] σ μ (fun rv μ' => rv = none ∧ (∀ k j, ¬ (k = a + 24 ∧ 0 ≤ j ∧ j < 8) → μ' k j = μ k j) ∧ (∀ j, 0 ≤ j → j < 7 → μ' (a + 24) j = μ (a + 24) (j + 1)) ∧ μ' (a + 24) 7 = μ (a + 24) 0) := by
  have hSp := hS.1
  have hb : ∀ u, 0 ≤ u → u < 8 → Bk σ (μ (a + 24) u) := fun u p q => hS.2 _ (hP.1 u p q).1 (hP.1 u p q).2.1 (hP.1 u p q).2.2
  refine ZQ.i rfl ?_
  refine ZE.go hW 9 rfl (by repeat' first | exact True.intro | assumption | apply And.intro | omega) ?_
  refine loopU (n := 7) (G := fun i => ∀ μ1, ((∀ k j, ¬ (k = a + 24 ∧ 0 ≤ j ∧ j < i) → μ1 k j = μ k j) ∧ (∀ j, 0 ≤ j → j < i → μ1 (a + 24) j = μ (a + 24) (j + 1))) → ZE ext d n_X9_moveOldestToEnd 9 [(100, a), (20, μ (a + 24) 0), (0, i + 1)] [] σ μ1 _) ?_ ?_ 0 (by omega) (by omega) μ ⟨fun _ _ _ => rfl, fun j p q => by omega⟩
  · intro i h0 hi ih μ1 ⟨h1, h2⟩
    have e1 : μ1 (a + 24) (i + 1) = μ (a + 24) (i + 1) := h1 _ _ (by omega)
    have b1 := hb (i + 1) (by omega) (by omega)
    rw [← e1] at b1
    refine ZE.go hW 9999 rfl (by repeat' first | exact True.intro | assumption | apply And.intro | omega) ?_
    refine ZE.b rfl (by omega) (by omega) ?_ ?_ <;> intro g1
    · omega
    · refine ZE.go hW 9 rfl (by repeat' first | exact True.intro | assumption | apply And.intro | omega) ?_
      refine ih _ ⟨fun k j p => ?_, fun j p q => ?_⟩
      · rw [up_n (by omega)]; exact h1 k j (by omega)
      · by_cases e : j = i
        · rw [up_e rfl (by omega), e1, e]
        · rw [up_n (by omega)]; exact h2 j p (by omega)
  · intro μ1 ⟨h1, h2⟩
    have b1 := hb 0 (by omega) (by omega)
    refine ZE.go hW 9999 rfl (by repeat' first | exact True.intro | assumption | apply And.intro | omega) ?_
    refine ZE.b rfl (by omega) (by omega) ?_ ?_ <;> intro g1
    · refine ZE.go hW 9999 rfl (by repeat' first | exact True.intro | assumption | apply And.intro | omega) ?_
      refine ZE.rv rfl rfl ?_
      refine ⟨rfl, fun k j p => ?_, fun j p q => ?_, ?_⟩
      · rw [up_n (by omega)]; exact h1 k j (by omega)
      · rw [up_n (by omega)]; exact h2 j p q
      · rw [up_e rfl rfl]
    · omega
/-- a Book that is copied into the past -/
theorem RP_cp {μ μ' : zM} {b c : Int} (h : RN μ c N) (hC : CpC μ b c μ') (h0 : (0 ≤ N 0 ∧ N 0 ≤ 6) ∧ (0 ≤ N 1 ∧ N 1 ≤ 6) ∧ (0 ≤ N 4 ∧ N 4 ≤ 12)) (h6 : 0 ≤ N 6) : RP μ' b (kpB N) (N 6) := by
  unfold RN at h
  unfold RP
  have h2 := BR_tr (μ' := μ') (b' := b) h h0.1.1 (fun j p q => hC.1 j p q) (fun j p q => (hC.2.1 j p (by omega)).1) (fun j p q => (hC.2.1 j p q).2) h0.1.2 (fun j p q => hC.2.2 j p (by omega))
  refine BR_cg h2 kpB_12.symm kpB_13.symm kpB_14.symm (kpB_lo h6 (by omega) (by omega)).symm (kpB_lo h6 (by omega) (by omega)).symm (fun r p q => (kpB_pu (by omega)).symm) (fun r p q => (kpB_le (by omega)).symm) (fun r p q => ⟨(kpB_h (by omega)).symm, ?_, ?_⟩)
  · show N (61 + 3 * r + 1) = kpB N (115 + 51 * N 6 + 15 + (3 * r + 1))
    rw [kpB_h (by omega)]; congr 1; omega
  · show N (61 + 3 * r + 2) = kpB N (115 + 51 * N 6 + 15 + (3 * r + 2))
    rw [kpB_h (by omega)]; congr 1; omega
set_option maxRecDepth 100000 in set_option maxHeartbeats 4000000 in theorem k_c_remember (h : SR σ μ a N t) : ZQ ext (d + 2) n_X9_remember [(100, a)] σ μ (fun rv μ' => rv = none ∧ (∀ k j, ¬ (a ≤ k ∧ k ≤ a + 72) → μ' k j = μ k j) ∧ SR σ μ' a (kpN N) t) := by
  have hW := h.1.1
  have hSp := h.2.1.1
  have hC := h.ct
  have h29 : 22 ≤ a := h.2.2.2.2.2
  have fin : ∀ (M : Int → Int) (m : zM), SR σ m a M t → M 6 ≤ 7 → ZE ext (d + 2) n_X9_remember 19 [(100, a)] [] σ m (fun rv μ' => rv = none ∧ (∀ k j, ¬ (a ≤ k ∧ k ≤ a + 72) → μ' k j = m k j) ∧ SR σ μ' a (kpB M) t) := by
    intro M m hm h7
    have mC := hm.ct
    obtain ⟨hK, hS, hR, hN, hP, _⟩ := hm
    have q4 : m a 4 = M 6 := mC.1.2.2.2
    have hp := hP.1 (M 6) (by omega) (by omega)
    have hbk : Bk σ (m (a + 24) (M 6)) := hS.2 _ hp.1 hp.2.1 hp.2.2
    have hbb := hS.bk
    refine ZE.go hW 9999 rfl (by repeat' first | exact True.intro | assumption | apply And.intro | omega) ?_
    rw [q4]
    refine ZE.q1 hW rfl rfl (by repeat' first | exact True.intro | assumption | apply And.intro | omega) (Nat.le_of_ble_eq_true rfl) (Nat.le_of_ble_eq_true rfl) (k_c_copyB (d := d) hW hbk hbb (by omega)) ?_
    rintro rv9 μ1 ⟨rfl, hc⟩
    refine ZE.go hW 9999 rfl (by repeat' first | exact True.intro | assumption | apply And.intro | omega) ?_
    refine ZE.rv rfl rfl ?_
    have e4 : μ1 a 4 = M 6 := by rw [hc.1 a 4 (by omega)]; exact q4
    have o6 := kpB_6 (N := M) (by omega)
    have o := fun j p q => kpB_lo (N := M) (j := j) (by omega) p q
    have o0 := o 0 (by omega) (by omega)
    have o1 := o 1 (by omega) (by omega)
    have o2 := o 2 (by omega) (by omega)
    have o3 := o 3 (by omega) (by omega)
    have o4 := o 4 (by omega) (by omega)
    have o5 := o 5 (by omega) (by omega)
    have f : ∀ k j, ¬ (k = a ∧ j = 4) → ¬ (m (a + 24) (M 6) ≤ k ∧ k ≤ m (a + 24) (M 6) + 5) → up μ1 a 4 (μ1 a 4 + 1) k j = m k j := by
      intro k j p q
      rw [up_n p]; exact hc.1 k j q
    refine ⟨rfl, fun k j p => f k j (by omega) (by omega), Wk.fr hK (fun j => f _ _ (by omega) (by omega)), hS, ?_, NI_kpB hN h7, ⟨?_, ?_⟩, h29⟩
    · refine RS.mk' hR (fun j p q => f _ _ (by omega) (by omega)) ?_ (fun i j p q => f _ _ (by omega) (by omega)) o0 o1 o5 (by omega) (by omega) (by omega) (fun v i p q r s z => o _ (by omega) (by omega)) (fun v i p q r => o _ (by omega) (by omega)) (fun j p q => o _ (by omega) (by omega)) ?_ ?_
      · rw [up_e rfl rfl, e4, o6]
      · have hB := hR.2.2.2.2.1
        unfold RN at hB ⊢
        refine BR_cg (BR_tr (μ' := up μ1 a 4 (μ1 a 4 + 1)) (b' := a + 18) hB (by omega) (fun j p q => f _ _ (by omega) (by omega)) (fun j p q => f _ _ (by omega) (by omega)) (fun j p q => f _ _ (by omega) (by omega)) (by omega) (fun j p q => ⟨f _ _ (by omega) (by omega), f _ _ (by omega) (by omega), f _ _ (by omega) (by omega)⟩)) o2.symm o3.symm o4.symm o0.symm o1.symm (fun r p q => (o _ (by omega) (by omega)).symm) (fun r p q => (o _ (by omega) (by omega)).symm) (fun r p q => ⟨(o _ (by omega) (by omega)).symm, (o _ (by omega) (by omega)).symm, (o _ (by omega) (by omega)).symm⟩)
      · intro u p q
        have e17 : up μ1 a 4 (μ1 a 4 + 1) (a + 24) u = m (a + 24) u := f _ _ (by omega) (by omega)
        rw [e17]
        by_cases eu : u = M 6
        · subst eu
          refine RP_cp (μ := m) (c := a + 18) hR.2.2.2.2.1 ⟨fun j x y => ?_, fun j x y => ⟨?_, ?_⟩, fun j x y => ⟨?_, ?_, ?_⟩⟩ (by omega) (by omega)
          · rw [up_n (by omega)]; exact hc.2.1 j x y
          · rw [up_n (by omega)]; exact (hc.2.2.1 j x y).1
          · rw [up_n (by omega)]; exact (hc.2.2.1 j x y).2
          · rw [up_n (by omega)]; exact (hc.2.2.2 j x y).1
          · rw [up_n (by omega)]; exact (hc.2.2.2 j x y).2.1
          · rw [up_n (by omega)]; exact (hc.2.2.2 j x y).2.2
        · have hu := hP.1 u p (by omega)
          have hne : m (a + 24) u ≠ m (a + 24) (M 6) := fun z => eu (hP.2 u (M 6) p (by omega) (by omega) (by omega) z)
          have hc2 : 0 ≤ M (115 + 51 * u + 14) ∧ M (115 + 51 * u + 14) ≤ 12 := (hN.2.2.2.2.2 u p (by omega)).2.1
          exact RP.keep (hR.2.2.2.2.2 u p (by omega)) rfl (fun i j x y => f _ _ (by omega) (by omega)) p (by omega) (fun j x y => o _ (by omega) (by omega)) o0 o1 (by omega) hc2.2
    · intro u p q
      rw [f _ _ (by omega) (by omega)]; exact hP.1 u p q
    · intro u w p q r s e
      rw [f _ _ (by omega) (by omega), f _ _ (by omega) (by omega)] at e
      exact hP.2 u w p q r s e
  have q4 : μ a 4 = N 6 := hC.1.2.2.2
  refine ZQ.i rfl ?_
  refine ZE.go hW 9999 rfl (by repeat' first | exact True.intro | assumption | apply And.intro | omega) ?_
  refine ZE.b rfl (by omega) (by omega) ?_ ?_ <;> intro g1
  · first
      | (have e : kpN N = kpB N := by unfold kpN; rw [if_neg (by omega)]
         rw [e]
         exact fin N μ h (by omega))
      | (have h8 : N 6 = 8 := by omega
         have e : kpN N = kpB (kpA N) := by unfold kpN; rw [if_pos h8]
         rw [e]
         obtain ⟨hK, hS, hR, hN, hP, _⟩ := h
         have f : ∀ k j, ¬ (k = a ∧ j = 4) → ¬ (k = a + 24 ∧ 0 ≤ j ∧ j < 8) → up μ1 a 4 7 k j = μ k j := by
           intro k j p q
           rw [up_n p]; exact f1 k j q
         have g17 : ∀ u, 0 ≤ u → u < 7 → up μ1 a 4 7 (a + 24) u = μ (a + 24) (u + 1) := by
           intro u p q
           rw [up_n (by omega)]; exact s1 u p q
         have g7 : up μ1 a 4 7 (a + 24) 7 = μ (a + 24) 0 := by
           rw [up_n (by omega)]; exact s7
         have o := fun j p q => kpA_lo (N := N) (j := j) p q
         have o6 := kpA_6 (N := N)
         have o0 := o 0 (by omega) (by omega)
         have o1 := o 1 (by omega) (by omega)
         have o2 := o 2 (by omega) (by omega)
         have o3 := o 3 (by omega) (by omega)
         have o4 := o 4 (by omega) (by omega)
         have o5 := o 5 (by omega) (by omega)
         have oh := fun j p q => kpA_hi (N := N) (j := j) p q
         have hP7 : PS (up μ1 a 4 7) a := by
           have k1 : ∀ u, 0 ≤ u → u < 8 → ∃ w, 0 ≤ w ∧ w < 8 ∧ up μ1 a 4 7 (a + 24) u = μ (a + 24) w ∧ (w = u + 1 ∨ w = 0 ∧ u = 7) := by
             intro u p q
             by_cases e7 : u = 7
             · subst e7; exact ⟨0, by omega, by omega, g7, by omega⟩
             · exact ⟨u + 1, by omega, by omega, g17 u p (by omega), by omega⟩
           refine ⟨fun u p q => ?_, fun u w p q r s e => ?_⟩
           · obtain ⟨x, x1, x2, x3, _⟩ := k1 u p q
             rw [x3]; exact hP.1 x x1 x2
           · obtain ⟨x, x1, x2, x3, x4⟩ := k1 u p q
             obtain ⟨y, y1, y2, y3, y4⟩ := k1 w r s
             rw [x3, y3] at e
             have := hP.2 x y x1 x2 y1 y2 e
             omega
         have hSR : SR σ (up μ1 a 4 7) a (kpA N) t := by
           refine ⟨Wk.fr hK (fun j => f _ _ (by omega) (by omega)), hS, ?_, NI_kpA hN h8, hP7, h29⟩
           refine RS.mk' hR (fun j p q => f _ _ (by omega) (by omega)) ?_ (fun i j p q => f _ _ (by omega) (by omega)) o0 o1 o5 (by omega) (by omega) (by omega) (fun v i p q r s z => o _ (by omega) (by omega)) (fun v i p q r => o _ (by omega) (by omega)) (fun j p q => o _ (by omega) (by omega)) ?_ ?_
           · rw [up_e rfl rfl, o6]
           · have hB := hR.2.2.2.2.1
             unfold RN at hB ⊢
             refine BR_cg (BR_tr (μ' := up μ1 a 4 7) (b' := a + 18) hB (by omega) (fun j p q => f _ _ (by omega) (by omega)) (fun j p q => f _ _ (by omega) (by omega)) (fun j p q => f _ _ (by omega) (by omega)) (by omega) (fun j p q => ⟨f _ _ (by omega) (by omega), f _ _ (by omega) (by omega), f _ _ (by omega) (by omega)⟩)) o2.symm o3.symm o4.symm o0.symm o1.symm (fun r p q => (o _ (by omega) (by omega)).symm) (fun r p q => (o _ (by omega) (by omega)).symm) (fun r p q => ⟨(o _ (by omega) (by omega)).symm, (o _ (by omega) (by omega)).symm, (o _ (by omega) (by omega)).symm⟩)
           · intro u p q
             rw [g17 u p (by omega)]
             have hu := hP.1 (u + 1) (by omega) (by omega)
             have hr := hR.2.2.2.2.2 (u + 1) (by omega) (by omega)
             have hc2 : 0 ≤ N (115 + 51 * (u + 1) + 14) ∧ N (115 + 51 * (u + 1) + 14) ≤ 12 := (hN.2.2.2.2.2 (u + 1) (by omega) (by omega)).2.1
             unfold RP at hr ⊢
             refine BR_cg (BR_tr (μ' := up μ1 a 4 7) (b' := μ (a + 24) (u + 1)) hr (by omega) (fun j p q => f _ _ (by omega) (by omega)) (fun j p q => f _ _ (by omega) (by omega)) (fun j p q => f _ _ (by omega) (by omega)) (by omega) (fun j p q => ⟨f _ _ (by omega) (by omega), f _ _ (by omega) (by omega), f _ _ (by omega) (by omega)⟩)) ?_ ?_ ?_ o0.symm o1.symm (fun r x y => ?_) (fun r x y => ?_) (fun r x y => ⟨?_, ?_, ?_⟩)
             all_goals (rw [oh _ (by omega) (by omega)]; congr 1; omega)
         obtain ⟨rv, μ2, h1, h2, h3, h4⟩ := fin (kpA N) _ hSR (by omega)
         exact ⟨rv, μ2, h1, h2, fun k j p => by rw [h3 k j p]; exact f k j (by omega) (by omega), h4⟩)
  · refine ZE.go hW 9999 rfl (by repeat' first | exact True.intro | assumption | apply And.intro | omega) ?_
    refine ZE.q1 hW rfl rfl (by repeat' first | exact True.intro | assumption | apply And.intro | omega) (Nat.le_of_ble_eq_true rfl) (Nat.le_of_ble_eq_true rfl) (k_c_moveOldest (d := d + 1) hW h.2.1 h.2.2.2.2.1) ?_
    rintro rv9 μ1 ⟨rfl, f1, s1, s7⟩
    refine ZE.go hW 19 rfl (by repeat' first | exact True.intro | assumption | apply And.intro | omega) ?_
    first
      | (have e : kpN N = kpB N := by unfold kpN; rw [if_neg (by omega)]
         rw [e]
         exact fin N μ h (by omega))
      | (have h8 : N 6 = 8 := by omega
         have e : kpN N = kpB (kpA N) := by unfold kpN; rw [if_pos h8]
         rw [e]
         obtain ⟨hK, hS, hR, hN, hP, _⟩ := h
         have f : ∀ k j, ¬ (k = a ∧ j = 4) → ¬ (k = a + 24 ∧ 0 ≤ j ∧ j < 8) → up μ1 a 4 7 k j = μ k j := by
           intro k j p q
           rw [up_n p]; exact f1 k j q
         have g17 : ∀ u, 0 ≤ u → u < 7 → up μ1 a 4 7 (a + 24) u = μ (a + 24) (u + 1) := by
           intro u p q
           rw [up_n (by omega)]; exact s1 u p q
         have g7 : up μ1 a 4 7 (a + 24) 7 = μ (a + 24) 0 := by
           rw [up_n (by omega)]; exact s7
         have o := fun j p q => kpA_lo (N := N) (j := j) p q
         have o6 := kpA_6 (N := N)
         have o0 := o 0 (by omega) (by omega)
         have o1 := o 1 (by omega) (by omega)
         have o2 := o 2 (by omega) (by omega)
         have o3 := o 3 (by omega) (by omega)
         have o4 := o 4 (by omega) (by omega)
         have o5 := o 5 (by omega) (by omega)
         have oh := fun j p q => kpA_hi (N := N) (j := j) p q
         have hP7 : PS (up μ1 a 4 7) a := by
           have k1 : ∀ u, 0 ≤ u → u < 8 → ∃ w, 0 ≤ w ∧ w < 8 ∧ up μ1 a 4 7 (a + 24) u = μ (a + 24) w ∧ (w = u + 1 ∨ w = 0 ∧ u = 7) := by
             intro u p q
             by_cases e7 : u = 7
             · subst e7; exact ⟨0, by omega, by omega, g7, by omega⟩
             · exact ⟨u + 1, by omega, by omega, g17 u p (by omega), by omega⟩
           refine ⟨fun u p q => ?_, fun u w p q r s e => ?_⟩
           · obtain ⟨x, x1, x2, x3, _⟩ := k1 u p q
             rw [x3]; exact hP.1 x x1 x2
           · obtain ⟨x, x1, x2, x3, x4⟩ := k1 u p q
             obtain ⟨y, y1, y2, y3, y4⟩ := k1 w r s
             rw [x3, y3] at e
             have := hP.2 x y x1 x2 y1 y2 e
             omega
         have hSR : SR σ (up μ1 a 4 7) a (kpA N) t := by
           refine ⟨Wk.fr hK (fun j => f _ _ (by omega) (by omega)), hS, ?_, NI_kpA hN h8, hP7, h29⟩
           refine RS.mk' hR (fun j p q => f _ _ (by omega) (by omega)) ?_ (fun i j p q => f _ _ (by omega) (by omega)) o0 o1 o5 (by omega) (by omega) (by omega) (fun v i p q r s z => o _ (by omega) (by omega)) (fun v i p q r => o _ (by omega) (by omega)) (fun j p q => o _ (by omega) (by omega)) ?_ ?_
           · rw [up_e rfl rfl, o6]
           · have hB := hR.2.2.2.2.1
             unfold RN at hB ⊢
             refine BR_cg (BR_tr (μ' := up μ1 a 4 7) (b' := a + 18) hB (by omega) (fun j p q => f _ _ (by omega) (by omega)) (fun j p q => f _ _ (by omega) (by omega)) (fun j p q => f _ _ (by omega) (by omega)) (by omega) (fun j p q => ⟨f _ _ (by omega) (by omega), f _ _ (by omega) (by omega), f _ _ (by omega) (by omega)⟩)) o2.symm o3.symm o4.symm o0.symm o1.symm (fun r p q => (o _ (by omega) (by omega)).symm) (fun r p q => (o _ (by omega) (by omega)).symm) (fun r p q => ⟨(o _ (by omega) (by omega)).symm, (o _ (by omega) (by omega)).symm, (o _ (by omega) (by omega)).symm⟩)
           · intro u p q
             rw [g17 u p (by omega)]
             have hu := hP.1 (u + 1) (by omega) (by omega)
             have hr := hR.2.2.2.2.2 (u + 1) (by omega) (by omega)
             have hc2 : 0 ≤ N (115 + 51 * (u + 1) + 14) ∧ N (115 + 51 * (u + 1) + 14) ≤ 12 := (hN.2.2.2.2.2 (u + 1) (by omega) (by omega)).2.1
             unfold RP at hr ⊢
             refine BR_cg (BR_tr (μ' := up μ1 a 4 7) (b' := μ (a + 24) (u + 1)) hr (by omega) (fun j p q => f _ _ (by omega) (by omega)) (fun j p q => f _ _ (by omega) (by omega)) (fun j p q => f _ _ (by omega) (by omega)) (by omega) (fun j p q => ⟨f _ _ (by omega) (by omega), f _ _ (by omega) (by omega), f _ _ (by omega) (by omega)⟩)) ?_ ?_ ?_ o0.symm o1.symm (fun r x y => ?_) (fun r x y => ?_) (fun r x y => ⟨?_, ?_, ?_⟩)
             all_goals (rw [oh _ (by omega) (by omega)]; congr 1; omega)
         obtain ⟨rv, μ2, h1, h2, h3, h4⟩ := fin (kpA N) _ hSR (by omega)
         exact ⟨rv, μ2, h1, h2, fun k j p => by rw [h3 k j p]; exact f k j (by omega) (by omega), h4⟩)
end
