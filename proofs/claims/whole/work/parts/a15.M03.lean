/-- only the reference's scratch has changed -/
def Mq (μ μ' : zM) : Prop := ∀ k j, ¬ (173 ≤ k ∧ k ≤ 180) → ¬ (k = 168 ∧ 7 ≤ j ∧ j ≤ 17) → μ' k j = μ k j
theorem Mq.rfl' {μ : zM} : Mq μ μ := fun _ _ _ _ => rfl
theorem Mq.trans {a b c : zM} (h : Mq a b) (h2 : Mq b c) : Mq a c := fun k j p q => (h2 k j p q).trans (h k j p q)
theorem Mq.n {a b : zM} (h : Mq a b) : b 169 = a 169 := by
  funext j
  exact h 169 j (by omega) (by omega)
theorem Mq.up {a b : zM} {k j x : Int} (h : Mq a b) (hk : (173 ≤ k ∧ k ≤ 180) ∨ (k = 168 ∧ 7 ≤ j ∧ j ≤ 17)) : Mq a (up b k j x) := by
  intro k' j' p q
  have : ¬ (k' = k ∧ j' = j) := by omega
  show (if k' = k ∧ j' = j then x else b k' j') = _
  rw [if_neg this]
  exact h k' j' p q
theorem up_s {μ : zM} {k j x : Int} : up μ k j x k j = x := if_pos ⟨rfl, rfl⟩
theorem up_n {μ : zM} {k j x k' j' : Int} (h : ¬ (k' = k ∧ j' = j)) : up μ k j x k' j' = μ k' j' := if_neg h
/-- the hand is laid -/
def HL (μ : zM) : Prop := (∀ v, 0 ≤ v → v < μ 169 0 → μ 173 v = wFee (μ 169 (7 + 6 * v + 0)) (μ 169 (7 + 6 * v + 2))) ∧ μ 168 7 = μ 169 1 ∧ (∀ r, 0 ≤ r → r < μ 169 1 → μ 174 r = μ 169 (43 + 3 * r + 0) ∧ μ 175 r = μ 169 (43 + 3 * r + 1) ∧ μ 176 r = μ 169 (43 + 3 * r + 2))
section
variable {ext : List xC} {σ : zSh} {d : Nat} {μ : zM}
set_option maxRecDepth 100000 in set_option maxHeartbeats 4000000 in theorem k_m_layHand (hW : Wl σ) {t : Int} (hN : NI (μ 169) t) : ZQ ext (d + 1) n_X12_layHand [(1161, 0)] σ μ (fun rv μ' => rv = none ∧ Mq μ μ' ∧ HL μ') := by
  obtain ⟨⟨h1, h2, h3, h4⟩, hV, hR, hD, hB, hP⟩ := hN
  have h43 : ∀ r, 0 ≤ r → r < μ 169 1 → 0 ≤ μ 169 (43 + 3 * r + 1) ∧ μ 169 (43 + 3 * r + 1) ≤ 999 := hB.2.2.1
  refine ZQ.i rfl ?_
  refine ZE.go hW 2 rfl (by and_intros <;> first | trivial | assumption | omega) ?_
  refine loopU (n := μ 169 0) (G := fun i => ∀ μ1, (Mq μ μ1 ∧ ∀ v, 0 ≤ v → v < i → μ1 173 v = wFee (μ 169 (7 + 6 * v + 0)) (μ 169 (7 + 6 * v + 2))) → ZE ext (d + 1) n_X12_layHand 2 [(1161, 0), (0, i)] [] σ μ1 _) ?_ ?_ 0 (by omega) (by omega) μ ⟨Mq.rfl', fun v a b => by omega⟩
  · intro i h0 hi ih μ1 ⟨hq, hc⟩
    have hv := hV i h0 hi
    have e1 := hq.n
    have n0 := congrFun e1 0
    have n1 := congrFun e1 1
    refine ZE.go hW 9999 rfl (by and_intros <;> first | trivial | assumption | omega) ?_
    refine ZE.b rfl (by omega) (by omega) ?_ ?_ <;> intro hb
    · omega
    · refine ZE.go hW 9999 rfl (by and_intros <;> first | trivial | assumption | omega) ?_
      rw [e1]
      refine ZE.c0 hW rfl rfl (Nat.le_of_ble_eq_true rfl) (Nat.le_of_ble_eq_true rfl) (k_m_costOf (d := d) hW hv.1 (by omega)) ?_
      refine ZE.go hW 2 rfl (by and_intros <;> first | trivial | assumption | omega) ?_
      refine ih _ ⟨hq.up (by omega), ?_⟩
      intro v a b
      by_cases hvi : v = i
      · rw [hvi, up_s]
      · rw [up_n (by omega)]
        exact hc v a (by omega)
  · intro μ1 ⟨hq, hc⟩
    have e1 := hq.n
    have n0 := congrFun e1 0
    have n1 := congrFun e1 1
    refine ZE.go hW 9999 rfl (by and_intros <;> first | trivial | assumption | omega) ?_
    refine ZE.b rfl (by omega) (by omega) ?_ ?_ <;> intro hb
    · refine ZE.go hW 47 rfl (by and_intros <;> first | trivial | assumption | omega) ?_
      rw [e1]
      refine loopU (n := μ 169 1) (G := fun i => ∀ μ2, (Mq μ μ2 ∧ (∀ v, 0 ≤ v → v < μ 169 0 → μ2 173 v = wFee (μ 169 (7 + 6 * v + 0)) (μ 169 (7 + 6 * v + 2))) ∧ μ2 168 7 = μ 169 1 ∧ ∀ r, 0 ≤ r → r < i → μ2 174 r = μ 169 (43 + 3 * r + 0) ∧ μ2 175 r = μ 169 (43 + 3 * r + 1) ∧ μ2 176 r = μ 169 (43 + 3 * r + 2)) → ZE ext (d + 1) n_X12_layHand 47 [(1161, 0), (0, i)] [] σ μ2 _) ?_ ?_ 0 (by omega) (by omega) _ ⟨hq.up (by omega), ?_, up_s, fun v a b => by omega⟩
      · intro i h0 hi ih μ2 ⟨hq2, hc2, h72, hr2⟩
        have e2 := hq2.n
        have n0 := congrFun e2 0
        have n1 := congrFun e2 1
        refine ZE.go hW 9999 rfl (by and_intros <;> first | trivial | assumption | omega) ?_
        refine ZE.b rfl (by omega) (by omega) ?_ ?_ <;> intro hb
        · omega
        · refine ZE.go hW 47 rfl (by and_intros <;> first | trivial | assumption | omega) ?_
          have z : ∀ x y w, Mq μ (up (up (up μ2 174 i x) 175 i y) 176 i w) := fun x y w => ((hq2.up (by omega)).up (by omega)).up (by omega)
          refine ih _ ⟨z _ _ _, ?_, ?_, ?_⟩
          · intro v a b
            rw [up_n (by omega), up_n (by omega), up_n (by omega)]
            exact hc2 v a b
          · rw [up_n (by omega), up_n (by omega), up_n (by omega)]
            exact h72
          · intro r a b
            by_cases hvi : r = i
            · subst hvi
              rw [up_n (by omega), up_n (by omega), up_s, up_n (by omega), up_s, up_s]
              rw [up_n (k' := 169) (by omega), up_n (k' := 169) (by omega), up_n (k' := 169) (by omega), e2]
              exact ⟨rfl, rfl, rfl⟩
            · rw [up_n (by omega), up_n (by omega), up_n (by omega), up_n (by omega), up_n (by omega), up_n (by omega), up_n (by omega), up_n (by omega), up_n (by omega)]
              exact hr2 r a (by omega)
      · intro μ2 ⟨hq2, hc2, h72, hr2⟩
        have e2 := hq2.n
        have n0 := congrFun e2 0
        have n1 := congrFun e2 1
        refine ZE.go hW 9999 rfl (by and_intros <;> first | trivial | assumption | omega) ?_
        refine ZE.b rfl (by omega) (by omega) ?_ ?_ <;> intro hb
        · refine ZE.rv rfl rfl ?_
          refine ⟨rfl, hq2, ?_, ?_, ?_⟩
          · rw [e2]; exact hc2
          · rw [e2]; exact h72
          · rw [e2]; exact hr2
        · omega
      · intro v a b
        rw [up_n (by omega)]
        exact hc v a b
    · omega
end
