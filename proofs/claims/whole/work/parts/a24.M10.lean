theorem frm {μ μ' : zM} {a k : Int} (h : ∀ k j, k ≠ a → μ' k j = μ k j) (hk : k ≠ a) : μ' k = μ k := funext fun j => h k j hk
section
variable {ext : List xC} {σ : zSh} {d : Nat} {μ : zM}
set_option maxRecDepth 100000 in set_option maxHeartbeats 4000000 in theorem k_m_laySuit {e t : Int} (hW : Wl σ) (hN : NI (μ 169) t) (hH : HR μ) (he : 0 ≤ e ∧ e < 1000) : ZQ ext (d + 4) n_X12_laySuit [(1161, 0), (0, e)] σ μ (fun rv μ' => rv = none ∧ (∀ k j, k ≠ 177 → μ' k j = μ k j) ∧ ∀ r, 0 ≤ r → r < μ 168 7 → SM (μ' 177 r) (μ 169 0) (dS μ e r)) := by
  have h1 := hN.1.1
  have h7 := hH.1
  refine ZQ.i rfl ?_
  refine ZE.go hW 2 rfl (by and_intros <;> first | trivial | assumption | omega) ?_
  have main : ∀ i, 0 ≤ i → i ≤ μ 168 7 → ∀ μ1 x3, ((∀ k j, k ≠ 177 → μ1 k j = μ k j) ∧ ∀ r, 0 ≤ r → r < i → SM (μ1 177 r) (μ 169 0) (dS μ e r)) → ZE ext (d + 4) n_X12_laySuit 2 [(1161, 0), (0, e), (0, i), x3] [] σ μ1 (fun rv μ' => rv = none ∧ (∀ k j, k ≠ 177 → μ' k j = μ k j) ∧ ∀ r, 0 ≤ r → r < μ 168 7 → SM (μ' 177 r) (μ 169 0) (dS μ e r)) := by
    refine loopU ?_ ?_
    · intro i h0 hi ih μ1 x3 ⟨hf, hs⟩
      have n7 := hf 168 7 (by omega)
      refine ZE.go hW 9999 rfl (by and_intros <;> first | trivial | assumption | omega) ?_
      refine ZE.b rfl (by omega) (by omega) ?_ ?_ <;> intro g1
      · omega
      · refine ZE.go hW 19 rfl (by and_intros <;> first | trivial | assumption | omega) ?_
        have inner : ∀ j, 0 ≤ j → j ≤ μ 169 0 → ∀ μ2, ((∀ k j, k ≠ 177 → μ2 k j = μ k j) ∧ (∀ r, 0 ≤ r → r < i → SM (μ2 177 r) (μ 169 0) (dS μ e r)) ∧ SM (μ2 177 i) j (dS μ e i)) → ZE ext (d + 4) n_X12_laySuit 19 [(1161, 0), (0, e), (0, i), (0, j)] [] σ μ2 (fun rv μ' => rv = none ∧ (∀ k j, k ≠ 177 → μ' k j = μ k j) ∧ ∀ r, 0 ≤ r → r < μ 168 7 → SM (μ' 177 r) (μ 169 0) (dS μ e r)) := by
          refine loopU ?_ ?_
          · intro j hj0 hj ihj μ2 ⟨hf2, hs2, hm2⟩
            have e162 : μ2 169 = μ 169 := frm hf2 (by omega)
            have n0 := congrFun e162 0
            have n7 := hf2 168 7 (by omega)
            have eD : dS μ2 e i j = dS μ e i j := by
              unfold dS
              rw [e162, frm hf2 (k := 173) (by omega), frm hf2 (k := 174) (by omega), frm hf2 (k := 175) (by omega), frm hf2 (k := 176) (by omega)]
            have hH2 : HR μ2 := by
              unfold HR
              rw [frm hf2 (k := 168) (by omega), e162, frm hf2 (k := 173) (by omega), frm hf2 (k := 174) (by omega), frm hf2 (k := 175) (by omega), frm hf2 (k := 176) (by omega)]
              exact hH
            have hN2 : NI (μ2 169) t := by rw [e162]; exact hN
            refine ZE.go hW 9999 rfl (by and_intros <;> first | trivial | assumption | omega) ?_
            refine ZE.b rfl (by omega) (by omega) ?_ ?_ <;> intro g2
            · omega
            · refine ZE.go hW 9999 rfl (by and_intros <;> first | trivial | assumption | omega) ?_
              refine ZE.c0 hW rfl rfl (Nat.le_of_ble_eq_true rfl) (Nat.le_of_ble_eq_true rfl) (k_m_doesSuit (d := d) hW hN2 hH2 (by omega) (by omega) he) ?_
              rw [eD]
              refine ZE.bp rfl rfl ?_ ?_ <;> intro g3
              · refine ZE.go hW 19 rfl (by and_intros <;> first | trivial | assumption | omega) ?_
                refine ihj _ ⟨?_, ?_, ?_⟩
                · intro k l hk; rw [up_n (by omega)]; exact hf2 k l hk
                · intro r a b; rw [up_n (by omega)]; exact hs2 r a b
                · rw [up_s, bt_or0 hm2.1]; exact SM_skip hm2 g3
              · refine ZE.go hW 19 rfl (by and_intros <;> first | trivial | assumption | omega) ?_
                refine ihj _ ⟨?_, ?_, ?_⟩
                · intro k l hk; rw [up_n (by omega)]; exact hf2 k l hk
                · intro r a b; rw [up_n (by omega)]; exact hs2 r a b
                · rw [up_s]; exact SM_add hm2 (by omega) g3
          · intro μ2 ⟨hf2, hs2, hm2⟩
            have n0 := hf2 169 0 (by omega)
            refine ZE.go hW 9999 rfl (by and_intros <;> first | trivial | assumption | omega) ?_
            refine ZE.b rfl (by omega) (by omega) ?_ ?_ <;> intro g2
            · refine ZE.go hW 2 rfl (by and_intros <;> first | trivial | assumption | omega) ?_
              refine ih _ _ ⟨hf2, fun r a b => ?_⟩
              by_cases q : r = i
              · rw [q]; exact hm2
              · exact hs2 r a (by omega)
            · omega
        refine inner 0 (by omega) h1.1 _ ⟨?_, ?_, ?_⟩
        · intro k l hk; rw [up_n (by omega)]; exact hf k l hk
        · intro r a b; rw [up_n (by omega)]; exact hs r a b
        · rw [up_s]; exact SM_nil
    · intro μ1 x3 ⟨hf, hs⟩
      have n7 := hf 168 7 (by omega)
      refine ZE.go hW 9999 rfl (by and_intros <;> first | trivial | assumption | omega) ?_
      refine ZE.b rfl (by omega) (by omega) ?_ ?_ <;> intro g1
      · refine ZE.rv rfl rfl ?_
        exact ⟨rfl, hf, hs⟩
      · omega
  exact main 0 (by omega) h7.1 μ _ ⟨fun _ _ _ => rfl, fun r a b => by omega⟩
set_option maxRecDepth 100000 in set_option maxHeartbeats 4000000 in theorem k_m_freeBut {r : Int} (hW : Wl σ) (h0 : 0 ≤ μ 169 0 ∧ μ 169 0 ≤ 6) (hr : 0 ≤ r ∧ r ≤ 7) (hv : ∀ i, 0 ≤ i → i < r → μ 178 i = -1 ∨ 0 ≤ μ 178 i ∧ μ 178 i < 6) : ZM ext (d + 1) n_X12_freeBut [(1161, 0), (0, r)] σ μ (some (0, pF (μ 169 0) (μ 178) r.toNat)) μ := by
  apply ZQ.ex
  refine ZQ.i rfl ?_
  refine ZE.go hW 11 rfl (by and_intros <;> first | trivial | assumption | omega) ?_
  have main : ∀ i, 0 ≤ i → i ≤ r → ZE ext (d + 1) n_X12_freeBut 11 [(1161, 0), (0, r), (0, pF (μ 169 0) (μ 178) i.toNat), (0, i)] [] σ μ (fun a b => a = some (0, pF (μ 169 0) (μ 178) r.toNat) ∧ b = μ) := by
    refine loopU ?_ ?_
    · intro i a b ih
      have hi := hv i a b
      have hp := pF_rng (row := μ 178) h0 i.toNat (fun j p q => hv j p (by omega))
      rw [pF_s a] at ih
      refine ZE.go hW 9999 rfl (by and_intros <;> first | trivial | assumption | omega) ?_
      refine ZE.b rfl (by omega) (by omega) ?_ ?_ <;> intro g1
      · omega
      · refine ZE.go hW 9999 rfl (by and_intros <;> first | trivial | assumption | omega) ?_
        refine ZE.b rfl (by omega) (by omega) ?_ ?_ <;> intro g2
        · refine ZE.go hW 11 rfl (by and_intros <;> first | trivial | assumption | omega) ?_
          rw [if_neg g2] at ih
          exact ih
        · refine ZE.go hW 11 rfl (by and_intros <;> first | trivial | assumption | omega) ?_
          rw [if_pos g2] at ih
          rw [bt_andm hp]
          exact ih
    · refine ZE.go hW 9999 rfl (by and_intros <;> first | trivial | assumption | omega) ?_
      refine ZE.b rfl (by omega) (by omega) ?_ ?_ <;> intro g1
      · refine ZE.go hW 9999 rfl (by and_intros <;> first | trivial | assumption | omega) ?_
        refine ZE.ri rfl rfl ?_
        exact ⟨rfl, rfl⟩
      · omega
  exact main 0 (by omega) hr.1
set_option maxRecDepth 100000 in set_option maxHeartbeats 4000000 in theorem k_m_nextView {b m : Int} (hW : Wl σ) (h0 : 0 ≤ μ 169 0 ∧ μ 169 0 ≤ 6) (hb : -1 ≤ b ∧ b < μ 169 0) (hm : 0 ≤ m ∧ m < 64) : ZM ext (d + 1) n_X12_nextView [(1161, 0), (0, b), (0, m)] σ μ (some (0, nvw m (μ 169 0 - (b + 1)).toNat (b + 1))) μ := by
  apply ZQ.ex
  refine ZQ.i rfl ?_
  refine ZE.go hW 4 rfl (by and_intros <;> first | trivial | assumption | omega) ?_
  have main : ∀ (k : Nat) (i : Int), 0 ≤ i → i + k = μ 169 0 → ZE ext (d + 1) n_X12_nextView 4 [(1161, 0), (0, b), (0, m), (0, i)] [] σ μ (fun a z => a = some (0, nvw m k i) ∧ z = μ) := by
    intro k
    induction k with
    | zero =>
      intro i a b
      refine ZE.go hW 9999 rfl (by and_intros <;> first | trivial | assumption | omega) ?_
      refine ZE.b rfl (by omega) (by omega) ?_ ?_ <;> intro g1
      · refine ZE.go hW 9999 rfl (by and_intros <;> first | trivial | assumption | omega) ?_
        refine ZE.ri rfl rfl ?_
        exact ⟨rfl, rfl⟩
      · omega
    | succ k ih =>
      intro i a b
      have hb := bt01 (m := m) (v := i) (by omega) (by omega)
      refine ZE.go hW 9999 rfl (by and_intros <;> first | trivial | assumption | omega) ?_
      refine ZE.b rfl (by omega) (by omega) ?_ ?_ <;> intro g1
      · omega
      · refine ZE.go hW 9999 rfl (by and_intros <;> first | trivial | assumption | omega) ?_
        refine ZE.b0 rfl (bt_rng (by omega) (by omega)) ?_ ?_ <;> intro g2
        · refine ZE.go hW 9999 rfl (by and_intros <;> first | trivial | assumption | omega) ?_
          refine ZE.ri rfl rfl ?_
          have e : nvw m (k + 1) i = i := if_pos (by omega)
          rw [e]
          exact ⟨rfl, rfl⟩
        · refine ZE.go hW 4 rfl (by and_intros <;> first | trivial | assumption | omega) ?_
          have e : nvw m (k + 1) i = nvw m k (i + 1) := if_neg (by omega)
          rw [e]
          exact ih (i + 1) (by omega) (by omega)
  exact main (μ 169 0 - (b + 1)).toNat (b + 1) (by omega) (by omega)
/-- only the best so far has changed -/
def Fj (μ μ' : zM) : Prop := ∀ k j, k ≠ 179 → ¬ (k = 168 ∧ (j = 14 ∨ j = 15)) → μ' k j = μ k j
set_option maxRecDepth 100000 in set_option maxHeartbeats 4000000 in theorem k_m_judgeRow {n : Int} (hW : Wl σ) (hn : μ 168 7 = n ∧ 0 ≤ n ∧ n ≤ 7) (h0 : 0 ≤ μ 169 0 ∧ μ 169 0 ≤ 6) (hc : ∀ v, 0 ≤ v → v < μ 169 0 → 0 ≤ μ 173 v ∧ μ 173 v < 200) (hv : ∀ i, 0 ≤ i → i < n → μ 178 i = -1 ∨ 0 ≤ μ 178 i ∧ μ 178 i < μ 169 0) (hb : (-1 ≤ μ 168 14 ∧ μ 168 14 ≤ 7) ∧ (0 ≤ μ 168 15 ∧ μ 168 15 < 10000)) :
    ZQ ext d n_X12_judgeRow [(1161, 0)] σ μ (fun rv μ' => rv = none ∧ Fj μ μ' ∧ (10000 * μ 168 14 + μ 168 15 < 10000 * pM (μ 178) n.toNat + pC (μ 173) (μ 178) n.toNat → μ' 168 14 = pM (μ 178) n.toNat ∧ μ' 168 15 = pC (μ 173) (μ 178) n.toNat ∧ ∀ j, 0 ≤ j → j < n → μ' 179 j = μ 178 j) ∧ (¬ 10000 * μ 168 14 + μ 168 15 < 10000 * pM (μ 178) n.toNat + pC (μ 173) (μ 178) n.toNat → μ' = μ)) := by
  have rM := pM_rng (row := μ 178) n.toNat
  have rC := pC_rng (row := μ 178) hc n.toNat (fun i p q => hv i p (by omega))
  generalize hQ : (fun (rv : Option V) (μ' : zM) => rv = none ∧ Fj μ μ' ∧ (10000 * μ 168 14 + μ 168 15 < 10000 * pM (μ 178) n.toNat + pC (μ 173) (μ 178) n.toNat → μ' 168 14 = pM (μ 178) n.toNat ∧ μ' 168 15 = pC (μ 173) (μ 178) n.toNat ∧ ∀ j, 0 ≤ j → j < n → μ' 179 j = μ 178 j) ∧ (¬ 10000 * μ 168 14 + μ 168 15 < 10000 * pM (μ 178) n.toNat + pC (μ 173) (μ 178) n.toNat → μ' = μ)) = Q
  have tail : 10000 * μ 168 14 + μ 168 15 < 10000 * pM (μ 178) n.toNat + pC (μ 173) (μ 178) n.toNat → ZE ext d n_X12_judgeRow 90 [(1161, 0), (0, pM (μ 178) n.toNat), (0, pC (μ 173) (μ 178) n.toNat), (0, n)] [] σ μ Q := by
    intro hlt
    have lp : ∀ i, 0 ≤ i → i ≤ n → ∀ μ1, (Fj μ μ1 ∧ μ1 168 14 = pM (μ 178) n.toNat ∧ μ1 168 15 = pC (μ 173) (μ 178) n.toNat ∧ ∀ j, 0 ≤ j → j < i → μ1 179 j = μ 178 j) → ZE ext d n_X12_judgeRow 102 [(1161, 0), (0, pM (μ 178) n.toNat), (0, pC (μ 173) (μ 178) n.toNat), (0, i)] [] σ μ1 Q := by
      refine loopU ?_ ?_
      · intro i a b ih μ1 ⟨hf, e1, e2, e3⟩
        have n7 := hf 168 7 (by omega) (by omega)
        refine ZE.go hW 9999 rfl (by and_intros <;> first | trivial | assumption | omega) ?_
        refine ZE.b rfl (by omega) (by omega) ?_ ?_ <;> intro g1
        · omega
        · refine ZE.go hW 102 rfl (by and_intros <;> first | trivial | assumption | omega) ?_
          refine ih _ ⟨?_, ?_, ?_, ?_⟩
          · intro k j p q; rw [up_n (by omega)]; exact hf k j p q
          · rw [up_n (by omega)]; exact e1
          · rw [up_n (by omega)]; exact e2
          · intro j p q
            by_cases e : j = i
            · rw [e, up_s]; exact hf 178 i (by omega) (by omega)
            · rw [up_n (by omega)]; exact e3 j p (by omega)
      · intro μ1 ⟨hf, e1, e2, e3⟩
        have n7 := hf 168 7 (by omega) (by omega)
        refine ZE.go hW 9999 rfl (by and_intros <;> first | trivial | assumption | omega) ?_
        refine ZE.b rfl (by omega) (by omega) ?_ ?_ <;> intro g1
        · refine ZE.rv rfl rfl ?_
          rw [← hQ]
          exact ⟨rfl, hf, fun _ => ⟨e1, e2, e3⟩, fun q => absurd hlt q⟩
        · omega
    refine ZE.go hW 102 rfl (by and_intros <;> first | trivial | assumption | omega) ?_
    refine lp 0 (by omega) hn.2.1 _ ⟨?_, ?_, ?_, fun j p q => by omega⟩
    · intro k j p q; rw [up_n (by omega), up_n (by omega)]
    · rw [up_n (by omega), up_s]
    · rw [up_s]
  refine ZQ.i rfl ?_
  refine ZE.go hW 6 rfl (by and_intros <;> first | trivial | assumption | omega) ?_
  have main : ∀ i, 0 ≤ i → i ≤ n → ZE ext d n_X12_judgeRow 6 [(1161, 0), (0, pM (μ 178) i.toNat), (0, pC (μ 173) (μ 178) i.toNat), (0, i)] [] σ μ Q := by
    refine loopU ?_ ?_
    · intro i a b ih
      have hi := hv i a b
      rw [pM_s a, pC_s a] at ih
      refine ZE.go hW 9999 rfl (by and_intros <;> first | trivial | assumption | omega) ?_
      refine ZE.b rfl (by omega) (by omega) ?_ ?_ <;> intro g1
      · omega
      · refine ZE.go hW 9999 rfl (by and_intros <;> first | trivial | assumption | omega) ?_
        refine ZE.b rfl (by omega) (by omega) ?_ ?_ <;> intro g2
        · refine ZE.go hW 9999 rfl (by and_intros <;> first | trivial | assumption | omega) ?_
          refine ZE.b rfl (by omega) (by omega) ?_ ?_ <;> intro g3
          · refine ZE.go hW 6 rfl (by and_intros <;> first | trivial | assumption | omega) ?_
            rw [if_neg g2, if_neg g2] at ih
            exact ih
          · exact absurd g3 g2
        · refine ZE.go hW 9999 rfl (by and_intros <;> first | trivial | assumption | omega) ?_
          refine ZE.b rfl (by omega) (by omega) ?_ ?_ <;> intro g3
          · exact absurd g2 g3
          · refine ZE.go hW 6 rfl (by and_intros <;> first | trivial | assumption | omega) ?_
            rw [if_pos g2, if_pos g2] at ih
            exact ih
    · refine ZE.go hW 9999 rfl (by and_intros <;> first | trivial | assumption | omega) ?_
      refine ZE.b rfl (by omega) (by omega) ?_ ?_ <;> intro g1
      · refine ZE.go hW 9999 rfl (by and_intros <;> first | trivial | assumption | omega) ?_
        refine ZE.b rfl (by omega) (by omega) ?_ ?_ <;> intro g2
        · exact tail (by omega)
        · refine ZE.go hW 9999 rfl (by and_intros <;> first | trivial | assumption | omega) ?_
          refine ZE.b rfl (by omega) (by omega) ?_ ?_ <;> intro g3
          · refine ZE.rv rfl rfl ?_
            rw [← hQ]
            exact ⟨rfl, fun _ _ _ _ => rfl, fun q => absurd q (by omega), fun _ => rfl⟩
          · refine ZE.go hW 9999 rfl (by and_intros <;> first | trivial | assumption | omega) ?_
            refine ZE.b rfl (by omega) (by omega) ?_ ?_ <;> intro g4
            · refine ZE.rv rfl rfl ?_
              rw [← hQ]
              exact ⟨rfl, fun _ _ _ _ => rfl, fun q => absurd q (by omega), fun _ => rfl⟩
            · exact tail (by omega)
      · omega
  exact main 0 (by omega) hn.2.1
end
