def Bst (μ : zM) (n bs : Int) (w : Int → Int) : Prop := 10000 * μ 168 14 + μ 168 15 = bs ∧ (0 ≤ μ 168 15 ∧ μ 168 15 < 10000) ∧ (-1 ≤ μ 168 14 ∧ μ 168 14 ≤ 7) ∧ (0 ≤ bs → ∀ j, 0 ≤ j → j < n → μ 179 j = w j)
theorem Bst.up {μ : zM} {n bs j x : Int} {w : Int → Int} (h : Bst μ n bs w) : Bst (up μ 178 j x) n bs w := by
  unfold Bst
  rw [up_n (by omega), up_n (by omega)]
  refine ⟨h.1, h.2.1, h.2.2.1, fun a b c e => ?_⟩
  rw [up_n (by omega)]
  exact h.2.2.2 a b c e
def Fb (r : Int) (μ μ' : zM) : Prop := ∀ k j, k ≠ 179 → ¬ (k = 168 ∧ (j = 14 ∨ j = 15)) → ¬ (k = 178 ∧ r ≤ j) → μ' k j = μ k j
theorem Fb.rfl' {r : Int} {μ : zM} : Fb r μ μ := fun _ _ _ _ _ => rfl
theorem Fb.trans {r r' : Int} {a b c : zM} (h : Fb r a b) (h2 : Fb r' b c) (hr : r ≤ r') : Fb r a c := fun k j p q s => (h2 k j p q (by omega)).trans (h k j p q s)
theorem Fb.up {r j x : Int} {a b : zM} (h : Fb r a b) (hj : r ≤ j) : Fb r a (up b 178 j x) := by
  intro k l p q s
  rw [up_n (by omega)]
  exact h k l p q s
def tS (μ0 μ : zM) (r : Int) : Int := 10000 * pM (μ 178) r.toNat + pC (μ0 173) (μ 178) r.toNat
def tF (μ0 μ : zM) (r : Int) : Int := pF (μ0 169 0) (μ 178) r.toNat
def tB (μ0 : zM) (k : Nat) (r f : Int) : Int × Int := bB (μ0 169 0).toNat (μ0 173) (μ0 177) k r f
def tR (μ0 : zM) (k : Nat) (r f j : Int) : Int := bR (μ0 169 0).toNat (μ0 173) (μ0 177) k r f j
/-- the row: what was, then v, then the best of the rest -/
def tW (μ0 μ : zM) (k : Nat) (r f v : Int) : Int → Int := fun j => if j < r then μ 178 j else if j = r then v else tR μ0 k (r + 1) (fx f v) j
section
variable {ext : List xC} {σ : zSh} {d : Nat} {μ0 : zM} {e n : Int} {Q : Option V → zM → Prop}
set_option maxRecDepth 100000 in set_option maxHeartbeats 4000000 in theorem k_layT (hW : Wl σ) (hn : μ0 168 7 = n ∧ 0 ≤ n ∧ n ≤ 7) (h0 : 0 ≤ μ0 169 0 ∧ μ0 169 0 ≤ 6) (hc : ∀ v, 0 ≤ v → v < μ0 169 0 → 0 ≤ μ0 173 v ∧ μ0 173 v < 200) (hs : ∀ r, 0 ≤ r → r < n → 0 ≤ μ0 177 r ∧ μ0 177 r < 64) :
    ∀ (k : Nat) (r : Int), 0 ≤ r → r + k = n → ∀ (μ : zM) (x3 : V) (bs : Int) (w : Int → Int), Fb 0 μ0 μ → (k ≠ 0 → μ 178 r = -2) → (∀ i, 0 ≤ i → i < r → μ 178 i = -1 ∨ 0 ≤ μ 178 i ∧ μ 178 i < μ0 169 0) → Bst μ n bs w →
      (∀ μ' x3', Fb r μ μ' → Bst μ' n (ub bs (tS μ0 μ r + (tB μ0 k r (tF μ0 μ r)).1) w (fun j => if j < r then μ 178 j else tR μ0 k r (tF μ0 μ r) j)).1 (ub bs (tS μ0 μ r + (tB μ0 k r (tF μ0 μ r)).1) w (fun j => if j < r then μ 178 j else tR μ0 k r (tF μ0 μ r) j)).2 → ZE ext (d + 2) n_X12_layBest 25 [(1161, 0), (0, e), (0, r + -1), x3'] [] σ μ' Q) →
      ZE ext (d + 2) n_X12_layBest 25 [(1161, 0), (0, e), (0, r), x3] [] σ μ Q := by
  intro k
  induction k with
  | zero =>
    intro r hr0 hrk μ x3 bs w hF hm hv hB K
    have n7 : μ 168 7 = n := (hF 168 7 (by omega) (by omega) (by omega)).trans hn.1
    have e166 : μ 173 = μ0 173 := funext fun j => hF 173 j (by omega) (by omega) (by omega)
    have n0 : μ 169 0 = μ0 169 0 := hF 169 0 (by omega) (by omega) (by omega)
    have hr : r = n := by omega
    have rM := pM_rng (row := μ 178) r.toNat
    have rC := pC_rng (row := μ 178) hc r.toNat (fun i p q => hv i p (by omega))
    refine ZE.go hW 9999 rfl (by and_intros <;> first | trivial | assumption | omega) ?_
    refine ZE.b0 rfl (by omega) ?_ ?_ <;> intro g1
    · omega
    · refine ZE.go hW 9999 rfl (by and_intros <;> first | trivial | assumption | omega) ?_
      refine ZE.b rfl (by omega) (by omega) ?_ ?_ <;> intro g2
      · omega
      · refine ZE.go hW 9999 rfl (by and_intros <;> first | trivial | assumption | omega) ?_
        refine ZE.q0 hW rfl rfl (Nat.le_of_ble_eq_true rfl) (Nat.le_of_ble_eq_true rfl) (k_m_judgeRow (n := n) hW ⟨n7, hn.2⟩ (by rw [n0]; exact h0) (by rw [e166, n0]; exact hc) (by rw [n0]; intro i p q; exact hv i p (by omega)) ⟨hB.2.2.1, hB.2.1⟩) ?_
        rintro rv9 μj ⟨rfl, hFj, hy, hno⟩
        refine ZE.go hW 25 rfl (by and_intros <;> first | trivial | assumption | omega) ?_
        refine K μj _ (fun k j p q s => hFj k j p q) ?_
        have eB : (tB μ0 0 r (tF μ0 μ r)).1 = 0 := rfl
        rw [eB]
        rw [e166, ← hr, hB.1] at hy hno
        unfold ub
        by_cases hlt : bs < tS μ0 μ r + 0
        · rw [if_pos hlt]
          obtain ⟨a1, a2, a3⟩ := hy (by unfold tS at hlt; omega)
          refine ⟨?_, ?_, ?_, fun _ j p q => ?_⟩
          · show 10000 * μj 168 14 + μj 168 15 = tS μ0 μ r + 0
            unfold tS
            omega
          · omega
          · omega
          · show μj 179 j = if j < r then μ 178 j else _
            rw [if_pos (by omega)]
            exact a3 j p (by omega)
        · rw [if_neg hlt, hno (by unfold tS at hlt; omega)]
          exact hB
  | succ k ih =>
    intro r hr0 hrk μ x3 bs w hF hm hv hB K
    have hm := hm (by omega)
    have hf : 0 ≤ tF μ0 μ r ∧ tF μ0 μ r < 64 := pF_rng h0 r.toNat (fun i p q => by have := hv i p (by omega); omega)
    have hsr := hs r hr0 (by omega)
    generalize ef : tF μ0 μ r = f at K hf
    generalize eS : tS μ0 μ r = S at K
    have child : ∀ (y : Int) (μ2 : zM) (x : V) (bsx : Int) (wx : Int → Int), (y = -1 ∨ (0 ≤ y ∧ y < μ0 169 0) ∧ bt f y) → Fb r μ μ2 → μ2 178 r = y → (k ≠ 0 → μ2 178 (r + 1) = -2) → Bst μ2 n bsx wx →
        (∀ μ' x', Fb r μ μ' → μ' 178 r = y → Bst μ' n (ub bsx (S + (if y = -1 then (tB μ0 k (r + 1) f).1 else 10000 + μ0 173 y + (tB μ0 k (r + 1) (zxor f (zshl 1 y))).1)) wx (tW μ0 μ k r f y)).1 (ub bsx (S + (if y = -1 then (tB μ0 k (r + 1) f).1 else 10000 + μ0 173 y + (tB μ0 k (r + 1) (zxor f (zshl 1 y))).1)) wx (tW μ0 μ k r f y)).2 → ZE ext (d + 2) n_X12_layBest 25 [(1161, 0), (0, e), (0, r), x'] [] σ μ' Q) →
        ZE ext (d + 2) n_X12_layBest 25 [(1161, 0), (0, e), (0, r + 1), x] [] σ μ2 Q := by
      intro y μ2 x bsx wx hy hF2 hrow hm2 hB2 Kc
      have cg : ∀ i, 0 ≤ i → i < r → μ2 178 i = μ 178 i := fun i p q => hF2 178 i (by omega) (by omega) (by omega)
      refine ih (r + 1) (by omega) (by omega) μ2 x bsx wx (hF.trans hF2 hr0) hm2 ?_ hB2 ?_
      · intro i p q
        by_cases e1 : i = r
        · rw [e1, hrow]; omega
        · rw [cg i p (by omega)]; exact hv i p (by omega)
      · intro μ' x' hF' hB'
        rw [show r + 1 + -1 = r by omega]
        refine Kc μ' x' (hF2.trans hF' (by omega)) ((hF' 178 r (by omega) (by omega) (by omega)).trans hrow) ?_
        have eF : tF μ0 μ2 (r + 1) = fx f y := by
          unfold tF fx
          rw [pF_s hr0, hrow, pF_cg (row' := μ 178) r.toNat (fun i p q => cg i p (by omega))]
          have ef2 : pF (μ0 169 0) (μ 178) r.toNat = f := ef
          rw [ef2]
          by_cases e1 : y = -1
          · rw [if_pos e1, if_pos e1]
          · rw [if_neg e1, if_neg e1]
            exact clr_xor hf (by omega) (hy.resolve_left e1).2
        have eS2 : tS μ0 μ2 (r + 1) = S + (if y = -1 then 0 else 10000 + μ0 173 y) := by
          unfold tS
          rw [pM_s hr0, pC_s hr0, hrow, pM_cg (row' := μ 178) r.toNat (fun i p q => cg i p (by omega)), pC_cg (row' := μ 178) r.toNat (fun i p q => cg i p (by omega))]
          have eS3 : 10000 * pM (μ 178) r.toNat + pC (μ0 173) (μ 178) r.toNat = S := eS
          split <;> omega
        have eV : tS μ0 μ2 (r + 1) + (tB μ0 k (r + 1) (tF μ0 μ2 (r + 1))).1 = S + (if y = -1 then (tB μ0 k (r + 1) f).1 else 10000 + μ0 173 y + (tB μ0 k (r + 1) (zxor f (zshl 1 y))).1) := by
          rw [eS2, eF]
          unfold fx
          by_cases e1 : y = -1
          · rw [if_pos e1, if_pos e1, if_pos e1]; omega
          · rw [if_neg e1, if_neg e1, if_neg e1]; omega
        have eW : (fun j => if j < r + 1 then μ2 178 j else tR μ0 k (r + 1) (tF μ0 μ2 (r + 1)) j) = tW μ0 μ k r f y := by
          funext j
          unfold tW
          rw [eF]
          by_cases e1 : j < r
          · rw [if_pos (by omega), if_pos e1]
            exact hF2 178 j (by omega) (by omega) (by omega)
          · by_cases e2 : j = r
            · rw [if_pos (by omega), if_neg e1, if_pos e2, e2, hrow]
            · rw [if_neg (by omega), if_neg e1, if_neg e2]
        rw [eV, eW] at hB'
        exact hB'
    have inner : ∀ (j : Nat) (v : Int) (μ1 : zM) (x : V) (a arg : Int), v + 1 + j = μ0 169 0 → -1 ≤ v → Fb r μ μ1 → μ1 178 r = v → bF (μ0 173) (zand (μ0 177 r) f) (fun g => (tB μ0 k (r + 1) g).1) f j (v + 1) a arg = tB μ0 (k + 1) r f → Bst μ1 n (ub bs (S + a) w (tW μ0 μ k r f arg)).1 (ub bs (S + a) w (tW μ0 μ k r f arg)).2 → ZE ext (d + 2) n_X12_layBest 25 [(1161, 0), (0, e), (0, r), x] [] σ μ1 Q := by
      intro j
      induction j using Nat.strongRecOn with
      | ind j ihj =>
        intro v μ1 x a arg hj hv1 hF1 hrow hbF hB1
        have hF01 := hF.trans hF1 hr0
        have n7 : μ1 168 7 = n := (hF01 168 7 (by omega) (by omega) (by omega)).trans hn.1
        have n0 : μ1 169 0 = μ0 169 0 := hF01 169 0 (by omega) (by omega) (by omega)
        have n170 : μ1 177 r = μ0 177 r := hF01 177 r (by omega) (by omega) (by omega)
        have cg : ∀ i, 0 ≤ i → i < r → μ1 178 i = μ 178 i := fun i p q => hF1 178 i (by omega) (by omega) (by omega)
        have ef1 : pF (μ1 169 0) (μ1 178) r.toNat = f := by
          rw [n0, pF_cg (row' := μ 178) r.toNat (fun i p q => cg i p (by omega))]
          exact ef
        have hmk := bt_and hsr hf
        refine ZE.go hW 9999 rfl (by and_intros <;> first | trivial | assumption | omega) ?_
        refine ZE.b0 rfl (by omega) ?_ ?_ <;> intro g1
        · omega
        · refine ZE.go hW 9999 rfl (by and_intros <;> first | trivial | assumption | omega) ?_
          refine ZE.b rfl (by omega) (by omega) ?_ ?_ <;> intro g2
          · refine ZE.go hW 9999 rfl (by and_intros <;> first | trivial | assumption | omega) ?_
            refine ZE.b rfl (by omega) (by omega) ?_ ?_ <;> intro g3
            · refine ZE.go hW 9999 rfl (by and_intros <;> first | trivial | assumption | omega) ?_
              refine ZE.c0 hW rfl rfl (Nat.le_of_ble_eq_true rfl) (Nat.le_of_ble_eq_true rfl) (k_m_freeBut (d := d) hW (by omega) (by omega) (fun i p q => by rw [cg i p q]; have := hv i p q; omega)) ?_
              rw [ef1, n170]
              refine ZE.go hW 9999 rfl (by and_intros <;> first | trivial | assumption | omega) ?_
              refine ZE.c0 hW rfl rfl (Nat.le_of_ble_eq_true rfl) (Nat.le_of_ble_eq_true rfl) (k_m_nextView (d := d) hW (by omega) (by omega) hmk.1) ?_
              rw [hrow, show (μ1 169 0 - (v + 1)).toNat = j by omega]
              have hy := nvw_rng (zand (μ0 177 r) f) j (v + 1)
              have hend := bF_end (c := μ0 173) (m := zand (μ0 177 r) f) (nx := fun g => (tB μ0 k (r + 1) g).1) (f := f) j (v + 1) a arg
              have hto := fun q => bF_to (c := μ0 173) (m := zand (μ0 177 r) f) (nx := fun g => (tB μ0 k (r + 1) g).1) (f := f) j (v + 1) a arg _ rfl q
              generalize ey : nvw (zand (μ0 177 r) f) j (v + 1) = y at hy hend hto
              have m0 : ∀ x, up μ1 178 r x 169 0 = μ0 169 0 := fun x => by rw [up_n (by omega)]; exact n0
              have m7 : ∀ x, up μ1 178 r x 168 7 = n := fun x => by rw [up_n (by omega)]; exact n7
              have m0y := m0 y
              have m7y := m7 y
              refine ZE.go hW 9999 rfl (by and_intros <;> first | trivial | assumption | omega) ?_
              refine ZE.b rfl (by omega) (by omega) ?_ ?_ <;> intro g4
              · have hyb := hy.2.2 (by omega)
                have hby : bt f y := ((hmk.2 y (by omega) (by omega)).mp hyb).2
                obtain ⟨k', hk', hbf⟩ := hto (by omega)
                rw [hbF] at hbf
                have cont : ∀ μ' x', Fb r μ μ' → μ' 178 r = y → Bst μ' n (ub (ub bs (S + a) w (tW μ0 μ k r f arg)).1 (S + (if y = -1 then (tB μ0 k (r + 1) f).1 else 10000 + μ0 173 y + (tB μ0 k (r + 1) (zxor f (zshl 1 y))).1)) (ub bs (S + a) w (tW μ0 μ k r f arg)).2 (tW μ0 μ k r f y)).1 (ub (ub bs (S + a) w (tW μ0 μ k r f arg)).1 (S + (if y = -1 then (tB μ0 k (r + 1) f).1 else 10000 + μ0 173 y + (tB μ0 k (r + 1) (zxor f (zshl 1 y))).1)) (ub bs (S + a) w (tW μ0 μ k r f arg)).2 (tW μ0 μ k r f y)).2 → ZE ext (d + 2) n_X12_layBest 25 [(1161, 0), (0, e), (0, r), x'] [] σ μ' Q := by
                  intro μ' x' hF' hr' hB'
                  rw [ub_ub, if_neg (show ¬ y = -1 by omega)] at hB'
                  by_cases hlt : a < 10000 + μ0 173 y + (tB μ0 k (r + 1) (zxor f (zshl 1 y))).1
                  · rw [if_pos hlt] at hB'
                    rw [if_pos hlt] at hbf
                    exact ihj k' (by omega) y μ' x' _ y (by omega) (by omega) hF' hr' hbf.symm hB'
                  · rw [if_neg hlt] at hB'
                    rw [if_neg hlt] at hbf
                    exact ihj k' (by omega) y μ' x' a arg (by omega) (by omega) hF' hr' hbf.symm hB'
                refine ZE.go hW 9999 rfl (by and_intros <;> first | trivial | assumption | omega) ?_
                refine ZE.b rfl (by omega) (by omega) ?_ ?_ <;> intro g9
                · refine ZE.go hW 25 rfl (by and_intros <;> first | trivial | assumption | omega) ?_
                  exact child y _ _ _ _ (Or.inr ⟨by omega, hby⟩) (hF1.up (by omega)) up_s (fun q => by omega) hB1.up cont
                · refine ZE.go hW 25 rfl (by and_intros <;> first | trivial | assumption | omega) ?_
                  exact child y _ _ _ _ (Or.inr ⟨by omega, hby⟩) ((hF1.up (by omega)).up (by omega)) (by rw [up_n (by omega)]; exact up_s) (fun q => up_s) hB1.up.up cont
              · refine ZE.go hW 9999 rfl (by and_intros <;> first | trivial | assumption | omega) ?_
                refine ZE.b rfl (by omega) (by omega) ?_ ?_ <;> intro g5
                · omega
                · refine ZE.go hW 25 rfl (by and_intros <;> first | trivial | assumption | omega) ?_
                  refine K _ _ (hF1.up (by omega)) ?_
                  have hz := hend (by omega)
                  rw [hbF] at hz
                  rw [hz]
                  have eW : (fun j => if j < r then μ 178 j else tR μ0 (k + 1) r f j) = tW μ0 μ k r f (tB μ0 (k + 1) r f).2 := rfl
                  rw [eW, hz]
                  exact hB1.up
            · omega
          · omega
    have n7 : μ 168 7 = n := (hF 168 7 (by omega) (by omega) (by omega)).trans hn.1
    have n0 : μ 169 0 = μ0 169 0 := hF 169 0 (by omega) (by omega) (by omega)
    have m0 : up μ 178 r (-1) 169 0 = μ0 169 0 := by rw [up_n (by omega)]; exact n0
    have m7 : up μ 178 r (-1) 168 7 = n := by rw [up_n (by omega)]; exact n7
    have cont : ∀ μ' x', Fb r μ μ' → μ' 178 r = -1 → Bst μ' n (ub bs (S + (if (-1 : Int) = -1 then (tB μ0 k (r + 1) f).1 else 10000 + μ0 173 (-1) + (tB μ0 k (r + 1) (zxor f (zshl 1 (-1)))).1)) w (tW μ0 μ k r f (-1))).1 (ub bs (S + (if (-1 : Int) = -1 then (tB μ0 k (r + 1) f).1 else 10000 + μ0 173 (-1) + (tB μ0 k (r + 1) (zxor f (zshl 1 (-1)))).1)) w (tW μ0 μ k r f (-1))).2 → ZE ext (d + 2) n_X12_layBest 25 [(1161, 0), (0, e), (0, r), x'] [] σ μ' Q := by
      intro μ' x' hF' hr' hB'
      rw [if_pos rfl] at hB'
      exact inner (μ0 169 0).toNat (-1) μ' x' _ (-1) (by omega) (by omega) hF' hr' rfl hB'
    refine ZE.go hW 9999 rfl (by and_intros <;> first | trivial | assumption | omega) ?_
    refine ZE.b0 rfl (by omega) ?_ ?_ <;> intro g1
    · omega
    · refine ZE.go hW 9999 rfl (by and_intros <;> first | trivial | assumption | omega) ?_
      refine ZE.b rfl (by omega) (by omega) ?_ ?_ <;> intro g2
      · refine ZE.go hW 9999 rfl (by and_intros <;> first | trivial | assumption | omega) ?_
        refine ZE.b rfl (by omega) (by omega) ?_ ?_ <;> intro g3
        · omega
        · refine ZE.go hW 9999 rfl (by and_intros <;> first | trivial | assumption | omega) ?_
          refine ZE.b rfl (by omega) (by omega) ?_ ?_ <;> intro g4
          · refine ZE.go hW 9999 rfl (by and_intros <;> first | trivial | assumption | omega) ?_
            refine ZE.b rfl (by omega) (by omega) ?_ ?_ <;> intro g9
            · refine ZE.go hW 25 rfl (by and_intros <;> first | trivial | assumption | omega) ?_
              exact child (-1) _ _ _ _ (Or.inl rfl) (Fb.rfl'.up (by omega)) up_s (fun q => by omega) hB.up cont
            · refine ZE.go hW 25 rfl (by and_intros <;> first | trivial | assumption | omega) ?_
              exact child (-1) _ _ _ _ (Or.inl rfl) ((Fb.rfl'.up (by omega)).up (by omega)) (by rw [up_n (by omega)]; exact up_s) (fun q => up_s) hB.up.up cont
          · omega
      · omega
end
