def LB (e : Int) (μ μ' : zM) : Prop := (∀ k j, k ≠ 177 → k ≠ 178 → k ≠ 179 → ¬ (k = 168 ∧ (j = 14 ∨ j = 15)) → μ' k j = μ k j) ∧
  10000 * μ' 168 14 + μ' 168 15 = gB (μ 169) e (μ 173) (μ 174) (μ 175) (μ 176) (μ 168 7) ∧ (0 ≤ μ' 168 15 ∧ μ' 168 15 < 10000) ∧ (0 ≤ μ' 168 14 ∧ μ' 168 14 ≤ 7) ∧ ∀ j, 0 ≤ j → j < μ 168 7 → μ' 179 j = gR (μ 169) e (μ 173) (μ 174) (μ 175) (μ 176) (μ 168 7) j
def cN (N : Int → Int) (v : Int) : Int := wFee (N (7 + 6 * v + 0)) (N (7 + 6 * v + 2))
def wlN (N : Int → Int) (r : Int) : Int := N (43 + 3 * r + 0)
def puN (N : Int → Int) (r : Int) : Int := N (43 + 3 * r + 1)
def waN (N : Int → Int) (r : Int) : Int := N (43 + 3 * r + 2)
noncomputable def Bn (N : Int → Int) (e : Int) : Int := gB N e (cN N) (wlN N) (puN N) (waN N) (N 1)
noncomputable def Rn (N : Int → Int) (e j : Int) : Int := gR N e (cN N) (wlN N) (puN N) (waN N) (N 1) j
theorem LB.n {μ μ8 μb : zM} {e : Int} (h8 : Mq μ μ8) (hl : HL μ8) (h0 : 0 ≤ μ 169 0) (hb : LB e μ8 μb) : 10000 * μb 168 14 + μb 168 15 = Bn (μ 169) e ∧ (∀ j, 0 ≤ j → j < μ 169 1 → μb 179 j = Rn (μ 169) e j) ∧ Mq μ μb := by
  have e1 := h8.n
  obtain ⟨a1, a2, a3⟩ := hl
  obtain ⟨b1, b2, b3, b4, b5⟩ := hb
  rw [e1] at a1 a2 a3 b2 b5
  rw [a2] at b2 b5
  refine ⟨?_, ?_, ?_⟩
  · rw [b2]
    exact gB_cg h0 (fun v p q => a1 v p q) (fun r p q => a3 r p q)
  · intro j p q
    rw [b5 j p q]
    exact gR_cg h0 (fun v p q => a1 v p q) (fun r p q => a3 r p q)
  · intro k j p q
    rw [b1 k j (by omega) (by omega) (by omega) (by omega)]
    exact h8 k j p q
section
variable {ext : List xC} {σ : zSh} {d : Nat} {μ : zM}
theorem vvm1 : vv (1, 18446744073709551615) = vv (1, -1) := rfl
theorem ZE.eq2 {mi pc : Nat} {L st : List V} {v v' w : V} {Q : Option V → zM → Prop} (h : vv v = vv v') (k : ZE ext d mi pc L (w :: v' :: st) σ μ Q) : ZE ext d mi pc L (w :: v :: st) σ μ Q := by
  obtain ⟨rv, μ', a, b⟩ := k
  refine ⟨rv, μ', ?_, b⟩
  unfold Zv at a ⊢
  rw [List.map_cons, List.map_cons] at a ⊢
  rw [h]
  exact a
set_option maxRecDepth 100000 in set_option maxHeartbeats 4000000 in theorem k_m_layBest {e t : Int} (hW : Wl σ) (hN : NI (μ 169) t) (hH : HR μ) (he : 0 ≤ e ∧ e < 1000) : ZQ ext (d + 5) n_X12_layBest [(1161, 0), (0, e)] σ μ (fun rv μ' => rv = none ∧ LB e μ μ') := by
  have h1 := hN.1.1
  have h7 := hH.1
  refine ZQ.i rfl ?_
  refine ZE.go hW 9999 rfl (by and_intros <;> first | trivial | assumption | omega) ?_
  refine ZE.q0 hW rfl rfl (Nat.le_of_ble_eq_true rfl) (Nat.le_of_ble_eq_true rfl) (k_m_laySuit (d := d) hW hN hH he) ?_
  rintro rv9 μs ⟨rfl, hf, hsm⟩
  refine ZE.go hW 25 rfl (by and_intros <;> first | trivial | assumption | omega) ?_
  have f1 : ∀ k j, k ≠ 177 → k ≠ 178 → ¬ (k = 168 ∧ (j = 14 ∨ j = 15)) → up (up (up μs 168 14 (-1)) 168 15 0) 178 0 (-2) k j = μ k j := by
    intro k j p q s
    rw [up_n (by omega), up_n (by omega), up_n (by omega)]
    exact hf k j p
  have f2 : ∀ j, up (up (up μs 168 14 (-1)) 168 15 0) 178 0 (-2) 177 j = μs 177 j := fun j => by rw [up_n (by omega), up_n (by omega), up_n (by omega)]
  have f3 : up (up (up μs 168 14 (-1)) 168 15 0) 178 0 (-2) 168 14 = -1 := by rw [up_n (by omega), up_n (by omega), up_s]
  have f4 : up (up (up μs 168 14 (-1)) 168 15 0) 178 0 (-2) 168 15 = 0 := by rw [up_n (by omega), up_s]
  have f5 : up (up (up μs 168 14 (-1)) 168 15 0) 178 0 (-2) 178 0 = -2 := up_s
  generalize up (up (up μs 168 14 (-1)) 168 15 0) 178 0 (-2) = μ1 at f1 f2 f3 f4 f5
  have e162 : μ1 169 = μ 169 := funext fun j => f1 169 j (by omega) (by omega) (by omega)
  have e166 : μ1 173 = μ 173 := funext fun j => f1 173 j (by omega) (by omega) (by omega)
  have e161 : μ1 168 7 = μ 168 7 := f1 168 7 (by omega) (by omega) (by omega)
  have es : ∀ r, 0 ≤ r → r < μ 168 7 → μ1 177 r = sM (μ 169) e (μ 173) (μ 174) (μ 175) (μ 176) r := fun r a b => by
    rw [f2]
    exact mkm_eq h1 (hsm r a b) (fun v _ _ => Iff.rfl)
  refine k_layT (d := d + 3) (μ0 := μ1) (n := μ 168 7) hW ⟨e161, h7⟩ (by rw [e162]; exact h1) (by rw [e162, e166]; exact hH.2.1) (fun r a b => by rw [f2]; exact (hsm r a b).1) (μ 168 7).toNat 0 (by omega) (by omega) μ1 _ (-10000) (fun _ => 0) Fb.rfl' (fun _ => f5) (fun i p q => by omega) ⟨by omega, by omega, by omega, fun q => by omega⟩ ?_
  intro μ' x3' hF' hB'
  have eS : tS μ1 μ1 0 = 0 := rfl
  have eF : tF μ1 μ1 0 = zshl 1 (μ 169 0) - 1 := by
    show zshl 1 (μ1 169 0) - 1 = _
    rw [e162]
  have eV : (tB μ1 (μ 168 7).toNat 0 (tF μ1 μ1 0)).1 = gB (μ 169) e (μ 173) (μ 174) (μ 175) (μ 176) (μ 168 7) := by
    unfold tB gB
    rw [eF, e162, e166, bB_cg (s' := sM (μ 169) e (μ 173) (μ 174) (μ 175) (μ 176)) (fun v _ _ => rfl) _ 0 _ (fun j p q => es j p (by omega))]
  have hg : 0 ≤ gB (μ 169) e (μ 173) (μ 174) (μ 175) (μ 176) (μ 168 7) := bB_0 _ _ _
  rw [eS, Int.zero_add, eV] at hB'
  unfold ub at hB'
  rw [if_pos (by omega)] at hB'
  obtain ⟨c1, c2, c3, c4⟩ := hB'
  have c1 : 10000 * μ' 168 14 + μ' 168 15 = gB (μ 169) e (μ 173) (μ 174) (μ 175) (μ 176) (μ 168 7) := c1
  refine ZE.go hW 9999 rfl (by and_intros <;> first | trivial | assumption | omega) ?_
  refine ZE.b0 rfl (by omega) ?_ ?_ <;> intro g1
  · refine ZE.rv rfl rfl ?_
    refine ⟨rfl, ?_, c1, c2, by omega, fun j p q => ?_⟩
    · intro k j p q s u
      rw [hF' k j s u (by omega)]
      exact f1 k j p q u
    · rw [c4 hg j p q]
      show (if j < 0 then _ else tR μ1 _ 0 (tF μ1 μ1 0) j) = _
      rw [if_neg (by omega)]
      unfold tR gR
      rw [eF, e162, e166, bR_cg (s' := sM (μ 169) e (μ 173) (μ 174) (μ 175) (μ 176)) (fun v _ _ => rfl) _ 0 _ _ (fun j p q => es j p (by omega))]
  · omega
set_option maxRecDepth 100000 in set_option maxHeartbeats 4000000 in theorem k_m_best {e r t : Int} (hW : Wl σ) (hN : NI (μ 169) t) (he : zrng e) (hr : zrng r) : ZQ ext (d + 6) n_X12_best [(1161, 0), (0, e), (0, r)] σ μ (Qm ((0 ≤ e ∧ e ≤ 99) ∧ (-1 ≤ r ∧ r ≤ μ 169 1 - 1)) (-10) (if r = -1 then Bn (μ 169) e / 10000 else Rn (μ 169) e r) μ) := by
  have h1 := hN.1
  refine ZQ.i rfl ?_
  refine ZE.go hW 9999 rfl (by and_intros <;> first | trivial | assumption | omega) ?_
  refine ZE.c0 hW rfl rfl (Nat.le_of_ble_eq_true rfl) (Nat.le_of_ble_eq_true rfl) (k_m_isEvening (d := d + 4) hW he) ?_
  refine ZE.bp rfl rfl ?_ ?_ <;> intro g1
  · refine ZE.go hW 9999 rfl (by and_intros <;> first | trivial | assumption | omega) ?_
    refine ZE.ri rfl rfl ?_
    first
      | exact ⟨fun q => absurd q (by omega), fun _ => ⟨rfl, rfl⟩⟩
      | (refine ⟨fun _ => ⟨?_, n3⟩, fun q => absurd (by omega) q⟩
         first
           | (rw [if_pos (by omega)]; rw [show μb 168 14 = Bn (μ 169) e / 10000 by omega])
           | (rw [if_neg (by omega), n2 r (by omega) (by omega)]))
  · refine ZE.go hW 9999 rfl (by and_intros <;> first | trivial | assumption | omega) ?_
    refine ZE.eq2 (v' := (1, -1)) vvm1 ?_
    refine ZE.c0 hW rfl rfl (Nat.le_of_ble_eq_true rfl) (Nat.le_of_ble_eq_true rfl) (k_in (d := d + 5) hW hr (by omega) (by omega)) ?_
    refine ZE.bp rfl rfl ?_ ?_ <;> intro g2
    · refine ZE.go hW 9999 rfl (by and_intros <;> first | trivial | assumption | omega) ?_
      refine ZE.q0 hW rfl rfl (Nat.le_of_ble_eq_true rfl) (Nat.le_of_ble_eq_true rfl) (k_m_layHand (d := d + 4) hW hN) ?_
      rintro rv9 μ8 ⟨rfl, hq, hl⟩
      have hN8 : NI (μ8 169) t := by rw [hq.n]; exact hN
      refine ZE.go hW 9999 rfl (by and_intros <;> first | trivial | assumption | omega) ?_
      refine ZE.q0 hW rfl rfl (Nat.le_of_ble_eq_true rfl) (Nat.le_of_ble_eq_true rfl) (k_m_layBest (d := d) hW hN8 (hl.hr hN8) (by omega)) ?_
      rintro rv9 μb ⟨rfl, hb⟩
      obtain ⟨n1, n2, n3⟩ := LB.n hq hl h1.1.1 hb
      have c2 := hb.2.2.1
      refine ZE.go hW 9999 rfl (by and_intros <;> first | trivial | assumption | omega) ?_
      refine ZE.b rfl (by omega) (by omega) ?_ ?_ <;> intro g3
      · refine ZE.go hW 9999 rfl (by and_intros <;> first | trivial | assumption | omega) ?_
        refine ZE.ri rfl rfl ?_
        first
          | exact ⟨fun q => absurd q (by omega), fun _ => ⟨rfl, rfl⟩⟩
          | (refine ⟨fun _ => ⟨?_, n3⟩, fun q => absurd (by omega) q⟩
             first
               | (rw [if_pos (by omega)]; rw [show μb 168 14 = Bn (μ 169) e / 10000 by omega])
               | (rw [if_neg (by omega), n2 r (by omega) (by omega)]))
      · refine ZE.go hW 9999 rfl (by and_intros <;> first | trivial | assumption | omega) ?_
        refine ZE.ri rfl rfl ?_
        first
          | exact ⟨fun q => absurd q (by omega), fun _ => ⟨rfl, rfl⟩⟩
          | (refine ⟨fun _ => ⟨?_, n3⟩, fun q => absurd (by omega) q⟩
             first
               | (rw [if_pos (by omega)]; rw [show μb 168 14 = Bn (μ 169) e / 10000 by omega])
               | (rw [if_neg (by omega), n2 r (by omega) (by omega)]))
    · refine ZE.go hW 9999 rfl (by and_intros <;> first | trivial | assumption | omega) ?_
      refine ZE.ri rfl rfl ?_
      first
        | exact ⟨fun q => absurd q (by omega), fun _ => ⟨rfl, rfl⟩⟩
        | (refine ⟨fun _ => ⟨?_, n3⟩, fun q => absurd (by omega) q⟩
           first
             | (rw [if_pos (by omega)]; rw [show μb 168 14 = Bn (μ 169) e / 10000 by omega])
             | (rw [if_neg (by omega), n2 r (by omega) (by omega)]))
set_option maxRecDepth 100000 in set_option maxHeartbeats 4000000 in theorem k_m_money {e t : Int} (hW : Wl σ) (hN : NI (μ 169) t) (he : zrng e) : ZQ ext (d + 6) n_X12_money [(1161, 0), (0, e)] σ μ (Qm (0 ≤ e ∧ e ≤ 99) (-2) (Bn (μ 169) e % 10000) μ) := by
  have h1 := hN.1
  refine ZQ.i rfl ?_
  refine ZE.go hW 9999 rfl (by and_intros <;> first | trivial | assumption | omega) ?_
  refine ZE.c0 hW rfl rfl (Nat.le_of_ble_eq_true rfl) (Nat.le_of_ble_eq_true rfl) (k_m_isEvening (d := d + 4) hW he) ?_
  refine ZE.bp rfl rfl ?_ ?_ <;> intro g1
  · refine ZE.go hW 9999 rfl (by and_intros <;> first | trivial | assumption | omega) ?_
    refine ZE.q0 hW rfl rfl (Nat.le_of_ble_eq_true rfl) (Nat.le_of_ble_eq_true rfl) (k_m_layHand (d := d + 4) hW hN) ?_
    rintro rv9 μ8 ⟨rfl, hq, hl⟩
    have hN8 : NI (μ8 169) t := by rw [hq.n]; exact hN
    refine ZE.go hW 9999 rfl (by and_intros <;> first | trivial | assumption | omega) ?_
    refine ZE.q0 hW rfl rfl (Nat.le_of_ble_eq_true rfl) (Nat.le_of_ble_eq_true rfl) (k_m_layBest (d := d) hW hN8 (hl.hr hN8) (by omega)) ?_
    rintro rv9 μb ⟨rfl, hb⟩
    obtain ⟨n1, n2, n3⟩ := LB.n hq hl h1.1.1 hb
    have c2 := hb.2.2.1
    refine ZE.go hW 9999 rfl (by and_intros <;> first | trivial | assumption | omega) ?_
    refine ZE.ri rfl rfl ?_
    first
      | exact ⟨fun q => absurd q (by omega), fun _ => ⟨rfl, rfl⟩⟩
      | (refine ⟨fun _ => ⟨?_, n3⟩, fun q => absurd (by omega) q⟩
         rw [show μb 168 15 = Bn (μ 169) e % 10000 by omega])
  · refine ZE.go hW 9999 rfl (by and_intros <;> first | trivial | assumption | omega) ?_
    refine ZE.ri rfl rfl ?_
    first
      | exact ⟨fun q => absurd q (by omega), fun _ => ⟨rfl, rfl⟩⟩
      | (refine ⟨fun _ => ⟨?_, n3⟩, fun q => absurd (by omega) q⟩
         rw [show μb 168 15 = Bn (μ 169) e % 10000 by omega])
end
