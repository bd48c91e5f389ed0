def ex1 (f : Int → Int) (n x : Int) : Int → Int := fun r => if r = n then x else f r
def chF (g : Int → Int) : Nat → Int → Int → Int → Int
  | 0, _, b, _ => b
  | k + 1, p, b, m => if m < g p then chF g k (p + 1) p (g p) else chF g k (p + 1) b m
noncomputable def Cn (N : Int → Int) (e who : Int) : Int × Int := gC N e (cN N) (wlN N) (puN N) (waN N) (N 1) who
noncomputable def Mn1 (N : Int → Int) (e w p a : Int) : Int := gB N e (cN N) (ex1 (wlN N) (N 1) w) (ex1 (puN N) (N 1) p) (ex1 (waN N) (N 1) a) (N 1 + 1)
noncomputable def Pn (N : Int → Int) (e v p : Int) : Int := gB N e (ex1 (cN N) v (wFee (N (7 + 6 * v + 0)) p)) (wlN N) (puN N) (waN N) (N 1)
noncomputable def chN (N : Int → Int) (e v : Int) : Int := chF (fun p => Pn N e v p % 10000) 100 0 0 (-1)
theorem LC.n {μ μ8 μb : zM} {e who : Int} (h8 : Mq μ μ8) (hl : HL μ8) (h0 : 0 ≤ μ 169 0) (hb : LC e who μ8 μb) : (μb 168 16 = (Cn (μ 169) e who).1 ∧ μb 168 17 = (Cn (μ 169) e who).2) ∧ Mq μ μb ∧ HL μb := by
  have e1 := h8.n
  have hl0 := hl
  obtain ⟨a1, a2, a3⟩ := hl
  obtain ⟨b1, b2, b3⟩ := hb
  rw [e1] at a1 a2 a3 b2 b3
  rw [a2] at b2 b3
  have eC : gC (μ 169) e (μ8 173) (μ8 174) (μ8 175) (μ8 176) (μ 169 1) who = Cn (μ 169) e who := gC_cg h0 (fun v p q => a1 v p q) (fun r p q => a3 r p q) (fun r _ _ => rfl)
  rw [eC] at b2 b3
  refine ⟨⟨b2, b3⟩, ?_, ?_⟩
  · intro k j p q
    rw [b1 k j (by omega) (by omega)]
    exact h8 k j p q
  · unfold HL
    rw [show μb 169 = μ8 169 from funext fun j => b1 169 j (by omega) (by omega), show μb 173 = μ8 173 from funext fun j => b1 173 j (by omega) (by omega), show μb 174 = μ8 174 from funext fun j => b1 174 j (by omega) (by omega), show μb 175 = μ8 175 from funext fun j => b1 175 j (by omega) (by omega), show μb 176 = μ8 176 from funext fun j => b1 176 j (by omega) (by omega), b1 168 7 (by omega) (by omega)]
    exact hl0
section
variable {ext : List xC} {σ : zSh} {d : Nat} {μ : zM}
set_option maxRecDepth 100000 in set_option maxHeartbeats 4000000 in theorem k_m_allRenters (hW : Wl σ) : ZM ext (d + 1) n_X12_allRenters [(1161, 0)] σ μ (some (0, zshl 1 (μ 169 1) - 1)) μ := by
  refine ZM.i rfl ?_
  refine Zv.go hW 9999 rfl (by and_intros <;> first | trivial | assumption | omega) ?_
  exact Zv.ri rfl rfl rfl rfl
set_option maxRecDepth 100000 in set_option maxHeartbeats 4000000 in theorem k_m_come {e w t : Int} (hW : Wl σ) (hN : NI (μ 169) t) (he : zrng e) (hw : zrng w) : ZQ ext (d + 6) n_X12_come [(1161, 0), (0, e), (0, w)] σ μ (Qm ((0 ≤ e ∧ e ≤ 99) ∧ (0 ≤ w ∧ w ≤ 2)) (-2) (if w = 0 then (Cn (μ 169) e (zshl 1 (μ 169 1) - 1)).1 else if w = 1 then (Cn (μ 169) e (zshl 1 (μ 169 1) - 1)).2 else Bn (μ 169) e / 10000 - (Cn (μ 169) e (zshl 1 (μ 169 1) - 1)).1) μ) := by
  have h1 := hN.1
  have hall := bt_all h1.2.1
  refine ZQ.i rfl ?_
  refine ZE.go hW 9999 rfl (by and_intros <;> first | trivial | assumption | omega) ?_
  refine ZE.c0 hW rfl rfl (Nat.le_of_ble_eq_true rfl) (Nat.le_of_ble_eq_true rfl) (k_m_isEvening (d := d + 4) hW he) ?_
  refine ZE.bp rfl rfl ?_ ?_ <;> intro g1
  · refine ZE.go hW 9999 rfl (by and_intros <;> first | trivial | assumption | omega) ?_
    refine ZE.ri rfl rfl ?_
    first
      | exact ⟨fun q => absurd q (by omega), fun _ => ⟨rfl, rfl⟩⟩
      | (refine ⟨fun _ => ⟨?_, c3⟩, fun q => absurd (by omega) q⟩
         first
           | (rw [if_pos (by omega), c1])
           | (rw [if_neg (by omega), if_pos (by omega), c2]))
      | (refine ⟨fun _ => ⟨?_, b3⟩, fun q => absurd (by omega) q⟩
         rw [if_neg (by omega), if_neg (by omega), b5, c1, show μb 168 14 = Bn (μ 169) e / 10000 by omega])
  · refine ZE.go hW 9999 rfl (by and_intros <;> first | trivial | assumption | omega) ?_
    refine ZE.c0 hW rfl rfl (Nat.le_of_ble_eq_true rfl) (Nat.le_of_ble_eq_true rfl) (k_in (d := d + 5) hW hw (by omega) (by omega)) ?_
    refine ZE.bp rfl rfl ?_ ?_ <;> intro g2
    · refine ZE.go hW 9999 rfl (by and_intros <;> first | trivial | assumption | omega) ?_
      refine ZE.q0 hW rfl rfl (Nat.le_of_ble_eq_true rfl) (Nat.le_of_ble_eq_true rfl) (k_m_layHand (d := d + 4) hW hN) ?_
      rintro rv9 μ8 ⟨rfl, hq, hl⟩
      have hN8 : NI (μ8 169) t := by rw [hq.n]; exact hN
      have n1 := congrFun hq.n 1
      refine ZE.go hW 9999 rfl (by and_intros <;> first | trivial | assumption | omega) ?_
      refine ZE.c0 hW rfl rfl (Nat.le_of_ble_eq_true rfl) (Nat.le_of_ble_eq_true rfl) (k_m_allRenters (d := d + 4) hW) ?_
      rw [n1]
      refine ZE.q0 hW rfl rfl (Nat.le_of_ble_eq_true rfl) (Nat.le_of_ble_eq_true rfl) (k_m_layCome (d := d) hW hN8 (hl.hr hN8) (by omega) (by omega)) ?_
      rintro rv9 μc ⟨rfl, hc⟩
      obtain ⟨⟨c1, c2⟩, c3, c4⟩ := LC.n hq hl h1.1.1 hc
      have hNc : NI (μc 169) t := by rw [c3.n]; exact hN
      refine ZE.go hW 9999 rfl (by and_intros <;> first | trivial | assumption | omega) ?_
      refine ZE.b rfl (by omega) (by omega) ?_ ?_ <;> intro g3
      · refine ZE.go hW 9999 rfl (by and_intros <;> first | trivial | assumption | omega) ?_
        refine ZE.q0 hW rfl rfl (Nat.le_of_ble_eq_true rfl) (Nat.le_of_ble_eq_true rfl) (k_m_layBest (d := d) hW hNc (c4.hr hNc) (by omega)) ?_
        rintro rv9 μb ⟨rfl, hb⟩
        obtain ⟨b1, b2, b3⟩ := LB.n c3 c4 h1.1.1 hb
        have b4 := hb.2.2.1
        have b5 := hb.1 168 16 (by omega) (by omega) (by omega) (by omega)
        refine ZE.go hW 9999 rfl (by and_intros <;> first | trivial | assumption | omega) ?_
        refine ZE.ri rfl rfl ?_
        first
          | exact ⟨fun q => absurd q (by omega), fun _ => ⟨rfl, rfl⟩⟩
          | (refine ⟨fun _ => ⟨?_, c3⟩, fun q => absurd (by omega) q⟩
             first
               | (rw [if_pos (by omega), c1])
               | (rw [if_neg (by omega), if_pos (by omega), c2]))
          | (refine ⟨fun _ => ⟨?_, b3⟩, fun q => absurd (by omega) q⟩
             rw [if_neg (by omega), if_neg (by omega), b5, c1, show μb 168 14 = Bn (μ 169) e / 10000 by omega])
      · refine ZE.go hW 9999 rfl (by and_intros <;> first | trivial | assumption | omega) ?_
        refine ZE.b0 rfl (by omega) ?_ ?_ <;> intro g4
        · refine ZE.go hW 9999 rfl (by and_intros <;> first | trivial | assumption | omega) ?_
          refine ZE.ri rfl rfl ?_
          first
            | exact ⟨fun q => absurd q (by omega), fun _ => ⟨rfl, rfl⟩⟩
            | (refine ⟨fun _ => ⟨?_, c3⟩, fun q => absurd (by omega) q⟩
               first
                 | (rw [if_pos (by omega), c1])
                 | (rw [if_neg (by omega), if_pos (by omega), c2]))
            | (refine ⟨fun _ => ⟨?_, b3⟩, fun q => absurd (by omega) q⟩
               rw [if_neg (by omega), if_neg (by omega), b5, c1, show μb 168 14 = Bn (μ 169) e / 10000 by omega])
        · refine ZE.go hW 9999 rfl (by and_intros <;> first | trivial | assumption | omega) ?_
          refine ZE.ri rfl rfl ?_
          first
            | exact ⟨fun q => absurd q (by omega), fun _ => ⟨rfl, rfl⟩⟩
            | (refine ⟨fun _ => ⟨?_, c3⟩, fun q => absurd (by omega) q⟩
               first
                 | (rw [if_pos (by omega), c1])
                 | (rw [if_neg (by omega), if_pos (by omega), c2]))
            | (refine ⟨fun _ => ⟨?_, b3⟩, fun q => absurd (by omega) q⟩
               rw [if_neg (by omega), if_neg (by omega), b5, c1, show μb 168 14 = Bn (μ 169) e / 10000 by omega])
    · refine ZE.go hW 9999 rfl (by and_intros <;> first | trivial | assumption | omega) ?_
      refine ZE.ri rfl rfl ?_
      first
        | exact ⟨fun q => absurd q (by omega), fun _ => ⟨rfl, rfl⟩⟩
        | (refine ⟨fun _ => ⟨?_, c3⟩, fun q => absurd (by omega) q⟩
           first
             | (rw [if_pos (by omega), c1])
             | (rw [if_neg (by omega), if_pos (by omega), c2]))
        | (refine ⟨fun _ => ⟨?_, b3⟩, fun q => absurd (by omega) q⟩
           rw [if_neg (by omega), if_neg (by omega), b5, c1, show μb 168 14 = Bn (μ 169) e / 10000 by omega])
set_option maxRecDepth 100000 in set_option maxHeartbeats 4000000 in theorem k_m_more {e w p a t : Int} (hW : Wl σ) (hN : NI (μ 169) t) (he : zrng e) (hw : zrng w) (hp : zrng p) (ha : zrng a) : ZQ ext (d + 6) n_X12_more [(1161, 0), (0, e), (0, w), (0, p), (0, a)] σ μ (fun rv μ' =>
    (¬ ((0 ≤ e ∧ e ≤ 99) ∧ (1 ≤ w ∧ w ≤ 9) ∧ (0 ≤ p ∧ p ≤ 999) ∧ (0 ≤ a ∧ a ≤ 6)) → rv = some (0, -2) ∧ μ' = up μ 172 0 (μ 172 0 + 1)) ∧
    ((0 ≤ e ∧ e ≤ 99) ∧ (1 ≤ w ∧ w ≤ 9) ∧ (0 ≤ p ∧ p ≤ 999) ∧ (0 ≤ a ∧ a ≤ 6) → (μ 169 1 = 6 → rv = some (0, -3) ∧ μ' = up μ 172 1 (μ 172 1 + 1)) ∧ (μ 169 1 ≠ 6 → rv = some (0, Mn1 (μ 169) e w p a / 10000 - Bn (μ 169) e / 10000) ∧ Mq μ μ'))) := by
  have h1 := hN.1
  refine ZQ.i rfl ?_
  refine ZE.go hW 9999 rfl (by and_intros <;> first | trivial | assumption | omega) ?_
  refine ZE.c0 hW rfl rfl (Nat.le_of_ble_eq_true rfl) (Nat.le_of_ble_eq_true rfl) (k_m_isEvening (d := d + 4) hW he) ?_
  refine ZE.bp rfl rfl ?_ ?_ <;> intro g1
  · refine ZE.go hW 9999 rfl (by and_intros <;> first | trivial | assumption | omega) ?_
    refine ZE.ri rfl rfl ?_
    first
      | exact ⟨fun _ => ⟨rfl, rfl⟩, fun q => absurd q (by omega)⟩
      | exact ⟨fun q => absurd (by omega) q, fun _ => ⟨fun _ => ⟨rfl, rfl⟩, fun q => absurd (by omega) q⟩⟩
      | (refine ⟨fun q => absurd (by omega) q, fun _ => ⟨fun q => absurd q (by omega), fun _ => ⟨?_, ?_⟩⟩⟩
         · rw [show μz 168 14 = Mn1 (μ 169) e w p a / 10000 by omega, show μb 168 14 = Bn (μ 169) e / 10000 by omega]
         · intro k j p q
           rw [hz.1 k j (by omega) (by omega) (by omega) (by omega), f1 k j (by omega) (by omega)]
           exact b3 k j p q)
  · refine ZE.go hW 9999 rfl (by and_intros <;> first | trivial | assumption | omega) ?_
    refine ZE.c0 hW rfl rfl (Nat.le_of_ble_eq_true rfl) (Nat.le_of_ble_eq_true rfl) (k_m_isRenterTold (d := d + 4) hW hw hp ha) ?_
    refine ZE.bp rfl rfl ?_ ?_ <;> intro g2
    · refine ZE.go hW 9999 rfl (by and_intros <;> first | trivial | assumption | omega) ?_
      refine ZE.b rfl (by omega) (by omega) ?_ ?_ <;> intro g3
      · refine ZE.go hW 9999 rfl (by and_intros <;> first | trivial | assumption | omega) ?_
        refine ZE.q0 hW rfl rfl (Nat.le_of_ble_eq_true rfl) (Nat.le_of_ble_eq_true rfl) (k_m_layHand (d := d + 4) hW hN) ?_
        rintro rv9 μ8 ⟨rfl, hq, hl⟩
        have hN8 : NI (μ8 169) t := by rw [hq.n]; exact hN
        refine ZE.go hW 9999 rfl (by and_intros <;> first | trivial | assumption | omega) ?_
        refine ZE.q0 hW rfl rfl (Nat.le_of_ble_eq_true rfl) (Nat.le_of_ble_eq_true rfl) (k_m_layBest (d := d) hW hN8 (hl.hr hN8) (by omega)) ?_
        rintro rv9 μb ⟨rfl, hb⟩
        obtain ⟨b1, b2, b3⟩ := LB.n hq hl h1.1.1 hb
        have b4 := hb.2.2.1
        have b5 := b3.n
        have a1 : ∀ v, 0 ≤ v → v < μ 169 0 → μb 173 v = cN (μ 169) v := fun v p q => by
          rw [hb.1 173 v (by omega) (by omega) (by omega) (by omega)]
          have := hl.1 v p (by rw [hq.n]; exact q)
          rw [hq.n] at this
          exact this
        have a2 : μb 168 7 = μ 169 1 := by
          rw [hb.1 168 7 (by omega) (by omega) (by omega) (by omega), hl.2.1, hq.n]
        have a3 : ∀ r, 0 ≤ r → r < μ 169 1 → μb 174 r = wlN (μ 169) r ∧ μb 175 r = puN (μ 169) r ∧ μb 176 r = waN (μ 169) r := fun r p q => by
          rw [hb.1 174 r (by omega) (by omega) (by omega) (by omega), hb.1 175 r (by omega) (by omega) (by omega) (by omega), hb.1 176 r (by omega) (by omega) (by omega) (by omega)]
          have := hl.2.2 r p (by rw [hq.n]; exact q)
          rw [hq.n] at this
          exact this
        have u7 : up μb 174 (μb 168 7) w 168 7 = μ 169 1 := by rw [up_n (by omega)]; exact a2
        have u8 : up (up μb 174 (μb 168 7) w) 175 (up μb 174 (μb 168 7) w 168 7) p 168 7 = μ 169 1 := by rw [up_n (by omega), up_n (by omega)]; exact a2
        refine ZE.go hW 94 rfl (by and_intros <;> first | trivial | assumption | omega) ?_
        have f1 : ∀ k j, ¬ (k = 174 ∨ k = 175 ∨ k = 176) → ¬ (k = 168 ∧ j = 7) → up (up (up (up μb 174 (μb 168 7) w) 175 (up μb 174 (μb 168 7) w 168 7) p) 176 (up (up μb 174 (μb 168 7) w) 175 (up μb 174 (μb 168 7) w 168 7) p 168 7) a) 168 7 (up (up (up μb 174 (μb 168 7) w) 175 (up μb 174 (μb 168 7) w 168 7) p) 176 (up (up μb 174 (μb 168 7) w) 175 (up μb 174 (μb 168 7) w 168 7) p 168 7) a 168 7 + 1) k j = μb k j := by
          intro k j p q
          rw [up_n (by omega), up_n (by omega), up_n (by omega), up_n (by omega)]
        have f2 : ∀ r, 0 ≤ r → r < μ 169 1 + 1 → up (up (up (up μb 174 (μb 168 7) w) 175 (up μb 174 (μb 168 7) w 168 7) p) 176 (up (up μb 174 (μb 168 7) w) 175 (up μb 174 (μb 168 7) w 168 7) p 168 7) a) 168 7 (up (up (up μb 174 (μb 168 7) w) 175 (up μb 174 (μb 168 7) w 168 7) p) 176 (up (up μb 174 (μb 168 7) w) 175 (up μb 174 (μb 168 7) w 168 7) p 168 7) a 168 7 + 1) 174 r = ex1 (wlN (μ 169)) (μ 169 1) w r ∧ up (up (up (up μb 174 (μb 168 7) w) 175 (up μb 174 (μb 168 7) w 168 7) p) 176 (up (up μb 174 (μb 168 7) w) 175 (up μb 174 (μb 168 7) w 168 7) p 168 7) a) 168 7 (up (up (up μb 174 (μb 168 7) w) 175 (up μb 174 (μb 168 7) w 168 7) p) 176 (up (up μb 174 (μb 168 7) w) 175 (up μb 174 (μb 168 7) w 168 7) p 168 7) a 168 7 + 1) 175 r = ex1 (puN (μ 169)) (μ 169 1) p r ∧ up (up (up (up μb 174 (μb 168 7) w) 175 (up μb 174 (μb 168 7) w 168 7) p) 176 (up (up μb 174 (μb 168 7) w) 175 (up μb 174 (μb 168 7) w 168 7) p 168 7) a) 168 7 (up (up (up μb 174 (μb 168 7) w) 175 (up μb 174 (μb 168 7) w 168 7) p) 176 (up (up μb 174 (μb 168 7) w) 175 (up μb 174 (μb 168 7) w 168 7) p 168 7) a 168 7 + 1) 176 r = ex1 (waN (μ 169)) (μ 169 1) a r := by
          intro r p q
          have u1 : ∀ (m : zM) (j x : Int), up m 174 j x 168 7 = m 168 7 := fun m j x => up_n (by omega)
          have u2 : ∀ (m : zM) (j x : Int), up m 175 j x 168 7 = m 168 7 := fun m j x => up_n (by omega)
          simp only [u1, u2]
          unfold ex1
          rw [a2]
          by_cases e1 : r = μ 169 1
          · rw [if_pos e1, if_pos e1, if_pos e1, e1]
            rw [up_n (by omega), up_n (by omega), up_n (by omega), up_s, up_n (by omega), up_n (by omega), up_s, up_n (by omega), up_s]
            exact ⟨rfl, rfl, rfl⟩
          · rw [if_neg e1, if_neg e1, if_neg e1]
            rw [up_n (by omega), up_n (by omega), up_n (by omega), up_n (by omega), up_n (by omega), up_n (by omega), up_n (by omega), up_n (by omega), up_n (by omega), up_n (by omega), up_n (by omega), up_n (by omega)]
            exact a3 r p (by omega)
        have f3 : up (up (up (up μb 174 (μb 168 7) w) 175 (up μb 174 (μb 168 7) w 168 7) p) 176 (up (up μb 174 (μb 168 7) w) 175 (up μb 174 (μb 168 7) w 168 7) p 168 7) a) 168 7 (up (up (up μb 174 (μb 168 7) w) 175 (up μb 174 (μb 168 7) w 168 7) p) 176 (up (up μb 174 (μb 168 7) w) 175 (up μb 174 (μb 168 7) w 168 7) p 168 7) a 168 7 + 1) 168 7 = μ 169 1 + 1 := by
          rw [up_s, up_n (by omega), up_n (by omega), up_n (by omega), a2]
        generalize up (up (up (up μb 174 (μb 168 7) w) 175 (up μb 174 (μb 168 7) w 168 7) p) 176 (up (up μb 174 (μb 168 7) w) 175 (up μb 174 (μb 168 7) w 168 7) p 168 7) a) 168 7 (up (up (up μb 174 (μb 168 7) w) 175 (up μb 174 (μb 168 7) w 168 7) p) 176 (up (up μb 174 (μb 168 7) w) 175 (up μb 174 (μb 168 7) w 168 7) p 168 7) a 168 7 + 1) = μm at f1 f2 f3
        have e162 : μm 169 = μ 169 := by rw [← b5]; exact funext fun j => f1 169 j (by omega) (by omega)
        have hNm : NI (μm 169) t := by rw [e162]; exact hN
        have e166 : ∀ v, 0 ≤ v → v < μ 169 0 → μm 173 v = cN (μ 169) v := fun v p q => by rw [f1 173 v (by omega) (by omega)]; exact a1 v p q
        have hHm : HR μm := by
          refine ⟨by omega, ?_, ?_⟩
          · intro v p q
            rw [e162] at q
            rw [e166 v p q]
            have := hN.2.1 v p q
            exact wFee_rng (by omega)
          · intro r p q
            have := f2 r p (by omega)
            rw [this.1, this.2.1, this.2.2]
            unfold ex1
            by_cases e1 : r = μ 169 1
            · rw [if_pos e1, if_pos e1, if_pos e1]; omega
            · rw [if_neg e1, if_neg e1, if_neg e1]
              have hR := hN.2.2.1 r p (by omega)
              have hP : 0 ≤ puN (μ 169) r ∧ puN (μ 169) r ≤ 999 := hN.2.2.2.2.1.2.2.1 r p (by omega)
              have hR1 : 1 ≤ wlN (μ 169) r ∧ wlN (μ 169) r ≤ 9 := hR.1
              have hR2 : 0 ≤ waN (μ 169) r ∧ waN (μ 169) r ≤ 6 := hR.2
              omega
        refine ZE.go hW 9999 rfl (by and_intros <;> first | trivial | assumption | omega) ?_
        refine ZE.q0 hW rfl rfl (Nat.le_of_ble_eq_true rfl) (Nat.le_of_ble_eq_true rfl) (k_m_layBest (d := d) hW hNm hHm (by omega)) ?_
        rintro rv9 μz ⟨rfl, hz⟩
        have z1 := hz.2.1
        have z2 := hz.2.2.1
        rw [e162, f3] at z1
        have z3 : gB (μ 169) e (μm 173) (μm 174) (μm 175) (μm 176) (μ 169 1 + 1) = Mn1 (μ 169) e w p a := gB_cg h1.1.1 e166 (fun r p q => f2 r p q)
        rw [z3] at z1
        refine ZE.go hW 9999 rfl (by and_intros <;> first | trivial | assumption | omega) ?_
        refine ZE.ri rfl rfl ?_
        first
          | exact ⟨fun _ => ⟨rfl, rfl⟩, fun q => absurd q (by omega)⟩
          | exact ⟨fun q => absurd (by omega) q, fun _ => ⟨fun _ => ⟨rfl, rfl⟩, fun q => absurd (by omega) q⟩⟩
          | (refine ⟨fun q => absurd (by omega) q, fun _ => ⟨fun q => absurd q (by omega), fun _ => ⟨?_, ?_⟩⟩⟩
             · rw [show μz 168 14 = Mn1 (μ 169) e w p a / 10000 by omega, show μb 168 14 = Bn (μ 169) e / 10000 by omega]
             · intro k j p q
               rw [hz.1 k j (by omega) (by omega) (by omega) (by omega), f1 k j (by omega) (by omega)]
               exact b3 k j p q)
      · refine ZE.go hW 9999 rfl (by and_intros <;> first | trivial | assumption | omega) ?_
        refine ZE.ri rfl rfl ?_
        first
          | exact ⟨fun _ => ⟨rfl, rfl⟩, fun q => absurd q (by omega)⟩
          | exact ⟨fun q => absurd (by omega) q, fun _ => ⟨fun _ => ⟨rfl, rfl⟩, fun q => absurd (by omega) q⟩⟩
          | (refine ⟨fun q => absurd (by omega) q, fun _ => ⟨fun q => absurd q (by omega), fun _ => ⟨?_, ?_⟩⟩⟩
             · rw [show μz 168 14 = Mn1 (μ 169) e w p a / 10000 by omega, show μb 168 14 = Bn (μ 169) e / 10000 by omega]
             · intro k j p q
               rw [hz.1 k j (by omega) (by omega) (by omega) (by omega), f1 k j (by omega) (by omega)]
               exact b3 k j p q)
    · refine ZE.go hW 9999 rfl (by and_intros <;> first | trivial | assumption | omega) ?_
      refine ZE.ri rfl rfl ?_
      first
        | exact ⟨fun _ => ⟨rfl, rfl⟩, fun q => absurd q (by omega)⟩
        | exact ⟨fun q => absurd (by omega) q, fun _ => ⟨fun _ => ⟨rfl, rfl⟩, fun q => absurd (by omega) q⟩⟩
        | (refine ⟨fun q => absurd (by omega) q, fun _ => ⟨fun q => absurd q (by omega), fun _ => ⟨?_, ?_⟩⟩⟩
           · rw [show μz 168 14 = Mn1 (μ 169) e w p a / 10000 by omega, show μb 168 14 = Bn (μ 169) e / 10000 by omega]
           · intro k j p q
             rw [hz.1 k j (by omega) (by omega) (by omega) (by omega), f1 k j (by omega) (by omega)]
             exact b3 k j p q)
set_option maxRecDepth 100000 in set_option maxHeartbeats 4000000 in theorem k_m_changed {e v t : Int} (hW : Wl σ) (hN : NI (μ 169) t) (he : zrng e) (hv : zrng v) : ZQ ext (d + 6) n_X12_changed [(1161, 0), (0, e), (0, v)] σ μ (Qm ((0 ≤ e ∧ e ≤ 99) ∧ (0 ≤ v ∧ v ≤ μ 169 0 - 1)) (-2) (chN (μ 169) e v) μ) := by
  have h1 := hN.1
  have loop : ∀ (k : Nat) (p b m : Int) (μ1 : zM), ((0 ≤ e ∧ e ≤ 99) ∧ (0 ≤ v ∧ v ≤ μ 169 0 - 1)) → 0 ≤ p → p + k = 100 → -1 ≤ m ∧ m < 10000 → Mq μ μ1 → (∀ w, 0 ≤ w → w < μ 169 0 → w ≠ v → μ1 173 w = cN (μ 169) w) → μ1 168 7 = μ 169 1 → (∀ r, 0 ≤ r → r < μ 169 1 → μ1 174 r = wlN (μ 169) r ∧ μ1 175 r = puN (μ 169) r ∧ μ1 176 r = waN (μ 169) r) → chF (fun p => Pn (μ 169) e v p % 10000) k p b m = chN (μ 169) e v → ZE ext (d + 6) n_X12_changed 34 [(1161, 0), (0, e), (0, v), (0, b), (0, m), (0, p)] [] σ μ1 (Qm ((0 ≤ e ∧ e ≤ 99) ∧ (0 ≤ v ∧ v ≤ μ 169 0 - 1)) (-2) (chN (μ 169) e v) μ) := by
    intro k
    induction k with
    | zero =>
      intro p b m μ1 hok hp hpk hm hq hc h7 hr hT
      refine ZE.go hW 9999 rfl (by and_intros <;> first | trivial | assumption | omega) ?_
      refine ZE.b rfl (by omega) (by omega) ?_ ?_ <;> intro g1
      · refine ZE.go hW 9999 rfl (by and_intros <;> first | trivial | assumption | omega) ?_
        refine ZE.ri rfl rfl ?_
        refine ⟨fun _ => ⟨?_, hq⟩, fun q => absurd hok q⟩
        rw [← hT]
        rfl
      · omega
    | succ k ih =>
      intro p b m μ1 hok hp hpk hm hq hc h7 hr hT
      have hv1 := hN.2.1 v hok.2.1 (by omega)
      have e162 := hq.n
      have n0 := congrFun e162 (7 + 6 * v + 0)
      have hT : (if m < Pn (μ 169) e v p % 10000 then chF (fun p => Pn (μ 169) e v p % 10000) k (p + 1) p (Pn (μ 169) e v p % 10000) else chF (fun p => Pn (μ 169) e v p % 10000) k (p + 1) b m) = chN (μ 169) e v := hT
      refine ZE.go hW 9999 rfl (by and_intros <;> first | trivial | assumption | omega) ?_
      refine ZE.b rfl (by omega) (by omega) ?_ ?_ <;> intro g1
      · omega
      · refine ZE.go hW 9999 rfl (by and_intros <;> first | trivial | assumption | omega) ?_
        refine ZE.c0 hW rfl rfl (Nat.le_of_ble_eq_true rfl) (Nat.le_of_ble_eq_true rfl) (k_m_costOf (d := d + 5) hW (by omega) (by omega)) ?_
        rw [n0]
        refine ZE.go hW 58 rfl (by and_intros <;> first | trivial | assumption | omega) ?_
        have e2 : up μ1 173 v (wFee (μ 169 (7 + 6 * v + 0)) p) 169 = μ 169 := by rw [← e162]; exact funext fun j => up_n (by omega)
        have c2 : ∀ w, 0 ≤ w → w < μ 169 0 → up μ1 173 v (wFee (μ 169 (7 + 6 * v + 0)) p) 173 w = ex1 (cN (μ 169)) v (wFee (μ 169 (7 + 6 * v + 0)) p) w := by
          intro w a b
          unfold ex1
          by_cases e1 : w = v
          · rw [if_pos e1, e1, up_s]
          · rw [if_neg e1, up_n (by omega)]
            exact hc w a b e1
        have m7 : up μ1 173 v (wFee (μ 169 (7 + 6 * v + 0)) p) 168 7 = μ 169 1 := by rw [up_n (by omega)]; exact h7
        have r2 : ∀ r, 0 ≤ r → r < μ 169 1 → up μ1 173 v (wFee (μ 169 (7 + 6 * v + 0)) p) 174 r = wlN (μ 169) r ∧ up μ1 173 v (wFee (μ 169 (7 + 6 * v + 0)) p) 175 r = puN (μ 169) r ∧ up μ1 173 v (wFee (μ 169 (7 + 6 * v + 0)) p) 176 r = waN (μ 169) r := by
          intro r a b
          rw [up_n (by omega), up_n (by omega), up_n (by omega)]
          exact hr r a b
        have q2 : Mq μ (up μ1 173 v (wFee (μ 169 (7 + 6 * v + 0)) p)) := hq.up (by omega)
        generalize up μ1 173 v (wFee (μ 169 (7 + 6 * v + 0)) p) = μ2 at e2 c2 m7 r2 q2
        have hN2 : NI (μ2 169) t := by rw [e2]; exact hN
        have hH2 : HR μ2 := by
          refine ⟨by omega, ?_, ?_⟩
          · intro w a b
            rw [e2] at b
            rw [c2 w a b]
            unfold ex1
            split
            · exact wFee_rng (by omega)
            · have := hN.2.1 w a b
              exact wFee_rng (by omega)
          · intro r a b
            have := r2 r a (by omega)
            rw [this.1, this.2.1, this.2.2]
            have hR := hN.2.2.1 r a (by omega)
            have hP : 0 ≤ puN (μ 169) r ∧ puN (μ 169) r ≤ 999 := hN.2.2.2.2.1.2.2.1 r a (by omega)
            have hR1 : 1 ≤ wlN (μ 169) r ∧ wlN (μ 169) r ≤ 9 := hR.1
            have hR2 : 0 ≤ waN (μ 169) r ∧ waN (μ 169) r ≤ 6 := hR.2
            omega
        refine ZE.go hW 9999 rfl (by and_intros <;> first | trivial | assumption | omega) ?_
        refine ZE.q0 hW rfl rfl (Nat.le_of_ble_eq_true rfl) (Nat.le_of_ble_eq_true rfl) (k_m_layBest (d := d) hW hN2 hH2 (by omega)) ?_
        rintro rv9 μb ⟨rfl, hb⟩
        have b1 := hb.2.1
        have b2 := hb.2.2.1
        have b4 := hb.2.2.2.1
        rw [e2, m7] at b1
        have b3 : gB (μ 169) e (μ2 173) (μ2 174) (μ2 175) (μ2 176) (μ 169 1) = Pn (μ 169) e v p := gB_cg h1.1.1 c2 r2
        rw [b3] at b1
        have b5 : μb 168 15 = Pn (μ 169) e v p % 10000 := by omega
        have fin : ∀ b m, -1 ≤ m ∧ m < 10000 → chF (fun p => Pn (μ 169) e v p % 10000) k (p + 1) b m = chN (μ 169) e v → ZE ext (d + 6) n_X12_changed 34 [(1161, 0), (0, e), (0, v), (0, b), (0, m), (0, p + 1)] [] σ μb (Qm ((0 ≤ e ∧ e ≤ 99) ∧ (0 ≤ v ∧ v ≤ μ 169 0 - 1)) (-2) (chN (μ 169) e v) μ) := by
          intro b m hm2 hT2
          refine ih (p + 1) b m μb hok (by omega) (by omega) hm2 ?_ ?_ ?_ ?_ hT2
          · intro k j a b
            rw [hb.1 k j (by omega) (by omega) (by omega) (by omega)]
            exact q2 k j a b
          · intro w a b c
            rw [hb.1 173 w (by omega) (by omega) (by omega) (by omega), c2 w a b]
            unfold ex1
            rw [if_neg c]
          · rw [hb.1 168 7 (by omega) (by omega) (by omega) (by omega)]
            exact m7
          · intro r a b
            rw [hb.1 174 r (by omega) (by omega) (by omega) (by omega), hb.1 175 r (by omega) (by omega) (by omega) (by omega), hb.1 176 r (by omega) (by omega) (by omega) (by omega)]
            exact r2 r a b
        rw [← b5] at hT
        refine ZE.go hW 9999 rfl (by and_intros <;> first | trivial | assumption | omega) ?_
        refine ZE.b rfl (by omega) (by omega) ?_ ?_ <;> intro g2
        · refine ZE.go hW 9999 rfl (by and_intros <;> first | trivial | assumption | omega) ?_
          refine ZE.b rfl (by omega) (by omega) ?_ ?_ <;> intro g3
          · refine ZE.go hW 34 rfl (by and_intros <;> first | trivial | assumption | omega) ?_
            first
              | (exfalso; omega)
              | exact fin p (μb 168 15) (by omega) (by rw [if_pos (by omega)] at hT; exact hT)
              | exact fin b m hm (by rw [if_neg (by omega)] at hT; exact hT)
          · refine ZE.go hW 34 rfl (by and_intros <;> first | trivial | assumption | omega) ?_
            first
              | (exfalso; omega)
              | exact fin p (μb 168 15) (by omega) (by rw [if_pos (by omega)] at hT; exact hT)
              | exact fin b m hm (by rw [if_neg (by omega)] at hT; exact hT)
        · refine ZE.go hW 9999 rfl (by and_intros <;> first | trivial | assumption | omega) ?_
          refine ZE.b rfl (by omega) (by omega) ?_ ?_ <;> intro g3
          · refine ZE.go hW 34 rfl (by and_intros <;> first | trivial | assumption | omega) ?_
            first
              | (exfalso; omega)
              | exact fin p (μb 168 15) (by omega) (by rw [if_pos (by omega)] at hT; exact hT)
              | exact fin b m hm (by rw [if_neg (by omega)] at hT; exact hT)
          · refine ZE.go hW 34 rfl (by and_intros <;> first | trivial | assumption | omega) ?_
            first
              | (exfalso; omega)
              | exact fin p (μb 168 15) (by omega) (by rw [if_pos (by omega)] at hT; exact hT)
              | exact fin b m hm (by rw [if_neg (by omega)] at hT; exact hT)
  refine ZQ.i rfl ?_
  refine ZE.go hW 9999 rfl (by and_intros <;> first | trivial | assumption | omega) ?_
  refine ZE.c0 hW rfl rfl (Nat.le_of_ble_eq_true rfl) (Nat.le_of_ble_eq_true rfl) (k_m_isEvening (d := d + 4) hW he) ?_
  refine ZE.bp rfl rfl ?_ ?_ <;> intro g1
  · refine ZE.go hW 9999 rfl (by and_intros <;> first | trivial | assumption | omega) ?_
    refine ZE.ri rfl rfl ?_
    exact ⟨fun q => absurd q (by omega), fun _ => ⟨rfl, rfl⟩⟩
  · refine ZE.go hW 9999 rfl (by and_intros <;> first | trivial | assumption | omega) ?_
    refine ZE.c0 hW rfl rfl (Nat.le_of_ble_eq_true rfl) (Nat.le_of_ble_eq_true rfl) (k_m_isView (d := d + 4) hW hv h1.1) ?_
    refine ZE.bp rfl rfl ?_ ?_ <;> intro g2
    · refine ZE.go hW 9999 rfl (by and_intros <;> first | trivial | assumption | omega) ?_
      refine ZE.q0 hW rfl rfl (Nat.le_of_ble_eq_true rfl) (Nat.le_of_ble_eq_true rfl) (k_m_layHand (d := d + 4) hW hN) ?_
      rintro rv9 μ8 ⟨rfl, hq, hl⟩
      refine ZE.go hW 34 rfl (by and_intros <;> first | trivial | assumption | omega) ?_
      obtain ⟨a1, a2, a3⟩ := hl
      rw [hq.n] at a1 a2 a3
      exact loop 100 0 0 (-1) μ8 (by omega) (by omega) (by omega) (by omega) hq (fun w a b _ => a1 w a b) a2 (fun r a b => a3 r a b) rfl
    · refine ZE.go hW 9999 rfl (by and_intros <;> first | trivial | assumption | omega) ?_
      refine ZE.ri rfl rfl ?_
      exact ⟨fun q => absurd q (by omega), fun _ => ⟨rfl, rfl⟩⟩
end
