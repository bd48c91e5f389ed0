section
variable {ext : List xC} {σ : zSh} {d : Nat} {μ : zM} {a t e : Int} {N : Int → Int}
theorem sN_rng (hN : NI N t) (r : Int) : 0 ≤ sN N e r ∧ sN N e r < 64 := by
  have h0 := hN.1
  have := mkm_SM (P := sG N e (cN N) (wlN N) (puN N) (waN N) r) (N 0).toNat (by omega)
  exact this.1
theorem cN_rng (hN : NI N t) {v : Int} (hv : 0 ≤ v ∧ v < N 0) : 0 ≤ cN N v ∧ cN N v < 200 := wFee_rng (by have := hN.2.1 v hv.1 hv.2; omega)
theorem Opn.c0 (hN : NI N t) (h : Opn μ N e) (h16 : ∀ r, 0 ≤ r → r < 7 → μ 9 r = r) : Cn0 μ (N 0) (N 1) := by
  have h0 := hN.1
  refine ⟨⟨h.1.1, by omega⟩, ⟨h.1.2.1, by omega⟩, fun v p q => ?_, fun r p q => ?_, h16⟩
  · rw [(h.1.2.2 v p q).1]; exact cN_rng hN ⟨p, q⟩
  · rw [h.2 r p q]; exact sN_rng hN r
theorem Opn.B (hN : NI N t) (h : Opn μ N e) : (cB μ (N 0) (N 1).toNat 0 (zshl 1 (N 0) - 1)).1 = Bn N e := by
  have h0 := hN.1
  unfold cB Bn gB
  rw [bB_cg (c' := cN N) (s' := sN N e) (fun v p q => (h.1.2.2 v p (by omega)).1) _ _ _ (fun j p q => h.2 j p (by omega))]
  rfl
theorem Opn.R (hN : NI N t) (h : Opn μ N e) {j : Int} : bR (N 0).toNat (μ 7) (μ 6) (N 1).toNat 0 (zshl 1 (N 0) - 1) j = Rn N e j := by
  have h0 := hN.1
  unfold Rn gR
  rw [bR_cg (c' := cN N) (s' := sN N e) (fun v p q => (h.1.2.2 v p (by omega)).1) _ _ _ _ (fun j p q => h.2 j p (by omega))]
  rfl
theorem Opn.C (hN : NI N t) (h : Opn μ N e) {who : Int} : asC (N 0).toNat (μ 7) (μ 6) who (N 1).toNat 0 (zshl 1 (N 0) - 1) 0 0 = Cn N e who := by
  have h0 := hN.1
  unfold Cn gC
  rw [asC_cg (c' := cN N) (s' := sN N e) (who' := who) (fun v p q => (h.1.2.2 v p (by omega)).1) _ _ _ _ _ (fun j p q => ⟨h.2 j p (by omega), rfl⟩)]
  rfl
set_option maxRecDepth 100000 in set_option maxHeartbeats 4000000 in theorem k_c_come (hW : Wl σ) (hN : NI N t) (h : Opn μ N e) (h16 : ∀ r, 0 ≤ r → r < 7 → μ 9 r = r) {who : Int} (hw : 0 ≤ who ∧ who < 256) : ZM ext (d + 1) n_X2_asTheyCome [(1012, 0), (0, who)] σ μ (some (0, 10000 * (Cn N e who).1 + (Cn N e who).2)) μ := by
  have := k_c_asTheyCome (ext := ext) (d := d) hW (h.c0 hN h16) hw
  rw [h.C hN] at this
  exact this
set_option maxRecDepth 100000 in set_option maxHeartbeats 4000000 in theorem k_c_weighed {o : Int} (hW : Wl σ) (hN : NI N t) (h : Opn μ N (N 2)) (h16 : ∀ r, 0 ≤ r → r < 7 → μ 9 r = r) (ho : 0 ≤ o ∧ o ≤ 10) : ZM ext (d + 2) n_X2_weighedMoney [(1012, 0), (0, o)] σ μ (some (1, odN N o)) μ := by
  have h0 := hN.1
  have n1 : μ 5 1 = N 1 := h.1.2.1
  have hall := bt_all h0.2.1
  apply ZQ.ex
  unfold odN
  generalize hR : odS N o (zshl 1 (N 1)).toNat 0 0 = R
  have outer : ∀ (k : Nat) (w s : Int) (x5 x6 x7 : V), 0 ≤ w → w + k = zshl 1 (N 1) → odS N o k w s = R → ZE ext (d + 2) n_X2_weighedMoney 5 [(1012, 0), (0, o), (1, s), (4, 0), (0, w), x5, x6, x7] [] σ μ (fun rv μ' => rv = some (1, R) ∧ μ' = μ) := by
    intro k
    induction k with
    | zero =>
      intro w s x5 x6 x7 hw hk hs
      have hs : s = R := hs
      refine ZE.go hW 9999 rfl (by repeat' first | exact True.intro | assumption | apply And.intro | omega) ?_
      rw [n1]
      refine ZE.b rfl (by omega) (by omega) ?_ ?_ <;> intro g1
      · refine ZE.go hW 9999 rfl (by repeat' first | exact True.intro | assumption | apply And.intro | omega) ?_
        refine ZE.rl rfl rfl ?_
        exact ⟨by rw [hs], rfl⟩
      · omega
    | succ k ih =>
      intro w s x5 x6 x7 hw hk hs
      have hs : odS N o k (w + 1) (s + wg o w (N 1).toNat 0 1 * (Cn N (N 2) w).2) = R := hs
      have hg := wg_rng (who := w) ho (N 1).toNat 0 1 1 (by omega) (by omega)
      have hp := p10_rng (i := N 1) (by omega)
      have hc := Cn_rng (e := N 2) (w := w) hN
      have inner : ∀ (q : Nat) (r c : Int), 0 ≤ r → r + q = N 1 → wg o w q r c = wg o w (N 1).toNat 0 1 → ZE ext (d + 2) n_X2_weighedMoney 22 [(1012, 0), (0, o), (1, s), (4, 0), (0, w), (1, c), (4, 0), (0, r)] [] σ μ (fun rv μ' => rv = some (1, R) ∧ μ' = μ) := by
        intro q
        induction q with
        | zero =>
          intro r c hr0 hr hC
          have hC : c = _ := hC
          subst hC
          have hz := zcmp_eq (x := wg o w (N 1).toNat 0 1) (y := 0)
          generalize wg o w (N 1).toNat 0 1 = G at *
          have em : (10000 * (Cn N (N 2) w).1 + (Cn N (N 2) w).2) % 10000 = (Cn N (N 2) w).2 := by omega
          refine ZE.go hW 9999 rfl (by repeat' first | exact True.intro | assumption | apply And.intro | omega) ?_
          refine ZE.b rfl (by omega) (by omega) ?_ ?_ <;> intro g1
          · refine ZE.go hW 9999 rfl (by repeat' first | exact True.intro | assumption | apply And.intro | omega) ?_
            refine ZE.b0 rfl (zcmp_rng) ?_ ?_ <;> intro g2
            · refine ZE.go hW 5 rfl (by repeat' first | exact True.intro | assumption | apply And.intro | omega) ?_
              first
                | (have g0 : G = 0 := by omega
                   rw [g0, Int.zero_mul, Int.add_zero] at hs
                   exact ih (w + 1) s _ _ _ (by omega) (by omega) hs)
                | exact ih (w + 1) _ _ _ _ (by omega) (by omega) hs
            · refine ZE.go hW 9999 rfl (by repeat' first | exact True.intro | assumption | apply And.intro | omega) ?_
              refine ZE.c0 hW rfl rfl (Nat.le_of_ble_eq_true rfl) (Nat.le_of_ble_eq_true rfl) (k_c_come (d := d) hW hN h h16 (by omega)) ?_
              refine ZE.go hW 83 rfl (by repeat' first | exact True.intro | assumption | apply And.intro | omega) ?_
              rw [em]
              refine ZE.go hW 5 rfl (by repeat' first | exact True.intro | assumption | apply And.intro | omega) ?_
              first
                | (have g0 : G = 0 := by omega
                   rw [g0, Int.zero_mul, Int.add_zero] at hs
                   exact ih (w + 1) s _ _ _ (by omega) (by omega) hs)
                | exact ih (w + 1) _ _ _ _ (by omega) (by omega) hs
          · omega
        | succ q ihq =>
          intro r c hr0 hr hC
          have hC : wg o w q (r + 1) (c * (if zand (zshr w r) 1 = 1 then o else 10 - o)) = _ := hC
          refine ZE.go hW 9999 rfl (by repeat' first | exact True.intro | assumption | apply And.intro | omega) ?_
          refine ZE.b rfl (by omega) (by omega) ?_ ?_ <;> intro g1
          · omega
          · refine ZE.go hW 9999 rfl (by repeat' first | exact True.intro | assumption | apply And.intro | omega) ?_
            refine ZE.b rfl (bt_rng (by omega) (by omega)) (by omega) ?_ ?_ <;> intro g2
            · refine ZE.go hW 22 rfl (by repeat' first | exact True.intro | assumption | apply And.intro | omega) ?_
              first
                | (rw [if_pos (by omega)] at hC; exact ihq (r + 1) _ (by omega) (by omega) hC)
                | (rw [if_neg (by omega)] at hC; exact ihq (r + 1) _ (by omega) (by omega) hC)
            · refine ZE.go hW 22 rfl (by repeat' first | exact True.intro | assumption | apply And.intro | omega) ?_
              first
                | (rw [if_pos (by omega)] at hC; exact ihq (r + 1) _ (by omega) (by omega) hC)
                | (rw [if_neg (by omega)] at hC; exact ihq (r + 1) _ (by omega) (by omega) hC)
      refine ZE.go hW 9999 rfl (by repeat' first | exact True.intro | assumption | apply And.intro | omega) ?_
      rw [n1]
      refine ZE.b rfl (by omega) (by omega) ?_ ?_ <;> intro g1
      · omega
      · refine ZE.go hW 22 rfl (by repeat' first | exact True.intro | assumption | apply And.intro | omega) ?_
        exact inner (N 1).toNat 0 1 (by omega) (by omega) rfl
  refine ZQ.i rfl ?_
  refine ZE.go hW 5 rfl (by repeat' first | exact True.intro | assumption | apply And.intro | omega) ?_
  exact outer (zshl 1 (N 1)).toNat 0 0 _ _ _ (by omega) (by omega) hR
set_option maxRecDepth 100000 in set_option maxHeartbeats 4000000 in theorem k_c_drawn {sd n w : Int} (h : SR σ μ a N t) (ht : t ≤ 100) (hs : 0 ≤ sd ∧ sd ≤ 999999) (hn : 0 ≤ n ∧ n ≤ 30) (hw : 0 ≤ w ∧ w ≤ 100) : ZQ ext (d + 5) n_X2_suitedByDraw [(1012, 0), (100, a), (0, sd), (0, n), (0, w)] σ μ (fun rv μ' => rv = some (0, dwF N w n.toNat 0 sd 0) ∧ Cf μ μ') := by
  have hW := h.1.1
  have hSp := h.2.1.1
  have hB := h.2.1.bk
  have hN := h.2.2.2.1
  have hC0 := h.ct
  have h29 : 22 ≤ a := h.2.2.2.2.2
  generalize hR : dwF N w n.toNat 0 sd 0 = R
  have loop : ∀ (q : Nat) (k x s : Int) (μ1 : zM) (x9 x10 : V), 0 ≤ k → k + q = n → 0 ≤ x ∧ x < 2147483648 → Cf μ μ1 → dwF N w q k x s = R → ZE ext (d + 5) n_X2_suitedByDraw 10 [(1012, 0), (100, a), (0, sd), (0, n), (0, w), (1, x), (4, 0), (0, s), (0, k), x9, x10] [] σ μ1 (fun rv μ' => rv = some (0, R) ∧ Cf μ μ') := by
    intro q
    induction q with
    | zero =>
      intro k x s μ1 x9 x10 h0 hk hx hf hT
      have hT : s = _ := hT
      refine ZE.go hW 9999 rfl (by repeat' first | exact True.intro | assumption | apply And.intro | omega) ?_
      refine ZE.b rfl (by omega) (by omega) ?_ ?_ <;> intro g1
      · refine ZE.go hW 9999 rfl (by repeat' first | exact True.intro | assumption | apply And.intro | omega) ?_
        refine ZE.ri rfl rfl ?_
        exact ⟨by rw [hT], hf⟩
      · omega
    | succ q ih =>
      intro k x s μ1 x9 x10 h0 hk hx hf hT
      have hT : dwF N w q (k + 1) (dwS w (N 1).toNat 0 x 0).1 (s + (Cn N (N 2 + k) (dwS w (N 1).toNat 0 x 0).2).1) = _ := hT
      have h1 := h.cf hf
      have c1 := h1.ct
      have inner : ∀ (μ2 : zM), Cf μ μ2 → Opn μ2 N (N 2 + k) → ∀ (j : Nat) (r y o : Int), 0 ≤ r → r + j = N 1 → 0 ≤ y ∧ y < 2147483648 → 0 ≤ o ∧ o < 64 → dwS w j r y o = dwS w (N 1).toNat 0 x 0 → ZE ext (d + 5) n_X2_suitedByDraw 37 [(1012, 0), (100, a), (0, sd), (0, n), (0, w), (1, y), (4, 0), (0, s), (0, k), (0, o), (0, r)] [] σ μ2 (fun rv μ' => rv = some (0, R) ∧ Cf μ μ') := by
        intro μ2 hf2 hO j
        have n1 : μ2 5 1 = N 1 := hO.1.2.1
        have h16 : ∀ r, 0 ≤ r → r < 7 → μ2 9 r = r := (h.cf hf2).1.2
        induction j with
        | zero =>
          intro r y o hr0 hr hy ho hC
          have hC : (y, o) = _ := hC
          rw [← hC] at hT
          have hc := Cn_rng (e := N 2 + k) (w := o) hN
          have em : (10000 * (Cn N (N 2 + k) o).1 + (Cn N (N 2 + k) o).2) / 10000 = (Cn N (N 2 + k) o).1 := by omega
          refine ZE.go hW 9999 rfl (by repeat' first | exact True.intro | assumption | apply And.intro | omega) ?_
          refine ZE.b rfl (by omega) (by omega) ?_ ?_ <;> intro g1
          · refine ZE.go hW 9999 rfl (by repeat' first | exact True.intro | assumption | apply And.intro | omega) ?_
            refine ZE.c0 hW rfl rfl (Nat.le_of_ble_eq_true rfl) (Nat.le_of_ble_eq_true rfl) (k_c_come (d := d + 3) hW hN hO h16 (by omega)) ?_
            refine ZE.go hW 10 rfl (by repeat' first | exact True.intro | assumption | apply And.intro | omega) ?_
            rw [em]
            exact ih (k + 1) _ _ μ2 _ _ (by omega) (by omega) hy hf2 hT
          · omega
        | succ j ihj =>
          intro r y o hr0 hr hy ho hC
          have hC : dwS w j (r + 1) (lcg y) (zor o (if lcg y / 65536 % 100 < w then zshl 1 r else 0)) = _ := hC
          have hl1 : 0 ≤ lcg y ∧ lcg y < 2147483648 := by unfold lcg; omega
          have e1 : lcg y = (y * 1103515245 + 12345) % 2147483648 := rfl
          have ho2 := bt_or0 ho
          have ho3 := (bt_or ho (v := r) (by omega)).1
          refine ZE.go hW 9999 rfl (by repeat' first | exact True.intro | assumption | apply And.intro | omega) ?_
          refine ZE.b rfl (by omega) (by omega) ?_ ?_ <;> intro g1
          · omega
          · refine ZE.go hW 62 rfl (by repeat' first | exact True.intro | assumption | apply And.intro | omega) ?_
            have e2 : (y * ((1103515245 : Nat) : Int) + ((12345 : Nat) : Int)) % ((2147483648 : Nat) : Int) = lcg y := rfl
            rw [e2]
            have hz := zcmp_lt (x := lcg y / ((65536 : Nat) : Int) % ((100 : Nat) : Int)) (y := w)
            refine ZE.go hW 9999 rfl (by repeat' first | exact True.intro | assumption | apply And.intro | omega) ?_
            refine ZE.b0 rfl (zcmp_rng) ?_ ?_ <;> intro g2
            · refine ZE.go hW 37 rfl (by repeat' first | exact True.intro | assumption | apply And.intro | omega) ?_
              first
                | (rw [if_pos (by omega)] at hC; exact ihj (r + 1) _ _ (by omega) (by omega) hl1 ho3 hC)
                | (rw [if_neg (by omega), ho2] at hC; exact ihj (r + 1) _ _ (by omega) (by omega) hl1 ho hC)
            · refine ZE.go hW 37 rfl (by repeat' first | exact True.intro | assumption | apply And.intro | omega) ?_
              first
                | (rw [if_pos (by omega)] at hC; exact ihj (r + 1) _ _ (by omega) (by omega) hl1 ho3 hC)
                | (rw [if_neg (by omega), ho2] at hC; exact ihj (r + 1) _ _ (by omega) (by omega) hl1 ho hC)
      refine ZE.go hW 9999 rfl (by repeat' first | exact True.intro | assumption | apply And.intro | omega) ?_
      refine ZE.b rfl (by omega) (by omega) ?_ ?_ <;> intro g1
      · omega
      · refine ZE.go hW 9999 rfl (by repeat' first | exact True.intro | assumption | apply And.intro | omega) ?_
        rw [c1.2.1.1]
        refine ZE.q0 hW rfl rfl (Nat.le_of_ble_eq_true rfl) (Nat.le_of_ble_eq_true rfl) (k_c_open (d := d) h1 (e := N 2 + k) (by omega)) ?_
        rintro rv9 μ2 ⟨rfl, hf2, hO⟩
        refine ZE.go hW 37 rfl (by repeat' first | exact True.intro | assumption | apply And.intro | omega) ?_
        exact inner μ2 (hf.trans hf2) hO (N 1).toNat 0 x 0 (by omega) (by omega) hx (by omega) rfl
  refine ZQ.i rfl ?_
  refine ZE.go hW 10 rfl (by repeat' first | exact True.intro | assumption | apply And.intro | omega) ?_
  exact loop n.toNat 0 sd 0 μ _ _ (by omega) (by omega) (by omega) Cf.rfl' hR
end
