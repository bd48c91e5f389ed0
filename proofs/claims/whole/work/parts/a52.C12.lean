noncomputable def s0N (N : Int → Int) (e v : Int) : Int → Int := fun r => zand (sN N e r) (zxor (zshl 1 v) (-1))
noncomputable def nbN (N : Int → Int) (e v : Int) : Int := (bB (N 0).toNat (cN N) (s0N N e v) (N 1).toNat 0 (zshl 1 (N 0) - 1)).1
noncomputable def hvN (N : Int → Int) (e v : Int) : Int → Int := fun r => by
  classical
  exact if wFit (N (7 + 6 * v + 0)) (N (7 + 6 * v + 1)) (wlN N r) ∧ (waN N r = 6 ∨ waN N r = shN N v e) then 10000 + (bB (N 0).toNat (cN N) (ex1 (s0N N e v) r 0) (N 1).toNat 0 (zshl 1 (N 0) - 1)).1 else -1
section
variable {N : Int → Int} {t e : Int}
theorem hvN_t {v r : Int} (h : wFit (N (7 + 6 * v + 0)) (N (7 + 6 * v + 1)) (wlN N r) ∧ (waN N r = 6 ∨ waN N r = shN N v e)) : hvN N e v r = 10000 + (bB (N 0).toNat (cN N) (ex1 (s0N N e v) r 0) (N 1).toNat 0 (zshl 1 (N 0) - 1)).1 := by
  unfold hvN; exact if_pos h
theorem hvN_f {v r : Int} (h : ¬ (wFit (N (7 + 6 * v + 0)) (N (7 + 6 * v + 1)) (wlN N r) ∧ (waN N r = 6 ∨ waN N r = shN N v e))) : hvN N e v r = -1 := by
  unfold hvN; exact if_neg h
theorem Pn_mf {v p : Int} (hN : NI N t) (hv : 0 ≤ v ∧ v < N 0) : Pn N e v p = mf (hvN N e v) (puN N) (wFee (N (7 + 6 * v + 0)) p) (N 1).toNat 0 (nbN N e v) := by
  have h0 := hN.1
  have hall := bt_all h0.1
  refine eq_le (fun M => ?_)
  unfold Pn gB
  have hone := bB_one (nv := (N 0).toNat) (c := cN N) (c' := ex1 (cN N) v (wFee (N (7 + 6 * v + 0)) p)) (s0 := s0N N e v) (s' := sM N e (ex1 (cN N) v (wFee (N (7 + 6 * v + 0)) p)) (wlN N) (puN N) (waN N)) (v := v) (F := wFee (N (7 + 6 * v + 0)) p)
    (Y := fun r => (wFit (N (7 + 6 * v + 0)) (N (7 + 6 * v + 1)) (wlN N r) ∧ (waN N r = 6 ∨ waN N r = shN N v e)) ∧ wFee (N (7 + 6 * v + 0)) p ≤ puN N r) (by omega) (fun w _ _ ne => ex1_o ne) ex1_s (by omega) (N 1).toNat 0 (zshl 1 (N 0) - 1) hall.1 ((hall.2.1 v hv.1 (by omega)).mpr hv.2) (fun j x y => ?_) M
  · rw [hone, mf_le]
    constructor
    · intro ⟨a1, a2⟩
      refine ⟨a1, fun q x y b c => ?_⟩
      by_cases hq : wFit (N (7 + 6 * v + 0)) (N (7 + 6 * v + 1)) (wlN N q) ∧ (waN N q = 6 ∨ waN N q = shN N v e)
      · rw [hvN_t hq]
        have := a2 q x y ⟨hq, c⟩
        omega
      · exact absurd (hvN_f hq) b
    · intro ⟨a1, a2⟩
      refine ⟨a1, fun q x y hy => ?_⟩
      have hb := bB_0 (nv := (N 0).toNat) (c := cN N) (s := ex1 (s0N N e v) q 0) (N 1).toNat 0 (zshl 1 (N 0) - 1)
      have := a2 q x y (by rw [hvN_t hy.1]; omega) hy.2
      rw [hvN_t hy.1] at this
      omega
  · have hs1 := mkm_SM (P := sG N e (cN N) (wlN N) (puN N) (waN N) j) (N 0).toNat (by omega)
    have hs2 := mkm_SM (P := sG N e (ex1 (cN N) v (wFee (N (7 + 6 * v + 0)) p)) (wlN N) (puN N) (waN N) j) (N 0).toNat (by omega)
    have hcl := bt_clr (a := sN N e j) (v := v) hs1.1 (by omega)
    refine ⟨hcl.1, hs2.1, fun w x y ne => ?_, ?_, ?_⟩
    · show bt (sM N e _ _ _ _ j) w ↔ bt (zand (sN N e j) (zxor (zshl 1 v) (-1))) w
      rw [hcl.2 w x y]
      show bt (mkm _ (N 0).toNat) w ↔ bt (mkm _ (N 0).toNat) w ∧ w ≠ v
      rw [hs1.2 w x y, hs2.2 w x y]
      unfold sG
      rw [ex1_o ne]
      constructor
      · intro q; exact ⟨q, ne⟩
      · intro q; exact q.1
    · intro q
      exact ((hcl.2 v hv.1 (by omega)).mp q).2 rfl
    · show bt (mkm _ (N 0).toNat) v ↔ _
      rw [hs2.2 v hv.1 (by omega)]
      unfold sG
      rw [ex1_s]
      constructor
      · intro q; exact ⟨⟨q.2.1, q.2.2.2⟩, q.2.2.1⟩
      · intro q; exact ⟨by omega, q.1.1, q.2, q.1.2⟩
theorem hvN_rng {v r : Int} (hN : NI N t) : -1 ≤ hvN N e v r ∧ hvN N e v r ≤ 100000 := by
  have h0 := hN.1
  by_cases h : wFit (N (7 + 6 * v + 0)) (N (7 + 6 * v + 1)) (wlN N r) ∧ (waN N r = 6 ∨ waN N r = shN N v e)
  · rw [hvN_t h]
    have h1 := bB_0 (nv := (N 0).toNat) (c := cN N) (s := ex1 (s0N N e v) r 0) (N 1).toNat 0 (zshl 1 (N 0) - 1)
    have h2 := bB_hi (nv := (N 0).toNat) (c := cN N) (s := ex1 (s0N N e v) r 0) (fun v p q => cN_rng hN ⟨p, by omega⟩) (N 1).toNat 0 (zshl 1 (N 0) - 1)
    omega
  · rw [hvN_f h]; omega
theorem nbN_rng {v : Int} (hN : NI N t) : 0 ≤ nbN N e v ∧ nbN N e v ≤ 100000 := by
  have h0 := hN.1
  have h1 := bB_0 (nv := (N 0).toNat) (c := cN N) (s := s0N N e v) (N 1).toNat 0 (zshl 1 (N 0) - 1)
  have h2 := bB_hi (nv := (N 0).toNat) (c := cN N) (s := s0N N e v) (fun v p q => cN_rng hN ⟨p, by omega⟩) (N 1).toNat 0 (zshl 1 (N 0) - 1)
  unfold nbN
  omega
end
section
variable {ext : List xC} {σ : zSh} {d : Nat} {μ : zM} {a t e : Int} {N : Int → Int}
set_option maxRecDepth 100000 in set_option maxHeartbeats 4000000 in theorem k_c_solveWithout {nv n r : Int} (hW : Wl σ) (h : Cn0 μ nv n) (hr : 0 ≤ r ∧ r < n) : ZQ ext (d + 3) n_X2_solveWithout [(1012, 0), (0, r)] σ μ (fun rv μ' => rv = some (0, (bB nv.toNat (μ 7) (ex1 (μ 6) r 0) n.toNat 0 (zshl 1 nv - 1)).1) ∧ ∀ k j, ¬ (10 ≤ k ∧ k ≤ 16) → μ' k j = μ k j) := by
  obtain ⟨hv, hn, hc, hs, h16⟩ := id h
  have h0 : Cn0 (up μ 6 r 0) nv n := by
    refine ⟨?_, ?_, fun v p q => ?_, fun q p z => ?_, fun q p z => ?_⟩
    · rw [up_n (by omega)]; exact hv
    · rw [up_n (by omega)]; exact hn
    · rw [up_n (by omega)]; exact hc v p q
    · by_cases e : q = r
      · rw [up_e rfl e]; omega
      · rw [up_n (by omega)]; exact hs q p z
    · rw [up_n (by omega)]; exact h16 q p z
  have eB : ∀ k r' f, cB (up μ 6 r 0) nv k r' f = bB nv.toNat (μ 7) (ex1 (μ 6) r 0) k r' f := by
    intro k r' f
    unfold cB
    rw [up_row, show up μ 6 r 0 7 = μ 7 from funext fun j => up_n (by omega)]
  refine ZQ.i rfl ?_
  refine ZE.go hW 9999 rfl (by repeat' first | exact True.intro | assumption | apply And.intro | omega) ?_
  refine ZE.q0 hW rfl rfl (Nat.le_of_ble_eq_true rfl) (Nat.le_of_ble_eq_true rfl) (k_c_solve (d := d) hW h0) ?_
  rintro rv9 μ1 ⟨rfl, hf, hT⟩
  refine ZE.go hW 9999 rfl (by repeat' first | exact True.intro | assumption | apply And.intro | omega) ?_
  refine ZE.ri rfl rfl ?_
  rw [eB]
  refine ⟨rfl, fun k j p => ?_⟩
  by_cases e1 : k = 6 ∧ j = r
  · rw [up_e e1.1 e1.2, e1.1, e1.2]
  · rw [up_n e1, hf k j p, up_n e1]
set_option maxRecDepth 100000 in set_option maxHeartbeats 4000000 in theorem k_c_mostAtFee {fe nb : Int} (h : SR σ μ a N t) (hn : μ 5 1 = N 1) (hh : ∀ r, 0 ≤ r → r < N 1 → -1 ≤ μ 17 r ∧ μ 17 r ≤ 100000) (hf : 0 ≤ fe ∧ fe < 200) (hb : 0 ≤ nb ∧ nb ≤ 100000) : ZQ ext (d + 1) n_X2_mostAtFee [(1012, 0), (100, a), (0, fe), (0, nb)] σ μ (fun rv μ' => rv = some (0, mf (μ 17) (puN N) fe (N 1).toNat 0 nb) ∧ μ' = μ ∧ 0 ≤ mf (μ 17) (puN N) fe (N 1).toNat 0 nb ∧ mf (μ 17) (puN N) fe (N 1).toNat 0 nb ≤ 200000) := by
  have hW := h.1.1
  have hSp := h.2.1.1
  have hB := h.2.1.bk
  have hC := h.ct
  generalize hR : mf (μ 17) (puN N) fe (N 1).toNat 0 nb = R
  have loop : ∀ (k : Nat) (i x : Int), 0 ≤ i → i + k = N 1 → 0 ≤ x ∧ x ≤ 200000 → mf (μ 17) (puN N) fe k i x = R → ZE ext (d + 1) n_X2_mostAtFee 6 [(1012, 0), (100, a), (0, fe), (0, nb), (0, x), (0, i)] [] σ μ (fun rv μ' => rv = some (0, R) ∧ μ' = μ ∧ 0 ≤ R ∧ R ≤ 200000) := by
    intro k
    induction k with
    | zero =>
      intro i x h0 hk hx hr
      have hr : x = R := hr
      subst hr
      refine ZE.go hW 9999 rfl (by repeat' first | exact True.intro | assumption | apply And.intro | omega) ?_
      refine ZE.b rfl (by omega) (by omega) ?_ ?_ <;> intro g1
      · refine ZE.go hW 9999 rfl (by repeat' first | exact True.intro | assumption | apply And.intro | omega) ?_
        refine ZE.ri rfl rfl ?_
        exact ⟨rfl, rfl, hx⟩
      · omega
    | succ k ih =>
      intro i x h0 hk hx hr
      have hr : mf (μ 17) (puN N) fe k (i + 1) (if μ 17 i ≠ -1 ∧ fe ≤ puN N i then (if x < μ 17 i + fe then μ 17 i + fe else x) else x) = R := hr
      have hi := hh i h0 (by omega)
      have hp := h.rt (r := i) ⟨h0, by omega⟩
      have ep : puN N i = N (43 + 3 * i + 1) := rfl
      refine ZE.go hW 9999 rfl (by repeat' first | exact True.intro | assumption | apply And.intro | omega) ?_
      refine ZE.b rfl (by omega) (by omega) ?_ ?_ <;> intro g1
      · omega
      · refine ZE.go hW 9999 rfl (by repeat' first | exact True.intro | assumption | apply And.intro | omega) ?_
        refine ZE.b rfl (by omega) (by omega) ?_ ?_ <;> intro g2
        · refine ZE.go hW 6 rfl (by repeat' first | exact True.intro | assumption | apply And.intro | omega) ?_
          first
            | (rw [if_neg (by omega)] at hr
               exact ih (i + 1) x (by omega) (by omega) hx hr)
            | (rw [if_pos (by omega)] at hr
               refine ih (i + 1) _ (by omega) (by omega) ?_ hr
               split <;> omega)
        · refine ZE.go hW 9999 rfl (by repeat' first | exact True.intro | assumption | apply And.intro | omega) ?_
          refine ZE.b rfl (by omega) (by omega) ?_ ?_ <;> intro g3
          · refine ZE.go hW 6 rfl (by repeat' first | exact True.intro | assumption | apply And.intro | omega) ?_
            first
              | (rw [if_neg (by omega)] at hr
                 exact ih (i + 1) x (by omega) (by omega) hx hr)
              | (rw [if_pos (by omega)] at hr
                 refine ih (i + 1) _ (by omega) (by omega) ?_ hr
                 split <;> omega)
          · refine ZE.go hW 9999 rfl (by repeat' first | exact True.intro | assumption | apply And.intro | omega) ?_
            refine ZE.c0 hW rfl rfl (Nat.le_of_ble_eq_true rfl) (Nat.le_of_ble_eq_true rfl) (k_j_max (d := d) hW (by omega) (by omega)) ?_
            refine ZE.go hW 6 rfl (by repeat' first | exact True.intro | assumption | apply And.intro | omega) ?_
            first
              | (rw [if_neg (by omega)] at hr
                 exact ih (i + 1) x (by omega) (by omega) hx hr)
              | (rw [if_pos (by omega)] at hr
                 refine ih (i + 1) _ (by omega) (by omega) ?_ hr
                 split <;> omega)
  refine ZQ.i rfl ?_
  refine ZE.go hW 6 rfl (by repeat' first | exact True.intro | assumption | apply And.intro | omega) ?_
  exact loop (N 1).toNat 0 nb (by omega) (by omega) (by omega) hR
set_option maxRecDepth 100000 in set_option maxHeartbeats 4000000 in theorem k_c_price {v : Int} (h : SR σ μ a N t) (he : 0 ≤ e ∧ e < 1000) (hv : 0 ≤ v ∧ v < N 0) : ZQ ext (d + 5) n_X2_priceForMostMoney [(1012, 0), (100, a), (0, e), (0, v)] σ μ (fun rv μ' => rv = some (0, chN N e v) ∧ Cf μ μ') := by
  have hW := h.1.1
  have hSp := h.2.1.1
  have hC := h.ct
  have hN := h.2.2.2.1
  have h29 : 22 ≤ a := h.2.2.2.2.2
  have hnb := nbN_rng (e := e) (v := v) hN
  unfold chN
  generalize hR : chF (fun p => Pn N e v p % 10000) 100 0 0 (-1) = R
  -- the prices
  have l3 : ∀ (μ2 : zM), Cf μ μ2 → μ2 5 1 = N 1 → (∀ r, 0 ≤ r → r < N 1 → μ2 17 r = hvN N e v r) → ∀ (k : Nat) (p b m : Int) (x8 : V), 0 ≤ p → p + k = 100 → -1 ≤ m ∧ m ≤ 200000 → chF (fun p => Pn N e v p % 10000) k p b m = R → ZE ext (d + 5) n_X2_priceForMostMoney 120 [(1012, 0), (100, a), (0, e), (0, v), (0, nbN N e v), (0, b), (0, m), (0, p), x8] [] σ μ2 (fun rv μ' => rv = some (0, R) ∧ Cf μ μ') := by
    intro μ2 hf hn hh k
    have h2 := h.cf hf
    have mfe : ∀ fe, mf (μ2 17) (puN N) fe (N 1).toNat 0 (nbN N e v) = mf (hvN N e v) (puN N) fe (N 1).toNat 0 (nbN N e v) := by
      intro fe
      refine eq_le (fun M => ?_)
      rw [mf_le, mf_le]
      constructor
      · intro ⟨a1, a2⟩
        exact ⟨a1, fun q x y => by rw [← hh q x (by omega)]; exact a2 q x y⟩
      · intro ⟨a1, a2⟩
        exact ⟨a1, fun q x y => by rw [hh q x (by omega)]; exact a2 q x y⟩
    induction k with
    | zero =>
      intro p b m x8 h0 hk hm hr
      have hr : b = R := hr
      refine ZE.go hW 9999 rfl (by repeat' first | exact True.intro | assumption | apply And.intro | omega) ?_
      refine ZE.b rfl (by omega) (by omega) ?_ ?_ <;> intro g1
      · refine ZE.go hW 9999 rfl (by repeat' first | exact True.intro | assumption | apply And.intro | omega) ?_
        refine ZE.ri rfl rfl ?_
        exact ⟨by rw [hr], hf⟩
      · omega
    | succ k ih =>
      intro p b m x8 h0 hk hm hr
      have hr : (if m < Pn N e v p % 10000 then chF (fun p => Pn N e v p % 10000) k (p + 1) p (Pn N e v p % 10000) else chF (fun p => Pn N e v p % 10000) k (p + 1) b m) = R := hr
      have hfe := wFee_rng (k := N (7 + 6 * v + 0)) (p := p) (by omega)
      have eP := Pn_mf (e := e) (p := p) hN hv
      refine ZE.go hW 9999 rfl (by repeat' first | exact True.intro | assumption | apply And.intro | omega) ?_
      refine ZE.b rfl (by omega) (by omega) ?_ ?_ <;> intro g1
      · omega
      · refine ZE.go hW 9999 rfl (by repeat' first | exact True.intro | assumption | apply And.intro | omega) ?_
        refine ZE.c1 hW rfl rfl (by repeat' first | exact True.intro | assumption | apply And.intro | omega) (Nat.le_of_ble_eq_true rfl) (Nat.le_of_ble_eq_true rfl) (k_c_feeAt (d := d + 2) h2 hv (by omega)) ?_
        refine ZE.go hW 9999 rfl (by repeat' first | exact True.intro | assumption | apply And.intro | omega) ?_
        refine ZE.q0 hW rfl rfl (Nat.le_of_ble_eq_true rfl) (Nat.le_of_ble_eq_true rfl) (k_c_mostAtFee (d := d + 3) h2 hn (fun r x y => by rw [hh r x y]; exact hvN_rng hN) hfe hnb) ?_
        rintro rv9 μ3 ⟨rfl, rfl, y1, y2⟩
        rw [mfe, ← eP] at y1 y2 ⊢
        refine ZE.go hW 9999 rfl (by repeat' first | exact True.intro | assumption | apply And.intro | omega) ?_
        refine ZE.b rfl (by omega) (by omega) ?_ ?_ <;> intro g2
        · refine ZE.go hW 120 rfl (by repeat' first | exact True.intro | assumption | apply And.intro | omega) ?_
          first
            | (rw [if_pos (by omega)] at hr
               exact ih (p + 1) p _ _ (by omega) (by omega) (by omega) hr)
            | (rw [if_neg (by omega)] at hr
               exact ih (p + 1) b m _ (by omega) (by omega) hm hr)
        · refine ZE.go hW 120 rfl (by repeat' first | exact True.intro | assumption | apply And.intro | omega) ?_
          first
            | (rw [if_pos (by omega)] at hr
               exact ih (p + 1) p _ _ (by omega) (by omega) (by omega) hr)
            | (rw [if_neg (by omega)] at hr
               exact ih (p + 1) b m _ (by omega) (by omega) hm hr)
  -- who can have it
  have l2 : ∀ i, 0 ≤ i → i ≤ N 1 → ∀ (μ1 : zM) (x6 x7 x8 : V), Cf μ μ1 → Op μ1 N e (N 1) → (∀ r, 0 ≤ r → r < N 1 → μ1 6 r = s0N N e v r) → (∀ r, 0 ≤ r → r < i → μ1 17 r = hvN N e v r) → ZE ext (d + 5) n_X2_priceForMostMoney 48 [(1012, 0), (100, a), (0, e), (0, v), (0, nbN N e v), (0, i), x6, x7, x8] [] σ μ1 (fun rv μ' => rv = some (0, R) ∧ Cf μ μ') := by
    refine loopU ?_ ?_
    · intro i h0 hi ih μ1 x6 x7 x8 hf hO hs hh
      have h1 := h.cf hf
      have c1 := h1.ct
      have n1 := hO.2.1
      have ri := h1.rt ⟨h0, hi⟩
      have hsr : ∀ r, 0 ≤ s0N N e v r ∧ s0N N e v r < 64 := fun r => (bt_clr (sN_rng hN r) (by omega)).1
      have hC0 : Cn0 μ1 (N 0) (N 1) := by
        refine ⟨⟨hO.1, by omega⟩, ⟨hO.2.1, by omega⟩, fun w p q => ?_, fun r p q => ?_, h1.1.2⟩
        · rw [(hO.2.2 w p q).1]; exact cN_rng hN ⟨p, q⟩
        · rw [hs r p q]; exact hsr r
      have eB : (bB (N 0).toNat (μ1 7) (ex1 (μ1 6) i 0) (N 1).toNat 0 (zshl 1 (N 0) - 1)).1 = (bB (N 0).toNat (cN N) (ex1 (s0N N e v) i 0) (N 1).toNat 0 (zshl 1 (N 0) - 1)).1 := by
        rw [bB_cg (c' := cN N) (s' := ex1 (s0N N e v) i 0) (fun w p q => (hO.2.2 w p (by omega)).1) _ _ _ (fun j p q => ?_)]
        unfold ex1
        rw [hs j p (by omega)]
      have ew : N (43 + 3 * i + 0) = wlN N i := rfl
      have ea : N (43 + 3 * i + 2) = waN N i := rfl
      rw [ew] at ri
      rw [ea] at ri
      refine ZE.go hW 9999 rfl (by repeat' first | exact True.intro | assumption | apply And.intro | omega) ?_
      refine ZE.b rfl (by omega) (by omega) ?_ ?_ <;> intro g1
      · omega
      · refine ZE.go hW 9999 rfl (by repeat' first | exact True.intro | assumption | apply And.intro | omega) ?_
        rw [ri.1.1, ri.1.2.2]
        refine ZE.c0 hW rfl rfl (Nat.le_of_ble_eq_true rfl) (Nat.le_of_ble_eq_true rfl) (k_c_suitsAny (d := d + 2) h1 hO he.1 hv (by omega) (by omega)) ?_
        refine ZE.go hW 9999 rfl (by repeat' first | exact True.intro | assumption | apply And.intro | omega) ?_
        refine ZE.bp rfl rfl ?_ ?_ <;> intro g2
        · refine ZE.go hW 48 rfl (by repeat' first | exact True.intro | assumption | apply And.intro | omega) ?_
          first
            | (refine ih _ _ _ _ (fun k j p q => ?_) ⟨?_, ?_, fun w p q => ?_⟩ (fun r p q => ?_) (fun r p q => ?_)
               · rw [up_n (by omega), hf2 k j (by omega)]; exact hf k j p q
               · rw [up_n (by omega), hf2 _ _ (by omega)]; exact hO.1
               · rw [up_n (by omega), hf2 _ _ (by omega)]; exact hO.2.1
               · rw [up_n (by omega), hf2 _ _ (by omega), up_n (by omega), hf2 _ _ (by omega)]; exact hO.2.2 w p q
               · rw [up_n (by omega), hf2 _ _ (by omega)]; exact hs r p q
               · by_cases er : r = i
                 · rw [up_e rfl er, er, hvN_t g2]
                 · rw [up_n (by omega), hf2 _ _ (by omega)]; exact hh r p (by omega))
            | (refine ih _ _ _ _ (hf.up (by omega)) ⟨?_, ?_, fun w p q => ?_⟩ (fun r p q => ?_) (fun r p q => ?_)
               · rw [up_n (by omega)]; exact hO.1
               · rw [up_n (by omega)]; exact hO.2.1
               · rw [up_n (by omega), up_n (by omega)]; exact hO.2.2 w p q
               · rw [up_n (by omega)]; exact hs r p q
               · by_cases er : r = i
                 · rw [up_e rfl er, er, hvN_f g2]
                 · rw [up_n (by omega)]; exact hh r p (by omega))
        · refine ZE.go hW 9999 rfl (by repeat' first | exact True.intro | assumption | apply And.intro | omega) ?_
          refine ZE.q0 hW rfl rfl (Nat.le_of_ble_eq_true rfl) (Nat.le_of_ble_eq_true rfl) (k_c_solveWithout (d := d + 1) hW hC0 ⟨h0, hi⟩) ?_
          rintro rv9 μ2 ⟨rfl, hf2⟩
          rw [eB]
          refine ZE.go hW 48 rfl (by repeat' first | exact True.intro | assumption | apply And.intro | omega) ?_
          first
            | (refine ih _ _ _ _ (fun k j p q => ?_) ⟨?_, ?_, fun w p q => ?_⟩ (fun r p q => ?_) (fun r p q => ?_)
               · rw [up_n (by omega), hf2 k j (by omega)]; exact hf k j p q
               · rw [up_n (by omega), hf2 _ _ (by omega)]; exact hO.1
               · rw [up_n (by omega), hf2 _ _ (by omega)]; exact hO.2.1
               · rw [up_n (by omega), hf2 _ _ (by omega), up_n (by omega), hf2 _ _ (by omega)]; exact hO.2.2 w p q
               · rw [up_n (by omega), hf2 _ _ (by omega)]; exact hs r p q
               · by_cases er : r = i
                 · rw [up_e rfl er, er, hvN_t g2]
                 · rw [up_n (by omega), hf2 _ _ (by omega)]; exact hh r p (by omega))
            | (refine ih _ _ _ _ (hf.up (by omega)) ⟨?_, ?_, fun w p q => ?_⟩ (fun r p q => ?_) (fun r p q => ?_)
               · rw [up_n (by omega)]; exact hO.1
               · rw [up_n (by omega)]; exact hO.2.1
               · rw [up_n (by omega), up_n (by omega)]; exact hO.2.2 w p q
               · rw [up_n (by omega)]; exact hs r p q
               · by_cases er : r = i
                 · rw [up_e rfl er, er, hvN_f g2]
                 · rw [up_n (by omega)]; exact hh r p (by omega))
    · intro μ1 x6 x7 x8 hf hO hs hh
      have n1 := hO.2.1
      refine ZE.go hW 9999 rfl (by repeat' first | exact True.intro | assumption | apply And.intro | omega) ?_
      refine ZE.b rfl (by omega) (by omega) ?_ ?_ <;> intro g1
      · refine ZE.go hW 120 rfl (by repeat' first | exact True.intro | assumption | apply And.intro | omega) ?_
        exact l3 μ1 hf n1 hh 100 0 0 (-1) _ (by omega) (by omega) (by omega) hR
      · omega
  have l1 : ∀ i, 0 ≤ i → i ≤ N 1 → ∀ (μ1 : zM), Cf μ μ1 → Op μ1 N e (N 1) → (∀ r, 0 ≤ r → r < N 1 → μ1 6 r = if r < i then s0N N e v r else sN N e r) → ZE ext (d + 5) n_X2_priceForMostMoney 9 [(1012, 0), (100, a), (0, e), (0, v), (0, i), (4, 0), (4, 0), (4, 0), (4, 0)] [] σ μ1 (fun rv μ' => rv = some (0, R) ∧ Cf μ μ') := by
    refine loopU ?_ ?_
    · intro i h0 hi ih μ1 hf hO hs
      have n1 := hO.2.1
      have si := hs i h0 hi
      rw [if_neg (by omega)] at si
      refine ZE.go hW 9999 rfl (by repeat' first | exact True.intro | assumption | apply And.intro | omega) ?_
      refine ZE.b rfl (by omega) (by omega) ?_ ?_ <;> intro g1
      · omega
      · refine ZE.go hW 9 rfl (by repeat' first | exact True.intro | assumption | apply And.intro | omega) ?_
        refine ih _ (hf.up (by omega)) ⟨?_, ?_, fun w p q => ?_⟩ (fun r p q => ?_)
        · rw [up_n (by omega)]; exact hO.1
        · rw [up_n (by omega)]; exact hO.2.1
        · rw [up_n (by omega), up_n (by omega)]; exact hO.2.2 w p q
        · by_cases er : r = i
          · rw [up_e rfl er, er, if_pos (by omega), si]
            rfl
          · rw [up_n (by omega), hs r p q]
            by_cases x : r < i
            · rw [if_pos x, if_pos (by omega)]
            · rw [if_neg x, if_neg (by omega)]
    · intro μ1 hf hO hs
      have n1 := hO.2.1
      have h1 := h.cf hf
      have hs0 : ∀ r, 0 ≤ r → r < N 1 → μ1 6 r = s0N N e v r := fun r p q => by rw [hs r p q, if_pos q]
      have hsr : ∀ r, 0 ≤ s0N N e v r ∧ s0N N e v r < 64 := fun r => (bt_clr (sN_rng hN r) (by omega)).1
      have hC0 : Cn0 μ1 (N 0) (N 1) := by
        refine ⟨⟨hO.1, by omega⟩, ⟨hO.2.1, by omega⟩, fun w p q => ?_, fun r p q => ?_, h1.1.2⟩
        · rw [(hO.2.2 w p q).1]; exact cN_rng hN ⟨p, q⟩
        · rw [hs0 r p q]; exact hsr r
      have eB : (cB μ1 (N 0) (N 1).toNat 0 (zshl 1 (N 0) - 1)).1 = nbN N e v := by
        unfold cB nbN
        rw [bB_cg (c' := cN N) (s' := s0N N e v) (fun w p q => (hO.2.2 w p (by omega)).1) _ _ _ (fun j p q => hs0 j p (by omega))]
      refine ZE.go hW 9999 rfl (by repeat' first | exact True.intro | assumption | apply And.intro | omega) ?_
      refine ZE.b rfl (by omega) (by omega) ?_ ?_ <;> intro g1
      · refine ZE.go hW 9999 rfl (by repeat' first | exact True.intro | assumption | apply And.intro | omega) ?_
        refine ZE.q0 hW rfl rfl (Nat.le_of_ble_eq_true rfl) (Nat.le_of_ble_eq_true rfl) (k_c_solve (d := d + 2) hW hC0) ?_
        rintro rv9 μ2 ⟨rfl, hf2, hT⟩
        rw [eB]
        refine ZE.go hW 48 rfl (by repeat' first | exact True.intro | assumption | apply And.intro | omega) ?_
        refine l2 0 (by omega) (by omega) μ2 _ _ _ (fun k j p q => ?_) ⟨?_, ?_, fun w p q => ?_⟩ (fun r p q => ?_) (fun r p q => by omega)
        · rw [hf2 k j (by omega)]; exact hf k j p q
        · rw [hf2 _ _ (by omega)]; exact hO.1
        · rw [hf2 _ _ (by omega)]; exact hO.2.1
        · rw [hf2 _ _ (by omega), hf2 _ _ (by omega)]; exact hO.2.2 w p q
        · rw [hf2 _ _ (by omega)]; exact hs0 r p q
      · omega
  refine ZQ.i rfl ?_
  refine ZE.go hW 9999 rfl (by repeat' first | exact True.intro | assumption | apply And.intro | omega) ?_
  refine ZE.q0 hW rfl rfl (Nat.le_of_ble_eq_true rfl) (Nat.le_of_ble_eq_true rfl) (k_c_open (d := d) h he) ?_
  rintro rv9 μ1 ⟨rfl, hf, hO⟩
  refine ZE.go hW 9 rfl (by repeat' first | exact True.intro | assumption | apply And.intro | omega) ?_
  refine l1 0 (by omega) (by omega) μ1 hf hO.1 (fun r p q => ?_)
  rw [if_neg (by omega)]; exact hO.2 r p q
end
