theorem ZM.of {ext : List xC} {d mi : Nat} {vs : List V} {σ : zSh} {μ : zM} {r : Option V} {μ' : zM} (h : EvM ext d mi (vs.map vv) (hz σ μ) (r.map vv) (hz σ μ')) : ZM ext d mi vs σ μ r μ' := by
  unfold ZM Zv
  rw [zent_map]
  exact h
def wSh (k w e : Int) : Int := if k = 1 then (w + 2 * e) % 6 else if k = 2 then (if (w + e) % 6 = 1 then 0 else (w + e) % 6) else if k = 3 then w else if k = 5 then (if e % 2 = 1 then 5 else w) else (w + e) % 6
def wFee (k p : Int) : Int := if k = 2 then 2 * p else if k = 3 then p + 10 else if k = 4 then p / 2 else p
def wFit (k s w : Int) : Prop := k = 4 ∨ s ≤ w
theorem wSh_rng {k w e : Int} (hk : 0 ≤ w ∧ w < 6) (he : 0 ≤ e) : 0 ≤ wSh k w e ∧ wSh k w e < 6 := by
  unfold wSh
  split
  · omega
  · split
    · split <;> omega
    · split
      · omega
      · split
        · split <;> omega
        · omega
theorem wFee_rng {k p : Int} (hp : 0 ≤ p ∧ p < 100) : 0 ≤ wFee k p ∧ wFee k p < 200 := by
  unfold wFee
  split
  · omega
  · split
    · omega
    · split <;> omega
theorem vvN (n : Nat) : vv (0, (n : Int)) = .int (nI n) := by
  rw [vv_i, Int32_ofInt_nat]
  rfl
theorem kobj {σ : zSh} {μ : zM} {p k : Int} (hS : Sp σ p) (hk : 0 ≤ k ∧ k < 6) : (hz σ μ)[(p + 2 + k).toNat]? = some (zKt k, []) := by
  rw [hz_at (hS.2.2.2 k hk.1 hk.2)]
  rfl
theorem vvK (x : Int) : vv (30, x) = .ref x.toNat := rfl
theorem kk_showing {ext : List xC} {d : Nat} {σ : zSh} {μ : zM} {q k w e : Int} (hS : Sp σ q) (hk : 0 ≤ k ∧ k < 6) (hw : 0 ≤ w ∧ w < 6) (he : 0 ≤ e ∧ e < 1000) :
    ∃ mj, xpairs [1, n_X7_showing, 3, n_X3_showing, 4, n_X4_showing, 6, n_X6_showing, 7, n_X7_showing, 10, n_X10_showing] (zKt k) = some mj ∧ 3 ≤ xmax mj ∧ ZM ext (d + 2) mj [(30, q + 2 + k), (0, w), (0, e)] σ μ (some (0, wSh k w e)) μ := by
  obtain ⟨wn, rfl⟩ := Int.eq_ofNat_of_zero_le hw.1
  obtain ⟨en, rfl⟩ := Int.eq_ofNat_of_zero_le he.1
  have ho := kobj (μ := μ) hS hk
  have : k = 0 ∨ k = 1 ∨ k = 2 ∨ k = 3 ∨ k = 4 ∨ k = 5 := by omega
  rcases this with rfl | rfl | rfl | rfl | rfl | rfl
  · refine ⟨_, rfl, Nat.le_of_ble_eq_true rfl, ZM.of ?_⟩
    show EvM _ _ _ [vv (30, q + 2 + 0), vv (0, (wn : Int)), vv (0, (en : Int))] _ (some (vv (0, wSh 0 wn en))) _
    rw [show wSh 0 wn en = ((wn + en) % 6 : Nat) by simp [wSh], vvN, vvN, vvN]
    exact c_Lake_showing (d := d + 1) (by omega) (by omega)
  · refine ⟨_, rfl, Nat.le_of_ble_eq_true rfl, ZM.of ?_⟩
    show EvM _ _ _ [vv (30, q + 2 + 1), vv (0, (wn : Int)), vv (0, (en : Int))] _ (some (vv (0, wSh 1 wn en))) _
    rw [show wSh 1 wn en = ((wn + 2 * en) % 6 : Nat) by simp [wSh], vvN, vvN, vvN]
    exact c_Street_showing (d := d + 1) (by omega) (by omega)
  · refine ⟨_, rfl, Nat.le_of_ble_eq_true rfl, ZM.of ?_⟩
    show EvM _ _ _ [vv (30, q + 2 + 2), vv (0, (wn : Int)), vv (0, (en : Int))] _ (some (vv (0, wSh 2 wn en))) _
    rw [show wSh 2 wn en = ((if (wn + en) % 6 = 1 then 0 else (wn + en) % 6 : Nat) : Int) by
      show (if ((wn : Int) + en) % 6 = 1 then 0 else ((wn : Int) + en) % 6) = _
      split <;> split <;> omega, vvN, vvN, vvN]
    exact c_Fire_showing ho (by omega) (by omega)
  · refine ⟨_, rfl, Nat.le_of_ble_eq_true rfl, ZM.of ?_⟩
    exact c_Kitchen_showing
  · refine ⟨_, rfl, Nat.le_of_ble_eq_true rfl, ZM.of ?_⟩
    show EvM _ _ _ [vv (30, q + 2 + 4), vv (0, (wn : Int)), vv (0, (en : Int))] _ (some (vv (0, wSh 4 wn en))) _
    rw [show wSh 4 wn en = ((wn + en) % 6 : Nat) by simp [wSh], vvN, vvN, vvN]
    exact c_Lake_showing (d := d + 1) (by omega) (by omega)
  · refine ⟨_, rfl, Nat.le_of_ble_eq_true rfl, ZM.of ?_⟩
    show EvM _ _ _ [vv (30, q + 2 + 5), vv (0, (wn : Int)), vv (0, (en : Int))] _ (some (vv (0, wSh 5 wn en))) _
    rw [show wSh 5 wn en = ((if en % 2 = 1 then 5 else wn : Nat) : Int) by
      show (if (en : Int) % 2 = 1 then 5 else (wn : Int)) = _
      split <;> split <;> omega, vvN, vvN, vvN]
    exact c_Fogged_showing (d := d + 1) ho (by omega)
theorem kk_fee {ext : List xC} {d : Nat} {σ : zSh} {μ : zM} {q k p : Int} (hS : Sp σ q) (hk : 0 ≤ k ∧ k < 6) (hp : 0 ≤ p ∧ p < 100) :
    ∃ mj, xpairs [1, n_X1_fee, 3, n_X3_fee, 4, n_X4_fee, 6, n_X6_fee, 7, n_X7_fee, 10, n_X7_fee] (zKt k) = some mj ∧ 2 ≤ xmax mj ∧ ZM ext (d + 1) mj [(30, q + 2 + k), (0, p)] σ μ (some (0, wFee k p)) μ := by
  obtain ⟨pn, rfl⟩ := Int.eq_ofNat_of_zero_le hp.1
  have ho := kobj (μ := μ) hS hk
  have : k = 0 ∨ k = 1 ∨ k = 2 ∨ k = 3 ∨ k = 4 ∨ k = 5 := by omega
  rcases this with rfl | rfl | rfl | rfl | rfl | rfl
  · exact ⟨_, rfl, Nat.le_of_ble_eq_true rfl, ZM.of c_Lake_fee⟩
  · exact ⟨_, rfl, Nat.le_of_ble_eq_true rfl, ZM.of c_Lake_fee⟩
  · refine ⟨_, rfl, Nat.le_of_ble_eq_true rfl, ZM.of ?_⟩
    show EvM _ _ _ [vv (30, q + 2 + 2), vv (0, (pn : Int))] _ (some (vv (0, wFee 2 pn))) _
    rw [show wFee 2 pn = (2 * pn : Nat) by simp [wFee], vvN, vvN]
    exact c_Fire_fee ho
  · refine ⟨_, rfl, Nat.le_of_ble_eq_true rfl, ZM.of ?_⟩
    show EvM _ _ _ [vv (30, q + 2 + 3), vv (0, (pn : Int))] _ (some (vv (0, wFee 3 pn))) _
    rw [show wFee 3 pn = (pn + 10 : Nat) by simp [wFee], vvN, vvN]
    exact c_Kitchen_fee ho
  · refine ⟨_, rfl, Nat.le_of_ble_eq_true rfl, ZM.of ?_⟩
    show EvM _ _ _ [vv (30, q + 2 + 4), vv (0, (pn : Int))] _ (some (vv (0, wFee 4 pn))) _
    rw [show wFee 4 pn = (pn / 2 : Nat) by simp [wFee], vvN, vvN]
    exact c_Bricks_fee ho (by omega)
  · exact ⟨_, rfl, Nat.le_of_ble_eq_true rfl, ZM.of c_Fogged_fee⟩
theorem bI_bz {b : Bool} {P : Prop} (h : b = true ↔ P) : Value.int (bI b) = vv (0, bz P) := by
  cases b with
  | true => rw [bz_t (h.mp rfl)]; rfl
  | false => rw [bz_f (fun q => Bool.noConfusion (h.mpr q))]; rfl
theorem kk_fits {ext : List xC} {d : Nat} {σ : zSh} {μ : zM} {q k s w : Int} (hS : Sp σ q) (hk : 0 ≤ k ∧ k < 6) (hs : 0 ≤ s ∧ s < 100) (hw : 0 ≤ w ∧ w < 100) :
    ∃ mj, xpairs [1, n_X1_fits, 3, n_X7_fits, 4, n_X7_fits, 6, n_X7_fits, 7, n_X7_fits, 10, n_X7_fits] (zKt k) = some mj ∧ 3 ≤ xmax mj ∧ ZM ext d mj [(30, q + 2 + k), (0, s), (0, w)] σ μ (some (0, bz (wFit k s w))) μ := by
  obtain ⟨sn, rfl⟩ := Int.eq_ofNat_of_zero_le hs.1
  obtain ⟨wn, rfl⟩ := Int.eq_ofNat_of_zero_le hw.1
  have lake : ∀ k : Int, k ≠ 4 → ZM ext d n_X7_fits [(30, q + 2 + k), (0, (sn : Int)), (0, (wn : Int))] σ μ (some (0, bz (wFit k sn wn))) μ := by
    intro k hk4
    refine ZM.of ?_
    show EvM _ _ _ [vv (30, q + 2 + k), vv (0, (sn : Int)), vv (0, (wn : Int))] _ (some (vv (0, bz (wFit k sn wn)))) _
    rw [vvN, vvN, ← bI_bz (b := decide (sn ≤ wn)) (by unfold wFit; rw [decide_eq_true_iff]; omega)]
    exact c_Lake_fits (by omega) (by omega)
  have : k = 0 ∨ k = 1 ∨ k = 2 ∨ k = 3 ∨ k = 4 ∨ k = 5 := by omega
  rcases this with rfl | rfl | rfl | rfl | rfl | rfl
  · exact ⟨_, rfl, Nat.le_of_ble_eq_true rfl, lake _ (by decide)⟩
  · exact ⟨_, rfl, Nat.le_of_ble_eq_true rfl, lake _ (by decide)⟩
  · exact ⟨_, rfl, Nat.le_of_ble_eq_true rfl, lake _ (by decide)⟩
  · exact ⟨_, rfl, Nat.le_of_ble_eq_true rfl, lake _ (by decide)⟩
  · refine ⟨_, rfl, Nat.le_of_ble_eq_true rfl, ZM.of ?_⟩
    rw [bz_t (P := wFit 4 sn wn) (Or.inl rfl)]
    exact c_Bricks_fits
  · exact ⟨_, rfl, Nat.le_of_ble_eq_true rfl, lake _ (by decide)⟩
/-- a kind's method is called -/
theorem Zv.ck {ext : List xC} {σ : zSh} {d mi pc nx na mj idx : Nat} {tb : List Nat} {L st rest : List V} {μ μ1 : zM} {q k : Int} {rb : Option V} {r : Option Value} {h' : xH} (hf : xfind (xmt mi).2 pc = some (.invokevirtual idx, nx, na :: tb)) (hd : st.drop na = (30, q + 2 + k) :: rest) (hS : Sp σ q) (hk : 0 ≤ k ∧ k < 6) (h8 : zcat rest ≤ 8)
    (kc : ∃ mj, xpairs tb (zKt k) = some mj ∧ (zspread ((30, q + 2 + k) :: (st.take na).reverse)).length ≤ xmax mj ∧ ZM ext d mj ((30, q + 2 + k) :: (st.take na).reverse) σ μ rb μ1) (kk : Zv ext (d + 1) mi nx L (rb.toList ++ rest) σ μ1 r h') : Zv ext (d + 1) mi pc L st σ μ r h' := by
  obtain ⟨mj, hx, hl, kc⟩ := kc
  refine Ev.c hf (mj := mj) (vs := ((30, q + 2 + k) :: (st.take na).reverse).map vv) (rest := rest.map vv) ?_ (by rw [zcat_ok]; exact h8) (by rw [← zspread_map, List.length_map]; exact hl) kc.ev ?_
  · show (match (st.map vv).drop na with
      | v :: r => (xget ext (hz σ μ) v).bind fun c => (xpairs tb c.1).bind fun mi => some (mi, v :: ((st.map vv).take na).reverse, r)
      | _ => none) = _
    rw [← List.map_drop, hd, List.map_cons, vvK]
    show ((hz σ μ)[(q + 2 + k).toNat]?).bind _ = _
    rw [kobj hS hk, Option.bind_some]
    show (xpairs tb (zKt k)).bind _ = _
    rw [hx, Option.bind_some, List.map_cons, vvK, List.map_reverse, List.map_take]
  · have k2 : Ev ext (d + 1) mi nx (L.map vv) ((rb.toList ++ rest).map vv) (hz σ μ1) r h' := kk
    rw [List.map_append] at k2
    cases rb with
    | none => exact k2
    | some v => exact k2
