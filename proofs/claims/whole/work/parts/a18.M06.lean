def rmA (N : Int → Int) : Int → Int := fun j => if 61 ≤ j ∧ j < 94 then N (j + 3) else if j = 4 then 11 else N j
def rmB (N : Int → Int) (v r : Int) : Int → Int := fun j => if j = 61 + 3 * N 4 then v else if j = 61 + 3 * N 4 + 1 then r else if j = 61 + 3 * N 4 + 2 then N 2 else if j = 4 then N 4 + 1 else N j
def rmN (N : Int → Int) (v r : Int) : Int → Int := if N 4 = 12 then rmB (rmA N) v r else rmB N v r
/-- a view is let to a renter for c -/
def ltN (N : Int → Int) (v r c : Int) : Int → Int := fun j => if j = 7 + 6 * v + 4 then r else if j = 43 + 3 * r + 1 then N (43 + 3 * r + 1) - c else if j = 3 then N 3 + c else N j
def ngN (N : Int → Int) : Int → Int := fun j => if j = 2 then N 2 + 1 else if (11 ≤ j ∧ j < 11 + 6 * N 0) ∧ (j - 11) % 6 = 0 then -1 else N j
def unN (N : Int → Int) : Int → Int := fun j =>
  let f := 115 + 51 * (N 6 - 1)
  if j = 6 then N 6 - 1 else if j = 2 then N (f + 12) else if j = 3 then N (f + 13) else if j = 4 then N (f + 14)
  else if (44 ≤ j ∧ j < 62) ∧ (j - 44) % 3 = 0 ∧ j < 61 then N (f + (j - 44) / 3)
  else if (11 ≤ j ∧ j < 43) ∧ (j - 11) % 6 = 0 then N (f + 6 + (j - 11) / 6)
  else if 61 ≤ j ∧ j < 97 then N (f + 15 + (j - 61)) else N j
section
variable {ext : List xC} {σ : zSh} {d : Nat} {μ : zM}
set_option maxRecDepth 100000 in set_option maxHeartbeats 4000000 in theorem k_m_rememberB {μ1 : zM} {v r : Int} {l3 : V} (hW : Wl σ) (h4 : 0 ≤ μ1 169 4 ∧ μ1 169 4 ≤ 11) : ZE ext d n_X12_remember 53 [(1161, 0), (0, v), (0, r), l3] [] σ μ1 (fun rv μ' => rv = none ∧ μ' 169 = rmB (μ1 169) v r ∧ Nx μ1 μ') := by
  refine ZE.go hW 9999 rfl (by and_intros <;> first | trivial | assumption | omega) ?_
  refine ZE.rv rfl rfl ?_
  refine ⟨rfl, ?_, Nx.rfl'.up.up.up.up⟩
  funext j
  simp only [up162]
  unfold rmB
  rw [if_neg (show ¬ 2 = 61 + 3 * μ1 169 4 + 1 by omega), if_neg (show ¬ 2 = 61 + 3 * μ1 169 4 by omega)]
  rw [if_neg (show ¬ 4 = 61 + 3 * μ1 169 4 + 2 by omega), if_neg (show ¬ 4 = 61 + 3 * μ1 169 4 + 1 by omega), if_neg (show ¬ 4 = 61 + 3 * μ1 169 4 by omega)]
  repeat' split
  all_goals first
    | rfl
    | (exfalso; omega)
set_option maxRecDepth 100000 in set_option maxHeartbeats 4000000 in theorem k_m_remember {v r : Int} (hW : Wl σ) (h4 : 0 ≤ μ 169 4 ∧ μ 169 4 ≤ 12) : ZQ ext d n_X12_remember [(1161, 0), (0, v), (0, r)] σ μ (fun rv μ' => rv = none ∧ μ' 169 = rmN (μ 169) v r ∧ Nx μ μ') := by
  refine ZQ.i rfl ?_
  refine ZE.go hW 9999 rfl (by and_intros <;> first | trivial | assumption | omega) ?_
  refine ZE.b rfl (by omega) (by omega) ?_ ?_ <;> intro h8
  · have e : rmN (μ 169) v r = rmB (μ 169) v r := by unfold rmN; rw [if_neg h8]
    rw [e]
    exact k_m_rememberB hW (by omega)
  · have e : rmN (μ 169) v r = rmB (rmA (μ 169)) v r := by unfold rmN; rw [if_pos h8]
    rw [e]
    refine ZE.go hW 13 rfl (by and_intros <;> first | trivial | assumption | omega) ?_
    refine loopU (n := 33) (G := fun i => ∀ μ2, (Nx μ μ2 ∧ ∀ j, μ2 169 j = if 61 ≤ j ∧ j < 61 + i then μ 169 (j + 3) else μ 169 j) → ZE ext d n_X12_remember 13 [(1161, 0), (0, v), (0, r), (0, i)] [] σ μ2 _) ?_ ?_ 0 (by omega) (by omega) μ ⟨Nx.rfl', ?_⟩
    · intro i h0 hi ih μ2 ⟨hx, hn⟩
      refine ZE.go hW 9999 rfl (by and_intros <;> first | trivial | assumption | omega) ?_
      refine ZE.b rfl (by omega) (by omega) ?_ ?_ <;> intro hb
      · omega
      · refine ZE.go hW 13 rfl (by and_intros <;> first | trivial | assumption | omega) ?_
        refine ih _ ⟨hx.up, ?_⟩
        intro j
        have r1 : μ2 169 (61 + i + 3) = μ 169 (61 + i + 3) := by rw [hn, if_neg (by omega)]
        rw [up162, r1, hn j]
        repeat' split
        all_goals first
          | rfl
          | (exfalso; omega)
          | (congr 1; omega)
    · intro μ2 ⟨hx, hn⟩
      refine ZE.go hW 9999 rfl (by and_intros <;> first | trivial | assumption | omega) ?_
      refine ZE.b rfl (by omega) (by omega) ?_ ?_ <;> intro hb
      · refine ZE.go hW 53 rfl (by and_intros <;> first | trivial | assumption | omega) ?_
        have eA : up μ2 169 4 11 169 = rmA (μ 169) := by
          funext j
          rw [up162, hn j]
          unfold rmA
          repeat' split
          all_goals first
            | rfl
            | (exfalso; omega)
        have h := k_m_rememberB (ext := ext) (d := d) (v := v) (r := r) (μ1 := up μ2 169 4 11) (l3 := (0, 33)) hW (by rw [up162, if_pos rfl]; omega)
        rw [eA] at h
        obtain ⟨rv, μ3, h1, h2, h3, h4⟩ := h
        exact ⟨rv, μ3, h1, h2, h3, hx.up.trans h4⟩
      · omega
    · intro j
      rw [if_neg (by omega)]
theorem kpN_lo {N : Int → Int} {j : Int} (h6 : 0 ≤ N 6 ∧ N 6 ≤ 8) (hj : j < 115) (hj6 : j ≠ 6) : kpN N j = N j := by
  unfold kpN
  split
  · have e : kpA N 6 = 7 := rfl
    unfold kpB
    rw [e]
    rw [if_neg (by omega), if_neg (by omega), if_neg (by omega), if_neg (by omega), if_neg (by omega), if_neg (by omega), if_neg (by omega)]
    unfold kpA
    rw [if_neg (by omega), if_neg (by omega)]
  · unfold kpB
    rw [if_neg (by omega), if_neg (by omega), if_neg (by omega), if_neg (by omega), if_neg (by omega), if_neg (by omega), if_neg (by omega)]
set_option maxRecDepth 100000 in set_option maxHeartbeats 4000000 in theorem k_m_night {t : Int} (hW : Wl σ) (hN : NI (μ 169) t) (ht : t < 100000) : ZQ ext (d + 2) n_X12_night [(1161, 0)] σ μ (fun rv μ' => rv = some (0, μ 169 2 + 1) ∧ μ' 169 = ngN (kpN (μ 169)) ∧ Nx μ μ') := by
  obtain ⟨⟨h1, h2, h3, h4⟩, hV, hR, hD, hB, hP⟩ := hN
  have k0 := kpN_lo (N := μ 169) (j := 0) h4 (by omega) (by omega)
  have k2 := kpN_lo (N := μ 169) (j := 2) h4 (by omega) (by omega)
  have hev : 0 ≤ μ 169 2 ∧ μ 169 2 ≤ t := hB.1
  refine ZQ.i rfl ?_
  refine ZE.go hW 9999 rfl (by and_intros <;> first | trivial | assumption | omega) ?_
  refine ZE.q0 hW rfl rfl (Nat.le_of_ble_eq_true rfl) (Nat.le_of_ble_eq_true rfl) (k_m_keep hW h4) ?_
  rintro rv9 μ9 ⟨rfl, e1, hx1⟩
  refine ZE.go hW 6 rfl (by and_intros <;> first | trivial | assumption | omega) ?_
  have n0 := congrFun e1 0
  refine loopU (n := μ 169 0) (G := fun i => ∀ μ2, (Nx μ9 μ2 ∧ ∀ j, μ2 169 j = if (11 ≤ j ∧ j < 11 + 6 * i) ∧ (j - 11) % 6 = 0 then -1 else kpN (μ 169) j) → ZE ext (d + 2) n_X12_night 6 [(1161, 0), (0, i)] [] σ μ2 _) ?_ ?_ 0 (by omega) (by omega) μ9 ⟨Nx.rfl', ?_⟩
  · intro i h0 hi ih μ2 ⟨hx, hn⟩
    have r0 : μ2 169 0 = μ 169 0 := by rw [hn, if_neg (by omega), k0]
    refine ZE.go hW 9999 rfl (by and_intros <;> first | trivial | assumption | omega) ?_
    refine ZE.b rfl (by omega) (by omega) ?_ ?_ <;> intro hb
    · omega
    · refine ZE.go hW 6 rfl (by and_intros <;> first | trivial | assumption | omega) ?_
      refine ih _ ⟨hx.up, ?_⟩
      intro j
      rw [up162, hn j]
      repeat' split
      all_goals first
        | rfl
        | (exfalso; omega)
  · intro μ2 ⟨hx, hn⟩
    have r0 : μ2 169 0 = μ 169 0 := by rw [hn, if_neg (by omega), k0]
    have r2 : μ2 169 2 = μ 169 2 := by rw [hn, if_neg (by omega), k2]
    refine ZE.go hW 9999 rfl (by and_intros <;> first | trivial | assumption | omega) ?_
    refine ZE.b rfl (by omega) (by omega) ?_ ?_ <;> intro hb
    · refine ZE.go hW 9999 rfl (by and_intros <;> first | trivial | assumption | omega) ?_
      refine ZE.ri rfl rfl ?_
      refine ⟨?_, ?_, (hx1.trans hx).up⟩
      · rw [up162, if_pos rfl, r2]
      · funext j
        rw [up162, r2, hn j]
        unfold ngN
        rw [k0, k2]
        repeat' split
        all_goals first
          | rfl
          | (exfalso; omega)
    · omega
  · intro j
    rw [if_neg (by omega), e1]
set_option maxRecDepth 100000 in set_option maxHeartbeats 4000000 in theorem k_m_undo {t : Int} (hW : Wl σ) (hN : NI (μ 169) t) : ZQ ext (d + 2) n_X12_undo [(1161, 0)] σ μ (fun rv μ' => (μ 169 6 = 0 → rv = some (0, -3) ∧ μ' = up μ 172 1 (μ 172 1 + 1)) ∧ (μ 169 6 ≠ 0 → rv = some (0, unN (μ 169) 3) ∧ μ' 169 = unN (μ 169) ∧ Nx μ μ')) := by
  obtain ⟨⟨h1, h2, h3, h4⟩, hV, hR, hD, hB, hP⟩ := hN
  refine ZQ.i rfl ?_
  refine ZE.go hW 9999 rfl (by and_intros <;> first | trivial | assumption | omega) ?_
  refine ZE.b0 rfl (by omega) ?_ ?_ <;> intro h6
  · refine ZE.go hW 42 rfl (by and_intros <;> first | trivial | assumption | omega) ?_
    have e6 : up μ 169 6 (μ 169 6 - 1) 169 6 = μ 169 6 - 1 := by rw [up162, if_pos rfl]
    rw [e6]
    generalize hf : 115 + 51 * (μ 169 6 - 1) = f
    have hbase : ∀ j, up μ 169 6 (μ 169 6 - 1) 169 j = if j = 6 then μ 169 6 - 1 else μ 169 j := fun j => up162
    refine loopU (n := 6) (G := fun i => ∀ μ2, (Nx μ μ2 ∧ ∀ j, μ2 169 j = if j = 6 then μ 169 6 - 1 else if (44 ≤ j ∧ j < 44 + 3 * i) ∧ (j - 44) % 3 = 0 then μ 169 (f + (j - 44) / 3) else if (11 ≤ j ∧ j < 11 + 6 * i) ∧ (j - 11) % 6 = 0 then μ 169 (f + 6 + (j - 11) / 6) else μ 169 j) → ZE ext (d + 2) n_X12_undo 42 [(1161, 0), (0, f), (0, i)] [] σ μ2 _) ?_ ?_ 0 (by omega) (by omega) _ ⟨Nx.rfl'.up, ?_⟩
    · intro i h0 hi ih μ2 ⟨hx, hn⟩
      refine ZE.go hW 9999 rfl (by and_intros <;> first | trivial | assumption | omega) ?_
      refine ZE.b rfl (by omega) (by omega) ?_ ?_ <;> intro hb
      · omega
      · refine ZE.go hW 42 rfl (by and_intros <;> first | trivial | assumption | omega) ?_
        refine ih _ ⟨hx.up.up, ?_⟩
        intro j
        have r1 : μ2 169 (f + i) = μ 169 (f + i) := by rw [hn, if_neg (by omega), if_neg (by omega), if_neg (by omega)]
        have r2 : μ2 169 (f + 6 + i) = μ 169 (f + 6 + i) := by rw [hn, if_neg (by omega), if_neg (by omega), if_neg (by omega)]
        rw [up162, up162, up162, r1, r2, hn j, if_neg (show ¬ f + 6 + i = 43 + 3 * i + 1 by omega)]
        repeat' split
        all_goals first
          | rfl
          | (exfalso; omega)
          | (congr 1; omega)
    · intro μ2 ⟨hx, hn⟩
      refine ZE.go hW 9999 rfl (by and_intros <;> first | trivial | assumption | omega) ?_
      refine ZE.b rfl (by omega) (by omega) ?_ ?_ <;> intro hb
      · refine ZE.go hW 147 rfl (by and_intros <;> first | trivial | assumption | omega) ?_
        refine loopU (n := 36) (G := fun i => ∀ μ3, (Nx μ μ3 ∧ ∀ j, μ3 169 j = if j = 6 then μ 169 6 - 1 else if j = 2 then μ 169 (f + 12) else if j = 3 then μ 169 (f + 13) else if j = 4 then μ 169 (f + 14) else if (44 ≤ j ∧ j < 62) ∧ (j - 44) % 3 = 0 ∧ j < 61 then μ 169 (f + (j - 44) / 3) else if (11 ≤ j ∧ j < 43) ∧ (j - 11) % 6 = 0 then μ 169 (f + 6 + (j - 11) / 6) else if 61 ≤ j ∧ j < 61 + i then μ 169 (f + 15 + (j - 61)) else μ 169 j) → ZE ext (d + 2) n_X12_undo 147 [(1161, 0), (0, f), (0, i)] [] σ μ3 _) ?_ ?_ 0 (by omega) (by omega) _ ⟨hx.up.up.up, ?_⟩
        · intro i h0 hi ih μ3 ⟨hx3, hn3⟩
          refine ZE.go hW 9999 rfl (by and_intros <;> first | trivial | assumption | omega) ?_
          refine ZE.b rfl (by omega) (by omega) ?_ ?_ <;> intro hb2
          · omega
          · refine ZE.go hW 147 rfl (by and_intros <;> first | trivial | assumption | omega) ?_
            refine ih _ ⟨hx3.up, ?_⟩
            intro j
            have r1 : μ3 169 (f + 15 + i) = μ 169 (f + 15 + i) := by rw [hn3, if_neg (by omega), if_neg (by omega), if_neg (by omega), if_neg (by omega), if_neg (by omega), if_neg (by omega), if_neg (by omega)]
            rw [up162, r1, hn3 j]
            repeat' split
            all_goals first
              | rfl
              | (exfalso; omega)
              | (congr 1; omega)
        · intro μ3 ⟨hx3, hn3⟩
          have eN : μ3 169 = unN (μ 169) := by
            funext j
            rw [hn3 j]
            unfold unN
            simp only [hf]
            rw [show (61 : Int) + 36 = 97 by decide]
          refine ZE.go hW 9999 rfl (by and_intros <;> first | trivial | assumption | omega) ?_
          refine ZE.b rfl (by omega) (by omega) ?_ ?_ <;> intro hb2
          · refine ZE.go hW 9999 rfl (by and_intros <;> first | trivial | assumption | omega) ?_
            refine ZE.ri rfl rfl ?_
            refine ⟨fun q => absurd q h6, fun _ => ⟨?_, eN, hx3⟩⟩
            rw [eN]
          · omega
        · intro j
          have r2 : μ2 169 (f + 12) = μ 169 (f + 12) := by rw [hn, if_neg (by omega), if_neg (by omega), if_neg (by omega)]
          have r3 : μ2 169 (f + 13) = μ 169 (f + 13) := by rw [hn, if_neg (by omega), if_neg (by omega), if_neg (by omega)]
          have r4 : μ2 169 (f + 14) = μ 169 (f + 14) := by rw [hn, if_neg (by omega), if_neg (by omega), if_neg (by omega)]
          simp only [up162]
          rw [if_neg (show ¬ f + 13 = 2 by omega), if_neg (show ¬ f + 14 = 3 by omega), if_neg (show ¬ f + 14 = 2 by omega), r2, r3, r4, hn j]
          repeat' split
          all_goals first
            | rfl
            | (exfalso; omega)
            | (congr 1; omega)
      · omega
    · intro j
      rw [hbase j]
      repeat' split
      all_goals first
        | rfl
        | (exfalso; omega)
  · refine ZE.go hW 9999 rfl (by and_intros <;> first | trivial | assumption | omega) ?_
    refine ZE.ri rfl rfl ?_
    exact ⟨fun _ => ⟨rfl, rfl⟩, fun q => absurd h6 q⟩
end
