/-- only the reference's row has changed -/
def Nx (μ μ' : zM) : Prop := ∀ k j, k ≠ 169 → μ' k j = μ k j
theorem Nx.rfl' {μ : zM} : Nx μ μ := fun _ _ _ => rfl
theorem Nx.trans {a b c : zM} (h : Nx a b) (h2 : Nx b c) : Nx a c := fun k j p => (h2 k j p).trans (h k j p)
theorem Nx.up {a b : zM} {j x : Int} (h : Nx a b) : Nx a (up b 169 j x) := by
  intro k' j' p
  rw [up_n (by omega)]
  exact h k' j' p
theorem up162 {μ : zM} {a x j : Int} : up μ 169 a x 169 j = if j = a then x else μ 169 j := by
  unfold up
  by_cases h : j = a
  · rw [if_pos ⟨rfl, h⟩, if_pos h]
  · rw [if_neg (fun q => h q.2), if_neg h]
/-- the eighth UNDONE is full: all move down -/
def kpA (N : Int → Int) : Int → Int := fun j => if 115 ≤ j ∧ j < 472 then N (j + 51) else if j = 6 then 7 else N j
def kpB (N : Int → Int) : Int → Int := fun j =>
  if 115 + 51 * N 6 ≤ j ∧ j < 115 + 51 * N 6 + 6 then N (43 + 3 * (j - (115 + 51 * N 6)) + 1)
  else if 115 + 51 * N 6 + 6 ≤ j ∧ j < 115 + 51 * N 6 + 12 then N (7 + 6 * (j - (115 + 51 * N 6 + 6)) + 4)
  else if j = 115 + 51 * N 6 + 12 then N 2 else if j = 115 + 51 * N 6 + 13 then N 3 else if j = 115 + 51 * N 6 + 14 then N 4
  else if 115 + 51 * N 6 + 15 ≤ j ∧ j < 115 + 51 * N 6 + 51 then N (61 + (j - (115 + 51 * N 6 + 15)))
  else if j = 6 then N 6 + 1 else N j
def kpN (N : Int → Int) : Int → Int := if N 6 = 8 then kpB (kpA N) else kpB N
section
variable {ext : List xC} {σ : zSh} {d : Nat} {μ : zM}
set_option maxRecDepth 100000 in set_option maxHeartbeats 4000000 in theorem k_m_keepB (hW : Wl σ) {μ1 : zM} {l1 : V} (h6 : 0 ≤ μ1 169 6 ∧ μ1 169 6 ≤ 7) : ZE ext (d + 1) n_X12_keep 55 [(1161, 0), l1, (4, 0)] [] σ μ1 (fun rv μ' => rv = none ∧ μ' 169 = kpB (μ1 169) ∧ Nx μ1 μ') := by
  generalize hN : μ1 169 = N
  have n6 := congrFun hN 6
  refine ZE.go hW 71 rfl (by and_intros <;> first | trivial | assumption | omega) ?_
  rw [n6]
  rw [n6] at h6
  generalize hto : (115 + 51 * N 6) = to
  refine loopU (n := 6) (G := fun i => ∀ μ2, (Nx μ1 μ2 ∧ ∀ j, μ2 169 j = if to ≤ j ∧ j < to + i then N (43 + 3 * (j - to) + 1) else if to + 6 ≤ j ∧ j < to + 6 + i then N (7 + 6 * (j - (to + 6)) + 4) else N j) → ZE ext (d + 1) n_X12_keep 71 [(1161, 0), (0, to), (0, i)] [] σ μ2 _) ?_ ?_ 0 (by omega) (by omega) μ1 ⟨Nx.rfl', ?_⟩
  · intro i h0 hi ih μ2 ⟨hx, hn⟩
    refine ZE.go hW 9999 rfl (by and_intros <;> first | trivial | assumption | omega) ?_
    refine ZE.b rfl (by omega) (by omega) ?_ ?_ <;> intro hb
    · omega
    · refine ZE.go hW 71 rfl (by and_intros <;> first | trivial | assumption | omega) ?_
      refine ih _ ⟨hx.up.up, ?_⟩
      intro j
      have r1 : μ2 169 (43 + 3 * i + 1) = N (43 + 3 * i + 1) := by rw [hn, if_neg (by omega), if_neg (by omega)]
      have r2 : μ2 169 (7 + 6 * i + 4) = N (7 + 6 * i + 4) := by rw [hn, if_neg (by omega), if_neg (by omega)]
      rw [up162, up162, up162]
      rw [if_neg (show ¬ 7 + 6 * i + 4 = to + i by omega), r1, r2, hn j]
      repeat' split
      all_goals first
        | rfl
        | (exfalso; omega)
        | (congr 1; omega)
  · intro μ2 ⟨hx, hn⟩
    refine ZE.go hW 9999 rfl (by and_intros <;> first | trivial | assumption | omega) ?_
    refine ZE.b rfl (by omega) (by omega) ?_ ?_ <;> intro hb
    · refine ZE.go hW 161 rfl (by and_intros <;> first | trivial | assumption | omega) ?_
      refine loopU (n := 36) (G := fun i => ∀ μ3, (Nx μ1 μ3 ∧ ∀ j, μ3 169 j = if to ≤ j ∧ j < to + 6 then N (43 + 3 * (j - to) + 1) else if to + 6 ≤ j ∧ j < to + 12 then N (7 + 6 * (j - (to + 6)) + 4) else if j = to + 12 then N 2 else if j = to + 13 then N 3 else if j = to + 14 then N 4 else if to + 15 ≤ j ∧ j < to + 15 + i then N (61 + (j - (to + 15))) else N j) → ZE ext (d + 1) n_X12_keep 161 [(1161, 0), (0, to), (0, i)] [] σ μ3 _) ?_ ?_ 0 (by omega) (by omega) _ ⟨hx.up.up.up, ?_⟩
      · intro i h0 hi ih μ3 ⟨hx3, hn3⟩
        refine ZE.go hW 9999 rfl (by and_intros <;> first | trivial | assumption | omega) ?_
        refine ZE.b rfl (by omega) (by omega) ?_ ?_ <;> intro hb2
        · omega
        · refine ZE.go hW 161 rfl (by and_intros <;> first | trivial | assumption | omega) ?_
          refine ih _ ⟨hx3.up, ?_⟩
          intro j
          have r1 : μ3 169 (61 + i) = N (61 + i) := by rw [hn3, if_neg (by omega), if_neg (by omega), if_neg (by omega), if_neg (by omega), if_neg (by omega), if_neg (by omega)]
          rw [up162, r1, hn3 j]
          repeat' split
          all_goals first
            | rfl
            | (exfalso; omega)
            | (congr 1; omega)
      · intro μ3 ⟨hx3, hn3⟩
        refine ZE.go hW 9999 rfl (by and_intros <;> first | trivial | assumption | omega) ?_
        refine ZE.b rfl (by omega) (by omega) ?_ ?_ <;> intro hb2
        · refine ZE.go hW 9999 rfl (by and_intros <;> first | trivial | assumption | omega) ?_
          refine ZE.rv rfl rfl ?_
          refine ⟨rfl, ?_, hx3.up⟩
          funext j
          have r1 : μ3 169 6 = N 6 := by rw [hn3, if_neg (by omega), if_neg (by omega), if_neg (by omega), if_neg (by omega), if_neg (by omega), if_neg (by omega)]
          rw [up162, r1, hn3 j]
          unfold kpB
          rw [hto]
          repeat' split
          all_goals first
            | rfl
            | (exfalso; omega)
            | (congr 1; omega)
        · omega
      · intro j
        have r2 : μ2 169 2 = N 2 := by rw [hn, if_neg (by omega), if_neg (by omega)]
        have r3 : μ2 169 3 = N 3 := by rw [hn, if_neg (by omega), if_neg (by omega)]
        have r4 : μ2 169 4 = N 4 := by rw [hn, if_neg (by omega), if_neg (by omega)]
        simp only [up162]
        rw [if_neg (show ¬ 3 = to + 12 by omega), if_neg (show ¬ 4 = to + 13 by omega), if_neg (show ¬ 4 = to + 12 by omega), r2, r3, r4, hn j]
        repeat' split
        all_goals first
          | rfl
          | (exfalso; omega)
          | (congr 1; omega)
    · omega
  · intro j
    rw [if_neg (by omega), if_neg (by omega), hN]
set_option maxRecDepth 100000 in set_option maxHeartbeats 4000000 in theorem k_m_keep (hW : Wl σ) (h6 : 0 ≤ μ 169 6 ∧ μ 169 6 ≤ 8) : ZQ ext (d + 1) n_X12_keep [(1161, 0)] σ μ (fun rv μ' => rv = none ∧ μ' 169 = kpN (μ 169) ∧ Nx μ μ') := by
  refine ZQ.i rfl ?_
  refine ZE.go hW 9999 rfl (by and_intros <;> first | trivial | assumption | omega) ?_
  refine ZE.b rfl (by omega) (by omega) ?_ ?_ <;> intro h8
  · have e : kpN (μ 169) = kpB (μ 169) := by unfold kpN; rw [if_neg h8]
    rw [e]
    exact k_m_keepB hW (by omega)
  · have e : kpN (μ 169) = kpB (kpA (μ 169)) := by unfold kpN; rw [if_pos h8]
    rw [e]
    refine ZE.go hW 14 rfl (by and_intros <;> first | trivial | assumption | omega) ?_
    refine loopU (n := 357) (G := fun i => ∀ μ2, (Nx μ μ2 ∧ ∀ j, μ2 169 j = if 115 ≤ j ∧ j < 115 + i then μ 169 (j + 51) else μ 169 j) → ZE ext (d + 1) n_X12_keep 14 [(1161, 0), (0, i), (4, 0)] [] σ μ2 _) ?_ ?_ 0 (by omega) (by omega) μ ⟨Nx.rfl', ?_⟩
    · intro i h0 hi ih μ2 ⟨hx, hn⟩
      refine ZE.go hW 9999 rfl (by and_intros <;> first | trivial | assumption | omega) ?_
      refine ZE.b rfl (by omega) (by omega) ?_ ?_ <;> intro hb
      · omega
      · refine ZE.go hW 14 rfl (by and_intros <;> first | trivial | assumption | omega) ?_
        refine ih _ ⟨hx.up, ?_⟩
        intro j
        have r1 : μ2 169 (166 + i) = μ 169 (166 + i + 51) ∨ μ2 169 (166 + i) = μ 169 (166 + i) := by
          rw [hn]
          split
          · exact Or.inl rfl
          · exact Or.inr rfl
        have r1 : μ2 169 (166 + i) = μ 169 (166 + i) := by rw [hn, if_neg (by omega)]
        rw [up162, r1, hn j]
        repeat' split
        all_goals first
          | rfl
          | (exfalso; omega)
          | (congr 1; omega)
    · intro μ2 ⟨hx, hn⟩
      refine ZE.go hW 9999 rfl (by and_intros <;> first | trivial | assumption | omega) ?_
      refine ZE.b rfl (by omega) (by omega) ?_ ?_ <;> intro hb
      · refine ZE.go hW 55 rfl (by and_intros <;> first | trivial | assumption | omega) ?_
        have eA : up μ2 169 6 7 169 = kpA (μ 169) := by
          funext j
          rw [up162, hn j]
          unfold kpA
          repeat' split
          all_goals first
            | rfl
            | (exfalso; omega)
        have h := k_m_keepB (ext := ext) (d := d) (μ1 := up μ2 169 6 7) (l1 := (0, 357)) hW (by rw [up162, if_pos rfl]; omega)
        rw [eA] at h
        obtain ⟨rv, μ3, h1, h2, h3, h4⟩ := h
        exact ⟨rv, μ3, h1, h2, h3, hx.up.trans h4⟩
      · omega
    · intro j
      rw [if_neg (by omega)]
end
