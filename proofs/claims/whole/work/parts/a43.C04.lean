def CpC (μ : zM) (b c : Int) (μ' : zM) : Prop := (∀ j, 0 ≤ j → j < 3 → μ' b j = μ c j) ∧ (∀ j, 0 ≤ j → j < 6 → μ' (b + 1) j = μ (c + 1) j ∧ μ' (b + 2) j = μ (c + 2) j) ∧ (∀ j, 0 ≤ j → j < 12 → μ' (b + 3) j = μ (c + 3) j ∧ μ' (b + 4) j = μ (c + 4) j ∧ μ' (b + 5) j = μ (c + 5) j)
def CpB (μ : zM) (b c : Int) (μ' : zM) : Prop := (∀ k j, ¬ (b ≤ k ∧ k ≤ b + 5) → μ' k j = μ k j) ∧ CpC μ b c μ'
theorem BR_tr {μ μ' : zM} {b b' : Int} {pu le : Int → Int} {ev tk hc : Int} {hv hr he : Int → Int} {nv nr : Int} (h : BR μ b pu le ev tk hc hv hr he nv nr) (hn : 0 ≤ nv) (h0 : ∀ j, 0 ≤ j → j < 3 → μ' b' j = μ b j) (h1 : ∀ j, 0 ≤ j → j < nr → μ' (b' + 1) j = μ (b + 1) j) (h2 : ∀ j, 0 ≤ j → j < 6 → μ' (b' + 2) j = μ (b + 2) j) (hn6 : nv ≤ 6)
    (h3 : ∀ j, 0 ≤ j → j < hc → μ' (b' + 3) j = μ (b + 3) j ∧ μ' (b' + 4) j = μ (b + 4) j ∧ μ' (b' + 5) j = μ (b + 5) j) : BR μ' b' pu le ev tk hc hv hr he nv nr := by
  obtain ⟨⟨a0, a1, a2⟩, a3, a4, a5, a6⟩ := h
  refine ⟨⟨?_, ?_, ?_⟩, ?_, ?_, ?_, ?_⟩
  · rw [h0 0 (by omega) (by omega)]; exact a0
  · rw [h0 1 (by omega) (by omega)]; exact a1
  · rw [h0 2 (by omega) (by omega)]; exact a2
  · intro r p q; rw [h1 r p q]; exact a3 r p q
  · intro v p q; rw [h2 v p (by omega)]; exact a4 v p q
  · intro v p q; rw [h2 v (by omega) q]; exact a5 v p q
  · intro i p q
    have := h3 i p q
    rw [this.1, this.2.1, this.2.2]; exact a6 i p q
theorem BR_cg {μ : zM} {b : Int} {pu le pu' le' : Int → Int} {ev tk hc ev' tk' hc' : Int} {hv hr he hv' hr' he' : Int → Int} {nv nr nv' nr' : Int} (h : BR μ b pu le ev tk hc hv hr he nv nr) (e1 : ev = ev') (e2 : tk = tk') (e3 : hc = hc') (e4 : nv = nv') (e5 : nr = nr') (e6 : ∀ r, 0 ≤ r → r < nr → pu r = pu' r) (e7 : ∀ v, 0 ≤ v → v < nv → le v = le' v) (e8 : ∀ i, 0 ≤ i → i < hc → hv i = hv' i ∧ hr i = hr' i ∧ he i = he' i) : BR μ b pu' le' ev' tk' hc' hv' hr' he' nv' nr' := by
  subst e1 e2 e3 e4 e5
  obtain ⟨a1, a3, a4, a5, a6⟩ := h
  refine ⟨a1, ?_, ?_, a5, ?_⟩
  · intro r p q; rw [← e6 r p q]; exact a3 r p q
  · intro v p q; rw [← e7 v p q]; exact a4 v p q
  · intro i p q
    have := e8 i p q
    rw [← this.1, ← this.2.1, ← this.2.2]; exact a6 i p q
section
variable {ext : List xC} {σ : zSh} {d : Nat} {μ : zM} {a t : Int} {N : Int → Int}
set_option maxRecDepth 100000 in set_option maxHeartbeats 4000000 in theorem k_c_copyB {b c : Int} (hW : Wl σ) (hb : Bk σ b) (hc : Bk σ c) (hd : b + 6 ≤ c ∨ c + 6 ≤ b) : ZQ ext (d + 1) n_X0_copyFrom [(20, b), (20, c)] σ μ (fun rv μ' => rv = none ∧ CpB μ b c μ') := by
  refine ZQ.i rfl ?_
  refine ZE.go hW 9999 rfl (by repeat' first | exact True.intro | assumption | apply And.intro | omega) ?_
  refine ZE.rv rfl rfl ?_
  refine ⟨rfl, ?_, ?_, ?_, ?_⟩
  · intro k j p
    simp (disch := omega) only [up_n, zcp_n]
  · intro j p q
    have : j = 0 ∨ j = 1 ∨ j = 2 := by omega
    rcases this with rfl | rfl | rfl <;> simp (disch := omega) only [up_n, up_e, zcp_n]
  · intro j p q
    refine ⟨?_, ?_⟩ <;> simp (disch := omega) only [up_n, zcp_n, zcp_e, Int.sub_zero, Int.zero_add]
  · intro j p q
    refine ⟨?_, ?_, ?_⟩ <;> simp (disch := omega) only [up_n, zcp_n, zcp_e, Int.sub_zero, Int.zero_add]
set_option maxRecDepth 100000 in set_option maxHeartbeats 4000000 in theorem k_c_bringAllBack {b : Int} (hW : Wl σ) (hb : Bk σ b) : ZM ext (d + 1) n_X0_bringAllBack [(20, b)] σ μ none (fill μ (b + 2) 0 6 (-1)) := by
  apply ZQ.ex
  refine ZQ.i rfl ?_
  refine ZE.go hW 9999 rfl (by repeat' first | exact True.intro | assumption | apply And.intro | omega) ?_
  refine ZE.c0 hW rfl rfl (Nat.le_of_ble_eq_true rfl) (Nat.le_of_ble_eq_true rfl) (k_j_fill22 (d := d) hW hb) ?_
  refine ZE.rv rfl rfl ?_
  exact ⟨rfl, rfl⟩
set_option maxRecDepth 100000 in set_option maxHeartbeats 4000000 in theorem k_c_emptyB {b : Int} (hW : Wl σ) (hb : Bk σ b) : ZM ext (d + 2) n_X0_empty [(20, b)] σ μ none (fill (up (up (up μ b 0 0) b 1 0) b 2 0) (b + 2) 0 6 (-1)) := by
  apply ZQ.ex
  refine ZQ.i rfl ?_
  refine ZE.go hW 9999 rfl (by repeat' first | exact True.intro | assumption | apply And.intro | omega) ?_
  refine ZE.c1 hW rfl rfl (by repeat' first | exact True.intro | assumption | apply And.intro | omega) (Nat.le_of_ble_eq_true rfl) (Nat.le_of_ble_eq_true rfl) (k_c_bringAllBack (d := d) hW hb) ?_
  refine ZE.rv rfl rfl ?_
  exact ⟨rfl, rfl⟩
/-- an empty shop -/
def Em (μ : zM) (a : Int) (μ' : zM) : Prop := (μ' a 1 = 0 ∧ μ' a 2 = 0 ∧ μ' a 3 = 0 ∧ μ' a 4 = 0) ∧ (μ' (a + 18) 0 = 0 ∧ μ' (a + 18) 1 = 0 ∧ μ' (a + 18) 2 = 0) ∧ (∀ v, 0 ≤ v → v < 6 → μ' (a + 18 + 2) v = -1) ∧ ∀ k j, ¬ (k = a ∧ 1 ≤ j ∧ j ≤ 4) → ¬ (k = a + 18 ∧ 0 ≤ j ∧ j ≤ 2) → k ≠ a + 18 + 2 → μ' k j = μ k j
set_option maxRecDepth 100000 in set_option maxHeartbeats 4000000 in theorem k_c_empty (hW : Wl σ) (hS : Sp σ a) : ZQ ext (d + 3) n_X9_empty [(100, a)] σ μ (fun rv μ' => rv = none ∧ Em μ a μ') := by
  have hb : Bk σ (a + 18) := hS.2.2.1
  refine ZQ.i rfl ?_
  refine ZE.go hW 9999 rfl (by repeat' first | exact True.intro | assumption | apply And.intro | omega) ?_
  refine ZE.c1 hW rfl rfl (by repeat' first | exact True.intro | assumption | apply And.intro | omega) (Nat.le_of_ble_eq_true rfl) (Nat.le_of_ble_eq_true rfl) (k_c_emptyB (d := d) hW hb) ?_
  refine ZE.rv rfl rfl ?_
  refine ⟨rfl, ⟨?_, ?_, ?_, ?_⟩, ⟨?_, ?_, ?_⟩, ?_, ?_⟩
  · simp (disch := omega) only [up_n, up_e, fill_n]
  · simp (disch := omega) only [up_n, up_e, fill_n]
  · simp (disch := omega) only [up_n, up_e, fill_n]
  · simp (disch := omega) only [up_n, up_e, fill_n]
  · simp (disch := omega) only [up_n, up_e, fill_n]
  · simp (disch := omega) only [up_n, up_e, fill_n]
  · simp (disch := omega) only [up_n, up_e, fill_n]
  · intro v p q
    rw [fill_e rfl p q]
  · intro k j p q r
    simp (disch := omega) only [up_n, fill_n]
set_option maxRecDepth 100000 in set_option maxHeartbeats 4000000 in theorem k_c_dropFirst {b : Int} (hW : Wl σ) (hb : Bk σ b) : ZM ext (d + 1) n_X0_dropFirstLetting [(20, b)] σ μ none (up (zcp (zcp (zcp μ (b + 3) (b + 3) 1 0 11) (b + 4) (b + 4) 1 0 11) (b + 5) (b + 5) 1 0 11) b 2 11) := by
  apply ZQ.ex
  refine ZQ.i rfl ?_
  refine ZE.go hW 9999 rfl (by repeat' first | exact True.intro | assumption | apply And.intro | omega) ?_
  refine ZE.rv rfl rfl ?_
  exact ⟨rfl, rfl⟩
end
