theorem Wk.fr {σ : zSh} {μ μ' : zM} (h : Wk σ μ) (h2 : ∀ j, μ' 9 j = μ 9 j) : Wk σ μ' :=
  ⟨h.1, fun k p q => (h2 k).trans (h.2 k p q)⟩
/-- a shop but for its Book and its past -/
theorem RS.mk' {μ μ' : zM} {a : Int} {N N' : Int → Int} (h : RS μ a N) (h1 : ∀ j, 1 ≤ j → j ≤ 3 → μ' a j = μ a j) (h4 : μ' a 4 = N' 6) (hr : ∀ i j, 8 ≤ i → i ≤ 17 → μ' (a + i) j = μ (a + i) j) (e0 : N' 0 = N 0) (e1 : N' 1 = N 1) (e5 : N' 5 = N 5) (n0 : N 0 ≤ 6) (n1 : N 1 ≤ 6) (n5 : N 5 ≤ 6)
    (ev : ∀ v i, 0 ≤ v → v < 6 → 0 ≤ i → i < 6 → i ≠ 4 → N' (7 + 6 * v + i) = N (7 + 6 * v + i)) (er : ∀ v i, 0 ≤ v → v < 6 → i = 0 ∨ i = 2 → N' (43 + 3 * v + i) = N (43 + 3 * v + i)) (ed : ∀ j, 97 ≤ j → j < 115 → N' j = N j) (hB : RN μ' (a + 18) N') (hP : ∀ u, 0 ≤ u → u < N' 6 → RP μ' (μ' (a + 24) u) N' u) : RS μ' a N' := by
  obtain ⟨⟨c1, c2, c3, c4⟩, hV, hR, hD, hB0, hP0⟩ := h
  refine ⟨⟨?_, ?_, ?_, h4⟩, ?_, ?_, ?_, hB, hP⟩
  · rw [h1 1 (by omega) (by omega), e0]; exact c1
  · rw [h1 2 (by omega) (by omega), e1]; exact c2
  · rw [h1 3 (by omega) (by omega), e5]; exact c3
  · intro v x y
    rw [e0] at y
    rw [hr 8 v (by omega) (by omega), hr 9 v (by omega) (by omega), hr 10 v (by omega) (by omega), hr 11 v (by omega) (by omega), hr 12 v (by omega) (by omega), ev v 0 x (by omega) (by omega) (by omega) (by omega), ev v 1 x (by omega) (by omega) (by omega) (by omega), ev v 2 x (by omega) (by omega) (by omega) (by omega), ev v 3 x (by omega) (by omega) (by omega) (by omega), ev v 5 x (by omega) (by omega) (by omega) (by omega)]
    exact hV v x y
  · intro v x y
    rw [e1] at y
    rw [hr 13 v (by omega) (by omega), hr 14 v (by omega) (by omega), er v 0 x (by omega) (by omega), er v 2 x (by omega) (by omega)]
    exact hR v x y
  · intro v x y
    rw [e5] at y
    rw [hr 15 v (by omega) (by omega), hr 16 v (by omega) (by omega), hr 17 v (by omega) (by omega), ed _ (by omega) (by omega), ed _ (by omega) (by omega), ed _ (by omega) (by omega)]
    exact hD v x y
/-- the past stays -/
theorem RP.keep {μ μ' : zM} {b b' : Int} {N N' : Int → Int} {u : Int} (h : RP μ b N u) (hb : b' = b) (hm : ∀ i j, 0 ≤ i → i ≤ 5 → μ' (b + i) j = μ (b + i) j) (hu : 0 ≤ u) (n0 : 0 ≤ N 0 ∧ N 0 ≤ 6) (e : ∀ j, 115 + 51 * u ≤ j → j < 115 + 51 * u + 51 → N' j = N j) (e0 : N' 0 = N 0) (e1 : N' 1 = N 1) (n1 : N 1 ≤ 6) (hc : N (115 + 51 * u + 14) ≤ 12) : RP μ' b' N' u := by
  subst hb
  have m0 : ∀ j, μ' b' j = μ b' j := fun j => by
    have := hm 0 j (by omega) (by omega)
    rw [Int.add_zero] at this
    exact this
  unfold RP at h ⊢
  have h2 := BR_tr (μ' := μ') (b' := b') h n0.1 (fun j _ _ => m0 j) (fun j _ _ => hm 1 j (by omega) (by omega)) (fun j _ _ => hm 2 j (by omega) (by omega)) n0.2 (fun j _ _ => ⟨hm 3 j (by omega) (by omega), hm 4 j (by omega) (by omega), hm 5 j (by omega) (by omega)⟩)
  exact BR_cg h2 (e _ (by omega) (by omega)).symm (e _ (by omega) (by omega)).symm (e _ (by omega) (by omega)).symm e0.symm e1.symm (fun r p q => (e _ (by omega) (by omega)).symm) (fun r p q => (e _ (by omega) (by omega)).symm) (fun r p q => ⟨(e _ (by omega) (by omega)).symm, (e _ (by omega) (by omega)).symm, (e _ (by omega) (by omega)).symm⟩)
section
variable {ext : List xC} {σ : zSh} {d : Nat} {μ : zM} {a t : Int} {N : Int → Int}
set_option maxRecDepth 100000 in set_option maxHeartbeats 4000000 in theorem k_c_write {v r c : Int} (hW : Wl σ) (hS : Bk σ (a + 18)) (hR : RN μ (a + 18) N) (hn : (0 ≤ N 0 ∧ N 0 ≤ 6) ∧ (0 ≤ N 1 ∧ N 1 ≤ 6) ∧ (0 ≤ N 4 ∧ N 4 ≤ 12)) (hv : 0 ≤ v ∧ v < N 0) (hr : 0 ≤ r ∧ r < N 1) (hp : 0 ≤ N 3 ∧ N 3 ≤ 20000) (hc : 0 ≤ c ∧ c ≤ 200) :
    ZQ ext (d + 2) n_X0_write [(20, a + 18), (0, v), (0, r), (0, c)] σ μ (fun rv μ' => rv = none ∧ (∀ k j, ¬ (a + 18 ≤ k ∧ k ≤ a + 23) → μ' k j = μ k j) ∧ RN μ' (a + 18) (rmN (ltN N v r c) v r)) := by
  obtain ⟨⟨r0, r1, r2⟩, r3, r4, r5, r6⟩ := hR
  have l4 := lt_o (N := N) (v := v) (r := r) (c := c) (j := 4) (by omega) (by omega) (by omega)
  have l2 := lt_o (N := N) (v := v) (r := r) (c := c) (j := 2) (by omega) (by omega) (by omega)
  have l0 := lt_o (N := N) (v := v) (r := r) (c := c) (j := 0) (by omega) (by omega) (by omega)
  have l1 := lt_o (N := N) (v := v) (r := r) (c := c) (j := 1) (by omega) (by omega) (by omega)
  have l3 := lt_3 (N := N) (v := v) (r := r) (c := c) (by omega) (by omega)
  have lp := lt_p (N := N) (v := v) (r := r) (c := c) (by omega)
  have lo := fun j p q s => lt_o (N := N) (v := v) (r := r) (c := c) (j := j) p q s
  have lv := lt_v (N := N) (v := v) (r := r) (c := c)
  generalize ltN N v r c = L at *
  have fin : ∀ (M : Int → Int) (m : zM), (∀ k j, ¬ (a + 18 ≤ k ∧ k ≤ a + 23) → m k j = μ k j) → RN m (a + 18) M → (M 0 = N 0 ∧ M 1 = N 1 ∧ 0 ≤ M 4 ∧ M 4 ≤ 11) → ZE ext (d + 2) n_X0_write 40 [(20, a + 18), (0, v), (0, r), (0, c)] [] σ m (fun rv μ' => rv = none ∧ (∀ k j, ¬ (a + 18 ≤ k ∧ k ≤ a + 23) → μ' k j = μ k j) ∧ RN μ' (a + 18) (rmB M v r)) := by
    intro M m hf hR hM
    obtain ⟨⟨s0, s1, s2⟩, s3, s4, s5, s6⟩ := hR
    have o := fun j a b => rmB_o (N := M) (v := v) (r := r) (j := j) a b
    have e4 := rmB_4 (N := M) (v := v) (r := r) hM.2.2.1
    have ev := rmB_v (N := M) (v := v) (r := r)
    have er := rmB_r (N := M) (v := v) (r := r)
    have ee := rmB_e (N := M) (v := v) (r := r)
    have o0 := o 0 (by omega) (by omega)
    have o1 := o 1 (by omega) (by omega)
    have o2 := o 2 (by omega) (by omega)
    have o3 := o 3 (by omega) (by omega)
    generalize rmB M v r = K at *
    have eh : ∀ (m1 : zM), (m1 (a + 18) 2 = M 4) → 0 ≤ m1 (a + 18) 2 ∧ m1 (a + 18) 2 < 12 := fun m1 h => by omega
    refine ZE.go hW 73 rfl ?_ ?_
    · simp (disch := omega) only [up_n]
      and_intros <;> first | exact True.intro | omega | assumption
    refine ZE.go hW 9999 rfl (by repeat' first | exact True.intro | assumption | apply And.intro | omega) ?_
    refine ZE.rv rfl rfl ?_
    simp (disch := omega) only [up_n, up_e, s2, s0]
    refine ⟨True.intro, ?_, ⟨?_, ?_, ?_⟩, ?_, ?_, ?_, ?_⟩
    · intro k j p
      simp (disch := omega) only [up_n]
      exact hf k j p
    · simp (disch := omega) only [up_n]
      rw [s0, o2]
    · simp (disch := omega) only [up_n]
      rw [s1, o3]
    · simp (disch := omega) only [up_e]
      rw [e4]
    · intro i x y
      simp (disch := omega) only [up_n]
      rw [s3 i x (by omega), o _ (by omega) (by omega)]
    · intro i x y
      simp (disch := omega) only [up_n]
      rw [s4 i x (by omega), o _ (by omega) (by omega)]
    · intro i x y
      simp (disch := omega) only [up_n]
      exact s5 i (by omega) y
    · intro i x y
      by_cases q : i = M 4
      · subst q
        simp (disch := omega) only [up_n, up_e]
        rw [ev, er, ee]
        exact ⟨rfl, rfl, rfl⟩
      · simp (disch := omega) only [up_n]
        rw [o _ (by omega) (by omega), o _ (by omega) (by omega), o _ (by omega) (by omega)]
        exact s6 i x (by omega)
  refine ZQ.i rfl ?_
  refine ZE.go hW 27 rfl (by repeat' first | exact True.intro | assumption | apply And.intro | omega) ?_
  simp (disch := omega) only [up_n]
  refine ZE.gen (fun m => (∀ k j, ¬ (a + 18 ≤ k ∧ k ≤ a + 23) → m k j = μ k j) ∧ RN m (a + 18) L) ⟨?_, ⟨?_, ?_, ?_⟩, ?_, ?_, ?_, ?_⟩ ?_
  · intro k j p
    simp (disch := omega) only [up_n]
  · simp (disch := omega) only [up_n]
    rw [r0, l2]
  · simp (disch := omega) only [up_n, up_e]
    rw [r1, l3]
  · simp (disch := omega) only [up_n]
    rw [r2, l4]
  · intro i x y
    have h3 := r3 i x (by omega)
    by_cases q : i = r
    · subst q
      simp (disch := omega) only [up_n, up_e]
      rw [h3, lp]
    · simp (disch := omega) only [up_n]
      rw [h3, lo _ (by omega) (by omega) (by omega)]
  · intro i x y
    by_cases q : i = v
    · subst q
      simp (disch := omega) only [up_e]
      rw [lv]
    · simp (disch := omega) only [up_n]
      rw [r4 i x (by omega), lo _ (by omega) (by omega) (by omega)]
  · intro i x y
    simp (disch := omega) only [up_n]
    exact r5 i (by omega) y
  · intro i x y
    simp (disch := omega) only [up_n]
    rw [lo _ (by omega) (by omega) (by omega), lo _ (by omega) (by omega) (by omega), lo _ (by omega) (by omega) (by omega)]
    exact r6 i x (by omega)
  · rintro m ⟨hf, hL⟩
    have m2 : m (a + 18) 2 = L 4 := hL.1.2.2
    refine ZE.go hW 9999 rfl (by repeat' first | exact True.intro | assumption | apply And.intro | omega) ?_
    refine ZE.b rfl (by omega) (by omega) ?_ ?_ <;> intro g1
    · first
        | (have e : rmN L v r = rmB L v r := by unfold rmN; rw [if_neg (by omega)]
           rw [e]
           exact fin L m hf hL (by omega))
        | (have e : rmN L v r = rmB (rmA L) v r := by unfold rmN; rw [if_pos (by omega)]
           rw [e]
           have al := fun j p q => rmA_lo (N := L) (j := j) p q
           have ah := fun j p => rmA_h (N := L) (j := j) p
           have a4 := rmA_4 (N := L)
           have a0 := al 0 (by omega) (by omega)
           have a1 := al 1 (by omega) (by omega)
           obtain ⟨⟨s0, s1, s2⟩, s3, s4, s5, s6⟩ := hL
           refine fin (rmA L) _ ?_ ⟨⟨?_, ?_, ?_⟩, ?_, ?_, ?_, ?_⟩ (by omega)
           · intro k j p
             simp (disch := omega) only [up_n, zcp_n]
             exact hf k j p
           · simp (disch := omega) only [up_n, zcp_n]
             rw [s0, al _ (by omega) (by omega)]
           · simp (disch := omega) only [up_n, zcp_n]
             rw [s1, al _ (by omega) (by omega)]
           · rw [up_e rfl rfl, a4]
           · intro i x y
             simp (disch := omega) only [up_n, zcp_n]
             rw [s3 i x (by omega), al _ (by omega) (by omega)]
           · intro i x y
             simp (disch := omega) only [up_n, zcp_n]
             rw [s4 i x (by omega), al _ (by omega) (by omega)]
           · intro i x y
             simp (disch := omega) only [up_n, zcp_n]
             exact s5 i (by omega) y
           · intro i x y
             have : m (a + 18 + 3) (i + 1) = L (61 + 3 * (i + 1)) ∧ m (a + 18 + 4) (i + 1) = L (61 + 3 * (i + 1) + 1) ∧ m (a + 18 + 5) (i + 1) = L (61 + 3 * (i + 1) + 2) := s6 (i + 1) (by omega) (by omega)
             simp (disch := omega) only [up_n, zcp_n, zcp_e]
             rw [show 1 + (i - 0) = i + 1 by omega, this.1, this.2.1, this.2.2, ah _ (by omega), ah _ (by omega), ah _ (by omega)]
             refine ⟨?_, ?_, ?_⟩ <;> (congr 1; omega))
    · refine ZE.go hW 9999 rfl (by repeat' first | exact True.intro | assumption | apply And.intro | omega) ?_
      refine ZE.c1 hW rfl rfl (by repeat' first | exact True.intro | assumption | apply And.intro | omega) (Nat.le_of_ble_eq_true rfl) (Nat.le_of_ble_eq_true rfl) (k_c_dropFirst (d := d) hW hS) ?_
      first
        | (have e : rmN L v r = rmB L v r := by unfold rmN; rw [if_neg (by omega)]
           rw [e]
           exact fin L m hf hL (by omega))
        | (have e : rmN L v r = rmB (rmA L) v r := by unfold rmN; rw [if_pos (by omega)]
           rw [e]
           have al := fun j p q => rmA_lo (N := L) (j := j) p q
           have ah := fun j p => rmA_h (N := L) (j := j) p
           have a4 := rmA_4 (N := L)
           have a0 := al 0 (by omega) (by omega)
           have a1 := al 1 (by omega) (by omega)
           obtain ⟨⟨s0, s1, s2⟩, s3, s4, s5, s6⟩ := hL
           refine fin (rmA L) _ ?_ ⟨⟨?_, ?_, ?_⟩, ?_, ?_, ?_, ?_⟩ (by omega)
           · intro k j p
             simp (disch := omega) only [up_n, zcp_n]
             exact hf k j p
           · simp (disch := omega) only [up_n, zcp_n]
             rw [s0, al _ (by omega) (by omega)]
           · simp (disch := omega) only [up_n, zcp_n]
             rw [s1, al _ (by omega) (by omega)]
           · rw [up_e rfl rfl, a4]
           · intro i x y
             simp (disch := omega) only [up_n, zcp_n]
             rw [s3 i x (by omega), al _ (by omega) (by omega)]
           · intro i x y
             simp (disch := omega) only [up_n, zcp_n]
             rw [s4 i x (by omega), al _ (by omega) (by omega)]
           · intro i x y
             simp (disch := omega) only [up_n, zcp_n]
             exact s5 i (by omega) y
           · intro i x y
             have : m (a + 18 + 3) (i + 1) = L (61 + 3 * (i + 1)) ∧ m (a + 18 + 4) (i + 1) = L (61 + 3 * (i + 1) + 1) ∧ m (a + 18 + 5) (i + 1) = L (61 + 3 * (i + 1) + 2) := s6 (i + 1) (by omega) (by omega)
             simp (disch := omega) only [up_n, zcp_n, zcp_e]
             rw [show 1 + (i - 0) = i + 1 by omega, this.1, this.2.1, this.2.2, ah _ (by omega), ah _ (by omega), ah _ (by omega)]
             refine ⟨?_, ?_, ?_⟩ <;> (congr 1; omega))
end
