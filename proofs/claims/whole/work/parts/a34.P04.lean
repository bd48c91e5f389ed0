def lvN (N : Int → Int) (k s p w : Int) : Int → Int := fun j => if j = 0 then N 0 + 1 else if j = 7 + 6 * N 0 + 5 then 0 else if j = 7 + 6 * N 0 + 4 then -1 else if j = 7 + 6 * N 0 + 3 then w else if j = 7 + 6 * N 0 + 2 then p else if j = 7 + 6 * N 0 + 1 then s else if j = 7 + 6 * N 0 + 0 then k else N j
def lrN (N : Int → Int) (w p a : Int) : Int → Int := fun j => if j = 1 then N 1 + 1 else if j = 43 + 3 * N 1 + 2 then a else if j = 43 + 3 * N 1 + 1 then p else if j = 43 + 3 * N 1 + 0 then w else N j
def thN (N : Int → Int) (v n : Int) : Int → Int := ex1 N (7 + 6 * v + 5) (zor (N (7 + 6 * v + 5)) (zshl 1 n))
noncomputable def tvw (T : Int → Int) (l f : Int) (N : Int → Int) : Int × Int × (Int → Int) := by
  classical
  exact if N 0 = 6 then (0, f, N) else if ¬ nmO T l (tE T l f) 0 5 then (0, tE T l f, N) else if ¬ nmO T l (tE T l (tE T l f)) 1 9 then (0, tE T l (tE T l f), N) else if ¬ nmO T l (tE T l (tE T l (tE T l f))) 0 99 then (0, tE T l (tE T l (tE T l f)), N) else if ¬ nmO T l (tE T l (tE T l (tE T l (tE T l f)))) 0 5 then (0, tE T l (tE T l (tE T l (tE T l f))), N)
    else (1, tE T l (tE T l (tE T l (tE T l (tE T l f)))), lvN N (tV T l (tE T l f)) (tV T l (tE T l (tE T l f))) (tV T l (tE T l (tE T l (tE T l f)))) (tV T l (tE T l (tE T l (tE T l (tE T l f))))))
noncomputable def trn (T : Int → Int) (l f : Int) (N : Int → Int) : Int × Int × (Int → Int) := by
  classical
  exact if N 1 = 6 then (0, f, N) else if ¬ nmO T l (tE T l f) 1 9 then (0, tE T l f, N) else if ¬ nmO T l (tE T l (tE T l f)) 0 999 then (0, tE T l (tE T l f), N) else if ¬ nmO T l (tE T l (tE T l (tE T l f))) 0 6 then (0, tE T l (tE T l (tE T l f)), N)
    else (1, tE T l (tE T l (tE T l (tE T l f))), lrN N (tV T l (tE T l f)) (tV T l (tE T l (tE T l f))) (tV T l (tE T l (tE T l (tE T l f)))))
noncomputable def tth (T : Int → Int) (l f : Int) (N : Int → Int) : Int × Int × (Int → Int) := by
  classical
  exact if ¬ nmO T l (tE T l f) 0 (N 0 - 1) then (0, tE T l f, N) else if ¬ nmO T l (tE T l (tE T l f)) 0 7 then (0, tE T l (tE T l f), N)
    else (1, tE T l (tE T l (tE T l f)), thN N (tV T l (tE T l f)) (tV T l (tE T l (tE T l f))))
noncomputable def itp (T : Int → Int) (l f : Int) (N : Int → Int) : Int × Int × (Int → Int) := by
  classical
  exact if wdO T l f 4 118 105 101 119 0 0 then tvw T l f N else if wdO T l f 6 114 101 110 116 101 114 then trn T l f N else if wdO T l f 5 116 104 105 110 103 0 then tth T l f N else (0, f, N)
noncomputable def prs (T : Int → Int) (l : Int) : Nat → Int → (Int → Int) → Int → Int × (Int → Int)
  | 0, _, N, _ => (-10, N)
  | k + 1, f, N, i => if tK T l f = 0 then (i, N) else if (itp T l f N).1 = 0 ∨ tK T l (itp T l f N).2.1 ≠ 3 then (-10 - tA T l (itp T l f N).2.1, N) else prs T l k (tE T l (itp T l f N).2.1) (itp T l f N).2.2 (i + 1)
noncomputable def rdT (T : Int → Int) (l : Int) : Int × (Int → Int) := by
  classical
  exact if ¬ wdO T l 0 4 115 104 111 112 0 0 then (-10 - tA T l 0, fun _ => 0) else if tK T l (tE T l 0) ≠ 3 then (-10 - tA T l (tE T l 0), fun _ => 0) else prs T l 151 (tE T l (tE T l 0)) (fun _ => 0) 1
/-- a row that is being read -/
def NA (N : Int → Int) : Prop := (0 ≤ N 0 ∧ N 0 ≤ 6) ∧ (0 ≤ N 1 ∧ N 1 ≤ 6) ∧ NV N ∧ NR N ∧ (∀ r, 0 ≤ r → r < N 1 → 0 ≤ N (43 + 3 * r + 1) ∧ N (43 + 3 * r + 1) ≤ 999) ∧ (∀ v, 0 ≤ v → v < N 0 → N (7 + 6 * v + 4) = -1) ∧ (N 2 = 0 ∧ N 3 = 0 ∧ N 4 = 0 ∧ N 5 = 0 ∧ N 6 = 0)
theorem NA_0 : NA (fun _ => 0) := by
  refine ⟨⟨Int.le_refl 0, by decide⟩, ⟨Int.le_refl 0, by decide⟩, fun v a b => ?_, fun v a b => ?_, fun v a b => ?_, fun v a b => ?_, ⟨rfl, rfl, rfl, rfl, rfl⟩⟩
  all_goals (have b : v < 0 := b; exfalso; omega)
theorem NA_v {N : Int → Int} {k s p w : Int} (h : NA N) (h6 : N 0 ≠ 6) (hk : 0 ≤ k ∧ k ≤ 5) (hs : 1 ≤ s ∧ s ≤ 9) (hp : 0 ≤ p ∧ p ≤ 99) (hw : 0 ≤ w ∧ w ≤ 5) : NA (lvN N k s p w) := by
  obtain ⟨h0, h1, hV, hR, hP, hL, h2⟩ := h
  have e0 : lvN N k s p w 0 = N 0 + 1 := if_pos rfl
  have eo : ∀ j, j ≠ 0 → (j < 7 + 6 * N 0 ∨ 7 + 6 * N 0 + 5 < j) → lvN N k s p w j = N j := by
    intro j a b
    unfold lvN
    rw [if_neg a, if_neg (by omega), if_neg (by omega), if_neg (by omega), if_neg (by omega), if_neg (by omega), if_neg (by omega)]
  have ev : ∀ i, 0 ≤ i → i ≤ 5 → lvN N k s p w (7 + 6 * N 0 + i) = if i = 5 then 0 else if i = 4 then -1 else if i = 3 then w else if i = 2 then p else if i = 1 then s else k := by
    intro i a b
    unfold lvN
    rw [if_neg (by omega)]
    repeat' split
    all_goals first
      | rfl
      | (exfalso; omega)
  have ev0 := ev 0 (by omega) (by omega)
  have ev1 := ev 1 (by omega) (by omega)
  have ev2 := ev 2 (by omega) (by omega)
  have ev3 := ev 3 (by omega) (by omega)
  have ev4 := ev 4 (by omega) (by omega)
  have ev5 := ev 5 (by omega) (by omega)
  simp at ev0 ev1 ev2 ev3 ev4 ev5
  refine ⟨by omega, ?_, ?_, ?_, ?_, ?_, ?_⟩
  · rw [eo 1 (by omega) (by omega)]; exact h1
  · intro v a b
    by_cases q : v = N 0
    · subst q
      rw [show 7 + 6 * N 0 + 0 = 7 + 6 * N 0 by omega, ev0, ev1, ev2, ev3, ev5]
      omega
    · rw [eo _ (by omega) (by omega), eo _ (by omega) (by omega), eo _ (by omega) (by omega), eo _ (by omega) (by omega), eo _ (by omega) (by omega)]
      exact hV v a (by omega)
  · intro r a b
    rw [eo 1 (by omega) (by omega)] at b
    rw [eo _ (by omega) (by omega), eo _ (by omega) (by omega)]
    exact hR r a b
  · intro r a b
    rw [eo 1 (by omega) (by omega)] at b
    rw [eo _ (by omega) (by omega)]
    exact hP r a b
  · intro v a b
    by_cases q : v = N 0
    · subst q
      exact ev4
    · rw [eo _ (by omega) (by omega)]
      exact hL v a (by omega)
  · rw [eo _ (by omega) (by omega), eo _ (by omega) (by omega), eo _ (by omega) (by omega), eo _ (by omega) (by omega), eo _ (by omega) (by omega)]
    exact h2
theorem NA_r {N : Int → Int} {w p a : Int} (h : NA N) (h6 : N 1 ≠ 6) (hw : 1 ≤ w ∧ w ≤ 9) (hp : 0 ≤ p ∧ p ≤ 999) (ha : 0 ≤ a ∧ a ≤ 6) : NA (lrN N w p a) := by
  obtain ⟨h0, h1, hV, hR, hP, hL, h2⟩ := h
  have e0 : lrN N w p a 1 = N 1 + 1 := if_pos rfl
  have eo : ∀ j, j ≠ 1 → (j < 43 + 3 * N 1 ∨ 43 + 3 * N 1 + 2 < j) → lrN N w p a j = N j := by
    intro j x y
    unfold lrN
    rw [if_neg x, if_neg (by omega), if_neg (by omega), if_neg (by omega)]
  have ev0 : lrN N w p a (43 + 3 * N 1 + 0) = w := by
    unfold lrN
    rw [if_neg (by omega), if_neg (by omega), if_neg (by omega), if_pos rfl]
  have ev1 : lrN N w p a (43 + 3 * N 1 + 1) = p := by
    unfold lrN
    rw [if_neg (by omega), if_neg (by omega), if_pos rfl]
  have ev2 : lrN N w p a (43 + 3 * N 1 + 2) = a := by
    unfold lrN
    rw [if_neg (by omega), if_pos rfl]
  refine ⟨?_, by omega, ?_, ?_, ?_, ?_, ?_⟩
  · rw [eo 0 (by omega) (by omega)]; exact h0
  · intro v x y
    rw [eo 0 (by omega) (by omega)] at y
    rw [eo _ (by omega) (by omega), eo _ (by omega) (by omega), eo _ (by omega) (by omega), eo _ (by omega) (by omega), eo _ (by omega) (by omega)]
    exact hV v x y
  · intro r x y
    by_cases q : r = N 1
    · subst q
      rw [ev0, ev2]; omega
    · rw [eo _ (by omega) (by omega), eo _ (by omega) (by omega)]
      exact hR r x (by omega)
  · intro r x y
    by_cases q : r = N 1
    · subst q
      rw [ev1]; omega
    · rw [eo _ (by omega) (by omega)]
      exact hP r x (by omega)
  · intro v x y
    rw [eo 0 (by omega) (by omega)] at y
    rw [eo _ (by omega) (by omega)]
    exact hL v x y
  · rw [eo _ (by omega) (by omega), eo _ (by omega) (by omega), eo _ (by omega) (by omega), eo _ (by omega) (by omega), eo _ (by omega) (by omega)]
    exact h2
theorem bt_or8 {a v : Int} (ha : 0 ≤ a ∧ a < 256) (hv : 0 ≤ v ∧ v < 8) : 0 ≤ zor a (zshl 1 v) ∧ zor a (zshl 1 v) < 256 := by
  have key : ∀ a, a < 256 → ∀ b, b < 8 → (0 ≤ zor ((a : Nat) : Int) (zshl 1 ((b : Nat) : Int)) ∧ zor ((a : Nat) : Int) (zshl 1 ((b : Nat) : Int)) < 256) := by decide +kernel
  obtain ⟨x, rfl, hx⟩ := toN ha.1 ha.2
  obtain ⟨y, rfl, hy⟩ := toN hv.1 hv.2
  exact key x (by omega) y (by omega)
theorem NA_t {N : Int → Int} {v n : Int} (h : NA N) (hv : 0 ≤ v ∧ v < N 0) (hn : 0 ≤ n ∧ n ≤ 7) : NA (thN N v n) := by
  obtain ⟨h0, h1, hV, hR, hP, hL, h2⟩ := h
  have eo : ∀ j, j ≠ 7 + 6 * v + 5 → thN N v n j = N j := fun j a => if_neg a
  have es : thN N v n (7 + 6 * v + 5) = zor (N (7 + 6 * v + 5)) (zshl 1 n) := if_pos rfl
  have hb := bt_or8 (a := N (7 + 6 * v + 5)) (v := n) (by have := hV v hv.1 hv.2; omega) (by omega)
  refine ⟨?_, ?_, ?_, ?_, ?_, ?_, ?_⟩
  · rw [eo 0 (by omega)]; exact h0
  · rw [eo 1 (by omega)]; exact h1
  · intro u a b
    rw [eo 0 (by omega)] at b
    have hu := hV u a b
    rw [eo _ (by omega), eo _ (by omega), eo _ (by omega), eo _ (by omega)]
    by_cases q : u = v
    · subst q
      rw [es]
      omega
    · rw [eo _ (by omega)]
      exact hu
  · intro r a b
    rw [eo 1 (by omega)] at b
    rw [eo _ (by omega), eo _ (by omega)]
    exact hR r a b
  · intro r a b
    rw [eo 1 (by omega)] at b
    rw [eo _ (by omega)]
    exact hP r a b
  · intro u a b
    rw [eo 0 (by omega)] at b
    rw [eo _ (by omega)]
    exact hL u a b
  · rw [eo _ (by omega), eo _ (by omega), eo _ (by omega), eo _ (by omega), eo _ (by omega)]
    exact h2
section
variable {T : Int → Int} {l f : Int} {N : Int → Int}
/-- what a try at an item tells -/
def itI (T : Int → Int) (l f : Int) (r : Int × Int × (Int → Int)) : Prop := (r.1 = 0 ∨ r.1 = 1) ∧ (f ≤ r.2.1 ∧ r.2.1 ≤ l) ∧ (r.1 = 1 → f < r.2.1 ∧ NA r.2.2)
theorem tEE (h : 0 ≤ f ∧ f ≤ l) : f ≤ tE T l f ∧ tE T l f ≤ l ∧ (tK T l f ≠ 0 → f < tE T l f) := by
  have h1 := tA_rng (T := T) h
  have h2 := tE_rng (T := T) h
  exact ⟨by omega, by omega, fun q => by have := h2.2.2 q; omega⟩
theorem tvw_I (h : 0 ≤ f ∧ f ≤ l) (hk : tK T l f ≠ 0) (hN : NA N) : itI T l f (tvw T l f N) := by
  have a1 := tEE (T := T) h
  have a2 := tEE (T := T) (l := l) (f := tE T l f) (by omega)
  have a3 := tEE (T := T) (l := l) (f := tE T l (tE T l f)) (by omega)
  have a4 := tEE (T := T) (l := l) (f := tE T l (tE T l (tE T l f))) (by omega)
  have a5 := tEE (T := T) (l := l) (f := tE T l (tE T l (tE T l (tE T l f)))) (by omega)
  have a0 := a1.2.2 hk
  unfold tvw
  split
  · exact ⟨Or.inl rfl, ⟨Int.le_refl f, h.2⟩, fun q => absurd q (fun z : (0 : Int) = 1 => by omega)⟩
  rename_i h6
  split
  · exact ⟨Or.inl rfl, ⟨by show f ≤ tE T l f; omega, by show tE T l f ≤ l; omega⟩, fun q => absurd q (fun z : (0 : Int) = 1 => by omega)⟩
  rename_i c1
  split
  · exact ⟨Or.inl rfl, ⟨by show f ≤ tE T l (tE T l f); omega, by show tE T l (tE T l f) ≤ l; omega⟩, fun q => absurd q (fun z : (0 : Int) = 1 => by omega)⟩
  rename_i c2
  split
  · exact ⟨Or.inl rfl, ⟨by show f ≤ tE T l (tE T l (tE T l f)); omega, by show tE T l (tE T l (tE T l f)) ≤ l; omega⟩, fun q => absurd q (fun z : (0 : Int) = 1 => by omega)⟩
  rename_i c3
  split
  · exact ⟨Or.inl rfl, ⟨by show f ≤ tE T l (tE T l (tE T l (tE T l f))); omega, by show tE T l (tE T l (tE T l (tE T l f))) ≤ l; omega⟩, fun q => absurd q (fun z : (0 : Int) = 1 => by omega)⟩
  rename_i c4
  have c1 := Classical.not_not.mp c1
  have c2 := Classical.not_not.mp c2
  have c3 := Classical.not_not.mp c3
  have c4 := Classical.not_not.mp c4
  refine ⟨Or.inr rfl, ⟨?_, ?_⟩, fun _ => ⟨?_, NA_v hN h6 c1.2 c2.2 c3.2 c4.2⟩⟩
  · show f ≤ tE T l (tE T l (tE T l (tE T l (tE T l f)))); omega
  · show tE T l (tE T l (tE T l (tE T l (tE T l f)))) ≤ l; omega
  · show f < tE T l (tE T l (tE T l (tE T l (tE T l f)))); omega
theorem trn_I (h : 0 ≤ f ∧ f ≤ l) (hk : tK T l f ≠ 0) (hN : NA N) : itI T l f (trn T l f N) := by
  have a1 := tEE (T := T) h
  have a2 := tEE (T := T) (l := l) (f := tE T l f) (by omega)
  have a3 := tEE (T := T) (l := l) (f := tE T l (tE T l f)) (by omega)
  have a4 := tEE (T := T) (l := l) (f := tE T l (tE T l (tE T l f))) (by omega)
  have a0 := a1.2.2 hk
  unfold trn
  split
  · exact ⟨Or.inl rfl, ⟨Int.le_refl f, h.2⟩, fun q => absurd q (fun z : (0 : Int) = 1 => by omega)⟩
  rename_i h6
  split
  · exact ⟨Or.inl rfl, ⟨by show f ≤ tE T l f; omega, by show tE T l f ≤ l; omega⟩, fun q => absurd q (fun z : (0 : Int) = 1 => by omega)⟩
  rename_i c1
  split
  · exact ⟨Or.inl rfl, ⟨by show f ≤ tE T l (tE T l f); omega, by show tE T l (tE T l f) ≤ l; omega⟩, fun q => absurd q (fun z : (0 : Int) = 1 => by omega)⟩
  rename_i c2
  split
  · exact ⟨Or.inl rfl, ⟨by show f ≤ tE T l (tE T l (tE T l f)); omega, by show tE T l (tE T l (tE T l f)) ≤ l; omega⟩, fun q => absurd q (fun z : (0 : Int) = 1 => by omega)⟩
  rename_i c3
  have c1 := Classical.not_not.mp c1
  have c2 := Classical.not_not.mp c2
  have c3 := Classical.not_not.mp c3
  refine ⟨Or.inr rfl, ⟨?_, ?_⟩, fun _ => ⟨?_, NA_r hN h6 c1.2 c2.2 c3.2⟩⟩
  · show f ≤ tE T l (tE T l (tE T l (tE T l f))); omega
  · show tE T l (tE T l (tE T l (tE T l f))) ≤ l; omega
  · show f < tE T l (tE T l (tE T l (tE T l f))); omega
theorem tth_I (h : 0 ≤ f ∧ f ≤ l) (hk : tK T l f ≠ 0) (hN : NA N) : itI T l f (tth T l f N) := by
  have a1 := tEE (T := T) h
  have a2 := tEE (T := T) (l := l) (f := tE T l f) (by omega)
  have a3 := tEE (T := T) (l := l) (f := tE T l (tE T l f)) (by omega)
  have a0 := a1.2.2 hk
  unfold tth
  split
  · exact ⟨Or.inl rfl, ⟨by show f ≤ tE T l f; omega, by show tE T l f ≤ l; omega⟩, fun q => absurd q (fun z : (0 : Int) = 1 => by omega)⟩
  rename_i c1
  split
  · exact ⟨Or.inl rfl, ⟨by show f ≤ tE T l (tE T l f); omega, by show tE T l (tE T l f) ≤ l; omega⟩, fun q => absurd q (fun z : (0 : Int) = 1 => by omega)⟩
  rename_i c2
  have c1 := Classical.not_not.mp c1
  have c2 := Classical.not_not.mp c2
  refine ⟨Or.inr rfl, ⟨?_, ?_⟩, fun _ => ⟨?_, NA_t hN ⟨c1.2.1, by have := c1.2.2; omega⟩ c2.2⟩⟩
  · show f ≤ tE T l (tE T l (tE T l f)); omega
  · show tE T l (tE T l (tE T l f)) ≤ l; omega
  · show f < tE T l (tE T l (tE T l f)); omega
theorem itp_I (h : 0 ≤ f ∧ f ≤ l) (hk : tK T l f ≠ 0) (hN : NA N) : itI T l f (itp T l f N) := by
  unfold itp
  split
  · exact tvw_I h hk hN
  split
  · exact trn_I h hk hN
  split
  · exact tth_I h hk hN
  · exact ⟨Or.inl rfl, ⟨Int.le_refl f, h.2⟩, fun q => absurd q (fun z : (0 : Int) = 1 => by omega)⟩
end
