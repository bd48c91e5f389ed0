set_option maxRecDepth 100000 in
theorem x12_run : xrun [] 300 10 n_X12_init 0 [.ref 168] [] (zml mu0 0 sh168 ++ [(12, dfl 12)]) = some (none, zml mu0 0 (sh168 ++ pst168)) := by decide +kernel
theorem x12_init {ext : List xC} : EvM ext 10 n_X12_init [.ref 168] (hz sh168 mu0 ++ [(12, dfl 12)]) none (hz (sh168 ++ pst168) mu0) := by
  rw [← zml_hz, ← zml_hz]
  exact ⟨300, xrun_ext 300 x12_run⟩
theorem sh168_len : sh168.length = 168 := by decide +kernel
theorem sh0_lo {k : Nat} {c : Nat × List zD} (h : pre22[k]? = some c) : (sh168 ++ pst168)[k]? = some c := by
  have h1 : (pre22 ++ spS 22)[k]? = some c := by
    rw [List.getElem?_append_left (List.getElem?_eq_some_iff.mp h).1]
    exact h
  have h2 : sh168[k]? = some c := by
    unfold sh168
    rw [List.getElem?_append_left (List.getElem?_eq_some_iff.mp h1).1]
    exact h1
  rw [List.getElem?_append_left (List.getElem?_eq_some_iff.mp h2).1]
  exact h2
theorem sh0_hi {k : Nat} {c : Nat × List zD} (h : pst168[k]? = some c) : (sh168 ++ pst168)[168 + k]? = some c := by
  rw [List.getElem?_append_right (by rw [sh168_len]; omega), sh168_len, show 168 + k - 168 = k by omega]
  exact h
theorem lay0 {p : Int} : zlay (sh168 ++ pst168) 0 p := by
  intro q hq
  rcases List.mem_cons.mp hq with rfl | hq
  · exact fun _ => ⟨by show (0 : Int) ≤ 168; omega, sh0_hi (k := 0) rfl⟩
  rcases List.mem_cons.mp hq with rfl | hq
  · exact fun _ => ⟨by show (0 : Int) ≤ 169; omega, sh0_hi (k := 1) rfl⟩
  rcases List.mem_cons.mp hq with rfl | hq
  · intro h; exact absurd h (by decide)
  rcases List.mem_cons.mp hq with rfl | hq
  · intro h; exact absurd h (by decide)
  rcases List.mem_cons.mp hq with rfl | hq
  · intro h; exact absurd h (by decide)
  rcases List.mem_cons.mp hq with rfl | hq
  · intro h; exact absurd h (by decide)
  rcases List.mem_cons.mp hq with rfl | hq
  · intro h; exact absurd h (by decide)
  rcases List.mem_cons.mp hq with rfl | hq
  · intro h; exact absurd h (by decide)
  rcases List.mem_cons.mp hq with rfl | hq
  · intro h; exact absurd h (by decide)
  rcases List.mem_cons.mp hq with rfl | hq
  · intro h; exact absurd h (by decide)
  rcases List.mem_cons.mp hq with rfl | hq
  · intro h; exact absurd h (by decide)
  rcases List.mem_cons.mp hq with rfl | hq
  · intro h; exact absurd h (by decide)
  rcases List.mem_cons.mp hq with rfl | hq
  · intro h; exact absurd h (by decide)
  rcases List.mem_cons.mp hq with rfl | hq
  · intro h; exact absurd h (by decide)
  rcases List.mem_cons.mp hq with rfl | hq
  · intro h; exact absurd h (by decide)
  rcases List.mem_cons.mp hq with rfl | hq
  · intro h; exact absurd h (by decide)
  rcases List.mem_cons.mp hq with rfl | hq
  · intro h; exact absurd h (by decide)
  rcases List.mem_cons.mp hq with rfl | hq
  · intro h; exact absurd h (by decide)
  rcases List.mem_cons.mp hq with rfl | hq
  · intro h; exact absurd h (by decide)
  rcases List.mem_cons.mp hq with rfl | hq
  · intro h; exact absurd h (by decide)
  rcases List.mem_cons.mp hq with rfl | hq
  · intro h; exact absurd h (by decide)
  rcases List.mem_cons.mp hq with rfl | hq
  · exact fun _ => ⟨by show (0 : Int) ≤ 0; omega, sh0_lo (k := 0) rfl⟩
  rcases List.mem_cons.mp hq with rfl | hq
  · exact fun _ => ⟨by show (0 : Int) ≤ 1; omega, sh0_lo (k := 1) rfl⟩
  rcases List.mem_cons.mp hq with rfl | hq
  · exact fun _ => ⟨by show (0 : Int) ≤ 3; omega, sh0_lo (k := 3) rfl⟩
  rcases List.mem_cons.mp hq with rfl | hq
  · exact fun _ => ⟨by show (0 : Int) ≤ 2; omega, sh0_lo (k := 2) rfl⟩
  rcases List.mem_cons.mp hq with rfl | hq
  · exact fun _ => ⟨by show (0 : Int) ≤ 4; omega, sh0_lo (k := 4) rfl⟩
  rcases List.mem_cons.mp hq with rfl | hq
  · exact fun _ => ⟨by show (0 : Int) ≤ 5; omega, sh0_lo (k := 5) rfl⟩
  rcases List.mem_cons.mp hq with rfl | hq
  · exact fun _ => ⟨by show (0 : Int) ≤ 6; omega, sh0_lo (k := 6) rfl⟩
  rcases List.mem_cons.mp hq with rfl | hq
  · exact fun _ => ⟨by show (0 : Int) ≤ 7; omega, sh0_lo (k := 7) rfl⟩
  rcases List.mem_cons.mp hq with rfl | hq
  · exact fun _ => ⟨by show (0 : Int) ≤ 8; omega, sh0_lo (k := 8) rfl⟩
  rcases List.mem_cons.mp hq with rfl | hq
  · exact fun _ => ⟨by show (0 : Int) ≤ 17; omega, sh0_lo (k := 17) rfl⟩
  rcases List.mem_cons.mp hq with rfl | hq
  · exact fun _ => ⟨by show (0 : Int) ≤ 9; omega, sh0_lo (k := 9) rfl⟩
  rcases List.mem_cons.mp hq with rfl | hq
  · intro h; exact absurd h (by decide)
  rcases List.mem_cons.mp hq with rfl | hq
  · exact fun _ => ⟨by show (0 : Int) ≤ 18; omega, sh0_lo (k := 18) rfl⟩
  rcases List.mem_cons.mp hq with rfl | hq
  · exact fun _ => ⟨by show (0 : Int) ≤ 19; omega, sh0_lo (k := 19) rfl⟩
  rcases List.mem_cons.mp hq with rfl | hq
  · exact fun _ => ⟨by show (0 : Int) ≤ 20; omega, sh0_lo (k := 20) rfl⟩
  rcases List.mem_cons.mp hq with rfl | hq
  · exact fun _ => ⟨by show (0 : Int) ≤ 21; omega, sh0_lo (k := 21) rfl⟩
  rcases List.mem_cons.mp hq with rfl | hq
  · exact fun _ => ⟨by show (0 : Int) ≤ 170; omega, sh0_hi (k := 2) rfl⟩
  rcases List.mem_cons.mp hq with rfl | hq
  · exact fun _ => ⟨by show (0 : Int) ≤ 171; omega, sh0_hi (k := 3) rfl⟩
  rcases List.mem_cons.mp hq with rfl | hq
  · exact fun _ => ⟨by show (0 : Int) ≤ 172; omega, sh0_hi (k := 4) rfl⟩
  rcases List.mem_cons.mp hq with rfl | hq
  · exact fun _ => ⟨by show (0 : Int) ≤ 173; omega, sh0_hi (k := 5) rfl⟩
  rcases List.mem_cons.mp hq with rfl | hq
  · exact fun _ => ⟨by show (0 : Int) ≤ 174; omega, sh0_hi (k := 6) rfl⟩
  rcases List.mem_cons.mp hq with rfl | hq
  · exact fun _ => ⟨by show (0 : Int) ≤ 175; omega, sh0_hi (k := 7) rfl⟩
  rcases List.mem_cons.mp hq with rfl | hq
  · exact fun _ => ⟨by show (0 : Int) ≤ 176; omega, sh0_hi (k := 8) rfl⟩
  rcases List.mem_cons.mp hq with rfl | hq
  · exact fun _ => ⟨by show (0 : Int) ≤ 177; omega, sh0_hi (k := 9) rfl⟩
  rcases List.mem_cons.mp hq with rfl | hq
  · exact fun _ => ⟨by show (0 : Int) ≤ 178; omega, sh0_hi (k := 10) rfl⟩
  rcases List.mem_cons.mp hq with rfl | hq
  · exact fun _ => ⟨by show (0 : Int) ≤ 179; omega, sh0_hi (k := 11) rfl⟩
  rcases List.mem_cons.mp hq with rfl | hq
  · exact fun _ => ⟨by show (0 : Int) ≤ 180; omega, sh0_hi (k := 12) rfl⟩
  rcases List.mem_cons.mp hq with rfl | hq
  · exact fun _ => ⟨by show (0 : Int) ≤ 181; omega, sh0_hi (k := 13) rfl⟩
  rcases List.mem_cons.mp hq with rfl | hq
  · exact fun _ => ⟨by show (0 : Int) ≤ 182; omega, sh0_hi (k := 14) rfl⟩
  rcases List.mem_cons.mp hq with rfl | hq
  · exact fun _ => ⟨by show (0 : Int) ≤ 183; omega, sh0_hi (k := 15) rfl⟩
  exact absurd hq (List.not_mem_nil)
theorem lay3 {p : Int} (h0 : 0 ≤ p) (h7 : p < 7) : zlay (sh168 ++ pst168) 3 p := by
  have hp : p = 0 ∨ p = 1 ∨ p = 2 ∨ p = 3 ∨ p = 4 ∨ p = 5 ∨ p = 6 := by omega
  intro q hq
  rcases List.mem_cons.mp hq with rfl | hq
  · intro h; exact absurd h (by decide)
  rcases List.mem_cons.mp hq with rfl | hq
  · intro h; exact absurd h (by decide)
  rcases List.mem_cons.mp hq with rfl | hq
  · intro h; exact absurd h (by decide)
  rcases List.mem_cons.mp hq with rfl | hq
  · intro h; exact absurd h (by decide)
  rcases List.mem_cons.mp hq with rfl | hq
  · intro h; exact absurd h (by decide)
  rcases List.mem_cons.mp hq with rfl | hq
  · intro h; exact absurd h (by decide)
  rcases List.mem_cons.mp hq with rfl | hq
  · intro h; exact absurd h (by decide)
  rcases List.mem_cons.mp hq with rfl | hq
  · intro h; exact absurd h (by decide)
  rcases List.mem_cons.mp hq with rfl | hq
  · intro h; exact absurd h (by decide)
  rcases List.mem_cons.mp hq with rfl | hq
  · intro h; exact absurd h (by decide)
  rcases List.mem_cons.mp hq with rfl | hq
  · intro h; exact absurd h (by decide)
  rcases List.mem_cons.mp hq with rfl | hq
  · intro h; exact absurd h (by decide)
  rcases List.mem_cons.mp hq with rfl | hq
  · intro h; exact absurd h (by decide)
  rcases List.mem_cons.mp hq with rfl | hq
  · intro h; exact absurd h (by decide)
  rcases List.mem_cons.mp hq with rfl | hq
  · intro h; exact absurd h (by decide)
  rcases List.mem_cons.mp hq with rfl | hq
  · intro h; exact absurd h (by decide)
  rcases List.mem_cons.mp hq with rfl | hq
  · intro h; exact absurd h (by decide)
  rcases List.mem_cons.mp hq with rfl | hq
  · intro h; exact absurd h (by decide)
  rcases List.mem_cons.mp hq with rfl | hq
  · intro h; exact absurd h (by decide)
  rcases List.mem_cons.mp hq with rfl | hq
  · intro h; exact absurd h (by decide)
  rcases List.mem_cons.mp hq with rfl | hq
  · intro h; exact absurd h (by decide)
  rcases List.mem_cons.mp hq with rfl | hq
  · intro h; exact absurd h (by decide)
  rcases List.mem_cons.mp hq with rfl | hq
  · intro h; exact absurd h (by decide)
  rcases List.mem_cons.mp hq with rfl | hq
  · intro h; exact absurd h (by decide)
  rcases List.mem_cons.mp hq with rfl | hq
  · intro h; exact absurd h (by decide)
  rcases List.mem_cons.mp hq with rfl | hq
  · intro h; exact absurd h (by decide)
  rcases List.mem_cons.mp hq with rfl | hq
  · intro h; exact absurd h (by decide)
  rcases List.mem_cons.mp hq with rfl | hq
  · intro h; exact absurd h (by decide)
  rcases List.mem_cons.mp hq with rfl | hq
  · intro h; exact absurd h (by decide)
  rcases List.mem_cons.mp hq with rfl | hq
  · intro h; exact absurd h (by decide)
  rcases List.mem_cons.mp hq with rfl | hq
  · intro h; exact absurd h (by decide)
  rcases List.mem_cons.mp hq with rfl | hq
  · intro h; exact absurd h (by decide)
  rcases List.mem_cons.mp hq with rfl | hq
  · intro _
    refine ⟨by show 0 ≤ p + 10; omega, ?_⟩
    rcases hp with rfl | rfl | rfl | rfl | rfl | rfl | rfl
    · exact sh0_lo (k := 10) rfl
    · exact sh0_lo (k := 11) rfl
    · exact sh0_lo (k := 12) rfl
    · exact sh0_lo (k := 13) rfl
    · exact sh0_lo (k := 14) rfl
    · exact sh0_lo (k := 15) rfl
    · exact sh0_lo (k := 16) rfl
  rcases List.mem_cons.mp hq with rfl | hq
  · intro h; exact absurd h (by decide)
  rcases List.mem_cons.mp hq with rfl | hq
  · intro h; exact absurd h (by decide)
  rcases List.mem_cons.mp hq with rfl | hq
  · intro h; exact absurd h (by decide)
  rcases List.mem_cons.mp hq with rfl | hq
  · intro h; exact absurd h (by decide)
  rcases List.mem_cons.mp hq with rfl | hq
  · intro h; exact absurd h (by decide)
  rcases List.mem_cons.mp hq with rfl | hq
  · intro h; exact absurd h (by decide)
  rcases List.mem_cons.mp hq with rfl | hq
  · intro h; exact absurd h (by decide)
  rcases List.mem_cons.mp hq with rfl | hq
  · intro h; exact absurd h (by decide)
  rcases List.mem_cons.mp hq with rfl | hq
  · intro h; exact absurd h (by decide)
  rcases List.mem_cons.mp hq with rfl | hq
  · intro h; exact absurd h (by decide)
  rcases List.mem_cons.mp hq with rfl | hq
  · intro h; exact absurd h (by decide)
  rcases List.mem_cons.mp hq with rfl | hq
  · intro h; exact absurd h (by decide)
  rcases List.mem_cons.mp hq with rfl | hq
  · intro h; exact absurd h (by decide)
  rcases List.mem_cons.mp hq with rfl | hq
  · intro h; exact absurd h (by decide)
  rcases List.mem_cons.mp hq with rfl | hq
  · intro h; exact absurd h (by decide)
  rcases List.mem_cons.mp hq with rfl | hq
  · intro h; exact absurd h (by decide)
  rcases List.mem_cons.mp hq with rfl | hq
  · intro h; exact absurd h (by decide)
  rcases List.mem_cons.mp hq with rfl | hq
  · intro h; exact absurd h (by decide)
  exact absurd hq (List.not_mem_nil)
theorem wl0 : Wl (sh168 ++ pst168) := ⟨fun p => lay0, fun p a b => lay3 a b⟩
theorem sh22 : Sh (sh168 ++ pst168) 22 := by
  have h : Sh (pre22 ++ spS 22) 22 := spS_sh (σ := pre22) (n := 22) rfl
  exact h.app.app
theorem sh95 : Sh (sh168 ++ pst168) 95 := by
  have h : Sh ((pre22 ++ spS 22) ++ spS 95) 95 := spS_sh (σ := pre22 ++ spS 22) (n := 95) rfl
  exact h.app
theorem ws0 : WS (sh168 ++ pst168) mu0 0 := by
  have e162 : ∀ j, mu0 169 j = 0 := fun j => rfl
  have e29 : mu0 0 5 = 22 := rfl
  refine ⟨⟨wl0, fun r _ _ => rfl⟩, ?_, ?_, ⟨?_, ?_⟩, ?_, ⟨rfl, rfl⟩, fun i _ _ => rfl, ⟨Or.inl ⟨rfl, rfl⟩, Or.inl ⟨rfl, rfl⟩⟩, Or.inl ⟨rfl, rfl, rfl⟩, Or.inl ⟨rfl, rfl⟩, sh22, sh95⟩
  · unfold NI NV NR ND BN BI
    simp only [e162]
    refine ⟨by omega, fun v a b => by omega, fun v a b => by omega, fun v a b => by omega, ⟨by omega, by omega, fun v a b => by omega, fun v a b => by omega, fun v w a b => by omega, fun v a b => by omega, by omega⟩, fun v a b => by omega⟩
  · rw [e29]
    unfold RS RV RR RD RN BR
    simp only [e162]
    refine ⟨⟨rfl, rfl, rfl, rfl⟩, fun v a b => by omega, fun v a b => by omega, fun v a b => by omega, ⟨⟨rfl, rfl, rfl⟩, fun v a b => by omega, fun v a b => by omega, fun v a b => rfl, fun v a b => by omega⟩, fun v a b => by omega⟩
  · have e : ∀ u, mu0 (22 + 24) u = 47 + 6 * u := fun u => rfl
    refine ⟨fun u a b => ?_, fun u w a b c d h => ?_⟩
    · rw [e]; omega
    · rw [e, e] at h; omega
  · have e : ∀ u, mu0 (95 + 24) u = 120 + 6 * u := fun u => rfl
    refine ⟨fun u a b => ?_, fun u w a b c d h => ?_⟩
    · rw [e]; omega
    · rw [e, e] at h; omega
  · have e : mu0 2 1 = 0 := rfl
    refine ⟨⟨by omega, by omega, rfl⟩, fun j a b => by omega⟩
theorem ns12 : xadd (hz sh168 mu0) (12, dfl 12) = some (hz sh168 mu0 ++ [(12, dfl 12)]) := by
  unfold xadd
  rw [if_pos ⟨by rw [hz_len, sh168_len]; omega, by decide⟩]
-- the whole law's run
set_option maxRecDepth 100000 in set_option maxHeartbeats 4000000 in theorem law_run {Ln : Nat} {xs : Nat → Int32} (hL : Ln ≤ 320) : ∃ (n : Nat) (hf : xH), hf.length ≤ 5000 ∧ xrun (xext Ln xs) n 11 226 0 [.retAddr 0, xU, xU, xU] [] [] = some (some (.int 1), hf) := by
  obtain ⟨hf, hlen, k⟩ := law_loop (xs := xs) hL 65 0 _ _ (by omega) (by omega) ws0
  have k : Ev (xext Ln xs) 11 n_L_law 18 [.retAddr 0, .ref 0, .ref 168, .int 0] [] (hz (sh168 ++ pst168) mu0) (some (.int 1)) hf := k
  have k1 : Ev (xext Ln xs) 11 n_L_law 15 [.retAddr 0, .ref 0, xU, xU] [.ref 168] (hz (sh168 ++ pst168) mu0) (some (.int 1)) hf := Ev.go 3 rfl k
  have hl : (hz sh168 mu0).length = 168 := by rw [hz_len, sh168_len]
  have k2 : Ev (xext Ln xs) 11 n_L_law 12 [.retAddr 0, .ref 0, xU, xU] [.ref 168, .ref 168] (hz sh168 mu0 ++ [(12, dfl 12)]) (some (.int 1)) hf := by
    refine Ev.u (na := 0) (mj := n_X12_init) (rest := [.ref 168]) (a := 168) (ci := 12) (fs := dfl 12) rfl rfl ?_ rfl (Nat.le_of_ble_eq_true rfl) (Nat.le_of_ble_eq_true rfl) x12_init k1
    rw [List.getElem?_append_right (by omega), hl]
    rfl
  have k3 : Ev (xext Ln xs) 11 n_L_law 8 [.retAddr 0, .ref 0, xU, xU] [] (hz sh168 mu0) (some (.int 1)) hf := by
    refine Ev.s (q := (.new 10, 11, [12])) rfl (w := (11, [.retAddr 0, .ref 0, xU, xU], [.ref 168], hz sh168 mu0 ++ [(12, dfl 12)])) ?_ ?_
    · show (xadd (hz sh168 mu0) (12, dfl 12)).bind (fun h' => some (11, [.retAddr 0, .ref 0, xU, xU], Value.ref (hz sh168 mu0).length :: [], h')) = _
      rw [ns12, Option.bind_some, hl]
    · exact Ev.s (q := (.dup, 12, [])) rfl rfl k2
  have k4 : Ev (xext Ln xs) 11 n_L_law 7 [.retAddr 0, xU, xU, xU] [.ref 0] (hz sh168 mu0) (some (.int 1)) hf := Ev.go 1 rfl k3
  have k5 : Ev (xext Ln xs) 11 n_L_law 4 [.retAddr 0, xU, xU, xU] [.ref 0, .ref 0] [(11, dfl 11)] (some (.int 1)) hf :=
    Ev.u (na := 0) (mj := n_X11_init) (rest := [.ref 0]) (a := 0) (ci := 11) (fs := dfl 11) rfl rfl rfl rfl (Nat.le_of_ble_eq_true rfl) (Nat.le_of_ble_eq_true rfl) x11_init k4
  have k6 : Ev (xext Ln xs) 11 n_L_law 0 [.retAddr 0, xU, xU, xU] [] [] (some (.int 1)) hf := by
    refine Ev.s (q := (.new 7, 3, [11])) rfl (w := (3, [.retAddr 0, xU, xU, xU], [.ref 0], [(11, dfl 11)])) rfl ?_
    exact Ev.s (q := (.dup, 4, [])) rfl rfl k5
  obtain ⟨n, hn⟩ := k6
  exact ⟨n, hf, hlen, hn⟩
