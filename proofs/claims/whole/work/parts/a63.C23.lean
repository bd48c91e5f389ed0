theorem gcd_steps : ∀ (k : Nat) (a b : Nat), b < 2 ^ k → ∀ n, 2 * k + 1 ≤ n → ∃ m, m ≤ n ∧ Nat.repeat (fun p : Nat × Nat => (p.2, p.1 % p.2)) m (a, b) = (Nat.gcd a b, 0)
  | 0, a, b, hb, n, hn => by
    have : b = 0 := by omega
    subst this
    exact ⟨0, by omega, by rw [Nat.gcd_zero_right]; rfl⟩
  | k + 1, a, b, hb, n, hn => by
    have rep : ∀ (m : Nat) (p : Nat × Nat), Nat.repeat (fun p : Nat × Nat => (p.2, p.1 % p.2)) (m + 1) p = Nat.repeat (fun p : Nat × Nat => (p.2, p.1 % p.2)) m (p.2, p.1 % p.2) := by
      intro m
      induction m with
      | zero => intro p; rfl
      | succ m ih =>
        intro p
        show (fun p : Nat × Nat => (p.2, p.1 % p.2)) (Nat.repeat (fun p : Nat × Nat => (p.2, p.1 % p.2)) (m + 1) p) = (fun p : Nat × Nat => (p.2, p.1 % p.2)) (Nat.repeat (fun p : Nat × Nat => (p.2, p.1 % p.2)) m (p.2, p.1 % p.2))
        rw [ih p]
    by_cases h0 : b = 0
    · subst h0
      exact ⟨0, by omega, by rw [Nat.gcd_zero_right]; rfl⟩
    · have h1 : a % b < b := Nat.mod_lt _ (by omega)
      by_cases h2 : a % b = 0
      · refine ⟨1, by omega, ?_⟩
        rw [rep]
        show (b, a % b) = _
        rw [h2, Nat.gcd_comm, Nat.gcd_rec, h2, Nat.gcd_zero_left]
      · have h3 : b % (a % b) < a % b := Nat.mod_lt _ (by omega)
        have h4 : b % (a % b) < 2 ^ k := by
          have h5 : b = (a % b) * (b / (a % b)) + b % (a % b) := (Nat.div_add_mod b (a % b)).symm
          have h6 : 1 ≤ b / (a % b) := Nat.div_pos (by omega) (by omega)
          have h7 : (a % b) * 1 ≤ (a % b) * (b / (a % b)) := Nat.mul_le_mul_left _ h6
          have h8 : 2 ^ (k + 1) = 2 * 2 ^ k := by rw [Nat.pow_succ, Nat.mul_comm]
          omega
        obtain ⟨m, hm, e⟩ := gcd_steps k (a % b) (b % (a % b)) h4 (n - 2) (by omega)
        refine ⟨m + 2, by omega, ?_⟩
        rw [rep, rep]
        show Nat.repeat _ m (a % b, b % (a % b)) = _
        rw [e, Nat.gcd_comm a b, Nat.gcd_rec b a, Nat.gcd_rec (a % b) b, Nat.gcd_comm]
section
variable {ext : List xC} {σ : zSh} {d : Nat} {μ : zM} {t : Int} {N : Int → Int}
set_option maxRecDepth 100000 in set_option maxHeartbeats 4000000 in theorem k_c_gcd {a b : Int} (hW : Wl σ) (ha : 0 ≤ a ∧ a < 1000000000000) (hb : 0 < b ∧ b ≤ 1000000) : ZM ext d n_X11_greatestCommon [(1, a), (1, b)] σ μ (some (1, (Nat.gcd a.toNat b.toNat : Int))) μ := by
  apply ZQ.ex
  have hG : 0 < Nat.gcd a.toNat b.toNat := Nat.gcd_pos_of_pos_right _ (by omega)
  have hGle : Nat.gcd a.toNat b.toNat ≤ b.toNat := Nat.gcd_le_right _ (by omega)
  generalize hg : Nat.gcd a.toNat b.toNat = G at *
  have rep : ∀ (m : Nat) (p : Nat × Nat), Nat.repeat (fun p : Nat × Nat => (p.2, p.1 % p.2)) (m + 1) p = Nat.repeat (fun p : Nat × Nat => (p.2, p.1 % p.2)) m (p.2, p.1 % p.2) := by
    intro m
    induction m with
    | zero => intro p; rfl
    | succ m ih =>
      intro p
      show (fun p : Nat × Nat => (p.2, p.1 % p.2)) (Nat.repeat (fun p : Nat × Nat => (p.2, p.1 % p.2)) (m + 1) p) = (fun p : Nat × Nat => (p.2, p.1 % p.2)) (Nat.repeat (fun p : Nat × Nat => (p.2, p.1 % p.2)) m (p.2, p.1 % p.2))
      rw [ih p]
  have fin : ∀ (i : Int) (x y : V), 0 ≤ i → i ≤ 100 → ZE ext d n_X11_greatestCommon 3 [(1, (G : Int)), (4, 0), (1, 0), (4, 0), (0, i), x, y] [] σ μ (fun rv μ' => rv = some (1, (G : Int)) ∧ μ' = μ) := by
    intro i x y h0 h1
    have hz := zcmp_eq (x := 0) (y := 0)
    have hz2 := zcmp_eq (x := (G : Int)) (y := 0)
    refine ZE.go hW 9999 rfl (by repeat' first | exact True.intro | omega | assumption | apply And.intro | (simp (disch := omega) only [up_n, up_e]; omega)) ?_
    refine ZE.b rfl (by omega) (by omega) ?_ ?_ <;> intro g1
    · refine ZE.go hW 9999 rfl (by repeat' first | exact True.intro | omega | assumption | apply And.intro | (simp (disch := omega) only [up_n, up_e]; omega)) ?_
      refine ZE.b0 rfl (zcmp_rng) ?_ ?_ <;> intro g2
      · refine ZE.go hW 9999 rfl (by repeat' first | exact True.intro | omega | assumption | apply And.intro | (simp (disch := omega) only [up_n, up_e]; omega)) ?_
        refine ZE.rl rfl rfl ?_
        exact ⟨rfl, rfl⟩
      · omega
    · refine ZE.go hW 9999 rfl (by repeat' first | exact True.intro | omega | assumption | apply And.intro | (simp (disch := omega) only [up_n, up_e]; omega)) ?_
      refine ZE.b0 rfl (zcmp_rng) ?_ ?_ <;> intro g2
      · refine ZE.go hW 9999 rfl (by repeat' first | exact True.intro | omega | assumption | apply And.intro | (simp (disch := omega) only [up_n, up_e]; omega)) ?_
        refine ZE.b0 rfl (zcmp_rng) ?_ ?_ <;> intro g3
        · refine ZE.go hW 9999 rfl (by repeat' first | exact True.intro | omega | assumption | apply And.intro | (simp (disch := omega) only [up_n, up_e]; omega)) ?_
          refine ZE.rl rfl rfl ?_
          exact ⟨rfl, rfl⟩
        · omega
      · omega
  have loop : ∀ (m : Nat) (i : Int) (p q : Nat) (x y : V), 0 ≤ i → i + m ≤ 100 → p < 1000000000000 → q ≤ 1000000 → Nat.repeat (fun p : Nat × Nat => (p.2, p.1 % p.2)) m (p, q) = (G, 0) → ZE ext d n_X11_greatestCommon 3 [(1, (p : Int)), (4, 0), (1, (q : Int)), (4, 0), (0, i), x, y] [] σ μ (fun rv μ' => rv = some (1, (G : Int)) ∧ μ' = μ) := by
    intro m
    induction m with
    | zero =>
      intro i p q x y h0 h1 hp hq e
      have e : (p, q) = (G, 0) := e
      injection e with e1 e2
      subst e1 e2
      exact fin i x y h0 (by omega)
    | succ m ih =>
      intro i p q x y h0 h1 hp hq e
      by_cases q0 : q = 0
      · subst q0
        have hgcd : ∀ (m : Nat) (z : Nat × Nat), Nat.gcd (Nat.repeat (fun p : Nat × Nat => (p.2, p.1 % p.2)) m z).1 (Nat.repeat (fun p : Nat × Nat => (p.2, p.1 % p.2)) m z).2 = Nat.gcd z.1 z.2 := by
          intro m
          induction m with
          | zero => intro z; rfl
          | succ m ih2 =>
            intro z
            rw [rep, ih2]
            show Nat.gcd z.2 (z.1 % z.2) = Nat.gcd z.1 z.2
            rw [Nat.gcd_comm z.1 z.2, Nat.gcd_rec z.2 z.1, Nat.gcd_comm]
        have h9 := hgcd (m + 1) (p, 0)
        rw [e] at h9
        have h9 : Nat.gcd G 0 = Nat.gcd p 0 := h9
        rw [Nat.gcd_zero_right, Nat.gcd_zero_right] at h9
        subst h9
        exact fin i x y h0 (by omega)
      · have hlt : p % q < q := Nat.mod_lt _ (by omega)
        rw [rep] at e
        have hz := zcmp_eq (x := (q : Int)) (y := 0)
        refine ZE.go hW 9999 rfl (by repeat' first | exact True.intro | omega | assumption | apply And.intro | (simp (disch := omega) only [up_n, up_e]; omega)) ?_
        refine ZE.b rfl (by omega) (by omega) ?_ ?_ <;> intro g1
        · omega
        · refine ZE.go hW 9999 rfl (by repeat' first | exact True.intro | omega | assumption | apply And.intro | (simp (disch := omega) only [up_n, up_e]; omega)) ?_
          refine ZE.b0 rfl (zcmp_rng) ?_ ?_ <;> intro g2
          · omega
          · refine ZE.go hW 3 rfl (by repeat' first | exact True.intro | omega | assumption | apply And.intro | (simp (disch := omega) only [up_n, up_e]; omega)) ?_
            rw [show (p : Int) % (q : Int) = ((p % q : Nat) : Int) by omega]
            exact ih (i + 1) q (p % q) _ _ (by omega) (by omega) (by omega) (by omega) e
  obtain ⟨m, hm, e⟩ := gcd_steps 20 a.toNat b.toNat (by omega) 99 (by omega)
  rw [hg] at e
  refine ZQ.i rfl ?_
  refine ZE.go hW 3 rfl (by repeat' first | exact True.intro | omega | assumption | apply And.intro | (simp (disch := omega) only [up_n, up_e]; omega)) ?_
  have := loop m 0 a.toNat b.toNat (4, 0) (4, 0) (by omega) (by omega) (by omega) (by omega) e
  rw [Int.toNat_of_nonneg ha.1, Int.toNat_of_nonneg (show 0 ≤ b by omega)] at this
  exact this
set_option maxRecDepth 100000 in set_option maxHeartbeats 4000000 in theorem k_x_odds {o : Int} (h : SR σ μ (μ 0 5) N t) (ht : t ≤ 100) (ho : zrng o) : ZQ ext (d + 5) n_X11_odds [(1000, 0), (0, o)] σ μ (fun rv μ' => (¬ (0 ≤ o ∧ o ≤ 10) → rv = some (0, -2) ∧ μ' = up μ 21 0 (μ 21 0 + 1)) ∧
    (0 ≤ o ∧ o ≤ 10 → rv = some (0, 1) ∧ ∃ μ0, Cq μ μ0 ∧ μ' = up (up μ0 0 7 (odN N o / odG N o)) 0 8 (p10 (N 1).toNat / odG N o))) := by
  have hC := h.ct
  have hW := h.1.1
  have hSp := h.2.1.1
  have hBk := h.2.1.bk
  have hN := h.2.2.2.1
  have hp := p10_rng (i := N 1) (by omega)
  have hall := bt_all (n := N 1) (by omega)
  have h29 : 22 ≤ μ 0 5 := h.2.2.2.2.2
  have l1 : ∀ (μ1 : zM), 0 ≤ o ∧ o ≤ 10 → Cf μ μ1 → ∀ i, 0 ≤ i → i ≤ N 1 → ∀ x7 : V, ZE ext (d + 5) n_X11_odds 53 [(1000, 0), (0, o), (1, odN N o), (4, 0), (1, p10 i.toNat), (4, 0), (0, i), x7] [] σ μ1 (fun rv μ' => (¬ (0 ≤ o ∧ o ≤ 10) → rv = some (0, -2) ∧ μ' = up μ 21 0 (μ 21 0 + 1)) ∧
    (0 ≤ o ∧ o ≤ 10 → rv = some (0, 1) ∧ ∃ μ0, Cq μ μ0 ∧ μ' = up (up μ0 0 7 (odN N o / odG N o)) 0 8 (p10 (N 1).toNat / odG N o))) := by
    intro μ1 hok hf
    have e7 : μ1 0 5 = μ 0 5 := hf 0 5 (by omega) (by omega)
    have h1 := h.cf hf
    have c1 := h1.ct
    have hor := odS_rng hN hok (zshl 1 (N 1)).toNat 0 0 (Int.le_refl 0)
    have hon : 0 ≤ odN N o ∧ odN N o < 1000000000000 := by unfold odN; omega
    have hG0 : 0 < Nat.gcd (odN N o).toNat (p10 (N 1).toNat).toNat := Nat.gcd_pos_of_pos_right _ (by omega)
    have hG1 : Nat.gcd (odN N o).toNat (p10 (N 1).toNat).toNat ≤ (p10 (N 1).toNat).toNat := Nat.gcd_le_right _ (by omega)
    refine loopU ?_ ?_
    · intro i h0 hi ih x7
      have ih := ih x7
      rw [p10_s h0] at ih
      refine ZE.go hW 59 rfl (by repeat' first | exact True.intro | omega | assumption | apply And.intro | (simp (disch := omega) only [up_n, up_e]; omega)) ?_
      rw [e7]
      refine ZE.go hW 9999 rfl (by repeat' first | exact True.intro | omega | assumption | apply And.intro | (simp (disch := omega) only [up_n, up_e]; omega)) ?_
      refine ZE.b rfl (by omega) (by omega) ?_ ?_ <;> intro g1
      · omega
      · refine ZE.go hW 53 rfl (by repeat' first | exact True.intro | omega | assumption | apply And.intro | (simp (disch := omega) only [up_n, up_e]; omega)) ?_
        exact ih
    · intro x7
      refine ZE.go hW 59 rfl (by repeat' first | exact True.intro | omega | assumption | apply And.intro | (simp (disch := omega) only [up_n, up_e]; omega)) ?_
      rw [e7]
      refine ZE.go hW 9999 rfl (by repeat' first | exact True.intro | omega | assumption | apply And.intro | (simp (disch := omega) only [up_n, up_e]; omega)) ?_
      refine ZE.b rfl (by omega) (by omega) ?_ ?_ <;> intro g1
      · refine ZE.go hW 9999 rfl (by repeat' first | exact True.intro | omega | assumption | apply And.intro | (simp (disch := omega) only [up_n, up_e]; omega)) ?_
        refine ZE.c0 hW rfl rfl (Nat.le_of_ble_eq_true rfl) (Nat.le_of_ble_eq_true rfl) (k_c_gcd (d := d + 4) hW hon (by omega)) ?_
        refine ZE.go hW 9999 rfl (by repeat' first | exact True.intro | omega | assumption | apply And.intro | (simp (disch := omega) only [up_n, up_e]; omega)) ?_
        refine ZE.ri rfl rfl ?_
        exact ⟨fun q => absurd hok q, fun _ => ⟨rfl, μ1, hf.q, rfl⟩⟩
      · omega
  refine ZQ.i rfl ?_
  refine ZE.go hW 9999 rfl (by repeat' first | exact True.intro | omega | assumption | apply And.intro | (simp (disch := omega) only [up_n, up_e]; omega)) ?_
  refine ZE.c0 hW rfl rfl (Nat.le_of_ble_eq_true rfl) (Nat.le_of_ble_eq_true rfl) (k_c_within (d := d + 4) hW ho (by omega) (by omega)) ?_
  refine ZE.bp rfl rfl ?_ ?_ <;> intro g1
  · refine ZE.go hW 9999 rfl (by repeat' first | exact True.intro | omega | assumption | apply And.intro | (simp (disch := omega) only [up_n, up_e]; omega)) ?_
    rw [hC.2.1.1]
    refine ZE.q0 hW rfl rfl (Nat.le_of_ble_eq_true rfl) (Nat.le_of_ble_eq_true rfl) (k_c_open (d := d) h (e := N 2) (by omega)) ?_
    rintro rv9 μ1 ⟨rfl, hf, hO⟩
    refine ZE.go hW 9999 rfl (by repeat' first | exact True.intro | omega | assumption | apply And.intro | (simp (disch := omega) only [up_n, up_e]; omega)) ?_
    refine ZE.c0 hW rfl rfl (Nat.le_of_ble_eq_true rfl) (Nat.le_of_ble_eq_true rfl) (k_c_weighed (d := d + 2) hW hN hO (h.cf hf).1.2 (by omega)) ?_
    refine ZE.go hW 53 rfl (by repeat' first | exact True.intro | omega | assumption | apply And.intro | (simp (disch := omega) only [up_n, up_e]; omega)) ?_
    exact l1 μ1 (by omega) hf 0 (by omega) (by omega) _
  · refine ZE.go hW 9999 rfl (by repeat' first | exact True.intro | omega | assumption | apply And.intro | (simp (disch := omega) only [up_n, up_e]; omega)) ?_
    refine ZE.c0 hW rfl rfl (Nat.le_of_ble_eq_true rfl) (Nat.le_of_ble_eq_true rfl) (k_c_refuse (d := d + 3) (x := -2) hW (by omega)) ?_
    refine ZE.ri rfl rfl ?_
    exact ⟨fun _ => ⟨rfl, rfl⟩, fun q => absurd q (by omega)⟩
end
