def RX (μ : zM) (T : Int → Int) (l : Int) : Prop := (0 ≤ l ∧ l ≤ 150) ∧ μ 2 1 = l ∧ ∀ j, 0 ≤ j → j < l → μ 3 j = T j ∧ 0 ≤ T j ∧ T j ≤ 127
def RT (μ : zM) (T : Int → Int) (l f : Int) : Prop := μ 2 0 = tA T l f ∧ μ 2 3 = tE T l f ∧ μ 2 4 = tK T l f
def Rf (μ μ' : zM) : Prop := ∀ k j, ¬ (k = 2 ∧ (j = 0 ∨ j = 3 ∨ j = 4)) → μ' k j = μ k j
theorem Rf.rfl' {μ : zM} : Rf μ μ := fun _ _ _ => rfl
theorem Rf.trans {a b c : zM} (h : Rf a b) (h2 : Rf b c) : Rf a c := fun k j p => (h2 k j p).trans (h k j p)
theorem Rf.up {a b : zM} {j x : Int} (h : Rf a b) (hj : j = 0 ∨ j = 3 ∨ j = 4) : Rf a (up b 2 j x) := by
  intro k' j' p
  rw [up_n (by omega)]
  exact h k' j' p
theorem RX.fr {μ μ' : zM} {T : Int → Int} {l : Int} (h : RX μ T l) (h1 : μ' 2 1 = μ 2 1) (h2 : ∀ j, μ' 3 j = μ 3 j) : RX μ' T l :=
  ⟨h.1, h1.trans h.2.1, fun j p q => ⟨(h2 j).trans (h.2.2 j p q).1, (h.2.2 j p q).2⟩⟩
theorem RX.rf {μ μ' : zM} {T : Int → Int} {l : Int} (h : RX μ T l) (hf : Rf μ μ') : RX μ' T l := h.fr (hf 2 1 (by omega)) (fun j => hf 3 j (by omega))
section
variable {ext : List xC} {σ : zSh} {d : Nat} {μ : zM} {T : Int → Int} {l : Int}
set_option maxRecDepth 100000 in set_option maxHeartbeats 4000000 in theorem k_c_sortAt {i : Int} (hW : Wl σ) (hX : RX μ T l) (hi : 0 ≤ i ∧ i ≤ 150) : ZM ext d n_X8_sortAt [(1010, 0), (0, i)] σ μ (some (0, sr T l i)) μ := by
  have hl := hX.1
  have e2 := hX.2.1
  have hc := hX.2.2 i hi.1
  apply ZQ.ex
  unfold sr
  refine ZQ.i rfl ?_
  refine ZE.go hW 9999 rfl (by repeat' first | exact True.intro | assumption | apply And.intro | omega) ?_
  refine ZE.b rfl (by omega) (by omega) ?_ ?_ <;> intro g1
  · refine ZE.go hW 9999 rfl (by repeat' first | exact True.intro | assumption | apply And.intro | omega) ?_
    refine ZE.b rfl (by omega) (by omega) ?_ ?_ <;> intro g2
    · refine ZE.go hW 9999 rfl (by repeat' first | exact True.intro | assumption | apply And.intro | omega) ?_
      refine ZE.b rfl (by omega) (by omega) ?_ ?_ <;> intro g3
      · refine ZE.go hW 9999 rfl (by repeat' first | exact True.intro | assumption | apply And.intro | omega) ?_
        refine ZE.b rfl (by omega) (by omega) ?_ ?_ <;> intro g4
        · refine ZE.go hW 9999 rfl (by repeat' first | exact True.intro | assumption | apply And.intro | omega) ?_
          refine ZE.ri rfl rfl ?_
          first
            | (exfalso; omega)
            | exact ⟨by rw [if_pos (by omega)], rfl⟩
            | exact ⟨by rw [if_neg (by omega), if_pos (by omega)], rfl⟩
            | exact ⟨by rw [if_neg (by omega), if_neg (by omega), if_pos (by omega)], rfl⟩
            | exact ⟨by rw [if_neg (by omega), if_neg (by omega), if_neg (by omega), if_pos (by omega)], rfl⟩
            | exact ⟨by rw [if_neg (by omega), if_neg (by omega), if_neg (by omega), if_neg (by omega)], rfl⟩
        · refine ZE.go hW 9999 rfl (by repeat' first | exact True.intro | assumption | apply And.intro | omega) ?_
          refine ZE.ri rfl rfl ?_
          first
            | (exfalso; omega)
            | exact ⟨by rw [if_pos (by omega)], rfl⟩
            | exact ⟨by rw [if_neg (by omega), if_pos (by omega)], rfl⟩
            | exact ⟨by rw [if_neg (by omega), if_neg (by omega), if_pos (by omega)], rfl⟩
            | exact ⟨by rw [if_neg (by omega), if_neg (by omega), if_neg (by omega), if_pos (by omega)], rfl⟩
            | exact ⟨by rw [if_neg (by omega), if_neg (by omega), if_neg (by omega), if_neg (by omega)], rfl⟩
      · refine ZE.go hW 9999 rfl (by repeat' first | exact True.intro | assumption | apply And.intro | omega) ?_
        refine ZE.b rfl (by omega) (by omega) ?_ ?_ <;> intro g4
        · refine ZE.go hW 9999 rfl (by repeat' first | exact True.intro | assumption | apply And.intro | omega) ?_
          refine ZE.b rfl (by omega) (by omega) ?_ ?_ <;> intro g5
          · refine ZE.go hW 9999 rfl (by repeat' first | exact True.intro | assumption | apply And.intro | omega) ?_
            refine ZE.ri rfl rfl ?_
            first
              | (exfalso; omega)
              | exact ⟨by rw [if_pos (by omega)], rfl⟩
              | exact ⟨by rw [if_neg (by omega), if_pos (by omega)], rfl⟩
              | exact ⟨by rw [if_neg (by omega), if_neg (by omega), if_pos (by omega)], rfl⟩
              | exact ⟨by rw [if_neg (by omega), if_neg (by omega), if_neg (by omega), if_pos (by omega)], rfl⟩
              | exact ⟨by rw [if_neg (by omega), if_neg (by omega), if_neg (by omega), if_neg (by omega)], rfl⟩
          · refine ZE.go hW 9999 rfl (by repeat' first | exact True.intro | assumption | apply And.intro | omega) ?_
            refine ZE.ri rfl rfl ?_
            first
              | (exfalso; omega)
              | exact ⟨by rw [if_pos (by omega)], rfl⟩
              | exact ⟨by rw [if_neg (by omega), if_pos (by omega)], rfl⟩
              | exact ⟨by rw [if_neg (by omega), if_neg (by omega), if_pos (by omega)], rfl⟩
              | exact ⟨by rw [if_neg (by omega), if_neg (by omega), if_neg (by omega), if_pos (by omega)], rfl⟩
              | exact ⟨by rw [if_neg (by omega), if_neg (by omega), if_neg (by omega), if_neg (by omega)], rfl⟩
        · refine ZE.go hW 9999 rfl (by repeat' first | exact True.intro | assumption | apply And.intro | omega) ?_
          refine ZE.ri rfl rfl ?_
          first
            | (exfalso; omega)
            | exact ⟨by rw [if_pos (by omega)], rfl⟩
            | exact ⟨by rw [if_neg (by omega), if_pos (by omega)], rfl⟩
            | exact ⟨by rw [if_neg (by omega), if_neg (by omega), if_pos (by omega)], rfl⟩
            | exact ⟨by rw [if_neg (by omega), if_neg (by omega), if_neg (by omega), if_pos (by omega)], rfl⟩
            | exact ⟨by rw [if_neg (by omega), if_neg (by omega), if_neg (by omega), if_neg (by omega)], rfl⟩
    · refine ZE.go hW 9999 rfl (by repeat' first | exact True.intro | assumption | apply And.intro | omega) ?_
      refine ZE.b rfl (by omega) (by omega) ?_ ?_ <;> intro g3
      · refine ZE.go hW 9999 rfl (by repeat' first | exact True.intro | assumption | apply And.intro | omega) ?_
        refine ZE.b rfl (by omega) (by omega) ?_ ?_ <;> intro g4
        · refine ZE.go hW 9999 rfl (by repeat' first | exact True.intro | assumption | apply And.intro | omega) ?_
          refine ZE.b rfl (by omega) (by omega) ?_ ?_ <;> intro g5
          · refine ZE.go hW 9999 rfl (by repeat' first | exact True.intro | assumption | apply And.intro | omega) ?_
            refine ZE.ri rfl rfl ?_
            first
              | (exfalso; omega)
              | exact ⟨by rw [if_pos (by omega)], rfl⟩
              | exact ⟨by rw [if_neg (by omega), if_pos (by omega)], rfl⟩
              | exact ⟨by rw [if_neg (by omega), if_neg (by omega), if_pos (by omega)], rfl⟩
              | exact ⟨by rw [if_neg (by omega), if_neg (by omega), if_neg (by omega), if_pos (by omega)], rfl⟩
              | exact ⟨by rw [if_neg (by omega), if_neg (by omega), if_neg (by omega), if_neg (by omega)], rfl⟩
          · refine ZE.go hW 9999 rfl (by repeat' first | exact True.intro | assumption | apply And.intro | omega) ?_
            refine ZE.ri rfl rfl ?_
            first
              | (exfalso; omega)
              | exact ⟨by rw [if_pos (by omega)], rfl⟩
              | exact ⟨by rw [if_neg (by omega), if_pos (by omega)], rfl⟩
              | exact ⟨by rw [if_neg (by omega), if_neg (by omega), if_pos (by omega)], rfl⟩
              | exact ⟨by rw [if_neg (by omega), if_neg (by omega), if_neg (by omega), if_pos (by omega)], rfl⟩
              | exact ⟨by rw [if_neg (by omega), if_neg (by omega), if_neg (by omega), if_neg (by omega)], rfl⟩
        · refine ZE.go hW 9999 rfl (by repeat' first | exact True.intro | assumption | apply And.intro | omega) ?_
          refine ZE.b rfl (by omega) (by omega) ?_ ?_ <;> intro g5
          · refine ZE.go hW 9999 rfl (by repeat' first | exact True.intro | assumption | apply And.intro | omega) ?_
            refine ZE.b rfl (by omega) (by omega) ?_ ?_ <;> intro g6
            · refine ZE.go hW 9999 rfl (by repeat' first | exact True.intro | assumption | apply And.intro | omega) ?_
              refine ZE.ri rfl rfl ?_
              first
                | (exfalso; omega)
                | exact ⟨by rw [if_pos (by omega)], rfl⟩
                | exact ⟨by rw [if_neg (by omega), if_pos (by omega)], rfl⟩
                | exact ⟨by rw [if_neg (by omega), if_neg (by omega), if_pos (by omega)], rfl⟩
                | exact ⟨by rw [if_neg (by omega), if_neg (by omega), if_neg (by omega), if_pos (by omega)], rfl⟩
                | exact ⟨by rw [if_neg (by omega), if_neg (by omega), if_neg (by omega), if_neg (by omega)], rfl⟩
            · refine ZE.go hW 9999 rfl (by repeat' first | exact True.intro | assumption | apply And.intro | omega) ?_
              refine ZE.ri rfl rfl ?_
              first
                | (exfalso; omega)
                | exact ⟨by rw [if_pos (by omega)], rfl⟩
                | exact ⟨by rw [if_neg (by omega), if_pos (by omega)], rfl⟩
                | exact ⟨by rw [if_neg (by omega), if_neg (by omega), if_pos (by omega)], rfl⟩
                | exact ⟨by rw [if_neg (by omega), if_neg (by omega), if_neg (by omega), if_pos (by omega)], rfl⟩
                | exact ⟨by rw [if_neg (by omega), if_neg (by omega), if_neg (by omega), if_neg (by omega)], rfl⟩
          · refine ZE.go hW 9999 rfl (by repeat' first | exact True.intro | assumption | apply And.intro | omega) ?_
            refine ZE.ri rfl rfl ?_
            first
              | (exfalso; omega)
              | exact ⟨by rw [if_pos (by omega)], rfl⟩
              | exact ⟨by rw [if_neg (by omega), if_pos (by omega)], rfl⟩
              | exact ⟨by rw [if_neg (by omega), if_neg (by omega), if_pos (by omega)], rfl⟩
              | exact ⟨by rw [if_neg (by omega), if_neg (by omega), if_neg (by omega), if_pos (by omega)], rfl⟩
              | exact ⟨by rw [if_neg (by omega), if_neg (by omega), if_neg (by omega), if_neg (by omega)], rfl⟩
      · refine ZE.go hW 9999 rfl (by repeat' first | exact True.intro | assumption | apply And.intro | omega) ?_
        refine ZE.ri rfl rfl ?_
        first
          | (exfalso; omega)
          | exact ⟨by rw [if_pos (by omega)], rfl⟩
          | exact ⟨by rw [if_neg (by omega), if_pos (by omega)], rfl⟩
          | exact ⟨by rw [if_neg (by omega), if_neg (by omega), if_pos (by omega)], rfl⟩
          | exact ⟨by rw [if_neg (by omega), if_neg (by omega), if_neg (by omega), if_pos (by omega)], rfl⟩
          | exact ⟨by rw [if_neg (by omega), if_neg (by omega), if_neg (by omega), if_neg (by omega)], rfl⟩
  · refine ZE.go hW 9999 rfl (by repeat' first | exact True.intro | assumption | apply And.intro | omega) ?_
    refine ZE.ri rfl rfl ?_
    first
      | (exfalso; omega)
      | exact ⟨by rw [if_pos (by omega)], rfl⟩
      | exact ⟨by rw [if_neg (by omega), if_pos (by omega)], rfl⟩
      | exact ⟨by rw [if_neg (by omega), if_neg (by omega), if_pos (by omega)], rfl⟩
      | exact ⟨by rw [if_neg (by omega), if_neg (by omega), if_neg (by omega), if_pos (by omega)], rfl⟩
      | exact ⟨by rw [if_neg (by omega), if_neg (by omega), if_neg (by omega), if_neg (by omega)], rfl⟩
set_option maxRecDepth 100000 in set_option maxHeartbeats 4000000 in theorem k_c_step {f : Int} (hW : Wl σ) (hX : RX μ T l) (h3 : μ 2 3 = f) (hf : 0 ≤ f ∧ f ≤ l) : ZQ ext (d + 1) n_X8_step [(1010, 0)] σ μ (fun rv μ' => rv = none ∧ Rf μ μ' ∧ RT μ' T l f) := by
  have hl := hX.1
  have hA := tA_rng (T := T) hf
  have hE := tE_rng (T := T) hf
  have hK0 := tK_0 (T := T) hf
  have hKr := tK_rng (T := T) (l := l) (f := f)
  have eK : tK T l f = sr T l (tA T l f) := rfl
  have eE : tE T l f = if tK T l f = 0 then tA T l f else if tK T l f = 1 ∨ tK T l f = 2 then rn T l (tK T l f) (l - (tA T l f + 1)).toNat (tA T l f + 1) else tA T l f + 1 := rfl
  have eA : skp T (l - f).toNat f = tA T l f := rfl
  unfold RT
  generalize tA T l f = A at *
  generalize tE T l f = E at *
  generalize tK T l f = K at *
  have l2 : K = 1 ∨ K = 2 → ∀ (k : Nat) (i : Int) (μ1 : zM), 0 ≤ i → i + k = l → Rf μ μ1 → μ1 2 0 = A → μ1 2 4 = K → μ1 2 3 = i → rn T l K k i = E → ZE ext (d + 1) n_X8_step 98 [(1010, 0)] [] σ μ1 (fun rv μ' => rv = none ∧ Rf μ μ' ∧ μ' 2 0 = A ∧ μ' 2 3 = E ∧ μ' 2 4 = K) := by
    intro hK k
    induction k with
    | zero =>
      intro i μ1 h0 hk hr a0 a4 a3 hn
      have hn : i = E := hn
      have hx := (hX.rf hr).2.1
      refine ZE.go hW 9999 rfl (by repeat' first | exact True.intro | assumption | apply And.intro | omega) ?_
      refine ZE.b rfl (by omega) (by omega) ?_ ?_ <;> intro g1
      · refine ZE.rv rfl rfl ?_
        exact ⟨rfl, hr, a0, by omega, a4⟩
      · omega
    | succ k ih =>
      intro i μ1 h0 hk hr a0 a4 a3 hn
      have hn : (if sr T l i = K then rn T l K k (i + 1) else i) = E := hn
      have hX1 := hX.rf hr
      have hx := hX1.2.1
      have hsr := sr_rng (T := T) (l := l) (i := i)
      refine ZE.go hW 9999 rfl (by repeat' first | exact True.intro | assumption | apply And.intro | omega) ?_
      refine ZE.b rfl (by omega) (by omega) ?_ ?_ <;> intro g1
      · omega
      · refine ZE.go hW 9999 rfl (by repeat' first | exact True.intro | assumption | apply And.intro | omega) ?_
        rw [a3]
        refine ZE.c0 hW rfl rfl (Nat.le_of_ble_eq_true rfl) (Nat.le_of_ble_eq_true rfl) (k_c_sortAt (d := d) hW hX1 (by omega)) ?_
        refine ZE.go hW 9999 rfl (by repeat' first | exact True.intro | assumption | apply And.intro | omega) ?_
        refine ZE.b rfl (by omega) (by omega) ?_ ?_ <;> intro g2
        · refine ZE.rv rfl rfl ?_
          rw [if_neg (by omega)] at hn
          exact ⟨rfl, hr, a0, by omega, a4⟩
        · refine ZE.go hW 98 rfl (by repeat' first | exact True.intro | assumption | apply And.intro | omega) ?_
          rw [if_pos (by omega)] at hn
          refine ih (i + 1) _ (by omega) (by omega) (hr.up (by omega)) ?_ ?_ ?_ hn
          · rw [up_n (by omega)]; exact a0
          · rw [up_n (by omega)]; exact a4
          · rw [up_s, a3]
  have mid : ∀ (μ1 : zM), Rf μ μ1 → μ1 2 0 = A → ZE ext (d + 1) n_X8_step 46 [(1010, 0)] [] σ μ1 (fun rv μ' => rv = none ∧ Rf μ μ' ∧ μ' 2 0 = A ∧ μ' 2 3 = E ∧ μ' 2 4 = K) := by
    intro μ1 hr a0
    have hX1 := hX.rf hr
    have q4 : ∀ m : zM, up m 2 4 K 2 4 = K := fun m => up_s
    have q0 : up μ1 2 4 K 2 0 = A := by rw [up_n (by omega)]; exact a0
    have q4b : ∀ x, up (up μ1 2 4 K) 2 3 x 2 4 = K := fun x => by rw [up_n (by omega), up_s]
    have r2 : ∀ x, Rf μ (up (up μ1 2 4 K) 2 3 x) := fun x => (hr.up (by omega)).up (by omega)
    have w0 : ∀ x, up (up μ1 2 4 K) 2 3 x 2 0 = A := fun x => by rw [up_n (by omega)]; exact q0
    have w3 : ∀ x, up (up μ1 2 4 K) 2 3 x 2 3 = x := fun x => up_s
    refine ZE.go hW 9999 rfl (by repeat' first | exact True.intro | assumption | apply And.intro | omega) ?_
    rw [a0]
    refine ZE.c0 hW rfl rfl (Nat.le_of_ble_eq_true rfl) (Nat.le_of_ble_eq_true rfl) (k_c_sortAt (d := d) hW hX1 (by omega)) ?_
    rw [← eK]
    refine ZE.go hW 9999 rfl (by repeat' first | exact True.intro | assumption | apply And.intro | omega) ?_
    rw [q4]
    refine ZE.b0 rfl (by omega) ?_ ?_ <;> intro g1
    · refine ZE.go hW 79 rfl (by repeat' first | exact True.intro | assumption | apply And.intro | omega) ?_
      rw [q0]
      refine ZE.go hW 9999 rfl (by repeat' first | exact True.intro | assumption | apply And.intro | omega) ?_
      rw [q4b]
      refine ZE.b rfl (by omega) (by omega) ?_ ?_ <;> intro g2
      · first
          | (rw [if_neg (by omega), if_pos (by omega)] at eE
             exact l2 (by omega) _ (A + 1) _ (by omega) (by omega) (r2 _) (w0 _) (q4b _) (w3 _) eE.symm)
          | (exfalso; omega)
      · refine ZE.go hW 9999 rfl (by repeat' first | exact True.intro | assumption | apply And.intro | omega) ?_
        rw [q4b]
        refine ZE.b rfl (by omega) (by omega) ?_ ?_ <;> intro g3
        · refine ZE.rv rfl rfl ?_
          first
            | (rw [if_pos (by omega)] at eE
               exact ⟨rfl, r2 _, w0 _, by rw [w3, eE], q4b _⟩)
            | (rw [if_neg (by omega), if_neg (by omega)] at eE
               exact ⟨rfl, r2 _, w0 _, by rw [w3, eE], q4b _⟩)
        · first
            | (rw [if_neg (by omega), if_pos (by omega)] at eE
               exact l2 (by omega) _ (A + 1) _ (by omega) (by omega) (r2 _) (w0 _) (q4b _) (w3 _) eE.symm)
            | (exfalso; omega)
    · refine ZE.go hW 79 rfl (by repeat' first | exact True.intro | assumption | apply And.intro | omega) ?_
      rw [q0]
      refine ZE.go hW 9999 rfl (by repeat' first | exact True.intro | assumption | apply And.intro | omega) ?_
      rw [q4b]
      refine ZE.b rfl (by omega) (by omega) ?_ ?_ <;> intro g2
      · first
          | (rw [if_neg (by omega), if_pos (by omega)] at eE
             exact l2 (by omega) _ (A + 1) _ (by omega) (by omega) (r2 _) (w0 _) (q4b _) (w3 _) eE.symm)
          | (exfalso; omega)
      · refine ZE.go hW 9999 rfl (by repeat' first | exact True.intro | assumption | apply And.intro | omega) ?_
        rw [q4b]
        refine ZE.b rfl (by omega) (by omega) ?_ ?_ <;> intro g3
        · refine ZE.rv rfl rfl ?_
          first
            | (rw [if_pos (by omega)] at eE
               exact ⟨rfl, r2 _, w0 _, by rw [w3, eE], q4b _⟩)
            | (rw [if_neg (by omega), if_neg (by omega)] at eE
               exact ⟨rfl, r2 _, w0 _, by rw [w3, eE], q4b _⟩)
        · first
            | (rw [if_neg (by omega), if_pos (by omega)] at eE
               exact l2 (by omega) _ (A + 1) _ (by omega) (by omega) (r2 _) (w0 _) (q4b _) (w3 _) eE.symm)
            | (exfalso; omega)
  have l1 : ∀ (k : Nat) (i : Int) (μ1 : zM), 0 ≤ i → i + k = l → Rf μ μ1 → μ1 2 0 = i → skp T k i = A → ZE ext (d + 1) n_X8_step 8 [(1010, 0)] [] σ μ1 (fun rv μ' => rv = none ∧ Rf μ μ' ∧ μ' 2 0 = A ∧ μ' 2 3 = E ∧ μ' 2 4 = K) := by
    intro k
    induction k with
    | zero =>
      intro i μ1 h0 hk hr a0 hn
      have hn : i = A := hn
      have hx := (hX.rf hr).2.1
      refine ZE.go hW 9999 rfl (by repeat' first | exact True.intro | assumption | apply And.intro | omega) ?_
      refine ZE.b rfl (by omega) (by omega) ?_ ?_ <;> intro g1
      · exact mid μ1 hr (by omega)
      · omega
    | succ k ih =>
      intro i μ1 h0 hk hr a0 hn
      have hn : (if T i = 32 then skp T k (i + 1) else i) = A := hn
      have hX1 := hX.rf hr
      have hx := hX1.2.1
      have hc := hX1.2.2 i h0 (by omega)
      have rd : μ1 3 (μ1 2 0) = T i := by rw [a0]; exact hc.1
      refine ZE.go hW 9999 rfl (by repeat' first | exact True.intro | assumption | apply And.intro | omega) ?_
      refine ZE.b rfl (by omega) (by omega) ?_ ?_ <;> intro g1
      · omega
      · refine ZE.go hW 9999 rfl (by repeat' first | exact True.intro | assumption | apply And.intro | omega) ?_
        rw [rd]
        refine ZE.b rfl (by omega) (by omega) ?_ ?_ <;> intro g2
        · rw [if_neg (by omega)] at hn
          exact mid μ1 hr (by omega)
        · refine ZE.go hW 8 rfl (by repeat' first | exact True.intro | assumption | apply And.intro | omega) ?_
          rw [if_pos (by omega)] at hn
          refine ih (i + 1) _ (by omega) (by omega) (hr.up (by omega)) ?_ hn
          rw [up_s, a0]
  refine ZQ.i rfl ?_
  refine ZE.go hW 8 rfl (by repeat' first | exact True.intro | assumption | apply And.intro | omega) ?_
  exact l1 (l - f).toNat f _ (by omega) (by omega) (Rf.rfl'.up (by omega)) (by rw [up_s, h3]) eA
set_option maxRecDepth 100000 in set_option maxHeartbeats 4000000 in theorem k_c_numberMet {f : Int} (hW : Wl σ) (hX : RX μ T l) (hf : 0 ≤ f ∧ f ≤ l) (hT : RT μ T l f) : ZM ext d n_X8_numberMet [(1010, 0)] σ μ (some (0, if tK T l f = 2 ∧ tE T l f - tA T l f ≤ 3 then tV T l f else -1)) μ := by
  have hl := hX.1
  have hA := tA_rng (T := T) hf
  have hE := tE_rng (T := T) hf
  have hKr := tK_rng (T := T) (l := l) (f := f)
  have eV : tV T l f = if tK T l f = 2 then nmS T (tA T l f) (if tE T l f - tA T l f < 3 then tE T l f - tA T l f else 3).toNat else 0 := rfl
  obtain ⟨t0, t3, t4⟩ := hT
  generalize tA T l f = A at *
  generalize tE T l f = E at *
  generalize tK T l f = K at *
  generalize tV T l f = W at *
  have hc := hX.2.2
  apply ZQ.ex
  have loop : K = 2 ∧ E - A ≤ 3 → ∀ (k : Nat) (i : Int), A ≤ i → i + k = E → ZE ext d n_X8_numberMet 30 [(1010, 0), (0, nmS T A (i - A).toNat), (0, i)] [] σ μ (fun rv μ' => rv = some (0, W) ∧ μ' = μ) := by
    intro hK k
    induction k with
    | zero =>
      intro i h0 hk
      refine ZE.go hW 9999 rfl (by repeat' first | exact True.intro | assumption | apply And.intro | omega) ?_
      refine ZE.b rfl (by omega) (by omega) ?_ ?_ <;> intro g1
      · refine ZE.go hW 9999 rfl (by repeat' first | exact True.intro | assumption | apply And.intro | omega) ?_
        refine ZE.ri rfl rfl ?_
        refine ⟨?_, rfl⟩
        rw [eV, if_pos hK.1]
        have : (i - A).toNat = (if E - A < 3 then E - A else 3).toNat := by split <;> omega
        rw [this]
      · omega
    | succ k ih =>
      intro i h0 hk
      have ci := hc i (by omega) (by omega)
      have es := nmS_s (T := T) (a := A) (i := i - A) (by omega)
      rw [show A + (i - A) = i by omega, show i - A + 1 = i + 1 - A by omega] at es
      have h2 := ih (i + 1) (by omega) (by omega)
      rw [es] at h2
      refine ZE.go hW 9999 rfl (by repeat' first | exact True.intro | assumption | apply And.intro | omega) ?_
      refine ZE.b rfl (by omega) (by omega) ?_ ?_ <;> intro g1
      · omega
      · refine ZE.go hW 30 rfl (by repeat' first | exact True.intro | assumption | apply And.intro | omega) ?_
        rw [ci.1]
        exact h2
  refine ZQ.i rfl ?_
  refine ZE.go hW 9999 rfl (by repeat' first | exact True.intro | assumption | apply And.intro | omega) ?_
  refine ZE.b rfl (by omega) (by omega) ?_ ?_ <;> intro g1
  · refine ZE.go hW 9999 rfl (by repeat' first | exact True.intro | assumption | apply And.intro | omega) ?_
    refine ZE.ri rfl rfl ?_
    exact ⟨by rw [if_neg (by omega)], rfl⟩
  · refine ZE.go hW 9999 rfl (by repeat' first | exact True.intro | assumption | apply And.intro | omega) ?_
    refine ZE.b rfl (by omega) (by omega) ?_ ?_ <;> intro g2
    · refine ZE.go hW 30 rfl (by repeat' first | exact True.intro | assumption | apply And.intro | omega) ?_
      rw [if_pos (by omega), t0]
      have h2 := loop (by omega) (E - A).toNat A (by omega) (by omega)
      rw [Int.sub_self] at h2
      exact h2
    · refine ZE.go hW 9999 rfl (by repeat' first | exact True.intro | assumption | apply And.intro | omega) ?_
      refine ZE.ri rfl rfl ?_
      exact ⟨by rw [if_neg (by omega)], rfl⟩
set_option maxRecDepth 100000 in set_option maxHeartbeats 4000000 in theorem k_c_passMark {f : Int} (hW : Wl σ) (hX : RX μ T l) (hf : 0 ≤ f ∧ f ≤ l) (hT : RT μ T l f) : ZQ ext (d + 2) n_X8_passMark [(1010, 0)] σ μ (fun rv μ' => rv = some (0, bz (tK T l f = 3)) ∧ Rf μ μ' ∧ (tK T l f = 3 → RT μ' T l (tE T l f)) ∧ (¬ tK T l f = 3 → μ' = μ)) := by
  have hE := tEE (T := T) hf
  have hKr := tK_rng (T := T) (l := l) (f := f)
  have t4 := hT.2.2
  refine ZQ.i rfl ?_
  refine ZE.go hW 9999 rfl (by repeat' first | exact True.intro | assumption | apply And.intro | omega) ?_
  refine ZE.b rfl (by omega) (by omega) ?_ ?_ <;> intro g1
  · refine ZE.go hW 9999 rfl (by repeat' first | exact True.intro | assumption | apply And.intro | omega) ?_
    refine ZE.q0 hW rfl rfl (Nat.le_of_ble_eq_true rfl) (Nat.le_of_ble_eq_true rfl) (k_c_step (d := d) hW hX hT.2.1 (by omega)) ?_
    rintro rv9 μ1 ⟨rfl, h1, h2⟩
    refine ZE.go hW 9999 rfl (by repeat' first | exact True.intro | assumption | apply And.intro | omega) ?_
    refine ZE.rb rfl rfl (by first | exact Or.inl rfl | exact Or.inr rfl | omega) ?_
    first
      | (have hno : ¬ tK T l f = 3 := by omega
         exact ⟨by rw [bz_f hno], Rf.rfl', fun q => absurd q hno, fun _ => rfl⟩)
      | (have hyes : tK T l f = 3 := by omega
         exact ⟨by rw [bz_t hyes], h1, fun _ => h2, fun q => absurd hyes q⟩)
  · refine ZE.go hW 9999 rfl (by repeat' first | exact True.intro | assumption | apply And.intro | omega) ?_
    refine ZE.rb rfl rfl (by first | exact Or.inl rfl | exact Or.inr rfl | omega) ?_
    first
      | (have hno : ¬ tK T l f = 3 := by omega
         exact ⟨by rw [bz_f hno], Rf.rfl', fun q => absurd q hno, fun _ => rfl⟩)
      | (have hyes : tK T l f = 3 := by omega
         exact ⟨by rw [bz_t hyes], h1, fun _ => h2, fun q => absurd hyes q⟩)
set_option maxRecDepth 100000 in set_option maxHeartbeats 4000000 in theorem k_c_passNumber {f k lo hi : Int} (hW : Wl σ) (hX : RX μ T l) (hf : 0 ≤ f ∧ f ≤ l) (hT : RT μ T l f) (hk : 0 ≤ k ∧ k < 4) (hlo : 0 ≤ lo ∧ lo ≤ 100) (hhi : zrng hi) : ZQ ext (d + 2) n_X8_passNumber [(1010, 0), (0, k), (0, lo), (0, hi)] σ μ (fun rv μ' => rv = some (0, bz (nmO T l f lo hi)) ∧
    (nmO T l f lo hi → RT μ' T l (tE T l f) ∧ μ' 4 k = tV T l f ∧ (∀ q j, ¬ (q = 2 ∧ (j = 0 ∨ j = 3 ∨ j = 4)) → ¬ (q = 4 ∧ j = k) → μ' q j = μ q j)) ∧ (¬ nmO T l f lo hi → μ' = μ)) := by
  have hE := tEE (T := T) hf
  have hV := tV_rng (T := T) hf (fun j p q => (hX.2.2 j p q).2)
  have eO : nmO T l f lo hi ↔ (tK T l f = 2 ∧ tE T l f - tA T l f ≤ 3) ∧ (lo ≤ tV T l f ∧ tV T l f ≤ hi) := Iff.rfl
  generalize hx : (if tK T l f = 2 ∧ tE T l f - tA T l f ≤ 3 then tV T l f else -1) = x
  have hxr : -100000 ≤ x ∧ x ≤ 100000 := by rw [← hx]; split <;> omega
  have hnm := k_c_numberMet (ext := ext) (d := d + 1) hW hX hf hT
  rw [hx] at hnm
  have no1 : ¬ (lo ≤ x ∧ x ≤ hi) → ¬ nmO T l f lo hi := by
    intro q z
    have z1 := eO.mp z
    rw [if_pos z1.1] at hx
    omega
  have yes1 : x ≠ -1 → lo ≤ x ∧ x ≤ hi → nmO T l f lo hi ∧ tV T l f = x := by
    intro q z
    by_cases h2 : tK T l f = 2 ∧ tE T l f - tA T l f ≤ 3
    · rw [if_pos h2] at hx
      exact ⟨eO.mpr ⟨h2, by omega⟩, hx⟩
    · rw [if_neg h2] at hx
      omega
  refine ZQ.i rfl ?_
  refine ZE.go hW 9999 rfl (by repeat' first | exact True.intro | assumption | apply And.intro | omega) ?_
  refine ZE.c0 hW rfl rfl (Nat.le_of_ble_eq_true rfl) (Nat.le_of_ble_eq_true rfl) hnm ?_
  refine ZE.go hW 9999 rfl (by repeat' first | exact True.intro | assumption | apply And.intro | omega) ?_
  refine ZE.b rfl (by omega) (by omega) ?_ ?_ <;> intro g1
  · refine ZE.go hW 9999 rfl (by repeat' first | exact True.intro | assumption | apply And.intro | omega) ?_
    refine ZE.rb rfl rfl (by first | exact Or.inl rfl | exact Or.inr rfl | omega) ?_
    first
      | (have hno := no1 (by omega)
         exact ⟨by rw [bz_f hno], fun q => absurd q hno, fun _ => rfl⟩)
      | (have hyes := yes1 g1 g2
         refine ⟨by rw [bz_t hyes.1], fun _ => ⟨h2, ?_, fun q j a b => ?_⟩, fun q => absurd hyes.1 q⟩
         · rw [h1 4 k (by omega), up_s, hyes.2]
         · rw [h1 q j a, up_n b])
  · refine ZE.go hW 9999 rfl (by repeat' first | exact True.intro | assumption | apply And.intro | omega) ?_
    refine ZE.c0 hW rfl rfl (Nat.le_of_ble_eq_true rfl) (Nat.le_of_ble_eq_true rfl) (k_c_within (d := d + 1) hW (by omega) (by omega) hhi) ?_
    refine ZE.bp rfl rfl ?_ ?_ <;> intro g2
    · refine ZE.go hW 9999 rfl (by repeat' first | exact True.intro | assumption | apply And.intro | omega) ?_
      refine ZE.q0 hW rfl rfl (Nat.le_of_ble_eq_true rfl) (Nat.le_of_ble_eq_true rfl) (k_c_step (d := d) (T := T) (l := l) (f := tE T l f) hW (hX.fr (up_n (by omega)) (fun j => up_n (by omega))) (by rw [up_n (by omega)]; exact hT.2.1) (by omega)) ?_
      rintro rv9 μ1 ⟨rfl, h1, h2⟩
      refine ZE.go hW 9999 rfl (by repeat' first | exact True.intro | assumption | apply And.intro | omega) ?_
      refine ZE.rb rfl rfl (by first | exact Or.inl rfl | exact Or.inr rfl | omega) ?_
      first
        | (have hno := no1 (by omega)
           exact ⟨by rw [bz_f hno], fun q => absurd q hno, fun _ => rfl⟩)
        | (have hyes := yes1 g1 g2
           refine ⟨by rw [bz_t hyes.1], fun _ => ⟨h2, ?_, fun q j a b => ?_⟩, fun q => absurd hyes.1 q⟩
           · rw [h1 4 k (by omega), up_s, hyes.2]
           · rw [h1 q j a, up_n b])
    · refine ZE.go hW 9999 rfl (by repeat' first | exact True.intro | assumption | apply And.intro | omega) ?_
      refine ZE.rb rfl rfl (by first | exact Or.inl rfl | exact Or.inr rfl | omega) ?_
      first
        | (have hno := no1 (by omega)
           exact ⟨by rw [bz_f hno], fun q => absurd q hno, fun _ => rfl⟩)
        | (have hyes := yes1 g1 g2
           refine ⟨by rw [bz_t hyes.1], fun _ => ⟨h2, ?_, fun q j a b => ?_⟩, fun q => absurd hyes.1 q⟩
           · rw [h1 4 k (by omega), up_s, hyes.2]
           · rw [h1 q j a, up_n b])
set_option maxRecDepth 100000 in set_option maxHeartbeats 4000000 in theorem k_c_isWord {f j n a b c p e g : Int} (hW : Wl σ) (hX : RX μ T l) (hf : 0 ≤ f ∧ f ≤ l) (hT : RT μ T l f) (hn : 0 ≤ n ∧ n ≤ 6) (hD : Wd ext σ j n (ch6 a b c p e g)) (ha : zrng a) (hb : zrng b) (hc : zrng c) (hp : zrng p) (he : zrng e) (hg : zrng g) : ZM ext (d + 5) n_X8_isWord [(1010, 0), (3, j)] σ μ (some (0, bz (wdO T l f n a b c p e g))) μ := by
  have hl := hX.1
  have hA := tA_rng (T := T) hf
  have hE := tE_rng (T := T) hf
  have hKr := tK_rng (T := T) (l := l) (f := f)
  obtain ⟨⟨fs, hx⟩, hLn, hCh⟩ := hD
  have hcr : ∀ i, zrng (ch6 a b c p e g i) := by
    intro i
    unfold ch6
    repeat' split
    all_goals assumption
  have eW : wdO T l f n a b c p e g ↔ tK T l f = 1 ∧ tE T l f - tA T l f = n ∧ ∀ k, 0 ≤ k → k < n → T (tA T l f + k) = ch6 a b c p e g k := Iff.rfl
  rw [bz_c eW]
  generalize ch6 a b c p e g = ch at *
  obtain ⟨t0, t3, t4⟩ := hT
  have hc2 := hX.2.2
  generalize tA T l f = A at *
  generalize tE T l f = E at *
  generalize tK T l f = K at *
  apply ZQ.ex
  have loop : K = 1 ∧ E - A = n → ∀ i, 0 ≤ i → i ≤ n → (∀ k, 0 ≤ k → k < i → T (A + k) = ch k) → ZE ext (d + 5) n_X8_isWord 28 [(1010, 0), (3, j), (0, i)] [] σ μ (fun rv μ' => rv = some (0, bz (K = 1 ∧ E - A = n ∧ ∀ k, 0 ≤ k → k < n → T (A + k) = ch k)) ∧ μ' = μ) := by
    intro hK
    refine loopU ?_ ?_
    · intro i h0 hi ih hq
      have ci := hc2 (A + i) (by omega) (by omega)
      have rd : μ 3 (μ 2 0 + i) = T (A + i) := by rw [t0]; exact ci.1
      have hci := hcr i
      refine ZE.go hW 9999 rfl (by repeat' first | exact True.intro | assumption | apply And.intro | omega) ?_
      refine ZE.cs rfl rfl hx rfl (Nat.le_of_ble_eq_true rfl) (Nat.le_of_ble_eq_true rfl) (hLn (d + 2) μ) ?_
      refine ZE.b rfl (by omega) (by omega) ?_ ?_ <;> intro g1
      · omega
      · refine ZE.go hW 9999 rfl (by repeat' first | exact True.intro | assumption | apply And.intro | omega) ?_
        refine ZE.cs rfl rfl hx rfl (Nat.le_of_ble_eq_true rfl) (Nat.le_of_ble_eq_true rfl) (hCh i h0 hi d μ) ?_
        show ZE ext (d + 5) n_X8_isWord 52 _ [(0, ch i), (0, μ 3 (μ 2 0 + i))] σ μ _
        rw [rd]
        refine ZE.b rfl (by omega) (hci) ?_ ?_ <;> intro g2
        · refine ZE.go hW 28 rfl (by repeat' first | exact True.intro | assumption | apply And.intro | omega) ?_
          refine ih (fun k x y => ?_)
          by_cases ek : k = i
          · rw [ek]; exact g2
          · exact hq k x (by omega)
        · refine ZE.go hW 9999 rfl (by repeat' first | exact True.intro | assumption | apply And.intro | omega) ?_
          refine ZE.rb rfl rfl (Or.inl rfl) ?_
          refine ⟨?_, rfl⟩
          rw [bz_f (fun q => g2 (q.2.2 i h0 hi))]
    · intro hq
      refine ZE.go hW 9999 rfl (by repeat' first | exact True.intro | assumption | apply And.intro | omega) ?_
      refine ZE.cs rfl rfl hx rfl (Nat.le_of_ble_eq_true rfl) (Nat.le_of_ble_eq_true rfl) (hLn (d + 2) μ) ?_
      refine ZE.b rfl (by omega) (by omega) ?_ ?_ <;> intro g1
      · refine ZE.go hW 9999 rfl (by repeat' first | exact True.intro | assumption | apply And.intro | omega) ?_
        refine ZE.rb rfl rfl (Or.inr rfl) ?_
        exact ⟨by rw [bz_t ⟨hK.1, hK.2, hq⟩], rfl⟩
      · omega
  refine ZQ.i rfl ?_
  refine ZE.go hW 9999 rfl (by repeat' first | exact True.intro | assumption | apply And.intro | omega) ?_
  refine ZE.b rfl (by omega) (by omega) ?_ ?_ <;> intro g1
  · refine ZE.go hW 9999 rfl (by repeat' first | exact True.intro | assumption | apply And.intro | omega) ?_
    refine ZE.rb rfl rfl (Or.inl rfl) ?_
    exact ⟨by rw [bz_f (fun q => absurd q.1 (by omega))], rfl⟩
  · refine ZE.go hW 9999 rfl (by repeat' first | exact True.intro | assumption | apply And.intro | omega) ?_
    refine ZE.cs rfl rfl hx rfl (Nat.le_of_ble_eq_true rfl) (Nat.le_of_ble_eq_true rfl) (hLn (d + 2) μ) ?_
    refine ZE.b rfl (by omega) (by omega) ?_ ?_ <;> intro g2
    · refine ZE.go hW 28 rfl (by repeat' first | exact True.intro | assumption | apply And.intro | omega) ?_
      exact loop (by omega) 0 (by omega) (by omega) (fun k x y => by omega)
    · refine ZE.go hW 9999 rfl (by repeat' first | exact True.intro | assumption | apply And.intro | omega) ?_
      refine ZE.rb rfl rfl (Or.inl rfl) ?_
      exact ⟨by rw [bz_f (fun q => absurd q.2.1 (by omega))], rfl⟩
end
