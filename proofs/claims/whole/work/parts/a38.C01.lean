theorem up_e {μ : zM} {k j x k' j' : Int} (h : k' = k) (h2 : j' = j) : up μ k j x k' j' = x := if_pos ⟨h, h2⟩
theorem fill_n {μ : zM} {k lo hi x k' j : Int} (h : ¬ (k' = k ∧ lo ≤ j ∧ j < hi)) : fill μ k lo hi x k' j = μ k' j := if_neg h
theorem fill_e {μ : zM} {k lo hi x k' j : Int} (h : k' = k) (h1 : lo ≤ j) (h2 : j < hi) : fill μ k lo hi x k' j = x := if_pos ⟨h, h1, h2⟩
theorem zcp_n {μ : zM} {ka kb sp dp n k j : Int} (h : ¬ (k = kb ∧ dp ≤ j ∧ j < dp + n)) : zcp μ ka kb sp dp n k j = μ k j := if_neg h
theorem zcp_e {μ : zM} {ka kb sp dp n k j : Int} (h : k = kb) (h1 : dp ≤ j) (h2 : j < dp + n) : zcp μ ka kb sp dp n k j = μ ka (sp + (j - dp)) := if_pos ⟨h, h1, h2⟩
theorem ZE.gen {ext : List xC} {σ : zSh} {d mi pc : Nat} {L st : List V} {μ : zM} {Q : Option V → zM → Prop} (P : zM → Prop) (h : P μ) (k : ∀ μ1, P μ1 → ZE ext d mi pc L st σ μ1 Q) : ZE ext d mi pc L st σ μ Q := k μ h
/-- the last place, where there is one -/
theorem zlst_no {f : Int → Int} {r : Int} : ∀ (k : Nat) (i a : Int), (∀ j, i ≤ j → j < i + k → f j ≠ r) → zlst f r k i a = a
  | 0, _, _, _ => rfl
  | k + 1, i, a, h => by
    show zlst f r k (i + 1) (if f i = r then i else a) = a
    rw [if_neg (h i (by omega) (by omega))]
    exact zlst_no k (i + 1) a (fun j p q => h j (by omega) (by omega))
theorem zlst_at {f : Int → Int} {r v : Int} (hv : f v = r) : ∀ (k : Nat) (i a : Int), i ≤ v → v < i + k → (∀ j, v < j → j < i + k → f j ≠ r) → zlst f r k i a = v
  | 0, _, _, h0, h1, _ => by omega
  | k + 1, i, a, h0, h1, h => by
    show zlst f r k (i + 1) (if f i = r then i else a) = v
    by_cases e : i = v
    · subst e
      rw [if_pos hv]
      exact zlst_no k (i + 1) i (fun j p q => h j (by omega) (by omega))
    · exact zlst_at hv k (i + 1) _ (by omega) (by omega) (fun j p q => h j p (by omega))
section
variable {ext : List xC} {σ : zSh} {d : Nat} {μ : zM}
set_option maxRecDepth 100000 in set_option maxHeartbeats 4000000 in theorem k_c_within {v lo hi : Int} (hW : Wl σ) (hv : zrng v) (hl : zrng lo) (hh : zrng hi) : ZM ext d n_X11_within [(0, v), (0, lo), (0, hi)] σ μ (some (0, bz (lo ≤ v ∧ v ≤ hi))) μ := by
  apply ZQ.ex
  refine ZQ.i rfl ?_
  refine ZE.go hW 9999 rfl (by repeat' first | exact True.intro | assumption | apply And.intro | omega) ?_
  refine ZE.b rfl (by omega) (by omega) ?_ ?_ <;> intro g1
  · refine ZE.go hW 9999 rfl (by repeat' first | exact True.intro | assumption | apply And.intro | omega) ?_
    refine ZE.rb rfl rfl (by first | exact Or.inl rfl | exact Or.inr rfl | omega) ?_
    first
      | exact ⟨by rw [bz_f (by omega)], rfl⟩
      | exact ⟨by rw [bz_t (by omega)], rfl⟩
  · refine ZE.go hW 9999 rfl (by repeat' first | exact True.intro | assumption | apply And.intro | omega) ?_
    refine ZE.b rfl (by omega) (by omega) ?_ ?_ <;> intro g2
    · refine ZE.go hW 9999 rfl (by repeat' first | exact True.intro | assumption | apply And.intro | omega) ?_
      refine ZE.rb rfl rfl (by first | exact Or.inl rfl | exact Or.inr rfl | omega) ?_
      first
        | exact ⟨by rw [bz_f (by omega)], rfl⟩
        | exact ⟨by rw [bz_t (by omega)], rfl⟩
    · refine ZE.go hW 9999 rfl (by repeat' first | exact True.intro | assumption | apply And.intro | omega) ?_
      refine ZE.rb rfl rfl (by first | exact Or.inl rfl | exact Or.inr rfl | omega) ?_
      first
        | exact ⟨by rw [bz_f (by omega)], rfl⟩
        | exact ⟨by rw [bz_t (by omega)], rfl⟩
set_option maxRecDepth 100000 in set_option maxHeartbeats 4000000 in theorem k_c_isWeather {v : Int} (hW : Wl σ) (hv : zrng v) : ZM ext (d + 1) n_X11_isWeather [(0, v)] σ μ (some (0, bz (0 ≤ v ∧ v ≤ 5))) μ := by
  refine ZM.i rfl ?_
  refine Zv.go hW 9999 rfl (by repeat' first | exact True.intro | assumption | apply And.intro | omega) ?_
  refine Zv.c0 hW rfl rfl (Nat.le_of_ble_eq_true rfl) (Nat.le_of_ble_eq_true rfl) (k_c_within hW hv (by omega) (by omega)) ?_
  refine Zv.rb rfl rfl rfl ?_
  rfl
set_option maxRecDepth 100000 in set_option maxHeartbeats 4000000 in theorem k_c_isEvening {v : Int} (hW : Wl σ) (hv : zrng v) : ZM ext (d + 1) n_X11_isEvening [(0, v)] σ μ (some (0, bz (0 ≤ v ∧ v ≤ 99))) μ := by
  refine ZM.i rfl ?_
  refine Zv.go hW 9999 rfl (by repeat' first | exact True.intro | assumption | apply And.intro | omega) ?_
  refine Zv.c0 hW rfl rfl (Nat.le_of_ble_eq_true rfl) (Nat.le_of_ble_eq_true rfl) (k_c_within hW hv (by omega) (by omega)) ?_
  refine Zv.rb rfl rfl rfl ?_
  rfl
set_option maxRecDepth 100000 in set_option maxHeartbeats 4000000 in theorem k_c_isRenterTold {k s p : Int} (hW : Wl σ) (hk : zrng k) (hs : zrng s) (hp : zrng p) : ZM ext (d + 1) n_X11_isRenterTold [(0, k), (0, s), (0, p)] σ μ (some (0, bz ((1 ≤ k ∧ k ≤ 9) ∧ (0 ≤ s ∧ s ≤ 999) ∧ (0 ≤ p ∧ p ≤ 6)))) μ := by
  apply ZQ.ex
  refine ZQ.i rfl ?_
  refine ZE.go hW 9999 rfl (by repeat' first | exact True.intro | assumption | apply And.intro | omega) ?_
  refine ZE.c0 hW rfl rfl (Nat.le_of_ble_eq_true rfl) (Nat.le_of_ble_eq_true rfl) (k_c_within (d := d) hW hk (by omega) (by omega)) ?_
  refine ZE.bp rfl rfl ?_ ?_ <;> intro g1
  · refine ZE.go hW 9999 rfl (by repeat' first | exact True.intro | assumption | apply And.intro | omega) ?_
    refine ZE.rb rfl rfl (by first | exact Or.inl rfl | exact Or.inr rfl | omega) ?_
    first
      | exact ⟨by rw [bz_f (by omega)], rfl⟩
      | exact ⟨by rw [bz_t (by omega)], rfl⟩
  · refine ZE.go hW 9999 rfl (by repeat' first | exact True.intro | assumption | apply And.intro | omega) ?_
    refine ZE.c0 hW rfl rfl (Nat.le_of_ble_eq_true rfl) (Nat.le_of_ble_eq_true rfl) (k_c_within (d := d) hW hs (by omega) (by omega)) ?_
    refine ZE.bp rfl rfl ?_ ?_ <;> intro g2
    · refine ZE.go hW 9999 rfl (by repeat' first | exact True.intro | assumption | apply And.intro | omega) ?_
      refine ZE.rb rfl rfl (by first | exact Or.inl rfl | exact Or.inr rfl | omega) ?_
      first
        | exact ⟨by rw [bz_f (by omega)], rfl⟩
        | exact ⟨by rw [bz_t (by omega)], rfl⟩
    · refine ZE.go hW 9999 rfl (by repeat' first | exact True.intro | assumption | apply And.intro | omega) ?_
      refine ZE.c0 hW rfl rfl (Nat.le_of_ble_eq_true rfl) (Nat.le_of_ble_eq_true rfl) (k_c_within (d := d) hW hp (by omega) (by omega)) ?_
      refine ZE.bp rfl rfl ?_ ?_ <;> intro g3
      · refine ZE.go hW 9999 rfl (by repeat' first | exact True.intro | assumption | apply And.intro | omega) ?_
        refine ZE.rb rfl rfl (by first | exact Or.inl rfl | exact Or.inr rfl | omega) ?_
        first
          | exact ⟨by rw [bz_f (by omega)], rfl⟩
          | exact ⟨by rw [bz_t (by omega)], rfl⟩
      · refine ZE.go hW 9999 rfl (by repeat' first | exact True.intro | assumption | apply And.intro | omega) ?_
        refine ZE.rb rfl rfl (by first | exact Or.inl rfl | exact Or.inr rfl | omega) ?_
        first
          | exact ⟨by rw [bz_f (by omega)], rfl⟩
          | exact ⟨by rw [bz_t (by omega)], rfl⟩
set_option maxRecDepth 100000 in set_option maxHeartbeats 4000000 in theorem k_c_isView {v A : Int} (hW : Wl σ) (hA : μ 0 5 = A) (hS : Sp σ A) (hv : zrng v) (hn : 0 ≤ μ A 1 ∧ μ A 1 ≤ 6) : ZM ext (d + 1) n_X11_isView [(1000, 0), (0, v)] σ μ (some (0, bz (0 ≤ v ∧ v ≤ μ A 1 - 1))) μ := by
  subst hA
  refine ZM.i rfl ?_
  refine Zv.go hW 9999 rfl (by repeat' first | exact True.intro | assumption | apply And.intro | omega) ?_
  refine Zv.c0 hW rfl rfl (Nat.le_of_ble_eq_true rfl) (Nat.le_of_ble_eq_true rfl) (k_c_within hW hv (by omega) (by omega)) ?_
  refine Zv.rb rfl rfl rfl ?_
  rfl
set_option maxRecDepth 100000 in set_option maxHeartbeats 4000000 in theorem k_c_isRenter {v A : Int} (hW : Wl σ) (hA : μ 0 5 = A) (hS : Sp σ A) (hv : zrng v) (hn : 0 ≤ μ A 2 ∧ μ A 2 ≤ 6) : ZM ext (d + 1) n_X11_isRenter [(1000, 0), (0, v)] σ μ (some (0, bz (0 ≤ v ∧ v ≤ μ A 2 - 1))) μ := by
  subst hA
  refine ZM.i rfl ?_
  refine Zv.go hW 9999 rfl (by repeat' first | exact True.intro | assumption | apply And.intro | omega) ?_
  refine Zv.c0 hW rfl rfl (Nat.le_of_ble_eq_true rfl) (Nat.le_of_ble_eq_true rfl) (k_c_within hW hv (by omega) (by omega)) ?_
  refine Zv.rb rfl rfl rfl ?_
  rfl
set_option maxRecDepth 100000 in set_option maxHeartbeats 4000000 in theorem k_c_isPair {v A : Int} (hW : Wl σ) (hA : μ 0 5 = A) (hS : Sp σ A) (hv : zrng v) (hn : 0 ≤ μ A 2 ∧ μ A 2 ≤ 6) : ZM ext (d + 2) n_X11_isPair [(1000, 0), (0, v)] σ μ (some (0, bz ((0 ≤ v ∧ v ≤ μ A 2 - 1) ∧ (0 ≤ zxor v 1 ∧ zxor v 1 ≤ μ A 2 - 1)))) μ := by
  apply ZQ.ex
  refine ZQ.i rfl ?_
  refine ZE.go hW 9999 rfl (by repeat' first | exact True.intro | assumption | apply And.intro | omega) ?_
  refine ZE.c0 hW rfl rfl (Nat.le_of_ble_eq_true rfl) (Nat.le_of_ble_eq_true rfl) (k_c_isRenter (d := d) hW hA hS hv hn) ?_
  refine ZE.bp rfl rfl ?_ ?_ <;> intro g1
  · refine ZE.go hW 9999 rfl (by repeat' first | exact True.intro | assumption | apply And.intro | omega) ?_
    refine ZE.rb rfl rfl (by first | exact Or.inl rfl | exact Or.inr rfl | omega) ?_
    first
      | exact ⟨by rw [bz_f (fun q => g1 q.1)], rfl⟩
      | exact ⟨by rw [bz_f (fun q => g2 q.2)], rfl⟩
      | exact ⟨by rw [bz_t ⟨g1, g2⟩], rfl⟩
  · refine ZE.go hW 9999 rfl (by repeat' first | exact True.intro | assumption | apply And.intro | omega) ?_
    refine ZE.c0 hW rfl rfl (Nat.le_of_ble_eq_true rfl) (Nat.le_of_ble_eq_true rfl) (k_c_isRenter (d := d) hW hA hS zxor_rng hn) ?_
    refine ZE.bp rfl rfl ?_ ?_ <;> intro g2
    · refine ZE.go hW 9999 rfl (by repeat' first | exact True.intro | assumption | apply And.intro | omega) ?_
      refine ZE.rb rfl rfl (by first | exact Or.inl rfl | exact Or.inr rfl | omega) ?_
      first
        | exact ⟨by rw [bz_f (fun q => g1 q.1)], rfl⟩
        | exact ⟨by rw [bz_f (fun q => g2 q.2)], rfl⟩
        | exact ⟨by rw [bz_t ⟨g1, g2⟩], rfl⟩
    · refine ZE.go hW 9999 rfl (by repeat' first | exact True.intro | assumption | apply And.intro | omega) ?_
      refine ZE.rb rfl rfl (by first | exact Or.inl rfl | exact Or.inr rfl | omega) ?_
      first
        | exact ⟨by rw [bz_f (fun q => g1 q.1)], rfl⟩
        | exact ⟨by rw [bz_f (fun q => g2 q.2)], rfl⟩
        | exact ⟨by rw [bz_t ⟨g1, g2⟩], rfl⟩
set_option maxRecDepth 100000 in set_option maxHeartbeats 4000000 in theorem k_c_refuse {x : Int} (hW : Wl σ) (hx : -4 ≤ x ∧ x ≤ -2) : ZM ext (d + 1) n_X11_refuse [(1000, 0), (0, x)] σ μ (some (0, x)) (up μ 21 (-2 - x) (μ 21 (-2 - x) + 1)) := by
  apply ZQ.ex
  refine ZQ.i rfl ?_
  refine ZE.go hW 9999 rfl (by repeat' first | exact True.intro | assumption | apply And.intro | omega) ?_
  refine ZE.c0 hW rfl rfl (Nat.le_of_ble_eq_true rfl) (Nat.le_of_ble_eq_true rfl) (k_c_within (d := d) hW (by omega) (by omega) (by omega)) ?_
  refine ZE.bp rfl rfl ?_ ?_ <;> intro g1
  · omega
  · refine ZE.go hW 9999 rfl (by repeat' first | exact True.intro | assumption | apply And.intro | omega) ?_
    refine ZE.ri rfl rfl ?_
    exact ⟨rfl, rfl⟩
set_option maxRecDepth 100000 in set_option maxHeartbeats 4000000 in theorem k_c_refuseApart (hW : Wl σ) : ZM ext (d + 2) n_X11_refuseApart [(1000, 0)] σ μ (some (0, -10)) (up μ 21 0 (μ 21 0 + 1)) := by
  apply ZQ.ex
  refine ZQ.i rfl ?_
  refine ZE.go hW 9999 rfl (by repeat' first | exact True.intro | assumption | apply And.intro | omega) ?_
  refine ZE.c0 hW rfl rfl (Nat.le_of_ble_eq_true rfl) (Nat.le_of_ble_eq_true rfl) (k_c_refuse (d := d) (x := -2) hW (by omega)) ?_
  refine ZE.go hW 9999 rfl (by repeat' first | exact True.intro | assumption | apply And.intro | omega) ?_
  refine ZE.ri rfl rfl ?_
  exact ⟨rfl, rfl⟩
set_option maxRecDepth 100000 in set_option maxHeartbeats 4000000 in theorem k_j_max {x y : Int} (hW : Wl σ) (hx : zrng x) (hy : zrng y) : ZM ext d n_J9_max_7cf53 [(0, x), (0, y)] σ μ (some (0, if x < y then y else x)) μ := by
  apply ZQ.ex
  refine ZQ.i rfl ?_
  refine ZE.go hW 9999 rfl (by repeat' first | exact True.intro | assumption | apply And.intro | omega) ?_
  refine ZE.b rfl (by omega) (by omega) ?_ ?_ <;> intro g1
  · refine ZE.go hW 9999 rfl (by repeat' first | exact True.intro | assumption | apply And.intro | omega) ?_
    refine ZE.ri rfl rfl ?_
    first
      | exact ⟨by rw [if_pos (by omega)], rfl⟩
      | exact ⟨by rw [if_neg (by omega)], rfl⟩
  · refine ZE.go hW 9999 rfl (by repeat' first | exact True.intro | assumption | apply And.intro | omega) ?_
    refine ZE.ri rfl rfl ?_
    first
      | exact ⟨by rw [if_pos (by omega)], rfl⟩
      | exact ⟨by rw [if_neg (by omega)], rfl⟩
set_option maxRecDepth 100000 in set_option maxHeartbeats 4000000 in theorem k_j_min {x y : Int} (hW : Wl σ) (hx : zrng x) (hy : zrng y) : ZM ext d n_J9_min_7cf53 [(0, x), (0, y)] σ μ (some (0, if y < x then y else x)) μ := by
  apply ZQ.ex
  refine ZQ.i rfl ?_
  refine ZE.go hW 9999 rfl (by repeat' first | exact True.intro | assumption | apply And.intro | omega) ?_
  refine ZE.b rfl (by omega) (by omega) ?_ ?_ <;> intro g1
  · refine ZE.go hW 9999 rfl (by repeat' first | exact True.intro | assumption | apply And.intro | omega) ?_
    refine ZE.ri rfl rfl ?_
    first
      | exact ⟨by rw [if_pos (by omega)], rfl⟩
      | exact ⟨by rw [if_neg (by omega)], rfl⟩
  · refine ZE.go hW 9999 rfl (by repeat' first | exact True.intro | assumption | apply And.intro | omega) ?_
    refine ZE.ri rfl rfl ?_
    first
      | exact ⟨by rw [if_pos (by omega)], rfl⟩
      | exact ⟨by rw [if_neg (by omega)], rfl⟩
set_option maxRecDepth 100000 in set_option maxHeartbeats 4000000 in theorem k_j_fill22 {b x : Int} (hW : Wl σ) (hB : Bk σ b) : ZM ext d n_J7_fill_53178 [(22, b), (0, x)] σ μ none (fill μ (b + 2) 0 6 x) := by
  apply ZQ.ex
  refine ZQ.i rfl ?_
  refine ZE.go hW 5 rfl (by repeat' first | exact True.intro | assumption | apply And.intro | omega) ?_
  refine ZE.eqm (fill_0 (k := b + 2) (lo := 0) (x := x)).symm ?_
  refine loopU (n := 6) (G := fun i => ZE ext d n_J7_fill_53178 5 [(22, b), (0, x), (0, i), (0, 6)] [] σ (fill μ (b + 2) 0 i x) _) ?_ ?_ 0 (by omega) (by omega)
  · intro i h0 h1 ih
    refine ZE.go hW 9999 rfl (by repeat' first | exact True.intro | assumption | apply And.intro | omega) ?_
    refine ZE.b rfl (by omega) (by omega) ?_ ?_ <;> intro hc
    · omega
    · refine ZE.go hW 5 rfl (by repeat' first | exact True.intro | assumption | apply And.intro | omega) ?_
      refine ZE.eqm (fill_up h0) ih
  · refine ZE.go hW 9999 rfl (by repeat' first | exact True.intro | assumption | apply And.intro | omega) ?_
    refine ZE.b rfl (by omega) (by omega) ?_ ?_ <;> intro hc
    · refine ZE.rv rfl rfl ?_
      exact ⟨rfl, rfl⟩
    · omega
set_option maxRecDepth 100000 in set_option maxHeartbeats 4000000 in theorem k_j_fill40 {b x : Int} (hW : Wl σ) (hB : 0 ≤ b ∧ b < 7) : ZM ext d n_J7_fill_53178 [(40, b), (0, x)] σ μ none (fill μ (b + 10) 0 64 x) := by
  apply ZQ.ex
  refine ZQ.i rfl ?_
  refine ZE.go hW 5 rfl (by repeat' first | exact True.intro | assumption | apply And.intro | omega) ?_
  refine ZE.eqm (fill_0 (k := b + 10) (lo := 0) (x := x)).symm ?_
  refine loopU (n := 64) (G := fun i => ZE ext d n_J7_fill_53178 5 [(40, b), (0, x), (0, i), (0, 64)] [] σ (fill μ (b + 10) 0 i x) _) ?_ ?_ 0 (by omega) (by omega)
  · intro i h0 h1 ih
    refine ZE.go hW 9999 rfl (by repeat' first | exact True.intro | assumption | apply And.intro | omega) ?_
    refine ZE.b rfl (by omega) (by omega) ?_ ?_ <;> intro hc
    · omega
    · refine ZE.go hW 5 rfl (by repeat' first | exact True.intro | assumption | apply And.intro | omega) ?_
      refine ZE.eqm (fill_up h0) ih
  · refine ZE.go hW 9999 rfl (by repeat' first | exact True.intro | assumption | apply And.intro | omega) ?_
    refine ZE.b rfl (by omega) (by omega) ?_ ?_ <;> intro hc
    · refine ZE.rv rfl rfl ?_
      exact ⟨rfl, rfl⟩
    · omega
set_option maxRecDepth 100000 in set_option maxHeartbeats 4000000 in theorem k_j_fill1027 {x : Int} (hW : Wl σ) : ZM ext d n_J7_fill_53178 [(1027, 0), (0, x)] σ μ none (fill μ 20 0 6 x) := by
  apply ZQ.ex
  refine ZQ.i rfl ?_
  refine ZE.go hW 5 rfl (by repeat' first | exact True.intro | assumption | apply And.intro | omega) ?_
  refine ZE.eqm (fill_0 (k := 20) (lo := 0) (x := x)).symm ?_
  refine loopU (n := 6) (G := fun i => ZE ext d n_J7_fill_53178 5 [(1027, 0), (0, x), (0, i), (0, 6)] [] σ (fill μ 20 0 i x) _) ?_ ?_ 0 (by omega) (by omega)
  · intro i h0 h1 ih
    refine ZE.go hW 9999 rfl (by repeat' first | exact True.intro | assumption | apply And.intro | omega) ?_
    refine ZE.b rfl (by omega) (by omega) ?_ ?_ <;> intro hc
    · omega
    · refine ZE.go hW 5 rfl (by repeat' first | exact True.intro | assumption | apply And.intro | omega) ?_
      refine ZE.eqm (fill_up h0) ih
  · refine ZE.go hW 9999 rfl (by repeat' first | exact True.intro | assumption | apply And.intro | omega) ?_
    refine ZE.b rfl (by omega) (by omega) ?_ ?_ <;> intro hc
    · refine ZE.rv rfl rfl ?_
      exact ⟨rfl, rfl⟩
    · omega
end
