def Gf (μ μ' : zM) : Prop := ∀ k j, ¬ (18 ≤ k ∧ k ≤ 20) → μ' k j = μ k j
theorem Gf.rfl' {μ : zM} : Gf μ μ := fun _ _ _ => rfl
theorem Gf.trans {a b c : zM} (h : Gf a b) (h2 : Gf b c) : Gf a c := fun k j p => (h2 k j p).trans (h k j p)
theorem Gf.up {a b : zM} {k j x : Int} (h : Gf a b) (hk : 18 ≤ k ∧ k ≤ 20) : Gf a (up b k j x) := by
  intro k' j' p
  rw [up_n (by omega)]
  exact h k' j' p
theorem SR.gf {σ : zSh} {μ μ' : zM} {a t : Int} {N : Int → Int} (h : SR σ μ a N t) (hf : Gf μ μ') : SR σ μ' a N t := by
  have h29 : 22 ≤ a := h.2.2.2.2.2
  exact h.fr (fun k j p q => hf k j (by omega)) (fun j => hf 9 j (by omega))
theorem isP_ge {b : Int → Int} : ∀ (k : Nat) (i a : Int), a ≤ isP b k i a ∧ isP b k i a ≤ a + k
  | 0, i, a => by show a ≤ a ∧ a ≤ a + ((0 : Nat) : Int); omega
  | k + 1, i, a => by
    have := isP_ge (b := b) k (i + 1) (a + (if b i = 0 then 0 else 1))
    show a ≤ isP b k (i + 1) (a + (if b i = 0 then 0 else 1)) ∧ isP b k (i + 1) (a + (if b i = 0 then 0 else 1)) ≤ _
    have : (if b i = 0 then (0 : Int) else 1) = 0 ∨ (if b i = 0 then (0 : Int) else 1) = 1 := by split <;> simp
    omega
theorem isP_add {b : Int → Int} : ∀ (k : Nat) (i a : Int), isP b k i a = a + isP b k i 0
  | 0, i, a => by show a = a + 0; omega
  | k + 1, i, a => by
    show isP b k (i + 1) (a + (if b i = 0 then 0 else 1)) = a + isP b k (i + 1) (0 + (if b i = 0 then 0 else 1))
    rw [isP_add k (i + 1) (a + _), isP_add k (i + 1) (0 + _)]
    omega
theorem mlF_cnt {b sh : Int → Int} : ∀ (k : Nat) (i : Int) (c : Int → Int) (t M : Int), (∀ j, c j ≤ M) → t ≤ M → mlF b sh k i c t ≤ isP b k i M
  | 0, i, c, t, M, h, h2 => h2
  | k + 1, i, c, t, M, h, h2 => by
    by_cases hb : b i = 0
    · have e : mlF b sh (k + 1) i c t = mlF b sh k (i + 1) c t := if_pos hb
      have e2 : isP b (k + 1) i M = isP b k (i + 1) (M + (if b i = 0 then 0 else 1)) := rfl
      rw [e, e2, if_pos hb]
      exact mlF_cnt k (i + 1) c t (M + 0) (fun j => by have := h j; omega) (by omega)
    · have e : mlF b sh (k + 1) i c t = mlF b sh k (i + 1) (ex1 c (sh i) (c (sh i) + 1)) (if t < c (sh i) + 1 then c (sh i) + 1 else t) := if_neg hb
      have e2 : isP b (k + 1) i M = isP b k (i + 1) (M + (if b i = 0 then 0 else 1)) := rfl
      rw [e, e2, if_neg hb]
      have h3 := h (sh i)
      exact mlF_cnt k (i + 1) _ _ (M + 1) (fun j => by unfold ex1; split; omega; have := h j; omega) (by split <;> omega)
theorem mlF_pos {b sh : Int → Int} : ∀ (k : Nat) (i : Int) (c : Int → Int) (t : Int), (∀ j, 0 ≤ c j) → 0 ≤ t → 1 ≤ t ∨ 0 < isP b k i 0 → 1 ≤ mlF b sh k i c t
  | 0, i, c, t, h, h1, h2 => by
    have h2 : 1 ≤ t ∨ (0 : Int) < 0 := h2
    show 1 ≤ t
    omega
  | k + 1, i, c, t, h, h1, h2 => by
    have e2 : isP b (k + 1) i 0 = isP b k (i + 1) (0 + (if b i = 0 then 0 else 1)) := rfl
    rw [e2] at h2
    by_cases hb : b i = 0
    · have e : mlF b sh (k + 1) i c t = mlF b sh k (i + 1) c t := if_pos hb
      rw [if_pos hb, Int.add_zero] at h2
      rw [e]
      exact mlF_pos k (i + 1) c t h h1 h2
    · have e : mlF b sh (k + 1) i c t = mlF b sh k (i + 1) (ex1 c (sh i) (c (sh i) + 1)) (if t < c (sh i) + 1 then c (sh i) + 1 else t) := if_neg hb
      rw [e]
      have h3 := h (sh i)
      exact mlF_pos k (i + 1) _ _ (fun j => by unfold ex1; split; omega; exact h j) (by split <;> omega) (Or.inl (by split <;> omega))
theorem mlF_0 {b sh : Int → Int} : ∀ (k : Nat) (i : Int) (c : Int → Int) (t : Int), isP b k i 0 = 0 → mlF b sh k i c t = t
  | 0, i, c, t, h => rfl
  | k + 1, i, c, t, h => by
    have e2 : isP b (k + 1) i 0 = isP b k (i + 1) (0 + (if b i = 0 then 0 else 1)) := rfl
    rw [e2] at h
    by_cases hb : b i = 0
    · have e : mlF b sh (k + 1) i c t = mlF b sh k (i + 1) c t := if_pos hb
      rw [if_pos hb, Int.add_zero] at h
      rw [e]
      exact mlF_0 k (i + 1) c t h
    · rw [if_neg hb] at h
      have := (isP_ge (b := b) k (i + 1) (0 + 1)).1
      omega
theorem lkF_0 {g : Int → Int} : ∀ (k : Nat) (e b f : Int), (∀ x, g x = 0) → lkF g k e b f = b
  | 0, _, _, _, _ => rfl
  | k + 1, e, b, f, h => by
    show (if _ then _ else _) = b
    rw [if_neg (by rw [h]; omega)]
    exact lkF_0 k (e + 1) b f h
section
variable {ext : List xC} {σ : zSh} {d : Nat} {μ : zM} {a t : Int} {N : Int → Int}
set_option maxRecDepth 100000 in set_option maxHeartbeats 4000000 in theorem k_c_gshow {i e : Int} (h : SR σ μ a N t) (hi : 0 ≤ i ∧ i < 36) (he : 0 ≤ e ∧ e < 1000) : ZM ext (d + 3) n_X5_showing [(100, a), (0, i), (0, e)] σ μ (some (0, shP e i)) μ := by
  have hW := h.1.1
  have hSp := h.2.1.1
  apply ZQ.ex
  refine ZQ.i rfl ?_
  refine ZE.go hW 9999 rfl (by repeat' first | exact True.intro | assumption | apply And.intro | omega) ?_
  refine ZE.ck rfl rfl (by assumption) (by omega) (Nat.le_of_ble_eq_true rfl) (kk_showing (d := d) hSp (by omega) (by omega) he) ?_
  refine ZE.ri rfl rfl ?_
  exact ⟨rfl, rfl⟩
set_option maxRecDepth 100000 in set_option maxHeartbeats 4000000 in theorem k_c_fitsReadings {v i : Int} (h : SR σ μ a N t) (hv : 0 ≤ v ∧ v < 6) (hi : 0 ≤ i ∧ i < 36) : ZM ext (d + 4) n_X5_fitsReadings [(100, a), (0, v), (0, i)] σ μ (some (0, mb N v i)) μ := by
  have hW := h.1.1
  have hSp := h.2.1.1
  have hC := h.ct
  unfold mb
  apply ZQ.ex
  refine ZQ.i rfl ?_
  refine ZE.go hW 2 rfl (by repeat' first | exact True.intro | assumption | apply And.intro | omega) ?_
  refine loopU (n := N 5) (G := fun j => mBn N v (i / 6) (i % 6) j → ZE ext (d + 4) n_X5_fitsReadings 2 [(100, a), (0, v), (0, i), (0, j)] [] σ μ _) ?_ ?_ 0 (by omega) (by omega) (fun j p q => by omega)
  · intro j h0 hj ih hm
    have r := h.rd ⟨h0, hj⟩
    have hs := shP_rng (e := N (97 + 3 * j + 1)) (i := i) (by omega)
    have es : shP (N (97 + 3 * j + 1)) i = wSh (i / 6) (i % 6) (N (97 + 3 * j + 1)) := rfl
    refine ZE.go hW 9999 rfl (by repeat' first | exact True.intro | assumption | apply And.intro | omega) ?_
    refine ZE.b rfl (by omega) (by omega) ?_ ?_ <;> intro g1
    · omega
    · refine ZE.go hW 9999 rfl (by repeat' first | exact True.intro | assumption | apply And.intro | omega) ?_
      refine ZE.b rfl (by omega) (by omega) ?_ ?_ <;> intro g2
      · refine ZE.go hW 2 rfl (by repeat' first | exact True.intro | assumption | apply And.intro | omega) ?_
        refine ih (fun q x y z => ?_)
        by_cases e : q = j
        · subst e
          omega
        · exact hm q x (by omega) z
      · refine ZE.go hW 9999 rfl (by repeat' first | exact True.intro | assumption | apply And.intro | omega) ?_
        rw [r.1.2.1]
        refine ZE.c0 hW rfl rfl (Nat.le_of_ble_eq_true rfl) (Nat.le_of_ble_eq_true rfl) (k_c_gshow (d := d) h hi (by omega)) ?_
        refine ZE.go hW 9999 rfl (by repeat' first | exact True.intro | assumption | apply And.intro | omega) ?_
        refine ZE.b rfl (by omega) (by omega) ?_ ?_ <;> intro g3
        · refine ZE.go hW 2 rfl (by repeat' first | exact True.intro | assumption | apply And.intro | omega) ?_
          refine ih (fun q x y z => ?_)
          by_cases e : q = j
          · subst e
            omega
          · exact hm q x (by omega) z
        · refine ZE.go hW 9999 rfl (by repeat' first | exact True.intro | assumption | apply And.intro | omega) ?_
          refine ZE.rb rfl rfl (by first | exact Or.inl rfl | exact Or.inr rfl | omega) ?_
          refine ⟨?_, rfl⟩
          rw [bz_f (fun q => ?_)]
          have := q j h0 hj (by omega)
          omega
  · intro hm
    refine ZE.go hW 9999 rfl (by repeat' first | exact True.intro | assumption | apply And.intro | omega) ?_
    refine ZE.b rfl (by omega) (by omega) ?_ ?_ <;> intro g1
    · refine ZE.go hW 9999 rfl (by repeat' first | exact True.intro | assumption | apply And.intro | omega) ?_
      refine ZE.rb rfl rfl (by first | exact Or.inl rfl | exact Or.inr rfl | omega) ?_
      exact ⟨by rw [bz_t hm], rfl⟩
    · omega
theorem mb_01 {v i : Int} : mb N v i = 0 ∨ mb N v i = 1 := bz_01 _
set_option maxRecDepth 100000 in set_option maxHeartbeats 4000000 in theorem k_c_guess {v : Int} (h : SR σ μ a N t) (hv : 0 ≤ v ∧ v < 6) : ZQ ext (d + 5) n_X5_guess [(1025, 0), (100, a), (0, v)] σ μ (fun rv μ' => rv = none ∧ Gf μ μ' ∧ μ' 18 0 = isP (mb N v) 36 0 0 ∧ ∀ i, 0 ≤ i → i < 36 → μ' 19 i = mb N v i) := by
  have hW := h.1.1
  have hSp := h.2.1.1
  generalize hR : isP (mb N v) 36 0 0 = R
  have loop : ∀ (k : Nat) (i : Int) (μ1 : zM), 0 ≤ i → i + k = 36 → Gf μ μ1 → (0 ≤ μ1 18 0 ∧ μ1 18 0 ≤ 36) → isP (mb N v) k i (μ1 18 0) = R → (∀ j, 0 ≤ j → j < i → μ1 19 j = mb N v j) → ZE ext (d + 5) n_X5_guess 7 [(1025, 0), (100, a), (0, v), (0, i)] [] σ μ1 (fun rv μ' => rv = none ∧ Gf μ μ' ∧ μ' 18 0 = R ∧ ∀ i, 0 ≤ i → i < 36 → μ' 19 i = mb N v i) := by
    intro k
    induction k with
    | zero =>
      intro i μ1 h0 hk hf hp hr hm
      have hr : μ1 18 0 = R := hr
      refine ZE.go hW 9999 rfl (by repeat' first | exact True.intro | assumption | apply And.intro | omega) ?_
      refine ZE.b rfl (by omega) (by omega) ?_ ?_ <;> intro g1
      · refine ZE.rv rfl rfl ?_
        exact ⟨rfl, hf, hr, fun j p q => hm j p (by omega)⟩
      · omega
    | succ k ih =>
      intro i μ1 h0 hk hf hp hr hm
      have hr : isP (mb N v) k (i + 1) (μ1 18 0 + (if mb N v i = 0 then 0 else 1)) = R := hr
      have hb := mb_01 (N := N) (v := v) (i := i)
      have hge := isP_ge (b := mb N v) k (i + 1) (μ1 18 0 + (if mb N v i = 0 then 0 else 1))
      have hge2 := isP_ge (b := mb N v) 36 0 0
      rw [hr] at hge
      rw [hR] at hge2
      have e26 : ∀ x, up μ1 19 i x 19 i = x := fun x => up_s
      have e25 : ∀ x, up μ1 19 i x 18 0 = μ1 18 0 := fun x => up_n (by omega)
      refine ZE.go hW 9999 rfl (by repeat' first | exact True.intro | assumption | apply And.intro | omega) ?_
      refine ZE.b rfl (by omega) (by omega) ?_ ?_ <;> intro g1
      · omega
      · refine ZE.go hW 9999 rfl (by repeat' first | exact True.intro | assumption | apply And.intro | omega) ?_
        refine ZE.c0 hW rfl rfl (Nat.le_of_ble_eq_true rfl) (Nat.le_of_ble_eq_true rfl) (k_c_fitsReadings (d := d) (h.gf hf) hv (by omega)) ?_
        refine ZE.go hW 9999 rfl (by repeat' first | exact True.intro | assumption | apply And.intro | omega) ?_
        rw [e26]
        refine ZE.b0 rfl (by omega) ?_ ?_ <;> intro g2
        · refine ZE.go hW 7 rfl (by repeat' first | exact True.intro | assumption | apply And.intro | omega) ?_
          first
            | (rw [if_pos (by omega), Int.add_zero] at hr hge
               refine ih (i + 1) _ (by omega) (by omega) (hf.up (by omega)) (by rw [e25]; exact hp) (by rw [e25]; exact hr) (fun j p q => ?_)
               by_cases e : j = i
               · rw [up_e rfl e, e]
               · rw [up_n (by omega)]; exact hm j p (by omega))
            | (rw [if_neg (by omega)] at hr hge
               rw [e25]
               refine ih (i + 1) _ (by omega) (by omega) ((hf.up (by omega)).up (by omega)) (by rw [up_s]; omega) (by rw [up_s]; exact hr) (fun j p q => ?_)
               rw [up_n (by omega)]
               by_cases e : j = i
               · rw [up_e rfl e, e]
               · rw [up_n (by omega)]; exact hm j p (by omega))
        · refine ZE.go hW 7 rfl (by repeat' first | exact True.intro | assumption | apply And.intro | omega) ?_
          first
            | (rw [if_pos (by omega), Int.add_zero] at hr hge
               refine ih (i + 1) _ (by omega) (by omega) (hf.up (by omega)) (by rw [e25]; exact hp) (by rw [e25]; exact hr) (fun j p q => ?_)
               by_cases e : j = i
               · rw [up_e rfl e, e]
               · rw [up_n (by omega)]; exact hm j p (by omega))
            | (rw [if_neg (by omega)] at hr hge
               rw [e25]
               refine ih (i + 1) _ (by omega) (by omega) ((hf.up (by omega)).up (by omega)) (by rw [up_s]; omega) (by rw [up_s]; exact hr) (fun j p q => ?_)
               rw [up_n (by omega)]
               by_cases e : j = i
               · rw [up_e rfl e, e]
               · rw [up_n (by omega)]; exact hm j p (by omega))
  refine ZQ.i rfl ?_
  refine ZE.go hW 7 rfl (by repeat' first | exact True.intro | assumption | apply And.intro | omega) ?_
  exact loop 36 0 _ (by omega) (by omega) (Gf.rfl'.up (by omega)) (by rw [up_s]; omega) (by rw [up_s]; exact hR) (fun j p q => by omega)
set_option maxRecDepth 100000 in set_option maxHeartbeats 4000000 in theorem k_c_kindBits {v : Int} (hW : Wl σ) (hm : ∀ i, 0 ≤ i → i < 36 → μ 19 i = mb N v i) : ZM ext d n_X5_kindBits [(1025, 0)] σ μ (some (0, isW (mb N v) 36 0 0)) μ := by
  apply ZQ.ex
  generalize hR : isW (mb N v) 36 0 0 = R
  have loop : ∀ (k : Nat) (i b : Int), 0 ≤ i → i + k = 36 → 0 ≤ b ∧ b < 64 → isW (mb N v) k i b = R → ZE ext d n_X5_kindBits 4 [(1025, 0), (0, b), (0, i)] [] σ μ (fun rv μ' => rv = some (0, R) ∧ μ' = μ) := by
    intro k
    induction k with
    | zero =>
      intro i b h0 hk hb hr
      have hr : b = R := hr
      refine ZE.go hW 9999 rfl (by repeat' first | exact True.intro | assumption | apply And.intro | omega) ?_
      refine ZE.b rfl (by omega) (by omega) ?_ ?_ <;> intro g1
      · refine ZE.go hW 9999 rfl (by repeat' first | exact True.intro | assumption | apply And.intro | omega) ?_
        refine ZE.ri rfl rfl ?_
        exact ⟨by rw [hr], rfl⟩
      · omega
    | succ k ih =>
      intro i b h0 hk hb hr
      have hr : isW (mb N v) k (i + 1) (zor b (if mb N v i = 0 then 0 else zshl 1 (i / 6))) = R := hr
      have h01 := mb_01 (N := N) (v := v) (i := i)
      have hmi := hm i h0 (by omega)
      have ho := bt_or (a := b) (v := i / 6) hb (by omega)
      refine ZE.go hW 9999 rfl (by repeat' first | exact True.intro | assumption | apply And.intro | omega) ?_
      refine ZE.b rfl (by omega) (by omega) ?_ ?_ <;> intro g1
      · omega
      · refine ZE.go hW 9999 rfl (by repeat' first | exact True.intro | assumption | apply And.intro | omega) ?_
        refine ZE.b0 rfl (by omega) ?_ ?_ <;> intro g2
        · refine ZE.go hW 4 rfl (by repeat' first | exact True.intro | assumption | apply And.intro | omega) ?_
          first
            | (rw [if_pos (by omega), bt_or0 hb] at hr
               exact ih (i + 1) b (by omega) (by omega) hb hr)
            | (rw [if_neg (by omega)] at hr
               exact ih (i + 1) _ (by omega) (by omega) ho.1 hr)
        · refine ZE.go hW 4 rfl (by repeat' first | exact True.intro | assumption | apply And.intro | omega) ?_
          first
            | (rw [if_pos (by omega), bt_or0 hb] at hr
               exact ih (i + 1) b (by omega) (by omega) hb hr)
            | (rw [if_neg (by omega)] at hr
               exact ih (i + 1) _ (by omega) (by omega) ho.1 hr)
  refine ZQ.i rfl ?_
  refine ZE.go hW 4 rfl (by repeat' first | exact True.intro | assumption | apply And.intro | omega) ?_
  exact loop 36 0 0 (by omega) (by omega) (by omega) hR
set_option maxRecDepth 100000 in set_option maxHeartbeats 4000000 in theorem k_c_mostAlike {v e : Int} (h : SR σ μ a N t) (he : 0 ≤ e ∧ e < 1000) (hm : ∀ i, 0 ≤ i → i < 36 → μ 19 i = mb N v i) : ZQ ext (d + 4) n_X5_mostAlike [(1025, 0), (100, a), (0, e)] σ μ (fun rv μ' => rv = some (0, mlN N v e) ∧ ∀ k j, k ≠ 20 → μ' k j = μ k j) := by
  have hW := h.1.1
  have hSp := h.2.1.1
  unfold mlN
  generalize hR : mlF (mb N v) (shP e) 36 0 (fun _ => 0) 0 = R
  have hsh := fun i => shP_rng (e := e) (i := i) he.1
  have loop : ∀ (k : Nat) (i m : Int) (μ1 : zM) (x5 : V), 0 ≤ i → i + k = 36 → (∀ k j, k ≠ 20 → μ1 k j = μ k j) → (0 ≤ m ∧ m ≤ i) → (∀ j, 0 ≤ j → j < 6 → 0 ≤ μ1 20 j ∧ μ1 20 j ≤ i) → mlF (mb N v) (shP e) k i (μ1 20) m = R → ZE ext (d + 4) n_X5_mostAlike 13 [(1025, 0), (100, a), (0, e), (0, m), (0, i), x5] [] σ μ1 (fun rv μ' => rv = some (0, R) ∧ ∀ k j, k ≠ 20 → μ' k j = μ k j) := by
    intro k
    induction k with
    | zero =>
      intro i m μ1 x5 h0 hk hf hm1 hc hr
      have hr : m = R := hr
      refine ZE.go hW 9999 rfl (by repeat' first | exact True.intro | assumption | apply And.intro | omega) ?_
      refine ZE.b rfl (by omega) (by omega) ?_ ?_ <;> intro g1
      · refine ZE.go hW 9999 rfl (by repeat' first | exact True.intro | assumption | apply And.intro | omega) ?_
        refine ZE.ri rfl rfl ?_
        exact ⟨by rw [hr], hf⟩
      · omega
    | succ k ih =>
      intro i m μ1 x5 h0 hk hf hm1 hc hr
      have hr : (if mb N v i = 0 then mlF (mb N v) (shP e) k (i + 1) (μ1 20) m else mlF (mb N v) (shP e) k (i + 1) (ex1 (μ1 20) (shP e i) (μ1 20 (shP e i) + 1)) (if m < μ1 20 (shP e i) + 1 then μ1 20 (shP e i) + 1 else m)) = R := hr
      have h01 := mb_01 (N := N) (v := v) (i := i)
      have hmi : μ1 19 i = mb N v i := by rw [hf 19 i (by omega)]; exact hm i h0 (by omega)
      have hsi := hsh i
      have hci := hc (shP e i) hsi.1 hsi.2
      have h1 : SR σ μ1 a N t := h.gf (fun k j p => hf k j (by omega))
      have e27 : ∀ x, up μ1 20 (shP e i) x 20 (shP e i) = x := fun x => up_s
      refine ZE.go hW 9999 rfl (by repeat' first | exact True.intro | assumption | apply And.intro | omega) ?_
      refine ZE.b rfl (by omega) (by omega) ?_ ?_ <;> intro g1
      · omega
      · refine ZE.go hW 9999 rfl (by repeat' first | exact True.intro | assumption | apply And.intro | omega) ?_
        refine ZE.b0 rfl (by omega) ?_ ?_ <;> intro g2
        · refine ZE.go hW 13 rfl (by repeat' first | exact True.intro | assumption | apply And.intro | omega) ?_
          first
            | (rw [if_pos (by omega)] at hr
               exact ih (i + 1) m μ1 _ (by omega) (by omega) hf (by omega) (fun j p q => by have := hc j p q; omega) hr)
            | (rw [if_neg (by omega)] at hr
               refine ih (i + 1) _ _ _ (by omega) (by omega) (fun k j p => by rw [up_n (by omega)]; exact hf k j p) (by split <;> omega) (fun j p q => ?_) (by rw [up_row]; exact hr)
               by_cases ej : j = shP e i
               · rw [up_e rfl ej]; omega
               · rw [up_n (by omega)]; have := hc j p q; omega)
        · refine ZE.go hW 9999 rfl (by repeat' first | exact True.intro | assumption | apply And.intro | omega) ?_
          refine ZE.c0 hW rfl rfl (Nat.le_of_ble_eq_true rfl) (Nat.le_of_ble_eq_true rfl) (k_c_gshow (d := d) h1 (by omega) he) ?_
          refine ZE.go hW 9999 rfl (by repeat' first | exact True.intro | assumption | apply And.intro | omega) ?_
          rw [e27]
          refine ZE.c0 hW rfl rfl (Nat.le_of_ble_eq_true rfl) (Nat.le_of_ble_eq_true rfl) (k_j_max (d := d + 3) hW (by omega) (by omega)) ?_
          refine ZE.go hW 13 rfl (by repeat' first | exact True.intro | assumption | apply And.intro | omega) ?_
          first
            | (rw [if_pos (by omega)] at hr
               exact ih (i + 1) m μ1 _ (by omega) (by omega) hf (by omega) (fun j p q => by have := hc j p q; omega) hr)
            | (rw [if_neg (by omega)] at hr
               refine ih (i + 1) _ _ _ (by omega) (by omega) (fun k j p => by rw [up_n (by omega)]; exact hf k j p) (by split <;> omega) (fun j p q => ?_) (by rw [up_row]; exact hr)
               by_cases ej : j = shP e i
               · rw [up_e rfl ej]; omega
               · rw [up_n (by omega)]; have := hc j p q; omega)
  refine ZQ.i rfl ?_
  refine ZE.go hW 9999 rfl (by repeat' first | exact True.intro | assumption | apply And.intro | omega) ?_
  refine ZE.c0 hW rfl rfl (Nat.le_of_ble_eq_true rfl) (Nat.le_of_ble_eq_true rfl) (k_j_fill1027 (d := d + 3) hW) ?_
  refine ZE.go hW 13 rfl (by repeat' first | exact True.intro | assumption | apply And.intro | omega) ?_
  refine loop 36 0 0 _ _ (by omega) (by omega) (fun k j p => fill_n (by omega)) (by omega) (fun j p q => by rw [fill_e rfl p q]; omega) ?_
  rw [← hR]
  exact mlF_cg (fun i p q => hsh i) 36 0 _ _ 0 (by omega) (by omega) (fun j p q => fill_e rfl p q)
set_option maxRecDepth 100000 in set_option maxHeartbeats 4000000 in theorem k_c_bestEvening {v : Int} (h : SR σ μ a N t) (ht : t ≤ 100) (hp : μ 18 0 = isP (mb N v) 36 0 0) (hm : ∀ i, 0 ≤ i → i < 36 → μ 19 i = mb N v i) : ZQ ext (d + 5) n_X5_bestEvening [(1025, 0), (100, a)] σ μ (fun rv μ' => rv = some (0, lkN N v) ∧ Gf μ μ') := by
  have hW := h.1.1
  have hSp := h.2.1.1
  have hB := h.2.1.bk
  have hC := h.ct
  have hge := isP_ge (b := mb N v) 36 0 0
  have hrg := fun e => mlN_rng (N := N) (v := v) (e := e)
  unfold lkN
  generalize hR : lkF (mlN N v) 12 (N 2) (-1) 1000000 = R
  have loop : isP (mb N v) 36 0 0 ≠ 0 → ∀ (k : Nat) (i b f : Int) (μ1 : zM) (x5 : V), 0 ≤ i → i + k = 12 → (∀ k j, k ≠ 20 → μ1 k j = μ k j) → (0 ≤ f ∧ f ≤ 100) → lkF (mlN N v) k (N 2 + i) (N 2 + b) f = R → ZE ext (d + 5) n_X5_bestEvening 21 [(1025, 0), (100, a), (0, b), (0, f), (0, i), x5] [] σ μ1 (fun rv μ' => rv = some (0, R) ∧ Gf μ μ') := by
    intro hne k
    have hpos : ∀ e, 1 ≤ mlN N v e := fun e => mlF_pos 36 0 _ 0 (fun _ => Int.le_refl 0) (Int.le_refl 0) (Or.inr (by omega))
    induction k with
    | zero =>
      intro i b f μ1 x5 h0 hk hf hf1 hr
      have hr : N 2 + b = R := hr
      have h1 : SR σ μ1 a N t := h.gf (fun k j p => hf k j (by omega))
      have c1 := h1.ct
      refine ZE.go hW 9999 rfl (by repeat' first | exact True.intro | assumption | apply And.intro | omega) ?_
      refine ZE.b rfl (by omega) (by omega) ?_ ?_ <;> intro g1
      · refine ZE.go hW 9999 rfl (by repeat' first | exact True.intro | assumption | apply And.intro | omega) ?_
        refine ZE.ri rfl rfl ?_
        refine ⟨?_, fun k j p => hf k j (by omega)⟩
        rw [c1.2.1.1, hr]
      · omega
    | succ k ih =>
      intro i b f μ1 x5 h0 hk hf hf1 hr
      have hr : (if 0 < mlN N v (N 2 + i) ∧ mlN N v (N 2 + i) < f then lkF (mlN N v) k (N 2 + i + 1) (N 2 + i) (mlN N v (N 2 + i)) else lkF (mlN N v) k (N 2 + i + 1) (N 2 + b) f) = R := hr
      have h1 : SR σ μ1 a N t := h.gf (fun k j p => hf k j (by omega))
      have c1 := h1.ct
      have hq := hpos (N 2 + i)
      have hq2 := hrg (N 2 + i)
      have ei : N 2 + i + 1 = N 2 + (i + 1) := by omega
      rw [ei] at hr
      refine ZE.go hW 9999 rfl (by repeat' first | exact True.intro | assumption | apply And.intro | omega) ?_
      refine ZE.b rfl (by omega) (by omega) ?_ ?_ <;> intro g1
      · omega
      · refine ZE.go hW 9999 rfl (by repeat' first | exact True.intro | assumption | apply And.intro | omega) ?_
        rw [c1.2.1.1]
        refine ZE.q0 hW rfl rfl (Nat.le_of_ble_eq_true rfl) (Nat.le_of_ble_eq_true rfl) (k_c_mostAlike (d := d) (v := v) (e := N 2 + i) h1 (by omega) (fun j p q => by rw [hf 19 j (by omega)]; exact hm j p q)) ?_
        rintro rv9 μ2 ⟨rfl, hf2⟩
        refine ZE.go hW 9999 rfl (by repeat' first | exact True.intro | assumption | apply And.intro | omega) ?_
        refine ZE.b rfl (by omega) (by omega) ?_ ?_ <;> intro g2
        · refine ZE.go hW 21 rfl (by repeat' first | exact True.intro | assumption | apply And.intro | omega) ?_
          first
            | (rw [if_pos (by omega)] at hr
               exact ih (i + 1) i _ μ2 _ (by omega) (by omega) (fun k j p => by rw [hf2 k j p]; exact hf k j p) (by omega) hr)
            | (rw [if_neg (by omega)] at hr
               exact ih (i + 1) b f μ2 _ (by omega) (by omega) (fun k j p => by rw [hf2 k j p]; exact hf k j p) hf1 hr)
        · refine ZE.go hW 21 rfl (by repeat' first | exact True.intro | assumption | apply And.intro | omega) ?_
          first
            | (rw [if_pos (by omega)] at hr
               exact ih (i + 1) i _ μ2 _ (by omega) (by omega) (fun k j p => by rw [hf2 k j p]; exact hf k j p) (by omega) hr)
            | (rw [if_neg (by omega)] at hr
               exact ih (i + 1) b f μ2 _ (by omega) (by omega) (fun k j p => by rw [hf2 k j p]; exact hf k j p) hf1 hr)
  refine ZQ.i rfl ?_
  refine ZE.go hW 9999 rfl (by repeat' first | exact True.intro | assumption | apply And.intro | omega) ?_
  refine ZE.b0 rfl (by omega) ?_ ?_ <;> intro g1
  · refine ZE.go hW 21 rfl (by repeat' first | exact True.intro | assumption | apply And.intro | omega) ?_
    refine loop (by omega) 12 0 0 _ μ _ (by omega) (by omega) (fun _ _ _ => rfl) (by omega) ?_
    rw [← hR, Int.add_zero, hp]
    have hpos : 1 ≤ mlN N v (N 2) := mlF_pos 36 0 _ 0 (fun _ => Int.le_refl 0) (Int.le_refl 0) (Or.inr (by omega))
    have hle : mlN N v (N 2) ≤ isP (mb N v) 36 0 0 := mlF_cnt 36 0 _ 0 0 (fun _ => Int.le_refl 0) (Int.le_refl 0)
    have hq2 := hrg (N 2)
    show (if _ then _ else _) = (if _ then _ else _)
    rw [if_pos (by omega), if_pos (by omega)]
  · refine ZE.go hW 9999 rfl (by repeat' first | exact True.intro | assumption | apply And.intro | omega) ?_
    refine ZE.ri rfl rfl ?_
    refine ⟨?_, Gf.rfl'⟩
    have hz : ∀ x, mlN N v x = 0 := fun x => mlF_0 (b := mb N v) (sh := shP x) 36 0 _ 0 (by omega)
    rw [← hR, lkF_0 12 _ _ _ hz]
end
