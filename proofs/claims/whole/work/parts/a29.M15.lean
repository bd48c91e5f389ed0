theorem zxor_rng {x y : Int} : zrng (zxor x y) := by
  unfold zxor
  have h1 := Int32.le_toInt (Int32.ofInt x ^^^ Int32.ofInt y)
  have h2 := Int32.toInt_lt (Int32.ofInt x ^^^ Int32.ofInt y)
  exact ⟨by omega, by omega⟩
def vOf (N : Int → Int) (r : Int) : Int := zlst (fun v => N (7 + 6 * v + 4)) r (N 0).toNat 0 (-1)
def shN (N : Int → Int) (v e : Int) : Int := wSh (N (7 + 6 * v + 0)) (N (7 + 6 * v + 3)) e
theorem vOf_rng {N : Int → Int} {r : Int} (h : 0 ≤ N 0) : vOf N r = -1 ∨ 0 ≤ vOf N r ∧ vOf N r < N 0 := by
  have : ∀ (k : Nat) (i a : Int), 0 ≤ i → (a = -1 ∨ 0 ≤ a ∧ a < i) → zlst (fun v => N (7 + 6 * v + 4)) r k i a = -1 ∨ 0 ≤ zlst (fun v => N (7 + 6 * v + 4)) r k i a ∧ zlst (fun v => N (7 + 6 * v + 4)) r k i a < i + k := by
    intro k
    induction k with
    | zero =>
      intro i a h0 h
      show a = -1 ∨ 0 ≤ a ∧ a < i + ((0 : Nat) : Int)
      omega
    | succ k ih =>
      intro i a h0 h
      have := ih (i + 1) (if N (7 + 6 * i + 4) = r then i else a) (by omega) (by split <;> omega)
      show zlst _ r k (i + 1) _ = -1 ∨ 0 ≤ zlst _ r k (i + 1) _ ∧ zlst _ r k (i + 1) _ < i + ((k + 1 : Nat) : Int)
      have e : i + ((k + 1 : Nat) : Int) = i + 1 + k := by omega
      rw [e]
      exact this
  have := this (N 0).toNat 0 (-1) (by omega) (Or.inl rfl)
  unfold vOf
  omega
/-- both live opposite -/
def opN (N : Int → Int) (r : Int) : Prop := (0 ≤ r ∧ r ≤ N 1 - 1) ∧ (0 ≤ zxor r 1 ∧ zxor r 1 ≤ N 1 - 1)
def airN (N : Int → Int) (r : Int) : Int := if vOf N r = -1 ∨ vOf N (zxor r 1) = -1 then -1 else (shN N (vOf N r) (N 2) + shN N (vOf N (zxor r 1)) (N 2)) % 6
/-- the least of what is told -/
def brI (g : Int → Int) : Nat → Int → Int → Int
  | 0, _, l => l
  | k + 1, y, l => brI g k (y + 1) (if g y = -1 then l else if l = -1 then g y else if g y < l then g y else l)
def brO (g : Int → Int → Int) (nv : Nat) : Nat → Int → Int → Int
  | 0, _, l => l
  | k + 1, x, l => brO g nv k (x + 1) (brI (g x) nv 0 l)
def brok (N : Int → Int) (r w x y : Int) : Prop := (x ≠ y ∧ wFit (N (7 + 6 * x + 0)) (N (7 + 6 * x + 1)) (N (43 + 3 * r + 0)) ∧ wFit (N (7 + 6 * y + 0)) (N (7 + 6 * y + 1)) (N (43 + 3 * (r + 1) + 0))) ∧ (shN N x (N 2) + shN N y (N 2)) % 6 = w
def brch (N : Int → Int) (r x y : Int) : Int := (if x = vOf N r then 0 else 1) + (if y = vOf N (r + 1) then 0 else 1)
noncomputable def brg (N : Int → Int) (r w x y : Int) : Int := by
  classical
  exact if brok N r w x y then 100 * brch N r x y + 10 * x + y else -1
theorem brg_t {N : Int → Int} {r w x y : Int} (h : brok N r w x y) : brg N r w x y = 100 * brch N r x y + 10 * x + y := by unfold brg; exact if_pos h
theorem brg_f {N : Int → Int} {r w x y : Int} (h : ¬ brok N r w x y) : brg N r w x y = -1 := by unfold brg; exact if_neg h
theorem brch_rng {N : Int → Int} {r x y : Int} : 0 ≤ brch N r x y ∧ brch N r x y ≤ 2 := by
  unfold brch
  split <;> split <;> omega
noncomputable def brN (N : Int → Int) (r w : Int) : Int := brO (brg N r w) (N 0).toNat (N 0).toNat 0 (-1)
def lfW (N : Int → Int) (v : Int) : Nat → Int → Int → Int
  | 0, _, a => a
  | k + 1, i, a => lfW N v k (i + 1) (if N (61 + 3 * i) = v then zor a (zshl 1 (N (61 + 3 * i + 1))) else a)
def lfE (N : Int → Int) (v : Int) : Nat → Int → Int → Int
  | 0, _, b => b
  | k + 1, i, b => lfE N v k (i + 1) (if N (61 + 3 * i) = v then (if b = -1 then N (61 + 3 * i + 2) else b) else b)
section
variable {ext : List xC} {σ : zSh} {d : Nat} {μ : zM}
set_option maxRecDepth 100000 in set_option maxHeartbeats 4000000 in theorem k_m_areOpposite {r : Int} (hW : Wl σ) (hr : zrng r) (hn : 0 ≤ μ 169 1 ∧ μ 169 1 ≤ 6) : ZM ext (d + 2) n_X12_areOpposite [(1161, 0), (0, r)] σ μ (some (0, bz (opN (μ 169) r))) μ := by
  apply ZQ.ex
  refine ZQ.i rfl ?_
  refine ZE.go hW 9999 rfl (by and_intros <;> first | trivial | assumption | omega) ?_
  refine ZE.c0 hW rfl rfl (Nat.le_of_ble_eq_true rfl) (Nat.le_of_ble_eq_true rfl) (k_m_isRenter (d := d) hW hr hn) ?_
  refine ZE.bp rfl rfl ?_ ?_ <;> intro g1
  · refine ZE.go hW 9999 rfl (by and_intros <;> first | trivial | assumption | omega) ?_
    refine ZE.rb rfl rfl (by first | exact Or.inl rfl | exact Or.inr rfl | omega) ?_
    first
      | exact ⟨by rw [bz_t (show opN (μ 169) r from ⟨g1, g2⟩)], rfl⟩
      | exact ⟨by rw [bz_f (fun q : opN (μ 169) r => g1 q.1)], rfl⟩
      | exact ⟨by rw [bz_f (fun q : opN (μ 169) r => g2 q.2)], rfl⟩
  · refine ZE.go hW 9999 rfl (by and_intros <;> first | trivial | assumption | omega) ?_
    refine ZE.c0 hW rfl rfl (Nat.le_of_ble_eq_true rfl) (Nat.le_of_ble_eq_true rfl) (k_m_isRenter (d := d) hW zxor_rng hn) ?_
    refine ZE.bp rfl rfl ?_ ?_ <;> intro g2
    · refine ZE.go hW 9999 rfl (by and_intros <;> first | trivial | assumption | omega) ?_
      refine ZE.rb rfl rfl (by first | exact Or.inl rfl | exact Or.inr rfl | omega) ?_
      first
        | exact ⟨by rw [bz_t (show opN (μ 169) r from ⟨g1, g2⟩)], rfl⟩
        | exact ⟨by rw [bz_f (fun q : opN (μ 169) r => g1 q.1)], rfl⟩
        | exact ⟨by rw [bz_f (fun q : opN (μ 169) r => g2 q.2)], rfl⟩
    · refine ZE.go hW 9999 rfl (by and_intros <;> first | trivial | assumption | omega) ?_
      refine ZE.rb rfl rfl (by first | exact Or.inl rfl | exact Or.inr rfl | omega) ?_
      first
        | exact ⟨by rw [bz_t (show opN (μ 169) r from ⟨g1, g2⟩)], rfl⟩
        | exact ⟨by rw [bz_f (fun q : opN (μ 169) r => g1 q.1)], rfl⟩
        | exact ⟨by rw [bz_f (fun q : opN (μ 169) r => g2 q.2)], rfl⟩
set_option maxRecDepth 100000 in set_option maxHeartbeats 4000000 in theorem k_m_air {r t : Int} (hW : Wl σ) (hN : NI (μ 169) t) (ht : t ≤ 100) (hr : zrng r) : ZQ ext (d + 3) n_X12_air [(1161, 0), (0, r)] σ μ (Qm (opN (μ 169) r) (-2) (airN (μ 169) r) μ) := by
  have h1 := hN.1
  have hV := hN.2.1
  have hl : ∀ v, 0 ≤ v → v < μ 169 0 → -1 ≤ μ 169 (7 + 6 * v + 4) ∧ μ 169 (7 + 6 * v + 4) < 6 := hN.2.2.2.2.1.2.2.2.1
  have hev : 0 ≤ μ 169 2 ∧ μ 169 2 ≤ t := hN.2.2.2.2.1.1
  have r1 := vOf_rng (N := μ 169) (r := r) h1.1.1
  have r2 := vOf_rng (N := μ 169) (r := zxor r 1) h1.1.1
  have e1 : zlst (fun v => μ 169 (7 + 6 * v + 4)) r (μ 169 0).toNat 0 (-1) = vOf (μ 169) r := rfl
  have e2 : zlst (fun v => μ 169 (7 + 6 * v + 4)) (zxor r 1) (μ 169 0).toNat 0 (-1) = vOf (μ 169) (zxor r 1) := rfl
  refine ZQ.i rfl ?_
  refine ZE.go hW 9999 rfl (by and_intros <;> first | trivial | assumption | omega) ?_
  refine ZE.c0 hW rfl rfl (Nat.le_of_ble_eq_true rfl) (Nat.le_of_ble_eq_true rfl) (k_m_areOpposite (d := d) hW hr h1.2.1) ?_
  refine ZE.bp rfl rfl ?_ ?_ <;> intro g1
  · refine ZE.go hW 9999 rfl (by and_intros <;> first | trivial | assumption | omega) ?_
    refine ZE.c0 hW rfl rfl (Nat.le_of_ble_eq_true rfl) (Nat.le_of_ble_eq_true rfl) (k_m_viewOf (d := d + 1) hW hr h1.1 (fun v p q => by have := hl v p q; omega)) ?_
    rw [e1]
    refine ZE.go hW 9999 rfl (by and_intros <;> first | trivial | assumption | omega) ?_
    refine ZE.c0 hW rfl rfl (Nat.le_of_ble_eq_true rfl) (Nat.le_of_ble_eq_true rfl) (k_m_viewOf (d := d + 1) hW zxor_rng h1.1 (fun v p q => by have := hl v p q; omega)) ?_
    rw [e2]
    refine ZE.go hW 9999 rfl (by and_intros <;> first | trivial | assumption | omega) ?_
    refine ZE.b rfl (by omega) (by omega) ?_ ?_ <;> intro g2
    · refine ZE.go hW 9999 rfl (by and_intros <;> first | trivial | assumption | omega) ?_
      refine ZE.ri rfl rfl ?_
      first
        | exact ⟨fun q => absurd q g1, fun _ => ⟨rfl, rfl⟩⟩
        | (refine ⟨fun _ => ⟨?_, Mq.rfl'⟩, fun q => absurd g1 q⟩
           unfold airN
           rw [if_pos (by omega)])
        | (refine ⟨fun _ => ⟨?_, Mq.rfl'⟩, fun q => absurd g1 q⟩
           unfold airN
           rw [if_neg (by omega)]
           rfl)
    · refine ZE.go hW 9999 rfl (by and_intros <;> first | trivial | assumption | omega) ?_
      refine ZE.b rfl (by omega) (by omega) ?_ ?_ <;> intro g3
      · refine ZE.go hW 9999 rfl (by and_intros <;> first | trivial | assumption | omega) ?_
        refine ZE.c0 hW rfl rfl (Nat.le_of_ble_eq_true rfl) (Nat.le_of_ble_eq_true rfl) (k_m_showsIn (d := d) hW (by omega) (hV (vOf (μ 169) r) (by omega) (by omega)).1 (hV (vOf (μ 169) r) (by omega) (by omega)).2.2.2.1 (by omega)) ?_
        have s1 := wSh_rng (k := μ 169 (7 + 6 * vOf (μ 169) r + 0)) (w := μ 169 (7 + 6 * vOf (μ 169) r + 3)) (e := μ 169 2) (hV (vOf (μ 169) r) (by omega) (by omega)).2.2.2.1 hev.1
        have s2 := wSh_rng (k := μ 169 (7 + 6 * vOf (μ 169) (zxor r 1) + 0)) (w := μ 169 (7 + 6 * vOf (μ 169) (zxor r 1) + 3)) (e := μ 169 2) (hV (vOf (μ 169) (zxor r 1)) (by omega) (by omega)).2.2.2.1 hev.1
        refine ZE.go hW 9999 rfl (by and_intros <;> first | trivial | assumption | omega) ?_
        refine ZE.c0 hW rfl rfl (Nat.le_of_ble_eq_true rfl) (Nat.le_of_ble_eq_true rfl) (k_m_showsIn (d := d) hW (by omega) (hV (vOf (μ 169) (zxor r 1)) (by omega) (by omega)).1 (hV (vOf (μ 169) (zxor r 1)) (by omega) (by omega)).2.2.2.1 (by omega)) ?_
        refine ZE.go hW 9999 rfl (by and_intros <;> first | trivial | assumption | omega) ?_
        refine ZE.ri rfl rfl ?_
        first
          | exact ⟨fun q => absurd q g1, fun _ => ⟨rfl, rfl⟩⟩
          | (refine ⟨fun _ => ⟨?_, Mq.rfl'⟩, fun q => absurd g1 q⟩
             unfold airN
             rw [if_pos (by omega)])
          | (refine ⟨fun _ => ⟨?_, Mq.rfl'⟩, fun q => absurd g1 q⟩
             unfold airN
             rw [if_neg (by omega)]
             rfl)
      · refine ZE.go hW 9999 rfl (by and_intros <;> first | trivial | assumption | omega) ?_
        refine ZE.ri rfl rfl ?_
        first
          | exact ⟨fun q => absurd q g1, fun _ => ⟨rfl, rfl⟩⟩
          | (refine ⟨fun _ => ⟨?_, Mq.rfl'⟩, fun q => absurd g1 q⟩
             unfold airN
             rw [if_pos (by omega)])
          | (refine ⟨fun _ => ⟨?_, Mq.rfl'⟩, fun q => absurd g1 q⟩
             unfold airN
             rw [if_neg (by omega)]
             rfl)
  · refine ZE.go hW 9999 rfl (by and_intros <;> first | trivial | assumption | omega) ?_
    refine ZE.ri rfl rfl ?_
    first
      | exact ⟨fun q => absurd q g1, fun _ => ⟨rfl, rfl⟩⟩
      | (refine ⟨fun _ => ⟨?_, Mq.rfl'⟩, fun q => absurd g1 q⟩
         unfold airN
         rw [if_pos (by omega)])
      | (refine ⟨fun _ => ⟨?_, Mq.rfl'⟩, fun q => absurd g1 q⟩
         unfold airN
         rw [if_neg (by omega)]
         rfl)
set_option maxRecDepth 100000 in set_option maxHeartbeats 4000000 in theorem k_m_left {v n w t : Int} (hW : Wl σ) (hN : NI (μ 169) t) (ht : t ≤ 100) (hv : zrng v) (hn : zrng n) (hw : zrng w) : ZQ ext (d + 3) n_X12_left [(1161, 0), (0, v), (0, n), (0, w)] σ μ (Qm ((0 ≤ v ∧ v ≤ μ 169 0 - 1) ∧ (0 ≤ n ∧ n ≤ 7) ∧ zand (zshr (μ 169 (7 + 6 * v + 5)) n) 1 ≠ 0 ∧ (0 ≤ w ∧ w ≤ 1)) (-10) (if w = 0 then lfW (μ 169) v (μ 169 4).toNat 0 0 else lfE (μ 169) v (μ 169 4).toNat 0 (-1)) μ) := by
  have h1 := hN.1
  have hV := hN.2.1
  have h4 : 0 ≤ μ 169 4 ∧ μ 169 4 ≤ 12 := hN.2.2.2.2.1.2.1
  have hH : ∀ i, 0 ≤ i → i < μ 169 4 → (0 ≤ μ 169 (61 + 3 * i) ∧ μ 169 (61 + 3 * i) < 6) ∧ (0 ≤ μ 169 (61 + 3 * i + 1) ∧ μ 169 (61 + 3 * i + 1) < 6) ∧ (0 ≤ μ 169 (61 + 3 * i + 2) ∧ μ 169 (61 + 3 * i + 2) ≤ t) := hN.2.2.2.2.1.2.2.2.2.2.1
  generalize hQ : Qm ((0 ≤ v ∧ v ≤ μ 169 0 - 1) ∧ (0 ≤ n ∧ n ≤ 7) ∧ zand (zshr (μ 169 (7 + 6 * v + 5)) n) 1 ≠ 0 ∧ (0 ≤ w ∧ w ≤ 1)) (-10) (if w = 0 then lfW (μ 169) v (μ 169 4).toNat 0 0 else lfE (μ 169) v (μ 169 4).toNat 0 (-1)) μ = Q
  have loop : ∀ (k : Nat) (i a b : Int), ((0 ≤ v ∧ v ≤ μ 169 0 - 1) ∧ (0 ≤ n ∧ n ≤ 7) ∧ zand (zshr (μ 169 (7 + 6 * v + 5)) n) 1 ≠ 0 ∧ (0 ≤ w ∧ w ≤ 1)) → 0 ≤ i → i + k = μ 169 4 → (-1 ≤ b ∧ b ≤ 100) → lfW (μ 169) v k i a = lfW (μ 169) v (μ 169 4).toNat 0 0 → lfE (μ 169) v k i b = lfE (μ 169) v (μ 169 4).toNat 0 (-1) → ZE ext (d + 3) n_X12_left 59 [(1161, 0), (0, v), (0, n), (0, w), (0, a), (0, b), (0, i)] [] σ μ Q := by
    intro k
    induction k with
    | zero =>
      intro i a b hok h0 hi hb hA hB
      have hA : a = _ := hA
      have hB : b = _ := hB
      refine ZE.go hW 9999 rfl (by and_intros <;> first | trivial | assumption | omega) ?_
      refine ZE.b rfl (by omega) (by omega) ?_ ?_ <;> intro g1
      · refine ZE.go hW 9999 rfl (by and_intros <;> first | trivial | assumption | omega) ?_
        refine ZE.b0 rfl (by omega) ?_ ?_ <;> intro g2
        · refine ZE.go hW 9999 rfl (by and_intros <;> first | trivial | assumption | omega) ?_
          refine ZE.ri rfl rfl ?_
          rw [← hQ]
          refine ⟨fun _ => ⟨?_, Mq.rfl'⟩, fun q => absurd hok q⟩
          first
            | rw [if_pos (by omega), hA]
            | rw [if_neg (by omega), hB]
        · refine ZE.go hW 9999 rfl (by and_intros <;> first | trivial | assumption | omega) ?_
          refine ZE.ri rfl rfl ?_
          rw [← hQ]
          refine ⟨fun _ => ⟨?_, Mq.rfl'⟩, fun q => absurd hok q⟩
          first
            | rw [if_pos (by omega), hA]
            | rw [if_neg (by omega), hB]
      · omega
    | succ k ih =>
      intro i a b hok h0 hi hb hA hB
      have hi2 := hH i h0 (by omega)
      have hA : lfW (μ 169) v k (i + 1) (if μ 169 (61 + 3 * i) = v then zor a (zshl 1 (μ 169 (61 + 3 * i + 1))) else a) = _ := hA
      have hB : lfE (μ 169) v k (i + 1) (if μ 169 (61 + 3 * i) = v then (if b = -1 then μ 169 (61 + 3 * i + 2) else b) else b) = _ := hB
      refine ZE.go hW 9999 rfl (by and_intros <;> first | trivial | assumption | omega) ?_
      refine ZE.b rfl (by omega) (by omega) ?_ ?_ <;> intro g1
      · omega
      · refine ZE.go hW 9999 rfl (by and_intros <;> first | trivial | assumption | omega) ?_
        refine ZE.b rfl (by omega) (by omega) ?_ ?_ <;> intro g2
        · refine ZE.go hW 59 rfl (by and_intros <;> first | trivial | assumption | omega) ?_
          first
            | (rw [if_neg (by omega)] at hA hB; exact ih (i + 1) a b hok (by omega) (by omega) hb hA hB)
            | (rw [if_pos (by omega)] at hA hB; rw [if_pos (by omega)] at hB; exact ih (i + 1) _ _ hok (by omega) (by omega) (by omega) hA hB)
            | (rw [if_pos (by omega)] at hA hB; rw [if_neg (by omega)] at hB; exact ih (i + 1) _ _ hok (by omega) (by omega) (by omega) hA hB)
        · refine ZE.go hW 9999 rfl (by and_intros <;> first | trivial | assumption | omega) ?_
          refine ZE.b rfl (by omega) (by omega) ?_ ?_ <;> intro g3
          · refine ZE.go hW 59 rfl (by and_intros <;> first | trivial | assumption | omega) ?_
            first
              | (rw [if_neg (by omega)] at hA hB; exact ih (i + 1) a b hok (by omega) (by omega) hb hA hB)
              | (rw [if_pos (by omega)] at hA hB; rw [if_pos (by omega)] at hB; exact ih (i + 1) _ _ hok (by omega) (by omega) (by omega) hA hB)
              | (rw [if_pos (by omega)] at hA hB; rw [if_neg (by omega)] at hB; exact ih (i + 1) _ _ hok (by omega) (by omega) (by omega) hA hB)
          · refine ZE.go hW 59 rfl (by and_intros <;> first | trivial | assumption | omega) ?_
            first
              | (rw [if_neg (by omega)] at hA hB; exact ih (i + 1) a b hok (by omega) (by omega) hb hA hB)
              | (rw [if_pos (by omega)] at hA hB; rw [if_pos (by omega)] at hB; exact ih (i + 1) _ _ hok (by omega) (by omega) (by omega) hA hB)
              | (rw [if_pos (by omega)] at hA hB; rw [if_neg (by omega)] at hB; exact ih (i + 1) _ _ hok (by omega) (by omega) (by omega) hA hB)
  refine ZQ.i rfl ?_
  refine ZE.go hW 9999 rfl (by and_intros <;> first | trivial | assumption | omega) ?_
  refine ZE.c0 hW rfl rfl (Nat.le_of_ble_eq_true rfl) (Nat.le_of_ble_eq_true rfl) (k_m_isView (d := d + 1) hW hv h1.1) ?_
  refine ZE.bp rfl rfl ?_ ?_ <;> intro g1
  · refine ZE.go hW 9999 rfl (by and_intros <;> first | trivial | assumption | omega) ?_
    refine ZE.ri rfl rfl ?_
    rw [← hQ]
    exact ⟨fun q => absurd q (by omega), fun _ => ⟨rfl, rfl⟩⟩
  · refine ZE.go hW 9999 rfl (by and_intros <;> first | trivial | assumption | omega) ?_
    refine ZE.c0 hW rfl rfl (Nat.le_of_ble_eq_true rfl) (Nat.le_of_ble_eq_true rfl) (k_in (d := d + 2) hW hn (by omega) (by omega)) ?_
    refine ZE.bp rfl rfl ?_ ?_ <;> intro g2
    · refine ZE.go hW 9999 rfl (by and_intros <;> first | trivial | assumption | omega) ?_
      refine ZE.ri rfl rfl ?_
      rw [← hQ]
      exact ⟨fun q => absurd q (by omega), fun _ => ⟨rfl, rfl⟩⟩
    · refine ZE.go hW 9999 rfl (by and_intros <;> first | trivial | assumption | omega) ?_
      refine ZE.b0 rfl (bt_rng (by have := hV v (by omega) (by omega); omega) (by omega)) ?_ ?_ <;> intro g3
      · refine ZE.go hW 9999 rfl (by and_intros <;> first | trivial | assumption | omega) ?_
        refine ZE.ri rfl rfl ?_
        rw [← hQ]
        exact ⟨fun q => absurd q (by omega), fun _ => ⟨rfl, rfl⟩⟩
      · refine ZE.go hW 9999 rfl (by and_intros <;> first | trivial | assumption | omega) ?_
        refine ZE.c0 hW rfl rfl (Nat.le_of_ble_eq_true rfl) (Nat.le_of_ble_eq_true rfl) (k_in (d := d + 2) hW hw (by omega) (by omega)) ?_
        refine ZE.bp rfl rfl ?_ ?_ <;> intro g4
        · refine ZE.go hW 59 rfl (by and_intros <;> first | trivial | assumption | omega) ?_
          exact loop (μ 169 4).toNat 0 0 (-1) ⟨g1, g2, g3, g4⟩ (by omega) (by omega) (by omega) rfl rfl
        · refine ZE.go hW 9999 rfl (by and_intros <;> first | trivial | assumption | omega) ?_
          refine ZE.ri rfl rfl ?_
          rw [← hQ]
          exact ⟨fun q => absurd q (by omega), fun _ => ⟨rfl, rfl⟩⟩
set_option maxRecDepth 100000 in set_option maxHeartbeats 4000000 in theorem k_m_bring {r w a t : Int} (hW : Wl σ) (hN : NI (μ 169) t) (ht : t ≤ 100) (hr : zrng r) (hw : zrng w) (ha : zrng a) : ZQ ext (d + 3) n_X12_bring [(1161, 0), (0, r), (0, w), (0, a)] σ μ (Qm (opN (μ 169) r ∧ r % 2 ≠ 1 ∧ (0 ≤ w ∧ w ≤ 5) ∧ (0 ≤ a ∧ a ≤ 1)) (-2) (if brN (μ 169) r w = -1 then -1 else if a = 0 then brN (μ 169) r w / 100 else brN (μ 169) r w % 100) μ) := by
  have h1 := hN.1
  have hV := hN.2.1
  have hl : ∀ v, 0 ≤ v → v < μ 169 0 → -1 ≤ μ 169 (7 + 6 * v + 4) ∧ μ 169 (7 + 6 * v + 4) < 6 := hN.2.2.2.2.1.2.2.2.1
  have hev : 0 ≤ μ 169 2 ∧ μ 169 2 ≤ t := hN.2.2.2.2.1.1
  have v1 := vOf_rng (N := μ 169) (r := r) h1.1.1
  have v2 := vOf_rng (N := μ 169) (r := r + 1) h1.1.1
  have e1 : zlst (fun v => μ 169 (7 + 6 * v + 4)) r (μ 169 0).toNat 0 (-1) = vOf (μ 169) r := rfl
  have e2 : zlst (fun v => μ 169 (7 + 6 * v + 4)) (r + 1) (μ 169 0).toNat 0 (-1) = vOf (μ 169) (r + 1) := rfl
  generalize hQ : Qm (opN (μ 169) r ∧ r % 2 ≠ 1 ∧ (0 ≤ w ∧ w ≤ 5) ∧ (0 ≤ a ∧ a ≤ 1)) (-2) (if brN (μ 169) r w = -1 then -1 else if a = 0 then brN (μ 169) r w / 100 else brN (μ 169) r w % 100) μ = Q
  have loop : ∀ (μ8 : zM), (opN (μ 169) r ∧ r % 2 ≠ 1 ∧ (0 ≤ w ∧ w ≤ 5) ∧ (0 ≤ a ∧ a ≤ 1)) → r + 1 ≤ μ 169 1 - 1 → Mq μ μ8 → HL μ8 → ∀ (k : Nat) (x b f l : Int) (x7 x8 x9 : V), 0 ≤ x → x + k = μ 169 0 → (b = -1 ∧ f = 1000000 ∧ l = -1 ∨ 0 ≤ b ∧ b < 10 * x ∧ (0 ≤ f ∧ f ≤ 2) ∧ l = 100 * f + b) → brO (brg (μ 169) r w) (μ 169 0).toNat k x l = brN (μ 169) r w → ZE ext (d + 3) n_X12_bring 53 [(1161, 0), (0, r), (0, w), (0, a), (0, b), (0, f), (0, x), x7, x8, x9] [] σ μ8 Q := by
    intro μ8 hok hr1 hq hlh k
    have e162 := hq.n
    have n0 := congrFun e162 0
    have hr0 := hok.1.1
    have hN8 : NI (μ8 169) t := by rw [e162]; exact hN
    have w1 := (hlh.2.2 r (by omega) (by rw [e162]; omega)).1
    have w2 := (hlh.2.2 (r + 1) (by omega) (by rw [e162]; omega)).1
    rw [e162] at w1 w2
    have hR1 := hN.2.2.1 r (by omega) (by omega)
    have hR2 := hN.2.2.1 (r + 1) (by omega) (by omega)
    induction k with
    | zero =>
      intro x b f l x7 x8 x9 h0 hk hb hT
      have hT : l = brN (μ 169) r w := hT
      refine ZE.go hW 9999 rfl (by and_intros <;> first | trivial | assumption | omega) ?_
      refine ZE.b rfl (by omega) (by omega) ?_ ?_ <;> intro g1
      · refine ZE.go hW 9999 rfl (by and_intros <;> first | trivial | assumption | omega) ?_
        refine ZE.b rfl (by omega) (by omega) ?_ ?_ <;> intro g2
        · refine ZE.go hW 9999 rfl (by and_intros <;> first | trivial | assumption | omega) ?_
          refine ZE.b0 rfl (by omega) ?_ ?_ <;> intro g3
          · refine ZE.go hW 9999 rfl (by and_intros <;> first | trivial | assumption | omega) ?_
            refine ZE.ri rfl rfl ?_
            rw [← hQ]
            refine ⟨fun _ => ⟨?_, hq⟩, fun q => absurd hok q⟩
            rw [← hT]
            first
              | rw [if_pos (by omega)]
              | (rw [if_neg (by omega), if_pos (by omega)]; exact congrArg (fun z => some ((0 : Nat), z)) (by omega))
              | (rw [if_neg (by omega), if_neg (by omega)]; exact congrArg (fun z => some ((0 : Nat), z)) (by omega))
          · refine ZE.go hW 9999 rfl (by and_intros <;> first | trivial | assumption | omega) ?_
            refine ZE.ri rfl rfl ?_
            rw [← hQ]
            refine ⟨fun _ => ⟨?_, hq⟩, fun q => absurd hok q⟩
            rw [← hT]
            first
              | rw [if_pos (by omega)]
              | (rw [if_neg (by omega), if_pos (by omega)]; exact congrArg (fun z => some ((0 : Nat), z)) (by omega))
              | (rw [if_neg (by omega), if_neg (by omega)]; exact congrArg (fun z => some ((0 : Nat), z)) (by omega))
        · refine ZE.go hW 9999 rfl (by and_intros <;> first | trivial | assumption | omega) ?_
          refine ZE.ri rfl rfl ?_
          rw [← hQ]
          refine ⟨fun _ => ⟨?_, hq⟩, fun q => absurd hok q⟩
          rw [← hT]
          first
            | rw [if_pos (by omega)]
            | (rw [if_neg (by omega), if_pos (by omega)]; exact congrArg (fun z => some ((0 : Nat), z)) (by omega))
            | (rw [if_neg (by omega), if_neg (by omega)]; exact congrArg (fun z => some ((0 : Nat), z)) (by omega))
      · omega
    | succ k ih =>
      intro x b f l x7 x8 x9 h0 hk hb hT
      have hT : brO (brg (μ 169) r w) (μ 169 0).toNat k (x + 1) (brI (brg (μ 169) r w x) (μ 169 0).toNat 0 l) = brN (μ 169) r w := hT
      have hVx := hV x h0 (by omega)
      have inner : ∀ (q : Nat) (y b f l : Int) (x8 x9 : V), 0 ≤ y → y + q = μ 169 0 → (b = -1 ∧ f = 1000000 ∧ l = -1 ∨ 0 ≤ b ∧ b < 10 * x + y ∧ (0 ≤ f ∧ f ≤ 2) ∧ l = 100 * f + b) → brO (brg (μ 169) r w) (μ 169 0).toNat k (x + 1) (brI (brg (μ 169) r w x) q y l) = brN (μ 169) r w → ZE ext (d + 3) n_X12_bring 65 [(1161, 0), (0, r), (0, w), (0, a), (0, b), (0, f), (0, x), (0, y), x8, x9] [] σ μ8 Q := by
        intro q
        induction q with
        | zero =>
          intro y b f l x8 x9 hy0 hy hb hT
          refine ZE.go hW 9999 rfl (by and_intros <;> first | trivial | assumption | omega) ?_
          refine ZE.b rfl (by omega) (by omega) ?_ ?_ <;> intro g1
          · refine ZE.go hW 53 rfl (by and_intros <;> first | trivial | assumption | omega) ?_
            exact ih (x + 1) b f l _ _ _ (by omega) (by omega) (by omega) hT
          · omega
        | succ q ihq =>
          intro y b f l x8 x9 hy0 hy hb hT
          have hT : brO (brg (μ 169) r w) (μ 169 0).toNat k (x + 1) (brI (brg (μ 169) r w x) q (y + 1) (if brg (μ 169) r w x y = -1 then l else if l = -1 then brg (μ 169) r w x y else if brg (μ 169) r w x y < l then brg (μ 169) r w x y else l)) = brN (μ 169) r w := hT
          have hVy := hV y hy0 (by omega)
          have s1 : 0 ≤ shN (μ 169) x (μ 169 2) ∧ shN (μ 169) x (μ 169 2) < 6 := wSh_rng hVx.2.2.2.1 hev.1
          have s2 : 0 ≤ shN (μ 169) y (μ 169 2) ∧ shN (μ 169) y (μ 169 2) < 6 := wSh_rng hVy.2.2.2.1 hev.1
          have hch := brch_rng (N := μ 169) (r := r) (x := x) (y := y)
          have ech : brch (μ 169) r x y = (if x = vOf (μ 169) r then 0 else 1) + (if y = vOf (μ 169) (r + 1) then 0 else 1) := rfl
          have no : ∀ (x8 x9 : V), (¬ brok (μ 169) r w x y ∨ brok (μ 169) r w x y ∧ f ≤ brch (μ 169) r x y) → ZE ext (d + 3) n_X12_bring 65 [(1161, 0), (0, r), (0, w), (0, a), (0, b), (0, f), (0, x), (0, y + 1), x8, x9] [] σ μ8 Q := by
            intro x8 x9 hno
            rcases hno with hno | hno
            · rw [brg_f hno, if_pos rfl] at hT
              exact ihq (y + 1) b f l _ _ (by omega) (by omega) (by omega) hT
            · rw [brg_t hno.1, if_neg (by omega)] at hT
              rw [if_neg (by omega), if_neg (by omega)] at hT
              exact ihq (y + 1) b f l _ _ (by omega) (by omega) (by omega) hT
          have yes : ∀ (x8 x9 : V), brok (μ 169) r w x y → brch (μ 169) r x y < f → ZE ext (d + 3) n_X12_bring 65 [(1161, 0), (0, r), (0, w), (0, a), (0, 10 * x + y), (0, brch (μ 169) r x y), (0, x), (0, y + 1), x8, x9] [] σ μ8 Q := by
            intro x8 x9 h1 h2
            rw [brg_t h1, if_neg (by omega)] at hT
            by_cases hl1 : l = -1
            · rw [if_pos hl1] at hT
              exact ihq (y + 1) _ _ _ _ _ (by omega) (by omega) (Or.inr ⟨by omega, by omega, hch, by omega⟩) hT
            · rw [if_neg hl1, if_pos (by omega)] at hT
              exact ihq (y + 1) _ _ _ _ _ (by omega) (by omega) (Or.inr ⟨by omega, by omega, hch, by omega⟩) hT
          -- what is behind 155, for each truth of may
          have tl : ∀ (m : Int), (m = 0 ∨ m = 1) → (m = 1 ↔ (x ≠ y ∧ wFit (μ 169 (7 + 6 * x + 0)) (μ 169 (7 + 6 * x + 1)) (μ 169 (43 + 3 * r + 0)) ∧ wFit (μ 169 (7 + 6 * y + 0)) (μ 169 (7 + 6 * y + 1)) (μ 169 (43 + 3 * (r + 1) + 0)))) → ZE ext (d + 3) n_X12_bring 120 [(1161, 0), (0, r), (0, w), (0, a), (0, b), (0, f), (0, x), (0, y), (0, m), x9] [] σ μ8 Q := by
            intro m hm01 hm
            have t2 : ∀ c, c = brch (μ 169) r x y → ZE ext (d + 3) n_X12_bring 155 [(1161, 0), (0, r), (0, w), (0, a), (0, b), (0, f), (0, x), (0, y), (0, m), (0, c)] [] σ μ8 Q := by
              intro c hc
              subst hc
              refine ZE.go hW 9999 rfl (by and_intros <;> first | trivial | assumption | omega) ?_
              refine ZE.b0 rfl (by omega) ?_ ?_ <;> intro g1
              · refine ZE.go hW 65 rfl (by and_intros <;> first | trivial | assumption | omega) ?_
                first
                  | exact no _ _ (Or.inl (fun q => absurd (hm.mpr q.1) (by omega)))
                  | exact no _ _ (Or.inl (fun q => absurd q.2 (by omega)))
                  | exact yes _ _ ⟨hm.mp (by omega), by omega⟩ (by omega)
                  | (by_cases hok2 : brok (μ 169) r w x y
                     · exact no _ _ (Or.inr ⟨hok2, by omega⟩)
                     · exact no _ _ (Or.inl hok2))
              · refine ZE.go hW 9999 rfl (by and_intros <;> first | trivial | assumption | omega) ?_
                refine ZE.b rfl (by omega) (by omega) ?_ ?_ <;> intro g2
                · refine ZE.go hW 65 rfl (by and_intros <;> first | trivial | assumption | omega) ?_
                  first
                    | exact no _ _ (Or.inl (fun q => absurd (hm.mpr q.1) (by omega)))
                    | exact no _ _ (Or.inl (fun q => absurd q.2 (by omega)))
                    | exact yes _ _ ⟨hm.mp (by omega), by omega⟩ (by omega)
                    | (by_cases hok2 : brok (μ 169) r w x y
                       · exact no _ _ (Or.inr ⟨hok2, by omega⟩)
                       · exact no _ _ (Or.inl hok2))
                · refine ZE.go hW 9999 rfl (by and_intros <;> first | trivial | assumption | omega) ?_
                  refine ZE.c0 hW rfl rfl (Nat.le_of_ble_eq_true rfl) (Nat.le_of_ble_eq_true rfl) (k_m_showsIn (d := d) hW (by omega) (by rw [e162]; exact hVx.1) (by rw [e162]; exact hVx.2.2.2.1) (by rw [e162]; omega)) ?_
                  rw [show wSh (μ8 169 (7 + 6 * x + 0)) (μ8 169 (7 + 6 * x + 3)) (μ8 169 2) = shN (μ 169) x (μ 169 2) by rw [e162]; rfl]
                  refine ZE.go hW 9999 rfl (by and_intros <;> first | trivial | assumption | omega) ?_
                  refine ZE.c0 hW rfl rfl (Nat.le_of_ble_eq_true rfl) (Nat.le_of_ble_eq_true rfl) (k_m_showsIn (d := d) hW (by omega) (by rw [e162]; exact hVy.1) (by rw [e162]; exact hVy.2.2.2.1) (by rw [e162]; omega)) ?_
                  rw [show wSh (μ8 169 (7 + 6 * y + 0)) (μ8 169 (7 + 6 * y + 3)) (μ8 169 2) = shN (μ 169) y (μ 169 2) by rw [e162]; rfl]
                  refine ZE.go hW 9999 rfl (by and_intros <;> first | trivial | assumption | omega) ?_
                  refine ZE.b rfl (by omega) (by omega) ?_ ?_ <;> intro g3
                  · refine ZE.go hW 65 rfl (by and_intros <;> first | trivial | assumption | omega) ?_
                    first
                      | exact no _ _ (Or.inl (fun q => absurd (hm.mpr q.1) (by omega)))
                      | exact no _ _ (Or.inl (fun q => absurd q.2 (by omega)))
                      | exact yes _ _ ⟨hm.mp (by omega), by omega⟩ (by omega)
                      | (by_cases hok2 : brok (μ 169) r w x y
                         · exact no _ _ (Or.inr ⟨hok2, by omega⟩)
                         · exact no _ _ (Or.inl hok2))
                  · refine ZE.go hW 65 rfl (by and_intros <;> first | trivial | assumption | omega) ?_
                    first
                      | exact no _ _ (Or.inl (fun q => absurd (hm.mpr q.1) (by omega)))
                      | exact no _ _ (Or.inl (fun q => absurd q.2 (by omega)))
                      | exact yes _ _ ⟨hm.mp (by omega), by omega⟩ (by omega)
                      | (by_cases hok2 : brok (μ 169) r w x y
                         · exact no _ _ (Or.inr ⟨hok2, by omega⟩)
                         · exact no _ _ (Or.inl hok2))
            refine ZE.go hW 9999 rfl (by and_intros <;> first | trivial | assumption | omega) ?_
            refine ZE.c0 hW rfl rfl (Nat.le_of_ble_eq_true rfl) (Nat.le_of_ble_eq_true rfl) (k_m_viewOf (d := d + 1) hW hr (by omega) (fun v p q => by rw [e162]; have := hl v p (by omega); omega)) ?_
            rw [e162, e1]
            refine ZE.b rfl (by omega) (by omega) ?_ ?_ <;> intro g1
            · refine ZE.go hW 9999 rfl (by and_intros <;> first | trivial | assumption | omega) ?_
              refine ZE.c0 hW rfl rfl (Nat.le_of_ble_eq_true rfl) (Nat.le_of_ble_eq_true rfl) (k_m_viewOf (d := d + 1) hW (by omega) (by omega) (fun v p q => by rw [e162]; have := hl v p (by omega); omega)) ?_
              rw [e162, e2]
              refine ZE.b rfl (by omega) (by omega) ?_ ?_ <;> intro g2
              · refine ZE.go hW 155 rfl (by and_intros <;> first | trivial | assumption | omega) ?_
                first
                  | exact t2 _ (by rw [ech, if_pos (by omega), if_pos (by omega)])
                  | exact t2 _ (by rw [ech, if_pos (by omega), if_neg (by omega)])
                  | exact t2 _ (by rw [ech, if_neg (by omega), if_pos (by omega)])
                  | exact t2 _ (by rw [ech, if_neg (by omega), if_neg (by omega)])
              · refine ZE.go hW 155 rfl (by and_intros <;> first | trivial | assumption | omega) ?_
                first
                  | exact t2 _ (by rw [ech, if_pos (by omega), if_pos (by omega)])
                  | exact t2 _ (by rw [ech, if_pos (by omega), if_neg (by omega)])
                  | exact t2 _ (by rw [ech, if_neg (by omega), if_pos (by omega)])
                  | exact t2 _ (by rw [ech, if_neg (by omega), if_neg (by omega)])
            · refine ZE.go hW 9999 rfl (by and_intros <;> first | trivial | assumption | omega) ?_
              refine ZE.c0 hW rfl rfl (Nat.le_of_ble_eq_true rfl) (Nat.le_of_ble_eq_true rfl) (k_m_viewOf (d := d + 1) hW (by omega) (by omega) (fun v p q => by rw [e162]; have := hl v p (by omega); omega)) ?_
              rw [e162, e2]
              refine ZE.b rfl (by omega) (by omega) ?_ ?_ <;> intro g2
              · refine ZE.go hW 155 rfl (by and_intros <;> first | trivial | assumption | omega) ?_
                first
                  | exact t2 _ (by rw [ech, if_pos (by omega), if_pos (by omega)])
                  | exact t2 _ (by rw [ech, if_pos (by omega), if_neg (by omega)])
                  | exact t2 _ (by rw [ech, if_neg (by omega), if_pos (by omega)])
                  | exact t2 _ (by rw [ech, if_neg (by omega), if_neg (by omega)])
              · refine ZE.go hW 155 rfl (by and_intros <;> first | trivial | assumption | omega) ?_
                first
                  | exact t2 _ (by rw [ech, if_pos (by omega), if_pos (by omega)])
                  | exact t2 _ (by rw [ech, if_pos (by omega), if_neg (by omega)])
                  | exact t2 _ (by rw [ech, if_neg (by omega), if_pos (by omega)])
                  | exact t2 _ (by rw [ech, if_neg (by omega), if_neg (by omega)])
          refine ZE.go hW 9999 rfl (by and_intros <;> first | trivial | assumption | omega) ?_
          refine ZE.b rfl (by omega) (by omega) ?_ ?_ <;> intro g1
          · omega
          · refine ZE.go hW 9999 rfl (by and_intros <;> first | trivial | assumption | omega) ?_
            refine ZE.b rfl (by omega) (by omega) ?_ ?_ <;> intro g2
            · refine ZE.go hW 120 rfl (by and_intros <;> first | trivial | assumption | omega) ?_
              first
                | exact tl 1 (by omega) ⟨fun _ => ⟨g2, g3, g4⟩, fun _ => rfl⟩
                | exact tl 0 (by omega) ⟨fun q => absurd q (by omega), fun q => absurd g2 q.1⟩
                | exact tl 0 (by omega) ⟨fun q => absurd q (by omega), fun q => absurd q.2.1 g3⟩
                | exact tl 0 (by omega) ⟨fun q => absurd q (by omega), fun q => absurd q.2.2 g4⟩
            · refine ZE.go hW 9999 rfl (by and_intros <;> first | trivial | assumption | omega) ?_
              refine ZE.c0 hW rfl rfl (Nat.le_of_ble_eq_true rfl) (Nat.le_of_ble_eq_true rfl) (k_m_fits (d := d + 1) hW (by omega) (by rw [e162]; exact hVx.1) (by rw [e162]; omega) (by omega)) ?_
              rw [e162, w1]
              refine ZE.bp rfl rfl ?_ ?_ <;> intro g3
              · refine ZE.go hW 120 rfl (by and_intros <;> first | trivial | assumption | omega) ?_
                first
                  | exact tl 1 (by omega) ⟨fun _ => ⟨g2, g3, g4⟩, fun _ => rfl⟩
                  | exact tl 0 (by omega) ⟨fun q => absurd q (by omega), fun q => absurd g2 q.1⟩
                  | exact tl 0 (by omega) ⟨fun q => absurd q (by omega), fun q => absurd q.2.1 g3⟩
                  | exact tl 0 (by omega) ⟨fun q => absurd q (by omega), fun q => absurd q.2.2 g4⟩
              · refine ZE.go hW 9999 rfl (by and_intros <;> first | trivial | assumption | omega) ?_
                refine ZE.c0 hW rfl rfl (Nat.le_of_ble_eq_true rfl) (Nat.le_of_ble_eq_true rfl) (k_m_fits (d := d + 1) hW (by omega) (by rw [e162]; exact hVy.1) (by rw [e162]; omega) (by omega)) ?_
                rw [e162, w2]
                refine ZE.bp rfl rfl ?_ ?_ <;> intro g4
                · refine ZE.go hW 120 rfl (by and_intros <;> first | trivial | assumption | omega) ?_
                  first
                    | exact tl 1 (by omega) ⟨fun _ => ⟨g2, g3, g4⟩, fun _ => rfl⟩
                    | exact tl 0 (by omega) ⟨fun q => absurd q (by omega), fun q => absurd g2 q.1⟩
                    | exact tl 0 (by omega) ⟨fun q => absurd q (by omega), fun q => absurd q.2.1 g3⟩
                    | exact tl 0 (by omega) ⟨fun q => absurd q (by omega), fun q => absurd q.2.2 g4⟩
                · refine ZE.go hW 120 rfl (by and_intros <;> first | trivial | assumption | omega) ?_
                  first
                    | exact tl 1 (by omega) ⟨fun _ => ⟨g2, g3, g4⟩, fun _ => rfl⟩
                    | exact tl 0 (by omega) ⟨fun q => absurd q (by omega), fun q => absurd g2 q.1⟩
                    | exact tl 0 (by omega) ⟨fun q => absurd q (by omega), fun q => absurd q.2.1 g3⟩
                    | exact tl 0 (by omega) ⟨fun q => absurd q (by omega), fun q => absurd q.2.2 g4⟩
      refine ZE.go hW 9999 rfl (by and_intros <;> first | trivial | assumption | omega) ?_
      refine ZE.b rfl (by omega) (by omega) ?_ ?_ <;> intro g1
      · omega
      · refine ZE.go hW 65 rfl (by and_intros <;> first | trivial | assumption | omega) ?_
        exact inner (μ 169 0).toNat 0 b f l _ _ (by omega) (by omega) (by omega) hT
  refine ZQ.i rfl ?_
  refine ZE.go hW 9999 rfl (by and_intros <;> first | trivial | assumption | omega) ?_
  refine ZE.c0 hW rfl rfl (Nat.le_of_ble_eq_true rfl) (Nat.le_of_ble_eq_true rfl) (k_m_areOpposite (d := d) hW hr h1.2.1) ?_
  have rr : opN (μ 169) r → 0 ≤ r ∧ r ≤ μ 169 1 - 1 := fun q => q.1
  refine ZE.bp rfl rfl ?_ ?_ <;> intro g1
  · refine ZE.go hW 9999 rfl (by and_intros <;> first | trivial | assumption | omega) ?_
    refine ZE.ri rfl rfl ?_
    rw [← hQ]
    first
      | exact ⟨fun q => absurd q.1 g1, fun _ => ⟨rfl, rfl⟩⟩
      | exact ⟨fun q => absurd q.2 (by omega), fun _ => ⟨rfl, rfl⟩⟩
  · have rr2 := rr g1
    refine ZE.go hW 9999 rfl (by and_intros <;> first | trivial | assumption | omega) ?_
    refine ZE.b rfl (by omega) (by omega) ?_ ?_ <;> intro g2
    · refine ZE.go hW 9999 rfl (by and_intros <;> first | trivial | assumption | omega) ?_
      refine ZE.ri rfl rfl ?_
      rw [← hQ]
      first
        | exact ⟨fun q => absurd q.1 g1, fun _ => ⟨rfl, rfl⟩⟩
        | exact ⟨fun q => absurd q.2 (by omega), fun _ => ⟨rfl, rfl⟩⟩
    · refine ZE.go hW 9999 rfl (by and_intros <;> first | trivial | assumption | omega) ?_
      refine ZE.c0 hW rfl rfl (Nat.le_of_ble_eq_true rfl) (Nat.le_of_ble_eq_true rfl) (k_m_isWeather (d := d + 1) hW hw) ?_
      refine ZE.bp rfl rfl ?_ ?_ <;> intro g3
      · refine ZE.go hW 9999 rfl (by and_intros <;> first | trivial | assumption | omega) ?_
        refine ZE.ri rfl rfl ?_
        rw [← hQ]
        first
          | exact ⟨fun q => absurd q.1 g1, fun _ => ⟨rfl, rfl⟩⟩
          | exact ⟨fun q => absurd q.2 (by omega), fun _ => ⟨rfl, rfl⟩⟩
      · refine ZE.go hW 9999 rfl (by and_intros <;> first | trivial | assumption | omega) ?_
        refine ZE.c0 hW rfl rfl (Nat.le_of_ble_eq_true rfl) (Nat.le_of_ble_eq_true rfl) (k_in (d := d + 2) hW ha (by omega) (by omega)) ?_
        refine ZE.bp rfl rfl ?_ ?_ <;> intro g4
        · refine ZE.go hW 9999 rfl (by and_intros <;> first | trivial | assumption | omega) ?_
          refine ZE.q0 hW rfl rfl (Nat.le_of_ble_eq_true rfl) (Nat.le_of_ble_eq_true rfl) (k_m_layHand (d := d + 1) hW hN) ?_
          rintro rv9 μ8 ⟨rfl, hq, hlh⟩
          refine ZE.go hW 53 rfl (by and_intros <;> first | trivial | assumption | omega) ?_
          have hx1 := g1.2
          have hxx : zxor r 1 = r + 1 := by
            have key : ∀ n, n < 6 → n % 2 = 0 → zxor ((n : Nat) : Int) 1 = ((n : Nat) : Int) + 1 := by decide +kernel
            obtain ⟨n, rfl, hn⟩ := toN (show 0 ≤ r by omega) (show r < 6 by omega)
            exact key n (by omega) (by omega)
          exact loop μ8 ⟨g1, g2, g3, g4⟩ (by omega) hq hlh (μ 169 0).toNat 0 (-1) 1000000 (-1) _ _ _ (by omega) (by omega) (Or.inl ⟨rfl, rfl, rfl⟩) rfl
        · refine ZE.go hW 9999 rfl (by and_intros <;> first | trivial | assumption | omega) ?_
          refine ZE.ri rfl rfl ?_
          rw [← hQ]
          first
            | exact ⟨fun q => absurd q.1 g1, fun _ => ⟨rfl, rfl⟩⟩
            | exact ⟨fun q => absurd q.2 (by omega), fun _ => ⟨rfl, rfl⟩⟩
end
