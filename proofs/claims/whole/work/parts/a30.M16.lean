def mBn (N : Int → Int) (v k w n : Int) : Prop := ∀ i, 0 ≤ i → i < n → N (97 + 3 * i) = v → wSh k w (N (97 + 3 * i + 1)) = N (97 + 3 * i + 2)
noncomputable def mb (N : Int → Int) (v i : Int) : Int := bz (mBn N v (i / 6) (i % 6) (N 5))
def isW (b : Int → Int) : Nat → Int → Int → Int
  | 0, _, a => a
  | k + 1, i, a => isW b k (i + 1) (zor a (if b i = 0 then 0 else zshl 1 (i / 6)))
def isP (b : Int → Int) : Nat → Int → Int → Int
  | 0, _, a => a
  | k + 1, i, a => isP b k (i + 1) (a + (if b i = 0 then 0 else 1))
def mlF (b sh : Int → Int) : Nat → Int → (Int → Int) → Int → Int
  | 0, _, _, t => t
  | k + 1, i, c, t => if b i = 0 then mlF b sh k (i + 1) c t else mlF b sh k (i + 1) (ex1 c (sh i) (c (sh i) + 1)) (if t < c (sh i) + 1 then c (sh i) + 1 else t)
def shP (e i : Int) : Int := wSh (i / 6) (i % 6) e
noncomputable def mlN (N : Int → Int) (v e : Int) : Int := mlF (mb N v) (shP e) 36 0 (fun _ => 0) 0
def lkF (g : Int → Int) : Nat → Int → Int → Int → Int
  | 0, _, b, _ => b
  | k + 1, e, b, f => if 0 < g e ∧ g e < f then lkF g k (e + 1) e (g e) else lkF g k (e + 1) b f
noncomputable def lkN (N : Int → Int) (v : Int) : Int := lkF (mlN N v) 12 (N 2) (-1) 1000000
theorem up_row {μ : zM} {k j x : Int} : up μ k j x k = ex1 (μ k) j x := by
  funext l
  unfold up ex1
  by_cases h : l = j
  · rw [if_pos ⟨rfl, h⟩, if_pos h]
  · rw [if_neg (fun q => h q.2), if_neg h]
theorem mlF_cg {b sh : Int → Int} (hs : ∀ i, 0 ≤ i → i < 36 → 0 ≤ sh i ∧ sh i < 6) : ∀ (k : Nat) (i : Int) (c c' : Int → Int) (t : Int), 0 ≤ i → i + k = 36 → (∀ j, 0 ≤ j → j < 6 → c j = c' j) → mlF b sh k i c t = mlF b sh k i c' t
  | 0, _, _, _, _, _, _, _ => rfl
  | k + 1, i, c, c', t, h0, hk, h => by
    have h1 := hs i h0 (by omega)
    have e := h (sh i) h1.1 h1.2
    show (if _ then _ else _) = (if _ then _ else _)
    rw [e, mlF_cg hs k (i + 1) c c' t (by omega) (by omega) h, mlF_cg hs k (i + 1) (ex1 c (sh i) (c' (sh i) + 1)) (ex1 c' (sh i) (c' (sh i) + 1)) _ (by omega) (by omega) (fun j p q => by unfold ex1; rw [h j p q])]
theorem shP_rng {e i : Int} (he : 0 ≤ e) : 0 ≤ shP e i ∧ shP e i < 6 := wSh_rng (by omega) he
theorem mlF_hi {b sh : Int → Int} : ∀ (k : Nat) (i : Int) (c : Int → Int) (t M : Int), (∀ j, c j ≤ M) → 0 ≤ t → t ≤ M → 0 ≤ mlF b sh k i c t ∧ mlF b sh k i c t ≤ M + k
  | 0, i, c, t, M, _, h1, h2 => by
    show 0 ≤ t ∧ t ≤ M + ((0 : Nat) : Int)
    omega
  | k + 1, i, c, t, M, h, h1, h2 => by
    by_cases hb : b i = 0
    · have e : mlF b sh (k + 1) i c t = mlF b sh k (i + 1) c t := if_pos hb
      rw [e]
      have := mlF_hi (b := b) (sh := sh) k (i + 1) c t M h h1 h2
      omega
    · have e : mlF b sh (k + 1) i c t = mlF b sh k (i + 1) (ex1 c (sh i) (c (sh i) + 1)) (if t < c (sh i) + 1 then c (sh i) + 1 else t) := if_neg hb
      rw [e]
      have h3 := h (sh i)
      have := mlF_hi (b := b) (sh := sh) k (i + 1) (ex1 c (sh i) (c (sh i) + 1)) (if t < c (sh i) + 1 then c (sh i) + 1 else t) (M + 1) (fun j => by unfold ex1; split; omega; have := h j; omega) (by split <;> omega) (by split <;> omega)
      omega
theorem mlN_rng {N : Int → Int} {v e : Int} : 0 ≤ mlN N v e ∧ mlN N v e ≤ 36 := by
  have := mlF_hi (b := mb N v) (sh := shP e) 36 0 (fun _ => 0) 0 0 (fun _ => Int.le_refl 0) (Int.le_refl 0) (Int.le_refl 0)
  exact ⟨this.1, by have := this.2; unfold mlN; omega⟩
theorem bz_r (P : Prop) : zrng (bz P) := by rcases bz_01 P with h | h <;> rw [h] <;> omega
section
variable {ext : List xC} {σ : zSh} {d : Nat} {μ : zM}
set_option maxRecDepth 100000 in set_option maxHeartbeats 4000000 in theorem k_m_mayBe {v k w t : Int} (hW : Wl σ) (hN : NI (μ 169) t) (hv : 0 ≤ v ∧ v < 6) (hk : 0 ≤ k ∧ k < 6) (hw : 0 ≤ w ∧ w < 6) : ZM ext (d + 2) n_X12_mayBe [(1161, 0), (0, v), (0, k), (0, w)] σ μ (some (0, bz (mBn (μ 169) v k w (μ 169 5)))) μ := by
  have h1 := hN.1
  have hD := hN.2.2.2.1
  apply ZQ.ex
  have main : ∀ i, 0 ≤ i → i ≤ μ 169 5 → ∀ x6 : V, ZE ext (d + 2) n_X12_mayBe 6 [(1161, 0), (0, v), (0, k), (0, w), (0, bz (mBn (μ 169) v k w i)), (0, i), x6] [] σ μ (fun a b => a = some (0, bz (mBn (μ 169) v k w (μ 169 5))) ∧ b = μ) := by
    refine loopU ?_ ?_
    · intro i h0 hi ih x6
      have hd := hD i h0 hi
      have hs := wSh_rng (k := k) (w := w) (e := μ 169 (97 + 3 * i + 1)) hw hd.2.1.1
      have y1 : ∀ x6 : V, mBn (μ 169) v k w (i + 1) → ZE ext (d + 2) n_X12_mayBe 6 [(1161, 0), (0, v), (0, k), (0, w), (0, 1), (0, i + 1), x6] [] σ μ (fun a b => a = some (0, bz (mBn (μ 169) v k w (μ 169 5))) ∧ b = μ) := by
        intro x6 h
        have := ih x6
        rw [bz_t h] at this
        exact this
      have y0 : ∀ x6 : V, ¬ mBn (μ 169) v k w (i + 1) → ZE ext (d + 2) n_X12_mayBe 6 [(1161, 0), (0, v), (0, k), (0, w), (0, 0), (0, i + 1), x6] [] σ μ (fun a b => a = some (0, bz (mBn (μ 169) v k w (μ 169 5))) ∧ b = μ) := by
        intro x6 h
        have := ih x6
        rw [bz_f h] at this
        exact this
      refine ZE.go hW 9999 rfl (by and_intros <;> first | trivial | assumption | omega) ?_
      refine ZE.b rfl (by omega) (by omega) ?_ ?_ <;> intro g1
      · omega
      · refine ZE.go hW 9999 rfl (by and_intros <;> first | trivial | assumption | omega) ?_
        refine ZE.bp rfl rfl ?_ ?_ <;> intro g2
        · refine ZE.go hW 6 rfl (by and_intros <;> first | trivial | assumption | omega) ?_
          first
            | exact y0 _ (fun q => g2 (fun j a b => q j a (by omega)))
            | (refine y1 _ (fun j a b c => ?_)
               by_cases e : j = i
               · subst e; exact absurd c g3
               · exact g2 j a (by omega) c)
            | exact y0 _ (fun q => g4 (q i h0 (by omega) g3))
            | (refine y1 _ (fun j a b c => ?_)
               by_cases e : j = i
               · subst e; exact g4
               · exact g2 j a (by omega) c)
        · refine ZE.go hW 9999 rfl (by and_intros <;> first | trivial | assumption | omega) ?_
          refine ZE.b rfl (by omega) (by omega) ?_ ?_ <;> intro g3
          · refine ZE.go hW 6 rfl (by and_intros <;> first | trivial | assumption | omega) ?_
            first
              | exact y0 _ (fun q => g2 (fun j a b => q j a (by omega)))
              | (refine y1 _ (fun j a b c => ?_)
                 by_cases e : j = i
                 · subst e; exact absurd c g3
                 · exact g2 j a (by omega) c)
              | exact y0 _ (fun q => g4 (q i h0 (by omega) g3))
              | (refine y1 _ (fun j a b c => ?_)
                 by_cases e : j = i
                 · subst e; exact g4
                 · exact g2 j a (by omega) c)
          · refine ZE.go hW 9999 rfl (by and_intros <;> first | trivial | assumption | omega) ?_
            refine ZE.c0 hW rfl rfl (Nat.le_of_ble_eq_true rfl) (Nat.le_of_ble_eq_true rfl) (k_m_weatherOf (d := d) hW hk hw (by omega)) ?_
            refine ZE.go hW 9999 rfl (by and_intros <;> first | trivial | assumption | omega) ?_
            refine ZE.b rfl (by omega) (by omega) ?_ ?_ <;> intro g4
            · refine ZE.go hW 6 rfl (by and_intros <;> first | trivial | assumption | omega) ?_
              first
                | exact y0 _ (fun q => g2 (fun j a b => q j a (by omega)))
                | (refine y1 _ (fun j a b c => ?_)
                   by_cases e : j = i
                   · subst e; exact absurd c g3
                   · exact g2 j a (by omega) c)
                | exact y0 _ (fun q => g4 (q i h0 (by omega) g3))
                | (refine y1 _ (fun j a b c => ?_)
                   by_cases e : j = i
                   · subst e; exact g4
                   · exact g2 j a (by omega) c)
            · refine ZE.go hW 6 rfl (by and_intros <;> first | trivial | assumption | omega) ?_
              first
                | exact y0 _ (fun q => g2 (fun j a b => q j a (by omega)))
                | (refine y1 _ (fun j a b c => ?_)
                   by_cases e : j = i
                   · subst e; exact absurd c g3
                   · exact g2 j a (by omega) c)
                | exact y0 _ (fun q => g4 (q i h0 (by omega) g3))
                | (refine y1 _ (fun j a b c => ?_)
                   by_cases e : j = i
                   · subst e; exact g4
                   · exact g2 j a (by omega) c)
    · intro x6
      refine ZE.go hW 9999 rfl (by and_intros <;> first | trivial | assumption | omega) ?_
      refine ZE.b rfl (by omega) (by omega) ?_ ?_ <;> intro g1
      · refine ZE.go hW 9999 rfl (by and_intros <;> first | trivial | assumption | omega) ?_
        refine ZE.rb rfl rfl (bz_01 _) ?_
        exact ⟨rfl, rfl⟩
      · omega
  refine ZQ.i rfl ?_
  refine ZE.go hW 6 rfl (by and_intros <;> first | trivial | assumption | omega) ?_
  have := main 0 (by omega) (by omega)
  rw [bz_t (show mBn (μ 169) v k w 0 from fun j a b => by omega)] at this
  exact this _
set_option maxRecDepth 100000 in set_option maxHeartbeats 4000000 in theorem k_m_is {v w t : Int} (hW : Wl σ) (hN : NI (μ 169) t) (hv : zrng v) (hw : zrng w) : ZQ ext (d + 3) n_X12_is [(1161, 0), (0, v), (0, w)] σ μ (Qm ((0 ≤ v ∧ v ≤ μ 169 0 - 1) ∧ (0 ≤ w ∧ w ≤ 1)) (-2) (if w = 0 then isW (mb (μ 169) v) 36 0 0 else isP (mb (μ 169) v) 36 0 0) μ) := by
  have h1 := hN.1
  generalize hQ : Qm ((0 ≤ v ∧ v ≤ μ 169 0 - 1) ∧ (0 ≤ w ∧ w ≤ 1)) (-2) (if w = 0 then isW (mb (μ 169) v) 36 0 0 else isP (mb (μ 169) v) 36 0 0) μ = Q
  have loop : ∀ (k : Nat) (i a p : Int) (x6 : V), ((0 ≤ v ∧ v ≤ μ 169 0 - 1) ∧ (0 ≤ w ∧ w ≤ 1)) → 0 ≤ i → i + k = 36 → isW (mb (μ 169) v) k i a = isW (mb (μ 169) v) 36 0 0 → isP (mb (μ 169) v) k i p = isP (mb (μ 169) v) 36 0 0 → ZE ext (d + 3) n_X12_is 33 [(1161, 0), (0, v), (0, w), (0, a), (0, p), (0, i), x6] [] σ μ Q := by
    intro k
    induction k with
    | zero =>
      intro i a p x6 hok h0 hi hA hP
      have hA : a = _ := hA
      have hP : p = _ := hP
      refine ZE.go hW 9999 rfl (by and_intros <;> first | trivial | assumption | omega) ?_
      refine ZE.b rfl (by omega) (by omega) ?_ ?_ <;> intro g1
      · refine ZE.go hW 9999 rfl (by and_intros <;> first | trivial | assumption | omega) ?_
        refine ZE.b0 rfl (by omega) ?_ ?_ <;> intro g2
        · refine ZE.go hW 9999 rfl (by and_intros <;> first | trivial | assumption | omega) ?_
          refine ZE.ri rfl rfl ?_
          rw [← hQ]
          refine ⟨fun _ => ⟨?_, Mq.rfl'⟩, fun q => absurd hok q⟩
          first
            | rw [if_pos (by omega), hA]
            | rw [if_neg (by omega), hP]
        · refine ZE.go hW 9999 rfl (by and_intros <;> first | trivial | assumption | omega) ?_
          refine ZE.ri rfl rfl ?_
          rw [← hQ]
          refine ⟨fun _ => ⟨?_, Mq.rfl'⟩, fun q => absurd hok q⟩
          first
            | rw [if_pos (by omega), hA]
            | rw [if_neg (by omega), hP]
      · omega
    | succ k ih =>
      intro i a p x6 hok h0 hi hA hP
      have hA : isW (mb (μ 169) v) k (i + 1) (zor a (if mb (μ 169) v i = 0 then 0 else zshl 1 (i / 6))) = _ := hA
      have hP : isP (mb (μ 169) v) k (i + 1) (p + (if mb (μ 169) v i = 0 then 0 else 1)) = _ := hP
      have hb := bz_01 (mBn (μ 169) v (i / 6) (i % 6) (μ 169 5))
      have eb : bz (mBn (μ 169) v (i / 6) (i % 6) (μ 169 5)) = mb (μ 169) v i := rfl
      have hb : mb (μ 169) v i = 0 ∨ mb (μ 169) v i = 1 := hb
      refine ZE.go hW 9999 rfl (by and_intros <;> first | trivial | assumption | omega) ?_
      refine ZE.b rfl (by omega) (by omega) ?_ ?_ <;> intro g1
      · omega
      · refine ZE.go hW 9999 rfl (by and_intros <;> first | trivial | assumption | omega) ?_
        refine ZE.c0 hW rfl rfl (Nat.le_of_ble_eq_true rfl) (Nat.le_of_ble_eq_true rfl) (k_m_mayBe (d := d) hW hN (by omega) (by omega) (by omega)) ?_
        rw [eb]
        refine ZE.go hW 9999 rfl (by and_intros <;> first | trivial | assumption | omega) ?_
        refine ZE.b0 rfl (by omega) ?_ ?_ <;> intro g2
        · refine ZE.go hW 9999 rfl (by and_intros <;> first | trivial | assumption | omega) ?_
          refine ZE.b0 rfl (by omega) ?_ ?_ <;> intro g3
          · refine ZE.go hW 33 rfl (by and_intros <;> first | trivial | assumption | omega) ?_
            first
              | (exfalso; omega)
              | (rw [if_pos (by omega)] at hA hP; exact ih (i + 1) _ _ _ hok (by omega) (by omega) hA hP)
              | (rw [if_neg (by omega)] at hA hP; exact ih (i + 1) _ _ _ hok (by omega) (by omega) hA hP)
          · refine ZE.go hW 33 rfl (by and_intros <;> first | trivial | assumption | omega) ?_
            first
              | (exfalso; omega)
              | (rw [if_pos (by omega)] at hA hP; exact ih (i + 1) _ _ _ hok (by omega) (by omega) hA hP)
              | (rw [if_neg (by omega)] at hA hP; exact ih (i + 1) _ _ _ hok (by omega) (by omega) hA hP)
        · refine ZE.go hW 9999 rfl (by and_intros <;> first | trivial | assumption | omega) ?_
          refine ZE.b0 rfl (by omega) ?_ ?_ <;> intro g3
          · refine ZE.go hW 33 rfl (by and_intros <;> first | trivial | assumption | omega) ?_
            first
              | (exfalso; omega)
              | (rw [if_pos (by omega)] at hA hP; exact ih (i + 1) _ _ _ hok (by omega) (by omega) hA hP)
              | (rw [if_neg (by omega)] at hA hP; exact ih (i + 1) _ _ _ hok (by omega) (by omega) hA hP)
          · refine ZE.go hW 33 rfl (by and_intros <;> first | trivial | assumption | omega) ?_
            first
              | (exfalso; omega)
              | (rw [if_pos (by omega)] at hA hP; exact ih (i + 1) _ _ _ hok (by omega) (by omega) hA hP)
              | (rw [if_neg (by omega)] at hA hP; exact ih (i + 1) _ _ _ hok (by omega) (by omega) hA hP)
  refine ZQ.i rfl ?_
  refine ZE.go hW 9999 rfl (by and_intros <;> first | trivial | assumption | omega) ?_
  refine ZE.c0 hW rfl rfl (Nat.le_of_ble_eq_true rfl) (Nat.le_of_ble_eq_true rfl) (k_m_isView (d := d + 1) hW hv h1.1) ?_
  refine ZE.bp rfl rfl ?_ ?_ <;> intro g1
  · refine ZE.go hW 9999 rfl (by and_intros <;> first | trivial | assumption | omega) ?_
    refine ZE.ri rfl rfl ?_
    rw [← hQ]
    exact ⟨fun q => absurd q (by omega), fun _ => ⟨rfl, rfl⟩⟩
  · refine ZE.go hW 9999 rfl (by and_intros <;> first | trivial | assumption | omega) ?_
    refine ZE.c0 hW rfl rfl (Nat.le_of_ble_eq_true rfl) (Nat.le_of_ble_eq_true rfl) (k_in (d := d + 2) hW hw (by omega) (by omega)) ?_
    refine ZE.bp rfl rfl ?_ ?_ <;> intro g2
    · refine ZE.go hW 33 rfl (by and_intros <;> first | trivial | assumption | omega) ?_
      exact loop 36 0 0 0 _ ⟨g1, g2⟩ (by omega) (by omega) rfl rfl
    · refine ZE.go hW 9999 rfl (by and_intros <;> first | trivial | assumption | omega) ?_
      refine ZE.ri rfl rfl ?_
      rw [← hQ]
      exact ⟨fun q => absurd q (by omega), fun _ => ⟨rfl, rfl⟩⟩
set_option maxRecDepth 100000 in set_option maxHeartbeats 4000000 in theorem k_m_mostLike {v e t : Int} (hW : Wl σ) (hN : NI (μ 169) t) (hv : 0 ≤ v ∧ v < 6) (he : 0 ≤ e ∧ e < 1000) : ZQ ext (d + 3) n_X12_mostLike [(1161, 0), (0, v), (0, e)] σ μ (fun rv μ' => rv = some (0, mlN (μ 169) v e) ∧ ∀ k j, k ≠ 180 → μ' k j = μ k j) := by
  have l2 : ∀ (k : Nat) (i p : Int) (μ1 : zM) (x5 : V), 0 ≤ i → i + k = 36 → (∀ k j, k ≠ 180 → μ1 k j = μ k j) → (0 ≤ p ∧ p ≤ i) → (∀ j, 0 ≤ j → j < 6 → 0 ≤ μ1 180 j ∧ μ1 180 j ≤ i) → mlF (mb (μ 169) v) (shP e) k i (μ1 180) p = mlN (μ 169) v e → ZE ext (d + 3) n_X12_mostLike 29 [(1161, 0), (0, v), (0, e), (0, p), (0, i), x5] [] σ μ1 (fun rv μ' => rv = some (0, mlN (μ 169) v e) ∧ ∀ k j, k ≠ 180 → μ' k j = μ k j) := by
    intro k
    induction k with
    | zero =>
      intro i p μ1 x5 h0 hi hf hp hc hT
      have hT : p = _ := hT
      refine ZE.go hW 9999 rfl (by and_intros <;> first | trivial | assumption | omega) ?_
      refine ZE.b rfl (by omega) (by omega) ?_ ?_ <;> intro g1
      · refine ZE.go hW 9999 rfl (by and_intros <;> first | trivial | assumption | omega) ?_
        refine ZE.ri rfl rfl ?_
        exact ⟨by rw [hT], hf⟩
      · omega
    | succ k ih =>
      intro i p μ1 x5 h0 hi hf hp hc hT
      have hT : (if mb (μ 169) v i = 0 then mlF (mb (μ 169) v) (shP e) k (i + 1) (μ1 180) p else mlF (mb (μ 169) v) (shP e) k (i + 1) (ex1 (μ1 180) (shP e i) (μ1 180 (shP e i) + 1)) (if p < μ1 180 (shP e i) + 1 then μ1 180 (shP e i) + 1 else p)) = _ := hT
      have e162 : μ1 169 = μ 169 := frm hf (by omega)
      have hN1 : NI (μ1 169) t := by rw [e162]; exact hN
      have hs := shP_rng (e := e) (i := i) he.1
      have hci := hc (shP e i) hs.1 hs.2
      refine ZE.go hW 9999 rfl (by and_intros <;> first | trivial | assumption | omega) ?_
      refine ZE.b rfl (by omega) (by omega) ?_ ?_ <;> intro g1
      · omega
      · refine ZE.go hW 9999 rfl (by and_intros <;> first | trivial | assumption | omega) ?_
        refine ZE.c0 hW rfl rfl (Nat.le_of_ble_eq_true rfl) (Nat.le_of_ble_eq_true rfl) (k_m_mayBe (d := d) hW hN1 (by omega) (by omega) (by omega)) ?_
        rw [e162]
        refine ZE.bp rfl rfl ?_ ?_ <;> intro g2
        · skip
          refine ZE.go hW 29 rfl (by and_intros <;> first | trivial | assumption | omega) ?_
          first
            | (have ht1 : mb (μ 169) v i = 0 := by unfold mb; rw [bz_f g2]
               rw [if_pos ht1] at hT
               exact ih (i + 1) p μ1 _ (by omega) (by omega) hf (by omega) (fun j a b => by have := hc j a b; omega) hT)
            | (rw [if_neg (by omega), ← up_row] at hT
               exact ih (i + 1) p _ _ (by omega) (by omega) (fun k j a => by rw [up_n (by omega)]; exact hf k j a) (by omega) (fun j a b => by
                 have := hc j a b
                 by_cases ej : j = shP e i
                 · rw [ej, up_s]; omega
                 · rw [up_n (by omega)]; omega) hT)
            | (rw [if_pos (by omega), ← up_row] at hT
               rw [us1]
               exact ih (i + 1) _ _ _ (by omega) (by omega) (fun k j a => by rw [up_n (by omega)]; exact hf k j a) (by omega) (fun j a b => by
                 have := hc j a b
                 by_cases ej : j = shP e i
                 · rw [ej, up_s]; omega
                 · rw [up_n (by omega)]; omega) hT)
        · refine ZE.go hW 9999 rfl (by and_intros <;> first | trivial | assumption | omega) ?_
          refine ZE.c0 hW rfl rfl (Nat.le_of_ble_eq_true rfl) (Nat.le_of_ble_eq_true rfl) (k_m_weatherOf (d := d + 1) hW (by omega) (by omega) he) ?_
          rw [show wSh (i / 6) (i % 6) e = shP e i from rfl]
          have ht1 : ¬ mb (μ 169) v i = 0 := by unfold mb; rw [bz_t g2]; omega
          rw [if_neg ht1] at hT
          have us : ∀ x, up μ1 180 (shP e i) x 180 (shP e i) = x := fun x => up_s
          have us1 := us (μ1 180 (shP e i) + 1)
          refine ZE.go hW 9999 rfl (by and_intros <;> first | trivial | assumption | omega) ?_
          refine ZE.b rfl (by omega) (by omega) ?_ ?_ <;> intro g3
          · refine ZE.go hW 104 rfl (by and_intros <;> first | trivial | assumption | omega) ?_
            skip
            refine ZE.go hW 29 rfl (by and_intros <;> first | trivial | assumption | omega) ?_
            first
              | (have ht1 : mb (μ 169) v i = 0 := by unfold mb; rw [bz_f g2]
                 rw [if_pos ht1] at hT
                 exact ih (i + 1) p μ1 _ (by omega) (by omega) hf (by omega) (fun j a b => by have := hc j a b; omega) hT)
              | (rw [if_neg (by omega), ← up_row] at hT
                 exact ih (i + 1) p _ _ (by omega) (by omega) (fun k j a => by rw [up_n (by omega)]; exact hf k j a) (by omega) (fun j a b => by
                   have := hc j a b
                   by_cases ej : j = shP e i
                   · rw [ej, up_s]; omega
                   · rw [up_n (by omega)]; omega) hT)
              | (rw [if_pos (by omega), ← up_row] at hT
                 rw [us1]
                 exact ih (i + 1) _ _ _ (by omega) (by omega) (fun k j a => by rw [up_n (by omega)]; exact hf k j a) (by omega) (fun j a b => by
                   have := hc j a b
                   by_cases ej : j = shP e i
                   · rw [ej, up_s]; omega
                   · rw [up_n (by omega)]; omega) hT)
          · refine ZE.go hW 104 rfl (by and_intros <;> first | trivial | assumption | omega) ?_
            skip
            refine ZE.go hW 29 rfl (by and_intros <;> first | trivial | assumption | omega) ?_
            first
              | (have ht1 : mb (μ 169) v i = 0 := by unfold mb; rw [bz_f g2]
                 rw [if_pos ht1] at hT
                 exact ih (i + 1) p μ1 _ (by omega) (by omega) hf (by omega) (fun j a b => by have := hc j a b; omega) hT)
              | (rw [if_neg (by omega), ← up_row] at hT
                 exact ih (i + 1) p _ _ (by omega) (by omega) (fun k j a => by rw [up_n (by omega)]; exact hf k j a) (by omega) (fun j a b => by
                   have := hc j a b
                   by_cases ej : j = shP e i
                   · rw [ej, up_s]; omega
                   · rw [up_n (by omega)]; omega) hT)
              | (rw [if_pos (by omega), ← up_row] at hT
                 rw [us1]
                 exact ih (i + 1) _ _ _ (by omega) (by omega) (fun k j a => by rw [up_n (by omega)]; exact hf k j a) (by omega) (fun j a b => by
                   have := hc j a b
                   by_cases ej : j = shP e i
                   · rw [ej, up_s]; omega
                   · rw [up_n (by omega)]; omega) hT)
  have l1 : ∀ i, 0 ≤ i → i ≤ 6 → ∀ μ1, (∀ k j, k ≠ 180 → μ1 k j = μ k j) ∧ (∀ j, 0 ≤ j → j < i → μ1 180 j = 0) → ZE ext (d + 3) n_X12_mostLike 5 [(1161, 0), (0, v), (0, e), (0, 0), (0, i), (4, 0)] [] σ μ1 (fun rv μ' => rv = some (0, mlN (μ 169) v e) ∧ ∀ k j, k ≠ 180 → μ' k j = μ k j) := by
    refine loopU ?_ ?_
    · intro i h0 hi ih μ1 ⟨hf, hz⟩
      refine ZE.go hW 9999 rfl (by and_intros <;> first | trivial | assumption | omega) ?_
      refine ZE.b rfl (by omega) (by omega) ?_ ?_ <;> intro g1
      · omega
      · refine ZE.go hW 5 rfl (by and_intros <;> first | trivial | assumption | omega) ?_
        refine ih _ ⟨fun k j a => by rw [up_n (by omega)]; exact hf k j a, fun j a b => ?_⟩
        by_cases ej : j = i
        · rw [ej, up_s]
        · rw [up_n (by omega)]; exact hz j a (by omega)
    · intro μ1 ⟨hf, hz⟩
      refine ZE.go hW 9999 rfl (by and_intros <;> first | trivial | assumption | omega) ?_
      refine ZE.b rfl (by omega) (by omega) ?_ ?_ <;> intro g1
      · refine ZE.go hW 29 rfl (by and_intros <;> first | trivial | assumption | omega) ?_
        refine l2 36 0 0 μ1 _ (by omega) (by omega) hf (by omega) (fun j a b => by rw [hz j a b]; omega) ?_
        exact mlF_cg (fun i a b => shP_rng he.1) 36 0 _ _ 0 (by omega) (by omega) (fun j a b => hz j a b)
      · omega
  refine ZQ.i rfl ?_
  refine ZE.go hW 5 rfl (by and_intros <;> first | trivial | assumption | omega) ?_
  exact l1 0 (by omega) (by omega) μ ⟨fun _ _ _ => rfl, fun j a b => by omega⟩
set_option maxRecDepth 100000 in set_option maxHeartbeats 4000000 in theorem k_m_look {v t : Int} (hW : Wl σ) (hN : NI (μ 169) t) (ht : t ≤ 100) (hv : zrng v) : ZQ ext (d + 4) n_X12_look [(1161, 0), (0, v)] σ μ (Qm (0 ≤ v ∧ v ≤ μ 169 0 - 1) (-2) (lkN (μ 169) v) μ) := by
  have h1 := hN.1
  have hev : 0 ≤ μ 169 2 ∧ μ 169 2 ≤ t := hN.2.2.2.2.1.1
  generalize hQ : Qm (0 ≤ v ∧ v ≤ μ 169 0 - 1) (-2) (lkN (μ 169) v) μ = Q
  have loop : ∀ (k : Nat) (e b f : Int) (μ1 : zM) (x5 : V), (0 ≤ v ∧ v ≤ μ 169 0 - 1) → 0 ≤ e → e + k = μ 169 2 + 12 → zrng f → (∀ k j, k ≠ 180 → μ1 k j = μ k j) → lkF (mlN (μ 169) v) k e b f = lkN (μ 169) v → ZE ext (d + 4) n_X12_look 28 [(1161, 0), (0, v), (0, b), (0, f), (0, e), x5] [] σ μ1 Q := by
    intro k
    induction k with
    | zero =>
      intro e b f μ1 x5 hok h0 hi hfr hf hT
      have hT : b = _ := hT
      have n2 := hf 169 2 (by omega)
      refine ZE.go hW 9999 rfl (by and_intros <;> first | trivial | assumption | omega) ?_
      refine ZE.b rfl (by omega) (by omega) ?_ ?_ <;> intro g1
      · refine ZE.go hW 9999 rfl (by and_intros <;> first | trivial | assumption | omega) ?_
        refine ZE.ri rfl rfl ?_
        rw [← hQ]
        exact ⟨fun _ => ⟨by rw [hT], fun k j p q => hf k j (by omega)⟩, fun q => absurd hok q⟩
      · omega
    | succ k ih =>
      intro e b f μ1 x5 hok h0 hi hfr hf hT
      have hT : (if 0 < mlN (μ 169) v e ∧ mlN (μ 169) v e < f then lkF (mlN (μ 169) v) k (e + 1) e (mlN (μ 169) v e) else lkF (mlN (μ 169) v) k (e + 1) b f) = _ := hT
      have n2 := hf 169 2 (by omega)
      have e162 : μ1 169 = μ 169 := frm hf (by omega)
      have hN1 : NI (μ1 169) t := by rw [e162]; exact hN
      have hm := mlN_rng (N := μ 169) (v := v) (e := e)
      refine ZE.go hW 9999 rfl (by and_intros <;> first | trivial | assumption | omega) ?_
      refine ZE.b rfl (by omega) (by omega) ?_ ?_ <;> intro g1
      · omega
      · refine ZE.go hW 9999 rfl (by and_intros <;> first | trivial | assumption | omega) ?_
        refine ZE.q0 hW rfl rfl (Nat.le_of_ble_eq_true rfl) (Nat.le_of_ble_eq_true rfl) (k_m_mostLike (d := d) hW hN1 (by omega) (by omega)) ?_
        rintro rv9 μ2 ⟨rfl, hf2⟩
        rw [e162]
        refine ZE.go hW 9999 rfl (by and_intros <;> first | trivial | assumption | omega) ?_
        refine ZE.b0 rfl (by omega) ?_ ?_ <;> intro g2
        · refine ZE.go hW 9999 rfl (by and_intros <;> first | trivial | assumption | omega) ?_
          refine ZE.b0 rfl (by omega) ?_ ?_ <;> intro g3
          · refine ZE.go hW 28 rfl (by and_intros <;> first | trivial | assumption | omega) ?_
            first
              | (exfalso; omega)
              | (rw [if_pos (by omega)] at hT; exact ih (e + 1) _ _ μ2 _ hok (by omega) (by omega) (by omega) (fun k j a => by rw [hf2 k j a]; exact hf k j a) hT)
              | (rw [if_neg (by omega)] at hT; exact ih (e + 1) _ _ μ2 _ hok (by omega) (by omega) (by omega) (fun k j a => by rw [hf2 k j a]; exact hf k j a) hT)
          · refine ZE.go hW 9999 rfl (by and_intros <;> first | trivial | assumption | omega) ?_
            refine ZE.b rfl (by omega) (by omega) ?_ ?_ <;> intro g4
            · refine ZE.go hW 28 rfl (by and_intros <;> first | trivial | assumption | omega) ?_
              first
                | (exfalso; omega)
                | (rw [if_pos (by omega)] at hT; exact ih (e + 1) _ _ μ2 _ hok (by omega) (by omega) (by omega) (fun k j a => by rw [hf2 k j a]; exact hf k j a) hT)
                | (rw [if_neg (by omega)] at hT; exact ih (e + 1) _ _ μ2 _ hok (by omega) (by omega) (by omega) (fun k j a => by rw [hf2 k j a]; exact hf k j a) hT)
            · refine ZE.go hW 28 rfl (by and_intros <;> first | trivial | assumption | omega) ?_
              first
                | (exfalso; omega)
                | (rw [if_pos (by omega)] at hT; exact ih (e + 1) _ _ μ2 _ hok (by omega) (by omega) (by omega) (fun k j a => by rw [hf2 k j a]; exact hf k j a) hT)
                | (rw [if_neg (by omega)] at hT; exact ih (e + 1) _ _ μ2 _ hok (by omega) (by omega) (by omega) (fun k j a => by rw [hf2 k j a]; exact hf k j a) hT)
        · refine ZE.go hW 9999 rfl (by and_intros <;> first | trivial | assumption | omega) ?_
          refine ZE.b rfl (by omega) (by omega) ?_ ?_ <;> intro g3
          · refine ZE.go hW 9999 rfl (by and_intros <;> first | trivial | assumption | omega) ?_
            refine ZE.b0 rfl (by omega) ?_ ?_ <;> intro g4
            · refine ZE.go hW 28 rfl (by and_intros <;> first | trivial | assumption | omega) ?_
              first
                | (exfalso; omega)
                | (rw [if_pos (by omega)] at hT; exact ih (e + 1) _ _ μ2 _ hok (by omega) (by omega) (by omega) (fun k j a => by rw [hf2 k j a]; exact hf k j a) hT)
                | (rw [if_neg (by omega)] at hT; exact ih (e + 1) _ _ μ2 _ hok (by omega) (by omega) (by omega) (fun k j a => by rw [hf2 k j a]; exact hf k j a) hT)
            · refine ZE.go hW 9999 rfl (by and_intros <;> first | trivial | assumption | omega) ?_
              refine ZE.b rfl (by omega) (by omega) ?_ ?_ <;> intro g5
              · refine ZE.go hW 28 rfl (by and_intros <;> first | trivial | assumption | omega) ?_
                first
                  | (exfalso; omega)
                  | (rw [if_pos (by omega)] at hT; exact ih (e + 1) _ _ μ2 _ hok (by omega) (by omega) (by omega) (fun k j a => by rw [hf2 k j a]; exact hf k j a) hT)
                  | (rw [if_neg (by omega)] at hT; exact ih (e + 1) _ _ μ2 _ hok (by omega) (by omega) (by omega) (fun k j a => by rw [hf2 k j a]; exact hf k j a) hT)
              · refine ZE.go hW 28 rfl (by and_intros <;> first | trivial | assumption | omega) ?_
                first
                  | (exfalso; omega)
                  | (rw [if_pos (by omega)] at hT; exact ih (e + 1) _ _ μ2 _ hok (by omega) (by omega) (by omega) (fun k j a => by rw [hf2 k j a]; exact hf k j a) hT)
                  | (rw [if_neg (by omega)] at hT; exact ih (e + 1) _ _ μ2 _ hok (by omega) (by omega) (by omega) (fun k j a => by rw [hf2 k j a]; exact hf k j a) hT)
          · refine ZE.go hW 9999 rfl (by and_intros <;> first | trivial | assumption | omega) ?_
            refine ZE.b0 rfl (by omega) ?_ ?_ <;> intro g4
            · refine ZE.go hW 28 rfl (by and_intros <;> first | trivial | assumption | omega) ?_
              first
                | (exfalso; omega)
                | (rw [if_pos (by omega)] at hT; exact ih (e + 1) _ _ μ2 _ hok (by omega) (by omega) (by omega) (fun k j a => by rw [hf2 k j a]; exact hf k j a) hT)
                | (rw [if_neg (by omega)] at hT; exact ih (e + 1) _ _ μ2 _ hok (by omega) (by omega) (by omega) (fun k j a => by rw [hf2 k j a]; exact hf k j a) hT)
            · refine ZE.go hW 9999 rfl (by and_intros <;> first | trivial | assumption | omega) ?_
              refine ZE.b rfl (by omega) (by omega) ?_ ?_ <;> intro g5
              · refine ZE.go hW 28 rfl (by and_intros <;> first | trivial | assumption | omega) ?_
                first
                  | (exfalso; omega)
                  | (rw [if_pos (by omega)] at hT; exact ih (e + 1) _ _ μ2 _ hok (by omega) (by omega) (by omega) (fun k j a => by rw [hf2 k j a]; exact hf k j a) hT)
                  | (rw [if_neg (by omega)] at hT; exact ih (e + 1) _ _ μ2 _ hok (by omega) (by omega) (by omega) (fun k j a => by rw [hf2 k j a]; exact hf k j a) hT)
              · refine ZE.go hW 28 rfl (by and_intros <;> first | trivial | assumption | omega) ?_
                first
                  | (exfalso; omega)
                  | (rw [if_pos (by omega)] at hT; exact ih (e + 1) _ _ μ2 _ hok (by omega) (by omega) (by omega) (fun k j a => by rw [hf2 k j a]; exact hf k j a) hT)
                  | (rw [if_neg (by omega)] at hT; exact ih (e + 1) _ _ μ2 _ hok (by omega) (by omega) (by omega) (fun k j a => by rw [hf2 k j a]; exact hf k j a) hT)
  refine ZQ.i rfl ?_
  refine ZE.go hW 9999 rfl (by and_intros <;> first | trivial | assumption | omega) ?_
  refine ZE.c0 hW rfl rfl (Nat.le_of_ble_eq_true rfl) (Nat.le_of_ble_eq_true rfl) (k_m_isView (d := d + 2) hW hv h1.1) ?_
  refine ZE.bp rfl rfl ?_ ?_ <;> intro g1
  · refine ZE.go hW 28 rfl (by and_intros <;> first | trivial | assumption | omega) ?_
    exact loop 12 (μ 169 2) (-1) 1000000 μ _ g1 (by omega) (by omega) (by omega) (fun _ _ _ => rfl) rfl
  · refine ZE.go hW 9999 rfl (by and_intros <;> first | trivial | assumption | omega) ?_
    refine ZE.ri rfl rfl ?_
    rw [← hQ]
    exact ⟨fun q => absurd q (by omega), fun _ => ⟨rfl, rfl⟩⟩
end
