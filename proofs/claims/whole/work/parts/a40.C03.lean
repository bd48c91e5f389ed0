theorem smf6 {N : Int → Int} {k : Nat} {i h : Int} : smf N (6 * (k + 1)) i h = smf N (6 * k) (i + 6) (31 * (31 * (31 * (31 * (31 * (31 * h + N i) + N (i + 1)) + N (i + 2)) + N (i + 3)) + N (i + 4)) + N (i + 5)) := by
  show smf N (6 * k) (i + 1 + 1 + 1 + 1 + 1 + 1) (31 * (31 * (31 * (31 * (31 * (31 * h + N i) + N (i + 1)) + N (i + 1 + 1)) + N (i + 1 + 1 + 1)) + N (i + 1 + 1 + 1 + 1)) + N (i + 1 + 1 + 1 + 1 + 1)) = _
  rw [show i + 1 + 1 = i + 2 by omega, show i + 2 + 1 = i + 3 by omega, show i + 3 + 1 = i + 4 by omega, show i + 4 + 1 = i + 5 by omega, show i + 5 + 1 = i + 6 by omega]
theorem smf3 {N : Int → Int} {k : Nat} {i h : Int} : smf N (3 * (k + 1)) i h = smf N (3 * k) (i + 3) (31 * (31 * (31 * h + N i) + N (i + 1)) + N (i + 2)) := by
  show smf N (3 * k) (i + 1 + 1 + 1) (31 * (31 * (31 * h + N i) + N (i + 1)) + N (i + 1 + 1)) = _
  rw [show i + 1 + 1 = i + 2 by omega, show i + 2 + 1 = i + 3 by omega]
section
variable {ext : List xC} {σ : zSh} {d : Nat} {μ : zM} {a t : Int} {N : Int → Int}
set_option maxRecDepth 100000 in set_option maxHeartbeats 4000000 in theorem k_c_fewestForAir {r w : Int} (h : SR σ μ a N t) (ht : t ≤ 100) (hr : 0 ≤ r ∧ r + 1 < N 1) (hw : 0 ≤ w ∧ w ≤ 5) : ZM ext (d + 5) n_X9_fewestForAir [(100, a), (0, r), (0, w)] σ μ (some (0, brN N r w)) μ := by
  have hC := h.ct
  have h' := h
  have hO := vOf_rng (N := N) (r := r) hC.2.2.1.1.1
  have hO2 := vOf_rng (N := N) (r := r + 1) hC.2.2.1.1.1
  have r1 := h.rt (r := r) (by omega)
  have r2 := h.rt (r := r + 1) (by omega)
  obtain ⟨hK, hS, hR, hN, hP⟩ := h
  have hW := hK.1
  have hSp := hS.1
  have hB := hS.bk
  apply ZQ.ex
  unfold brN
  generalize hM : brO (brg N r w) (N 0).toNat (N 0).toNat 0 (-1) = M
  have inner : ∀ (x : Int) (hx : 0 ≤ x ∧ x < N 0) (l2 : Int) (kont : ∀ x9 x10, ZE ext (d + 5) n_X9_fewestForAir 172 [(100, a), (0, r), (0, w), (0, r + 1), (0, vOf N r), (0, vOf N (r + 1)), (0, l2), (0, x), (0, N 0), x9, x10] [] σ μ (fun rv μ' => rv = some (0, M) ∧ μ' = μ)) (k : Nat) (y l : Int) (x9 x10 : V), 0 ≤ y → y + k = N 0 → (-1 ≤ l ∧ l < 1000) → brI (brg N r w x) k y l = l2 → ZE ext (d + 5) n_X9_fewestForAir 42 [(100, a), (0, r), (0, w), (0, r + 1), (0, vOf N r), (0, vOf N (r + 1)), (0, l), (0, x), (0, y), x9, x10] [] σ μ (fun rv μ' => rv = some (0, M) ∧ μ' = μ) := by
    intro x hx l2 kont k
    induction k with
    | zero =>
      intro y l x9 x10 h0 hk hl hc
      have hc : l = l2 := hc
      have hy : y = N 0 := by omega
      subst hc
      subst hy
      refine ZE.go hW 9999 rfl (by repeat' first | exact True.intro | assumption | apply And.intro | omega) ?_
      refine ZE.b rfl (by omega) (by omega) ?_ ?_ <;> intro g1
      · exact kont _ _
      · omega
    | succ k ih =>
      intro y l x9 x10 h0 hk hl hc
      have hc : brI (brg N r w x) k (y + 1) (if brg N r w x y = -1 then l else if l = -1 then brg N r w x y else if brg N r w x y < l then brg N r w x y else l) = l2 := hc
      have hch : brch N r x y = (if x = vOf N r then 0 else 1) + (if y = vOf N (r + 1) then 0 else 1) := rfl
      refine ZE.go hW 9999 rfl (by repeat' first | exact True.intro | assumption | apply And.intro | omega) ?_
      refine ZE.b rfl (by omega) (by omega) ?_ ?_ <;> intro g1
      · omega
      · refine ZE.go hW 9999 rfl (by repeat' first | exact True.intro | assumption | apply And.intro | omega) ?_
        refine ZE.b rfl (by omega) (by omega) ?_ ?_ <;> intro g2
        · refine ZE.go hW 42 rfl (by repeat' first | exact True.intro | assumption | apply And.intro | omega) ?_
          first
            | (have hno : ¬ brok N r w x y := fun q => absurd q.1.1 (by omega)
               rw [brg_f hno, if_pos rfl] at hc
               exact ih (y + 1) l _ _ (by omega) (by omega) hl hc)
            | (have hno : ¬ brok N r w x y := fun q => absurd q.2 (by omega)
               rw [brg_f hno, if_pos rfl] at hc
               exact ih (y + 1) l _ _ (by omega) (by omega) hl hc)
            | (have hno : ¬ brok N r w x y := fun q => g4 q.1.2.1
               rw [brg_f hno, if_pos rfl] at hc
               exact ih (y + 1) l _ _ (by omega) (by omega) hl hc)
            | (have hno : ¬ brok N r w x y := fun q => g5 q.1.2.2
               rw [brg_f hno, if_pos rfl] at hc
               exact ih (y + 1) l _ _ (by omega) (by omega) hl hc)
            | (rw [if_pos g8] at hc
               exact ih (y + 1) _ _ _ (by omega) (by omega) (by omega) hc)
            | (rw [if_neg g8] at hc
               refine ih (y + 1) _ _ _ (by omega) (by omega) ?_ hc
               split <;> omega)
        · refine ZE.go hW 9999 rfl (by repeat' first | exact True.intro | assumption | apply And.intro | omega) ?_
          refine ZE.c1 hW rfl rfl (by repeat' first | exact True.intro | assumption | apply And.intro | omega) (Nat.le_of_ble_eq_true rfl) (Nat.le_of_ble_eq_true rfl) (k_c_airOf (d := d) h' ht (by omega) (by omega)) ?_
          refine ZE.go hW 9999 rfl (by repeat' first | exact True.intro | assumption | apply And.intro | omega) ?_
          refine ZE.b rfl (by omega) (by omega) ?_ ?_ <;> intro g3
          · refine ZE.go hW 42 rfl (by repeat' first | exact True.intro | assumption | apply And.intro | omega) ?_
            first
              | (have hno : ¬ brok N r w x y := fun q => absurd q.1.1 (by omega)
                 rw [brg_f hno, if_pos rfl] at hc
                 exact ih (y + 1) l _ _ (by omega) (by omega) hl hc)
              | (have hno : ¬ brok N r w x y := fun q => absurd q.2 (by omega)
                 rw [brg_f hno, if_pos rfl] at hc
                 exact ih (y + 1) l _ _ (by omega) (by omega) hl hc)
              | (have hno : ¬ brok N r w x y := fun q => g4 q.1.2.1
                 rw [brg_f hno, if_pos rfl] at hc
                 exact ih (y + 1) l _ _ (by omega) (by omega) hl hc)
              | (have hno : ¬ brok N r w x y := fun q => g5 q.1.2.2
                 rw [brg_f hno, if_pos rfl] at hc
                 exact ih (y + 1) l _ _ (by omega) (by omega) hl hc)
              | (rw [if_pos g8] at hc
                 exact ih (y + 1) _ _ _ (by omega) (by omega) (by omega) hc)
              | (rw [if_neg g8] at hc
                 refine ih (y + 1) _ _ _ (by omega) (by omega) ?_ hc
                 split <;> omega)
          · refine ZE.go hW 9999 rfl (by repeat' first | exact True.intro | assumption | apply And.intro | omega) ?_
            rw [r1.1.1]
            refine ZE.c1 hW rfl rfl (by repeat' first | exact True.intro | assumption | apply And.intro | omega) (Nat.le_of_ble_eq_true rfl) (Nat.le_of_ble_eq_true rfl) (k_c_fits (d := d + 3) h' (by omega) (by omega)) ?_
            refine ZE.bp rfl rfl ?_ ?_ <;> intro g4
            · refine ZE.go hW 42 rfl (by repeat' first | exact True.intro | assumption | apply And.intro | omega) ?_
              first
                | (have hno : ¬ brok N r w x y := fun q => absurd q.1.1 (by omega)
                   rw [brg_f hno, if_pos rfl] at hc
                   exact ih (y + 1) l _ _ (by omega) (by omega) hl hc)
                | (have hno : ¬ brok N r w x y := fun q => absurd q.2 (by omega)
                   rw [brg_f hno, if_pos rfl] at hc
                   exact ih (y + 1) l _ _ (by omega) (by omega) hl hc)
                | (have hno : ¬ brok N r w x y := fun q => g4 q.1.2.1
                   rw [brg_f hno, if_pos rfl] at hc
                   exact ih (y + 1) l _ _ (by omega) (by omega) hl hc)
                | (have hno : ¬ brok N r w x y := fun q => g5 q.1.2.2
                   rw [brg_f hno, if_pos rfl] at hc
                   exact ih (y + 1) l _ _ (by omega) (by omega) hl hc)
                | (rw [if_pos g8] at hc
                   exact ih (y + 1) _ _ _ (by omega) (by omega) (by omega) hc)
                | (rw [if_neg g8] at hc
                   refine ih (y + 1) _ _ _ (by omega) (by omega) ?_ hc
                   split <;> omega)
            · refine ZE.go hW 9999 rfl (by repeat' first | exact True.intro | assumption | apply And.intro | omega) ?_
              rw [r2.1.1]
              refine ZE.c1 hW rfl rfl (by repeat' first | exact True.intro | assumption | apply And.intro | omega) (Nat.le_of_ble_eq_true rfl) (Nat.le_of_ble_eq_true rfl) (k_c_fits (d := d + 3) h' (by omega) (by omega)) ?_
              refine ZE.bp rfl rfl ?_ ?_ <;> intro g5
              · have hok : brok N r w x y := ⟨⟨by omega, g4, g5⟩, by omega⟩
                rw [brg_t hok] at hc
                refine ZE.go hW 9999 rfl (by repeat' first | exact True.intro | assumption | apply And.intro | omega) ?_
                refine ZE.b rfl (by omega) (by omega) ?_ ?_ <;> intro g6
                · refine ZE.go hW 9999 rfl (by repeat' first | exact True.intro | assumption | apply And.intro | omega) ?_
                  refine ZE.b rfl (by omega) (by omega) ?_ ?_ <;> intro g7
                  · refine ZE.go hW 146 rfl (by repeat' first | exact True.intro | assumption | apply And.intro | omega) ?_
                    first
                      | rw [if_pos g6, if_pos g7] at hch
                      | rw [if_pos g6, if_neg g7] at hch
                      | rw [if_neg g6, if_pos g7] at hch
                      | rw [if_neg g6, if_neg g7] at hch
                    rw [hch] at hc
                    rw [if_neg (by omega)] at hc
                    refine ZE.go hW 9999 rfl (by repeat' first | exact True.intro | assumption | apply And.intro | omega) ?_
                    refine ZE.b rfl (by omega) (by omega) ?_ ?_ <;> intro g8
                    · refine ZE.go hW 9999 rfl (by repeat' first | exact True.intro | assumption | apply And.intro | omega) ?_
                      refine ZE.c0 hW rfl rfl (Nat.le_of_ble_eq_true rfl) (Nat.le_of_ble_eq_true rfl) (k_j_min (d := d + 4) hW (by omega) (by omega)) ?_
                      refine ZE.go hW 42 rfl (by repeat' first | exact True.intro | assumption | apply And.intro | omega) ?_
                      first
                        | (have hno : ¬ brok N r w x y := fun q => absurd q.1.1 (by omega)
                           rw [brg_f hno, if_pos rfl] at hc
                           exact ih (y + 1) l _ _ (by omega) (by omega) hl hc)
                        | (have hno : ¬ brok N r w x y := fun q => absurd q.2 (by omega)
                           rw [brg_f hno, if_pos rfl] at hc
                           exact ih (y + 1) l _ _ (by omega) (by omega) hl hc)
                        | (have hno : ¬ brok N r w x y := fun q => g4 q.1.2.1
                           rw [brg_f hno, if_pos rfl] at hc
                           exact ih (y + 1) l _ _ (by omega) (by omega) hl hc)
                        | (have hno : ¬ brok N r w x y := fun q => g5 q.1.2.2
                           rw [brg_f hno, if_pos rfl] at hc
                           exact ih (y + 1) l _ _ (by omega) (by omega) hl hc)
                        | (rw [if_pos g8] at hc
                           exact ih (y + 1) _ _ _ (by omega) (by omega) (by omega) hc)
                        | (rw [if_neg g8] at hc
                           refine ih (y + 1) _ _ _ (by omega) (by omega) ?_ hc
                           split <;> omega)
                    · refine ZE.go hW 42 rfl (by repeat' first | exact True.intro | assumption | apply And.intro | omega) ?_
                      first
                        | (have hno : ¬ brok N r w x y := fun q => absurd q.1.1 (by omega)
                           rw [brg_f hno, if_pos rfl] at hc
                           exact ih (y + 1) l _ _ (by omega) (by omega) hl hc)
                        | (have hno : ¬ brok N r w x y := fun q => absurd q.2 (by omega)
                           rw [brg_f hno, if_pos rfl] at hc
                           exact ih (y + 1) l _ _ (by omega) (by omega) hl hc)
                        | (have hno : ¬ brok N r w x y := fun q => g4 q.1.2.1
                           rw [brg_f hno, if_pos rfl] at hc
                           exact ih (y + 1) l _ _ (by omega) (by omega) hl hc)
                        | (have hno : ¬ brok N r w x y := fun q => g5 q.1.2.2
                           rw [brg_f hno, if_pos rfl] at hc
                           exact ih (y + 1) l _ _ (by omega) (by omega) hl hc)
                        | (rw [if_pos g8] at hc
                           exact ih (y + 1) _ _ _ (by omega) (by omega) (by omega) hc)
                        | (rw [if_neg g8] at hc
                           refine ih (y + 1) _ _ _ (by omega) (by omega) ?_ hc
                           split <;> omega)
                  · refine ZE.go hW 146 rfl (by repeat' first | exact True.intro | assumption | apply And.intro | omega) ?_
                    first
                      | rw [if_pos g6, if_pos g7] at hch
                      | rw [if_pos g6, if_neg g7] at hch
                      | rw [if_neg g6, if_pos g7] at hch
                      | rw [if_neg g6, if_neg g7] at hch
                    rw [hch] at hc
                    rw [if_neg (by omega)] at hc
                    refine ZE.go hW 9999 rfl (by repeat' first | exact True.intro | assumption | apply And.intro | omega) ?_
                    refine ZE.b rfl (by omega) (by omega) ?_ ?_ <;> intro g8
                    · refine ZE.go hW 9999 rfl (by repeat' first | exact True.intro | assumption | apply And.intro | omega) ?_
                      refine ZE.c0 hW rfl rfl (Nat.le_of_ble_eq_true rfl) (Nat.le_of_ble_eq_true rfl) (k_j_min (d := d + 4) hW (by omega) (by omega)) ?_
                      refine ZE.go hW 42 rfl (by repeat' first | exact True.intro | assumption | apply And.intro | omega) ?_
                      first
                        | (have hno : ¬ brok N r w x y := fun q => absurd q.1.1 (by omega)
                           rw [brg_f hno, if_pos rfl] at hc
                           exact ih (y + 1) l _ _ (by omega) (by omega) hl hc)
                        | (have hno : ¬ brok N r w x y := fun q => absurd q.2 (by omega)
                           rw [brg_f hno, if_pos rfl] at hc
                           exact ih (y + 1) l _ _ (by omega) (by omega) hl hc)
                        | (have hno : ¬ brok N r w x y := fun q => g4 q.1.2.1
                           rw [brg_f hno, if_pos rfl] at hc
                           exact ih (y + 1) l _ _ (by omega) (by omega) hl hc)
                        | (have hno : ¬ brok N r w x y := fun q => g5 q.1.2.2
                           rw [brg_f hno, if_pos rfl] at hc
                           exact ih (y + 1) l _ _ (by omega) (by omega) hl hc)
                        | (rw [if_pos g8] at hc
                           exact ih (y + 1) _ _ _ (by omega) (by omega) (by omega) hc)
                        | (rw [if_neg g8] at hc
                           refine ih (y + 1) _ _ _ (by omega) (by omega) ?_ hc
                           split <;> omega)
                    · refine ZE.go hW 42 rfl (by repeat' first | exact True.intro | assumption | apply And.intro | omega) ?_
                      first
                        | (have hno : ¬ brok N r w x y := fun q => absurd q.1.1 (by omega)
                           rw [brg_f hno, if_pos rfl] at hc
                           exact ih (y + 1) l _ _ (by omega) (by omega) hl hc)
                        | (have hno : ¬ brok N r w x y := fun q => absurd q.2 (by omega)
                           rw [brg_f hno, if_pos rfl] at hc
                           exact ih (y + 1) l _ _ (by omega) (by omega) hl hc)
                        | (have hno : ¬ brok N r w x y := fun q => g4 q.1.2.1
                           rw [brg_f hno, if_pos rfl] at hc
                           exact ih (y + 1) l _ _ (by omega) (by omega) hl hc)
                        | (have hno : ¬ brok N r w x y := fun q => g5 q.1.2.2
                           rw [brg_f hno, if_pos rfl] at hc
                           exact ih (y + 1) l _ _ (by omega) (by omega) hl hc)
                        | (rw [if_pos g8] at hc
                           exact ih (y + 1) _ _ _ (by omega) (by omega) (by omega) hc)
                        | (rw [if_neg g8] at hc
                           refine ih (y + 1) _ _ _ (by omega) (by omega) ?_ hc
                           split <;> omega)
                · refine ZE.go hW 9999 rfl (by repeat' first | exact True.intro | assumption | apply And.intro | omega) ?_
                  refine ZE.b rfl (by omega) (by omega) ?_ ?_ <;> intro g7
                  · refine ZE.go hW 146 rfl (by repeat' first | exact True.intro | assumption | apply And.intro | omega) ?_
                    first
                      | rw [if_pos g6, if_pos g7] at hch
                      | rw [if_pos g6, if_neg g7] at hch
                      | rw [if_neg g6, if_pos g7] at hch
                      | rw [if_neg g6, if_neg g7] at hch
                    rw [hch] at hc
                    rw [if_neg (by omega)] at hc
                    refine ZE.go hW 9999 rfl (by repeat' first | exact True.intro | assumption | apply And.intro | omega) ?_
                    refine ZE.b rfl (by omega) (by omega) ?_ ?_ <;> intro g8
                    · refine ZE.go hW 9999 rfl (by repeat' first | exact True.intro | assumption | apply And.intro | omega) ?_
                      refine ZE.c0 hW rfl rfl (Nat.le_of_ble_eq_true rfl) (Nat.le_of_ble_eq_true rfl) (k_j_min (d := d + 4) hW (by omega) (by omega)) ?_
                      refine ZE.go hW 42 rfl (by repeat' first | exact True.intro | assumption | apply And.intro | omega) ?_
                      first
                        | (have hno : ¬ brok N r w x y := fun q => absurd q.1.1 (by omega)
                           rw [brg_f hno, if_pos rfl] at hc
                           exact ih (y + 1) l _ _ (by omega) (by omega) hl hc)
                        | (have hno : ¬ brok N r w x y := fun q => absurd q.2 (by omega)
                           rw [brg_f hno, if_pos rfl] at hc
                           exact ih (y + 1) l _ _ (by omega) (by omega) hl hc)
                        | (have hno : ¬ brok N r w x y := fun q => g4 q.1.2.1
                           rw [brg_f hno, if_pos rfl] at hc
                           exact ih (y + 1) l _ _ (by omega) (by omega) hl hc)
                        | (have hno : ¬ brok N r w x y := fun q => g5 q.1.2.2
                           rw [brg_f hno, if_pos rfl] at hc
                           exact ih (y + 1) l _ _ (by omega) (by omega) hl hc)
                        | (rw [if_pos g8] at hc
                           exact ih (y + 1) _ _ _ (by omega) (by omega) (by omega) hc)
                        | (rw [if_neg g8] at hc
                           refine ih (y + 1) _ _ _ (by omega) (by omega) ?_ hc
                           split <;> omega)
                    · refine ZE.go hW 42 rfl (by repeat' first | exact True.intro | assumption | apply And.intro | omega) ?_
                      first
                        | (have hno : ¬ brok N r w x y := fun q => absurd q.1.1 (by omega)
                           rw [brg_f hno, if_pos rfl] at hc
                           exact ih (y + 1) l _ _ (by omega) (by omega) hl hc)
                        | (have hno : ¬ brok N r w x y := fun q => absurd q.2 (by omega)
                           rw [brg_f hno, if_pos rfl] at hc
                           exact ih (y + 1) l _ _ (by omega) (by omega) hl hc)
                        | (have hno : ¬ brok N r w x y := fun q => g4 q.1.2.1
                           rw [brg_f hno, if_pos rfl] at hc
                           exact ih (y + 1) l _ _ (by omega) (by omega) hl hc)
                        | (have hno : ¬ brok N r w x y := fun q => g5 q.1.2.2
                           rw [brg_f hno, if_pos rfl] at hc
                           exact ih (y + 1) l _ _ (by omega) (by omega) hl hc)
                        | (rw [if_pos g8] at hc
                           exact ih (y + 1) _ _ _ (by omega) (by omega) (by omega) hc)
                        | (rw [if_neg g8] at hc
                           refine ih (y + 1) _ _ _ (by omega) (by omega) ?_ hc
                           split <;> omega)
                  · refine ZE.go hW 146 rfl (by repeat' first | exact True.intro | assumption | apply And.intro | omega) ?_
                    first
                      | rw [if_pos g6, if_pos g7] at hch
                      | rw [if_pos g6, if_neg g7] at hch
                      | rw [if_neg g6, if_pos g7] at hch
                      | rw [if_neg g6, if_neg g7] at hch
                    rw [hch] at hc
                    rw [if_neg (by omega)] at hc
                    refine ZE.go hW 9999 rfl (by repeat' first | exact True.intro | assumption | apply And.intro | omega) ?_
                    refine ZE.b rfl (by omega) (by omega) ?_ ?_ <;> intro g8
                    · refine ZE.go hW 9999 rfl (by repeat' first | exact True.intro | assumption | apply And.intro | omega) ?_
                      refine ZE.c0 hW rfl rfl (Nat.le_of_ble_eq_true rfl) (Nat.le_of_ble_eq_true rfl) (k_j_min (d := d + 4) hW (by omega) (by omega)) ?_
                      refine ZE.go hW 42 rfl (by repeat' first | exact True.intro | assumption | apply And.intro | omega) ?_
                      first
                        | (have hno : ¬ brok N r w x y := fun q => absurd q.1.1 (by omega)
                           rw [brg_f hno, if_pos rfl] at hc
                           exact ih (y + 1) l _ _ (by omega) (by omega) hl hc)
                        | (have hno : ¬ brok N r w x y := fun q => absurd q.2 (by omega)
                           rw [brg_f hno, if_pos rfl] at hc
                           exact ih (y + 1) l _ _ (by omega) (by omega) hl hc)
                        | (have hno : ¬ brok N r w x y := fun q => g4 q.1.2.1
                           rw [brg_f hno, if_pos rfl] at hc
                           exact ih (y + 1) l _ _ (by omega) (by omega) hl hc)
                        | (have hno : ¬ brok N r w x y := fun q => g5 q.1.2.2
                           rw [brg_f hno, if_pos rfl] at hc
                           exact ih (y + 1) l _ _ (by omega) (by omega) hl hc)
                        | (rw [if_pos g8] at hc
                           exact ih (y + 1) _ _ _ (by omega) (by omega) (by omega) hc)
                        | (rw [if_neg g8] at hc
                           refine ih (y + 1) _ _ _ (by omega) (by omega) ?_ hc
                           split <;> omega)
                    · refine ZE.go hW 42 rfl (by repeat' first | exact True.intro | assumption | apply And.intro | omega) ?_
                      first
                        | (have hno : ¬ brok N r w x y := fun q => absurd q.1.1 (by omega)
                           rw [brg_f hno, if_pos rfl] at hc
                           exact ih (y + 1) l _ _ (by omega) (by omega) hl hc)
                        | (have hno : ¬ brok N r w x y := fun q => absurd q.2 (by omega)
                           rw [brg_f hno, if_pos rfl] at hc
                           exact ih (y + 1) l _ _ (by omega) (by omega) hl hc)
                        | (have hno : ¬ brok N r w x y := fun q => g4 q.1.2.1
                           rw [brg_f hno, if_pos rfl] at hc
                           exact ih (y + 1) l _ _ (by omega) (by omega) hl hc)
                        | (have hno : ¬ brok N r w x y := fun q => g5 q.1.2.2
                           rw [brg_f hno, if_pos rfl] at hc
                           exact ih (y + 1) l _ _ (by omega) (by omega) hl hc)
                        | (rw [if_pos g8] at hc
                           exact ih (y + 1) _ _ _ (by omega) (by omega) (by omega) hc)
                        | (rw [if_neg g8] at hc
                           refine ih (y + 1) _ _ _ (by omega) (by omega) ?_ hc
                           split <;> omega)
              · refine ZE.go hW 42 rfl (by repeat' first | exact True.intro | assumption | apply And.intro | omega) ?_
                first
                  | (have hno : ¬ brok N r w x y := fun q => absurd q.1.1 (by omega)
                     rw [brg_f hno, if_pos rfl] at hc
                     exact ih (y + 1) l _ _ (by omega) (by omega) hl hc)
                  | (have hno : ¬ brok N r w x y := fun q => absurd q.2 (by omega)
                     rw [brg_f hno, if_pos rfl] at hc
                     exact ih (y + 1) l _ _ (by omega) (by omega) hl hc)
                  | (have hno : ¬ brok N r w x y := fun q => g4 q.1.2.1
                     rw [brg_f hno, if_pos rfl] at hc
                     exact ih (y + 1) l _ _ (by omega) (by omega) hl hc)
                  | (have hno : ¬ brok N r w x y := fun q => g5 q.1.2.2
                     rw [brg_f hno, if_pos rfl] at hc
                     exact ih (y + 1) l _ _ (by omega) (by omega) hl hc)
                  | (rw [if_pos g8] at hc
                     exact ih (y + 1) _ _ _ (by omega) (by omega) (by omega) hc)
                  | (rw [if_neg g8] at hc
                     refine ih (y + 1) _ _ _ (by omega) (by omega) ?_ hc
                     split <;> omega)
  have outer : ∀ (k : Nat) (x l : Int) (x8 x9 x10 : V), 0 ≤ x → x + k = N 0 → (-1 ≤ l ∧ l < 1000) → brO (brg N r w) (N 0).toNat k x l = M → ZE ext (d + 5) n_X9_fewestForAir 30 [(100, a), (0, r), (0, w), (0, r + 1), (0, vOf N r), (0, vOf N (r + 1)), (0, l), (0, x), x8, x9, x10] [] σ μ (fun rv μ' => rv = some (0, M) ∧ μ' = μ) := by
    intro k
    induction k with
    | zero =>
      intro x l x8 x9 x10 h0 hk hl hc
      have hc : l = M := hc
      refine ZE.go hW 9999 rfl (by repeat' first | exact True.intro | assumption | apply And.intro | omega) ?_
      refine ZE.b rfl (by omega) (by omega) ?_ ?_ <;> intro g1
      · refine ZE.go hW 9999 rfl (by repeat' first | exact True.intro | assumption | apply And.intro | omega) ?_
        refine ZE.ri rfl rfl ?_
        exact ⟨by rw [hc], rfl⟩
      · omega
    | succ k ih =>
      intro x l x8 x9 x10 h0 hk hl hc
      have hc : brO (brg N r w) (N 0).toNat k (x + 1) (brI (brg N r w x) (N 0).toNat 0 l) = M := hc
      have hl2 : -1 ≤ brI (brg N r w x) (N 0).toNat 0 l ∧ brI (brg N r w x) (N 0).toNat 0 l < 1000 := by
        have key : ∀ (q : Nat) (y l : Int), 0 ≤ y → y + q = N 0 → (-1 ≤ l ∧ l < 1000) → -1 ≤ brI (brg N r w x) q y l ∧ brI (brg N r w x) q y l < 1000 := by
          intro q
          induction q with
          | zero => intro y l _ _ hl; exact hl
          | succ q ihq =>
            intro y l hy hq hl
            show -1 ≤ brI (brg N r w x) q (y + 1) _ ∧ brI (brg N r w x) q (y + 1) _ < 1000
            refine ihq (y + 1) _ (by omega) (by omega) ?_
            have hg : -1 ≤ brg N r w x y ∧ brg N r w x y < 1000 := by
              by_cases hok : brok N r w x y
              · rw [brg_t hok]
                have := brch_rng (N := N) (r := r) (x := x) (y := y)
                omega
              · rw [brg_f hok]; omega
            repeat' split
            all_goals omega
        exact key _ 0 l (by omega) (by omega) hl
      refine ZE.go hW 9999 rfl (by repeat' first | exact True.intro | assumption | apply And.intro | omega) ?_
      refine ZE.b rfl (by omega) (by omega) ?_ ?_ <;> intro g1
      · omega
      · refine ZE.go hW 42 rfl (by repeat' first | exact True.intro | assumption | apply And.intro | omega) ?_
        refine inner x (by omega) _ ?_ (N 0).toNat 0 l _ _ (by omega) (by omega) hl rfl
        intro y9 y10
        refine ZE.go hW 30 rfl (by repeat' first | exact True.intro | assumption | apply And.intro | omega) ?_
        exact ih (x + 1) _ _ _ _ (by omega) (by omega) hl2 hc
  refine ZQ.i rfl ?_
  refine ZE.go hW 9999 rfl (by repeat' first | exact True.intro | assumption | apply And.intro | omega) ?_
  refine ZE.c1 hW rfl rfl (by repeat' first | exact True.intro | assumption | apply And.intro | omega) (Nat.le_of_ble_eq_true rfl) (Nat.le_of_ble_eq_true rfl) (k_c_viewHeldBy (d := d + 4) h' (by omega) (by omega)) ?_
  refine ZE.go hW 9999 rfl (by repeat' first | exact True.intro | assumption | apply And.intro | omega) ?_
  refine ZE.c1 hW rfl rfl (by repeat' first | exact True.intro | assumption | apply And.intro | omega) (Nat.le_of_ble_eq_true rfl) (Nat.le_of_ble_eq_true rfl) (k_c_viewHeldBy (d := d + 4) h' (by omega) (by omega)) ?_
  refine ZE.go hW 30 rfl (by repeat' first | exact True.intro | assumption | apply And.intro | omega) ?_
  exact outer (N 0).toNat 0 (-1) _ _ _ (by omega) (by omega) (by omega) hM
set_option maxRecDepth 100000 in set_option maxHeartbeats 4000000 in theorem k_c_digestFrom {h0 : Int} (h : SR σ μ a N t) (ht : t ≤ 100) : ZM ext d n_X9_digestFrom [(100, a), (1, h0)] σ μ (some (1, smf N (3 * N 5).toNat 97 (smf N (3 * N 4).toNat 61 (smf N (3 * N 1).toNat 43 (smf N (6 * N 0).toNat 7 h0))))) μ := by
  have hC := h.ct
  have hT := h.ten.1
  have hV := fun v => h.vw (v := v)
  have hQ := fun v => h.rt (r := v)
  have hH := fun v => h.hi (i := v)
  have hD := fun v => h.rd (i := v)
  obtain ⟨hK, hS, hR, hN, hP⟩ := h
  have hW := hK.1
  have hSp := hS.1
  have hB := hS.bk
  apply ZQ.ex
  have e1 : (6 * N 0).toNat = 6 * (N 0).toNat := by omega
  have e2 : (3 * N 1).toNat = 3 * (N 1).toNat := by omega
  have e3 : (3 * N 4).toNat = 3 * (N 4).toNat := by omega
  have e4 : (3 * N 5).toNat = 3 * (N 5).toNat := by omega
  rw [e1, e2, e3, e4]
  generalize hM : smf N (3 * (N 5).toNat) 97 (smf N (3 * (N 4).toNat) 61 (smf N (3 * (N 1).toNat) 43 (smf N (6 * (N 0).toNat) 7 h0))) = M
  have l4 : ∀ (k : Nat) (i x : Int), 0 ≤ i → i + k = N 5 → smf N (3 * k) (97 + 3 * i) x = M → ZE ext d n_X9_digestFrom 236 [(100, a), (1, x), (4, 0), (0, i)] [] σ μ (fun rv μ' => rv = some (1, M) ∧ μ' = μ) := by
    intro k
    induction k with
    | zero =>
      intro i x hi hk hc
      have hc : x = M := hc
      refine ZE.go hW 9999 rfl (by repeat' first | exact True.intro | assumption | apply And.intro | omega) ?_
      refine ZE.b rfl (by omega) (by omega) ?_ ?_ <;> intro g1
      · refine ZE.go hW 9999 rfl (by repeat' first | exact True.intro | assumption | apply And.intro | omega) ?_
        refine ZE.rl rfl rfl ?_
        exact ⟨by rw [hc], rfl⟩
      · omega
    | succ k ih =>
      intro i x hi hk hc
      rw [smf3] at hc
      have q := hD i ⟨hi, by omega⟩
      refine ZE.go hW 9999 rfl (by repeat' first | exact True.intro | assumption | apply And.intro | omega) ?_
      refine ZE.b rfl (by omega) (by omega) ?_ ?_ <;> intro g1
      · omega
      · refine ZE.go hW 236 rfl (by repeat' first | exact True.intro | assumption | apply And.intro | omega) ?_
        rw [q.1.1, q.1.2.1, q.1.2.2]
        refine ih (i + 1) _ (by omega) (by omega) ?_
        rw [show 97 + 3 * (i + 1) = 97 + 3 * i + 3 by omega]
        exact hc
  have l3 : ∀ (k : Nat) (i x : Int), 0 ≤ i → i + k = N 4 → smf N (3 * (N 5).toNat) 97 (smf N (3 * k) (61 + 3 * i) x) = M → ZE ext d n_X9_digestFrom 166 [(100, a), (1, x), (4, 0), (0, i)] [] σ μ (fun rv μ' => rv = some (1, M) ∧ μ' = μ) := by
    intro k
    induction k with
    | zero =>
      intro i x hi hk hc
      refine ZE.go hW 9999 rfl (by repeat' first | exact True.intro | assumption | apply And.intro | omega) ?_
      refine ZE.b rfl (by omega) (by omega) ?_ ?_ <;> intro g1
      · refine ZE.go hW 236 rfl (by repeat' first | exact True.intro | assumption | apply And.intro | omega) ?_
        exact l4 (N 5).toNat 0 x (by omega) (by omega) hc
      · omega
    | succ k ih =>
      intro i x hi hk hc
      rw [smf3] at hc
      have q := hH i ⟨hi, by omega⟩
      refine ZE.go hW 9999 rfl (by repeat' first | exact True.intro | assumption | apply And.intro | omega) ?_
      refine ZE.b rfl (by omega) (by omega) ?_ ?_ <;> intro g1
      · omega
      · refine ZE.go hW 166 rfl (by repeat' first | exact True.intro | assumption | apply And.intro | omega) ?_
        rw [q.1.1, q.1.2.1, q.1.2.2]
        refine ih (i + 1) _ (by omega) (by omega) ?_
        rw [show 61 + 3 * (i + 1) = 61 + 3 * i + 3 by omega]
        exact hc
  have l2 : ∀ (k : Nat) (i x : Int), 0 ≤ i → i + k = N 1 → smf N (3 * (N 5).toNat) 97 (smf N (3 * (N 4).toNat) 61 (smf N (3 * k) (43 + 3 * i) x)) = M → ZE ext d n_X9_digestFrom 105 [(100, a), (1, x), (4, 0), (0, i)] [] σ μ (fun rv μ' => rv = some (1, M) ∧ μ' = μ) := by
    intro k
    induction k with
    | zero =>
      intro i x hi hk hc
      refine ZE.go hW 9999 rfl (by repeat' first | exact True.intro | assumption | apply And.intro | omega) ?_
      refine ZE.b rfl (by omega) (by omega) ?_ ?_ <;> intro g1
      · refine ZE.go hW 166 rfl (by repeat' first | exact True.intro | assumption | apply And.intro | omega) ?_
        exact l3 (N 4).toNat 0 x (by omega) (by omega) hc
      · omega
    | succ k ih =>
      intro i x hi hk hc
      rw [smf3] at hc
      have q := hQ i ⟨hi, by omega⟩
      refine ZE.go hW 9999 rfl (by repeat' first | exact True.intro | assumption | apply And.intro | omega) ?_
      refine ZE.b rfl (by omega) (by omega) ?_ ?_ <;> intro g1
      · omega
      · refine ZE.go hW 105 rfl (by repeat' first | exact True.intro | assumption | apply And.intro | omega) ?_
        rw [q.1.1, q.1.2.1, q.1.2.2]
        refine ih (i + 1) _ (by omega) (by omega) ?_
        rw [show 43 + 3 * (i + 1) = 43 + 3 * i + 3 by omega]
        rw [show 43 + 3 * i + 0 = 43 + 3 * i by omega]
        exact hc
  have l1 : ∀ (k : Nat) (i x : Int), 0 ≤ i → i + k = N 0 → smf N (3 * (N 5).toNat) 97 (smf N (3 * (N 4).toNat) 61 (smf N (3 * (N 1).toNat) 43 (smf N (6 * k) (7 + 6 * i) x))) = M → ZE ext d n_X9_digestFrom 2 [(100, a), (1, x), (4, 0), (0, i)] [] σ μ (fun rv μ' => rv = some (1, M) ∧ μ' = μ) := by
    intro k
    induction k with
    | zero =>
      intro i x hi hk hc
      refine ZE.go hW 9999 rfl (by repeat' first | exact True.intro | assumption | apply And.intro | omega) ?_
      refine ZE.b rfl (by omega) (by omega) ?_ ?_ <;> intro g1
      · refine ZE.go hW 105 rfl (by repeat' first | exact True.intro | assumption | apply And.intro | omega) ?_
        exact l2 (N 1).toNat 0 x (by omega) (by omega) hc
      · omega
    | succ k ih =>
      intro i x hi hk hc
      rw [smf6] at hc
      have q := hV i ⟨hi, by omega⟩
      have q2 := hT i hi (by omega)
      refine ZE.go hW 9999 rfl (by repeat' first | exact True.intro | assumption | apply And.intro | omega) ?_
      refine ZE.b rfl (by omega) (by omega) ?_ ?_ <;> intro g1
      · omega
      · refine ZE.go hW 2 rfl (by repeat' first | exact True.intro | assumption | apply And.intro | omega) ?_
        rw [q.1.1, q.1.2.1, q.1.2.2.1, q.1.2.2.2.1, q.1.2.2.2.2, q2.1]
        refine ih (i + 1) _ (by omega) (by omega) ?_
        rw [show 7 + 6 * (i + 1) = 7 + 6 * i + 6 by omega]
        rw [show 7 + 6 * i + 0 = 7 + 6 * i by omega]
        exact hc
  refine ZQ.i rfl ?_
  refine ZE.go hW 2 rfl (by repeat' first | exact True.intro | assumption | apply And.intro | omega) ?_
  exact l1 (N 0).toNat 0 h0 (by omega) (by omega) hM
end
