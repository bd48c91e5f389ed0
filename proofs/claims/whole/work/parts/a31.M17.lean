def p10 : Nat → Int
  | 0 => 1
  | k + 1 => p10 k * 10
theorem p10_s {i : Int} (h : 0 ≤ i) : p10 (i + 1).toNat = p10 i.toNat * 10 := by rw [tnS h]; rfl
theorem p10_rng {i : Int} (h : 0 ≤ i ∧ i ≤ 6) : 1 ≤ p10 i.toNat ∧ p10 i.toNat ≤ 1000000 := by
  have key : ∀ n, n < 7 → 1 ≤ p10 n ∧ p10 n ≤ 1000000 := by decide
  exact key i.toNat (by omega)
def wg (o who : Int) : Nat → Int → Int → Int
  | 0, _, a => a
  | k + 1, r, a => wg o who k (r + 1) (a * (if zand (zshr who r) 1 = 1 then o else 10 - o))
theorem wg_rng {o who : Int} (ho : 0 ≤ o ∧ o ≤ 10) : ∀ (k : Nat) (r a M : Int), 0 ≤ a → a ≤ M → 0 ≤ wg o who k r a ∧ wg o who k r a ≤ M * p10 k
  | 0, r, a, M, h0, h1 => by
    show 0 ≤ a ∧ a ≤ M * 1
    omega
  | k + 1, r, a, M, h0, h1 => by
    have hx : 0 ≤ (if zand (zshr who r) 1 = 1 then o else 10 - o) ∧ (if zand (zshr who r) 1 = 1 then o else 10 - o) ≤ 10 := by split <;> omega
    generalize hg : (if zand (zshr who r) 1 = 1 then o else 10 - o) = x at hx
    have e : wg o who (k + 1) r a = wg o who k (r + 1) (a * x) := by rw [← hg]; rfl
    rw [e]
    have h2 : 0 ≤ a * x := Int.mul_nonneg h0 hx.1
    have h3 : a * x ≤ a * 10 := Int.mul_le_mul_of_nonneg_left hx.2 h0
    have := wg_rng (who := who) ho k (r + 1) (a * x) (10 * M) h2 (by omega)
    have e2 : 10 * M * p10 k = M * p10 (k + 1) := by
      show 10 * M * p10 k = M * (p10 k * 10)
      rw [Int.mul_comm 10 M, Int.mul_assoc, Int.mul_comm 10]
    rw [e2] at this
    exact this
noncomputable def odS (N : Int → Int) (o : Int) : Nat → Int → Int → Int
  | 0, _, s => s
  | k + 1, w, s => odS N o k (w + 1) (s + wg o w (N 1).toNat 0 1 * (Cn N (N 2) w).2)
noncomputable def odN (N : Int → Int) (o : Int) : Int := odS N o (zshl 1 (N 1)).toNat 0 0
noncomputable def odG (N : Int → Int) (o : Int) : Int := (Nat.gcd (odN N o).toNat (p10 (N 1).toNat).toNat : Int)
def lcg (x : Int) : Int := (x * 1103515245 + 12345) % 2147483648
def dwS (w : Int) : Nat → Int → Int → Int → Int × Int
  | 0, _, x, o => (x, o)
  | k + 1, r, x, o => dwS w k (r + 1) (lcg x) (zor o (if lcg x / 65536 % 100 < w then zshl 1 r else 0))
noncomputable def dwF (N : Int → Int) (w : Int) : Nat → Int → Int → Int → Int
  | 0, _, _, s => s
  | q + 1, k, x, s => dwF N w q (k + 1) (dwS w (N 1).toNat 0 x 0).1 (s + (Cn N (N 2 + k) (dwS w (N 1).toNat 0 x 0).2).1)
theorem Cn_rng {N : Int → Int} {e w t : Int} (hN : NI N t) : (0 ≤ (Cn N e w).1 ∧ (Cn N e w).1 ≤ 6) ∧ (0 ≤ (Cn N e w).2 ∧ (Cn N e w).2 ≤ 1200) := by
  have h1 := hN.1
  have := asC_rng (nv := (N 0).toNat) (c := cN N) (s := sM N e (cN N) (wlN N) (puN N) (waN N)) (who := w) (fun v p q => by have := hN.2.1 v p (by omega); exact wFee_rng (by omega)) (N 1).toNat 0 (zshl 1 (N 0) - 1) 0 0
  unfold Cn gC
  omega
theorem odS_rng {N : Int → Int} {o t : Int} (hN : NI N t) (ho : 0 ≤ o ∧ o ≤ 10) : ∀ (k : Nat) (w s : Int), 0 ≤ s → 0 ≤ odS N o k w s ∧ odS N o k w s ≤ s + 1200000000 * k
  | 0, w, s, h => by
    show 0 ≤ s ∧ s ≤ s + 1200000000 * ((0 : Nat) : Int)
    omega
  | k + 1, w, s, h => by
    have h1 := hN.1
    have hg := wg_rng (who := w) ho (N 1).toNat 0 1 1 (by omega) (by omega)
    have hp := p10_rng (i := N 1) (by omega)
    have hc := (Cn_rng (e := N 2) (w := w) hN).2
    have m1 : 0 ≤ wg o w (N 1).toNat 0 1 * (Cn N (N 2) w).2 := Int.mul_nonneg hg.1 hc.1
    have m2 : wg o w (N 1).toNat 0 1 * (Cn N (N 2) w).2 ≤ wg o w (N 1).toNat 0 1 * 1200 := Int.mul_le_mul_of_nonneg_left hc.2 hg.1
    have := odS_rng hN ho k (w + 1) (s + wg o w (N 1).toNat 0 1 * (Cn N (N 2) w).2) (by omega)
    show 0 ≤ odS N o k (w + 1) (s + wg o w (N 1).toNat 0 1 * (Cn N (N 2) w).2) ∧ odS N o k (w + 1) (s + wg o w (N 1).toNat 0 1 * (Cn N (N 2) w).2) ≤ _
    omega
section
variable {ext : List xC} {σ : zSh} {d : Nat} {μ : zM}
set_option maxRecDepth 100000 in set_option maxHeartbeats 4000000 in theorem k_m_fraction {o u : Int} (hW : Wl σ) (ho : 0 ≤ o ∧ o < 1000000000000) (hu : 0 < u ∧ u < 1000000000000) : ZM ext d n_X12_fraction [(1161, 0), (1, o), (1, u)] σ μ none (up (up μ 168 4 (o / (Nat.gcd o.toNat u.toNat : Int))) 168 5 (u / (Nat.gcd o.toNat u.toNat : Int))) := by
  apply ZQ.ex
  have hG : 0 < Nat.gcd o.toNat u.toNat := Nat.gcd_pos_of_pos_right _ (by omega)
  have loop : ∀ (n m : Nat) (x9 x10 : V), n < 1000000000000 → m < 1000000000000 → Nat.gcd m n = Nat.gcd o.toNat u.toNat → ZE ext d n_X12_fraction 6 [(1161, 0), (1, o), (4, 0), (1, u), (4, 0), (1, (m : Int)), (4, 0), (1, (n : Int)), (4, 0), x9, x10] [] σ μ (fun a b => a = none ∧ b = up (up μ 168 4 (o / (Nat.gcd o.toNat u.toNat : Int))) 168 5 (u / (Nat.gcd o.toNat u.toNat : Int))) := by
    intro n
    induction n using Nat.strongRecOn with
    | ind n ih =>
      intro m x9 x10 hn hm hg
      have hz := zcmp_eq (x := (n : Int)) (y := 0)
      refine ZE.go hW 9999 rfl (by and_intros <;> first | trivial | assumption | omega) ?_
      refine ZE.b0 rfl (zcmp_rng) ?_ ?_ <;> intro g1
      · have hn0 : n = 0 := by omega
        subst hn0
        rw [Nat.gcd_zero_right] at hg
        refine ZE.go hW 9999 rfl (by and_intros <;> first | trivial | assumption | omega) ?_
        refine ZE.rv rfl rfl ?_
        refine ⟨rfl, ?_⟩
        rw [← hg]
      · have hlt : m % n < n := Nat.mod_lt _ (by omega)
        refine ZE.go hW 6 rfl (by and_intros <;> first | trivial | assumption | omega) ?_
        rw [show (m : Int) % (n : Int) = ((m % n : Nat) : Int) by omega]
        refine ih (m % n) hlt n _ _ (by omega) hn ?_
        rw [← hg, Nat.gcd_comm n, ← Nat.gcd_rec, Nat.gcd_comm]
  refine ZQ.i rfl ?_
  refine ZE.go hW 6 rfl (by and_intros <;> first | trivial | assumption | omega) ?_
  have := loop u.toNat o.toNat (4, 0) (4, 0) (by omega) (by omega) rfl
  rw [Int.toNat_of_nonneg ho.1, Int.toNat_of_nonneg (show 0 ≤ u by omega)] at this
  exact this
set_option maxRecDepth 100000 in set_option maxHeartbeats 4000000 in theorem k_m_odds {o t : Int} (hW : Wl σ) (hN : NI (μ 169) t) (ht : t ≤ 100) (ho : zrng o) : ZQ ext (d + 6) n_X12_odds [(1161, 0), (0, o)] σ μ (fun rv μ' => (¬ (0 ≤ o ∧ o ≤ 10) → rv = some (0, -2) ∧ μ' = up μ 172 0 (μ 172 0 + 1)) ∧
    (0 ≤ o ∧ o ≤ 10 → rv = some (0, 1) ∧ ∃ μ0, Mq μ μ0 ∧ μ' = up (up μ0 168 4 (odN (μ 169) o / odG (μ 169) o)) 168 5 (p10 (μ 169 1).toNat / odG (μ 169) o))) := by
  have h1 := hN.1
  have hev : 0 ≤ μ 169 2 ∧ μ 169 2 ≤ t := hN.2.2.2.2.1.1
  have hall := bt_all h1.2.1
  generalize hQ : (fun (rv : Option V) (μ' : zM) => (¬ (0 ≤ o ∧ o ≤ 10) → rv = some (0, -2) ∧ μ' = up μ 172 0 (μ 172 0 + 1)) ∧
    (0 ≤ o ∧ o ≤ 10 → rv = some (0, 1) ∧ ∃ μ0, Mq μ μ0 ∧ μ' = up (up μ0 168 4 (odN (μ 169) o / odG (μ 169) o)) 168 5 (p10 (μ 169 1).toNat / odG (μ 169) o))) = Q
  have l2 : ∀ (k : Nat) (w s : Int) (μ1 : zM) (x7 x8 x9 : V), 0 ≤ o ∧ o ≤ 10 → 0 ≤ w → w + k = zshl 1 (μ 169 1) → 0 ≤ s ∧ s ≤ 1200000000 * w → Mq μ μ1 → HL μ1 → odS (μ 169) o k w s = odN (μ 169) o → ZE ext (d + 6) n_X12_odds 57 [(1161, 0), (0, o), (1, s), (4, 0), (1, p10 (μ 169 1).toNat), (4, 0), (0, w), x7, x8, x9] [] σ μ1 Q := by
    intro k
    induction k with
    | zero =>
      intro w s μ1 x7 x8 x9 hok h0 hk hs hq hl hT
      have hT : s = odN (μ 169) o := hT
      have n1 := congrFun hq.n 1
      have hp := p10_rng (i := μ 169 1) (by omega)
      refine ZE.go hW 9999 rfl (by and_intros <;> first | trivial | assumption | omega) ?_
      refine ZE.c0 hW rfl rfl (Nat.le_of_ble_eq_true rfl) (Nat.le_of_ble_eq_true rfl) (k_m_allRenters (d := d + 4) hW) ?_
      rw [n1]
      refine ZE.b rfl (by omega) (by omega) ?_ ?_ <;> intro g1
      · refine ZE.go hW 9999 rfl (by and_intros <;> first | trivial | assumption | omega) ?_
        refine ZE.c0 hW rfl rfl (Nat.le_of_ble_eq_true rfl) (Nat.le_of_ble_eq_true rfl) (k_m_fraction (d := d + 5) hW (by omega) (by omega)) ?_
        refine ZE.go hW 9999 rfl (by and_intros <;> first | trivial | assumption | omega) ?_
        refine ZE.ri rfl rfl ?_
        rw [← hQ]
        refine ⟨fun q => absurd hok q, fun _ => ⟨rfl, μ1, hq, ?_⟩⟩
        rw [hT]
        rfl
      · omega
    | succ k ih =>
      intro w s μ1 x7 x8 x9 hok h0 hk hs hq hl hT
      have hT : odS (μ 169) o k (w + 1) (s + wg o w (μ 169 1).toNat 0 1 * (Cn (μ 169) (μ 169 2) w).2) = _ := hT
      have n1 := congrFun hq.n 1
      have n2 := congrFun hq.n 2
      have hN1 : NI (μ1 169) t := by rw [hq.n]; exact hN
      have hg := wg_rng (who := w) hok (μ 169 1).toNat 0 1 1 (by omega) (by omega)
      have hp := p10_rng (i := μ 169 1) (by omega)
      have hc := (Cn_rng (e := μ 169 2) (w := w) hN).2
      have m1 : 0 ≤ wg o w (μ 169 1).toNat 0 1 * (Cn (μ 169) (μ 169 2) w).2 := Int.mul_nonneg hg.1 hc.1
      have m2 : wg o w (μ 169 1).toNat 0 1 * (Cn (μ 169) (μ 169 2) w).2 ≤ wg o w (μ 169 1).toNat 0 1 * 1200 := Int.mul_le_mul_of_nonneg_left hc.2 hg.1
      have inner : ∀ (q : Nat) (r c : Int), 0 ≤ r → r + q = μ 169 1 → wg o w q r c = wg o w (μ 169 1).toNat 0 1 → ZE ext (d + 6) n_X12_odds 72 [(1161, 0), (0, o), (1, s), (4, 0), (1, p10 (μ 169 1).toNat), (4, 0), (0, w), (1, c), (4, 0), (0, r)] [] σ μ1 Q := by
        intro q
        induction q with
        | zero =>
          intro r c hr0 hr hC
          have hC : c = _ := hC
          subst hC
          refine ZE.go hW 9999 rfl (by and_intros <;> first | trivial | assumption | omega) ?_
          refine ZE.b rfl (by omega) (by omega) ?_ ?_ <;> intro g1
          · refine ZE.go hW 9999 rfl (by and_intros <;> first | trivial | assumption | omega) ?_
            refine ZE.q0 hW rfl rfl (Nat.le_of_ble_eq_true rfl) (Nat.le_of_ble_eq_true rfl) (k_m_layCome (d := d) hW hN1 (hl.hr hN1) (by omega) (by omega)) ?_
            rintro rv9 μc ⟨rfl, hc1⟩
            obtain ⟨⟨c1, c2⟩, c3, c4⟩ := LC.n hq hl h1.1.1 hc1
            rw [n2] at c2
            have c5 := hc.1
            have c6 := hc.2
            refine ZE.go hW 57 rfl (by and_intros <;> first | trivial | assumption | omega) ?_
            rw [c2]
            exact ih (w + 1) _ μc _ _ _ hok (by omega) (by omega) (by omega) c3 c4 hT
          · omega
        | succ q ihq =>
          intro r c hr0 hr hC
          have hC : wg o w q (r + 1) (c * (if zand (zshr w r) 1 = 1 then o else 10 - o)) = _ := hC
          have hb := bt01 (m := w) (v := r) (by omega) (by omega)
          refine ZE.go hW 9999 rfl (by and_intros <;> first | trivial | assumption | omega) ?_
          refine ZE.b rfl (by omega) (by omega) ?_ ?_ <;> intro g1
          · omega
          · refine ZE.go hW 9999 rfl (by and_intros <;> first | trivial | assumption | omega) ?_
            refine ZE.b rfl (bt_rng (by omega) (by omega)) (by omega) ?_ ?_ <;> intro g2
            · refine ZE.go hW 72 rfl (by and_intros <;> first | trivial | assumption | omega) ?_
              first
                | (rw [if_pos (by omega)] at hC; exact ihq (r + 1) _ (by omega) (by omega) hC)
                | (rw [if_neg (by omega)] at hC; exact ihq (r + 1) _ (by omega) (by omega) hC)
            · refine ZE.go hW 72 rfl (by and_intros <;> first | trivial | assumption | omega) ?_
              first
                | (rw [if_pos (by omega)] at hC; exact ihq (r + 1) _ (by omega) (by omega) hC)
                | (rw [if_neg (by omega)] at hC; exact ihq (r + 1) _ (by omega) (by omega) hC)
      refine ZE.go hW 9999 rfl (by and_intros <;> first | trivial | assumption | omega) ?_
      refine ZE.c0 hW rfl rfl (Nat.le_of_ble_eq_true rfl) (Nat.le_of_ble_eq_true rfl) (k_m_allRenters (d := d + 4) hW) ?_
      rw [n1]
      refine ZE.b rfl (by omega) (by omega) ?_ ?_ <;> intro g1
      · omega
      · refine ZE.go hW 72 rfl (by and_intros <;> first | trivial | assumption | omega) ?_
        exact inner (μ 169 1).toNat 0 1 (by omega) (by omega) rfl
  have l1 : ∀ (μ1 : zM), 0 ≤ o ∧ o ≤ 10 → Mq μ μ1 → HL μ1 → ∀ i, 0 ≤ i → i ≤ μ 169 1 → ZE ext (d + 6) n_X12_odds 31 [(1161, 0), (0, o), (1, 0), (4, 0), (1, p10 i.toNat), (4, 0), (0, i), (4, 0), (4, 0), (4, 0)] [] σ μ1 Q := by
    intro μ1 hok hq hl
    have n1 := congrFun hq.n 1
    refine loopU ?_ ?_
    · intro i h0 hi ih
      rw [p10_s h0] at ih
      refine ZE.go hW 9999 rfl (by and_intros <;> first | trivial | assumption | omega) ?_
      refine ZE.b rfl (by omega) (by omega) ?_ ?_ <;> intro g1
      · omega
      · refine ZE.go hW 31 rfl (by and_intros <;> first | trivial | assumption | omega) ?_
        exact ih
    · refine ZE.go hW 9999 rfl (by and_intros <;> first | trivial | assumption | omega) ?_
      refine ZE.b rfl (by omega) (by omega) ?_ ?_ <;> intro g1
      · refine ZE.go hW 57 rfl (by and_intros <;> first | trivial | assumption | omega) ?_
        exact l2 (zshl 1 (μ 169 1)).toNat 0 0 μ1 _ _ _ hok (by omega) (by omega) (by omega) hq hl rfl
      · omega
  refine ZQ.i rfl ?_
  refine ZE.go hW 9999 rfl (by and_intros <;> first | trivial | assumption | omega) ?_
  refine ZE.c0 hW rfl rfl (Nat.le_of_ble_eq_true rfl) (Nat.le_of_ble_eq_true rfl) (k_in (d := d + 5) hW ho (by omega) (by omega)) ?_
  refine ZE.bp rfl rfl ?_ ?_ <;> intro g1
  · refine ZE.go hW 9999 rfl (by and_intros <;> first | trivial | assumption | omega) ?_
    refine ZE.q0 hW rfl rfl (Nat.le_of_ble_eq_true rfl) (Nat.le_of_ble_eq_true rfl) (k_m_layHand (d := d + 4) hW hN) ?_
    rintro rv9 μ8 ⟨rfl, hq, hl⟩
    refine ZE.go hW 31 rfl (by and_intros <;> first | trivial | assumption | omega) ?_
    exact l1 μ8 (by omega) hq hl 0 (by omega) (by omega)
  · refine ZE.go hW 9999 rfl (by and_intros <;> first | trivial | assumption | omega) ?_
    refine ZE.ri rfl rfl ?_
    rw [← hQ]
    exact ⟨fun _ => ⟨rfl, rfl⟩, fun q => absurd q (by omega)⟩
set_option maxRecDepth 100000 in set_option maxHeartbeats 4000000 in theorem k_m_drawn {sd n w t : Int} (hW : Wl σ) (hN : NI (μ 169) t) (ht : t ≤ 100) (hs : zrng sd) (hn : zrng n) (hw : zrng w) : ZQ ext (d + 6) n_X12_drawn [(1161, 0), (0, sd), (0, n), (0, w)] σ μ (Qm ((0 ≤ sd ∧ sd ≤ 999999) ∧ (0 ≤ n ∧ n ≤ 30) ∧ (0 ≤ w ∧ w ≤ 100)) (-2) (dwF (μ 169) w n.toNat 0 sd 0) μ) := by
  have h1 := hN.1
  have hev : 0 ≤ μ 169 2 ∧ μ 169 2 ≤ t := hN.2.2.2.2.1.1
  generalize hQ : Qm ((0 ≤ sd ∧ sd ≤ 999999) ∧ (0 ≤ n ∧ n ≤ 30) ∧ (0 ≤ w ∧ w ≤ 100)) (-2) (dwF (μ 169) w n.toNat 0 sd 0) μ = Q
  have loop : ∀ (q : Nat) (k x s : Int) (μ1 : zM) (x8 x9 : V), ((0 ≤ sd ∧ sd ≤ 999999) ∧ (0 ≤ n ∧ n ≤ 30) ∧ (0 ≤ w ∧ w ≤ 100)) → 0 ≤ k → k + q = n → 0 ≤ x ∧ x < 2147483648 → Mq μ μ1 → HL μ1 → dwF (μ 169) w q k x s = dwF (μ 169) w n.toNat 0 sd 0 → ZE ext (d + 6) n_X12_drawn 57 [(1161, 0), (0, sd), (0, n), (0, w), (1, x), (4, 0), (0, s), (0, k), x8, x9] [] σ μ1 Q := by
    intro q
    induction q with
    | zero =>
      intro k x s μ1 x8 x9 hok h0 hk hx hq hl hT
      have hT : s = _ := hT
      refine ZE.go hW 9999 rfl (by and_intros <;> first | trivial | assumption | omega) ?_
      refine ZE.b rfl (by omega) (by omega) ?_ ?_ <;> intro g1
      · refine ZE.go hW 9999 rfl (by and_intros <;> first | trivial | assumption | omega) ?_
        refine ZE.ri rfl rfl ?_
        rw [← hQ]
        exact ⟨fun _ => ⟨by rw [hT], hq⟩, fun q => absurd hok q⟩
      · omega
    | succ q ih =>
      intro k x s μ1 x8 x9 hok h0 hk hx hq hl hT
      have hT : dwF (μ 169) w q (k + 1) (dwS w (μ 169 1).toNat 0 x 0).1 (s + (Cn (μ 169) (μ 169 2 + k) (dwS w (μ 169 1).toNat 0 x 0).2).1) = _ := hT
      have n1 := congrFun hq.n 1
      have n2 := congrFun hq.n 2
      have hN1 : NI (μ1 169) t := by rw [hq.n]; exact hN
      have inner : ∀ (j : Nat) (r y o : Int), 0 ≤ r → r + j = μ 169 1 → 0 ≤ y ∧ y < 2147483648 → 0 ≤ o ∧ o < 64 → dwS w j r y o = dwS w (μ 169 1).toNat 0 x 0 → ZE ext (d + 6) n_X12_drawn 69 [(1161, 0), (0, sd), (0, n), (0, w), (1, y), (4, 0), (0, s), (0, k), (0, o), (0, r)] [] σ μ1 Q := by
        intro j
        induction j with
        | zero =>
          intro r y o hr0 hr hy ho hC
          have hC : (y, o) = _ := hC
          rw [← hC] at hT
          refine ZE.go hW 9999 rfl (by and_intros <;> first | trivial | assumption | omega) ?_
          refine ZE.b rfl (by omega) (by omega) ?_ ?_ <;> intro g1
          · refine ZE.go hW 9999 rfl (by and_intros <;> first | trivial | assumption | omega) ?_
            refine ZE.q0 hW rfl rfl (Nat.le_of_ble_eq_true rfl) (Nat.le_of_ble_eq_true rfl) (k_m_layCome (d := d) hW hN1 (hl.hr hN1) (by omega) (by omega)) ?_
            rintro rv9 μc ⟨rfl, hc1⟩
            obtain ⟨⟨c1, c2⟩, c3, c4⟩ := LC.n hq hl h1.1.1 hc1
            rw [n2] at c1
            refine ZE.go hW 57 rfl (by and_intros <;> first | trivial | assumption | omega) ?_
            rw [c1]
            exact ih (k + 1) _ _ μc _ _ hok (by omega) (by omega) hy c3 c4 hT
          · omega
        | succ j ihj =>
          intro r y o hr0 hr hy ho hC
          have hC : dwS w j (r + 1) (lcg y) (zor o (if lcg y / 65536 % 100 < w then zshl 1 r else 0)) = _ := hC
          have hl1 : 0 ≤ lcg y ∧ lcg y < 2147483648 := by unfold lcg; omega
          have e1 : lcg y = (y * 1103515245 + 12345) % 2147483648 := rfl
          have ho2 := bt_or0 ho
          have ho3 := (bt_or ho (v := r) (by omega)).1
          refine ZE.go hW 9999 rfl (by and_intros <;> first | trivial | assumption | omega) ?_
          refine ZE.b rfl (by omega) (by omega) ?_ ?_ <;> intro g1
          · omega
          · refine ZE.go hW 94 rfl (by and_intros <;> first | trivial | assumption | omega) ?_
            have e2 : (y * ((1103515245 : Nat) : Int) + ((12345 : Nat) : Int)) % ((2147483648 : Nat) : Int) = lcg y := rfl
            rw [e2]
            have hz := zcmp_lt (x := lcg y / ((65536 : Nat) : Int) % ((100 : Nat) : Int)) (y := w)
            refine ZE.go hW 9999 rfl (by and_intros <;> first | trivial | assumption | omega) ?_
            refine ZE.b0 rfl (zcmp_rng) ?_ ?_ <;> intro g2
            · refine ZE.go hW 69 rfl (by and_intros <;> first | trivial | assumption | omega) ?_
              first
                | (rw [if_pos (by omega)] at hC; exact ihj (r + 1) _ _ (by omega) (by omega) hl1 ho3 hC)
                | (rw [if_neg (by omega)] at hC; exact ihj (r + 1) _ _ (by omega) (by omega) hl1 (by rw [ho2]; exact ho) hC)
            · refine ZE.go hW 69 rfl (by and_intros <;> first | trivial | assumption | omega) ?_
              first
                | (rw [if_pos (by omega)] at hC; exact ihj (r + 1) _ _ (by omega) (by omega) hl1 ho3 hC)
                | (rw [if_neg (by omega)] at hC; exact ihj (r + 1) _ _ (by omega) (by omega) hl1 (by rw [ho2]; exact ho) hC)
      refine ZE.go hW 9999 rfl (by and_intros <;> first | trivial | assumption | omega) ?_
      refine ZE.b rfl (by omega) (by omega) ?_ ?_ <;> intro g1
      · omega
      · refine ZE.go hW 69 rfl (by and_intros <;> first | trivial | assumption | omega) ?_
        exact inner (μ 169 1).toNat 0 x 0 (by omega) (by omega) hx (by omega) rfl
  refine ZQ.i rfl ?_
  refine ZE.go hW 9999 rfl (by and_intros <;> first | trivial | assumption | omega) ?_
  refine ZE.c0 hW rfl rfl (Nat.le_of_ble_eq_true rfl) (Nat.le_of_ble_eq_true rfl) (k_in (d := d + 5) hW hs (by omega) (by omega)) ?_
  refine ZE.bp rfl rfl ?_ ?_ <;> intro g1
  · refine ZE.go hW 9999 rfl (by and_intros <;> first | trivial | assumption | omega) ?_
    refine ZE.ri rfl rfl ?_
    rw [← hQ]
    exact ⟨fun q => absurd q (by omega), fun _ => ⟨rfl, rfl⟩⟩
  · refine ZE.go hW 9999 rfl (by and_intros <;> first | trivial | assumption | omega) ?_
    refine ZE.c0 hW rfl rfl (Nat.le_of_ble_eq_true rfl) (Nat.le_of_ble_eq_true rfl) (k_in (d := d + 5) hW hn (by omega) (by omega)) ?_
    refine ZE.bp rfl rfl ?_ ?_ <;> intro g2
    · refine ZE.go hW 9999 rfl (by and_intros <;> first | trivial | assumption | omega) ?_
      refine ZE.ri rfl rfl ?_
      rw [← hQ]
      exact ⟨fun q => absurd q (by omega), fun _ => ⟨rfl, rfl⟩⟩
    · refine ZE.go hW 9999 rfl (by and_intros <;> first | trivial | assumption | omega) ?_
      refine ZE.c0 hW rfl rfl (Nat.le_of_ble_eq_true rfl) (Nat.le_of_ble_eq_true rfl) (k_in (d := d + 5) hW hw (by omega) (by omega)) ?_
      refine ZE.bp rfl rfl ?_ ?_ <;> intro g3
      · refine ZE.go hW 9999 rfl (by and_intros <;> first | trivial | assumption | omega) ?_
        refine ZE.q0 hW rfl rfl (Nat.le_of_ble_eq_true rfl) (Nat.le_of_ble_eq_true rfl) (k_m_layHand (d := d + 4) hW hN) ?_
        rintro rv9 μ8 ⟨rfl, hq, hl⟩
        refine ZE.go hW 57 rfl (by and_intros <;> first | trivial | assumption | omega) ?_
        exact loop n.toNat 0 sd 0 μ8 _ _ (by omega) (by omega) (by omega) (by omega) hq hl rfl
      · refine ZE.go hW 9999 rfl (by and_intros <;> first | trivial | assumption | omega) ?_
        refine ZE.ri rfl rfl ?_
        rw [← hQ]
        exact ⟨fun q => absurd q (by omega), fun _ => ⟨rfl, rfl⟩⟩
end
