/-! The kinds. -/
def sShow (k w e : Nat) : Nat := match k with
  | 1 => (w + 2 * e) % 6
  | 2 => if (w + e) % 6 = 1 then 0 else (w + e) % 6
  | 3 => w
  | 5 => if e % 2 = 1 then 5 else w
  | _ => (w + e) % 6
def sFee (k p : Nat) : Nat := match k with
  | 2 => 2 * p
  | 3 => p + 10
  | 4 => p / 2
  | _ => p
def sFits (k size wall : Nat) : Bool := decide (k = 4) || decide (size ≤ wall)
/-- the tag of a kind's object -/
def sKt (k : Nat) : Nat := [7, 10, 3, 6, 1, 4].getD k 0
theorem nI_xor {a b : Nat} (ha : a < 2 ^ 31) (hb : b < 2 ^ 31) : ¬ (nI a ^^^ nI b) < 0 := by
  have e : nI a ^^^ nI b = nI (a ^^^ b) := by
    apply Int32.toBitVec_inj.mp
    rw [Int32.toBitVec_xor]
    apply BitVec.eq_of_toNat_eq
    rw [BitVec.toNat_xor, pk_tn (by omega), pk_tn (by omega), pk_tn (Nat.xor_lt_two_pow (by omega) (by omega))]
  rw [e]
  exact nI_pos (Nat.xor_lt_two_pow ha hb)
theorem c_floorMod {ext : List xC} {d : Nat} {h : xH} {n m : Nat} (hn : n < 2 ^ 31) (hm : 0 < m) (hm2 : m < 2 ^ 31) : EvM ext d n_J9_floorMod_7cf53 [.int (nI n), .int (nI m)] h (some (.int (nI (n % m)))) h := by
  have hne : ¬ nI m = 0 := nI_ne0 hm hm2
  refine Ev.s rfl rfl ?_
  refine Ev.s rfl rfl ?_
  refine Ev.s rfl (w := (3, _, [.int (nI n - nI n / nI m * nI m)], h)) (if_neg hne) ?_
  rw [pk_rem hn hm hm2]
  refine Ev.go 4 rfl ?_
  refine Ev.if0 rfl (fun hc => ?_) (fun hc => ?_)
  · refine Ev.s rfl rfl ?_
    exact Ev.r rfl rfl
  · have h9 : ¬ (0 : Int32) ≤ nI n ^^^ nI m := by simpa [xcmp] using hc
    exact absurd (Int32.not_lt.mp (nI_xor hn hm2)) h9
theorem c_Lake_showing {ext : List xC} {d a : Nat} {h : xH} {w e : Nat} (hw : w < 6) (he : e < 1000) : EvM ext (d + 1) n_X7_showing [.ref a, .int (nI w), .int (nI e)] h (some (.int (nI ((w + e) % 6)))) h := by
  refine Ev.go 4 rfl ?_
  show Ev ext (d + 1) n_X7_showing _ _ [.int 6, .int (nI w + nI e)] h _ _
  rw [nI_add]
  refine Ev.t rfl rfl (Nat.le_of_ble_eq_true rfl) (Nat.le_of_ble_eq_true rfl) (c_floorMod (n := w + e) (m := 6) (by omega) (by omega) (by omega)) ?_
  exact Ev.r rfl rfl
theorem c_Street_showing {ext : List xC} {d a : Nat} {h : xH} {w e : Nat} (hw : w < 6) (he : e < 1000) : EvM ext (d + 1) n_X10_showing [.ref a, .int (nI w), .int (nI e)] h (some (.int (nI ((w + 2 * e) % 6)))) h := by
  refine Ev.go 6 rfl ?_
  show Ev ext (d + 1) n_X10_showing _ _ [.int 6, .int (nI w + nI 2 * nI e)] h _ _
  rw [pk_mul, nI_add]
  refine Ev.t rfl rfl (Nat.le_of_ble_eq_true rfl) (Nat.le_of_ble_eq_true rfl) (c_floorMod (n := w + 2 * e) (m := 6) (by omega) (by omega) (by omega)) ?_
  exact Ev.r rfl rfl
theorem c_Fire_showing {ext : List xC} {d a : Nat} {σ : List xSp} {μ : xMem} {w e : Nat} (hσ : σ[a]? = some (3, [])) (hw : w < 6) (he : e < 1000) : EvM ext (d + 2) n_X3_showing [.ref a, .int (nI w), .int (nI e)] (hp σ μ) (some (.int (nI (if (w + e) % 6 = 1 then 0 else (w + e) % 6)))) (hp σ μ) := by
  refine Ev.go 3 rfl ?_
  refine Ev.u rfl rfl hσ rfl (Nat.le_of_ble_eq_true rfl) (Nat.le_of_ble_eq_true rfl) (c_Lake_showing hw he) ?_
  refine Ev.go 3 rfl ?_
  refine Ev.n2 ((w + e) % 6) 1 rfl rfl rfl (by omega) (by omega) (fun hc => ?_) (fun hc => ?_)
  · rw [if_neg hc]
    refine Ev.s rfl rfl ?_
    exact Ev.r rfl rfl
  · have hc : (w + e) % 6 = 1 := Decidable.not_not.mp hc
    rw [if_pos hc]
    refine Ev.go 2 rfl ?_
    exact Ev.r rfl rfl
theorem c_Kitchen_showing {ext : List xC} {d a : Nat} {h : xH} {w e : Int32} : EvM ext d n_X6_showing [.ref a, .int w, .int e] h (some (.int w)) h := by
  refine Ev.s rfl rfl ?_
  exact Ev.r rfl rfl
theorem nI_and1 (e : Nat) (he : e < 2 ^ 31) : nI e &&& 1 = nI (e % 2) := by
  have := pk_andN (n := e) (by omega) (m := 1) 1 (by decide)
  exact this
theorem c_Fogged_showing {ext : List xC} {d a : Nat} {σ : List xSp} {μ : xMem} {w e : Nat} (hσ : σ[a]? = some (4, [])) (he : e < 1000) : EvM ext (d + 1) n_X4_showing [.ref a, .int (nI w), .int (nI e)] (hp σ μ) (some (.int (nI (if e % 2 = 1 then 5 else w)))) (hp σ μ) := by
  refine Ev.go 4 rfl ?_
  refine Ev.n2 (e % 2) 1 rfl (nI_and1 e (by omega)) rfl (by omega) (by omega) (fun hc => ?_) (fun hc => ?_)
  · rw [if_neg hc]
    refine Ev.go 3 rfl ?_
    refine Ev.u rfl rfl hσ rfl (Nat.le_of_ble_eq_true rfl) (Nat.le_of_ble_eq_true rfl) c_Kitchen_showing ?_
    exact Ev.r rfl rfl
  · have hc : e % 2 = 1 := Decidable.not_not.mp hc
    rw [if_pos hc]
    refine Ev.go 2 rfl ?_
    exact Ev.r rfl rfl
theorem c_Lake_fee {ext : List xC} {d a : Nat} {h : xH} {p : Int32} : EvM ext d n_X7_fee [.ref a, .int p] h (some (.int p)) h := by
  refine Ev.s rfl rfl ?_
  exact Ev.r rfl rfl
theorem c_Fogged_fee {ext : List xC} {d a : Nat} {h : xH} {p : Int32} : EvM ext d n_X4_fee [.ref a, .int p] h (some (.int p)) h := by
  refine Ev.s rfl rfl ?_
  exact Ev.r rfl rfl
theorem c_Fire_fee {ext : List xC} {d a p : Nat} {σ : List xSp} {μ : xMem} (hσ : σ[a]? = some (3, [])) : EvM ext (d + 1) n_X3_fee [.ref a, .int (nI p)] (hp σ μ) (some (.int (nI (2 * p)))) (hp σ μ) := by
  refine Ev.go 3 rfl ?_
  refine Ev.u rfl rfl hσ rfl (Nat.le_of_ble_eq_true rfl) (Nat.le_of_ble_eq_true rfl) c_Lake_fee ?_
  refine Ev.s rfl rfl ?_
  rw [← pk_mul]
  exact Ev.r rfl rfl
theorem c_Kitchen_fee {ext : List xC} {d a p : Nat} {σ : List xSp} {μ : xMem} (hσ : σ[a]? = some (6, [])) : EvM ext (d + 1) n_X6_fee [.ref a, .int (nI p)] (hp σ μ) (some (.int (nI (p + 10)))) (hp σ μ) := by
  refine Ev.go 2 rfl ?_
  refine Ev.u rfl rfl hσ rfl (Nat.le_of_ble_eq_true rfl) (Nat.le_of_ble_eq_true rfl) c_Lake_fee ?_
  refine Ev.go 2 rfl ?_
  rw [← nI_add]
  exact Ev.r rfl rfl
theorem c_Bricks_fee {ext : List xC} {d a p : Nat} {σ : List xSp} {μ : xMem} (hσ : σ[a]? = some (1, [])) (hp9 : p < 2 ^ 31) : EvM ext (d + 1) n_X1_fee [.ref a, .int (nI p)] (hp σ μ) (some (.int (nI (p / 2)))) (hp σ μ) := by
  refine Ev.go 2 rfl ?_
  refine Ev.u rfl rfl hσ rfl (Nat.le_of_ble_eq_true rfl) (Nat.le_of_ble_eq_true rfl) c_Lake_fee ?_
  refine Ev.go 2 rfl ?_
  rw [← pk_div hp9 (by omega) (by omega)]
  exact Ev.r rfl rfl
theorem c_Bricks_fits {ext : List xC} {d a : Nat} {h : xH} {x y : Int32} : EvM ext d n_X1_fits [.ref a, .int x, .int y] h (some (.int 1)) h := by
  refine Ev.s rfl rfl ?_
  exact Ev.r rfl rfl
theorem c_Lake_fits {ext : List xC} {d a x y : Nat} {h : xH} (hx : x < 2 ^ 31) (hy : y < 2 ^ 31) : EvM ext d n_X7_fits [.ref a, .int (nI x), .int (nI y)] h (some (.int (bI (decide (x ≤ y))))) h := by
  refine Ev.go 2 rfl ?_
  refine Ev.n2 x y rfl rfl rfl hx hy (fun hc => ?_) (fun hc => ?_)
  · have hc : ¬ x ≤ y := Nat.not_le.mpr hc
    rw [decide_eq_false hc]
    refine Ev.s rfl rfl ?_
    exact Ev.r rfl rfl
  · have hc : x ≤ y := Nat.not_lt.mp hc
    rw [decide_eq_true hc]
    refine Ev.go 2 rfl ?_
    exact Ev.r rfl rfl
/-- the six kinds' objects, at 2 .. 7 -/
def kS (σ : List xSp) : Prop := ∀ k, k < 6 → σ[2 + k]? = some (sKt k, [])
theorem c_kind_showing {ext : List xC} {d k : Nat} {σ : List xSp} {μ : xMem} {w e : Nat} (hσ : kS σ) (hk : k < 6) (hw : w < 6) (he : e < 1000) :
    ∃ mj, xpairs [1, n_X7_showing, 3, n_X3_showing, 4, n_X4_showing, 6, n_X6_showing, 7, n_X7_showing, 10, n_X10_showing] (sKt k) = some mj ∧ xmax mj = xmax mj ∧ (mj = n_X7_showing ∨ mj = n_X3_showing ∨ mj = n_X4_showing ∨ mj = n_X6_showing ∨ mj = n_X10_showing) ∧ EvM ext (d + 2) mj [.ref (2 + k), .int (nI w), .int (nI e)] (hp σ μ) (some (.int (nI (sShow k w e)))) (hp σ μ) := by
  have : k = 0 ∨ k = 1 ∨ k = 2 ∨ k = 3 ∨ k = 4 ∨ k = 5 := by omega
  rcases this with rfl | rfl | rfl | rfl | rfl | rfl
  · exact ⟨_, rfl, rfl, by decide, c_Lake_showing (d := d + 1) hw he⟩
  · exact ⟨_, rfl, rfl, by decide, c_Street_showing (d := d + 1) hw he⟩
  · exact ⟨_, rfl, rfl, by decide, c_Fire_showing (hσ 2 (by omega)) hw he⟩
  · exact ⟨_, rfl, rfl, by decide, c_Kitchen_showing⟩
  · exact ⟨_, rfl, rfl, by decide, c_Lake_showing (d := d + 1) hw he⟩
  · exact ⟨_, rfl, rfl, by decide, c_Fogged_showing (d := d + 1) (hσ 5 (by omega)) he⟩
