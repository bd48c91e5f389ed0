/-! Bits of small sets. -/
def bt (m v : Int) : Prop := zand (zshr m v) 1 = 1
theorem toN {m n : Int} (h : 0 ≤ m) (h2 : m < n) : ∃ k : Nat, m = (k : Int) ∧ (k : Int) < n := ⟨m.toNat, by omega, by omega⟩
theorem bt01 {m v : Int} (hm : 0 ≤ m ∧ m < 256) (hv : 0 ≤ v ∧ v < 8) : zand (zshr m v) 1 = 0 ∨ zand (zshr m v) 1 = 1 := by
  have key : ∀ m, m < 256 → ∀ v, v < 8 → zand (zshr ((m : Nat) : Int) ((v : Nat) : Int)) 1 = 0 ∨ zand (zshr ((m : Nat) : Int) ((v : Nat) : Int)) 1 = 1 := by decide +kernel
  obtain ⟨a, rfl, ha⟩ := toN hm.1 hm.2
  obtain ⟨b, rfl, hb⟩ := toN hv.1 hv.2
  exact key a (by omega) b (by omega)
theorem bt_rng {m v : Int} (hm : 0 ≤ m ∧ m < 256) (hv : 0 ≤ v ∧ v < 8) : zrng (zand (zshr m v) 1) := by
  rcases bt01 hm hv with h | h <;> rw [h] <;> omega
theorem bt_shl {v : Int} (hv : 0 ≤ v ∧ v < 8) : 1 ≤ zshl 1 v ∧ zshl 1 v ≤ 128 := by
  have key : ∀ v, v < 8 → 1 ≤ zshl 1 ((v : Nat) : Int) ∧ zshl 1 ((v : Nat) : Int) ≤ 128 := by decide +kernel
  obtain ⟨b, rfl, hb⟩ := toN hv.1 hv.2
  exact key b (by omega)
theorem bt_and {a b : Int} (ha : 0 ≤ a ∧ a < 64) (hb : 0 ≤ b ∧ b < 64) : (0 ≤ zand a b ∧ zand a b < 64) ∧ ∀ v, 0 ≤ v → v < 6 → (bt (zand a b) v ↔ bt a v ∧ bt b v) := by
  have key : ∀ a, a < 64 → ∀ b, b < 64 → (0 ≤ zand ((a : Nat) : Int) ((b : Nat) : Int) ∧ zand ((a : Nat) : Int) ((b : Nat) : Int) < 64) ∧ ∀ v, v < 6 → (zand (zshr (zand ((a : Nat) : Int) ((b : Nat) : Int)) ((v : Nat) : Int)) 1 = 1 ↔ zand (zshr ((a : Nat) : Int) ((v : Nat) : Int)) 1 = 1 ∧ zand (zshr ((b : Nat) : Int) ((v : Nat) : Int)) 1 = 1) := by decide +kernel
  obtain ⟨x, rfl, hx⟩ := toN ha.1 ha.2
  obtain ⟨y, rfl, hy⟩ := toN hb.1 hb.2
  have k := key x (by omega) y (by omega)
  refine ⟨k.1, ?_⟩
  intro v h0 h1
  obtain ⟨z, rfl, hz⟩ := toN h0 h1
  exact k.2 z (by omega)
theorem bt_or {a v : Int} (ha : 0 ≤ a ∧ a < 64) (hv : 0 ≤ v ∧ v < 6) : (0 ≤ zor a (zshl 1 v) ∧ zor a (zshl 1 v) < 64) ∧ ∀ w, 0 ≤ w → w < 6 → (bt (zor a (zshl 1 v)) w ↔ bt a w ∨ w = v) := by
  have key : ∀ a, a < 64 → ∀ b, b < 6 → (0 ≤ zor ((a : Nat) : Int) (zshl 1 ((b : Nat) : Int)) ∧ zor ((a : Nat) : Int) (zshl 1 ((b : Nat) : Int)) < 64) ∧ ∀ v, v < 6 → (zand (zshr (zor ((a : Nat) : Int) (zshl 1 ((b : Nat) : Int))) ((v : Nat) : Int)) 1 = 1 ↔ zand (zshr ((a : Nat) : Int) ((v : Nat) : Int)) 1 = 1 ∨ v = b) := by decide +kernel
  obtain ⟨x, rfl, hx⟩ := toN ha.1 ha.2
  obtain ⟨y, rfl, hy⟩ := toN hv.1 hv.2
  have k := key x (by omega) y (by omega)
  refine ⟨k.1, ?_⟩
  intro v h0 h1
  obtain ⟨z, rfl, hz⟩ := toN h0 h1
  have := k.2 z (by omega)
  unfold bt
  rw [this]
  omega
theorem bt_or0 {a : Int} (ha : 0 ≤ a ∧ a < 64) : zor a 0 = a := by
  have key : ∀ a, a < 64 → zor ((a : Nat) : Int) 0 = ((a : Nat) : Int) := by decide +kernel
  obtain ⟨x, rfl, hx⟩ := toN ha.1 ha.2
  exact key x (by omega)
theorem bt_xor {a v : Int} (ha : 0 ≤ a ∧ a < 64) (hv : 0 ≤ v ∧ v < 6) (h : bt a v) : (0 ≤ zxor a (zshl 1 v) ∧ zxor a (zshl 1 v) < 64) ∧ (∀ w, 0 ≤ w → w < 6 → (bt (zxor a (zshl 1 v)) w ↔ bt a w ∧ w ≠ v)) ∧ zxor a (zshl 1 v) < a := by
  have key1 : ∀ a, a < 64 → ∀ b, b < 6 → zand (zshr ((a : Nat) : Int) ((b : Nat) : Int)) 1 = 1 → (0 ≤ zxor ((a : Nat) : Int) (zshl 1 ((b : Nat) : Int)) ∧ zxor ((a : Nat) : Int) (zshl 1 ((b : Nat) : Int)) < ((a : Nat) : Int)) := by decide +kernel
  have key2 : ∀ a, a < 64 → ∀ b, b < 6 → ∀ v, v < 6 → (¬ zand (zshr ((a : Nat) : Int) ((b : Nat) : Int)) 1 = 1) ∨ (zand (zshr (zxor ((a : Nat) : Int) (zshl 1 ((b : Nat) : Int))) ((v : Nat) : Int)) 1 = 1 ↔ zand (zshr ((a : Nat) : Int) ((v : Nat) : Int)) 1 = 1 ∧ ¬ v = b) := by decide +kernel
  obtain ⟨x, rfl, hx⟩ := toN ha.1 ha.2
  obtain ⟨y, rfl, hy⟩ := toN hv.1 hv.2
  have k1 := key1 x (by omega) y (by omega) h
  refine ⟨by omega, ?_, k1.2⟩
  intro v h0 h1
  obtain ⟨z, rfl, hz⟩ := toN h0 h1
  have := (key2 x (by omega) y (by omega) z (by omega)).resolve_left (fun q => q h)
  unfold bt
  rw [this]
  omega
theorem bt_clr {a v : Int} (ha : 0 ≤ a ∧ a < 64) (hv : 0 ≤ v ∧ v < 6) : (0 ≤ zand a (zxor (zshl 1 v) (-1)) ∧ zand a (zxor (zshl 1 v) (-1)) < 64) ∧ ∀ w, 0 ≤ w → w < 6 → (bt (zand a (zxor (zshl 1 v) (-1))) w ↔ bt a w ∧ w ≠ v) := by
  have key : ∀ a, a < 64 → ∀ b, b < 6 → (0 ≤ zand ((a : Nat) : Int) (zxor (zshl 1 ((b : Nat) : Int)) (-1)) ∧ zand ((a : Nat) : Int) (zxor (zshl 1 ((b : Nat) : Int)) (-1)) < 64) ∧ (∀ v, v < 6 → (zand (zshr (zand ((a : Nat) : Int) (zxor (zshl 1 ((b : Nat) : Int)) (-1))) ((v : Nat) : Int)) 1 = 1 ↔ zand (zshr ((a : Nat) : Int) ((v : Nat) : Int)) 1 = 1 ∧ v ≠ b)) := by decide +kernel
  obtain ⟨x, rfl, hx⟩ := toN ha.1 ha.2
  obtain ⟨y, rfl, hy⟩ := toN hv.1 hv.2
  have k := key x (by omega) y (by omega)
  refine ⟨k.1, ?_⟩
  intro v h0 h1
  obtain ⟨z, rfl, hz⟩ := toN h0 h1
  have := k.2 z (by omega)
  unfold bt
  rw [this]
  omega
theorem bt_andm {a : Int} (ha : 0 ≤ a ∧ a < 64) : zand a (-1) = a := by
  have key : ∀ a, a < 64 → zand ((a : Nat) : Int) (-1) = ((a : Nat) : Int) := by decide +kernel
  obtain ⟨x, rfl, hx⟩ := toN ha.1 ha.2
  exact key x (by omega)
theorem bt_all {n : Int} (hn : 0 ≤ n ∧ n ≤ 6) : (0 ≤ zshl 1 n - 1 ∧ zshl 1 n - 1 < 64) ∧ (∀ w, 0 ≤ w → w < 6 → (bt (zshl 1 n - 1) w ↔ w < n)) ∧ zrng (zshl 1 n) := by
  have key : ∀ n, n < 7 → (0 ≤ zshl 1 ((n : Nat) : Int) - 1 ∧ zshl 1 ((n : Nat) : Int) - 1 < 64) ∧ (∀ w, w < 6 → (zand (zshr (zshl 1 ((n : Nat) : Int) - 1) ((w : Nat) : Int)) 1 = 1 ↔ w < n)) := by decide +kernel
  obtain ⟨x, rfl, hx⟩ := toN hn.1 (show n < 7 by omega)
  have k := key x (by omega)
  refine ⟨k.1, ?_, by omega⟩
  intro v h0 h1
  obtain ⟨z, rfl, hz⟩ := toN h0 h1
  have := k.2 z (by omega)
  unfold bt
  rw [this]
  omega
theorem bt_ext {a b : Int} (ha : 0 ≤ a ∧ a < 64) (hb : 0 ≤ b ∧ b < 64) (h : ∀ w, 0 ≤ w → w < 6 → (bt a w ↔ bt b w)) : a = b := by
  have key : ∀ a, a < 64 → ∀ b, b < 64 → (∀ v, v < 6 → (zand (zshr ((a : Nat) : Int) ((v : Nat) : Int)) 1 = 1 ↔ zand (zshr ((b : Nat) : Int) ((v : Nat) : Int)) 1 = 1)) → a = b := by decide +kernel
  obtain ⟨x, rfl, hx⟩ := toN ha.1 ha.2
  obtain ⟨y, rfl, hy⟩ := toN hb.1 hb.2
  rw [key x (by omega) y (by omega) (fun v hv => h v (by omega) (by omega))]
theorem bt_zero {v : Int} (hv : 0 ≤ v ∧ v < 6) : ¬ bt 0 v := by
  have key : ∀ v, v < 6 → ¬ zand (zshr 0 ((v : Nat) : Int)) 1 = 1 := by decide +kernel
  obtain ⟨x, rfl, hx⟩ := toN hv.1 hv.2
  exact key x (by omega)
/-- free & suit & 1 << v -/
theorem bt_test {a v : Int} (ha : 0 ≤ a ∧ a < 64) (hv : 0 ≤ v ∧ v < 6) : zrng (zand a (zshl 1 v)) ∧ (zand a (zshl 1 v) ≠ 0 ↔ bt a v) := by
  have key : ∀ a, a < 64 → ∀ b, b < 6 → (0 ≤ zand ((a : Nat) : Int) (zshl 1 ((b : Nat) : Int)) ∧ zand ((a : Nat) : Int) (zshl 1 ((b : Nat) : Int)) < 64) ∧ (zand ((a : Nat) : Int) (zshl 1 ((b : Nat) : Int)) ≠ 0 ↔ zand (zshr ((a : Nat) : Int) ((b : Nat) : Int)) 1 = 1) := by decide +kernel
  obtain ⟨x, rfl, hx⟩ := toN ha.1 ha.2
  obtain ⟨y, rfl, hy⟩ := toN hv.1 hv.2
  have k := key x (by omega) y (by omega)
  exact ⟨by have := k.1; omega, k.2⟩
