theorem tnS {i : Int} (h : 0 ≤ i) : (i + 1).toNat = i.toNat + 1 := by omega
def bF (c : Int → Int) (m : Int) (nx : Int → Int) (f : Int) : Nat → Int → Int → Int → Int × Int
  | 0, _, a, w => (a, w)
  | k + 1, i, a, w => if zand (zshr m i) 1 = 1 ∧ a < 10000 + c i + nx (zxor f (zshl 1 i)) then bF c m nx f k (i + 1) (10000 + c i + nx (zxor f (zshl 1 i))) i else bF c m nx f k (i + 1) a w
/-- the best for k renters from r on, with the free views f, and the first renter's view -/
def bB (nv : Nat) (c s : Int → Int) : Nat → Int → Int → Int × Int
  | 0, _, _ => (0, -1)
  | k + 1, r, f => bF c (zand (s r) f) (fun g => (bB nv c s k (r + 1) g).1) f nv 0 (bB nv c s k (r + 1) f).1 (-1)
def fx (f v : Int) : Int := if v = -1 then f else zxor f (zshl 1 v)
def bR (nv : Nat) (c s : Int → Int) : Nat → Int → Int → Int → Int
  | 0, _, _, _ => -1
  | k + 1, r, f, j => if j = r then (bB nv c s (k + 1) r f).2 else bR nv c s k (r + 1) (fx f (bB nv c s (k + 1) r f).2) j
/-- the next bit of m, of k from i on, or the end -/
def nvw (m : Int) : Nat → Int → Int
  | 0, i => i
  | k + 1, i => if zand (zshr m i) 1 = 1 then i else nvw m k (i + 1)
theorem nvw_rng (m : Int) : ∀ (k : Nat) (i : Int), i ≤ nvw m k i ∧ nvw m k i ≤ i + k ∧ (nvw m k i < i + k → zand (zshr m (nvw m k i)) 1 = 1)
  | 0, i => by
    show i ≤ i ∧ i ≤ i + ((0 : Nat) : Int) ∧ (i < i + ((0 : Nat) : Int) → _)
    exact ⟨by omega, by omega, fun h => absurd h (by omega)⟩
  | k + 1, i => by
    have ih := nvw_rng m k (i + 1)
    by_cases hb : zand (zshr m i) 1 = 1
    · have e : nvw m (k + 1) i = i := if_pos hb
      rw [e]
      exact ⟨by omega, by omega, fun _ => hb⟩
    · have e : nvw m (k + 1) i = nvw m k (i + 1) := if_neg hb
      rw [e]
      exact ⟨by omega, by omega, fun h => ih.2.2 (by omega)⟩
section
variable {c : Int → Int} {m : Int} {nx : Int → Int} {f : Int}
theorem bF_yes {k : Nat} {i a w : Int} (h : zand (zshr m i) 1 = 1 ∧ a < 10000 + c i + nx (zxor f (zshl 1 i))) : bF c m nx f (k + 1) i a w = bF c m nx f k (i + 1) (10000 + c i + nx (zxor f (zshl 1 i))) i := if_pos h
theorem bF_no {k : Nat} {i a w : Int} (h : ¬ (zand (zshr m i) 1 = 1 ∧ a < 10000 + c i + nx (zxor f (zshl 1 i)))) : bF c m nx f (k + 1) i a w = bF c m nx f k (i + 1) a w := if_neg h
theorem bF_end : ∀ (k : Nat) (i a w : Int), nvw m k i = i + k → bF c m nx f k i a w = (a, w)
  | 0, i, a, w, _ => rfl
  | k + 1, i, a, w, h => by
    by_cases hb : zand (zshr m i) 1 = 1
    · have e : nvw m (k + 1) i = i := if_pos hb
      omega
    · have e : nvw m (k + 1) i = nvw m k (i + 1) := if_neg hb
      rw [bF_no (fun q => hb q.1)]
      exact bF_end k (i + 1) a w (by omega)
theorem bF_to : ∀ (k : Nat) (i a w v : Int), nvw m k i = v → v < i + k → ∃ k' : Nat, v + k' + 1 = i + k ∧ bF c m nx f k i a w = if a < 10000 + c v + nx (zxor f (zshl 1 v)) then bF c m nx f k' (v + 1) (10000 + c v + nx (zxor f (zshl 1 v))) v else bF c m nx f k' (v + 1) a w
  | 0, i, a, w, v, h, h2 => by
    have : i = v := h
    omega
  | k + 1, i, a, w, v, h, h2 => by
    by_cases hb : zand (zshr m i) 1 = 1
    · have e : nvw m (k + 1) i = i := if_pos hb
      have e2 : v = i := by omega
      subst e2
      refine ⟨k, by omega, ?_⟩
      by_cases hc : a < 10000 + c v + nx (zxor f (zshl 1 v))
      · rw [if_pos hc, bF_yes ⟨hb, hc⟩]
      · rw [if_neg hc, bF_no (fun q => hc q.2)]
    · have e : nvw m (k + 1) i = nvw m k (i + 1) := if_neg hb
      obtain ⟨k', h3, h4⟩ := bF_to k (i + 1) a w v (by omega) (by omega)
      refine ⟨k', by omega, ?_⟩
      rw [bF_no (fun q => hb q.1), h4]
/-- the first greatest -/
theorem bF_arg : ∀ (k : Nat) (i a w : Int), bF c m nx f k i a w = (a, w) ∨
    (i ≤ (bF c m nx f k i a w).2 ∧ (bF c m nx f k i a w).2 < i + k ∧ zand (zshr m (bF c m nx f k i a w).2) 1 = 1 ∧ (bF c m nx f k i a w).1 = 10000 + c (bF c m nx f k i a w).2 + nx (zxor f (zshl 1 (bF c m nx f k i a w).2)) ∧ a < (bF c m nx f k i a w).1 ∧
      ∀ j : Int, i ≤ j → j < (bF c m nx f k i a w).2 → zand (zshr m j) 1 = 1 → 10000 + c j + nx (zxor f (zshl 1 j)) < (bF c m nx f k i a w).1)
  | 0, i, a, w => Or.inl rfl
  | k + 1, i, a, w => by
    by_cases hc : zand (zshr m i) 1 = 1 ∧ a < 10000 + c i + nx (zxor f (zshl 1 i))
    · rw [bF_yes hc]
      rcases bF_arg k (i + 1) (10000 + c i + nx (zxor f (zshl 1 i))) i with h | h
      · rw [h]
        exact Or.inr ⟨by show i ≤ i; omega, by show i < i + ((k + 1 : Nat) : Int); omega, hc.1, rfl, hc.2, fun j p q => absurd q (by show ¬ j < i; omega)⟩
      · obtain ⟨h1, h2, h3, h4, h5, h6⟩ := h
        refine Or.inr ⟨by omega, by omega, h3, h4, by omega, fun j p q hb => ?_⟩
        by_cases e : j = i
        · rw [e]; exact h5
        · exact h6 j (by omega) q hb
    · rw [bF_no hc]
      rcases bF_arg k (i + 1) a w with h | h
      · exact Or.inl h
      · obtain ⟨h1, h2, h3, h4, h5, h6⟩ := h
        refine Or.inr ⟨by omega, by omega, h3, h4, h5, fun j p q hb => ?_⟩
        by_cases e : j = i
        · have : ¬ a < 10000 + c i + nx (zxor f (zshl 1 i)) := fun q => hc ⟨by rw [← e]; exact hb, q⟩
          rw [e]; omega
        · exact h6 j (by omega) q hb
theorem bF_ge : ∀ (k : Nat) (i a w : Int), a ≤ (bF c m nx f k i a w).1
  | 0, i, a, w => Int.le_refl a
  | k + 1, i, a, w => by
    by_cases hc : zand (zshr m i) 1 = 1 ∧ a < 10000 + c i + nx (zxor f (zshl 1 i))
    · rw [bF_yes hc]
      have := bF_ge k (i + 1) (10000 + c i + nx (zxor f (zshl 1 i))) i
      omega
    · rw [bF_no hc]
      exact bF_ge k (i + 1) a w
theorem bF_all : ∀ (k : Nat) (i a w j : Int), i ≤ j → j < i + k → zand (zshr m j) 1 = 1 → 10000 + c j + nx (zxor f (zshl 1 j)) ≤ (bF c m nx f k i a w).1
  | 0, i, a, w, j, h1, h2, _ => by omega
  | k + 1, i, a, w, j, h1, h2, hb => by
    by_cases e : j = i
    · subst e
      by_cases hc : zand (zshr m j) 1 = 1 ∧ a < 10000 + c j + nx (zxor f (zshl 1 j))
      · rw [bF_yes hc]
        exact bF_ge k (j + 1) _ j
      · rw [bF_no hc]
        have : ¬ a < 10000 + c j + nx (zxor f (zshl 1 j)) := fun q => hc ⟨hb, q⟩
        have := bF_ge (c := c) (m := m) (nx := nx) (f := f) k (j + 1) a w
        omega
    · by_cases hc : zand (zshr m i) 1 = 1 ∧ a < 10000 + c i + nx (zxor f (zshl 1 i))
      · rw [bF_yes hc]
        exact bF_all k (i + 1) _ _ j (by omega) (by omega) hb
      · rw [bF_no hc]
        exact bF_all k (i + 1) _ _ j (by omega) (by omega) hb
end
/-- what is a bound of the best -/
theorem bB_le {nv : Nat} {c s : Int → Int} {k : Nat} {r f M : Int} : (bB nv c s (k + 1) r f).1 ≤ M ↔ (bB nv c s k (r + 1) f).1 ≤ M ∧ ∀ v : Int, 0 ≤ v → v < (nv : Int) → zand (zshr (zand (s r) f) v) 1 = 1 → 10000 + c v + (bB nv c s k (r + 1) (zxor f (zshl 1 v))).1 ≤ M := by
  show (bF c (zand (s r) f) (fun g => (bB nv c s k (r + 1) g).1) f nv 0 (bB nv c s k (r + 1) f).1 (-1)).1 ≤ M ↔ _
  constructor
  · intro h
    refine ⟨Int.le_trans (bF_ge _ _ _ _) h, fun v h0 h1 hb => Int.le_trans (bF_all nv 0 _ _ v h0 (by omega) hb) h⟩
  · intro ⟨h1, h2⟩
    rcases bF_arg (c := c) (m := zand (s r) f) (nx := fun g => (bB nv c s k (r + 1) g).1) (f := f) nv 0 (bB nv c s k (r + 1) f).1 (-1) with h | h
    · rw [h]; exact h1
    · rw [h.2.2.2.1]
      exact h2 _ h.1 (by omega) h.2.2.1
theorem bB_0 {nv : Nat} {c s : Int → Int} : ∀ (k : Nat) (r f : Int), 0 ≤ (bB nv c s k r f).1
  | 0, _, _ => Int.le_refl 0
  | k + 1, r, f => by
    have := bB_0 (nv := nv) (c := c) (s := s) k (r + 1) f
    have h := ((bB_le (nv := nv) (c := c) (s := s) (k := k) (r := r) (f := f)).mp (Int.le_refl _)).1
    omega
theorem bB_hi {nv : Nat} {c s : Int → Int} (hc : ∀ v : Int, 0 ≤ v → v < (nv : Int) → 0 ≤ c v ∧ c v < 200) : ∀ (k : Nat) (r f : Int), (bB nv c s k r f).1 ≤ 10200 * k
  | 0, _, _ => by show (0 : Int) ≤ 10200 * ((0 : Nat) : Int); omega
  | k + 1, r, f => by
    rw [bB_le]
    refine ⟨by have := bB_hi (s := s) hc k (r + 1) f; omega, fun v h0 h1 _ => ?_⟩
    have := bB_hi (s := s) hc k (r + 1) (zxor f (zshl 1 v))
    have := hc v h0 h1
    omega
theorem bF_cg {c c' : Int → Int} {m m' f : Int} {nx nx' : Int → Int} (hm : m = m') (hn : ∀ g, nx g = nx' g) : ∀ (k : Nat) (i a w : Int), (∀ v : Int, i ≤ v → v < i + k → c v = c' v) → bF c m nx f k i a w = bF c' m' nx' f k i a w
  | 0, _, _, _, _ => rfl
  | k + 1, i, a, w, h => by
    subst hm
    have e := h i (by omega) (by omega)
    have ih := fun a w => bF_cg (m := m) (f := f) rfl hn k (i + 1) a w (fun v p q => h v (by omega) (by omega))
    show (if _ then _ else _) = (if _ then _ else _)
    rw [e, hn, ih, ih]
theorem bB_cg {nv : Nat} {c c' s s' : Int → Int} (hc : ∀ v : Int, 0 ≤ v → v < (nv : Int) → c v = c' v) : ∀ (k : Nat) (r f : Int), (∀ j : Int, r ≤ j → j < r + k → s j = s' j) → bB nv c s k r f = bB nv c' s' k r f
  | 0, _, _, _ => rfl
  | k + 1, r, f, h => by
    have ih := fun g => bB_cg hc k (r + 1) g (fun j p q => h j (by omega) (by omega))
    show bF _ _ _ _ _ _ _ _ = bF _ _ _ _ _ _ _ _
    rw [ih f]
    exact bF_cg (by rw [h r (by omega) (by omega)]) (fun g => by rw [ih g]) nv 0 _ _ (fun v p q => hc v p (by omega))
theorem bR_cg {nv : Nat} {c c' s s' : Int → Int} (hc : ∀ v : Int, 0 ≤ v → v < (nv : Int) → c v = c' v) : ∀ (k : Nat) (r f j : Int), (∀ j : Int, r ≤ j → j < r + k → s j = s' j) → bR nv c s k r f j = bR nv c' s' k r f j
  | 0, _, _, _, _ => rfl
  | k + 1, r, f, j, h => by
    have ih := fun g => bR_cg hc k (r + 1) g j (fun j p q => h j (by omega) (by omega))
    show (if _ then _ else _) = (if _ then _ else _)
    rw [bB_cg hc (k + 1) r f h, ih]
/-- a better one takes the place -/
def ub (bs x : Int) (w0 w1 : Int → Int) : Int × (Int → Int) := if bs < x then (x, w1) else (bs, w0)
theorem ub_ub {bs S a x : Int} {w0 wa wx : Int → Int} : ub (ub bs (S + a) w0 wa).1 (S + x) (ub bs (S + a) w0 wa).2 wx = if a < x then ub bs (S + x) w0 wx else ub bs (S + a) w0 wa := by
  unfold ub
  by_cases h1 : bs < S + a
  · rw [if_pos h1]
    by_cases h2 : a < x
    · rw [if_pos (show S + a < S + x by omega), if_pos h2, if_pos (by omega)]
    · rw [if_neg (show ¬ S + a < S + x by omega), if_neg h2]
  · rw [if_neg h1]
    by_cases h2 : a < x
    · rw [if_pos h2]
    · rw [if_neg h2, if_neg (by show ¬ bs < S + x; omega)]
def pM (row : Int → Int) : Nat → Int
  | 0 => 0
  | k + 1 => pM row k + (if row (k : Int) = -1 then 0 else 1)
def pC (c row : Int → Int) : Nat → Int
  | 0 => 0
  | k + 1 => pC c row k + (if row (k : Int) = -1 then 0 else c (row (k : Int)))
def pF (nv : Int) (row : Int → Int) : Nat → Int
  | 0 => zshl 1 nv - 1
  | k + 1 => if row (k : Int) = -1 then pF nv row k else zand (pF nv row k) (zxor (zshl 1 (row (k : Int))) (-1))
theorem pM_s {row : Int → Int} {i : Int} (h : 0 ≤ i) : pM row (i + 1).toNat = pM row i.toNat + (if row i = -1 then 0 else 1) := by
  rw [tnS h]
  show pM row i.toNat + (if row (i.toNat : Int) = -1 then 0 else 1) = _
  rw [Int.toNat_of_nonneg h]
theorem pC_s {c row : Int → Int} {i : Int} (h : 0 ≤ i) : pC c row (i + 1).toNat = pC c row i.toNat + (if row i = -1 then 0 else c (row i)) := by
  rw [tnS h]
  show pC c row i.toNat + (if row (i.toNat : Int) = -1 then 0 else c (row (i.toNat : Int))) = _
  rw [Int.toNat_of_nonneg h]
theorem pF_s {nv : Int} {row : Int → Int} {i : Int} (h : 0 ≤ i) : pF nv row (i + 1).toNat = if row i = -1 then pF nv row i.toNat else zand (pF nv row i.toNat) (zxor (zshl 1 (row i)) (-1)) := by
  rw [tnS h]
  show (if row (i.toNat : Int) = -1 then pF nv row i.toNat else zand (pF nv row i.toNat) (zxor (zshl 1 (row (i.toNat : Int))) (-1))) = _
  rw [Int.toNat_of_nonneg h]
theorem pF_rng {nv : Int} {row : Int → Int} (hn : 0 ≤ nv ∧ nv ≤ 6) : ∀ (k : Nat), (∀ i : Int, 0 ≤ i → i < k → row i = -1 ∨ 0 ≤ row i ∧ row i < 6) → 0 ≤ pF nv row k ∧ pF nv row k < 64
  | 0, _ => (bt_all hn).1
  | k + 1, h => by
    have ih := pF_rng hn k (fun i p q => h i p (by omega))
    have h1 := h (k : Int) (by omega) (by omega)
    show 0 ≤ (if row (k : Int) = -1 then pF nv row k else zand (pF nv row k) (zxor (zshl 1 (row (k : Int))) (-1))) ∧ (if row (k : Int) = -1 then pF nv row k else zand (pF nv row k) (zxor (zshl 1 (row (k : Int))) (-1))) < 64
    split
    · exact ih
    · exact (bt_clr ih (by omega)).1
theorem pM_rng {row : Int → Int} : ∀ (k : Nat), 0 ≤ pM row k ∧ pM row k ≤ k
  | 0 => by show (0 : Int) ≤ 0 ∧ (0 : Int) ≤ ((0 : Nat) : Int); omega
  | k + 1 => by
    have ih := pM_rng (row := row) k
    show 0 ≤ pM row k + (if row (k : Int) = -1 then 0 else 1) ∧ pM row k + (if row (k : Int) = -1 then 0 else 1) ≤ ((k + 1 : Nat) : Int)
    split <;> omega
theorem pC_rng {nv : Int} {c row : Int → Int} (hc : ∀ v : Int, 0 ≤ v → v < (nv : Int) → 0 ≤ c v ∧ c v < 200) : ∀ (k : Nat), (∀ i : Int, 0 ≤ i → i < k → row i = -1 ∨ 0 ≤ row i ∧ row i < nv) → 0 ≤ pC c row k ∧ pC c row k ≤ 200 * k
  | 0, _ => by show (0 : Int) ≤ 0 ∧ (0 : Int) ≤ 200 * ((0 : Nat) : Int); omega
  | k + 1, h => by
    have ih := pC_rng hc k (fun i p q => h i p (by omega))
    have h1 := h (k : Int) (by omega) (by omega)
    show 0 ≤ pC c row k + (if row (k : Int) = -1 then 0 else c (row (k : Int))) ∧ pC c row k + (if row (k : Int) = -1 then 0 else c (row (k : Int))) ≤ 200 * ((k + 1 : Nat) : Int)
    split
    · omega
    · have := hc (row (k : Int)) (by omega) (by omega)
      omega
theorem pM_cg {row row' : Int → Int} : ∀ (k : Nat), (∀ i : Int, 0 ≤ i → i < k → row i = row' i) → pM row k = pM row' k
  | 0, _ => rfl
  | k + 1, h => by
    show pM row k + (if row (k : Int) = -1 then 0 else 1) = pM row' k + (if row' (k : Int) = -1 then 0 else 1)
    rw [pM_cg k (fun i p q => h i p (by omega)), h (k : Int) (by omega) (by omega)]
theorem pC_cg {c row row' : Int → Int} : ∀ (k : Nat), (∀ i : Int, 0 ≤ i → i < k → row i = row' i) → pC c row k = pC c row' k
  | 0, _ => rfl
  | k + 1, h => by
    show pC c row k + (if row (k : Int) = -1 then 0 else c (row (k : Int))) = pC c row' k + (if row' (k : Int) = -1 then 0 else c (row' (k : Int)))
    rw [pC_cg k (fun i p q => h i p (by omega)), h (k : Int) (by omega) (by omega)]
theorem pF_cg {nv : Int} {row row' : Int → Int} : ∀ (k : Nat), (∀ i : Int, 0 ≤ i → i < k → row i = row' i) → pF nv row k = pF nv row' k
  | 0, _ => rfl
  | k + 1, h => by
    show (if row (k : Int) = -1 then pF nv row k else zand (pF nv row k) (zxor (zshl 1 (row (k : Int))) (-1))) = (if row' (k : Int) = -1 then pF nv row' k else zand (pF nv row' k) (zxor (zshl 1 (row' (k : Int))) (-1)))
    rw [pF_cg k (fun i p q => h i p (by omega)), h (k : Int) (by omega) (by omega)]
theorem clr_xor {f v : Int} (hf : 0 ≤ f ∧ f < 64) (hv : 0 ≤ v ∧ v < 6) (h : bt f v) : zand f (zxor (zshl 1 v) (-1)) = zxor f (zshl 1 v) := by
  have h1 := bt_clr hf hv
  have h2 := bt_xor hf hv h
  refine bt_ext h1.1 h2.1 (fun w a b => ?_)
  rw [h1.2 w a b, h2.2.1 w a b]
def SM (m nv : Int) (P : Int → Prop) : Prop := (0 ≤ m ∧ m < 64) ∧ ∀ v : Int, 0 ≤ v → v < 6 → (bt m v ↔ v < nv ∧ P v)
theorem SM_nil {P : Int → Prop} : SM 0 0 P := by
  refine ⟨by omega, fun v a b => ?_⟩
  constructor
  · intro h; exact absurd h (bt_zero ⟨a, b⟩)
  · intro h; omega
theorem SM_add {m j : Int} {P : Int → Prop} (h : SM m j P) (hj : 0 ≤ j ∧ j < 6) (hP : P j) : SM (zor m (zshl 1 j)) (j + 1) P := by
  have h1 := bt_or h.1 hj
  refine ⟨h1.1, fun v a b => ?_⟩
  rw [h1.2 v a b, h.2 v a b]
  constructor
  · rintro (⟨x, y⟩ | rfl)
    · exact ⟨by omega, y⟩
    · exact ⟨by omega, hP⟩
  · rintro ⟨x, y⟩
    by_cases e : v = j
    · exact Or.inr e
    · exact Or.inl ⟨by omega, y⟩
theorem SM_skip {m j : Int} {P : Int → Prop} (h : SM m j P) (hP : ¬ P j) : SM m (j + 1) P := by
  refine ⟨h.1, fun v a b => ?_⟩
  rw [h.2 v a b]
  constructor
  · rintro ⟨x, y⟩
    exact ⟨by omega, y⟩
  · rintro ⟨x, y⟩
    by_cases e : v = j
    · exact absurd (e ▸ y) hP
    · exact ⟨by omega, y⟩
theorem SM_ext {m m' n : Int} {P P' : Int → Prop} (h : SM m n P) (h' : SM m' n P') (e : ∀ v : Int, 0 ≤ v → v < n → (P v ↔ P' v)) : m = m' := by
  refine bt_ext h.1 h'.1 (fun w a b => ?_)
  rw [h.2 w a b, h'.2 w a b]
  constructor
  · rintro ⟨x, y⟩; exact ⟨x, (e w a x).mp y⟩
  · rintro ⟨x, y⟩; exact ⟨x, (e w a x).mpr y⟩
