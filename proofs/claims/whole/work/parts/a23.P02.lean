noncomputable def mkm (P : Int → Prop) : Nat → Int
  | 0 => 0
  | k + 1 => by
    classical
    exact if P (k : Int) then zor (mkm P k) (zshl 1 (k : Int)) else mkm P k
theorem mkm_t {P : Int → Prop} {k : Nat} (h : P (k : Int)) : mkm P (k + 1) = zor (mkm P k) (zshl 1 (k : Int)) := by
  conv => lhs; unfold mkm
  exact if_pos h
theorem mkm_f {P : Int → Prop} {k : Nat} (h : ¬ P (k : Int)) : mkm P (k + 1) = mkm P k := by
  conv => lhs; unfold mkm
  exact if_neg h
theorem mkm_SM {P : Int → Prop} : ∀ (k : Nat), k ≤ 6 → SM (mkm P k) (k : Int) P
  | 0, _ => SM_nil
  | k + 1, h => by
    classical
    have ih := mkm_SM (P := P) k (by omega)
    rw [show ((k + 1 : Nat) : Int) = (k : Int) + 1 by omega]
    by_cases hp : P (k : Int)
    · rw [mkm_t hp]; exact SM_add ih (by omega) hp
    · rw [mkm_f hp]; exact SM_skip ih hp
theorem mkm_eq {m n : Int} {P P' : Int → Prop} (hn : 0 ≤ n ∧ n ≤ 6) (h : SM m n P) (e : ∀ v : Int, 0 ≤ v → v < n → (P v ↔ P' v)) : m = mkm P' n.toNat := by
  have h2 := mkm_SM (P := P') n.toNat (by omega)
  rw [Int.toNat_of_nonneg hn.1] at h2
  exact SM_ext h h2 e
/-- a view suits a renter: by what the hand holds -/
def sG (N : Int → Int) (e : Int) (c wl pu wa : Int → Int) (r v : Int) : Prop := wFit (N (7 + 6 * v + 0)) (N (7 + 6 * v + 1)) (wl r) ∧ c v ≤ pu r ∧ (wa r = 6 ∨ wa r = wSh (N (7 + 6 * v + 0)) (N (7 + 6 * v + 3)) e)
noncomputable def sM (N : Int → Int) (e : Int) (c wl pu wa : Int → Int) (r : Int) : Int := mkm (sG N e c wl pu wa r) (N 0).toNat
noncomputable def gB (N : Int → Int) (e : Int) (c wl pu wa : Int → Int) (n : Int) : Int := (bB (N 0).toNat c (sM N e c wl pu wa) n.toNat 0 (zshl 1 (N 0) - 1)).1
noncomputable def gR (N : Int → Int) (e : Int) (c wl pu wa : Int → Int) (n j : Int) : Int := bR (N 0).toNat c (sM N e c wl pu wa) n.toNat 0 (zshl 1 (N 0) - 1) j
theorem mkm_cg {P P' : Int → Prop} : ∀ (k : Nat), (∀ v : Int, 0 ≤ v → v < k → (P v ↔ P' v)) → mkm P k = mkm P' k
  | 0, _ => rfl
  | k + 1, h => by
    classical
    have ih := mkm_cg k (fun v p q => h v p (by omega))
    have hk := h (k : Int) (by omega) (by omega)
    by_cases hp : P (k : Int)
    · rw [mkm_t hp, mkm_t (hk.mp hp), ih]
    · rw [mkm_f hp, mkm_f (fun q => hp (hk.mpr q)), ih]
theorem sM_cg {N : Int → Int} {e r : Int} {c c' wl wl' pu pu' wa wa' : Int → Int} (hN : 0 ≤ N 0) (hc : ∀ v : Int, 0 ≤ v → v < N 0 → c v = c' v) (h1 : wl r = wl' r) (h2 : pu r = pu' r) (h3 : wa r = wa' r) : sM N e c wl pu wa r = sM N e c' wl' pu' wa' r := by
  unfold sM
  refine mkm_cg _ (fun v p q => ?_)
  unfold sG
  rw [h1, h2, h3, hc v p (by omega)]
theorem gB_cg {N : Int → Int} {e n : Int} {c c' wl wl' pu pu' wa wa' : Int → Int} (hN : 0 ≤ N 0) (hc : ∀ v : Int, 0 ≤ v → v < N 0 → c v = c' v) (h1 : ∀ r, 0 ≤ r → r < n → wl r = wl' r ∧ pu r = pu' r ∧ wa r = wa' r) : gB N e c wl pu wa n = gB N e c' wl' pu' wa' n := by
  unfold gB
  rw [bB_cg (c' := c') (s' := sM N e c' wl' pu' wa') (fun v p q => hc v p (by omega)) n.toNat 0 _ (fun j p q => ?_)]
  have := h1 j p (by omega)
  exact sM_cg hN hc this.1 this.2.1 this.2.2
theorem gR_cg {N : Int → Int} {e n j : Int} {c c' wl wl' pu pu' wa wa' : Int → Int} (hN : 0 ≤ N 0) (hc : ∀ v : Int, 0 ≤ v → v < N 0 → c v = c' v) (h1 : ∀ r, 0 ≤ r → r < n → wl r = wl' r ∧ pu r = pu' r ∧ wa r = wa' r) : gR N e c wl pu wa n j = gR N e c' wl' pu' wa' n j := by
  unfold gR
  rw [bR_cg (c' := c') (s' := sM N e c' wl' pu' wa') (fun v p q => hc v p (by omega)) n.toNat 0 _ _ (fun j p q => ?_)]
  have := h1 j p (by omega)
  exact sM_cg hN hc this.1 this.2.1 this.2.2
/-- the dearest of m, of k from i on, against b -/
def dr (c : Int → Int) (m : Int) : Nat → Int → Int → Int
  | 0, _, b => b
  | k + 1, i, b => dr c m k (i + 1) (if zand (zshr m i) 1 = 1 ∧ (b = -1 ∨ c b < c i) then i else b)
def asv (nv : Nat) (c s : Int → Int) (who r f : Int) : Int := if zand (zshr who r) 1 = 1 then dr c (zand (s r) f) nv 0 (-1) else -1
def asC (nv : Nat) (c s : Int → Int) (who : Int) : Nat → Int → Int → Int → Int → Int × Int
  | 0, _, _, m, y => (m, y)
  | k + 1, r, f, m, y => if asv nv c s who r f = -1 then asC nv c s who k (r + 1) f m y else asC nv c s who k (r + 1) (zxor f (zshl 1 (asv nv c s who r f))) (m + 1) (y + c (asv nv c s who r f))
theorem dr_in {c : Int → Int} {m : Int} : ∀ (k : Nat) (i b : Int), dr c m k i b = b ∨ (i ≤ dr c m k i b ∧ dr c m k i b < i + k ∧ zand (zshr m (dr c m k i b)) 1 = 1)
  | 0, i, b => Or.inl rfl
  | k + 1, i, b => by
    show dr c m k (i + 1) _ = b ∨ (i ≤ dr c m k (i + 1) _ ∧ dr c m k (i + 1) _ < i + ((k + 1 : Nat) : Int) ∧ zand (zshr m (dr c m k (i + 1) _)) 1 = 1)
    have ih := dr_in (c := c) (m := m) k (i + 1) (if zand (zshr m i) 1 = 1 ∧ (b = -1 ∨ c b < c i) then i else b)
    by_cases hc : zand (zshr m i) 1 = 1 ∧ (b = -1 ∨ c b < c i)
    · rw [if_pos hc] at ih ⊢
      rcases ih with h | h
      · right; rw [h]; exact ⟨by omega, by omega, hc.1⟩
      · right; exact ⟨by omega, by omega, h.2.2⟩
    · rw [if_neg hc] at ih ⊢
      rcases ih with h | h
      · left; exact h
      · right; exact ⟨by omega, by omega, h.2.2⟩
theorem dr_cg {c c' : Int → Int} {m : Int} : ∀ (k : Nat) (i b : Int), 0 ≤ i → (b = -1 ∨ 0 ≤ b ∧ b < i + k) → (∀ v : Int, 0 ≤ v → v < i + k → c v = c' v) → dr c m k i b = dr c' m k i b
  | 0, _, _, _, _, _ => rfl
  | k + 1, i, b, hi, hb, h => by
    show dr c m k (i + 1) _ = dr c' m k (i + 1) _
    have e : (zand (zshr m i) 1 = 1 ∧ (b = -1 ∨ c b < c i)) ↔ (zand (zshr m i) 1 = 1 ∧ (b = -1 ∨ c' b < c' i)) := by
      by_cases b1 : b = -1
      · simp [b1]
      · rw [h b (by omega) (by omega), h i (by omega) (by omega)]
    have e2 : (if zand (zshr m i) 1 = 1 ∧ (b = -1 ∨ c b < c i) then i else b) = (if zand (zshr m i) 1 = 1 ∧ (b = -1 ∨ c' b < c' i) then i else b) := by
      by_cases q : zand (zshr m i) 1 = 1 ∧ (b = -1 ∨ c b < c i)
      · rw [if_pos q, if_pos (e.mp q)]
      · rw [if_neg q, if_neg (fun z => q (e.mpr z))]
    rw [e2]
    refine dr_cg k (i + 1) _ (by omega) ?_ (fun v p q => h v p (by omega))
    split <;> omega
theorem asv_cg {nv : Nat} {c c' s s' : Int → Int} {who who' r f : Int} (hc : ∀ v : Int, 0 ≤ v → v < (nv : Int) → c v = c' v) (h1 : s r = s' r) (h2 : zand (zshr who r) 1 = zand (zshr who' r) 1) : asv nv c s who r f = asv nv c' s' who' r f := by
  unfold asv
  rw [h1, h2, dr_cg nv 0 (-1) (by omega) (Or.inl rfl) (fun v p q => hc v p (by omega))]
theorem asv_in {nv : Nat} {c s : Int → Int} {who r f : Int} : asv nv c s who r f = -1 ∨ (0 ≤ asv nv c s who r f ∧ asv nv c s who r f < nv ∧ zand (zshr (zand (s r) f) (asv nv c s who r f)) 1 = 1) := by
  unfold asv
  split
  · have := dr_in (c := c) (m := zand (s r) f) nv 0 (-1)
    rcases this with h | h
    · exact Or.inl h
    · exact Or.inr ⟨h.1, by omega, h.2.2⟩
  · exact Or.inl rfl
theorem asC_cg {nv : Nat} {c c' s s' : Int → Int} {who who' : Int} (hc : ∀ v : Int, 0 ≤ v → v < (nv : Int) → c v = c' v) : ∀ (k : Nat) (r f m y : Int), (∀ j : Int, r ≤ j → j < r + k → s j = s' j ∧ zand (zshr who j) 1 = zand (zshr who' j) 1) → asC nv c s who k r f m y = asC nv c' s' who' k r f m y
  | 0, _, _, _, _, _ => rfl
  | k + 1, r, f, m, y, h => by
    have h1 := h r (by omega) (by omega)
    have ih := fun f m y => asC_cg hc k (r + 1) f m y (fun j p q => h j (by omega) (by omega))
    show (if _ then _ else _) = (if _ then _ else _)
    rw [asv_cg (f := f) hc h1.1 h1.2, ih, ih]
    by_cases e : asv nv c' s' who' r f = -1
    · rw [if_pos e, if_pos e]
    · rw [if_neg e, if_neg e]
      have := asv_in (nv := nv) (c := c') (s := s') (who := who') (r := r) (f := f)
      rw [hc _ (by omega) (by omega)]
noncomputable def gC (N : Int → Int) (e : Int) (c wl pu wa : Int → Int) (n who : Int) : Int × Int := asC (N 0).toNat c (sM N e c wl pu wa) who n.toNat 0 (zshl 1 (N 0) - 1) 0 0
theorem gC_cg {N : Int → Int} {e n who who' : Int} {c c' wl wl' pu pu' wa wa' : Int → Int} (hN : 0 ≤ N 0) (hc : ∀ v : Int, 0 ≤ v → v < N 0 → c v = c' v) (h1 : ∀ r, 0 ≤ r → r < n → wl r = wl' r ∧ pu r = pu' r ∧ wa r = wa' r) (hw : ∀ r, 0 ≤ r → r < n → zand (zshr who r) 1 = zand (zshr who' r) 1) : gC N e c wl pu wa n who = gC N e c' wl' pu' wa' n who' := by
  unfold gC
  refine asC_cg (fun v p q => hc v p (by omega)) n.toNat 0 _ 0 0 (fun j p q => ⟨?_, hw j p (by omega)⟩)
  have := h1 j p (by omega)
  exact sM_cg hN hc this.1 this.2.1 this.2.2
theorem asC_rng {nv : Nat} {c s : Int → Int} {who : Int} (hc : ∀ v : Int, 0 ≤ v → v < (nv : Int) → 0 ≤ c v ∧ c v < 200) : ∀ (k : Nat) (r f m y : Int), (m ≤ (asC nv c s who k r f m y).1 ∧ (asC nv c s who k r f m y).1 ≤ m + k) ∧ (y ≤ (asC nv c s who k r f m y).2 ∧ (asC nv c s who k r f m y).2 ≤ y + 200 * k)
  | 0, r, f, m, y => by
    show (m ≤ m ∧ m ≤ m + ((0 : Nat) : Int)) ∧ (y ≤ y ∧ y ≤ y + 200 * ((0 : Nat) : Int))
    omega
  | k + 1, r, f, m, y => by
    by_cases e : asv nv c s who r f = -1
    · have h : asC nv c s who (k + 1) r f m y = asC nv c s who k (r + 1) f m y := if_pos e
      rw [h]
      have := asC_rng (s := s) (who := who) hc k (r + 1) f m y
      omega
    · have h : asC nv c s who (k + 1) r f m y = asC nv c s who k (r + 1) (zxor f (zshl 1 (asv nv c s who r f))) (m + 1) (y + c (asv nv c s who r f)) := if_neg e
      rw [h]
      have := asC_rng (s := s) (who := who) hc k (r + 1) (zxor f (zshl 1 (asv nv c s who r f))) (m + 1) (y + c (asv nv c s who r f))
      have h2 := asv_in (nv := nv) (c := c) (s := s) (who := who) (r := r) (f := f)
      have := hc (asv nv c s who r f) (by omega) (by omega)
      omega
theorem zand_cm {x y : Int} : zand x y = zand y x := by
  unfold zand
  rw [Int32.and_comm]
