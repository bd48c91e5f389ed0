theorem bB_lt {nv : Nat} {c s : Int → Int} {k : Nat} {r f M : Int} (hn : nv ≤ 6) (hs : 0 ≤ s r ∧ s r < 64) (hf : 0 ≤ f ∧ f < 64) : (bB nv c s (k + 1) r f).1 ≤ M ↔ (bB nv c s k (r + 1) f).1 ≤ M ∧ ∀ v : Int, 0 ≤ v → v < (nv : Int) → bt (s r) v → bt f v → 10000 + c v + (bB nv c s k (r + 1) (zxor f (zshl 1 v))).1 ≤ M := by
  have ha := bt_and hs hf
  rw [bB_le]
  constructor
  · intro ⟨h1, h2⟩
    exact ⟨h1, fun v p q x y => h2 v p q ((ha.2 v p (by omega)).mpr ⟨x, y⟩)⟩
  · intro ⟨h1, h2⟩
    exact ⟨h1, fun v p q x => h2 v p q ((ha.2 v p (by omega)).mp x).1 ((ha.2 v p (by omega)).mp x).2⟩
theorem eq_le {x y : Int} (h : ∀ M, x ≤ M ↔ y ≤ M) : x = y := by
  have h1 := (h x).mp (Int.le_refl x)
  have h2 := (h y).mpr (Int.le_refl y)
  omega
/-- a view that nobody can have does not matter -/
theorem bB_irr {nv : Nat} {c c' s s' : Int → Int} {v : Int} (hn : nv ≤ 6) (hc : ∀ w : Int, 0 ≤ w → w < (nv : Int) → w ≠ v → c w = c' w) (hv : 0 ≤ v ∧ v < 6) : ∀ (k : Nat) (r f f' : Int), 0 ≤ f ∧ f < 64 → 0 ≤ f' ∧ f' < 64 → (∀ w, 0 ≤ w → w < 6 → w ≠ v → (bt f w ↔ bt f' w)) →
    (∀ j, r ≤ j → j < r + k → (0 ≤ s j ∧ s j < 64) ∧ (0 ≤ s' j ∧ s' j < 64) ∧ (∀ w, 0 ≤ w → w < 6 → w ≠ v → (bt (s j) w ↔ bt (s' j) w)) ∧ (bt f v → ¬ bt (s j) v) ∧ (bt f' v → ¬ bt (s' j) v)) → (bB nv c s k r f).1 = (bB nv c' s' k r f').1
  | 0, _, _, _, _, _, _, _ => rfl
  | k + 1, r, f, f', hf, hf', hff, h => by
    have hr := h r (by omega) (by omega)
    have ih0 := bB_irr hn hc hv k (r + 1) f f' hf hf' hff (fun j p q => h j (by omega) (by omega))
    have ihw : ∀ w, 0 ≤ w → w < (nv : Int) → w ≠ v → bt f w → bt f' w → (bB nv c s k (r + 1) (zxor f (zshl 1 w))).1 = (bB nv c' s' k (r + 1) (zxor f' (zshl 1 w))).1 := by
      intro w p q ne b b'
      have x := bt_xor hf (v := w) (by omega) b
      have x' := bt_xor hf' (v := w) (by omega) b'
      refine bB_irr hn hc hv k (r + 1) _ _ x.1 x'.1 (fun u y z e => ?_) (fun j y z => ?_)
      · rw [x.2.1 u y z, x'.2.1 u y z, hff u y z e]
      · have hj := h j (by omega) (by omega)
        refine ⟨hj.1, hj.2.1, hj.2.2.1, fun e => hj.2.2.2.1 ((x.2.1 v hv.1 hv.2).mp e).1, fun e => hj.2.2.2.2 ((x'.2.1 v hv.1 hv.2).mp e).1⟩
    refine eq_le (fun M => ?_)
    rw [bB_lt hn hr.1 hf, bB_lt hn hr.2.1 hf', ih0]
    constructor
    · intro ⟨h1, h2⟩
      refine ⟨h1, fun w p q b b' => ?_⟩
      have ne : w ≠ v := fun e => by subst e; exact hr.2.2.2.2 b' b
      have bs := (hr.2.2.1 w p (by omega) ne).mpr b
      have bf := (hff w p (by omega) ne).mpr b'
      rw [← ihw w p q ne bf b', ← hc w p q ne]
      exact h2 w p q bs bf
    · intro ⟨h1, h2⟩
      refine ⟨h1, fun w p q b b' => ?_⟩
      have ne : w ≠ v := fun e => by subst e; exact hr.2.2.2.1 b' b
      have bs := (hr.2.2.1 w p (by omega) ne).mp b
      have bf := (hff w p (by omega) ne).mp b'
      rw [ihw w p q ne b' bf, hc w p q ne]
      exact h2 w p q bs bf
theorem ex1_o {f : Int → Int} {n x r : Int} (h : r ≠ n) : ex1 f n x r = f r := if_neg h
theorem ex1_s {f : Int → Int} {n x : Int} : ex1 f n x n = x := if_pos rfl
/-- the view goes to nobody, or to one renter -/
theorem bB_one {nv : Nat} {c c' s0 s' : Int → Int} {v F : Int} {Y : Int → Prop} (hn : nv ≤ 6) (hc : ∀ w : Int, 0 ≤ w → w < (nv : Int) → w ≠ v → c' w = c w) (hF : c' v = F) (hv : 0 ≤ v ∧ v < (nv : Int)) : ∀ (k : Nat) (r f : Int), 0 ≤ f ∧ f < 64 → bt f v →
    (∀ j, r ≤ j → j < r + k → (0 ≤ s0 j ∧ s0 j < 64) ∧ (0 ≤ s' j ∧ s' j < 64) ∧ (∀ w, 0 ≤ w → w < 6 → w ≠ v → (bt (s' j) w ↔ bt (s0 j) w)) ∧ ¬ bt (s0 j) v ∧ (bt (s' j) v ↔ Y j)) →
    ∀ M, (bB nv c' s' k r f).1 ≤ M ↔ (bB nv c s0 k r f).1 ≤ M ∧ ∀ q, r ≤ q → q < r + k → Y q → 10000 + F + (bB nv c (ex1 s0 q 0) k r f).1 ≤ M
  | 0, r, f, hf, hb, h, M => by
    constructor
    · intro h1; exact ⟨h1, fun q x y => by omega⟩
    · intro h1; exact h1.1
  | k + 1, r, f, hf, hb, h, M => by
    have hr := h r (by omega) (by omega)
    have ih0 := bB_one hn hc hF hv k (r + 1) f hf hb (fun j p q => h j (by omega) (by omega))
    have ihw : ∀ w, 0 ≤ w → w < (nv : Int) → w ≠ v → bt f w → ∀ M, (bB nv c' s' k (r + 1) (zxor f (zshl 1 w))).1 ≤ M ↔ (bB nv c s0 k (r + 1) (zxor f (zshl 1 w))).1 ≤ M ∧ ∀ q, r + 1 ≤ q → q < r + 1 + k → Y q → 10000 + F + (bB nv c (ex1 s0 q 0) k (r + 1) (zxor f (zshl 1 w))).1 ≤ M := by
      intro w p q ne b
      have x := bt_xor hf (v := w) (by omega) b
      exact bB_one hn hc hF hv k (r + 1) _ x.1 ((x.2.1 v hv.1 (by omega)).mpr ⟨hb, fun e => ne e.symm⟩) (fun j y z => h j (by omega) (by omega))
    have xv := bt_xor hf (v := v) (by omega) hb
    have hvv : (bB nv c' s' k (r + 1) (zxor f (zshl 1 v))).1 = (bB nv c s0 k (r + 1) f).1 := by
      refine bB_irr hn (fun w p q e => hc w p q e) (v := v) (by omega) k (r + 1) _ _ xv.1 hf (fun u y z e => ?_) (fun j y z => ?_)
      · rw [xv.2.1 u y z]
        exact ⟨fun q => q.1, fun q => ⟨q, e⟩⟩
      · have hj := h j (by omega) (by omega)
        exact ⟨hj.2.1, hj.1, hj.2.2.1, fun e => absurd rfl ((xv.2.1 v hv.1 (by omega)).mp e).2, fun _ => hj.2.2.2.1⟩
    have hqr : (bB nv c (ex1 s0 r 0) (k + 1) r f).1 = (bB nv c s0 k (r + 1) f).1 := by
      refine eq_le (fun M => ?_)
      rw [bB_lt hn (by rw [ex1_s]; omega) hf, bB_cg (s' := s0) (fun w p q => rfl) k (r + 1) f (fun j p q => ex1_o (by omega))]
      constructor
      · intro h1; exact h1.1
      · intro h1
        refine ⟨h1, fun w p q b => ?_⟩
        rw [ex1_s] at b
        exact absurd b (bt_zero (by omega))
    have hqo : ∀ q, r + 1 ≤ q → q < r + 1 + k → ∀ M, (bB nv c (ex1 s0 q 0) (k + 1) r f).1 ≤ M ↔ (bB nv c (ex1 s0 q 0) k (r + 1) f).1 ≤ M ∧ ∀ w : Int, 0 ≤ w → w < (nv : Int) → bt (s0 r) w → bt f w → 10000 + c w + (bB nv c (ex1 s0 q 0) k (r + 1) (zxor f (zshl 1 w))).1 ≤ M := by
      intro q x y M
      have e : ex1 s0 q 0 r = s0 r := ex1_o (by omega)
      rw [bB_lt hn (by rw [e]; exact hr.1) hf, e]
    rw [bB_lt hn hr.2.1 hf, bB_lt hn hr.1 hf, ih0]
    constructor
    · intro ⟨⟨a1, a2⟩, a3⟩
      refine ⟨⟨a1, fun w p q b b' => ?_⟩, fun q x y hy => ?_⟩
      · have ne : w ≠ v := fun e => by subst e; exact hr.2.2.2.1 b
        have := a3 w p q ((hr.2.2.1 w p (by omega) ne).mpr b) b'
        rw [hc w p q ne] at this
        have := ((ihw w p q ne b' (M - (10000 + c w))).mp (by omega)).1
        omega
      · by_cases e : q = r
        · subst e
          rw [hqr]
          have := a3 v hv.1 hv.2 (hr.2.2.2.2.mpr hy) hb
          rw [hvv, hF] at this
          exact this
        · have := (hqo q (by omega) (by omega) (M - (10000 + F))).mpr ⟨by have := a2 q (by omega) (by omega) hy; omega, fun w p z b b' => ?_⟩
          · omega
          · have ne : w ≠ v := fun e => by subst e; exact hr.2.2.2.1 b
            have := a3 w p z ((hr.2.2.1 w p (by omega) ne).mpr b) b'
            rw [hc w p z ne] at this
            have := ((ihw w p z ne b' (M - (10000 + c w))).mp (by omega)).2 q (by omega) (by omega) hy
            omega
    · intro ⟨⟨a1, a2⟩, a3⟩
      refine ⟨⟨a1, fun q x y hy => ?_⟩, fun w p z b b' => ?_⟩
      · have := (hqo q (by omega) (by omega) (M - (10000 + F))).mp (by have := a3 q (by omega) (by omega) hy; omega)
        omega
      · by_cases e : w = v
        · subst e
          have hy := hr.2.2.2.2.mp b
          have := a3 r (by omega) (by omega) hy
          rw [hqr] at this
          rw [hvv, hF]
          exact this
        · have b0 := (hr.2.2.1 w p (by omega) e).mp b
          rw [hc w p z e]
          have := (ihw w p z e b' (M - (10000 + c w))).mpr ⟨by have := a2 w p z b0 b'; omega, fun q x y hy => ?_⟩
          · omega
          · have := ((hqo q (by omega) (by omega) (M - (10000 + F))).mp (by have := a3 q (by omega) (by omega) hy; omega)).2 w p z b0 b'
            omega
def mf (hv pu : Int → Int) (fee : Int) : Nat → Int → Int → Int
  | 0, _, t => t
  | k + 1, i, t => mf hv pu fee k (i + 1) (if hv i ≠ -1 ∧ fee ≤ pu i then (if t < hv i + fee then hv i + fee else t) else t)
theorem mf_le {hv pu : Int → Int} {fee : Int} : ∀ (k : Nat) (i t M : Int), mf hv pu fee k i t ≤ M ↔ t ≤ M ∧ ∀ q, i ≤ q → q < i + k → hv q ≠ -1 → fee ≤ pu q → hv q + fee ≤ M
  | 0, i, t, M => by
    constructor
    · intro h; exact ⟨h, fun q x y => by omega⟩
    · intro h; exact h.1
  | k + 1, i, t, M => by
    show mf hv pu fee k (i + 1) (if hv i ≠ -1 ∧ fee ≤ pu i then (if t < hv i + fee then hv i + fee else t) else t) ≤ M ↔ _
    rw [mf_le k (i + 1)]
    constructor
    · intro ⟨h1, h2⟩
      refine ⟨?_, fun q x y a b => ?_⟩
      · split at h1
        · split at h1 <;> omega
        · exact h1
      · by_cases e : q = i
        · subst e
          rw [if_pos ⟨a, b⟩] at h1
          split at h1 <;> omega
        · exact h2 q (by omega) (by omega) a b
    · intro ⟨h1, h2⟩
      refine ⟨?_, fun q x y a b => h2 q (by omega) (by omega) a b⟩
      split
      · rename_i h
        have := h2 i (by omega) (by omega) h.1 h.2
        split <;> omega
      · exact h1
