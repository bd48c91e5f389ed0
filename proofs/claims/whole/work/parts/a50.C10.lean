section
variable {ext : List xC} {σ : zSh} {d : Nat} {μ : zM}
set_option maxRecDepth 100000 in set_option maxHeartbeats 4000000 in theorem k_c_firstBest {nv n r f : Int} {k : Nat} (hW : Wl σ) (h : Cn0 μ nv n) (hr : 0 ≤ r ∧ r < n) (hk : k ≤ 5) (hf : 0 ≤ f ∧ f ≤ zshl 1 nv - 1) (hT : ∀ g, 0 ≤ g → g ≤ zshl 1 nv - 1 → μ (r + 1 + 10) g = (cB μ nv k (r + 1) g).1) (hT0 : μ (r + 10) f = (cB μ nv (k + 1) r f).1) :
    ZM ext d n_X2_firstBest [(1012, 0), (0, r), (0, f)] σ μ (some (0, (cB μ nv (k + 1) r f).2)) μ := by
  obtain ⟨hv, hn, hc, hs, h16⟩ := id h
  have hall := bt_all (n := nv) (by omega)
  have hsr := hs r hr.1 hr.2
  have ha := bt_and (a := μ 6 r) (b := f) hsr (by omega)
  have hB := fun g => cB_rng h (k := k) (by omega) (r + 1) g
  have hB1 := cB_rng h (k := k + 1) (by omega) r f
  have e16 := h16 (r + 1) (by omega) (by omega)
  have e16r := h16 r (by omega) (by omega)
  have hTf := hT f hf.1 hf.2
  have hBf := hB f
  have harg := bF_arg (c := μ 7) (m := zand (μ 6 r) f) (nx := fun g => (cB μ nv k (r + 1) g).1) (f := f) nv.toNat 0 (cB μ nv k (r + 1) f).1 (-1)
  rw [← cB_s] at harg
  apply ZQ.ex
  generalize hR : cB μ nv (k + 1) r f = R at *
  have loop : ∀ (q : Nat) (i : Int), 0 ≤ i → i + q = nv → i ≤ R.2 → (R.2 < nv ∧ zand (zshr (zand (μ 6 r) f) R.2) 1 = 1 ∧ R.1 = 10000 + μ 7 R.2 + (cB μ nv k (r + 1) (zxor f (zshl 1 R.2))).1 ∧ (cB μ nv k (r + 1) f).1 < R.1 ∧ ∀ j : Int, 0 ≤ j → j < R.2 → zand (zshr (zand (μ 6 r) f) j) 1 = 1 → 10000 + μ 7 j + (cB μ nv k (r + 1) (zxor f (zshl 1 j))).1 < R.1) → ZE ext d n_X2_firstBest 42 [(1012, 0), (0, r), (0, f), (40, r + 1), (0, R.1), (0, zand (μ 6 r) f), (0, i)] [] σ μ (fun rv μ' => rv = some (0, R.2) ∧ μ' = μ) := by
    intro q
    induction q with
    | zero =>
      intro i h0 hq hi ⟨a1, a2, a3, a4, a5⟩
      omega
    | succ q ih =>
      intro i h0 hq hi ⟨a1, a2, a3, a4, a5⟩
      have hci := hc i h0 (by omega)
      have hiff := ha.2 i h0 (by omega)
      refine ZE.go hW 9999 rfl (by repeat' first | exact True.intro | assumption | apply And.intro | omega) ?_
      refine ZE.b rfl (by omega) (by omega) ?_ ?_ <;> intro g1
      · omega
      · refine ZE.go hW 9999 rfl (by repeat' first | exact True.intro | assumption | apply And.intro | omega) ?_
        refine ZE.b rfl (bt_rng (by omega) (by omega)) (by omega) ?_ ?_ <;> intro g2
        · refine ZE.go hW 42 rfl (by repeat' first | exact True.intro | assumption | apply And.intro | omega) ?_
          first
            | (have ne : i ≠ R.2 := fun z => g2 (by rw [z]; exact a2)
               exact ih (i + 1) (by omega) (by omega) (by omega) ⟨a1, a2, a3, a4, a5⟩)
            | (have ne : i ≠ R.2 := fun z => g3 (by rw [z]; exact a3.symm)
               exact ih (i + 1) (by omega) (by omega) (by omega) ⟨a1, a2, a3, a4, a5⟩)
        · have hbf : bt f i := (hiff.mp g2).2
          have x := bt_xor (a := f) (v := i) (by omega) (by omega) hbf
          have eT := hT (zxor f (zshl 1 i)) x.1.1 (by omega)
          have hBx := hB (zxor f (zshl 1 i))
          refine ZE.go hW 9999 rfl (by repeat' first | exact True.intro | assumption | apply And.intro | omega) ?_
          rw [eT]
          refine ZE.b rfl (by omega) (by omega) ?_ ?_ <;> intro g3
          · refine ZE.go hW 42 rfl (by repeat' first | exact True.intro | assumption | apply And.intro | omega) ?_
            first
              | (have ne : i ≠ R.2 := fun z => g2 (by rw [z]; exact a2)
                 exact ih (i + 1) (by omega) (by omega) (by omega) ⟨a1, a2, a3, a4, a5⟩)
              | (have ne : i ≠ R.2 := fun z => g3 (by rw [z]; exact a3.symm)
                 exact ih (i + 1) (by omega) (by omega) (by omega) ⟨a1, a2, a3, a4, a5⟩)
          · refine ZE.go hW 9999 rfl (by repeat' first | exact True.intro | assumption | apply And.intro | omega) ?_
            refine ZE.ri rfl rfl ?_
            refine ⟨?_, rfl⟩
            by_cases e : i = R.2
            · rw [e]
            · have := a5 i h0 (by omega) g2
              omega
  refine ZQ.i rfl ?_
  refine ZE.go hW 9 rfl (by repeat' first | exact True.intro | assumption | apply And.intro | omega) ?_
  rw [e16]
  refine ZE.go hW 15 rfl (by repeat' first | exact True.intro | assumption | apply And.intro | omega) ?_
  rw [e16r]
  refine ZE.go hW 19 rfl (by repeat' first | exact True.intro | assumption | apply And.intro | omega) ?_
  rw [hT0]
  refine ZE.go hW 9999 rfl (by repeat' first | exact True.intro | assumption | apply And.intro | omega) ?_
  rw [hTf]
  refine ZE.b rfl (by omega) (by omega) ?_ ?_ <;> intro g1
  · rcases harg with hA | hA
    · rw [hA] at g1; exact absurd rfl g1
    refine ZE.go hW 42 rfl (by repeat' first | exact True.intro | assumption | apply And.intro | omega) ?_
    exact loop nv.toNat 0 (by omega) (by omega) hA.1 ⟨by have := hA.2.1; omega, hA.2.2⟩
  · refine ZE.go hW 9999 rfl (by repeat' first | exact True.intro | assumption | apply And.intro | omega) ?_
    refine ZE.ri rfl rfl ?_
    refine ⟨?_, rfl⟩
    rcases harg with hA | hA
    · rw [hA]
    · have := hA.2.2.2.2.1
      omega
set_option maxRecDepth 100000 in set_option maxHeartbeats 4000000 in theorem k_c_viewInBest {nv n j : Int} (hW : Wl σ) (h : Cn0 μ nv n) (hj : 0 ≤ j ∧ j < n) (hT : ∀ r f, 0 ≤ r → r ≤ n → 0 ≤ f → f ≤ zshl 1 nv - 1 → μ (r + 10) f = (cB μ nv (n - r).toNat r f).1) :
    ZM ext (d + 1) n_X2_viewInBest [(1012, 0), (0, j)] σ μ (some (0, bR nv.toNat (μ 7) (μ 6) n.toNat 0 (zshl 1 nv - 1) j)) μ := by
  obtain ⟨hv, hn, hc, hs, h16⟩ := id h
  have hall := bt_all (n := nv) (by omega)
  apply ZQ.ex
  generalize hR : bR nv.toNat (μ 7) (μ 6) n.toNat 0 (zshl 1 nv - 1) j = R
  have fin : ∀ (r f : Int), j < r → r ≤ 7 → ZE ext (d + 1) n_X2_viewInBest 14 [(1012, 0), (0, j), (0, f), (0, R), (0, r)] [] σ μ (fun rv μ' => rv = some (0, R) ∧ μ' = μ) := by
    intro r f h1 h2
    refine ZE.go hW 9999 rfl (by repeat' first | exact True.intro | assumption | apply And.intro | omega) ?_
    refine ZE.b rfl (by omega) (by omega) ?_ ?_ <;> intro g1
    · refine ZE.go hW 9999 rfl (by repeat' first | exact True.intro | assumption | apply And.intro | omega) ?_
      refine ZE.ri rfl rfl ?_
      exact ⟨rfl, rfl⟩
    · omega
  have loop : ∀ (k : Nat) (r f w : Int), 0 ≤ r → r + k = n → r ≤ j → 0 ≤ f ∧ f ≤ zshl 1 nv - 1 → bR nv.toNat (μ 7) (μ 6) k r f j = R → ZE ext (d + 1) n_X2_viewInBest 14 [(1012, 0), (0, j), (0, f), (0, w), (0, r)] [] σ μ (fun rv μ' => rv = some (0, R) ∧ μ' = μ) := by
    intro k
    induction k with
    | zero => intro r f w h0 hk hr hf hb; omega
    | succ k ih =>
      intro r f w h0 hk hr hf hb
      have hb : (if j = r then (cB μ nv (k + 1) r f).2 else bR nv.toNat (μ 7) (μ 6) k (r + 1) (fx f (cB μ nv (k + 1) r f).2) j) = R := hb
      have ek : (n - (r + 1)).toNat = k := by omega
      have ek1 : (n - r).toNat = k + 1 := by omega
      have hT1 := fun g p q => hT (r + 1) g (by omega) (by omega) p q
      have hT0 := hT r f h0 (by omega) hf.1 hf.2
      rw [ek] at hT1
      rw [ek1] at hT0
      have hsr := hs r h0 (by omega)
      have ha := bt_and (a := μ 6 r) (b := f) hsr (by omega)
      have harg := bF_arg (c := μ 7) (m := zand (μ 6 r) f) (nx := fun g => (cB μ nv k (r + 1) g).1) (f := f) nv.toNat 0 (cB μ nv k (r + 1) f).1 (-1)
      rw [← cB_s] at harg
      have hV : (cB μ nv (k + 1) r f).2 = -1 ∨ (0 ≤ (cB μ nv (k + 1) r f).2 ∧ (cB μ nv (k + 1) r f).2 < nv ∧ bt f (cB μ nv (k + 1) r f).2) := by
        rcases harg with hA | hA
        · left; rw [hA]
        · right
          exact ⟨hA.1, by have := hA.2.1; omega, ((ha.2 _ hA.1 (by have := hA.2.1; omega)).mp hA.2.2.1).2⟩
      refine ZE.go hW 9999 rfl (by repeat' first | exact True.intro | assumption | apply And.intro | omega) ?_
      refine ZE.b rfl (by omega) (by omega) ?_ ?_ <;> intro g1
      · omega
      · refine ZE.go hW 9999 rfl (by repeat' first | exact True.intro | assumption | apply And.intro | omega) ?_
        refine ZE.b rfl (by omega) (by omega) ?_ ?_ <;> intro g2
        · omega
        · refine ZE.go hW 9999 rfl (by repeat' first | exact True.intro | assumption | apply And.intro | omega) ?_
          refine ZE.c0 hW rfl rfl (Nat.le_of_ble_eq_true rfl) (Nat.le_of_ble_eq_true rfl) (k_c_firstBest (d := d) (k := k) hW h (by omega) (by omega) hf hT1 hT0) ?_
          generalize (cB μ nv (k + 1) r f).2 = V at *
          refine ZE.go hW 9999 rfl (by repeat' first | exact True.intro | assumption | apply And.intro | omega) ?_
          refine ZE.b rfl (by omega) (by omega) ?_ ?_ <;> intro g3
          · refine ZE.go hW 14 rfl (by repeat' first | exact True.intro | assumption | apply And.intro | omega) ?_
            by_cases e : j = r
            · rw [if_pos e] at hb
              rw [hb]
              exact fin (r + 1) _ (by omega) (by omega)
            · rw [if_neg e] at hb
              first
                | (rw [show fx f V = f from if_pos g3] at hb
                   exact ih (r + 1) f V (by omega) (by omega) (by omega) hf hb)
                | (rw [show fx f V = zxor f (zshl 1 V) from if_neg g3] at hb
                   have hV2 := hV.resolve_left g3
                   have x := bt_xor (a := f) (v := V) (by omega) (by omega) hV2.2.2
                   exact ih (r + 1) _ V (by omega) (by omega) (by omega) (by omega) hb)
          · refine ZE.go hW 14 rfl (by repeat' first | exact True.intro | assumption | apply And.intro | omega) ?_
            by_cases e : j = r
            · rw [if_pos e] at hb
              rw [hb]
              exact fin (r + 1) _ (by omega) (by omega)
            · rw [if_neg e] at hb
              first
                | (rw [show fx f V = f from if_pos g3] at hb
                   exact ih (r + 1) f V (by omega) (by omega) (by omega) hf hb)
                | (rw [show fx f V = zxor f (zshl 1 V) from if_neg g3] at hb
                   have hV2 := hV.resolve_left g3
                   have x := bt_xor (a := f) (v := V) (by omega) (by omega) hV2.2.2
                   exact ih (r + 1) _ V (by omega) (by omega) (by omega) (by omega) hb)
  refine ZQ.i rfl ?_
  refine ZE.go hW 14 rfl (by repeat' first | exact True.intro | assumption | apply And.intro | omega) ?_
  rw [hv.1]
  exact loop n.toNat 0 _ (-1) (by omega) (by omega) hj.1 (by omega) hR
set_option maxRecDepth 100000 in set_option maxHeartbeats 4000000 in theorem k_c_dearest {nv n m : Int} (hW : Wl σ) (h : Cn0 μ nv n) (hm : 0 ≤ m ∧ m < 64) : ZM ext d n_X2_dearest [(1012, 0), (0, m)] σ μ (some (0, dr (μ 7) m nv.toNat 0 (-1))) μ := by
  obtain ⟨hv, hn, hc, hs, h16⟩ := id h
  apply ZQ.ex
  generalize hR : dr (μ 7) m nv.toNat 0 (-1) = R
  have loop : ∀ (k : Nat) (i b : Int), 0 ≤ i → i + k = nv → (b = -1 ∨ 0 ≤ b ∧ b < i) → dr (μ 7) m k i b = R → ZE ext d n_X2_dearest 4 [(1012, 0), (0, m), (0, b), (0, i)] [] σ μ (fun rv μ' => rv = some (0, R) ∧ μ' = μ) := by
    intro k
    induction k with
    | zero =>
      intro i b h0 hk hb hr
      have hr : b = R := hr
      refine ZE.go hW 9999 rfl (by repeat' first | exact True.intro | assumption | apply And.intro | omega) ?_
      refine ZE.b rfl (by omega) (by omega) ?_ ?_ <;> intro g1
      · refine ZE.go hW 9999 rfl (by repeat' first | exact True.intro | assumption | apply And.intro | omega) ?_
        refine ZE.ri rfl rfl ?_
        exact ⟨by rw [hr], rfl⟩
      · omega
    | succ k ih =>
      intro i b h0 hk hb hr
      have hr : dr (μ 7) m k (i + 1) (if zand (zshr m i) 1 = 1 ∧ (b = -1 ∨ μ 7 b < μ 7 i) then i else b) = R := hr
      have ci := hc i h0 (by omega)
      have cb := hc b
      refine ZE.go hW 9999 rfl (by repeat' first | exact True.intro | assumption | apply And.intro | omega) ?_
      refine ZE.b rfl (by omega) (by omega) ?_ ?_ <;> intro g1
      · omega
      · refine ZE.go hW 9999 rfl (by repeat' first | exact True.intro | assumption | apply And.intro | omega) ?_
        refine ZE.b rfl (bt_rng (by omega) (by omega)) (by omega) ?_ ?_ <;> intro g2
        · refine ZE.go hW 4 rfl (by repeat' first | exact True.intro | assumption | apply And.intro | omega) ?_
          first
            | (rw [if_neg (fun q => g2 q.1)] at hr
               exact ih (i + 1) b (by omega) (by omega) (by omega) hr)
            | (rw [if_pos ⟨g2, by omega⟩] at hr
               exact ih (i + 1) i (by omega) (by omega) (by omega) hr)
            | (rw [if_neg (fun q => absurd q.2 (by omega))] at hr
               exact ih (i + 1) b (by omega) (by omega) (by omega) hr)
        · refine ZE.go hW 9999 rfl (by repeat' first | exact True.intro | assumption | apply And.intro | omega) ?_
          refine ZE.b rfl (by omega) (by omega) ?_ ?_ <;> intro g3
          · refine ZE.go hW 4 rfl (by repeat' first | exact True.intro | assumption | apply And.intro | omega) ?_
            first
              | (rw [if_neg (fun q => g2 q.1)] at hr
                 exact ih (i + 1) b (by omega) (by omega) (by omega) hr)
              | (rw [if_pos ⟨g2, by omega⟩] at hr
                 exact ih (i + 1) i (by omega) (by omega) (by omega) hr)
              | (rw [if_neg (fun q => absurd q.2 (by omega))] at hr
                 exact ih (i + 1) b (by omega) (by omega) (by omega) hr)
          · refine ZE.go hW 9999 rfl (by repeat' first | exact True.intro | assumption | apply And.intro | omega) ?_
            refine ZE.b rfl (by omega) (by omega) ?_ ?_ <;> intro g4
            · refine ZE.go hW 4 rfl (by repeat' first | exact True.intro | assumption | apply And.intro | omega) ?_
              first
                | (rw [if_neg (fun q => g2 q.1)] at hr
                   exact ih (i + 1) b (by omega) (by omega) (by omega) hr)
                | (rw [if_pos ⟨g2, by omega⟩] at hr
                   exact ih (i + 1) i (by omega) (by omega) (by omega) hr)
                | (rw [if_neg (fun q => absurd q.2 (by omega))] at hr
                   exact ih (i + 1) b (by omega) (by omega) (by omega) hr)
            · refine ZE.go hW 4 rfl (by repeat' first | exact True.intro | assumption | apply And.intro | omega) ?_
              first
                | (rw [if_neg (fun q => g2 q.1)] at hr
                   exact ih (i + 1) b (by omega) (by omega) (by omega) hr)
                | (rw [if_pos ⟨g2, by omega⟩] at hr
                   exact ih (i + 1) i (by omega) (by omega) (by omega) hr)
                | (rw [if_neg (fun q => absurd q.2 (by omega))] at hr
                   exact ih (i + 1) b (by omega) (by omega) (by omega) hr)
  refine ZQ.i rfl ?_
  refine ZE.go hW 4 rfl (by repeat' first | exact True.intro | assumption | apply And.intro | omega) ?_
  exact loop nv.toNat 0 (-1) (by omega) (by omega) (by omega) hR
set_option maxRecDepth 100000 in set_option maxHeartbeats 4000000 in theorem k_c_asTheyCome {nv n who : Int} (hW : Wl σ) (h : Cn0 μ nv n) (hw : 0 ≤ who ∧ who < 256) : ZM ext (d + 1) n_X2_asTheyCome [(1012, 0), (0, who)] σ μ (some (0, 10000 * (asC nv.toNat (μ 7) (μ 6) who n.toNat 0 (zshl 1 nv - 1) 0 0).1 + (asC nv.toNat (μ 7) (μ 6) who n.toNat 0 (zshl 1 nv - 1) 0 0).2)) μ := by
  obtain ⟨hv, hn, hc, hs, h16⟩ := id h
  have hall := bt_all (n := nv) (by omega)
  apply ZQ.ex
  generalize hR : asC nv.toNat (μ 7) (μ 6) who n.toNat 0 (zshl 1 nv - 1) 0 0 = R
  have loop : ∀ (k : Nat) (r f m y told : Int) (x5 : V), 0 ≤ r → r + k = n → 0 ≤ f ∧ f < 64 → told = 10000 * m + y → asC nv.toNat (μ 7) (μ 6) who k r f m y = R → ZE ext (d + 1) n_X2_asTheyCome 14 [(1012, 0), (0, who), (0, f), (0, told), (0, r), x5] [] σ μ (fun rv μ' => rv = some (0, 10000 * R.1 + R.2) ∧ μ' = μ) := by
    intro k
    induction k with
    | zero =>
      intro r f m y told x5 h0 hk hf ht hr
      have hr : (m, y) = R := hr
      refine ZE.go hW 9999 rfl (by repeat' first | exact True.intro | assumption | apply And.intro | omega) ?_
      refine ZE.b rfl (by omega) (by omega) ?_ ?_ <;> intro g1
      · refine ZE.go hW 9999 rfl (by repeat' first | exact True.intro | assumption | apply And.intro | omega) ?_
        refine ZE.ri rfl rfl ?_
        refine ⟨?_, rfl⟩
        rw [← hr, ht]
      · omega
    | succ k ih =>
      intro r f m y told x5 h0 hk hf ht hr
      have hr : (if asv nv.toNat (μ 7) (μ 6) who r f = -1 then asC nv.toNat (μ 7) (μ 6) who k (r + 1) f m y else asC nv.toNat (μ 7) (μ 6) who k (r + 1) (zxor f (zshl 1 (asv nv.toNat (μ 7) (μ 6) who r f))) (m + 1) (y + μ 7 (asv nv.toNat (μ 7) (μ 6) who r f))) = R := hr
      have hsr := hs r h0 (by omega)
      have ha := bt_and (a := μ 6 r) (b := f) hsr hf
      have hin := asv_in (nv := nv.toNat) (c := μ 7) (s := μ 6) (who := who) (r := r) (f := f)
      have hin2 : asv nv.toNat (μ 7) (μ 6) who r f = -1 ∨ (0 ≤ asv nv.toNat (μ 7) (μ 6) who r f ∧ asv nv.toNat (μ 7) (μ 6) who r f < nv ∧ bt f (asv nv.toNat (μ 7) (μ 6) who r f)) := by
        rcases hin with q | q
        · exact Or.inl q
        · exact Or.inr ⟨q.1, by omega, ((ha.2 _ q.1 (by omega)).mp q.2.2).2⟩
      have hasv : asv nv.toNat (μ 7) (μ 6) who r f = if zand (zshr who r) 1 = 1 then dr (μ 7) (zand (μ 6 r) f) nv.toNat 0 (-1) else -1 := rfl
      generalize asv nv.toNat (μ 7) (μ 6) who r f = A at *
      refine ZE.go hW 9999 rfl (by repeat' first | exact True.intro | assumption | apply And.intro | omega) ?_
      refine ZE.b rfl (by omega) (by omega) ?_ ?_ <;> intro g1
      · omega
      · refine ZE.go hW 9999 rfl (by repeat' first | exact True.intro | assumption | apply And.intro | omega) ?_
        refine ZE.b rfl (bt_rng (by omega) (by omega)) (by omega) ?_ ?_ <;> intro g2
        · rw [if_neg g2] at hasv
          refine ZE.go hW 9999 rfl (by repeat' first | exact True.intro | assumption | apply And.intro | omega) ?_
          refine ZE.b rfl (by omega) (by omega) ?_ ?_ <;> intro g3
          · refine ZE.go hW 14 rfl (by repeat' first | exact True.intro | assumption | apply And.intro | omega) ?_
            first
              | (exfalso; omega)
              | (rw [if_pos (by omega)] at hr
                 exact ih (r + 1) f m y told _ (by omega) (by omega) hf ht hr)
              | (rw [if_neg (by omega)] at hr
                 exact ih (r + 1) _ _ _ _ _ (by omega) (by omega) x.1 (by omega) hr)
          · have hA2 : 0 ≤ A ∧ A < nv ∧ bt f A := by
              rcases hin2 with q | q
              · exfalso; omega
              · exact q
            have x := bt_xor (a := f) (v := A) hf (by omega) hA2.2.2
            refine ZE.go hW 14 rfl (by repeat' first | exact True.intro | assumption | apply And.intro | omega) ?_
            first
              | (exfalso; omega)
              | (rw [if_pos (by omega)] at hr
                 exact ih (r + 1) f m y told _ (by omega) (by omega) hf ht hr)
              | (rw [if_neg (by omega)] at hr
                 exact ih (r + 1) _ _ _ _ _ (by omega) (by omega) x.1 (by omega) hr)
        · rw [if_pos g2] at hasv
          refine ZE.go hW 9999 rfl (by repeat' first | exact True.intro | assumption | apply And.intro | omega) ?_
          refine ZE.c0 hW rfl rfl (Nat.le_of_ble_eq_true rfl) (Nat.le_of_ble_eq_true rfl) (k_c_dearest (d := d) hW h ha.1) ?_
          rw [← hasv]
          refine ZE.go hW 9999 rfl (by repeat' first | exact True.intro | assumption | apply And.intro | omega) ?_
          refine ZE.b rfl (by omega) (by omega) ?_ ?_ <;> intro g3
          · refine ZE.go hW 14 rfl (by repeat' first | exact True.intro | assumption | apply And.intro | omega) ?_
            first
              | (exfalso; omega)
              | (rw [if_pos (by omega)] at hr
                 exact ih (r + 1) f m y told _ (by omega) (by omega) hf ht hr)
              | (rw [if_neg (by omega)] at hr
                 exact ih (r + 1) _ _ _ _ _ (by omega) (by omega) x.1 (by omega) hr)
          · have hA2 : 0 ≤ A ∧ A < nv ∧ bt f A := by
              rcases hin2 with q | q
              · exfalso; omega
              · exact q
            have x := bt_xor (a := f) (v := A) hf (by omega) hA2.2.2
            refine ZE.go hW 14 rfl (by repeat' first | exact True.intro | assumption | apply And.intro | omega) ?_
            first
              | (exfalso; omega)
              | (rw [if_pos (by omega)] at hr
                 exact ih (r + 1) f m y told _ (by omega) (by omega) hf ht hr)
              | (rw [if_neg (by omega)] at hr
                 exact ih (r + 1) _ _ _ _ _ (by omega) (by omega) x.1 (by omega) hr)
  refine ZQ.i rfl ?_
  refine ZE.go hW 14 rfl (by repeat' first | exact True.intro | assumption | apply And.intro | omega) ?_
  rw [hv.1]
  exact loop n.toNat 0 _ 0 0 0 _ (by omega) (by omega) (by omega) (by omega) hR
end
