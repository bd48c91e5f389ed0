section
variable {ext : List xC} {σ : zSh} {d : Nat} {μ : zM}
/-- the chooser's numbers -/
def Cn0 (μ : zM) (nv n : Int) : Prop := (μ 5 0 = nv ∧ 0 ≤ nv ∧ nv ≤ 6) ∧ (μ 5 1 = n ∧ 0 ≤ n ∧ n ≤ 6) ∧ (∀ v, 0 ≤ v → v < nv → 0 ≤ μ 7 v ∧ μ 7 v < 200) ∧ (∀ r, 0 ≤ r → r < n → 0 ≤ μ 6 r ∧ μ 6 r < 64) ∧ (∀ r, 0 ≤ r → r < 7 → μ 9 r = r)
def cB (μ : zM) (nv : Int) (k : Nat) (r f : Int) : Int × Int := bB nv.toNat (μ 7) (μ 6) k r f
theorem cB_s {nv : Int} {k : Nat} {r f : Int} : cB μ nv (k + 1) r f = bF (μ 7) (zand (μ 6 r) f) (fun g => (cB μ nv k (r + 1) g).1) f nv.toNat 0 (cB μ nv k (r + 1) f).1 (-1) := rfl
theorem cB_rng {nv n : Int} (h : Cn0 μ nv n) {k : Nat} (hk : k ≤ 6) (r f : Int) : 0 ≤ (cB μ nv k r f).1 ∧ (cB μ nv k r f).1 ≤ 61200 := by
  have h1 := bB_0 (nv := nv.toNat) (c := μ 7) (s := μ 6) k r f
  have h2 := bB_hi (nv := nv.toNat) (c := μ 7) (s := μ 6) (fun v p q => h.2.2.1 v p (by have := h.1; omega)) k r f
  unfold cB
  omega
set_option maxRecDepth 100000 in set_option maxHeartbeats 4000000 in theorem k_c_mostFor {nv n r f : Int} {k : Nat} (hW : Wl σ) (h : Cn0 μ nv n) (hr : 0 ≤ r ∧ r < n) (hk : k ≤ 5) (hf : 0 ≤ f ∧ f ≤ zshl 1 nv - 1) (hT : ∀ g, 0 ≤ g → g ≤ zshl 1 nv - 1 → μ (r + 1 + 10) g = (cB μ nv k (r + 1) g).1) :
    ZM ext (d + 1) n_X2_mostFor [(1012, 0), (0, r), (0, f)] σ μ (some (0, (cB μ nv (k + 1) r f).1)) μ := by
  obtain ⟨hv, hn, hc, hs, h16⟩ := id h
  have hall := bt_all (n := nv) (by omega)
  have hsr := hs r hr.1 hr.2
  have ha := bt_and (a := μ 6 r) (b := f) hsr (by omega)
  have hB := fun g => cB_rng h (k := k) (by omega) (r + 1) g
  have e16 := h16 (r + 1) (by omega) (by omega)
  have hTf := hT f hf.1 hf.2
  apply ZQ.ex
  rw [cB_s]
  generalize hR : (bF (μ 7) (zand (μ 6 r) f) (fun g => (cB μ nv k (r + 1) g).1) f nv.toNat 0 (cB μ nv k (r + 1) f).1 (-1)).1 = R
  have loop : ∀ (q : Nat) (i told w : Int), 0 ≤ i → i + q = nv → (0 ≤ told ∧ told ≤ 100000) → (bF (μ 7) (zand (μ 6 r) f) (fun g => (cB μ nv k (r + 1) g).1) f q i told w).1 = R → ZE ext (d + 1) n_X2_mostFor 27 [(1012, 0), (0, r), (0, f), (40, r + 1), (0, told), (0, zand (μ 6 r) f), (0, i)] [] σ μ (fun rv μ' => rv = some (0, R) ∧ μ' = μ) := by
    intro q
    induction q with
    | zero =>
      intro i told w h0 hq ht hb
      have hb : told = R := hb
      refine ZE.go hW 9999 rfl (by repeat' first | exact True.intro | assumption | apply And.intro | omega) ?_
      refine ZE.b rfl (by omega) (by omega) ?_ ?_ <;> intro g1
      · refine ZE.go hW 9999 rfl (by repeat' first | exact True.intro | assumption | apply And.intro | omega) ?_
        refine ZE.ri rfl rfl ?_
        exact ⟨by rw [hb], rfl⟩
      · omega
    | succ q ih =>
      intro i told w h0 hq ht hb
      have hci := hc i h0 (by omega)
      have hiff := ha.2 i h0 (by omega)
      refine ZE.go hW 9999 rfl (by repeat' first | exact True.intro | assumption | apply And.intro | omega) ?_
      refine ZE.b rfl (by omega) (by omega) ?_ ?_ <;> intro g1
      · omega
      · refine ZE.go hW 9999 rfl (by repeat' first | exact True.intro | assumption | apply And.intro | omega) ?_
        refine ZE.b rfl (bt_rng (by omega) (by omega)) (by omega) ?_ ?_ <;> intro g2
        · refine ZE.go hW 27 rfl (by repeat' first | exact True.intro | assumption | apply And.intro | omega) ?_
          first
            | (rw [bF_no (fun z => g2 z.1)] at hb
               exact ih (i + 1) told w (by omega) (by omega) ht hb)
            | (by_cases hl : told < 10000 + μ 7 i + (cB μ nv k (r + 1) (zxor f (zshl 1 i))).1
               · rw [if_pos hl]
                 rw [bF_yes ⟨g2, hl⟩] at hb
                 exact ih (i + 1) _ _ (by omega) (by omega) (by omega) hb
               · rw [if_neg hl]
                 rw [bF_no (fun z => hl z.2)] at hb
                 exact ih (i + 1) told w (by omega) (by omega) ht hb)
        · have hbf : bt f i := (hiff.mp g2).2
          have x := bt_xor (a := f) (v := i) (by omega) (by omega) hbf
          have eT := hT (zxor f (zshl 1 i)) x.1.1 (by omega)
          have hBx := hB (zxor f (zshl 1 i))
          refine ZE.go hW 9999 rfl (by repeat' first | exact True.intro | assumption | apply And.intro | omega) ?_
          rw [eT]
          refine ZE.c0 hW rfl rfl (Nat.le_of_ble_eq_true rfl) (Nat.le_of_ble_eq_true rfl) (k_j_max (d := d) hW (by omega) (by omega)) ?_
          refine ZE.go hW 27 rfl (by repeat' first | exact True.intro | assumption | apply And.intro | omega) ?_
          first
            | (rw [bF_no (fun z => g2 z.1)] at hb
               exact ih (i + 1) told w (by omega) (by omega) ht hb)
            | (by_cases hl : told < 10000 + μ 7 i + (cB μ nv k (r + 1) (zxor f (zshl 1 i))).1
               · rw [if_pos hl]
                 rw [bF_yes ⟨g2, hl⟩] at hb
                 exact ih (i + 1) _ _ (by omega) (by omega) (by omega) hb
               · rw [if_neg hl]
                 rw [bF_no (fun z => hl z.2)] at hb
                 exact ih (i + 1) told w (by omega) (by omega) ht hb)
  refine ZQ.i rfl ?_
  refine ZE.go hW 9 rfl (by repeat' first | exact True.intro | assumption | apply And.intro | omega) ?_
  rw [e16]
  refine ZE.go hW 27 rfl (by repeat' first | exact True.intro | assumption | apply And.intro | omega) ?_
  rw [hTf]
  exact loop nv.toNat 0 _ (-1) (by omega) (by omega) (by have := hB f; omega) hR
set_option maxRecDepth 100000 in set_option maxHeartbeats 4000000 in theorem k_c_solve {nv n : Int} (hW : Wl σ) (h : Cn0 μ nv n) : ZQ ext (d + 2) n_X2_solve [(1012, 0)] σ μ (fun rv μ' => rv = some (0, (cB μ nv n.toNat 0 (zshl 1 nv - 1)).1) ∧ (∀ k j, ¬ (10 ≤ k ∧ k ≤ 16) → μ' k j = μ k j) ∧ ∀ r f, 0 ≤ r → r ≤ n → 0 ≤ f → f ≤ zshl 1 nv - 1 → μ' (r + 10) f = (cB μ nv (n - r).toNat r f).1) := by
  obtain ⟨hv, hn, hc, hs, h16⟩ := id h
  have hall := bt_all (n := nv) (by omega)
  have cg : ∀ (μ1 : zM), (∀ k j, ¬ (10 ≤ k ∧ k ≤ 16) → μ1 k j = μ k j) → Cn0 μ1 nv n ∧ (∀ k r f, cB μ1 nv k r f = cB μ nv k r f) := by
    intro μ1 hf
    have e12 : μ1 5 = μ 5 := funext fun j => hf 5 j (by omega)
    have e13 : μ1 6 = μ 6 := funext fun j => hf 6 j (by omega)
    have e14 : μ1 7 = μ 7 := funext fun j => hf 7 j (by omega)
    have e16 : μ1 9 = μ 9 := funext fun j => hf 9 j (by omega)
    refine ⟨?_, fun k r f => ?_⟩
    · unfold Cn0
      rw [e12, e13, e14, e16]
      exact h
    · unfold cB
      rw [e13, e14]
  have outer : ∀ (k : Nat) (r : Int) (μ1 : zM) (x3 : V), r = (k : Int) - 1 → r < n → (∀ k j, ¬ (10 ≤ k ∧ k ≤ 16) → μ1 k j = μ k j) → (∀ q f, r < q → q ≤ n → 0 ≤ f → f ≤ zshl 1 nv - 1 → μ1 (q + 10) f = (cB μ nv (n - q).toNat q f).1) → ZE ext (d + 2) n_X2_solve 29 [(1012, 0), (0, zshl 1 nv - 1), (0, r), x3] [] σ μ1 (fun rv μ' => rv = some (0, (cB μ nv n.toNat 0 (zshl 1 nv - 1)).1) ∧ (∀ k j, ¬ (10 ≤ k ∧ k ≤ 16) → μ' k j = μ k j) ∧ ∀ r f, 0 ≤ r → r ≤ n → 0 ≤ f → f ≤ zshl 1 nv - 1 → μ' (r + 10) f = (cB μ nv (n - r).toNat r f).1) := by
    intro k
    induction k with
    | zero =>
      intro r μ1 x3 hr hrn hf hT
      have t0 := hT 0 (zshl 1 nv - 1) (by omega) (by omega) (by omega) (by omega)
      have e0 : μ1 9 0 = 0 := by rw [hf 9 0 (by omega)]; exact h16 0 (by omega) (by omega)
      refine ZE.go hW 9999 rfl (by repeat' first | exact True.intro | assumption | apply And.intro | omega) ?_
      refine ZE.b0 rfl (by omega) ?_ ?_ <;> intro g1
      · refine ZE.go hW 72 rfl (by repeat' first | exact True.intro | assumption | apply And.intro | omega) ?_
        rw [e0]
        refine ZE.go hW 9999 rfl (by repeat' first | exact True.intro | assumption | apply And.intro | omega) ?_
        refine ZE.ri rfl rfl ?_
        refine ⟨?_, hf, fun q f p z x y => hT q f (by omega) z x y⟩
        rw [t0, Int.sub_zero]
      · omega
    | succ k ih =>
      intro r μ1 x3 hr hrn hf hT
      have inner : ∀ f, 0 ≤ f → f ≤ zshl 1 nv → ∀ μ2, (∀ k j, ¬ (10 ≤ k ∧ k ≤ 16) → μ2 k j = μ k j) → (∀ q g, r < q → q ≤ n → 0 ≤ g → g ≤ zshl 1 nv - 1 → μ2 (q + 10) g = (cB μ nv (n - q).toNat q g).1) → (∀ g, 0 ≤ g → g < f → μ2 (r + 10) g = (cB μ nv (n - r).toNat r g).1) → ZE ext (d + 2) n_X2_solve 35 [(1012, 0), (0, zshl 1 nv - 1), (0, r), (0, f)] [] σ μ2 (fun rv μ' => rv = some (0, (cB μ nv n.toNat 0 (zshl 1 nv - 1)).1) ∧ (∀ k j, ¬ (10 ≤ k ∧ k ≤ 16) → μ' k j = μ k j) ∧ ∀ r f, 0 ≤ r → r ≤ n → 0 ≤ f → f ≤ zshl 1 nv - 1 → μ' (r + 10) f = (cB μ nv (n - r).toNat r f).1) := by
        refine loopU ?_ ?_
        · intro f h0 hf1 ihf μ2 hf2 hT2 hT3
          have c2 := cg μ2 hf2
          have e0 : μ2 9 r = r := by rw [hf2 9 r (by omega)]; exact h16 r (by omega) (by omega)
          have eK : (n - r).toNat = (n - (r + 1)).toNat + 1 := by omega
          refine ZE.go hW 9999 rfl (by repeat' first | exact True.intro | assumption | apply And.intro | omega) ?_
          refine ZE.b rfl (by omega) (by omega) ?_ ?_ <;> intro g1
          · omega
          · refine ZE.go hW 46 rfl (by repeat' first | exact True.intro | assumption | apply And.intro | omega) ?_
            rw [e0]
            refine ZE.go hW 9999 rfl (by repeat' first | exact True.intro | assumption | apply And.intro | omega) ?_
            refine ZE.c0 hW rfl rfl (Nat.le_of_ble_eq_true rfl) (Nat.le_of_ble_eq_true rfl) (k_c_mostFor (d := d) (k := (n - (r + 1)).toNat) hW c2.1 (by omega) (by omega) (by omega) (fun g p z => by rw [c2.2]; exact hT2 (r + 1) g (by omega) (by omega) p z)) ?_
            rw [c2.2]
            refine ZE.go hW 35 rfl (by repeat' first | exact True.intro | assumption | apply And.intro | omega) ?_
            refine ihf _ (fun k j p => ?_) (fun q g p z x y => ?_) (fun g p z => ?_)
            · rw [up_n (by omega)]; exact hf2 k j p
            · rw [up_n (by omega)]; exact hT2 q g p z x y
            · by_cases eg : g = f
              · subst eg
                rw [up_e rfl rfl, eK]
              · rw [up_n (by omega)]; exact hT3 g p (by omega)
        · intro μ2 hf2 hT2 hT3
          refine ZE.go hW 9999 rfl (by repeat' first | exact True.intro | assumption | apply And.intro | omega) ?_
          refine ZE.b rfl (by omega) (by omega) ?_ ?_ <;> intro g1
          · refine ZE.go hW 29 rfl (by repeat' first | exact True.intro | assumption | apply And.intro | omega) ?_
            refine ih (r - 1) μ2 _ (by omega) (by omega) hf2 (fun q f p z x y => ?_)
            by_cases eq : q = r
            · subst eq; exact hT3 f x (by omega)
            · exact hT2 q f (by omega) z x y
          · omega
      refine ZE.go hW 9999 rfl (by repeat' first | exact True.intro | assumption | apply And.intro | omega) ?_
      refine ZE.b0 rfl (by omega) ?_ ?_ <;> intro g1
      · omega
      · refine ZE.go hW 35 rfl (by repeat' first | exact True.intro | assumption | apply And.intro | omega) ?_
        exact inner 0 (by omega) (by omega) μ1 hf hT (fun g p z => by omega)
  have en := h16 n (by omega) (by omega)
  refine ZQ.i rfl ?_
  refine ZE.go hW 9 rfl (by repeat' first | exact True.intro | assumption | apply And.intro | omega) ?_
  rw [hv.1]
  refine ZE.go hW 18 rfl (by repeat' first | exact True.intro | assumption | apply And.intro | omega) ?_
  rw [hn.1, en]
  refine ZE.go hW 9999 rfl (by repeat' first | exact True.intro | assumption | apply And.intro | omega) ?_
  refine ZE.c0 hW rfl rfl (Nat.le_of_ble_eq_true rfl) (Nat.le_of_ble_eq_true rfl) (k_j_fill40 (d := d + 1) hW (by omega)) ?_
  refine ZE.go hW 29 rfl (by repeat' first | exact True.intro | assumption | apply And.intro | omega) ?_
  rw [fill_n (by omega), hn.1]
  refine outer n.toNat (n - 1) _ _ (by omega) (by omega) (fun k j p => fill_n (by omega)) (fun q f p z x y => ?_)
  have eq : q = n := by omega
  subst eq
  rw [fill_e rfl x (by omega), Int.sub_self]
  rfl
end
