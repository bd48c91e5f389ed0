section
variable {L : Nat} {xs : Nat → Int32} {σ : zSh} {d : Nat} {μ : zM} {T : Int → Int} {l a t : Int}
/-- the end of a reading by the class -/
def Rdc (σ : zSh) (a t : Int) (R : Int × (Int → Int)) (μ : zM) (rv : Option V) (μ' : zM) : Prop := Rg a μ μ' ∧ PS μ' a ∧ (0 ≤ R.1 → (1 ≤ R.1 ∧ R.1 ≤ 150) ∧ rv = some (0, R.1) ∧ SR σ μ' a R.2 t ∧ NA R.2) ∧ (R.1 < 0 → rv = some (0, -1) ∧ -10 - μ' 2 0 = R.1)
theorem Rdc.bad {x : Int} {N : Int → Int} {μ' : zM} (h : Rg a μ μ') (hP : PS μ' a) (h0 : μ' 2 0 = x) (hx : 0 ≤ x) : Rdc σ a t (-10 - x, N) μ (some (0, -1)) μ' := by
  refine ⟨h, hP, fun q => ?_, fun _ => ⟨rfl, by rw [h0]⟩⟩
  have q : 0 ≤ -10 - x := q
  omega
set_option maxRecDepth 100000 in set_option maxHeartbeats 4000000 in theorem k_c_readInto {N0 : Int → Int} (hK : Wk σ μ) (hS : Sh σ a) (hP : PS μ a) (h29 : 22 ≤ a) (ht : 0 ≤ t) (hl : 0 ≤ l ∧ l ≤ 150) (e21 : μ 2 1 = l) (hc : ∀ j, 0 ≤ j → j < l → μ 3 j = T j ∧ 0 ≤ T j ∧ T j ≤ 127) : ZQ (xext L xs) (d + 7) n_X8_readInto [(1010, 0), (100, a)] σ μ (Rdc σ a t (rdB T l (z115 N0)) μ) := by
  have hW := hK.1
  have hSp := hS.1
  generalize hr : rdB T l (z115 N0) = R
  unfold rdB at hr
  have loop : ∀ (k : Nat) (f i : Int) (μ1 : zM) (N : Int → Int), Rg a μ μ1 → SR σ μ1 a N t → RX μ1 T l → RT μ1 T l f → 0 ≤ f ∧ f ≤ l → NA N → 1 ≤ i ∧ i ≤ f → i + k = 152 → prs T l k f N i = R → ZE (xext L xs) (d + 7) n_X8_readInto 39 [(1010, 0), (100, a), (0, i)] [] σ μ1 (Rdc σ a t R μ) := by
    intro k
    induction k with
    | zero =>
      intro f i μ1 N hF h1 hX hT hf hN hi hk hR
      omega
    | succ k ih =>
      intro f i μ1 N hF h1 hX hT hf hN hi hk hR
      have t4 := hT.2.2
      have hKr := tK_rng (T := T) (l := l) (f := f)
      by_cases hk0 : tK T l f = 0
      · rw [prs_0 hk0] at hR
        refine ZE.go hW 9999 rfl (by repeat' first | exact True.intro | assumption | apply And.intro | omega | (simp (disch := omega) only [up_n, up_e]; omega)) ?_
        refine ZE.b0 rfl (by omega) ?_ ?_ <;> intro g1
        · refine ZE.go hW 9999 rfl (by repeat' first | exact True.intro | assumption | apply And.intro | omega | (simp (disch := omega) only [up_n, up_e]; omega)) ?_
          refine ZE.ri rfl rfl ?_
          rw [← hR]
          refine ⟨hF, h1.2.2.2.2.1, fun _ => ⟨⟨hi.1, by show i ≤ 150; omega⟩, rfl, h1, hN⟩, fun q => ?_⟩
          have q : i < 0 := q
          omega
        · omega
      · have hI := itp_I (T := T) hf hk0 hN
        have hAr := tA_rng (T := T) (l := l) (f := (itp T l f N).2.1) (by have := hI.2.1; omega)
        have hEE := tEE (T := T) (l := l) (f := (itp T l f N).2.1) (by have := hI.2.1; omega)
        refine ZE.go hW 9999 rfl (by repeat' first | exact True.intro | assumption | apply And.intro | omega | (simp (disch := omega) only [up_n, up_e]; omega)) ?_
        refine ZE.b0 rfl (by omega) ?_ ?_ <;> intro g1
        · omega
        · refine ZE.go hW 9999 rfl (by repeat' first | exact True.intro | assumption | apply And.intro | omega | (simp (disch := omega) only [up_n, up_e]; omega)) ?_
          refine ZE.b rfl (by omega) (by omega) ?_ ?_ <;> intro g2
          · omega
          · refine ZE.go hW 9999 rfl (by repeat' first | exact True.intro | assumption | apply And.intro | omega | (simp (disch := omega) only [up_n, up_e]; omega)) ?_
            refine ZE.q0 hW rfl rfl (Nat.le_of_ble_eq_true rfl) (Nat.le_of_ble_eq_true rfl) (k_c_readItem (d := d) h1 hX hf hT hN) ?_
            rintro rv9 μ2 ⟨rfl, x2, z2, n2⟩
            refine ZE.bp rfl rfl ?_ ?_ <;> intro g3
            · have z3 := z2 g3
              have hI3 := hI.2.2 g3.1
              refine ZE.go hW 39 rfl (by repeat' first | exact True.intro | assumption | apply And.intro | omega | (simp (disch := omega) only [up_n, up_e]; omega)) ?_
              refine ih (tE T l (itp T l f N).2.1) (i + 1) μ2 (itp T l f N).2.2 (hF.trans x2) z3.2 (hX.rg h29 x2) z3.1 (by omega) hI3.2 (by omega) (by omega) ?_
              rw [← prs_s hk0 (by omega) g3.2]
              exact hR
            · refine ZE.go hW 9999 rfl (by repeat' first | exact True.intro | assumption | apply And.intro | omega | (simp (disch := omega) only [up_n, up_e]; omega)) ?_
              refine ZE.ri rfl rfl ?_
              have n3 := n2 g3
              rw [prs_b hk0 (by have := hI.1; omega)] at hR
              rw [← hR]
              exact Rdc.bad (hF.trans x2) n3.2.2.2.2.2.1 n3.1.1 (by have := hI.2.1; omega)
  have hf0 : 0 ≤ (0 : Int) ∧ (0 : Int) ≤ l := ⟨Int.le_refl 0, hl.1⟩
  have a0 := tEE (T := T) hf0
  have b0 := tA_rng (T := T) hf0
  have a1 := tEE (T := T) (l := l) (f := tE T l 0) (by omega)
  have b1 := tA_rng (T := T) (l := l) (f := tE T l 0) (by omega)
  refine ZQ.i rfl ?_
  refine ZE.go hW 5 rfl (by repeat' first | exact True.intro | assumption | apply And.intro | omega | (simp (disch := omega) only [up_n, up_e]; omega)) ?_
  refine ZE.gen (fun m => m = up μ 2 3 0) rfl ?_
  intro m hm
  have fm : ∀ k j, ¬ (k = 2 ∧ j = 3) → m k j = μ k j := fun k j p => by rw [hm, up_n p]
  have m3 : m 2 3 = 0 := by rw [hm, up_s]
  refine ZE.go hW 9999 rfl (by repeat' first | exact True.intro | assumption | apply And.intro | omega | (simp (disch := omega) only [up_n, up_e]; omega)) ?_
  refine ZE.q1 hW rfl rfl (by repeat' first | exact True.intro | assumption | apply And.intro | omega | (simp (disch := omega) only [up_n, up_e]; omega)) (Nat.le_of_ble_eq_true rfl) (Nat.le_of_ble_eq_true rfl) (k_c_empty (d := d + 3) hW hSp) ?_
  rintro rv9 μ1 ⟨rfl, hE⟩
  have hSR1 : SR σ μ1 a (z115 N0) t := SR.empt (hK.fr (fun j => by rw [fm _ _ (by omega)])) hS ⟨fun u p q => by rw [fm _ _ (by omega)]; exact hP.1 u p q, fun u w p q r s e => by rw [fm _ _ (by omega), fm _ _ (by omega)] at e; exact hP.2 u w p q r s e⟩ h29 hE ht
  have fE : ∀ k j, ¬ (a ≤ k ∧ k ≤ a + 72) → μ1 k j = m k j := fun k j p => hE.2.2.2 k j (by omega) (by omega) (by omega)
  have g01 : Rg a μ μ1 := fun k j p q r => by rw [fE k j r, fm k j (by omega)]
  have hX1 : RX μ1 T l := ⟨hl, by rw [fE _ _ (by omega), fm _ _ (by omega)]; exact e21, fun j p q => by rw [fE _ _ (by omega), fm _ _ (by omega)]; exact hc j p q⟩
  have e3 : μ1 2 3 = 0 := by rw [fE _ _ (by omega)]; exact m3
  refine ZE.go hW 9999 rfl (by repeat' first | exact True.intro | assumption | apply And.intro | omega | (simp (disch := omega) only [up_n, up_e]; omega)) ?_
  refine ZE.q0 hW rfl rfl (Nat.le_of_ble_eq_true rfl) (Nat.le_of_ble_eq_true rfl) (k_c_step (d := d + 5) hW hX1 e3 hf0) ?_
  rintro rv9 μ2 ⟨rfl, x2, s2⟩
  refine ZE.go hW 9999 rfl (by repeat' first | exact True.intro | assumption | apply And.intro | omega | (simp (disch := omega) only [up_n, up_e]; omega)) ?_
  refine ZE.c0 hW rfl rfl (Nat.le_of_ble_eq_true rfl) (Nat.le_of_ble_eq_true rfl) (k_c_isWord (d := d + 1) hW (hX1.rf x2) hf0 s2 (by omega) Wd_shop (by omega) (by omega) (by omega) (by omega) (by omega) (by omega)) ?_
  refine ZE.bp rfl rfl ?_ ?_ <;> intro g1
  · rw [if_neg (fun z => z g1)] at hr
    have w1 := g1.1
    refine ZE.go hW 9999 rfl (by repeat' first | exact True.intro | assumption | apply And.intro | omega | (simp (disch := omega) only [up_n, up_e]; omega)) ?_
    refine ZE.q0 hW rfl rfl (Nat.le_of_ble_eq_true rfl) (Nat.le_of_ble_eq_true rfl) (k_c_step (d := d + 5) hW (hX1.rf x2) s2.2.1 (by omega)) ?_
    rintro rv9 μ3 ⟨rfl, x3, s3⟩
    refine ZE.go hW 9999 rfl (by repeat' first | exact True.intro | assumption | apply And.intro | omega | (simp (disch := omega) only [up_n, up_e]; omega)) ?_
    refine ZE.q0 hW rfl rfl (Nat.le_of_ble_eq_true rfl) (Nat.le_of_ble_eq_true rfl) (k_c_passMark (d := d + 4) hW (hX1.rf (x2.trans x3)) (by omega) s3) ?_
    rintro rv9 μ4 ⟨rfl, x4, y4, n4⟩
    refine ZE.bp rfl rfl ?_ ?_ <;> intro g2
    · refine ZE.go hW 39 rfl (by repeat' first | exact True.intro | assumption | apply And.intro | omega | (simp (disch := omega) only [up_n, up_e]; omega)) ?_
      rw [if_neg (fun z => z g2)] at hr
      have hr4 := (x2.trans x3).trans x4
      exact loop 151 (tE T l (tE T l 0)) 1 μ4 (z115 N0) (g01.trans hr4.k.g) (hSR1.rk hr4.k) (hX1.rf hr4) (y4 g2) (by omega) (NA_z N0) (by omega) (by omega) hr
    · refine ZE.go hW 9999 rfl (by repeat' first | exact True.intro | assumption | apply And.intro | omega | (simp (disch := omega) only [up_n, up_e]; omega)) ?_
      refine ZE.ri rfl rfl ?_
      first
        | (rw [if_pos g1] at hr
           rw [← hr]
           exact Rdc.bad (g01.trans x2.k.g) (hSR1.rk x2.k).2.2.2.2.1 s2.1 b0.1)
        | (rw [if_pos g2] at hr
           rw [← hr, n4 g2]
           have hr3 := x2.trans x3
           exact Rdc.bad (g01.trans hr3.k.g) (hSR1.rk hr3.k).2.2.2.2.1 s3.1 (by omega))
  · refine ZE.go hW 9999 rfl (by repeat' first | exact True.intro | assumption | apply And.intro | omega | (simp (disch := omega) only [up_n, up_e]; omega)) ?_
    refine ZE.ri rfl rfl ?_
    first
      | (rw [if_pos g1] at hr
         rw [← hr]
         exact Rdc.bad (g01.trans x2.k.g) (hSR1.rk x2.k).2.2.2.2.1 s2.1 b0.1)
      | (rw [if_pos g2] at hr
         rw [← hr, n4 g2]
         have hr3 := x2.trans x3
         exact Rdc.bad (g01.trans hr3.k.g) (hSR1.rk hr3.k).2.2.2.2.1 s3.1 (by omega))
end
