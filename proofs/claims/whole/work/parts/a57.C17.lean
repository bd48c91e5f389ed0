def Rk (μ μ' : zM) : Prop := ∀ k j, ¬ (k = 2 ∧ (j = 0 ∨ j = 3 ∨ j = 4)) → k ≠ 4 → μ' k j = μ k j
theorem Rk.rfl' {μ : zM} : Rk μ μ := fun _ _ _ _ => rfl
theorem Rk.trans {a b c : zM} (h : Rk a b) (h2 : Rk b c) : Rk a c := fun k j p q => (h2 k j p q).trans (h k j p q)
theorem Rf.k {a b : zM} (h : Rf a b) : Rk a b := fun k j p _ => h k j p
theorem RX.rk {μ μ' : zM} {T : Int → Int} {l : Int} (h : RX μ T l) (hf : Rk μ μ') : RX μ' T l := h.fr (hf 2 1 (by omega) (by omega)) (fun j => hf 3 j (by omega) (by omega))
theorem SR.rk {σ : zSh} {μ μ' : zM} {a t : Int} {N : Int → Int} (h : SR σ μ a N t) (hf : Rk μ μ') : SR σ μ' a N t := by
  have h29 : 22 ≤ a := h.2.2.2.2.2
  exact h.fr (fun k j p q => hf k j (by omega) (by omega)) (fun j => hf 9 j (by omega) (by omega))
def Rg (a : Int) (μ μ' : zM) : Prop := ∀ k j, ¬ (k = 2 ∧ (j = 0 ∨ j = 3 ∨ j = 4)) → k ≠ 4 → ¬ (a ≤ k ∧ k ≤ a + 72) → μ' k j = μ k j
theorem Rk.g {a : Int} {x y : zM} (h : Rk x y) : Rg a x y := fun k j p q _ => h k j p q
theorem Rg.trans {a : Int} {x y z : zM} (h : Rg a x y) (h2 : Rg a y z) : Rg a x z := fun k j p q r => (h2 k j p q r).trans (h k j p q r)
theorem Rg.up {a : Int} {x y : zM} {k j v : Int} (h : Rg a x y) (hk : a ≤ k ∧ k ≤ a + 72) : Rg a x (up y k j v) := by
  intro k' j' p q r
  rw [up_n (by omega)]
  exact h k' j' p q r
theorem RX.rg {a : Int} {μ μ' : zM} {T : Int → Int} {l : Int} (h : RX μ T l) (ha : 22 ≤ a) (hf : Rg a μ μ') : RX μ' T l := h.fr (hf 2 1 (by omega) (by omega) (by omega)) (fun j => hf 3 j (by omega) (by omega) (by omega))
theorem RT.up {a : Int} {μ : zM} {T : Int → Int} {l f : Int} {k j v : Int} (h : RT μ T l f) (ha : 22 ≤ a) (hk : a ≤ k ∧ k ≤ a + 72) : RT (up μ k j v) T l f := by
  unfold RT
  rw [up_n (by omega), up_n (by omega), up_n (by omega)]
  exact h
theorem vw_lv {N : Int → Int} {k s p w : Int} (h : N 6 = 0) (h0 : 0 ≤ N 0) : vwN N k s p w = lvN N k s p w := by
  funext j
  unfold vwN lvN
  by_cases e : j = 6
  · subst e
    rw [if_pos rfl, if_neg (by omega), if_neg (by omega), if_neg (by omega), if_neg (by omega), if_neg (by omega), if_neg (by omega), if_neg (by omega), h]
  · rw [if_neg e]
theorem rn_lr {N : Int → Int} {w p x : Int} (h : N 6 = 0) (h0 : 0 ≤ N 1) : rnN N w p x = lrN N w p x := by
  funext j
  unfold rnN lrN
  by_cases e : j = 6
  · subst e
    rw [if_pos rfl, if_neg (by omega), if_neg (by omega), if_neg (by omega), if_neg (by omega), h]
  · rw [if_neg e]
/-- a try at an item, by the class -/
def Itc (σ : zSh) (a t : Int) (T : Int → Int) (l : Int) (N : Int → Int) (r : Int × Int × (Int → Int)) (μ : zM) (rv : Option V) (μ' : zM) : Prop := rv = some (0, bz (r.1 = 1 ∧ tK T l r.2.1 = 3)) ∧ Rg a μ μ' ∧ (r.1 = 1 ∧ tK T l r.2.1 = 3 → RT μ' T l (tE T l r.2.1) ∧ SR σ μ' a r.2.2 t) ∧ (¬ (r.1 = 1 ∧ tK T l r.2.1 = 3) → RT μ' T l r.2.1 ∧ SR σ μ' a N t)
theorem Itc.no {σ : zSh} {a t : Int} {T : Int → Int} {l f : Int} {N M : Int → Int} {μ μ' : zM} (h1 : Rg a μ μ') (h2 : RT μ' T l f) (h3 : SR σ μ' a N t) : Itc σ a t T l N (0, f, M) μ (some (0, 0)) μ' := by
  have hn : ¬ ((0 : Int) = 1 ∧ tK T l f = 3) := fun q => no01 q.1
  exact ⟨by rw [bz_f hn], h1, fun q => absurd q hn, fun _ => ⟨h2, h3⟩⟩
theorem Itc.nomark {σ : zSh} {a t : Int} {T : Int → Int} {l f : Int} {N M : Int → Int} {μ μ' : zM} (h1 : Rg a μ μ') (h2 : RT μ' T l f) (h3 : SR σ μ' a N t) (hk : ¬ tK T l f = 3) : Itc σ a t T l N (1, f, M) μ (some (0, 0)) μ' := by
  have hn : ¬ ((1 : Int) = 1 ∧ tK T l f = 3) := fun q => hk q.2
  exact ⟨by rw [bz_f hn], h1, fun q => absurd q hn, fun _ => ⟨h2, h3⟩⟩
theorem Itc.yes {σ : zSh} {a t : Int} {T : Int → Int} {l f : Int} {N M : Int → Int} {μ μ' : zM} (h1 : Rg a μ μ') (h2 : RT μ' T l (tE T l f)) (h3 : SR σ μ' a M t) (hk : tK T l f = 3) : Itc σ a t T l N (1, f, M) μ (some (0, 1)) μ' := by
  have hn : (1 : Int) = 1 ∧ tK T l f = 3 := ⟨rfl, hk⟩
  exact ⟨by rw [bz_t hn], h1, fun _ => ⟨h2, h3⟩, fun q => absurd hn q⟩
section
variable {ext : List xC} {σ : zSh} {d : Nat} {μ : zM} {T : Int → Int} {l a t : Int} {N : Int → Int}
set_option maxRecDepth 100000 in set_option maxHeartbeats 4000000 in theorem k_c_readView {f : Int} (h : SR σ μ a N t) (hX : RX μ T l) (hf : 0 ≤ f ∧ f ≤ l) (hT : RT μ T l f) (hN : NA N) (h6 : N 0 ≠ 6) : ZQ ext (d + 3) n_X8_readView [(1010, 0), (100, a)] σ μ (Itc σ a t T l N (tvw T l f N) μ) := by
  have hW := h.1.1
  have hSp := h.2.1.1
  have h29 : 22 ≤ a := h.2.2.2.2.2
  have h0 := hN.1
  have n6 : N 6 = 0 := hN.2.2.2.2.2.2.2.2.2.2
  have a1 := tEE (T := T) hf
  have a2 := tEE (T := T) (l := l) (f := tE T l f) (by omega)
  have a3 := tEE (T := T) (l := l) (f := tE T l (tE T l f)) (by omega)
  have a4 := tEE (T := T) (l := l) (f := tE T l (tE T l (tE T l f))) (by omega)
  have a5 := tEE (T := T) (l := l) (f := tE T l (tE T l (tE T l (tE T l f)))) (by omega)
  generalize hr : tvw T l f N = R
  unfold tvw at hr
  rw [if_neg h6] at hr
  refine ZQ.i rfl ?_
  refine ZE.go hW 9999 rfl (by repeat' first | exact True.intro | assumption | apply And.intro | omega | (simp (disch := omega) only [up_n, up_e]; omega)) ?_
  refine ZE.q0 hW rfl rfl (Nat.le_of_ble_eq_true rfl) (Nat.le_of_ble_eq_true rfl) (k_c_step (d := d + 1) hW hX hT.2.1 (by omega)) ?_
  rintro rv9 μ1 ⟨rfl, x1, s1⟩
  have x1 := x1.k
  refine ZE.go hW 9999 rfl (by repeat' first | exact True.intro | assumption | apply And.intro | omega | (simp (disch := omega) only [up_n, up_e]; omega)) ?_
  refine ZE.q0 hW rfl rfl (Nat.le_of_ble_eq_true rfl) (Nat.le_of_ble_eq_true rfl) (k_c_passNumber (d := d) (k := 0) (lo := 0) (hi := 5) hW (hX.rk x1) (by omega) s1 (by omega) (by omega) (by omega)) ?_
  rintro rv9 μ2 ⟨rfl, y1, n1⟩
  refine ZE.bp rfl rfl ?_ ?_ <;> intro g1
  · refine ZE.go hW 9999 rfl (by repeat' first | exact True.intro | assumption | apply And.intro | omega | (simp (disch := omega) only [up_n, up_e]; omega)) ?_
    refine ZE.rb rfl rfl (by first | exact Or.inl rfl | exact Or.inr rfl | omega) ?_
    first
      | (rw [if_pos g1] at hr
         rw [← hr, n1 g1]
         exact Itc.no x1.g s1 (h.rk x1))
      | (rw [if_pos g2] at hr
         rw [← hr, n2 g2]
         exact Itc.no x2.g s2 (h.rk x2))
      | (rw [if_pos g3] at hr
         rw [← hr, n3 g3]
         exact Itc.no x3.g s3 (h.rk x3))
      | (rw [if_pos g4] at hr
         rw [← hr, n4 g4]
         exact Itc.no x4.g s4 (h.rk x4))
      | (have g5n : ¬ tK T l (tE T l (tE T l (tE T l (tE T l (tE T l f))))) = 3 := g5
         rw [← hr, n5 g5]
         exact Itc.nomark x5.g s5 (h.rk x5) g5n)
      | (simp (disch := omega) only [up_n, C6.1.1, c0, c1, c2, c3]
         rw [← hr, ← vw_lv n6 h0.1]
         have hA := hS6.addV h6 g1.2 g2.2 g3.2 g4.2
         unfold adV at hA
         refine Itc.yes ?_ ?_ hA g5
         · exact (((((((z6.g (a := a)).up (by omega)).up (by omega)).up (by omega)).up (by omega)).up (by omega)).up (by omega)).up (by omega)
         · exact ((((((s6.up h29 (by omega)).up h29 (by omega)).up h29 (by omega)).up h29 (by omega)).up h29 (by omega)).up h29 (by omega)).up h29 (by omega))
  · obtain ⟨s2, v1, w1⟩ := y1 g1
    have x2 : Rk μ μ2 := x1.trans (fun k j p q => w1 k j p (by omega))
    rw [if_neg (fun z => z g1)] at hr
    refine ZE.go hW 9999 rfl (by repeat' first | exact True.intro | assumption | apply And.intro | omega | (simp (disch := omega) only [up_n, up_e]; omega)) ?_
    refine ZE.q0 hW rfl rfl (Nat.le_of_ble_eq_true rfl) (Nat.le_of_ble_eq_true rfl) (k_c_passNumber (d := d) (k := 1) (lo := 1) (hi := 9) hW (hX.rk x2) (by omega) s2 (by omega) (by omega) (by omega)) ?_
    rintro rv9 μ3 ⟨rfl, y2, n2⟩
    refine ZE.bp rfl rfl ?_ ?_ <;> intro g2
    · refine ZE.go hW 9999 rfl (by repeat' first | exact True.intro | assumption | apply And.intro | omega | (simp (disch := omega) only [up_n, up_e]; omega)) ?_
      refine ZE.rb rfl rfl (by first | exact Or.inl rfl | exact Or.inr rfl | omega) ?_
      first
        | (rw [if_pos g1] at hr
           rw [← hr, n1 g1]
           exact Itc.no x1.g s1 (h.rk x1))
        | (rw [if_pos g2] at hr
           rw [← hr, n2 g2]
           exact Itc.no x2.g s2 (h.rk x2))
        | (rw [if_pos g3] at hr
           rw [← hr, n3 g3]
           exact Itc.no x3.g s3 (h.rk x3))
        | (rw [if_pos g4] at hr
           rw [← hr, n4 g4]
           exact Itc.no x4.g s4 (h.rk x4))
        | (have g5n : ¬ tK T l (tE T l (tE T l (tE T l (tE T l (tE T l f))))) = 3 := g5
           rw [← hr, n5 g5]
           exact Itc.nomark x5.g s5 (h.rk x5) g5n)
        | (simp (disch := omega) only [up_n, C6.1.1, c0, c1, c2, c3]
           rw [← hr, ← vw_lv n6 h0.1]
           have hA := hS6.addV h6 g1.2 g2.2 g3.2 g4.2
           unfold adV at hA
           refine Itc.yes ?_ ?_ hA g5
           · exact (((((((z6.g (a := a)).up (by omega)).up (by omega)).up (by omega)).up (by omega)).up (by omega)).up (by omega)).up (by omega)
           · exact ((((((s6.up h29 (by omega)).up h29 (by omega)).up h29 (by omega)).up h29 (by omega)).up h29 (by omega)).up h29 (by omega)).up h29 (by omega))
    · obtain ⟨s3, v2, w2⟩ := y2 g2
      have x3 : Rk μ μ3 := x2.trans (fun k j p q => w2 k j p (by omega))
      rw [if_neg (fun z => z g2)] at hr
      refine ZE.go hW 9999 rfl (by repeat' first | exact True.intro | assumption | apply And.intro | omega | (simp (disch := omega) only [up_n, up_e]; omega)) ?_
      refine ZE.q0 hW rfl rfl (Nat.le_of_ble_eq_true rfl) (Nat.le_of_ble_eq_true rfl) (k_c_passNumber (d := d) (k := 2) (lo := 0) (hi := 99) hW (hX.rk x3) (by omega) s3 (by omega) (by omega) (by omega)) ?_
      rintro rv9 μ4 ⟨rfl, y3, n3⟩
      refine ZE.bp rfl rfl ?_ ?_ <;> intro g3
      · refine ZE.go hW 9999 rfl (by repeat' first | exact True.intro | assumption | apply And.intro | omega | (simp (disch := omega) only [up_n, up_e]; omega)) ?_
        refine ZE.rb rfl rfl (by first | exact Or.inl rfl | exact Or.inr rfl | omega) ?_
        first
          | (rw [if_pos g1] at hr
             rw [← hr, n1 g1]
             exact Itc.no x1.g s1 (h.rk x1))
          | (rw [if_pos g2] at hr
             rw [← hr, n2 g2]
             exact Itc.no x2.g s2 (h.rk x2))
          | (rw [if_pos g3] at hr
             rw [← hr, n3 g3]
             exact Itc.no x3.g s3 (h.rk x3))
          | (rw [if_pos g4] at hr
             rw [← hr, n4 g4]
             exact Itc.no x4.g s4 (h.rk x4))
          | (have g5n : ¬ tK T l (tE T l (tE T l (tE T l (tE T l (tE T l f))))) = 3 := g5
             rw [← hr, n5 g5]
             exact Itc.nomark x5.g s5 (h.rk x5) g5n)
          | (simp (disch := omega) only [up_n, C6.1.1, c0, c1, c2, c3]
             rw [← hr, ← vw_lv n6 h0.1]
             have hA := hS6.addV h6 g1.2 g2.2 g3.2 g4.2
             unfold adV at hA
             refine Itc.yes ?_ ?_ hA g5
             · exact (((((((z6.g (a := a)).up (by omega)).up (by omega)).up (by omega)).up (by omega)).up (by omega)).up (by omega)).up (by omega)
             · exact ((((((s6.up h29 (by omega)).up h29 (by omega)).up h29 (by omega)).up h29 (by omega)).up h29 (by omega)).up h29 (by omega)).up h29 (by omega))
      · obtain ⟨s4, v3, w3⟩ := y3 g3
        have x4 : Rk μ μ4 := x3.trans (fun k j p q => w3 k j p (by omega))
        rw [if_neg (fun z => z g3)] at hr
        refine ZE.go hW 9999 rfl (by repeat' first | exact True.intro | assumption | apply And.intro | omega | (simp (disch := omega) only [up_n, up_e]; omega)) ?_
        refine ZE.q0 hW rfl rfl (Nat.le_of_ble_eq_true rfl) (Nat.le_of_ble_eq_true rfl) (k_c_passNumber (d := d) (k := 3) (lo := 0) (hi := 5) hW (hX.rk x4) (by omega) s4 (by omega) (by omega) (by omega)) ?_
        rintro rv9 μ5 ⟨rfl, y4, n4⟩
        refine ZE.bp rfl rfl ?_ ?_ <;> intro g4
        · refine ZE.go hW 9999 rfl (by repeat' first | exact True.intro | assumption | apply And.intro | omega | (simp (disch := omega) only [up_n, up_e]; omega)) ?_
          refine ZE.rb rfl rfl (by first | exact Or.inl rfl | exact Or.inr rfl | omega) ?_
          first
            | (rw [if_pos g1] at hr
               rw [← hr, n1 g1]
               exact Itc.no x1.g s1 (h.rk x1))
            | (rw [if_pos g2] at hr
               rw [← hr, n2 g2]
               exact Itc.no x2.g s2 (h.rk x2))
            | (rw [if_pos g3] at hr
               rw [← hr, n3 g3]
               exact Itc.no x3.g s3 (h.rk x3))
            | (rw [if_pos g4] at hr
               rw [← hr, n4 g4]
               exact Itc.no x4.g s4 (h.rk x4))
            | (have g5n : ¬ tK T l (tE T l (tE T l (tE T l (tE T l (tE T l f))))) = 3 := g5
               rw [← hr, n5 g5]
               exact Itc.nomark x5.g s5 (h.rk x5) g5n)
            | (simp (disch := omega) only [up_n, C6.1.1, c0, c1, c2, c3]
               rw [← hr, ← vw_lv n6 h0.1]
               have hA := hS6.addV h6 g1.2 g2.2 g3.2 g4.2
               unfold adV at hA
               refine Itc.yes ?_ ?_ hA g5
               · exact (((((((z6.g (a := a)).up (by omega)).up (by omega)).up (by omega)).up (by omega)).up (by omega)).up (by omega)).up (by omega)
               · exact ((((((s6.up h29 (by omega)).up h29 (by omega)).up h29 (by omega)).up h29 (by omega)).up h29 (by omega)).up h29 (by omega)).up h29 (by omega))
        · obtain ⟨s5, v4, w4⟩ := y4 g4
          have x5 : Rk μ μ5 := x4.trans (fun k j p q => w4 k j p (by omega))
          rw [if_neg (fun z => z g4)] at hr
          refine ZE.go hW 9999 rfl (by repeat' first | exact True.intro | assumption | apply And.intro | omega | (simp (disch := omega) only [up_n, up_e]; omega)) ?_
          refine ZE.q0 hW rfl rfl (Nat.le_of_ble_eq_true rfl) (Nat.le_of_ble_eq_true rfl) (k_c_passMark (d := d) hW (hX.rk x5) (by omega) s5) ?_
          rintro rv9 μ6 ⟨rfl, x6, y5, n5⟩
          refine ZE.bp rfl rfl ?_ ?_ <;> intro g5
          · have z6 : Rk μ μ6 := x5.trans x6.k
            have s6 := y5 g5
            have hS6 := h.rk z6
            have C6 := hS6.ct
            have c0 : μ6 4 0 = tV T l (tE T l f) := by
              rw [x6 4 0 (by omega), w4 4 0 (by omega) (by omega), w3 4 0 (by omega) (by omega), w2 4 0 (by omega) (by omega)]; exact v1
            have c1 : μ6 4 1 = tV T l (tE T l (tE T l f)) := by
              rw [x6 4 1 (by omega), w4 4 1 (by omega) (by omega), w3 4 1 (by omega) (by omega)]; exact v2
            have c2 : μ6 4 2 = tV T l (tE T l (tE T l (tE T l f))) := by
              rw [x6 4 2 (by omega), w4 4 2 (by omega) (by omega)]; exact v3
            have c3 : μ6 4 3 = tV T l (tE T l (tE T l (tE T l (tE T l f)))) := by
              rw [x6 4 3 (by omega)]; exact v4
            have m1 : ∀ k j x y, k ≠ a → up μ6 k j x a y = μ6 a y := fun k j x y q => up_n (by omega)
            refine ZE.go hW 9999 rfl (by repeat' first | exact True.intro | assumption | apply And.intro | omega | (simp (disch := omega) only [up_n, up_e]; omega)) ?_
            refine ZE.rb rfl rfl (by first | exact Or.inl rfl | exact Or.inr rfl | omega) ?_
            first
              | (rw [if_pos g1] at hr
                 rw [← hr, n1 g1]
                 exact Itc.no x1.g s1 (h.rk x1))
              | (rw [if_pos g2] at hr
                 rw [← hr, n2 g2]
                 exact Itc.no x2.g s2 (h.rk x2))
              | (rw [if_pos g3] at hr
                 rw [← hr, n3 g3]
                 exact Itc.no x3.g s3 (h.rk x3))
              | (rw [if_pos g4] at hr
                 rw [← hr, n4 g4]
                 exact Itc.no x4.g s4 (h.rk x4))
              | (have g5n : ¬ tK T l (tE T l (tE T l (tE T l (tE T l (tE T l f))))) = 3 := g5
                 rw [← hr, n5 g5]
                 exact Itc.nomark x5.g s5 (h.rk x5) g5n)
              | (simp (disch := omega) only [up_n, C6.1.1, c0, c1, c2, c3]
                 rw [← hr, ← vw_lv n6 h0.1]
                 have hA := hS6.addV h6 g1.2 g2.2 g3.2 g4.2
                 unfold adV at hA
                 refine Itc.yes ?_ ?_ hA g5
                 · exact (((((((z6.g (a := a)).up (by omega)).up (by omega)).up (by omega)).up (by omega)).up (by omega)).up (by omega)).up (by omega)
                 · exact ((((((s6.up h29 (by omega)).up h29 (by omega)).up h29 (by omega)).up h29 (by omega)).up h29 (by omega)).up h29 (by omega)).up h29 (by omega))
          · refine ZE.go hW 9999 rfl (by repeat' first | exact True.intro | assumption | apply And.intro | omega | (simp (disch := omega) only [up_n, up_e]; omega)) ?_
            refine ZE.rb rfl rfl (by first | exact Or.inl rfl | exact Or.inr rfl | omega) ?_
            first
              | (rw [if_pos g1] at hr
                 rw [← hr, n1 g1]
                 exact Itc.no x1.g s1 (h.rk x1))
              | (rw [if_pos g2] at hr
                 rw [← hr, n2 g2]
                 exact Itc.no x2.g s2 (h.rk x2))
              | (rw [if_pos g3] at hr
                 rw [← hr, n3 g3]
                 exact Itc.no x3.g s3 (h.rk x3))
              | (rw [if_pos g4] at hr
                 rw [← hr, n4 g4]
                 exact Itc.no x4.g s4 (h.rk x4))
              | (have g5n : ¬ tK T l (tE T l (tE T l (tE T l (tE T l (tE T l f))))) = 3 := g5
                 rw [← hr, n5 g5]
                 exact Itc.nomark x5.g s5 (h.rk x5) g5n)
              | (simp (disch := omega) only [up_n, C6.1.1, c0, c1, c2, c3]
                 rw [← hr, ← vw_lv n6 h0.1]
                 have hA := hS6.addV h6 g1.2 g2.2 g3.2 g4.2
                 unfold adV at hA
                 refine Itc.yes ?_ ?_ hA g5
                 · exact (((((((z6.g (a := a)).up (by omega)).up (by omega)).up (by omega)).up (by omega)).up (by omega)).up (by omega)).up (by omega)
                 · exact ((((((s6.up h29 (by omega)).up h29 (by omega)).up h29 (by omega)).up h29 (by omega)).up h29 (by omega)).up h29 (by omega)).up h29 (by omega))
end
