/-- only the chooser has changed -/
def Cf (μ μ' : zM) : Prop := ∀ k j, ¬ (5 ≤ k ∧ k ≤ 8) → ¬ (10 ≤ k ∧ k ≤ 17) → μ' k j = μ k j
theorem Cf.rfl' {μ : zM} : Cf μ μ := fun _ _ _ _ => rfl
theorem Cf.trans {a b c : zM} (h : Cf a b) (h2 : Cf b c) : Cf a c := fun k j p q => (h2 k j p q).trans (h k j p q)
theorem Cf.up {a b : zM} {k j x : Int} (h : Cf a b) (hk : (5 ≤ k ∧ k ≤ 8) ∨ (10 ≤ k ∧ k ≤ 17)) : Cf a (up b k j x) := by
  intro k' j' p q
  rw [up_n (by omega)]
  exact h k' j' p q
theorem SR.fr {σ : zSh} {μ μ' : zM} {a t : Int} {N : Int → Int} (h : SR σ μ a N t) (hf : ∀ k j, a ≤ k → k ≤ a + 72 → μ' k j = μ k j) (h2 : ∀ j, μ' 9 j = μ 9 j) : SR σ μ' a N t := by
  have hC := h.ct
  obtain ⟨hK, hS, hR, hN, hP, h29⟩ := h
  have p17 : ∀ u, μ' (a + 24) u = μ (a + 24) u := fun u => hf _ _ (by omega) (by omega)
  refine ⟨hK.fr h2, hS, ?_, hN, ⟨fun u p q => ?_, fun u w p q r s e => ?_⟩, h29⟩
  · refine RS.mk' hR (fun j p q => hf _ _ (by omega) (by omega)) (by rw [hf _ _ (by omega) (by omega)]; exact hC.1.2.2.2) (fun i j p q => hf _ _ (by omega) (by omega)) rfl rfl rfl (by omega) (by omega) (by omega) (fun _ _ _ _ _ _ _ => rfl) (fun _ _ _ _ _ => rfl) (fun _ _ _ => rfl) ?_ ?_
    · have hB := hR.2.2.2.2.1
      unfold RN at hB ⊢
      exact BR_tr (μ' := μ') (b' := a + 18) hB (by omega) (fun j p q => hf _ _ (by omega) (by omega)) (fun j p q => hf _ _ (by omega) (by omega)) (fun j p q => hf _ _ (by omega) (by omega)) (by omega) (fun j p q => ⟨hf _ _ (by omega) (by omega), hf _ _ (by omega) (by omega), hf _ _ (by omega) (by omega)⟩)
    · intro u p q
      have hu := hP.1 u p (by omega)
      have hc2 : 0 ≤ N (115 + 51 * u + 14) ∧ N (115 + 51 * u + 14) ≤ 12 := (hN.2.2.2.2.2 u p q).2.1
      rw [p17]
      exact RP.keep (hR.2.2.2.2.2 u p q) rfl (fun i j x y => hf _ _ (by omega) (by omega)) p (by omega) (fun j x y => rfl) rfl rfl (by omega) hc2.2
  · rw [p17]; exact hP.1 u p q
  · rw [p17, p17] at e; exact hP.2 u w p q r s e
theorem SR.cf {σ : zSh} {μ μ' : zM} {a t : Int} {N : Int → Int} (h : SR σ μ a N t) (hf : Cf μ μ') : SR σ μ' a N t := by
  have h29 : 22 ≤ a := h.2.2.2.2.2
  exact h.fr (fun k j p q => hf k j (by omega) (by omega)) (fun j => hf 9 j (by omega) (by omega))
def Op (μ : zM) (N : Int → Int) (e n : Int) : Prop := μ 5 0 = N 0 ∧ μ 5 1 = n ∧ ∀ v, 0 ≤ v → v < N 0 → μ 7 v = cN N v ∧ μ 8 v = shN N v e
noncomputable def sN (N : Int → Int) (e : Int) : Int → Int := sM N e (cN N) (wlN N) (puN N) (waN N)
def Opn (μ : zM) (N : Int → Int) (e : Int) : Prop := Op μ N e (N 1) ∧ ∀ r, 0 ≤ r → r < N 1 → μ 6 r = sN N e r
section
variable {ext : List xC} {σ : zSh} {d : Nat} {μ : zM} {a t e : Int} {N : Int → Int}
theorem SR.fee (h : SR σ μ a N t) {v : Int} (hv : 0 ≤ v ∧ v < N 0) : 0 ≤ cN N v ∧ cN N v < 200 := wFee_rng (by have := h.vw hv; omega)
theorem SR.shw (h : SR σ μ a N t) {v : Int} (hv : 0 ≤ v ∧ v < N 0) (he : 0 ≤ e) : 0 ≤ shN N v e ∧ shN N v e < 6 := wSh_rng (by have := h.vw hv; omega) he
set_option maxRecDepth 100000 in set_option maxHeartbeats 4000000 in theorem k_c_suitsAny {v wl wa n : Int} (h : SR σ μ a N t) (hO : Op μ N e n) (he : 0 ≤ e) (hv : 0 ≤ v ∧ v < N 0) (hw : 0 ≤ wl ∧ wl < 100) (ha : 0 ≤ wa ∧ wa ≤ 6) : ZM ext (d + 2) n_X2_suitsAtAnyPrice [(1012, 0), (100, a), (0, v), (0, wl), (0, wa)] σ μ (some (0, bz (wFit (N (7 + 6 * v + 0)) (N (7 + 6 * v + 1)) wl ∧ (wa = 6 ∨ wa = shN N v e)))) μ := by
  have hW := h.1.1
  have hSp := h.2.1.1
  have hC := h.ct
  have o := hO.2.2 v hv.1 hv.2
  have hs := h.shw hv he
  apply ZQ.ex
  refine ZQ.i rfl ?_
  refine ZE.go hW 9999 rfl (by repeat' first | exact True.intro | assumption | apply And.intro | omega) ?_
  refine ZE.c1 hW rfl rfl (by repeat' first | exact True.intro | assumption | apply And.intro | omega) (Nat.le_of_ble_eq_true rfl) (Nat.le_of_ble_eq_true rfl) (k_c_fits (d := d) h hv hw) ?_
  refine ZE.bp rfl rfl ?_ ?_ <;> intro g1
  · refine ZE.go hW 9999 rfl (by repeat' first | exact True.intro | assumption | apply And.intro | omega) ?_
    refine ZE.rb rfl rfl (by first | exact Or.inl rfl | exact Or.inr rfl | omega) ?_
    first
      | exact ⟨by rw [bz_f (fun q => g1 q.1)], rfl⟩
      | exact ⟨by rw [bz_t ⟨g1, by omega⟩], rfl⟩
      | exact ⟨by rw [bz_f (fun q => absurd q.2 (by omega))], rfl⟩
  · refine ZE.go hW 9999 rfl (by repeat' first | exact True.intro | assumption | apply And.intro | omega) ?_
    refine ZE.b rfl (by omega) (by omega) ?_ ?_ <;> intro g2
    · refine ZE.go hW 9999 rfl (by repeat' first | exact True.intro | assumption | apply And.intro | omega) ?_
      refine ZE.rb rfl rfl (by first | exact Or.inl rfl | exact Or.inr rfl | omega) ?_
      first
        | exact ⟨by rw [bz_f (fun q => g1 q.1)], rfl⟩
        | exact ⟨by rw [bz_t ⟨g1, by omega⟩], rfl⟩
        | exact ⟨by rw [bz_f (fun q => absurd q.2 (by omega))], rfl⟩
    · refine ZE.go hW 9999 rfl (by repeat' first | exact True.intro | assumption | apply And.intro | omega) ?_
      refine ZE.b rfl (by omega) (by omega) ?_ ?_ <;> intro g3
      · refine ZE.go hW 9999 rfl (by repeat' first | exact True.intro | assumption | apply And.intro | omega) ?_
        refine ZE.rb rfl rfl (by first | exact Or.inl rfl | exact Or.inr rfl | omega) ?_
        first
          | exact ⟨by rw [bz_f (fun q => g1 q.1)], rfl⟩
          | exact ⟨by rw [bz_t ⟨g1, by omega⟩], rfl⟩
          | exact ⟨by rw [bz_f (fun q => absurd q.2 (by omega))], rfl⟩
      · refine ZE.go hW 9999 rfl (by repeat' first | exact True.intro | assumption | apply And.intro | omega) ?_
        refine ZE.rb rfl rfl (by first | exact Or.inl rfl | exact Or.inr rfl | omega) ?_
        first
          | exact ⟨by rw [bz_f (fun q => g1 q.1)], rfl⟩
          | exact ⟨by rw [bz_t ⟨g1, by omega⟩], rfl⟩
          | exact ⟨by rw [bz_f (fun q => absurd q.2 (by omega))], rfl⟩
noncomputable def mk1 (N : Int → Int) (e wl pu wa : Int) : Int := mkm (fun v => wFit (N (7 + 6 * v + 0)) (N (7 + 6 * v + 1)) wl ∧ cN N v ≤ pu ∧ (wa = 6 ∨ wa = wSh (N (7 + 6 * v + 0)) (N (7 + 6 * v + 3)) e)) (N 0).toNat
set_option maxRecDepth 100000 in set_option maxHeartbeats 4000000 in theorem k_c_addRenter {wl pu wa n : Int} (h : SR σ μ a N t) (hO : Op μ N e n) (hn : 0 ≤ n ∧ n ≤ 5) (he : 0 ≤ e) (hw : 1 ≤ wl ∧ wl ≤ 9) (hp : 0 ≤ pu ∧ pu ≤ 999) (ha : 0 ≤ wa ∧ wa ≤ 6) : ZM ext (d + 3) n_X2_addRenter [(1012, 0), (100, a), (0, wl), (0, pu), (0, wa)] σ μ none (up (up μ 6 n (mk1 N e wl pu wa)) 5 1 (n + 1)) := by
  have hW := h.1.1
  have hSp := h.2.1.1
  have hC := h.ct
  have o0 := hO.1
  have o1 := hO.2.1
  apply ZQ.ex
  unfold mk1
  generalize hP : (fun v => wFit (N (7 + 6 * v + 0)) (N (7 + 6 * v + 1)) wl ∧ cN N v ≤ pu ∧ (wa = 6 ∨ wa = wSh (N (7 + 6 * v + 0)) (N (7 + 6 * v + 3)) e)) = P
  have ePv : ∀ v, P v ↔ wFit (N (7 + 6 * v + 0)) (N (7 + 6 * v + 1)) wl ∧ cN N v ≤ pu ∧ (wa = 6 ∨ wa = shN N v e) := fun v => by rw [← hP]; exact Iff.rfl
  have loop : ∀ i, 0 ≤ i → i ≤ N 0 → ∀ m, SM m i P → ZE ext (d + 3) n_X2_addRenter 16 [(1012, 0), (100, a), (0, wl), (0, pu), (0, wa), (0, m), (0, i)] [] σ μ (fun rv μ' => rv = none ∧ μ' = up (up μ 6 n (mkm P (N 0).toNat)) 5 1 (n + 1)) := by
    refine loopU ?_ ?_
    · intro i h0 hi ih m hm
      have o := hO.2.2 i h0 hi
      have hf := h.fee ⟨h0, hi⟩
      refine ZE.go hW 9999 rfl (by repeat' first | exact True.intro | assumption | apply And.intro | omega) ?_
      refine ZE.b rfl (by omega) (by omega) ?_ ?_ <;> intro g1
      · omega
      · refine ZE.go hW 9999 rfl (by repeat' first | exact True.intro | assumption | apply And.intro | omega) ?_
        refine ZE.b rfl (by omega) (by omega) ?_ ?_ <;> intro g2
        · refine ZE.go hW 16 rfl (by repeat' first | exact True.intro | assumption | apply And.intro | omega) ?_
          first
            | exact ih _ (SM_add hm (by omega) ((ePv i).mpr ⟨g3.1, by omega, g3.2⟩))
            | exact ih _ (SM_skip hm (fun q => g3 ⟨((ePv i).mp q).1, ((ePv i).mp q).2.2⟩))
            | exact ih _ (SM_skip hm (fun q => absurd ((ePv i).mp q).2.1 (by omega)))
        · refine ZE.go hW 9999 rfl (by repeat' first | exact True.intro | assumption | apply And.intro | omega) ?_
          refine ZE.c0 hW rfl rfl (Nat.le_of_ble_eq_true rfl) (Nat.le_of_ble_eq_true rfl) (k_c_suitsAny (d := d) h hO he ⟨h0, hi⟩ (by omega) ha) ?_
          refine ZE.bp rfl rfl ?_ ?_ <;> intro g3
          · refine ZE.go hW 16 rfl (by repeat' first | exact True.intro | assumption | apply And.intro | omega) ?_
            first
              | exact ih _ (SM_add hm (by omega) ((ePv i).mpr ⟨g3.1, by omega, g3.2⟩))
              | exact ih _ (SM_skip hm (fun q => g3 ⟨((ePv i).mp q).1, ((ePv i).mp q).2.2⟩))
              | exact ih _ (SM_skip hm (fun q => absurd ((ePv i).mp q).2.1 (by omega)))
          · refine ZE.go hW 16 rfl (by repeat' first | exact True.intro | assumption | apply And.intro | omega) ?_
            first
              | exact ih _ (SM_add hm (by omega) ((ePv i).mpr ⟨g3.1, by omega, g3.2⟩))
              | exact ih _ (SM_skip hm (fun q => g3 ⟨((ePv i).mp q).1, ((ePv i).mp q).2.2⟩))
              | exact ih _ (SM_skip hm (fun q => absurd ((ePv i).mp q).2.1 (by omega)))
    · intro m hm
      refine ZE.go hW 9999 rfl (by repeat' first | exact True.intro | assumption | apply And.intro | omega) ?_
      refine ZE.b rfl (by omega) (by omega) ?_ ?_ <;> intro g1
      · refine ZE.go hW 9999 rfl (by repeat' first | exact True.intro | assumption | apply And.intro | omega) ?_
        refine ZE.rv rfl rfl ?_
        refine ⟨rfl, ?_⟩
        rw [mkm_eq (P' := P) (by omega) hm (fun v p q => Iff.rfl)]
        rw [up_n (by omega), o1]
      · omega
  refine ZQ.i rfl ?_
  refine ZE.go hW 9999 rfl (by repeat' first | exact True.intro | assumption | apply And.intro | omega) ?_
  refine ZE.b rfl (by omega) (by omega) ?_ ?_ <;> intro g1
  · refine ZE.go hW 16 rfl (by repeat' first | exact True.intro | assumption | apply And.intro | omega) ?_
    exact loop 0 (by omega) (by omega) 0 SM_nil
  · omega
set_option maxRecDepth 100000 in set_option maxHeartbeats 4000000 in theorem k_c_open (h : SR σ μ a N t) (he : 0 ≤ e ∧ e < 1000) : ZQ ext (d + 4) n_X2_open [(1012, 0), (100, a), (0, e)] σ μ (fun rv μ' => rv = none ∧ Cf μ μ' ∧ Opn μ' N e) := by
  have hW := h.1.1
  have hSp := h.2.1.1
  have hB := h.2.1.bk
  have hC := h.ct
  have h29 : 22 ≤ a := h.2.2.2.2.2
  have l2 : ∀ r, 0 ≤ r → r ≤ N 1 → ∀ μ2, Cf μ μ2 → Op μ2 N e r → (∀ q, 0 ≤ q → q < r → μ2 6 q = sN N e q) → ZE ext (d + 4) n_X2_open 54 [(1012, 0), (100, a), (0, e), (0, r)] [] σ μ2 (fun rv μ' => rv = none ∧ Cf μ μ' ∧ Opn μ' N e) := by
    refine loopU ?_ ?_
    · intro r h0 hr ih μ2 hf hO hs
      have h2 := h.cf hf
      have hr1 := h2.rt ⟨h0, hr⟩
      have c2 := h2.ct
      refine ZE.go hW 9999 rfl (by repeat' first | exact True.intro | assumption | apply And.intro | omega) ?_
      refine ZE.b rfl (by omega) (by omega) ?_ ?_ <;> intro g1
      · omega
      · refine ZE.go hW 9999 rfl (by repeat' first | exact True.intro | assumption | apply And.intro | omega) ?_
        rw [hr1.1.1, hr1.1.2.1, hr1.1.2.2]
        refine ZE.c0 hW rfl rfl (Nat.le_of_ble_eq_true rfl) (Nat.le_of_ble_eq_true rfl) (k_c_addRenter (d := d) h2 hO (by omega) he.1 hr1.2.1 hr1.2.2.1 hr1.2.2.2) ?_
        refine ZE.go hW 54 rfl (by repeat' first | exact True.intro | assumption | apply And.intro | omega) ?_
        refine ih _ ((hf.up (by omega)).up (by omega)) ⟨?_, ?_, fun v p q => ?_⟩ (fun q p z => ?_)
        · simp (disch := omega) only [up_n]; exact hO.1
        · rw [up_e rfl rfl]
        · simp (disch := omega) only [up_n]; exact hO.2.2 v p q
        · by_cases eq : q = r
          · subst eq
            simp (disch := omega) only [up_n, up_e]
            rfl
          · simp (disch := omega) only [up_n]; exact hs q p (by omega)
    · intro μ2 hf hO hs
      have h2 := h.cf hf
      have c2 := h2.ct
      refine ZE.go hW 9999 rfl (by repeat' first | exact True.intro | assumption | apply And.intro | omega) ?_
      refine ZE.b rfl (by omega) (by omega) ?_ ?_ <;> intro g1
      · refine ZE.rv rfl rfl ?_
        exact ⟨rfl, hf, hO, hs⟩
      · omega
  have l1 : ∀ i, 0 ≤ i → i ≤ N 0 → ∀ μ1, Cf μ μ1 → μ1 5 0 = N 0 → μ1 5 1 = 0 → (∀ v, 0 ≤ v → v < i → μ1 7 v = cN N v ∧ μ1 8 v = shN N v e) → ZE ext (d + 4) n_X2_open 15 [(1012, 0), (100, a), (0, e), (0, i)] [] σ μ1 (fun rv μ' => rv = none ∧ Cf μ μ' ∧ Opn μ' N e) := by
    refine loopU ?_ ?_
    · intro i h0 hi ih μ1 hf q0 q1 hv
      have h1 := h.cf hf
      refine ZE.go hW 9999 rfl (by repeat' first | exact True.intro | assumption | apply And.intro | omega) ?_
      refine ZE.b rfl (by omega) (by omega) ?_ ?_ <;> intro g1
      · omega
      · refine ZE.go hW 9999 rfl (by repeat' first | exact True.intro | assumption | apply And.intro | omega) ?_
        refine ZE.c1 hW rfl rfl (by repeat' first | exact True.intro | assumption | apply And.intro | omega) (Nat.le_of_ble_eq_true rfl) (Nat.le_of_ble_eq_true rfl) (k_c_fee (d := d) h1 ⟨h0, hi⟩) ?_
        refine ZE.go hW 9999 rfl (by repeat' first | exact True.intro | assumption | apply And.intro | omega) ?_
        refine ZE.c1 hW rfl rfl (by repeat' first | exact True.intro | assumption | apply And.intro | omega) (Nat.le_of_ble_eq_true rfl) (Nat.le_of_ble_eq_true rfl) (k_c_showing (d := d) (h1.cf (Cf.rfl'.up (by omega))) ⟨h0, hi⟩ he) ?_
        refine ZE.go hW 15 rfl (by repeat' first | exact True.intro | assumption | apply And.intro | omega) ?_
        refine ih _ ((hf.up (by omega)).up (by omega)) ?_ ?_ (fun v p q => ?_)
        · simp (disch := omega) only [up_n]; exact q0
        · simp (disch := omega) only [up_n]; exact q1
        · by_cases ev : v = i
          · subst ev
            simp (disch := omega) only [up_n, up_e]
            exact ⟨trivial, trivial⟩
          · simp (disch := omega) only [up_n]; exact hv v p (by omega)
    · intro μ1 hf q0 q1 hv
      refine ZE.go hW 9999 rfl (by repeat' first | exact True.intro | assumption | apply And.intro | omega) ?_
      refine ZE.b rfl (by omega) (by omega) ?_ ?_ <;> intro g1
      · refine ZE.go hW 54 rfl (by repeat' first | exact True.intro | assumption | apply And.intro | omega) ?_
        exact l2 0 (by omega) (by omega) μ1 hf ⟨q0, q1, hv⟩ (fun q p z => by omega)
      · omega
  refine ZQ.i rfl ?_
  refine ZE.go hW 15 rfl (by repeat' first | exact True.intro | assumption | apply And.intro | omega) ?_
  refine l1 0 (by omega) (by omega) _ ((Cf.rfl'.up (by omega)).up (by omega)) ?_ ?_ (fun v p q => by omega)
  · simp (disch := omega) only [up_n, up_e]; exact hC.1.1
  · rw [up_e rfl rfl]
set_option maxRecDepth 100000 in set_option maxHeartbeats 4000000 in theorem k_c_isSuited {v r : Int} (hW : Wl σ) (hv : 0 ≤ v ∧ v < 6) (hr : 0 ≤ r ∧ r < 6) (hm : 0 ≤ μ 6 r ∧ μ 6 r < 64) : ZM ext d n_X2_isSuited [(1012, 0), (0, v), (0, r)] σ μ (some (0, bz (bt (μ 6 r) v))) μ := by
  apply ZQ.ex
  refine ZQ.i rfl ?_
  refine ZE.go hW 9999 rfl (by repeat' first | exact True.intro | assumption | apply And.intro | omega) ?_
  refine ZE.b rfl (bt_rng (by omega) (by omega)) (by omega) ?_ ?_ <;> intro g1
  · refine ZE.go hW 9999 rfl (by repeat' first | exact True.intro | assumption | apply And.intro | omega) ?_
    refine ZE.rb rfl rfl (by first | exact Or.inl rfl | exact Or.inr rfl | omega) ?_
    first
      | exact ⟨by rw [bz_t (P := bt (μ 6 r) v) g1], rfl⟩
      | exact ⟨by rw [bz_f (P := bt (μ 6 r) v) g1], rfl⟩
  · refine ZE.go hW 9999 rfl (by repeat' first | exact True.intro | assumption | apply And.intro | omega) ?_
    refine ZE.rb rfl rfl (by first | exact Or.inl rfl | exact Or.inr rfl | omega) ?_
    first
      | exact ⟨by rw [bz_t (P := bt (μ 6 r) v) g1], rfl⟩
      | exact ⟨by rw [bz_f (P := bt (μ 6 r) v) g1], rfl⟩
end
