/-- the token at f is looked at -/
def TS (μ : zM) (f : Int) : Prop := μ 168 21 = tA (μ 181) (μ 168 20) f ∧ μ 168 22 = tE (μ 181) (μ 168 20) f - tA (μ 181) (μ 168 20) f ∧ μ 168 23 = t4 (μ 181) (μ 168 20) f ∧ μ 168 24 = tV (μ 181) (μ 168 20) f
/-- only the token has changed -/
def Ft (μ μ' : zM) : Prop := ∀ k j, ¬ (k = 168 ∧ 21 ≤ j ∧ j ≤ 24) → μ' k j = μ k j
theorem Ft.rfl' {μ : zM} : Ft μ μ := fun _ _ _ => rfl
theorem Ft.trans {a b c : zM} (h : Ft a b) (h2 : Ft b c) : Ft a c := fun k j p => (h2 k j p).trans (h k j p)
theorem Ft.up {a b : zM} {j x : Int} (h : Ft a b) (hj : 21 ≤ j ∧ j ≤ 24) : Ft a (up b 168 j x) := by
  intro k l p
  rw [up_n (by omega)]
  exact h k l p
def TT (μ : zM) : Prop := (0 ≤ μ 168 20 ∧ μ 168 20 ≤ 150) ∧ ∀ j, 0 ≤ j → j < μ 168 20 → 0 ≤ μ 181 j ∧ μ 181 j ≤ 127
theorem Ft.tt {a b : zM} (h : Ft a b) (ht : TT a) : TT b := by
  unfold TT
  rw [h 168 20 (by omega), show b 181 = a 181 from funext fun j => h 181 j (by omega)]
  exact ht
section
variable {ext : List xC} {σ : zSh} {d : Nat} {μ : zM}
set_option maxRecDepth 100000 in set_option maxHeartbeats 4000000 in theorem k_m_isSmall {c : Int} (hW : Wl σ) (hc : zrng c) : ZM ext (d + 1) n_X12_isSmall [(0, c)] σ μ (some (0, bz (97 ≤ c ∧ c ≤ 122))) μ := by
  refine ZM.i rfl ?_
  refine Zv.go hW 9999 rfl (by and_intros <;> first | exact True.intro | omega | assumption) ?_
  refine Zv.c0 hW rfl rfl (Nat.le_of_ble_eq_true rfl) (Nat.le_of_ble_eq_true rfl) (k_in hW hc (by omega) (by omega)) ?_
  refine Zv.rb rfl rfl rfl ?_
  rfl
set_option maxRecDepth 100000 in set_option maxHeartbeats 4000000 in theorem k_m_isFigure {c : Int} (hW : Wl σ) (hc : zrng c) : ZM ext (d + 1) n_X12_isFigure [(0, c)] σ μ (some (0, bz (48 ≤ c ∧ c ≤ 57))) μ := by
  refine ZM.i rfl ?_
  refine Zv.go hW 9999 rfl (by and_intros <;> first | exact True.intro | omega | assumption) ?_
  refine Zv.c0 hW rfl rfl (Nat.le_of_ble_eq_true rfl) (Nat.le_of_ble_eq_true rfl) (k_in hW hc (by omega) (by omega)) ?_
  refine Zv.rb rfl rfl rfl ?_
  rfl
set_option maxRecDepth 100000 in set_option maxHeartbeats 4000000 in theorem k_m_lookAt {f : Int} (hW : Wl σ) (hT : TT μ) (hf : 0 ≤ f ∧ f ≤ μ 168 20) : ZQ ext (d + 2) n_X12_lookAt [(1161, 0), (0, f)] σ μ (fun rv μ' => rv = none ∧ Ft μ μ' ∧ TS μ' f) := by
  obtain ⟨hl, hB⟩ := hT
  have hA := tA_rng (T := μ 181) hf
  have hE := tE_rng (T := μ 181) hf
  have hK := tK_rng (T := μ 181) (l := μ 168 20) (f := f)
  have hK0 := tK_0 (T := μ 181) hf
  have eK : tK (μ 181) (μ 168 20) f = sr (μ 181) (μ 168 20) (tA (μ 181) (μ 168 20) f) := rfl
  have eE : tE (μ 181) (μ 168 20) f = if tK (μ 181) (μ 168 20) f = 0 then tA (μ 181) (μ 168 20) f else if tK (μ 181) (μ 168 20) f = 1 ∨ tK (μ 181) (μ 168 20) f = 2 then rn (μ 181) (μ 168 20) (tK (μ 181) (μ 168 20) f) (μ 168 20 - (tA (μ 181) (μ 168 20) f + 1)).toNat (tA (μ 181) (μ 168 20) f + 1) else tA (μ 181) (μ 168 20) f + 1 := rfl
  have eV : tV (μ 181) (μ 168 20) f = if tK (μ 181) (μ 168 20) f = 2 then nmS (μ 181) (tA (μ 181) (μ 168 20) f) (if tE (μ 181) (μ 168 20) f - tA (μ 181) (μ 168 20) f < 3 then tE (μ 181) (μ 168 20) f - tA (μ 181) (μ 168 20) f else 3).toNat else 0 := rfl
  have e4 : t4 (μ 181) (μ 168 20) f = if tK (μ 181) (μ 168 20) f = 2 ∧ 3 < tE (μ 181) (μ 168 20) f - tA (μ 181) (μ 168 20) f then 4 else tK (μ 181) (μ 168 20) f := rfl
  have hTS : ∀ μ', Ft μ μ' → μ' 168 21 = tA (μ 181) (μ 168 20) f → μ' 168 22 = tE (μ 181) (μ 168 20) f - tA (μ 181) (μ 168 20) f → μ' 168 23 = t4 (μ 181) (μ 168 20) f → μ' 168 24 = tV (μ 181) (μ 168 20) f → TS μ' f := by
    intro μ' h a b c e
    unfold TS
    rw [h 168 20 (by omega), show μ' 181 = μ 181 from funext fun j => h 181 j (by omega)]
    exact ⟨a, b, c, e⟩
  have hVr : tK (μ 181) (μ 168 20) f = 2 → ∀ i, 0 ≤ i → i ≤ 3 → i ≤ tE (μ 181) (μ 168 20) f - tA (μ 181) (μ 168 20) f → -100000 ≤ nmS (μ 181) (tA (μ 181) (μ 168 20) f) i.toNat ∧ nmS (μ 181) (tA (μ 181) (μ 168 20) f) i.toNat ≤ 100000 := fun _ i a b c => nmS_rng i.toNat (by omega) (fun j p q => hB j (by omega) (by omega))
  have eAx : skp (μ 181) (μ 168 20 - f).toNat f = tA (μ 181) (μ 168 20) f := rfl
  generalize tA (μ 181) (μ 168 20) f = A at *
  generalize tE (μ 181) (μ 168 20) f = E at *
  generalize tK (μ 181) (μ 168 20) f = K at *
  -- behind the loops
  have l4 : ∀ (μ1 : zM) (x2 x3 x4 : V), Ft μ μ1 → μ1 168 21 = A → μ1 168 22 = E - A → μ1 168 23 = K → μ1 168 24 = tV (μ 181) (μ 168 20) f → ZE ext (d + 2) n_X12_lookAt 274 [(1161, 0), (0, f), x2, x3, x4] [] σ μ1 (fun rv μ' => rv = none ∧ Ft μ μ' ∧ TS μ' f) := by
    intro μ1 x2 x3 x4 h1 h2 h3 h4 h5
    refine ZE.go hW 9999 rfl (by and_intros <;> first | exact True.intro | omega | assumption) ?_
    refine ZE.b rfl (by omega) (by omega) ?_ ?_ <;> intro g1
    · refine ZE.go hW 9999 rfl (by and_intros <;> first | exact True.intro | omega | assumption) ?_
      refine ZE.rv rfl rfl ?_
      refine ⟨rfl, h1.up (by omega), hTS _ (h1.up (by omega)) ?_ ?_ ?_ ?_⟩
      · rw [up_n (by omega)]; exact h2
      · rw [up_n (by omega)]; exact h3
      · rw [up_s, e4]
        first
          | rw [if_pos (by omega)]
          | (rw [if_neg (by omega)]; exact h4)
      · rw [up_n (by omega)]; exact h5
    · refine ZE.go hW 9999 rfl (by and_intros <;> first | exact True.intro | omega | assumption) ?_
      refine ZE.b rfl (by omega) (by omega) ?_ ?_ <;> intro g2
      · refine ZE.go hW 9999 rfl (by and_intros <;> first | exact True.intro | omega | assumption) ?_
        refine ZE.rv rfl rfl ?_
        refine ⟨rfl, h1.up (by omega), hTS _ (h1.up (by omega)) ?_ ?_ ?_ ?_⟩
        · rw [up_n (by omega)]; exact h2
        · rw [up_n (by omega)]; exact h3
        · rw [up_s, e4]
          first
            | rw [if_pos (by omega)]
            | (rw [if_neg (by omega)]; exact h4)
        · rw [up_n (by omega)]; exact h5
      · refine ZE.go hW 9999 rfl (by and_intros <;> first | exact True.intro | omega | assumption) ?_
        refine ZE.rv rfl rfl ?_
        refine ⟨rfl, h1.up (by omega), hTS _ (h1.up (by omega)) ?_ ?_ ?_ ?_⟩
        · rw [up_n (by omega)]; exact h2
        · rw [up_n (by omega)]; exact h3
        · rw [up_s, e4]
          first
            | rw [if_pos (by omega)]
            | (rw [if_neg (by omega)]; exact h4)
        · rw [up_n (by omega)]; exact h5
  have l3 : ∀ (q : Nat) (i : Int) (μ1 : zM) (x2 : V) (x3 : Int), 0 ≤ i → i + q = 3 → A < μ 168 20 → A < E → Ft μ μ1 → μ1 168 21 = A → μ1 168 22 = E - A → μ1 168 23 = K → (K = 2 → i ≤ E - A ∧ μ1 168 24 = nmS (μ 181) A i.toNat) → (K ≠ 2 → μ1 168 24 = 0 ∧ i = 0) → ZE ext (d + 2) n_X12_lookAt 218 [(1161, 0), (0, f), x2, (0, x3), (0, i)] [] σ μ1 (fun rv μ' => rv = none ∧ Ft μ μ' ∧ TS μ' f) := by
    intro q
    induction q with
    | zero =>
      intro i μ1 x2 x3 h0 hi hAl hAE h1 h2 h3 h4 h5 h6
      have eV3 : μ1 168 24 = tV (μ 181) (μ 168 20) f := by
        rw [eV]
        by_cases k2 : K = 2
        · rw [if_pos k2, (h5 k2).2, if_neg (by have := (h5 k2).1; omega), show i = 3 by omega]
        · rw [if_neg k2, (h6 k2).1]
      refine ZE.go hW 9999 rfl (by and_intros <;> first | exact True.intro | omega | assumption) ?_
      refine ZE.b rfl (by omega) (by omega) ?_ ?_ <;> intro g1
      · exact l4 μ1 _ _ _ h1 h2 h3 h4 eV3
      · refine ZE.go hW 9999 rfl (by and_intros <;> first | exact True.intro | omega | assumption) ?_
        refine ZE.b rfl (by omega) (by omega) ?_ ?_ <;> intro g2
        · exact l4 μ1 _ _ _ h1 h2 h3 h4 eV3
        · omega
    | succ q ih =>
      intro i μ1 x2 x3 h0 hi hAl hAE h1 h2 h3 h4 h5 h6
      have e174 := h1 181 (A + i) (by omega)
      have ev : K = 2 → i = E - A → μ1 168 24 = tV (μ 181) (μ 168 20) f := by
        intro k2 hie
        rw [eV, if_pos k2, (h5 k2).2, if_pos (by omega), hie]
      have ev2 : K ≠ 2 → μ1 168 24 = tV (μ 181) (μ 168 20) f := by
        intro k2
        rw [eV, if_neg k2, (h6 k2).1]
      refine ZE.go hW 9999 rfl (by and_intros <;> first | exact True.intro | omega | assumption) ?_
      refine ZE.b rfl (by omega) (by omega) ?_ ?_ <;> intro g1
      · first
          | exact l4 μ1 _ _ _ h1 h2 h3 h4 (ev2 (by omega))
          | (by_cases k2 : K = 2
             · exact l4 μ1 _ _ _ h1 h2 h3 h4 (ev k2 (by have := (h5 k2).1; omega))
             · exact l4 μ1 _ _ _ h1 h2 h3 h4 (ev2 k2))
      · refine ZE.go hW 9999 rfl (by and_intros <;> first | exact True.intro | omega | assumption) ?_
        refine ZE.b rfl (by omega) (by omega) ?_ ?_ <;> intro g2
        · omega
        · refine ZE.go hW 9999 rfl (by and_intros <;> first | exact True.intro | omega | assumption) ?_
          have h5' := fun k2 => (h5 k2).1
          have eA := h2
          refine ZE.b rfl (by omega) (by omega) ?_ ?_ <;> intro g3
          · first
              | exact l4 μ1 _ _ _ h1 h2 h3 h4 (ev2 (by omega))
              | (by_cases k2 : K = 2
                 · exact l4 μ1 _ _ _ h1 h2 h3 h4 (ev k2 (by have := (h5 k2).1; omega))
                 · exact l4 μ1 _ _ _ h1 h2 h3 h4 (ev2 k2))
          · have k2 : K = 2 := by omega
            have h59 := h5 k2
            have hB1 := hB (A + i) (by omega) (by omega)
            refine ZE.go hW 218 rfl (by and_intros <;> first | exact True.intro | omega | assumption) ?_
            rw [h2, h59.2, e174]
            refine ih (i + 1) _ _ _ (by omega) (by omega) hAl hAE (h1.up (by omega)) ?_ ?_ ?_ (fun _ => ⟨by omega, ?_⟩) (fun z => absurd k2 z)
            · rw [up_n (by omega)]; exact h2
            · rw [up_n (by omega)]; exact h3
            · rw [up_n (by omega)]; exact h4
            · rw [up_s, nmS_s h0]
  have l2 : ∀ (q : Nat) (n g : Int) (μ1 : zM) (x2 : Int) (x4 : V), 1 ≤ n → A + n + q = μ 168 20 → A < μ 168 20 → A < E → Ft μ μ1 → μ1 168 21 = A → μ1 168 22 = n → μ1 168 23 = K → μ1 168 24 = 0 → (g = 0 ∨ g = 1) → (g = 0 → E = A + n) → (g = 1 → (K = 1 ∨ K = 2) ∧ rn (μ 181) (μ 168 20) K q (A + n) = E) → ZE ext (d + 2) n_X12_lookAt 136 [(1161, 0), (0, f), (0, x2), (0, g), x4] [] σ μ1 (fun rv μ' => rv = none ∧ Ft μ μ' ∧ TS μ' f) := by
    intro q
    have fin : ∀ (n : Int) (μ1 : zM) (x2 : V) (x3 : Int) (x4 : V), 1 ≤ n → A < μ 168 20 → A < E → Ft μ μ1 → μ1 168 21 = A → μ1 168 22 = n → μ1 168 23 = K → μ1 168 24 = 0 → E = A + n → ZE ext (d + 2) n_X12_lookAt 215 [(1161, 0), (0, f), x2, (0, x3), x4] [] σ μ1 (fun rv μ' => rv = none ∧ Ft μ μ' ∧ TS μ' f) := by
      intro n μ1 x2 x3 x4 hn hAl hAE h1 h2 h3 h4 h5 hEn
      refine ZE.go hW 218 rfl (by and_intros <;> first | exact True.intro | omega | assumption) ?_
      exact l3 3 0 μ1 _ _ (by omega) (by omega) hAl hAE h1 h2 (by omega) h4 (fun _ => ⟨by omega, h5⟩) (fun _ => ⟨h5, rfl⟩)
    induction q with
    | zero =>
      intro n g μ1 x2 x4 hn hq hAl hAE h1 h2 h3 h4 h5 hg h6 h7
      have l20 := h1 168 20 (by omega)
      have hE1 : g = 1 → E = A + n := fun z => (h7 z).2.symm
      refine ZE.go hW 9999 rfl (by and_intros <;> first | exact True.intro | omega | assumption) ?_
      refine ZE.b0 rfl (by omega) ?_ ?_ <;> intro g1
      · first
          | exact fin n μ1 _ _ _ hn hAl hAE h1 h2 h3 h4 h5 (h6 (by omega))
          | exact fin n μ1 _ _ _ hn hAl hAE h1 h2 h3 h4 h5 (hE1 (by omega))
      · refine ZE.go hW 9999 rfl (by and_intros <;> first | exact True.intro | omega | assumption) ?_
        refine ZE.b rfl (by omega) (by omega) ?_ ?_ <;> intro g2
        · first
            | exact fin n μ1 _ _ _ hn hAl hAE h1 h2 h3 h4 h5 (h6 (by omega))
            | exact fin n μ1 _ _ _ hn hAl hAE h1 h2 h3 h4 h5 (hE1 (by omega))
        · omega
    | succ q ih =>
      intro n g μ1 x2 x4 hn hq hAl hAE h1 h2 h3 h4 h5 hg h6 h7
      have l20 := h1 168 20 (by omega)
      have e174 := h1 181 (A + n) (by omega)
      have hB1 := hB (A + n) (by omega) (by omega)
      have hs : sr (μ 181) (μ 168 20) (A + n) = if 97 ≤ μ 181 (A + n) ∧ μ 181 (A + n) ≤ 122 then 1 else if 48 ≤ μ 181 (A + n) ∧ μ 181 (A + n) ≤ 57 then 2 else if μ 181 (A + n) = 59 then 3 else 4 := if_neg (by omega)
      have go : g = 1 → sr (μ 181) (μ 168 20) (A + n) = K → rn (μ 181) (μ 168 20) K q (A + (n + 1)) = E := by
        intro z1 z2
        have := (h7 z1).2
        have e : rn (μ 181) (μ 168 20) K (q + 1) (A + n) = rn (μ 181) (μ 168 20) K q (A + n + 1) := if_pos z2
        rw [e] at this
        rw [show A + (n + 1) = A + n + 1 by omega]
        exact this
      have stop : g = 1 → sr (μ 181) (μ 168 20) (A + n) ≠ K → E = A + n := by
        intro z1 z2
        have := (h7 z1).2
        have e : rn (μ 181) (μ 168 20) K (q + 1) (A + n) = A + n := if_neg z2
        rw [e] at this
        exact this.symm
      have yes : ∀ (x2 : Int) (x4 : V), g = 1 → sr (μ 181) (μ 168 20) (A + n) = K → ZE ext (d + 2) n_X12_lookAt 136 [(1161, 0), (0, f), (0, x2), (0, 1), x4] [] σ (up μ1 168 22 (μ1 168 22 + 1)) (fun rv μ' => rv = none ∧ Ft μ μ' ∧ TS μ' f) := by
        intro x2 x4 z1 z2
        refine ih (n + 1) 1 _ _ _ (by omega) (by omega) hAl hAE (h1.up (by omega)) ?_ ?_ ?_ ?_ (Or.inr rfl) (fun z => absurd z (by omega)) (fun _ => ⟨(h7 z1).1, go z1 z2⟩)
        · rw [up_n (by omega)]; exact h2
        · rw [up_s, h3]
        · rw [up_n (by omega)]; exact h4
        · rw [up_n (by omega)]; exact h5
      have no : ∀ (x2 : Int) (x4 : V), g = 1 → sr (μ 181) (μ 168 20) (A + n) ≠ K → ZE ext (d + 2) n_X12_lookAt 136 [(1161, 0), (0, f), (0, x2), (0, 0), x4] [] σ (up μ1 168 22 (μ1 168 22 + 0)) (fun rv μ' => rv = none ∧ Ft μ μ' ∧ TS μ' f) := by
        intro x2 x4 z1 z2
        have hEn := stop z1 z2
        have n22 : up μ1 168 22 (μ1 168 22 + 0) 168 22 = n := by rw [up_s, h3]; omega
        have n21 : up μ1 168 22 (μ1 168 22 + 0) 168 21 = A := by rw [up_n (by omega)]; exact h2
        refine ZE.go hW 9999 rfl (by and_intros <;> first | exact True.intro | omega | assumption) ?_
        refine ZE.b0 rfl (by omega) ?_ ?_ <;> intro g1
        · refine fin n _ _ _ _ hn hAl hAE (h1.up (by omega)) n21 n22 ?_ ?_ hEn
          · rw [up_n (by omega)]; exact h4
          · rw [up_n (by omega)]; exact h5
        · omega
      have n0 : g = 0 → E = A + n := h6
      have rd : μ1 181 (μ1 168 21 + μ1 168 22) = μ 181 (A + n) := by rw [h2, h3, e174]
      refine ZE.go hW 9999 rfl (by and_intros <;> first | exact True.intro | omega | assumption) ?_
      refine ZE.b0 rfl (by omega) ?_ ?_ <;> intro g1
      · first
          | exact fin n μ1 _ _ _ hn hAl hAE h1 h2 h3 h4 h5 (h6 (by omega))
          | (exfalso; omega)
      · have g1' : g = 1 := by omega
        have h71 := (h7 g1').1
        refine ZE.go hW 9999 rfl (by and_intros <;> first | exact True.intro | omega | assumption) ?_
        refine ZE.b rfl (by omega) (by omega) ?_ ?_ <;> intro g2
        · first
            | exact fin n μ1 _ _ _ hn hAl hAE h1 h2 h3 h4 h5 (h6 (by omega))
            | (exfalso; omega)
        · refine ZE.go hW 172 rfl (by and_intros <;> first | exact True.intro | omega | assumption) ?_
          rw [rd]
          refine ZE.go hW 9999 rfl (by and_intros <;> first | exact True.intro | omega | assumption) ?_
          refine ZE.b rfl (by omega) (by omega) ?_ ?_ <;> intro g3
          · refine ZE.go hW 9999 rfl (by and_intros <;> first | exact True.intro | omega | assumption) ?_
            refine ZE.c0 hW rfl rfl (Nat.le_of_ble_eq_true rfl) (Nat.le_of_ble_eq_true rfl) (k_m_isFigure (d := d) hW (by omega)) ?_
            refine ZE.go hW 9999 rfl (by and_intros <;> first | exact True.intro | omega | assumption) ?_
            refine ZE.bp rfl rfl ?_ ?_ <;> intro g4
            · refine ZE.go hW 136 rfl (by and_intros <;> first | exact True.intro | omega | assumption) ?_
              first
                | (rw [bz_t g4]; exact yes _ _ g1' (by rw [hs, if_pos g4]; omega))
                | (rw [bz_f g4]; exact no _ _ g1' (by rw [hs, if_neg g4]; split <;> (try split) <;> omega))
                | (rw [bz_t g4]; exact yes _ _ g1' (by rw [hs, if_neg (by omega), if_pos g4]; omega))
                | (rw [bz_f g4]; exact no _ _ g1' (by rw [hs, if_neg g4]; split <;> (try split) <;> omega))
            · refine ZE.go hW 136 rfl (by and_intros <;> first | exact True.intro | omega | assumption) ?_
              first
                | (rw [bz_t g4]; exact yes _ _ g1' (by rw [hs, if_pos g4]; omega))
                | (rw [bz_f g4]; exact no _ _ g1' (by rw [hs, if_neg g4]; split <;> (try split) <;> omega))
                | (rw [bz_t g4]; exact yes _ _ g1' (by rw [hs, if_neg (by omega), if_pos g4]; omega))
                | (rw [bz_f g4]; exact no _ _ g1' (by rw [hs, if_neg g4]; split <;> (try split) <;> omega))
          · refine ZE.go hW 9999 rfl (by and_intros <;> first | exact True.intro | omega | assumption) ?_
            refine ZE.c0 hW rfl rfl (Nat.le_of_ble_eq_true rfl) (Nat.le_of_ble_eq_true rfl) (k_m_isSmall (d := d) hW (by omega)) ?_
            refine ZE.go hW 9999 rfl (by and_intros <;> first | exact True.intro | omega | assumption) ?_
            refine ZE.bp rfl rfl ?_ ?_ <;> intro g4
            · refine ZE.go hW 136 rfl (by and_intros <;> first | exact True.intro | omega | assumption) ?_
              first
                | (rw [bz_t g4]; exact yes _ _ g1' (by rw [hs, if_pos g4]; omega))
                | (rw [bz_f g4]; exact no _ _ g1' (by rw [hs, if_neg g4]; split <;> (try split) <;> omega))
                | (rw [bz_t g4]; exact yes _ _ g1' (by rw [hs, if_neg (by omega), if_pos g4]; omega))
                | (rw [bz_f g4]; exact no _ _ g1' (by rw [hs, if_neg g4]; split <;> (try split) <;> omega))
            · refine ZE.go hW 136 rfl (by and_intros <;> first | exact True.intro | omega | assumption) ?_
              first
                | (rw [bz_t g4]; exact yes _ _ g1' (by rw [hs, if_pos g4]; omega))
                | (rw [bz_f g4]; exact no _ _ g1' (by rw [hs, if_neg g4]; split <;> (try split) <;> omega))
                | (rw [bz_t g4]; exact yes _ _ g1' (by rw [hs, if_neg (by omega), if_pos g4]; omega))
                | (rw [bz_f g4]; exact no _ _ g1' (by rw [hs, if_neg g4]; split <;> (try split) <;> omega))
  have l1 : ∀ (q : Nat) (i : Int) (μ1 : zM), 0 ≤ i → i + q = μ 168 20 → Ft μ μ1 → μ1 168 21 = i → skp (μ 181) q i = A → ZE ext (d + 2) n_X12_lookAt 5 [(1161, 0), (0, f), (4, 0), (4, 0), (4, 0)] [] σ μ1 (fun rv μ' => rv = none ∧ Ft μ μ' ∧ TS μ' f) := by
    intro q
    have fin : ∀ (μ1 : zM), Ft μ μ1 → μ1 168 21 = A → ZE ext (d + 2) n_X12_lookAt 43 [(1161, 0), (0, f), (4, 0), (4, 0), (4, 0)] [] σ μ1 (fun rv μ' => rv = none ∧ Ft μ μ' ∧ TS μ' f) := by
      intro μ1 h1 h2
      have l20 : up (up (up μ1 168 22 0) 168 23 0) 168 24 0 168 20 = μ 168 20 := by rw [up_n (by omega), up_n (by omega), up_n (by omega)]; exact h1 168 20 (by omega)
      have l21 : up (up (up μ1 168 22 0) 168 23 0) 168 24 0 168 21 = A := by rw [up_n (by omega), up_n (by omega), up_n (by omega)]; exact h2
      have l22 : up (up (up μ1 168 22 0) 168 23 0) 168 24 0 168 22 = 0 := by rw [up_n (by omega), up_n (by omega), up_s]
      have l23 : up (up (up μ1 168 22 0) 168 23 0) 168 24 0 168 23 = 0 := by rw [up_n (by omega), up_s]
      have l24 : up (up (up μ1 168 22 0) 168 23 0) 168 24 0 168 24 = 0 := up_s
      have lF : Ft μ (up (up (up μ1 168 22 0) 168 23 0) 168 24 0) := ((h1.up (by omega)).up (by omega)).up (by omega)
      generalize hμ2 : up (up (up μ1 168 22 0) 168 23 0) 168 24 0 = μ2 at l20 l21 l22 l23 l24 lF
      have hs : A < μ 168 20 → sr (μ 181) (μ 168 20) A = if 97 ≤ μ 181 A ∧ μ 181 A ≤ 122 then 1 else if 48 ≤ μ 181 A ∧ μ 181 A ≤ 57 then 2 else if μ 181 A = 59 then 3 else 4 := fun z => if_neg (by omega)
      have e174 := lF 181 A (by omega)
      have rd : μ2 181 (μ2 168 21) = μ 181 A := by rw [l21, e174]
      have b4 : ∀ (s x2 : Int), A < μ 168 20 → K = s → (1 ≤ s ∧ s ≤ 4) → ZE ext (d + 2) n_X12_lookAt 117 [(1161, 0), (0, f), (0, x2), (4, 0), (4, 0)] [] σ (up μ2 168 23 s) (fun rv μ' => rv = none ∧ Ft μ μ' ∧ TS μ' f) := by
        intro s x2 hAl hKs hs4
        have m21 : up (up μ2 168 23 s) 168 22 1 168 21 = A := by rw [up_n (by omega), up_n (by omega)]; exact l21
        have m22 : up (up μ2 168 23 s) 168 22 1 168 22 = 1 := up_s
        have m23 : up (up μ2 168 23 s) 168 22 1 168 23 = s := by rw [up_n (by omega), up_s]
        have m24 : up (up μ2 168 23 s) 168 22 1 168 24 = 0 := by rw [up_n (by omega), up_n (by omega)]; exact l24
        have mF : Ft μ (up (up μ2 168 23 s) 168 22 1) := (lF.up (by omega)).up (by omega)
        have hE1 := eE
        rw [if_neg (by omega)] at hE1
        refine ZE.go hW 9999 rfl (by and_intros <;> first | exact True.intro | omega | assumption) ?_
        refine ZE.b rfl (by omega) (by omega) ?_ ?_ <;> intro g1
        · refine ZE.go hW 136 rfl (by and_intros <;> first | exact True.intro | omega | assumption) ?_
          first
            | (exfalso; omega)
            | (rw [if_pos (by omega)] at hE1
               exact l2 (μ 168 20 - (A + 1)).toNat 1 1 _ _ _ (by omega) (by omega) hAl (by omega) mF m21 m22 (by rw [m23, hKs]) m24 (Or.inr rfl) (fun z => absurd z (by omega)) (fun _ => ⟨by omega, hE1.symm⟩))
            | (rw [if_neg (by omega)] at hE1
               exact l2 (μ 168 20 - (A + 1)).toNat 1 0 _ _ _ (by omega) (by omega) hAl (by omega) mF m21 m22 (by rw [m23, hKs]) m24 (Or.inl rfl) (fun _ => hE1) (fun z => absurd z (by omega)))
        · refine ZE.go hW 136 rfl (by and_intros <;> first | exact True.intro | omega | assumption) ?_
          first
            | (exfalso; omega)
            | (rw [if_pos (by omega)] at hE1
               exact l2 (μ 168 20 - (A + 1)).toNat 1 1 _ _ _ (by omega) (by omega) hAl (by omega) mF m21 m22 (by rw [m23, hKs]) m24 (Or.inr rfl) (fun z => absurd z (by omega)) (fun _ => ⟨by omega, hE1.symm⟩))
            | (rw [if_neg (by omega)] at hE1
               exact l2 (μ 168 20 - (A + 1)).toNat 1 0 _ _ _ (by omega) (by omega) hAl (by omega) mF m21 m22 (by rw [m23, hKs]) m24 (Or.inl rfl) (fun _ => hE1) (fun z => absurd z (by omega)))
      refine ZE.go hW 9999 rfl (by and_intros <;> first | exact True.intro | omega | assumption) ?_
      rw [hμ2]
      refine ZE.b rfl (by omega) (by omega) ?_ ?_ <;> intro g1
      · refine ZE.go hW 80 rfl (by and_intros <;> first | exact True.intro | omega | assumption) ?_
        rw [rd]
        have hAl : A < μ 168 20 := by omega
        have hsA := hs hAl
        have hBA := hB A (by omega) (by omega)
        refine ZE.go hW 9999 rfl (by and_intros <;> first | exact True.intro | omega | assumption) ?_
        refine ZE.c0 hW rfl rfl (Nat.le_of_ble_eq_true rfl) (Nat.le_of_ble_eq_true rfl) (k_m_isSmall (d := d) hW (by omega)) ?_
        refine ZE.bp rfl rfl ?_ ?_ <;> intro g2
        · refine ZE.go hW 9999 rfl (by and_intros <;> first | exact True.intro | omega | assumption) ?_
          refine ZE.c0 hW rfl rfl (Nat.le_of_ble_eq_true rfl) (Nat.le_of_ble_eq_true rfl) (k_m_isFigure (d := d) hW (by omega)) ?_
          refine ZE.bp rfl rfl ?_ ?_ <;> intro g3
          · refine ZE.go hW 9999 rfl (by and_intros <;> first | exact True.intro | omega | assumption) ?_
            refine ZE.b rfl (by omega) (by omega) ?_ ?_ <;> intro g4
            · refine ZE.go hW 117 rfl (by and_intros <;> first | exact True.intro | omega | assumption) ?_
              first
                | exact b4 1 _ hAl (by rw [eK, hsA, if_pos g2]) (by omega)
                | exact b4 2 _ hAl (by rw [eK, hsA, if_neg g2, if_pos g3]) (by omega)
                | exact b4 3 _ hAl (by rw [eK, hsA, if_neg g2, if_neg g3, if_pos g4]) (by omega)
                | exact b4 4 _ hAl (by rw [eK, hsA, if_neg g2, if_neg g3, if_neg g4]) (by omega)
            · refine ZE.go hW 117 rfl (by and_intros <;> first | exact True.intro | omega | assumption) ?_
              first
                | exact b4 1 _ hAl (by rw [eK, hsA, if_pos g2]) (by omega)
                | exact b4 2 _ hAl (by rw [eK, hsA, if_neg g2, if_pos g3]) (by omega)
                | exact b4 3 _ hAl (by rw [eK, hsA, if_neg g2, if_neg g3, if_pos g4]) (by omega)
                | exact b4 4 _ hAl (by rw [eK, hsA, if_neg g2, if_neg g3, if_neg g4]) (by omega)
          · refine ZE.go hW 117 rfl (by and_intros <;> first | exact True.intro | omega | assumption) ?_
            first
              | exact b4 1 _ hAl (by rw [eK, hsA, if_pos g2]) (by omega)
              | exact b4 2 _ hAl (by rw [eK, hsA, if_neg g2, if_pos g3]) (by omega)
              | exact b4 3 _ hAl (by rw [eK, hsA, if_neg g2, if_neg g3, if_pos g4]) (by omega)
              | exact b4 4 _ hAl (by rw [eK, hsA, if_neg g2, if_neg g3, if_neg g4]) (by omega)
        · refine ZE.go hW 117 rfl (by and_intros <;> first | exact True.intro | omega | assumption) ?_
          first
            | exact b4 1 _ hAl (by rw [eK, hsA, if_pos g2]) (by omega)
            | exact b4 2 _ hAl (by rw [eK, hsA, if_neg g2, if_pos g3]) (by omega)
            | exact b4 3 _ hAl (by rw [eK, hsA, if_neg g2, if_neg g3, if_pos g4]) (by omega)
            | exact b4 4 _ hAl (by rw [eK, hsA, if_neg g2, if_neg g3, if_neg g4]) (by omega)
      · have hA0 : A = μ 168 20 := by omega
        have hk0 : K = 0 := hK0.mpr hA0
        refine ZE.rv rfl rfl ?_
        have hA0 : A = μ 168 20 := by omega
        have hk0 : K = 0 := hK0.mpr hA0
        rw [if_pos hk0] at eE
        refine ⟨rfl, lF, hTS _ lF l21 (by omega) ?_ ?_⟩
        · rw [l23, e4, if_neg (by omega), hk0]
        · rw [l24, eV, if_neg (by omega)]
    induction q with
    | zero =>
      intro i μ1 h0 hi h1 h2 h3
      have l20 := h1 168 20 (by omega)
      have h3 : i = A := h3
      refine ZE.go hW 9999 rfl (by and_intros <;> first | exact True.intro | omega | assumption) ?_
      refine ZE.b rfl (by omega) (by omega) ?_ ?_ <;> intro g1
      · exact fin μ1 h1 (by omega)
      · omega
    | succ q ih =>
      intro i μ1 h0 hi h1 h2 h3
      have l20 := h1 168 20 (by omega)
      have e174 : μ1 181 (μ1 168 21) = μ 181 i := by rw [h2]; exact h1 181 i (by omega)
      have hBi := hB i h0 (by omega)
      have h3 : (if μ 181 i = 32 then skp (μ 181) q (i + 1) else i) = A := h3
      refine ZE.go hW 9999 rfl (by and_intros <;> first | exact True.intro | omega | assumption) ?_
      refine ZE.b rfl (by omega) (by omega) ?_ ?_ <;> intro g1
      · omega
      · refine ZE.go hW 9999 rfl (by and_intros <;> first | exact True.intro | omega | assumption) ?_
        refine ZE.b rfl (by omega) (by omega) ?_ ?_ <;> intro g2
        · rw [if_neg (by omega)] at h3
          exact fin μ1 h1 (by omega)
        · refine ZE.go hW 5 rfl (by and_intros <;> first | exact True.intro | omega | assumption) ?_
          rw [if_pos (by omega)] at h3
          refine ih (i + 1) _ (by omega) (by omega) (h1.up (by omega)) ?_ h3
          rw [up_s, h2]
  refine ZQ.i rfl ?_
  refine ZE.go hW 5 rfl (by and_intros <;> first | exact True.intro | omega | assumption) ?_
  exact l1 (μ 168 20 - f).toNat f _ hf.1 (by omega) (Ft.rfl'.up (by omega)) up_s eAx
end
