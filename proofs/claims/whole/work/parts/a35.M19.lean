theorem TS.cg {μ μ' : zM} {f : Int} (h : TS μ f) (h1 : ∀ j, 20 ≤ j → j ≤ 24 → μ' 168 j = μ 168 j) (h2 : μ' 181 = μ 181) : TS μ' f := by
  unfold TS
  rw [h1 21 (by omega) (by omega), h1 22 (by omega) (by omega), h1 23 (by omega) (by omega), h1 24 (by omega) (by omega), h1 20 (by omega) (by omega), h2]
  exact h
theorem TS.tok {μ : zM} {f : Int} (h : TS μ f) : (μ 168 23 = 2 ↔ tK (μ 181) (μ 168 20) f = 2 ∧ tE (μ 181) (μ 168 20) f - tA (μ 181) (μ 168 20) f ≤ 3) ∧ (μ 168 23 = 1 ↔ tK (μ 181) (μ 168 20) f = 1) ∧ (μ 168 23 = 3 ↔ tK (μ 181) (μ 168 20) f = 3) ∧ (μ 168 23 = 0 ↔ tK (μ 181) (μ 168 20) f = 0) ∧ (0 ≤ μ 168 23 ∧ μ 168 23 ≤ 4) := by
  have h3 := h.2.2.1
  have hk := tK_rng (T := μ 181) (l := μ 168 20) (f := f)
  unfold t4 at h3
  split at h3 <;> omega
/-- the text and its length -/
def Fx (μ μ' : zM) : Prop := ∀ k j, ¬ (k = 168 ∧ 21 ≤ j ∧ j ≤ 24) → k ≠ 182 → k ≠ 183 → μ' k j = μ k j
theorem Fx.trans {a b c : zM} (h : Fx a b) (h2 : Fx b c) : Fx a c := fun k j p q r => (h2 k j p q r).trans (h k j p q r)
theorem Fx.t {a b : zM} (h : Fx a b) : b 181 = a 181 := funext fun j => h 181 j (by omega) (by omega) (by omega)
theorem Fx.l {a b : zM} (h : Fx a b) : b 168 20 = a 168 20 := h 168 20 (by omega) (by omega) (by omega)
theorem Fx.tt {a b : zM} (h : Fx a b) (ht : TT a) : TT b := by
  unfold TT
  rw [h.l, h.t]
  exact ht
theorem Ft.x {a b : zM} (h : Ft a b) : Fx a b := fun k j p _ _ => h k j p
section
variable {ext : List xC} {σ : zSh} {d : Nat} {μ : zM}
set_option maxRecDepth 100000 in set_option maxHeartbeats 4000000 in theorem k_m_goBehind {f : Int} (hW : Wl σ) (hT : TT μ) (hf : 0 ≤ f ∧ f ≤ μ 168 20) (hS : TS μ f) : ZQ ext (d + 3) n_X12_goBehind [(1161, 0)] σ μ (fun rv μ' => rv = none ∧ Ft μ μ' ∧ TS μ' (tE (μ 181) (μ 168 20) f)) := by
  have hE := tE_rng (T := μ 181) hf
  have hA := tA_rng (T := μ 181) hf
  have e : μ 168 21 + μ 168 22 = tE (μ 181) (μ 168 20) f := by rw [hS.1, hS.2.1]; omega
  refine ZQ.i rfl ?_
  refine ZE.go hW 9999 rfl (by and_intros <;> first | exact True.intro | omega | assumption) ?_
  refine ZE.q0 hW rfl rfl (Nat.le_of_ble_eq_true rfl) (Nat.le_of_ble_eq_true rfl) (k_m_lookAt (d := d) hW hT (by omega)) ?_
  rintro rv9 μ1 ⟨rfl, h1, h2⟩
  refine ZE.rv rfl rfl ?_
  rw [e] at h2
  exact ⟨rfl, h1, h2⟩
set_option maxRecDepth 100000 in set_option maxHeartbeats 4000000 in theorem k_m_isCalled {f n a b c p e g : Int} (hW : Wl σ) (hT : TT μ) (hf : 0 ≤ f ∧ f ≤ μ 168 20) (hS : TS μ f) (hn : 0 ≤ n ∧ n ≤ 6) (ha : zrng a) (hb : zrng b) (hc : zrng c) (hp : zrng p) (he : zrng e) (hg : zrng g) : ZM ext d n_X12_isCalled [(1161, 0), (0, n), (0, a), (0, b), (0, c), (0, p), (0, e), (0, g)] σ μ (some (0, bz (wdO (μ 181) (μ 168 20) f n a b c p e g))) μ := by
  have hE := tE_rng (T := μ 181) hf
  have hA := tA_rng (T := μ 181) hf
  have ht := hS.tok
  have e21 := hS.1
  have e22 := hS.2.1
  have hB := hT.2
  have hl := hT.1
  have eW : wdO (μ 181) (μ 168 20) f n a b c p e g = (tK (μ 181) (μ 168 20) f = 1 ∧ tE (μ 181) (μ 168 20) f - tA (μ 181) (μ 168 20) f = n ∧ ∀ k, 0 ≤ k → k < n → μ 181 (tA (μ 181) (μ 168 20) f + k) = (if k = 0 then a else if k = 1 then b else if k = 2 then c else if k = 3 then p else if k = 4 then e else g)) := rfl
  rw [eW]
  apply ZQ.ex
  generalize tA (μ 181) (μ 168 20) f = A at *
  generalize tE (μ 181) (μ 168 20) f = E at *
  generalize tK (μ 181) (μ 168 20) f = K at *
  generalize hW2 : (K = 1 ∧ E - A = n ∧ ∀ k, 0 ≤ k → k < n → μ 181 (A + k) = (if k = 0 then a else if k = 1 then b else if k = 2 then c else if k = 3 then p else if k = 4 then e else g)) = W
  have main : ∀ i, 0 ≤ i → i ≤ n → K = 1 ∧ E - A = n → ∀ P : Prop, (P ↔ ∀ k, 0 ≤ k → k < i → μ 181 (A + k) = (if k = 0 then a else if k = 1 then b else if k = 2 then c else if k = 3 then p else if k = 4 then e else g)) → ZE ext d n_X12_isCalled 26 [(1161, 0), (0, n), (0, a), (0, b), (0, c), (0, p), (0, e), (0, g), (0, bz P), (0, i)] [] σ μ (fun a b => a = some (0, bz W) ∧ b = μ) := by
    refine loopU ?_ ?_
    · intro i h0 hi ih hK P hP
      have hBi := hB (A + i) (by omega) (by omega)
      have rd : μ 181 (μ 168 21 + i) = μ 181 (A + i) := by rw [e21]
      have y1 : P → μ 181 (A + i) = (if i = 0 then a else if i = 1 then b else if i = 2 then c else if i = 3 then p else if i = 4 then e else g) → ZE ext d n_X12_isCalled 26 [(1161, 0), (0, n), (0, a), (0, b), (0, c), (0, p), (0, e), (0, g), (0, 1), (0, i + 1)] [] σ μ (fun a b => a = some (0, bz W) ∧ b = μ) := by
        intro hp1 hq
        have := ih hK True ⟨fun _ k x y => by
          by_cases ek : k = i
          · rw [ek]; exact hq
          · exact hP.mp hp1 k x (by omega), fun _ => trivial⟩
        rw [bz_t trivial] at this
        exact this
      have y0 : μ 181 (A + i) ≠ (if i = 0 then a else if i = 1 then b else if i = 2 then c else if i = 3 then p else if i = 4 then e else g) → ZE ext d n_X12_isCalled 26 [(1161, 0), (0, n), (0, a), (0, b), (0, c), (0, p), (0, e), (0, g), (0, 0), (0, i + 1)] [] σ μ (fun a b => a = some (0, bz W) ∧ b = μ) := by
        intro hq
        have := ih hK False ⟨fun q => q.elim, fun q => hq (q i h0 (by omega))⟩
        rw [bz_f (fun q => q)] at this
        exact this
      have hch : ∃ ch, ch = (if i = 0 then a else if i = 1 then b else if i = 2 then c else if i = 3 then p else if i = 4 then e else g) := ⟨_, rfl⟩
      obtain ⟨ch, hch⟩ := hch
      rw [← hch] at y1 y0
      have hch0 : i = 0 → ch = a := fun z => by rw [hch, if_pos z]
      have hch1 : i = 1 → ch = b := fun z => by rw [hch, if_neg (by omega), if_pos z]
      have hch2 : i = 2 → ch = c := fun z => by rw [hch, if_neg (by omega), if_neg (by omega), if_pos z]
      have hch3 : i = 3 → ch = p := fun z => by rw [hch, if_neg (by omega), if_neg (by omega), if_neg (by omega), if_pos z]
      have hch4 : i = 4 → ch = e := fun z => by rw [hch, if_neg (by omega), if_neg (by omega), if_neg (by omega), if_neg (by omega), if_pos z]
      have hch5 : i = 5 → ch = g := fun z => by rw [hch, if_neg (by omega), if_neg (by omega), if_neg (by omega), if_neg (by omega), if_neg (by omega)]
      refine ZE.go hW 9999 rfl (by and_intros <;> first | exact True.intro | omega | assumption) ?_
      refine ZE.b rfl (by omega) (by omega) ?_ ?_ <;> intro g1
      · omega
      · refine ZE.go hW 9999 rfl (by and_intros <;> first | exact True.intro | omega | assumption) ?_
        refine ZE.bp rfl rfl ?_ ?_ <;> intro g2
        · refine ZE.go hW 9999 rfl (by and_intros <;> first | exact True.intro | omega | assumption) ?_
          refine ZE.rb rfl rfl (bz_01 _) ?_
          refine ⟨?_, rfl⟩
          rw [bz_f g2, bz_f (fun q : W => by rw [← hW2] at q; exact g2 (hP.mpr (fun k x y => q.2.2 k x (by omega))))]
        · refine ZE.go hW 49 rfl (by and_intros <;> first | exact True.intro | omega | assumption) ?_
          rw [rd]
          refine ZE.go hW 9999 rfl (by and_intros <;> first | exact True.intro | omega | assumption) ?_
          refine ZE.b0 rfl (by omega) ?_ ?_ <;> intro g3
          · refine ZE.go hW 9999 rfl (by and_intros <;> first | exact True.intro | omega | assumption) ?_
            refine ZE.b rfl (by omega) (by omega) ?_ ?_ <;> intro g4
            · refine ZE.go hW 9999 rfl (by and_intros <;> first | exact True.intro | omega | assumption) ?_
              refine ZE.b rfl (by omega) (by omega) ?_ ?_ <;> intro g5
              · refine ZE.go hW 9999 rfl (by and_intros <;> first | exact True.intro | omega | assumption) ?_
                refine ZE.b rfl (by omega) (by omega) ?_ ?_ <;> intro g6
                · refine ZE.go hW 9999 rfl (by and_intros <;> first | exact True.intro | omega | assumption) ?_
                  refine ZE.b rfl (by omega) (by omega) ?_ ?_ <;> intro g7
                  · refine ZE.go hW 9999 rfl (by and_intros <;> first | exact True.intro | omega | assumption) ?_
                    refine ZE.b rfl (by omega) (by omega) ?_ ?_ <;> intro g8
                    · refine ZE.go hW 26 rfl (by and_intros <;> first | exact True.intro | omega | assumption) ?_
                      first
                        | exact y1 g2 (by omega)
                        | exact y0 (by omega)
                    · refine ZE.go hW 26 rfl (by and_intros <;> first | exact True.intro | omega | assumption) ?_
                      first
                        | exact y1 g2 (by omega)
                        | exact y0 (by omega)
                  · refine ZE.go hW 9999 rfl (by and_intros <;> first | exact True.intro | omega | assumption) ?_
                    refine ZE.b rfl (by omega) (by omega) ?_ ?_ <;> intro g8
                    · refine ZE.go hW 26 rfl (by and_intros <;> first | exact True.intro | omega | assumption) ?_
                      first
                        | exact y1 g2 (by omega)
                        | exact y0 (by omega)
                    · refine ZE.go hW 26 rfl (by and_intros <;> first | exact True.intro | omega | assumption) ?_
                      first
                        | exact y1 g2 (by omega)
                        | exact y0 (by omega)
                · refine ZE.go hW 9999 rfl (by and_intros <;> first | exact True.intro | omega | assumption) ?_
                  refine ZE.b rfl (by omega) (by omega) ?_ ?_ <;> intro g7
                  · refine ZE.go hW 26 rfl (by and_intros <;> first | exact True.intro | omega | assumption) ?_
                    first
                      | exact y1 g2 (by omega)
                      | exact y0 (by omega)
                  · refine ZE.go hW 26 rfl (by and_intros <;> first | exact True.intro | omega | assumption) ?_
                    first
                      | exact y1 g2 (by omega)
                      | exact y0 (by omega)
              · refine ZE.go hW 9999 rfl (by and_intros <;> first | exact True.intro | omega | assumption) ?_
                refine ZE.b rfl (by omega) (by omega) ?_ ?_ <;> intro g6
                · refine ZE.go hW 26 rfl (by and_intros <;> first | exact True.intro | omega | assumption) ?_
                  first
                    | exact y1 g2 (by omega)
                    | exact y0 (by omega)
                · refine ZE.go hW 26 rfl (by and_intros <;> first | exact True.intro | omega | assumption) ?_
                  first
                    | exact y1 g2 (by omega)
                    | exact y0 (by omega)
            · refine ZE.go hW 9999 rfl (by and_intros <;> first | exact True.intro | omega | assumption) ?_
              refine ZE.b rfl (by omega) (by omega) ?_ ?_ <;> intro g5
              · refine ZE.go hW 26 rfl (by and_intros <;> first | exact True.intro | omega | assumption) ?_
                first
                  | exact y1 g2 (by omega)
                  | exact y0 (by omega)
              · refine ZE.go hW 26 rfl (by and_intros <;> first | exact True.intro | omega | assumption) ?_
                first
                  | exact y1 g2 (by omega)
                  | exact y0 (by omega)
          · refine ZE.go hW 9999 rfl (by and_intros <;> first | exact True.intro | omega | assumption) ?_
            refine ZE.b rfl (by omega) (by omega) ?_ ?_ <;> intro g4
            · refine ZE.go hW 26 rfl (by and_intros <;> first | exact True.intro | omega | assumption) ?_
              first
                | exact y1 g2 (by omega)
                | exact y0 (by omega)
            · refine ZE.go hW 26 rfl (by and_intros <;> first | exact True.intro | omega | assumption) ?_
              first
                | exact y1 g2 (by omega)
                | exact y0 (by omega)
    · intro hK P hP
      have ePW : P ↔ W := by
        rw [← hW2, hP]
        exact ⟨fun q => ⟨hK.1, hK.2, q⟩, fun q => q.2.2⟩
      rw [bz_c ePW]
      refine ZE.go hW 9999 rfl (by and_intros <;> first | exact True.intro | omega | assumption) ?_
      refine ZE.b rfl (by omega) (by omega) ?_ ?_ <;> intro g1
      · refine ZE.go hW 9999 rfl (by and_intros <;> first | exact True.intro | omega | assumption) ?_
        refine ZE.rb rfl rfl (bz_01 _) ?_
        exact ⟨rfl, rfl⟩
      · omega
  refine ZQ.i rfl ?_
  refine ZE.go hW 9999 rfl (by and_intros <;> first | exact True.intro | omega | assumption) ?_
  refine ZE.b rfl (by omega) (by omega) ?_ ?_ <;> intro g1
  · refine ZE.go hW 26 rfl (by and_intros <;> first | exact True.intro | omega | assumption) ?_
    first
      | exact (by
          have := main 0 (by omega) (by omega) (by omega) True ⟨fun _ k x y => by omega, fun _ => trivial⟩
          rw [bz_t trivial] at this
          exact this)
      | (have hno : ¬ W := fun q => by
           rw [← hW2] at q
           omega
         refine ZE.go hW 9999 rfl (by and_intros <;> first | exact True.intro | omega | assumption) ?_
         refine ZE.b rfl (by omega) (by omega) ?_ ?_ <;> intro g9
         · refine ZE.go hW 9999 rfl (by and_intros <;> first | exact True.intro | omega | assumption) ?_
           refine ZE.rb rfl rfl (by omega) ?_
           exact ⟨by rw [bz_f hno], rfl⟩
         · refine ZE.go hW 9999 rfl (by and_intros <;> first | exact True.intro | omega | assumption) ?_
           refine ZE.b0 rfl (by omega) ?_ ?_ <;> intro g8
           · refine ZE.go hW 9999 rfl (by and_intros <;> first | exact True.intro | omega | assumption) ?_
             refine ZE.rb rfl rfl (by omega) ?_
             exact ⟨by rw [bz_f hno], rfl⟩
           · omega)
  · refine ZE.go hW 9999 rfl (by and_intros <;> first | exact True.intro | omega | assumption) ?_
    refine ZE.b rfl (by omega) (by omega) ?_ ?_ <;> intro g2
    · refine ZE.go hW 26 rfl (by and_intros <;> first | exact True.intro | omega | assumption) ?_
      first
        | exact (by
            have := main 0 (by omega) (by omega) (by omega) True ⟨fun _ k x y => by omega, fun _ => trivial⟩
            rw [bz_t trivial] at this
            exact this)
        | (have hno : ¬ W := fun q => by
             rw [← hW2] at q
             omega
           refine ZE.go hW 9999 rfl (by and_intros <;> first | exact True.intro | omega | assumption) ?_
           refine ZE.b rfl (by omega) (by omega) ?_ ?_ <;> intro g9
           · refine ZE.go hW 9999 rfl (by and_intros <;> first | exact True.intro | omega | assumption) ?_
             refine ZE.rb rfl rfl (by omega) ?_
             exact ⟨by rw [bz_f hno], rfl⟩
           · refine ZE.go hW 9999 rfl (by and_intros <;> first | exact True.intro | omega | assumption) ?_
             refine ZE.b0 rfl (by omega) ?_ ?_ <;> intro g8
             · refine ZE.go hW 9999 rfl (by and_intros <;> first | exact True.intro | omega | assumption) ?_
               refine ZE.rb rfl rfl (by omega) ?_
               exact ⟨by rw [bz_f hno], rfl⟩
             · omega)
    · refine ZE.go hW 26 rfl (by and_intros <;> first | exact True.intro | omega | assumption) ?_
      first
        | exact (by
            have := main 0 (by omega) (by omega) (by omega) True ⟨fun _ k x y => by omega, fun _ => trivial⟩
            rw [bz_t trivial] at this
            exact this)
        | (have hno : ¬ W := fun q => by
             rw [← hW2] at q
             omega
           refine ZE.go hW 9999 rfl (by and_intros <;> first | exact True.intro | omega | assumption) ?_
           refine ZE.b rfl (by omega) (by omega) ?_ ?_ <;> intro g9
           · refine ZE.go hW 9999 rfl (by and_intros <;> first | exact True.intro | omega | assumption) ?_
             refine ZE.rb rfl rfl (by omega) ?_
             exact ⟨by rw [bz_f hno], rfl⟩
           · refine ZE.go hW 9999 rfl (by and_intros <;> first | exact True.intro | omega | assumption) ?_
             refine ZE.b0 rfl (by omega) ?_ ?_ <;> intro g8
             · refine ZE.go hW 9999 rfl (by and_intros <;> first | exact True.intro | omega | assumption) ?_
               refine ZE.rb rfl rfl (by omega) ?_
               exact ⟨by rw [bz_f hno], rfl⟩
             · omega)
set_option maxRecDepth 100000 in set_option maxHeartbeats 4000000 in theorem k_m_takes {f k lo hi : Int} (hW : Wl σ) (hT : TT μ) (hf : 0 ≤ f ∧ f ≤ μ 168 20) (hS : TS μ f) (hk : 0 ≤ k ∧ k < 4) (hlo : zrng lo) (hhi : zrng hi) : ZQ ext (d + 4) n_X12_takes [(1161, 0), (0, k), (0, lo), (0, hi)] σ μ (fun rv μ' => rv = some (0, bz (nmO (μ 181) (μ 168 20) f lo hi)) ∧
    (nmO (μ 181) (μ 168 20) f lo hi → TS μ' (tE (μ 181) (μ 168 20) f) ∧ μ' 183 k = tV (μ 181) (μ 168 20) f ∧ (∀ q j, ¬ (q = 168 ∧ 21 ≤ j ∧ j ≤ 24) → ¬ (q = 183 ∧ j = k) → μ' q j = μ q j)) ∧ (¬ nmO (μ 181) (μ 168 20) f lo hi → μ' = μ)) := by
  have ht := hS.tok
  have hV := tV_rng (T := μ 181) hf hT.2
  have e24 := hS.2.2.2
  refine ZQ.i rfl ?_
  refine ZE.go hW 9999 rfl (by and_intros <;> first | exact True.intro | omega | assumption) ?_
  refine ZE.b rfl (by omega) (by omega) ?_ ?_ <;> intro g1
  · refine ZE.go hW 9999 rfl (by and_intros <;> first | exact True.intro | omega | assumption) ?_
    refine ZE.rb rfl rfl (by first | exact Or.inl rfl | exact Or.inr rfl | omega) ?_
    first
      | (have hno : ¬ nmO (μ 181) (μ 168 20) f lo hi := fun q => absurd (ht.1.mpr q.1) (by omega)
         exact ⟨by rw [bz_f hno], fun q => absurd q hno, fun _ => rfl⟩)
      | (have hno : ¬ nmO (μ 181) (μ 168 20) f lo hi := fun q => by
           have := q.2
           omega
         exact ⟨by rw [bz_f hno], fun q => absurd q hno, fun _ => rfl⟩)
      | (have hyes : nmO (μ 181) (μ 168 20) f lo hi := ⟨ht.1.mp (by omega), by omega⟩
         have u1 : up μ 183 k (μ 168 24) 168 20 = μ 168 20 := up_n (by omega)
         have u2 : up μ 183 k (μ 168 24) 181 = μ 181 := funext fun j => up_n (by omega)
         rw [u1, u2] at h2
         refine ⟨by rw [bz_t hyes], fun _ => ⟨h2, ?_, ?_⟩, fun q => absurd hyes q⟩
         · rw [h1 183 k (by omega), up_s, e24]
         · intro q j a b
           rw [h1 q j a, up_n b])
  · refine ZE.go hW 9999 rfl (by and_intros <;> first | exact True.intro | omega | assumption) ?_
    refine ZE.c0 hW rfl rfl (Nat.le_of_ble_eq_true rfl) (Nat.le_of_ble_eq_true rfl) (k_in (d := d + 3) hW (by omega) hlo hhi) ?_
    refine ZE.bp rfl rfl ?_ ?_ <;> intro g2
    · refine ZE.go hW 35 rfl (by and_intros <;> first | exact True.intro | omega | assumption) ?_
      have hS2 : TS (up μ 183 k (μ 168 24)) f := hS.cg (fun j a b => up_n (by omega)) (funext fun j => up_n (by omega))
      have hT2 : TT (up μ 183 k (μ 168 24)) := by
        have e1 : up μ 183 k (μ 168 24) 168 20 = μ 168 20 := up_n (by omega)
        have e2 : up μ 183 k (μ 168 24) 181 = μ 181 := funext fun j => up_n (by omega)
        unfold TT
        rw [e1, e2]
        exact hT
      refine ZE.go hW 9999 rfl (by and_intros <;> first | exact True.intro | omega | assumption) ?_
      refine ZE.q0 hW rfl rfl (Nat.le_of_ble_eq_true rfl) (Nat.le_of_ble_eq_true rfl) (k_m_goBehind (d := d) (f := f) hW hT2 (by rw [up_n (by omega)]; exact hf) hS2) ?_
      rintro rv9 μ1 ⟨rfl, h1, h2⟩
      refine ZE.go hW 9999 rfl (by and_intros <;> first | exact True.intro | omega | assumption) ?_
      refine ZE.rb rfl rfl (by first | exact Or.inl rfl | exact Or.inr rfl | omega) ?_
      first
        | (have hno : ¬ nmO (μ 181) (μ 168 20) f lo hi := fun q => absurd (ht.1.mpr q.1) (by omega)
           exact ⟨by rw [bz_f hno], fun q => absurd q hno, fun _ => rfl⟩)
        | (have hno : ¬ nmO (μ 181) (μ 168 20) f lo hi := fun q => by
             have := q.2
             omega
           exact ⟨by rw [bz_f hno], fun q => absurd q hno, fun _ => rfl⟩)
        | (have hyes : nmO (μ 181) (μ 168 20) f lo hi := ⟨ht.1.mp (by omega), by omega⟩
           have u1 : up μ 183 k (μ 168 24) 168 20 = μ 168 20 := up_n (by omega)
           have u2 : up μ 183 k (μ 168 24) 181 = μ 181 := funext fun j => up_n (by omega)
           rw [u1, u2] at h2
           refine ⟨by rw [bz_t hyes], fun _ => ⟨h2, ?_, ?_⟩, fun q => absurd hyes q⟩
           · rw [h1 183 k (by omega), up_s, e24]
           · intro q j a b
             rw [h1 q j a, up_n b])
    · refine ZE.go hW 9999 rfl (by and_intros <;> first | exact True.intro | omega | assumption) ?_
      refine ZE.rb rfl rfl (by first | exact Or.inl rfl | exact Or.inr rfl | omega) ?_
      first
        | (have hno : ¬ nmO (μ 181) (μ 168 20) f lo hi := fun q => absurd (ht.1.mpr q.1) (by omega)
           exact ⟨by rw [bz_f hno], fun q => absurd q hno, fun _ => rfl⟩)
        | (have hno : ¬ nmO (μ 181) (μ 168 20) f lo hi := fun q => by
             have := q.2
             omega
           exact ⟨by rw [bz_f hno], fun q => absurd q hno, fun _ => rfl⟩)
        | (have hyes : nmO (μ 181) (μ 168 20) f lo hi := ⟨ht.1.mp (by omega), by omega⟩
           have u1 : up μ 183 k (μ 168 24) 168 20 = μ 168 20 := up_n (by omega)
           have u2 : up μ 183 k (μ 168 24) 181 = μ 181 := funext fun j => up_n (by omega)
           rw [u1, u2] at h2
           refine ⟨by rw [bz_t hyes], fun _ => ⟨h2, ?_, ?_⟩, fun q => absurd hyes q⟩
           · rw [h1 183 k (by omega), up_s, e24]
           · intro q j a b
             rw [h1 q j a, up_n b])
/-- a try at an item -/
def Ita (r : Int × Int × (Int → Int)) (μ : zM) (rv : Option V) (μ' : zM) : Prop := rv = some (0, r.1) ∧ Fx μ μ' ∧ TS μ' r.2.1 ∧ (r.1 = 1 → μ' 182 = r.2.2)
set_option maxRecDepth 100000 in set_option maxHeartbeats 4000000 in theorem k_m_takesView {f : Int} (hW : Wl σ) (hT : TT μ) (hf : 0 ≤ f ∧ f ≤ μ 168 20) (hS : TS μ f) (hN : NA (μ 182)) : ZQ ext (d + 5) n_X12_takesView [(1161, 0)] σ μ (Ita (tvw (μ 181) (μ 168 20) f (μ 182)) μ) := by
  have h0 := hN.1
  have a1 := tEE (T := μ 181) hf
  have a2 := tEE (T := μ 181) (l := μ 168 20) (f := tE (μ 181) (μ 168 20) f) (by omega)
  have a3 := tEE (T := μ 181) (l := μ 168 20) (f := tE (μ 181) (μ 168 20) (tE (μ 181) (μ 168 20) f)) (by omega)
  have a4 := tEE (T := μ 181) (l := μ 168 20) (f := tE (μ 181) (μ 168 20) (tE (μ 181) (μ 168 20) (tE (μ 181) (μ 168 20) f))) (by omega)
  generalize hr : tvw (μ 181) (μ 168 20) f (μ 182) = R
  unfold tvw at hr
  refine ZQ.i rfl ?_
  refine ZE.go hW 9999 rfl (by and_intros <;> first | exact True.intro | omega | assumption) ?_
  refine ZE.b rfl (by omega) (by omega) ?_ ?_ <;> intro g1
  · refine ZE.go hW 9999 rfl (by and_intros <;> first | exact True.intro | omega | assumption) ?_
    refine ZE.q0 hW rfl rfl (Nat.le_of_ble_eq_true rfl) (Nat.le_of_ble_eq_true rfl) (k_m_goBehind (d := d + 1) hW hT hf hS) ?_
    rintro rv9 μ1 ⟨rfl, x1, s1⟩
    have f175 : μ1 182 = μ 182 := funext fun j => x1 182 j (by omega)
    have x1 := x1.x
    rw [if_neg g1] at hr
    refine ZE.go hW 9999 rfl (by and_intros <;> first | exact True.intro | omega | assumption) ?_
    refine ZE.q0 hW rfl rfl (Nat.le_of_ble_eq_true rfl) (Nat.le_of_ble_eq_true rfl) (k_m_takes (d := d) (k := 0) (lo := 0) (hi := 5) hW (x1.tt hT) (by rw [x1.l]; omega) s1 (by omega) (by omega) (by omega)) ?_
    rintro rv9 μ2 ⟨rfl, y1, n1⟩
    rw [x1.t, x1.l] at y1 n1
    rw [x1.t, x1.l]
    refine ZE.bp rfl rfl ?_ ?_ <;> intro g2
    · refine ZE.go hW 9999 rfl (by and_intros <;> first | exact True.intro | omega | assumption) ?_
      refine ZE.rb rfl rfl (by first | exact Or.inl rfl | exact Or.inr rfl | omega) ?_
      first
        | (rw [if_pos g1] at hr
           rw [← hr]
           exact ⟨rfl, fun _ _ _ _ _ => rfl, hS, fun q => absurd q (fun z : (0 : Int) = 1 => by omega)⟩)
        | (rw [if_pos g2] at hr
           rw [← hr, n1 g2]
           exact ⟨rfl, x1, s1, fun q => absurd q (fun z : (0 : Int) = 1 => by omega)⟩)
        | (rw [if_pos g3] at hr
           rw [← hr, n2 g3]
           exact ⟨rfl, x2, s2, fun q => absurd q (fun z : (0 : Int) = 1 => by omega)⟩)
        | (rw [if_pos g4] at hr
           rw [← hr, n3 g4]
           exact ⟨rfl, x3, s3, fun q => absurd q (fun z : (0 : Int) = 1 => by omega)⟩)
        | (rw [if_pos g5] at hr
           rw [← hr, n4 g5]
           exact ⟨rfl, x4, s4, fun q => absurd q (fun z : (0 : Int) = 1 => by omega)⟩)
        | (rw [← hr]
           refine ⟨rfl, ?_, ?_, fun _ => ?_⟩
           · intro k j p q r
             rw [up_n (by omega), up_n (by omega), up_n (by omega), up_n (by omega), up_n (by omega), up_n (by omega), up_n (by omega)]
             exact x5 k j p q r
           · refine s5.cg (fun j a b => ?_) (funext fun j => ?_)
             · rw [up_n (by omega), up_n (by omega), up_n (by omega), up_n (by omega), up_n (by omega), up_n (by omega), up_n (by omega)]
             · rw [up_n (by omega), up_n (by omega), up_n (by omega), up_n (by omega), up_n (by omega), up_n (by omega), up_n (by omega)]
           · funext j
             simp only [up_row, c0, c1, c2, v4, b0]
             rw [f5]
             show _ = lvN (μ 182) _ _ _ _ j
             unfold ex1 lvN
             repeat' split
             all_goals first
               | rfl
               | (exfalso; omega))
    · obtain ⟨s2, v1, w1⟩ := y1 g2
      have x2 : Fx μ μ2 := x1.trans (fun k j p q r => w1 k j p (by omega))
      rw [if_neg (fun z => z g2)] at hr
      refine ZE.go hW 9999 rfl (by and_intros <;> first | exact True.intro | omega | assumption) ?_
      refine ZE.q0 hW rfl rfl (Nat.le_of_ble_eq_true rfl) (Nat.le_of_ble_eq_true rfl) (k_m_takes (d := d) (k := 1) (lo := 1) (hi := 9) hW (x2.tt hT) (by rw [x2.l]; omega) s2 (by omega) (by omega) (by omega)) ?_
      rintro rv9 μ3 ⟨rfl, y2, n2⟩
      rw [x2.t, x2.l] at y2 n2
      rw [x2.t, x2.l]
      refine ZE.bp rfl rfl ?_ ?_ <;> intro g3
      · refine ZE.go hW 9999 rfl (by and_intros <;> first | exact True.intro | omega | assumption) ?_
        refine ZE.rb rfl rfl (by first | exact Or.inl rfl | exact Or.inr rfl | omega) ?_
        first
          | (rw [if_pos g1] at hr
             rw [← hr]
             exact ⟨rfl, fun _ _ _ _ _ => rfl, hS, fun q => absurd q (fun z : (0 : Int) = 1 => by omega)⟩)
          | (rw [if_pos g2] at hr
             rw [← hr, n1 g2]
             exact ⟨rfl, x1, s1, fun q => absurd q (fun z : (0 : Int) = 1 => by omega)⟩)
          | (rw [if_pos g3] at hr
             rw [← hr, n2 g3]
             exact ⟨rfl, x2, s2, fun q => absurd q (fun z : (0 : Int) = 1 => by omega)⟩)
          | (rw [if_pos g4] at hr
             rw [← hr, n3 g4]
             exact ⟨rfl, x3, s3, fun q => absurd q (fun z : (0 : Int) = 1 => by omega)⟩)
          | (rw [if_pos g5] at hr
             rw [← hr, n4 g5]
             exact ⟨rfl, x4, s4, fun q => absurd q (fun z : (0 : Int) = 1 => by omega)⟩)
          | (rw [← hr]
             refine ⟨rfl, ?_, ?_, fun _ => ?_⟩
             · intro k j p q r
               rw [up_n (by omega), up_n (by omega), up_n (by omega), up_n (by omega), up_n (by omega), up_n (by omega), up_n (by omega)]
               exact x5 k j p q r
             · refine s5.cg (fun j a b => ?_) (funext fun j => ?_)
               · rw [up_n (by omega), up_n (by omega), up_n (by omega), up_n (by omega), up_n (by omega), up_n (by omega), up_n (by omega)]
               · rw [up_n (by omega), up_n (by omega), up_n (by omega), up_n (by omega), up_n (by omega), up_n (by omega), up_n (by omega)]
             · funext j
               simp only [up_row, c0, c1, c2, v4, b0]
               rw [f5]
               show _ = lvN (μ 182) _ _ _ _ j
               unfold ex1 lvN
               repeat' split
               all_goals first
                 | rfl
                 | (exfalso; omega))
      · obtain ⟨s3, v2, w2⟩ := y2 g3
        have x3 : Fx μ μ3 := x2.trans (fun k j p q r => w2 k j p (by omega))
        rw [if_neg (fun z => z g3)] at hr
        refine ZE.go hW 9999 rfl (by and_intros <;> first | exact True.intro | omega | assumption) ?_
        refine ZE.q0 hW rfl rfl (Nat.le_of_ble_eq_true rfl) (Nat.le_of_ble_eq_true rfl) (k_m_takes (d := d) (k := 2) (lo := 0) (hi := 99) hW (x3.tt hT) (by rw [x3.l]; omega) s3 (by omega) (by omega) (by omega)) ?_
        rintro rv9 μ4 ⟨rfl, y3, n3⟩
        rw [x3.t, x3.l] at y3 n3
        rw [x3.t, x3.l]
        refine ZE.bp rfl rfl ?_ ?_ <;> intro g4
        · refine ZE.go hW 9999 rfl (by and_intros <;> first | exact True.intro | omega | assumption) ?_
          refine ZE.rb rfl rfl (by first | exact Or.inl rfl | exact Or.inr rfl | omega) ?_
          first
            | (rw [if_pos g1] at hr
               rw [← hr]
               exact ⟨rfl, fun _ _ _ _ _ => rfl, hS, fun q => absurd q (fun z : (0 : Int) = 1 => by omega)⟩)
            | (rw [if_pos g2] at hr
               rw [← hr, n1 g2]
               exact ⟨rfl, x1, s1, fun q => absurd q (fun z : (0 : Int) = 1 => by omega)⟩)
            | (rw [if_pos g3] at hr
               rw [← hr, n2 g3]
               exact ⟨rfl, x2, s2, fun q => absurd q (fun z : (0 : Int) = 1 => by omega)⟩)
            | (rw [if_pos g4] at hr
               rw [← hr, n3 g4]
               exact ⟨rfl, x3, s3, fun q => absurd q (fun z : (0 : Int) = 1 => by omega)⟩)
            | (rw [if_pos g5] at hr
               rw [← hr, n4 g5]
               exact ⟨rfl, x4, s4, fun q => absurd q (fun z : (0 : Int) = 1 => by omega)⟩)
            | (rw [← hr]
               refine ⟨rfl, ?_, ?_, fun _ => ?_⟩
               · intro k j p q r
                 rw [up_n (by omega), up_n (by omega), up_n (by omega), up_n (by omega), up_n (by omega), up_n (by omega), up_n (by omega)]
                 exact x5 k j p q r
               · refine s5.cg (fun j a b => ?_) (funext fun j => ?_)
                 · rw [up_n (by omega), up_n (by omega), up_n (by omega), up_n (by omega), up_n (by omega), up_n (by omega), up_n (by omega)]
                 · rw [up_n (by omega), up_n (by omega), up_n (by omega), up_n (by omega), up_n (by omega), up_n (by omega), up_n (by omega)]
               · funext j
                 simp only [up_row, c0, c1, c2, v4, b0]
                 rw [f5]
                 show _ = lvN (μ 182) _ _ _ _ j
                 unfold ex1 lvN
                 repeat' split
                 all_goals first
                   | rfl
                   | (exfalso; omega))
        · obtain ⟨s4, v3, w3⟩ := y3 g4
          have x4 : Fx μ μ4 := x3.trans (fun k j p q r => w3 k j p (by omega))
          rw [if_neg (fun z => z g4)] at hr
          refine ZE.go hW 9999 rfl (by and_intros <;> first | exact True.intro | omega | assumption) ?_
          refine ZE.q0 hW rfl rfl (Nat.le_of_ble_eq_true rfl) (Nat.le_of_ble_eq_true rfl) (k_m_takes (d := d) (k := 3) (lo := 0) (hi := 5) hW (x4.tt hT) (by rw [x4.l]; omega) s4 (by omega) (by omega) (by omega)) ?_
          rintro rv9 μ5 ⟨rfl, y4, n4⟩
          rw [x4.t, x4.l] at y4 n4
          rw [x4.t, x4.l]
          refine ZE.bp rfl rfl ?_ ?_ <;> intro g5
          · obtain ⟨s5, v4, w4⟩ := y4 g5
            have x5 : Fx μ μ5 := x4.trans (fun k j p q r => w4 k j p (by omega))
            rw [if_neg (fun z => z g5)] at hr
            have f5 : μ5 182 = μ 182 := by
              funext j
              rw [w4 182 j (by omega) (by omega), w3 182 j (by omega) (by omega), w2 182 j (by omega) (by omega), w1 182 j (by omega) (by omega)]
              exact congrFun f175 j
            have b0 : μ5 182 0 = μ 182 0 := congrFun f5 0
            have c0 : μ5 183 0 = tV (μ 181) (μ 168 20) (tE (μ 181) (μ 168 20) f) := by
              rw [w4 183 0 (by omega) (by omega), w3 183 0 (by omega) (by omega), w2 183 0 (by omega) (by omega)]; exact v1
            have c1 : μ5 183 1 = tV (μ 181) (μ 168 20) (tE (μ 181) (μ 168 20) (tE (μ 181) (μ 168 20) f)) := by
              rw [w4 183 1 (by omega) (by omega), w3 183 1 (by omega) (by omega)]; exact v2
            have c2 : μ5 183 2 = tV (μ 181) (μ 168 20) (tE (μ 181) (μ 168 20) (tE (μ 181) (μ 168 20) (tE (μ 181) (μ 168 20) f))) := by
              rw [w4 183 2 (by omega) (by omega)]; exact v3
            refine ZE.go hW 9999 rfl (by and_intros <;> first | exact True.intro | omega | assumption) ?_
            refine ZE.rb rfl rfl (by first | exact Or.inl rfl | exact Or.inr rfl | omega) ?_
            first
              | (rw [if_pos g1] at hr
                 rw [← hr]
                 exact ⟨rfl, fun _ _ _ _ _ => rfl, hS, fun q => absurd q (fun z : (0 : Int) = 1 => by omega)⟩)
              | (rw [if_pos g2] at hr
                 rw [← hr, n1 g2]
                 exact ⟨rfl, x1, s1, fun q => absurd q (fun z : (0 : Int) = 1 => by omega)⟩)
              | (rw [if_pos g3] at hr
                 rw [← hr, n2 g3]
                 exact ⟨rfl, x2, s2, fun q => absurd q (fun z : (0 : Int) = 1 => by omega)⟩)
              | (rw [if_pos g4] at hr
                 rw [← hr, n3 g4]
                 exact ⟨rfl, x3, s3, fun q => absurd q (fun z : (0 : Int) = 1 => by omega)⟩)
              | (rw [if_pos g5] at hr
                 rw [← hr, n4 g5]
                 exact ⟨rfl, x4, s4, fun q => absurd q (fun z : (0 : Int) = 1 => by omega)⟩)
              | (rw [← hr]
                 refine ⟨rfl, ?_, ?_, fun _ => ?_⟩
                 · intro k j p q r
                   rw [up_n (by omega), up_n (by omega), up_n (by omega), up_n (by omega), up_n (by omega), up_n (by omega), up_n (by omega)]
                   exact x5 k j p q r
                 · refine s5.cg (fun j a b => ?_) (funext fun j => ?_)
                   · rw [up_n (by omega), up_n (by omega), up_n (by omega), up_n (by omega), up_n (by omega), up_n (by omega), up_n (by omega)]
                   · rw [up_n (by omega), up_n (by omega), up_n (by omega), up_n (by omega), up_n (by omega), up_n (by omega), up_n (by omega)]
                 · funext j
                   simp only [up_row, c0, c1, c2, v4, b0]
                   rw [f5]
                   show _ = lvN (μ 182) _ _ _ _ j
                   unfold ex1 lvN
                   repeat' split
                   all_goals first
                     | rfl
                     | (exfalso; omega))
          · refine ZE.go hW 9999 rfl (by and_intros <;> first | exact True.intro | omega | assumption) ?_
            refine ZE.rb rfl rfl (by first | exact Or.inl rfl | exact Or.inr rfl | omega) ?_
            first
              | (rw [if_pos g1] at hr
                 rw [← hr]
                 exact ⟨rfl, fun _ _ _ _ _ => rfl, hS, fun q => absurd q (fun z : (0 : Int) = 1 => by omega)⟩)
              | (rw [if_pos g2] at hr
                 rw [← hr, n1 g2]
                 exact ⟨rfl, x1, s1, fun q => absurd q (fun z : (0 : Int) = 1 => by omega)⟩)
              | (rw [if_pos g3] at hr
                 rw [← hr, n2 g3]
                 exact ⟨rfl, x2, s2, fun q => absurd q (fun z : (0 : Int) = 1 => by omega)⟩)
              | (rw [if_pos g4] at hr
                 rw [← hr, n3 g4]
                 exact ⟨rfl, x3, s3, fun q => absurd q (fun z : (0 : Int) = 1 => by omega)⟩)
              | (rw [if_pos g5] at hr
                 rw [← hr, n4 g5]
                 exact ⟨rfl, x4, s4, fun q => absurd q (fun z : (0 : Int) = 1 => by omega)⟩)
              | (rw [← hr]
                 refine ⟨rfl, ?_, ?_, fun _ => ?_⟩
                 · intro k j p q r
                   rw [up_n (by omega), up_n (by omega), up_n (by omega), up_n (by omega), up_n (by omega), up_n (by omega), up_n (by omega)]
                   exact x5 k j p q r
                 · refine s5.cg (fun j a b => ?_) (funext fun j => ?_)
                   · rw [up_n (by omega), up_n (by omega), up_n (by omega), up_n (by omega), up_n (by omega), up_n (by omega), up_n (by omega)]
                   · rw [up_n (by omega), up_n (by omega), up_n (by omega), up_n (by omega), up_n (by omega), up_n (by omega), up_n (by omega)]
                 · funext j
                   simp only [up_row, c0, c1, c2, v4, b0]
                   rw [f5]
                   show _ = lvN (μ 182) _ _ _ _ j
                   unfold ex1 lvN
                   repeat' split
                   all_goals first
                     | rfl
                     | (exfalso; omega))
  · refine ZE.go hW 9999 rfl (by and_intros <;> first | exact True.intro | omega | assumption) ?_
    refine ZE.rb rfl rfl (by first | exact Or.inl rfl | exact Or.inr rfl | omega) ?_
    first
      | (rw [if_pos g1] at hr
         rw [← hr]
         exact ⟨rfl, fun _ _ _ _ _ => rfl, hS, fun q => absurd q (fun z : (0 : Int) = 1 => by omega)⟩)
      | (rw [if_pos g2] at hr
         rw [← hr, n1 g2]
         exact ⟨rfl, x1, s1, fun q => absurd q (fun z : (0 : Int) = 1 => by omega)⟩)
      | (rw [if_pos g3] at hr
         rw [← hr, n2 g3]
         exact ⟨rfl, x2, s2, fun q => absurd q (fun z : (0 : Int) = 1 => by omega)⟩)
      | (rw [if_pos g4] at hr
         rw [← hr, n3 g4]
         exact ⟨rfl, x3, s3, fun q => absurd q (fun z : (0 : Int) = 1 => by omega)⟩)
      | (rw [if_pos g5] at hr
         rw [← hr, n4 g5]
         exact ⟨rfl, x4, s4, fun q => absurd q (fun z : (0 : Int) = 1 => by omega)⟩)
      | (rw [← hr]
         refine ⟨rfl, ?_, ?_, fun _ => ?_⟩
         · intro k j p q r
           rw [up_n (by omega), up_n (by omega), up_n (by omega), up_n (by omega), up_n (by omega), up_n (by omega), up_n (by omega)]
           exact x5 k j p q r
         · refine s5.cg (fun j a b => ?_) (funext fun j => ?_)
           · rw [up_n (by omega), up_n (by omega), up_n (by omega), up_n (by omega), up_n (by omega), up_n (by omega), up_n (by omega)]
           · rw [up_n (by omega), up_n (by omega), up_n (by omega), up_n (by omega), up_n (by omega), up_n (by omega), up_n (by omega)]
         · funext j
           simp only [up_row, c0, c1, c2, v4, b0]
           rw [f5]
           show _ = lvN (μ 182) _ _ _ _ j
           unfold ex1 lvN
           repeat' split
           all_goals first
             | rfl
             | (exfalso; omega))
end
