section
variable {ext : List xC} {σ : zSh} {μ : zM} {t : Int}
theorem Fs.n {μ1 : zM} (h : WS σ μ t) (h1 : Fs (μ 0 5) μ μ1) : μ1 169 = μ 169 := by
  have ha := h.a
  exact funext fun j => h1 169 j (by omega)
theorem s_shop (h : WS σ μ t) (ht : 0 ≤ t) : STP ext σ μ t n_X11_shop n_X12_shop [] 0 := by
  obtain ⟨rv1, μ1, c1, rfl, h1, hS⟩ := k_x_shop (ext := ext) (d := 6) (N' := μ 169) h.sr ht
  have c2 := k_m_shop (ext := ext) (d := 9) (μ := μ1) (σ := σ) h.1.1
  have em := Fs.n h h1
  rw [congrFun em 0] at c2
  refine STP.of c1 c2 (h.now h1 (fun k j p q => congrFun (fill_o q) j) ?_)
  rw [fill_row, em]
  exact hS.mono (by omega)
theorem s_view {k s p w : Int} (h : WS σ μ t) (hk : zrng k) (hs : zrng s) (hp : zrng p) (hw : zrng w) : STP ext σ μ t n_X11_view n_X12_view [(0, k), (0, s), (0, p), (0, w)] 0 := by
  obtain ⟨rv1, μ1, c1, q1⟩ := k_x_view (ext := ext) (d := 7) h.sr hk hs hp hw
  have n0 := h.2.1.1.1
  have m1 : ∀ m : zM, m 169 = μ 169 → ZQ ext 10 n_X12_view [(1161, 0), (0, k), (0, s), (0, p), (0, w)] σ m _ := fun m em => k_m_view (ext := ext) (d := 7) (μ := m) h.1.1 (by rw [em]; exact n0) hk hs hp hw
  by_cases hok : (0 ≤ k ∧ k ≤ 5) ∧ (1 ≤ s ∧ s ≤ 9) ∧ (0 ≤ p ∧ p ≤ 99) ∧ (0 ≤ w ∧ w ≤ 5)
  · by_cases h6 : μ 169 0 = 6
    · obtain ⟨rfl, hq1⟩ := (q1.2 hok).1 h6
      have em : μ1 169 = μ 169 := funext fun j => by rw [hq1, up_n (by omega)]
      obtain ⟨rv2, μ2, c2, q2⟩ := m1 μ1 em
      rw [em] at q2
      obtain ⟨rfl, hq2⟩ := (q2.2 hok).1 h6
      refine STP.of c1 c2 (h.ref (i := 2) (by omega) hq1 (fun k j p q => by rw [hq2, up_n q]) ?_)
      rw [hq2, up_s, hq1, up_n (by omega)]
    · obtain ⟨rfl, hq1, hS⟩ := (q1.2 hok).2 h6
      have em := Fs.n h hq1
      obtain ⟨rv2, μ2, c2, q2⟩ := m1 μ1 em
      rw [em] at q2
      obtain ⟨rfl, hq2, hx⟩ := (q2.2 hok).2 h6
      refine STP.of c1 c2 (h.now hq1 (fun k j p q => hx k j q) ?_)
      rw [hq2]
      exact hS.mono (by omega)
  · obtain ⟨rfl, hq1⟩ := q1.1 hok
    have em : μ1 169 = μ 169 := funext fun j => by rw [hq1, up_n (by omega)]
    obtain ⟨rv2, μ2, c2, q2⟩ := m1 μ1 em
    rw [em] at q2
    obtain ⟨rfl, hq2⟩ := q2.1 hok
    refine STP.of c1 c2 (h.ref (i := 0) (by omega) hq1 (fun k j p q => by rw [hq2, up_n q]) ?_)
    rw [hq2, up_s, hq1, up_n (by omega)]
theorem s_renter {s p w : Int} (h : WS σ μ t) (hs : zrng s) (hp : zrng p) (hw : zrng w) : STP ext σ μ t n_X11_renter n_X12_renter [(0, s), (0, p), (0, w)] 0 := by
  obtain ⟨rv1, μ1, c1, q1⟩ := k_x_renter (ext := ext) (d := 7) h.sr hs hp hw
  have n0 := h.2.1.1.2.1
  have m1 : ∀ m : zM, m 169 = μ 169 → ZQ ext 10 n_X12_renter [(1161, 0), (0, s), (0, p), (0, w)] σ m _ := fun m em => k_m_renter (ext := ext) (d := 7) (μ := m) h.1.1 (by rw [em]; exact n0) hs hp hw
  by_cases hok : (1 ≤ s ∧ s ≤ 9) ∧ (0 ≤ p ∧ p ≤ 999) ∧ (0 ≤ w ∧ w ≤ 6)
  · by_cases h6 : μ 169 1 = 6
    · obtain ⟨rfl, hq1⟩ := (q1.2 hok).1 h6
      have em : μ1 169 = μ 169 := funext fun j => by rw [hq1, up_n (by omega)]
      obtain ⟨rv2, μ2, c2, q2⟩ := m1 μ1 em
      rw [em] at q2
      obtain ⟨rfl, hq2⟩ := (q2.2 hok).1 h6
      refine STP.of c1 c2 (h.ref (i := 2) (by omega) hq1 (fun k j p q => by rw [hq2, up_n q]) ?_)
      rw [hq2, up_s, hq1, up_n (by omega)]
    · obtain ⟨rfl, hq1, hS⟩ := (q1.2 hok).2 h6
      have em := Fs.n h hq1
      obtain ⟨rv2, μ2, c2, q2⟩ := m1 μ1 em
      rw [em] at q2
      obtain ⟨rfl, hq2, hx⟩ := (q2.2 hok).2 h6
      refine STP.of c1 c2 (h.now hq1 (fun k j p q => hx k j q) ?_)
      rw [hq2]
      exact hS.mono (by omega)
  · obtain ⟨rfl, hq1⟩ := q1.1 hok
    have em : μ1 169 = μ 169 := funext fun j => by rw [hq1, up_n (by omega)]
    obtain ⟨rv2, μ2, c2, q2⟩ := m1 μ1 em
    rw [em] at q2
    obtain ⟨rfl, hq2⟩ := q2.1 hok
    refine STP.of c1 c2 (h.ref (i := 0) (by omega) hq1 (fun k j p q => by rw [hq2, up_n q]) ?_)
    rw [hq2, up_s, hq1, up_n (by omega)]
theorem s_things {v s : Int} (h : WS σ μ t) (hv : zrng v) (hs : zrng s) : STP ext σ μ t n_X11_things n_X12_things [(0, v), (0, s)] 0 := by
  obtain ⟨rv1, μ1, c1, q1⟩ := k_x_things (ext := ext) (d := 7) h.sr hv hs
  have n0 := h.2.1.1.1
  have m1 : ∀ m : zM, m 169 = μ 169 → ZQ ext 10 n_X12_things [(1161, 0), (0, v), (0, s)] σ m _ := fun m em => k_m_things (ext := ext) (d := 7) (μ := m) h.1.1 (by rw [em]; exact n0) hv hs
  by_cases hok : (0 ≤ v ∧ v ≤ μ 169 0 - 1) ∧ (0 ≤ s ∧ s ≤ 255)
  · obtain ⟨rfl, hq1, hS⟩ := q1.2 hok
    have em := Fs.n h hq1
    obtain ⟨rv2, μ2, c2, q2⟩ := m1 μ1 em
    rw [em] at q2
    obtain ⟨rfl, hq2⟩ := q2.2 hok
    refine STP.of c1 c2 (h.now hq1 (fun k j p q => by rw [hq2, up_n (by omega)]) ?_)
    rw [hq2, up_row, em]
    exact hS.mono (by omega)
  · obtain ⟨rfl, hq1⟩ := q1.1 hok
    have em : μ1 169 = μ 169 := funext fun j => by rw [hq1, up_n (by omega)]
    obtain ⟨rv2, μ2, c2, q2⟩ := m1 μ1 em
    rw [em] at q2
    obtain ⟨rfl, hq2⟩ := q2.1 hok
    refine STP.of c1 c2 (h.ref (i := 0) (by omega) hq1 (fun k j p q => by rw [hq2, up_n q]) ?_)
    rw [hq2, up_s, hq1, up_n (by omega)]
theorem s_reading {v e w : Int} (h : WS σ μ t) (hv : zrng v) (he : zrng e) (hw : zrng w) : STP ext σ μ t n_X11_reading n_X12_reading [(0, v), (0, e), (0, w)] 0 := by
  obtain ⟨rv1, μ1, c1, q1⟩ := k_x_reading (ext := ext) (d := 7) h.sr hv he hw
  have m1 : ∀ m : zM, m 169 = μ 169 → ZQ ext 10 n_X12_reading [(1161, 0), (0, v), (0, e), (0, w)] σ m _ := fun m em => k_m_reading (ext := ext) (d := 7) (μ := m) h.1.1 (t := t) (by rw [em]; exact h.2.1) hv he hw
  by_cases hok : (0 ≤ v ∧ v ≤ μ 169 0 - 1) ∧ (0 ≤ e ∧ e ≤ 99) ∧ (0 ≤ w ∧ w ≤ 5)
  · by_cases h6 : μ 169 5 = 6
    · obtain ⟨rfl, hq1⟩ := (q1.2 hok).1 h6
      have em : μ1 169 = μ 169 := funext fun j => by rw [hq1, up_n (by omega)]
      obtain ⟨rv2, μ2, c2, q2⟩ := m1 μ1 em
      rw [em] at q2
      obtain ⟨rfl, hq2⟩ := (q2.2 hok).1 h6
      refine STP.of c1 c2 (h.ref (i := 2) (by omega) hq1 (fun k j p q => by rw [hq2, up_n q]) ?_)
      rw [hq2, up_s, hq1, up_n (by omega)]
    · obtain ⟨rfl, hq1, hS⟩ := (q1.2 hok).2 h6
      have em := Fs.n h hq1
      obtain ⟨rv2, μ2, c2, q2⟩ := m1 μ1 em
      rw [em] at q2
      obtain ⟨rfl, hq2, hx⟩ := (q2.2 hok).2 h6
      refine STP.of c1 c2 (h.now hq1 (fun k j p q => hx k j q) ?_)
      rw [hq2]
      exact hS.mono (by omega)
  · obtain ⟨rfl, hq1⟩ := q1.1 hok
    have em : μ1 169 = μ 169 := funext fun j => by rw [hq1, up_n (by omega)]
    obtain ⟨rv2, μ2, c2, q2⟩ := m1 μ1 em
    rw [em] at q2
    obtain ⟨rfl, hq2⟩ := q2.1 hok
    refine STP.of c1 c2 (h.ref (i := 0) (by omega) hq1 (fun k j p q => by rw [hq2, up_n q]) ?_)
    rw [hq2, up_s, hq1, up_n (by omega)]
theorem s_forget (h : WS σ μ t) : STP ext σ μ t n_X11_forget n_X12_forget [] 0 := by
  obtain ⟨rv1, μ1, c1, rfl, h1, hS⟩ := k_x_forget (ext := ext) (d := 10) h.sr
  have c2 := k_m_forget (ext := ext) (d := 10) (μ := μ1) (σ := σ) h.1.1
  have em := Fs.n h h1
  rw [congrFun em 5] at c2
  refine STP.of c1 c2 (h.now h1 (fun k j p q => by rw [up_n (by omega)]) ?_)
  rw [up_row, em]
  exact hS.mono (by omega)
theorem s_night (h : WS σ μ t) (ht : 0 ≤ t ∧ t ≤ 100) : STP ext σ μ t n_X11_night n_X12_night [] 0 := by
  obtain ⟨rv1, μ1, c1, rfl, h1, hS⟩ := k_x_night (ext := ext) (d := 6) h.sr ht
  have em := Fs.n h h1
  obtain ⟨rv2, μ2, c2, q2, q3, q4⟩ := k_m_night (ext := ext) (d := 8) (μ := μ1) (σ := σ) h.1.1 (t := t) (by rw [em]; exact h.2.1) (by omega)
  rw [congrFun em 2] at q2
  rw [em] at q3
  subst q2
  refine STP.of c1 c2 (h.now h1 (fun k j p q => q4 k j q) ?_)
  rw [q3]
  exact hS
theorem s_undo (h : WS σ μ t) : STP ext σ μ t n_X11_undo n_X12_undo [] 0 := by
  obtain ⟨rv1, μ1, c1, q1⟩ := k_x_undo (ext := ext) (d := 7) h.sr
  have m1 : ∀ m : zM, m 169 = μ 169 → ZQ ext 10 n_X12_undo [(1161, 0)] σ m _ := fun m em => k_m_undo (ext := ext) (d := 8) (μ := m) h.1.1 (t := t) (by rw [em]; exact h.2.1)
  by_cases h6 : μ 169 6 = 0
  · obtain ⟨rfl, hq1⟩ := q1.1 h6
    have em : μ1 169 = μ 169 := funext fun j => by rw [hq1, up_n (by omega)]
    obtain ⟨rv2, μ2, c2, q2⟩ := m1 μ1 em
    rw [em] at q2
    obtain ⟨rfl, hq2⟩ := q2.1 h6
    refine STP.of c1 c2 (h.ref (i := 1) (by omega) hq1 (fun k j p q => by rw [hq2, up_n q]) ?_)
    rw [hq2, up_s, hq1, up_n (by omega)]
  · obtain ⟨rfl, hq1, hS⟩ := q1.2 h6
    have em := Fs.n h hq1
    obtain ⟨rv2, μ2, c2, q2⟩ := m1 μ1 em
    rw [em] at q2
    obtain ⟨rfl, hq2, hx⟩ := q2.2 h6
    refine STP.of c1 c2 (h.now hq1 (fun k j p q => hx k j q) ?_)
    rw [hq2]
    exact hS.mono (by omega)
theorem s_let {v r : Int} (h : WS σ μ t) (ht : 0 ≤ t ∧ t ≤ 100) (hv : zrng v) (hr : zrng r) : STP ext σ μ t n_X11_let n_X12_let [(0, v), (0, r)] 0 := by
  classical
  obtain ⟨rv1, μ1, c1, q1⟩ := k_x_let (ext := ext) (d := 5) h.sr ht.2 hv hr
  have m1 : ∀ m : zM, m 169 = μ 169 → ZQ ext 10 n_X12_let [(1161, 0), (0, v), (0, r)] σ m _ := fun m em => k_m_let (ext := ext) (d := 6) (μ := m) h.1.1 (t := t) (by rw [em]; exact h.2.1) hv hr
  by_cases hok : (0 ≤ v ∧ v ≤ μ 169 0 - 1) ∧ (0 ≤ r ∧ r ≤ μ 169 1 - 1)
  · by_cases hmay : mayL (μ 169) v r
    · obtain ⟨rfl, hq1, hS⟩ := (q1.2 hok).2 hmay
      have em := Fs.n h hq1
      obtain ⟨rv2, μ2, c2, q2⟩ := m1 μ1 em
      rw [em] at q2
      obtain ⟨rfl, hq2, hx⟩ := (q2.2 hok).2 hmay
      refine STP.of c1 c2 (h.now hq1 (fun k j p q => ?_) ?_)
      · unfold scr at p
        exact hx k j q (by omega) (by omega)
      · rw [hq2]
        exact hS
    · obtain ⟨rfl, hq1⟩ := (q1.2 hok).1 hmay
      have em : μ1 169 = μ 169 := funext fun j => by rw [hq1, up_n (by omega)]
      obtain ⟨rv2, μ2, c2, q2⟩ := m1 μ1 em
      rw [em] at q2
      obtain ⟨rfl, μ0, hq0, hq2⟩ := (q2.2 hok).1 hmay
      refine STP.of c1 c2 (h.ref (i := 1) (by omega) hq1 (fun k j p q => ?_) ?_)
      · unfold scr at p
        rw [hq2, up_n q, hq0 k j (by omega) (by omega)]
      · rw [hq2, up_s, hq0 172 1 (by omega) (by omega), hq1, up_n (by omega)]
  · obtain ⟨rfl, hq1⟩ := q1.1 hok
    have em : μ1 169 = μ 169 := funext fun j => by rw [hq1, up_n (by omega)]
    obtain ⟨rv2, μ2, c2, q2⟩ := m1 μ1 em
    rw [em] at q2
    obtain ⟨rfl, hq2⟩ := q2.1 hok
    refine STP.of c1 c2 (h.ref (i := 0) (by omega) hq1 (fun k j p q => by rw [hq2, up_n q]) ?_)
    rw [hq2, up_s, hq1, up_n (by omega)]
theorem s_from {i : Int} (h : WS σ μ t) (hi : zrng i) : STP ext σ μ t n_X11_from n_X12_from [(0, i)] 0 := by
  have ha := h.a
  have hI := h.2.2.2.2.2.2.2.1
  have hIi : 0 ≤ i ∧ i ≤ 1 → IM σ μ i t := by
    intro q
    rcases (by omega : i = 0 ∨ i = 1) with rfl | rfl
    · exact hI.1
    · exact hI.2
  have h164 : ∀ j, 0 ≤ j → j < 2 → μ 171 j = 0 ∨ μ 171 j = 1 := by
    intro j p q
    rcases (by omega : j = 0 ∨ j = 1) with rfl | rfl
    · rcases hI.1 with z | z
      · exact Or.inl z.2
      · exact Or.inr z.1
    · rcases hI.2 with z | z
      · exact Or.inl z.2
      · exact Or.inr z.1
  by_cases hok : 0 ≤ i ∧ i ≤ 1
  · rcases hIi hok with z | z
    · obtain ⟨rv1, μ1, c1, q1⟩ := k_x_from (ext := ext) (d := 7) (K := μ 169) h.sr hi (c := -1) (fun _ => z.1) (Or.inl rfl)
      obtain ⟨rfl, hq1⟩ := (q1.2 hok).1 rfl
      have e164 : ∀ j, μ1 171 j = μ 171 j := fun j => by rw [hq1, up_n (by omega)]
      obtain ⟨rv2, μ2, c2, q2⟩ := k_m_from (ext := ext) (d := 8) (μ := μ1) (σ := σ) h.1.1 hi (fun j p q => by rw [e164]; exact h164 j p q)
      obtain ⟨rfl, hq2⟩ := (q2.2 hok).1 (by rw [e164]; exact z.2)
      refine STP.of c1 c2 (h.ref (i := 1) (by omega) hq1 (fun k j p q => by rw [hq2, up_n q]) ?_)
      rw [hq2, up_s, hq1, up_n (by omega)]
    · obtain ⟨z1, z2, z3, z4, z5, z6⟩ := z
      obtain ⟨rv1, μ1, c1, q1⟩ := k_x_from (ext := ext) (d := 7) (K := fun k => μ 170 (523 * i + k)) h.sr hi (c := μ 1 i) (fun _ => rfl) (Or.inr ⟨⟨h.1, z3, z5, z4, z6, by omega⟩, by omega⟩)
      obtain ⟨rfl, hq1, hS⟩ := (q1.2 hok).2 (by omega)
      have e164 : ∀ j, μ1 171 j = μ 171 j := fun j => hq1 171 j (by omega)
      obtain ⟨rv2, μ2, c2, q2⟩ := k_m_from (ext := ext) (d := 8) (μ := μ1) (σ := σ) h.1.1 hi (fun j p q => by rw [e164]; exact h164 j p q)
      obtain ⟨rfl, hq2, hx⟩ := (q2.2 hok).2 (by rw [e164]; exact z1)
      refine STP.of c1 c2 (h.now hq1 (fun k j p q => hx k j q) ?_)
      have ek : ∀ k, 0 ≤ k → k < 523 → μ2 169 k = (fun k => μ 170 (523 * i + k)) k := fun k p q => by rw [hq2 k p q, hq1 170 _ (by omega)]
      exact (SR.mono ⟨hS.1, hS.2.1, RS_523 ek hS.2.2.2.1 hS.2.2.1, BI_523 ek hS.2.2.2.1, hS.2.2.2.2⟩ (by omega))
  · obtain ⟨rv1, μ1, c1, q1⟩ := k_x_from (ext := ext) (d := 7) (K := μ 169) h.sr hi (c := -1) (fun q => absurd q hok) (Or.inl rfl)
    obtain ⟨rfl, hq1⟩ := q1.1 hok
    have e164 : ∀ j, μ1 171 j = μ 171 j := fun j => by rw [hq1, up_n (by omega)]
    obtain ⟨rv2, μ2, c2, q2⟩ := k_m_from (ext := ext) (d := 8) (μ := μ1) (σ := σ) h.1.1 hi (fun j p q => by rw [e164]; exact h164 j p q)
    obtain ⟨rfl, hq2⟩ := q2.1 hok
    refine STP.of c1 c2 (h.ref (i := 0) (by omega) hq1 (fun k j p q => by rw [hq2, up_n q]) ?_)
    rw [hq2, up_s, hq1, up_n (by omega)]
end
