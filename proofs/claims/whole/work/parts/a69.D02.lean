section
variable {ext : List xC} {σ : zSh} {μ : zM} {t : Int}
theorem e162 {μ1 : zM} (e : ∀ k j, 168 ≤ k → k ≤ 183 → μ1 k j = μ k j) : μ1 169 = μ 169 := funext fun j => e 169 j (by omega) (by omega)
theorem s_of {v w : Int} (h : WS σ μ t) (ht : t ≤ 100) (hv : zrng v) (hw : zrng w) : STP ext σ μ t n_X11_of n_X12_of [(0, v), (0, w)] 0 := by
  refine stp_q h (k_x_of (d := 6) h.sr ht hv hw) (fun μ1 e => ?_)
  have k := k_m_of (ext := ext) (d := 7) (μ := μ1) h.1.1 (t := t) (by rw [e162 e]; exact h.2.1) ht hv hw
  rw [e162 e] at k
  exact k
theorem s_about {r w : Int} (h : WS σ μ t) (hv : zrng r) (hw : zrng w) : STP ext σ μ t n_X11_about n_X12_about [(0, r), (0, w)] 0 := by
  refine stp_q h (k_x_about (d := 7) h.sr hv hw) (fun μ1 e => ?_)
  have k := k_m_about (ext := ext) (d := 7) (μ := μ1) h.1.1 (t := t) (by rw [e162 e]; exact h.2.1) hv hw
  rw [e162 e] at k
  exact k
theorem s_shows {v w : Int} (h : WS σ μ t) (hv : zrng v) (hw : zrng w) : STP ext σ μ t n_X11_shows n_X12_shows [(0, v), (0, w)] 0 := by
  refine stp_q h (k_x_shows (d := 6) h.sr hv hw) (fun μ1 e => ?_)
  have k := k_m_shows (ext := ext) (d := 7) (μ := μ1) h.1.1 (t := t) (by rw [e162 e]; exact h.2.1) hv hw
  rw [e162 e] at k
  exact k
theorem s_suits {v r w : Int} (h : WS σ μ t) (hv : zrng v) (hr : zrng r) (hw : zrng w) : STP ext σ μ t n_X11_suits n_X12_suits [(0, v), (0, r), (0, w)] 0 := by
  refine stp_q h (k_x_suits (d := 5) h.sr hv hr hw) (fun μ1 e => ?_)
  have k := k_m_suits (ext := ext) (d := 6) (μ := μ1) h.1.1 (t := t) (by rw [e162 e]; exact h.2.1) hv hr hw
  rw [e162 e] at k
  exact k
theorem s_best {v w : Int} (h : WS σ μ t) (hv : zrng v) (hw : zrng w) : STP ext σ μ t n_X11_best n_X12_best [(0, v), (0, w)] 0 := by
  refine stp_q h (k_x_best (d := 5) h.sr hv hw) (fun μ1 e => ?_)
  have k := k_m_best (ext := ext) (d := 4) (μ := μ1) h.1.1 (t := t) (by rw [e162 e]; exact h.2.1) hv hw
  rw [e162 e] at k
  exact k
theorem s_money {v : Int} (h : WS σ μ t) (hv : zrng v) : STP ext σ μ t n_X11_money n_X12_money [(0, v)] 0 := by
  refine stp_q h (k_x_money (d := 5) h.sr hv) (fun μ1 e => ?_)
  have k := k_m_money (ext := ext) (d := 4) (μ := μ1) h.1.1 (t := t) (by rw [e162 e]; exact h.2.1) hv
  rw [e162 e] at k
  exact k
theorem s_come {v w : Int} (h : WS σ μ t) (hv : zrng v) (hw : zrng w) : STP ext σ μ t n_X11_come n_X12_come [(0, v), (0, w)] 0 := by
  refine stp_q h (k_x_come (d := 5) h.sr hv hw) (fun μ1 e => ?_)
  have k := k_m_come (ext := ext) (d := 4) (μ := μ1) h.1.1 (t := t) (by rw [e162 e]; exact h.2.1) hv hw
  rw [e162 e] at k
  exact k
theorem s_changed {v w : Int} (h : WS σ μ t) (hv : zrng v) (hw : zrng w) : STP ext σ μ t n_X11_changed n_X12_changed [(0, v), (0, w)] 0 := by
  refine stp_q h (k_x_changed (d := 4) h.sr hv hw) (fun μ1 e => ?_)
  have k := k_m_changed (ext := ext) (d := 4) (μ := μ1) h.1.1 (t := t) (by rw [e162 e]; exact h.2.1) hv hw
  rw [e162 e] at k
  exact k
theorem s_air {v : Int} (h : WS σ μ t) (ht : t ≤ 100) (hv : zrng v) : STP ext σ μ t n_X11_air n_X12_air [(0, v)] 0 := by
  refine stp_q h (k_x_air (d := 4) h.sr ht hv) (fun μ1 e => ?_)
  have k := k_m_air (ext := ext) (d := 7) (μ := μ1) h.1.1 (t := t) (by rw [e162 e]; exact h.2.1) ht hv
  rw [e162 e] at k
  exact k
theorem s_bring {v r w : Int} (h : WS σ μ t) (ht : t ≤ 100) (hv : zrng v) (hr : zrng r) (hw : zrng w) : STP ext σ μ t n_X11_bring n_X12_bring [(0, v), (0, r), (0, w)] 0 := by
  refine stp_q h (k_x_bring (d := 4) h.sr ht hv hr hw) (fun μ1 e => ?_)
  have k := k_m_bring (ext := ext) (d := 7) (μ := μ1) h.1.1 (t := t) (by rw [e162 e]; exact h.2.1) ht hv hr hw
  rw [e162 e] at k
  exact k
theorem s_left {v r w : Int} (h : WS σ μ t) (ht : t ≤ 100) (hv : zrng v) (hr : zrng r) (hw : zrng w) : STP ext σ μ t n_X11_left n_X12_left [(0, v), (0, r), (0, w)] 0 := by
  refine stp_q h (k_x_left (d := 7) h.sr ht hv hr hw) (fun μ1 e => ?_)
  have k := k_m_left (ext := ext) (d := 7) (μ := μ1) h.1.1 (t := t) (by rw [e162 e]; exact h.2.1) ht hv hr hw
  rw [e162 e] at k
  exact k
theorem s_is {v w : Int} (h : WS σ μ t) (hv : zrng v) (hw : zrng w) : STP ext σ μ t n_X11_is n_X12_is [(0, v), (0, w)] 0 := by
  refine stp_q h (k_x_is (d := 4) h.sr hv hw) (fun μ1 e => ?_)
  have k := k_m_is (ext := ext) (d := 7) (μ := μ1) h.1.1 (t := t) (by rw [e162 e]; exact h.2.1) hv hw
  rw [e162 e] at k
  exact k
theorem s_look {v : Int} (h : WS σ μ t) (ht : t ≤ 100) (hv : zrng v) : STP ext σ μ t n_X11_look n_X12_look [(0, v)] 0 := by
  refine stp_q h (k_x_look (d := 4) h.sr ht hv) (fun μ1 e => ?_)
  have k := k_m_look (ext := ext) (d := 6) (μ := μ1) h.1.1 (t := t) (by rw [e162 e]; exact h.2.1) ht hv
  rw [e162 e] at k
  exact k
theorem s_drawn {v r w : Int} (h : WS σ μ t) (ht : t ≤ 100) (hv : zrng v) (hr : zrng r) (hw : zrng w) : STP ext σ μ t n_X11_drawn n_X12_drawn [(0, v), (0, r), (0, w)] 0 := by
  refine stp_q h (k_x_drawn (d := 4) h.sr ht hv hr hw) (fun μ1 e => ?_)
  have k := k_m_drawn (ext := ext) (d := 4) (μ := μ1) h.1.1 (t := t) (by rw [e162 e]; exact h.2.1) ht hv hr hw
  rw [e162 e] at k
  exact k
theorem s_count {v : Int} (h : WS σ μ t) (hv : zrng v) : STP ext σ μ t n_X11_count n_X12_count [(0, v)] 0 := by
  refine stp_q h (k_x_count (d := 8) h.sr hv) (fun μ1 e => ?_)
  have k := k_m_count (ext := ext) (d := 7) (μ := μ1) h.1.1 (t := t) (by rw [e162 e]; exact h.2.1) hv
  have hT : TX μ := h.2.2.2.2.1
  rw [e162 e, e 168 20 (by omega) (by omega), hT.1.2.2] at k
  exact k
theorem s_digest (h : WS σ μ t) (ht : 0 ≤ t ∧ t ≤ 100) : STP ext σ μ t n_X11_digest n_X12_digest [] 1 := by
  have hT : TX μ := h.2.2.2.2.1
  have hA : AB μ := h.2.2.2.2.2.1
  have k1 := k_x_digest (ext := ext) (d := 7) h.sr ht (by have := hT.1; omega)
  have k2 := k_m_digest (ext := ext) (d := 7) (μ := μ) h.1.1 h.2.1 ht (by have := hT.1; omega)
  rw [hT.1.2.2, hA.1, hA.2] at k2
  exact STP.of k1 k2 (h.same (fun _ _ _ => rfl))
theorem s_status {v : Int} (h : WS σ μ t) (hv : zrng v) : STP ext σ μ t n_X11_status n_X12_status [(0, v)] 0 := by
  have hF : RF μ := h.2.2.2.2.2.2.1
  obtain ⟨rv1, μ1, c1, q1⟩ := k_x_status (ext := ext) (d := 8) (μ := μ) h.1.1 hv
  obtain ⟨rv2, μ2, c2, q2⟩ := k_m_status (ext := ext) (d := 8) (μ := μ1) h.1.1 hv
  by_cases hok : 0 ≤ v ∧ v ≤ 2
  · obtain ⟨rfl, rfl⟩ := q1.1 hok
    obtain ⟨rfl, rfl⟩ := q2.1 hok
    rw [← hF v (by omega) (by omega)] at c2
    exact STP.of c1 c2 (h.same (fun _ _ _ => rfl))
  · obtain ⟨rfl, hq1⟩ := q1.2 hok
    obtain ⟨rfl, hq2⟩ := q2.2 hok
    refine STP.of c1 c2 (h.ref (i := 0) (by omega) hq1 (fun k j p q => by rw [hq2, up_n q]) ?_)
    rw [hq2, up_s, hq1, up_n (by omega)]
theorem s_part {v : Int} (h : WS σ μ t) (hv : zrng v) : STP ext σ μ t n_X11_part n_X12_part [(0, v)] 1 := by
  have hA : AB μ := h.2.2.2.2.2.1
  obtain ⟨rv1, μ1, c1, q1⟩ := k_x_part (ext := ext) (d := 8) (μ := μ) h.1.1 hv
  obtain ⟨rv2, μ2, c2, q2⟩ := k_m_part (ext := ext) (d := 8) (μ := μ1) h.1.1 hv
  by_cases h0 : v = 0
  · obtain ⟨rfl, rfl⟩ := q1.1 h0
    obtain ⟨rfl, rfl⟩ := q2.1 h0
    rw [hA.1] at c2
    exact STP.of c1 c2 (h.same (fun _ _ _ => rfl))
  · by_cases h1 : v = 1
    · obtain ⟨rfl, rfl⟩ := q1.2.1 h1
      obtain ⟨rfl, rfl⟩ := q2.2.1 h1
      rw [hA.2] at c2
      exact STP.of c1 c2 (h.same (fun _ _ _ => rfl))
    · obtain ⟨rfl, hq1⟩ := q1.2.2 h0 h1
      obtain ⟨rfl, hq2⟩ := q2.2.2 h0 h1
      refine STP.of c1 c2 (h.ref (i := 0) (by omega) hq1 (fun k j p q => by rw [hq2, up_n q]) ?_)
      rw [hq2, up_s, hq1, up_n (by omega)]
theorem s_more {e w p x : Int} (h : WS σ μ t) (he : zrng e) (hw : zrng w) (hp : zrng p) (hx : zrng x) : STP ext σ μ t n_X11_more n_X12_more [(0, e), (0, w), (0, p), (0, x)] 0 := by
  obtain ⟨rv1, μ1, c1, q1⟩ := k_x_more (ext := ext) (d := 5) h.sr he hw hp hx
  have m1 : ∀ m : zM, m 169 = μ 169 → ZQ ext 10 n_X12_more [(1161, 0), (0, e), (0, w), (0, p), (0, x)] σ m _ := fun m em => k_m_more (ext := ext) (d := 4) (μ := m) h.1.1 (t := t) (by rw [em]; exact h.2.1) he hw hp hx
  by_cases hok : (0 ≤ e ∧ e ≤ 99) ∧ (1 ≤ w ∧ w ≤ 9) ∧ (0 ≤ p ∧ p ≤ 999) ∧ (0 ≤ x ∧ x ≤ 6)
  · by_cases h6 : μ 169 1 = 6
    · obtain ⟨rfl, hq1⟩ := (q1.2 hok).1 h6
      have em : μ1 169 = μ 169 := funext fun j => by rw [hq1, up_n (by omega)]
      obtain ⟨rv2, μ2, c2, q2⟩ := m1 μ1 em
      rw [em] at q2
      obtain ⟨rfl, hq2⟩ := (q2.2 hok).1 h6
      refine STP.of c1 c2 (h.ref (i := 1) (by omega) hq1 (fun k j p q => by rw [hq2, up_n q]) ?_)
      rw [hq2, up_s, hq1, up_n (by omega)]
    · obtain ⟨rfl, hq1⟩ := (q1.2 hok).2 h6
      have em : μ1 169 = μ 169 := funext fun j => hq1 169 j (by omega) (by omega)
      obtain ⟨rv2, μ2, c2, q2⟩ := m1 μ1 em
      rw [em] at q2
      obtain ⟨rfl, hq2⟩ := (q2.2 hok).2 h6
      refine STP.of c1 c2 (h.same (fun k j p => ?_))
      unfold scr at p
      rw [hq2 k j (by omega) (by omega), hq1 k j (by omega) (by omega)]
  · obtain ⟨rfl, hq1⟩ := q1.1 hok
    have em : μ1 169 = μ 169 := funext fun j => by rw [hq1, up_n (by omega)]
    obtain ⟨rv2, μ2, c2, q2⟩ := m1 μ1 em
    rw [em] at q2
    obtain ⟨rfl, hq2⟩ := q2.1 hok
    refine STP.of c1 c2 (h.ref (i := 0) (by omega) hq1 (fun k j p q => by rw [hq2, up_n q]) ?_)
    rw [hq2, up_s, hq1, up_n (by omega)]
end
