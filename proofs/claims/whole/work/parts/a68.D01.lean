theorem SR.mono {σ : zSh} {μ : zM} {a t t' : Int} {N : Int → Int} (h : SR σ μ a N t) (ht : t ≤ t') : SR σ μ a N t' := ⟨h.1, h.2.1, h.2.2.1, NI_mono h.2.2.2.1 ht, h.2.2.2.2⟩
theorem WS.sr {σ : zSh} {μ : zM} {t : Int} (h : WS σ μ t) : SR σ μ (μ 0 5) (μ 169) t := by
  obtain ⟨hK, hN, hR, hP, hT, hA, hF, hI, hL, hD⟩ := h
  rcases hD.1 with e | e
  · exact ⟨hK, by rw [e.1]; exact hD.2.1, hR, hN, by rw [e.1]; exact hP.1, by omega⟩
  · exact ⟨hK, by rw [e.1]; exact hD.2.2, hR, hN, by rw [e.1]; exact hP.2, by omega⟩
theorem WS.a {σ : zSh} {μ : zM} {t : Int} (h : WS σ μ t) : μ 0 5 = 22 ∧ μ 0 6 = 95 ∨ μ 0 5 = 95 ∧ μ 0 6 = 22 := h.2.2.2.2.2.2.2.2.2.1
theorem PS.fr {μ μ' : zM} {a : Int} (h : PS μ a) (hf : ∀ j, μ' (a + 24) j = μ (a + 24) j) : PS μ' a := by
  refine ⟨fun u p q => ?_, fun u w p q r s e => ?_⟩
  · rw [hf]; exact h.1 u p q
  · rw [hf, hf] at e; exact h.2 u w p q r s e
theorem IM.fr {σ : zSh} {μ μ' : zM} {i t t' : Int} (h : IM σ μ i t) (ht : t ≤ t') (hK : Wk σ μ) (h16 : ∀ j, μ' 9 j = μ 9 j) (h8 : μ' 1 i = μ 1 i) (h164 : μ' 171 i = μ 171 i) (h163 : ∀ j, 523 * i ≤ j → j < 523 * i + 523 → μ' 170 j = μ 170 j) (hN : ∀ N N' : Int → Int, (∀ k, 0 ≤ k → k < 523 → N' k = N k) → NI N t → NI N' t) (hR : ∀ (N N' : Int → Int) (a : Int), (∀ k, 0 ≤ k → k < 523 → N' k = N k) → NI N t → RS μ' a N → RS μ' a N') (hs : ∀ k j, μ 1 i ≤ k → k ≤ μ 1 i + 72 → 184 ≤ μ 1 i → μ' k j = μ k j) : IM σ μ' i t' := by
  rcases h with ⟨a, b⟩ | ⟨a, b, c, d, e, f⟩
  · exact Or.inl ⟨h8.trans a, h164.trans b⟩
  · have hsr : SR σ μ (μ 1 i) (fun k => μ 170 (523 * i + k)) t := ⟨hK, c, e, d, f, by omega⟩
    have h2 := hsr.fr (μ' := μ') (fun k j p q => hs k j p q (by omega)) h16
    have ek : ∀ k, 0 ≤ k → k < 523 → (fun k => μ' 170 (523 * i + k)) k = (fun k => μ 170 (523 * i + k)) k := fun k p q => h163 _ (by omega) (by omega)
    refine Or.inr ⟨h164.trans a, by rw [h8]; exact b, by rw [h8]; exact c, NI_mono (hN _ _ ek d) ht, ?_, by rw [h8]; exact h2.2.2.2.2.1⟩
    rw [h8]
    exact hR _ _ _ ek d h2.2.2.1
/-- rows that agree where it matters -/
theorem BI_523 {N N' : Int → Int} {t : Int} (e : ∀ k, 0 ≤ k → k < 523 → N' k = N k) (h : NI N t) : NI N' t := by
  obtain ⟨h0, hV, hR, hD, hB, hP⟩ := h
  have e0 := e 0 (by omega) (by omega)
  have e1 := e 1 (by omega) (by omega)
  have e2 := e 2 (by omega) (by omega)
  have e3 := e 3 (by omega) (by omega)
  have e4 := e 4 (by omega) (by omega)
  have e5 := e 5 (by omega) (by omega)
  have e6 := e 6 (by omega) (by omega)
  have hc : 0 ≤ N 4 ∧ N 4 ≤ 12 := hB.2.1
  refine ⟨by omega, ?_, ?_, ?_, ?_, ?_⟩
  · intro u x y
    rw [e _ (by omega) (by omega), e _ (by omega) (by omega), e _ (by omega) (by omega), e _ (by omega) (by omega), e _ (by omega) (by omega)]
    exact hV u x (by omega)
  · intro r x y
    rw [e _ (by omega) (by omega), e _ (by omega) (by omega)]
    exact hR r x (by omega)
  · intro r x y
    rw [e _ (by omega) (by omega), e _ (by omega) (by omega), e _ (by omega) (by omega)]
    exact hD r x (by omega)
  · unfold BN at hB ⊢
    exact BI_cg hB e2 e3 e4 e0 e1 (Int.le_refl t) (fun r p q => e _ (by omega) (by omega)) (fun r p q => e _ (by omega) (by omega)) (fun r p q => ⟨e _ (by omega) (by omega), e _ (by omega) (by omega), e _ (by omega) (by omega)⟩)
  · intro u x y
    have hp := hP u x (by omega)
    have hc2 : 0 ≤ N (115 + 51 * u + 14) ∧ N (115 + 51 * u + 14) ≤ 12 := hp.2.1
    unfold BP at hp ⊢
    exact BI_cg hp (e _ (by omega) (by omega)) (e _ (by omega) (by omega)) (e _ (by omega) (by omega)) e0 e1 (Int.le_refl t) (fun r p q => e _ (by omega) (by omega)) (fun r p q => e _ (by omega) (by omega)) (fun r p q => ⟨e _ (by omega) (by omega), e _ (by omega) (by omega), e _ (by omega) (by omega)⟩)
theorem RS_523 {μ : zM} {a : Int} {N N' : Int → Int} {t : Int} (e : ∀ k, 0 ≤ k → k < 523 → N' k = N k) (hN : NI N t) (h : RS μ a N) : RS μ a N' := by
  obtain ⟨h0, hV, hR, hD, hB, hP⟩ := hN
  have e0 := e 0 (by omega) (by omega)
  have e1 := e 1 (by omega) (by omega)
  have e2 := e 2 (by omega) (by omega)
  have e3 := e 3 (by omega) (by omega)
  have e4 := e 4 (by omega) (by omega)
  have e5 := e 5 (by omega) (by omega)
  have e6 := e 6 (by omega) (by omega)
  have hc : 0 ≤ N 4 ∧ N 4 ≤ 12 := hB.2.1
  obtain ⟨⟨z1, z2, z3, z4⟩, zV, zR, zD, zB, zP⟩ := h
  refine ⟨⟨by omega, by omega, by omega, by omega⟩, ?_, ?_, ?_, ?_, ?_⟩
  · intro u x y
    rw [e _ (by omega) (by omega), e _ (by omega) (by omega), e _ (by omega) (by omega), e _ (by omega) (by omega), e _ (by omega) (by omega)]
    exact zV u x (by omega)
  · intro r x y
    rw [e _ (by omega) (by omega), e _ (by omega) (by omega)]
    exact zR r x (by omega)
  · intro r x y
    rw [e _ (by omega) (by omega), e _ (by omega) (by omega), e _ (by omega) (by omega)]
    exact zD r x (by omega)
  · unfold RN at zB ⊢
    exact BR_cg zB e2.symm e3.symm e4.symm e0.symm e1.symm (fun r p q => (e _ (by omega) (by omega)).symm) (fun r p q => (e _ (by omega) (by omega)).symm) (fun r p q => ⟨(e _ (by omega) (by omega)).symm, (e _ (by omega) (by omega)).symm, (e _ (by omega) (by omega)).symm⟩)
  · intro u x y
    have hp := hP u x (by omega)
    have hc2 : 0 ≤ N (115 + 51 * u + 14) ∧ N (115 + 51 * u + 14) ≤ 12 := hp.2.1
    have zu := zP u x (by omega)
    unfold RP at zu ⊢
    exact BR_cg zu (e _ (by omega) (by omega)).symm (e _ (by omega) (by omega)).symm (e _ (by omega) (by omega)).symm e0.symm e1.symm (fun r p q => (e _ (by omega) (by omega)).symm) (fun r p q => (e _ (by omega) (by omega)).symm) (fun r p q => ⟨(e _ (by omega) (by omega)).symm, (e _ (by omega) (by omega)).symm, (e _ (by omega) (by omega)).symm⟩)
/-- what no later call sees -/
def scr (k j : Int) : Prop := (k = 2 ∧ j ≠ 1) ∨ (4 ≤ k ∧ k ≤ 8) ∨ (10 ≤ k ∧ k ≤ 20) ∨ (173 ≤ k ∧ k ≤ 180) ∨ (k = 168 ∧ 7 ≤ j ∧ j ≤ 17) ∨ (k = 168 ∧ 21 ≤ j ∧ j ≤ 24) ∨ k = 182 ∨ k = 183
theorem WS.upd {σ : zSh} {μ μ' : zM} {t t' : Int} (h : WS σ μ t) (ht : t ≤ t') (hf : ∀ k j, ¬ scr k j → k ≠ 169 → ¬ (μ 0 5 ≤ k ∧ k ≤ μ 0 5 + 72) → k ≠ 21 → k ≠ 172 → μ' k j = μ k j) (hS : SR σ μ' (μ 0 5) (μ' 169) t') (hR : ∀ i, 0 ≤ i → i < 3 → μ' 21 i = μ' 172 i) : WS σ μ' t' := by
  have ha := h.a
  obtain ⟨hK, hN, hRS, hP, hT, hA, hF, hI, hL, hD⟩ := h
  have g : ∀ k j, (k = 0 ∨ k = 1 ∨ (k = 2 ∧ j = 1) ∨ k = 3 ∨ k = 9 ∨ k = 170 ∨ k = 171 ∨ k = 181 ∨ 184 ≤ k ∨ (k = 168 ∧ (j = 4 ∨ j = 5 ∨ j = 20))) → μ' k j = μ k j := fun k j p => hf k j (by unfold scr; omega) (by omega) (by omega) (by omega) (by omega)
  have e7 : μ' 0 5 = μ 0 5 := g 0 5 (by omega)
  have e8 : μ' 0 6 = μ 0 6 := g 0 6 (by omega)
  have imf : ∀ i, 0 ≤ i → i ≤ 1 → IM σ μ i t → IM σ μ' i t' := fun i p q hi => hi.fr ht hK (fun j => g _ _ (by omega)) (g _ _ (by omega)) (g _ _ (by omega)) (fun j _ _ => g _ _ (by omega)) (fun _ _ e => BI_523 e) (fun _ _ _ e hn => RS_523 e hn) (fun k j p q r => g _ _ (by omega))
  refine ⟨hS.1, hS.2.2.2.1, by rw [e7]; exact hS.2.2.1, ?_, ?_, ?_, hR, ⟨imf 0 (by omega) (by omega) hI.1, imf 1 (by omega) (by omega) hI.2⟩, ?_, ?_⟩
  · have hPs := hS.2.2.2.2.1
    rcases ha with a | a
    · rw [a.1] at hPs
      exact ⟨hPs, hP.2.fr (fun j => hf _ _ (by unfold scr; omega) (by omega) (by omega) (by omega) (by omega))⟩
    · rw [a.1] at hPs
      exact ⟨hP.1.fr (fun j => hf _ _ (by unfold scr; omega) (by omega) (by omega) (by omega) (by omega)), hPs⟩
  · have q9 := g 2 1 (by omega)
    have q20 := g 168 20 (by omega)
    refine ⟨by rw [q9, q20]; exact hT.1, fun j p q => ?_⟩
    rw [q9] at q
    rw [g 3 j (by omega), g 181 j (by omega)]
    exact hT.2 j p q
  · unfold AB
    rw [g 168 4 (by omega), g 168 5 (by omega), g 0 7 (by omega), g 0 8 (by omega)]
    exact hA
  · unfold IL
    rw [g 1 0 (by omega), g 1 1 (by omega)]
    exact hL
  · unfold AD
    rw [e7, e8]
    exact hD
/-- the class is asked, then the reference; both answer alike -/
def STP (ext : List xC) (σ : zSh) (μ : zM) (t : Int) (xi mi : Nat) (va : List V) (g : Nat) : Prop := ∃ (x : Int) (σ2 : zSh) (μ1 μ2 : zM), EvM ext 10 xi (.ref 0 :: va.map vv) (hz σ μ) (some (vv (g, x))) (hz σ2 μ1) ∧ ZM ext 10 mi ((1161, 0) :: va) σ2 μ1 (some (g, x)) μ2 ∧ WS σ2 μ2 (t + 1)
section
variable {ext : List xC} {σ : zSh} {μ : zM} {t : Int} {xi mi : Nat} {va : List V}
theorem ZM.evm {d mi : Nat} {vs : List V} {r : Option V} {μ' : zM} (h : ZM ext d mi vs σ μ r μ') : EvM ext d mi (vs.map vv) (hz σ μ) (r.map vv) (hz σ μ') := h.ev
theorem STP.of {g : Nat} {x : Int} {μ1 μ2 : zM} (h1 : ZM ext 10 xi ((1000, 0) :: va) σ μ (some (g, x)) μ1) (h2 : ZM ext 10 mi ((1161, 0) :: va) σ μ1 (some (g, x)) μ2) (h3 : WS σ μ2 (t + 1)) : STP ext σ μ t xi mi va g := ⟨x, σ, μ1, μ2, h1.evm, h2, h3⟩
/-- a refusal that both count -/
theorem WS.ref {μ1 μ2 : zM} {i : Int} (h : WS σ μ t) (hi : 0 ≤ i ∧ i < 3) (h1 : μ1 = up μ 21 i (μ 21 i + 1)) (h2 : ∀ k j, ¬ scr k j → ¬ (k = 172 ∧ j = i) → μ2 k j = μ1 k j) (h3 : μ2 172 i = μ 172 i + 1) : WS σ μ2 (t + 1) := by
  have ha := h.a
  have hF : RF μ := h.2.2.2.2.2.2.1
  have e : ∀ k j, ¬ scr k j → ¬ (k = 172 ∧ j = i) → ¬ (k = 21 ∧ j = i) → μ2 k j = μ k j := fun k j p q r => by rw [h2 k j p q, h1, up_n r]
  have e162 : μ2 169 = μ 169 := funext fun j => e 169 j (by unfold scr; omega) (by omega) (by omega)
  refine h.upd (by omega) (fun k j p _ _ q r => e k j p (by omega) (by omega)) ?_ (fun j p q => ?_)
  · rw [e162]
    exact (h.sr.fr (fun k j p q => e k j (by unfold scr; omega) (by omega) (by omega)) (fun j => e 9 j (by unfold scr; omega) (by omega) (by omega))).mono (by omega)
  · by_cases ej : j = i
    · subst ej
      rw [h2 21 j (by unfold scr; omega) (by omega), h1, up_s, h3, hF j p q]
    · rw [e 21 j (by unfold scr; omega) (by omega) (by omega), e 172 j (by unfold scr; omega) (by omega) (by omega)]
      exact hF j p q
/-- nothing that counts has changed -/
theorem WS.same {μ2 : zM} (h : WS σ μ t) (e : ∀ k j, ¬ scr k j → μ2 k j = μ k j) : WS σ μ2 (t + 1) := by
  have ha := h.a
  have hF : RF μ := h.2.2.2.2.2.2.1
  have e162 : μ2 169 = μ 169 := funext fun j => e 169 j (by unfold scr; omega)
  refine h.upd (by omega) (fun k j p _ _ q r => e k j p) ?_ (fun j p q => ?_)
  · rw [e162]
    exact (h.sr.fr (fun k j p q => e k j (by unfold scr; omega)) (fun j => e 9 j (by unfold scr; omega))).mono (by omega)
  · rw [e 21 j (by unfold scr; omega), e 172 j (by unfold scr; omega)]
    exact hF j p q
theorem stp_q {ok : Prop} {bad val : Int} (h : WS σ μ t) (hc : ZQ ext 10 xi ((1000, 0) :: va) σ μ (Qc ok bad val μ)) (hm : ∀ μ1, (∀ k j, 168 ≤ k → k ≤ 183 → μ1 k j = μ k j) → ZQ ext 10 mi ((1161, 0) :: va) σ μ1 (Qm ok bad val μ1)) : STP ext σ μ t xi mi va 0 := by
  classical
  obtain ⟨rv1, μ1, c1, q1⟩ := hc
  by_cases hok : ok
  · obtain ⟨rfl, hq1⟩ := q1.1 hok
    obtain ⟨rv2, μ2, c2, q2⟩ := hm μ1 (fun k j p q => hq1 k j (by omega) (by omega))
    obtain ⟨rfl, hq2⟩ := q2.1 hok
    refine STP.of c1 c2 (h.same (fun k j p => ?_))
    unfold scr at p
    rw [hq2 k j (by omega) (by omega), hq1 k j (by omega) (by omega)]
  · obtain ⟨rfl, hq1⟩ := q1.2 hok
    obtain ⟨rv2, μ2, c2, q2⟩ := hm μ1 (fun k j p q => by rw [hq1, up_n (by omega)])
    obtain ⟨rfl, hq2⟩ := q2.2 hok
    refine STP.of c1 c2 (h.ref (i := 0) (by omega) hq1 (fun k j p q => by rw [hq2, up_n q]) ?_)
    rw [hq2, up_s, hq1, up_n (by omega)]
/-- only the row and the shop have changed, alike -/
theorem WS.now {μ1 μ2 : zM} (h : WS σ μ t) (h1 : Fs (μ 0 5) μ μ1) (h2 : ∀ k j, ¬ scr k j → k ≠ 169 → μ2 k j = μ1 k j) (hS : SR σ μ1 (μ 0 5) (μ2 169) (t + 1)) : WS σ μ2 (t + 1) := by
  have ha := h.a
  have hF : RF μ := h.2.2.2.2.2.2.1
  refine h.upd (by omega) (fun k j p q r _ _ => by rw [h2 k j p q, h1 k j r]) ?_ (fun j p q => ?_)
  · exact hS.fr (fun k j p q => h2 k j (by unfold scr; omega) (by omega)) (fun j => h2 9 j (by unfold scr; omega) (by omega))
  · rw [h2 21 j (by unfold scr; omega) (by omega), h1 21 j (by omega), h2 172 j (by unfold scr; omega) (by omega), h1 172 j (by omega)]
    exact hF j p q
end
