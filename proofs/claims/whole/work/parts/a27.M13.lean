def LC (e who : Int) (μ μ' : zM) : Prop := (∀ k j, k ≠ 177 → ¬ (k = 168 ∧ (j = 16 ∨ j = 17)) → μ' k j = μ k j) ∧
  μ' 168 16 = (gC (μ 169) e (μ 173) (μ 174) (μ 175) (μ 176) (μ 168 7) who).1 ∧ μ' 168 17 = (gC (μ 169) e (μ 173) (μ 174) (μ 175) (μ 176) (μ 168 7) who).2
section
variable {ext : List xC} {σ : zSh} {d : Nat} {μ : zM}
set_option maxRecDepth 100000 in set_option maxHeartbeats 4000000 in theorem k_m_layCome {e who t : Int} (hW : Wl σ) (hN : NI (μ 169) t) (hH : HR μ) (he : 0 ≤ e ∧ e < 1000) (hw : 0 ≤ who ∧ who < 256) : ZQ ext (d + 5) n_X12_layCome [(1161, 0), (0, e), (0, who)] σ μ (fun rv μ' => rv = none ∧ LC e who μ μ') := by
  have h1 := hN.1.1
  have h7 := hH.1
  have hall := bt_all h1
  generalize hQ : (fun (rv : Option V) (μ' : zM) => rv = none ∧ LC e who μ μ') = Q
  generalize hs : sM (μ 169) e (μ 173) (μ 174) (μ 175) (μ 176) = s
  have main : ∀ (k : Nat) (i f m y : Int) (μ1 : zM) (x5 x6 x7 : V), 0 ≤ i → i + k = μ 168 7 → 0 ≤ f ∧ f < 64 → (∀ k j, k ≠ 177 → ¬ (k = 168 ∧ (j = 16 ∨ j = 17)) → μ1 k j = μ k j) → (∀ r, 0 ≤ r → r < μ 168 7 → μ1 177 r = s r ∧ (0 ≤ s r ∧ s r < 64)) → μ1 168 16 = m → μ1 168 17 = y → asC (μ 169 0).toNat (μ 173) s who k i f m y = gC (μ 169) e (μ 173) (μ 174) (μ 175) (μ 176) (μ 168 7) who → ZE ext (d + 5) n_X12_layCome 27 [(1161, 0), (0, e), (0, who), (0, f), (0, i), x5, x6, x7] [] σ μ1 Q := by
    intro k
    induction k with
    | zero =>
      intro i f m y μ1 x5 x6 x7 h0 hi hf hfr hsu em ey hT
      have n7 := hfr 168 7 (by omega) (by omega)
      refine ZE.go hW 9999 rfl (by and_intros <;> first | trivial | assumption | omega) ?_
      refine ZE.b rfl (by omega) (by omega) ?_ ?_ <;> intro g1
      · refine ZE.rv rfl rfl ?_
        rw [← hQ]
        refine ⟨rfl, hfr, ?_, ?_⟩
        · rw [← hT]; exact em
        · rw [← hT]; exact ey
      · omega
    | succ k ih =>
      intro i f m y μ1 x5 x6 x7 h0 hi hf hfr hsu em ey hT
      have n7 := hfr 168 7 (by omega) (by omega)
      have n0 := hfr 169 0 (by omega) (by omega)
      have hsi := hsu i h0 (by omega)
      have hfs := bt_and hf hsi.2
      have ecm : zand f (s i) = zand (s i) f := zand_cm
      have e166 : μ1 173 = μ 173 := funext fun j => hfr 173 j (by omega) (by omega)
      have hwb := bt01 (m := who) (v := i) hw (by omega)
      have hwr := bt_rng (m := who) (v := i) hw (by omega)
      have hav := asv_in (nv := (μ 169 0).toNat) (c := μ 173) (s := s) (who := who) (r := i) (f := f)
      have tail : ∀ (x6 x7 : V), ZE ext (d + 5) n_X12_layCome 128 [(1161, 0), (0, e), (0, who), (0, f), (0, i), (0, asv (μ 169 0).toNat (μ 173) s who i f), x6, x7] [] σ μ1 Q := by
        intro x6 x7
        have hst : asC (μ 169 0).toNat (μ 173) s who (k + 1) i f m y = if asv (μ 169 0).toNat (μ 173) s who i f = -1 then asC (μ 169 0).toNat (μ 173) s who k (i + 1) f m y else asC (μ 169 0).toNat (μ 173) s who k (i + 1) (zxor f (zshl 1 (asv (μ 169 0).toNat (μ 173) s who i f))) (m + 1) (y + μ 173 (asv (μ 169 0).toNat (μ 173) s who i f)) := rfl
        rw [hst] at hT
        generalize asv (μ 169 0).toNat (μ 173) s who i f = D at hav hT
        refine ZE.go hW 9999 rfl (by and_intros <;> first | trivial | assumption | omega) ?_
        refine ZE.b rfl (by omega) (by omega) ?_ ?_ <;> intro g1
        · rw [if_pos g1] at hT
          refine ZE.go hW 27 rfl (by and_intros <;> first | trivial | assumption | omega) ?_
          exact ih (i + 1) f m y μ1 _ _ _ (by omega) (by omega) hf hfr hsu em ey hT
        · rw [if_neg g1] at hT
          have hD := hav.resolve_left g1
          have hbf : bt f D := ((bt_and hsi.2 hf).2 D (by omega) (by omega)).mp hD.2.2 |>.2
          have hx := bt_xor hf (v := D) (by omega) hbf
          refine ZE.go hW 27 rfl (by and_intros <;> first | trivial | assumption | omega) ?_
          rw [clr_xor hf (by omega) hbf]
          refine ih (i + 1) _ (m + 1) (y + μ 173 D) _ _ _ _ (by omega) (by omega) hx.1 ?_ ?_ ?_ ?_ hT
          · intro k j p q
            rw [up_n (by omega), up_n (by omega)]
            exact hfr k j p q
          · intro r p q
            rw [up_n (by omega), up_n (by omega)]
            exact hsu r p q
          · rw [up_n (by omega), up_s, em]
          · rw [up_s, up_n (k' := 168) (by omega), up_n (k' := 173) (by omega), ey, e166]
      refine ZE.go hW 9999 rfl (by and_intros <;> first | trivial | assumption | omega) ?_
      refine ZE.b rfl (by omega) (by omega) ?_ ?_ <;> intro g1
      · omega
      · refine ZE.go hW 42 rfl (by and_intros <;> first | trivial | assumption | omega) ?_
        by_cases hb : zand (zshr who i) 1 = 1
        · have inner : ∀ (q : Nat) (v b : Int) (x7 : V), 0 ≤ v → v + q = μ 169 0 → (b = -1 ∨ 0 ≤ b ∧ b < v) → dr (μ 173) (zand (s i) f) q v b = asv (μ 169 0).toNat (μ 173) s who i f → ZE ext (d + 5) n_X12_layCome 42 [(1161, 0), (0, e), (0, who), (0, f), (0, i), (0, b), (0, v), x7] [] σ μ1 Q := by
            intro q
            induction q with
            | zero =>
              intro v b x7 hv0 hv hbb hD
              refine ZE.go hW 9999 rfl (by and_intros <;> first | trivial | assumption | omega) ?_
              refine ZE.b rfl (by omega) (by omega) ?_ ?_ <;> intro g2
              · have hD : b = asv (μ 169 0).toNat (μ 173) s who i f := hD
                rw [hD]
                exact tail _ _
              · omega
            | succ q ihq =>
              intro v b x7 hv0 hv hbb hD
              have hD : dr (μ 173) (zand (s i) f) q (v + 1) (if zand (zshr (zand (s i) f) v) 1 = 1 ∧ (b = -1 ∨ μ 173 b < μ 173 v) then v else b) = asv (μ 169 0).toNat (μ 173) s who i f := hD
              have hts := bt_test hfs.1 (v := v) (by omega)
              have hts2 : zand (zand f (μ1 177 i)) (zshl 1 v) ≠ 0 ↔ zand (zshr (zand (s i) f) v) 1 = 1 := by rw [hsi.1, ← ecm]; exact hts.2
              have hts3 : zrng (zand (zand f (μ1 177 i)) (zshl 1 v)) := by rw [hsi.1]; exact hts.1
              have hcv := hH.2.1 v hv0 (by omega)
              have hcb : b = -1 ∨ 0 ≤ μ 173 b ∧ μ 173 b < 200 := by
                rcases hbb with h | h
                · exact Or.inl h
                · exact Or.inr (hH.2.1 b h.1 (by omega))
              have m1 := congrFun e166 v
              have m2 := congrFun e166 b
              have keep : ¬ (zand (zshr (zand (s i) f) v) 1 = 1 ∧ (b = -1 ∨ μ 173 b < μ 173 v)) → ∀ x7, ZE ext (d + 5) n_X12_layCome 118 [(1161, 0), (0, e), (0, who), (0, f), (0, i), (0, b), (0, v), x7] [] σ μ1 Q := by
                intro hn x7
                rw [if_neg hn] at hD
                refine ZE.go hW 42 rfl (by and_intros <;> first | trivial | assumption | omega) ?_
                exact ihq (v + 1) b _ (by omega) (by omega) (by omega) hD
              have take : (zand (zshr (zand (s i) f) v) 1 = 1 ∧ (b = -1 ∨ μ 173 b < μ 173 v)) → ∀ x7, ZE ext (d + 5) n_X12_layCome 113 [(1161, 0), (0, e), (0, who), (0, f), (0, i), (0, b), (0, v), x7] [] σ μ1 Q := by
                intro hn x7
                rw [if_pos hn] at hD
                refine ZE.go hW 42 rfl (by and_intros <;> first | trivial | assumption | omega) ?_
                exact ihq (v + 1) v _ (by omega) (by omega) (by omega) hD
              refine ZE.go hW 9999 rfl (by and_intros <;> first | trivial | assumption | omega) ?_
              refine ZE.b rfl (by omega) (by omega) ?_ ?_ <;> intro g1
              · omega
              · refine ZE.go hW 9999 rfl (by and_intros <;> first | trivial | assumption | omega) ?_
                refine ZE.b rfl (hwr) (by omega) ?_ ?_ <;> intro g2
                · exact absurd hb g2
                · refine ZE.go hW 9999 rfl (by and_intros <;> first | trivial | assumption | omega) ?_
                  refine ZE.b0 rfl (hts3) ?_ ?_ <;> intro g3
                  · refine ZE.go hW 9999 rfl (by and_intros <;> first | trivial | assumption | omega) ?_
                    refine ZE.b0 rfl (by omega) ?_ ?_ <;> intro g4
                    · first
                        | (exfalso; omega)
                        | exact keep (by omega) _
                    · refine ZE.go hW 9999 rfl (by and_intros <;> first | trivial | assumption | omega) ?_
                      refine ZE.b rfl (by omega) (by omega) ?_ ?_ <;> intro g5
                      · first
                          | (exfalso; omega)
                          | exact take (by omega) _
                      · refine ZE.go hW 9999 rfl (by and_intros <;> first | trivial | assumption | omega) ?_
                        refine ZE.b rfl (by omega) (by omega) ?_ ?_ <;> intro g6
                        · first
                            | (exfalso; omega)
                            | exact keep (by omega) _
                        · first
                            | (exfalso; omega)
                            | exact take (by omega) _
                  · refine ZE.go hW 9999 rfl (by and_intros <;> first | trivial | assumption | omega) ?_
                    refine ZE.b0 rfl (by omega) ?_ ?_ <;> intro g4
                    · first
                        | (exfalso; omega)
                        | exact keep (by omega) _
                    · refine ZE.go hW 9999 rfl (by and_intros <;> first | trivial | assumption | omega) ?_
                      refine ZE.b rfl (by omega) (by omega) ?_ ?_ <;> intro g5
                      · first
                          | (exfalso; omega)
                          | exact take (by omega) _
                      · refine ZE.go hW 9999 rfl (by and_intros <;> first | trivial | assumption | omega) ?_
                        refine ZE.b rfl (by omega) (by omega) ?_ ?_ <;> intro g6
                        · first
                            | (exfalso; omega)
                            | exact keep (by omega) _
                        · first
                            | (exfalso; omega)
                            | exact take (by omega) _
          have ea : asv (μ 169 0).toNat (μ 173) s who i f = dr (μ 173) (zand (s i) f) (μ 169 0).toNat 0 (-1) := if_pos hb
          exact inner (μ 169 0).toNat 0 (-1) _ (by omega) (by omega) (Or.inl rfl) ea.symm
        · have ea : asv (μ 169 0).toNat (μ 173) s who i f = -1 := if_neg hb
          have tl := tail
          rw [ea] at tl
          refine ZE.go hW 9999 rfl (by and_intros <;> first | trivial | assumption | omega) ?_
          refine ZE.b rfl (by omega) (by omega) ?_ ?_ <;> intro g1
          · exact tl _ _
          · refine ZE.go hW 9999 rfl (by and_intros <;> first | trivial | assumption | omega) ?_
            refine ZE.b rfl (hwr) (by omega) ?_ ?_ <;> intro g2
            · exact tl _ _
            · exact absurd g2 hb
  refine ZQ.i rfl ?_
  refine ZE.go hW 9999 rfl (by and_intros <;> first | trivial | assumption | omega) ?_
  refine ZE.q0 hW rfl rfl (Nat.le_of_ble_eq_true rfl) (Nat.le_of_ble_eq_true rfl) (k_m_laySuit (d := d) hW hN hH he) ?_
  rintro rv9 μs ⟨rfl, hf, hsm⟩
  refine ZE.go hW 27 rfl (by and_intros <;> first | trivial | assumption | omega) ?_
  refine main (μ 168 7).toNat 0 _ 0 0 _ _ _ _ (by omega) (by omega) hall.1 ?_ ?_ ?_ ?_ (by rw [← hs]; rfl)
  · intro k j p q
    rw [up_n (by omega), up_n (by omega)]
    exact hf k j p
  · intro r p q
    rw [up_n (by omega), up_n (by omega)]
    have h9 : μs 177 r = s r := by
      rw [← hs]
      exact mkm_eq h1 (hsm r p q) (fun v _ _ => Iff.rfl)
    exact ⟨h9, by rw [← h9]; exact (hsm r p q).1⟩
  · rw [up_n (by omega), up_s]
  · rw [up_s]
end
