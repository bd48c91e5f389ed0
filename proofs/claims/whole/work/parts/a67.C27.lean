theorem Zv.eq2 {ext : List xC} {σ : zSh} {d mi pc : Nat} {L st : List V} {μ : zM} {v v' w : V} {r : Option Value} {h' : xH} (h : vv v = vv v') (k : Zv ext d mi pc L (w :: v' :: st) σ μ r h') : Zv ext d mi pc L (w :: v :: st) σ μ r h' := by
  have k : Ev ext d mi pc (L.map vv) (vv w :: vv v' :: st.map vv) (hz σ μ) r h' := k
  rw [← h] at k
  exact k
section
variable {ext : List xC} {σ : zSh} {d : Nat} {μ : zM} {t : Int} {N : Int → Int}
set_option maxRecDepth 100000 in set_option maxHeartbeats 4000000 in theorem k_z_shop {n : Nat} (hW : Wl σ) (hn : σ.length = n) (h5 : n + 73 ≤ 5000) : ∃ μe, EvM ext (d + 5) n_X9_init [.ref n] (hz σ μ ++ [ns0]) none (hz (σ ++ spS (n : Int)) μe) ∧ Em (nwM μ (n : Int)) (n : Int) μe := by
  have hS := spS_sh (σ := σ) hn
  have hW2 : Wl (σ ++ spS (n : Int)) := hW.app
  have hSp := hS.1
  obtain ⟨rv, μe, h1, h2, hE⟩ := k_c_empty (ext := ext) (d := d + 1) (μ := nwM μ (n : Int)) hW2 hSp
  subst h2
  refine ⟨μe, ?_, hE⟩
  have hl : (hz σ μ).length = n := by rw [hz_len]; exact hn
  have k := c_Shop_init (ext := ext) (d := d) (h0 := hz σ μ) (h' := hz (σ ++ spS (n : Int)) μe) (by rw [hl]; exact h5)
  rw [hl] at k
  refine k ?_
  rw [← hz_new hn]
  show Zv ext (d + 5) n_X9_init 200 [(100, (n : Int)), (0, 8)] [] (σ ++ spS (n : Int)) (nwM μ (n : Int)) none (hz (σ ++ spS (n : Int)) μe)
  refine Zv.go hW2 9999 rfl (by repeat' first | exact True.intro | assumption | apply And.intro | omega) ?_
  refine Zv.c1 hW2 rfl rfl hSp (Nat.le_of_ble_eq_true rfl) (Nat.le_of_ble_eq_true rfl) h1 ?_
  exact Zv.rv rfl rfl rfl
set_option maxRecDepth 100000 in set_option maxHeartbeats 4000000 in theorem k_x_image0 {i : Int} (hW : Wl σ) (hi : zrng i) (h : ¬ (0 ≤ i ∧ i ≤ 1)) : ZM ext (d + 2) n_X11_image [(1000, 0), (0, i)] σ μ (some (0, -2)) (up μ 21 0 (μ 21 0 + 1)) := by
  refine ZM.i rfl ?_
  refine Zv.go hW 9999 rfl (by repeat' first | exact True.intro | assumption | apply And.intro | omega | (simp (disch := omega) only [up_n, up_e]; omega)) ?_
  refine Zv.c0 hW rfl rfl (Nat.le_of_ble_eq_true rfl) (Nat.le_of_ble_eq_true rfl) (k_c_within (d := d + 1) hW hi (by omega) (by omega)) ?_
  refine Zv.bp rfl ?_ ?_ <;> intro g1
  · exact absurd g1 h
  · refine Zv.go hW 9999 rfl (by repeat' first | exact True.intro | assumption | apply And.intro | omega | (simp (disch := omega) only [up_n, up_e]; omega)) ?_
    refine Zv.c0 hW rfl rfl (Nat.le_of_ble_eq_true rfl) (Nat.le_of_ble_eq_true rfl) (k_c_refuse (d := d) (x := -2) hW (by omega)) ?_
    exact Zv.ri rfl rfl rfl rfl
set_option maxRecDepth 100000 in set_option maxHeartbeats 4000000 in theorem k_x_image1 {i c : Int} (h : SR σ μ (μ 0 5) N t) (hi : 0 ≤ i ∧ i ≤ 1) (h8 : μ 1 i = c) (hS : Sh σ c) (hP : PS μ c) (h29 : 22 ≤ c) (hd : c + 73 ≤ μ 0 5 ∨ μ 0 5 + 73 ≤ c) : ZQ ext (d + 3) n_X11_image [(1000, 0), (0, i)] σ μ (fun rv μ' => rv = some (0, 1) ∧ Fs c μ μ' ∧ SR σ μ' c N t) := by
  have hW := h.1.1
  have hSp := h.2.1.1
  have hSc := hS.1
  refine ZQ.i rfl ?_
  refine ZE.go hW 9999 rfl (by repeat' first | exact True.intro | assumption | apply And.intro | omega | (simp (disch := omega) only [up_n, up_e]; omega)) ?_
  refine ZE.c0 hW rfl rfl (Nat.le_of_ble_eq_true rfl) (Nat.le_of_ble_eq_true rfl) (k_c_within (d := d + 2) hW (by omega) (by omega) (by omega)) ?_
  refine ZE.bp rfl rfl ?_ ?_ <;> intro g1
  · refine ZE.go hW 9999 rfl (by repeat' first | exact True.intro | assumption | apply And.intro | omega | (simp (disch := omega) only [up_n, up_e]; omega)) ?_
    rw [h8]
    refine ZE.nn1 rfl (by omega) ?_
    refine ZE.go hW 9999 rfl (by repeat' first | exact True.intro | assumption | apply And.intro | omega | (simp (disch := omega) only [up_n, up_e]; omega)) ?_
    rw [h8]
    refine ZE.eq2 (v' := (100, c)) (vv50 (by omega)) ?_
    refine ZE.q1 hW rfl rfl hSc (Nat.le_of_ble_eq_true rfl) (Nat.le_of_ble_eq_true rfl) (k_c_copyS (d := d) h hS hP h29 hd) ?_
    rintro rv9 μ9 ⟨rfl, hf, h9⟩
    refine ZE.go hW 9999 rfl (by repeat' first | exact True.intro | assumption | apply And.intro | omega | (simp (disch := omega) only [up_n, up_e]; omega)) ?_
    refine ZE.ri rfl rfl ?_
    exact ⟨rfl, hf, h9⟩
  · exact absurd hi g1
set_option maxRecDepth 100000 in set_option maxHeartbeats 4000000 in theorem k_x_image2 {i : Int} {n : Nat} (h : SR σ μ (μ 0 5) N t) (hi : 0 ≤ i ∧ i ≤ 1) (h8 : μ 1 i = -1) (hn : σ.length = n) (h5 : n + 73 ≤ 5000) (hd : μ 0 5 + 73 ≤ n) : ∃ μ', EvM ext (d + 6) n_X11_image [.ref 0, .int (Int32.ofInt i)] (hz σ μ) (some (.int 1)) (hz (σ ++ spS (n : Int)) μ') ∧ (∀ k j, k < (n : Int) → ¬ (k = 1 ∧ j = i) → μ' k j = μ k j) ∧ μ' 1 i = n ∧ SR (σ ++ spS (n : Int)) μ' (n : Int) N t := by
  have hW := h.1.1
  have hSp := h.2.1.1
  have h29 : 22 ≤ μ 0 5 := h.2.2.2.2.2
  have hW2 : Wl (σ ++ spS (n : Int)) := hW.app
  have hSn := spS_sh (σ := σ) hn
  have hSnp := hSn.1
  have hl : (hz σ μ).length = n := by rw [hz_len]; exact hn
  obtain ⟨μe, hinit, hE⟩ := k_z_shop (ext := ext) (d := d) (μ := μ) hW hn h5
  have fe : ∀ k j, k < (n : Int) → μe k j = μ k j := by
    intro k j p
    rw [hE.2.2.2 k j (by omega) (by omega) (by omega)]
    unfold nwM
    rw [if_pos p]
  have pe : PS μe (n : Int) := by
    have e17 : ∀ u, μe ((n : Int) + 24) u = nwM μ (n : Int) ((n : Int) + 24) u := fun u => hE.2.2.2 _ _ (by omega) (by omega) (by omega)
    have := PS_new (μ := μ) (n := (n : Int))
    refine ⟨fun u p q => ?_, fun u w p q r s e => ?_⟩
    · rw [e17]; exact this.1 u p q
    · rw [e17, e17] at e; exact this.2 u w p q r s e
  have f3 : ∀ k j, k < (n : Int) → ¬ (k = 1 ∧ j = i) → up μe 1 i (n : Int) k j = μ k j := fun k j p q => by rw [up_n q]; exact fe k j p
  have h3 : SR (σ ++ spS (n : Int)) (up μe 1 i (n : Int)) (μ 0 5) N t := by
    have := h.fr (μ' := up μe 1 i (n : Int)) (fun k j p q => f3 k j (by omega) (by omega)) (fun j => f3 _ _ (by omega) (by omega))
    exact ⟨⟨this.1.1.app, this.1.2⟩, this.2.1.app, this.2.2⟩
  have p3 : PS (up μe 1 i (n : Int)) (n : Int) := by
    refine ⟨fun u p q => ?_, fun u w p q r s e => ?_⟩
    · rw [up_n (by omega)]; exact pe.1 u p q
    · rw [up_n (by omega), up_n (by omega)] at e; exact pe.2 u w p q r s e
  obtain ⟨rv, μ4, hcopy, hrv, hf4, h4⟩ := k_c_copyS (ext := ext) (d := d + 3) (a := (n : Int)) h3 hSn p3 (by omega) (by omega)
  subst hrv
  refine ⟨μ4, ?_, fun k j p q => ?_, ?_, h4⟩
  · have hq8 : σ[(1 : Nat)]? = some (zc 1008 0) := (hW.1 0 _ (zfind_mem (t := 1008) rfl) rfl).2
    show Zv ext (d + 6) n_X11_image 0 [(1000, 0), (0, i)] [] σ μ (some (.int 1)) (hz (σ ++ spS (n : Int)) μ4)
    refine Zv.go hW 9999 rfl (by repeat' first | exact True.intro | assumption | apply And.intro | omega) ?_
    refine Zv.c0 hW rfl rfl (Nat.le_of_ble_eq_true rfl) (Nat.le_of_ble_eq_true rfl) (k_c_within (d := d + 5) hW (by omega) (by omega) (by omega)) ?_
    refine Zv.bp rfl ?_ ?_ <;> intro g1
    · refine Zv.go hW 9999 rfl (by repeat' first | exact True.intro | assumption | apply And.intro | omega) ?_
      rw [h8]
      refine Ev.s (q := (.ifnonnull 16, 25, [38])) rfl (w := (25, [vv (1000, 0), vv (0, i)], [], hz σ μ)) rfl ?_
      show Zv ext (d + 6) n_X11_image 25 [(1000, 0), (0, i)] [] σ μ (some (.int 1)) (hz (σ ++ spS (n : Int)) μ4)
      refine Zv.go hW 9999 rfl (by repeat' first | exact True.intro | assumption | apply And.intro | omega) ?_
      show Ev ext (d + 6) n_X11_image 30 [.ref 0, vv (0, i)] [vv (0, i), .ref 1] (hz σ μ) (some (.int 1)) (hz (σ ++ spS (n : Int)) μ4)
      refine Ev.s (q := (.new 9, 33, [9])) rfl (w := (33, [.ref 0, vv (0, i)], [.ref n, vv (0, i), .ref 1], hz σ μ ++ [ns0])) ?_ ?_
      · show (xadd (hz σ μ) (9, (List.range (xnf 9)).map fun k => defaultValue (xfty 9 k))).bind (fun h' => some (33, [.ref 0, vv (0, i)], .ref (hz σ μ).length :: [vv (0, i), .ref 1], h')) = _
        unfold xadd
        rw [if_pos ⟨by rw [hl]; omega, by decide⟩, Option.bind_some, hl]
        rfl
      refine Ev.s rfl rfl ?_
      refine Ev.u (na := 0) (rest := [.ref n, vv (0, i), .ref 1]) (a := n) (ci := 9) (fs := ns0.2) rfl rfl ?_ rfl (Nat.le_of_ble_eq_true rfl) (Nat.le_of_ble_eq_true rfl) hinit ?_
      · rw [List.getElem?_append_right (by rw [hl]; omega), hl, Nat.sub_self]
        rfl
      have hq8b : (σ ++ spS (n : Int))[(1 : Nat)]? = some (zc 1008 0) := by
        rw [List.getElem?_append_left (by omega)]; exact hq8
      have hqn : (σ ++ spS (n : Int))[n]? = some (zc 100 (n : Int)) := by
        have := sp_get (σ := σ) (n := n) (k := 0) hn
        rw [Nat.add_zero] at this
        rw [this]
        rfl
      have e9 := hz_set (σ := σ ++ spS (n : Int)) (μ := μe) (key := 1) (j := i.toNat) (tg := 50) (c := zc 1008 0) (by omega) hq8b (by
        rcases (by omega : i = 0 ∨ i = 1) with rfl | rfl <;> rfl) (n : Int)
      rw [Int.toNat_of_nonneg hi.1] at e9
      show Ev ext (d + 6) n_X11_image 37 [.ref 0, vv (0, i)] [.ref n, .int (Int32.ofInt i), .ref 1] (hz (σ ++ spS (n : Int)) μe) (some (.int 1)) (hz (σ ++ spS (n : Int)) μ4)
      refine Ev.s (q := (.aastore, 38, [])) rfl (w := (38, [.ref 0, vv (0, i)], [], hz (σ ++ spS (n : Int)) (up μe 1 i (n : Int)))) ?_ ?_
      · show ((hz (σ ++ spS (n : Int)) μe)[1]?).bind (fun c => ((hz (σ ++ spS (n : Int)) μe)[n]?).bind fun cv => cond (xasg c.1 cv.1) ((xix (Int32.ofInt i) c.2).bind fun _ => some (38, [.ref 0, vv (0, i)], [], (hz (σ ++ spS (n : Int)) μe).set 1 (c.1, c.2.set (Int32.ofInt i).toNatClampNeg (.ref n)))) none) = _
        rw [hz_at hq8b, Option.bind_some, hz_at hqn, Option.bind_some]
        show (xix (Int32.ofInt i) _).bind _ = _
        have hx : xix (Int32.ofInt i) (hcz (zc 1008 0) (μe ((1 : Nat) : Int))).2 = some (vv (50, μe 1 i)) := by
          unfold xix
          rw [if_neg (ofInt_nonneg hi.1 (by omega)), ofInt_clamp hi.1 (by omega)]
          rcases (by omega : i = 0 ∨ i = 1) with rfl | rfl <;> rfl
        rw [hx, Option.bind_some, ofInt_clamp hi.1 (by omega), ← e9, vv50 (by omega)]
        rfl
      show Zv ext (d + 6) n_X11_image 38 [(1000, 0), (0, i)] [] (σ ++ spS (n : Int)) (up μe 1 i (n : Int)) (some (.int 1)) (hz (σ ++ spS (n : Int)) μ4)
      refine Zv.go hW2 9999 rfl (by repeat' first | exact True.intro | assumption | apply And.intro | omega) ?_
      rw [up_s, f3 0 5 (by omega) (by omega)]
      refine Zv.eq2 (v' := (100, (n : Int))) (vv50 (by omega)) ?_
      refine Zv.c1 hW2 rfl rfl hSnp (Nat.le_of_ble_eq_true rfl) (Nat.le_of_ble_eq_true rfl) hcopy ?_
      refine Zv.go hW2 9999 rfl (by repeat' first | exact True.intro | assumption | apply And.intro | omega) ?_
      exact Zv.ri (y := 1) rfl rfl rfl rfl
    · exact absurd hi g1
  · rw [hf4 k j (by omega)]; exact f3 k j p q
  · rw [hf4 1 i (by omega), up_s]
end
