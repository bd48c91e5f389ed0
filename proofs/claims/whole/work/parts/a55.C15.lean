theorem ZE.cs {ext : List xC} {σ : zSh} {d mi pc nx na idx mj : Nat} {tb : List Nat} {L st rest : List V} {μ μ1 : zM} {j : Int} {fs : List Value} {rb : Option V} {Q : Option V → zM → Prop} (hf : xfind (xmt mi).2 pc = some (.invokevirtual idx, nx, na :: tb)) (hd : st.drop na = (3, j) :: rest) (hx : ext[j.toNat]? = some (13, fs)) (hp : xpairs tb 13 = some mj) (h8 : zcat rest ≤ 8) (hl : (zspread ((3, j) :: (st.take na).reverse)).length ≤ xmax mj)
    (kc : ZM ext d mj ((3, j) :: (st.take na).reverse) σ μ rb μ1) (kk : ZE ext (d + 1) mi nx L (rb.toList ++ rest) σ μ1 Q) : ZE ext (d + 1) mi pc L st σ μ Q := by
  obtain ⟨rv, μ2, h, hq⟩ := kk
  refine ⟨rv, μ2, ?_, hq⟩
  refine Ev.c hf (mj := mj) (vs := ((3, j) :: (st.take na).reverse).map vv) (rest := rest.map vv) ?_ (by rw [zcat_ok]; exact h8) (by rw [← zspread_map, List.length_map]; exact hl) kc.ev ?_
  · show (match (st.map vv).drop na with
      | v :: r => (xget ext (hz σ μ) v).bind fun c => (xpairs tb c.1).bind fun mi => some (mi, v :: ((st.map vv).take na).reverse, r)
      | _ => none) = _
    rw [← List.map_drop, hd, List.map_cons]
    show (ext[j.toNat]?).bind _ = _
    rw [hx, Option.bind_some]
    show (xpairs tb 13).bind _ = _
    rw [hp, Option.bind_some, List.map_cons, List.map_reverse, List.map_take]
  · have k2 : Ev ext (d + 1) mi nx (L.map vv) ((rb.toList ++ rest).map vv) (hz σ μ1) (rv.map vv) (hz σ μ2) := h
    rw [List.map_append] at k2
    cases rb with
    | none => exact k2
    | some v => exact k2
/-- a word of the program's: its length, its letters -/
def Wd (ext : List xC) (σ : zSh) (j n : Int) (ch : Int → Int) : Prop := (∃ fs, ext[j.toNat]? = some (13, fs)) ∧ (∀ d μ, ZM ext (d + 2) n_J0_length_8abf5 [(3, j)] σ μ (some (0, n)) μ) ∧ ∀ i, 0 ≤ i → i < n → ∀ d μ, ZM ext (d + 4) n_J0_charAt_5068e [(3, j), (0, i)] σ μ (some (0, ch i)) μ
def ch6 (a b c d e g : Int) (k : Int) : Int := if k = 0 then a else if k = 1 then b else if k = 2 then c else if k = 3 then d else if k = 4 then e else g
section
variable {L : Nat} {xs : Nat → Int32} {σ : zSh} {d : Nat}
set_option maxRecDepth 100000 in
theorem Wd_shop : Wd (xext L xs) σ 1 4 (ch6 115 104 111 112 0 0) := by
  refine ⟨⟨_, rfl⟩, fun d μ => ZM.of ⟨30, rfl⟩, fun i h0 h1 d μ => ?_⟩
  have : i = 0 ∨ i = 1 ∨ i = 2 ∨ i = 3 := by omega
  rcases this with rfl | rfl | rfl | rfl
  · exact ZM.of ⟨40, rfl⟩
  · exact ZM.of ⟨40, rfl⟩
  · exact ZM.of ⟨40, rfl⟩
  · exact ZM.of ⟨40, rfl⟩
set_option maxRecDepth 100000 in
theorem Wd_view : Wd (xext L xs) σ 2 4 (ch6 118 105 101 119 0 0) := by
  refine ⟨⟨_, rfl⟩, fun d μ => ZM.of ⟨30, rfl⟩, fun i h0 h1 d μ => ?_⟩
  have : i = 0 ∨ i = 1 ∨ i = 2 ∨ i = 3 := by omega
  rcases this with rfl | rfl | rfl | rfl
  · exact ZM.of ⟨40, rfl⟩
  · exact ZM.of ⟨40, rfl⟩
  · exact ZM.of ⟨40, rfl⟩
  · exact ZM.of ⟨40, rfl⟩
set_option maxRecDepth 100000 in
theorem Wd_renter : Wd (xext L xs) σ 3 6 (ch6 114 101 110 116 101 114) := by
  refine ⟨⟨_, rfl⟩, fun d μ => ZM.of ⟨30, rfl⟩, fun i h0 h1 d μ => ?_⟩
  have : i = 0 ∨ i = 1 ∨ i = 2 ∨ i = 3 ∨ i = 4 ∨ i = 5 := by omega
  rcases this with rfl | rfl | rfl | rfl | rfl | rfl
  · exact ZM.of ⟨40, rfl⟩
  · exact ZM.of ⟨40, rfl⟩
  · exact ZM.of ⟨40, rfl⟩
  · exact ZM.of ⟨40, rfl⟩
  · exact ZM.of ⟨40, rfl⟩
  · exact ZM.of ⟨40, rfl⟩
set_option maxRecDepth 100000 in
theorem Wd_thing : Wd (xext L xs) σ 4 5 (ch6 116 104 105 110 103 0) := by
  refine ⟨⟨_, rfl⟩, fun d μ => ZM.of ⟨30, rfl⟩, fun i h0 h1 d μ => ?_⟩
  have : i = 0 ∨ i = 1 ∨ i = 2 ∨ i = 3 ∨ i = 4 := by omega
  rcases this with rfl | rfl | rfl | rfl | rfl
  · exact ZM.of ⟨40, rfl⟩
  · exact ZM.of ⟨40, rfl⟩
  · exact ZM.of ⟨40, rfl⟩
  · exact ZM.of ⟨40, rfl⟩
  · exact ZM.of ⟨40, rfl⟩
end
