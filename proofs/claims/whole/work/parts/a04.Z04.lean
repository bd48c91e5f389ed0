section
variable {ext : List xC} {σ : zSh} {d nx : Nat} {info : List Nat} {L st : List V} {μ : zM} {oc : Option Prop} {pc' : Nat} {L' st' : List V} {μ' : zM}
theorem zs_ia (hW : Wl σ) (e : zs σ d .iaload nx info L st μ = some (oc, pc', L', st', μ')) (hc : ∀ c, oc = some c → c) : xs ext d .iaload nx info (L.map vv) (st.map vv) (hz σ μ) = some (pc', L'.map vv, st'.map vv, hz σ μ') := by
  obtain ⟨i, r1, rfl, e1⟩ := zi1_some e
  obtain ⟨t, p, r, rfl, e2⟩ := zr1_some e1
  obtain ⟨rg, ct, ln, md, o, sl, hf, e3⟩ := zf_some e2
  obtain ⟨hb, e4⟩ := zcond e3
  obtain ⟨oc1, hr, e5⟩ := zK_some e4
  obtain ⟨oc2, hr2, e6⟩ := zA_some e5
  have hct : ct = 20 := nbeq hb
  clear e e1 e2 e3 e4 e5
  cases e6
  subst hct
  obtain ⟨hi, hib⟩ := hr2 hc
  have hm := zfind_mem hf
  obtain ⟨g1, g2, g3, g4⟩ := zarr μ hW hf (hr hi) rfl rfl (zelem0 _ hm rfl) hib (zlens _ hm)
  rw [xs_iaload]
  show (match Value.int (Int32.ofInt i) :: vv (t, p) :: r.map vv with
    | .int i :: v :: r => (xget ext (hz σ μ) v).bind fun c => cond (Nat.beq c.1 20) ((xix i c.2).bind fun w => some (nx, L.map vv, w :: r, hz σ μ)) none
    | _ => none) = _
  rw [vv_r hf]
  show ((hz σ μ)[(zkey md o p).toNat]?).bind _ = _
  rw [g1, Option.bind_some]
  show (xix (Int32.ofInt i) _).bind _ = _
  rw [g3]
  rfl
theorem zs_ba (hW : Wl σ) (e : zs σ d .baload nx info L st μ = some (oc, pc', L', st', μ')) (hc : ∀ c, oc = some c → c) : xs ext d .baload nx info (L.map vv) (st.map vv) (hz σ μ) = some (pc', L'.map vv, st'.map vv, hz σ μ') := by
  obtain ⟨i, r1, rfl, e1⟩ := zi1_some e
  obtain ⟨t, p, r, rfl, e2⟩ := zr1_some e1
  obtain ⟨rg, ct, ln, md, o, sl, hf, e3⟩ := zf_some e2
  obtain ⟨hb, e4⟩ := zcond e3
  obtain ⟨oc1, hr, e5⟩ := zK_some e4
  obtain ⟨oc2, hr2, e6⟩ := zA_some e5
  clear e e1 e2 e3 e4 e5
  cases e6
  obtain ⟨hi, hib⟩ := hr2 hc
  have hm := zfind_mem hf
  have hct : ct = 21 ∨ ct = 22 := by
    rcases Bool.or_eq_true_iff.mp hb with h | h
    · exact Or.inl (nbeq h)
    · exact Or.inr (nbeq h)
  obtain ⟨g1, g2, g3, g4⟩ := zarr μ hW hf (hr hi) (zblt (by omega)) (by rcases hct with rfl | rfl <;> rfl) (zelem0 _ hm (by show (_ || (Nat.beq ct 21 || Nat.beq ct 22)) = true; rw [hb]; exact Bool.or_true _)) hib (zlens _ hm)
  rw [xs_baload]
  show (match Value.int (Int32.ofInt i) :: vv (t, p) :: r.map vv with
    | .int i :: v :: r => (xget ext (hz σ μ) v).bind fun c => cond (Nat.beq c.1 21 || Nat.beq c.1 22) ((xix i c.2).bind fun w => some (nx, L.map vv, w :: r, hz σ μ)) none
    | _ => none) = _
  rw [vv_r hf]
  show ((hz σ μ)[(zkey md o p).toNat]?).bind _ = _
  rw [g1, Option.bind_some]
  show cond (Nat.beq ct 21 || Nat.beq ct 22) _ _ = _
  rw [hb]
  show (xix (Int32.ofInt i) _).bind _ = _
  rw [g3]
  rfl
theorem zs_aa (hW : Wl σ) (e : zs σ d .aaload nx info L st μ = some (oc, pc', L', st', μ')) (hc : ∀ c, oc = some c → c) : xs ext d .aaload nx info (L.map vv) (st.map vv) (hz σ μ) = some (pc', L'.map vv, st'.map vv, hz σ μ') := by
  obtain ⟨i, r1, rfl, e1⟩ := zi1_some e
  obtain ⟨t, p, r, rfl, e2⟩ := zr1_some e1
  obtain ⟨rg, ct, ln, md, o, sl, hf, e3⟩ := zf_some e2
  clear e e1 e2
  have sh : ∀ st9 : List Value, xs ext d .aaload nx info (L.map vv) (Value.int (Int32.ofInt i) :: vv (t, p) :: r.map vv) (hz σ μ) = (match Value.int (Int32.ofInt i) :: vv (t, p) :: r.map vv with
      | .int i :: .ref a :: r => ((hz σ μ)[a]?).bind fun c => cond (Nat.blt 22 c.1 && Nat.blt c.1 27) ((xix i c.2).bind fun w => some (nx, L.map vv, w :: r, hz σ μ)) none
      | _ => none) := fun _ => by rw [xs_aaload]; rfl
  cases h23 : Nat.beq ct 23 with
  | true =>
    rw [h23] at e3
    simp only [cond_true] at e3
    obtain ⟨oc1, hr, e5⟩ := zK_some e3
    obtain ⟨oc2, hr2, e6⟩ := zA_some e5
    clear e3 e5
    cases e6
    obtain ⟨hi, hib⟩ := hr2 hc
    have hct : ct = 23 := nbeq h23
    subst hct
    obtain ⟨h0, h1⟩ := Rok hW hf (hr hi)
    show xs ext d .aaload nx info (L.map vv) (Value.int (Int32.ofInt i) :: vv (t, p) :: r.map vv) (hz σ μ) = _
    rw [sh [], vv_r hf]
    show ((hz σ μ)[(zkey md o p).toNat]?).bind _ = _
    rw [hz_get h0 h1, Option.bind_some]
    show (xix (Int32.ofInt i) (hcz (23, zkin p) (μ (zkey md o p))).2).bind _ = _
    have hx : xix (Int32.ofInt i) (hcz (23, zkin p) (μ (zkey md o p))).2 = some (vv (30, p + 2 + i)) := by
      unfold xix
      rw [if_neg (ofInt_nonneg hib.1 (by omega)), ofInt_clamp hib.1 (by omega)]
      have : i = 0 ∨ i = 1 ∨ i = 2 ∨ i = 3 ∨ i = 4 ∨ i = 5 := by omega
      rcases this with rfl | rfl | rfl | rfl | rfl | rfl <;> rfl
    rw [hx]
    rfl
  | false =>
    rw [h23] at e3
    simp only [cond_false] at e3
    obtain ⟨hb, e4⟩ := zcond e3
    clear e3
    split at e4
    · obtain ⟨oc1, hr, e5⟩ := zK_some e4
      obtain ⟨oc2, hr2, e6⟩ := zA_some e5
      clear e4 e5
      cases e6
      obtain ⟨hi, hib⟩ := hr2 hc
      have hm := zfind_mem hf
      obtain ⟨hb1, hb2⟩ := band hb
      have hb3 := Nat.blt_eq.mp hb1
      obtain ⟨g1, g2, g3, g4⟩ := zarr μ hW hf (hr hi) (zblt (by omega)) h23 rfl hib (zlens _ hm)
      show xs ext d .aaload nx info (L.map vv) (Value.int (Int32.ofInt i) :: vv (t, p) :: r.map vv) (hz σ μ) = _
      rw [sh [], vv_r hf]
      show ((hz σ μ)[(zkey md o p).toNat]?).bind _ = _
      rw [g1, Option.bind_some]
      show cond (Nat.blt 22 ct && Nat.blt ct 27) _ _ = _
      rw [Nat.blt_eq.mpr (show 22 < ct by omega), hb2]
      show (xix (Int32.ofInt i) _).bind _ = _
      rw [g3]
      rfl
    · exact xno e4
theorem zs_is (hW : Wl σ) (e : zs σ d .iastore nx info L st μ = some (oc, pc', L', st', μ')) (hc : ∀ c, oc = some c → c) : xs ext d .iastore nx info (L.map vv) (st.map vv) (hz σ μ) = some (pc', L'.map vv, st'.map vv, hz σ μ') := by
  obtain ⟨x, r0, rfl, e0⟩ := zi1_some e
  obtain ⟨i, r1, rfl, e1⟩ := zi1_some e0
  obtain ⟨t, p, r, rfl, e2⟩ := zr1_some e1
  obtain ⟨rg, ct, ln, md, o, sl, hf, e3⟩ := zf_some e2
  obtain ⟨hb, e4⟩ := zcond e3
  obtain ⟨oc1, hr, e5⟩ := zK_some e4
  obtain ⟨oc2, hr2, e6⟩ := zA_some e5
  have hct : ct = 20 := nbeq hb
  clear e e0 e1 e2 e3 e4 e5
  obtain ⟨rfl, rfl, rfl, rfl, rfl⟩ : oc = oc2 ∧ pc' = nx ∧ L' = L ∧ st' = r ∧ μ' = up μ (zkey md o p) i x := by
    have h9 := xyes e6
    injection h9 with q1 q2
    injection q2 with q2 q3
    injection q3 with q3 q4
    injection q4 with q4 q5
    exact ⟨q1, q2, q3, q4, q5⟩
  subst hct
  obtain ⟨hi, hib⟩ := hr2 hc
  have hm := zfind_mem hf
  have hR := Rok hW hf (hr hi)
  obtain ⟨g1, g2, g3, g4⟩ := zarr μ hW hf (hr hi) rfl rfl (zelem0 _ hm rfl) hib (zlens _ hm)
  have hln := zlens _ hm
  rw [xs_iastore]
  show (match Value.int (Int32.ofInt x) :: Value.int (Int32.ofInt i) :: vv (t, p) :: st'.map vv with
    | .int x :: .int i :: .ref a :: r => ((hz σ μ)[a]?).bind fun c => cond (Nat.beq c.1 20) ((xix i c.2).bind fun _ => some (pc', L'.map vv, r, (hz σ μ).set a (c.1, c.2.set i.toNatClampNeg (.int x)))) none
    | _ => none) = _
  rw [vv_r hf]
  show ((hz σ μ)[(zkey md o p).toNat]?).bind _ = _
  rw [g1, Option.bind_some]
  show (xix (Int32.ofInt i) _).bind _ = _
  rw [g3, Option.bind_some, ofInt_clamp hib.1 (by have : ln ≤ 1100 := hln; omega)]
  have e9 := hz_set (μ := μ) hR.1 hR.2 g4 x
  rw [Int.toNat_of_nonneg hib.1] at e9
  rw [← e9]
  rfl
theorem znarB {x : Int} (h : -128 ≤ x ∧ x < 128) : xfit .byte (.int (Int32.ofInt x)) = true := by
  show (decide (narrow .byte (.int (Int32.ofInt x)) = .int (Int32.ofInt x)) && fits .byte (.int (Int32.ofInt x))) = true
  rw [narrow_byte, z_i2b h, decide_eq_true rfl]
  show (decide (-128 ≤ Int32.ofInt x) && decide (Int32.ofInt x ≤ 127)) = true
  rw [decide_eq_true, decide_eq_true]
  · rfl
  · rw [Int32.le_iff_toInt_le, ofInt_toInt32 (by omega) (by omega)]
    show x ≤ 127
    omega
  · rw [Int32.le_iff_toInt_le, ofInt_toInt32 (by omega) (by omega)]
    show -128 ≤ x
    omega
theorem narrow_bool {x : Int} (h : 0 ≤ x ∧ x < 2) : xfit .boolean (.int (Int32.ofInt x)) = true := by
  have : x = 0 ∨ x = 1 := by omega
  rcases this with rfl | rfl <;> decide
theorem zs_bs (hW : Wl σ) (e : zs σ d .bastore nx info L st μ = some (oc, pc', L', st', μ')) (hc : ∀ c, oc = some c → c) : xs ext d .bastore nx info (L.map vv) (st.map vv) (hz σ μ) = some (pc', L'.map vv, st'.map vv, hz σ μ') := by
  obtain ⟨x, r0, rfl, e0⟩ := zi1_some e
  obtain ⟨i, r1, rfl, e1⟩ := zi1_some e0
  obtain ⟨t, p, r, rfl, e2⟩ := zr1_some e1
  obtain ⟨rg, ct, ln, md, o, sl, hf, e3⟩ := zf_some e2
  have main : ∀ oc1 oc2, ((∀ c, oc1 = some c → c) → Rgn σ rg p) → (ct = 21 ∨ ct = 22) → ((∀ c, oc2 = some c → c) → (∀ c, oc1 = some c → c) ∧ (0 ≤ i ∧ i < ln) ∧ xfit (xaty ct) (.int (Int32.ofInt x)) = true) → some (oc2, nx, L, r, up μ (zkey md o p) i x) = some (oc, pc', L', st', μ') → xs ext d .bastore nx info (L.map vv) (((0, x) :: (0, i) :: (t, p) :: r).map vv) (hz σ μ) = some (pc', L'.map vv, st'.map vv, hz σ μ') := by
    intro oc1 oc2 hr hct hr2 e6
    clear e e0 e1 e2 e3
    obtain ⟨rfl, rfl, rfl, rfl, rfl⟩ : oc = oc2 ∧ pc' = nx ∧ L' = L ∧ st' = r ∧ μ' = up μ (zkey md o p) i x := by
      have h9 := xyes e6
      injection h9 with q1 q2
      injection q2 with q2 q3
      injection q3 with q3 q4
      injection q4 with q4 q5
      exact ⟨q1, q2, q3, q4, q5⟩
    obtain ⟨hi, hib, hfit⟩ := hr2 hc
    have hm := zfind_mem hf
    have hR := Rok hW hf (hr hi)
    have hb : (Nat.beq ct 21 || Nat.beq ct 22) = true := by rcases hct with rfl | rfl <;> rfl
    have hb9 : (Nat.beq ct 20 || (Nat.beq ct 21 || Nat.beq ct 22)) = true := by rw [hb]; exact Bool.or_true _
    have hge : ct ≥ 20 := by rcases hct with rfl | rfl <;> decide
    obtain ⟨g1, g2, g3, g4⟩ := zarr μ hW hf (hr hi) (zblt hge) (by rcases hct with rfl | rfl <;> rfl) (zelem0 _ hm hb9) hib (zlens _ hm)
    have hln := zlens _ hm
    rw [xs_bastore]
    show (match Value.int (Int32.ofInt x) :: Value.int (Int32.ofInt i) :: vv (t, p) :: st'.map vv with
      | .int x :: .int i :: .ref a :: r => ((hz σ μ)[a]?).bind fun c => cond ((Nat.beq c.1 21 || Nat.beq c.1 22) && xfit (xaty c.1) (.int x)) ((xix i c.2).bind fun _ => some (pc', L'.map vv, r, (hz σ μ).set a (c.1, c.2.set i.toNatClampNeg (.int x)))) none
      | _ => none) = _
    rw [vv_r hf]
    show ((hz σ μ)[(zkey md o p).toNat]?).bind _ = _
    rw [g1, Option.bind_some]
    show cond ((Nat.beq ct 21 || Nat.beq ct 22) && xfit (xaty ct) (.int (Int32.ofInt x))) _ _ = _
    rw [hb, hfit]
    show (xix (Int32.ofInt i) _).bind _ = _
    rw [g3, Option.bind_some, ofInt_clamp hib.1 (by have : ln ≤ 1100 := hln; omega)]
    have e9 := hz_set (μ := μ) hR.1 hR.2 g4 x
    rw [Int.toNat_of_nonneg hib.1] at e9
    rw [← e9]
    rfl
  cases hb : Nat.beq ct 22 with
  | true =>
    rw [hb] at e3
    simp only [cond_true] at e3
    obtain ⟨oc1, hr, e5⟩ := zK_some e3
    obtain ⟨oc2, hr2, e6⟩ := zA_some e5
    refine main oc1 oc2 hr (Or.inr (nbeq hb)) (fun h => ⟨(hr2 h).1, (hr2 h).2.1, ?_⟩) e6
    rw [nbeq hb]
    exact narrow_bool (hr2 h).2.2
  | false =>
    rw [hb] at e3
    simp only [cond_false] at e3
    obtain ⟨hb2, e4⟩ := zcond e3
    obtain ⟨oc1, hr, e5⟩ := zK_some e4
    obtain ⟨oc2, hr2, e6⟩ := zA_some e5
    refine main oc1 oc2 hr (Or.inl (nbeq hb2)) (fun h => ⟨(hr2 h).1, (hr2 h).2.1, ?_⟩) e6
    rw [nbeq hb2]
    exact znarB (hr2 h).2.2
theorem zs_as (hW : Wl σ) (e : zs σ d .aastore nx info L st μ = some (oc, pc', L', st', μ')) (hc : ∀ c, oc = some c → c) : xs ext d .aastore nx info (L.map vv) (st.map vv) (hz σ μ) = some (pc', L'.map vv, st'.map vv, hz σ μ') := by
  obtain ⟨tv, x, r0, rfl, e0⟩ := zr1_some e
  obtain ⟨i, r1, rfl, e1⟩ := zi1_some e0
  obtain ⟨t, p, r, rfl, e2⟩ := zr1_some e1
  obtain ⟨rg, ct, ln, md, o, sl, hf, e3⟩ := zf_some e2
  obtain ⟨hb, e4⟩ := zcond e3
  obtain ⟨oc1, hr, e5⟩ := zK_some e4
  obtain ⟨oc2, hr2, e6⟩ := zA_some e5
  obtain ⟨hb1, hb2⟩ := band hb
  have htv : tv = 20 := nbeq hb1
  have ht : t = 117 := nbeq hb2
  clear e e0 e1 e2 e3 e4 e5
  obtain ⟨rfl, rfl, rfl, rfl, rfl⟩ : oc = oc2 ∧ pc' = nx ∧ L' = L ∧ st' = r ∧ μ' = up μ (zkey md o p) i x := by
    have h9 := xyes e6
    injection h9 with q1 q2
    injection q2 with q2 q3
    injection q3 with q3 q4
    injection q4 with q4 q5
    exact ⟨q1, q2, q3, q4, q5⟩
  subst htv
  subst ht
  obtain ⟨hi, hib, hbk⟩ := hr2 hc
  have hm := zfind_mem hf
  have hR := Rok hW hf (hr hi)
  have hf2 : zfind ztab 117 = some (1, 25, 8, 1, 24, [(20, 0, 0)]) := rfl
  rw [hf2] at hf
  injection hf with hf
  injection hf with q1 hf
  injection hf with q2 hf
  injection hf with q3 hf
  injection hf with q4 hf
  injection hf with q5 q6
  subst q1 q2 q3 q4 q5 q6
  obtain ⟨g1, g2, g3, g4⟩ := zarr μ hW hf2 (hr hi) rfl rfl rfl hib (by decide)
  have hfx : zfind ztab 20 = some (2, 0, 0, 0, 0, [(0, 0, 0), (0, 0, 1), (0, 0, 2), (21, 3, 0), (22, 3, 0), (23, 3, 0), (24, 3, 0), (25, 3, 0)]) := rfl
  have hRx := Rok (p := x) hW hfx hbk
  rw [xs_aastore]
  show (match vv (20, x) :: Value.int (Int32.ofInt i) :: vv (117, p) :: st'.map vv with
    | .ref v :: .int i :: .ref a :: r => ((hz σ μ)[a]?).bind fun c => ((hz σ μ)[v]?).bind fun cv => cond (xasg c.1 cv.1) ((xix i c.2).bind fun _ => some (pc', L'.map vv, r, (hz σ μ).set a (c.1, c.2.set i.toNatClampNeg (.ref v)))) none
    | _ => none) = _
  have e9 := hz_set (μ := μ) hR.1 hR.2 g4 x
  rw [vv_r hfx] at e9 ⊢
  rw [vv_r hf2]
  show ((hz σ μ)[(zkey 1 24 p).toNat]?).bind _ = _
  rw [g1, Option.bind_some]
  show ((hz σ μ)[(zkey 0 0 x).toNat]?).bind _ = _
  rw [hz_get hRx.1 hRx.2, Option.bind_some]
  show (xix (Int32.ofInt i) _).bind _ = _
  rw [g3, Option.bind_some, ofInt_clamp hib.1 (by omega)]
  rw [Int.toNat_of_nonneg hib.1] at e9
  rw [← e9]
  rfl
theorem zs_al (hW : Wl σ) (e : zs σ d .arraylength nx info L st μ = some (oc, pc', L', st', μ')) (hc : ∀ c, oc = some c → c) : xs ext d .arraylength nx info (L.map vv) (st.map vv) (hz σ μ) = some (pc', L'.map vv, st'.map vv, hz σ μ') := by
  obtain ⟨t, p, r, rfl, e2⟩ := zr1_some e
  obtain ⟨rg, ct, ln, md, o, sl, hf, e3⟩ := zf_some e2
  obtain ⟨hb, e4⟩ := zcond e3
  obtain ⟨oc1, hr, e5⟩ := zK_some e4
  clear e e2 e3 e4
  cases e5
  have hm := zfind_mem hf
  have hR := Rok hW hf (hr hc)
  obtain ⟨hb, hb23⟩ := band hb
  have h23 : Nat.beq ct 23 = false := by simpa using hb23
  have h19 := Nat.blt_eq.mp hb
  obtain ⟨⟨tg, m2, dl⟩, he⟩ := zelem _ hm (zblt (by show ct ≥ 20; omega))
  have hsl : sl = [(tg, m2, dl)] := he
  subst hsl
  have h0 : 0 ≤ ln := by
    have : ∀ q ∈ ztab, 0 ≤ q.2.2.2.1 := by decide +kernel
    exact this _ hm
  rw [xs_arraylength]
  show (xget ext (hz σ μ) (vv (t, p))).bind _ = _
  rw [vv_r hf]
  show ((hz σ μ)[(zkey md o p).toNat]?).bind _ = _
  rw [hz_get hR.1 hR.2, Option.bind_some]
  show cond (Nat.blt 19 ct) _ _ = _
  rw [hb, hcz_len]
  have ec : zcell (rg, ct, ln, md, o, [(tg, m2, dl)]) p = (ct, List.replicate ln.toNat (tg, none)) := by
    unfold zcell
    show (ct, cond (Nat.blt ct 20) _ (cond (Nat.beq ct 23) _ _)) = _
    rw [zblt (by omega), h23]
    rfl
  rw [ec]
  show some (nx, L.map vv, Value.int (Int32.ofNat (List.replicate ln.toNat (tg, none)).length) :: r.map vv, hz σ μ) = some (nx, L.map vv, Value.int (Int32.ofInt ln) :: r.map vv, hz σ μ)
  rw [List.length_replicate, ← Int32_ofInt_nat, Int.toNat_of_nonneg h0]
end
