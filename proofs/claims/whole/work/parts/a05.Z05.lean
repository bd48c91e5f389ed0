section
variable {ext : List xC} {σ : zSh} {d nx : Nat} {info : List Nat} {L st : List V} {μ : zM} {oc : Option Prop} {pc' : Nat} {L' st' : List V} {μ' : zM}
theorem hz_copy {σ : zSh} {μ : zM} {ka kb sp dp n : Int} {na nb : Nat} (ha0 : 0 ≤ ka) (hb0 : 0 ≤ kb) (ha : σ[ka.toNat]? = some (20, List.replicate na (0, none))) (hb : σ[kb.toNat]? = some (20, List.replicate nb (0, none))) (h1 : 0 ≤ sp) (h2 : 0 ≤ dp) (h3 : 0 ≤ n) (h4 : sp + n ≤ na) (h5 : dp + n ≤ nb) :
    (hz σ μ).set kb.toNat (20, xcopy (hcz (20, List.replicate na (0, none)) (μ ka)).2 (hcz (20, List.replicate nb (0, none)) (μ kb)).2 sp.toNat dp.toNat n.toNat) = hz σ (zcp μ ka kb sp dp n) := by
  apply List.ext_getElem?
  intro i
  have hk := (List.getElem?_eq_some_iff.mp hb).1
  by_cases e : i = kb.toNat
  · subst e
    rw [List.getElem?_set_self (by rw [hz_len]; exact hk), hz_get hb0 hb]
    refine congrArg some (Prod.ext rfl ?_)
    show xcopy _ _ _ _ _ = (hcz (20, List.replicate nb (0, none)) _).2
    apply List.ext_getElem?
    intro q
    unfold xcopy
    have la : ∀ f, (hcz (20, List.replicate na (0, none)) f).2.length = na := fun f => by rw [hcz_len]; exact List.length_replicate
    have lb : ∀ f, (hcz (20, List.replicate nb (0, none)) f).2.length = nb := fun f => by rw [hcz_len]; exact List.length_replicate
    have ga : ∀ (N : Nat) f (j : Nat), j < N → (hcz (20, List.replicate N (0, none)) f).2[j]? = some (vv (0, f j)) := by
      intro N f j hj
      rw [hcz_at (o := (0, none)) (by show (List.replicate N (0, none))[j]? = _; rw [List.getElem?_replicate, if_pos hj])]
      rfl
    by_cases q1 : q < dp.toNat
    · rw [List.getElem?_append_left (by rw [List.length_take, lb]; omega), List.getElem?_take_of_lt q1, ga nb _ q (by omega), ga nb _ q (by omega)]
      have : ¬ (dp ≤ (q : Int) ∧ (q : Int) < dp + n) := by omega
      simp [zcp, this]
    · rw [List.getElem?_append_right (by rw [List.length_take, lb]; omega), List.length_take, lb, Nat.min_eq_left (by omega)]
      by_cases q2 : q < dp.toNat + n.toNat
      · rw [List.getElem?_append_left (by rw [List.length_take, List.length_drop, la]; omega), List.getElem?_take_of_lt (by omega), List.getElem?_drop, ga na _ _ (by omega), ga nb _ q (by omega)]
        have e1 : kb = kb ∧ dp ≤ (q : Int) ∧ (q : Int) < dp + n := by omega
        have e2 : ((sp.toNat + (q - dp.toNat) : Nat) : Int) = sp + ((q : Int) - dp) := by omega
        rw [e2]
        unfold zcp
        rw [if_pos e1]
      · rw [List.getElem?_append_right (by rw [List.length_take, List.length_drop, la]; omega), List.length_take, List.length_drop, la, Nat.min_eq_left (by omega), List.getElem?_drop]
        rw [show dp.toNat + n.toNat + (q - dp.toNat - n.toNat) = q by omega]
        by_cases q3 : q < nb
        · rw [ga nb _ q q3, ga nb _ q q3]
          have : ¬ (kb = kb ∧ dp ≤ (q : Int) ∧ (q : Int) < dp + n) := by omega
          unfold zcp
          rw [if_neg this]
        · rw [List.getElem?_eq_none (by rw [lb]; omega), List.getElem?_eq_none (by rw [lb]; omega)]
  · rw [List.getElem?_set_ne (fun z => e z.symm)]
    cases hq : σ[i]? with
    | none => rw [List.getElem?_eq_none (by rw [hz_len]; exact List.getElem?_eq_none_iff.mp hq), List.getElem?_eq_none (by rw [hz_len]; exact List.getElem?_eq_none_iff.mp hq)]
    | some c' =>
      rw [hz_at hq, hz_at hq]
      congr 2
      funext q
      have : ¬ ((i : Int) = kb ∧ dp ≤ q ∧ q < dp + n) := by omega
      unfold zcp
      rw [if_neg this]
theorem zarr20 {σ : zSh} {t rg md : Nat} {ln o p : Int} {sl : List (Nat × Nat × Int)} (hW : Wl σ) (h : zfind ztab t = some (rg, 20, ln, md, o, sl)) (hr : Rgn σ rg p) : 0 ≤ zkey md o p ∧ σ[(zkey md o p).toNat]? = some (20, List.replicate ln.toNat (0, none)) := by
  obtain ⟨h0, h1⟩ := Rok hW h hr
  have hs : sl = [(0, 0, 0)] := zelem0 _ (zfind_mem h) rfl
  subst hs
  exact ⟨h0, h1⟩
theorem zs_cp {idx : Nat} (hW : Wl σ) (e : zs σ d (.invokestatic idx) nx info L st μ = some (oc, pc', L', st', μ')) (hc : ∀ c, oc = some c → c) : xs ext d (.invokestatic idx) nx info (L.map vv) (st.map vv) (hz σ μ) = some (pc', L'.map vv, st'.map vv, hz σ μ') := by
  have hi : info = [99] := by
    simp only [zs] at e
    split at e
    · rfl
    · exact xno e
  subst hi
  cases d with
  | zero => exact xno e
  | succ d =>
    obtain ⟨n, r1, rfl, e1⟩ := zi1_some e
    obtain ⟨dp, r2, rfl, e2⟩ := zi1_some e1
    obtain ⟨tb, pb, r3, rfl, e3⟩ := zr1_some e2
    obtain ⟨sp, r4, rfl, e4⟩ := zi1_some e3
    obtain ⟨ta, pa, r, rfl, e5⟩ := zr1_some e4
    obtain ⟨rga, cta, lna, mda, oa, sla, hfa, e6⟩ := zf_some e5
    obtain ⟨rgb, ctb, lnb, mdb, ob, slb, hfb, e7⟩ := zf_some e6
    obtain ⟨hb, e8⟩ := zcond e7
    obtain ⟨oca, hra, e9⟩ := zK_some e8
    obtain ⟨ocb, hrb, e10⟩ := zK_some e9
    obtain ⟨oc1, hr1, e11⟩ := zA_some e10
    clear e e1 e2 e3 e4 e5 e6 e7 e8 e9 e10
    obtain ⟨hb, hb3⟩ := band hb
    obtain ⟨hb1, hb2⟩ := band hb
    have hcta : cta = 20 := nbeq hb1
    have hctb : ctb = 20 := nbeq hb2
    subst hcta hctb
    have key : (∀ c, oc1 = some c → c) ∧ (∀ c, ocb = some c → c) ∧ pc' = nx ∧ L' = L ∧ st' = r ∧ μ' = zcp μ (zkey mda oa pa) (zkey mdb ob pb) sp dp n := by
      cases ocb with
      | none =>
        have h9 := xyes e11
        injection h9 with q1 q2
        injection q2 with q2 q3
        injection q3 with q3 q4
        injection q4 with q4 q5
        exact ⟨fun c h => hc c (by rw [q1]; exact h), fun c h => (nomatch h), q2, q3, q4, q5⟩
      | some c =>
        obtain ⟨oc3, hr3, e12⟩ := zA_some e11
        have h9 := xyes e12
        injection h9 with q1 q2
        injection q2 with q2 q3
        injection q3 with q3 q4
        injection q4 with q4 q5
        have hz := hr3 (fun c h => hc c (by rw [q1]; exact h))
        exact ⟨hz.1, fun c h => (by cases h; exact hz.2), q2, q3, q4, q5⟩
    clear e11
    obtain ⟨k1, k2, rfl, rfl, rfl, rfl⟩ := key
    obtain ⟨k3, h1, h2, h3, h4, h5⟩ := hr1 k1
    have la : lna ≤ 1100 := zlens _ (zfind_mem hfa)
    have lb : lnb ≤ 1100 := zlens _ (zfind_mem hfb)
    obtain ⟨a0, a1⟩ := zarr20 hW hfa (hra k3)
    obtain ⟨b0, b1⟩ := zarr20 hW hfb (hrb k2)
    rw [xs_invokestatic]
    show (match [99], Value.int (Int32.ofInt n) :: Value.int (Int32.ofInt dp) :: vv (tb, pb) :: Value.int (Int32.ofInt sp) :: vv (ta, pa) :: st'.map vv with
      | [99], .int n :: .int dp :: .ref b :: .int sp :: .ref a :: r => ((hz σ μ)[a]?).bind fun ca => ((hz σ μ)[b]?).bind fun cb =>
        if d + 1 = 0 ∨ 8 < xcat r ∨ sp < 0 ∨ dp < 0 ∨ n < 0 ∨ ca.1 ≠ 20 ∨ cb.1 ≠ 20 ∨ ca.2.length < sp.toNatClampNeg + n.toNatClampNeg ∨ cb.2.length < dp.toNatClampNeg + n.toNatClampNeg ∨ ca.2.all (xfit .int) = false then none
        else some (pc', L'.map vv, r, (hz σ μ).set b (cb.1, xcopy ca.2 cb.2 sp.toNatClampNeg dp.toNatClampNeg n.toNatClampNeg))
      | _, _ => none) = _
    rw [vv_r hfa, vv_r hfb]
    show ((hz σ μ)[(zkey mda oa pa).toNat]?).bind _ = _
    rw [hz_get a0 a1, Option.bind_some, hz_get b0 b1, Option.bind_some]
    rw [if_neg]
    · rw [ofInt_clamp h1 (by omega), ofInt_clamp h2 (by omega), ofInt_clamp h3 (by omega)]
      have := hz_copy (μ := μ) a0 b0 a1 b1 h1 h2 h3 (by omega) (by omega)
      rw [← this]
      rfl
    · rw [ofInt_clamp h1 (by omega), ofInt_clamp h2 (by omega), ofInt_clamp h3 (by omega), hcz_len, hcz_len, zcat_ok]
      have g1 := Nat.le_of_ble_eq_true hb3
      have g2 := ofInt_nonneg h1 (by omega)
      have g3 := ofInt_nonneg h2 (by omega)
      have g4 := ofInt_nonneg h3 (by omega)
      have g5 : ((hcz (20, List.replicate lna.toNat (0, none)) (μ (zkey mda oa pa))).2.all (xfit .int)) = true := by
        apply List.all_eq_true.mpr
        intro v hv
        unfold hcz at hv
        obtain ⟨j, hj, hv⟩ := List.mem_mapIdx.mp hv
        rw [← hv]
        have : (List.replicate lna.toNat ((0, none) : zD))[j] = (0, none) := List.getElem_replicate ..
        show xfit .int (vv ((List.replicate lna.toNat ((0, none) : zD))[j].1, (List.replicate lna.toNat ((0, none) : zD))[j].2.getD _)) = true
        rw [this]
        rfl
      rw [g5]
      rintro (h | h | h | h | h | h | h | h | h | h)
      · omega
      · omega
      · exact g2 h
      · exact g3 h
      · exact g4 h
      · exact h rfl
      · exact h rfl
      · rw [List.length_replicate] at h
        omega
      · rw [List.length_replicate] at h
        omega
      · exact Bool.noConfusion h
end
