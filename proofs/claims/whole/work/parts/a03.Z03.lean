theorem ofInt_toInt32 {x : Int} (h : -2147483648 ≤ x) (h2 : x < 2147483648) : (Int32.ofInt x).toInt = x := Int32.toInt_ofInt_of_le (by omega) (by omega)
theorem ofInt_toInt64 {x : Int} (h : -9223372036854775808 ≤ x) (h2 : x < 9223372036854775808) : (Int64.ofInt x).toInt = x := Int64.toInt_ofInt_of_le (by omega) (by omega)
theorem z_div {x y : Int} (h : 0 ≤ x ∧ x < 2147483648 ∧ 0 < y ∧ y < 2147483648) : Int32.ofInt x / Int32.ofInt y = Int32.ofInt (x / y) := by
  apply Int32.toInt_inj.mp
  have h1 : 0 ≤ x / y := Int.ediv_nonneg h.1 (by omega)
  have h2 : x / y ≤ x := Int.ediv_le_self _ h.1
  rw [Int32.toInt_div, ofInt_toInt32 (by omega) (by omega), ofInt_toInt32 (by omega) (by omega), ofInt_toInt32 (by omega) (by omega), Int.tdiv_eq_ediv_of_nonneg h.1]
  exact Int.bmod_eq_of_le (by omega) (by omega)
theorem z_ne0 {y : Int} (h : 0 < y) (h2 : y < 2147483648) : ¬ Int32.ofInt y = 0 := by
  intro e
  have := congrArg Int32.toInt e
  rw [ofInt_toInt32 (by omega) h2] at this
  simp at this
  omega
theorem z_rem {x y : Int} (h : 0 ≤ x ∧ x < 2147483648 ∧ 0 < y ∧ y < 2147483648) : Int32.ofInt x - Int32.ofInt x / Int32.ofInt y * Int32.ofInt y = Int32.ofInt (x % y) := by
  rw [z_div h, ← Int32.ofInt_mul, ← Int32.ofInt_sub, Int.emod_def, Int.mul_comm]
theorem z_ldiv {x y : Int} (h : 0 ≤ x ∧ x < 9223372036854775808 ∧ 0 < y ∧ y < 9223372036854775808) : Int64.ofInt x / Int64.ofInt y = Int64.ofInt (x / y) := by
  apply Int64.toInt_inj.mp
  have h1 : 0 ≤ x / y := Int.ediv_nonneg h.1 (by omega)
  have h2 : x / y ≤ x := Int.ediv_le_self _ h.1
  rw [Int64.toInt_div, ofInt_toInt64 (by omega) (by omega), ofInt_toInt64 (by omega) (by omega), ofInt_toInt64 (by omega) (by omega), Int.tdiv_eq_ediv_of_nonneg h.1]
  exact Int.bmod_eq_of_le (by omega) (by omega)
theorem z_lne0 {y : Int} (h : 0 < y) (h2 : y < 9223372036854775808) : ¬ Int64.ofInt y = 0 := by
  intro e
  have := congrArg Int64.toInt e
  rw [ofInt_toInt64 (by omega) h2] at this
  simp at this
  omega
theorem z_lrem {x y : Int} (h : 0 ≤ x ∧ x < 9223372036854775808 ∧ 0 < y ∧ y < 9223372036854775808) : Int64.ofInt x - Int64.ofInt x / Int64.ofInt y * Int64.ofInt y = Int64.ofInt (x % y) := by
  rw [z_ldiv h, ← Int64.ofInt_mul, ← Int64.ofInt_sub, Int.emod_def, Int.mul_comm]
theorem z_cmp {x y : Int} (h : (-9223372036854775808 ≤ x ∧ x < 9223372036854775808) ∧ (-9223372036854775808 ≤ y ∧ y < 9223372036854775808)) : lg_cmp (Int64.ofInt x) (Int64.ofInt y) = Int32.ofInt (zcmp x y) := by
  unfold lg_cmp zcmp
  have e0 : Int64.ofInt x > Int64.ofInt y ↔ y < x := by
    show Int64.ofInt y < Int64.ofInt x ↔ _
    rw [Int64.lt_iff_toInt_lt, ofInt_toInt64 (by omega) (by omega), ofInt_toInt64 (by omega) (by omega)]
  have e2 : Int64.ofInt x = Int64.ofInt y ↔ x = y := by
    rw [← Int64.toInt_inj, ofInt_toInt64 (by omega) (by omega), ofInt_toInt64 (by omega) (by omega)]
  by_cases h1 : y < x
  · rw [if_pos (e0.mpr h1), if_neg (by omega), if_neg (by omega)]
    rfl
  · rw [if_neg (fun q => h1 (e0.mp q))]
    by_cases h2 : x = y
    · rw [if_pos (e2.mpr h2), if_neg (by omega), if_pos h2]
      rfl
    · rw [if_neg (fun q => h2 (e2.mp q)), if_pos (by omega)]
      rfl
theorem z_i2l {x : Int} (h : zrng x) : (Int32.ofInt x).toInt64 = Int64.ofInt x := by
  apply Int64.toInt_inj.mp
  rw [Int32.toInt_toInt64, ofInt_toInt32 h.1 h.2, ofInt_toInt64 (by have := h.1; omega) (by have := h.2; omega)]
theorem z_i2b {x : Int} (h : -128 ≤ x ∧ x < 128) : (Int32.ofInt x).toInt8.toInt32 = Int32.ofInt x := by
  apply Int32.toInt_inj.mp
  rw [Int8.toInt_toInt32, Int32.toInt_toInt8, ofInt_toInt32 (by omega) (by omega)]
  exact Int.bmod_eq_of_le (by omega) (by omega)
theorem z_sm8 {n : Int} (h : zsm 128 n = true) : (Int8.ofInt n).toInt32 = Int32.ofInt n := by
  have hb : -128 ≤ n ∧ n < 128 := by
    unfold zsm at h
    split at h
    · have := Nat.blt_eq.mp h
      simp only [Int.ofNat_eq_natCast]
      omega
    · have := Nat.blt_eq.mp h
      omega
  apply Int32.toInt_inj.mp
  rw [Int8.toInt_toInt32, Int8.toInt_ofInt_of_le (by omega) (by omega), ofInt_toInt32 (by omega) (by omega)]
theorem z_sm16 {n : Int} (h : zsm 32768 n = true) : (Int16.ofInt n).toInt32 = Int32.ofInt n := by
  have hb : -32768 ≤ n ∧ n < 32768 := by
    unfold zsm at h
    split at h
    · have := Nat.blt_eq.mp h
      simp only [Int.ofNat_eq_natCast]
      omega
    · have := Nat.blt_eq.mp h
      omega
  apply Int32.toInt_inj.mp
  rw [Int16.toInt_toInt32, Int16.toInt_ofInt_of_le (by omega) (by omega), ofInt_toInt32 (by omega) (by omega)]
theorem z_bk (x : Int32) : Int32.ofInt x.toInt = x := Int32.ofInt_toInt x
theorem bfalse {b : Bool} (h : b = true) : (!b) = false := by rw [h]; rfl
theorem zblt {a b : Nat} (h : a ≥ b) : Nat.blt a b = false := by
  cases hb : Nat.blt a b with
  | true => have := Nat.blt_eq.mp hb; omega
  | false => rfl
section
variable {ext : List xC} {σ : zSh} {d nx : Nat} {info : List Nat} {L st : List V} {μ : zM} {oc : Option Prop} {pc' : Nat} {L' st' : List V} {μ' : zM}
theorem zs_gf {idx : Nat} (hW : Wl σ) (e : zs σ d (.getfield idx) nx info L st μ = some (oc, pc', L', st', μ')) (hc : ∀ c, oc = some c → c) : xs ext d (.getfield idx) nx info (L.map vv) (st.map vv) (hz σ μ) = some (pc', L'.map vv, st'.map vv, hz σ μ') := by
  rcases info with _ | ⟨ci, _ | ⟨k, _ | ⟨q, r9⟩⟩⟩
  · exact xno e
  · exact xno e
  · have e9 := e
    clear e
    obtain ⟨t, p, r, rfl, e1_⟩ := zr1_some e9
    obtain ⟨rg, ct, ln, md, o, sl, hf, e2_⟩ := zf_some e1_
    clear e1_
    obtain ⟨hb, e3_⟩ := zcond e2_
    clear e2_
    obtain ⟨hb1, hb2⟩ := band hb
    have hct := nbeq hb1
    clear e9
    subst hct
    split at e3_
    · rename_i tg m2 dl hs
      obtain ⟨oc2, hr, e4_⟩ := zK_some e3_
      clear e3_
      have main : ∀ v : V, (zsd p (tg, m2, dl)).1 = v.1 → (zsd p (tg, m2, dl)).2.getD (μ (zkey md o p) k) = v.2 → Rgn σ rg p → xs ext d (.getfield idx) nx [ct, k] (L.map vv) (vv (t, p) :: r.map vv) (hz σ μ) = some (nx, L.map vv, vv v :: r.map vv, hz σ μ) := by
        intro v hv1 hv2 hR
        obtain ⟨h0, h1⟩ := Rok hW hf hR
        rw [vv_r hf, xs_getfield]
        show ((hz σ μ)[(zkey md o p).toNat]?).bind _ = _
        rw [hz_get h0 h1, Option.bind_some]
        show cond (Nat.beq ct ct) _ _ = _
        rw [Nat.beq_refl ct]
        show ((hcz (zcell (rg, ct, ln, md, o, sl) p) (μ (zkey md o p))).2[k]?).bind _ = _
        rw [hcz_at (o := zsd p (tg, m2, dl)) (by rw [zcell_o hb2]; show (sl.map (zsd p))[k]? = _; rw [List.getElem?_map, hs]; rfl), Option.bind_some]
        rw [hv1, hv2]
      split at e4_
      · obtain ⟨hb3, e5_⟩ := zcond e4_
        cases e5_
        have hd : dl = (k : Int) := of_decide_eq_true hb3
        exact main _ rfl (by rw [hd]; rfl) (hr hc)
      · cases e4_
        exact main _ rfl rfl (hr hc)
      · cases e4_
        exact main _ rfl rfl (hr hc)
      · rename_i hm0 hm1 hm2
        cases e4_
        refine main (tg, p) rfl ?_ (hr hc)
        match m2, hm0, hm1, hm2 with
        | 0, h, _, _ => exact absurd rfl h
        | 1, _, h, _ => exact absurd rfl h
        | 2, _, _, h => exact absurd rfl h
        | n + 3, _, _, _ => rfl
    · exact xno e3_
  · exact xno e
theorem zs_pf {idx : Nat} (hW : Wl σ) (e : zs σ d (.putfield idx) nx info L st μ = some (oc, pc', L', st', μ')) (hc : ∀ c, oc = some c → c) : xs ext d (.putfield idx) nx info (L.map vv) (st.map vv) (hz σ μ) = some (pc', L'.map vv, st'.map vv, hz σ μ') := by
  rcases info with _ | ⟨ci, _ | ⟨k, _ | ⟨q, r9⟩⟩⟩
  · exact xno e
  · exact xno e
  · have e9 := e
    clear e
    obtain ⟨tv, x, r1, rfl, e5_⟩ := zr1_some e9
    obtain ⟨t, p, r, rfl, e6_⟩ := zr1_some e5_
    clear e5_
    obtain ⟨rg, ct, ln, md, o, sl, hf, e7_⟩ := zf_some e6_
    clear e6_
    obtain ⟨hb, e8_⟩ := zcond e7_
    clear e7_
    obtain ⟨hb, hft⟩ := band hb
    obtain ⟨hb1, hb2⟩ := band hb
    have hct := nbeq hb1
    clear e9
    subst hct
    split at e8_
    · rename_i tg dl hs
      obtain ⟨hb3, e9_⟩ := zcond e8_
      clear e8_
      obtain ⟨hb3, hb4⟩ := band hb3
      obtain rfl := nbeq hb3
      have hd : dl = (k : Int) := of_decide_eq_true hb4
      obtain ⟨oc2, hr, e10_⟩ := zK_some e9_
      clear e9_
      cases e10_
      obtain ⟨h0, h1⟩ := Rok hW hf (hr hc)
      have hsl : (zcell (rg, ct, ln, md, o, sl) p).2[k]? = some (tg, none) := by
        rw [zcell_o hb2]
        show (sl.map (zsd p))[k]? = _
        rw [List.getElem?_map, hs]
        rfl
      have hfit : xfit (xfty ct k) (vv (tg, x)) = true := by
        unfold zfit at hft
        split at hft
        · rename_i ht
          rw [ht, nbeq hft]
          rfl
        · rename_i ht
          rw [ht, nbeq hft]
          rfl
        · rename_i ht
          rw [ht]
          obtain ⟨hft, hg⟩ := band hft
          obtain ⟨hft, hg2⟩ := band hft
          have hn := Nat.blt_eq.mp hft
          unfold vv
          cases hz9 : zfind ztab (tg, x).1 with
          | some s => rfl
          | none =>
            exfalso
            revert hs
            have : ztab.all (fun q => (q.2.2.2.2.2.2.all fun z => (Nat.ble z.1 4 || Nat.beq z.1 50 || Nat.beq z.1 30 || (zfind ztab z.1).isSome))) = true := by decide +kernel
            intro hs
            have h9 := List.all_eq_true.mp (List.all_eq_true.mp this _ (zfind_mem hf)) _ (List.mem_of_getElem? hs)
            have hz9 : zfind ztab tg = none := hz9
            rw [hz9] at h9
            have e50 : Nat.beq tg 50 = false := by simpa using hg2
            have e30 : Nat.beq tg 30 = false := by simpa using hg
            have e4 : Nat.ble tg 4 = false := by
              cases hb9 : Nat.ble tg 4 with
              | true => have := Nat.le_of_ble_eq_true hb9; omega
              | false => rfl
            rw [e50, e30, e4] at h9
            exact Bool.noConfusion h9
        · rename_i ht
          rw [ht]
          obtain ⟨hft, hg⟩ := band hft
          obtain ⟨hft, hg2⟩ := band hft
          have hn := Nat.blt_eq.mp hft
          unfold vv
          cases hz9 : zfind ztab (tg, x).1 with
          | some s => rfl
          | none =>
            exfalso
            revert hs
            have : ztab.all (fun q => (q.2.2.2.2.2.2.all fun z => (Nat.ble z.1 4 || Nat.beq z.1 50 || Nat.beq z.1 30 || (zfind ztab z.1).isSome))) = true := by decide +kernel
            intro hs
            have h9 := List.all_eq_true.mp (List.all_eq_true.mp this _ (zfind_mem hf)) _ (List.mem_of_getElem? hs)
            have hz9 : zfind ztab tg = none := hz9
            rw [hz9] at h9
            have e50 : Nat.beq tg 50 = false := by simpa using hg2
            have e30 : Nat.beq tg 30 = false := by simpa using hg
            have e4 : Nat.ble tg 4 = false := by
              cases hb9 : Nat.ble tg 4 with
              | true => have := Nat.le_of_ble_eq_true hb9; omega
              | false => rfl
            rw [e50, e30, e4] at h9
            exact Bool.noConfusion h9
        · exact Bool.noConfusion hft
      rw [xs_putfield]
      show (match [ct, k], vv (tg, x) :: vv (t, p) :: st'.map vv with
        | [ci, k], v :: .ref a :: r => ((hz σ μ)[a]?).bind fun c => cond (Nat.beq c.1 ci && (Nat.blt k c.2.length && xfit (xfty ci k) v)) (some (nx, L.map vv, r, (hz σ μ).set a (c.1, c.2.set k v))) none
        | _, _ => none) = _
      rw [vv_r hf]
      show ((hz σ μ)[(zkey md o p).toNat]?).bind _ = _
      rw [hz_get h0 h1, Option.bind_some]
      show cond (Nat.beq ct ct && (Nat.blt k (hcz (zcell (rg, ct, ln, md, o, sl) p) (μ (zkey md o p))).2.length && xfit (xfty ct k) (vv (tg, x)))) _ _ = _
      rw [Nat.beq_refl ct, hfit, Nat.blt_eq.mpr (by rw [hcz_len]; exact (List.getElem?_eq_some_iff.mp hsl).1)]
      have e9 := hz_set (μ := μ) h0 h1 hsl x
      show some (nx, L.map vv, st'.map vv, _) = _
      rw [hd, ← e9]
      rfl
    · exact xno e8_
  · exact xno e
end
