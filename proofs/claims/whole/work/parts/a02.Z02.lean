theorem zfind_mem {l : List (Nat × zS)} {t : Nat} {s : zS} (h : zfind l t = some s) : (t, s) ∈ l := by
  induction l with
  | nil => exact xno h
  | cons q r ih =>
    unfold zfind at h
    cases hb : Nat.beq q.1 t with
    | true =>
      rw [hb] at h
      have h2 : s = q.2 := xyes h
      have h1 : q.1 = t := Nat.eq_of_beq_eq_true hb
      rw [h2, ← h1]
      exact List.mem_cons_self
    | false =>
      rw [hb] at h
      exact List.mem_cons_of_mem _ (ih h)
theorem zi1_some {α : Type} {st : List V} {K : Int → List V → Option α} {w : α} (e : zi1 st K = some w) : ∃ x r, st = (0, x) :: r ∧ K x r = some w := by
  unfold zi1 at e
  split at e
  · exact ⟨_, _, rfl, e⟩
  · exact xno e
theorem zi2_some {α : Type} {st : List V} {K : Int → Int → List V → Option α} {w : α} (e : zi2 st K = some w) : ∃ x y r, st = (0, y) :: (0, x) :: r ∧ K x y r = some w := by
  unfold zi2 at e
  split at e
  · exact ⟨_, _, _, rfl, e⟩
  · exact xno e
theorem zl1_some {α : Type} {st : List V} {K : Int → List V → Option α} {w : α} (e : zl1 st K = some w) : ∃ x r, st = (1, x) :: r ∧ K x r = some w := by
  unfold zl1 at e
  split at e
  · exact ⟨_, _, rfl, e⟩
  · exact xno e
theorem zl2_some {α : Type} {st : List V} {K : Int → Int → List V → Option α} {w : α} (e : zl2 st K = some w) : ∃ x y r, st = (1, y) :: (1, x) :: r ∧ K x y r = some w := by
  unfold zl2 at e
  split at e
  · exact ⟨_, _, _, rfl, e⟩
  · exact xno e
theorem zr1_some {α : Type} {st : List V} {K : Nat → Int → List V → Option α} {w : α} (e : zr1 st K = some w) : ∃ t p r, st = (t, p) :: r ∧ K t p r = some w := by
  unfold zr1 at e
  split at e
  · exact ⟨_, _, _, rfl, e⟩
  · exact xno e
theorem zf_some {α : Type} {t : Nat} {K : Nat → Nat → Int → Nat → Int → List (Nat × Nat × Int) → Option α} {w : α} (e : zf t K = some w) : ∃ rg ct ln md o sl, zfind ztab t = some (rg, ct, ln, md, o, sl) ∧ K rg ct ln md o sl = some w := by
  unfold zf at e
  split at e
  · rename_i h
    exact ⟨_, _, _, _, _, _, h, e⟩
  · exact xno e
theorem fL_eq {α : Type} : ∀ (l : List V) (K : List V → Option α), fL l K = K l
  | [], _ => rfl
  | (t, p) :: r, K => by
    unfold fL
    rw [fL_eq r]
theorem zcond {α : Type} {b : Bool} {x : Option α} {w : α} (e : cond b x none = some w) : b = true ∧ x = some w := by
  cases b with
  | true => exact ⟨rfl, e⟩
  | false => exact xno e
theorem zK_some {α : Type} {σ : zSh} {rg md : Nat} {o p : Int} {K : Option Prop → Int → Option α} {w : α} (e : zK σ rg md o p K = some w) : ∃ oc, ((∀ c, oc = some c → c) → Rgn σ rg p) ∧ K oc (zkey md o p) = some w := by
  unfold zK at e
  split at e
  · split at e
    · exact ⟨none, fun _ => trivial, e⟩
    · exact xno e
  · split at e
    · exact ⟨_, fun h => h _ rfl, e⟩
    · exact ⟨_, fun h => h _ rfl, e⟩
    · exact xno e
  · split at e
    · exact ⟨_, fun h => h _ rfl, e⟩
    · exact ⟨_, fun h => h _ rfl, e⟩
    · exact xno e
  · split at e
    · exact ⟨_, fun h => h _ rfl, e⟩
    · exact xno e
  · exact xno e
theorem zA_some {α : Type} {oc : Option Prop} {P : Prop} {K : Option Prop → Option α} {w : α} (e : zA oc P K = some w) : ∃ oc', ((∀ c, oc' = some c → c) → (∀ c, oc = some c → c) ∧ P) ∧ K oc' = some w := by
  unfold zA at e
  split at e
  · exact ⟨_, fun h => ⟨fun c hc => (nomatch hc), h _ rfl⟩, e⟩
  · exact ⟨_, fun h => ⟨fun c hc => (by cases hc; exact (h _ rfl).1), (h _ rfl).2⟩, e⟩
theorem Rok {σ : zSh} {t rg ct md : Nat} {ln o p : Int} {sl : List (Nat × Nat × Int)} (hW : Wl σ) (h : zfind ztab t = some (rg, ct, ln, md, o, sl)) (hr : Rgn σ rg p) : 0 ≤ zkey md o p ∧ σ[(zkey md o p).toNat]? = some (zcell (rg, ct, ln, md, o, sl) p) := by
  have hm := zfind_mem h
  unfold Rgn at hr
  split at hr
  · exact hW.1 p _ hm rfl
  · exact hr.2.1 _ hm rfl
  · exact hr _ hm rfl
  · exact hW.2 p hr.1 hr.2 _ hm rfl
  · exact hr.elim
theorem vv_r {t rg ct md : Nat} {ln o p : Int} {sl : List (Nat × Nat × Int)} (h : zfind ztab t = some (rg, ct, ln, md, o, sl)) : vv (t, p) = .ref (zkey md o p).toNat := by
  unfold vv
  rw [h]
theorem vv_i (x : Int) : vv (0, x) = .int (Int32.ofInt x) := rfl
theorem vv_l (x : Int) : vv (1, x) = .long (Int64.ofInt x) := rfl
theorem hz_at {σ : zSh} {μ : zM} {k : Nat} {c : Nat × List zD} (h : σ[k]? = some c) : (hz σ μ)[k]? = some (hcz c (μ k)) := by
  unfold hz
  rw [List.getElem?_mapIdx, h]
  rfl
theorem hz_len {σ : zSh} {μ : zM} : (hz σ μ).length = σ.length := by
  unfold hz
  rw [List.length_mapIdx]
theorem hcz_at {c : Nat × List zD} {f : Int → Int} {j : Nat} {o : zD} (h : c.2[j]? = some o) : (hcz c f).2[j]? = some (vv (o.1, o.2.getD (f j))) := by
  unfold hcz
  rw [List.getElem?_mapIdx, h]
  rfl
theorem hcz_len {c : Nat × List zD} {f : Int → Int} : (hcz c f).2.length = c.2.length := by
  unfold hcz
  rw [List.length_mapIdx]
theorem hz_get {σ : zSh} {μ : zM} {key : Int} {c : Nat × List zD} (h0 : 0 ≤ key) (h : σ[key.toNat]? = some c) : (hz σ μ)[key.toNat]? = some (hcz c (μ key)) := by
  rw [hz_at h, Int.toNat_of_nonneg h0]
theorem hz_set {σ : zSh} {μ : zM} {key : Int} {j tg : Nat} {c : Nat × List zD} (h0 : 0 ≤ key) (h : σ[key.toNat]? = some c) (hj : c.2[j]? = some (tg, none)) (x : Int) : (hz σ μ).set key.toNat (c.1, (hcz c (μ key)).2.set j (vv (tg, x))) = hz σ (up μ key j x) := by
  apply List.ext_getElem?
  intro i
  have hk := (List.getElem?_eq_some_iff.mp h).1
  by_cases e : i = key.toNat
  · subst e
    rw [List.getElem?_set_self (by rw [hz_len]; exact hk), hz_get h0 h]
    refine congrArg some (Prod.ext rfl ?_)
    apply List.ext_getElem?
    intro q
    by_cases e2 : q = j
    · subst e2
      rw [List.getElem?_set_self (by rw [hcz_len]; exact (List.getElem?_eq_some_iff.mp hj).1), hcz_at hj]
      simp [up]
    · rw [List.getElem?_set_ne (fun z => e2 z.symm)]
      cases hq : c.2[q]? with
      | none =>
        rw [List.getElem?_eq_none (by rw [hcz_len]; exact List.getElem?_eq_none_iff.mp hq), List.getElem?_eq_none (by rw [hcz_len]; exact List.getElem?_eq_none_iff.mp hq)]
      | some o =>
        rw [hcz_at hq, hcz_at hq]
        have : ¬ (q : Int) = (j : Int) := by omega
        simp [up, this]
  · rw [List.getElem?_set_ne (fun z => e z.symm)]
    cases hq : σ[i]? with
    | none => rw [List.getElem?_eq_none (by rw [hz_len]; exact List.getElem?_eq_none_iff.mp hq), List.getElem?_eq_none (by rw [hz_len]; exact List.getElem?_eq_none_iff.mp hq)]
    | some c' =>
      rw [hz_at hq, hz_at hq]
      congr 2
      funext q
      have : ¬ (i : Int) = key := by omega
      simp [up, this]
theorem Int32_ofInt_nat (v : Nat) : Int32.ofInt (v : Int) = Int32.ofNat v := Int32.ofInt_eq_ofNat
theorem zcatg (v : V) : (vv v).category = if v.1 = 1 then 2 else 1 := by
  unfold vv
  cases h : zfind ztab v.1 with
  | some s =>
    have h1 : v.1 ≠ 1 := by
      intro h2
      rw [h2] at h
      exact xno h
    rw [if_neg h1]
    rfl
  | none =>
    show (cond (Nat.beq v.1 0) _ _ : Value).category = _
    by_cases h1 : v.1 = 1
    · rw [if_pos h1, h1]
      rfl
    · rw [if_neg h1]
      have hb : Nat.beq v.1 1 = false := by
        cases hb : Nat.beq v.1 1 with
        | true => exact absurd (Nat.eq_of_beq_eq_true hb) h1
        | false => rfl
      rw [hb]
      cases Nat.beq v.1 0
      · cases Nat.beq v.1 2
        · cases Nat.beq v.1 3
          · cases Nat.beq v.1 30
            · cases Nat.beq v.1 50
              · rfl
              · show (if v.2 < 0 then Value.null else Value.ref v.2.toNat).category = 1
                split <;> rfl
            · rfl
          · rfl
        · rfl
      · rfl
theorem zkill_map {L : List V} {i : Nat} : (zkill L i).map vv = xkill (L.map vv) i := by
  unfold zkill xkill
  cases i with
  | zero => rfl
  | succ j =>
    show (match L[j]? with
      | some (1, _) => L.set j (4, 0)
      | _ => L).map vv = (match (L.map vv)[j]? with
      | some v => if v.category = 2 then (L.map vv).set j xU else L.map vv
      | none => L.map vv)
    rw [List.getElem?_map]
    cases h : L[j]? with
    | none => rfl
    | some v =>
      show _ = if (vv v).category = 2 then (L.map vv).set j xU else L.map vv
      rw [zcatg]
      obtain ⟨t, p⟩ := v
      by_cases ht : t = 1
      · subst ht
        show (L.set j (4, 0)).map vv = _
        rw [List.map_set]
        rfl
      · show _ = if (if t = 1 then 2 else 1) = 2 then (L.map vv).set j xU else L.map vv
        rw [if_neg ht, if_neg (by decide)]
        congr 1
        split
        · rename_i h2
          injection h2 with h3
          injection h3 with h4 h5
          exact absurd h4 ht
        · rfl
theorem zst1_some {α : Type} {L : List V} {i : Nat} {v : V} {K : List V → Option α} {w : α} (e : zst1 L i v K = some w) : ∃ L', K L' = some w ∧ xst1 (L.map vv) i (vv v) = some (L'.map vv) := by
  unfold zst1 at e
  obtain ⟨hb, e⟩ := zcond e
  rw [fL_eq] at e
  refine ⟨_, e, ?_⟩
  unfold xst1
  rw [if_pos (by rw [List.length_map]; exact Nat.blt_eq.mp hb)]
  congr 1
  rw [List.map_set, zkill_map]
theorem zst2_some {α : Type} {L : List V} {i : Nat} {v : V} {K : List V → Option α} {w : α} (e : zst2 L i v K = some w) : ∃ L', K L' = some w ∧ xst2 (L.map vv) i (vv v) = some (L'.map vv) := by
  unfold zst2 at e
  obtain ⟨hb, e⟩ := zcond e
  rw [fL_eq] at e
  refine ⟨_, e, ?_⟩
  unfold xst2
  rw [if_pos (by rw [List.length_map]; exact Nat.blt_eq.mp hb)]
  congr 1
  rw [List.map_set, List.map_set, zkill_map]
  rfl
theorem zcat_ok : ∀ st : List V, xcat (st.map vv) = zcat st
  | [] => rfl
  | (t, p) :: r => by
    have ih := zcat_ok r
    have e : xcat (((t, p) :: r).map vv) = (vv (t, p)).category + xcat (r.map vv) := by
      unfold xcat
      rw [List.map_cons, List.map_cons, List.sum_cons]
    rw [e, ih, zcatg]
    by_cases ht : t = 1
    · subst ht
      rfl
    · show (if t = 1 then 2 else 1) + zcat r = _
      rw [if_neg ht]
      match t, ht with
      | 0, _ => rfl
      | 1, h => exact absurd rfl h
      | n + 2, _ => rfl
theorem zcell_o {s : zS} {p : Int} (h : Nat.blt s.2.1 20 = true) : zcell s p = (s.2.1, s.2.2.2.2.2.map (zsd p)) := by
  unfold zcell
  rw [h]
  rfl
theorem nbeq {a b : Nat} (h : Nat.beq a b = true) : a = b := Nat.eq_of_beq_eq_true h
theorem band {a b : Bool} (h : (a && b) = true) : a = true ∧ b = true := Bool.and_eq_true_iff.mp h
theorem ofInt_nonneg {x : Int} (h0 : 0 ≤ x) (h1 : x < 2147483648) : ¬ Int32.ofInt x < 0 := by
  rw [Int32.lt_iff_toInt_lt, Int32.toInt_ofInt_of_le (by omega) (by omega)]
  simp
  omega
theorem ofInt_clamp {x : Int} (h0 : 0 ≤ x) (h1 : x < 2147483648) : (Int32.ofInt x).toNatClampNeg = x.toNat := by
  unfold Int32.toNatClampNeg
  rw [Int32.toInt_ofInt_of_le (by omega) (by omega)]
/-- an array's cell, an index in it -/
theorem zarr {σ : zSh} {t rg ct md : Nat} {ln o p i : Int} {sl : List (Nat × Nat × Int)} {tg m2 : Nat} {dl : Int} (μ : zM) (hW : Wl σ) (h : zfind ztab t = some (rg, ct, ln, md, o, sl)) (hr : Rgn σ rg p) (hc : Nat.blt ct 20 = false) (h23 : Nat.beq ct 23 = false) (hsl : sl = [(tg, m2, dl)]) (hi : 0 ≤ i ∧ i < ln) (hln : ln ≤ 1100) :
    (hz σ μ)[(zkey md o p).toNat]? = some (ct, (hcz (zcell (rg, ct, ln, md, o, sl) p) (μ (zkey md o p))).2) ∧ (hcz (zcell (rg, ct, ln, md, o, sl) p) (μ (zkey md o p))).2.length = ln.toNat ∧ xix (Int32.ofInt i) (hcz (zcell (rg, ct, ln, md, o, sl) p) (μ (zkey md o p))).2 = some (vv (tg, μ (zkey md o p) i)) ∧ (zcell (rg, ct, ln, md, o, sl) p).2[i.toNat]? = some (tg, none) := by
  obtain ⟨h0, h1⟩ := Rok hW h hr
  subst hsl
  have ec : zcell (rg, ct, ln, md, o, [(tg, m2, dl)]) p = (ct, List.replicate ln.toNat (tg, none)) := by
    unfold zcell
    show (ct, cond (Nat.blt ct 20) _ (cond (Nat.beq ct 23) _ _)) = _
    rw [hc, h23]
    rfl
  have eg : (zcell (rg, ct, ln, md, o, [(tg, m2, dl)]) p).2[i.toNat]? = some (tg, none) := by
    rw [ec]
    show (List.replicate ln.toNat (tg, none))[i.toNat]? = _
    rw [List.getElem?_replicate, if_pos (by omega)]
  refine ⟨?_, ?_, ?_, eg⟩
  · rw [hz_get h0 h1]
    rfl
  · rw [hcz_len, ec]
    exact List.length_replicate
  · unfold xix
    rw [if_neg (ofInt_nonneg hi.1 (by omega)), ofInt_clamp hi.1 (by omega), hcz_at eg]
    show some (vv (tg, μ (zkey md o p) (i.toNat : Int))) = _
    rw [Int.toNat_of_nonneg hi.1]
theorem zlens : ∀ q ∈ ztab, q.2.2.2.1 ≤ 1100 := by decide +kernel
theorem zelem : ∀ q ∈ ztab, Nat.blt q.2.2.1 20 = false → ∃ e, q.2.2.2.2.2.2 = [e] := by
  have : ztab.all (fun q => Nat.blt q.2.2.1 20 || decide (q.2.2.2.2.2.2.length = 1)) = true := by decide +kernel
  intro q hq hb
  have h1 := List.all_eq_true.mp this q hq
  rw [hb] at h1
  have h2 : q.2.2.2.2.2.2.length = 1 := by simpa using h1
  exact List.length_eq_one_iff.mp h2
/-- what the ints of arrays of ints, bytes, truth values are -/
theorem zelem0 : ∀ q ∈ ztab, (Nat.beq q.2.2.1 20 || (Nat.beq q.2.2.1 21 || Nat.beq q.2.2.1 22)) = true → q.2.2.2.2.2.2 = [(0, 0, 0)] := by
  have : ztab.all (fun q => !(Nat.beq q.2.2.1 20 || (Nat.beq q.2.2.1 21 || Nat.beq q.2.2.1 22)) || decide (q.2.2.2.2.2.2 = [(0, 0, 0)])) = true := by decide +kernel
  intro q hq hb
  have h1 := List.all_eq_true.mp this q hq
  rw [hb] at h1
  simpa using h1
