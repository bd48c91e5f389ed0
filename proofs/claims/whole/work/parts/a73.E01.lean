def xa (xs : Nat → Int32) (z : Int) : Int := (xs z.toNat).toInt
theorem xa_rng {xs : Nat → Int32} {z : Int} : zrng (xa xs z) := by
  have h1 := Int32.le_toInt (xs z.toNat)
  have h2 := Int32.toInt_lt (xs z.toNat)
  unfold xa
  exact ⟨by omega, by omega⟩
theorem z63 (x : Int) : 0 ≤ zand x 63 ∧ zand x 63 ≤ 63 := by
  unfold zand
  have e : (Int32.ofInt x &&& Int32.ofInt 63).toInt = ((Int32.ofInt x &&& Int32.ofInt 63).toBitVec).toInt := rfl
  rw [e, Int32.toBitVec_and]
  have e2 : (Int32.ofInt 63).toBitVec = 63#32 := by decide
  rw [e2]
  have h1 : ((Int32.ofInt x).toBitVec &&& 63#32).toNat ≤ 63 := by
    rw [BitVec.toNat_and]
    exact Nat.and_le_right
  rw [BitVec.toInt_eq_toNat_of_lt (by omega)]
  omega
section
variable {Ln : Nat} {xs : Nat → Int32} {σ σ2 : zSh} {d mi pc nx : Nat} {L st rest : List V} {μ μ1 : zM} {r : Option Value} {h' : xH}
theorem Zv.sc {z : Int} (hf : xfind (xmt mi).2 pc = some (.iaload, nx, [])) (hz0 : 0 ≤ z ∧ z < Ln) (hL : Ln ≤ 320) (k : Zv (xext Ln xs) d mi nx L ((0, xa xs z) :: st) σ μ r h') : Zv (xext Ln xs) d mi pc L ((0, z) :: (3, 0) :: st) σ μ r h' := by
  refine Ev.s hf (w := (nx, L.map vv, .int (Int32.ofInt (xa xs z)) :: st.map vv, hz σ μ)) ?_ k
  show ((xext Ln xs)[0]?).bind (fun c => cond (Nat.beq c.1 20) ((xix (Int32.ofInt z) c.2).bind fun w => some (nx, L.map vv, w :: st.map vv, hz σ μ)) none) = _
  show (xix (Int32.ofInt z) ((List.range Ln).map fun j => Value.int (xs j))).bind _ = _
  unfold xix
  rw [if_neg (ofInt_nonneg hz0.1 (by omega)), ofInt_clamp hz0.1 (by omega), List.getElem?_map, List.getElem?_range (by omega)]
  unfold xa
  rw [z_bk]
  rfl
theorem Zv.sl (hf : xfind (xmt mi).2 pc = some (.arraylength, nx, [])) (k : Zv (xext Ln xs) d mi nx L ((0, (Ln : Int)) :: st) σ μ r h') : Zv (xext Ln xs) d mi pc L ((3, 0) :: st) σ μ r h' := by
  refine Ev.s hf (w := (nx, L.map vv, .int (Int32.ofInt (Ln : Int)) :: st.map vv, hz σ μ)) ?_ k
  show ((xext Ln xs)[0]?).bind (fun c => cond (Nat.blt 19 c.1) (some (nx, L.map vv, Value.int (Int32.ofNat c.2.length) :: st.map vv, hz σ μ)) none) = _
  show some (nx, L.map vv, Value.int (Int32.ofNat ((List.range Ln).map fun j => Value.int (xs j)).length) :: st.map vv, hz σ μ) = _
  rw [List.length_map, List.length_range, Int32_ofInt_nat]
theorem Zv.xc {ext : List xC} {na idx mj g : Nat} {x : Int} {va : List V} (hW : Wl σ) (hf : xfind (xmt mi).2 pc = some (.invokevirtual idx, nx, [na, 11, mj])) (hd : st.drop na = (1000, 0) :: rest) (hv : (st.take na).reverse = va) (h8 : zcat rest ≤ 8) (hl : (zspread ((1000, 0) :: va)).length ≤ xmax mj)
    (kc : EvM ext d mj (.ref 0 :: va.map vv) (hz σ μ) (some (vv (g, x))) (hz σ2 μ1)) (kk : Zv ext (d + 1) mi nx L ((g, x) :: rest) σ2 μ1 r h') : Zv ext (d + 1) mi pc L st σ μ r h' := by
  have hq0 : σ[(0 : Nat)]? = some (zc 1000 0) := (hW.1 0 _ (zfind_mem (t := 1000) rfl) rfl).2
  refine Ev.c hf (mj := mj) (vs := .ref 0 :: va.map vv) (rest := rest.map vv) ?_ (by rw [zcat_ok]; exact h8) ?_ kc kk
  · show (match (st.map vv).drop na with
      | v :: r => (xget ext (hz σ μ) v).bind fun c => (xpairs [11, mj] c.1).bind fun mi => some (mi, v :: ((st.map vv).take na).reverse, r)
      | _ => none) = _
    rw [← List.map_drop, hd, List.map_cons]
    show ((hz σ μ)[0]?).bind _ = _
    rw [hz_at hq0, Option.bind_some]
    show some (mj, vv (1000, 0) :: ((st.map vv).take na).reverse, rest.map vv) = _
    rw [← List.map_take, ← List.map_reverse, hv]
    rfl
  · have e : Value.ref 0 :: va.map vv = ((1000, 0) :: va).map vv := rfl
    rw [e, ← zspread_map, List.length_map]
    exact hl
theorem Zv.qi {ext : List xC} {t : Nat} {o x : Int} (hf : xfind (xmt mi).2 pc = some (.if_icmp .eq o, nx, [t])) (k : Zv ext d mi t L st σ μ r h') : Zv ext d mi pc L ((0, x) :: (0, x) :: st) σ μ r h' := by
  refine Ev.icmp hf (fun _ => k) (fun hc => ?_)
  have : xcmp .eq (Int32.ofInt x) (Int32.ofInt x) = true := decide_eq_true rfl
  have hc : xcmp .eq (Int32.ofInt x) (Int32.ofInt x) = false := hc
  rw [this] at hc
  exact Bool.noConfusion hc
theorem lg_self (a : Int64) : lg_cmp a a = 0 := by
  unfold lg_cmp
  rw [if_neg (fun q => Int64.lt_irrefl q), if_pos rfl]
theorem Zv.ql {ext : List xC} {t p2 : Nat} {o x : Int} (hf : xfind (xmt mi).2 pc = some (.lcmp, p2, [])) (hf2 : xfind (xmt mi).2 p2 = some (.ifCond .eq o, nx, [t])) (k : Zv ext d mi t L st σ μ r h') : Zv ext d mi pc L ((1, x) :: (1, x) :: st) σ μ r h' := by
  refine Ev.s hf (w := (p2, L.map vv, .int (lg_cmp (Int64.ofInt x) (Int64.ofInt x)) :: st.map vv, hz σ μ)) rfl ?_
  rw [lg_self]
  exact Ev.if0 hf2 (fun _ => k) (fun hc => Bool.noConfusion hc)
end
section
variable {Ln : Nat} {xs : Nat → Int32}
/-- the goal at the loop's head -/
def LG (Ln : Nat) (xs : Nat → Int32) (q : Int) (σ : zSh) (μ : zM) : Prop := ∃ hf : xH, hf.length ≤ 5000 ∧ Zv (xext Ln xs) 11 n_L_law 18 [(3, 0), (1000, 0), (1161, 0), (0, 5 * q)] [] σ μ (some (.int 1)) hf
set_option maxRecDepth 100000 in set_option maxHeartbeats 4000000 in theorem LG.tail {q : Int} {σ : zSh} {μ : zM} {hf : xH} (hW : Wl σ) (k : Zv (xext Ln xs) 11 n_L_law 18 [(3, 0), (1000, 0), (1161, 0), (0, 5 * (q + 1))] [] σ μ (some (.int 1)) hf) : Zv (xext Ln xs) 11 n_L_law 1168 [(3, 0), (1000, 0), (1161, 0), (0, 5 * q)] [] σ μ (some (.int 1)) hf := by
  refine Zv.go hW 18 rfl (by repeat' first | exact True.intro | assumption | apply And.intro | omega | (simp (disch := omega) only [up_n, up_e]; omega)) ?_
  rw [show 5 * q + 5 = 5 * (q + 1) by omega]
  exact k
set_option maxRecDepth 100000 in set_option maxHeartbeats 4000000 in theorem l_shop {q : Int} {σ : zSh} {μ : zM} (hL : Ln ≤ 320) (h0 : 0 ≤ q) (ht : q ≤ 100) (hq : 5 * q + 4 < Ln) (h : WS σ μ q) (ih : ∀ σ2 μ2, WS σ2 μ2 (q + 1) → LG Ln xs (q + 1) σ2 μ2) : ∃ hf : xH, hf.length ≤ 5000 ∧ Zv (xext Ln xs) 11 n_L_law 184 [(3, 0), (1000, 0), (1161, 0), (0, 5 * q)] [] σ μ (some (.int 1)) hf := by
  obtain ⟨x, σ2, μ1, μ2, c1, c2, h2⟩ := s_shop (ext := xext Ln xs) h h0
  obtain ⟨hf, hlen, k⟩ := ih σ2 μ2 h2
  have k := LG.tail h2.1.1 k
  have hW := h.1.1
  have hW2 := h2.1.1
  refine ⟨hf, hlen, ?_⟩
  refine Zv.go hW 9999 rfl True.intro ?_
  refine Zv.xc (va := []) hW rfl rfl rfl (Nat.le_of_ble_eq_true rfl) (Nat.le_of_ble_eq_true rfl) c1 ?_
  refine Zv.go hW2 9999 rfl True.intro ?_
  refine Zv.c0 hW2 rfl rfl (Nat.le_of_ble_eq_true rfl) (Nat.le_of_ble_eq_true rfl) c2 ?_
  exact Zv.qi rfl k
set_option maxRecDepth 100000 in set_option maxHeartbeats 4000000 in theorem l_view {q : Int} {σ : zSh} {μ : zM} (hL : Ln ≤ 320) (h0 : 0 ≤ q) (ht : q ≤ 100) (hq : 5 * q + 4 < Ln) (h : WS σ μ q) (ih : ∀ σ2 μ2, WS σ2 μ2 (q + 1) → LG Ln xs (q + 1) σ2 μ2) : ∃ hf : xH, hf.length ≤ 5000 ∧ Zv (xext Ln xs) 11 n_L_law 197 [(3, 0), (1000, 0), (1161, 0), (0, 5 * q)] [] σ μ (some (.int 1)) hf := by
  obtain ⟨x, σ2, μ1, μ2, c1, c2, h2⟩ := s_view (ext := xext Ln xs) h xa_rng xa_rng xa_rng xa_rng
  obtain ⟨hf, hlen, k⟩ := ih σ2 μ2 h2
  have k := LG.tail h2.1.1 k
  have hW := h.1.1
  have hW2 := h2.1.1
  refine ⟨hf, hlen, ?_⟩
  refine Zv.go hW 9999 rfl True.intro ?_
  refine Zv.sc rfl (by omega) hL ?_
  refine Zv.go hW 9999 rfl True.intro ?_
  refine Zv.sc rfl (by omega) hL ?_
  refine Zv.go hW 9999 rfl True.intro ?_
  refine Zv.sc rfl (by omega) hL ?_
  refine Zv.go hW 9999 rfl True.intro ?_
  refine Zv.sc rfl (by omega) hL ?_
  refine Zv.xc (va := [(0, xa xs (5 * q + 1)), (0, xa xs (5 * q + 2)), (0, xa xs (5 * q + 3)), (0, xa xs (5 * q + 4))]) hW rfl rfl rfl (Nat.le_of_ble_eq_true rfl) (Nat.le_of_ble_eq_true rfl) c1 ?_
  refine Zv.go hW2 9999 rfl True.intro ?_
  refine Zv.sc rfl (by omega) hL ?_
  refine Zv.go hW2 9999 rfl True.intro ?_
  refine Zv.sc rfl (by omega) hL ?_
  refine Zv.go hW2 9999 rfl True.intro ?_
  refine Zv.sc rfl (by omega) hL ?_
  refine Zv.go hW2 9999 rfl True.intro ?_
  refine Zv.sc rfl (by omega) hL ?_
  refine Zv.c0 hW2 rfl rfl (Nat.le_of_ble_eq_true rfl) (Nat.le_of_ble_eq_true rfl) c2 ?_
  exact Zv.qi rfl k
set_option maxRecDepth 100000 in set_option maxHeartbeats 4000000 in theorem l_renter {q : Int} {σ : zSh} {μ : zM} (hL : Ln ≤ 320) (h0 : 0 ≤ q) (ht : q ≤ 100) (hq : 5 * q + 4 < Ln) (h : WS σ μ q) (ih : ∀ σ2 μ2, WS σ2 μ2 (q + 1) → LG Ln xs (q + 1) σ2 μ2) : ∃ hf : xH, hf.length ≤ 5000 ∧ Zv (xext Ln xs) 11 n_L_law 250 [(3, 0), (1000, 0), (1161, 0), (0, 5 * q)] [] σ μ (some (.int 1)) hf := by
  obtain ⟨x, σ2, μ1, μ2, c1, c2, h2⟩ := s_renter (ext := xext Ln xs) h xa_rng xa_rng xa_rng
  obtain ⟨hf, hlen, k⟩ := ih σ2 μ2 h2
  have k := LG.tail h2.1.1 k
  have hW := h.1.1
  have hW2 := h2.1.1
  refine ⟨hf, hlen, ?_⟩
  refine Zv.go hW 9999 rfl True.intro ?_
  refine Zv.sc rfl (by omega) hL ?_
  refine Zv.go hW 9999 rfl True.intro ?_
  refine Zv.sc rfl (by omega) hL ?_
  refine Zv.go hW 9999 rfl True.intro ?_
  refine Zv.sc rfl (by omega) hL ?_
  refine Zv.xc (va := [(0, xa xs (5 * q + 1)), (0, xa xs (5 * q + 2)), (0, xa xs (5 * q + 3))]) hW rfl rfl rfl (Nat.le_of_ble_eq_true rfl) (Nat.le_of_ble_eq_true rfl) c1 ?_
  refine Zv.go hW2 9999 rfl True.intro ?_
  refine Zv.sc rfl (by omega) hL ?_
  refine Zv.go hW2 9999 rfl True.intro ?_
  refine Zv.sc rfl (by omega) hL ?_
  refine Zv.go hW2 9999 rfl True.intro ?_
  refine Zv.sc rfl (by omega) hL ?_
  refine Zv.c0 hW2 rfl rfl (Nat.le_of_ble_eq_true rfl) (Nat.le_of_ble_eq_true rfl) c2 ?_
  exact Zv.qi rfl k
set_option maxRecDepth 100000 in set_option maxHeartbeats 4000000 in theorem l_things {q : Int} {σ : zSh} {μ : zM} (hL : Ln ≤ 320) (h0 : 0 ≤ q) (ht : q ≤ 100) (hq : 5 * q + 4 < Ln) (h : WS σ μ q) (ih : ∀ σ2 μ2, WS σ2 μ2 (q + 1) → LG Ln xs (q + 1) σ2 μ2) : ∃ hf : xH, hf.length ≤ 5000 ∧ Zv (xext Ln xs) 11 n_L_law 293 [(3, 0), (1000, 0), (1161, 0), (0, 5 * q)] [] σ μ (some (.int 1)) hf := by
  obtain ⟨x, σ2, μ1, μ2, c1, c2, h2⟩ := s_things (ext := xext Ln xs) h xa_rng xa_rng
  obtain ⟨hf, hlen, k⟩ := ih σ2 μ2 h2
  have k := LG.tail h2.1.1 k
  have hW := h.1.1
  have hW2 := h2.1.1
  refine ⟨hf, hlen, ?_⟩
  refine Zv.go hW 9999 rfl True.intro ?_
  refine Zv.sc rfl (by omega) hL ?_
  refine Zv.go hW 9999 rfl True.intro ?_
  refine Zv.sc rfl (by omega) hL ?_
  refine Zv.xc (va := [(0, xa xs (5 * q + 1)), (0, xa xs (5 * q + 2))]) hW rfl rfl rfl (Nat.le_of_ble_eq_true rfl) (Nat.le_of_ble_eq_true rfl) c1 ?_
  refine Zv.go hW2 9999 rfl True.intro ?_
  refine Zv.sc rfl (by omega) hL ?_
  refine Zv.go hW2 9999 rfl True.intro ?_
  refine Zv.sc rfl (by omega) hL ?_
  refine Zv.c0 hW2 rfl rfl (Nat.le_of_ble_eq_true rfl) (Nat.le_of_ble_eq_true rfl) c2 ?_
  exact Zv.qi rfl k
set_option maxRecDepth 100000 in set_option maxHeartbeats 4000000 in theorem l_type {q : Int} {σ : zSh} {μ : zM} (hL : Ln ≤ 320) (h0 : 0 ≤ q) (ht : q ≤ 100) (hq : 5 * q + 4 < Ln) (h : WS σ μ q) (ih : ∀ σ2 μ2, WS σ2 μ2 (q + 1) → LG Ln xs (q + 1) σ2 μ2) : ∃ hf : xH, hf.length ≤ 5000 ∧ Zv (xext Ln xs) 11 n_L_law 326 [(3, 0), (1000, 0), (1161, 0), (0, 5 * q)] [] σ μ (some (.int 1)) hf := by
  obtain ⟨x, σ2, μ1, μ2, c1, c2, h2⟩ := s_type (ext := xext Ln xs) h xa_rng
  obtain ⟨hf, hlen, k⟩ := ih σ2 μ2 h2
  have k := LG.tail h2.1.1 k
  have hW := h.1.1
  have hW2 := h2.1.1
  refine ⟨hf, hlen, ?_⟩
  refine Zv.go hW 9999 rfl True.intro ?_
  refine Zv.sc rfl (by omega) hL ?_
  refine Zv.xc (va := [(0, xa xs (5 * q + 1))]) hW rfl rfl rfl (Nat.le_of_ble_eq_true rfl) (Nat.le_of_ble_eq_true rfl) c1 ?_
  refine Zv.go hW2 9999 rfl True.intro ?_
  refine Zv.sc rfl (by omega) hL ?_
  refine Zv.c0 hW2 rfl rfl (Nat.le_of_ble_eq_true rfl) (Nat.le_of_ble_eq_true rfl) c2 ?_
  exact Zv.qi rfl k
set_option maxRecDepth 100000 in set_option maxHeartbeats 4000000 in theorem l_clear {q : Int} {σ : zSh} {μ : zM} (hL : Ln ≤ 320) (h0 : 0 ≤ q) (ht : q ≤ 100) (hq : 5 * q + 4 < Ln) (h : WS σ μ q) (ih : ∀ σ2 μ2, WS σ2 μ2 (q + 1) → LG Ln xs (q + 1) σ2 μ2) : ∃ hf : xH, hf.length ≤ 5000 ∧ Zv (xext Ln xs) 11 n_L_law 349 [(3, 0), (1000, 0), (1161, 0), (0, 5 * q)] [] σ μ (some (.int 1)) hf := by
  obtain ⟨x, σ2, μ1, μ2, c1, c2, h2⟩ := s_clear (ext := xext Ln xs) h
  obtain ⟨hf, hlen, k⟩ := ih σ2 μ2 h2
  have k := LG.tail h2.1.1 k
  have hW := h.1.1
  have hW2 := h2.1.1
  refine ⟨hf, hlen, ?_⟩
  refine Zv.go hW 9999 rfl True.intro ?_
  refine Zv.xc (va := []) hW rfl rfl rfl (Nat.le_of_ble_eq_true rfl) (Nat.le_of_ble_eq_true rfl) c1 ?_
  refine Zv.go hW2 9999 rfl True.intro ?_
  refine Zv.c0 hW2 rfl rfl (Nat.le_of_ble_eq_true rfl) (Nat.le_of_ble_eq_true rfl) c2 ?_
  exact Zv.qi rfl k
set_option maxRecDepth 100000 in set_option maxHeartbeats 4000000 in theorem l_read {q : Int} {σ : zSh} {μ : zM} (hL : Ln ≤ 320) (h0 : 0 ≤ q) (ht : q ≤ 100) (hq : 5 * q + 4 < Ln) (h : WS σ μ q) (ih : ∀ σ2 μ2, WS σ2 μ2 (q + 1) → LG Ln xs (q + 1) σ2 μ2) : ∃ hf : xH, hf.length ≤ 5000 ∧ Zv (xext Ln xs) 11 n_L_law 362 [(3, 0), (1000, 0), (1161, 0), (0, 5 * q)] [] σ μ (some (.int 1)) hf := by
  obtain ⟨x, σ2, μ1, μ2, c1, c2, h2⟩ := s_read (L := Ln) (xs := xs) h h0
  obtain ⟨hf, hlen, k⟩ := ih σ2 μ2 h2
  have k := LG.tail h2.1.1 k
  have hW := h.1.1
  have hW2 := h2.1.1
  refine ⟨hf, hlen, ?_⟩
  refine Zv.go hW 9999 rfl True.intro ?_
  refine Zv.xc (va := []) hW rfl rfl rfl (Nat.le_of_ble_eq_true rfl) (Nat.le_of_ble_eq_true rfl) c1 ?_
  refine Zv.go hW2 9999 rfl True.intro ?_
  refine Zv.c0 hW2 rfl rfl (Nat.le_of_ble_eq_true rfl) (Nat.le_of_ble_eq_true rfl) c2 ?_
  exact Zv.qi rfl k
set_option maxRecDepth 100000 in set_option maxHeartbeats 4000000 in theorem l_let {q : Int} {σ : zSh} {μ : zM} (hL : Ln ≤ 320) (h0 : 0 ≤ q) (ht : q ≤ 100) (hq : 5 * q + 4 < Ln) (h : WS σ μ q) (ih : ∀ σ2 μ2, WS σ2 μ2 (q + 1) → LG Ln xs (q + 1) σ2 μ2) : ∃ hf : xH, hf.length ≤ 5000 ∧ Zv (xext Ln xs) 11 n_L_law 375 [(3, 0), (1000, 0), (1161, 0), (0, 5 * q)] [] σ μ (some (.int 1)) hf := by
  obtain ⟨x, σ2, μ1, μ2, c1, c2, h2⟩ := s_let (ext := xext Ln xs) h ⟨h0, ht⟩ xa_rng xa_rng
  obtain ⟨hf, hlen, k⟩ := ih σ2 μ2 h2
  have k := LG.tail h2.1.1 k
  have hW := h.1.1
  have hW2 := h2.1.1
  refine ⟨hf, hlen, ?_⟩
  refine Zv.go hW 9999 rfl True.intro ?_
  refine Zv.sc rfl (by omega) hL ?_
  refine Zv.go hW 9999 rfl True.intro ?_
  refine Zv.sc rfl (by omega) hL ?_
  refine Zv.xc (va := [(0, xa xs (5 * q + 1)), (0, xa xs (5 * q + 2))]) hW rfl rfl rfl (Nat.le_of_ble_eq_true rfl) (Nat.le_of_ble_eq_true rfl) c1 ?_
  refine Zv.go hW2 9999 rfl True.intro ?_
  refine Zv.sc rfl (by omega) hL ?_
  refine Zv.go hW2 9999 rfl True.intro ?_
  refine Zv.sc rfl (by omega) hL ?_
  refine Zv.c0 hW2 rfl rfl (Nat.le_of_ble_eq_true rfl) (Nat.le_of_ble_eq_true rfl) c2 ?_
  exact Zv.qi rfl k
set_option maxRecDepth 100000 in set_option maxHeartbeats 4000000 in theorem l_night {q : Int} {σ : zSh} {μ : zM} (hL : Ln ≤ 320) (h0 : 0 ≤ q) (ht : q ≤ 100) (hq : 5 * q + 4 < Ln) (h : WS σ μ q) (ih : ∀ σ2 μ2, WS σ2 μ2 (q + 1) → LG Ln xs (q + 1) σ2 μ2) : ∃ hf : xH, hf.length ≤ 5000 ∧ Zv (xext Ln xs) 11 n_L_law 408 [(3, 0), (1000, 0), (1161, 0), (0, 5 * q)] [] σ μ (some (.int 1)) hf := by
  obtain ⟨x, σ2, μ1, μ2, c1, c2, h2⟩ := s_night (ext := xext Ln xs) h ⟨h0, ht⟩
  obtain ⟨hf, hlen, k⟩ := ih σ2 μ2 h2
  have k := LG.tail h2.1.1 k
  have hW := h.1.1
  have hW2 := h2.1.1
  refine ⟨hf, hlen, ?_⟩
  refine Zv.go hW 9999 rfl True.intro ?_
  refine Zv.xc (va := []) hW rfl rfl rfl (Nat.le_of_ble_eq_true rfl) (Nat.le_of_ble_eq_true rfl) c1 ?_
  refine Zv.go hW2 9999 rfl True.intro ?_
  refine Zv.c0 hW2 rfl rfl (Nat.le_of_ble_eq_true rfl) (Nat.le_of_ble_eq_true rfl) c2 ?_
  exact Zv.qi rfl k
set_option maxRecDepth 100000 in set_option maxHeartbeats 4000000 in theorem l_undo {q : Int} {σ : zSh} {μ : zM} (hL : Ln ≤ 320) (h0 : 0 ≤ q) (ht : q ≤ 100) (hq : 5 * q + 4 < Ln) (h : WS σ μ q) (ih : ∀ σ2 μ2, WS σ2 μ2 (q + 1) → LG Ln xs (q + 1) σ2 μ2) : ∃ hf : xH, hf.length ≤ 5000 ∧ Zv (xext Ln xs) 11 n_L_law 421 [(3, 0), (1000, 0), (1161, 0), (0, 5 * q)] [] σ μ (some (.int 1)) hf := by
  obtain ⟨x, σ2, μ1, μ2, c1, c2, h2⟩ := s_undo (ext := xext Ln xs) h
  obtain ⟨hf, hlen, k⟩ := ih σ2 μ2 h2
  have k := LG.tail h2.1.1 k
  have hW := h.1.1
  have hW2 := h2.1.1
  refine ⟨hf, hlen, ?_⟩
  refine Zv.go hW 9999 rfl True.intro ?_
  refine Zv.xc (va := []) hW rfl rfl rfl (Nat.le_of_ble_eq_true rfl) (Nat.le_of_ble_eq_true rfl) c1 ?_
  refine Zv.go hW2 9999 rfl True.intro ?_
  refine Zv.c0 hW2 rfl rfl (Nat.le_of_ble_eq_true rfl) (Nat.le_of_ble_eq_true rfl) c2 ?_
  exact Zv.qi rfl k
set_option maxRecDepth 100000 in set_option maxHeartbeats 4000000 in theorem l_of {q : Int} {σ : zSh} {μ : zM} (hL : Ln ≤ 320) (h0 : 0 ≤ q) (ht : q ≤ 100) (hq : 5 * q + 4 < Ln) (h : WS σ μ q) (ih : ∀ σ2 μ2, WS σ2 μ2 (q + 1) → LG Ln xs (q + 1) σ2 μ2) : ∃ hf : xH, hf.length ≤ 5000 ∧ Zv (xext Ln xs) 11 n_L_law 434 [(3, 0), (1000, 0), (1161, 0), (0, 5 * q)] [] σ μ (some (.int 1)) hf := by
  obtain ⟨x, σ2, μ1, μ2, c1, c2, h2⟩ := s_of (ext := xext Ln xs) h ht xa_rng xa_rng
  obtain ⟨hf, hlen, k⟩ := ih σ2 μ2 h2
  have k := LG.tail h2.1.1 k
  have hW := h.1.1
  have hW2 := h2.1.1
  refine ⟨hf, hlen, ?_⟩
  refine Zv.go hW 9999 rfl True.intro ?_
  refine Zv.sc rfl (by omega) hL ?_
  refine Zv.go hW 9999 rfl True.intro ?_
  refine Zv.sc rfl (by omega) hL ?_
  refine Zv.xc (va := [(0, xa xs (5 * q + 1)), (0, xa xs (5 * q + 2))]) hW rfl rfl rfl (Nat.le_of_ble_eq_true rfl) (Nat.le_of_ble_eq_true rfl) c1 ?_
  refine Zv.go hW2 9999 rfl True.intro ?_
  refine Zv.sc rfl (by omega) hL ?_
  refine Zv.go hW2 9999 rfl True.intro ?_
  refine Zv.sc rfl (by omega) hL ?_
  refine Zv.c0 hW2 rfl rfl (Nat.le_of_ble_eq_true rfl) (Nat.le_of_ble_eq_true rfl) c2 ?_
  exact Zv.qi rfl k
set_option maxRecDepth 100000 in set_option maxHeartbeats 4000000 in theorem l_about {q : Int} {σ : zSh} {μ : zM} (hL : Ln ≤ 320) (h0 : 0 ≤ q) (ht : q ≤ 100) (hq : 5 * q + 4 < Ln) (h : WS σ μ q) (ih : ∀ σ2 μ2, WS σ2 μ2 (q + 1) → LG Ln xs (q + 1) σ2 μ2) : ∃ hf : xH, hf.length ≤ 5000 ∧ Zv (xext Ln xs) 11 n_L_law 467 [(3, 0), (1000, 0), (1161, 0), (0, 5 * q)] [] σ μ (some (.int 1)) hf := by
  obtain ⟨x, σ2, μ1, μ2, c1, c2, h2⟩ := s_about (ext := xext Ln xs) h xa_rng xa_rng
  obtain ⟨hf, hlen, k⟩ := ih σ2 μ2 h2
  have k := LG.tail h2.1.1 k
  have hW := h.1.1
  have hW2 := h2.1.1
  refine ⟨hf, hlen, ?_⟩
  refine Zv.go hW 9999 rfl True.intro ?_
  refine Zv.sc rfl (by omega) hL ?_
  refine Zv.go hW 9999 rfl True.intro ?_
  refine Zv.sc rfl (by omega) hL ?_
  refine Zv.xc (va := [(0, xa xs (5 * q + 1)), (0, xa xs (5 * q + 2))]) hW rfl rfl rfl (Nat.le_of_ble_eq_true rfl) (Nat.le_of_ble_eq_true rfl) c1 ?_
  refine Zv.go hW2 9999 rfl True.intro ?_
  refine Zv.sc rfl (by omega) hL ?_
  refine Zv.go hW2 9999 rfl True.intro ?_
  refine Zv.sc rfl (by omega) hL ?_
  refine Zv.c0 hW2 rfl rfl (Nat.le_of_ble_eq_true rfl) (Nat.le_of_ble_eq_true rfl) c2 ?_
  exact Zv.qi rfl k
set_option maxRecDepth 100000 in set_option maxHeartbeats 4000000 in theorem l_shows {q : Int} {σ : zSh} {μ : zM} (hL : Ln ≤ 320) (h0 : 0 ≤ q) (ht : q ≤ 100) (hq : 5 * q + 4 < Ln) (h : WS σ μ q) (ih : ∀ σ2 μ2, WS σ2 μ2 (q + 1) → LG Ln xs (q + 1) σ2 μ2) : ∃ hf : xH, hf.length ≤ 5000 ∧ Zv (xext Ln xs) 11 n_L_law 500 [(3, 0), (1000, 0), (1161, 0), (0, 5 * q)] [] σ μ (some (.int 1)) hf := by
  obtain ⟨x, σ2, μ1, μ2, c1, c2, h2⟩ := s_shows (ext := xext Ln xs) h xa_rng xa_rng
  obtain ⟨hf, hlen, k⟩ := ih σ2 μ2 h2
  have k := LG.tail h2.1.1 k
  have hW := h.1.1
  have hW2 := h2.1.1
  refine ⟨hf, hlen, ?_⟩
  refine Zv.go hW 9999 rfl True.intro ?_
  refine Zv.sc rfl (by omega) hL ?_
  refine Zv.go hW 9999 rfl True.intro ?_
  refine Zv.sc rfl (by omega) hL ?_
  refine Zv.xc (va := [(0, xa xs (5 * q + 1)), (0, xa xs (5 * q + 2))]) hW rfl rfl rfl (Nat.le_of_ble_eq_true rfl) (Nat.le_of_ble_eq_true rfl) c1 ?_
  refine Zv.go hW2 9999 rfl True.intro ?_
  refine Zv.sc rfl (by omega) hL ?_
  refine Zv.go hW2 9999 rfl True.intro ?_
  refine Zv.sc rfl (by omega) hL ?_
  refine Zv.c0 hW2 rfl rfl (Nat.le_of_ble_eq_true rfl) (Nat.le_of_ble_eq_true rfl) c2 ?_
  exact Zv.qi rfl k
set_option maxRecDepth 100000 in set_option maxHeartbeats 4000000 in theorem l_suits {q : Int} {σ : zSh} {μ : zM} (hL : Ln ≤ 320) (h0 : 0 ≤ q) (ht : q ≤ 100) (hq : 5 * q + 4 < Ln) (h : WS σ μ q) (ih : ∀ σ2 μ2, WS σ2 μ2 (q + 1) → LG Ln xs (q + 1) σ2 μ2) : ∃ hf : xH, hf.length ≤ 5000 ∧ Zv (xext Ln xs) 11 n_L_law 533 [(3, 0), (1000, 0), (1161, 0), (0, 5 * q)] [] σ μ (some (.int 1)) hf := by
  obtain ⟨x, σ2, μ1, μ2, c1, c2, h2⟩ := s_suits (ext := xext Ln xs) h xa_rng xa_rng xa_rng
  obtain ⟨hf, hlen, k⟩ := ih σ2 μ2 h2
  have k := LG.tail h2.1.1 k
  have hW := h.1.1
  have hW2 := h2.1.1
  refine ⟨hf, hlen, ?_⟩
  refine Zv.go hW 9999 rfl True.intro ?_
  refine Zv.sc rfl (by omega) hL ?_
  refine Zv.go hW 9999 rfl True.intro ?_
  refine Zv.sc rfl (by omega) hL ?_
  refine Zv.go hW 9999 rfl True.intro ?_
  refine Zv.sc rfl (by omega) hL ?_
  refine Zv.xc (va := [(0, xa xs (5 * q + 1)), (0, xa xs (5 * q + 2)), (0, xa xs (5 * q + 3))]) hW rfl rfl rfl (Nat.le_of_ble_eq_true rfl) (Nat.le_of_ble_eq_true rfl) c1 ?_
  refine Zv.go hW2 9999 rfl True.intro ?_
  refine Zv.sc rfl (by omega) hL ?_
  refine Zv.go hW2 9999 rfl True.intro ?_
  refine Zv.sc rfl (by omega) hL ?_
  refine Zv.go hW2 9999 rfl True.intro ?_
  refine Zv.sc rfl (by omega) hL ?_
  refine Zv.c0 hW2 rfl rfl (Nat.le_of_ble_eq_true rfl) (Nat.le_of_ble_eq_true rfl) c2 ?_
  exact Zv.qi rfl k
set_option maxRecDepth 100000 in set_option maxHeartbeats 4000000 in theorem l_best {q : Int} {σ : zSh} {μ : zM} (hL : Ln ≤ 320) (h0 : 0 ≤ q) (ht : q ≤ 100) (hq : 5 * q + 4 < Ln) (h : WS σ μ q) (ih : ∀ σ2 μ2, WS σ2 μ2 (q + 1) → LG Ln xs (q + 1) σ2 μ2) : ∃ hf : xH, hf.length ≤ 5000 ∧ Zv (xext Ln xs) 11 n_L_law 576 [(3, 0), (1000, 0), (1161, 0), (0, 5 * q)] [] σ μ (some (.int 1)) hf := by
  obtain ⟨x, σ2, μ1, μ2, c1, c2, h2⟩ := s_best (ext := xext Ln xs) h xa_rng xa_rng
  obtain ⟨hf, hlen, k⟩ := ih σ2 μ2 h2
  have k := LG.tail h2.1.1 k
  have hW := h.1.1
  have hW2 := h2.1.1
  refine ⟨hf, hlen, ?_⟩
  refine Zv.go hW 9999 rfl True.intro ?_
  refine Zv.sc rfl (by omega) hL ?_
  refine Zv.go hW 9999 rfl True.intro ?_
  refine Zv.sc rfl (by omega) hL ?_
  refine Zv.xc (va := [(0, xa xs (5 * q + 1)), (0, xa xs (5 * q + 2))]) hW rfl rfl rfl (Nat.le_of_ble_eq_true rfl) (Nat.le_of_ble_eq_true rfl) c1 ?_
  refine Zv.go hW2 9999 rfl True.intro ?_
  refine Zv.sc rfl (by omega) hL ?_
  refine Zv.go hW2 9999 rfl True.intro ?_
  refine Zv.sc rfl (by omega) hL ?_
  refine Zv.c0 hW2 rfl rfl (Nat.le_of_ble_eq_true rfl) (Nat.le_of_ble_eq_true rfl) c2 ?_
  exact Zv.qi rfl k
set_option maxRecDepth 100000 in set_option maxHeartbeats 4000000 in theorem l_money {q : Int} {σ : zSh} {μ : zM} (hL : Ln ≤ 320) (h0 : 0 ≤ q) (ht : q ≤ 100) (hq : 5 * q + 4 < Ln) (h : WS σ μ q) (ih : ∀ σ2 μ2, WS σ2 μ2 (q + 1) → LG Ln xs (q + 1) σ2 μ2) : ∃ hf : xH, hf.length ≤ 5000 ∧ Zv (xext Ln xs) 11 n_L_law 609 [(3, 0), (1000, 0), (1161, 0), (0, 5 * q)] [] σ μ (some (.int 1)) hf := by
  obtain ⟨x, σ2, μ1, μ2, c1, c2, h2⟩ := s_money (ext := xext Ln xs) h xa_rng
  obtain ⟨hf, hlen, k⟩ := ih σ2 μ2 h2
  have k := LG.tail h2.1.1 k
  have hW := h.1.1
  have hW2 := h2.1.1
  refine ⟨hf, hlen, ?_⟩
  refine Zv.go hW 9999 rfl True.intro ?_
  refine Zv.sc rfl (by omega) hL ?_
  refine Zv.xc (va := [(0, xa xs (5 * q + 1))]) hW rfl rfl rfl (Nat.le_of_ble_eq_true rfl) (Nat.le_of_ble_eq_true rfl) c1 ?_
  refine Zv.go hW2 9999 rfl True.intro ?_
  refine Zv.sc rfl (by omega) hL ?_
  refine Zv.c0 hW2 rfl rfl (Nat.le_of_ble_eq_true rfl) (Nat.le_of_ble_eq_true rfl) c2 ?_
  exact Zv.qi rfl k
set_option maxRecDepth 100000 in set_option maxHeartbeats 4000000 in theorem l_come {q : Int} {σ : zSh} {μ : zM} (hL : Ln ≤ 320) (h0 : 0 ≤ q) (ht : q ≤ 100) (hq : 5 * q + 4 < Ln) (h : WS σ μ q) (ih : ∀ σ2 μ2, WS σ2 μ2 (q + 1) → LG Ln xs (q + 1) σ2 μ2) : ∃ hf : xH, hf.length ≤ 5000 ∧ Zv (xext Ln xs) 11 n_L_law 632 [(3, 0), (1000, 0), (1161, 0), (0, 5 * q)] [] σ μ (some (.int 1)) hf := by
  obtain ⟨x, σ2, μ1, μ2, c1, c2, h2⟩ := s_come (ext := xext Ln xs) h xa_rng xa_rng
  obtain ⟨hf, hlen, k⟩ := ih σ2 μ2 h2
  have k := LG.tail h2.1.1 k
  have hW := h.1.1
  have hW2 := h2.1.1
  refine ⟨hf, hlen, ?_⟩
  refine Zv.go hW 9999 rfl True.intro ?_
  refine Zv.sc rfl (by omega) hL ?_
  refine Zv.go hW 9999 rfl True.intro ?_
  refine Zv.sc rfl (by omega) hL ?_
  refine Zv.xc (va := [(0, xa xs (5 * q + 1)), (0, xa xs (5 * q + 2))]) hW rfl rfl rfl (Nat.le_of_ble_eq_true rfl) (Nat.le_of_ble_eq_true rfl) c1 ?_
  refine Zv.go hW2 9999 rfl True.intro ?_
  refine Zv.sc rfl (by omega) hL ?_
  refine Zv.go hW2 9999 rfl True.intro ?_
  refine Zv.sc rfl (by omega) hL ?_
  refine Zv.c0 hW2 rfl rfl (Nat.le_of_ble_eq_true rfl) (Nat.le_of_ble_eq_true rfl) c2 ?_
  exact Zv.qi rfl k
set_option maxRecDepth 100000 in set_option maxHeartbeats 4000000 in theorem l_more {q : Int} {σ : zSh} {μ : zM} (hL : Ln ≤ 320) (h0 : 0 ≤ q) (ht : q ≤ 100) (hq : 5 * q + 4 < Ln) (h : WS σ μ q) (ih : ∀ σ2 μ2, WS σ2 μ2 (q + 1) → LG Ln xs (q + 1) σ2 μ2) : ∃ hf : xH, hf.length ≤ 5000 ∧ Zv (xext Ln xs) 11 n_L_law 665 [(3, 0), (1000, 0), (1161, 0), (0, 5 * q)] [] σ μ (some (.int 1)) hf := by
  obtain ⟨x, σ2, μ1, μ2, c1, c2, h2⟩ := s_more (ext := xext Ln xs) h xa_rng xa_rng xa_rng xa_rng
  obtain ⟨hf, hlen, k⟩ := ih σ2 μ2 h2
  have k := LG.tail h2.1.1 k
  have hW := h.1.1
  have hW2 := h2.1.1
  refine ⟨hf, hlen, ?_⟩
  refine Zv.go hW 9999 rfl True.intro ?_
  refine Zv.sc rfl (by omega) hL ?_
  refine Zv.go hW 9999 rfl True.intro ?_
  refine Zv.sc rfl (by omega) hL ?_
  refine Zv.go hW 9999 rfl True.intro ?_
  refine Zv.sc rfl (by omega) hL ?_
  refine Zv.go hW 9999 rfl True.intro ?_
  refine Zv.sc rfl (by omega) hL ?_
  refine Zv.xc (va := [(0, xa xs (5 * q + 1)), (0, xa xs (5 * q + 2)), (0, xa xs (5 * q + 3)), (0, xa xs (5 * q + 4))]) hW rfl rfl rfl (Nat.le_of_ble_eq_true rfl) (Nat.le_of_ble_eq_true rfl) c1 ?_
  refine Zv.go hW2 9999 rfl True.intro ?_
  refine Zv.sc rfl (by omega) hL ?_
  refine Zv.go hW2 9999 rfl True.intro ?_
  refine Zv.sc rfl (by omega) hL ?_
  refine Zv.go hW2 9999 rfl True.intro ?_
  refine Zv.sc rfl (by omega) hL ?_
  refine Zv.go hW2 9999 rfl True.intro ?_
  refine Zv.sc rfl (by omega) hL ?_
  refine Zv.c0 hW2 rfl rfl (Nat.le_of_ble_eq_true rfl) (Nat.le_of_ble_eq_true rfl) c2 ?_
  exact Zv.qi rfl k
set_option maxRecDepth 100000 in set_option maxHeartbeats 4000000 in theorem l_changed {q : Int} {σ : zSh} {μ : zM} (hL : Ln ≤ 320) (h0 : 0 ≤ q) (ht : q ≤ 100) (hq : 5 * q + 4 < Ln) (h : WS σ μ q) (ih : ∀ σ2 μ2, WS σ2 μ2 (q + 1) → LG Ln xs (q + 1) σ2 μ2) : ∃ hf : xH, hf.length ≤ 5000 ∧ Zv (xext Ln xs) 11 n_L_law 718 [(3, 0), (1000, 0), (1161, 0), (0, 5 * q)] [] σ μ (some (.int 1)) hf := by
  obtain ⟨x, σ2, μ1, μ2, c1, c2, h2⟩ := s_changed (ext := xext Ln xs) h xa_rng xa_rng
  obtain ⟨hf, hlen, k⟩ := ih σ2 μ2 h2
  have k := LG.tail h2.1.1 k
  have hW := h.1.1
  have hW2 := h2.1.1
  refine ⟨hf, hlen, ?_⟩
  refine Zv.go hW 9999 rfl True.intro ?_
  refine Zv.sc rfl (by omega) hL ?_
  refine Zv.go hW 9999 rfl True.intro ?_
  refine Zv.sc rfl (by omega) hL ?_
  refine Zv.xc (va := [(0, xa xs (5 * q + 1)), (0, xa xs (5 * q + 2))]) hW rfl rfl rfl (Nat.le_of_ble_eq_true rfl) (Nat.le_of_ble_eq_true rfl) c1 ?_
  refine Zv.go hW2 9999 rfl True.intro ?_
  refine Zv.sc rfl (by omega) hL ?_
  refine Zv.go hW2 9999 rfl True.intro ?_
  refine Zv.sc rfl (by omega) hL ?_
  refine Zv.c0 hW2 rfl rfl (Nat.le_of_ble_eq_true rfl) (Nat.le_of_ble_eq_true rfl) c2 ?_
  exact Zv.qi rfl k
set_option maxRecDepth 100000 in set_option maxHeartbeats 4000000 in theorem l_air {q : Int} {σ : zSh} {μ : zM} (hL : Ln ≤ 320) (h0 : 0 ≤ q) (ht : q ≤ 100) (hq : 5 * q + 4 < Ln) (h : WS σ μ q) (ih : ∀ σ2 μ2, WS σ2 μ2 (q + 1) → LG Ln xs (q + 1) σ2 μ2) : ∃ hf : xH, hf.length ≤ 5000 ∧ Zv (xext Ln xs) 11 n_L_law 751 [(3, 0), (1000, 0), (1161, 0), (0, 5 * q)] [] σ μ (some (.int 1)) hf := by
  obtain ⟨x, σ2, μ1, μ2, c1, c2, h2⟩ := s_air (ext := xext Ln xs) h ht xa_rng
  obtain ⟨hf, hlen, k⟩ := ih σ2 μ2 h2
  have k := LG.tail h2.1.1 k
  have hW := h.1.1
  have hW2 := h2.1.1
  refine ⟨hf, hlen, ?_⟩
  refine Zv.go hW 9999 rfl True.intro ?_
  refine Zv.sc rfl (by omega) hL ?_
  refine Zv.xc (va := [(0, xa xs (5 * q + 1))]) hW rfl rfl rfl (Nat.le_of_ble_eq_true rfl) (Nat.le_of_ble_eq_true rfl) c1 ?_
  refine Zv.go hW2 9999 rfl True.intro ?_
  refine Zv.sc rfl (by omega) hL ?_
  refine Zv.c0 hW2 rfl rfl (Nat.le_of_ble_eq_true rfl) (Nat.le_of_ble_eq_true rfl) c2 ?_
  exact Zv.qi rfl k
set_option maxRecDepth 100000 in set_option maxHeartbeats 4000000 in theorem l_bring {q : Int} {σ : zSh} {μ : zM} (hL : Ln ≤ 320) (h0 : 0 ≤ q) (ht : q ≤ 100) (hq : 5 * q + 4 < Ln) (h : WS σ μ q) (ih : ∀ σ2 μ2, WS σ2 μ2 (q + 1) → LG Ln xs (q + 1) σ2 μ2) : ∃ hf : xH, hf.length ≤ 5000 ∧ Zv (xext Ln xs) 11 n_L_law 774 [(3, 0), (1000, 0), (1161, 0), (0, 5 * q)] [] σ μ (some (.int 1)) hf := by
  obtain ⟨x, σ2, μ1, μ2, c1, c2, h2⟩ := s_bring (ext := xext Ln xs) h ht xa_rng xa_rng xa_rng
  obtain ⟨hf, hlen, k⟩ := ih σ2 μ2 h2
  have k := LG.tail h2.1.1 k
  have hW := h.1.1
  have hW2 := h2.1.1
  refine ⟨hf, hlen, ?_⟩
  refine Zv.go hW 9999 rfl True.intro ?_
  refine Zv.sc rfl (by omega) hL ?_
  refine Zv.go hW 9999 rfl True.intro ?_
  refine Zv.sc rfl (by omega) hL ?_
  refine Zv.go hW 9999 rfl True.intro ?_
  refine Zv.sc rfl (by omega) hL ?_
  refine Zv.xc (va := [(0, xa xs (5 * q + 1)), (0, xa xs (5 * q + 2)), (0, xa xs (5 * q + 3))]) hW rfl rfl rfl (Nat.le_of_ble_eq_true rfl) (Nat.le_of_ble_eq_true rfl) c1 ?_
  refine Zv.go hW2 9999 rfl True.intro ?_
  refine Zv.sc rfl (by omega) hL ?_
  refine Zv.go hW2 9999 rfl True.intro ?_
  refine Zv.sc rfl (by omega) hL ?_
  refine Zv.go hW2 9999 rfl True.intro ?_
  refine Zv.sc rfl (by omega) hL ?_
  refine Zv.c0 hW2 rfl rfl (Nat.le_of_ble_eq_true rfl) (Nat.le_of_ble_eq_true rfl) c2 ?_
  exact Zv.qi rfl k
set_option maxRecDepth 100000 in set_option maxHeartbeats 4000000 in theorem l_left {q : Int} {σ : zSh} {μ : zM} (hL : Ln ≤ 320) (h0 : 0 ≤ q) (ht : q ≤ 100) (hq : 5 * q + 4 < Ln) (h : WS σ μ q) (ih : ∀ σ2 μ2, WS σ2 μ2 (q + 1) → LG Ln xs (q + 1) σ2 μ2) : ∃ hf : xH, hf.length ≤ 5000 ∧ Zv (xext Ln xs) 11 n_L_law 817 [(3, 0), (1000, 0), (1161, 0), (0, 5 * q)] [] σ μ (some (.int 1)) hf := by
  obtain ⟨x, σ2, μ1, μ2, c1, c2, h2⟩ := s_left (ext := xext Ln xs) h ht xa_rng xa_rng xa_rng
  obtain ⟨hf, hlen, k⟩ := ih σ2 μ2 h2
  have k := LG.tail h2.1.1 k
  have hW := h.1.1
  have hW2 := h2.1.1
  refine ⟨hf, hlen, ?_⟩
  refine Zv.go hW 9999 rfl True.intro ?_
  refine Zv.sc rfl (by omega) hL ?_
  refine Zv.go hW 9999 rfl True.intro ?_
  refine Zv.sc rfl (by omega) hL ?_
  refine Zv.go hW 9999 rfl True.intro ?_
  refine Zv.sc rfl (by omega) hL ?_
  refine Zv.xc (va := [(0, xa xs (5 * q + 1)), (0, xa xs (5 * q + 2)), (0, xa xs (5 * q + 3))]) hW rfl rfl rfl (Nat.le_of_ble_eq_true rfl) (Nat.le_of_ble_eq_true rfl) c1 ?_
  refine Zv.go hW2 9999 rfl True.intro ?_
  refine Zv.sc rfl (by omega) hL ?_
  refine Zv.go hW2 9999 rfl True.intro ?_
  refine Zv.sc rfl (by omega) hL ?_
  refine Zv.go hW2 9999 rfl True.intro ?_
  refine Zv.sc rfl (by omega) hL ?_
  refine Zv.c0 hW2 rfl rfl (Nat.le_of_ble_eq_true rfl) (Nat.le_of_ble_eq_true rfl) c2 ?_
  exact Zv.qi rfl k
set_option maxRecDepth 100000 in set_option maxHeartbeats 4000000 in theorem l_reading {q : Int} {σ : zSh} {μ : zM} (hL : Ln ≤ 320) (h0 : 0 ≤ q) (ht : q ≤ 100) (hq : 5 * q + 4 < Ln) (h : WS σ μ q) (ih : ∀ σ2 μ2, WS σ2 μ2 (q + 1) → LG Ln xs (q + 1) σ2 μ2) : ∃ hf : xH, hf.length ≤ 5000 ∧ Zv (xext Ln xs) 11 n_L_law 860 [(3, 0), (1000, 0), (1161, 0), (0, 5 * q)] [] σ μ (some (.int 1)) hf := by
  obtain ⟨x, σ2, μ1, μ2, c1, c2, h2⟩ := s_reading (ext := xext Ln xs) h xa_rng xa_rng xa_rng
  obtain ⟨hf, hlen, k⟩ := ih σ2 μ2 h2
  have k := LG.tail h2.1.1 k
  have hW := h.1.1
  have hW2 := h2.1.1
  refine ⟨hf, hlen, ?_⟩
  refine Zv.go hW 9999 rfl True.intro ?_
  refine Zv.sc rfl (by omega) hL ?_
  refine Zv.go hW 9999 rfl True.intro ?_
  refine Zv.sc rfl (by omega) hL ?_
  refine Zv.go hW 9999 rfl True.intro ?_
  refine Zv.sc rfl (by omega) hL ?_
  refine Zv.xc (va := [(0, xa xs (5 * q + 1)), (0, xa xs (5 * q + 2)), (0, xa xs (5 * q + 3))]) hW rfl rfl rfl (Nat.le_of_ble_eq_true rfl) (Nat.le_of_ble_eq_true rfl) c1 ?_
  refine Zv.go hW2 9999 rfl True.intro ?_
  refine Zv.sc rfl (by omega) hL ?_
  refine Zv.go hW2 9999 rfl True.intro ?_
  refine Zv.sc rfl (by omega) hL ?_
  refine Zv.go hW2 9999 rfl True.intro ?_
  refine Zv.sc rfl (by omega) hL ?_
  refine Zv.c0 hW2 rfl rfl (Nat.le_of_ble_eq_true rfl) (Nat.le_of_ble_eq_true rfl) c2 ?_
  exact Zv.qi rfl k
set_option maxRecDepth 100000 in set_option maxHeartbeats 4000000 in theorem l_forget {q : Int} {σ : zSh} {μ : zM} (hL : Ln ≤ 320) (h0 : 0 ≤ q) (ht : q ≤ 100) (hq : 5 * q + 4 < Ln) (h : WS σ μ q) (ih : ∀ σ2 μ2, WS σ2 μ2 (q + 1) → LG Ln xs (q + 1) σ2 μ2) : ∃ hf : xH, hf.length ≤ 5000 ∧ Zv (xext Ln xs) 11 n_L_law 903 [(3, 0), (1000, 0), (1161, 0), (0, 5 * q)] [] σ μ (some (.int 1)) hf := by
  obtain ⟨x, σ2, μ1, μ2, c1, c2, h2⟩ := s_forget (ext := xext Ln xs) h
  obtain ⟨hf, hlen, k⟩ := ih σ2 μ2 h2
  have k := LG.tail h2.1.1 k
  have hW := h.1.1
  have hW2 := h2.1.1
  refine ⟨hf, hlen, ?_⟩
  refine Zv.go hW 9999 rfl True.intro ?_
  refine Zv.xc (va := []) hW rfl rfl rfl (Nat.le_of_ble_eq_true rfl) (Nat.le_of_ble_eq_true rfl) c1 ?_
  refine Zv.go hW2 9999 rfl True.intro ?_
  refine Zv.c0 hW2 rfl rfl (Nat.le_of_ble_eq_true rfl) (Nat.le_of_ble_eq_true rfl) c2 ?_
  exact Zv.qi rfl k
set_option maxRecDepth 100000 in set_option maxHeartbeats 4000000 in theorem l_is {q : Int} {σ : zSh} {μ : zM} (hL : Ln ≤ 320) (h0 : 0 ≤ q) (ht : q ≤ 100) (hq : 5 * q + 4 < Ln) (h : WS σ μ q) (ih : ∀ σ2 μ2, WS σ2 μ2 (q + 1) → LG Ln xs (q + 1) σ2 μ2) : ∃ hf : xH, hf.length ≤ 5000 ∧ Zv (xext Ln xs) 11 n_L_law 916 [(3, 0), (1000, 0), (1161, 0), (0, 5 * q)] [] σ μ (some (.int 1)) hf := by
  obtain ⟨x, σ2, μ1, μ2, c1, c2, h2⟩ := s_is (ext := xext Ln xs) h xa_rng xa_rng
  obtain ⟨hf, hlen, k⟩ := ih σ2 μ2 h2
  have k := LG.tail h2.1.1 k
  have hW := h.1.1
  have hW2 := h2.1.1
  refine ⟨hf, hlen, ?_⟩
  refine Zv.go hW 9999 rfl True.intro ?_
  refine Zv.sc rfl (by omega) hL ?_
  refine Zv.go hW 9999 rfl True.intro ?_
  refine Zv.sc rfl (by omega) hL ?_
  refine Zv.xc (va := [(0, xa xs (5 * q + 1)), (0, xa xs (5 * q + 2))]) hW rfl rfl rfl (Nat.le_of_ble_eq_true rfl) (Nat.le_of_ble_eq_true rfl) c1 ?_
  refine Zv.go hW2 9999 rfl True.intro ?_
  refine Zv.sc rfl (by omega) hL ?_
  refine Zv.go hW2 9999 rfl True.intro ?_
  refine Zv.sc rfl (by omega) hL ?_
  refine Zv.c0 hW2 rfl rfl (Nat.le_of_ble_eq_true rfl) (Nat.le_of_ble_eq_true rfl) c2 ?_
  exact Zv.qi rfl k
set_option maxRecDepth 100000 in set_option maxHeartbeats 4000000 in theorem l_look {q : Int} {σ : zSh} {μ : zM} (hL : Ln ≤ 320) (h0 : 0 ≤ q) (ht : q ≤ 100) (hq : 5 * q + 4 < Ln) (h : WS σ μ q) (ih : ∀ σ2 μ2, WS σ2 μ2 (q + 1) → LG Ln xs (q + 1) σ2 μ2) : ∃ hf : xH, hf.length ≤ 5000 ∧ Zv (xext Ln xs) 11 n_L_law 949 [(3, 0), (1000, 0), (1161, 0), (0, 5 * q)] [] σ μ (some (.int 1)) hf := by
  obtain ⟨x, σ2, μ1, μ2, c1, c2, h2⟩ := s_look (ext := xext Ln xs) h ht xa_rng
  obtain ⟨hf, hlen, k⟩ := ih σ2 μ2 h2
  have k := LG.tail h2.1.1 k
  have hW := h.1.1
  have hW2 := h2.1.1
  refine ⟨hf, hlen, ?_⟩
  refine Zv.go hW 9999 rfl True.intro ?_
  refine Zv.sc rfl (by omega) hL ?_
  refine Zv.xc (va := [(0, xa xs (5 * q + 1))]) hW rfl rfl rfl (Nat.le_of_ble_eq_true rfl) (Nat.le_of_ble_eq_true rfl) c1 ?_
  refine Zv.go hW2 9999 rfl True.intro ?_
  refine Zv.sc rfl (by omega) hL ?_
  refine Zv.c0 hW2 rfl rfl (Nat.le_of_ble_eq_true rfl) (Nat.le_of_ble_eq_true rfl) c2 ?_
  exact Zv.qi rfl k
set_option maxRecDepth 100000 in set_option maxHeartbeats 4000000 in theorem l_odds {q : Int} {σ : zSh} {μ : zM} (hL : Ln ≤ 320) (h0 : 0 ≤ q) (ht : q ≤ 100) (hq : 5 * q + 4 < Ln) (h : WS σ μ q) (ih : ∀ σ2 μ2, WS σ2 μ2 (q + 1) → LG Ln xs (q + 1) σ2 μ2) : ∃ hf : xH, hf.length ≤ 5000 ∧ Zv (xext Ln xs) 11 n_L_law 972 [(3, 0), (1000, 0), (1161, 0), (0, 5 * q)] [] σ μ (some (.int 1)) hf := by
  obtain ⟨x, σ2, μ1, μ2, c1, c2, h2⟩ := s_odds (ext := xext Ln xs) h ht xa_rng
  obtain ⟨hf, hlen, k⟩ := ih σ2 μ2 h2
  have k := LG.tail h2.1.1 k
  have hW := h.1.1
  have hW2 := h2.1.1
  refine ⟨hf, hlen, ?_⟩
  refine Zv.go hW 9999 rfl True.intro ?_
  refine Zv.sc rfl (by omega) hL ?_
  refine Zv.xc (va := [(0, xa xs (5 * q + 1))]) hW rfl rfl rfl (Nat.le_of_ble_eq_true rfl) (Nat.le_of_ble_eq_true rfl) c1 ?_
  refine Zv.go hW2 9999 rfl True.intro ?_
  refine Zv.sc rfl (by omega) hL ?_
  refine Zv.c0 hW2 rfl rfl (Nat.le_of_ble_eq_true rfl) (Nat.le_of_ble_eq_true rfl) c2 ?_
  exact Zv.qi rfl k
set_option maxRecDepth 100000 in set_option maxHeartbeats 4000000 in theorem l_drawn {q : Int} {σ : zSh} {μ : zM} (hL : Ln ≤ 320) (h0 : 0 ≤ q) (ht : q ≤ 100) (hq : 5 * q + 4 < Ln) (h : WS σ μ q) (ih : ∀ σ2 μ2, WS σ2 μ2 (q + 1) → LG Ln xs (q + 1) σ2 μ2) : ∃ hf : xH, hf.length ≤ 5000 ∧ Zv (xext Ln xs) 11 n_L_law 995 [(3, 0), (1000, 0), (1161, 0), (0, 5 * q)] [] σ μ (some (.int 1)) hf := by
  obtain ⟨x, σ2, μ1, μ2, c1, c2, h2⟩ := s_drawn (ext := xext Ln xs) h ht xa_rng xa_rng xa_rng
  obtain ⟨hf, hlen, k⟩ := ih σ2 μ2 h2
  have k := LG.tail h2.1.1 k
  have hW := h.1.1
  have hW2 := h2.1.1
  refine ⟨hf, hlen, ?_⟩
  refine Zv.go hW 9999 rfl True.intro ?_
  refine Zv.sc rfl (by omega) hL ?_
  refine Zv.go hW 9999 rfl True.intro ?_
  refine Zv.sc rfl (by omega) hL ?_
  refine Zv.go hW 9999 rfl True.intro ?_
  refine Zv.sc rfl (by omega) hL ?_
  refine Zv.xc (va := [(0, xa xs (5 * q + 1)), (0, xa xs (5 * q + 2)), (0, xa xs (5 * q + 3))]) hW rfl rfl rfl (Nat.le_of_ble_eq_true rfl) (Nat.le_of_ble_eq_true rfl) c1 ?_
  refine Zv.go hW2 9999 rfl True.intro ?_
  refine Zv.sc rfl (by omega) hL ?_
  refine Zv.go hW2 9999 rfl True.intro ?_
  refine Zv.sc rfl (by omega) hL ?_
  refine Zv.go hW2 9999 rfl True.intro ?_
  refine Zv.sc rfl (by omega) hL ?_
  refine Zv.c0 hW2 rfl rfl (Nat.le_of_ble_eq_true rfl) (Nat.le_of_ble_eq_true rfl) c2 ?_
  exact Zv.qi rfl k
set_option maxRecDepth 100000 in set_option maxHeartbeats 4000000 in theorem l_part {q : Int} {σ : zSh} {μ : zM} (hL : Ln ≤ 320) (h0 : 0 ≤ q) (ht : q ≤ 100) (hq : 5 * q + 4 < Ln) (h : WS σ μ q) (ih : ∀ σ2 μ2, WS σ2 μ2 (q + 1) → LG Ln xs (q + 1) σ2 μ2) : ∃ hf : xH, hf.length ≤ 5000 ∧ Zv (xext Ln xs) 11 n_L_law 1038 [(3, 0), (1000, 0), (1161, 0), (0, 5 * q)] [] σ μ (some (.int 1)) hf := by
  obtain ⟨x, σ2, μ1, μ2, c1, c2, h2⟩ := s_part (ext := xext Ln xs) h xa_rng
  obtain ⟨hf, hlen, k⟩ := ih σ2 μ2 h2
  have k := LG.tail h2.1.1 k
  have hW := h.1.1
  have hW2 := h2.1.1
  refine ⟨hf, hlen, ?_⟩
  refine Zv.go hW 9999 rfl True.intro ?_
  refine Zv.sc rfl (by omega) hL ?_
  refine Zv.xc (va := [(0, xa xs (5 * q + 1))]) hW rfl rfl rfl (Nat.le_of_ble_eq_true rfl) (Nat.le_of_ble_eq_true rfl) c1 ?_
  refine Zv.go hW2 9999 rfl True.intro ?_
  refine Zv.sc rfl (by omega) hL ?_
  refine Zv.c0 hW2 rfl rfl (Nat.le_of_ble_eq_true rfl) (Nat.le_of_ble_eq_true rfl) c2 ?_
  exact Zv.ql rfl rfl k
set_option maxRecDepth 100000 in set_option maxHeartbeats 4000000 in theorem l_image {q : Int} {σ : zSh} {μ : zM} (hL : Ln ≤ 320) (h0 : 0 ≤ q) (ht : q ≤ 100) (hq : 5 * q + 4 < Ln) (h : WS σ μ q) (ih : ∀ σ2 μ2, WS σ2 μ2 (q + 1) → LG Ln xs (q + 1) σ2 μ2) : ∃ hf : xH, hf.length ≤ 5000 ∧ Zv (xext Ln xs) 11 n_L_law 1062 [(3, 0), (1000, 0), (1161, 0), (0, 5 * q)] [] σ μ (some (.int 1)) hf := by
  obtain ⟨x, σ2, μ1, μ2, c1, c2, h2⟩ := s_image (ext := xext Ln xs) h xa_rng
  obtain ⟨hf, hlen, k⟩ := ih σ2 μ2 h2
  have k := LG.tail h2.1.1 k
  have hW := h.1.1
  have hW2 := h2.1.1
  refine ⟨hf, hlen, ?_⟩
  refine Zv.go hW 9999 rfl True.intro ?_
  refine Zv.sc rfl (by omega) hL ?_
  refine Zv.xc (va := [(0, xa xs (5 * q + 1))]) hW rfl rfl rfl (Nat.le_of_ble_eq_true rfl) (Nat.le_of_ble_eq_true rfl) c1 ?_
  refine Zv.go hW2 9999 rfl True.intro ?_
  refine Zv.sc rfl (by omega) hL ?_
  refine Zv.c0 hW2 rfl rfl (Nat.le_of_ble_eq_true rfl) (Nat.le_of_ble_eq_true rfl) c2 ?_
  exact Zv.qi rfl k
set_option maxRecDepth 100000 in set_option maxHeartbeats 4000000 in theorem l_from {q : Int} {σ : zSh} {μ : zM} (hL : Ln ≤ 320) (h0 : 0 ≤ q) (ht : q ≤ 100) (hq : 5 * q + 4 < Ln) (h : WS σ μ q) (ih : ∀ σ2 μ2, WS σ2 μ2 (q + 1) → LG Ln xs (q + 1) σ2 μ2) : ∃ hf : xH, hf.length ≤ 5000 ∧ Zv (xext Ln xs) 11 n_L_law 1085 [(3, 0), (1000, 0), (1161, 0), (0, 5 * q)] [] σ μ (some (.int 1)) hf := by
  obtain ⟨x, σ2, μ1, μ2, c1, c2, h2⟩ := s_from (ext := xext Ln xs) h xa_rng
  obtain ⟨hf, hlen, k⟩ := ih σ2 μ2 h2
  have k := LG.tail h2.1.1 k
  have hW := h.1.1
  have hW2 := h2.1.1
  refine ⟨hf, hlen, ?_⟩
  refine Zv.go hW 9999 rfl True.intro ?_
  refine Zv.sc rfl (by omega) hL ?_
  refine Zv.xc (va := [(0, xa xs (5 * q + 1))]) hW rfl rfl rfl (Nat.le_of_ble_eq_true rfl) (Nat.le_of_ble_eq_true rfl) c1 ?_
  refine Zv.go hW2 9999 rfl True.intro ?_
  refine Zv.sc rfl (by omega) hL ?_
  refine Zv.c0 hW2 rfl rfl (Nat.le_of_ble_eq_true rfl) (Nat.le_of_ble_eq_true rfl) c2 ?_
  exact Zv.qi rfl k
set_option maxRecDepth 100000 in set_option maxHeartbeats 4000000 in theorem l_status {q : Int} {σ : zSh} {μ : zM} (hL : Ln ≤ 320) (h0 : 0 ≤ q) (ht : q ≤ 100) (hq : 5 * q + 4 < Ln) (h : WS σ μ q) (ih : ∀ σ2 μ2, WS σ2 μ2 (q + 1) → LG Ln xs (q + 1) σ2 μ2) : ∃ hf : xH, hf.length ≤ 5000 ∧ Zv (xext Ln xs) 11 n_L_law 1108 [(3, 0), (1000, 0), (1161, 0), (0, 5 * q)] [] σ μ (some (.int 1)) hf := by
  obtain ⟨x, σ2, μ1, μ2, c1, c2, h2⟩ := s_status (ext := xext Ln xs) h xa_rng
  obtain ⟨hf, hlen, k⟩ := ih σ2 μ2 h2
  have k := LG.tail h2.1.1 k
  have hW := h.1.1
  have hW2 := h2.1.1
  refine ⟨hf, hlen, ?_⟩
  refine Zv.go hW 9999 rfl True.intro ?_
  refine Zv.sc rfl (by omega) hL ?_
  refine Zv.xc (va := [(0, xa xs (5 * q + 1))]) hW rfl rfl rfl (Nat.le_of_ble_eq_true rfl) (Nat.le_of_ble_eq_true rfl) c1 ?_
  refine Zv.go hW2 9999 rfl True.intro ?_
  refine Zv.sc rfl (by omega) hL ?_
  refine Zv.c0 hW2 rfl rfl (Nat.le_of_ble_eq_true rfl) (Nat.le_of_ble_eq_true rfl) c2 ?_
  exact Zv.qi rfl k
set_option maxRecDepth 100000 in set_option maxHeartbeats 4000000 in theorem l_count {q : Int} {σ : zSh} {μ : zM} (hL : Ln ≤ 320) (h0 : 0 ≤ q) (ht : q ≤ 100) (hq : 5 * q + 4 < Ln) (h : WS σ μ q) (ih : ∀ σ2 μ2, WS σ2 μ2 (q + 1) → LG Ln xs (q + 1) σ2 μ2) : ∃ hf : xH, hf.length ≤ 5000 ∧ Zv (xext Ln xs) 11 n_L_law 1131 [(3, 0), (1000, 0), (1161, 0), (0, 5 * q)] [] σ μ (some (.int 1)) hf := by
  obtain ⟨x, σ2, μ1, μ2, c1, c2, h2⟩ := s_count (ext := xext Ln xs) h xa_rng
  obtain ⟨hf, hlen, k⟩ := ih σ2 μ2 h2
  have k := LG.tail h2.1.1 k
  have hW := h.1.1
  have hW2 := h2.1.1
  refine ⟨hf, hlen, ?_⟩
  refine Zv.go hW 9999 rfl True.intro ?_
  refine Zv.sc rfl (by omega) hL ?_
  refine Zv.xc (va := [(0, xa xs (5 * q + 1))]) hW rfl rfl rfl (Nat.le_of_ble_eq_true rfl) (Nat.le_of_ble_eq_true rfl) c1 ?_
  refine Zv.go hW2 9999 rfl True.intro ?_
  refine Zv.sc rfl (by omega) hL ?_
  refine Zv.c0 hW2 rfl rfl (Nat.le_of_ble_eq_true rfl) (Nat.le_of_ble_eq_true rfl) c2 ?_
  exact Zv.qi rfl k
set_option maxRecDepth 100000 in set_option maxHeartbeats 4000000 in theorem l_digest {q : Int} {σ : zSh} {μ : zM} (hL : Ln ≤ 320) (h0 : 0 ≤ q) (ht : q ≤ 100) (hq : 5 * q + 4 < Ln) (h : WS σ μ q) (ih : ∀ σ2 μ2, WS σ2 μ2 (q + 1) → LG Ln xs (q + 1) σ2 μ2) : ∃ hf : xH, hf.length ≤ 5000 ∧ Zv (xext Ln xs) 11 n_L_law 1154 [(3, 0), (1000, 0), (1161, 0), (0, 5 * q)] [] σ μ (some (.int 1)) hf := by
  obtain ⟨x, σ2, μ1, μ2, c1, c2, h2⟩ := s_digest (ext := xext Ln xs) h ⟨h0, ht⟩
  obtain ⟨hf, hlen, k⟩ := ih σ2 μ2 h2
  have k := LG.tail h2.1.1 k
  have hW := h.1.1
  have hW2 := h2.1.1
  refine ⟨hf, hlen, ?_⟩
  refine Zv.go hW 9999 rfl True.intro ?_
  refine Zv.xc (va := []) hW rfl rfl rfl (Nat.le_of_ble_eq_true rfl) (Nat.le_of_ble_eq_true rfl) c1 ?_
  refine Zv.go hW2 9999 rfl True.intro ?_
  refine Zv.c0 hW2 rfl rfl (Nat.le_of_ble_eq_true rfl) (Nat.le_of_ble_eq_true rfl) c2 ?_
  exact Zv.ql rfl rfl k
set_option maxRecDepth 100000 in set_option maxHeartbeats 4000000 in theorem law_loop (hL : Ln ≤ 320) : ∀ (m : Nat) (q : Int) (σ : zSh) (μ : zM), 0 ≤ q → q + m = 65 → WS σ μ q → LG Ln xs q σ μ := by
  intro m
  induction m with
  | zero =>
    intro q σ μ h0 hm h
    have hW := h.1.1
    have hlen : (hz σ μ).length ≤ 5000 := by
      rw [hz_len]
      have hI : IL σ μ := h.2.2.2.2.2.2.2.2.1
      unfold IL at hI
      omega
    refine ⟨hz σ μ, hlen, ?_⟩
    refine Zv.go hW 9999 rfl (by repeat' first | exact True.intro | assumption | apply And.intro | omega | (simp (disch := omega) only [up_n, up_e]; omega)) ?_
    refine Zv.sl rfl ?_
    refine Zv.go hW 9999 rfl (by repeat' first | exact True.intro | assumption | apply And.intro | omega | (simp (disch := omega) only [up_n, up_e]; omega)) ?_
    refine Zv.b rfl (by omega) (by omega) ?_ ?_ <;> intro g1
    · refine Zv.go hW 9999 rfl (by repeat' first | exact True.intro | assumption | apply And.intro | omega | (simp (disch := omega) only [up_n, up_e]; omega)) ?_
      exact Ev.r rfl rfl
    · omega
  | succ m ih =>
    intro q σ μ h0 hm h
    have hW := h.1.1
    have hlen : (hz σ μ).length ≤ 5000 := by
      rw [hz_len]
      have hI : IL σ μ := h.2.2.2.2.2.2.2.2.1
      unfold IL at hI
      omega
    by_cases hq : 5 * q + 4 < Ln
    · have ih2 : ∀ σ2 μ2, WS σ2 μ2 (q + 1) → LG Ln xs (q + 1) σ2 μ2 := fun σ2 μ2 h2 => ih (q + 1) σ2 μ2 (by omega) (by omega) h2
      have hs := z63 (xa xs (5 * q))
      have main : ∀ s, zand (xa xs (5 * q)) 63 = s → ∃ hf : xH, hf.length ≤ 5000 ∧ Zv (xext Ln xs) 11 n_L_law 32 [(3, 0), (1000, 0), (1161, 0), (0, 5 * q)] [(0, s)] σ μ (some (.int 1)) hf := by
        intro s es
        rw [es] at hs
        by_cases h34 : 33 < s
        · obtain ⟨hf, hl, k⟩ := ih2 σ μ (h.same (fun _ _ _ => rfl))
          refine ⟨hf, hl, Zv.ts rfl (by omega) (if_pos (by omega)) (LG.tail hW k)⟩
        · rcases (by omega : s = 0 ∨ s = 1 ∨ s = 2 ∨ s = 3 ∨ s = 4 ∨ s = 5 ∨ s = 6 ∨ s = 7 ∨ s = 8 ∨ s = 9 ∨ s = 10 ∨ s = 11 ∨ s = 12 ∨ s = 13 ∨ s = 14 ∨ s = 15 ∨ s = 16 ∨ s = 17 ∨ s = 18 ∨ s = 19 ∨ s = 20 ∨ s = 21 ∨ s = 22 ∨ s = 23 ∨ s = 24 ∨ s = 25 ∨ s = 26 ∨ s = 27 ∨ s = 28 ∨ s = 29 ∨ s = 30 ∨ s = 31 ∨ s = 32 ∨ s = 33) with rfl | rfl | rfl | rfl | rfl | rfl | rfl | rfl | rfl | rfl | rfl | rfl | rfl | rfl | rfl | rfl | rfl | rfl | rfl | rfl | rfl | rfl | rfl | rfl | rfl | rfl | rfl | rfl | rfl | rfl | rfl | rfl | rfl | rfl
          · obtain ⟨hf, hl, k⟩ := l_shop hL h0 (by omega) hq h ih2
            exact ⟨hf, hl, Zv.ts rfl (by omega) rfl k⟩
          · obtain ⟨hf, hl, k⟩ := l_view hL h0 (by omega) hq h ih2
            exact ⟨hf, hl, Zv.ts rfl (by omega) rfl k⟩
          · obtain ⟨hf, hl, k⟩ := l_renter hL h0 (by omega) hq h ih2
            exact ⟨hf, hl, Zv.ts rfl (by omega) rfl k⟩
          · obtain ⟨hf, hl, k⟩ := l_things hL h0 (by omega) hq h ih2
            exact ⟨hf, hl, Zv.ts rfl (by omega) rfl k⟩
          · obtain ⟨hf, hl, k⟩ := l_type hL h0 (by omega) hq h ih2
            exact ⟨hf, hl, Zv.ts rfl (by omega) rfl k⟩
          · obtain ⟨hf, hl, k⟩ := l_clear hL h0 (by omega) hq h ih2
            exact ⟨hf, hl, Zv.ts rfl (by omega) rfl k⟩
          · obtain ⟨hf, hl, k⟩ := l_read hL h0 (by omega) hq h ih2
            exact ⟨hf, hl, Zv.ts rfl (by omega) rfl k⟩
          · obtain ⟨hf, hl, k⟩ := l_let hL h0 (by omega) hq h ih2
            exact ⟨hf, hl, Zv.ts rfl (by omega) rfl k⟩
          · obtain ⟨hf, hl, k⟩ := l_night hL h0 (by omega) hq h ih2
            exact ⟨hf, hl, Zv.ts rfl (by omega) rfl k⟩
          · obtain ⟨hf, hl, k⟩ := l_undo hL h0 (by omega) hq h ih2
            exact ⟨hf, hl, Zv.ts rfl (by omega) rfl k⟩
          · obtain ⟨hf, hl, k⟩ := l_of hL h0 (by omega) hq h ih2
            exact ⟨hf, hl, Zv.ts rfl (by omega) rfl k⟩
          · obtain ⟨hf, hl, k⟩ := l_about hL h0 (by omega) hq h ih2
            exact ⟨hf, hl, Zv.ts rfl (by omega) rfl k⟩
          · obtain ⟨hf, hl, k⟩ := l_shows hL h0 (by omega) hq h ih2
            exact ⟨hf, hl, Zv.ts rfl (by omega) rfl k⟩
          · obtain ⟨hf, hl, k⟩ := l_suits hL h0 (by omega) hq h ih2
            exact ⟨hf, hl, Zv.ts rfl (by omega) rfl k⟩
          · obtain ⟨hf, hl, k⟩ := l_best hL h0 (by omega) hq h ih2
            exact ⟨hf, hl, Zv.ts rfl (by omega) rfl k⟩
          · obtain ⟨hf, hl, k⟩ := l_money hL h0 (by omega) hq h ih2
            exact ⟨hf, hl, Zv.ts rfl (by omega) rfl k⟩
          · obtain ⟨hf, hl, k⟩ := l_come hL h0 (by omega) hq h ih2
            exact ⟨hf, hl, Zv.ts rfl (by omega) rfl k⟩
          · obtain ⟨hf, hl, k⟩ := l_more hL h0 (by omega) hq h ih2
            exact ⟨hf, hl, Zv.ts rfl (by omega) rfl k⟩
          · obtain ⟨hf, hl, k⟩ := l_changed hL h0 (by omega) hq h ih2
            exact ⟨hf, hl, Zv.ts rfl (by omega) rfl k⟩
          · obtain ⟨hf, hl, k⟩ := l_air hL h0 (by omega) hq h ih2
            exact ⟨hf, hl, Zv.ts rfl (by omega) rfl k⟩
          · obtain ⟨hf, hl, k⟩ := l_bring hL h0 (by omega) hq h ih2
            exact ⟨hf, hl, Zv.ts rfl (by omega) rfl k⟩
          · obtain ⟨hf, hl, k⟩ := l_left hL h0 (by omega) hq h ih2
            exact ⟨hf, hl, Zv.ts rfl (by omega) rfl k⟩
          · obtain ⟨hf, hl, k⟩ := l_reading hL h0 (by omega) hq h ih2
            exact ⟨hf, hl, Zv.ts rfl (by omega) rfl k⟩
          · obtain ⟨hf, hl, k⟩ := l_forget hL h0 (by omega) hq h ih2
            exact ⟨hf, hl, Zv.ts rfl (by omega) rfl k⟩
          · obtain ⟨hf, hl, k⟩ := l_is hL h0 (by omega) hq h ih2
            exact ⟨hf, hl, Zv.ts rfl (by omega) rfl k⟩
          · obtain ⟨hf, hl, k⟩ := l_look hL h0 (by omega) hq h ih2
            exact ⟨hf, hl, Zv.ts rfl (by omega) rfl k⟩
          · obtain ⟨hf, hl, k⟩ := l_odds hL h0 (by omega) hq h ih2
            exact ⟨hf, hl, Zv.ts rfl (by omega) rfl k⟩
          · obtain ⟨hf, hl, k⟩ := l_drawn hL h0 (by omega) hq h ih2
            exact ⟨hf, hl, Zv.ts rfl (by omega) rfl k⟩
          · obtain ⟨hf, hl, k⟩ := l_part hL h0 (by omega) hq h ih2
            exact ⟨hf, hl, Zv.ts rfl (by omega) rfl k⟩
          · obtain ⟨hf, hl, k⟩ := l_image hL h0 (by omega) hq h ih2
            exact ⟨hf, hl, Zv.ts rfl (by omega) rfl k⟩
          · obtain ⟨hf, hl, k⟩ := l_from hL h0 (by omega) hq h ih2
            exact ⟨hf, hl, Zv.ts rfl (by omega) rfl k⟩
          · obtain ⟨hf, hl, k⟩ := l_status hL h0 (by omega) hq h ih2
            exact ⟨hf, hl, Zv.ts rfl (by omega) rfl k⟩
          · obtain ⟨hf, hl, k⟩ := l_count hL h0 (by omega) hq h ih2
            exact ⟨hf, hl, Zv.ts rfl (by omega) rfl k⟩
          · obtain ⟨hf, hl, k⟩ := l_digest hL h0 (by omega) hq h ih2
            exact ⟨hf, hl, Zv.ts rfl (by omega) rfl k⟩
      obtain ⟨hf, hl, k⟩ := main _ rfl
      refine ⟨hf, hl, ?_⟩
      refine Zv.go hW 9999 rfl (by repeat' first | exact True.intro | assumption | apply And.intro | omega | (simp (disch := omega) only [up_n, up_e]; omega)) ?_
      refine Zv.sl rfl ?_
      refine Zv.go hW 9999 rfl (by repeat' first | exact True.intro | assumption | apply And.intro | omega | (simp (disch := omega) only [up_n, up_e]; omega)) ?_
      refine Zv.b rfl (by omega) (by omega) ?_ ?_ <;> intro g1
      · omega
      · refine Zv.go hW 9999 rfl (by repeat' first | exact True.intro | assumption | apply And.intro | omega | (simp (disch := omega) only [up_n, up_e]; omega)) ?_
        refine Zv.sc rfl (by omega) hL ?_
        refine Zv.go hW 9999 rfl (by repeat' first | exact True.intro | assumption | apply And.intro | omega | (simp (disch := omega) only [up_n, up_e]; omega)) ?_
        exact k
    · refine ⟨hz σ μ, hlen, ?_⟩
      refine Zv.go hW 9999 rfl (by repeat' first | exact True.intro | assumption | apply And.intro | omega | (simp (disch := omega) only [up_n, up_e]; omega)) ?_
      refine Zv.sl rfl ?_
      refine Zv.go hW 9999 rfl (by repeat' first | exact True.intro | assumption | apply And.intro | omega | (simp (disch := omega) only [up_n, up_e]; omega)) ?_
      refine Zv.b rfl (by omega) (by omega) ?_ ?_ <;> intro g1
      · refine Zv.go hW 9999 rfl (by repeat' first | exact True.intro | assumption | apply And.intro | omega | (simp (disch := omega) only [up_n, up_e]; omega)) ?_
        exact Ev.r rfl rfl
      · omega
end
