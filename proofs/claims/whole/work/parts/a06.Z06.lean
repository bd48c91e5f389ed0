theorem mget {L : List V} {k : Nat} {v : V} (h : L[k]? = some v) : (L.map vv)[k]? = some (vv v) := by rw [List.getElem?_map, h]; rfl
theorem zs_ok {ext : List xC} {σ : zSh} {d nx : Nat} {ins : Instr} {info : List Nat} {L st : List V} {μ : zM} {oc : Option Prop} {pc' : Nat} {L' st' : List V} {μ' : zM} (hW : Wl σ) (e : zs σ d ins nx info L st μ = some (oc, pc', L', st', μ')) (hc : ∀ c, oc = some c → c) :
    xs ext d ins nx info (L.map vv) (st.map vv) (hz σ μ) = some (pc', L'.map vv, st'.map vv, hz σ μ') := by
  cases ins with
  | iconst n => cases e; rfl
  | bipush n =>
    obtain ⟨hb, e⟩ := zcond e
    cases e
    rw [xs_bipush, z_sm8 hb]
    rfl
  | sipush n =>
    obtain ⟨hb, e⟩ := zcond e
    cases e
    rw [xs_sipush, z_sm16 hb]
    rfl
  | lconst n =>
    match n, e with
    | ⟨0, _⟩, e => cases e; rfl
    | ⟨1, _⟩, e => cases e; rfl
  | ldc _ =>
    simp only [zs] at e
    split at e
    · cases e
      rw [xs_ldc]
      show some (nx, L.map vv, Value.int (Int32.ofNat _) :: _, _) = some (nx, L.map vv, Value.int (Int32.ofInt _) :: _, _)
      rw [Int32_ofInt_nat]
    · cases e
      rfl
    · exact xno e
  | ldc_w _ =>
    simp only [zs] at e
    split at e
    · cases e
      rw [xs_ldc_w]
      show some (nx, L.map vv, Value.int (Int32.ofNat _) :: _, _) = some (nx, L.map vv, Value.int (Int32.ofInt _) :: _, _)
      rw [Int32_ofInt_nat]
    · exact xno e
  | ldc2_w _ =>
    simp only [zs] at e
    split at e
    · cases e
      rw [xs_ldc2_w]
      show some (nx, L.map vv, Value.long (Int64.ofNat _) :: _, _) = some (nx, L.map vv, Value.long (Int64.ofInt _) :: _, _)
      rw [Int64.ofInt_eq_ofNat]
    · exact xno e
  | iload_n k =>
    simp only [zs] at e
    split at e
    · rename_i h
      cases e
      rw [xs_iload_n, mget h]
      rfl
    · exact xno e
  | iload k =>
    simp only [zs] at e
    split at e
    · rename_i h
      cases e
      rw [xs_iload, mget h]
      rfl
    · exact xno e
  | lload_n k =>
    simp only [zs] at e
    split at e
    · rename_i h
      cases e
      rw [xs_lload_n, mget h]
      rfl
    · exact xno e
  | lload k =>
    simp only [zs] at e
    split at e
    · rename_i h
      cases e
      rw [xs_lload, mget h]
      rfl
    · exact xno e
  | aload_n k =>
    simp only [zs] at e
    split at e
    · rename_i h
      cases e
      rw [xs_aload_n, mget h]
      rfl
    · rename_i h
      obtain ⟨rg, ct, ln, md, o, sl, hf, e⟩ := zf_some e
      cases e
      rw [xs_aload_n, mget h, List.map_cons, vv_r hf]
    · exact xno e
  | aload k =>
    simp only [zs] at e
    split at e
    · rename_i h
      obtain ⟨rg, ct, ln, md, o, sl, hf, e⟩ := zf_some e
      cases e
      rw [xs_aload, mget h, List.map_cons, vv_r hf]
    · exact xno e
  | istore_n k =>
    obtain ⟨x, r, rfl, e⟩ := zi1_some e
    obtain ⟨L1, e, hs⟩ := zst1_some e
    cases e
    rw [xs_istore_n]
    show (xst1 (L.map vv) k.val (vv (0, x))).bind _ = _
    rw [hs]
    rfl
  | istore k =>
    obtain ⟨x, r, rfl, e⟩ := zi1_some e
    obtain ⟨L1, e, hs⟩ := zst1_some e
    cases e
    rw [xs_istore]
    show (xst1 (L.map vv) k (vv (0, x))).bind _ = _
    rw [hs]
    rfl
  | lstore_n k =>
    obtain ⟨x, r, rfl, e⟩ := zl1_some e
    obtain ⟨L1, e, hs⟩ := zst2_some e
    cases e
    rw [xs_lstore_n]
    show (xst2 (L.map vv) k.val (vv (1, x))).bind _ = _
    rw [hs]
    rfl
  | lstore k =>
    obtain ⟨x, r, rfl, e⟩ := zl1_some e
    obtain ⟨L1, e, hs⟩ := zst2_some e
    cases e
    rw [xs_lstore]
    show (xst2 (L.map vv) k (vv (1, x))).bind _ = _
    rw [hs]
    rfl
  | astore_n k =>
    obtain ⟨t, x, r, rfl, e⟩ := zr1_some e
    obtain ⟨rg, ct, ln, md, o, sl, hf, e⟩ := zf_some e
    obtain ⟨L1, e, hs⟩ := zst1_some e
    cases e
    rw [xs_astore_n, List.map_cons]
    rw [vv_r hf] at hs ⊢
    show (xst1 (L.map vv) k.val _).bind _ = _
    rw [hs]
    rfl
  | astore k =>
    obtain ⟨t, x, r, rfl, e⟩ := zr1_some e
    obtain ⟨rg, ct, ln, md, o, sl, hf, e⟩ := zf_some e
    obtain ⟨L1, e, hs⟩ := zst1_some e
    cases e
    rw [xs_astore, List.map_cons]
    rw [vv_r hf] at hs ⊢
    show (xst1 (L.map vv) k _).bind _ = _
    rw [hs]
    rfl
  | iinc k n =>
    simp only [zs] at e
    split at e
    · rename_i x h
      obtain ⟨L1, e, hs⟩ := zst1_some e
      cases e
      rw [xs_iinc, mget h]
      show (xst1 (L.map vv) k (.int (Int32.ofInt x + Int32.ofInt n))).bind _ = _
      rw [← Int32.ofInt_add]
      show (xst1 (L.map vv) k (vv (0, x + n))).bind _ = _
      rw [hs]
      rfl
    · exact xno e
  | iadd =>
    obtain ⟨x, y, r, rfl, e⟩ := zi2_some e
    cases e
    show some (nx, L.map vv, Value.int (Int32.ofInt x + Int32.ofInt y) :: r.map vv, hz σ μ) = _
    rw [← Int32.ofInt_add]
    rfl
  | isub =>
    obtain ⟨x, y, r, rfl, e⟩ := zi2_some e
    cases e
    show some (nx, L.map vv, Value.int (Int32.ofInt x - Int32.ofInt y) :: r.map vv, hz σ μ) = _
    rw [← Int32.ofInt_sub]
    rfl
  | imul =>
    obtain ⟨x, y, r, rfl, e⟩ := zi2_some e
    cases e
    show some (nx, L.map vv, Value.int (Int32.ofInt x * Int32.ofInt y) :: r.map vv, hz σ μ) = _
    rw [← Int32.ofInt_mul]
    rfl
  | idiv =>
    obtain ⟨x, y, r, rfl, e⟩ := zi2_some e
    cases e
    have h := hc _ rfl
    show (if Int32.ofInt y = 0 then none else some (nx, L.map vv, Value.int (Int32.ofInt x / Int32.ofInt y) :: r.map vv, hz σ μ)) = _
    rw [if_neg (z_ne0 h.2.2.1 h.2.2.2), z_div h]
    rfl
  | irem =>
    obtain ⟨x, y, r, rfl, e⟩ := zi2_some e
    cases e
    have h := hc _ rfl
    show (if Int32.ofInt y = 0 then none else some (nx, L.map vv, Value.int (Int32.ofInt x - Int32.ofInt x / Int32.ofInt y * Int32.ofInt y) :: r.map vv, hz σ μ)) = _
    rw [if_neg (z_ne0 h.2.2.1 h.2.2.2), z_rem h]
    rfl
  | iand =>
    obtain ⟨x, y, r, rfl, e⟩ := zi2_some e
    cases e
    show some (nx, L.map vv, Value.int _ :: r.map vv, hz σ μ) = some (nx, L.map vv, Value.int (Int32.ofInt (zand x y)) :: r.map vv, hz σ μ)
    unfold zand
    rw [z_bk]
  | ior =>
    obtain ⟨x, y, r, rfl, e⟩ := zi2_some e
    cases e
    show some (nx, L.map vv, Value.int _ :: r.map vv, hz σ μ) = some (nx, L.map vv, Value.int (Int32.ofInt (zor x y)) :: r.map vv, hz σ μ)
    unfold zor
    rw [z_bk]
  | ixor =>
    obtain ⟨x, y, r, rfl, e⟩ := zi2_some e
    cases e
    show some (nx, L.map vv, Value.int _ :: r.map vv, hz σ μ) = some (nx, L.map vv, Value.int (Int32.ofInt (zxor x y)) :: r.map vv, hz σ μ)
    unfold zxor
    rw [z_bk]
  | ishl =>
    obtain ⟨x, y, r, rfl, e⟩ := zi2_some e
    cases e
    show some (nx, L.map vv, Value.int _ :: r.map vv, hz σ μ) = some (nx, L.map vv, Value.int (Int32.ofInt (zshl x y)) :: r.map vv, hz σ μ)
    unfold zshl
    rw [z_bk]
  | ishr =>
    obtain ⟨x, y, r, rfl, e⟩ := zi2_some e
    cases e
    show some (nx, L.map vv, Value.int _ :: r.map vv, hz σ μ) = some (nx, L.map vv, Value.int (Int32.ofInt (zshr x y)) :: r.map vv, hz σ μ)
    unfold zshr
    rw [z_bk]
  | ladd =>
    obtain ⟨x, y, r, rfl, e⟩ := zl2_some e
    cases e
    show some (nx, L.map vv, Value.long (Int64.ofInt x + Int64.ofInt y) :: r.map vv, hz σ μ) = _
    rw [← Int64.ofInt_add]
    rfl
  | lmul =>
    obtain ⟨x, y, r, rfl, e⟩ := zl2_some e
    cases e
    show some (nx, L.map vv, Value.long (Int64.ofInt x * Int64.ofInt y) :: r.map vv, hz σ μ) = _
    rw [← Int64.ofInt_mul]
    rfl
  | ldiv =>
    obtain ⟨x, y, r, rfl, e⟩ := zl2_some e
    cases e
    have h := hc _ rfl
    show (if Int64.ofInt y = 0 then none else some (nx, L.map vv, Value.long (Int64.ofInt x / Int64.ofInt y) :: r.map vv, hz σ μ)) = _
    rw [if_neg (z_lne0 h.2.2.1 h.2.2.2), z_ldiv h]
    rfl
  | lrem =>
    obtain ⟨x, y, r, rfl, e⟩ := zl2_some e
    cases e
    have h := hc _ rfl
    show (if Int64.ofInt y = 0 then none else some (nx, L.map vv, Value.long (Int64.ofInt x - Int64.ofInt x / Int64.ofInt y * Int64.ofInt y) :: r.map vv, hz σ μ)) = _
    rw [if_neg (z_lne0 h.2.2.1 h.2.2.2), z_lrem h]
    rfl
  | lcmp =>
    obtain ⟨x, y, r, rfl, e⟩ := zl2_some e
    cases e
    have h := hc _ rfl
    show some (nx, L.map vv, Value.int (lg_cmp (Int64.ofInt x) (Int64.ofInt y)) :: r.map vv, hz σ μ) = _
    rw [z_cmp h]
    rfl
  | i2l =>
    obtain ⟨x, r, rfl, e⟩ := zi1_some e
    cases e
    show some (nx, L.map vv, Value.long (Int32.ofInt x).toInt64 :: r.map vv, hz σ μ) = _
    rw [z_i2l (hc _ rfl)]
    rfl
  | i2b =>
    obtain ⟨x, r, rfl, e⟩ := zi1_some e
    cases e
    show some (nx, L.map vv, Value.int (Int32.ofInt x).toInt8.toInt32 :: r.map vv, hz σ μ) = _
    rw [z_i2b (hc _ rfl)]
    rfl
  | dup =>
    simp only [zs] at e
    split at e
    · cases e
      rfl
    · obtain ⟨rg, ct, ln, md, o, sl, hf, e⟩ := zf_some e
      cases e
      rw [xs_dup, List.map_cons, List.map_cons, List.map_cons, vv_r hf]
    · exact xno e
  | dup2 =>
    simp only [zs] at e
    split at e
    · obtain ⟨rg, ct, ln, md, o, sl, hf, e⟩ := zf_some e
      cases e
      rw [xs_dup2, List.map_cons, List.map_cons, List.map_cons, List.map_cons, List.map_cons, List.map_cons, vv_r hf]
      rfl
    · exact xno e
  | pop =>
    obtain ⟨x, r, rfl, e⟩ := zi1_some e
    cases e
    rfl
  | goto o =>
    simp only [zs] at e
    split at e
    · cases e
      rfl
    · exact xno e
  | getfield idx => exact zs_gf hW e hc
  | putfield idx => exact zs_pf hW e hc
  | iaload => exact zs_ia hW e hc
  | baload => exact zs_ba hW e hc
  | aaload => exact zs_aa hW e hc
  | iastore => exact zs_is hW e hc
  | bastore => exact zs_bs hW e hc
  | aastore => exact zs_as hW e hc
  | arraylength => exact zs_al hW e hc
  | invokestatic idx => exact zs_cp hW e hc
  | _ => exact xno e
