/-! Every simple instruction together; the cells only grow. -/
theorem xM_iconst {ext : List xC} {d nx : Nat} {info : List Nat} {L st : List Value} {h : xH} {n : Int} {w : Nat × List Value × List Value × xH} (hs : xs ext d (.iconst n) nx info L st h = some w) : h.length ≤ w.2.2.2.length := by
  rw [xs_iconst] at hs
  obtain rfl := xyes hs
  exact Nat.le_refl _
theorem xM_bipush {ext : List xC} {d nx : Nat} {info : List Nat} {L st : List Value} {h : xH} {n : Int} {w : Nat × List Value × List Value × xH} (hs : xs ext d (.bipush n) nx info L st h = some w) : h.length ≤ w.2.2.2.length := by
  rw [xs_bipush] at hs
  obtain rfl := xyes hs
  exact Nat.le_refl _
theorem xM_sipush {ext : List xC} {d nx : Nat} {info : List Nat} {L st : List Value} {h : xH} {n : Int} {w : Nat × List Value × List Value × xH} (hs : xs ext d (.sipush n) nx info L st h = some w) : h.length ≤ w.2.2.2.length := by
  rw [xs_sipush] at hs
  obtain rfl := xyes hs
  exact Nat.le_refl _
theorem xM_lconst {ext : List xC} {d nx : Nat} {info : List Nat} {L st : List Value} {h : xH} {n : Fin 2} {w : Nat × List Value × List Value × xH} (hs : xs ext d (.lconst n) nx info L st h = some w) : h.length ≤ w.2.2.2.length := by
  rw [xs_lconst] at hs
  obtain rfl := xyes hs
  exact Nat.le_refl _
theorem xM_ldc {ext : List xC} {d nx : Nat} {info : List Nat} {L st : List Value} {h : xH} {idx : Nat} {w : Nat × List Value × List Value × xH} (hs : xs ext d (.ldc idx) nx info L st h = some w) : h.length ≤ w.2.2.2.length := by
  rw [xs_ldc] at hs
  split at hs
  · obtain rfl := xyes hs
    exact Nat.le_refl _
  · obtain rfl := xyes hs
    exact Nat.le_refl _
  · exact xno hs
theorem xM_ldc_w {ext : List xC} {d nx : Nat} {info : List Nat} {L st : List Value} {h : xH} {idx : Nat} {w : Nat × List Value × List Value × xH} (hs : xs ext d (.ldc_w idx) nx info L st h = some w) : h.length ≤ w.2.2.2.length := by
  rw [xs_ldc_w] at hs
  split at hs
  · obtain rfl := xyes hs
    exact Nat.le_refl _
  · exact xno hs
theorem xM_ldc2_w {ext : List xC} {d nx : Nat} {info : List Nat} {L st : List Value} {h : xH} {idx : Nat} {w : Nat × List Value × List Value × xH} (hs : xs ext d (.ldc2_w idx) nx info L st h = some w) : h.length ≤ w.2.2.2.length := by
  rw [xs_ldc2_w] at hs
  split at hs
  · obtain rfl := xyes hs
    exact Nat.le_refl _
  · exact xno hs
theorem xM_iload_n {ext : List xC} {d nx : Nat} {info : List Nat} {L st : List Value} {h : xH} {k : Fin 4} {w : Nat × List Value × List Value × xH} (hs : xs ext d (.iload_n k) nx info L st h = some w) : h.length ≤ w.2.2.2.length := by
  rw [xs_iload_n] at hs
  split at hs
  · obtain rfl := xyes hs
    exact Nat.le_refl _
  · exact xno hs
theorem xM_iload {ext : List xC} {d nx : Nat} {info : List Nat} {L st : List Value} {h : xH} {k : Nat} {w : Nat × List Value × List Value × xH} (hs : xs ext d (.iload k) nx info L st h = some w) : h.length ≤ w.2.2.2.length := by
  rw [xs_iload] at hs
  split at hs
  · obtain rfl := xyes hs
    exact Nat.le_refl _
  · exact xno hs
theorem xM_lload_n {ext : List xC} {d nx : Nat} {info : List Nat} {L st : List Value} {h : xH} {k : Fin 4} {w : Nat × List Value × List Value × xH} (hs : xs ext d (.lload_n k) nx info L st h = some w) : h.length ≤ w.2.2.2.length := by
  rw [xs_lload_n] at hs
  split at hs
  · obtain rfl := xyes hs
    exact Nat.le_refl _
  · exact xno hs
theorem xM_lload {ext : List xC} {d nx : Nat} {info : List Nat} {L st : List Value} {h : xH} {k : Nat} {w : Nat × List Value × List Value × xH} (hs : xs ext d (.lload k) nx info L st h = some w) : h.length ≤ w.2.2.2.length := by
  rw [xs_lload] at hs
  split at hs
  · obtain rfl := xyes hs
    exact Nat.le_refl _
  · exact xno hs
theorem xM_aload_n {ext : List xC} {d nx : Nat} {info : List Nat} {L st : List Value} {h : xH} {k : Fin 4} {w : Nat × List Value × List Value × xH} (hs : xs ext d (.aload_n k) nx info L st h = some w) : h.length ≤ w.2.2.2.length := by
  rw [xs_aload_n] at hs
  split at hs
  · obtain rfl := xyes hs
    exact Nat.le_refl _
  · obtain rfl := xyes hs
    exact Nat.le_refl _
  · exact xno hs
theorem xM_aload {ext : List xC} {d nx : Nat} {info : List Nat} {L st : List Value} {h : xH} {k : Nat} {w : Nat × List Value × List Value × xH} (hs : xs ext d (.aload k) nx info L st h = some w) : h.length ≤ w.2.2.2.length := by
  rw [xs_aload] at hs
  split at hs
  · obtain rfl := xyes hs
    exact Nat.le_refl _
  · exact xno hs
theorem xM_istore_n {ext : List xC} {d nx : Nat} {info : List Nat} {L st : List Value} {h : xH} {k : Fin 4} {w : Nat × List Value × List Value × xH} (hs : xs ext d (.istore_n k) nx info L st h = some w) : h.length ≤ w.2.2.2.length := by
  rw [xs_istore_n] at hs
  split at hs
  · obtain ⟨_, _, hs⟩ := Option.bind_eq_some_iff.mp hs
    obtain rfl := xyes hs
    exact Nat.le_refl _
  · exact xno hs
theorem xM_istore {ext : List xC} {d nx : Nat} {info : List Nat} {L st : List Value} {h : xH} {k : Nat} {w : Nat × List Value × List Value × xH} (hs : xs ext d (.istore k) nx info L st h = some w) : h.length ≤ w.2.2.2.length := by
  rw [xs_istore] at hs
  split at hs
  · obtain ⟨_, _, hs⟩ := Option.bind_eq_some_iff.mp hs
    obtain rfl := xyes hs
    exact Nat.le_refl _
  · exact xno hs
theorem xM_lstore_n {ext : List xC} {d nx : Nat} {info : List Nat} {L st : List Value} {h : xH} {k : Fin 4} {w : Nat × List Value × List Value × xH} (hs : xs ext d (.lstore_n k) nx info L st h = some w) : h.length ≤ w.2.2.2.length := by
  rw [xs_lstore_n] at hs
  split at hs
  · obtain ⟨_, _, hs⟩ := Option.bind_eq_some_iff.mp hs
    obtain rfl := xyes hs
    exact Nat.le_refl _
  · exact xno hs
theorem xM_lstore {ext : List xC} {d nx : Nat} {info : List Nat} {L st : List Value} {h : xH} {k : Nat} {w : Nat × List Value × List Value × xH} (hs : xs ext d (.lstore k) nx info L st h = some w) : h.length ≤ w.2.2.2.length := by
  rw [xs_lstore] at hs
  split at hs
  · obtain ⟨_, _, hs⟩ := Option.bind_eq_some_iff.mp hs
    obtain rfl := xyes hs
    exact Nat.le_refl _
  · exact xno hs
theorem xM_astore_n {ext : List xC} {d nx : Nat} {info : List Nat} {L st : List Value} {h : xH} {k : Fin 4} {w : Nat × List Value × List Value × xH} (hs : xs ext d (.astore_n k) nx info L st h = some w) : h.length ≤ w.2.2.2.length := by
  rw [xs_astore_n] at hs
  split at hs
  · obtain ⟨_, _, hs⟩ := Option.bind_eq_some_iff.mp hs
    obtain rfl := xyes hs
    exact Nat.le_refl _
  · exact xno hs
theorem xM_astore {ext : List xC} {d nx : Nat} {info : List Nat} {L st : List Value} {h : xH} {k : Nat} {w : Nat × List Value × List Value × xH} (hs : xs ext d (.astore k) nx info L st h = some w) : h.length ≤ w.2.2.2.length := by
  rw [xs_astore] at hs
  split at hs
  · obtain ⟨_, _, hs⟩ := Option.bind_eq_some_iff.mp hs
    obtain rfl := xyes hs
    exact Nat.le_refl _
  · exact xno hs
theorem xM_iinc {ext : List xC} {d nx : Nat} {info : List Nat} {L st : List Value} {h : xH} {k : Nat} {n : Int} {w : Nat × List Value × List Value × xH} (hs : xs ext d (.iinc k n) nx info L st h = some w) : h.length ≤ w.2.2.2.length := by
  rw [xs_iinc] at hs
  split at hs
  · obtain ⟨_, _, hs⟩ := Option.bind_eq_some_iff.mp hs
    obtain rfl := xyes hs
    exact Nat.le_refl _
  · exact xno hs
theorem xM_iadd {ext : List xC} {d nx : Nat} {info : List Nat} {L st : List Value} {h : xH}  {w : Nat × List Value × List Value × xH} (hs : xs ext d .iadd nx info L st h = some w) : h.length ≤ w.2.2.2.length := by
  rw [xs_iadd] at hs
  split at hs
  · obtain rfl := xyes hs
    exact Nat.le_refl _
  · exact xno hs
theorem xM_isub {ext : List xC} {d nx : Nat} {info : List Nat} {L st : List Value} {h : xH}  {w : Nat × List Value × List Value × xH} (hs : xs ext d .isub nx info L st h = some w) : h.length ≤ w.2.2.2.length := by
  rw [xs_isub] at hs
  split at hs
  · obtain rfl := xyes hs
    exact Nat.le_refl _
  · exact xno hs
theorem xM_imul {ext : List xC} {d nx : Nat} {info : List Nat} {L st : List Value} {h : xH}  {w : Nat × List Value × List Value × xH} (hs : xs ext d .imul nx info L st h = some w) : h.length ≤ w.2.2.2.length := by
  rw [xs_imul] at hs
  split at hs
  · obtain rfl := xyes hs
    exact Nat.le_refl _
  · exact xno hs
theorem xM_idiv {ext : List xC} {d nx : Nat} {info : List Nat} {L st : List Value} {h : xH}  {w : Nat × List Value × List Value × xH} (hs : xs ext d .idiv nx info L st h = some w) : h.length ≤ w.2.2.2.length := by
  rw [xs_idiv] at hs
  split at hs
  · split at hs
    · exact xno hs
    · obtain rfl := xyes hs
      exact Nat.le_refl _
  · exact xno hs
theorem xM_irem {ext : List xC} {d nx : Nat} {info : List Nat} {L st : List Value} {h : xH}  {w : Nat × List Value × List Value × xH} (hs : xs ext d .irem nx info L st h = some w) : h.length ≤ w.2.2.2.length := by
  rw [xs_irem] at hs
  split at hs
  · split at hs
    · exact xno hs
    · obtain rfl := xyes hs
      exact Nat.le_refl _
  · exact xno hs
theorem xM_iand {ext : List xC} {d nx : Nat} {info : List Nat} {L st : List Value} {h : xH}  {w : Nat × List Value × List Value × xH} (hs : xs ext d .iand nx info L st h = some w) : h.length ≤ w.2.2.2.length := by
  rw [xs_iand] at hs
  split at hs
  · obtain rfl := xyes hs
    exact Nat.le_refl _
  · exact xno hs
theorem xM_ior {ext : List xC} {d nx : Nat} {info : List Nat} {L st : List Value} {h : xH}  {w : Nat × List Value × List Value × xH} (hs : xs ext d .ior nx info L st h = some w) : h.length ≤ w.2.2.2.length := by
  rw [xs_ior] at hs
  split at hs
  · obtain rfl := xyes hs
    exact Nat.le_refl _
  · exact xno hs
theorem xM_ixor {ext : List xC} {d nx : Nat} {info : List Nat} {L st : List Value} {h : xH}  {w : Nat × List Value × List Value × xH} (hs : xs ext d .ixor nx info L st h = some w) : h.length ≤ w.2.2.2.length := by
  rw [xs_ixor] at hs
  split at hs
  · obtain rfl := xyes hs
    exact Nat.le_refl _
  · exact xno hs
theorem xM_ishl {ext : List xC} {d nx : Nat} {info : List Nat} {L st : List Value} {h : xH}  {w : Nat × List Value × List Value × xH} (hs : xs ext d .ishl nx info L st h = some w) : h.length ≤ w.2.2.2.length := by
  rw [xs_ishl] at hs
  split at hs
  · obtain rfl := xyes hs
    exact Nat.le_refl _
  · exact xno hs
theorem xM_ishr {ext : List xC} {d nx : Nat} {info : List Nat} {L st : List Value} {h : xH}  {w : Nat × List Value × List Value × xH} (hs : xs ext d .ishr nx info L st h = some w) : h.length ≤ w.2.2.2.length := by
  rw [xs_ishr] at hs
  split at hs
  · obtain rfl := xyes hs
    exact Nat.le_refl _
  · exact xno hs
theorem xM_ladd {ext : List xC} {d nx : Nat} {info : List Nat} {L st : List Value} {h : xH}  {w : Nat × List Value × List Value × xH} (hs : xs ext d .ladd nx info L st h = some w) : h.length ≤ w.2.2.2.length := by
  rw [xs_ladd] at hs
  split at hs
  · obtain rfl := xyes hs
    exact Nat.le_refl _
  · exact xno hs
theorem xM_lmul {ext : List xC} {d nx : Nat} {info : List Nat} {L st : List Value} {h : xH}  {w : Nat × List Value × List Value × xH} (hs : xs ext d .lmul nx info L st h = some w) : h.length ≤ w.2.2.2.length := by
  rw [xs_lmul] at hs
  split at hs
  · obtain rfl := xyes hs
    exact Nat.le_refl _
  · exact xno hs
theorem xM_ldiv {ext : List xC} {d nx : Nat} {info : List Nat} {L st : List Value} {h : xH}  {w : Nat × List Value × List Value × xH} (hs : xs ext d .ldiv nx info L st h = some w) : h.length ≤ w.2.2.2.length := by
  rw [xs_ldiv] at hs
  split at hs
  · split at hs
    · exact xno hs
    · obtain rfl := xyes hs
      exact Nat.le_refl _
  · exact xno hs
theorem xM_lrem {ext : List xC} {d nx : Nat} {info : List Nat} {L st : List Value} {h : xH}  {w : Nat × List Value × List Value × xH} (hs : xs ext d .lrem nx info L st h = some w) : h.length ≤ w.2.2.2.length := by
  rw [xs_lrem] at hs
  split at hs
  · split at hs
    · exact xno hs
    · obtain rfl := xyes hs
      exact Nat.le_refl _
  · exact xno hs
theorem xM_lcmp {ext : List xC} {d nx : Nat} {info : List Nat} {L st : List Value} {h : xH}  {w : Nat × List Value × List Value × xH} (hs : xs ext d .lcmp nx info L st h = some w) : h.length ≤ w.2.2.2.length := by
  rw [xs_lcmp] at hs
  split at hs
  · obtain rfl := xyes hs
    exact Nat.le_refl _
  · exact xno hs
theorem xM_i2l {ext : List xC} {d nx : Nat} {info : List Nat} {L st : List Value} {h : xH}  {w : Nat × List Value × List Value × xH} (hs : xs ext d .i2l nx info L st h = some w) : h.length ≤ w.2.2.2.length := by
  rw [xs_i2l] at hs
  split at hs
  · obtain rfl := xyes hs
    exact Nat.le_refl _
  · exact xno hs
theorem xM_i2b {ext : List xC} {d nx : Nat} {info : List Nat} {L st : List Value} {h : xH}  {w : Nat × List Value × List Value × xH} (hs : xs ext d .i2b nx info L st h = some w) : h.length ≤ w.2.2.2.length := by
  rw [xs_i2b] at hs
  split at hs
  · obtain rfl := xyes hs
    exact Nat.le_refl _
  · exact xno hs
theorem xM_i2c {ext : List xC} {d nx : Nat} {info : List Nat} {L st : List Value} {h : xH}  {w : Nat × List Value × List Value × xH} (hs : xs ext d .i2c nx info L st h = some w) : h.length ≤ w.2.2.2.length := by
  rw [xs_i2c] at hs
  split at hs
  · obtain rfl := xyes hs
    exact Nat.le_refl _
  · exact xno hs
theorem xM_dup {ext : List xC} {d nx : Nat} {info : List Nat} {L st : List Value} {h : xH}  {w : Nat × List Value × List Value × xH} (hs : xs ext d .dup nx info L st h = some w) : h.length ≤ w.2.2.2.length := by
  rw [xs_dup] at hs
  split at hs
  · obtain rfl := xyes hs
    exact Nat.le_refl _
  · obtain rfl := xyes hs
    exact Nat.le_refl _
  · exact xno hs
theorem xM_dup2 {ext : List xC} {d nx : Nat} {info : List Nat} {L st : List Value} {h : xH}  {w : Nat × List Value × List Value × xH} (hs : xs ext d .dup2 nx info L st h = some w) : h.length ≤ w.2.2.2.length := by
  rw [xs_dup2] at hs
  split at hs
  · obtain rfl := xyes hs
    exact Nat.le_refl _
  · exact xno hs
theorem xM_pop {ext : List xC} {d nx : Nat} {info : List Nat} {L st : List Value} {h : xH}  {w : Nat × List Value × List Value × xH} (hs : xs ext d .pop nx info L st h = some w) : h.length ≤ w.2.2.2.length := by
  rw [xs_pop] at hs
  split at hs
  · obtain rfl := xyes hs
    exact Nat.le_refl _
  · exact xno hs
theorem xM_goto {ext : List xC} {d nx : Nat} {info : List Nat} {L st : List Value} {h : xH} {o : Int} {w : Nat × List Value × List Value × xH} (hs : xs ext d (.goto o) nx info L st h = some w) : h.length ≤ w.2.2.2.length := by
  rw [xs_goto] at hs
  split at hs
  · obtain rfl := xyes hs
    exact Nat.le_refl _
  · exact xno hs
theorem xM_if_icmp {ext : List xC} {d nx : Nat} {info : List Nat} {L st : List Value} {h : xH} {cd : Jvm.ClassFile.Cond} {o : Int} {w : Nat × List Value × List Value × xH} (hs : xs ext d (.if_icmp cd o) nx info L st h = some w) : h.length ≤ w.2.2.2.length := by
  rw [xs_if_icmp] at hs
  split at hs
  · obtain rfl := xyes hs
    exact Nat.le_refl _
  · exact xno hs
theorem xM_ifCond {ext : List xC} {d nx : Nat} {info : List Nat} {L st : List Value} {h : xH} {cd : Jvm.ClassFile.Cond} {o : Int} {w : Nat × List Value × List Value × xH} (hs : xs ext d (.ifCond cd o) nx info L st h = some w) : h.length ≤ w.2.2.2.length := by
  rw [xs_ifCond] at hs
  split at hs
  · obtain rfl := xyes hs
    exact Nat.le_refl _
  · exact xno hs
theorem xM_ifnonnull {ext : List xC} {d nx : Nat} {info : List Nat} {L st : List Value} {h : xH} {o : Int} {w : Nat × List Value × List Value × xH} (hs : xs ext d (.ifnonnull o) nx info L st h = some w) : h.length ≤ w.2.2.2.length := by
  rw [xs_ifnonnull] at hs
  split at hs
  · obtain rfl := xyes hs
    exact Nat.le_refl _
  · obtain rfl := xyes hs
    exact Nat.le_refl _
  · exact xno hs
theorem xM_tableswitch {ext : List xC} {d nx : Nat} {info : List Nat} {L st : List Value} {h : xH} {dt lo hi : Int} {os : Array Int} {w : Nat × List Value × List Value × xH} (hs : xs ext d (.tableswitch dt lo hi os) nx info L st h = some w) : h.length ≤ w.2.2.2.length := by
  rw [xs_tableswitch] at hs
  split at hs
  · split at hs
    · obtain rfl := xyes hs
      exact Nat.le_refl _
    · obtain ⟨_, _, hs⟩ := Option.bind_eq_some_iff.mp hs
      obtain rfl := xyes hs
      exact Nat.le_refl _
  · exact xno hs
theorem xM_lookupswitch {ext : List xC} {d nx : Nat} {info : List Nat} {L st : List Value} {h : xH} {dt : Int} {prs : Array (Int × Int)} {w : Nat × List Value × List Value × xH} (hs : xs ext d (.lookupswitch dt prs) nx info L st h = some w) : h.length ≤ w.2.2.2.length := by
  rw [xs_lookupswitch] at hs
  split at hs
  · obtain rfl := xyes hs
    exact Nat.le_refl _
  · exact xno hs
theorem xM_getfield {ext : List xC} {d nx : Nat} {info : List Nat} {L st : List Value} {h : xH} {idx : Nat} {w : Nat × List Value × List Value × xH} (hs : xs ext d (.getfield idx) nx info L st h = some w) : h.length ≤ w.2.2.2.length := by
  rw [xs_getfield] at hs
  split at hs
  · obtain ⟨_, _, hs⟩ := Option.bind_eq_some_iff.mp hs
    obtain ⟨_, hs⟩ := xcond hs
    obtain ⟨_, _, hs⟩ := Option.bind_eq_some_iff.mp hs
    obtain rfl := xyes hs
    exact Nat.le_refl _
  · exact xno hs
theorem xM_putfield {ext : List xC} {d nx : Nat} {info : List Nat} {L st : List Value} {h : xH} {idx : Nat} {w : Nat × List Value × List Value × xH} (hs : xs ext d (.putfield idx) nx info L st h = some w) : h.length ≤ w.2.2.2.length := by
  rw [xs_putfield] at hs
  split at hs
  · obtain ⟨_, _, hs⟩ := Option.bind_eq_some_iff.mp hs
    obtain ⟨_, hs⟩ := xcond hs
    obtain rfl := xyes hs
    exact Nat.le_of_eq List.length_set.symm
  · exact xno hs
theorem xM_iaload {ext : List xC} {d nx : Nat} {info : List Nat} {L st : List Value} {h : xH}  {w : Nat × List Value × List Value × xH} (hs : xs ext d .iaload nx info L st h = some w) : h.length ≤ w.2.2.2.length := by
  rw [xs_iaload] at hs
  split at hs
  · obtain ⟨_, _, hs⟩ := Option.bind_eq_some_iff.mp hs
    obtain ⟨_, hs⟩ := xcond hs
    obtain ⟨_, _, hs⟩ := Option.bind_eq_some_iff.mp hs
    obtain rfl := xyes hs
    exact Nat.le_refl _
  · exact xno hs
theorem xM_baload {ext : List xC} {d nx : Nat} {info : List Nat} {L st : List Value} {h : xH}  {w : Nat × List Value × List Value × xH} (hs : xs ext d .baload nx info L st h = some w) : h.length ≤ w.2.2.2.length := by
  rw [xs_baload] at hs
  split at hs
  · obtain ⟨_, _, hs⟩ := Option.bind_eq_some_iff.mp hs
    obtain ⟨_, hs⟩ := xcond hs
    obtain ⟨_, _, hs⟩ := Option.bind_eq_some_iff.mp hs
    obtain rfl := xyes hs
    exact Nat.le_refl _
  · exact xno hs
theorem xM_aaload {ext : List xC} {d nx : Nat} {info : List Nat} {L st : List Value} {h : xH}  {w : Nat × List Value × List Value × xH} (hs : xs ext d .aaload nx info L st h = some w) : h.length ≤ w.2.2.2.length := by
  rw [xs_aaload] at hs
  split at hs
  · obtain ⟨_, _, hs⟩ := Option.bind_eq_some_iff.mp hs
    obtain ⟨_, hs⟩ := xcond hs
    obtain ⟨_, _, hs⟩ := Option.bind_eq_some_iff.mp hs
    obtain rfl := xyes hs
    exact Nat.le_refl _
  · exact xno hs
theorem xM_iastore {ext : List xC} {d nx : Nat} {info : List Nat} {L st : List Value} {h : xH}  {w : Nat × List Value × List Value × xH} (hs : xs ext d .iastore nx info L st h = some w) : h.length ≤ w.2.2.2.length := by
  rw [xs_iastore] at hs
  split at hs
  · obtain ⟨_, _, hs⟩ := Option.bind_eq_some_iff.mp hs
    obtain ⟨_, hs⟩ := xcond hs
    obtain ⟨_, _, hs⟩ := Option.bind_eq_some_iff.mp hs
    obtain rfl := xyes hs
    exact Nat.le_of_eq List.length_set.symm
  · exact xno hs
theorem xM_bastore {ext : List xC} {d nx : Nat} {info : List Nat} {L st : List Value} {h : xH}  {w : Nat × List Value × List Value × xH} (hs : xs ext d .bastore nx info L st h = some w) : h.length ≤ w.2.2.2.length := by
  rw [xs_bastore] at hs
  split at hs
  · obtain ⟨_, _, hs⟩ := Option.bind_eq_some_iff.mp hs
    obtain ⟨_, hs⟩ := xcond hs
    obtain ⟨_, _, hs⟩ := Option.bind_eq_some_iff.mp hs
    obtain rfl := xyes hs
    exact Nat.le_of_eq List.length_set.symm
  · exact xno hs
theorem xM_aastore {ext : List xC} {d nx : Nat} {info : List Nat} {L st : List Value} {h : xH}  {w : Nat × List Value × List Value × xH} (hs : xs ext d .aastore nx info L st h = some w) : h.length ≤ w.2.2.2.length := by
  rw [xs_aastore] at hs
  split at hs
  · obtain ⟨_, _, hs⟩ := Option.bind_eq_some_iff.mp hs
    obtain ⟨_, _, hs⟩ := Option.bind_eq_some_iff.mp hs
    obtain ⟨_, hs⟩ := xcond hs
    obtain ⟨_, _, hs⟩ := Option.bind_eq_some_iff.mp hs
    obtain rfl := xyes hs
    exact Nat.le_of_eq List.length_set.symm
  · exact xno hs
theorem xM_arraylength {ext : List xC} {d nx : Nat} {info : List Nat} {L st : List Value} {h : xH}  {w : Nat × List Value × List Value × xH} (hs : xs ext d .arraylength nx info L st h = some w) : h.length ≤ w.2.2.2.length := by
  rw [xs_arraylength] at hs
  split at hs
  · obtain ⟨_, _, hs⟩ := Option.bind_eq_some_iff.mp hs
    obtain ⟨_, hs⟩ := xcond hs
    obtain rfl := xyes hs
    exact Nat.le_refl _
  · exact xno hs
theorem xM_new {ext : List xC} {d nx : Nat} {info : List Nat} {L st : List Value} {h : xH} {idx : Nat} {w : Nat × List Value × List Value × xH} (hs : xs ext d (.new idx) nx info L st h = some w) : h.length ≤ w.2.2.2.length := by
  rw [xs_new] at hs
  split at hs
  · obtain ⟨h9, ha, hs⟩ := Option.bind_eq_some_iff.mp hs
    obtain rfl := xyes hs
    have e9 := (xadd_of ha).2.2
    subst e9
    exact Nat.le_trans (Nat.le_add_right _ _) (Nat.le_of_eq List.length_append.symm)
  · exact xno hs
theorem xM_newarray {ext : List xC} {d nx : Nat} {info : List Nat} {L st : List Value} {h : xH} {at9 : ArrayType} {w : Nat × List Value × List Value × xH} (hs : xs ext d (.newarray at9) nx info L st h = some w) : h.length ≤ w.2.2.2.length := by
  rw [xs_newarray] at hs
  split at hs
  · split at hs
    · exact xno hs
    · obtain ⟨h9, ha, hs⟩ := Option.bind_eq_some_iff.mp hs
      obtain rfl := xyes hs
      have e9 := (xadd_of ha).2.2
      subst e9
      exact Nat.le_trans (Nat.le_add_right _ _) (Nat.le_of_eq List.length_append.symm)
  · exact xno hs
theorem xM_anewarray {ext : List xC} {d nx : Nat} {info : List Nat} {L st : List Value} {h : xH} {idx : Nat} {w : Nat × List Value × List Value × xH} (hs : xs ext d (.anewarray idx) nx info L st h = some w) : h.length ≤ w.2.2.2.length := by
  rw [xs_anewarray] at hs
  split at hs
  · split at hs
    · exact xno hs
    · obtain ⟨h9, ha, hs⟩ := Option.bind_eq_some_iff.mp hs
      obtain rfl := xyes hs
      have e9 := (xadd_of ha).2.2
      subst e9
      exact Nat.le_trans (Nat.le_add_right _ _) (Nat.le_of_eq List.length_append.symm)
  · exact xno hs
theorem xM_multianewarray {ext : List xC} {d nx : Nat} {info : List Nat} {L st : List Value} {h : xH} {idx dm : Nat} {w : Nat × List Value × List Value × xH} (hs : xs ext d (.multianewarray idx dm) nx info L st h = some w) : h.length ≤ w.2.2.2.length := by
  rw [xs_multianewarray] at hs
  split at hs
  · split at hs
    · exact xno hs
    · obtain rfl := xyes hs
      exact Nat.le_trans (Nat.le_add_right _ _) (Nat.le_of_eq List.length_append.symm)
  · exact xno hs
theorem xM_getstatic {ext : List xC} {d nx : Nat} {info : List Nat} {L st : List Value} {h : xH} {idx : Nat} {w : Nat × List Value × List Value × xH} (hs : xs ext d (.getstatic idx) nx info L st h = some w) : h.length ≤ w.2.2.2.length := by
  rw [xs_getstatic] at hs
  split at hs
  · obtain rfl := xyes hs
    exact Nat.le_refl _
  · obtain rfl := xyes hs
    exact Nat.le_refl _
  · exact xno hs
theorem xM_invokestatic {ext : List xC} {d nx : Nat} {info : List Nat} {L st : List Value} {h : xH} {idx : Nat} {w : Nat × List Value × List Value × xH} (hs : xs ext d (.invokestatic idx) nx info L st h = some w) : h.length ≤ w.2.2.2.length := by
  rw [xs_invokestatic] at hs
  split at hs
  · obtain ⟨_, _, hs⟩ := Option.bind_eq_some_iff.mp hs
    obtain ⟨_, _, hs⟩ := Option.bind_eq_some_iff.mp hs
    split at hs
    · exact xno hs
    · obtain rfl := xyes hs
      exact Nat.le_of_eq List.length_set.symm
  · exact xno hs
theorem xM_invokespecial {ext : List xC} {d nx : Nat} {info : List Nat} {L st : List Value} {h : xH} {idx : Nat} {w : Nat × List Value × List Value × xH} (hs : xs ext d (.invokespecial idx) nx info L st h = some w) : h.length ≤ w.2.2.2.length := by
  rw [xs_invokespecial] at hs
  split at hs
  · split at hs
    · exact xno hs
    · obtain rfl := xyes hs
      exact Nat.le_refl _
  · exact xno hs
theorem xs_mono {ext : List xC} {d nx : Nat} {ins : Instr} {info : List Nat} {L st : List Value} {h : xH} {w : Nat × List Value × List Value × xH} (hs : xs ext d ins nx info L st h = some w) : h.length ≤ w.2.2.2.length := by
  cases ins with
  | iconst n => exact xM_iconst hs
  | bipush n => exact xM_bipush hs
  | sipush n => exact xM_sipush hs
  | lconst n => exact xM_lconst hs
  | ldc idx => exact xM_ldc hs
  | ldc_w idx => exact xM_ldc_w hs
  | ldc2_w idx => exact xM_ldc2_w hs
  | iload_n k => exact xM_iload_n hs
  | iload k => exact xM_iload hs
  | lload_n k => exact xM_lload_n hs
  | lload k => exact xM_lload hs
  | aload_n k => exact xM_aload_n hs
  | aload k => exact xM_aload hs
  | istore_n k => exact xM_istore_n hs
  | istore k => exact xM_istore hs
  | lstore_n k => exact xM_lstore_n hs
  | lstore k => exact xM_lstore hs
  | astore_n k => exact xM_astore_n hs
  | astore k => exact xM_astore hs
  | iinc k n => exact xM_iinc hs
  | iadd => exact xM_iadd hs
  | isub => exact xM_isub hs
  | imul => exact xM_imul hs
  | idiv => exact xM_idiv hs
  | irem => exact xM_irem hs
  | iand => exact xM_iand hs
  | ior => exact xM_ior hs
  | ixor => exact xM_ixor hs
  | ishl => exact xM_ishl hs
  | ishr => exact xM_ishr hs
  | ladd => exact xM_ladd hs
  | lmul => exact xM_lmul hs
  | ldiv => exact xM_ldiv hs
  | lrem => exact xM_lrem hs
  | lcmp => exact xM_lcmp hs
  | i2l => exact xM_i2l hs
  | i2b => exact xM_i2b hs
  | i2c => exact xM_i2c hs
  | dup => exact xM_dup hs
  | dup2 => exact xM_dup2 hs
  | pop => exact xM_pop hs
  | goto o => exact xM_goto hs
  | if_icmp cd o => exact xM_if_icmp hs
  | ifCond cd o => exact xM_ifCond hs
  | ifnonnull o => exact xM_ifnonnull hs
  | tableswitch dt lo hi os => exact xM_tableswitch hs
  | lookupswitch dt prs => exact xM_lookupswitch hs
  | getfield idx => exact xM_getfield hs
  | putfield idx => exact xM_putfield hs
  | iaload => exact xM_iaload hs
  | baload => exact xM_baload hs
  | aaload => exact xM_aaload hs
  | iastore => exact xM_iastore hs
  | bastore => exact xM_bastore hs
  | aastore => exact xM_aastore hs
  | arraylength => exact xM_arraylength hs
  | new idx => exact xM_new hs
  | newarray at9 => exact xM_newarray hs
  | anewarray idx => exact xM_anewarray hs
  | multianewarray idx dm => exact xM_multianewarray hs
  | getstatic idx => exact xM_getstatic hs
  | invokestatic idx => exact xM_invokestatic hs
  | invokespecial idx => exact xM_invokespecial hs
  | _ => exact xno hs
section XST
variable {p : Program} {l : Launch} {e : Env} {R : Room} {s : State} {m : MethodId} {args : Array Value} {below : List Frame} {meth : Method} {c : Code} {Q : State → Prop}
variable {B0 : Heap} {ev : Nat → Value} {ext : List xC} {D : va_G} {cA : Nat → ClassId} {mi n0 : Nat}
theorem xstep {pc d nx : Nat} {ins : Instr} {info ps : List Nat} {L st : List Value} {h : xH} {w : Nat × List Value × List Value × xH} (C : XC p s m meth c B0 ev ext D cA mi) (hq : xchk (xmt mi) (pc, ins, nx, info) ps = true) (hs : xs ext d ins nx info L st h = some w)
    (hr : w.2.2.2.length - n0 ≤ R.cells ∧ 1100 * (w.2.2.2.length - n0) ≤ R.slots) (hn : n0 ≤ h.length) (hdp : d ≤ R.frames ∧ 35 * d ≤ R.locals) (kk : xG p l e R s m args below meth c B0 ev D cA n0 Q w.1 w.2.1 w.2.2.1 w.2.2.2) : xG p l e R s m args below meth c B0 ev D cA n0 Q pc L st h := by
  cases ins with
  | iconst n => exact xS_iconst C hq hs hr hn hdp kk
  | bipush n => exact xS_bipush C hq hs hr hn hdp kk
  | sipush n => exact xS_sipush C hq hs hr hn hdp kk
  | lconst n => exact xS_lconst C hq hs hr hn hdp kk
  | ldc idx => exact xS_ldc C hq hs hr hn hdp kk
  | ldc_w idx => exact xS_ldc_w C hq hs hr hn hdp kk
  | ldc2_w idx => exact xS_ldc2_w C hq hs hr hn hdp kk
  | iload_n k => exact xS_iload_n C hq hs hr hn hdp kk
  | iload k => exact xS_iload C hq hs hr hn hdp kk
  | lload_n k => exact xS_lload_n C hq hs hr hn hdp kk
  | lload k => exact xS_lload C hq hs hr hn hdp kk
  | aload_n k => exact xS_aload_n C hq hs hr hn hdp kk
  | aload k => exact xS_aload C hq hs hr hn hdp kk
  | istore_n k => exact xS_istore_n C hq hs hr hn hdp kk
  | istore k => exact xS_istore C hq hs hr hn hdp kk
  | lstore_n k => exact xS_lstore_n C hq hs hr hn hdp kk
  | lstore k => exact xS_lstore C hq hs hr hn hdp kk
  | astore_n k => exact xS_astore_n C hq hs hr hn hdp kk
  | astore k => exact xS_astore C hq hs hr hn hdp kk
  | iinc k n => exact xS_iinc C hq hs hr hn hdp kk
  | iadd => exact xS_iadd C hq hs hr hn hdp kk
  | isub => exact xS_isub C hq hs hr hn hdp kk
  | imul => exact xS_imul C hq hs hr hn hdp kk
  | idiv => exact xS_idiv C hq hs hr hn hdp kk
  | irem => exact xS_irem C hq hs hr hn hdp kk
  | iand => exact xS_iand C hq hs hr hn hdp kk
  | ior => exact xS_ior C hq hs hr hn hdp kk
  | ixor => exact xS_ixor C hq hs hr hn hdp kk
  | ishl => exact xS_ishl C hq hs hr hn hdp kk
  | ishr => exact xS_ishr C hq hs hr hn hdp kk
  | ladd => exact xS_ladd C hq hs hr hn hdp kk
  | lmul => exact xS_lmul C hq hs hr hn hdp kk
  | ldiv => exact xS_ldiv C hq hs hr hn hdp kk
  | lrem => exact xS_lrem C hq hs hr hn hdp kk
  | lcmp => exact xS_lcmp C hq hs hr hn hdp kk
  | i2l => exact xS_i2l C hq hs hr hn hdp kk
  | i2b => exact xS_i2b C hq hs hr hn hdp kk
  | i2c => exact xS_i2c C hq hs hr hn hdp kk
  | dup => exact xS_dup C hq hs hr hn hdp kk
  | dup2 => exact xS_dup2 C hq hs hr hn hdp kk
  | pop => exact xS_pop C hq hs hr hn hdp kk
  | goto o => exact xS_goto C hq hs hr hn hdp kk
  | if_icmp cd o => exact xS_if_icmp C hq hs hr hn hdp kk
  | ifCond cd o => exact xS_ifCond C hq hs hr hn hdp kk
  | ifnonnull o => exact xS_ifnonnull C hq hs hr hn hdp kk
  | tableswitch dt lo hi os => exact xS_tableswitch C hq hs hr hn hdp kk
  | lookupswitch dt prs => exact xS_lookupswitch C hq hs hr hn hdp kk
  | getfield idx => exact xS_getfield C hq hs hr hn hdp kk
  | putfield idx => exact xS_putfield C hq hs hr hn hdp kk
  | iaload => exact xS_iaload C hq hs hr hn hdp kk
  | baload => exact xS_baload C hq hs hr hn hdp kk
  | aaload => exact xS_aaload C hq hs hr hn hdp kk
  | iastore => exact xS_iastore C hq hs hr hn hdp kk
  | bastore => exact xS_bastore C hq hs hr hn hdp kk
  | aastore => exact xS_aastore C hq hs hr hn hdp kk
  | arraylength => exact xS_arraylength C hq hs hr hn hdp kk
  | new idx => exact xS_new C hq hs hr hn hdp kk
  | newarray at9 => exact xS_newarray C hq hs hr hn hdp kk
  | anewarray idx => exact xS_anewarray C hq hs hr hn hdp kk
  | multianewarray idx dm => exact xS_multianewarray C hq hs hr hn hdp kk
  | getstatic idx => exact xS_getstatic C hq hs hr hn hdp kk
  | invokestatic idx => exact xS_invokestatic C hq hs hr hn hdp kk
  | invokespecial idx => exact xS_invokespecial C hq hs hr hn hdp kk
  | _ => exact xno hs
end XST
