/-! An instruction is simple, a return, or a call. -/
theorem xs_ret {ext : List xC} {d nx : Nat} {ins : Instr} {info : List Nat} {L st : List Value} {h : xH} {ty : Option FieldType} {r : Option Value} (e : xret ty ins st = some r) : xs ext d ins nx info L st h = none := by
  unfold xret at e
  split at e
  · rfl
  · rfl
  · rfl
  · exact xno e
theorem xret_call {ext : List xC} {ins : Instr} {info : List Nat} {st : List Value} {h : xH} {ty : Option FieldType} {a : Nat × List Value × List Value} (e : xcallee ext ins info st h = some a) : xret ty ins st = none := by
  unfold xcallee at e
  split at e
  · rfl
  · rfl
  · rfl
  · exact xno e
theorem xs_call {ext : List xC} {d nx : Nat} {ins : Instr} {info : List Nat} {L st : List Value} {h : xH} {a : Nat × List Value × List Value} (e : xcallee ext ins info st h = some a) : xs ext d ins nx info L st h = none := by
  unfold xcallee at e
  split at e
  · rw [xs_invokestatic]
    split at e
    · split
      · rename_i heq
        exfalso
        simp at heq
      · rfl
    · exact xno e
  · rw [xs_invokespecial]
    split at e
    · split
      · rename_i heq
        exfalso
        simp at heq
      · rfl
    · exact xno e
  · rfl
  · exact xno e
theorem xs_depth {ext : List xC} {d nx : Nat} {ins : Instr} {info : List Nat} {L st : List Value} {h : xH} {w : Nat × List Value × List Value × xH} (e : xs ext d ins nx info L st h = some w) (j : Nat) : xs ext (d + j) ins nx info L st h = some w := by
  cases ins with
  | invokestatic idx =>
    rw [xs_invokestatic] at e ⊢
    split at e
    · obtain ⟨ca, h1, e⟩ := Option.bind_eq_some_iff.mp e
      obtain ⟨cb, h2, e⟩ := Option.bind_eq_some_iff.mp e
      rw [h1, Option.bind_some, h2, Option.bind_some]
      split at e
      · exact xno e
      · rename_i h9
        rw [if_neg (fun q => h9 (q.imp (fun z => by omega) id))]
        exact e
    · exact xno e
  | invokespecial idx =>
    rw [xs_invokespecial] at e ⊢
    split at e
    · split at e
      · exact xno e
      · rename_i h9
        rw [if_neg (fun q => h9 (q.imp (fun z => by omega) id))]
        exact e
    · exact xno e
  | _ => exact e
