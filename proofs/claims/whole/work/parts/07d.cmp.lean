/-! Comparisons, of ints and of natural numbers. -/
def icP (c : Jvm.ClassFile.Cond) (x y : Int32) : Prop := match c with
  | .eq => x = y
  | .ne => ¬ x = y
  | .lt => x < y
  | .ge => y ≤ x
  | .gt => y < x
  | .le => x ≤ y
theorem icP_t {c : Jvm.ClassFile.Cond} {x y : Int32} (h : xcmp c x y = true) : icP c x y := by
  cases c <;> simpa [xcmp, icP] using h
theorem icP_f {c : Jvm.ClassFile.Cond} {x y : Int32} (h : xcmp c x y = false) : ¬ icP c x y := by
  cases c <;> simpa [xcmp, icP] using h
def ncP (c : Jvm.ClassFile.Cond) (x y : Nat) : Prop := match c with
  | .eq => x = y
  | .ne => ¬ x = y
  | .lt => x < y
  | .ge => y ≤ x
  | .gt => y < x
  | .le => x ≤ y
theorem ncP_iff {c : Jvm.ClassFile.Cond} {a b : Nat} (ha : a < 2 ^ 31) (hb : b < 2 ^ 31) : icP c (nI a) (nI b) ↔ ncP c a b := by
  cases c
  · exact nI_eq ha hb
  · exact not_congr (nI_eq ha hb)
  · exact nI_ltI ha hb
  · exact nI_leI hb ha
  · exact nI_ltI hb ha
  · exact nI_leI ha hb
section XCM
variable {ext : List xC} {d mi pc nx t : Nat} {cd : Jvm.ClassFile.Cond} {o : Int} {L st : List Value} {h h' : xH} {r : Option Value}
/-- two ints are compared -/
theorem Ev.i2 {x y : Int32} (hf : xfind (xmt mi).2 pc = some (.if_icmp cd o, nx, [t])) (k1 : icP cd x y → Ev ext d mi t L st h r h') (k0 : ¬ icP cd x y → Ev ext d mi nx L st h r h') : Ev ext d mi pc L (.int y :: .int x :: st) h r h' :=
  Ev.icmp hf (fun c => k1 (icP_t c)) (fun c => k0 (icP_f c))
/-- an int and 0 -/
theorem Ev.i1 {x : Int32} (hf : xfind (xmt mi).2 pc = some (.ifCond cd o, nx, [t])) (k1 : icP cd x 0 → Ev ext d mi t L st h r h') (k0 : ¬ icP cd x 0 → Ev ext d mi nx L st h r h') : Ev ext d mi pc L (.int x :: st) h r h' :=
  Ev.if0 hf (fun c => k1 (icP_t c)) (fun c => k0 (icP_f c))
/-- two ints that are natural numbers -/
theorem Ev.n2 {x y : Int32} (a b : Nat) (hf : xfind (xmt mi).2 pc = some (.if_icmp cd o, nx, [t])) (hx : x = nI a) (hy : y = nI b) (ha : a < 2 ^ 31) (hb : b < 2 ^ 31) (k1 : ncP cd a b → Ev ext d mi t L st h r h') (k0 : ¬ ncP cd a b → Ev ext d mi nx L st h r h') : Ev ext d mi pc L (.int y :: .int x :: st) h r h' := by
  subst hx
  subst hy
  exact Ev.i2 hf (fun c => k1 ((ncP_iff ha hb).mp c)) (fun c => k0 (fun q => c ((ncP_iff ha hb).mpr q)))
/-- a truth value -/
theorem Ev.b1 {b : Bool} (hf : xfind (xmt mi).2 pc = some (.ifCond cd o, nx, [t])) (hcd : cd = .eq ∨ cd = .ne) (k1 : b = decide (cd = .ne) → Ev ext d mi t L st h r h') (k0 : b = decide (cd = .eq) → Ev ext d mi nx L st h r h') : Ev ext d mi pc L (.int (if b then 1 else 0) :: st) h r h' := by
  refine Ev.i1 hf (fun c => k1 ?_) (fun c => k0 ?_)
  · rcases hcd with rfl | rfl <;> cases b <;> simp_all [icP] <;> decide
  · rcases hcd with rfl | rfl <;> cases b <;> simp_all [icP] <;> decide
end XCM
/-- what a method that tells a truth value answers -/
def bI (b : Bool) : Int32 := if b then 1 else 0
