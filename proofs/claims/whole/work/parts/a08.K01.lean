section
variable {ext : List xC} {d mi pc nx ci idx a : Nat} {L st : List Value} {h h' : xH} {r : Option Value}
/-- a static method -/
theorem Ev.t {na mj : Nat} {rb : Option Value} {h1 : xH} (hf : xfind (xmt mi).2 pc = some (.invokestatic idx, nx, [na, mj])) (hn : Nat.ble na st.length = true) (h8 : xcat (st.drop na) ≤ 8) (hl : (xspread (st.take na).reverse).length ≤ xmax mj)
    (kc : EvM ext d mj (st.take na).reverse h rb h1) (k : Ev ext (d + 1) mi nx L (rb.toList ++ st.drop na) h1 r h') : Ev ext (d + 1) mi pc L st h r h' := by
  refine Ev.c hf (mj := mj) (vs := (st.take na).reverse) (rest := st.drop na) ?_ h8 hl kc k
  show (if na ≤ st.length then some (mj, (st.take na).reverse, st.drop na) else none) = _
  rw [if_pos (Nat.le_of_ble_eq_true hn)]
/-- super.m(..), a constructor -/
theorem Ev.u {na mj : Nat} {rest : List Value} {rb : Option Value} {h1 : xH} {fs : List Value} (hf : xfind (xmt mi).2 pc = some (.invokespecial idx, nx, [na, mj])) (hd : st.drop na = .ref a :: rest) (hσ : h[a]? = some (ci, fs)) (hx : Nat.blt ci 13 = true) (h8 : xcat rest ≤ 8) (hl : (xspread (.ref a :: (st.take na).reverse)).length ≤ xmax mj)
    (kc : EvM ext d mj (.ref a :: (st.take na).reverse) h rb h1) (k : Ev ext (d + 1) mi nx L (rb.toList ++ rest) h1 r h') : Ev ext (d + 1) mi pc L st h r h' := by
  refine Ev.c hf (mj := mj) (vs := .ref a :: (st.take na).reverse) (rest := rest) ?_ h8 hl kc k
  show (match st.drop na with
      | .ref a :: r => (h[a]?).bind fun c => cond (Nat.blt c.1 13) (some (mj, Value.ref a :: (st.take na).reverse, r)) none
      | _ => none) = _
  rw [hd]
  show (h[a]?).bind _ = _
  rw [hσ, Option.bind_some]
  show cond (Nat.blt ci 13) _ _ = _
  rw [hx]
  rfl
end
/-- k simple instructions, none of which reads a cell -/
def xgo (ext : List xC) (d mi : Nat) : Nat → Nat × List Value × List Value × xH → Option (Nat × List Value × List Value × xH)
  | 0, w => some w
  | n + 1, w => match xfind (xmt mi).2 w.1 with
    | some q => match xs ext d q.1 q.2.1 q.2.2 w.2.1 w.2.2.1 w.2.2.2 with
      | some w' => xgo ext d mi n w'
      | none => none
    | none => none
theorem Ev.go {ext : List xC} {d mi : Nat} {h' : xH} {r : Option Value} : ∀ (n : Nat) {pc : Nat} {L st : List Value} {h : xH} {w : Nat × List Value × List Value × xH} (e : xgo ext d mi n (pc, L, st, h) = some w) (k : Ev ext d mi w.1 w.2.1 w.2.2.1 w.2.2.2 r h'), Ev ext d mi pc L st h r h'
  | 0, _, _, _, _, _, e, k => by
    obtain rfl := xyes e
    exact k
  | n + 1, pc, L, st, h, w, e, k => by
    unfold xgo at e
    split at e
    · rename_i q hq
      split at e
      · rename_i w' hw
        exact Ev.s hq hw (Ev.go n (w := w) e k)
      · exact xno e
    · exact xno e
def icP (c : Jvm.ClassFile.Cond) (x y : Int32) : Prop := match c with
  | .eq => x = y
  | .ne => ¬ x = y
  | .lt => x < y
  | .ge => y ≤ x
  | .gt => y < x
  | .le => x ≤ y
theorem icP_t {c : Jvm.ClassFile.Cond} {x y : Int32} (h : xcmp c x y = true) : icP c x y := by
  cases c <;> simpa [xcmp, icP] using h
theorem icP_f {c : Jvm.ClassFile.Cond} {x y : Int32} (h : xcmp c x y = false) : ¬ icP c x y := by
  cases c <;> simpa [xcmp, icP] using h
def ncP (c : Jvm.ClassFile.Cond) (x y : Nat) : Prop := match c with
  | .eq => x = y
  | .ne => ¬ x = y
  | .lt => x < y
  | .ge => y ≤ x
  | .gt => y < x
  | .le => x ≤ y
theorem ncP_iff {c : Jvm.ClassFile.Cond} {a b : Nat} (ha : a < 2 ^ 31) (hb : b < 2 ^ 31) : icP c (nI a) (nI b) ↔ ncP c a b := by
  cases c
  · exact nI_eq ha hb
  · exact not_congr (nI_eq ha hb)
  · exact nI_ltI ha hb
  · exact nI_leI hb ha
  · exact nI_ltI hb ha
  · exact nI_leI ha hb
section XCM
variable {ext : List xC} {d mi pc nx t : Nat} {cd : Jvm.ClassFile.Cond} {o : Int} {L st : List Value} {h h' : xH} {r : Option Value}
/-- two ints are compared -/
theorem Ev.i2 {x y : Int32} (hf : xfind (xmt mi).2 pc = some (.if_icmp cd o, nx, [t])) (k1 : icP cd x y → Ev ext d mi t L st h r h') (k0 : ¬ icP cd x y → Ev ext d mi nx L st h r h') : Ev ext d mi pc L (.int y :: .int x :: st) h r h' :=
  Ev.icmp hf (fun c => k1 (icP_t c)) (fun c => k0 (icP_f c))
/-- an int and 0 -/
theorem Ev.i1 {x : Int32} (hf : xfind (xmt mi).2 pc = some (.ifCond cd o, nx, [t])) (k1 : icP cd x 0 → Ev ext d mi t L st h r h') (k0 : ¬ icP cd x 0 → Ev ext d mi nx L st h r h') : Ev ext d mi pc L (.int x :: st) h r h' :=
  Ev.if0 hf (fun c => k1 (icP_t c)) (fun c => k0 (icP_f c))
/-- two ints that are natural numbers -/
theorem Ev.n2 {x y : Int32} (a b : Nat) (hf : xfind (xmt mi).2 pc = some (.if_icmp cd o, nx, [t])) (hx : x = nI a) (hy : y = nI b) (ha : a < 2 ^ 31) (hb : b < 2 ^ 31) (k1 : ncP cd a b → Ev ext d mi t L st h r h') (k0 : ¬ ncP cd a b → Ev ext d mi nx L st h r h') : Ev ext d mi pc L (.int y :: .int x :: st) h r h' := by
  subst hx
  subst hy
  exact Ev.i2 hf (fun c => k1 ((ncP_iff ha hb).mp c)) (fun c => k0 (fun q => c ((ncP_iff ha hb).mpr q)))
/-- a truth value -/
theorem Ev.b1 {b : Bool} (hf : xfind (xmt mi).2 pc = some (.ifCond cd o, nx, [t])) (hcd : cd = .eq ∨ cd = .ne) (k1 : b = decide (cd = .ne) → Ev ext d mi t L st h r h') (k0 : b = decide (cd = .eq) → Ev ext d mi nx L st h r h') : Ev ext d mi pc L (.int (if b then 1 else 0) :: st) h r h' := by
  refine Ev.i1 hf (fun c => k1 ?_) (fun c => k0 ?_)
  · rcases hcd with rfl | rfl <;> cases b <;> simp_all [icP] <;> decide
  · rcases hcd with rfl | rfl <;> cases b <;> simp_all [icP] <;> decide
end XCM
/-- what a method that tells a truth value answers -/
def bI (b : Bool) : Int32 := if b then 1 else 0
def sShow (k w e : Nat) : Nat := match k with
  | 1 => (w + 2 * e) % 6
  | 2 => if (w + e) % 6 = 1 then 0 else (w + e) % 6
  | 3 => w
  | 5 => if e % 2 = 1 then 5 else w
  | _ => (w + e) % 6
def sFee (k p : Nat) : Nat := match k with
  | 2 => 2 * p
  | 3 => p + 10
  | 4 => p / 2
  | _ => p
def sFits (k size wall : Nat) : Bool := decide (k = 4) || decide (size ≤ wall)
/-- the tag of a kind's object -/
def sKt (k : Nat) : Nat := [7, 10, 3, 6, 1, 4].getD k 0
theorem nI_xor {a b : Nat} (ha : a < 2 ^ 31) (hb : b < 2 ^ 31) : ¬ (nI a ^^^ nI b) < 0 := by
  have e : nI a ^^^ nI b = nI (a ^^^ b) := by
    apply Int32.toBitVec_inj.mp
    rw [Int32.toBitVec_xor]
    apply BitVec.eq_of_toNat_eq
    rw [BitVec.toNat_xor, pk_tn (by omega), pk_tn (by omega), pk_tn (Nat.xor_lt_two_pow (by omega) (by omega))]
  rw [e]
  exact nI_pos (Nat.xor_lt_two_pow ha hb)
theorem c_floorMod {ext : List xC} {d : Nat} {h : xH} {n m : Nat} (hn : n < 2 ^ 31) (hm : 0 < m) (hm2 : m < 2 ^ 31) : EvM ext d n_J9_floorMod_7cf53 [.int (nI n), .int (nI m)] h (some (.int (nI (n % m)))) h := by
  have hne : ¬ nI m = 0 := nI_ne0 hm hm2
  refine Ev.s rfl rfl ?_
  refine Ev.s rfl rfl ?_
  refine Ev.s rfl (w := (3, _, [.int (nI n - nI n / nI m * nI m)], h)) (if_neg hne) ?_
  rw [pk_rem hn hm hm2]
  refine Ev.go 4 rfl ?_
  refine Ev.if0 rfl (fun hc => ?_) (fun hc => ?_)
  · refine Ev.s rfl rfl ?_
    exact Ev.r rfl rfl
  · have h9 : ¬ (0 : Int32) ≤ nI n ^^^ nI m := by simpa [xcmp] using hc
    exact absurd (Int32.not_lt.mp (nI_xor hn hm2)) h9
theorem c_Lake_showing {ext : List xC} {d a : Nat} {h : xH} {w e : Nat} (hw : w < 6) (he : e < 1000) : EvM ext (d + 1) n_X7_showing [.ref a, .int (nI w), .int (nI e)] h (some (.int (nI ((w + e) % 6)))) h := by
  refine Ev.go 4 rfl ?_
  show Ev ext (d + 1) n_X7_showing _ _ [.int 6, .int (nI w + nI e)] h _ _
  rw [nI_add]
  refine Ev.t rfl rfl (Nat.le_of_ble_eq_true rfl) (Nat.le_of_ble_eq_true rfl) (c_floorMod (n := w + e) (m := 6) (by omega) (by omega) (by omega)) ?_
  exact Ev.r rfl rfl
theorem c_Street_showing {ext : List xC} {d a : Nat} {h : xH} {w e : Nat} (hw : w < 6) (he : e < 1000) : EvM ext (d + 1) n_X10_showing [.ref a, .int (nI w), .int (nI e)] h (some (.int (nI ((w + 2 * e) % 6)))) h := by
  refine Ev.go 6 rfl ?_
  show Ev ext (d + 1) n_X10_showing _ _ [.int 6, .int (nI w + nI 2 * nI e)] h _ _
  rw [pk_mul, nI_add]
  refine Ev.t rfl rfl (Nat.le_of_ble_eq_true rfl) (Nat.le_of_ble_eq_true rfl) (c_floorMod (n := w + 2 * e) (m := 6) (by omega) (by omega) (by omega)) ?_
  exact Ev.r rfl rfl
theorem c_Fire_showing {ext : List xC} {d a : Nat} {h : xH} {w e : Nat} (hσ : h[a]? = some (3, [])) (hw : w < 6) (he : e < 1000) : EvM ext (d + 2) n_X3_showing [.ref a, .int (nI w), .int (nI e)] h (some (.int (nI (if (w + e) % 6 = 1 then 0 else (w + e) % 6)))) h := by
  refine Ev.go 3 rfl ?_
  refine Ev.u rfl rfl hσ rfl (Nat.le_of_ble_eq_true rfl) (Nat.le_of_ble_eq_true rfl) (c_Lake_showing hw he) ?_
  refine Ev.go 3 rfl ?_
  refine Ev.n2 ((w + e) % 6) 1 rfl rfl rfl (by omega) (by omega) (fun hc => ?_) (fun hc => ?_)
  · rw [if_neg hc]
    refine Ev.s rfl rfl ?_
    exact Ev.r rfl rfl
  · have hc : (w + e) % 6 = 1 := Decidable.not_not.mp hc
    rw [if_pos hc]
    refine Ev.go 2 rfl ?_
    exact Ev.r rfl rfl
theorem c_Kitchen_showing {ext : List xC} {d a : Nat} {h : xH} {w e : Int32} : EvM ext d n_X6_showing [.ref a, .int w, .int e] h (some (.int w)) h := by
  refine Ev.s rfl rfl ?_
  exact Ev.r rfl rfl
theorem nI_and1 (e : Nat) (he : e < 2 ^ 31) : nI e &&& 1 = nI (e % 2) := by
  have := pk_andN (n := e) (by omega) (m := 1) 1 (by decide)
  exact this
theorem c_Fogged_showing {ext : List xC} {d a : Nat} {h : xH} {w e : Nat} (hσ : h[a]? = some (4, [])) (he : e < 1000) : EvM ext (d + 1) n_X4_showing [.ref a, .int (nI w), .int (nI e)] h (some (.int (nI (if e % 2 = 1 then 5 else w)))) h := by
  refine Ev.go 4 rfl ?_
  refine Ev.n2 (e % 2) 1 rfl (nI_and1 e (by omega)) rfl (by omega) (by omega) (fun hc => ?_) (fun hc => ?_)
  · rw [if_neg hc]
    refine Ev.go 3 rfl ?_
    refine Ev.u rfl rfl hσ rfl (Nat.le_of_ble_eq_true rfl) (Nat.le_of_ble_eq_true rfl) c_Kitchen_showing ?_
    exact Ev.r rfl rfl
  · have hc : e % 2 = 1 := Decidable.not_not.mp hc
    rw [if_pos hc]
    refine Ev.go 2 rfl ?_
    exact Ev.r rfl rfl
theorem c_Lake_fee {ext : List xC} {d a : Nat} {h : xH} {p : Int32} : EvM ext d n_X7_fee [.ref a, .int p] h (some (.int p)) h := by
  refine Ev.s rfl rfl ?_
  exact Ev.r rfl rfl
theorem c_Fogged_fee {ext : List xC} {d a : Nat} {h : xH} {p : Int32} : EvM ext d n_X4_fee [.ref a, .int p] h (some (.int p)) h := by
  refine Ev.s rfl rfl ?_
  exact Ev.r rfl rfl
theorem c_Fire_fee {ext : List xC} {d a p : Nat} {h : xH} (hσ : h[a]? = some (3, [])) : EvM ext (d + 1) n_X3_fee [.ref a, .int (nI p)] h (some (.int (nI (2 * p)))) h := by
  refine Ev.go 3 rfl ?_
  refine Ev.u rfl rfl hσ rfl (Nat.le_of_ble_eq_true rfl) (Nat.le_of_ble_eq_true rfl) c_Lake_fee ?_
  refine Ev.s rfl rfl ?_
  rw [← pk_mul]
  exact Ev.r rfl rfl
theorem c_Kitchen_fee {ext : List xC} {d a p : Nat} {h : xH} (hσ : h[a]? = some (6, [])) : EvM ext (d + 1) n_X6_fee [.ref a, .int (nI p)] h (some (.int (nI (p + 10)))) h := by
  refine Ev.go 2 rfl ?_
  refine Ev.u rfl rfl hσ rfl (Nat.le_of_ble_eq_true rfl) (Nat.le_of_ble_eq_true rfl) c_Lake_fee ?_
  refine Ev.go 2 rfl ?_
  rw [← nI_add]
  exact Ev.r rfl rfl
theorem c_Bricks_fee {ext : List xC} {d a p : Nat} {h : xH} (hσ : h[a]? = some (1, [])) (hp9 : p < 2 ^ 31) : EvM ext (d + 1) n_X1_fee [.ref a, .int (nI p)] h (some (.int (nI (p / 2)))) h := by
  refine Ev.go 2 rfl ?_
  refine Ev.u rfl rfl hσ rfl (Nat.le_of_ble_eq_true rfl) (Nat.le_of_ble_eq_true rfl) c_Lake_fee ?_
  refine Ev.go 2 rfl ?_
  rw [← pk_div hp9 (by omega) (by omega)]
  exact Ev.r rfl rfl
theorem c_Bricks_fits {ext : List xC} {d a : Nat} {h : xH} {x y : Int32} : EvM ext d n_X1_fits [.ref a, .int x, .int y] h (some (.int 1)) h := by
  refine Ev.s rfl rfl ?_
  exact Ev.r rfl rfl
theorem c_Lake_fits {ext : List xC} {d a x y : Nat} {h : xH} (hx : x < 2 ^ 31) (hy : y < 2 ^ 31) : EvM ext d n_X7_fits [.ref a, .int (nI x), .int (nI y)] h (some (.int (bI (decide (x ≤ y))))) h := by
  refine Ev.go 2 rfl ?_
  refine Ev.n2 x y rfl rfl rfl hx hy (fun hc => ?_) (fun hc => ?_)
  · have hc : ¬ x ≤ y := Nat.not_le.mpr hc
    rw [decide_eq_false hc]
    refine Ev.s rfl rfl ?_
    exact Ev.r rfl rfl
  · have hc : x ≤ y := Nat.not_lt.mp hc
    rw [decide_eq_true hc]
    refine Ev.go 2 rfl ?_
    exact Ev.r rfl rfl
