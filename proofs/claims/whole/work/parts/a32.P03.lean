def skp (T : Int → Int) : Nat → Int → Int
  | 0, i => i
  | k + 1, i => if T i = 32 then skp T k (i + 1) else i
def sr (T : Int → Int) (l i : Int) : Int := if l ≤ i then 0 else if 97 ≤ T i ∧ T i ≤ 122 then 1 else if 48 ≤ T i ∧ T i ≤ 57 then 2 else if T i = 59 then 3 else 4
def rn (T : Int → Int) (l s : Int) : Nat → Int → Int
  | 0, i => i
  | k + 1, i => if sr T l i = s then rn T l s k (i + 1) else i
def tA (T : Int → Int) (l f : Int) : Int := skp T (l - f).toNat f
def tK (T : Int → Int) (l f : Int) : Int := sr T l (tA T l f)
def tE (T : Int → Int) (l f : Int) : Int := if tK T l f = 0 then tA T l f else if tK T l f = 1 ∨ tK T l f = 2 then rn T l (tK T l f) (l - (tA T l f + 1)).toNat (tA T l f + 1) else tA T l f + 1
def nmS (T : Int → Int) (a : Int) : Nat → Int
  | 0 => 0
  | k + 1 => 10 * nmS T a k + T (a + k) - 48
def tV (T : Int → Int) (l f : Int) : Int := if tK T l f = 2 then nmS T (tA T l f) (if tE T l f - tA T l f < 3 then tE T l f - tA T l f else 3).toNat else 0
def t4 (T : Int → Int) (l f : Int) : Int := if tK T l f = 2 ∧ 3 < tE T l f - tA T l f then 4 else tK T l f
theorem skp_rng (T : Int → Int) : ∀ (k : Nat) (i : Int), i ≤ skp T k i ∧ skp T k i ≤ i + k
  | 0, i => by show i ≤ i ∧ i ≤ i + ((0 : Nat) : Int); omega
  | k + 1, i => by
    have ih := skp_rng T k (i + 1)
    by_cases h : T i = 32
    · have e : skp T (k + 1) i = skp T k (i + 1) := if_pos h
      omega
    · have e : skp T (k + 1) i = i := if_neg h
      omega
theorem rn_rng (T : Int → Int) (l s : Int) : ∀ (k : Nat) (i : Int), i ≤ rn T l s k i ∧ rn T l s k i ≤ i + k
  | 0, i => by show i ≤ i ∧ i ≤ i + ((0 : Nat) : Int); omega
  | k + 1, i => by
    have ih := rn_rng T l s k (i + 1)
    by_cases h : sr T l i = s
    · have e : rn T l s (k + 1) i = rn T l s k (i + 1) := if_pos h
      omega
    · have e : rn T l s (k + 1) i = i := if_neg h
      omega
theorem sr_rng {T : Int → Int} {l i : Int} : 0 ≤ sr T l i ∧ sr T l i ≤ 4 := by
  unfold sr
  repeat' split
  all_goals omega
theorem sr_0 {T : Int → Int} {l i : Int} : sr T l i = 0 ↔ l ≤ i := by
  unfold sr
  by_cases h : l ≤ i
  · rw [if_pos h]; omega
  · rw [if_neg h]
    repeat' split
    all_goals omega
theorem tA_rng {T : Int → Int} {l f : Int} (h : 0 ≤ f ∧ f ≤ l) : f ≤ tA T l f ∧ tA T l f ≤ l := by
  have := skp_rng T (l - f).toNat f
  unfold tA
  omega
theorem tK_rng {T : Int → Int} {l f : Int} : 0 ≤ tK T l f ∧ tK T l f ≤ 4 := sr_rng
theorem tK_0 {T : Int → Int} {l f : Int} (h : 0 ≤ f ∧ f ≤ l) : tK T l f = 0 ↔ tA T l f = l := by
  have h1 := tA_rng (T := T) h
  have h2 := sr_0 (T := T) (l := l) (i := tA T l f)
  unfold tK
  omega
theorem tE_rng {T : Int → Int} {l f : Int} (h : 0 ≤ f ∧ f ≤ l) : tA T l f ≤ tE T l f ∧ tE T l f ≤ l ∧ (tK T l f ≠ 0 → tA T l f < tE T l f) := by
  have h1 := tA_rng (T := T) h
  have h2 := tK_0 (T := T) h
  unfold tE
  by_cases h0 : tK T l f = 0
  · rw [if_pos h0]; omega
  · rw [if_neg h0]
    by_cases h3 : tK T l f = 1 ∨ tK T l f = 2
    · rw [if_pos h3]
      have := rn_rng T l (tK T l f) (l - (tA T l f + 1)).toNat (tA T l f + 1)
      omega
    · rw [if_neg h3]
      omega
theorem nmS_s {T : Int → Int} {a i : Int} (h : 0 ≤ i) : nmS T a (i + 1).toNat = 10 * nmS T a i.toNat + T (a + i) - 48 := by
  rw [tnS h]
  show 10 * nmS T a i.toNat + T (a + (i.toNat : Int)) - 48 = _
  rw [Int.toNat_of_nonneg h]
theorem nmS_rng {T : Int → Int} {a : Int} : ∀ (k : Nat), k ≤ 3 → (∀ j : Int, a ≤ j → j < a + k → 0 ≤ T j ∧ T j ≤ 127) → -100000 ≤ nmS T a k ∧ nmS T a k ≤ 100000 := by
  intro k hk h
  have h0 := h a (Int.le_refl a)
  have h1 := h (a + 1) (by omega)
  have h2 := h (a + 2) (by omega)
  match k, hk with
  | 0, _ => show -100000 ≤ (0 : Int) ∧ (0 : Int) ≤ 100000; omega
  | 1, _ =>
    show -100000 ≤ 10 * (0 : Int) + T (a + ((0 : Nat) : Int)) - 48 ∧ 10 * (0 : Int) + T (a + ((0 : Nat) : Int)) - 48 ≤ 100000
    rw [show a + ((0 : Nat) : Int) = a by omega]
    omega
  | 2, _ =>
    show -100000 ≤ 10 * (10 * (0 : Int) + T (a + ((0 : Nat) : Int)) - 48) + T (a + ((1 : Nat) : Int)) - 48 ∧ 10 * (10 * (0 : Int) + T (a + ((0 : Nat) : Int)) - 48) + T (a + ((1 : Nat) : Int)) - 48 ≤ 100000
    rw [show a + ((0 : Nat) : Int) = a by omega, show a + ((1 : Nat) : Int) = a + 1 by omega]
    omega
  | 3, _ =>
    show -100000 ≤ 10 * (10 * (10 * (0 : Int) + T (a + ((0 : Nat) : Int)) - 48) + T (a + ((1 : Nat) : Int)) - 48) + T (a + ((2 : Nat) : Int)) - 48 ∧ 10 * (10 * (10 * (0 : Int) + T (a + ((0 : Nat) : Int)) - 48) + T (a + ((1 : Nat) : Int)) - 48) + T (a + ((2 : Nat) : Int)) - 48 ≤ 100000
    rw [show a + ((0 : Nat) : Int) = a by omega, show a + ((1 : Nat) : Int) = a + 1 by omega, show a + ((2 : Nat) : Int) = a + 2 by omega]
    omega
theorem tV_rng {T : Int → Int} {l f : Int} (h : 0 ≤ f ∧ f ≤ l) (hT : ∀ j, 0 ≤ j → j < l → 0 ≤ T j ∧ T j ≤ 127) : -100000 ≤ tV T l f ∧ tV T l f ≤ 100000 := by
  have h1 := tA_rng (T := T) h
  have h2 := tE_rng (T := T) h
  unfold tV
  split
  · refine nmS_rng _ ?_ (fun j a b => hT j (by omega) ?_)
    · split <;> omega
    · have : (((if tE T l f - tA T l f < 3 then tE T l f - tA T l f else 3).toNat : Nat) : Int) ≤ tE T l f - tA T l f := by split <;> omega
      omega
  · omega
/-- the number as told -/
def nmO (T : Int → Int) (l f lo hi : Int) : Prop := (tK T l f = 2 ∧ tE T l f - tA T l f ≤ 3) ∧ (lo ≤ tV T l f ∧ tV T l f ≤ hi)
/-- the word -/
def wdO (T : Int → Int) (l f n a b c d e g : Int) : Prop := tK T l f = 1 ∧ tE T l f - tA T l f = n ∧ ∀ k, 0 ≤ k → k < n → T (tA T l f + k) = (if k = 0 then a else if k = 1 then b else if k = 2 then c else if k = 3 then d else if k = 4 then e else g)
