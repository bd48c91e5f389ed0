def zc (t : Nat) (p : Int) : Nat × List zD := match zfind ztab t with
  | some s => zcell s p
  | none => (0, [])
def bkS (p : Int) : zSh := [zc 20 p, zc 21 p, zc 22 p, zc 23 p, zc 24 p, zc 25 p]
def spS (p : Int) : zSh := zc 100 p :: zc 118 p :: (7, []) :: (10, []) :: (3, []) :: (6, []) :: (1, []) :: (4, []) :: zc 101 p :: zc 102 p :: zc 103 p :: zc 104 p :: zc 105 p :: zc 106 p :: zc 107 p :: zc 108 p :: zc 109 p :: zc 110 p :: (bkS (p + 18) ++ (zc 117 p :: (bkS (p + 25) ++ (bkS (p + 31) ++ (bkS (p + 37) ++ (bkS (p + 43) ++ (bkS (p + 49) ++ (bkS (p + 55) ++ (bkS (p + 61) ++ bkS (p + 67)))))))))) 
/-- what the table's entries of a shop are -/
theorem lay1 {p : Int} : ∀ q ∈ ztab, q.2.1 = 1 → ∃ o : Nat, o < 25 ∧ zkey q.2.2.2.2.1 q.2.2.2.2.2.1 p = p + o ∧ (spS p)[o]? = some (zcell q.2 p) := by
  intro q hq
  rcases List.mem_cons.mp hq with rfl | hq
  · intro h; exact absurd h (by decide)
  rcases List.mem_cons.mp hq with rfl | hq
  · intro h; exact absurd h (by decide)
  rcases List.mem_cons.mp hq with rfl | hq
  · exact fun _ => ⟨0, by omega, (Int.add_zero p).symm, rfl⟩
  rcases List.mem_cons.mp hq with rfl | hq
  · exact fun _ => ⟨8, by omega, rfl, rfl⟩
  rcases List.mem_cons.mp hq with rfl | hq
  · exact fun _ => ⟨9, by omega, rfl, rfl⟩
  rcases List.mem_cons.mp hq with rfl | hq
  · exact fun _ => ⟨10, by omega, rfl, rfl⟩
  rcases List.mem_cons.mp hq with rfl | hq
  · exact fun _ => ⟨11, by omega, rfl, rfl⟩
  rcases List.mem_cons.mp hq with rfl | hq
  · exact fun _ => ⟨12, by omega, rfl, rfl⟩
  rcases List.mem_cons.mp hq with rfl | hq
  · exact fun _ => ⟨13, by omega, rfl, rfl⟩
  rcases List.mem_cons.mp hq with rfl | hq
  · exact fun _ => ⟨14, by omega, rfl, rfl⟩
  rcases List.mem_cons.mp hq with rfl | hq
  · exact fun _ => ⟨15, by omega, rfl, rfl⟩
  rcases List.mem_cons.mp hq with rfl | hq
  · exact fun _ => ⟨16, by omega, rfl, rfl⟩
  rcases List.mem_cons.mp hq with rfl | hq
  · exact fun _ => ⟨17, by omega, rfl, rfl⟩
  rcases List.mem_cons.mp hq with rfl | hq
  · exact fun _ => ⟨24, by omega, rfl, rfl⟩
  rcases List.mem_cons.mp hq with rfl | hq
  · exact fun _ => ⟨1, by omega, rfl, rfl⟩
  rcases List.mem_cons.mp hq with rfl | hq
  · intro h; exact absurd h (by decide)
  rcases List.mem_cons.mp hq with rfl | hq
  · intro h; exact absurd h (by decide)
  rcases List.mem_cons.mp hq with rfl | hq
  · intro h; exact absurd h (by decide)
  rcases List.mem_cons.mp hq with rfl | hq
  · intro h; exact absurd h (by decide)
  rcases List.mem_cons.mp hq with rfl | hq
  · intro h; exact absurd h (by decide)
  rcases List.mem_cons.mp hq with rfl | hq
  · intro h; exact absurd h (by decide)
  rcases List.mem_cons.mp hq with rfl | hq
  · intro h; exact absurd h (by decide)
  rcases List.mem_cons.mp hq with rfl | hq
  · intro h; exact absurd h (by decide)
  rcases List.mem_cons.mp hq with rfl | hq
  · intro h; exact absurd h (by decide)
  rcases List.mem_cons.mp hq with rfl | hq
  · intro h; exact absurd h (by decide)
  rcases List.mem_cons.mp hq with rfl | hq
  · intro h; exact absurd h (by decide)
  rcases List.mem_cons.mp hq with rfl | hq
  · intro h; exact absurd h (by decide)
  rcases List.mem_cons.mp hq with rfl | hq
  · intro h; exact absurd h (by decide)
  rcases List.mem_cons.mp hq with rfl | hq
  · intro h; exact absurd h (by decide)
  rcases List.mem_cons.mp hq with rfl | hq
  · intro h; exact absurd h (by decide)
  rcases List.mem_cons.mp hq with rfl | hq
  · intro h; exact absurd h (by decide)
  rcases List.mem_cons.mp hq with rfl | hq
  · intro h; exact absurd h (by decide)
  rcases List.mem_cons.mp hq with rfl | hq
  · intro h; exact absurd h (by decide)
  rcases List.mem_cons.mp hq with rfl | hq
  · intro h; exact absurd h (by decide)
  rcases List.mem_cons.mp hq with rfl | hq
  · intro h; exact absurd h (by decide)
  rcases List.mem_cons.mp hq with rfl | hq
  · intro h; exact absurd h (by decide)
  rcases List.mem_cons.mp hq with rfl | hq
  · intro h; exact absurd h (by decide)
  rcases List.mem_cons.mp hq with rfl | hq
  · intro h; exact absurd h (by decide)
  rcases List.mem_cons.mp hq with rfl | hq
  · intro h; exact absurd h (by decide)
  rcases List.mem_cons.mp hq with rfl | hq
  · intro h; exact absurd h (by decide)
  rcases List.mem_cons.mp hq with rfl | hq
  · intro h; exact absurd h (by decide)
  rcases List.mem_cons.mp hq with rfl | hq
  · intro h; exact absurd h (by decide)
  rcases List.mem_cons.mp hq with rfl | hq
  · intro h; exact absurd h (by decide)
  rcases List.mem_cons.mp hq with rfl | hq
  · intro h; exact absurd h (by decide)
  rcases List.mem_cons.mp hq with rfl | hq
  · intro h; exact absurd h (by decide)
  rcases List.mem_cons.mp hq with rfl | hq
  · intro h; exact absurd h (by decide)
  rcases List.mem_cons.mp hq with rfl | hq
  · intro h; exact absurd h (by decide)
  rcases List.mem_cons.mp hq with rfl | hq
  · intro h; exact absurd h (by decide)
  rcases List.mem_cons.mp hq with rfl | hq
  · intro h; exact absurd h (by decide)
  rcases List.mem_cons.mp hq with rfl | hq
  · intro h; exact absurd h (by decide)
  rcases List.mem_cons.mp hq with rfl | hq
  · intro h; exact absurd h (by decide)
  exact absurd hq (List.not_mem_nil)
theorem lay2 {p : Int} : ∀ q ∈ ztab, q.2.1 = 2 → ∃ o : Nat, o < 6 ∧ zkey q.2.2.2.2.1 q.2.2.2.2.2.1 p = p + o ∧ (bkS p)[o]? = some (zcell q.2 p) := by
  intro q hq
  rcases List.mem_cons.mp hq with rfl | hq
  · intro h; exact absurd h (by decide)
  rcases List.mem_cons.mp hq with rfl | hq
  · intro h; exact absurd h (by decide)
  rcases List.mem_cons.mp hq with rfl | hq
  · intro h; exact absurd h (by decide)
  rcases List.mem_cons.mp hq with rfl | hq
  · intro h; exact absurd h (by decide)
  rcases List.mem_cons.mp hq with rfl | hq
  · intro h; exact absurd h (by decide)
  rcases List.mem_cons.mp hq with rfl | hq
  · intro h; exact absurd h (by decide)
  rcases List.mem_cons.mp hq with rfl | hq
  · intro h; exact absurd h (by decide)
  rcases List.mem_cons.mp hq with rfl | hq
  · intro h; exact absurd h (by decide)
  rcases List.mem_cons.mp hq with rfl | hq
  · intro h; exact absurd h (by decide)
  rcases List.mem_cons.mp hq with rfl | hq
  · intro h; exact absurd h (by decide)
  rcases List.mem_cons.mp hq with rfl | hq
  · intro h; exact absurd h (by decide)
  rcases List.mem_cons.mp hq with rfl | hq
  · intro h; exact absurd h (by decide)
  rcases List.mem_cons.mp hq with rfl | hq
  · intro h; exact absurd h (by decide)
  rcases List.mem_cons.mp hq with rfl | hq
  · intro h; exact absurd h (by decide)
  rcases List.mem_cons.mp hq with rfl | hq
  · intro h; exact absurd h (by decide)
  rcases List.mem_cons.mp hq with rfl | hq
  · exact fun _ => ⟨0, by omega, (Int.add_zero p).symm, rfl⟩
  rcases List.mem_cons.mp hq with rfl | hq
  · exact fun _ => ⟨1, by omega, rfl, rfl⟩
  rcases List.mem_cons.mp hq with rfl | hq
  · exact fun _ => ⟨2, by omega, rfl, rfl⟩
  rcases List.mem_cons.mp hq with rfl | hq
  · exact fun _ => ⟨3, by omega, rfl, rfl⟩
  rcases List.mem_cons.mp hq with rfl | hq
  · exact fun _ => ⟨4, by omega, rfl, rfl⟩
  rcases List.mem_cons.mp hq with rfl | hq
  · exact fun _ => ⟨5, by omega, rfl, rfl⟩
  rcases List.mem_cons.mp hq with rfl | hq
  · intro h; exact absurd h (by decide)
  rcases List.mem_cons.mp hq with rfl | hq
  · intro h; exact absurd h (by decide)
  rcases List.mem_cons.mp hq with rfl | hq
  · intro h; exact absurd h (by decide)
  rcases List.mem_cons.mp hq with rfl | hq
  · intro h; exact absurd h (by decide)
  rcases List.mem_cons.mp hq with rfl | hq
  · intro h; exact absurd h (by decide)
  rcases List.mem_cons.mp hq with rfl | hq
  · intro h; exact absurd h (by decide)
  rcases List.mem_cons.mp hq with rfl | hq
  · intro h; exact absurd h (by decide)
  rcases List.mem_cons.mp hq with rfl | hq
  · intro h; exact absurd h (by decide)
  rcases List.mem_cons.mp hq with rfl | hq
  · intro h; exact absurd h (by decide)
  rcases List.mem_cons.mp hq with rfl | hq
  · intro h; exact absurd h (by decide)
  rcases List.mem_cons.mp hq with rfl | hq
  · intro h; exact absurd h (by decide)
  rcases List.mem_cons.mp hq with rfl | hq
  · intro h; exact absurd h (by decide)
  rcases List.mem_cons.mp hq with rfl | hq
  · intro h; exact absurd h (by decide)
  rcases List.mem_cons.mp hq with rfl | hq
  · intro h; exact absurd h (by decide)
  rcases List.mem_cons.mp hq with rfl | hq
  · intro h; exact absurd h (by decide)
  rcases List.mem_cons.mp hq with rfl | hq
  · intro h; exact absurd h (by decide)
  rcases List.mem_cons.mp hq with rfl | hq
  · intro h; exact absurd h (by decide)
  rcases List.mem_cons.mp hq with rfl | hq
  · intro h; exact absurd h (by decide)
  rcases List.mem_cons.mp hq with rfl | hq
  · intro h; exact absurd h (by decide)
  rcases List.mem_cons.mp hq with rfl | hq
  · intro h; exact absurd h (by decide)
  rcases List.mem_cons.mp hq with rfl | hq
  · intro h; exact absurd h (by decide)
  rcases List.mem_cons.mp hq with rfl | hq
  · intro h; exact absurd h (by decide)
  rcases List.mem_cons.mp hq with rfl | hq
  · intro h; exact absurd h (by decide)
  rcases List.mem_cons.mp hq with rfl | hq
  · intro h; exact absurd h (by decide)
  rcases List.mem_cons.mp hq with rfl | hq
  · intro h; exact absurd h (by decide)
  rcases List.mem_cons.mp hq with rfl | hq
  · intro h; exact absurd h (by decide)
  rcases List.mem_cons.mp hq with rfl | hq
  · intro h; exact absurd h (by decide)
  rcases List.mem_cons.mp hq with rfl | hq
  · intro h; exact absurd h (by decide)
  rcases List.mem_cons.mp hq with rfl | hq
  · intro h; exact absurd h (by decide)
  rcases List.mem_cons.mp hq with rfl | hq
  · intro h; exact absurd h (by decide)
  exact absurd hq (List.not_mem_nil)
theorem bkL {σ : zSh} {p : Int} (h0 : 0 ≤ p) (h : ∀ j : Nat, j < 6 → σ[p.toNat + j]? = (bkS p)[j]?) : Bk σ p := by
  intro q hq hr
  obtain ⟨o, ho, e1, e2⟩ := lay2 (p := p) q hq hr
  rw [e1]
  refine ⟨by omega, ?_⟩
  rw [show (p + (o : Int)).toNat = p.toNat + o by omega, h o ho, e2]
theorem sp_get {σ : zSh} {n k : Nat} (hn : σ.length = n) : (σ ++ spS (n : Int))[n + k]? = (spS (n : Int))[k]? := by
  rw [List.getElem?_append_right (by omega)]
  congr 1
  omega
theorem spS_sh {σ : zSh} {n : Nat} (hn : σ.length = n) : Sh (σ ++ spS (n : Int)) (n : Int) := by
  have bk : ∀ (o : Nat), (∀ j : Nat, j < 6 → (spS (n : Int))[o + j]? = (bkS ((n : Int) + o))[j]?) → Bk (σ ++ spS (n : Int)) ((n : Int) + o) := by
    intro o h
    refine bkL (by omega) (fun j hj => ?_)
    rw [show ((n : Int) + (o : Int)).toNat + j = n + (o + j) by omega, sp_get hn]
    exact h j hj
  have six : ∀ (P : Nat → Prop), P 0 → P 1 → P 2 → P 3 → P 4 → P 5 → ∀ j, j < 6 → P j := by
    intro P a b c d e f j hj
    rcases (by omega : j = 0 ∨ j = 1 ∨ j = 2 ∨ j = 3 ∨ j = 4 ∨ j = 5) with rfl | rfl | rfl | rfl | rfl | rfl
    · exact a
    · exact b
    · exact c
    · exact d
    · exact e
    · exact f
  have b11 : Bk (σ ++ spS (n : Int)) ((n : Int) + 18) := bk 18 (six _ rfl rfl rfl rfl rfl rfl)
  have kk : ∀ k : Int, 0 ≤ k → k < 6 → (σ ++ spS (n : Int))[((n : Int) + 2 + k).toNat]? = some (zKt k, []) := by
    intro k h0 h6
    rcases (by omega : k = 0 ∨ k = 1 ∨ k = 2 ∨ k = 3 ∨ k = 4 ∨ k = 5) with rfl | rfl | rfl | rfl | rfl | rfl
    · rw [show ((n : Int) + 2 + 0).toNat = n + 2 by omega, sp_get hn]; rfl
    · rw [show ((n : Int) + 2 + 1).toNat = n + 3 by omega, sp_get hn]; rfl
    · rw [show ((n : Int) + 2 + 2).toNat = n + 4 by omega, sp_get hn]; rfl
    · rw [show ((n : Int) + 2 + 3).toNat = n + 5 by omega, sp_get hn]; rfl
    · rw [show ((n : Int) + 2 + 4).toNat = n + 6 by omega, sp_get hn]; rfl
    · rw [show ((n : Int) + 2 + 5).toNat = n + 7 by omega, sp_get hn]; rfl
  refine ⟨⟨by omega, ?_, b11, kk⟩, ?_⟩
  · intro q hq hr
    obtain ⟨o, ho, e1, e2⟩ := lay1 (p := (n : Int)) q hq hr
    rw [e1]
    refine ⟨by omega, ?_⟩
    rw [show ((n : Int) + (o : Int)).toNat = n + o by omega, sp_get hn, e2]
  · intro p h1 h2 h3
    rcases (by omega : p = (n : Int) + 25 ∨ p = (n : Int) + 31 ∨ p = (n : Int) + 37 ∨ p = (n : Int) + 43 ∨ p = (n : Int) + 49 ∨ p = (n : Int) + 55 ∨ p = (n : Int) + 61 ∨ p = (n : Int) + 67) with rfl | rfl | rfl | rfl | rfl | rfl | rfl | rfl
    · exact bk 25 (six _ rfl rfl rfl rfl rfl rfl)
    · exact bk 31 (six _ rfl rfl rfl rfl rfl rfl)
    · exact bk 37 (six _ rfl rfl rfl rfl rfl rfl)
    · exact bk 43 (six _ rfl rfl rfl rfl rfl rfl)
    · exact bk 49 (six _ rfl rfl rfl rfl rfl rfl)
    · exact bk 55 (six _ rfl rfl rfl rfl rfl rfl)
    · exact bk 61 (six _ rfl rfl rfl rfl rfl rfl)
    · exact bk 67 (six _ rfl rfl rfl rfl rfl rfl)
theorem zlay.app {σ s : zSh} {rg : Nat} {p : Int} (h : zlay σ rg p) : zlay (σ ++ s) rg p := by
  intro q hq hr
  obtain ⟨h0, h1⟩ := h q hq hr
  refine ⟨h0, ?_⟩
  rw [List.getElem?_append_left (List.getElem?_eq_some_iff.mp h1).1]
  exact h1
theorem Sh.app {σ s : zSh} {a : Int} (h : Sh σ a) : Sh (σ ++ s) a := ⟨⟨h.1.1, h.1.2.1.app, zlay.app h.1.2.2.1, fun k a b => by
  have := h.1.2.2.2 k a b
  rw [List.getElem?_append_left (List.getElem?_eq_some_iff.mp this).1]
  exact this⟩, fun p a b c => zlay.app (h.2 p a b c)⟩
theorem Wl.app {σ s : zSh} (h : Wl σ) : Wl (σ ++ s) := ⟨fun p => (h.1 p).app, fun p a b => (h.2 p a b).app⟩
/-- the memory with a new shop at n -/
def nwM (μ : zM) (n : Int) : zM := fun k j => if k < n then μ k j else if k = n + 24 then n + 25 + 6 * j else 0
theorem hz_cg {σ : zSh} {μ μ' : zM} (h : ∀ (k : Nat), k < σ.length → ∀ j, μ' k j = μ k j) : hz σ μ' = hz σ μ := by
  apply List.ext_getElem?
  intro i
  cases hq : σ[i]? with
  | none => rw [List.getElem?_eq_none (by rw [hz_len]; exact List.getElem?_eq_none_iff.mp hq), List.getElem?_eq_none (by rw [hz_len]; exact List.getElem?_eq_none_iff.mp hq)]
  | some c =>
    rw [hz_at hq, hz_at hq]
    congr 2
    funext j
    exact h i (List.getElem?_eq_some_iff.mp hq).1 j
def nwG (n : Int) (i : Nat) : Int → Int := if i = 24 then (fun j => n + 25 + 6 * j) else fun _ => 0
def zmk (g : Nat → Int → Int) : Nat → zSh → xH
  | _, [] => []
  | i, c :: r => hcz c (g i) :: zmk g (i + 1) r
theorem zmk_map (g : Nat → Int → Int) : ∀ (s : zSh) (i : Nat), s.mapIdx (fun k c => hcz c (g (k + i))) = zmk g i s
  | [], _ => rfl
  | c :: r, i => by
    have ih := zmk_map g r (i + 1)
    rw [List.mapIdx_cons]
    show hcz c (g (0 + i)) :: _ = hcz c (g i) :: zmk g (i + 1) r
    rw [Nat.zero_add, ← ih]
    refine congrArg (List.cons _) ?_
    refine congrArg (fun f => List.mapIdx f r) ?_
    funext k c'
    rw [Nat.add_assoc k 1 i, Nat.add_comm 1 i]
theorem cons_cg {a b : xC} {l m : xH} (h : a = b) (h2 : l = m) : a :: l = b :: m := by rw [h, h2]
set_option maxRecDepth 100000 in
theorem spS_H (n : Nat) : zmk (nwG (n : Int)) 0 (spS (n : Int)) = spH n := by
  refine cons_cg ?_ (cons_cg ?_ (cons_cg ?_ (cons_cg ?_ (cons_cg ?_ (cons_cg ?_ (cons_cg ?_ (cons_cg ?_ (cons_cg ?_ (cons_cg ?_ (cons_cg ?_ (cons_cg ?_ (cons_cg ?_ (cons_cg ?_ (cons_cg ?_ (cons_cg ?_ (cons_cg ?_ (cons_cg ?_ (cons_cg ?_ (cons_cg ?_ (cons_cg ?_ (cons_cg ?_ (cons_cg ?_ (cons_cg ?_ (cons_cg ?_ (cons_cg ?_ (cons_cg ?_ (cons_cg ?_ (cons_cg ?_ (cons_cg ?_ (cons_cg ?_ (cons_cg ?_ (cons_cg ?_ (cons_cg ?_ (cons_cg ?_ (cons_cg ?_ (cons_cg ?_ (cons_cg ?_ (cons_cg ?_ (cons_cg ?_ (cons_cg ?_ (cons_cg ?_ (cons_cg ?_ (cons_cg ?_ (cons_cg ?_ (cons_cg ?_ (cons_cg ?_ (cons_cg ?_ (cons_cg ?_ (cons_cg ?_ (cons_cg ?_ (cons_cg ?_ (cons_cg ?_ (cons_cg ?_ (cons_cg ?_ (cons_cg ?_ (cons_cg ?_ (cons_cg ?_ (cons_cg ?_ (cons_cg ?_ (cons_cg ?_ (cons_cg ?_ (cons_cg ?_ (cons_cg ?_ (cons_cg ?_ (cons_cg ?_ (cons_cg ?_ (cons_cg ?_ (cons_cg ?_ (cons_cg ?_ (cons_cg ?_ (cons_cg ?_ (cons_cg ?_ (rfl)))))))))))))))))))))))))))))))))))))))))))))))))))))))))))))))))))))))))
  all_goals rfl
theorem hz_new {σ : zSh} {μ : zM} {n : Nat} (hn : σ.length = n) : hz (σ ++ spS (n : Int)) (nwM μ n) = hz σ μ ++ spH n := by
  have e1 : hz σ (nwM μ n) = hz σ μ := by
    refine hz_cg (fun k hk j => ?_)
    unfold nwM
    rw [if_pos (by omega)]
  have e2 : (spS (n : Int)).mapIdx (fun i c => hcz c (nwM μ n ((i + σ.length : Nat) : Int))) = spH n := by
    rw [← spS_H, ← zmk_map]
    refine congrArg (fun f => List.mapIdx f (spS (n : Int))) ?_
    funext i c
    refine congrArg (hcz c) ?_
    funext j
    unfold nwM nwG
    rw [hn, if_neg (by omega)]
    by_cases e : i = 24
    · rw [if_pos (by omega), if_pos (by omega)]
    · rw [if_neg (by omega), if_neg (by omega)]
  rw [← e1, ← e2]
  unfold hz
  rw [List.mapIdx_append]
theorem PS_new {μ : zM} {n : Int} : PS (nwM μ n) n := by
  have e : ∀ u, nwM μ n (n + 24) u = n + 25 + 6 * u := fun u => by unfold nwM; rw [if_neg (by omega), if_pos rfl]
  refine ⟨fun u p q => ?_, fun u w p q r s z => ?_⟩
  · rw [e]; omega
  · rw [e, e] at z; omega
