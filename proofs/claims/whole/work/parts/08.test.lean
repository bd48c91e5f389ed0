/-- the first view let to a renter, from v on -/
def sHeld (t : List Int32) (r : Int32) : Nat → Nat → Int32
  | 0, _ => -1
  | n + 1, v => if t.getD v 0 = r then nI v else sHeld t r n (v + 1)
theorem xixI {l : List Int32} {i : Int32} {k : Nat} (hi : i = nI k) (hk : k < l.length) (hl : l.length < 2 ^ 31) : xix i (l.map Value.int) = some (.int (l.getD k 0)) := by
  subst hi
  unfold xix
  rw [if_neg (nI_pos (by omega)), nI_clamp (by omega), List.getElem?_map, List.getElem?_eq_getElem hk, List.getD_eq_getElem?_getD, List.getElem?_eq_getElem hk]
  rfl
set_option maxRecDepth 10000 in
theorem c_viewHeldBy_loop {ext : List xC} {d b t9 : Nat} {h : xH} {f0 f1 f2 f3 f5 f6 f7 : Value} {t : List Int32} (hb : h[b]? = some (0, [f0, f1, f2, f3, .ref t9, f5, f6, f7])) (ht : h[t9]? = some (20, t.map Value.int)) (hl : t.length = 6) (r : Int32) :
    ∀ (n v : Nat), v + n = 6 → Ev ext d n_X0_viewHeldBy 2 [.ref b, .int r, .int (nI v)] [] h (some (.int (sHeld t r n v))) h
  | 0, v, hv => by
    refine Ev.s rfl rfl ?_
    refine Ev.s rfl rfl ?_
    refine Ev.icmp rfl (fun hc => ?_) (fun hc => ?_)
    · refine Ev.s rfl rfl ?_
      exact Ev.r rfl rfl
    · obtain rfl : v = 6 := by omega
      exact absurd hc (by decide)
  | n + 1, v, hv => by
    refine Ev.s rfl rfl ?_
    refine Ev.s rfl rfl ?_
    refine Ev.icmp rfl (fun hc => ?_) (fun hc => ?_)
    · have h1 : nI 6 ≤ nI v := of_decide_eq_true hc
      rw [nI_leI (by omega) (by omega)] at h1
      omega
    · refine Ev.s rfl rfl ?_
      refine Ev.gf rfl hb rfl ?_
      refine Ev.s rfl rfl ?_
      refine Ev.ia rfl ht (xixI rfl (by omega) (by omega)) ?_
      refine Ev.s rfl rfl ?_
      refine Ev.icmp rfl (fun hc => ?_) (fun hc => ?_)
      · have h1 : ¬ t.getD v 0 = r := by simpa [xcmp] using hc
        refine Ev.s rfl rfl ?_
        refine Ev.s rfl rfl ?_
        have ih := c_viewHeldBy_loop (ext := ext) (d := d) hb ht hl r n (v + 1) (by omega)
        rw [sHeld, if_neg h1]
        rw [nI_succ] at ih
        exact ih
      · have h1 : t.getD v 0 = r := by simpa [xcmp] using hc
        rw [sHeld, if_pos h1]
        refine Ev.s rfl rfl ?_
        exact Ev.r rfl rfl
set_option maxRecDepth 10000 in
theorem c_viewHeldBy {ext : List xC} {d b t9 : Nat} {h : xH} {f0 f1 f2 f3 f5 f6 f7 : Value} {t : List Int32} (hb : h[b]? = some (0, [f0, f1, f2, f3, .ref t9, f5, f6, f7])) (ht : h[t9]? = some (20, t.map Value.int)) (hl : t.length = 6) (r : Int32) :
    EvM ext d n_X0_viewHeldBy [.ref b, .int r] h (some (.int (sHeld t r 6 0))) h := by
  refine Ev.s rfl rfl ?_
  refine Ev.s rfl rfl ?_
  exact c_viewHeldBy_loop hb ht hl r 6 0 rfl
