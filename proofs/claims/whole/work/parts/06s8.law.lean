def R_law : String := "RentedViewsLaw"
def lw_P (b : Addr) (xs : List Int32) (args : Array Value) (s : State) : Prop := args = #[.ref b] ∧ s.IntsAt b xs ∧ xs.length ≤ 320 ∧ (Jvm.Cond.and given_1 narrow_1).before args s = true
def lw_Q (_ : Array Value) (s : State) (o : Outcome) (t : State) : Prop := o = .returned (some (.int 1)) ∧ Framed s o t [] 600000 7302250
def lw_Z (below : List Frame) (a : Array Value) (s : State) : State → Prop := fun t => ∃ o, t.status = .running ∧ Ended t below o ∧ lw_Q a s o t
/-- the law's own end, with 1 on the stack, nothing written that was there before, its room as the claim has it -/
theorem lw_ret {p : Program} {l : Launch} {e : Env} {s : State} {m : MethodId} {below : List Frame} {meth : Method} {c : Code} {b : Nat} (hx : p.tables.exec = Jvm.exec) (hb : c.code = code) (hr : meth.sig.returnType = ret) (hlocks : meth.locks = false) {pc : Nat} {H : Heap} {ls : Array Slot} (hdg : decode code pc = .ok (.ireturn, 1)) : W p l e room_1 s m #[Value.ref b] below meth c H [] 600000 7302250 (lw_Z below #[Value.ref b] s) (F0 m pc ls [.int 1]) := by
  intro T hT X
  obtain ⟨fs, hret, hrun, hended, hW, hframe⟩ := X.leave (v := some (.int 1)) (hlocks := hlocks) (fun h => by rw [hr] at h; cases h)
  have hmeth' : T.vm.method? m = some meth := X.method'
  refine ⟨T.setFrames fs, ?_, .returned (some (.int 1)), hrun, hended, rfl, ⟨_, rfl⟩, hW, hframe⟩
  jvm_step X.here [X.here.top, hx, hb, hdg, hmeth', hr, ret, narrow_b1]
  (try refine ⟨rfl, ?_⟩); (try refine ⟨rfl, ?_⟩)
  first | (intro acts; rw [hret _ acts rfl rfl rfl]) | rw [hret _ _ rfl rfl rfl]
  exact Steps.refl _
/-- what holds at the law's entry: the machine, the code, the tables' words (any of lw_tbl by 'hts w (by decide +kernel)'), the script of L ints xs at the cell b, what the Statement gives of the start (any of its parts by flat_of_before) -/
def lw_At (p : Program) (s : State) (m : MethodId) (meth : Method) (c : Code) (b L : Nat) (xs : Nat → Int32) : Prop :=
  p.tables.exec = Jvm.exec ∧ c.code = code ∧ meth.sig.returnType = ret ∧ c.maxLocals = 4 ∧ s.vm.findClass R_law = some m.cls ∧ (∀ w ∈ lw_tbl, w.before #[Value.ref b] s = true) ∧ va_X b L xs s s.heap ∧ b < s.heap.size ∧ meth.locks = false ∧ (Jvm.Cond.and given_1 narrow_1).before #[Value.ref b] s = true
/-! The law, out of a run of the small machine. -/
set_option maxRecDepth 100000 in
theorem xallT : ∀ m ∈ xtab, ∀ q ∈ m.2, ∃ ps, xchk m q ps = true := List.forall_mem_cons.mpr ⟨o_X0_init, List.forall_mem_cons.mpr ⟨o_X0_empty, List.forall_mem_cons.mpr ⟨o_X0_copyFrom, List.forall_mem_cons.mpr ⟨o_X0_bringAllBack, List.forall_mem_cons.mpr ⟨o_X0_write, List.forall_mem_cons.mpr ⟨o_X0_dropFirstLetting, List.forall_mem_cons.mpr ⟨o_X0_viewHeldBy, List.forall_mem_cons.mpr ⟨o_X0_letNow, List.forall_mem_cons.mpr ⟨o_X0_rentersWhoHad, List.forall_mem_cons.mpr ⟨o_X0_firstEveningOf, List.forall_mem_cons.mpr ⟨o_X1_init, List.forall_mem_cons.mpr ⟨o_X1_fee, List.forall_mem_cons.mpr ⟨o_X1_fits, List.forall_mem_cons.mpr ⟨o_X2_init, List.forall_mem_cons.mpr ⟨o_X2_suitedIn, List.forall_mem_cons.mpr ⟨o_X2_moneyIn, List.forall_mem_cons.mpr ⟨o_X2_open, List.forall_mem_cons.mpr ⟨o_X2_addRenter, List.forall_mem_cons.mpr ⟨o_X2_suitsAtAnyPrice, List.forall_mem_cons.mpr ⟨o_X2_isSuited, List.forall_mem_cons.mpr ⟨o_X2_solve, List.forall_mem_cons.mpr ⟨o_X2_mostFor, List.forall_mem_cons.mpr ⟨o_X2_viewInBest, List.forall_mem_cons.mpr ⟨o_X2_firstBest, List.forall_mem_cons.mpr ⟨o_X2_asTheyCome, List.forall_mem_cons.mpr ⟨o_X2_dearest, List.forall_mem_cons.mpr ⟨o_X2_priceForMostMoney, List.forall_mem_cons.mpr ⟨o_X2_solveWithout, List.forall_mem_cons.mpr ⟨o_X2_mostAtFee, List.forall_mem_cons.mpr ⟨o_X2_weighedMoney, List.forall_mem_cons.mpr ⟨o_X2_suitedByDraw, List.forall_mem_cons.mpr ⟨o_X3_init, List.forall_mem_cons.mpr ⟨o_X3_showing, List.forall_mem_cons.mpr ⟨o_X3_fee, List.forall_mem_cons.mpr ⟨o_X4_init, List.forall_mem_cons.mpr ⟨o_X4_showing, List.forall_mem_cons.mpr ⟨o_X4_fee, List.forall_mem_cons.mpr ⟨o_X5_init, List.forall_mem_cons.mpr ⟨o_X5_guess, List.forall_mem_cons.mpr ⟨o_X5_showing, List.forall_mem_cons.mpr ⟨o_X5_fitsReadings, List.forall_mem_cons.mpr ⟨o_X5_kindBits, List.forall_mem_cons.mpr ⟨o_X5_bestEvening, List.forall_mem_cons.mpr ⟨o_X5_mostAlike, List.forall_mem_cons.mpr ⟨o_X6_init, List.forall_mem_cons.mpr ⟨o_X6_showing, List.forall_mem_cons.mpr ⟨o_X6_fee, List.forall_mem_cons.mpr ⟨o_X7_init, List.forall_mem_cons.mpr ⟨o_X7_showing, List.forall_mem_cons.mpr ⟨o_X7_fee, List.forall_mem_cons.mpr ⟨o_X7_fits, List.forall_mem_cons.mpr ⟨o_X8_init, List.forall_mem_cons.mpr ⟨o_X8_add, List.forall_mem_cons.mpr ⟨o_X8_readInto, List.forall_mem_cons.mpr ⟨o_X8_readItem, List.forall_mem_cons.mpr ⟨o_X8_readView, List.forall_mem_cons.mpr ⟨o_X8_readRenter, List.forall_mem_cons.mpr ⟨o_X8_readThing, List.forall_mem_cons.mpr ⟨o_X8_passMark, List.forall_mem_cons.mpr ⟨o_X8_passNumber, List.forall_mem_cons.mpr ⟨o_X8_numberMet, List.forall_mem_cons.mpr ⟨o_X8_isWord, List.forall_mem_cons.mpr ⟨o_X8_step, List.forall_mem_cons.mpr ⟨o_X8_sortAt, List.forall_mem_cons.mpr ⟨o_X9_init, List.forall_mem_cons.mpr ⟨o_X9_empty, List.forall_mem_cons.mpr ⟨o_X9_copyFrom, List.forall_mem_cons.mpr ⟨o_X9_addView, List.forall_mem_cons.mpr ⟨o_X9_addRenter, List.forall_mem_cons.mpr ⟨o_X9_addReading, List.forall_mem_cons.mpr ⟨o_X9_remember, List.forall_mem_cons.mpr ⟨o_X9_moveOldestToEnd, List.forall_mem_cons.mpr ⟨o_X9_goBack, List.forall_mem_cons.mpr ⟨o_X9_showing, List.forall_mem_cons.mpr ⟨o_X9_fee, List.forall_mem_cons.mpr ⟨o_X9_feeAt, List.forall_mem_cons.mpr ⟨o_X9_fits, List.forall_mem_cons.mpr ⟨o_X9_mayLet, List.forall_mem_cons.mpr ⟨o_X9_airNow, List.forall_mem_cons.mpr ⟨o_X9_airOf, List.forall_mem_cons.mpr ⟨o_X9_fewestForAir, List.forall_mem_cons.mpr ⟨o_X9_digestFrom, List.forall_mem_cons.mpr ⟨o_X10_init, List.forall_mem_cons.mpr ⟨o_X10_showing, List.forall_mem_cons.mpr ⟨o_X11_init, List.forall_mem_cons.mpr ⟨o_X11_shop, List.forall_mem_cons.mpr ⟨o_X11_view, List.forall_mem_cons.mpr ⟨o_X11_renter, List.forall_mem_cons.mpr ⟨o_X11_things, List.forall_mem_cons.mpr ⟨o_X11_type, List.forall_mem_cons.mpr ⟨o_X11_clear, List.forall_mem_cons.mpr ⟨o_X11_read, List.forall_mem_cons.mpr ⟨o_X11_let, List.forall_mem_cons.mpr ⟨o_X11_night, List.forall_mem_cons.mpr ⟨o_X11_undo, List.forall_mem_cons.mpr ⟨o_X11_of, List.forall_mem_cons.mpr ⟨o_X11_about, List.forall_mem_cons.mpr ⟨o_X11_shows, List.forall_mem_cons.mpr ⟨o_X11_suits, List.forall_mem_cons.mpr ⟨o_X11_best, List.forall_mem_cons.mpr ⟨o_X11_money, List.forall_mem_cons.mpr ⟨o_X11_come, List.forall_mem_cons.mpr ⟨o_X11_more, List.forall_mem_cons.mpr ⟨o_X11_changed, List.forall_mem_cons.mpr ⟨o_X11_air, List.forall_mem_cons.mpr ⟨o_X11_bring, List.forall_mem_cons.mpr ⟨o_X11_left, List.forall_mem_cons.mpr ⟨o_X11_reading, List.forall_mem_cons.mpr ⟨o_X11_forget, List.forall_mem_cons.mpr ⟨o_X11_is, List.forall_mem_cons.mpr ⟨o_X11_look, List.forall_mem_cons.mpr ⟨o_X11_odds, List.forall_mem_cons.mpr ⟨o_X11_drawn, List.forall_mem_cons.mpr ⟨o_X11_part, List.forall_mem_cons.mpr ⟨o_X11_image, List.forall_mem_cons.mpr ⟨o_X11_from, List.forall_mem_cons.mpr ⟨o_X11_status, List.forall_mem_cons.mpr ⟨o_X11_count, List.forall_mem_cons.mpr ⟨o_X11_digest, List.forall_mem_cons.mpr ⟨o_X11_within, List.forall_mem_cons.mpr ⟨o_X11_isWeather, List.forall_mem_cons.mpr ⟨o_X11_isEvening, List.forall_mem_cons.mpr ⟨o_X11_isRenterTold, List.forall_mem_cons.mpr ⟨o_X11_isView, List.forall_mem_cons.mpr ⟨o_X11_isRenter, List.forall_mem_cons.mpr ⟨o_X11_isPair, List.forall_mem_cons.mpr ⟨o_X11_refuse, List.forall_mem_cons.mpr ⟨o_X11_refuseApart, List.forall_mem_cons.mpr ⟨o_X11_greatestCommon, List.forall_mem_cons.mpr ⟨o_X12_init, List.forall_mem_cons.mpr ⟨o_X12_in, List.forall_mem_cons.mpr ⟨o_X12_bad, List.forall_mem_cons.mpr ⟨o_X12_no, List.forall_mem_cons.mpr ⟨o_X12_full, List.forall_mem_cons.mpr ⟨o_X12_begin, List.forall_mem_cons.mpr ⟨o_X12_views, List.forall_mem_cons.mpr ⟨o_X12_renters, List.forall_mem_cons.mpr ⟨o_X12_isView, List.forall_mem_cons.mpr ⟨o_X12_isRenter, List.forall_mem_cons.mpr ⟨o_X12_isEvening, List.forall_mem_cons.mpr ⟨o_X12_isWeather, List.forall_mem_cons.mpr ⟨o_X12_viewHas, List.forall_mem_cons.mpr ⟨o_X12_renterHas, List.forall_mem_cons.mpr ⟨o_X12_shop, List.forall_mem_cons.mpr ⟨o_X12_isViewTold, List.forall_mem_cons.mpr ⟨o_X12_layView, List.forall_mem_cons.mpr ⟨o_X12_view, List.forall_mem_cons.mpr ⟨o_X12_isRenterTold, List.forall_mem_cons.mpr ⟨o_X12_layRenter, List.forall_mem_cons.mpr ⟨o_X12_renter, List.forall_mem_cons.mpr ⟨o_X12_things, List.forall_mem_cons.mpr ⟨o_X12_lake, List.forall_mem_cons.mpr ⟨o_X12_weatherOf, List.forall_mem_cons.mpr ⟨o_X12_costOf, List.forall_mem_cons.mpr ⟨o_X12_showsIn, List.forall_mem_cons.mpr ⟨o_X12_fits, List.forall_mem_cons.mpr ⟨o_X12_layHand, List.forall_mem_cons.mpr ⟨o_X12_doesSuit, List.forall_mem_cons.mpr ⟨o_X12_laySuit, List.forall_mem_cons.mpr ⟨o_X12_keep, List.forall_mem_cons.mpr ⟨o_X12_viewOf, List.forall_mem_cons.mpr ⟨o_X12_remember, List.forall_mem_cons.mpr ⟨o_X12_let, List.forall_mem_cons.mpr ⟨o_X12_night, List.forall_mem_cons.mpr ⟨o_X12_undo, List.forall_mem_cons.mpr ⟨o_X12_of, List.forall_mem_cons.mpr ⟨o_X12_about, List.forall_mem_cons.mpr ⟨o_X12_shows, List.forall_mem_cons.mpr ⟨o_X12_suits, List.forall_mem_cons.mpr ⟨o_X12_judgeRow, List.forall_mem_cons.mpr ⟨o_X12_freeBut, List.forall_mem_cons.mpr ⟨o_X12_nextView, List.forall_mem_cons.mpr ⟨o_X12_layBest, List.forall_mem_cons.mpr ⟨o_X12_best, List.forall_mem_cons.mpr ⟨o_X12_money, List.forall_mem_cons.mpr ⟨o_X12_layCome, List.forall_mem_cons.mpr ⟨o_X12_allRenters, List.forall_mem_cons.mpr ⟨o_X12_come, List.forall_mem_cons.mpr ⟨o_X12_more, List.forall_mem_cons.mpr ⟨o_X12_changed, List.forall_mem_cons.mpr ⟨o_X12_areOpposite, List.forall_mem_cons.mpr ⟨o_X12_air, List.forall_mem_cons.mpr ⟨o_X12_bring, List.forall_mem_cons.mpr ⟨o_X12_left, List.forall_mem_cons.mpr ⟨o_X12_reading, List.forall_mem_cons.mpr ⟨o_X12_forget, List.forall_mem_cons.mpr ⟨o_X12_mayBe, List.forall_mem_cons.mpr ⟨o_X12_is, List.forall_mem_cons.mpr ⟨o_X12_mostLike, List.forall_mem_cons.mpr ⟨o_X12_look, List.forall_mem_cons.mpr ⟨o_X12_fraction, List.forall_mem_cons.mpr ⟨o_X12_odds, List.forall_mem_cons.mpr ⟨o_X12_drawn, List.forall_mem_cons.mpr ⟨o_X12_type, List.forall_mem_cons.mpr ⟨o_X12_clear, List.forall_mem_cons.mpr ⟨o_X12_isSmall, List.forall_mem_cons.mpr ⟨o_X12_isFigure, List.forall_mem_cons.mpr ⟨o_X12_lookAt, List.forall_mem_cons.mpr ⟨o_X12_goBehind, List.forall_mem_cons.mpr ⟨o_X12_isCalled, List.forall_mem_cons.mpr ⟨o_X12_takes, List.forall_mem_cons.mpr ⟨o_X12_takesView, List.forall_mem_cons.mpr ⟨o_X12_takesRenter, List.forall_mem_cons.mpr ⟨o_X12_takesThing, List.forall_mem_cons.mpr ⟨o_X12_takesItem, List.forall_mem_cons.mpr ⟨o_X12_read, List.forall_mem_cons.mpr ⟨o_X12_part, List.forall_mem_cons.mpr ⟨o_X12_image, List.forall_mem_cons.mpr ⟨o_X12_from, List.forall_mem_cons.mpr ⟨o_X12_status, List.forall_mem_cons.mpr ⟨o_X12_manyLet, List.forall_mem_cons.mpr ⟨o_X12_counted, List.forall_mem_cons.mpr ⟨o_X12_count, List.forall_mem_cons.mpr ⟨o_X12_sums, List.forall_mem_cons.mpr ⟨o_X12_digest, List.forall_mem_cons.mpr ⟨o_J9_floorMod_7cf53, List.forall_mem_cons.mpr ⟨o_J9_max_7cf53, List.forall_mem_cons.mpr ⟨o_J9_min_7cf53, List.forall_mem_cons.mpr ⟨o_J0_length_8abf5, List.forall_mem_cons.mpr ⟨o_J0_charAt_5068e, List.forall_mem_cons.mpr ⟨o_J0_coder_7d493, List.forall_mem_cons.mpr ⟨o_J0_isLatin1_aae02, List.forall_mem_cons.mpr ⟨o_J0_checkIndex_df160, List.forall_mem_cons.mpr ⟨o_J1_charAt_3b067, List.forall_mem_cons.mpr ⟨o_J7_fill_53178, List.forall_mem_cons.mpr ⟨o_J3_checkIndex_8e157, List.forall_mem_cons.mpr ⟨o_L_law, fun _ h => absurd h List.not_mem_nil⟩⟩⟩⟩⟩⟩⟩⟩⟩⟩⟩⟩⟩⟩⟩⟩⟩⟩⟩⟩⟩⟩⟩⟩⟩⟩⟩⟩⟩⟩⟩⟩⟩⟩⟩⟩⟩⟩⟩⟩⟩⟩⟩⟩⟩⟩⟩⟩⟩⟩⟩⟩⟩⟩⟩⟩⟩⟩⟩⟩⟩⟩⟩⟩⟩⟩⟩⟩⟩⟩⟩⟩⟩⟩⟩⟩⟩⟩⟩⟩⟩⟩⟩⟩⟩⟩⟩⟩⟩⟩⟩⟩⟩⟩⟩⟩⟩⟩⟩⟩⟩⟩⟩⟩⟩⟩⟩⟩⟩⟩⟩⟩⟩⟩⟩⟩⟩⟩⟩⟩⟩⟩⟩⟩⟩⟩⟩⟩⟩⟩⟩⟩⟩⟩⟩⟩⟩⟩⟩⟩⟩⟩⟩⟩⟩⟩⟩⟩⟩⟩⟩⟩⟩⟩⟩⟩⟩⟩⟩⟩⟩⟩⟩⟩⟩⟩⟩⟩⟩⟩⟩⟩⟩⟩⟩⟩⟩⟩⟩⟩⟩⟩⟩⟩⟩⟩⟩⟩⟩⟩⟩⟩⟩⟩⟩⟩⟩⟩⟩⟩⟩⟩⟩⟩⟩⟩⟩⟩⟩⟩⟩⟩⟩⟩⟩⟩⟩⟩⟩⟩⟩⟩⟩⟩⟩⟩⟩
theorem xallok : ∀ mi, ∀ q ∈ (xmt mi).2, ∃ ps, xchk (xmt mi) q ps = true := by
  intro mi q hq
  unfold xmt at hq ⊢
  rw [List.getD_eq_getElem?_getD] at hq ⊢
  cases hm : xtab[mi]? with
  | none =>
    rw [hm] at hq
    exact absurd hq List.not_mem_nil
  | some m =>
    rw [hm] at hq
    exact xallT m (List.mem_of_getElem? hm) q hq
/-- the outer cells: the script, four texts, their bytes -/
def xext (L : Nat) (xs : Nat → Int32) : List xC := [(20, (List.range L).map fun j => .int (xs j)), (13, [.retAddr 5, .int 0]), (13, [.retAddr 6, .int 0]), (13, [.retAddr 7, .int 0]), (13, [.retAddr 8, .int 0]), (21, [.int 115, .int 104, .int 111, .int 112]), (21, [.int 118, .int 105, .int 101, .int 119]), (21, [.int 114, .int 101, .int 110, .int 116, .int 101, .int 114]), (21, [.int 116, .int 104, .int 105, .int 110, .int 103])]
def xstI (i : Nat) : Nat := [34, 51, 59, 67].getD i 0
def xstM (i : Nat) : Term := Term.string "RentedViews$Reader" (xstI i)
def xstL : List Nat := [4, 4, 6, 5]
def xstB : List (List Int32) := [[115, 104, 111, 112], [118, 105, 101, 119], [114, 101, 110, 116, 101, 114], [116, 104, 105, 110, 103]]
theorem xinst : ∀ c ∈ xcl, Jvm.Cond.instantiable c.1 c.2.2 ∈ lw_tbl := by decide +kernel
theorem xacls : ∀ t ∈ [20, 21, 22], Jvm.Cond.arrayClass (xaty t) ∈ lw_tbl := by decide +kernel
theorem xaovr : ∀ t ∈ [23, 24, 25, 26], Jvm.Cond.arrayOver (xaty t) ∈ lw_tbl := by decide +kernel
theorem xstrs : lw_tbl.all (fun w => match w with
  | .stringRef o i t => decide ((o, i, t) ∈ [("RentedViews$Reader", 34, "shop"), ("RentedViews$Reader", 51, "view"), ("RentedViews$Reader", 59, "renter"), ("RentedViews$Reader", 67, "thing")])
  | _ => true) = true := by decide +kernel
theorem xtxt {b : Nat} {s : State} (hgv : (Jvm.Cond.and given_1 narrow_1).before #[Value.ref b] s = true) : ∃ adK adV : Nat → Nat, vk_S 4 xstL xstB adK adV (fun q => s.heap.size ≤ q) s s.heap ∧ ∀ i : Nat, i < 4 → (xstM i).eval #[Value.ref b] s none [] s = some (.ref (adK i)) := by
  have hs := flat_of_before _ hgv
  have c4 : ∀ {P : Nat → Prop}, P 0 → P 1 → P 2 → P 3 → ∀ i : Nat, i < 4 → P i := fun h0 h1 h2 h3 i hi => by
    have : i = 0 ∨ i = 1 ∨ i = 2 ∨ i = 3 := by omega
    rcases this with rfl | rfl | rfl | rfl <;> assumption
  refine vk_Sof (tm := xstM) (len := xstL) (byt := xstB) (c4 (by decide) (by decide) (by decide) (by decide)) (c4 ?_ ?_ ?_ ?_) (c4 ?_ ?_ ?_ ?_) (c4 ?_ ?_ ?_ ?_) (c4 ?_ ?_ ?_ ?_) (c4 ?_ ?_ ?_ ?_) ?_ (fun a h1 h2 => absurd h1 (Nat.not_lt.mpr h2))
  · exact hs (Jvm.Cond.exactly (Term.string "RentedViews$Reader" 34) "java/lang/String") (by decide +kernel)
  · exact hs (Jvm.Cond.exactly (Term.string "RentedViews$Reader" 51) "java/lang/String") (by decide +kernel)
  · exact hs (Jvm.Cond.exactly (Term.string "RentedViews$Reader" 59) "java/lang/String") (by decide +kernel)
  · exact hs (Jvm.Cond.exactly (Term.string "RentedViews$Reader" 67) "java/lang/String") (by decide +kernel)
  · exact hs (Jvm.Cond.eq (.field (Term.string "RentedViews$Reader" 34) "java/lang/String" "coder" "B") (.int 0)) (by decide +kernel)
  · exact hs (Jvm.Cond.eq (.field (Term.string "RentedViews$Reader" 51) "java/lang/String" "coder" "B") (.int 0)) (by decide +kernel)
  · exact hs (Jvm.Cond.eq (.field (Term.string "RentedViews$Reader" 59) "java/lang/String" "coder" "B") (.int 0)) (by decide +kernel)
  · exact hs (Jvm.Cond.eq (.field (Term.string "RentedViews$Reader" 67) "java/lang/String" "coder" "B") (.int 0)) (by decide +kernel)
  · exact hs (Jvm.Cond.arrayOf (.field (Term.string "RentedViews$Reader" 34) "java/lang/String" "value" "[B") .byte) (by decide +kernel)
  · exact hs (Jvm.Cond.arrayOf (.field (Term.string "RentedViews$Reader" 51) "java/lang/String" "value" "[B") .byte) (by decide +kernel)
  · exact hs (Jvm.Cond.arrayOf (.field (Term.string "RentedViews$Reader" 59) "java/lang/String" "value" "[B") .byte) (by decide +kernel)
  · exact hs (Jvm.Cond.arrayOf (.field (Term.string "RentedViews$Reader" 67) "java/lang/String" "value" "[B") .byte) (by decide +kernel)
  · exact hs (Jvm.Cond.eq (.length (.field (Term.string "RentedViews$Reader" 34) "java/lang/String" "value" "[B")) (.int 4)) (by decide +kernel)
  · exact hs (Jvm.Cond.eq (.length (.field (Term.string "RentedViews$Reader" 51) "java/lang/String" "value" "[B")) (.int 4)) (by decide +kernel)
  · exact hs (Jvm.Cond.eq (.length (.field (Term.string "RentedViews$Reader" 59) "java/lang/String" "value" "[B")) (.int 6)) (by decide +kernel)
  · exact hs (Jvm.Cond.eq (.length (.field (Term.string "RentedViews$Reader" 67) "java/lang/String" "value" "[B")) (.int 5)) (by decide +kernel)
  · intro j hj
    have hj : j < 4 := hj
    have : j = 0 ∨ j = 1 ∨ j = 2 ∨ j = 3 := by omega
    rcases this with rfl | rfl | rfl | rfl
    · exact hs (Jvm.Cond.eq (.elem (.field (Term.string "RentedViews$Reader" 34) "java/lang/String" "value" "[B") (.int 0)) (.int 115)) (by decide +kernel)
    · exact hs (Jvm.Cond.eq (.elem (.field (Term.string "RentedViews$Reader" 34) "java/lang/String" "value" "[B") (.int 1)) (.int 104)) (by decide +kernel)
    · exact hs (Jvm.Cond.eq (.elem (.field (Term.string "RentedViews$Reader" 34) "java/lang/String" "value" "[B") (.int 2)) (.int 111)) (by decide +kernel)
    · exact hs (Jvm.Cond.eq (.elem (.field (Term.string "RentedViews$Reader" 34) "java/lang/String" "value" "[B") (.int 3)) (.int 112)) (by decide +kernel)
  · intro j hj
    have hj : j < 4 := hj
    have : j = 0 ∨ j = 1 ∨ j = 2 ∨ j = 3 := by omega
    rcases this with rfl | rfl | rfl | rfl
    · exact hs (Jvm.Cond.eq (.elem (.field (Term.string "RentedViews$Reader" 51) "java/lang/String" "value" "[B") (.int 0)) (.int 118)) (by decide +kernel)
    · exact hs (Jvm.Cond.eq (.elem (.field (Term.string "RentedViews$Reader" 51) "java/lang/String" "value" "[B") (.int 1)) (.int 105)) (by decide +kernel)
    · exact hs (Jvm.Cond.eq (.elem (.field (Term.string "RentedViews$Reader" 51) "java/lang/String" "value" "[B") (.int 2)) (.int 101)) (by decide +kernel)
    · exact hs (Jvm.Cond.eq (.elem (.field (Term.string "RentedViews$Reader" 51) "java/lang/String" "value" "[B") (.int 3)) (.int 119)) (by decide +kernel)
  · intro j hj
    have hj : j < 6 := hj
    have : j = 0 ∨ j = 1 ∨ j = 2 ∨ j = 3 ∨ j = 4 ∨ j = 5 := by omega
    rcases this with rfl | rfl | rfl | rfl | rfl | rfl
    · exact hs (Jvm.Cond.eq (.elem (.field (Term.string "RentedViews$Reader" 59) "java/lang/String" "value" "[B") (.int 0)) (.int 114)) (by decide +kernel)
    · exact hs (Jvm.Cond.eq (.elem (.field (Term.string "RentedViews$Reader" 59) "java/lang/String" "value" "[B") (.int 1)) (.int 101)) (by decide +kernel)
    · exact hs (Jvm.Cond.eq (.elem (.field (Term.string "RentedViews$Reader" 59) "java/lang/String" "value" "[B") (.int 2)) (.int 110)) (by decide +kernel)
    · exact hs (Jvm.Cond.eq (.elem (.field (Term.string "RentedViews$Reader" 59) "java/lang/String" "value" "[B") (.int 3)) (.int 116)) (by decide +kernel)
    · exact hs (Jvm.Cond.eq (.elem (.field (Term.string "RentedViews$Reader" 59) "java/lang/String" "value" "[B") (.int 4)) (.int 101)) (by decide +kernel)
    · exact hs (Jvm.Cond.eq (.elem (.field (Term.string "RentedViews$Reader" 59) "java/lang/String" "value" "[B") (.int 5)) (.int 114)) (by decide +kernel)
  · intro j hj
    have hj : j < 5 := hj
    have : j = 0 ∨ j = 1 ∨ j = 2 ∨ j = 3 ∨ j = 4 := by omega
    rcases this with rfl | rfl | rfl | rfl | rfl
    · exact hs (Jvm.Cond.eq (.elem (.field (Term.string "RentedViews$Reader" 67) "java/lang/String" "value" "[B") (.int 0)) (.int 116)) (by decide +kernel)
    · exact hs (Jvm.Cond.eq (.elem (.field (Term.string "RentedViews$Reader" 67) "java/lang/String" "value" "[B") (.int 1)) (.int 104)) (by decide +kernel)
    · exact hs (Jvm.Cond.eq (.elem (.field (Term.string "RentedViews$Reader" 67) "java/lang/String" "value" "[B") (.int 2)) (.int 105)) (by decide +kernel)
    · exact hs (Jvm.Cond.eq (.elem (.field (Term.string "RentedViews$Reader" 67) "java/lang/String" "value" "[B") (.int 3)) (.int 110)) (by decide +kernel)
    · exact hs (Jvm.Cond.eq (.elem (.field (Term.string "RentedViews$Reader" 67) "java/lang/String" "value" "[B") (.int 4)) (.int 103)) (by decide +kernel)
  · intro i j hi hj hij
    have hlt : ∀ a b : Nat, a < 4 → b < 4 → a < b → (Jvm.Cond.not (Jvm.Cond.eq (xstM a) (xstM b))).before #[Value.ref b] s = true ∨ True := fun _ _ _ _ _ => Or.inr trivial
    have hk : ∀ a c : Nat, a < c → c < 4 → (Jvm.Cond.not (Jvm.Cond.eq (xstM a) (xstM c))).before #[Value.ref b] s = true := by
      intro a c hac hc
      have : (a = 0 ∧ c = 1) ∨ (a = 0 ∧ c = 2) ∨ (a = 0 ∧ c = 3) ∨ (a = 1 ∧ c = 2) ∨ (a = 1 ∧ c = 3) ∨ (a = 2 ∧ c = 3) := by omega
      rcases this with ⟨rfl, rfl⟩ | ⟨rfl, rfl⟩ | ⟨rfl, rfl⟩ | ⟨rfl, rfl⟩ | ⟨rfl, rfl⟩ | ⟨rfl, rfl⟩
      · exact hs (Jvm.Cond.not (Jvm.Cond.eq (Term.string "RentedViews$Reader" 34) (Term.string "RentedViews$Reader" 51))) (by decide +kernel)
      · exact hs (Jvm.Cond.not (Jvm.Cond.eq (Term.string "RentedViews$Reader" 34) (Term.string "RentedViews$Reader" 59))) (by decide +kernel)
      · exact hs (Jvm.Cond.not (Jvm.Cond.eq (Term.string "RentedViews$Reader" 34) (Term.string "RentedViews$Reader" 67))) (by decide +kernel)
      · exact hs (Jvm.Cond.not (Jvm.Cond.eq (Term.string "RentedViews$Reader" 51) (Term.string "RentedViews$Reader" 59))) (by decide +kernel)
      · exact hs (Jvm.Cond.not (Jvm.Cond.eq (Term.string "RentedViews$Reader" 51) (Term.string "RentedViews$Reader" 67))) (by decide +kernel)
      · exact hs (Jvm.Cond.not (Jvm.Cond.eq (Term.string "RentedViews$Reader" 59) (Term.string "RentedViews$Reader" 67))) (by decide +kernel)
    rcases Nat.lt_or_gt_of_ne hij with h9 | h9
    · exact Or.inl (hk i j h9 hj)
    · exact Or.inr (hk j i h9 hi)
/-- the arrays' classes at the law's entry -/
theorem xarrs {s : State} {args : Array Value} (hts : ∀ w ∈ lw_tbl, w.before args s = true) : ∃ cA : Nat → ClassId, ∀ t : Nat, 19 < t → t < 27 → ArrOfT s (cA t) (xaty t) ∧ va_RA s (cA t) (xaty t) := by
  have h0 : ∀ t : Nat, ∃ q : ClassId, 19 < t → t < 27 → ArrOfT s q (xaty t) ∧ va_RA s q (xaty t) := by
    intro t
    by_cases h1 : 19 < t ∧ t < 23
    · have hm : t ∈ [20, 21, 22] := by
        have : t = 20 ∨ t = 21 ∨ t = 22 := by omega
        rcases this with rfl | rfl | rfl <;> decide
      obtain ⟨q, k, comp, e1, e2, e3⟩ := Cond.arrayClass_spec (hts _ (xacls t hm))
      refine ⟨q, fun _ _ => ⟨fun n z => ⟨fun k h => (by cases h), k, e2, comp, e3⟩, ?_⟩⟩
      have : t = 20 ∨ t = 21 ∨ t = 22 := by omega
      rcases this with rfl | rfl | rfl <;> exact e1
    · by_cases h2 : 22 < t ∧ t < 26
      · have hm : t ∈ [23, 24, 25, 26] := by
          have : t = 23 ∨ t = 24 ∨ t = 25 := by omega
          rcases this with rfl | rfl | rfl <;> decide
        have hw := hts _ (xaovr t hm)
        obtain ⟨E, hE⟩ : ∃ E, xaty t = .object E := by
          have : t = 23 ∨ t = 24 ∨ t = 25 := by omega
          rcases this with rfl | rfl | rfl <;> exact ⟨_, rfl⟩
        rw [hE] at hw ⊢
        obtain ⟨comp, q, k, e1, -, e3, e4, e5⟩ := Cond.arrayOver_spec hw
        exact ⟨q, fun _ _ => ⟨fun n z => ⟨fun k h => (by cases h), k, e3, comp, e4⟩, k, comp, e3, e4, e1, e5⟩⟩
      · by_cases h3 : t = 26
        · subst h3
          have hw : (Jvm.Cond.arrayOver (.array .int)).before args s = true := hts _ (xaovr 26 (by decide))
          obtain ⟨comp, q, k, e1, -, e3, e4, e5⟩ := arrayOverA_spec hw
          exact ⟨q, fun _ _ => ⟨fun n z => ⟨fun k h => (by cases h), k, e3, comp, e4⟩, e5⟩⟩
        · exact ⟨0, fun a b => by omega⟩
  obtain ⟨cA, hcA⟩ := Classical.axiomOfChoice h0
  exact ⟨cA, hcA⟩
theorem xclss {s : State} {args : Array Value} (hts : ∀ w ∈ lw_tbl, w.before args s = true) : ∃ D : va_G, ∀ (k : Nat) (q : vw_C), xcl[k]? = some q → u_Kn s q.1 q.2.1 q.2.2 (D.1 k) (D.2 k) := by
  have h0 : ∀ k : Nat, ∃ z : ClassId × (Nat → Nat), ∀ q : vw_C, xcl[k]? = some q → u_Kn s q.1 q.2.1 q.2.2 z.1 z.2 := by
    intro k
    cases hk : xcl[k]? with
    | none => exact ⟨(0, fun _ => 0), fun q h => by cases h⟩
    | some r =>
      have hm : r ∈ xcl := List.mem_of_getElem? hk
      obtain ⟨cC, iS, h⟩ := u_known (C := r.1) (T := r.2.1) (N := r.2.2) hts (fun w hw => (xlays r hm w hw).1) (hts _ (xinst r hm))
      exact ⟨(cC, iS), fun q hq => by cases hq; exact h⟩
  obtain ⟨z, hz⟩ := Classical.axiomOfChoice h0
  exact ⟨(fun k => (z k).1, fun k => (z k).2), hz⟩
theorem xwhole {p : Program} {e : Env} {s : State} {m : MethodId} {below : List Frame} {meth : Method} {c : Code} (l : Launch) {b L : Nat} {xs : Nat → Int32} (C0 : lw_At p s m meth c b L xs)
    {n : Nat} {hf : xH} (hlen : hf.length ≤ 5000) (hrun : xrun (xext L xs) n 11 226 0 [.retAddr 0, xU, xU, xU] [] [] = some (some (.int 1), hf)) :
    W p l e room_1 s m #[Value.ref b] below meth c s.heap [] 0 0 (lw_Z below #[Value.ref b] s) (entryFrame m ([Value.ref b] : List Value).toArray 4) := by
  obtain ⟨hx, hb, hr, hml, hown, hts, hX, hbl, hlocks, hgv⟩ := C0
  obtain ⟨adK, adV, hST, hSE⟩ := xtxt hgv
  obtain ⟨cA, hcA⟩ := xarrs hts
  obtain ⟨D, hD⟩ := xclss hts
  have hs := flat_of_before _ hgv
  have hA0 : ∀ a : Nat, a < s.heap.size → ¬ s.heap.size ≤ a := fun a h1 h2 => absurd h1 (Nat.not_lt.mpr h2)
  have hZ1 : va_Z "java/lang/String" "COMPACT_STRINGS" "Z" (.int 1) (fun q => s.heap.size ≤ q) s s.heap := va_Zof (hts _ (by decide +kernel)) (hts _ (by decide +kernel)) (va_eqi (hs _ (by decide +kernel))) hA0
  have hZ2 : va_Zq "jdk/internal/util/Preconditions" "SIOOBE_FORMATTER" "Ljava/util/function/BiFunction;" (fun q => s.heap.size ≤ q) s s.heap := va_Zqof (hts _ (by decide +kernel)) (hts _ (by decide +kernel)) (hs _ (by decide +kernel)) hA0
  obtain ⟨fv, hfv, hZ2⟩ : ∃ fv : Value, (fv = .null ∨ ∃ a, fv = .ref a) ∧ va_Z "jdk/internal/util/Preconditions" "SIOOBE_FORMATTER" "Ljava/util/function/BiFunction;" fv (fun q => s.heap.size ≤ q) s s.heap := by
    rcases hZ2 with h9 | ⟨t, h9⟩
    · exact ⟨_, Or.inl rfl, h9⟩
    · exact ⟨_, Or.inr ⟨t, rfl⟩, h9⟩
  obtain ⟨ev, e0, eK, eV, e9, hev⟩ : ∃ ev : Nat → Value, ev 0 = .ref b ∧ (∀ i, i < 4 → ev (1 + i) = .ref (adK i)) ∧ (∀ i, i < 4 → ev (5 + i) = .ref (adV i)) ∧ ev 9 = fv ∧ xevs ev := by
    refine ⟨fun j => if j = 0 then .ref b else if j < 5 then .ref (adK (j - 1)) else if j < 9 then .ref (adV (j - 5)) else fv, rfl, fun i hi => ?_, fun i hi => ?_, rfl, fun j => ?_⟩
    · show (if 1 + i = 0 then _ else if 1 + i < 5 then _ else _) = _
      rw [if_neg (by omega), if_pos (by omega), show 1 + i - 1 = i by omega]
    · show (if 5 + i = 0 then _ else if 5 + i < 5 then _ else if 5 + i < 9 then _ else _) = _
      rw [if_neg (by omega), if_neg (by omega), if_pos (by omega), show 5 + i - 5 = i by omega]
    · show (if j = 0 then _ else _) = _ ∨ _
      by_cases h1 : j = 0
      · exact Or.inr ⟨b, by simp [h1]⟩
      · by_cases h2 : j < 5
        · exact Or.inr ⟨adK (j - 1), by simp [h1, h2]⟩
        · by_cases h3 : j < 9
          · exact Or.inr ⟨adV (j - 5), by simp [h1, h2, h3]⟩
          · simpa [h1, h2, h3] using hfv
  have hF : XF s.heap ev (xext L xs) D cA s := by
    refine ⟨fun w hw hg => xgood_of hg (hts w hw), ⟨hD, ?_⟩, ?_, ?_, hZ1, by rw [e9]; exact hZ2, ?_⟩
    · intro k q hq
      have hk : k < 7 := (List.getElem?_eq_some_iff.mp hq).1
      have hq2 := xtys_at cA (t := k + 20) (by omega) (by omega)
      rw [show k + 20 - 20 = k by omega] at hq2
      cases hq.symm.trans hq2
      exact hcA _ (by omega) (by omega)
    · intro t h1 h2
      have hm : t ∈ [23, 24, 25, 26] := by
        have : t = 23 ∨ t = 24 ∨ t = 25 ∨ t = 26 := by omega
        rcases this with rfl | rfl | rfl | rfl <;> decide
      exact xAO_use (args := #[]) (hts _ (xaovr t hm))
    · intro j t vs hj
      have hjl : j < 9 := (List.getElem?_eq_some_iff.mp hj).1
      have str : ∀ i : Nat, i < 4 → xEx s.heap ev (1 + i) 13 [.retAddr (5 + i), .int 0] s := by
        intro i hi
        obtain ⟨⟨cell, g1, g2, g3, g4⟩, g5, g6, -⟩ := hST.1 i hi
        refine ⟨adK i, cell, eK i hi, (Array.getElem?_eq_some_iff.mp g1).1, g1, ?_⟩
        rw [if_pos rfl]
        refine ⟨g2, g3, by simp, fun v hv => ?_, fun v hv => ?_⟩
        · cases hv
          rw [show xv s.heap.size ev (.retAddr (5 + i)) = .ref (adV i) from eV i hi]
          exact g6
        · cases hv
          exact g5
      have byt : ∀ i : Nat, i < 4 → ∀ vs : List Value, vs = (xstB.getD i []).map (fun z => Value.int z) → (xstB.getD i []).length = xstL.getD i 0 → xEx s.heap ev (5 + i) 21 vs s := by
        intro i hi vs hvs hl9
        obtain ⟨-, -, -, cell, g1, g2, g3, g4, g5, g6, g7⟩ := hST.1 i hi
        refine ⟨adV i, cell, eV i hi, (Array.getElem?_eq_some_iff.mp g1).1, g1, ?_⟩
        rw [if_neg (by decide)]
        subst hvs
        refine ⟨Or.inr rfl, g2, g3, by rw [List.length_map, hl9]; exact g4, by rw [List.length_map, hl9]; exact g5, fun k v hv => ?_⟩
        have hk : k < (xstB.getD i []).length := by
          have := (List.getElem?_eq_some_iff.mp hv).1
          rw [List.length_map] at this
          exact this
        rw [g6 k (by rw [← hl9]; exact hk)]
        rw [List.getElem?_map, List.getElem?_eq_getElem hk] at hv
        cases hv
        show some (Value.int ((xstB.getD i []).getD k 0)) = some (Value.int _)
        rw [List.getD_eq_getElem?_getD, List.getElem?_eq_getElem hk]
        rfl
      have hj9 : j = 0 ∨ j = 1 ∨ j = 2 ∨ j = 3 ∨ j = 4 ∨ j = 5 ∨ j = 6 ∨ j = 7 ∨ j = 8 := by omega
      rcases hj9 with rfl | rfl | rfl | rfl | rfl | rfl | rfl | rfl | rfl
      · cases hj
        obtain ⟨scr, g1, g2, g3, g4, g5⟩ := hX
        refine ⟨b, scr, e0, hbl, g1, ?_⟩
        rw [if_neg (by decide)]
        refine ⟨Or.inl rfl, g2, g3, (by rw [List.length_map, List.length_range, g4]; try (exact Nat.le_refl _)), (by rw [List.length_map, List.length_range, g4]; try rfl), fun k v hv => ?_⟩
        have hk : k < L := by
          have := (List.getElem?_eq_some_iff.mp hv).1
          rw [List.length_map, List.length_range] at this
          exact this
        rw [List.getElem?_map, List.getElem?_range hk] at hv
        cases hv
        exact g5 k hk
      · cases hj; exact str 0 (by decide)
      · cases hj; exact str 1 (by decide)
      · cases hj; exact str 2 (by decide)
      · cases hj; exact str 3 (by decide)
      · cases hj; exact byt 0 (by decide) _ rfl rfl
      · cases hj; exact byt 1 (by decide) _ rfl rfl
      · cases hj; exact byt 2 (by decide) _ rfl rfl
      · cases hj; exact byt 3 (by decide) _ rfl rfl
    · intro j h1 h2 own idx hm
      have hall := List.all_eq_true.mp xstrs _ hm
      have hall : (own, idx, xstrT.getD j "") ∈ [("RentedViews$Reader", 34, "shop"), ("RentedViews$Reader", 51, "view"), ("RentedViews$Reader", 59, "renter"), ("RentedViews$Reader", 67, "thing")] := of_decide_eq_true hall
      have hfin : ∀ i : Nat, i < 4 → j = 1 + i → own = "RentedViews$Reader" → idx = xstI i → ∃ a : Nat, ev j = .ref a ∧ vk_R own idx (xstrT.getD j "") a s := by
        intro i hi hji ho hix
        subst hji
        subst ho
        subst hix
        exact ⟨adK i, eK i hi, vk_R.of (hts _ hm) (hSE i hi)⟩
      have hj9 : j = 1 ∨ j = 2 ∨ j = 3 ∨ j = 4 := by omega
      rcases hj9 with rfl | rfl | rfl | rfl
      · refine hfin 0 (by decide) rfl ?_ ?_ <;> simp [xstrT, xstI] at hall ⊢ <;> simp [hall]
      · refine hfin 1 (by decide) rfl ?_ ?_ <;> simp [xstrT, xstI] at hall ⊢ <;> simp [hall]
      · refine hfin 2 (by decide) rfl ?_ ?_ <;> simp [xstrT, xstI] at hall ⊢ <;> simp [hall]
      · refine hfin 3 (by decide) rfl ?_ ?_ <;> simp [xstrT, xstI] at hall ⊢ <;> simp [hall]
  have C : XC p s m meth c s.heap ev (xext L xs) D cA 226 := ⟨hx, hb, hml, hown, fun h9 => absurd h9 (by decide +kernel), hF, Nat.le_refl _, fun _ _ => rfl, hev⟩
  have hR0 : xR D cA s.heap ev [] s.heap := ⟨rfl, fun _ _ => rfl, fun k c9 h9 => by cases h9⟩
  have K := xsound l s.heap ev (xext L xs) D cA hev xallok n (p := p) (e := e) (R := room_1) (args := #[Value.ref b]) (below := below) (Q := lw_Z below #[Value.ref b] s) (n0 := 0) hrun C (Nat.zero_le _) ⟨by show hf.length - 0 ≤ 600000; omega, by show 1100 * (hf.length - 0) ≤ 7302250; omega⟩ ⟨Nat.le_of_ble_eq_true rfl, Nat.le_of_ble_eq_true rfl⟩ ?_
  · rw [lg_entry_eq]
    have hE0 : xLs s.heap.size ev [.retAddr 0, xU, xU, xU] ((lg_sl ([Value.ref b] : List Value) ++ List.replicate (4 - (lg_sl ([Value.ref b] : List Value)).length) Slot.unset).toArray) := by
      have h9 := xLs_entry (b := s.heap.size) hev (vs := [.retAddr 0]) (n := 4) (by decide)
      rw [show List.map (xv s.heap.size ev) [.retAddr 0] = [Value.ref b] from congrArg (fun z => [z]) e0] at h9
      exact h9
    exact K s.heap [] _ hR0 (fun _ h9 => absurd h9 List.not_mem_nil) hE0 (by rw [hE0.1, hml]; rfl)
  · intro pc ins st H locs ls hd hrt hR hlo
    have hty : (xmt 226).1.2.2.2 = some .boolean := by decide +kernel
    rw [hty] at hrt
    unfold xret at hrt
    split at hrt
    · split at hrt
      · obtain ⟨-, hrt⟩ := xcond hrt
        have hrt : (some (some (Value.int _)) : Option (Option Value)) = some (some (Value.int 1)) := hrt
        cases hrt
        refine va_forget hlo ?_
        refine W.widen (k := 600000) (n := 7302250) (by omega) (by omega) ?_
        exact lw_ret hx hb hr hlocks hd
      · exact xno hrt
    · split at hrt
      · obtain ⟨h9, -⟩ := xcond hrt
        exact absurd h9 (by decide)
      · exact xno hrt
    · split at hrt
      · obtain ⟨h9, -⟩ := xcond hrt
        exact absurd h9 (by decide)
      · exact xno hrt
    · exact xno hrt
