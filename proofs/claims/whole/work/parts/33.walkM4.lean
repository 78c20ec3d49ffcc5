/-! walks of the reference, 4 (printed by walk.py) -/
def f6_earliestRequested (V : VV) (x1 : Int) : Option (Int × VV) := bd2 (f6_requestField V x1 2) (fun r2 W3 => some (r2, W3))
theorem ev6_earliestRequested {G : GT} {l : Launch} {V : VV} {x1 : Int} {r : Int} {V1 : VV} (hlt : l.stackTraces = false) (hN : 154 ≤ gN G) (h : f6_earliestRequested V x1 = some (r, V1)) : EvX G l y6_earliestRequested b6_earliestRequested 2 (some .int) 3 0 0 [.ref (gB G + 148), vI x1] V (.ok (some (vI r))) V1 := by
  refine ev_w hlt (by decide +kernel) rfl rfl (fun X hl hx C M => ?_)
  subst hl
  replace C : Cx G X "ChannelScheduleModel" b6_earliestRequested := C
  unfold f6_earliestRequested at h
  show At G X 0 0 0 [(0, .ref (gB G + 148)), (1, vI x1)] [] V
  refine r_aload_n C d6_earliestRequested_0 rfl ?_
  refine r_iload_n C d6_earliestRequested_1 rfl ?_
  refine r_iconst C d6_earliestRequested_2 ?_
  obtain ⟨r2, W3, h1, h⟩ := bd2_of h
  refine cV2_i C M d6_earliestRequested_3 l6_280 w6_requestField (rc_model hN) (ev6_requestField C.lt hN h1) rfl (Nat.le_of_ble_eq_true rfl) (Nat.le_of_ble_eq_true rfl) ?_
  exact e_iv C M d6_earliestRequested_6 (Nat.le_of_ble_eq_true rfl) (Nat.le_of_ble_eq_true rfl) h
def f6_latestRequested (V : VV) (x1 : Int) : Option (Int × VV) := bd2 (f6_requestField V x1 3) (fun r2 W3 => some (r2, W3))
theorem ev6_latestRequested {G : GT} {l : Launch} {V : VV} {x1 : Int} {r : Int} {V1 : VV} (hlt : l.stackTraces = false) (hN : 154 ≤ gN G) (h : f6_latestRequested V x1 = some (r, V1)) : EvX G l y6_latestRequested b6_latestRequested 2 (some .int) 3 0 0 [.ref (gB G + 148), vI x1] V (.ok (some (vI r))) V1 := by
  refine ev_w hlt (by decide +kernel) rfl rfl (fun X hl hx C M => ?_)
  subst hl
  replace C : Cx G X "ChannelScheduleModel" b6_latestRequested := C
  unfold f6_latestRequested at h
  show At G X 0 0 0 [(0, .ref (gB G + 148)), (1, vI x1)] [] V
  refine r_aload_n C d6_latestRequested_0 rfl ?_
  refine r_iload_n C d6_latestRequested_1 rfl ?_
  refine r_iconst C d6_latestRequested_2 ?_
  obtain ⟨r2, W3, h1, h⟩ := bd2_of h
  refine cV2_i C M d6_latestRequested_3 l6_280 w6_requestField (rc_model hN) (ev6_requestField C.lt hN h1) rfl (Nat.le_of_ble_eq_true rfl) (Nat.le_of_ble_eq_true rfl) ?_
  exact e_iv C M d6_latestRequested_6 (Nat.le_of_ble_eq_true rfl) (Nat.le_of_ble_eq_true rfl) h
def f6_startFor (V : VV) (x1 : Int) : Option Int := bd (f6_ofRequest V x1 0) (fun r2 => bd (f6_ofRequest V x1 1) (fun r4 => bd (f6_ofRequest V x1 2) (fun r6 => bd (f6_ofRequest V x1 3) (fun r8 => bd (f6_servingMinute V r2 r4 r6 r8) (fun r10 => some r10)))))
theorem ev6_startFor {G : GT} {l : Launch} {V : VV} {x1 : Int} {r : Int} (hlt : l.stackTraces = false) (hN : 154 ≤ gN G) (h : f6_startFor V x1 = some r) : EvX G l y6_startFor b6_startFor 2 (some .int) 6 0 0 [.ref (gB G + 148), vI x1] V (.ok (some (vI r))) V := by
  refine ev_w hlt (by decide +kernel) rfl rfl (fun X hl hx C M => ?_)
  subst hl
  replace C : Cx G X "ChannelScheduleModel" b6_startFor := C
  unfold f6_startFor at h
  show At G X 0 0 0 [(0, .ref (gB G + 148)), (1, vI x1)] [] V
  refine r_aload_n C d6_startFor_0 rfl ?_
  refine r_aload_n C d6_startFor_1 rfl ?_
  refine r_iload_n C d6_startFor_2 rfl ?_
  refine r_iconst C d6_startFor_3 ?_
  obtain ⟨r2, h1, h⟩ := bd_of h
  refine cV2_i C M d6_startFor_4 l6_114 w6_ofRequest (rc_model hN) (ev6_ofRequest C.lt hN h1) rfl (Nat.le_of_ble_eq_true rfl) (Nat.le_of_ble_eq_true rfl) ?_
  refine r_aload_n C d6_startFor_7 rfl ?_
  refine r_iload_n C d6_startFor_8 rfl ?_
  refine r_iconst C d6_startFor_9 ?_
  obtain ⟨r4, h3, h⟩ := bd_of h
  refine cV2_i C M d6_startFor_10 l6_114 w6_ofRequest (rc_model hN) (ev6_ofRequest C.lt hN h3) rfl (Nat.le_of_ble_eq_true rfl) (Nat.le_of_ble_eq_true rfl) ?_
  refine r_aload_n C d6_startFor_13 rfl ?_
  refine r_iload_n C d6_startFor_14 rfl ?_
  refine r_iconst C d6_startFor_15 ?_
  obtain ⟨r6, h5, h⟩ := bd_of h
  refine cV2_i C M d6_startFor_16 l6_114 w6_ofRequest (rc_model hN) (ev6_ofRequest C.lt hN h5) rfl (Nat.le_of_ble_eq_true rfl) (Nat.le_of_ble_eq_true rfl) ?_
  refine r_aload_n C d6_startFor_19 rfl ?_
  refine r_iload_n C d6_startFor_20 rfl ?_
  refine r_iconst C d6_startFor_21 ?_
  obtain ⟨r8, h7, h⟩ := bd_of h
  refine cV2_i C M d6_startFor_22 l6_114 w6_ofRequest (rc_model hN) (ev6_ofRequest C.lt hN h7) rfl (Nat.le_of_ble_eq_true rfl) (Nat.le_of_ble_eq_true rfl) ?_
  obtain ⟨r10, h9, h⟩ := bd_of h
  refine cV4_i C M d6_startFor_25 l6_117 w6_servingMinute (rc_model hN) (ev6_servingMinute C.lt hN h9) rfl (Nat.le_of_ble_eq_true rfl) (Nat.le_of_ble_eq_true rfl) ?_
  exact e_i C M d6_startFor_28 (Nat.le_of_ble_eq_true rfl) (Nat.le_of_ble_eq_true rfl) h
def f6_feasibleStart (V : VV) (x1 : Int) : Option (Int × VV) := bd (f6_isRequest V x1) (fun r2 => bd ((if nrm r2 = 0 then some (1) else some (0))) (fun y4 => bd2 (f6_fails V y4 0 0) (fun r8 W9 => (if nrm r8 = 0 then bd (f6_startFor W9 x1) (fun r12 => some (r12, W9)) else some (0, W9)))))
theorem ev6_feasibleStart {G : GT} {l : Launch} {V : VV} {x1 : Int} {r : Int} {V1 : VV} (hlt : l.stackTraces = false) (hN : 154 ≤ gN G) (h : f6_feasibleStart V x1 = some (r, V1)) : EvX G l y6_feasibleStart b6_feasibleStart 2 (some .int) 7 0 0 [.ref (gB G + 148), vI x1] V (.ok (some (vI r))) V1 := by
  refine ev_w hlt (by decide +kernel) rfl rfl (fun X hl hx C M => ?_)
  subst hl
  replace C : Cx G X "ChannelScheduleModel" b6_feasibleStart := C
  unfold f6_feasibleStart at h
  show At G X 0 0 0 [(0, .ref (gB G + 148)), (1, vI x1)] [] V
  refine r_aload_n C d6_feasibleStart_0 rfl ?_
  refine r_aload_n C d6_feasibleStart_1 rfl ?_
  refine r_iload_n C d6_feasibleStart_2 rfl ?_
  obtain ⟨r2, h1, h⟩ := bd_of h
  refine cV1_i C M d6_feasibleStart_3 l6_247 w6_isRequest (rc_model hN) (ev6_isRequest C.lt hN h1) rfl (Nat.le_of_ble_eq_true rfl) (Nat.le_of_ble_eq_true rfl) ?_
  obtain ⟨y4, h5, h⟩ := bd_of h
  suffices J6 : At G X 0 0 14 [(0, .ref (gB G + 148)), (1, vI x1)] [vI y4, .ref (gB G + 148)] V by
    replace h := h5
    refine x_ifne (tgt := 13) C d6_feasibleStart_6 rfl (fun c3 => ?_) (fun c3 => ?_)
    · replace h := ite_p c3 h
      refine r_iconst C d6_feasibleStart_9 ?_
      refine r_goto (tgt := 14) C d6_feasibleStart_10 rfl ?_
      cases h
      exact AtH.sw J6 ⟨rfl, rfl, trivial⟩
    · replace h := ite_m c3 h
      refine r_iconst C d6_feasibleStart_13 ?_
      cases h
      exact AtH.sw J6 ⟨rfl, rfl, trivial⟩
  refine r_iconst C d6_feasibleStart_14 ?_
  refine r_iconst C d6_feasibleStart_15 ?_
  obtain ⟨r8, W9, h7, h⟩ := bd2_of h
  refine cV3_i C M d6_feasibleStart_16 l6_148 w6_fails (rc_model hN) (ev6_fails C.lt hN h7) rfl (Nat.le_of_ble_eq_true rfl) (Nat.le_of_ble_eq_true rfl) ?_
  refine x_ifeq (tgt := 24) C d6_feasibleStart_19 rfl (fun c10 => ?_) (fun c10 => ?_)
  · replace h := ite_p c10 h
    refine r_aload_n C d6_feasibleStart_24 rfl ?_
    refine r_iload_n C d6_feasibleStart_25 rfl ?_
    obtain ⟨r12, h11, h⟩ := bd_of h
    refine cV1_i C M d6_feasibleStart_26 l6_283 w6_startFor (rc_model hN) (ev6_startFor C.lt hN h11) rfl (Nat.le_of_ble_eq_true rfl) (Nat.le_of_ble_eq_true rfl) ?_
    exact e_iv C M d6_feasibleStart_29 (Nat.le_of_ble_eq_true rfl) (Nat.le_of_ble_eq_true rfl) h
  · replace h := ite_m c10 h
    refine r_iconst C d6_feasibleStart_22 ?_
    exact e_iv C M d6_feasibleStart_23 (Nat.le_of_ble_eq_true rfl) (Nat.le_of_ble_eq_true rfl) h
def f6_waitingWeight_L9 (V : VV) : Nat → Int → Int → Option (Int)
  | 0, _, _ => none
  | n + 1, x1, x2 => (if nrm (V 149 6) ≤ nrm x2 then some x1 else bd (f6_ofRequest V x2 0) (fun r3 => bd (f6_ofShip V r3 9) (fun r5 => f6_waitingWeight_L9 V n (x1 + r5) (x2 + 1))))
theorem lp6_waitingWeight_9 {G : GT} {X : CT} {cells slots : Nat} {V : VV} (hN : 154 ≤ gN G) (hx : xN X = 3) (C : Cx G X "ChannelScheduleModel" b6_waitingWeight) {o0 : Except String (Option Value)} {V9 : VV} (M : MX G X 1 0 0 (some .int) o0 V9) (hc : cells ≤ 0) (hs : slots ≤ 0) : ∀ (n : Nat) {x1 : Int} {x2 : Int} {e1 : Int}, f6_waitingWeight_L9 V n x1 x2 = some (e1) → At G X cells slots 41 [(1, vI e1)] [] V → At G X cells slots 9 [(0, .ref (gB G + 148)), (1, vI x1), (2, vI x2)] [] V := by
  intro n
  induction n with
  | zero => intro x1 x2 e1 h _; exact nomatch h
  | succ n ih =>
    intro x1 x2 e1 h K
    rw [f6_waitingWeight_L9] at h
    refine r_iload_n C d6_waitingWeight_9 rfl ?_
    refine r_aload_n C d6_waitingWeight_10 rfl ?_
    refine g_model_0 C d6_waitingWeight_11 f6_13 hN ?_
    refine r_bipush C d6_waitingWeight_14 (by decide +kernel) ?_
    refine x_iald C d6_waitingWeight_16 (ra_m hN) (by omega) ?_
    refine x_icmpge (tgt := 41) C d6_waitingWeight_17 rfl (fun c1 => ?_) (fun c1 => ?_)
    · replace h := ite_p c1 h
      cases h
      exact AtH.sw K ⟨rfl, trivial⟩
    · replace h := ite_m c1 h
      refine r_iload_n C d6_waitingWeight_20 rfl ?_
      refine r_aload_n C d6_waitingWeight_21 rfl ?_
      refine r_aload_n C d6_waitingWeight_22 rfl ?_
      refine r_iload_n C d6_waitingWeight_23 rfl ?_
      refine r_iconst C d6_waitingWeight_24 ?_
      obtain ⟨r3, h2, h⟩ := bd_of h
      refine cV2_i C M d6_waitingWeight_25 l6_114 w6_ofRequest (rc_model hN) (ev6_ofRequest C.lt hN h2) rfl hc hs ?_
      refine r_bipush C d6_waitingWeight_28 (by decide +kernel) ?_
      obtain ⟨r5, h4, h⟩ := bd_of h
      refine cV2_i C M d6_waitingWeight_30 l6_83 w6_ofShip (rc_model hN) (ev6_ofShip C.lt hN h4) rfl hc hs ?_
      refine r_iadd C d6_waitingWeight_33 ?_
      refine x_istore_n hx C d6_waitingWeight_34 rfl ?_
      refine x_iinc hx C d6_waitingWeight_35 rfl rfl ?_
      refine r_goto (tgt := 9) C d6_waitingWeight_38 rfl ?_
      exact AtH.sw (ih h K) ⟨rfl, rfl, rfl, trivial⟩
def f6_waitingWeight (V : VV) : Option (Int × VV) := bd (f6_waitingWeight_L9 (up2 V 148 9 0) FU 0 0) (fun y6 => some (y6, up2 V 148 9 0))
theorem ev6_waitingWeight {G : GT} {l : Launch} {V : VV} {r : Int} {V1 : VV} (hlt : l.stackTraces = false) (hN : 154 ≤ gN G) (h : f6_waitingWeight V = some (r, V1)) : EvX G l y6_waitingWeight b6_waitingWeight 3 (some .int) 1 0 0 [.ref (gB G + 148)] V (.ok (some (vI r))) V1 := by
  refine ev_w hlt (by decide +kernel) rfl rfl (fun X hl hx C M => ?_)
  subst hl
  replace C : Cx G X "ChannelScheduleModel" b6_waitingWeight := C
  unfold f6_waitingWeight at h
  show At G X 0 0 0 [(0, .ref (gB G + 148))] [] V
  refine r_aload_n C d6_waitingWeight_0 rfl ?_
  refine r_iconst C d6_waitingWeight_1 ?_
  refine p_model_9 C d6_waitingWeight_2 f6_1 hN ?_
  refine r_iconst C d6_waitingWeight_5 ?_
  refine x_istore_n hx C d6_waitingWeight_6 rfl ?_
  refine r_iconst C d6_waitingWeight_7 ?_
  refine x_istore_n hx C d6_waitingWeight_8 rfl ?_
  obtain ⟨y6, h7, h⟩ := bd_of h
  refine AtH.sw (lp6_waitingWeight_9 hN hx C M (Nat.le_of_ble_eq_true rfl) (Nat.le_of_ble_eq_true rfl) FU h7 ?_) ⟨rfl, rfl, rfl, trivial⟩
  refine r_iload_n C d6_waitingWeight_41 rfl ?_
  exact e_iv C M d6_waitingWeight_42 (Nat.le_of_ble_eq_true rfl) (Nat.le_of_ble_eq_true rfl) h
def f6_whyNotFeasible (V : VV) (x1 : Int) : Option (Int × VV) := bd (f6_isRequest V x1) (fun r2 => bd ((if nrm r2 = 0 then some (1) else some (0))) (fun y4 => bd2 (f6_fails V y4 0 0) (fun r8 W9 => (if nrm r8 = 0 then bd (f6_ofRequest W9 x1 3) (fun r12 => (if nrm (W9 149 3) ≤ nrm r12 then (if nrm (W9 149 5) = nrm 20 then some (2, W9) else bd (f6_startFor W9 x1) (fun r16 => (if nrm r16 = nrm (-1) then some (3, W9) else some (0, W9)))) else some (1, W9))) else some (0, W9)))))
theorem ev6_whyNotFeasible {G : GT} {l : Launch} {V : VV} {x1 : Int} {r : Int} {V1 : VV} (hlt : l.stackTraces = false) (hN : 154 ≤ gN G) (h : f6_whyNotFeasible V x1 = some (r, V1)) : EvX G l y6_whyNotFeasible b6_whyNotFeasible 2 (some .int) 7 0 0 [.ref (gB G + 148), vI x1] V (.ok (some (vI r))) V1 := by
  refine ev_w hlt (by decide +kernel) rfl rfl (fun X hl hx C M => ?_)
  subst hl
  replace C : Cx G X "ChannelScheduleModel" b6_whyNotFeasible := C
  unfold f6_whyNotFeasible at h
  show At G X 0 0 0 [(0, .ref (gB G + 148)), (1, vI x1)] [] V
  refine r_aload_n C d6_whyNotFeasible_0 rfl ?_
  refine r_aload_n C d6_whyNotFeasible_1 rfl ?_
  refine r_iload_n C d6_whyNotFeasible_2 rfl ?_
  obtain ⟨r2, h1, h⟩ := bd_of h
  refine cV1_i C M d6_whyNotFeasible_3 l6_247 w6_isRequest (rc_model hN) (ev6_isRequest C.lt hN h1) rfl (Nat.le_of_ble_eq_true rfl) (Nat.le_of_ble_eq_true rfl) ?_
  obtain ⟨y4, h5, h⟩ := bd_of h
  suffices J6 : At G X 0 0 14 [(0, .ref (gB G + 148)), (1, vI x1)] [vI y4, .ref (gB G + 148)] V by
    replace h := h5
    refine x_ifne (tgt := 13) C d6_whyNotFeasible_6 rfl (fun c3 => ?_) (fun c3 => ?_)
    · replace h := ite_p c3 h
      refine r_iconst C d6_whyNotFeasible_9 ?_
      refine r_goto (tgt := 14) C d6_whyNotFeasible_10 rfl ?_
      cases h
      exact AtH.sw J6 ⟨rfl, rfl, trivial⟩
    · replace h := ite_m c3 h
      refine r_iconst C d6_whyNotFeasible_13 ?_
      cases h
      exact AtH.sw J6 ⟨rfl, rfl, trivial⟩
  refine r_iconst C d6_whyNotFeasible_14 ?_
  refine r_iconst C d6_whyNotFeasible_15 ?_
  obtain ⟨r8, W9, h7, h⟩ := bd2_of h
  refine cV3_i C M d6_whyNotFeasible_16 l6_148 w6_fails (rc_model hN) (ev6_fails C.lt hN h7) rfl (Nat.le_of_ble_eq_true rfl) (Nat.le_of_ble_eq_true rfl) ?_
  refine x_ifeq (tgt := 24) C d6_whyNotFeasible_19 rfl (fun c10 => ?_) (fun c10 => ?_)
  · replace h := ite_p c10 h
    refine r_aload_n C d6_whyNotFeasible_24 rfl ?_
    refine r_iload_n C d6_whyNotFeasible_25 rfl ?_
    refine r_iconst C d6_whyNotFeasible_26 ?_
    obtain ⟨r12, h11, h⟩ := bd_of h
    refine cV2_i C M d6_whyNotFeasible_27 l6_114 w6_ofRequest (rc_model hN) (ev6_ofRequest C.lt hN h11) rfl (Nat.le_of_ble_eq_true rfl) (Nat.le_of_ble_eq_true rfl) ?_
    refine r_aload_n C d6_whyNotFeasible_30 rfl ?_
    refine g_model_0 C d6_whyNotFeasible_31 f6_13 hN ?_
    refine r_iconst C d6_whyNotFeasible_34 ?_
    refine x_iald C d6_whyNotFeasible_35 (ra_m hN) (by omega) ?_
    refine x_icmpge (tgt := 41) C d6_whyNotFeasible_36 rfl (fun c13 => ?_) (fun c13 => ?_)
    · replace h := ite_p c13 h
      refine r_aload_n C d6_whyNotFeasible_41 rfl ?_
      refine g_model_0 C d6_whyNotFeasible_42 f6_13 hN ?_
      refine r_iconst C d6_whyNotFeasible_45 ?_
      refine x_iald C d6_whyNotFeasible_46 (ra_m hN) (by omega) ?_
      refine r_bipush C d6_whyNotFeasible_47 (by decide +kernel) ?_
      refine x_icmpne (tgt := 54) C d6_whyNotFeasible_49 rfl (fun c14 => ?_) (fun c14 => ?_)
      · replace h := ite_p c14 h
        refine r_iconst C d6_whyNotFeasible_52 ?_
        exact e_iv C M d6_whyNotFeasible_53 (Nat.le_of_ble_eq_true rfl) (Nat.le_of_ble_eq_true rfl) h
      · replace h := ite_m c14 h
        refine r_aload_n C d6_whyNotFeasible_54 rfl ?_
        refine r_iload_n C d6_whyNotFeasible_55 rfl ?_
        obtain ⟨r16, h15, h⟩ := bd_of h
        refine cV1_i C M d6_whyNotFeasible_56 l6_283 w6_startFor (rc_model hN) (ev6_startFor C.lt hN h15) rfl (Nat.le_of_ble_eq_true rfl) (Nat.le_of_ble_eq_true rfl) ?_
        refine r_iconst C d6_whyNotFeasible_59 ?_
        refine x_icmpeq (tgt := 67) C d6_whyNotFeasible_60 rfl (fun c17 => ?_) (fun c17 => ?_)
        · replace h := ite_p c17 h
          refine r_iconst C d6_whyNotFeasible_67 ?_
          exact e_iv C M d6_whyNotFeasible_68 (Nat.le_of_ble_eq_true rfl) (Nat.le_of_ble_eq_true rfl) h
        · replace h := ite_m c17 h
          refine r_iconst C d6_whyNotFeasible_63 ?_
          refine r_goto (tgt := 68) C d6_whyNotFeasible_64 rfl ?_
          exact e_iv C M d6_whyNotFeasible_68 (Nat.le_of_ble_eq_true rfl) (Nat.le_of_ble_eq_true rfl) h
    · replace h := ite_m c13 h
      refine r_iconst C d6_whyNotFeasible_39 ?_
      exact e_iv C M d6_whyNotFeasible_40 (Nat.le_of_ble_eq_true rfl) (Nat.le_of_ble_eq_true rfl) h
  · replace h := ite_m c10 h
    refine r_iconst C d6_whyNotFeasible_22 ?_
    exact e_iv C M d6_whyNotFeasible_23 (Nat.le_of_ble_eq_true rfl) (Nat.le_of_ble_eq_true rfl) h
def f6_areCompatible (V : VV) (x1 : Int) (x2 : Int) : Option Int := bd (f6_ofRequest V x1 2) (fun r2 => bd (f6_ofRequest V x2 2) (fun r4 => bd (f6_ofRequest V x1 0) (fun r6 => bd (f6_transit V r6) (fun r8 => bd (f6_ofRequest V x2 0) (fun r10 => bd (f6_transit V r10) (fun r12 => bd (f6_ofRequest V x1 1) (fun r14 => bd (f6_ofRequest V x2 1) (fun r16 => bd (f6_conflict V r14 r2 (r2 + r8) r16 r4 (r4 + r12)) (fun r18 => (if nrm r18 = 0 then some 1 else some 0))))))))))
theorem ev6_areCompatible {G : GT} {l : Launch} {V : VV} {x1 : Int} {x2 : Int} {r : Int} (hlt : l.stackTraces = false) (hN : 154 ≤ gN G) (h : f6_areCompatible V x1 x2 = some r) : EvX G l y6_areCompatible b6_areCompatible 7 (some .boolean) 2 0 0 [.ref (gB G + 148), vI x1, vI x2] V (.ok (some (vI r))) V := by
  refine ev_w hlt (by decide +kernel) rfl rfl (fun X hl hx C M => ?_)
  subst hl
  replace C : Cx G X "ChannelScheduleModel" b6_areCompatible := C
  unfold f6_areCompatible at h
  show At G X 0 0 0 [(0, .ref (gB G + 148)), (1, vI x1), (2, vI x2)] [] V
  refine r_aload_n C d6_areCompatible_0 rfl ?_
  refine r_iload_n C d6_areCompatible_1 rfl ?_
  refine r_iconst C d6_areCompatible_2 ?_
  obtain ⟨r2, h1, h⟩ := bd_of h
  refine cV2_i C M d6_areCompatible_3 l6_114 w6_ofRequest (rc_model hN) (ev6_ofRequest C.lt hN h1) rfl (Nat.le_of_ble_eq_true rfl) (Nat.le_of_ble_eq_true rfl) ?_
  refine x_istore_n hx C d6_areCompatible_6 rfl ?_
  refine r_aload_n C d6_areCompatible_7 rfl ?_
  refine r_iload_n C d6_areCompatible_8 rfl ?_
  refine r_iconst C d6_areCompatible_9 ?_
  obtain ⟨r4, h3, h⟩ := bd_of h
  refine cV2_i C M d6_areCompatible_10 l6_114 w6_ofRequest (rc_model hN) (ev6_ofRequest C.lt hN h3) rfl (Nat.le_of_ble_eq_true rfl) (Nat.le_of_ble_eq_true rfl) ?_
  refine x_istore hx C d6_areCompatible_13 rfl ?_
  refine r_iload_n C d6_areCompatible_15 rfl ?_
  refine r_aload_n C d6_areCompatible_16 rfl ?_
  refine r_aload_n C d6_areCompatible_17 rfl ?_
  refine r_iload_n C d6_areCompatible_18 rfl ?_
  refine r_iconst C d6_areCompatible_19 ?_
  obtain ⟨r6, h5, h⟩ := bd_of h
  refine cV2_i C M d6_areCompatible_20 l6_114 w6_ofRequest (rc_model hN) (ev6_ofRequest C.lt hN h5) rfl (Nat.le_of_ble_eq_true rfl) (Nat.le_of_ble_eq_true rfl) ?_
  obtain ⟨r8, h7, h⟩ := bd_of h
  refine cV1_i C M d6_areCompatible_23 l6_94 w6_transit (rc_model hN) (ev6_transit C.lt hN h7) rfl (Nat.le_of_ble_eq_true rfl) (Nat.le_of_ble_eq_true rfl) ?_
  refine r_iadd C d6_areCompatible_26 ?_
  refine x_istore hx C d6_areCompatible_27 rfl ?_
  refine r_iload C d6_areCompatible_29 rfl ?_
  refine r_aload_n C d6_areCompatible_31 rfl ?_
  refine r_aload_n C d6_areCompatible_32 rfl ?_
  refine r_iload_n C d6_areCompatible_33 rfl ?_
  refine r_iconst C d6_areCompatible_34 ?_
  obtain ⟨r10, h9, h⟩ := bd_of h
  refine cV2_i C M d6_areCompatible_35 l6_114 w6_ofRequest (rc_model hN) (ev6_ofRequest C.lt hN h9) rfl (Nat.le_of_ble_eq_true rfl) (Nat.le_of_ble_eq_true rfl) ?_
  obtain ⟨r12, h11, h⟩ := bd_of h
  refine cV1_i C M d6_areCompatible_38 l6_94 w6_transit (rc_model hN) (ev6_transit C.lt hN h11) rfl (Nat.le_of_ble_eq_true rfl) (Nat.le_of_ble_eq_true rfl) ?_
  refine r_iadd C d6_areCompatible_41 ?_
  refine x_istore hx C d6_areCompatible_42 rfl ?_
  refine r_aload_n C d6_areCompatible_44 rfl ?_
  refine r_aload_n C d6_areCompatible_45 rfl ?_
  refine r_iload_n C d6_areCompatible_46 rfl ?_
  refine r_iconst C d6_areCompatible_47 ?_
  obtain ⟨r14, h13, h⟩ := bd_of h
  refine cV2_i C M d6_areCompatible_48 l6_114 w6_ofRequest (rc_model hN) (ev6_ofRequest C.lt hN h13) rfl (Nat.le_of_ble_eq_true rfl) (Nat.le_of_ble_eq_true rfl) ?_
  refine r_iload_n C d6_areCompatible_51 rfl ?_
  refine r_iload C d6_areCompatible_52 rfl ?_
  refine r_aload_n C d6_areCompatible_54 rfl ?_
  refine r_iload_n C d6_areCompatible_55 rfl ?_
  refine r_iconst C d6_areCompatible_56 ?_
  obtain ⟨r16, h15, h⟩ := bd_of h
  refine cV2_i C M d6_areCompatible_57 l6_114 w6_ofRequest (rc_model hN) (ev6_ofRequest C.lt hN h15) rfl (Nat.le_of_ble_eq_true rfl) (Nat.le_of_ble_eq_true rfl) ?_
  refine r_iload C d6_areCompatible_60 rfl ?_
  refine r_iload C d6_areCompatible_62 rfl ?_
  obtain ⟨r18, h17, h⟩ := bd_of h
  refine cV6_i C M d6_areCompatible_64 l6_87 w6_conflict (rc_model hN) (ev6_conflict C.lt hN h17) rfl (Nat.le_of_ble_eq_true rfl) (Nat.le_of_ble_eq_true rfl) ?_
  refine x_ifne (tgt := 74) C d6_areCompatible_67 rfl (fun c19 => ?_) (fun c19 => ?_)
  · replace h := ite_p c19 h
    refine r_iconst C d6_areCompatible_70 ?_
    refine r_goto (tgt := 75) C d6_areCompatible_71 rfl ?_
    exact e_z C M d6_areCompatible_75 (Nat.le_of_ble_eq_true rfl) (Nat.le_of_ble_eq_true rfl) (Or.inr rfl) h
  · replace h := ite_m c19 h
    refine r_iconst C d6_areCompatible_74 ?_
    exact e_z C M d6_areCompatible_75 (Nat.le_of_ble_eq_true rfl) (Nat.le_of_ble_eq_true rfl) (Or.inl rfl) h
def f6_isSelection_L57 (V : VV) (x1 : Int) (x2 : Int) : Nat → Int → Option (Sum Int (Unit))
  | 0, _ => none
  | n + 1, x3 => (if nrm (V 149 6) ≤ nrm x3 then some (.inr ()) else (if nrm (aI (sI x1 x3) 1) = nrm 1 then bd (f6_areCompatible V x2 x3) (fun r15 => (if nrm r15 = 0 then some (.inl 0) else f6_isSelection_L57 V x1 x2 n (x3 + 1))) else f6_isSelection_L57 V x1 x2 n (x3 + 1)))
theorem lp6_isSelection_57 {G : GT} {X : CT} {cells slots : Nat} {V : VV} (hN : 154 ≤ gN G) (hx : xN X = 4) (C : Cx G X "ChannelScheduleModel" b6_isSelection) {x1 : Int} {x2 : Int} {r : Int} (M : MX G X 4 0 0 (some .boolean) (.ok (some (vI r))) V) (hc : cells ≤ 0) (hs : slots ≤ 0) : ∀ (n : Nat) {x3 : Int} {s : (Sum Int (Unit))}, f6_isSelection_L57 V x1 x2 n x3 = some s → (∀ q, s = .inl q → some q = some r) → (∀ (_u : Unit), s = .inr _u → At G X cells slots 94 [(0, .ref (gB G + 148)), (1, vI x1), (2, vI x2)] [] V) → At G X cells slots 57 [(0, .ref (gB G + 148)), (1, vI x1), (2, vI x2), (3, vI x3)] [] V := by
  intro n
  induction n with
  | zero => intro x3 s h _ _; exact nomatch h
  | succ n ih =>
    intro x3 s h hl K
    rw [f6_isSelection_L57] at h
    refine r_iload_n C d6_isSelection_57 rfl ?_
    refine r_aload_n C d6_isSelection_58 rfl ?_
    refine g_model_0 C d6_isSelection_59 f6_13 hN ?_
    refine r_bipush C d6_isSelection_62 (by decide +kernel) ?_
    refine x_iald C d6_isSelection_64 (ra_m hN) (by omega) ?_
    refine x_icmpge (tgt := 94) C d6_isSelection_65 rfl (fun c12 => ?_) (fun c12 => ?_)
    · replace h := ite_p c12 h
      exact AtH.sw (K _ (Option.some.inj h).symm) ⟨rfl, rfl, rfl, trivial⟩
    · replace h := ite_m c12 h
      refine r_iload_n C d6_isSelection_68 rfl ?_
      refine r_iload_n C d6_isSelection_69 rfl ?_
      refine x_ishr C d6_isSelection_70 ?_
      refine r_iconst C d6_isSelection_71 ?_
      refine x_iand C d6_isSelection_72 ?_
      refine r_iconst C d6_isSelection_73 ?_
      refine x_icmpne (tgt := 88) C d6_isSelection_74 rfl (fun c13 => ?_) (fun c13 => ?_)
      · replace h := ite_p c13 h
        refine r_aload_n C d6_isSelection_77 rfl ?_
        refine r_iload_n C d6_isSelection_78 rfl ?_
        refine r_iload_n C d6_isSelection_79 rfl ?_
        obtain ⟨r15, h14, h⟩ := bd_of h
        refine cV2_i C M d6_isSelection_80 l6_286 w6_areCompatible (rc_model hN) (ev6_areCompatible C.lt hN h14) rfl hc hs ?_
        refine x_ifne (tgt := 88) C d6_isSelection_83 rfl (fun c16 => ?_) (fun c16 => ?_)
        · replace h := ite_p c16 h
          refine r_iconst C d6_isSelection_86 ?_
          exact e_z C M d6_isSelection_87 hc hs (Or.inl rfl) (hl _ (Option.some.inj h).symm)
        · replace h := ite_m c16 h
          refine x_iinc hx C d6_isSelection_88 rfl rfl ?_
          refine r_goto (tgt := 57) C d6_isSelection_91 rfl ?_
          exact AtH.sw (ih h hl K) ⟨rfl, rfl, rfl, rfl, trivial⟩
      · replace h := ite_m c13 h
        refine x_iinc hx C d6_isSelection_88 rfl rfl ?_
        refine r_goto (tgt := 57) C d6_isSelection_91 rfl ?_
        exact AtH.sw (ih h hl K) ⟨rfl, rfl, rfl, rfl, trivial⟩
def f6_isSelection_L2 (V : VV) (x1 : Int) : Nat → Int → Option Int
  | 0, _ => none
  | n + 1, x2 => (if nrm (V 149 6) ≤ nrm x2 then some 1 else (if nrm (aI (sI x1 x2) 1) = 0 then f6_isSelection_L2 V x1 n (x2 + 1) else bd (f6_ofRequest V x2 0) (fun r4 => bd (f6_ofRequest V x2 1) (fun r6 => bd (f6_ofRequest V x2 2) (fun r8 => bd (f6_conflicting V r4 r6 r8 (-1)) (fun r10 => (if nrm r10 = nrm (-1) then bdl (f6_isSelection_L57 V x1 x2 FU (x2 + 1)) (fun _u => f6_isSelection_L2 V x1 n (x2 + 1)) else some 0)))))))
theorem lp6_isSelection_2 {G : GT} {X : CT} {cells slots : Nat} {V : VV} (hN : 154 ≤ gN G) (hx : xN X = 4) (C : Cx G X "ChannelScheduleModel" b6_isSelection) {x1 : Int} : ∀ (n : Nat) {x2 : Int} {r : Int}, MX G X 4 0 0 (some .boolean) (.ok (some (vI r))) V → cells ≤ 0 → slots ≤ 0 → f6_isSelection_L2 V x1 n x2 = some r → At G X cells slots 2 [(0, .ref (gB G + 148)), (1, vI x1), (2, vI x2)] [] V := by
  intro n
  induction n with
  | zero => intro x2 r _ _ _ h; exact nomatch h
  | succ n ih =>
    intro x2 r M hc hs h
    rw [f6_isSelection_L2] at h
    refine r_iload_n C d6_isSelection_2 rfl ?_
    refine r_aload_n C d6_isSelection_3 rfl ?_
    refine g_model_0 C d6_isSelection_4 f6_13 hN ?_
    refine r_bipush C d6_isSelection_7 (by decide +kernel) ?_
    refine x_iald C d6_isSelection_9 (ra_m hN) (by omega) ?_
    refine x_icmpge (tgt := 100) C d6_isSelection_10 rfl (fun c1 => ?_) (fun c1 => ?_)
    · replace h := ite_p c1 h
      refine r_iconst C d6_isSelection_100 ?_
      exact e_z C M d6_isSelection_101 hc hs (Or.inr rfl) h
    · replace h := ite_m c1 h
      refine r_iload_n C d6_isSelection_13 rfl ?_
      refine r_iload_n C d6_isSelection_14 rfl ?_
      refine x_ishr C d6_isSelection_15 ?_
      refine r_iconst C d6_isSelection_16 ?_
      refine x_iand C d6_isSelection_17 ?_
      refine x_ifne (tgt := 24) C d6_isSelection_18 rfl (fun c2 => ?_) (fun c2 => ?_)
      · replace h := ite_p c2 h
        refine r_goto (tgt := 94) C d6_isSelection_21 rfl ?_
        refine x_iinc hx C d6_isSelection_94 rfl rfl ?_
        refine r_goto (tgt := 2) C d6_isSelection_97 rfl ?_
        exact AtH.sw (ih M hc hs h) ⟨rfl, rfl, rfl, trivial⟩
      · replace h := ite_m c2 h
        refine r_aload_n C d6_isSelection_24 rfl ?_
        refine r_aload_n C d6_isSelection_25 rfl ?_
        refine r_iload_n C d6_isSelection_26 rfl ?_
        refine r_iconst C d6_isSelection_27 ?_
        obtain ⟨r4, h3, h⟩ := bd_of h
        refine cV2_i C M d6_isSelection_28 l6_114 w6_ofRequest (rc_model hN) (ev6_ofRequest C.lt hN h3) rfl hc hs ?_
        refine r_aload_n C d6_isSelection_31 rfl ?_
        refine r_iload_n C d6_isSelection_32 rfl ?_
        refine r_iconst C d6_isSelection_33 ?_
        obtain ⟨r6, h5, h⟩ := bd_of h
        refine cV2_i C M d6_isSelection_34 l6_114 w6_ofRequest (rc_model hN) (ev6_ofRequest C.lt hN h5) rfl hc hs ?_
        refine r_aload_n C d6_isSelection_37 rfl ?_
        refine r_iload_n C d6_isSelection_38 rfl ?_
        refine r_iconst C d6_isSelection_39 ?_
        obtain ⟨r8, h7, h⟩ := bd_of h
        refine cV2_i C M d6_isSelection_40 l6_114 w6_ofRequest (rc_model hN) (ev6_ofRequest C.lt hN h7) rfl hc hs ?_
        refine r_iconst C d6_isSelection_43 ?_
        obtain ⟨r10, h9, h⟩ := bd_of h
        refine cV4_i C M d6_isSelection_44 l6_102 w6_conflicting (rc_model hN) (ev6_conflicting C.lt hN h9) rfl hc hs ?_
        refine r_iconst C d6_isSelection_47 ?_
        refine x_icmpeq (tgt := 53) C d6_isSelection_48 rfl (fun c11 => ?_) (fun c11 => ?_)
        · replace h := ite_p c11 h
          refine r_iload_n C d6_isSelection_53 rfl ?_
          refine r_iconst C d6_isSelection_54 ?_
          refine r_iadd C d6_isSelection_55 ?_
          refine x_istore_n hx C d6_isSelection_56 rfl ?_
          obtain ⟨s19, h17, l18, h⟩ := bdl_of h
          refine AtH.sw (lp6_isSelection_57 hN hx C M hc hs FU h17 l18 (fun _u e9 => ?_)) ⟨rfl, rfl, rfl, rfl, trivial⟩
          replace h := h _u e9
          refine x_iinc hx C d6_isSelection_94 rfl rfl ?_
          refine r_goto (tgt := 2) C d6_isSelection_97 rfl ?_
          exact AtH.sw (ih M hc hs h) ⟨rfl, rfl, rfl, trivial⟩
        · replace h := ite_m c11 h
          refine r_iconst C d6_isSelection_51 ?_
          exact e_z C M d6_isSelection_52 hc hs (Or.inl rfl) h
def f6_isSelection (V : VV) (x1 : Int) : Option Int := f6_isSelection_L2 V x1 FU 0
theorem ev6_isSelection {G : GT} {l : Launch} {V : VV} {x1 : Int} {r : Int} (hlt : l.stackTraces = false) (hN : 154 ≤ gN G) (h : f6_isSelection V x1 = some r) : EvX G l y6_isSelection b6_isSelection 4 (some .boolean) 4 0 0 [.ref (gB G + 148), vI x1] V (.ok (some (vI r))) V := by
  refine ev_w hlt (by decide +kernel) rfl rfl (fun X hl hx C M => ?_)
  subst hl
  replace C : Cx G X "ChannelScheduleModel" b6_isSelection := C
  unfold f6_isSelection at h
  show At G X 0 0 0 [(0, .ref (gB G + 148)), (1, vI x1)] [] V
  refine r_iconst C d6_isSelection_0 ?_
  refine x_istore_n hx C d6_isSelection_1 rfl ?_
  exact AtH.sw (lp6_isSelection_2 hN hx C FU M (Nat.le_of_ble_eq_true rfl) (Nat.le_of_ble_eq_true rfl) h) ⟨rfl, rfl, rfl, trivial⟩
def f6_valueOf_L4 (V : VV) (x1 : Int) : Nat → Int → Int → Option (Int)
  | 0, _, _ => none
  | n + 1, x2, x3 => (if nrm (V 149 6) ≤ nrm x3 then some x2 else (if nrm (aI (sI x1 x3) 1) = nrm 1 then bd (f6_ofRequest V x3 0) (fun r4 => bd (f6_ofShip V r4 9) (fun r6 => f6_valueOf_L4 V x1 n (x2 + r6) (x3 + 1))) else f6_valueOf_L4 V x1 n (x2 + 0) (x3 + 1)))
theorem lp6_valueOf_4 {G : GT} {X : CT} {cells slots : Nat} {V : VV} (hN : 154 ≤ gN G) (hx : xN X = 4) (C : Cx G X "ChannelScheduleModel" b6_valueOf) {x1 : Int} {o0 : Except String (Option Value)} {V9 : VV} (M : MX G X 1 0 0 (some .int) o0 V9) (hc : cells ≤ 0) (hs : slots ≤ 0) : ∀ (n : Nat) {x2 : Int} {x3 : Int} {e2 : Int}, f6_valueOf_L4 V x1 n x2 x3 = some (e2) → At G X cells slots 49 [(2, vI e2)] [] V → At G X cells slots 4 [(0, .ref (gB G + 148)), (1, vI x1), (2, vI x2), (3, vI x3)] [] V := by
  intro n
  induction n with
  | zero => intro x2 x3 e2 h _; exact nomatch h
  | succ n ih =>
    intro x2 x3 e2 h K
    rw [f6_valueOf_L4] at h
    refine r_iload_n C d6_valueOf_4 rfl ?_
    refine r_aload_n C d6_valueOf_5 rfl ?_
    refine g_model_0 C d6_valueOf_6 f6_13 hN ?_
    refine r_bipush C d6_valueOf_9 (by decide +kernel) ?_
    refine x_iald C d6_valueOf_11 (ra_m hN) (by omega) ?_
    refine x_icmpge (tgt := 49) C d6_valueOf_12 rfl (fun c1 => ?_) (fun c1 => ?_)
    · replace h := ite_p c1 h
      cases h
      exact AtH.sw K ⟨rfl, trivial⟩
    · replace h := ite_m c1 h
      refine r_iload_n C d6_valueOf_15 rfl ?_
      refine r_iload_n C d6_valueOf_16 rfl ?_
      refine r_iload_n C d6_valueOf_17 rfl ?_
      refine x_ishr C d6_valueOf_18 ?_
      refine r_iconst C d6_valueOf_19 ?_
      refine x_iand C d6_valueOf_20 ?_
      refine r_iconst C d6_valueOf_21 ?_
      refine x_icmpne (tgt := 40) C d6_valueOf_22 rfl (fun c2 => ?_) (fun c2 => ?_)
      · replace h := ite_p c2 h
        refine r_aload_n C d6_valueOf_25 rfl ?_
        refine r_aload_n C d6_valueOf_26 rfl ?_
        refine r_iload_n C d6_valueOf_27 rfl ?_
        refine r_iconst C d6_valueOf_28 ?_
        obtain ⟨r4, h3, h⟩ := bd_of h
        refine cV2_i C M d6_valueOf_29 l6_114 w6_ofRequest (rc_model hN) (ev6_ofRequest C.lt hN h3) rfl hc hs ?_
        refine r_bipush C d6_valueOf_32 (by decide +kernel) ?_
        obtain ⟨r6, h5, h⟩ := bd_of h
        refine cV2_i C M d6_valueOf_34 l6_83 w6_ofShip (rc_model hN) (ev6_ofShip C.lt hN h5) rfl hc hs ?_
        refine r_goto (tgt := 41) C d6_valueOf_37 rfl ?_
        refine r_iadd C d6_valueOf_41 ?_
        refine x_istore_n hx C d6_valueOf_42 rfl ?_
        refine x_iinc hx C d6_valueOf_43 rfl rfl ?_
        refine r_goto (tgt := 4) C d6_valueOf_46 rfl ?_
        exact AtH.sw (ih h K) ⟨rfl, rfl, rfl, rfl, trivial⟩
      · replace h := ite_m c2 h
        refine r_iconst C d6_valueOf_40 ?_
        refine r_iadd C d6_valueOf_41 ?_
        refine x_istore_n hx C d6_valueOf_42 rfl ?_
        refine x_iinc hx C d6_valueOf_43 rfl rfl ?_
        refine r_goto (tgt := 4) C d6_valueOf_46 rfl ?_
        exact AtH.sw (ih h K) ⟨rfl, rfl, rfl, rfl, trivial⟩
def f6_valueOf (V : VV) (x1 : Int) : Option Int := bd (f6_valueOf_L4 V x1 FU 0 0) (fun y7 => some y7)
theorem ev6_valueOf {G : GT} {l : Launch} {V : VV} {x1 : Int} {r : Int} (hlt : l.stackTraces = false) (hN : 154 ≤ gN G) (h : f6_valueOf V x1 = some r) : EvX G l y6_valueOf b6_valueOf 4 (some .int) 1 0 0 [.ref (gB G + 148), vI x1] V (.ok (some (vI r))) V := by
  refine ev_w hlt (by decide +kernel) rfl rfl (fun X hl hx C M => ?_)
  subst hl
  replace C : Cx G X "ChannelScheduleModel" b6_valueOf := C
  unfold f6_valueOf at h
  show At G X 0 0 0 [(0, .ref (gB G + 148)), (1, vI x1)] [] V
  refine r_iconst C d6_valueOf_0 ?_
  refine x_istore_n hx C d6_valueOf_1 rfl ?_
  refine r_iconst C d6_valueOf_2 ?_
  refine x_istore_n hx C d6_valueOf_3 rfl ?_
  obtain ⟨y7, h8, h⟩ := bd_of h
  refine AtH.sw (lp6_valueOf_4 hN hx C M (Nat.le_of_ble_eq_true rfl) (Nat.le_of_ble_eq_true rfl) FU h8 ?_) ⟨rfl, rfl, rfl, rfl, trivial⟩
  refine r_iload_n C d6_valueOf_49 rfl ?_
  exact e_i C M d6_valueOf_50 (Nat.le_of_ble_eq_true rfl) (Nat.le_of_ble_eq_true rfl) h
def f6_isAhead (V : VV) (x0 : Int) (x1 : Int) : Option Int := (if nrm (aI (aI x0 (xI x0 x1)) (-(xI x0 x1))) = 0 then some 0 else some 1)
theorem ev6_isAhead {G : GT} {l : Launch} {V : VV} {x0 : Int} {x1 : Int} {r : Int} (hlt : l.stackTraces = false) (hN : 154 ≤ gN G) (h : f6_isAhead V x0 x1 = some r) : EvX G l y6_isAhead b6_isAhead 3 (some .boolean) 0 0 0 [vI x0, vI x1] V (.ok (some (vI r))) V := by
  refine ev_w hlt (by decide +kernel) rfl rfl (fun X hl hx C M => ?_)
  subst hl
  replace C : Cx G X "ChannelScheduleModel" b6_isAhead := C
  unfold f6_isAhead at h
  show At G X 0 0 0 [(0, vI x0), (1, vI x1)] [] V
  refine r_iload_n C d6_isAhead_0 rfl ?_
  refine r_iload_n C d6_isAhead_1 rfl ?_
  refine x_ixor C d6_isAhead_2 ?_
  refine x_istore_n hx C d6_isAhead_3 rfl ?_
  refine r_iload_n C d6_isAhead_4 rfl ?_
  refine r_iload_n C d6_isAhead_5 rfl ?_
  refine x_iand C d6_isAhead_6 ?_
  refine r_iload_n C d6_isAhead_7 rfl ?_
  refine r_ineg C d6_isAhead_8 ?_
  refine x_iand C d6_isAhead_9 ?_
  refine x_ifeq (tgt := 17) C d6_isAhead_10 rfl (fun c1 => ?_) (fun c1 => ?_)
  · replace h := ite_p c1 h
    refine r_iconst C d6_isAhead_17 ?_
    exact e_z C M d6_isAhead_18 (Nat.le_of_ble_eq_true rfl) (Nat.le_of_ble_eq_true rfl) (Or.inl rfl) h
  · replace h := ite_m c1 h
    refine r_iconst C d6_isAhead_13 ?_
    refine r_goto (tgt := 18) C d6_isAhead_14 rfl ?_
    exact e_z C M d6_isAhead_18 (Nat.le_of_ble_eq_true rfl) (Nat.le_of_ble_eq_true rfl) (Or.inr rfl) h
def f6_bestSet_L4 (V : VV) : Nat → Int → Int → Option (Int)
  | 0, _, _ => none
  | n + 1, x1, x2 => (if nrm (lI 1 (V 149 6)) ≤ nrm x2 then some x1 else bd (f6_valueOf V x2) (fun r3 => bd (f6_valueOf V x1) (fun r5 => (if 0 < nrm (r3 - r5) then bd (f6_isSelection V x2) (fun r8 => (if nrm r8 = 0 then f6_bestSet_L4 V n x1 (x2 + 1) else f6_bestSet_L4 V n x2 (x2 + 1))) else (if nrm (r3 - r5) = 0 then bd (f6_isAhead V x2 x1) (fun r12 => (if nrm r12 = 0 then f6_bestSet_L4 V n x1 (x2 + 1) else bd (f6_isSelection V x2) (fun r15 => (if nrm r15 = 0 then f6_bestSet_L4 V n x1 (x2 + 1) else f6_bestSet_L4 V n x2 (x2 + 1))))) else f6_bestSet_L4 V n x1 (x2 + 1))))))
theorem lp6_bestSet_4 {G : GT} {X : CT} {cells slots : Nat} {V : VV} (hN : 154 ≤ gN G) (hx : xN X = 4) (C : Cx G X "ChannelScheduleModel" b6_bestSet) {o0 : Except String (Option Value)} {V9 : VV} (M : MX G X 5 0 0 (some .int) o0 V9) (hc : cells ≤ 0) (hs : slots ≤ 0) : ∀ (n : Nat) {x1 : Int} {x2 : Int} {e1 : Int}, f6_bestSet_L4 V n x1 x2 = some (e1) → At G X cells slots 61 [(1, vI e1)] [] V → At G X cells slots 4 [(0, .ref (gB G + 148)), (1, vI x1), (2, vI x2)] [] V := by
  intro n
  induction n with
  | zero => intro x1 x2 e1 h _; exact nomatch h
  | succ n ih =>
    intro x1 x2 e1 h K
    rw [f6_bestSet_L4] at h
    refine r_iload_n C d6_bestSet_4 rfl ?_
    refine r_iconst C d6_bestSet_5 ?_
    refine r_aload_n C d6_bestSet_6 rfl ?_
    refine g_model_0 C d6_bestSet_7 f6_13 hN ?_
    refine r_bipush C d6_bestSet_10 (by decide +kernel) ?_
    refine x_iald C d6_bestSet_12 (ra_m hN) (by omega) ?_
    refine x_ishl C d6_bestSet_13 ?_
    refine x_icmpge (tgt := 61) C d6_bestSet_14 rfl (fun c1 => ?_) (fun c1 => ?_)
    · replace h := ite_p c1 h
      cases h
      exact AtH.sw K ⟨rfl, trivial⟩
    · replace h := ite_m c1 h
      refine r_aload_n C d6_bestSet_17 rfl ?_
      refine r_iload_n C d6_bestSet_18 rfl ?_
      obtain ⟨r3, h2, h⟩ := bd_of h
      refine cV1_i C M d6_bestSet_19 l6_289 w6_valueOf (rc_model hN) (ev6_valueOf C.lt hN h2) rfl hc hs ?_
      refine r_aload_n C d6_bestSet_22 rfl ?_
      refine r_iload_n C d6_bestSet_23 rfl ?_
      obtain ⟨r5, h4, h⟩ := bd_of h
      refine cV1_i C M d6_bestSet_24 l6_289 w6_valueOf (rc_model hN) (ev6_valueOf C.lt hN h4) rfl hc hs ?_
      refine r_isub C d6_bestSet_27 ?_
      refine x_istore_n hx C d6_bestSet_28 rfl ?_
      refine r_iload_n C d6_bestSet_29 rfl ?_
      refine x_ifgt (tgt := 45) C d6_bestSet_30 rfl (fun c6 => ?_) (fun c6 => ?_)
      · replace h := ite_p c6 h
        refine r_aload_n C d6_bestSet_45 rfl ?_
        refine r_iload_n C d6_bestSet_46 rfl ?_
        obtain ⟨r8, h7, h⟩ := bd_of h
        refine cV1_i C M d6_bestSet_47 l6_295 w6_isSelection (rc_model hN) (ev6_isSelection C.lt hN h7) rfl hc hs ?_
        refine x_ifeq (tgt := 55) C d6_bestSet_50 rfl (fun c9 => ?_) (fun c9 => ?_)
        · replace h := ite_p c9 h
          refine x_iinc hx C d6_bestSet_55 rfl rfl ?_
          refine r_goto (tgt := 4) C d6_bestSet_58 rfl ?_
          exact AtH.sw (ih h K) ⟨rfl, rfl, rfl, trivial⟩
        · replace h := ite_m c9 h
          refine r_iload_n C d6_bestSet_53 rfl ?_
          refine x_istore_n hx C d6_bestSet_54 rfl ?_
          refine x_iinc hx C d6_bestSet_55 rfl rfl ?_
          refine r_goto (tgt := 4) C d6_bestSet_58 rfl ?_
          exact AtH.sw (ih h K) ⟨rfl, rfl, rfl, trivial⟩
      · replace h := ite_m c6 h
        refine r_iload_n C d6_bestSet_33 rfl ?_
        refine x_ifne (tgt := 55) C d6_bestSet_34 rfl (fun c10 => ?_) (fun c10 => ?_)
        · replace h := ite_p c10 h
          refine r_iload_n C d6_bestSet_37 rfl ?_
          refine r_iload_n C d6_bestSet_38 rfl ?_
          obtain ⟨r12, h11, h⟩ := bd_of h
          refine cS2_i C M d6_bestSet_39 l6_292 w6_isAhead (ev6_isAhead C.lt hN h11) rfl hc hs ?_
          refine x_ifeq (tgt := 55) C d6_bestSet_42 rfl (fun c13 => ?_) (fun c13 => ?_)
          · replace h := ite_p c13 h
            refine x_iinc hx C d6_bestSet_55 rfl rfl ?_
            refine r_goto (tgt := 4) C d6_bestSet_58 rfl ?_
            exact AtH.sw (ih h K) ⟨rfl, rfl, rfl, trivial⟩
          · replace h := ite_m c13 h
            refine r_aload_n C d6_bestSet_45 rfl ?_
            refine r_iload_n C d6_bestSet_46 rfl ?_
            obtain ⟨r15, h14, h⟩ := bd_of h
            refine cV1_i C M d6_bestSet_47 l6_295 w6_isSelection (rc_model hN) (ev6_isSelection C.lt hN h14) rfl hc hs ?_
            refine x_ifeq (tgt := 55) C d6_bestSet_50 rfl (fun c16 => ?_) (fun c16 => ?_)
            · replace h := ite_p c16 h
              refine x_iinc hx C d6_bestSet_55 rfl rfl ?_
              refine r_goto (tgt := 4) C d6_bestSet_58 rfl ?_
              exact AtH.sw (ih h K) ⟨rfl, rfl, rfl, trivial⟩
            · replace h := ite_m c16 h
              refine r_iload_n C d6_bestSet_53 rfl ?_
              refine x_istore_n hx C d6_bestSet_54 rfl ?_
              refine x_iinc hx C d6_bestSet_55 rfl rfl ?_
              refine r_goto (tgt := 4) C d6_bestSet_58 rfl ?_
              exact AtH.sw (ih h K) ⟨rfl, rfl, rfl, trivial⟩
        · replace h := ite_m c10 h
          refine x_iinc hx C d6_bestSet_55 rfl rfl ?_
          refine r_goto (tgt := 4) C d6_bestSet_58 rfl ?_
          exact AtH.sw (ih h K) ⟨rfl, rfl, rfl, trivial⟩
def f6_bestSet (V : VV) : Option Int := bd (f6_bestSet_L4 V FU 0 1) (fun y17 => some y17)
theorem ev6_bestSet {G : GT} {l : Launch} {V : VV} {r : Int} (hlt : l.stackTraces = false) (hN : 154 ≤ gN G) (h : f6_bestSet V = some r) : EvX G l y6_bestSet b6_bestSet 4 (some .int) 5 0 0 [.ref (gB G + 148)] V (.ok (some (vI r))) V := by
  refine ev_w hlt (by decide +kernel) rfl rfl (fun X hl hx C M => ?_)
  subst hl
  replace C : Cx G X "ChannelScheduleModel" b6_bestSet := C
  unfold f6_bestSet at h
  show At G X 0 0 0 [(0, .ref (gB G + 148))] [] V
  refine r_iconst C d6_bestSet_0 ?_
  refine x_istore_n hx C d6_bestSet_1 rfl ?_
  refine r_iconst C d6_bestSet_2 ?_
  refine x_istore_n hx C d6_bestSet_3 rfl ?_
  obtain ⟨y17, h18, h⟩ := bd_of h
  refine AtH.sw (lp6_bestSet_4 hN hx C M (Nat.le_of_ble_eq_true rfl) (Nat.le_of_ble_eq_true rfl) FU h18 ?_) ⟨rfl, rfl, rfl, trivial⟩
  refine r_iload_n C d6_bestSet_61 rfl ?_
  exact e_i C M d6_bestSet_62 (Nat.le_of_ble_eq_true rfl) (Nat.le_of_ble_eq_true rfl) h
def f6_bestValue (V : VV) : Option (Int × VV) := bd (f6_bestSet (up2 V 148 9 0)) (fun r2 => bd (f6_valueOf (up2 V 148 9 0) r2) (fun r4 => some (r4, up2 V 148 9 0)))
theorem ev6_bestValue {G : GT} {l : Launch} {V : VV} {r : Int} {V1 : VV} (hlt : l.stackTraces = false) (hN : 154 ≤ gN G) (h : f6_bestValue V = some (r, V1)) : EvX G l y6_bestValue b6_bestValue 1 (some .int) 6 0 0 [.ref (gB G + 148)] V (.ok (some (vI r))) V1 := by
  refine ev_w hlt (by decide +kernel) rfl rfl (fun X hl hx C M => ?_)
  subst hl
  replace C : Cx G X "ChannelScheduleModel" b6_bestValue := C
  unfold f6_bestValue at h
  show At G X 0 0 0 [(0, .ref (gB G + 148))] [] V
  refine r_aload_n C d6_bestValue_0 rfl ?_
  refine r_iconst C d6_bestValue_1 ?_
  refine p_model_9 C d6_bestValue_2 f6_1 hN ?_
  refine r_aload_n C d6_bestValue_5 rfl ?_
  refine r_aload_n C d6_bestValue_6 rfl ?_
  obtain ⟨r2, h1, h⟩ := bd_of h
  refine cV0_i C M d6_bestValue_7 l6_298 w6_bestSet (rc_model hN) (ev6_bestSet C.lt hN h1) rfl (Nat.le_of_ble_eq_true rfl) (Nat.le_of_ble_eq_true rfl) ?_
  obtain ⟨r4, h3, h⟩ := bd_of h
  refine cV1_i C M d6_bestValue_10 l6_289 w6_valueOf (rc_model hN) (ev6_valueOf C.lt hN h3) rfl (Nat.le_of_ble_eq_true rfl) (Nat.le_of_ble_eq_true rfl) ?_
  exact e_iv C M d6_bestValue_13 (Nat.le_of_ble_eq_true rfl) (Nat.le_of_ble_eq_true rfl) h
def f6_isSelected (V : VV) (x1 : Int) : Option (Int × VV) := bd (f6_isRequest V x1) (fun r2 => bd ((if nrm r2 = 0 then some (1) else some (0))) (fun y4 => bd2 (f6_fails V y4 0 0) (fun r8 W9 => (if nrm r8 = 0 then bd (f6_bestSet W9) (fun r12 => (if nrm (aI (sI r12 x1) 1) = nrm 1 then some (1, W9) else some (0, W9))) else some (0, W9)))))
theorem ev6_isSelected {G : GT} {l : Launch} {V : VV} {x1 : Int} {r : Int} {V1 : VV} (hlt : l.stackTraces = false) (hN : 154 ≤ gN G) (h : f6_isSelected V x1 = some (r, V1)) : EvX G l y6_isSelected b6_isSelected 2 (some .boolean) 6 0 0 [.ref (gB G + 148), vI x1] V (.ok (some (vI r))) V1 := by
  refine ev_w hlt (by decide +kernel) rfl rfl (fun X hl hx C M => ?_)
  subst hl
  replace C : Cx G X "ChannelScheduleModel" b6_isSelected := C
  unfold f6_isSelected at h
  show At G X 0 0 0 [(0, .ref (gB G + 148)), (1, vI x1)] [] V
  refine r_aload_n C d6_isSelected_0 rfl ?_
  refine r_aload_n C d6_isSelected_1 rfl ?_
  refine r_iload_n C d6_isSelected_2 rfl ?_
  obtain ⟨r2, h1, h⟩ := bd_of h
  refine cV1_i C M d6_isSelected_3 l6_247 w6_isRequest (rc_model hN) (ev6_isRequest C.lt hN h1) rfl (Nat.le_of_ble_eq_true rfl) (Nat.le_of_ble_eq_true rfl) ?_
  obtain ⟨y4, h5, h⟩ := bd_of h
  suffices J6 : At G X 0 0 14 [(0, .ref (gB G + 148)), (1, vI x1)] [vI y4, .ref (gB G + 148)] V by
    replace h := h5
    refine x_ifne (tgt := 13) C d6_isSelected_6 rfl (fun c3 => ?_) (fun c3 => ?_)
    · replace h := ite_p c3 h
      refine r_iconst C d6_isSelected_9 ?_
      refine r_goto (tgt := 14) C d6_isSelected_10 rfl ?_
      cases h
      exact AtH.sw J6 ⟨rfl, rfl, trivial⟩
    · replace h := ite_m c3 h
      refine r_iconst C d6_isSelected_13 ?_
      cases h
      exact AtH.sw J6 ⟨rfl, rfl, trivial⟩
  refine r_iconst C d6_isSelected_14 ?_
  refine r_iconst C d6_isSelected_15 ?_
  obtain ⟨r8, W9, h7, h⟩ := bd2_of h
  refine cV3_i C M d6_isSelected_16 l6_148 w6_fails (rc_model hN) (ev6_fails C.lt hN h7) rfl (Nat.le_of_ble_eq_true rfl) (Nat.le_of_ble_eq_true rfl) ?_
  refine x_ifeq (tgt := 24) C d6_isSelected_19 rfl (fun c10 => ?_) (fun c10 => ?_)
  · replace h := ite_p c10 h
    refine r_aload_n C d6_isSelected_24 rfl ?_
    obtain ⟨r12, h11, h⟩ := bd_of h
    refine cV0_i C M d6_isSelected_25 l6_298 w6_bestSet (rc_model hN) (ev6_bestSet C.lt hN h11) rfl (Nat.le_of_ble_eq_true rfl) (Nat.le_of_ble_eq_true rfl) ?_
    refine r_iload_n C d6_isSelected_28 rfl ?_
    refine x_ishr C d6_isSelected_29 ?_
    refine r_iconst C d6_isSelected_30 ?_
    refine x_iand C d6_isSelected_31 ?_
    refine r_iconst C d6_isSelected_32 ?_
    refine x_icmpne (tgt := 40) C d6_isSelected_33 rfl (fun c13 => ?_) (fun c13 => ?_)
    · replace h := ite_p c13 h
      refine r_iconst C d6_isSelected_36 ?_
      refine r_goto (tgt := 41) C d6_isSelected_37 rfl ?_
      exact e_zv C M d6_isSelected_41 (Nat.le_of_ble_eq_true rfl) (Nat.le_of_ble_eq_true rfl) (Or.inr rfl) h
    · replace h := ite_m c13 h
      refine r_iconst C d6_isSelected_40 ?_
      exact e_zv C M d6_isSelected_41 (Nat.le_of_ble_eq_true rfl) (Nat.le_of_ble_eq_true rfl) (Or.inl rfl) h
  · replace h := ite_m c10 h
    refine r_iconst C d6_isSelected_22 ?_
    exact e_zv C M d6_isSelected_23 (Nat.le_of_ble_eq_true rfl) (Nat.le_of_ble_eq_true rfl) (Or.inl rfl) h
def f6_servedWithout (V : VV) (x1 : Int) : Option (Int × VV) := bd (f6_isBooking V x1) (fun r2 => bd ((if nrm r2 = 0 then some (1) else some (0))) (fun y4 => bd2 (f6_fails V y4 0 0) (fun r8 W9 => (if nrm r8 = 0 then bd (f6_copyBlock W9 0 9) (fun W12 => bd2 (f6_cancelIt W12 x1) (fun r14 W15 => bd (f6_copyBlock W15 9 0) (fun W17 => some (r14, W17)))) else some (0, W9)))))
theorem ev6_servedWithout {G : GT} {l : Launch} {V : VV} {x1 : Int} {r : Int} {V1 : VV} (hlt : l.stackTraces = false) (hN : 154 ≤ gN G) (h : f6_servedWithout V x1 = some (r, V1)) : EvX G l y6_servedWithout b6_servedWithout 3 (some .int) 8 0 0 [.ref (gB G + 148), vI x1] V (.ok (some (vI r))) V1 := by
  refine ev_w hlt (by decide +kernel) rfl rfl (fun X hl hx C M => ?_)
  subst hl
  replace C : Cx G X "ChannelScheduleModel" b6_servedWithout := C
  unfold f6_servedWithout at h
  show At G X 0 0 0 [(0, .ref (gB G + 148)), (1, vI x1)] [] V
  refine r_aload_n C d6_servedWithout_0 rfl ?_
  refine r_aload_n C d6_servedWithout_1 rfl ?_
  refine r_iload_n C d6_servedWithout_2 rfl ?_
  obtain ⟨r2, h1, h⟩ := bd_of h
  refine cV1_i C M d6_servedWithout_3 l6_235 w6_isBooking (rc_model hN) (ev6_isBooking C.lt hN h1) rfl (Nat.le_of_ble_eq_true rfl) (Nat.le_of_ble_eq_true rfl) ?_
  obtain ⟨y4, h5, h⟩ := bd_of h
  suffices J6 : At G X 0 0 14 [(0, .ref (gB G + 148)), (1, vI x1)] [vI y4, .ref (gB G + 148)] V by
    replace h := h5
    refine x_ifne (tgt := 13) C d6_servedWithout_6 rfl (fun c3 => ?_) (fun c3 => ?_)
    · replace h := ite_p c3 h
      refine r_iconst C d6_servedWithout_9 ?_
      refine r_goto (tgt := 14) C d6_servedWithout_10 rfl ?_
      cases h
      exact AtH.sw J6 ⟨rfl, rfl, trivial⟩
    · replace h := ite_m c3 h
      refine r_iconst C d6_servedWithout_13 ?_
      cases h
      exact AtH.sw J6 ⟨rfl, rfl, trivial⟩
  refine r_iconst C d6_servedWithout_14 ?_
  refine r_iconst C d6_servedWithout_15 ?_
  obtain ⟨r8, W9, h7, h⟩ := bd2_of h
  refine cV3_i C M d6_servedWithout_16 l6_148 w6_fails (rc_model hN) (ev6_fails C.lt hN h7) rfl (Nat.le_of_ble_eq_true rfl) (Nat.le_of_ble_eq_true rfl) ?_
  refine x_ifeq (tgt := 24) C d6_servedWithout_19 rfl (fun c10 => ?_) (fun c10 => ?_)
  · replace h := ite_p c10 h
    refine r_aload_n C d6_servedWithout_24 rfl ?_
    refine r_iconst C d6_servedWithout_25 ?_
    refine r_bipush C d6_servedWithout_26 (by decide +kernel) ?_
    obtain ⟨W12, h11, h⟩ := bd_of h
    refine cV2_v C M d6_servedWithout_28 l6_79 w6_copyBlock (rc_model hN) (ev6_copyBlock C.lt hN h11) rfl (Nat.le_of_ble_eq_true rfl) (Nat.le_of_ble_eq_true rfl) ?_
    refine r_aload_n C d6_servedWithout_31 rfl ?_
    refine r_iload_n C d6_servedWithout_32 rfl ?_
    obtain ⟨r14, W15, h13, h⟩ := bd2_of h
    refine cV1_i C M d6_servedWithout_33 l6_238 w6_cancelIt (rc_model hN) (ev6_cancelIt C.lt hN h13) rfl (Nat.le_of_ble_eq_true rfl) (Nat.le_of_ble_eq_true rfl) ?_
    refine x_istore_n hx C d6_servedWithout_36 rfl ?_
    refine r_aload_n C d6_servedWithout_37 rfl ?_
    refine r_bipush C d6_servedWithout_38 (by decide +kernel) ?_
    refine r_iconst C d6_servedWithout_40 ?_
    obtain ⟨W17, h16, h⟩ := bd_of h
    refine cV2_v C M d6_servedWithout_41 l6_79 w6_copyBlock (rc_model hN) (ev6_copyBlock C.lt hN h16) rfl (Nat.le_of_ble_eq_true rfl) (Nat.le_of_ble_eq_true rfl) ?_
    refine r_iload_n C d6_servedWithout_44 rfl ?_
    exact e_iv C M d6_servedWithout_45 (Nat.le_of_ble_eq_true rfl) (Nat.le_of_ble_eq_true rfl) h
  · replace h := ite_m c10 h
    refine r_iconst C d6_servedWithout_22 ?_
    exact e_iv C M d6_servedWithout_23 (Nat.le_of_ble_eq_true rfl) (Nat.le_of_ble_eq_true rfl) h
def f6_bookingsMade (V : VV) : Option (Int × VV) := bd2 (f6_plain V (V 149 7)) (fun r2 W3 => some (r2, W3))
theorem ev6_bookingsMade {G : GT} {l : Launch} {V : VV} {r : Int} {V1 : VV} (hlt : l.stackTraces = false) (hN : 154 ≤ gN G) (h : f6_bookingsMade V = some (r, V1)) : EvX G l y6_bookingsMade b6_bookingsMade 1 (some .int) 1 0 0 [.ref (gB G + 148)] V (.ok (some (vI r))) V1 := by
  refine ev_w hlt (by decide +kernel) rfl rfl (fun X hl hx C M => ?_)
  subst hl
  replace C : Cx G X "ChannelScheduleModel" b6_bookingsMade := C
  unfold f6_bookingsMade at h
  show At G X 0 0 0 [(0, .ref (gB G + 148))] [] V
  refine r_aload_n C d6_bookingsMade_0 rfl ?_
  refine r_aload_n C d6_bookingsMade_1 rfl ?_
  refine g_model_0 C d6_bookingsMade_2 f6_13 hN ?_
  refine r_bipush C d6_bookingsMade_5 (by decide +kernel) ?_
  refine x_iald C d6_bookingsMade_7 (ra_m hN) (by omega) ?_
  obtain ⟨r2, W3, h1, h⟩ := bd2_of h
  refine cV1_i C M d6_bookingsMade_8 l6_265 w6_plain (rc_model hN) (ev6_plain C.lt hN h1) rfl (Nat.le_of_ble_eq_true rfl) (Nat.le_of_ble_eq_true rfl) ?_
  exact e_iv C M d6_bookingsMade_11 (Nat.le_of_ble_eq_true rfl) (Nat.le_of_ble_eq_true rfl) h
def f6_bookingsCancelled (V : VV) : Option (Int × VV) := bd2 (f6_plain V (V 149 8)) (fun r2 W3 => some (r2, W3))
theorem ev6_bookingsCancelled {G : GT} {l : Launch} {V : VV} {r : Int} {V1 : VV} (hlt : l.stackTraces = false) (hN : 154 ≤ gN G) (h : f6_bookingsCancelled V = some (r, V1)) : EvX G l y6_bookingsCancelled b6_bookingsCancelled 1 (some .int) 1 0 0 [.ref (gB G + 148)] V (.ok (some (vI r))) V1 := by
  refine ev_w hlt (by decide +kernel) rfl rfl (fun X hl hx C M => ?_)
  subst hl
  replace C : Cx G X "ChannelScheduleModel" b6_bookingsCancelled := C
  unfold f6_bookingsCancelled at h
  show At G X 0 0 0 [(0, .ref (gB G + 148))] [] V
  refine r_aload_n C d6_bookingsCancelled_0 rfl ?_
  refine r_aload_n C d6_bookingsCancelled_1 rfl ?_
  refine g_model_0 C d6_bookingsCancelled_2 f6_13 hN ?_
  refine r_bipush C d6_bookingsCancelled_5 (by decide +kernel) ?_
  refine x_iald C d6_bookingsCancelled_7 (ra_m hN) (by omega) ?_
  obtain ⟨r2, W3, h1, h⟩ := bd2_of h
  refine cV1_i C M d6_bookingsCancelled_8 l6_265 w6_plain (rc_model hN) (ev6_plain C.lt hN h1) rfl (Nat.le_of_ble_eq_true rfl) (Nat.le_of_ble_eq_true rfl) ?_
  exact e_iv C M d6_bookingsCancelled_11 (Nat.le_of_ble_eq_true rfl) (Nat.le_of_ble_eq_true rfl) h
def f6_requestsServed (V : VV) : Option (Int × VV) := bd2 (f6_plain V (V 149 9)) (fun r2 W3 => some (r2, W3))
theorem ev6_requestsServed {G : GT} {l : Launch} {V : VV} {r : Int} {V1 : VV} (hlt : l.stackTraces = false) (hN : 154 ≤ gN G) (h : f6_requestsServed V = some (r, V1)) : EvX G l y6_requestsServed b6_requestsServed 1 (some .int) 1 0 0 [.ref (gB G + 148)] V (.ok (some (vI r))) V1 := by
  refine ev_w hlt (by decide +kernel) rfl rfl (fun X hl hx C M => ?_)
  subst hl
  replace C : Cx G X "ChannelScheduleModel" b6_requestsServed := C
  unfold f6_requestsServed at h
  show At G X 0 0 0 [(0, .ref (gB G + 148))] [] V
  refine r_aload_n C d6_requestsServed_0 rfl ?_
  refine r_aload_n C d6_requestsServed_1 rfl ?_
  refine g_model_0 C d6_requestsServed_2 f6_13 hN ?_
  refine r_bipush C d6_requestsServed_5 (by decide +kernel) ?_
  refine x_iald C d6_requestsServed_7 (ra_m hN) (by omega) ?_
  obtain ⟨r2, W3, h1, h⟩ := bd2_of h
  refine cV1_i C M d6_requestsServed_8 l6_265 w6_plain (rc_model hN) (ev6_plain C.lt hN h1) rfl (Nat.le_of_ble_eq_true rfl) (Nat.le_of_ble_eq_true rfl) ?_
  exact e_iv C M d6_requestsServed_11 (Nat.le_of_ble_eq_true rfl) (Nat.le_of_ble_eq_true rfl) h
def f6_inconsistencies_L44 (V : VV) (x2 : Int) : Nat → Int → Int → Option (Int)
  | 0, _, _ => none
  | n + 1, x1, x3 => (if nrm (V 149 5) ≤ nrm x3 then some x1 else bd (f6_ofBooking V x3 1) (fun r4 => bd (f6_ofBooking V x3 2) (fun r6 => bd (f6_ofBooking V x3 3) (fun r8 => bd (f6_conflictsWith V x2 r4 r6 r8) (fun r10 => (if nrm r10 = 0 then f6_inconsistencies_L44 V x2 n (x1 + 0) (x3 + 1) else f6_inconsistencies_L44 V x2 n (x1 + 1) (x3 + 1)))))))
theorem lp6_inconsistencies_44 {G : GT} {X : CT} {cells slots : Nat} {V : VV} (hN : 154 ≤ gN G) (hx : xN X = 4) (C : Cx G X "ChannelScheduleModel" b6_inconsistencies) {x2 : Int} {o0 : Except String (Option Value)} {V9 : VV} (M : MX G X 3 0 0 (some .int) o0 V9) (hc : cells ≤ 0) (hs : slots ≤ 0) : ∀ (n : Nat) {x1 : Int} {x3 : Int} {e1 : Int}, f6_inconsistencies_L44 V x2 n x1 x3 = some (e1) → At G X cells slots 94 [(0, .ref (gB G + 148)), (1, vI e1), (2, vI x2)] [] V → At G X cells slots 44 [(0, .ref (gB G + 148)), (1, vI x1), (2, vI x2), (3, vI x3)] [] V := by
  intro n
  induction n with
  | zero => intro x1 x3 e1 h _; exact nomatch h
  | succ n ih =>
    intro x1 x3 e1 h K
    rw [f6_inconsistencies_L44] at h
    refine r_iload_n C d6_inconsistencies_44 rfl ?_
    refine r_aload_n C d6_inconsistencies_45 rfl ?_
    refine g_model_0 C d6_inconsistencies_46 f6_13 hN ?_
    refine r_iconst C d6_inconsistencies_49 ?_
    refine x_iald C d6_inconsistencies_50 (ra_m hN) (by omega) ?_
    refine x_icmpge (tgt := 94) C d6_inconsistencies_51 rfl (fun c2 => ?_) (fun c2 => ?_)
    · replace h := ite_p c2 h
      cases h
      exact AtH.sw K ⟨rfl, rfl, rfl, trivial⟩
    · replace h := ite_m c2 h
      refine r_iload_n C d6_inconsistencies_54 rfl ?_
      refine r_aload_n C d6_inconsistencies_55 rfl ?_
      refine r_iload_n C d6_inconsistencies_56 rfl ?_
      refine r_aload_n C d6_inconsistencies_57 rfl ?_
      refine r_iload_n C d6_inconsistencies_58 rfl ?_
      refine r_iconst C d6_inconsistencies_59 ?_
      obtain ⟨r4, h3, h⟩ := bd_of h
      refine cV2_i C M d6_inconsistencies_60 l6_91 w6_ofBooking (rc_model hN) (ev6_ofBooking C.lt hN h3) rfl hc hs ?_
      refine r_aload_n C d6_inconsistencies_63 rfl ?_
      refine r_iload_n C d6_inconsistencies_64 rfl ?_
      refine r_iconst C d6_inconsistencies_65 ?_
      obtain ⟨r6, h5, h⟩ := bd_of h
      refine cV2_i C M d6_inconsistencies_66 l6_91 w6_ofBooking (rc_model hN) (ev6_ofBooking C.lt hN h5) rfl hc hs ?_
      refine r_aload_n C d6_inconsistencies_69 rfl ?_
      refine r_iload_n C d6_inconsistencies_70 rfl ?_
      refine r_iconst C d6_inconsistencies_71 ?_
      obtain ⟨r8, h7, h⟩ := bd_of h
      refine cV2_i C M d6_inconsistencies_72 l6_91 w6_ofBooking (rc_model hN) (ev6_ofBooking C.lt hN h7) rfl hc hs ?_
      obtain ⟨r10, h9, h⟩ := bd_of h
      refine cV4_i C M d6_inconsistencies_75 l6_98 w6_conflictsWith (rc_model hN) (ev6_conflictsWith C.lt hN h9) rfl hc hs ?_
      refine x_ifeq (tgt := 85) C d6_inconsistencies_78 rfl (fun c11 => ?_) (fun c11 => ?_)
      · replace h := ite_p c11 h
        refine r_iconst C d6_inconsistencies_85 ?_
        refine r_iadd C d6_inconsistencies_86 ?_
        refine x_istore_n hx C d6_inconsistencies_87 rfl ?_
        refine x_iinc hx C d6_inconsistencies_88 rfl rfl ?_
        refine r_goto (tgt := 44) C d6_inconsistencies_91 rfl ?_
        exact AtH.sw (ih h K) ⟨rfl, rfl, rfl, rfl, trivial⟩
      · replace h := ite_m c11 h
        refine r_iconst C d6_inconsistencies_81 ?_
        refine r_goto (tgt := 86) C d6_inconsistencies_82 rfl ?_
        refine r_iadd C d6_inconsistencies_86 ?_
        refine x_istore_n hx C d6_inconsistencies_87 rfl ?_
        refine x_iinc hx C d6_inconsistencies_88 rfl rfl ?_
        refine r_goto (tgt := 44) C d6_inconsistencies_91 rfl ?_
        exact AtH.sw (ih h K) ⟨rfl, rfl, rfl, rfl, trivial⟩
def f6_inconsistencies_L30 (V : VV) : Nat → Int → Int → Option (Int)
  | 0, _, _ => none
  | n + 1, x1, x2 => (if nrm (V 149 5) ≤ nrm x2 then some x1 else bd (f6_inconsistencies_L44 V x2 FU x1 (x2 + 1)) (fun y12 => f6_inconsistencies_L30 V n y12 (x2 + 1)))
theorem lp6_inconsistencies_30 {G : GT} {X : CT} {cells slots : Nat} {V : VV} (hN : 154 ≤ gN G) (hx : xN X = 4) (C : Cx G X "ChannelScheduleModel" b6_inconsistencies) {o0 : Except String (Option Value)} {V9 : VV} (M : MX G X 3 0 0 (some .int) o0 V9) (hc : cells ≤ 0) (hs : slots ≤ 0) : ∀ (n : Nat) {x1 : Int} {x2 : Int} {e1 : Int}, f6_inconsistencies_L30 V n x1 x2 = some (e1) → At G X cells slots 100 [(1, vI e1)] [] V → At G X cells slots 30 [(0, .ref (gB G + 148)), (1, vI x1), (2, vI x2)] [] V := by
  intro n
  induction n with
  | zero => intro x1 x2 e1 h _; exact nomatch h
  | succ n ih =>
    intro x1 x2 e1 h K
    rw [f6_inconsistencies_L30] at h
    refine r_iload_n C d6_inconsistencies_30 rfl ?_
    refine r_aload_n C d6_inconsistencies_31 rfl ?_
    refine g_model_0 C d6_inconsistencies_32 f6_13 hN ?_
    refine r_iconst C d6_inconsistencies_35 ?_
    refine x_iald C d6_inconsistencies_36 (ra_m hN) (by omega) ?_
    refine x_icmpge (tgt := 100) C d6_inconsistencies_37 rfl (fun c1 => ?_) (fun c1 => ?_)
    · replace h := ite_p c1 h
      cases h
      exact AtH.sw K ⟨rfl, trivial⟩
    · replace h := ite_m c1 h
      refine r_iload_n C d6_inconsistencies_40 rfl ?_
      refine r_iconst C d6_inconsistencies_41 ?_
      refine r_iadd C d6_inconsistencies_42 ?_
      refine x_istore_n hx C d6_inconsistencies_43 rfl ?_
      obtain ⟨y12, h13, h⟩ := bd_of h
      refine AtH.sw (lp6_inconsistencies_44 hN hx C M hc hs FU h13 ?_) ⟨rfl, rfl, rfl, rfl, trivial⟩
      refine x_iinc hx C d6_inconsistencies_94 rfl rfl ?_
      refine r_goto (tgt := 30) C d6_inconsistencies_97 rfl ?_
      exact AtH.sw (ih h K) ⟨rfl, rfl, rfl, trivial⟩
def f6_inconsistencies (V : VV) : Option (Int × VV) := bd (f6_inconsistencies_L30 (up2 V 148 9 0) FU ((((up2 V 148 9 0) 149 7) - ((up2 V 148 9 0) 149 8)) - ((up2 V 148 9 0) 149 5)) 0) (fun y14 => some (y14, up2 V 148 9 0))
theorem ev6_inconsistencies {G : GT} {l : Launch} {V : VV} {r : Int} {V1 : VV} (hlt : l.stackTraces = false) (hN : 154 ≤ gN G) (h : f6_inconsistencies V = some (r, V1)) : EvX G l y6_inconsistencies b6_inconsistencies 4 (some .int) 3 0 0 [.ref (gB G + 148)] V (.ok (some (vI r))) V1 := by
  refine ev_w hlt (by decide +kernel) rfl rfl (fun X hl hx C M => ?_)
  subst hl
  replace C : Cx G X "ChannelScheduleModel" b6_inconsistencies := C
  unfold f6_inconsistencies at h
  show At G X 0 0 0 [(0, .ref (gB G + 148))] [] V
  refine r_aload_n C d6_inconsistencies_0 rfl ?_
  refine r_iconst C d6_inconsistencies_1 ?_
  refine p_model_9 C d6_inconsistencies_2 f6_1 hN ?_
  refine r_aload_n C d6_inconsistencies_5 rfl ?_
  refine g_model_0 C d6_inconsistencies_6 f6_13 hN ?_
  refine r_bipush C d6_inconsistencies_9 (by decide +kernel) ?_
  refine x_iald C d6_inconsistencies_11 (ra_m hN) (by omega) ?_
  refine r_aload_n C d6_inconsistencies_12 rfl ?_
  refine g_model_0 C d6_inconsistencies_13 f6_13 hN ?_
  refine r_bipush C d6_inconsistencies_16 (by decide +kernel) ?_
  refine x_iald C d6_inconsistencies_18 (ra_m hN) (by omega) ?_
  refine r_isub C d6_inconsistencies_19 ?_
  refine r_aload_n C d6_inconsistencies_20 rfl ?_
  refine g_model_0 C d6_inconsistencies_21 f6_13 hN ?_
  refine r_iconst C d6_inconsistencies_24 ?_
  refine x_iald C d6_inconsistencies_25 (ra_m hN) (by omega) ?_
  refine r_isub C d6_inconsistencies_26 ?_
  refine x_istore_n hx C d6_inconsistencies_27 rfl ?_
  refine r_iconst C d6_inconsistencies_28 ?_
  refine x_istore_n hx C d6_inconsistencies_29 rfl ?_
  obtain ⟨y14, h15, h⟩ := bd_of h
  refine AtH.sw (lp6_inconsistencies_30 hN hx C M (Nat.le_of_ble_eq_true rfl) (Nat.le_of_ble_eq_true rfl) FU h15 ?_) ⟨rfl, rfl, rfl, trivial⟩
  refine r_iload_n C d6_inconsistencies_100 rfl ?_
  exact e_iv C M d6_inconsistencies_101 (Nat.le_of_ble_eq_true rfl) (Nat.le_of_ble_eq_true rfl) h
def f6_book (V : VV) (x1 : Int) (x2 : Int) (x3 : Int) : Option (Int × VV) := bd (f6_isShip V x1) (fun r2 => bd ((if nrm r2 = 0 then some (0) else bd (f6_in V x3 0 999) (fun r5 => (if nrm r5 = 0 then some (0) else some (1))))) (fun y7 => bd (f6_isShip V x1) (fun r11 => bd ((if nrm r11 = 0 then some (1) else some (0))) (fun y13 => bd (f6_in V x3 0 999) (fun r17 => bd ((if nrm r17 = 0 then some (1) else some (0))) (fun y19 => bd ((if nrm y7 = 0 then some (0) else bd ((if nrm x2 = 0 then some (0) else some (1))) (fun y24 => bd (f6_canBook V x1 y24 x3) (fun r28 => (if nrm r28 = 0 then some (1) else some (0)))))) (fun y30 => bd2 (f6_fails V y13 y19 y30) (fun r34 W35 => (if nrm r34 = 0 then bd (f6_remember W35 0) (fun W38 => bd ((if nrm x2 = 0 then some (0) else some (1))) (fun y40 => bd (f6_addBooking W38 x1 y40 x3) (fun W44 => bd (f6_transit W44 x1) (fun r46 => some (x3 + r46, W44))))) else some (0, W35))))))))))
theorem ev6_book {G : GT} {l : Launch} {V : VV} {x1 : Int} {x2 : Int} {x3 : Int} {r : Int} {V1 : VV} (hlt : l.stackTraces = false) (hN : 154 ≤ gN G) (h : f6_book V x1 x2 x3 = some (r, V1)) : EvX G l y6_book b6_book 5 (some .int) 5 0 0 [.ref (gB G + 148), vI x1, vI x2, vI x3] V (.ok (some (vI r))) V1 := by
  refine ev_w hlt (by decide +kernel) rfl rfl (fun X hl hx C M => ?_)
  subst hl
  replace C : Cx G X "ChannelScheduleModel" b6_book := C
  unfold f6_book at h
  show At G X 0 0 0 [(0, .ref (gB G + 148)), (1, vI x1), (2, vI x2), (3, vI x3)] [] V
  refine r_aload_n C d6_book_0 rfl ?_
  refine r_iload_n C d6_book_1 rfl ?_
  obtain ⟨r2, h1, h⟩ := bd_of h
  refine cV1_i C M d6_book_2 l6_268 w6_isShip (rc_model hN) (ev6_isShip C.lt hN h1) rfl (Nat.le_of_ble_eq_true rfl) (Nat.le_of_ble_eq_true rfl) ?_
  obtain ⟨y7, h8, h⟩ := bd_of h
  suffices J9 : At G X 0 0 24 [(0, .ref (gB G + 148)), (1, vI x1), (2, vI x2), (3, vI x3)] [vI y7] V by
    replace h := h8
    refine x_ifeq (tgt := 23) C d6_book_5 rfl (fun c3 => ?_) (fun c3 => ?_)
    · replace h := ite_p c3 h
      refine r_iconst C d6_book_23 ?_
      cases h
      exact AtH.sw J9 ⟨rfl, rfl, rfl, rfl, trivial⟩
    · replace h := ite_m c3 h
      refine r_iload_n C d6_book_8 rfl ?_
      refine r_iconst C d6_book_9 ?_
      refine r_sipush C d6_book_10 (by decide +kernel) ?_
      obtain ⟨r5, h4, h⟩ := bd_of h
      refine cS3_i C M d6_book_13 l6_75 w6_in (ev6_in C.lt hN h4) rfl (Nat.le_of_ble_eq_true rfl) (Nat.le_of_ble_eq_true rfl) ?_
      refine x_ifeq (tgt := 23) C d6_book_16 rfl (fun c6 => ?_) (fun c6 => ?_)
      · replace h := ite_p c6 h
        refine r_iconst C d6_book_23 ?_
        cases h
        exact AtH.sw J9 ⟨rfl, rfl, rfl, rfl, trivial⟩
      · replace h := ite_m c6 h
        refine r_iconst C d6_book_19 ?_
        refine r_goto (tgt := 24) C d6_book_20 rfl ?_
        cases h
        exact AtH.sw J9 ⟨rfl, rfl, rfl, rfl, trivial⟩
  refine x_istore hx C d6_book_24 rfl ?_
  refine r_aload_n C d6_book_26 rfl ?_
  refine r_aload_n C d6_book_27 rfl ?_
  refine r_iload_n C d6_book_28 rfl ?_
  obtain ⟨r11, h10, h⟩ := bd_of h
  refine cV1_i C M d6_book_29 l6_268 w6_isShip (rc_model hN) (ev6_isShip C.lt hN h10) rfl (Nat.le_of_ble_eq_true rfl) (Nat.le_of_ble_eq_true rfl) ?_
  obtain ⟨y13, h14, h⟩ := bd_of h
  suffices J15 : At G X 0 0 40 [(0, .ref (gB G + 148)), (1, vI x1), (2, vI x2), (3, vI x3), (4, vI y7)] [vI y13, .ref (gB G + 148)] V by
    replace h := h14
    refine x_ifne (tgt := 39) C d6_book_32 rfl (fun c12 => ?_) (fun c12 => ?_)
    · replace h := ite_p c12 h
      refine r_iconst C d6_book_35 ?_
      refine r_goto (tgt := 40) C d6_book_36 rfl ?_
      cases h
      exact AtH.sw J15 ⟨rfl, rfl, rfl, rfl, rfl, trivial⟩
    · replace h := ite_m c12 h
      refine r_iconst C d6_book_39 ?_
      cases h
      exact AtH.sw J15 ⟨rfl, rfl, rfl, rfl, rfl, trivial⟩
  refine r_iload_n C d6_book_40 rfl ?_
  refine r_iconst C d6_book_41 ?_
  refine r_sipush C d6_book_42 (by decide +kernel) ?_
  obtain ⟨r17, h16, h⟩ := bd_of h
  refine cS3_i C M d6_book_45 l6_75 w6_in (ev6_in C.lt hN h16) rfl (Nat.le_of_ble_eq_true rfl) (Nat.le_of_ble_eq_true rfl) ?_
  obtain ⟨y19, h20, h⟩ := bd_of h
  suffices J21 : At G X 0 0 56 [(0, .ref (gB G + 148)), (1, vI x1), (2, vI x2), (3, vI x3), (4, vI y7)] [vI y19, vI y13, .ref (gB G + 148)] V by
    replace h := h20
    refine x_ifne (tgt := 55) C d6_book_48 rfl (fun c18 => ?_) (fun c18 => ?_)
    · replace h := ite_p c18 h
      refine r_iconst C d6_book_51 ?_
      refine r_goto (tgt := 56) C d6_book_52 rfl ?_
      cases h
      exact AtH.sw J21 ⟨rfl, rfl, rfl, rfl, rfl, trivial⟩
    · replace h := ite_m c18 h
      refine r_iconst C d6_book_55 ?_
      cases h
      exact AtH.sw J21 ⟨rfl, rfl, rfl, rfl, rfl, trivial⟩
  refine r_iload C d6_book_56 rfl ?_
  obtain ⟨y30, h31, h⟩ := bd_of h
  suffices J32 : At G X 0 0 84 [(0, .ref (gB G + 148)), (1, vI x1), (2, vI x2), (3, vI x3)] [vI y30, vI y19, vI y13, .ref (gB G + 148)] V by
    replace h := h31
    refine x_ifeq (tgt := 83) C d6_book_58 rfl (fun c22 => ?_) (fun c22 => ?_)
    · replace h := ite_p c22 h
      refine r_iconst C d6_book_83 ?_
      cases h
      exact AtH.sw J32 ⟨rfl, rfl, rfl, rfl, trivial⟩
    · replace h := ite_m c22 h
      refine r_aload_n C d6_book_61 rfl ?_
      refine r_iload_n C d6_book_62 rfl ?_
      refine r_iload_n C d6_book_63 rfl ?_
      obtain ⟨y24, h25, h⟩ := bd_of h
      suffices J26 : At G X 0 0 72 [(0, .ref (gB G + 148)), (1, vI x1), (2, vI x2), (3, vI x3)] [vI y24, vI x1, .ref (gB G + 148), vI y19, vI y13, .ref (gB G + 148)] V by
        replace h := h25
        refine x_ifeq (tgt := 71) C d6_book_64 rfl (fun c23 => ?_) (fun c23 => ?_)
        · replace h := ite_p c23 h
          refine r_iconst C d6_book_71 ?_
          cases h
          exact AtH.sw J26 ⟨rfl, rfl, rfl, rfl, trivial⟩
        · replace h := ite_m c23 h
          refine r_iconst C d6_book_67 ?_
          refine r_goto (tgt := 72) C d6_book_68 rfl ?_
          cases h
          exact AtH.sw J26 ⟨rfl, rfl, rfl, rfl, trivial⟩
      refine r_iload_n C d6_book_72 rfl ?_
      obtain ⟨r28, h27, h⟩ := bd_of h
      refine cV3_i C M d6_book_73 l6_226 w6_canBook (rc_model hN) (ev6_canBook C.lt hN h27) rfl (Nat.le_of_ble_eq_true rfl) (Nat.le_of_ble_eq_true rfl) ?_
      refine x_ifne (tgt := 83) C d6_book_76 rfl (fun c29 => ?_) (fun c29 => ?_)
      · replace h := ite_p c29 h
        refine r_iconst C d6_book_79 ?_
        refine r_goto (tgt := 84) C d6_book_80 rfl ?_
        cases h
        exact AtH.sw J32 ⟨rfl, rfl, rfl, rfl, trivial⟩
      · replace h := ite_m c29 h
        refine r_iconst C d6_book_83 ?_
        cases h
        exact AtH.sw J32 ⟨rfl, rfl, rfl, rfl, trivial⟩
  obtain ⟨r34, W35, h33, h⟩ := bd2_of h
  refine cV3_i C M d6_book_84 l6_148 w6_fails (rc_model hN) (ev6_fails C.lt hN h33) rfl (Nat.le_of_ble_eq_true rfl) (Nat.le_of_ble_eq_true rfl) ?_
  refine x_ifeq (tgt := 92) C d6_book_87 rfl (fun c36 => ?_) (fun c36 => ?_)
  · replace h := ite_p c36 h
    refine r_aload_n C d6_book_92 rfl ?_
    refine r_iconst C d6_book_93 ?_
    obtain ⟨W38, h37, h⟩ := bd_of h
    refine cV1_v C M d6_book_94 l6_259 w6_remember (rc_model hN) (ev6_remember C.lt hN h37) rfl (Nat.le_of_ble_eq_true rfl) (Nat.le_of_ble_eq_true rfl) ?_
    refine r_aload_n C d6_book_97 rfl ?_
    refine r_iload_n C d6_book_98 rfl ?_
    refine r_iload_n C d6_book_99 rfl ?_
    obtain ⟨y40, h41, h⟩ := bd_of h
    suffices J42 : At G X 0 0 108 [(0, .ref (gB G + 148)), (1, vI x1), (3, vI x3)] [vI y40, vI x1, .ref (gB G + 148)] W38 by
      replace h := h41
      refine x_ifeq (tgt := 107) C d6_book_100 rfl (fun c39 => ?_) (fun c39 => ?_)
      · replace h := ite_p c39 h
        refine r_iconst C d6_book_107 ?_
        cases h
        exact AtH.sw J42 ⟨rfl, rfl, rfl, trivial⟩
      · replace h := ite_m c39 h
        refine r_iconst C d6_book_103 ?_
        refine r_goto (tgt := 108) C d6_book_104 rfl ?_
        cases h
        exact AtH.sw J42 ⟨rfl, rfl, rfl, trivial⟩
    refine r_iload_n C d6_book_108 rfl ?_
    obtain ⟨W44, h43, h⟩ := bd_of h
    refine cV3_v C M d6_book_109 l6_120 w6_addBooking (rc_model hN) (ev6_addBooking C.lt hN h43) rfl (Nat.le_of_ble_eq_true rfl) (Nat.le_of_ble_eq_true rfl) ?_
    refine r_iload_n C d6_book_112 rfl ?_
    refine r_aload_n C d6_book_113 rfl ?_
    refine r_iload_n C d6_book_114 rfl ?_
    obtain ⟨r46, h45, h⟩ := bd_of h
    refine cV1_i C M d6_book_115 l6_94 w6_transit (rc_model hN) (ev6_transit C.lt hN h45) rfl (Nat.le_of_ble_eq_true rfl) (Nat.le_of_ble_eq_true rfl) ?_
    refine r_iadd C d6_book_118 ?_
    exact e_iv C M d6_book_119 (Nat.le_of_ble_eq_true rfl) (Nat.le_of_ble_eq_true rfl) h
  · replace h := ite_m c36 h
    refine r_iconst C d6_book_90 ?_
    exact e_iv C M d6_book_91 (Nat.le_of_ble_eq_true rfl) (Nat.le_of_ble_eq_true rfl) h
def f6_request (V : VV) (x1 : Int) (x2 : Int) (x3 : Int) (x4 : Int) : Option (Int × VV) := bd (f6_in V x3 0 999) (fun r2 => bd ((if nrm r2 = 0 then some (0) else bd (f6_in V x4 x3 999) (fun r5 => (if nrm r5 = 0 then some (0) else some (1))))) (fun y7 => bd (f6_isShip V x1) (fun r11 => bd ((if nrm r11 = 0 then some (0) else (if nrm y7 = 0 then some (0) else some (1)))) (fun y14 => bd (f6_isShip V x1) (fun r18 => bd ((if nrm r18 = 0 then some (1) else some (0))) (fun y20 => bd ((if nrm y7 = 0 then some (1) else some (0))) (fun y24 => bd ((if nrm y14 = 0 then some (0) else bd ((if nrm x2 = 0 then some (0) else some (1))) (fun y29 => bd (f6_canRequest V x1 y29 x3 x4) (fun r33 => (if nrm r33 = 0 then some (1) else some (0)))))) (fun y35 => bd2 (f6_fails V y20 y24 y35) (fun r39 W40 => (if nrm r39 = 0 then bd (f6_remember W40 0) (fun W43 => bd ((if nrm x2 = 0 then some (0) else some (1))) (fun y45 => bd2 (f6_requestIt W43 x1 y45 x3 x4) (fun r49 W50 => some (r49, W50)))) else some (0, W40)))))))))))
theorem ev6_request {G : GT} {l : Launch} {V : VV} {x1 : Int} {x2 : Int} {x3 : Int} {x4 : Int} {r : Int} {V1 : VV} (hlt : l.stackTraces = false) (hN : 154 ≤ gN G) (h : f6_request V x1 x2 x3 x4 = some (r, V1)) : EvX G l y6_request b6_request 7 (some .int) 7 0 0 [.ref (gB G + 148), vI x1, vI x2, vI x3, vI x4] V (.ok (some (vI r))) V1 := by
  refine ev_w hlt (by decide +kernel) rfl rfl (fun X hl hx C M => ?_)
  subst hl
  replace C : Cx G X "ChannelScheduleModel" b6_request := C
  unfold f6_request at h
  show At G X 0 0 0 [(0, .ref (gB G + 148)), (1, vI x1), (2, vI x2), (3, vI x3), (4, vI x4)] [] V
  refine r_iload_n C d6_request_0 rfl ?_
  refine r_iconst C d6_request_1 ?_
  refine r_sipush C d6_request_2 (by decide +kernel) ?_
  obtain ⟨r2, h1, h⟩ := bd_of h
  refine cS3_i C M d6_request_5 l6_75 w6_in (ev6_in C.lt hN h1) rfl (Nat.le_of_ble_eq_true rfl) (Nat.le_of_ble_eq_true rfl) ?_
  obtain ⟨y7, h8, h⟩ := bd_of h
  suffices J9 : At G X 0 0 28 [(0, .ref (gB G + 148)), (1, vI x1), (2, vI x2), (3, vI x3), (4, vI x4)] [vI y7] V by
    replace h := h8
    refine x_ifeq (tgt := 27) C d6_request_8 rfl (fun c3 => ?_) (fun c3 => ?_)
    · replace h := ite_p c3 h
      refine r_iconst C d6_request_27 ?_
      cases h
      exact AtH.sw J9 ⟨rfl, rfl, rfl, rfl, rfl, trivial⟩
    · replace h := ite_m c3 h
      refine r_iload C d6_request_11 rfl ?_
      refine r_iload_n C d6_request_13 rfl ?_
      refine r_sipush C d6_request_14 (by decide +kernel) ?_
      obtain ⟨r5, h4, h⟩ := bd_of h
      refine cS3_i C M d6_request_17 l6_75 w6_in (ev6_in C.lt hN h4) rfl (Nat.le_of_ble_eq_true rfl) (Nat.le_of_ble_eq_true rfl) ?_
      refine x_ifeq (tgt := 27) C d6_request_20 rfl (fun c6 => ?_) (fun c6 => ?_)
      · replace h := ite_p c6 h
        refine r_iconst C d6_request_27 ?_
        cases h
        exact AtH.sw J9 ⟨rfl, rfl, rfl, rfl, rfl, trivial⟩
      · replace h := ite_m c6 h
        refine r_iconst C d6_request_23 ?_
        refine r_goto (tgt := 28) C d6_request_24 rfl ?_
        cases h
        exact AtH.sw J9 ⟨rfl, rfl, rfl, rfl, rfl, trivial⟩
  refine x_istore hx C d6_request_28 rfl ?_
  refine r_aload_n C d6_request_30 rfl ?_
  refine r_iload_n C d6_request_31 rfl ?_
  obtain ⟨r11, h10, h⟩ := bd_of h
  refine cV1_i C M d6_request_32 l6_268 w6_isShip (rc_model hN) (ev6_isShip C.lt hN h10) rfl (Nat.le_of_ble_eq_true rfl) (Nat.le_of_ble_eq_true rfl) ?_
  obtain ⟨y14, h15, h⟩ := bd_of h
  suffices J16 : At G X 0 0 48 [(0, .ref (gB G + 148)), (1, vI x1), (2, vI x2), (3, vI x3), (4, vI x4), (5, vI y7)] [vI y14] V by
    replace h := h15
    refine x_ifeq (tgt := 47) C d6_request_35 rfl (fun c12 => ?_) (fun c12 => ?_)
    · replace h := ite_p c12 h
      refine r_iconst C d6_request_47 ?_
      cases h
      exact AtH.sw J16 ⟨rfl, rfl, rfl, rfl, rfl, rfl, trivial⟩
    · replace h := ite_m c12 h
      refine r_iload C d6_request_38 rfl ?_
      refine x_ifeq (tgt := 47) C d6_request_40 rfl (fun c13 => ?_) (fun c13 => ?_)
      · replace h := ite_p c13 h
        refine r_iconst C d6_request_47 ?_
        cases h
        exact AtH.sw J16 ⟨rfl, rfl, rfl, rfl, rfl, rfl, trivial⟩
      · replace h := ite_m c13 h
        refine r_iconst C d6_request_43 ?_
        refine r_goto (tgt := 48) C d6_request_44 rfl ?_
        cases h
        exact AtH.sw J16 ⟨rfl, rfl, rfl, rfl, rfl, rfl, trivial⟩
  refine x_istore hx C d6_request_48 rfl ?_
  refine r_aload_n C d6_request_50 rfl ?_
  refine r_aload_n C d6_request_51 rfl ?_
  refine r_iload_n C d6_request_52 rfl ?_
  obtain ⟨r18, h17, h⟩ := bd_of h
  refine cV1_i C M d6_request_53 l6_268 w6_isShip (rc_model hN) (ev6_isShip C.lt hN h17) rfl (Nat.le_of_ble_eq_true rfl) (Nat.le_of_ble_eq_true rfl) ?_
  obtain ⟨y20, h21, h⟩ := bd_of h
  suffices J22 : At G X 0 0 64 [(0, .ref (gB G + 148)), (1, vI x1), (2, vI x2), (3, vI x3), (4, vI x4), (5, vI y7), (6, vI y14)] [vI y20, .ref (gB G + 148)] V by
    replace h := h21
    refine x_ifne (tgt := 63) C d6_request_56 rfl (fun c19 => ?_) (fun c19 => ?_)
    · replace h := ite_p c19 h
      refine r_iconst C d6_request_59 ?_
      refine r_goto (tgt := 64) C d6_request_60 rfl ?_
      cases h
      exact AtH.sw J22 ⟨rfl, rfl, rfl, rfl, rfl, rfl, rfl, trivial⟩
    · replace h := ite_m c19 h
      refine r_iconst C d6_request_63 ?_
      cases h
      exact AtH.sw J22 ⟨rfl, rfl, rfl, rfl, rfl, rfl, rfl, trivial⟩
  refine r_iload C d6_request_64 rfl ?_
  obtain ⟨y24, h25, h⟩ := bd_of h
  suffices J26 : At G X 0 0 74 [(0, .ref (gB G + 148)), (1, vI x1), (2, vI x2), (3, vI x3), (4, vI x4), (6, vI y14)] [vI y24, vI y20, .ref (gB G + 148)] V by
    replace h := h25
    refine x_ifne (tgt := 73) C d6_request_66 rfl (fun c23 => ?_) (fun c23 => ?_)
    · replace h := ite_p c23 h
      refine r_iconst C d6_request_69 ?_
      refine r_goto (tgt := 74) C d6_request_70 rfl ?_
      cases h
      exact AtH.sw J26 ⟨rfl, rfl, rfl, rfl, rfl, rfl, trivial⟩
    · replace h := ite_m c23 h
      refine r_iconst C d6_request_73 ?_
      cases h
      exact AtH.sw J26 ⟨rfl, rfl, rfl, rfl, rfl, rfl, trivial⟩
  refine r_iload C d6_request_74 rfl ?_
  obtain ⟨y35, h36, h⟩ := bd_of h
  suffices J37 : At G X 0 0 104 [(0, .ref (gB G + 148)), (1, vI x1), (2, vI x2), (3, vI x3), (4, vI x4)] [vI y35, vI y24, vI y20, .ref (gB G + 148)] V by
    replace h := h36
    refine x_ifeq (tgt := 103) C d6_request_76 rfl (fun c27 => ?_) (fun c27 => ?_)
    · replace h := ite_p c27 h
      refine r_iconst C d6_request_103 ?_
      cases h
      exact AtH.sw J37 ⟨rfl, rfl, rfl, rfl, rfl, trivial⟩
    · replace h := ite_m c27 h
      refine r_aload_n C d6_request_79 rfl ?_
      refine r_iload_n C d6_request_80 rfl ?_
      refine r_iload_n C d6_request_81 rfl ?_
      obtain ⟨y29, h30, h⟩ := bd_of h
      suffices J31 : At G X 0 0 90 [(0, .ref (gB G + 148)), (1, vI x1), (2, vI x2), (3, vI x3), (4, vI x4)] [vI y29, vI x1, .ref (gB G + 148), vI y24, vI y20, .ref (gB G + 148)] V by
        replace h := h30
        refine x_ifeq (tgt := 89) C d6_request_82 rfl (fun c28 => ?_) (fun c28 => ?_)
        · replace h := ite_p c28 h
          refine r_iconst C d6_request_89 ?_
          cases h
          exact AtH.sw J31 ⟨rfl, rfl, rfl, rfl, rfl, trivial⟩
        · replace h := ite_m c28 h
          refine r_iconst C d6_request_85 ?_
          refine r_goto (tgt := 90) C d6_request_86 rfl ?_
          cases h
          exact AtH.sw J31 ⟨rfl, rfl, rfl, rfl, rfl, trivial⟩
      refine r_iload_n C d6_request_90 rfl ?_
      refine r_iload C d6_request_91 rfl ?_
      obtain ⟨r33, h32, h⟩ := bd_of h
      refine cV4_i C M d6_request_93 l6_229 w6_canRequest (rc_model hN) (ev6_canRequest C.lt hN h32) rfl (Nat.le_of_ble_eq_true rfl) (Nat.le_of_ble_eq_true rfl) ?_
      refine x_ifne (tgt := 103) C d6_request_96 rfl (fun c34 => ?_) (fun c34 => ?_)
      · replace h := ite_p c34 h
        refine r_iconst C d6_request_99 ?_
        refine r_goto (tgt := 104) C d6_request_100 rfl ?_
        cases h
        exact AtH.sw J37 ⟨rfl, rfl, rfl, rfl, rfl, trivial⟩
      · replace h := ite_m c34 h
        refine r_iconst C d6_request_103 ?_
        cases h
        exact AtH.sw J37 ⟨rfl, rfl, rfl, rfl, rfl, trivial⟩
  obtain ⟨r39, W40, h38, h⟩ := bd2_of h
  refine cV3_i C M d6_request_104 l6_148 w6_fails (rc_model hN) (ev6_fails C.lt hN h38) rfl (Nat.le_of_ble_eq_true rfl) (Nat.le_of_ble_eq_true rfl) ?_
  refine x_ifeq (tgt := 112) C d6_request_107 rfl (fun c41 => ?_) (fun c41 => ?_)
  · replace h := ite_p c41 h
    refine r_aload_n C d6_request_112 rfl ?_
    refine r_iconst C d6_request_113 ?_
    obtain ⟨W43, h42, h⟩ := bd_of h
    refine cV1_v C M d6_request_114 l6_259 w6_remember (rc_model hN) (ev6_remember C.lt hN h42) rfl (Nat.le_of_ble_eq_true rfl) (Nat.le_of_ble_eq_true rfl) ?_
    refine r_aload_n C d6_request_117 rfl ?_
    refine r_iload_n C d6_request_118 rfl ?_
    refine r_iload_n C d6_request_119 rfl ?_
    obtain ⟨y45, h46, h⟩ := bd_of h
    suffices J47 : At G X 0 0 128 [(3, vI x3), (4, vI x4)] [vI y45, vI x1, .ref (gB G + 148)] W43 by
      replace h := h46
      refine x_ifeq (tgt := 127) C d6_request_120 rfl (fun c44 => ?_) (fun c44 => ?_)
      · replace h := ite_p c44 h
        refine r_iconst C d6_request_127 ?_
        cases h
        exact AtH.sw J47 ⟨rfl, rfl, trivial⟩
      · replace h := ite_m c44 h
        refine r_iconst C d6_request_123 ?_
        refine r_goto (tgt := 128) C d6_request_124 rfl ?_
        cases h
        exact AtH.sw J47 ⟨rfl, rfl, trivial⟩
    refine r_iload_n C d6_request_128 rfl ?_
    refine r_iload C d6_request_129 rfl ?_
    obtain ⟨r49, W50, h48, h⟩ := bd2_of h
    refine cV4_i C M d6_request_131 l6_232 w6_requestIt (rc_model hN) (ev6_requestIt C.lt hN h48) rfl (Nat.le_of_ble_eq_true rfl) (Nat.le_of_ble_eq_true rfl) ?_
    exact e_iv C M d6_request_134 (Nat.le_of_ble_eq_true rfl) (Nat.le_of_ble_eq_true rfl) h
  · replace h := ite_m c41 h
    refine r_iconst C d6_request_110 ?_
    exact e_iv C M d6_request_111 (Nat.le_of_ble_eq_true rfl) (Nat.le_of_ble_eq_true rfl) h
def f6_cancel (V : VV) (x1 : Int) : Option (Int × VV) := bd (f6_isBooking V x1) (fun r2 => bd ((if nrm r2 = 0 then some (1) else some (0))) (fun y4 => bd ((if nrm r2 = 0 then some (0) else bd (f6_canCancel V x1) (fun r9 => (if nrm r9 = 0 then some (1) else some (0))))) (fun y11 => bd2 (f6_fails V y4 y11 0) (fun r15 W16 => (if nrm r15 = 0 then bd (f6_remember W16 0) (fun W19 => bd2 (f6_cancelIt W19 x1) (fun r21 W22 => some (r21, W22))) else some (0, W16))))))
theorem ev6_cancel {G : GT} {l : Launch} {V : VV} {x1 : Int} {r : Int} {V1 : VV} (hlt : l.stackTraces = false) (hN : 154 ≤ gN G) (h : f6_cancel V x1 = some (r, V1)) : EvX G l y6_cancel b6_cancel 3 (some .int) 8 0 0 [.ref (gB G + 148), vI x1] V (.ok (some (vI r))) V1 := by
  refine ev_w hlt (by decide +kernel) rfl rfl (fun X hl hx C M => ?_)
  subst hl
  replace C : Cx G X "ChannelScheduleModel" b6_cancel := C
  unfold f6_cancel at h
  show At G X 0 0 0 [(0, .ref (gB G + 148)), (1, vI x1)] [] V
  refine r_aload_n C d6_cancel_0 rfl ?_
  refine r_iload_n C d6_cancel_1 rfl ?_
  obtain ⟨r2, h1, h⟩ := bd_of h
  refine cV1_i C M d6_cancel_2 l6_235 w6_isBooking (rc_model hN) (ev6_isBooking C.lt hN h1) rfl (Nat.le_of_ble_eq_true rfl) (Nat.le_of_ble_eq_true rfl) ?_
  refine x_istore_n hx C d6_cancel_5 rfl ?_
  refine r_aload_n C d6_cancel_6 rfl ?_
  refine r_iload_n C d6_cancel_7 rfl ?_
  obtain ⟨y4, h5, h⟩ := bd_of h
  suffices J6 : At G X 0 0 16 [(0, .ref (gB G + 148)), (1, vI x1), (2, vI r2)] [vI y4, .ref (gB G + 148)] V by
    replace h := h5
    refine x_ifne (tgt := 15) C d6_cancel_8 rfl (fun c3 => ?_) (fun c3 => ?_)
    · replace h := ite_p c3 h
      refine r_iconst C d6_cancel_11 ?_
      refine r_goto (tgt := 16) C d6_cancel_12 rfl ?_
      cases h
      exact AtH.sw J6 ⟨rfl, rfl, rfl, trivial⟩
    · replace h := ite_m c3 h
      refine r_iconst C d6_cancel_15 ?_
      cases h
      exact AtH.sw J6 ⟨rfl, rfl, rfl, trivial⟩
  refine r_iload_n C d6_cancel_16 rfl ?_
  obtain ⟨y11, h12, h⟩ := bd_of h
  suffices J13 : At G X 0 0 33 [(0, .ref (gB G + 148)), (1, vI x1)] [vI y11, vI y4, .ref (gB G + 148)] V by
    replace h := h12
    refine x_ifeq (tgt := 32) C d6_cancel_17 rfl (fun c7 => ?_) (fun c7 => ?_)
    · replace h := ite_p c7 h
      refine r_iconst C d6_cancel_32 ?_
      cases h
      exact AtH.sw J13 ⟨rfl, rfl, trivial⟩
    · replace h := ite_m c7 h
      refine r_aload_n C d6_cancel_20 rfl ?_
      refine r_iload_n C d6_cancel_21 rfl ?_
      obtain ⟨r9, h8, h⟩ := bd_of h
      refine cV1_i C M d6_cancel_22 l6_137 w6_canCancel (rc_model hN) (ev6_canCancel C.lt hN h8) rfl (Nat.le_of_ble_eq_true rfl) (Nat.le_of_ble_eq_true rfl) ?_
      refine x_ifne (tgt := 32) C d6_cancel_25 rfl (fun c10 => ?_) (fun c10 => ?_)
      · replace h := ite_p c10 h
        refine r_iconst C d6_cancel_28 ?_
        refine r_goto (tgt := 33) C d6_cancel_29 rfl ?_
        cases h
        exact AtH.sw J13 ⟨rfl, rfl, trivial⟩
      · replace h := ite_m c10 h
        refine r_iconst C d6_cancel_32 ?_
        cases h
        exact AtH.sw J13 ⟨rfl, rfl, trivial⟩
  refine r_iconst C d6_cancel_33 ?_
  obtain ⟨r15, W16, h14, h⟩ := bd2_of h
  refine cV3_i C M d6_cancel_34 l6_148 w6_fails (rc_model hN) (ev6_fails C.lt hN h14) rfl (Nat.le_of_ble_eq_true rfl) (Nat.le_of_ble_eq_true rfl) ?_
  refine x_ifeq (tgt := 42) C d6_cancel_37 rfl (fun c17 => ?_) (fun c17 => ?_)
  · replace h := ite_p c17 h
    refine r_aload_n C d6_cancel_42 rfl ?_
    refine r_iconst C d6_cancel_43 ?_
    obtain ⟨W19, h18, h⟩ := bd_of h
    refine cV1_v C M d6_cancel_44 l6_259 w6_remember (rc_model hN) (ev6_remember C.lt hN h18) rfl (Nat.le_of_ble_eq_true rfl) (Nat.le_of_ble_eq_true rfl) ?_
    refine r_aload_n C d6_cancel_47 rfl ?_
    refine r_iload_n C d6_cancel_48 rfl ?_
    obtain ⟨r21, W22, h20, h⟩ := bd2_of h
    refine cV1_i C M d6_cancel_49 l6_238 w6_cancelIt (rc_model hN) (ev6_cancelIt C.lt hN h20) rfl (Nat.le_of_ble_eq_true rfl) (Nat.le_of_ble_eq_true rfl) ?_
    exact e_iv C M d6_cancel_52 (Nat.le_of_ble_eq_true rfl) (Nat.le_of_ble_eq_true rfl) h
  · replace h := ite_m c17 h
    refine r_iconst C d6_cancel_40 ?_
    exact e_iv C M d6_cancel_41 (Nat.le_of_ble_eq_true rfl) (Nat.le_of_ble_eq_true rfl) h
def f6_moveBooking (V : VV) (x1 : Int) (x2 : Int) : Option (Int × VV) := bd (f6_isBooking V x1) (fun r2 => bd ((if nrm r2 = 0 then some (0) else bd (f6_in V x2 0 999) (fun r5 => (if nrm r5 = 0 then some (0) else some (1))))) (fun y7 => bd (f6_isBooking V x1) (fun r11 => bd ((if nrm r11 = 0 then some (1) else some (0))) (fun y13 => bd (f6_in V x2 0 999) (fun r17 => bd ((if nrm r17 = 0 then some (1) else some (0))) (fun y19 => bd ((if nrm y7 = 0 then some (0) else bd (f6_movingReason V x1 x2) (fun r24 => (if nrm r24 = 0 then some (0) else some (1))))) (fun y26 => bd2 (f6_fails V y13 y19 y26) (fun r30 W31 => (if nrm r30 = 0 then bd (f6_remember W31 0) (fun W34 => bd2 (f6_moveIt W34 x1 x2) (fun r36 W37 => some (r36, W37))) else some (0, W31))))))))))
theorem ev6_moveBooking {G : GT} {l : Launch} {V : VV} {x1 : Int} {x2 : Int} {r : Int} {V1 : VV} (hlt : l.stackTraces = false) (hN : 154 ≤ gN G) (h : f6_moveBooking V x1 x2 = some (r, V1)) : EvX G l y6_moveBooking b6_moveBooking 4 (some .int) 8 0 0 [.ref (gB G + 148), vI x1, vI x2] V (.ok (some (vI r))) V1 := by
  refine ev_w hlt (by decide +kernel) rfl rfl (fun X hl hx C M => ?_)
  subst hl
  replace C : Cx G X "ChannelScheduleModel" b6_moveBooking := C
  unfold f6_moveBooking at h
  show At G X 0 0 0 [(0, .ref (gB G + 148)), (1, vI x1), (2, vI x2)] [] V
  refine r_aload_n C d6_moveBooking_0 rfl ?_
  refine r_iload_n C d6_moveBooking_1 rfl ?_
  obtain ⟨r2, h1, h⟩ := bd_of h
  refine cV1_i C M d6_moveBooking_2 l6_235 w6_isBooking (rc_model hN) (ev6_isBooking C.lt hN h1) rfl (Nat.le_of_ble_eq_true rfl) (Nat.le_of_ble_eq_true rfl) ?_
  obtain ⟨y7, h8, h⟩ := bd_of h
  suffices J9 : At G X 0 0 24 [(0, .ref (gB G + 148)), (1, vI x1), (2, vI x2)] [vI y7] V by
    replace h := h8
    refine x_ifeq (tgt := 23) C d6_moveBooking_5 rfl (fun c3 => ?_) (fun c3 => ?_)
    · replace h := ite_p c3 h
      refine r_iconst C d6_moveBooking_23 ?_
      cases h
      exact AtH.sw J9 ⟨rfl, rfl, rfl, trivial⟩
    · replace h := ite_m c3 h
      refine r_iload_n C d6_moveBooking_8 rfl ?_
      refine r_iconst C d6_moveBooking_9 ?_
      refine r_sipush C d6_moveBooking_10 (by decide +kernel) ?_
      obtain ⟨r5, h4, h⟩ := bd_of h
      refine cS3_i C M d6_moveBooking_13 l6_75 w6_in (ev6_in C.lt hN h4) rfl (Nat.le_of_ble_eq_true rfl) (Nat.le_of_ble_eq_true rfl) ?_
      refine x_ifeq (tgt := 23) C d6_moveBooking_16 rfl (fun c6 => ?_) (fun c6 => ?_)
      · replace h := ite_p c6 h
        refine r_iconst C d6_moveBooking_23 ?_
        cases h
        exact AtH.sw J9 ⟨rfl, rfl, rfl, trivial⟩
      · replace h := ite_m c6 h
        refine r_iconst C d6_moveBooking_19 ?_
        refine r_goto (tgt := 24) C d6_moveBooking_20 rfl ?_
        cases h
        exact AtH.sw J9 ⟨rfl, rfl, rfl, trivial⟩
  refine x_istore_n hx C d6_moveBooking_24 rfl ?_
  refine r_aload_n C d6_moveBooking_25 rfl ?_
  refine r_aload_n C d6_moveBooking_26 rfl ?_
  refine r_iload_n C d6_moveBooking_27 rfl ?_
  obtain ⟨r11, h10, h⟩ := bd_of h
  refine cV1_i C M d6_moveBooking_28 l6_235 w6_isBooking (rc_model hN) (ev6_isBooking C.lt hN h10) rfl (Nat.le_of_ble_eq_true rfl) (Nat.le_of_ble_eq_true rfl) ?_
  obtain ⟨y13, h14, h⟩ := bd_of h
  suffices J15 : At G X 0 0 39 [(0, .ref (gB G + 148)), (1, vI x1), (2, vI x2), (3, vI y7)] [vI y13, .ref (gB G + 148)] V by
    replace h := h14
    refine x_ifne (tgt := 38) C d6_moveBooking_31 rfl (fun c12 => ?_) (fun c12 => ?_)
    · replace h := ite_p c12 h
      refine r_iconst C d6_moveBooking_34 ?_
      refine r_goto (tgt := 39) C d6_moveBooking_35 rfl ?_
      cases h
      exact AtH.sw J15 ⟨rfl, rfl, rfl, rfl, trivial⟩
    · replace h := ite_m c12 h
      refine r_iconst C d6_moveBooking_38 ?_
      cases h
      exact AtH.sw J15 ⟨rfl, rfl, rfl, rfl, trivial⟩
  refine r_iload_n C d6_moveBooking_39 rfl ?_
  refine r_iconst C d6_moveBooking_40 ?_
  refine r_sipush C d6_moveBooking_41 (by decide +kernel) ?_
  obtain ⟨r17, h16, h⟩ := bd_of h
  refine cS3_i C M d6_moveBooking_44 l6_75 w6_in (ev6_in C.lt hN h16) rfl (Nat.le_of_ble_eq_true rfl) (Nat.le_of_ble_eq_true rfl) ?_
  obtain ⟨y19, h20, h⟩ := bd_of h
  suffices J21 : At G X 0 0 55 [(0, .ref (gB G + 148)), (1, vI x1), (2, vI x2), (3, vI y7)] [vI y19, vI y13, .ref (gB G + 148)] V by
    replace h := h20
    refine x_ifne (tgt := 54) C d6_moveBooking_47 rfl (fun c18 => ?_) (fun c18 => ?_)
    · replace h := ite_p c18 h
      refine r_iconst C d6_moveBooking_50 ?_
      refine r_goto (tgt := 55) C d6_moveBooking_51 rfl ?_
      cases h
      exact AtH.sw J21 ⟨rfl, rfl, rfl, rfl, trivial⟩
    · replace h := ite_m c18 h
      refine r_iconst C d6_moveBooking_54 ?_
      cases h
      exact AtH.sw J21 ⟨rfl, rfl, rfl, rfl, trivial⟩
  refine r_iload_n C d6_moveBooking_55 rfl ?_
  obtain ⟨y26, h27, h⟩ := bd_of h
  suffices J28 : At G X 0 0 73 [(0, .ref (gB G + 148)), (1, vI x1), (2, vI x2)] [vI y26, vI y19, vI y13, .ref (gB G + 148)] V by
    replace h := h27
    refine x_ifeq (tgt := 72) C d6_moveBooking_56 rfl (fun c22 => ?_) (fun c22 => ?_)
    · replace h := ite_p c22 h
      refine r_iconst C d6_moveBooking_72 ?_
      cases h
      exact AtH.sw J28 ⟨rfl, rfl, rfl, trivial⟩
    · replace h := ite_m c22 h
      refine r_aload_n C d6_moveBooking_59 rfl ?_
      refine r_iload_n C d6_moveBooking_60 rfl ?_
      refine r_iload_n C d6_moveBooking_61 rfl ?_
      obtain ⟨r24, h23, h⟩ := bd_of h
      refine cV2_i C M d6_moveBooking_62 l6_241 w6_movingReason (rc_model hN) (ev6_movingReason C.lt hN h23) rfl (Nat.le_of_ble_eq_true rfl) (Nat.le_of_ble_eq_true rfl) ?_
      refine x_ifeq (tgt := 72) C d6_moveBooking_65 rfl (fun c25 => ?_) (fun c25 => ?_)
      · replace h := ite_p c25 h
        refine r_iconst C d6_moveBooking_72 ?_
        cases h
        exact AtH.sw J28 ⟨rfl, rfl, rfl, trivial⟩
      · replace h := ite_m c25 h
        refine r_iconst C d6_moveBooking_68 ?_
        refine r_goto (tgt := 73) C d6_moveBooking_69 rfl ?_
        cases h
        exact AtH.sw J28 ⟨rfl, rfl, rfl, trivial⟩
  obtain ⟨r30, W31, h29, h⟩ := bd2_of h
  refine cV3_i C M d6_moveBooking_73 l6_148 w6_fails (rc_model hN) (ev6_fails C.lt hN h29) rfl (Nat.le_of_ble_eq_true rfl) (Nat.le_of_ble_eq_true rfl) ?_
  refine x_ifeq (tgt := 81) C d6_moveBooking_76 rfl (fun c32 => ?_) (fun c32 => ?_)
  · replace h := ite_p c32 h
    refine r_aload_n C d6_moveBooking_81 rfl ?_
    refine r_iconst C d6_moveBooking_82 ?_
    obtain ⟨W34, h33, h⟩ := bd_of h
    refine cV1_v C M d6_moveBooking_83 l6_259 w6_remember (rc_model hN) (ev6_remember C.lt hN h33) rfl (Nat.le_of_ble_eq_true rfl) (Nat.le_of_ble_eq_true rfl) ?_
    refine r_aload_n C d6_moveBooking_86 rfl ?_
    refine r_iload_n C d6_moveBooking_87 rfl ?_
    refine r_iload_n C d6_moveBooking_88 rfl ?_
    obtain ⟨r36, W37, h35, h⟩ := bd2_of h
    refine cV2_i C M d6_moveBooking_89 l6_244 w6_moveIt (rc_model hN) (ev6_moveIt C.lt hN h35) rfl (Nat.le_of_ble_eq_true rfl) (Nat.le_of_ble_eq_true rfl) ?_
    exact e_iv C M d6_moveBooking_92 (Nat.le_of_ble_eq_true rfl) (Nat.le_of_ble_eq_true rfl) h
  · replace h := ite_m c32 h
    refine r_iconst C d6_moveBooking_79 ?_
    exact e_iv C M d6_moveBooking_80 (Nat.le_of_ble_eq_true rfl) (Nat.le_of_ble_eq_true rfl) h
def f6_withdraw (V : VV) (x1 : Int) : Option (Int × VV) := bd (f6_isRequest V x1) (fun r2 => bd ((if nrm r2 = 0 then some (1) else some (0))) (fun y4 => bd2 (f6_fails V y4 0 0) (fun r8 W9 => (if nrm r8 = 0 then bd (f6_remember W9 0) (fun W12 => bd (f6_ofRequest W12 x1 0) (fun r14 => bd (f6_removeRequest W12 x1) (fun W16 => some (r14, W16)))) else some (0, W9)))))
theorem ev6_withdraw {G : GT} {l : Launch} {V : VV} {x1 : Int} {r : Int} {V1 : VV} (hlt : l.stackTraces = false) (hN : 154 ≤ gN G) (h : f6_withdraw V x1 = some (r, V1)) : EvX G l y6_withdraw b6_withdraw 3 (some .int) 2 0 0 [.ref (gB G + 148), vI x1] V (.ok (some (vI r))) V1 := by
  refine ev_w hlt (by decide +kernel) rfl rfl (fun X hl hx C M => ?_)
  subst hl
  replace C : Cx G X "ChannelScheduleModel" b6_withdraw := C
  unfold f6_withdraw at h
  show At G X 0 0 0 [(0, .ref (gB G + 148)), (1, vI x1)] [] V
  refine r_aload_n C d6_withdraw_0 rfl ?_
  refine r_aload_n C d6_withdraw_1 rfl ?_
  refine r_iload_n C d6_withdraw_2 rfl ?_
  obtain ⟨r2, h1, h⟩ := bd_of h
  refine cV1_i C M d6_withdraw_3 l6_247 w6_isRequest (rc_model hN) (ev6_isRequest C.lt hN h1) rfl (Nat.le_of_ble_eq_true rfl) (Nat.le_of_ble_eq_true rfl) ?_
  obtain ⟨y4, h5, h⟩ := bd_of h
  suffices J6 : At G X 0 0 14 [(0, .ref (gB G + 148)), (1, vI x1)] [vI y4, .ref (gB G + 148)] V by
    replace h := h5
    refine x_ifne (tgt := 13) C d6_withdraw_6 rfl (fun c3 => ?_) (fun c3 => ?_)
    · replace h := ite_p c3 h
      refine r_iconst C d6_withdraw_9 ?_
      refine r_goto (tgt := 14) C d6_withdraw_10 rfl ?_
      cases h
      exact AtH.sw J6 ⟨rfl, rfl, trivial⟩
    · replace h := ite_m c3 h
      refine r_iconst C d6_withdraw_13 ?_
      cases h
      exact AtH.sw J6 ⟨rfl, rfl, trivial⟩
  refine r_iconst C d6_withdraw_14 ?_
  refine r_iconst C d6_withdraw_15 ?_
  obtain ⟨r8, W9, h7, h⟩ := bd2_of h
  refine cV3_i C M d6_withdraw_16 l6_148 w6_fails (rc_model hN) (ev6_fails C.lt hN h7) rfl (Nat.le_of_ble_eq_true rfl) (Nat.le_of_ble_eq_true rfl) ?_
  refine x_ifeq (tgt := 24) C d6_withdraw_19 rfl (fun c10 => ?_) (fun c10 => ?_)
  · replace h := ite_p c10 h
    refine r_aload_n C d6_withdraw_24 rfl ?_
    refine r_iconst C d6_withdraw_25 ?_
    obtain ⟨W12, h11, h⟩ := bd_of h
    refine cV1_v C M d6_withdraw_26 l6_259 w6_remember (rc_model hN) (ev6_remember C.lt hN h11) rfl (Nat.le_of_ble_eq_true rfl) (Nat.le_of_ble_eq_true rfl) ?_
    refine r_aload_n C d6_withdraw_29 rfl ?_
    refine r_iload_n C d6_withdraw_30 rfl ?_
    refine r_iconst C d6_withdraw_31 ?_
    obtain ⟨r14, h13, h⟩ := bd_of h
    refine cV2_i C M d6_withdraw_32 l6_114 w6_ofRequest (rc_model hN) (ev6_ofRequest C.lt hN h13) rfl (Nat.le_of_ble_eq_true rfl) (Nat.le_of_ble_eq_true rfl) ?_
    refine x_istore_n hx C d6_withdraw_35 rfl ?_
    refine r_aload_n C d6_withdraw_36 rfl ?_
    refine r_iload_n C d6_withdraw_37 rfl ?_
    obtain ⟨W16, h15, h⟩ := bd_of h
    refine cV1_v C M d6_withdraw_38 l6_124 w6_removeRequest (rc_model hN) (ev6_removeRequest C.lt hN h15) rfl (Nat.le_of_ble_eq_true rfl) (Nat.le_of_ble_eq_true rfl) ?_
    refine r_iload_n C d6_withdraw_41 rfl ?_
    exact e_iv C M d6_withdraw_42 (Nat.le_of_ble_eq_true rfl) (Nat.le_of_ble_eq_true rfl) h
  · replace h := ite_m c10 h
    refine r_iconst C d6_withdraw_22 ?_
    exact e_iv C M d6_withdraw_23 (Nat.le_of_ble_eq_true rfl) (Nat.le_of_ble_eq_true rfl) h
def f6_setThickness (V : VV) (x1 : Int) : Option (Int × VV) := bd (f6_in V x1 0 9) (fun r2 => bd ((if nrm r2 = 0 then some (1) else some (0))) (fun y4 => bd2 (f6_fails V y4 0 0) (fun r8 W9 => (if nrm r8 = 0 then bd (f6_remember W9 0) (fun W12 => bd2 (f6_iceIt W12 x1) (fun r14 W15 => some (r14, W15))) else some (0, W9)))))
theorem ev6_setThickness {G : GT} {l : Launch} {V : VV} {x1 : Int} {r : Int} {V1 : VV} (hlt : l.stackTraces = false) (hN : 154 ≤ gN G) (h : f6_setThickness V x1 = some (r, V1)) : EvX G l y6_setThickness b6_setThickness 2 (some .int) 8 0 0 [.ref (gB G + 148), vI x1] V (.ok (some (vI r))) V1 := by
  refine ev_w hlt (by decide +kernel) rfl rfl (fun X hl hx C M => ?_)
  subst hl
  replace C : Cx G X "ChannelScheduleModel" b6_setThickness := C
  unfold f6_setThickness at h
  show At G X 0 0 0 [(0, .ref (gB G + 148)), (1, vI x1)] [] V
  refine r_aload_n C d6_setThickness_0 rfl ?_
  refine r_iload_n C d6_setThickness_1 rfl ?_
  refine r_iconst C d6_setThickness_2 ?_
  refine r_bipush C d6_setThickness_3 (by decide +kernel) ?_
  obtain ⟨r2, h1, h⟩ := bd_of h
  refine cS3_i C M d6_setThickness_5 l6_75 w6_in (ev6_in C.lt hN h1) rfl (Nat.le_of_ble_eq_true rfl) (Nat.le_of_ble_eq_true rfl) ?_
  obtain ⟨y4, h5, h⟩ := bd_of h
  suffices J6 : At G X 0 0 16 [(0, .ref (gB G + 148)), (1, vI x1)] [vI y4, .ref (gB G + 148)] V by
    replace h := h5
    refine x_ifne (tgt := 15) C d6_setThickness_8 rfl (fun c3 => ?_) (fun c3 => ?_)
    · replace h := ite_p c3 h
      refine r_iconst C d6_setThickness_11 ?_
      refine r_goto (tgt := 16) C d6_setThickness_12 rfl ?_
      cases h
      exact AtH.sw J6 ⟨rfl, rfl, trivial⟩
    · replace h := ite_m c3 h
      refine r_iconst C d6_setThickness_15 ?_
      cases h
      exact AtH.sw J6 ⟨rfl, rfl, trivial⟩
  refine r_iconst C d6_setThickness_16 ?_
  refine r_iconst C d6_setThickness_17 ?_
  obtain ⟨r8, W9, h7, h⟩ := bd2_of h
  refine cV3_i C M d6_setThickness_18 l6_148 w6_fails (rc_model hN) (ev6_fails C.lt hN h7) rfl (Nat.le_of_ble_eq_true rfl) (Nat.le_of_ble_eq_true rfl) ?_
  refine x_ifeq (tgt := 26) C d6_setThickness_21 rfl (fun c10 => ?_) (fun c10 => ?_)
  · replace h := ite_p c10 h
    refine r_aload_n C d6_setThickness_26 rfl ?_
    refine r_iconst C d6_setThickness_27 ?_
    obtain ⟨W12, h11, h⟩ := bd_of h
    refine cV1_v C M d6_setThickness_28 l6_259 w6_remember (rc_model hN) (ev6_remember C.lt hN h11) rfl (Nat.le_of_ble_eq_true rfl) (Nat.le_of_ble_eq_true rfl) ?_
    refine r_aload_n C d6_setThickness_31 rfl ?_
    refine r_iload_n C d6_setThickness_32 rfl ?_
    obtain ⟨r14, W15, h13, h⟩ := bd2_of h
    refine cV1_i C M d6_setThickness_33 l6_250 w6_iceIt (rc_model hN) (ev6_iceIt C.lt hN h13) rfl (Nat.le_of_ble_eq_true rfl) (Nat.le_of_ble_eq_true rfl) ?_
    exact e_iv C M d6_setThickness_36 (Nat.le_of_ble_eq_true rfl) (Nat.le_of_ble_eq_true rfl) h
  · replace h := ite_m c10 h
    refine r_iconst C d6_setThickness_24 ?_
    exact e_iv C M d6_setThickness_25 (Nat.le_of_ble_eq_true rfl) (Nat.le_of_ble_eq_true rfl) h
def f6_advance (V : VV) (x1 : Int) : Option (Int × VV) := bd (f6_in V x1 1 500) (fun r2 => bd ((if nrm r2 = 0 then some (1) else some (0))) (fun y4 => bd ((if nrm r2 = 0 then some (0) else (if nrm ((V 149 3) + x1) ≤ nrm 1200 then some (0) else some (1)))) (fun y9 => bd2 (f6_fails V y4 y9 0) (fun r13 W14 => (if nrm r13 = 0 then bd (f6_remember W14 0) (fun W17 => bd2 (f6_advanceIt W17 x1) (fun r19 W20 => some (r19, W20))) else some (0, W14))))))
theorem ev6_advance {G : GT} {l : Launch} {V : VV} {x1 : Int} {r : Int} {V1 : VV} (hlt : l.stackTraces = false) (hN : 154 ≤ gN G) (h : f6_advance V x1 = some (r, V1)) : EvX G l y6_advance b6_advance 3 (some .int) 3 0 0 [.ref (gB G + 148), vI x1] V (.ok (some (vI r))) V1 := by
  refine ev_w hlt (by decide +kernel) rfl rfl (fun X hl hx C M => ?_)
  subst hl
  replace C : Cx G X "ChannelScheduleModel" b6_advance := C
  unfold f6_advance at h
  show At G X 0 0 0 [(0, .ref (gB G + 148)), (1, vI x1)] [] V
  refine r_iload_n C d6_advance_0 rfl ?_
  refine r_iconst C d6_advance_1 ?_
  refine r_sipush C d6_advance_2 (by decide +kernel) ?_
  obtain ⟨r2, h1, h⟩ := bd_of h
  refine cS3_i C M d6_advance_5 l6_75 w6_in (ev6_in C.lt hN h1) rfl (Nat.le_of_ble_eq_true rfl) (Nat.le_of_ble_eq_true rfl) ?_
  refine x_istore_n hx C d6_advance_8 rfl ?_
  refine r_aload_n C d6_advance_9 rfl ?_
  refine r_iload_n C d6_advance_10 rfl ?_
  obtain ⟨y4, h5, h⟩ := bd_of h
  suffices J6 : At G X 0 0 19 [(0, .ref (gB G + 148)), (1, vI x1), (2, vI r2)] [vI y4, .ref (gB G + 148)] V by
    replace h := h5
    refine x_ifne (tgt := 18) C d6_advance_11 rfl (fun c3 => ?_) (fun c3 => ?_)
    · replace h := ite_p c3 h
      refine r_iconst C d6_advance_14 ?_
      refine r_goto (tgt := 19) C d6_advance_15 rfl ?_
      cases h
      exact AtH.sw J6 ⟨rfl, rfl, rfl, trivial⟩
    · replace h := ite_m c3 h
      refine r_iconst C d6_advance_18 ?_
      cases h
      exact AtH.sw J6 ⟨rfl, rfl, rfl, trivial⟩
  refine r_iload_n C d6_advance_19 rfl ?_
  obtain ⟨y9, h10, h⟩ := bd_of h
  suffices J11 : At G X 0 0 42 [(0, .ref (gB G + 148)), (1, vI x1)] [vI y9, vI y4, .ref (gB G + 148)] V by
    replace h := h10
    refine x_ifeq (tgt := 41) C d6_advance_20 rfl (fun c7 => ?_) (fun c7 => ?_)
    · replace h := ite_p c7 h
      refine r_iconst C d6_advance_41 ?_
      cases h
      exact AtH.sw J11 ⟨rfl, rfl, trivial⟩
    · replace h := ite_m c7 h
      refine r_aload_n C d6_advance_23 rfl ?_
      refine g_model_0 C d6_advance_24 f6_13 hN ?_
      refine r_iconst C d6_advance_27 ?_
      refine x_iald C d6_advance_28 (ra_m hN) (by omega) ?_
      refine r_iload_n C d6_advance_29 rfl ?_
      refine r_iadd C d6_advance_30 ?_
      refine r_sipush C d6_advance_31 (by decide +kernel) ?_
      refine x_icmple (tgt := 41) C d6_advance_34 rfl (fun c8 => ?_) (fun c8 => ?_)
      · replace h := ite_p c8 h
        refine r_iconst C d6_advance_41 ?_
        cases h
        exact AtH.sw J11 ⟨rfl, rfl, trivial⟩
      · replace h := ite_m c8 h
        refine r_iconst C d6_advance_37 ?_
        refine r_goto (tgt := 42) C d6_advance_38 rfl ?_
        cases h
        exact AtH.sw J11 ⟨rfl, rfl, trivial⟩
  refine r_iconst C d6_advance_42 ?_
  obtain ⟨r13, W14, h12, h⟩ := bd2_of h
  refine cV3_i C M d6_advance_43 l6_148 w6_fails (rc_model hN) (ev6_fails C.lt hN h12) rfl (Nat.le_of_ble_eq_true rfl) (Nat.le_of_ble_eq_true rfl) ?_
  refine x_ifeq (tgt := 51) C d6_advance_46 rfl (fun c15 => ?_) (fun c15 => ?_)
  · replace h := ite_p c15 h
    refine r_aload_n C d6_advance_51 rfl ?_
    refine r_iconst C d6_advance_52 ?_
    obtain ⟨W17, h16, h⟩ := bd_of h
    refine cV1_v C M d6_advance_53 l6_259 w6_remember (rc_model hN) (ev6_remember C.lt hN h16) rfl (Nat.le_of_ble_eq_true rfl) (Nat.le_of_ble_eq_true rfl) ?_
    refine r_aload_n C d6_advance_56 rfl ?_
    refine r_iload_n C d6_advance_57 rfl ?_
    obtain ⟨r19, W20, h18, h⟩ := bd2_of h
    refine cV1_i C M d6_advance_58 l6_253 w6_advanceIt (rc_model hN) (ev6_advanceIt C.lt hN h18) rfl (Nat.le_of_ble_eq_true rfl) (Nat.le_of_ble_eq_true rfl) ?_
    exact e_iv C M d6_advance_61 (Nat.le_of_ble_eq_true rfl) (Nat.le_of_ble_eq_true rfl) h
  · replace h := ite_m c15 h
    refine r_iconst C d6_advance_49 ?_
    exact e_iv C M d6_advance_50 (Nat.le_of_ble_eq_true rfl) (Nat.le_of_ble_eq_true rfl) h
def f6_undo (V : VV) : Option (Int × VV) := bd ((if nrm (V 148 2) = 0 then some (1) else some (0))) (fun y2 => bd2 (f6_fails V y2 0 0) (fun r6 W7 => (if nrm r6 = 0 then bd (f6_copyBlock W7 (W7 148 2) 0) (fun W10 => some ((up2 W10 148 2 ((W10 148 2) - 1)) 148 2, up2 W10 148 2 ((W10 148 2) - 1))) else some (0, W7))))
theorem ev6_undo {G : GT} {l : Launch} {V : VV} {r : Int} {V1 : VV} (hlt : l.stackTraces = false) (hN : 154 ≤ gN G) (h : f6_undo V = some (r, V1)) : EvX G l y6_undo b6_undo 1 (some .int) 1 0 0 [.ref (gB G + 148)] V (.ok (some (vI r))) V1 := by
  refine ev_w hlt (by decide +kernel) rfl rfl (fun X hl hx C M => ?_)
  subst hl
  replace C : Cx G X "ChannelScheduleModel" b6_undo := C
  unfold f6_undo at h
  show At G X 0 0 0 [(0, .ref (gB G + 148))] [] V
  refine r_aload_n C d6_undo_0 rfl ?_
  refine r_aload_n C d6_undo_1 rfl ?_
  refine g_model_2 C d6_undo_2 f6_21 hN ?_
  obtain ⟨y2, h3, h⟩ := bd_of h
  suffices J4 : At G X 0 0 13 [(0, .ref (gB G + 148))] [vI y2, .ref (gB G + 148)] V by
    replace h := h3
    refine x_ifne (tgt := 12) C d6_undo_5 rfl (fun c1 => ?_) (fun c1 => ?_)
    · replace h := ite_p c1 h
      refine r_iconst C d6_undo_8 ?_
      refine r_goto (tgt := 13) C d6_undo_9 rfl ?_
      cases h
      exact AtH.sw J4 ⟨rfl, trivial⟩
    · replace h := ite_m c1 h
      refine r_iconst C d6_undo_12 ?_
      cases h
      exact AtH.sw J4 ⟨rfl, trivial⟩
  refine r_iconst C d6_undo_13 ?_
  refine r_iconst C d6_undo_14 ?_
  obtain ⟨r6, W7, h5, h⟩ := bd2_of h
  refine cV3_i C M d6_undo_15 l6_148 w6_fails (rc_model hN) (ev6_fails C.lt hN h5) rfl (Nat.le_of_ble_eq_true rfl) (Nat.le_of_ble_eq_true rfl) ?_
  refine x_ifeq (tgt := 23) C d6_undo_18 rfl (fun c8 => ?_) (fun c8 => ?_)
  · replace h := ite_p c8 h
    refine r_aload_n C d6_undo_23 rfl ?_
    refine r_aload_n C d6_undo_24 rfl ?_
    refine g_model_2 C d6_undo_25 f6_21 hN ?_
    refine r_iconst C d6_undo_28 ?_
    obtain ⟨W10, h9, h⟩ := bd_of h
    refine cV2_v C M d6_undo_29 l6_79 w6_copyBlock (rc_model hN) (ev6_copyBlock C.lt hN h9) rfl (Nat.le_of_ble_eq_true rfl) (Nat.le_of_ble_eq_true rfl) ?_
    refine r_aload_n C d6_undo_32 rfl ?_
    refine r_dup C d6_undo_33 rfl ?_
    refine g_model_2 C d6_undo_34 f6_21 hN ?_
    refine r_iconst C d6_undo_37 ?_
    refine r_isub C d6_undo_38 ?_
    refine p_model_2 C d6_undo_39 f6_21 hN ?_
    refine r_aload_n C d6_undo_42 rfl ?_
    refine g_model_2 C d6_undo_43 f6_21 hN ?_
    exact e_iv C M d6_undo_46 (Nat.le_of_ble_eq_true rfl) (Nat.le_of_ble_eq_true rfl) h
  · replace h := ite_m c8 h
    refine r_iconst C d6_undo_21 ?_
    exact e_iv C M d6_undo_22 (Nat.le_of_ble_eq_true rfl) (Nat.le_of_ble_eq_true rfl) h
def f6_save (V : VV) (x1 : Int) : Option (Int × VV) := bd (f6_in V x1 0 1) (fun r2 => bd ((if nrm r2 = 0 then some (1) else some (0))) (fun y4 => bd2 (f6_fails V y4 0 0) (fun r8 W9 => (if nrm r8 = 0 then bd (f6_copyBlock W9 0 (7 + x1)) (fun W12 => ck ((0:Int) ≤ x1 ∧ x1 < 2) (some ((up2 W12 150 (Int.toNat x1) 1) 149 5, up2 W12 150 (Int.toNat x1) 1))) else some (0, W9)))))
theorem ev6_save {G : GT} {l : Launch} {V : VV} {x1 : Int} {r : Int} {V1 : VV} (hlt : l.stackTraces = false) (hN : 154 ≤ gN G) (h : f6_save V x1 = some (r, V1)) : EvX G l y6_save b6_save 2 (some .int) 1 0 0 [.ref (gB G + 148), vI x1] V (.ok (some (vI r))) V1 := by
  refine ev_w hlt (by decide +kernel) rfl rfl (fun X hl hx C M => ?_)
  subst hl
  replace C : Cx G X "ChannelScheduleModel" b6_save := C
  unfold f6_save at h
  show At G X 0 0 0 [(0, .ref (gB G + 148)), (1, vI x1)] [] V
  refine r_aload_n C d6_save_0 rfl ?_
  refine r_iload_n C d6_save_1 rfl ?_
  refine r_iconst C d6_save_2 ?_
  refine r_iconst C d6_save_3 ?_
  obtain ⟨r2, h1, h⟩ := bd_of h
  refine cS3_i C M d6_save_4 l6_75 w6_in (ev6_in C.lt hN h1) rfl (Nat.le_of_ble_eq_true rfl) (Nat.le_of_ble_eq_true rfl) ?_
  obtain ⟨y4, h5, h⟩ := bd_of h
  suffices J6 : At G X 0 0 15 [(0, .ref (gB G + 148)), (1, vI x1)] [vI y4, .ref (gB G + 148)] V by
    replace h := h5
    refine x_ifne (tgt := 14) C d6_save_7 rfl (fun c3 => ?_) (fun c3 => ?_)
    · replace h := ite_p c3 h
      refine r_iconst C d6_save_10 ?_
      refine r_goto (tgt := 15) C d6_save_11 rfl ?_
      cases h
      exact AtH.sw J6 ⟨rfl, rfl, trivial⟩
    · replace h := ite_m c3 h
      refine r_iconst C d6_save_14 ?_
      cases h
      exact AtH.sw J6 ⟨rfl, rfl, trivial⟩
  refine r_iconst C d6_save_15 ?_
  refine r_iconst C d6_save_16 ?_
  obtain ⟨r8, W9, h7, h⟩ := bd2_of h
  refine cV3_i C M d6_save_17 l6_148 w6_fails (rc_model hN) (ev6_fails C.lt hN h7) rfl (Nat.le_of_ble_eq_true rfl) (Nat.le_of_ble_eq_true rfl) ?_
  refine x_ifeq (tgt := 25) C d6_save_20 rfl (fun c10 => ?_) (fun c10 => ?_)
  · replace h := ite_p c10 h
    refine r_aload_n C d6_save_25 rfl ?_
    refine r_iconst C d6_save_26 ?_
    refine r_bipush C d6_save_27 (by decide +kernel) ?_
    refine r_iload_n C d6_save_29 rfl ?_
    refine r_iadd C d6_save_30 ?_
    obtain ⟨W12, h11, h⟩ := bd_of h
    refine cV2_v C M d6_save_31 l6_79 w6_copyBlock (rc_model hN) (ev6_copyBlock C.lt hN h11) rfl (Nat.le_of_ble_eq_true rfl) (Nat.le_of_ble_eq_true rfl) ?_
    refine r_aload_n C d6_save_34 rfl ?_
    refine g_model_1 C d6_save_35 f6_17 hN ?_
    refine r_iload_n C d6_save_38 rfl ?_
    refine r_iconst C d6_save_39 ?_
    obtain ⟨c13, h⟩ := ck_of h
    refine x_zast C d6_save_40 (ra_msaved hN) c13 (Or.inr rfl) ?_
    refine r_aload_n C d6_save_41 rfl ?_
    refine g_model_0 C d6_save_42 f6_13 hN ?_
    refine r_iconst C d6_save_45 ?_
    refine x_iald C d6_save_46 (ra_m hN) (by omega) ?_
    exact e_iv C M d6_save_47 (Nat.le_of_ble_eq_true rfl) (Nat.le_of_ble_eq_true rfl) h
  · replace h := ite_m c10 h
    refine r_iconst C d6_save_23 ?_
    exact e_iv C M d6_save_24 (Nat.le_of_ble_eq_true rfl) (Nat.le_of_ble_eq_true rfl) h
def f6_restore (V : VV) (x1 : Int) : Option (Int × VV) := bd (f6_in V x1 0 1) (fun r2 => bd ((if nrm r2 = 0 then some (1) else some (0))) (fun y4 => bd ((if nrm r2 = 0 then some (0) else ck ((0:Int) ≤ x1 ∧ x1 < 2) ((if nrm (V 150 (Int.toNat x1)) = 0 then some (1) else some (0))))) (fun y10 => bd2 (f6_fails V y4 y10 0) (fun r14 W15 => (if nrm r14 = 0 then bd (f6_copyBlock W15 (7 + x1) 0) (fun W18 => some ((up2 W18 148 2 0) 149 5, up2 W18 148 2 0)) else some (0, W15))))))
theorem ev6_restore {G : GT} {l : Launch} {V : VV} {x1 : Int} {r : Int} {V1 : VV} (hlt : l.stackTraces = false) (hN : 154 ≤ gN G) (h : f6_restore V x1 = some (r, V1)) : EvX G l y6_restore b6_restore 3 (some .int) 1 0 0 [.ref (gB G + 148), vI x1] V (.ok (some (vI r))) V1 := by
  refine ev_w hlt (by decide +kernel) rfl rfl (fun X hl hx C M => ?_)
  subst hl
  replace C : Cx G X "ChannelScheduleModel" b6_restore := C
  unfold f6_restore at h
  show At G X 0 0 0 [(0, .ref (gB G + 148)), (1, vI x1)] [] V
  refine r_iload_n C d6_restore_0 rfl ?_
  refine r_iconst C d6_restore_1 ?_
  refine r_iconst C d6_restore_2 ?_
  obtain ⟨r2, h1, h⟩ := bd_of h
  refine cS3_i C M d6_restore_3 l6_75 w6_in (ev6_in C.lt hN h1) rfl (Nat.le_of_ble_eq_true rfl) (Nat.le_of_ble_eq_true rfl) ?_
  refine x_istore_n hx C d6_restore_6 rfl ?_
  refine r_aload_n C d6_restore_7 rfl ?_
  refine r_iload_n C d6_restore_8 rfl ?_
  obtain ⟨y4, h5, h⟩ := bd_of h
  suffices J6 : At G X 0 0 17 [(0, .ref (gB G + 148)), (1, vI x1), (2, vI r2)] [vI y4, .ref (gB G + 148)] V by
    replace h := h5
    refine x_ifne (tgt := 16) C d6_restore_9 rfl (fun c3 => ?_) (fun c3 => ?_)
    · replace h := ite_p c3 h
      refine r_iconst C d6_restore_12 ?_
      refine r_goto (tgt := 17) C d6_restore_13 rfl ?_
      cases h
      exact AtH.sw J6 ⟨rfl, rfl, rfl, trivial⟩
    · replace h := ite_m c3 h
      refine r_iconst C d6_restore_16 ?_
      cases h
      exact AtH.sw J6 ⟨rfl, rfl, rfl, trivial⟩
  refine r_iload_n C d6_restore_17 rfl ?_
  obtain ⟨y10, h11, h⟩ := bd_of h
  suffices J12 : At G X 0 0 35 [(0, .ref (gB G + 148)), (1, vI x1)] [vI y10, vI y4, .ref (gB G + 148)] V by
    replace h := h11
    refine x_ifeq (tgt := 34) C d6_restore_18 rfl (fun c7 => ?_) (fun c7 => ?_)
    · replace h := ite_p c7 h
      refine r_iconst C d6_restore_34 ?_
      cases h
      exact AtH.sw J12 ⟨rfl, rfl, trivial⟩
    · replace h := ite_m c7 h
      refine r_aload_n C d6_restore_21 rfl ?_
      refine g_model_1 C d6_restore_22 f6_17 hN ?_
      refine r_iload_n C d6_restore_25 rfl ?_
      obtain ⟨c8, h⟩ := ck_of h
      refine x_zald C d6_restore_26 (ra_msaved hN) c8 ?_
      refine x_ifne (tgt := 34) C d6_restore_27 rfl (fun c9 => ?_) (fun c9 => ?_)
      · replace h := ite_p c9 h
        refine r_iconst C d6_restore_30 ?_
        refine r_goto (tgt := 35) C d6_restore_31 rfl ?_
        cases h
        exact AtH.sw J12 ⟨rfl, rfl, trivial⟩
      · replace h := ite_m c9 h
        refine r_iconst C d6_restore_34 ?_
        cases h
        exact AtH.sw J12 ⟨rfl, rfl, trivial⟩
  refine r_iconst C d6_restore_35 ?_
  obtain ⟨r14, W15, h13, h⟩ := bd2_of h
  refine cV3_i C M d6_restore_36 l6_148 w6_fails (rc_model hN) (ev6_fails C.lt hN h13) rfl (Nat.le_of_ble_eq_true rfl) (Nat.le_of_ble_eq_true rfl) ?_
  refine x_ifeq (tgt := 44) C d6_restore_39 rfl (fun c16 => ?_) (fun c16 => ?_)
  · replace h := ite_p c16 h
    refine r_aload_n C d6_restore_44 rfl ?_
    refine r_bipush C d6_restore_45 (by decide +kernel) ?_
    refine r_iload_n C d6_restore_47 rfl ?_
    refine r_iadd C d6_restore_48 ?_
    refine r_iconst C d6_restore_49 ?_
    obtain ⟨W18, h17, h⟩ := bd_of h
    refine cV2_v C M d6_restore_50 l6_79 w6_copyBlock (rc_model hN) (ev6_copyBlock C.lt hN h17) rfl (Nat.le_of_ble_eq_true rfl) (Nat.le_of_ble_eq_true rfl) ?_
    refine r_aload_n C d6_restore_53 rfl ?_
    refine r_iconst C d6_restore_54 ?_
    refine p_model_2 C d6_restore_55 f6_21 hN ?_
    refine r_aload_n C d6_restore_58 rfl ?_
    refine g_model_0 C d6_restore_59 f6_13 hN ?_
    refine r_iconst C d6_restore_62 ?_
    refine x_iald C d6_restore_63 (ra_m hN) (by omega) ?_
    exact e_iv C M d6_restore_64 (Nat.le_of_ble_eq_true rfl) (Nat.le_of_ble_eq_true rfl) h
  · replace h := ite_m c16 h
    refine r_iconst C d6_restore_42 ?_
    exact e_iv C M d6_restore_43 (Nat.le_of_ble_eq_true rfl) (Nat.le_of_ble_eq_true rfl) h
def f6_put (V : VV) (x1 : Int) : Option VV := ck ((0:Int) ≤ (V 148 8) ∧ (V 148 8) < 360) (some (up2 (up2 V 152 (Int.toNat (V 148 8)) x1) 148 8 (((up2 V 152 (Int.toNat (V 148 8)) x1) 148 8) + 1)))
theorem ev6_put {G : GT} {l : Launch} {V : VV} {x1 : Int} {V1 : VV} (hlt : l.stackTraces = false) (hN : 154 ≤ gN G) (h : f6_put V x1 = some V1) : EvX G l y6_put b6_put 2 none 0 0 0 [.ref (gB G + 148), vI x1] V (.ok none) V1 := by
  refine ev_w hlt (by decide +kernel) rfl rfl (fun X hl hx C M => ?_)
  subst hl
  replace C : Cx G X "ChannelScheduleModel" b6_put := C
  unfold f6_put at h
  show At G X 0 0 0 [(0, .ref (gB G + 148)), (1, vI x1)] [] V
  refine r_aload_n C d6_put_0 rfl ?_
  refine g_model_7 C d6_put_1 f6_36 hN ?_
  refine r_aload_n C d6_put_4 rfl ?_
  refine g_model_8 C d6_put_5 f6_39 hN ?_
  refine r_iload_n C d6_put_8 rfl ?_
  obtain ⟨c1, h⟩ := ck_of h
  refine x_iast C d6_put_9 (ra_written hN) c1 ?_
  refine r_aload_n C d6_put_10 rfl ?_
  refine r_dup C d6_put_11 rfl ?_
  refine g_model_8 C d6_put_12 f6_39 hN ?_
  refine r_iconst C d6_put_15 ?_
  refine r_iadd C d6_put_16 ?_
  refine p_model_8 C d6_put_17 f6_39 hN ?_
  exact e_v C M d6_put_20 (Nat.le_of_ble_eq_true rfl) (Nat.le_of_ble_eq_true rfl) h
def f6_putNumber_L2 (V : VV) (x1 : Int) : Nat → Int → Option (Int)
  | 0, _ => none
  | n + 1, x2 => ck (0 < nrm x2) ((if nrm ((nrm x1).tdiv (nrm x2)) < nrm 10 then some x2 else f6_putNumber_L2 V x1 n (x2 * 10)))
theorem lp6_putNumber_2 {G : GT} {X : CT} {cells slots : Nat} {V : VV} (hN : 154 ≤ gN G) (hx : xN X = 3) (C : Cx G X "ChannelScheduleModel" b6_putNumber) {x1 : Int} {o0 : Except String (Option Value)} {V9 : VV} (M : MX G X 1 0 0 none o0 V9) (hc : cells ≤ 0) (hs : slots ≤ 0) : ∀ (n : Nat) {x2 : Int} {e2 : Int}, f6_putNumber_L2 V x1 n x2 = some (e2) → At G X cells slots 18 [(0, .ref (gB G + 148)), (1, vI x1), (2, vI e2)] [] V → At G X cells slots 2 [(0, .ref (gB G + 148)), (1, vI x1), (2, vI x2)] [] V := by
  intro n
  induction n with
  | zero => intro x2 e2 h _; exact nomatch h
  | succ n ih =>
    intro x2 e2 h K
    rw [f6_putNumber_L2] at h
    refine r_iload_n C d6_putNumber_2 rfl ?_
    refine r_iload_n C d6_putNumber_3 rfl ?_
    obtain ⟨c1, h⟩ := ck_of h
    refine x_idiv C d6_putNumber_4 c1 ?_
    refine r_bipush C d6_putNumber_5 (by decide +kernel) ?_
    refine x_icmplt (tgt := 18) C d6_putNumber_7 rfl (fun c2 => ?_) (fun c2 => ?_)
    · replace h := ite_p c2 h
      cases h
      exact AtH.sw K ⟨rfl, rfl, rfl, trivial⟩
    · replace h := ite_m c2 h
      refine r_iload_n C d6_putNumber_10 rfl ?_
      refine r_bipush C d6_putNumber_11 (by decide +kernel) ?_
      refine r_imul C d6_putNumber_13 ?_
      refine x_istore_n hx C d6_putNumber_14 rfl ?_
      refine r_goto (tgt := 2) C d6_putNumber_15 rfl ?_
      exact AtH.sw (ih h K) ⟨rfl, rfl, rfl, trivial⟩
def f6_putNumber_L18 (x1 : Int) : Nat → Int → VV → Option (VV)
  | 0, _, _ => none
  | n + 1, x2, V => (if nrm x2 ≤ 0 then some V else ck (0 < nrm x2) (ck (0 < nrm 10) (bd (f6_put V (48 + ((nrm ((nrm x1).tdiv (nrm x2))).tmod (nrm 10)))) (fun W9 => f6_putNumber_L18 x1 n ((nrm x2).tdiv (nrm 10)) W9))))
theorem lp6_putNumber_18 {G : GT} {X : CT} {cells slots : Nat} (hN : 154 ≤ gN G) (hx : xN X = 3) (C : Cx G X "ChannelScheduleModel" b6_putNumber) {x1 : Int} {o0 : Except String (Option Value)} {V9 : VV} (M : MX G X 1 0 0 none o0 V9) (hc : cells ≤ 0) (hs : slots ≤ 0) : ∀ (n : Nat) {x2 : Int} {V : VV} {W0 : VV}, f6_putNumber_L18 x1 n x2 V = some (W0) → At G X cells slots 43 [] [] W0 → At G X cells slots 18 [(0, .ref (gB G + 148)), (1, vI x1), (2, vI x2)] [] V := by
  intro n
  induction n with
  | zero => intro x2 V W0 h _; exact nomatch h
  | succ n ih =>
    intro x2 V W0 h K
    rw [f6_putNumber_L18] at h
    refine r_iload_n C d6_putNumber_18 rfl ?_
    refine x_ifle (tgt := 43) C d6_putNumber_19 rfl (fun c5 => ?_) (fun c5 => ?_)
    · replace h := ite_p c5 h
      cases h
      exact AtH.sw K trivial
    · replace h := ite_m c5 h
      refine r_aload_n C d6_putNumber_22 rfl ?_
      refine r_bipush C d6_putNumber_23 (by decide +kernel) ?_
      refine r_iload_n C d6_putNumber_25 rfl ?_
      refine r_iload_n C d6_putNumber_26 rfl ?_
      obtain ⟨c6, h⟩ := ck_of h
      refine x_idiv C d6_putNumber_27 c6 ?_
      refine r_bipush C d6_putNumber_28 (by decide +kernel) ?_
      obtain ⟨c7, h⟩ := ck_of h
      refine x_irem C d6_putNumber_30 c7 ?_
      refine r_iadd C d6_putNumber_31 ?_
      obtain ⟨W9, h8, h⟩ := bd_of h
      refine cV1_v C M d6_putNumber_32 l6_301 w6_put (rc_model hN) (ev6_put C.lt hN h8) rfl hc hs ?_
      refine r_iload_n C d6_putNumber_35 rfl ?_
      refine r_bipush C d6_putNumber_36 (by decide +kernel) ?_
      refine x_idiv C d6_putNumber_38 c7 ?_
      refine x_istore_n hx C d6_putNumber_39 rfl ?_
      refine r_goto (tgt := 18) C d6_putNumber_40 rfl ?_
      exact AtH.sw (ih h K) ⟨rfl, rfl, rfl, trivial⟩
def f6_putNumber (V : VV) (x1 : Int) : Option VV := bd (f6_putNumber_L2 V x1 FU 1) (fun y3 => bd (f6_putNumber_L18 x1 FU y3 V) (fun W10 => some W10))
theorem ev6_putNumber {G : GT} {l : Launch} {V : VV} {x1 : Int} {V1 : VV} (hlt : l.stackTraces = false) (hN : 154 ≤ gN G) (h : f6_putNumber V x1 = some V1) : EvX G l y6_putNumber b6_putNumber 3 none 1 0 0 [.ref (gB G + 148), vI x1] V (.ok none) V1 := by
  refine ev_w hlt (by decide +kernel) rfl rfl (fun X hl hx C M => ?_)
  subst hl
  replace C : Cx G X "ChannelScheduleModel" b6_putNumber := C
  unfold f6_putNumber at h
  show At G X 0 0 0 [(0, .ref (gB G + 148)), (1, vI x1)] [] V
  refine r_iconst C d6_putNumber_0 ?_
  refine x_istore_n hx C d6_putNumber_1 rfl ?_
  obtain ⟨y3, h4, h⟩ := bd_of h
  refine AtH.sw (lp6_putNumber_2 hN hx C M (Nat.le_of_ble_eq_true rfl) (Nat.le_of_ble_eq_true rfl) FU h4 ?_) ⟨rfl, rfl, rfl, trivial⟩
  obtain ⟨W10, h11, h⟩ := bd_of h
  refine AtH.sw (lp6_putNumber_18 hN hx C M (Nat.le_of_ble_eq_true rfl) (Nat.le_of_ble_eq_true rfl) FU h11 ?_) ⟨rfl, rfl, rfl, trivial⟩
  exact e_v C M d6_putNumber_43 (Nat.le_of_ble_eq_true rfl) (Nat.le_of_ble_eq_true rfl) h
