/-! walks of the reference, 3 (printed by walk.py) -/
def f6_runScript_L42 (x1 : Int) : Nat → Int → VV → Option (Int × VV)
  | 0, _, _ => none
  | n + 1, x2, V => (if nrm x1 ≤ nrm x2 then some (x2, V) else bd2 (f6_carryOut V x2) (fun r18 W19 => (if nrm r18 = 0 then some (x2, W19) else f6_runScript_L42 x1 n (x2 + 1) W19)))
theorem lp6_runScript_42 {G : GT} {X : CT} {cells slots : Nat} (hN : 154 ≤ gN G) (hx : xN X = 3) (C : Cx G X "ChannelScheduleModel" b6_runScript) {x1 : Int} {o0 : Except String (Option Value)} {V9 : VV} (M : MX G X 9 0 0 (some .int) o0 V9) (hc : cells ≤ 0) (hs : slots ≤ 0) : ∀ (n : Nat) {x2 : Int} {V : VV} {e2 : Int} {W0 : VV}, f6_runScript_L42 x1 n x2 V = some (e2, W0) → At G X cells slots 61 [(2, vI e2)] [] W0 → At G X cells slots 42 [(0, .ref (gB G + 148)), (1, vI x1), (2, vI x2)] [] V := by
  intro n
  induction n with
  | zero => intro x2 V e2 W0 h _; exact nomatch h
  | succ n ih =>
    intro x2 V e2 W0 h K
    rw [f6_runScript_L42] at h
    refine r_iload_n C d6_runScript_42 rfl ?_
    refine r_iload_n C d6_runScript_43 rfl ?_
    refine x_icmpge (tgt := 61) C d6_runScript_44 rfl (fun c16 => ?_) (fun c16 => ?_)
    · replace h := ite_p c16 h
      cases h
      exact AtH.sw K ⟨rfl, trivial⟩
    · replace h := ite_m c16 h
      refine r_aload_n C d6_runScript_47 rfl ?_
      refine r_iload_n C d6_runScript_48 rfl ?_
      obtain ⟨r18, W19, h17, h⟩ := bd2_of h
      refine cV1_i C M d6_runScript_49 l6_262 w6_carryOut (rc_model hN) (ev6_carryOut C.lt hN h17) rfl hc hs ?_
      refine x_ifeq (tgt := 61) C d6_runScript_52 rfl (fun c20 => ?_) (fun c20 => ?_)
      · replace h := ite_p c20 h
        cases h
        exact AtH.sw K ⟨rfl, trivial⟩
      · replace h := ite_m c20 h
        refine x_iinc hx C d6_runScript_55 rfl rfl ?_
        refine r_goto (tgt := 42) C d6_runScript_58 rfl ?_
        exact AtH.sw (ih h K) ⟨rfl, rfl, rfl, trivial⟩
def f6_runScript (V : VV) : Option (Int × VV) := bd (f6_begin V) (fun W2 => bd2 (f6_parseScript W2) (fun r4 W5 => bd ((if nrm r4 = nrm (-1) then some (1) else some (0))) (fun y7 => bd2 (f6_fails (up2 W5 148 4 0) y7 0 0) (fun r11 W12 => (if nrm r11 = 0 then bd (f6_remember W12 0) (fun W15 => bd2 (f6_runScript_L42 r4 FU 0 W15) (fun y21 W22 => some (y21, W22))) else some (0, W12))))))
theorem ev6_runScript {G : GT} {l : Launch} {V : VV} {r : Int} {V1 : VV} (hlt : l.stackTraces = false) (hN : 154 ≤ gN G) (h : f6_runScript V = some (r, V1)) : EvX G l y6_runScript b6_runScript 3 (some .int) 9 0 0 [.ref (gB G + 148)] V (.ok (some (vI r))) V1 := by
  refine ev_w hlt (by decide +kernel) rfl rfl (fun X hl hx C M => ?_)
  subst hl
  replace C : Cx G X "ChannelScheduleModel" b6_runScript := C
  unfold f6_runScript at h
  show At G X 0 0 0 [(0, .ref (gB G + 148))] [] V
  refine r_aload_n C d6_runScript_0 rfl ?_
  obtain ⟨W2, h1, h⟩ := bd_of h
  refine cV0_v C M d6_runScript_1 l6_68 w6_begin (rc_model hN) (ev6_begin C.lt hN h1) rfl (Nat.le_of_ble_eq_true rfl) (Nat.le_of_ble_eq_true rfl) ?_
  refine r_aload_n C d6_runScript_4 rfl ?_
  obtain ⟨r4, W5, h3, h⟩ := bd2_of h
  refine cV0_i C M d6_runScript_5 l6_256 w6_parseScript (rc_model hN) (ev6_parseScript C.lt hN h3) rfl (Nat.le_of_ble_eq_true rfl) (Nat.le_of_ble_eq_true rfl) ?_
  refine x_istore_n hx C d6_runScript_8 rfl ?_
  refine r_aload_n C d6_runScript_9 rfl ?_
  refine r_iconst C d6_runScript_10 ?_
  refine p_model_4 C d6_runScript_11 f6_27 hN ?_
  refine r_aload_n C d6_runScript_14 rfl ?_
  refine r_iload_n C d6_runScript_15 rfl ?_
  refine r_iconst C d6_runScript_16 ?_
  obtain ⟨y7, h8, h⟩ := bd_of h
  suffices J9 : At G X 0 0 25 [(0, .ref (gB G + 148)), (1, vI r4)] [vI y7, .ref (gB G + 148)] (up2 W5 148 4 0) by
    replace h := h8
    refine x_icmpne (tgt := 24) C d6_runScript_17 rfl (fun c6 => ?_) (fun c6 => ?_)
    · replace h := ite_p c6 h
      refine r_iconst C d6_runScript_20 ?_
      refine r_goto (tgt := 25) C d6_runScript_21 rfl ?_
      cases h
      exact AtH.sw J9 ⟨rfl, rfl, trivial⟩
    · replace h := ite_m c6 h
      refine r_iconst C d6_runScript_24 ?_
      cases h
      exact AtH.sw J9 ⟨rfl, rfl, trivial⟩
  refine r_iconst C d6_runScript_25 ?_
  refine r_iconst C d6_runScript_26 ?_
  obtain ⟨r11, W12, h10, h⟩ := bd2_of h
  refine cV3_i C M d6_runScript_27 l6_148 w6_fails (rc_model hN) (ev6_fails C.lt hN h10) rfl (Nat.le_of_ble_eq_true rfl) (Nat.le_of_ble_eq_true rfl) ?_
  refine x_ifeq (tgt := 35) C d6_runScript_30 rfl (fun c13 => ?_) (fun c13 => ?_)
  · replace h := ite_p c13 h
    refine r_aload_n C d6_runScript_35 rfl ?_
    refine r_iconst C d6_runScript_36 ?_
    obtain ⟨W15, h14, h⟩ := bd_of h
    refine cV1_v C M d6_runScript_37 l6_259 w6_remember (rc_model hN) (ev6_remember C.lt hN h14) rfl (Nat.le_of_ble_eq_true rfl) (Nat.le_of_ble_eq_true rfl) ?_
    refine r_iconst C d6_runScript_40 ?_
    refine x_istore_n hx C d6_runScript_41 rfl ?_
    obtain ⟨y21, W22, h23, h⟩ := bd2_of h
    refine AtH.sw (lp6_runScript_42 hN hx C M (Nat.le_of_ble_eq_true rfl) (Nat.le_of_ble_eq_true rfl) FU h23 ?_) ⟨rfl, rfl, rfl, trivial⟩
    refine r_iload_n C d6_runScript_61 rfl ?_
    exact e_iv C M d6_runScript_62 (Nat.le_of_ble_eq_true rfl) (Nat.le_of_ble_eq_true rfl) h
  · replace h := ite_m c13 h
    refine r_iconst C d6_runScript_33 ?_
    exact e_iv C M d6_runScript_34 (Nat.le_of_ble_eq_true rfl) (Nat.le_of_ble_eq_true rfl) h
def f6_errorCode (V : VV) : Option (Int × VV) := some ((up2 V 148 9 0) 148 5, up2 V 148 9 0)
theorem ev6_errorCode {G : GT} {l : Launch} {V : VV} {r : Int} {V1 : VV} (hlt : l.stackTraces = false) (hN : 154 ≤ gN G) (h : f6_errorCode V = some (r, V1)) : EvX G l y6_errorCode b6_errorCode 1 (some .int) 0 0 0 [.ref (gB G + 148)] V (.ok (some (vI r))) V1 := by
  refine ev_w hlt (by decide +kernel) rfl rfl (fun X hl hx C M => ?_)
  subst hl
  replace C : Cx G X "ChannelScheduleModel" b6_errorCode := C
  unfold f6_errorCode at h
  show At G X 0 0 0 [(0, .ref (gB G + 148))] [] V
  refine r_aload_n C d6_errorCode_0 rfl ?_
  refine r_iconst C d6_errorCode_1 ?_
  refine p_model_9 C d6_errorCode_2 f6_1 hN ?_
  refine r_aload_n C d6_errorCode_5 rfl ?_
  refine g_model_5 C d6_errorCode_6 f6_30 hN ?_
  exact e_iv C M d6_errorCode_9 (Nat.le_of_ble_eq_true rfl) (Nat.le_of_ble_eq_true rfl) h
def f6_errorPosition (V : VV) : Option (Int × VV) := some ((up2 V 148 9 0) 148 6, up2 V 148 9 0)
theorem ev6_errorPosition {G : GT} {l : Launch} {V : VV} {r : Int} {V1 : VV} (hlt : l.stackTraces = false) (hN : 154 ≤ gN G) (h : f6_errorPosition V = some (r, V1)) : EvX G l y6_errorPosition b6_errorPosition 1 (some .int) 0 0 0 [.ref (gB G + 148)] V (.ok (some (vI r))) V1 := by
  refine ev_w hlt (by decide +kernel) rfl rfl (fun X hl hx C M => ?_)
  subst hl
  replace C : Cx G X "ChannelScheduleModel" b6_errorPosition := C
  unfold f6_errorPosition at h
  show At G X 0 0 0 [(0, .ref (gB G + 148))] [] V
  refine r_aload_n C d6_errorPosition_0 rfl ?_
  refine r_iconst C d6_errorPosition_1 ?_
  refine p_model_9 C d6_errorPosition_2 f6_1 hN ?_
  refine r_aload_n C d6_errorPosition_5 rfl ?_
  refine g_model_6 C d6_errorPosition_6 f6_33 hN ?_
  exact e_iv C M d6_errorPosition_9 (Nat.le_of_ble_eq_true rfl) (Nat.le_of_ble_eq_true rfl) h
def f6_plain (V : VV) (x1 : Int) : Option (Int × VV) := some (x1, up2 V 148 9 0)
theorem ev6_plain {G : GT} {l : Launch} {V : VV} {x1 : Int} {r : Int} {V1 : VV} (hlt : l.stackTraces = false) (hN : 154 ≤ gN G) (h : f6_plain V x1 = some (r, V1)) : EvX G l y6_plain b6_plain 2 (some .int) 0 0 0 [.ref (gB G + 148), vI x1] V (.ok (some (vI r))) V1 := by
  refine ev_w hlt (by decide +kernel) rfl rfl (fun X hl hx C M => ?_)
  subst hl
  replace C : Cx G X "ChannelScheduleModel" b6_plain := C
  unfold f6_plain at h
  show At G X 0 0 0 [(0, .ref (gB G + 148)), (1, vI x1)] [] V
  refine r_aload_n C d6_plain_0 rfl ?_
  refine r_iconst C d6_plain_1 ?_
  refine p_model_9 C d6_plain_2 f6_1 hN ?_
  refine r_iload_n C d6_plain_5 rfl ?_
  exact e_iv C M d6_plain_6 (Nat.le_of_ble_eq_true rfl) (Nat.le_of_ble_eq_true rfl) h
def f6_shipCount (V : VV) : Option (Int × VV) := bd2 (f6_plain V (V 149 4)) (fun r2 W3 => some (r2, W3))
theorem ev6_shipCount {G : GT} {l : Launch} {V : VV} {r : Int} {V1 : VV} (hlt : l.stackTraces = false) (hN : 154 ≤ gN G) (h : f6_shipCount V = some (r, V1)) : EvX G l y6_shipCount b6_shipCount 1 (some .int) 1 0 0 [.ref (gB G + 148)] V (.ok (some (vI r))) V1 := by
  refine ev_w hlt (by decide +kernel) rfl rfl (fun X hl hx C M => ?_)
  subst hl
  replace C : Cx G X "ChannelScheduleModel" b6_shipCount := C
  unfold f6_shipCount at h
  show At G X 0 0 0 [(0, .ref (gB G + 148))] [] V
  refine r_aload_n C d6_shipCount_0 rfl ?_
  refine r_aload_n C d6_shipCount_1 rfl ?_
  refine g_model_0 C d6_shipCount_2 f6_13 hN ?_
  refine r_iconst C d6_shipCount_5 ?_
  refine x_iald C d6_shipCount_6 (ra_m hN) (by omega) ?_
  obtain ⟨r2, W3, h1, h⟩ := bd2_of h
  refine cV1_i C M d6_shipCount_7 l6_265 w6_plain (rc_model hN) (ev6_plain C.lt hN h1) rfl (Nat.le_of_ble_eq_true rfl) (Nat.le_of_ble_eq_true rfl) ?_
  exact e_iv C M d6_shipCount_10 (Nat.le_of_ble_eq_true rfl) (Nat.le_of_ble_eq_true rfl) h
def f6_headway (V : VV) : Option (Int × VV) := bd2 (f6_plain V (V 149 0)) (fun r2 W3 => some (r2, W3))
theorem ev6_headway {G : GT} {l : Launch} {V : VV} {r : Int} {V1 : VV} (hlt : l.stackTraces = false) (hN : 154 ≤ gN G) (h : f6_headway V = some (r, V1)) : EvX G l y6_headway b6_headway 1 (some .int) 1 0 0 [.ref (gB G + 148)] V (.ok (some (vI r))) V1 := by
  refine ev_w hlt (by decide +kernel) rfl rfl (fun X hl hx C M => ?_)
  subst hl
  replace C : Cx G X "ChannelScheduleModel" b6_headway := C
  unfold f6_headway at h
  show At G X 0 0 0 [(0, .ref (gB G + 148))] [] V
  refine r_aload_n C d6_headway_0 rfl ?_
  refine r_aload_n C d6_headway_1 rfl ?_
  refine g_model_0 C d6_headway_2 f6_13 hN ?_
  refine r_iconst C d6_headway_5 ?_
  refine x_iald C d6_headway_6 (ra_m hN) (by omega) ?_
  obtain ⟨r2, W3, h1, h⟩ := bd2_of h
  refine cV1_i C M d6_headway_7 l6_265 w6_plain (rc_model hN) (ev6_plain C.lt hN h1) rfl (Nat.le_of_ble_eq_true rfl) (Nat.le_of_ble_eq_true rfl) ?_
  exact e_iv C M d6_headway_10 (Nat.le_of_ble_eq_true rfl) (Nat.le_of_ble_eq_true rfl) h
def f6_clearance (V : VV) : Option (Int × VV) := bd2 (f6_plain V (V 149 1)) (fun r2 W3 => some (r2, W3))
theorem ev6_clearance {G : GT} {l : Launch} {V : VV} {r : Int} {V1 : VV} (hlt : l.stackTraces = false) (hN : 154 ≤ gN G) (h : f6_clearance V = some (r, V1)) : EvX G l y6_clearance b6_clearance 1 (some .int) 1 0 0 [.ref (gB G + 148)] V (.ok (some (vI r))) V1 := by
  refine ev_w hlt (by decide +kernel) rfl rfl (fun X hl hx C M => ?_)
  subst hl
  replace C : Cx G X "ChannelScheduleModel" b6_clearance := C
  unfold f6_clearance at h
  show At G X 0 0 0 [(0, .ref (gB G + 148))] [] V
  refine r_aload_n C d6_clearance_0 rfl ?_
  refine r_aload_n C d6_clearance_1 rfl ?_
  refine g_model_0 C d6_clearance_2 f6_13 hN ?_
  refine r_iconst C d6_clearance_5 ?_
  refine x_iald C d6_clearance_6 (ra_m hN) (by omega) ?_
  obtain ⟨r2, W3, h1, h⟩ := bd2_of h
  refine cV1_i C M d6_clearance_7 l6_265 w6_plain (rc_model hN) (ev6_plain C.lt hN h1) rfl (Nat.le_of_ble_eq_true rfl) (Nat.le_of_ble_eq_true rfl) ?_
  exact e_iv C M d6_clearance_10 (Nat.le_of_ble_eq_true rfl) (Nat.le_of_ble_eq_true rfl) h
def f6_thickness (V : VV) : Option (Int × VV) := bd2 (f6_plain V (V 149 2)) (fun r2 W3 => some (r2, W3))
theorem ev6_thickness {G : GT} {l : Launch} {V : VV} {r : Int} {V1 : VV} (hlt : l.stackTraces = false) (hN : 154 ≤ gN G) (h : f6_thickness V = some (r, V1)) : EvX G l y6_thickness b6_thickness 1 (some .int) 1 0 0 [.ref (gB G + 148)] V (.ok (some (vI r))) V1 := by
  refine ev_w hlt (by decide +kernel) rfl rfl (fun X hl hx C M => ?_)
  subst hl
  replace C : Cx G X "ChannelScheduleModel" b6_thickness := C
  unfold f6_thickness at h
  show At G X 0 0 0 [(0, .ref (gB G + 148))] [] V
  refine r_aload_n C d6_thickness_0 rfl ?_
  refine r_aload_n C d6_thickness_1 rfl ?_
  refine g_model_0 C d6_thickness_2 f6_13 hN ?_
  refine r_iconst C d6_thickness_5 ?_
  refine x_iald C d6_thickness_6 (ra_m hN) (by omega) ?_
  obtain ⟨r2, W3, h1, h⟩ := bd2_of h
  refine cV1_i C M d6_thickness_7 l6_265 w6_plain (rc_model hN) (ev6_plain C.lt hN h1) rfl (Nat.le_of_ble_eq_true rfl) (Nat.le_of_ble_eq_true rfl) ?_
  exact e_iv C M d6_thickness_10 (Nat.le_of_ble_eq_true rfl) (Nat.le_of_ble_eq_true rfl) h
def f6_minute (V : VV) : Option (Int × VV) := bd2 (f6_plain V (V 149 3)) (fun r2 W3 => some (r2, W3))
theorem ev6_minute {G : GT} {l : Launch} {V : VV} {r : Int} {V1 : VV} (hlt : l.stackTraces = false) (hN : 154 ≤ gN G) (h : f6_minute V = some (r, V1)) : EvX G l y6_minute b6_minute 1 (some .int) 1 0 0 [.ref (gB G + 148)] V (.ok (some (vI r))) V1 := by
  refine ev_w hlt (by decide +kernel) rfl rfl (fun X hl hx C M => ?_)
  subst hl
  replace C : Cx G X "ChannelScheduleModel" b6_minute := C
  unfold f6_minute at h
  show At G X 0 0 0 [(0, .ref (gB G + 148))] [] V
  refine r_aload_n C d6_minute_0 rfl ?_
  refine r_aload_n C d6_minute_1 rfl ?_
  refine g_model_0 C d6_minute_2 f6_13 hN ?_
  refine r_iconst C d6_minute_5 ?_
  refine x_iald C d6_minute_6 (ra_m hN) (by omega) ?_
  obtain ⟨r2, W3, h1, h⟩ := bd2_of h
  refine cV1_i C M d6_minute_7 l6_265 w6_plain (rc_model hN) (ev6_plain C.lt hN h1) rfl (Nat.le_of_ble_eq_true rfl) (Nat.le_of_ble_eq_true rfl) ?_
  exact e_iv C M d6_minute_10 (Nat.le_of_ble_eq_true rfl) (Nat.le_of_ble_eq_true rfl) h
def f6_transitTime (V : VV) (x1 : Int) : Option (Int × VV) := bd (f6_isShip V x1) (fun r2 => bd ((if nrm r2 = 0 then some (1) else some (0))) (fun y4 => bd2 (f6_fails V y4 0 0) (fun r8 W9 => (if nrm r8 = 0 then bd (f6_transit W9 x1) (fun r12 => some (r12, W9)) else some (0, W9)))))
theorem ev6_transitTime {G : GT} {l : Launch} {V : VV} {x1 : Int} {r : Int} {V1 : VV} (hlt : l.stackTraces = false) (hN : 154 ≤ gN G) (h : f6_transitTime V x1 = some (r, V1)) : EvX G l y6_transitTime b6_transitTime 2 (some .int) 2 0 0 [.ref (gB G + 148), vI x1] V (.ok (some (vI r))) V1 := by
  refine ev_w hlt (by decide +kernel) rfl rfl (fun X hl hx C M => ?_)
  subst hl
  replace C : Cx G X "ChannelScheduleModel" b6_transitTime := C
  unfold f6_transitTime at h
  show At G X 0 0 0 [(0, .ref (gB G + 148)), (1, vI x1)] [] V
  refine r_aload_n C d6_transitTime_0 rfl ?_
  refine r_aload_n C d6_transitTime_1 rfl ?_
  refine r_iload_n C d6_transitTime_2 rfl ?_
  obtain ⟨r2, h1, h⟩ := bd_of h
  refine cV1_i C M d6_transitTime_3 l6_268 w6_isShip (rc_model hN) (ev6_isShip C.lt hN h1) rfl (Nat.le_of_ble_eq_true rfl) (Nat.le_of_ble_eq_true rfl) ?_
  obtain ⟨y4, h5, h⟩ := bd_of h
  suffices J6 : At G X 0 0 14 [(0, .ref (gB G + 148)), (1, vI x1)] [vI y4, .ref (gB G + 148)] V by
    replace h := h5
    refine x_ifne (tgt := 13) C d6_transitTime_6 rfl (fun c3 => ?_) (fun c3 => ?_)
    · replace h := ite_p c3 h
      refine r_iconst C d6_transitTime_9 ?_
      refine r_goto (tgt := 14) C d6_transitTime_10 rfl ?_
      cases h
      exact AtH.sw J6 ⟨rfl, rfl, trivial⟩
    · replace h := ite_m c3 h
      refine r_iconst C d6_transitTime_13 ?_
      cases h
      exact AtH.sw J6 ⟨rfl, rfl, trivial⟩
  refine r_iconst C d6_transitTime_14 ?_
  refine r_iconst C d6_transitTime_15 ?_
  obtain ⟨r8, W9, h7, h⟩ := bd2_of h
  refine cV3_i C M d6_transitTime_16 l6_148 w6_fails (rc_model hN) (ev6_fails C.lt hN h7) rfl (Nat.le_of_ble_eq_true rfl) (Nat.le_of_ble_eq_true rfl) ?_
  refine x_ifeq (tgt := 24) C d6_transitTime_19 rfl (fun c10 => ?_) (fun c10 => ?_)
  · replace h := ite_p c10 h
    refine r_aload_n C d6_transitTime_24 rfl ?_
    refine r_iload_n C d6_transitTime_25 rfl ?_
    obtain ⟨r12, h11, h⟩ := bd_of h
    refine cV1_i C M d6_transitTime_26 l6_94 w6_transit (rc_model hN) (ev6_transit C.lt hN h11) rfl (Nat.le_of_ble_eq_true rfl) (Nat.le_of_ble_eq_true rfl) ?_
    exact e_iv C M d6_transitTime_29 (Nat.le_of_ble_eq_true rfl) (Nat.le_of_ble_eq_true rfl) h
  · replace h := ite_m c10 h
    refine r_iconst C d6_transitTime_22 ?_
    exact e_iv C M d6_transitTime_23 (Nat.le_of_ble_eq_true rfl) (Nat.le_of_ble_eq_true rfl) h
def f6_iceClass (V : VV) (x1 : Int) : Option (Int × VV) := bd (f6_isShip V x1) (fun r2 => bd ((if nrm r2 = 0 then some (1) else some (0))) (fun y4 => bd2 (f6_fails V y4 0 0) (fun r8 W9 => (if nrm r8 = 0 then bd (f6_ofShip W9 x1 8) (fun r12 => some (r12, W9)) else some (0, W9)))))
theorem ev6_iceClass {G : GT} {l : Launch} {V : VV} {x1 : Int} {r : Int} {V1 : VV} (hlt : l.stackTraces = false) (hN : 154 ≤ gN G) (h : f6_iceClass V x1 = some (r, V1)) : EvX G l y6_iceClass b6_iceClass 2 (some .int) 2 0 0 [.ref (gB G + 148), vI x1] V (.ok (some (vI r))) V1 := by
  refine ev_w hlt (by decide +kernel) rfl rfl (fun X hl hx C M => ?_)
  subst hl
  replace C : Cx G X "ChannelScheduleModel" b6_iceClass := C
  unfold f6_iceClass at h
  show At G X 0 0 0 [(0, .ref (gB G + 148)), (1, vI x1)] [] V
  refine r_aload_n C d6_iceClass_0 rfl ?_
  refine r_aload_n C d6_iceClass_1 rfl ?_
  refine r_iload_n C d6_iceClass_2 rfl ?_
  obtain ⟨r2, h1, h⟩ := bd_of h
  refine cV1_i C M d6_iceClass_3 l6_268 w6_isShip (rc_model hN) (ev6_isShip C.lt hN h1) rfl (Nat.le_of_ble_eq_true rfl) (Nat.le_of_ble_eq_true rfl) ?_
  obtain ⟨y4, h5, h⟩ := bd_of h
  suffices J6 : At G X 0 0 14 [(0, .ref (gB G + 148)), (1, vI x1)] [vI y4, .ref (gB G + 148)] V by
    replace h := h5
    refine x_ifne (tgt := 13) C d6_iceClass_6 rfl (fun c3 => ?_) (fun c3 => ?_)
    · replace h := ite_p c3 h
      refine r_iconst C d6_iceClass_9 ?_
      refine r_goto (tgt := 14) C d6_iceClass_10 rfl ?_
      cases h
      exact AtH.sw J6 ⟨rfl, rfl, trivial⟩
    · replace h := ite_m c3 h
      refine r_iconst C d6_iceClass_13 ?_
      cases h
      exact AtH.sw J6 ⟨rfl, rfl, trivial⟩
  refine r_iconst C d6_iceClass_14 ?_
  refine r_iconst C d6_iceClass_15 ?_
  obtain ⟨r8, W9, h7, h⟩ := bd2_of h
  refine cV3_i C M d6_iceClass_16 l6_148 w6_fails (rc_model hN) (ev6_fails C.lt hN h7) rfl (Nat.le_of_ble_eq_true rfl) (Nat.le_of_ble_eq_true rfl) ?_
  refine x_ifeq (tgt := 24) C d6_iceClass_19 rfl (fun c10 => ?_) (fun c10 => ?_)
  · replace h := ite_p c10 h
    refine r_aload_n C d6_iceClass_24 rfl ?_
    refine r_iload_n C d6_iceClass_25 rfl ?_
    refine r_bipush C d6_iceClass_26 (by decide +kernel) ?_
    obtain ⟨r12, h11, h⟩ := bd_of h
    refine cV2_i C M d6_iceClass_28 l6_83 w6_ofShip (rc_model hN) (ev6_ofShip C.lt hN h11) rfl (Nat.le_of_ble_eq_true rfl) (Nat.le_of_ble_eq_true rfl) ?_
    exact e_iv C M d6_iceClass_31 (Nat.le_of_ble_eq_true rfl) (Nat.le_of_ble_eq_true rfl) h
  · replace h := ite_m c10 h
    refine r_iconst C d6_iceClass_22 ?_
    exact e_iv C M d6_iceClass_23 (Nat.le_of_ble_eq_true rfl) (Nat.le_of_ble_eq_true rfl) h
def f6_weight (V : VV) (x1 : Int) : Option (Int × VV) := bd (f6_isShip V x1) (fun r2 => bd ((if nrm r2 = 0 then some (1) else some (0))) (fun y4 => bd2 (f6_fails V y4 0 0) (fun r8 W9 => (if nrm r8 = 0 then bd (f6_ofShip W9 x1 9) (fun r12 => some (r12, W9)) else some (0, W9)))))
theorem ev6_weight {G : GT} {l : Launch} {V : VV} {x1 : Int} {r : Int} {V1 : VV} (hlt : l.stackTraces = false) (hN : 154 ≤ gN G) (h : f6_weight V x1 = some (r, V1)) : EvX G l y6_weight b6_weight 2 (some .int) 2 0 0 [.ref (gB G + 148), vI x1] V (.ok (some (vI r))) V1 := by
  refine ev_w hlt (by decide +kernel) rfl rfl (fun X hl hx C M => ?_)
  subst hl
  replace C : Cx G X "ChannelScheduleModel" b6_weight := C
  unfold f6_weight at h
  show At G X 0 0 0 [(0, .ref (gB G + 148)), (1, vI x1)] [] V
  refine r_aload_n C d6_weight_0 rfl ?_
  refine r_aload_n C d6_weight_1 rfl ?_
  refine r_iload_n C d6_weight_2 rfl ?_
  obtain ⟨r2, h1, h⟩ := bd_of h
  refine cV1_i C M d6_weight_3 l6_268 w6_isShip (rc_model hN) (ev6_isShip C.lt hN h1) rfl (Nat.le_of_ble_eq_true rfl) (Nat.le_of_ble_eq_true rfl) ?_
  obtain ⟨y4, h5, h⟩ := bd_of h
  suffices J6 : At G X 0 0 14 [(0, .ref (gB G + 148)), (1, vI x1)] [vI y4, .ref (gB G + 148)] V by
    replace h := h5
    refine x_ifne (tgt := 13) C d6_weight_6 rfl (fun c3 => ?_) (fun c3 => ?_)
    · replace h := ite_p c3 h
      refine r_iconst C d6_weight_9 ?_
      refine r_goto (tgt := 14) C d6_weight_10 rfl ?_
      cases h
      exact AtH.sw J6 ⟨rfl, rfl, trivial⟩
    · replace h := ite_m c3 h
      refine r_iconst C d6_weight_13 ?_
      cases h
      exact AtH.sw J6 ⟨rfl, rfl, trivial⟩
  refine r_iconst C d6_weight_14 ?_
  refine r_iconst C d6_weight_15 ?_
  obtain ⟨r8, W9, h7, h⟩ := bd2_of h
  refine cV3_i C M d6_weight_16 l6_148 w6_fails (rc_model hN) (ev6_fails C.lt hN h7) rfl (Nat.le_of_ble_eq_true rfl) (Nat.le_of_ble_eq_true rfl) ?_
  refine x_ifeq (tgt := 24) C d6_weight_19 rfl (fun c10 => ?_) (fun c10 => ?_)
  · replace h := ite_p c10 h
    refine r_aload_n C d6_weight_24 rfl ?_
    refine r_iload_n C d6_weight_25 rfl ?_
    refine r_bipush C d6_weight_26 (by decide +kernel) ?_
    obtain ⟨r12, h11, h⟩ := bd_of h
    refine cV2_i C M d6_weight_28 l6_83 w6_ofShip (rc_model hN) (ev6_ofShip C.lt hN h11) rfl (Nat.le_of_ble_eq_true rfl) (Nat.le_of_ble_eq_true rfl) ?_
    exact e_iv C M d6_weight_31 (Nat.le_of_ble_eq_true rfl) (Nat.le_of_ble_eq_true rfl) h
  · replace h := ite_m c10 h
    refine r_iconst C d6_weight_22 ?_
    exact e_iv C M d6_weight_23 (Nat.le_of_ble_eq_true rfl) (Nat.le_of_ble_eq_true rfl) h
def f6_shipNameByte (V : VV) (x1 : Int) (x2 : Int) : Option (Int × VV) := bd (f6_isShip V x1) (fun r2 => bd ((if nrm r2 = 0 then some (1) else bd (f6_isShip V x1) (fun r5 => bd ((if nrm r5 = 0 then some (0) else some (x1))) (fun y7 => bd (f6_ofShip V y7 0) (fun r11 => bd (f6_in V x2 0 (r11 - 1)) (fun r13 => (if nrm r13 = 0 then some (1) else some (0)))))))) (fun y15 => bd2 (f6_fails V y15 0 0) (fun r19 W20 => (if nrm r19 = 0 then bd (f6_ofShip W20 x1 (1 + x2)) (fun r23 => some (r23, W20)) else some (0, W20)))))
theorem ev6_shipNameByte {G : GT} {l : Launch} {V : VV} {x1 : Int} {x2 : Int} {r : Int} {V1 : VV} (hlt : l.stackTraces = false) (hN : 154 ≤ gN G) (h : f6_shipNameByte V x1 x2 = some (r, V1)) : EvX G l y6_shipNameByte b6_shipNameByte 3 (some .int) 2 0 0 [.ref (gB G + 148), vI x1, vI x2] V (.ok (some (vI r))) V1 := by
  refine ev_w hlt (by decide +kernel) rfl rfl (fun X hl hx C M => ?_)
  subst hl
  replace C : Cx G X "ChannelScheduleModel" b6_shipNameByte := C
  unfold f6_shipNameByte at h
  show At G X 0 0 0 [(0, .ref (gB G + 148)), (1, vI x1), (2, vI x2)] [] V
  refine r_aload_n C d6_shipNameByte_0 rfl ?_
  refine r_aload_n C d6_shipNameByte_1 rfl ?_
  refine r_iload_n C d6_shipNameByte_2 rfl ?_
  obtain ⟨r2, h1, h⟩ := bd_of h
  refine cV1_i C M d6_shipNameByte_3 l6_268 w6_isShip (rc_model hN) (ev6_isShip C.lt hN h1) rfl (Nat.le_of_ble_eq_true rfl) (Nat.le_of_ble_eq_true rfl) ?_
  obtain ⟨y15, h16, h⟩ := bd_of h
  suffices J17 : At G X 0 0 42 [(0, .ref (gB G + 148)), (1, vI x1), (2, vI x2)] [vI y15, .ref (gB G + 148)] V by
    replace h := h16
    refine x_ifeq (tgt := 37) C d6_shipNameByte_6 rfl (fun c3 => ?_) (fun c3 => ?_)
    · replace h := ite_p c3 h
      refine r_iconst C d6_shipNameByte_37 ?_
      refine r_goto (tgt := 42) C d6_shipNameByte_38 rfl ?_
      cases h
      exact AtH.sw J17 ⟨rfl, rfl, rfl, trivial⟩
    · replace h := ite_m c3 h
      refine r_iload_n C d6_shipNameByte_9 rfl ?_
      refine r_iconst C d6_shipNameByte_10 ?_
      refine r_aload_n C d6_shipNameByte_11 rfl ?_
      refine r_aload_n C d6_shipNameByte_12 rfl ?_
      refine r_iload_n C d6_shipNameByte_13 rfl ?_
      obtain ⟨r5, h4, h⟩ := bd_of h
      refine cV1_i C M d6_shipNameByte_14 l6_268 w6_isShip (rc_model hN) (ev6_isShip C.lt hN h4) rfl (Nat.le_of_ble_eq_true rfl) (Nat.le_of_ble_eq_true rfl) ?_
      obtain ⟨y7, h8, h⟩ := bd_of h
      suffices J9 : At G X 0 0 25 [(0, .ref (gB G + 148)), (1, vI x1), (2, vI x2)] [vI y7, .ref (gB G + 148), vI 0, vI x2, .ref (gB G + 148)] V by
        replace h := h8
        refine x_ifeq (tgt := 24) C d6_shipNameByte_17 rfl (fun c6 => ?_) (fun c6 => ?_)
        · replace h := ite_p c6 h
          refine r_iconst C d6_shipNameByte_24 ?_
          cases h
          exact AtH.sw J9 ⟨rfl, rfl, rfl, trivial⟩
        · replace h := ite_m c6 h
          refine r_iload_n C d6_shipNameByte_20 rfl ?_
          refine r_goto (tgt := 25) C d6_shipNameByte_21 rfl ?_
          cases h
          exact AtH.sw J9 ⟨rfl, rfl, rfl, trivial⟩
      refine r_iconst C d6_shipNameByte_25 ?_
      obtain ⟨r11, h10, h⟩ := bd_of h
      refine cV2_i C M d6_shipNameByte_26 l6_83 w6_ofShip (rc_model hN) (ev6_ofShip C.lt hN h10) rfl (Nat.le_of_ble_eq_true rfl) (Nat.le_of_ble_eq_true rfl) ?_
      refine r_iconst C d6_shipNameByte_29 ?_
      refine r_isub C d6_shipNameByte_30 ?_
      obtain ⟨r13, h12, h⟩ := bd_of h
      refine cS3_i C M d6_shipNameByte_31 l6_75 w6_in (ev6_in C.lt hN h12) rfl (Nat.le_of_ble_eq_true rfl) (Nat.le_of_ble_eq_true rfl) ?_
      refine x_ifne (tgt := 41) C d6_shipNameByte_34 rfl (fun c14 => ?_) (fun c14 => ?_)
      · replace h := ite_p c14 h
        refine r_iconst C d6_shipNameByte_37 ?_
        refine r_goto (tgt := 42) C d6_shipNameByte_38 rfl ?_
        cases h
        exact AtH.sw J17 ⟨rfl, rfl, rfl, trivial⟩
      · replace h := ite_m c14 h
        refine r_iconst C d6_shipNameByte_41 ?_
        cases h
        exact AtH.sw J17 ⟨rfl, rfl, rfl, trivial⟩
  refine r_iconst C d6_shipNameByte_42 ?_
  refine r_iconst C d6_shipNameByte_43 ?_
  obtain ⟨r19, W20, h18, h⟩ := bd2_of h
  refine cV3_i C M d6_shipNameByte_44 l6_148 w6_fails (rc_model hN) (ev6_fails C.lt hN h18) rfl (Nat.le_of_ble_eq_true rfl) (Nat.le_of_ble_eq_true rfl) ?_
  refine x_ifeq (tgt := 52) C d6_shipNameByte_47 rfl (fun c21 => ?_) (fun c21 => ?_)
  · replace h := ite_p c21 h
    refine r_aload_n C d6_shipNameByte_52 rfl ?_
    refine r_iload_n C d6_shipNameByte_53 rfl ?_
    refine r_iconst C d6_shipNameByte_54 ?_
    refine r_iload_n C d6_shipNameByte_55 rfl ?_
    refine r_iadd C d6_shipNameByte_56 ?_
    obtain ⟨r23, h22, h⟩ := bd_of h
    refine cV2_i C M d6_shipNameByte_57 l6_83 w6_ofShip (rc_model hN) (ev6_ofShip C.lt hN h22) rfl (Nat.le_of_ble_eq_true rfl) (Nat.le_of_ble_eq_true rfl) ?_
    exact e_iv C M d6_shipNameByte_60 (Nat.le_of_ble_eq_true rfl) (Nat.le_of_ble_eq_true rfl) h
  · replace h := ite_m c21 h
    refine r_iconst C d6_shipNameByte_50 ?_
    exact e_iv C M d6_shipNameByte_51 (Nat.le_of_ble_eq_true rfl) (Nat.le_of_ble_eq_true rfl) h
def f6_findShip (V : VV) : Option (Int × VV) := bd (f6_shipNamed V 0 (V 148 4)) (fun r2 => bd ((if nrm r2 = nrm (-1) then some (1) else some (0))) (fun y4 => bd2 (f6_fails V y4 0 0) (fun r8 W9 => (if nrm r8 = 0 then some (r2, W9) else some (0, W9)))))
theorem ev6_findShip {G : GT} {l : Launch} {V : VV} {r : Int} {V1 : VV} (hlt : l.stackTraces = false) (hN : 154 ≤ gN G) (h : f6_findShip V = some (r, V1)) : EvX G l y6_findShip b6_findShip 2 (some .int) 2 0 0 [.ref (gB G + 148)] V (.ok (some (vI r))) V1 := by
  refine ev_w hlt (by decide +kernel) rfl rfl (fun X hl hx C M => ?_)
  subst hl
  replace C : Cx G X "ChannelScheduleModel" b6_findShip := C
  unfold f6_findShip at h
  show At G X 0 0 0 [(0, .ref (gB G + 148))] [] V
  refine r_aload_n C d6_findShip_0 rfl ?_
  refine r_iconst C d6_findShip_1 ?_
  refine r_aload_n C d6_findShip_2 rfl ?_
  refine g_model_4 C d6_findShip_3 f6_27 hN ?_
  obtain ⟨r2, h1, h⟩ := bd_of h
  refine cV2_i C M d6_findShip_6 l6_170 w6_shipNamed (rc_model hN) (ev6_shipNamed C.lt hN h1) rfl (Nat.le_of_ble_eq_true rfl) (Nat.le_of_ble_eq_true rfl) ?_
  refine x_istore_n hx C d6_findShip_9 rfl ?_
  refine r_aload_n C d6_findShip_10 rfl ?_
  refine r_iload_n C d6_findShip_11 rfl ?_
  refine r_iconst C d6_findShip_12 ?_
  obtain ⟨y4, h5, h⟩ := bd_of h
  suffices J6 : At G X 0 0 21 [(1, vI r2)] [vI y4, .ref (gB G + 148)] V by
    replace h := h5
    refine x_icmpne (tgt := 20) C d6_findShip_13 rfl (fun c3 => ?_) (fun c3 => ?_)
    · replace h := ite_p c3 h
      refine r_iconst C d6_findShip_16 ?_
      refine r_goto (tgt := 21) C d6_findShip_17 rfl ?_
      cases h
      exact AtH.sw J6 ⟨rfl, trivial⟩
    · replace h := ite_m c3 h
      refine r_iconst C d6_findShip_20 ?_
      cases h
      exact AtH.sw J6 ⟨rfl, trivial⟩
  refine r_iconst C d6_findShip_21 ?_
  refine r_iconst C d6_findShip_22 ?_
  obtain ⟨r8, W9, h7, h⟩ := bd2_of h
  refine cV3_i C M d6_findShip_23 l6_148 w6_fails (rc_model hN) (ev6_fails C.lt hN h7) rfl (Nat.le_of_ble_eq_true rfl) (Nat.le_of_ble_eq_true rfl) ?_
  refine x_ifeq (tgt := 31) C d6_findShip_26 rfl (fun c10 => ?_) (fun c10 => ?_)
  · replace h := ite_p c10 h
    refine r_iload_n C d6_findShip_31 rfl ?_
    exact e_iv C M d6_findShip_32 (Nat.le_of_ble_eq_true rfl) (Nat.le_of_ble_eq_true rfl) h
  · replace h := ite_m c10 h
    refine r_iconst C d6_findShip_29 ?_
    exact e_iv C M d6_findShip_30 (Nat.le_of_ble_eq_true rfl) (Nat.le_of_ble_eq_true rfl) h
def f6_bookingCount (V : VV) : Option (Int × VV) := bd2 (f6_plain V (V 149 5)) (fun r2 W3 => some (r2, W3))
theorem ev6_bookingCount {G : GT} {l : Launch} {V : VV} {r : Int} {V1 : VV} (hlt : l.stackTraces = false) (hN : 154 ≤ gN G) (h : f6_bookingCount V = some (r, V1)) : EvX G l y6_bookingCount b6_bookingCount 1 (some .int) 1 0 0 [.ref (gB G + 148)] V (.ok (some (vI r))) V1 := by
  refine ev_w hlt (by decide +kernel) rfl rfl (fun X hl hx C M => ?_)
  subst hl
  replace C : Cx G X "ChannelScheduleModel" b6_bookingCount := C
  unfold f6_bookingCount at h
  show At G X 0 0 0 [(0, .ref (gB G + 148))] [] V
  refine r_aload_n C d6_bookingCount_0 rfl ?_
  refine r_aload_n C d6_bookingCount_1 rfl ?_
  refine g_model_0 C d6_bookingCount_2 f6_13 hN ?_
  refine r_iconst C d6_bookingCount_5 ?_
  refine x_iald C d6_bookingCount_6 (ra_m hN) (by omega) ?_
  obtain ⟨r2, W3, h1, h⟩ := bd2_of h
  refine cV1_i C M d6_bookingCount_7 l6_265 w6_plain (rc_model hN) (ev6_plain C.lt hN h1) rfl (Nat.le_of_ble_eq_true rfl) (Nat.le_of_ble_eq_true rfl) ?_
  exact e_iv C M d6_bookingCount_10 (Nat.le_of_ble_eq_true rfl) (Nat.le_of_ble_eq_true rfl) h
def f6_bookingField (V : VV) (x1 : Int) (x2 : Int) : Option (Int × VV) := bd (f6_isBooking V x1) (fun r2 => bd ((if nrm r2 = 0 then some (1) else some (0))) (fun y4 => bd2 (f6_fails V y4 0 0) (fun r8 W9 => (if nrm r8 = 0 then bd (f6_ofBooking W9 x1 x2) (fun r12 => some (r12, W9)) else some (0, W9)))))
theorem ev6_bookingField {G : GT} {l : Launch} {V : VV} {x1 : Int} {x2 : Int} {r : Int} {V1 : VV} (hlt : l.stackTraces = false) (hN : 154 ≤ gN G) (h : f6_bookingField V x1 x2 = some (r, V1)) : EvX G l y6_bookingField b6_bookingField 3 (some .int) 2 0 0 [.ref (gB G + 148), vI x1, vI x2] V (.ok (some (vI r))) V1 := by
  refine ev_w hlt (by decide +kernel) rfl rfl (fun X hl hx C M => ?_)
  subst hl
  replace C : Cx G X "ChannelScheduleModel" b6_bookingField := C
  unfold f6_bookingField at h
  show At G X 0 0 0 [(0, .ref (gB G + 148)), (1, vI x1), (2, vI x2)] [] V
  refine r_aload_n C d6_bookingField_0 rfl ?_
  refine r_aload_n C d6_bookingField_1 rfl ?_
  refine r_iload_n C d6_bookingField_2 rfl ?_
  obtain ⟨r2, h1, h⟩ := bd_of h
  refine cV1_i C M d6_bookingField_3 l6_235 w6_isBooking (rc_model hN) (ev6_isBooking C.lt hN h1) rfl (Nat.le_of_ble_eq_true rfl) (Nat.le_of_ble_eq_true rfl) ?_
  obtain ⟨y4, h5, h⟩ := bd_of h
  suffices J6 : At G X 0 0 14 [(0, .ref (gB G + 148)), (1, vI x1), (2, vI x2)] [vI y4, .ref (gB G + 148)] V by
    replace h := h5
    refine x_ifne (tgt := 13) C d6_bookingField_6 rfl (fun c3 => ?_) (fun c3 => ?_)
    · replace h := ite_p c3 h
      refine r_iconst C d6_bookingField_9 ?_
      refine r_goto (tgt := 14) C d6_bookingField_10 rfl ?_
      cases h
      exact AtH.sw J6 ⟨rfl, rfl, rfl, trivial⟩
    · replace h := ite_m c3 h
      refine r_iconst C d6_bookingField_13 ?_
      cases h
      exact AtH.sw J6 ⟨rfl, rfl, rfl, trivial⟩
  refine r_iconst C d6_bookingField_14 ?_
  refine r_iconst C d6_bookingField_15 ?_
  obtain ⟨r8, W9, h7, h⟩ := bd2_of h
  refine cV3_i C M d6_bookingField_16 l6_148 w6_fails (rc_model hN) (ev6_fails C.lt hN h7) rfl (Nat.le_of_ble_eq_true rfl) (Nat.le_of_ble_eq_true rfl) ?_
  refine x_ifeq (tgt := 24) C d6_bookingField_19 rfl (fun c10 => ?_) (fun c10 => ?_)
  · replace h := ite_p c10 h
    refine r_aload_n C d6_bookingField_24 rfl ?_
    refine r_iload_n C d6_bookingField_25 rfl ?_
    refine r_iload_n C d6_bookingField_26 rfl ?_
    obtain ⟨r12, h11, h⟩ := bd_of h
    refine cV2_i C M d6_bookingField_27 l6_91 w6_ofBooking (rc_model hN) (ev6_ofBooking C.lt hN h11) rfl (Nat.le_of_ble_eq_true rfl) (Nat.le_of_ble_eq_true rfl) ?_
    exact e_iv C M d6_bookingField_30 (Nat.le_of_ble_eq_true rfl) (Nat.le_of_ble_eq_true rfl) h
  · replace h := ite_m c10 h
    refine r_iconst C d6_bookingField_22 ?_
    exact e_iv C M d6_bookingField_23 (Nat.le_of_ble_eq_true rfl) (Nat.le_of_ble_eq_true rfl) h
def f6_bookedShip (V : VV) (x1 : Int) : Option (Int × VV) := bd2 (f6_bookingField V x1 0) (fun r2 W3 => some (r2, W3))
theorem ev6_bookedShip {G : GT} {l : Launch} {V : VV} {x1 : Int} {r : Int} {V1 : VV} (hlt : l.stackTraces = false) (hN : 154 ≤ gN G) (h : f6_bookedShip V x1 = some (r, V1)) : EvX G l y6_bookedShip b6_bookedShip 2 (some .int) 3 0 0 [.ref (gB G + 148), vI x1] V (.ok (some (vI r))) V1 := by
  refine ev_w hlt (by decide +kernel) rfl rfl (fun X hl hx C M => ?_)
  subst hl
  replace C : Cx G X "ChannelScheduleModel" b6_bookedShip := C
  unfold f6_bookedShip at h
  show At G X 0 0 0 [(0, .ref (gB G + 148)), (1, vI x1)] [] V
  refine r_aload_n C d6_bookedShip_0 rfl ?_
  refine r_iload_n C d6_bookedShip_1 rfl ?_
  refine r_iconst C d6_bookedShip_2 ?_
  obtain ⟨r2, W3, h1, h⟩ := bd2_of h
  refine cV2_i C M d6_bookedShip_3 l6_271 w6_bookingField (rc_model hN) (ev6_bookingField C.lt hN h1) rfl (Nat.le_of_ble_eq_true rfl) (Nat.le_of_ble_eq_true rfl) ?_
  exact e_iv C M d6_bookedShip_6 (Nat.le_of_ble_eq_true rfl) (Nat.le_of_ble_eq_true rfl) h
def f6_startMinute (V : VV) (x1 : Int) : Option (Int × VV) := bd2 (f6_bookingField V x1 2) (fun r2 W3 => some (r2, W3))
theorem ev6_startMinute {G : GT} {l : Launch} {V : VV} {x1 : Int} {r : Int} {V1 : VV} (hlt : l.stackTraces = false) (hN : 154 ≤ gN G) (h : f6_startMinute V x1 = some (r, V1)) : EvX G l y6_startMinute b6_startMinute 2 (some .int) 3 0 0 [.ref (gB G + 148), vI x1] V (.ok (some (vI r))) V1 := by
  refine ev_w hlt (by decide +kernel) rfl rfl (fun X hl hx C M => ?_)
  subst hl
  replace C : Cx G X "ChannelScheduleModel" b6_startMinute := C
  unfold f6_startMinute at h
  show At G X 0 0 0 [(0, .ref (gB G + 148)), (1, vI x1)] [] V
  refine r_aload_n C d6_startMinute_0 rfl ?_
  refine r_iload_n C d6_startMinute_1 rfl ?_
  refine r_iconst C d6_startMinute_2 ?_
  obtain ⟨r2, W3, h1, h⟩ := bd2_of h
  refine cV2_i C M d6_startMinute_3 l6_271 w6_bookingField (rc_model hN) (ev6_bookingField C.lt hN h1) rfl (Nat.le_of_ble_eq_true rfl) (Nat.le_of_ble_eq_true rfl) ?_
  exact e_iv C M d6_startMinute_6 (Nat.le_of_ble_eq_true rfl) (Nat.le_of_ble_eq_true rfl) h
def f6_endMinute (V : VV) (x1 : Int) : Option (Int × VV) := bd2 (f6_bookingField V x1 3) (fun r2 W3 => some (r2, W3))
theorem ev6_endMinute {G : GT} {l : Launch} {V : VV} {x1 : Int} {r : Int} {V1 : VV} (hlt : l.stackTraces = false) (hN : 154 ≤ gN G) (h : f6_endMinute V x1 = some (r, V1)) : EvX G l y6_endMinute b6_endMinute 2 (some .int) 3 0 0 [.ref (gB G + 148), vI x1] V (.ok (some (vI r))) V1 := by
  refine ev_w hlt (by decide +kernel) rfl rfl (fun X hl hx C M => ?_)
  subst hl
  replace C : Cx G X "ChannelScheduleModel" b6_endMinute := C
  unfold f6_endMinute at h
  show At G X 0 0 0 [(0, .ref (gB G + 148)), (1, vI x1)] [] V
  refine r_aload_n C d6_endMinute_0 rfl ?_
  refine r_iload_n C d6_endMinute_1 rfl ?_
  refine r_iconst C d6_endMinute_2 ?_
  obtain ⟨r2, W3, h1, h⟩ := bd2_of h
  refine cV2_i C M d6_endMinute_3 l6_271 w6_bookingField (rc_model hN) (ev6_bookingField C.lt hN h1) rfl (Nat.le_of_ble_eq_true rfl) (Nat.le_of_ble_eq_true rfl) ?_
  exact e_iv C M d6_endMinute_6 (Nat.le_of_ble_eq_true rfl) (Nat.le_of_ble_eq_true rfl) h
def f6_isInbound (V : VV) (x1 : Int) : Option (Int × VV) := bd2 (f6_bookingField V x1 1) (fun r2 W3 => (if nrm r2 = nrm 1 then some (1, W3) else some (0, W3)))
theorem ev6_isInbound {G : GT} {l : Launch} {V : VV} {x1 : Int} {r : Int} {V1 : VV} (hlt : l.stackTraces = false) (hN : 154 ≤ gN G) (h : f6_isInbound V x1 = some (r, V1)) : EvX G l y6_isInbound b6_isInbound 2 (some .boolean) 3 0 0 [.ref (gB G + 148), vI x1] V (.ok (some (vI r))) V1 := by
  refine ev_w hlt (by decide +kernel) rfl rfl (fun X hl hx C M => ?_)
  subst hl
  replace C : Cx G X "ChannelScheduleModel" b6_isInbound := C
  unfold f6_isInbound at h
  show At G X 0 0 0 [(0, .ref (gB G + 148)), (1, vI x1)] [] V
  refine r_aload_n C d6_isInbound_0 rfl ?_
  refine r_iload_n C d6_isInbound_1 rfl ?_
  refine r_iconst C d6_isInbound_2 ?_
  obtain ⟨r2, W3, h1, h⟩ := bd2_of h
  refine cV2_i C M d6_isInbound_3 l6_271 w6_bookingField (rc_model hN) (ev6_bookingField C.lt hN h1) rfl (Nat.le_of_ble_eq_true rfl) (Nat.le_of_ble_eq_true rfl) ?_
  refine r_iconst C d6_isInbound_6 ?_
  refine x_icmpne (tgt := 14) C d6_isInbound_7 rfl (fun c4 => ?_) (fun c4 => ?_)
  · replace h := ite_p c4 h
    refine r_iconst C d6_isInbound_10 ?_
    refine r_goto (tgt := 15) C d6_isInbound_11 rfl ?_
    exact e_zv C M d6_isInbound_15 (Nat.le_of_ble_eq_true rfl) (Nat.le_of_ble_eq_true rfl) (Or.inr rfl) h
  · replace h := ite_m c4 h
    refine r_iconst C d6_isInbound_14 ?_
    exact e_zv C M d6_isInbound_15 (Nat.le_of_ble_eq_true rfl) (Nat.le_of_ble_eq_true rfl) (Or.inl rfl) h
def f6_isFinished (V : VV) (x1 : Int) : Option (Int × VV) := bd (f6_isBooking V x1) (fun r2 => bd ((if nrm r2 = 0 then some (1) else some (0))) (fun y4 => bd2 (f6_fails V y4 0 0) (fun r8 W9 => (if nrm r8 = 0 then bd (f6_ofBooking W9 x1 3) (fun r12 => (if nrm (W9 149 3) < nrm r12 then some (0, W9) else some (1, W9))) else some (0, W9)))))
theorem ev6_isFinished {G : GT} {l : Launch} {V : VV} {x1 : Int} {r : Int} {V1 : VV} (hlt : l.stackTraces = false) (hN : 154 ≤ gN G) (h : f6_isFinished V x1 = some (r, V1)) : EvX G l y6_isFinished b6_isFinished 2 (some .boolean) 2 0 0 [.ref (gB G + 148), vI x1] V (.ok (some (vI r))) V1 := by
  refine ev_w hlt (by decide +kernel) rfl rfl (fun X hl hx C M => ?_)
  subst hl
  replace C : Cx G X "ChannelScheduleModel" b6_isFinished := C
  unfold f6_isFinished at h
  show At G X 0 0 0 [(0, .ref (gB G + 148)), (1, vI x1)] [] V
  refine r_aload_n C d6_isFinished_0 rfl ?_
  refine r_aload_n C d6_isFinished_1 rfl ?_
  refine r_iload_n C d6_isFinished_2 rfl ?_
  obtain ⟨r2, h1, h⟩ := bd_of h
  refine cV1_i C M d6_isFinished_3 l6_235 w6_isBooking (rc_model hN) (ev6_isBooking C.lt hN h1) rfl (Nat.le_of_ble_eq_true rfl) (Nat.le_of_ble_eq_true rfl) ?_
  obtain ⟨y4, h5, h⟩ := bd_of h
  suffices J6 : At G X 0 0 14 [(0, .ref (gB G + 148)), (1, vI x1)] [vI y4, .ref (gB G + 148)] V by
    replace h := h5
    refine x_ifne (tgt := 13) C d6_isFinished_6 rfl (fun c3 => ?_) (fun c3 => ?_)
    · replace h := ite_p c3 h
      refine r_iconst C d6_isFinished_9 ?_
      refine r_goto (tgt := 14) C d6_isFinished_10 rfl ?_
      cases h
      exact AtH.sw J6 ⟨rfl, rfl, trivial⟩
    · replace h := ite_m c3 h
      refine r_iconst C d6_isFinished_13 ?_
      cases h
      exact AtH.sw J6 ⟨rfl, rfl, trivial⟩
  refine r_iconst C d6_isFinished_14 ?_
  refine r_iconst C d6_isFinished_15 ?_
  obtain ⟨r8, W9, h7, h⟩ := bd2_of h
  refine cV3_i C M d6_isFinished_16 l6_148 w6_fails (rc_model hN) (ev6_fails C.lt hN h7) rfl (Nat.le_of_ble_eq_true rfl) (Nat.le_of_ble_eq_true rfl) ?_
  refine x_ifeq (tgt := 24) C d6_isFinished_19 rfl (fun c10 => ?_) (fun c10 => ?_)
  · replace h := ite_p c10 h
    refine r_aload_n C d6_isFinished_24 rfl ?_
    refine r_iload_n C d6_isFinished_25 rfl ?_
    refine r_iconst C d6_isFinished_26 ?_
    obtain ⟨r12, h11, h⟩ := bd_of h
    refine cV2_i C M d6_isFinished_27 l6_91 w6_ofBooking (rc_model hN) (ev6_ofBooking C.lt hN h11) rfl (Nat.le_of_ble_eq_true rfl) (Nat.le_of_ble_eq_true rfl) ?_
    refine r_aload_n C d6_isFinished_30 rfl ?_
    refine g_model_0 C d6_isFinished_31 f6_13 hN ?_
    refine r_iconst C d6_isFinished_34 ?_
    refine x_iald C d6_isFinished_35 (ra_m hN) (by omega) ?_
    refine x_icmpgt (tgt := 43) C d6_isFinished_36 rfl (fun c13 => ?_) (fun c13 => ?_)
    · replace h := ite_p c13 h
      refine r_iconst C d6_isFinished_43 ?_
      exact e_zv C M d6_isFinished_44 (Nat.le_of_ble_eq_true rfl) (Nat.le_of_ble_eq_true rfl) (Or.inl rfl) h
    · replace h := ite_m c13 h
      refine r_iconst C d6_isFinished_39 ?_
      refine r_goto (tgt := 44) C d6_isFinished_40 rfl ?_
      exact e_zv C M d6_isFinished_44 (Nat.le_of_ble_eq_true rfl) (Nat.le_of_ble_eq_true rfl) (Or.inr rfl) h
  · replace h := ite_m c10 h
    refine r_iconst C d6_isFinished_22 ?_
    exact e_zv C M d6_isFinished_23 (Nat.le_of_ble_eq_true rfl) (Nat.le_of_ble_eq_true rfl) (Or.inl rfl) h
def f6_isUnderWay (V : VV) (x1 : Int) : Option (Int × VV) := bd (f6_isBooking V x1) (fun r2 => bd ((if nrm r2 = 0 then some (1) else some (0))) (fun y4 => bd2 (f6_fails V y4 0 0) (fun r8 W9 => (if nrm r8 = 0 then bd (f6_ofBooking W9 x1 3) (fun r12 => (if nrm r12 ≤ nrm (W9 149 3) then some (0, W9) else bd (f6_ofBooking W9 x1 2) (fun r15 => (if nrm (W9 149 3) < nrm r15 then some (0, W9) else some (1, W9))))) else some (0, W9)))))
theorem ev6_isUnderWay {G : GT} {l : Launch} {V : VV} {x1 : Int} {r : Int} {V1 : VV} (hlt : l.stackTraces = false) (hN : 154 ≤ gN G) (h : f6_isUnderWay V x1 = some (r, V1)) : EvX G l y6_isUnderWay b6_isUnderWay 2 (some .boolean) 2 0 0 [.ref (gB G + 148), vI x1] V (.ok (some (vI r))) V1 := by
  refine ev_w hlt (by decide +kernel) rfl rfl (fun X hl hx C M => ?_)
  subst hl
  replace C : Cx G X "ChannelScheduleModel" b6_isUnderWay := C
  unfold f6_isUnderWay at h
  show At G X 0 0 0 [(0, .ref (gB G + 148)), (1, vI x1)] [] V
  refine r_aload_n C d6_isUnderWay_0 rfl ?_
  refine r_aload_n C d6_isUnderWay_1 rfl ?_
  refine r_iload_n C d6_isUnderWay_2 rfl ?_
  obtain ⟨r2, h1, h⟩ := bd_of h
  refine cV1_i C M d6_isUnderWay_3 l6_235 w6_isBooking (rc_model hN) (ev6_isBooking C.lt hN h1) rfl (Nat.le_of_ble_eq_true rfl) (Nat.le_of_ble_eq_true rfl) ?_
  obtain ⟨y4, h5, h⟩ := bd_of h
  suffices J6 : At G X 0 0 14 [(0, .ref (gB G + 148)), (1, vI x1)] [vI y4, .ref (gB G + 148)] V by
    replace h := h5
    refine x_ifne (tgt := 13) C d6_isUnderWay_6 rfl (fun c3 => ?_) (fun c3 => ?_)
    · replace h := ite_p c3 h
      refine r_iconst C d6_isUnderWay_9 ?_
      refine r_goto (tgt := 14) C d6_isUnderWay_10 rfl ?_
      cases h
      exact AtH.sw J6 ⟨rfl, rfl, trivial⟩
    · replace h := ite_m c3 h
      refine r_iconst C d6_isUnderWay_13 ?_
      cases h
      exact AtH.sw J6 ⟨rfl, rfl, trivial⟩
  refine r_iconst C d6_isUnderWay_14 ?_
  refine r_iconst C d6_isUnderWay_15 ?_
  obtain ⟨r8, W9, h7, h⟩ := bd2_of h
  refine cV3_i C M d6_isUnderWay_16 l6_148 w6_fails (rc_model hN) (ev6_fails C.lt hN h7) rfl (Nat.le_of_ble_eq_true rfl) (Nat.le_of_ble_eq_true rfl) ?_
  refine x_ifeq (tgt := 24) C d6_isUnderWay_19 rfl (fun c10 => ?_) (fun c10 => ?_)
  · replace h := ite_p c10 h
    refine r_aload_n C d6_isUnderWay_24 rfl ?_
    refine r_iload_n C d6_isUnderWay_25 rfl ?_
    refine r_iconst C d6_isUnderWay_26 ?_
    obtain ⟨r12, h11, h⟩ := bd_of h
    refine cV2_i C M d6_isUnderWay_27 l6_91 w6_ofBooking (rc_model hN) (ev6_ofBooking C.lt hN h11) rfl (Nat.le_of_ble_eq_true rfl) (Nat.le_of_ble_eq_true rfl) ?_
    refine r_aload_n C d6_isUnderWay_30 rfl ?_
    refine g_model_0 C d6_isUnderWay_31 f6_13 hN ?_
    refine r_iconst C d6_isUnderWay_34 ?_
    refine x_iald C d6_isUnderWay_35 (ra_m hN) (by omega) ?_
    refine x_icmple (tgt := 58) C d6_isUnderWay_36 rfl (fun c13 => ?_) (fun c13 => ?_)
    · replace h := ite_p c13 h
      refine r_iconst C d6_isUnderWay_58 ?_
      exact e_zv C M d6_isUnderWay_59 (Nat.le_of_ble_eq_true rfl) (Nat.le_of_ble_eq_true rfl) (Or.inl rfl) h
    · replace h := ite_m c13 h
      refine r_aload_n C d6_isUnderWay_39 rfl ?_
      refine r_iload_n C d6_isUnderWay_40 rfl ?_
      refine r_iconst C d6_isUnderWay_41 ?_
      obtain ⟨r15, h14, h⟩ := bd_of h
      refine cV2_i C M d6_isUnderWay_42 l6_91 w6_ofBooking (rc_model hN) (ev6_ofBooking C.lt hN h14) rfl (Nat.le_of_ble_eq_true rfl) (Nat.le_of_ble_eq_true rfl) ?_
      refine r_aload_n C d6_isUnderWay_45 rfl ?_
      refine g_model_0 C d6_isUnderWay_46 f6_13 hN ?_
      refine r_iconst C d6_isUnderWay_49 ?_
      refine x_iald C d6_isUnderWay_50 (ra_m hN) (by omega) ?_
      refine x_icmpgt (tgt := 58) C d6_isUnderWay_51 rfl (fun c16 => ?_) (fun c16 => ?_)
      · replace h := ite_p c16 h
        refine r_iconst C d6_isUnderWay_58 ?_
        exact e_zv C M d6_isUnderWay_59 (Nat.le_of_ble_eq_true rfl) (Nat.le_of_ble_eq_true rfl) (Or.inl rfl) h
      · replace h := ite_m c16 h
        refine r_iconst C d6_isUnderWay_54 ?_
        refine r_goto (tgt := 59) C d6_isUnderWay_55 rfl ?_
        exact e_zv C M d6_isUnderWay_59 (Nat.le_of_ble_eq_true rfl) (Nat.le_of_ble_eq_true rfl) (Or.inr rfl) h
  · replace h := ite_m c10 h
    refine r_iconst C d6_isUnderWay_22 ?_
    exact e_zv C M d6_isUnderWay_23 (Nat.le_of_ble_eq_true rfl) (Nat.le_of_ble_eq_true rfl) (Or.inl rfl) h
def f6_shipsIn_L4 (V : VV) (x1 : Int) : Nat → Int → Int → Option (Int)
  | 0, _, _ => none
  | n + 1, x2, x3 => (if nrm (V 149 5) ≤ nrm x3 then some x2 else bd (f6_ofBooking V x3 2) (fun r3 => (if nrm x1 < nrm r3 then f6_shipsIn_L4 V x1 n (x2 + 0) (x3 + 1) else bd (f6_ofBooking V x3 3) (fun r6 => (if nrm r6 ≤ nrm x1 then f6_shipsIn_L4 V x1 n (x2 + 0) (x3 + 1) else f6_shipsIn_L4 V x1 n (x2 + 1) (x3 + 1))))))
theorem lp6_shipsIn_4 {G : GT} {X : CT} {cells slots : Nat} {V : VV} (hN : 154 ≤ gN G) (hx : xN X = 4) (C : Cx G X "ChannelScheduleModel" b6_shipsIn) {x1 : Int} {o0 : Except String (Option Value)} {V9 : VV} (M : MX G X 1 0 0 (some .int) o0 V9) (hc : cells ≤ 0) (hs : slots ≤ 0) : ∀ (n : Nat) {x2 : Int} {x3 : Int} {e2 : Int}, f6_shipsIn_L4 V x1 n x2 x3 = some (e2) → At G X cells slots 48 [(2, vI e2)] [] V → At G X cells slots 4 [(0, .ref (gB G + 148)), (1, vI x1), (2, vI x2), (3, vI x3)] [] V := by
  intro n
  induction n with
  | zero => intro x2 x3 e2 h _; exact nomatch h
  | succ n ih =>
    intro x2 x3 e2 h K
    rw [f6_shipsIn_L4] at h
    refine r_iload_n C d6_shipsIn_4 rfl ?_
    refine r_aload_n C d6_shipsIn_5 rfl ?_
    refine g_model_0 C d6_shipsIn_6 f6_13 hN ?_
    refine r_iconst C d6_shipsIn_9 ?_
    refine x_iald C d6_shipsIn_10 (ra_m hN) (by omega) ?_
    refine x_icmpge (tgt := 48) C d6_shipsIn_11 rfl (fun c1 => ?_) (fun c1 => ?_)
    · replace h := ite_p c1 h
      cases h
      exact AtH.sw K ⟨rfl, trivial⟩
    · replace h := ite_m c1 h
      refine r_iload_n C d6_shipsIn_14 rfl ?_
      refine r_aload_n C d6_shipsIn_15 rfl ?_
      refine r_iload_n C d6_shipsIn_16 rfl ?_
      refine r_iconst C d6_shipsIn_17 ?_
      obtain ⟨r3, h2, h⟩ := bd_of h
      refine cV2_i C M d6_shipsIn_18 l6_91 w6_ofBooking (rc_model hN) (ev6_ofBooking C.lt hN h2) rfl hc hs ?_
      refine r_iload_n C d6_shipsIn_21 rfl ?_
      refine x_icmpgt (tgt := 39) C d6_shipsIn_22 rfl (fun c4 => ?_) (fun c4 => ?_)
      · replace h := ite_p c4 h
        refine r_iconst C d6_shipsIn_39 ?_
        refine r_iadd C d6_shipsIn_40 ?_
        refine x_istore_n hx C d6_shipsIn_41 rfl ?_
        refine x_iinc hx C d6_shipsIn_42 rfl rfl ?_
        refine r_goto (tgt := 4) C d6_shipsIn_45 rfl ?_
        exact AtH.sw (ih h K) ⟨rfl, rfl, rfl, rfl, trivial⟩
      · replace h := ite_m c4 h
        refine r_aload_n C d6_shipsIn_25 rfl ?_
        refine r_iload_n C d6_shipsIn_26 rfl ?_
        refine r_iconst C d6_shipsIn_27 ?_
        obtain ⟨r6, h5, h⟩ := bd_of h
        refine cV2_i C M d6_shipsIn_28 l6_91 w6_ofBooking (rc_model hN) (ev6_ofBooking C.lt hN h5) rfl hc hs ?_
        refine r_iload_n C d6_shipsIn_31 rfl ?_
        refine x_icmple (tgt := 39) C d6_shipsIn_32 rfl (fun c7 => ?_) (fun c7 => ?_)
        · replace h := ite_p c7 h
          refine r_iconst C d6_shipsIn_39 ?_
          refine r_iadd C d6_shipsIn_40 ?_
          refine x_istore_n hx C d6_shipsIn_41 rfl ?_
          refine x_iinc hx C d6_shipsIn_42 rfl rfl ?_
          refine r_goto (tgt := 4) C d6_shipsIn_45 rfl ?_
          exact AtH.sw (ih h K) ⟨rfl, rfl, rfl, rfl, trivial⟩
        · replace h := ite_m c7 h
          refine r_iconst C d6_shipsIn_35 ?_
          refine r_goto (tgt := 40) C d6_shipsIn_36 rfl ?_
          refine r_iadd C d6_shipsIn_40 ?_
          refine x_istore_n hx C d6_shipsIn_41 rfl ?_
          refine x_iinc hx C d6_shipsIn_42 rfl rfl ?_
          refine r_goto (tgt := 4) C d6_shipsIn_45 rfl ?_
          exact AtH.sw (ih h K) ⟨rfl, rfl, rfl, rfl, trivial⟩
def f6_shipsIn (V : VV) (x1 : Int) : Option Int := bd (f6_shipsIn_L4 V x1 FU 0 0) (fun y8 => some y8)
theorem ev6_shipsIn {G : GT} {l : Launch} {V : VV} {x1 : Int} {r : Int} (hlt : l.stackTraces = false) (hN : 154 ≤ gN G) (h : f6_shipsIn V x1 = some r) : EvX G l y6_shipsIn b6_shipsIn 4 (some .int) 1 0 0 [.ref (gB G + 148), vI x1] V (.ok (some (vI r))) V := by
  refine ev_w hlt (by decide +kernel) rfl rfl (fun X hl hx C M => ?_)
  subst hl
  replace C : Cx G X "ChannelScheduleModel" b6_shipsIn := C
  unfold f6_shipsIn at h
  show At G X 0 0 0 [(0, .ref (gB G + 148)), (1, vI x1)] [] V
  refine r_iconst C d6_shipsIn_0 ?_
  refine x_istore_n hx C d6_shipsIn_1 rfl ?_
  refine r_iconst C d6_shipsIn_2 ?_
  refine x_istore_n hx C d6_shipsIn_3 rfl ?_
  obtain ⟨y8, h9, h⟩ := bd_of h
  refine AtH.sw (lp6_shipsIn_4 hN hx C M (Nat.le_of_ble_eq_true rfl) (Nat.le_of_ble_eq_true rfl) FU h9 ?_) ⟨rfl, rfl, rfl, rfl, trivial⟩
  refine r_iload_n C d6_shipsIn_48 rfl ?_
  exact e_i C M d6_shipsIn_49 (Nat.le_of_ble_eq_true rfl) (Nat.le_of_ble_eq_true rfl) h
def f6_occupancy (V : VV) (x1 : Int) : Option (Int × VV) := bd (f6_in V x1 0 1200) (fun r2 => bd ((if nrm r2 = 0 then some (1) else some (0))) (fun y4 => bd2 (f6_fails V y4 0 0) (fun r8 W9 => (if nrm r8 = 0 then bd (f6_shipsIn W9 x1) (fun r12 => some (r12, W9)) else some (0, W9)))))
theorem ev6_occupancy {G : GT} {l : Launch} {V : VV} {x1 : Int} {r : Int} {V1 : VV} (hlt : l.stackTraces = false) (hN : 154 ≤ gN G) (h : f6_occupancy V x1 = some (r, V1)) : EvX G l y6_occupancy b6_occupancy 2 (some .int) 2 0 0 [.ref (gB G + 148), vI x1] V (.ok (some (vI r))) V1 := by
  refine ev_w hlt (by decide +kernel) rfl rfl (fun X hl hx C M => ?_)
  subst hl
  replace C : Cx G X "ChannelScheduleModel" b6_occupancy := C
  unfold f6_occupancy at h
  show At G X 0 0 0 [(0, .ref (gB G + 148)), (1, vI x1)] [] V
  refine r_aload_n C d6_occupancy_0 rfl ?_
  refine r_iload_n C d6_occupancy_1 rfl ?_
  refine r_iconst C d6_occupancy_2 ?_
  refine r_sipush C d6_occupancy_3 (by decide +kernel) ?_
  obtain ⟨r2, h1, h⟩ := bd_of h
  refine cS3_i C M d6_occupancy_6 l6_75 w6_in (ev6_in C.lt hN h1) rfl (Nat.le_of_ble_eq_true rfl) (Nat.le_of_ble_eq_true rfl) ?_
  obtain ⟨y4, h5, h⟩ := bd_of h
  suffices J6 : At G X 0 0 17 [(0, .ref (gB G + 148)), (1, vI x1)] [vI y4, .ref (gB G + 148)] V by
    replace h := h5
    refine x_ifne (tgt := 16) C d6_occupancy_9 rfl (fun c3 => ?_) (fun c3 => ?_)
    · replace h := ite_p c3 h
      refine r_iconst C d6_occupancy_12 ?_
      refine r_goto (tgt := 17) C d6_occupancy_13 rfl ?_
      cases h
      exact AtH.sw J6 ⟨rfl, rfl, trivial⟩
    · replace h := ite_m c3 h
      refine r_iconst C d6_occupancy_16 ?_
      cases h
      exact AtH.sw J6 ⟨rfl, rfl, trivial⟩
  refine r_iconst C d6_occupancy_17 ?_
  refine r_iconst C d6_occupancy_18 ?_
  obtain ⟨r8, W9, h7, h⟩ := bd2_of h
  refine cV3_i C M d6_occupancy_19 l6_148 w6_fails (rc_model hN) (ev6_fails C.lt hN h7) rfl (Nat.le_of_ble_eq_true rfl) (Nat.le_of_ble_eq_true rfl) ?_
  refine x_ifeq (tgt := 27) C d6_occupancy_22 rfl (fun c10 => ?_) (fun c10 => ?_)
  · replace h := ite_p c10 h
    refine r_aload_n C d6_occupancy_27 rfl ?_
    refine r_iload_n C d6_occupancy_28 rfl ?_
    obtain ⟨r12, h11, h⟩ := bd_of h
    refine cV1_i C M d6_occupancy_29 l6_274 w6_shipsIn (rc_model hN) (ev6_shipsIn C.lt hN h11) rfl (Nat.le_of_ble_eq_true rfl) (Nat.le_of_ble_eq_true rfl) ?_
    exact e_iv C M d6_occupancy_32 (Nat.le_of_ble_eq_true rfl) (Nat.le_of_ble_eq_true rfl) h
  · replace h := ite_m c10 h
    refine r_iconst C d6_occupancy_25 ?_
    exact e_iv C M d6_occupancy_26 (Nat.le_of_ble_eq_true rfl) (Nat.le_of_ble_eq_true rfl) h
def f6_areMinutes (V : VV) (x0 : Int) (x1 : Int) : Option Int := bd (f6_in V x0 0 1200) (fun r2 => (if nrm r2 = 0 then some 0 else bd (f6_in V x1 x0 1200) (fun r5 => (if nrm r5 = 0 then some 0 else some 1))))
theorem ev6_areMinutes {G : GT} {l : Launch} {V : VV} {x0 : Int} {x1 : Int} {r : Int} (hlt : l.stackTraces = false) (hN : 154 ≤ gN G) (h : f6_areMinutes V x0 x1 = some r) : EvX G l y6_areMinutes b6_areMinutes 2 (some .boolean) 1 0 0 [vI x0, vI x1] V (.ok (some (vI r))) V := by
  refine ev_w hlt (by decide +kernel) rfl rfl (fun X hl hx C M => ?_)
  subst hl
  replace C : Cx G X "ChannelScheduleModel" b6_areMinutes := C
  unfold f6_areMinutes at h
  show At G X 0 0 0 [(0, vI x0), (1, vI x1)] [] V
  refine r_iload_n C d6_areMinutes_0 rfl ?_
  refine r_iconst C d6_areMinutes_1 ?_
  refine r_sipush C d6_areMinutes_2 (by decide +kernel) ?_
  obtain ⟨r2, h1, h⟩ := bd_of h
  refine cS3_i C M d6_areMinutes_5 l6_75 w6_in (ev6_in C.lt hN h1) rfl (Nat.le_of_ble_eq_true rfl) (Nat.le_of_ble_eq_true rfl) ?_
  refine x_ifeq (tgt := 26) C d6_areMinutes_8 rfl (fun c3 => ?_) (fun c3 => ?_)
  · replace h := ite_p c3 h
    refine r_iconst C d6_areMinutes_26 ?_
    exact e_z C M d6_areMinutes_27 (Nat.le_of_ble_eq_true rfl) (Nat.le_of_ble_eq_true rfl) (Or.inl rfl) h
  · replace h := ite_m c3 h
    refine r_iload_n C d6_areMinutes_11 rfl ?_
    refine r_iload_n C d6_areMinutes_12 rfl ?_
    refine r_sipush C d6_areMinutes_13 (by decide +kernel) ?_
    obtain ⟨r5, h4, h⟩ := bd_of h
    refine cS3_i C M d6_areMinutes_16 l6_75 w6_in (ev6_in C.lt hN h4) rfl (Nat.le_of_ble_eq_true rfl) (Nat.le_of_ble_eq_true rfl) ?_
    refine x_ifeq (tgt := 26) C d6_areMinutes_19 rfl (fun c6 => ?_) (fun c6 => ?_)
    · replace h := ite_p c6 h
      refine r_iconst C d6_areMinutes_26 ?_
      exact e_z C M d6_areMinutes_27 (Nat.le_of_ble_eq_true rfl) (Nat.le_of_ble_eq_true rfl) (Or.inl rfl) h
    · replace h := ite_m c6 h
      refine r_iconst C d6_areMinutes_22 ?_
      refine r_goto (tgt := 27) C d6_areMinutes_23 rfl ?_
      exact e_z C M d6_areMinutes_27 (Nat.le_of_ble_eq_true rfl) (Nat.le_of_ble_eq_true rfl) (Or.inr rfl) h
def f6_emptyMinutes_L29 (V : VV) (x2 : Int) : Nat → Int → Int → Option (Int)
  | 0, _, _ => none
  | n + 1, x3, x4 => (if nrm x2 < nrm x4 then some x3 else bd (f6_shipsIn V x4) (fun r13 => (if nrm r13 = 0 then f6_emptyMinutes_L29 V x2 n (x3 + 1) (x4 + 1) else f6_emptyMinutes_L29 V x2 n (x3 + 0) (x4 + 1))))
theorem lp6_emptyMinutes_29 {G : GT} {X : CT} {cells slots : Nat} {V : VV} (hN : 154 ≤ gN G) (hx : xN X = 5) (C : Cx G X "ChannelScheduleModel" b6_emptyMinutes) {x2 : Int} {o0 : Except String (Option Value)} {V9 : VV} (M : MX G X 2 0 0 (some .int) o0 V9) (hc : cells ≤ 0) (hs : slots ≤ 0) : ∀ (n : Nat) {x3 : Int} {x4 : Int} {e3 : Int}, f6_emptyMinutes_L29 V x2 n x3 x4 = some (e3) → At G X cells slots 58 [(3, vI e3)] [] V → At G X cells slots 29 [(0, .ref (gB G + 148)), (2, vI x2), (3, vI x3), (4, vI x4)] [] V := by
  intro n
  induction n with
  | zero => intro x3 x4 e3 h _; exact nomatch h
  | succ n ih =>
    intro x3 x4 e3 h K
    rw [f6_emptyMinutes_L29] at h
    refine r_iload C d6_emptyMinutes_29 rfl ?_
    refine r_iload_n C d6_emptyMinutes_31 rfl ?_
    refine x_icmpgt (tgt := 58) C d6_emptyMinutes_32 rfl (fun c11 => ?_) (fun c11 => ?_)
    · replace h := ite_p c11 h
      cases h
      exact AtH.sw K ⟨rfl, trivial⟩
    · replace h := ite_m c11 h
      refine r_iload_n C d6_emptyMinutes_35 rfl ?_
      refine r_aload_n C d6_emptyMinutes_36 rfl ?_
      refine r_iload C d6_emptyMinutes_37 rfl ?_
      obtain ⟨r13, h12, h⟩ := bd_of h
      refine cV1_i C M d6_emptyMinutes_39 l6_274 w6_shipsIn (rc_model hN) (ev6_shipsIn C.lt hN h12) rfl hc hs ?_
      refine x_ifne (tgt := 49) C d6_emptyMinutes_42 rfl (fun c14 => ?_) (fun c14 => ?_)
      · replace h := ite_p c14 h
        refine r_iconst C d6_emptyMinutes_45 ?_
        refine r_goto (tgt := 50) C d6_emptyMinutes_46 rfl ?_
        refine r_iadd C d6_emptyMinutes_50 ?_
        refine x_istore_n hx C d6_emptyMinutes_51 rfl ?_
        refine x_iinc hx C d6_emptyMinutes_52 rfl rfl ?_
        refine r_goto (tgt := 29) C d6_emptyMinutes_55 rfl ?_
        exact AtH.sw (ih h K) ⟨rfl, rfl, rfl, rfl, trivial⟩
      · replace h := ite_m c14 h
        refine r_iconst C d6_emptyMinutes_49 ?_
        refine r_iadd C d6_emptyMinutes_50 ?_
        refine x_istore_n hx C d6_emptyMinutes_51 rfl ?_
        refine x_iinc hx C d6_emptyMinutes_52 rfl rfl ?_
        refine r_goto (tgt := 29) C d6_emptyMinutes_55 rfl ?_
        exact AtH.sw (ih h K) ⟨rfl, rfl, rfl, rfl, trivial⟩
def f6_emptyMinutes (V : VV) (x1 : Int) (x2 : Int) : Option (Int × VV) := bd (f6_areMinutes V x1 x2) (fun r2 => bd ((if nrm r2 = 0 then some (1) else some (0))) (fun y4 => bd2 (f6_fails V y4 0 0) (fun r8 W9 => (if nrm r8 = 0 then bd (f6_emptyMinutes_L29 W9 x2 FU 0 x1) (fun y15 => some (y15, W9)) else some (0, W9)))))
theorem ev6_emptyMinutes {G : GT} {l : Launch} {V : VV} {x1 : Int} {x2 : Int} {r : Int} {V1 : VV} (hlt : l.stackTraces = false) (hN : 154 ≤ gN G) (h : f6_emptyMinutes V x1 x2 = some (r, V1)) : EvX G l y6_emptyMinutes b6_emptyMinutes 5 (some .int) 2 0 0 [.ref (gB G + 148), vI x1, vI x2] V (.ok (some (vI r))) V1 := by
  refine ev_w hlt (by decide +kernel) rfl rfl (fun X hl hx C M => ?_)
  subst hl
  replace C : Cx G X "ChannelScheduleModel" b6_emptyMinutes := C
  unfold f6_emptyMinutes at h
  show At G X 0 0 0 [(0, .ref (gB G + 148)), (1, vI x1), (2, vI x2)] [] V
  refine r_aload_n C d6_emptyMinutes_0 rfl ?_
  refine r_iload_n C d6_emptyMinutes_1 rfl ?_
  refine r_iload_n C d6_emptyMinutes_2 rfl ?_
  obtain ⟨r2, h1, h⟩ := bd_of h
  refine cS2_i C M d6_emptyMinutes_3 l6_277 w6_areMinutes (ev6_areMinutes C.lt hN h1) rfl (Nat.le_of_ble_eq_true rfl) (Nat.le_of_ble_eq_true rfl) ?_
  obtain ⟨y4, h5, h⟩ := bd_of h
  suffices J6 : At G X 0 0 14 [(0, .ref (gB G + 148)), (1, vI x1), (2, vI x2)] [vI y4, .ref (gB G + 148)] V by
    replace h := h5
    refine x_ifne (tgt := 13) C d6_emptyMinutes_6 rfl (fun c3 => ?_) (fun c3 => ?_)
    · replace h := ite_p c3 h
      refine r_iconst C d6_emptyMinutes_9 ?_
      refine r_goto (tgt := 14) C d6_emptyMinutes_10 rfl ?_
      cases h
      exact AtH.sw J6 ⟨rfl, rfl, rfl, trivial⟩
    · replace h := ite_m c3 h
      refine r_iconst C d6_emptyMinutes_13 ?_
      cases h
      exact AtH.sw J6 ⟨rfl, rfl, rfl, trivial⟩
  refine r_iconst C d6_emptyMinutes_14 ?_
  refine r_iconst C d6_emptyMinutes_15 ?_
  obtain ⟨r8, W9, h7, h⟩ := bd2_of h
  refine cV3_i C M d6_emptyMinutes_16 l6_148 w6_fails (rc_model hN) (ev6_fails C.lt hN h7) rfl (Nat.le_of_ble_eq_true rfl) (Nat.le_of_ble_eq_true rfl) ?_
  refine x_ifeq (tgt := 24) C d6_emptyMinutes_19 rfl (fun c10 => ?_) (fun c10 => ?_)
  · replace h := ite_p c10 h
    refine r_iconst C d6_emptyMinutes_24 ?_
    refine x_istore_n hx C d6_emptyMinutes_25 rfl ?_
    refine r_iload_n C d6_emptyMinutes_26 rfl ?_
    refine x_istore hx C d6_emptyMinutes_27 rfl ?_
    obtain ⟨y15, h16, h⟩ := bd_of h
    refine AtH.sw (lp6_emptyMinutes_29 hN hx C M (Nat.le_of_ble_eq_true rfl) (Nat.le_of_ble_eq_true rfl) FU h16 ?_) ⟨rfl, rfl, rfl, rfl, trivial⟩
    refine r_iload_n C d6_emptyMinutes_58 rfl ?_
    exact e_iv C M d6_emptyMinutes_59 (Nat.le_of_ble_eq_true rfl) (Nat.le_of_ble_eq_true rfl) h
  · replace h := ite_m c10 h
    refine r_iconst C d6_emptyMinutes_22 ?_
    exact e_iv C M d6_emptyMinutes_23 (Nat.le_of_ble_eq_true rfl) (Nat.le_of_ble_eq_true rfl) h
def f6_longestEmptyRun_L32 (V : VV) (x2 : Int) : Nat → Int → Int → Int → Option (Int)
  | 0, _, _, _ => none
  | n + 1, x3, x4, x5 => (if nrm x2 < nrm x5 then some x3 else bd (f6_shipsIn V x5) (fun r13 => bd ((if nrm r13 = 0 then some (x4 + 1) else some (0))) (fun y15 => (if nrm y15 ≤ nrm x3 then f6_longestEmptyRun_L32 V x2 n x3 y15 (x5 + 1) else f6_longestEmptyRun_L32 V x2 n y15 y15 (x5 + 1)))))
theorem lp6_longestEmptyRun_32 {G : GT} {X : CT} {cells slots : Nat} {V : VV} (hN : 154 ≤ gN G) (hx : xN X = 6) (C : Cx G X "ChannelScheduleModel" b6_longestEmptyRun) {x2 : Int} {o0 : Except String (Option Value)} {V9 : VV} (M : MX G X 2 0 0 (some .int) o0 V9) (hc : cells ≤ 0) (hs : slots ≤ 0) : ∀ (n : Nat) {x3 : Int} {x4 : Int} {x5 : Int} {e3 : Int}, f6_longestEmptyRun_L32 V x2 n x3 x4 x5 = some (e3) → At G X cells slots 72 [(3, vI e3)] [] V → At G X cells slots 32 [(0, .ref (gB G + 148)), (2, vI x2), (3, vI x3), (4, vI x4), (5, vI x5)] [] V := by
  intro n
  induction n with
  | zero => intro x3 x4 x5 e3 h _; exact nomatch h
  | succ n ih =>
    intro x3 x4 x5 e3 h K
    rw [f6_longestEmptyRun_L32] at h
    refine r_iload C d6_longestEmptyRun_32 rfl ?_
    refine r_iload_n C d6_longestEmptyRun_34 rfl ?_
    refine x_icmpgt (tgt := 72) C d6_longestEmptyRun_35 rfl (fun c11 => ?_) (fun c11 => ?_)
    · replace h := ite_p c11 h
      cases h
      exact AtH.sw K ⟨rfl, trivial⟩
    · replace h := ite_m c11 h
      refine r_aload_n C d6_longestEmptyRun_38 rfl ?_
      refine r_iload C d6_longestEmptyRun_39 rfl ?_
      obtain ⟨r13, h12, h⟩ := bd_of h
      refine cV1_i C M d6_longestEmptyRun_41 l6_274 w6_shipsIn (rc_model hN) (ev6_shipsIn C.lt hN h12) rfl hc hs ?_
      obtain ⟨y15, h16, h⟩ := bd_of h
      suffices J17 : At G X cells slots 55 [(0, .ref (gB G + 148)), (2, vI x2), (3, vI x3), (5, vI x5)] [vI y15] V by
        replace h := h16
        refine x_ifne (tgt := 54) C d6_longestEmptyRun_44 rfl (fun c14 => ?_) (fun c14 => ?_)
        · replace h := ite_p c14 h
          refine r_iload C d6_longestEmptyRun_47 rfl ?_
          refine r_iconst C d6_longestEmptyRun_49 ?_
          refine r_iadd C d6_longestEmptyRun_50 ?_
          refine r_goto (tgt := 55) C d6_longestEmptyRun_51 rfl ?_
          cases h
          exact AtH.sw J17 ⟨rfl, rfl, rfl, rfl, trivial⟩
        · replace h := ite_m c14 h
          refine r_iconst C d6_longestEmptyRun_54 ?_
          cases h
          exact AtH.sw J17 ⟨rfl, rfl, rfl, rfl, trivial⟩
      refine x_istore hx C d6_longestEmptyRun_55 rfl ?_
      refine r_iload C d6_longestEmptyRun_57 rfl ?_
      refine r_iload_n C d6_longestEmptyRun_59 rfl ?_
      refine x_icmple (tgt := 66) C d6_longestEmptyRun_60 rfl (fun c18 => ?_) (fun c18 => ?_)
      · replace h := ite_p c18 h
        refine x_iinc hx C d6_longestEmptyRun_66 rfl rfl ?_
        refine r_goto (tgt := 32) C d6_longestEmptyRun_69 rfl ?_
        exact AtH.sw (ih h K) ⟨rfl, rfl, rfl, rfl, rfl, trivial⟩
      · replace h := ite_m c18 h
        refine r_iload C d6_longestEmptyRun_63 rfl ?_
        refine x_istore_n hx C d6_longestEmptyRun_65 rfl ?_
        refine x_iinc hx C d6_longestEmptyRun_66 rfl rfl ?_
        refine r_goto (tgt := 32) C d6_longestEmptyRun_69 rfl ?_
        exact AtH.sw (ih h K) ⟨rfl, rfl, rfl, rfl, rfl, trivial⟩
def f6_longestEmptyRun (V : VV) (x1 : Int) (x2 : Int) : Option (Int × VV) := bd (f6_areMinutes V x1 x2) (fun r2 => bd ((if nrm r2 = 0 then some (1) else some (0))) (fun y4 => bd2 (f6_fails V y4 0 0) (fun r8 W9 => (if nrm r8 = 0 then bd (f6_longestEmptyRun_L32 W9 x2 FU 0 0 x1) (fun y19 => some (y19, W9)) else some (0, W9)))))
theorem ev6_longestEmptyRun {G : GT} {l : Launch} {V : VV} {x1 : Int} {x2 : Int} {r : Int} {V1 : VV} (hlt : l.stackTraces = false) (hN : 154 ≤ gN G) (h : f6_longestEmptyRun V x1 x2 = some (r, V1)) : EvX G l y6_longestEmptyRun b6_longestEmptyRun 6 (some .int) 2 0 0 [.ref (gB G + 148), vI x1, vI x2] V (.ok (some (vI r))) V1 := by
  refine ev_w hlt (by decide +kernel) rfl rfl (fun X hl hx C M => ?_)
  subst hl
  replace C : Cx G X "ChannelScheduleModel" b6_longestEmptyRun := C
  unfold f6_longestEmptyRun at h
  show At G X 0 0 0 [(0, .ref (gB G + 148)), (1, vI x1), (2, vI x2)] [] V
  refine r_aload_n C d6_longestEmptyRun_0 rfl ?_
  refine r_iload_n C d6_longestEmptyRun_1 rfl ?_
  refine r_iload_n C d6_longestEmptyRun_2 rfl ?_
  obtain ⟨r2, h1, h⟩ := bd_of h
  refine cS2_i C M d6_longestEmptyRun_3 l6_277 w6_areMinutes (ev6_areMinutes C.lt hN h1) rfl (Nat.le_of_ble_eq_true rfl) (Nat.le_of_ble_eq_true rfl) ?_
  obtain ⟨y4, h5, h⟩ := bd_of h
  suffices J6 : At G X 0 0 14 [(0, .ref (gB G + 148)), (1, vI x1), (2, vI x2)] [vI y4, .ref (gB G + 148)] V by
    replace h := h5
    refine x_ifne (tgt := 13) C d6_longestEmptyRun_6 rfl (fun c3 => ?_) (fun c3 => ?_)
    · replace h := ite_p c3 h
      refine r_iconst C d6_longestEmptyRun_9 ?_
      refine r_goto (tgt := 14) C d6_longestEmptyRun_10 rfl ?_
      cases h
      exact AtH.sw J6 ⟨rfl, rfl, rfl, trivial⟩
    · replace h := ite_m c3 h
      refine r_iconst C d6_longestEmptyRun_13 ?_
      cases h
      exact AtH.sw J6 ⟨rfl, rfl, rfl, trivial⟩
  refine r_iconst C d6_longestEmptyRun_14 ?_
  refine r_iconst C d6_longestEmptyRun_15 ?_
  obtain ⟨r8, W9, h7, h⟩ := bd2_of h
  refine cV3_i C M d6_longestEmptyRun_16 l6_148 w6_fails (rc_model hN) (ev6_fails C.lt hN h7) rfl (Nat.le_of_ble_eq_true rfl) (Nat.le_of_ble_eq_true rfl) ?_
  refine x_ifeq (tgt := 24) C d6_longestEmptyRun_19 rfl (fun c10 => ?_) (fun c10 => ?_)
  · replace h := ite_p c10 h
    refine r_iconst C d6_longestEmptyRun_24 ?_
    refine x_istore_n hx C d6_longestEmptyRun_25 rfl ?_
    refine r_iconst C d6_longestEmptyRun_26 ?_
    refine x_istore hx C d6_longestEmptyRun_27 rfl ?_
    refine r_iload_n C d6_longestEmptyRun_29 rfl ?_
    refine x_istore hx C d6_longestEmptyRun_30 rfl ?_
    obtain ⟨y19, h20, h⟩ := bd_of h
    refine AtH.sw (lp6_longestEmptyRun_32 hN hx C M (Nat.le_of_ble_eq_true rfl) (Nat.le_of_ble_eq_true rfl) FU h20 ?_) ⟨rfl, rfl, rfl, rfl, rfl, trivial⟩
    refine r_iload_n C d6_longestEmptyRun_72 rfl ?_
    exact e_iv C M d6_longestEmptyRun_73 (Nat.le_of_ble_eq_true rfl) (Nat.le_of_ble_eq_true rfl) h
  · replace h := ite_m c10 h
    refine r_iconst C d6_longestEmptyRun_22 ?_
    exact e_iv C M d6_longestEmptyRun_23 (Nat.le_of_ble_eq_true rfl) (Nat.le_of_ble_eq_true rfl) h
def f6_conflictCount_L54 (V : VV) (x2 : Int) (x3 : Int) (x5 : Int) : Nat → Int → Int → Option (Int)
  | 0, _, _ => none
  | n + 1, x4, x6 => (if nrm (V 149 5) ≤ nrm x6 then some x4 else bd ((if nrm x2 = 0 then some (0) else some (1))) (fun y21 => bd (f6_conflictsWith V x6 y21 x3 x5) (fun r25 => (if nrm r25 = 0 then f6_conflictCount_L54 V x2 x3 x5 n (x4 + 0) (x6 + 1) else f6_conflictCount_L54 V x2 x3 x5 n (x4 + 1) (x6 + 1)))))
theorem lp6_conflictCount_54 {G : GT} {X : CT} {cells slots : Nat} {V : VV} (hN : 154 ≤ gN G) (hx : xN X = 7) (C : Cx G X "ChannelScheduleModel" b6_conflictCount) {x2 : Int} {x3 : Int} {x5 : Int} {o0 : Except String (Option Value)} {V9 : VV} (M : MX G X 3 0 0 (some .int) o0 V9) (hc : cells ≤ 0) (hs : slots ≤ 0) : ∀ (n : Nat) {x4 : Int} {x6 : Int} {e4 : Int}, f6_conflictCount_L54 V x2 x3 x5 n x4 x6 = some (e4) → At G X cells slots 102 [(4, vI e4)] [] V → At G X cells slots 54 [(0, .ref (gB G + 148)), (2, vI x2), (3, vI x3), (4, vI x4), (5, vI x5), (6, vI x6)] [] V := by
  intro n
  induction n with
  | zero => intro x4 x6 e4 h _; exact nomatch h
  | succ n ih =>
    intro x4 x6 e4 h K
    rw [f6_conflictCount_L54] at h
    refine r_iload C d6_conflictCount_54 rfl ?_
    refine r_aload_n C d6_conflictCount_56 rfl ?_
    refine g_model_0 C d6_conflictCount_57 f6_13 hN ?_
    refine r_iconst C d6_conflictCount_60 ?_
    refine x_iald C d6_conflictCount_61 (ra_m hN) (by omega) ?_
    refine x_icmpge (tgt := 102) C d6_conflictCount_62 rfl (fun c19 => ?_) (fun c19 => ?_)
    · replace h := ite_p c19 h
      cases h
      exact AtH.sw K ⟨rfl, trivial⟩
    · replace h := ite_m c19 h
      refine r_iload C d6_conflictCount_65 rfl ?_
      refine r_aload_n C d6_conflictCount_67 rfl ?_
      refine r_iload C d6_conflictCount_68 rfl ?_
      refine r_iload_n C d6_conflictCount_70 rfl ?_
      obtain ⟨y21, h22, h⟩ := bd_of h
      suffices J23 : At G X cells slots 79 [(0, .ref (gB G + 148)), (2, vI x2), (3, vI x3), (5, vI x5), (6, vI x6)] [vI y21, vI x6, .ref (gB G + 148), vI x4] V by
        replace h := h22
        refine x_ifeq (tgt := 78) C d6_conflictCount_71 rfl (fun c20 => ?_) (fun c20 => ?_)
        · replace h := ite_p c20 h
          refine r_iconst C d6_conflictCount_78 ?_
          cases h
          exact AtH.sw J23 ⟨rfl, rfl, rfl, rfl, rfl, trivial⟩
        · replace h := ite_m c20 h
          refine r_iconst C d6_conflictCount_74 ?_
          refine r_goto (tgt := 79) C d6_conflictCount_75 rfl ?_
          cases h
          exact AtH.sw J23 ⟨rfl, rfl, rfl, rfl, rfl, trivial⟩
      refine r_iload_n C d6_conflictCount_79 rfl ?_
      refine r_iload C d6_conflictCount_80 rfl ?_
      obtain ⟨r25, h24, h⟩ := bd_of h
      refine cV4_i C M d6_conflictCount_82 l6_98 w6_conflictsWith (rc_model hN) (ev6_conflictsWith C.lt hN h24) rfl hc hs ?_
      refine x_ifeq (tgt := 92) C d6_conflictCount_85 rfl (fun c26 => ?_) (fun c26 => ?_)
      · replace h := ite_p c26 h
        refine r_iconst C d6_conflictCount_92 ?_
        refine r_iadd C d6_conflictCount_93 ?_
        refine x_istore hx C d6_conflictCount_94 rfl ?_
        refine x_iinc hx C d6_conflictCount_96 rfl rfl ?_
        refine r_goto (tgt := 54) C d6_conflictCount_99 rfl ?_
        exact AtH.sw (ih h K) ⟨rfl, rfl, rfl, rfl, rfl, rfl, trivial⟩
      · replace h := ite_m c26 h
        refine r_iconst C d6_conflictCount_88 ?_
        refine r_goto (tgt := 93) C d6_conflictCount_89 rfl ?_
        refine r_iadd C d6_conflictCount_93 ?_
        refine x_istore hx C d6_conflictCount_94 rfl ?_
        refine x_iinc hx C d6_conflictCount_96 rfl rfl ?_
        refine r_goto (tgt := 54) C d6_conflictCount_99 rfl ?_
        exact AtH.sw (ih h K) ⟨rfl, rfl, rfl, rfl, rfl, rfl, trivial⟩
def f6_conflictCount (V : VV) (x1 : Int) (x2 : Int) (x3 : Int) : Option (Int × VV) := bd (f6_isShip V x1) (fun r2 => bd ((if nrm r2 = 0 then some (1) else some (0))) (fun y4 => bd (f6_in V x3 0 999) (fun r8 => bd ((if nrm r8 = 0 then some (1) else some (0))) (fun y10 => bd2 (f6_fails V y4 y10 0) (fun r14 W15 => (if nrm r14 = 0 then bd (f6_transit W15 x1) (fun r18 => bd (f6_conflictCount_L54 W15 x2 x3 (x3 + r18) FU 0 0) (fun y27 => some (y27, W15))) else some (0, W15)))))))
theorem ev6_conflictCount {G : GT} {l : Launch} {V : VV} {x1 : Int} {x2 : Int} {x3 : Int} {r : Int} {V1 : VV} (hlt : l.stackTraces = false) (hN : 154 ≤ gN G) (h : f6_conflictCount V x1 x2 x3 = some (r, V1)) : EvX G l y6_conflictCount b6_conflictCount 7 (some .int) 3 0 0 [.ref (gB G + 148), vI x1, vI x2, vI x3] V (.ok (some (vI r))) V1 := by
  refine ev_w hlt (by decide +kernel) rfl rfl (fun X hl hx C M => ?_)
  subst hl
  replace C : Cx G X "ChannelScheduleModel" b6_conflictCount := C
  unfold f6_conflictCount at h
  show At G X 0 0 0 [(0, .ref (gB G + 148)), (1, vI x1), (2, vI x2), (3, vI x3)] [] V
  refine r_aload_n C d6_conflictCount_0 rfl ?_
  refine r_aload_n C d6_conflictCount_1 rfl ?_
  refine r_iload_n C d6_conflictCount_2 rfl ?_
  obtain ⟨r2, h1, h⟩ := bd_of h
  refine cV1_i C M d6_conflictCount_3 l6_268 w6_isShip (rc_model hN) (ev6_isShip C.lt hN h1) rfl (Nat.le_of_ble_eq_true rfl) (Nat.le_of_ble_eq_true rfl) ?_
  obtain ⟨y4, h5, h⟩ := bd_of h
  suffices J6 : At G X 0 0 14 [(0, .ref (gB G + 148)), (1, vI x1), (2, vI x2), (3, vI x3)] [vI y4, .ref (gB G + 148)] V by
    replace h := h5
    refine x_ifne (tgt := 13) C d6_conflictCount_6 rfl (fun c3 => ?_) (fun c3 => ?_)
    · replace h := ite_p c3 h
      refine r_iconst C d6_conflictCount_9 ?_
      refine r_goto (tgt := 14) C d6_conflictCount_10 rfl ?_
      cases h
      exact AtH.sw J6 ⟨rfl, rfl, rfl, rfl, trivial⟩
    · replace h := ite_m c3 h
      refine r_iconst C d6_conflictCount_13 ?_
      cases h
      exact AtH.sw J6 ⟨rfl, rfl, rfl, rfl, trivial⟩
  refine r_iload_n C d6_conflictCount_14 rfl ?_
  refine r_iconst C d6_conflictCount_15 ?_
  refine r_sipush C d6_conflictCount_16 (by decide +kernel) ?_
  obtain ⟨r8, h7, h⟩ := bd_of h
  refine cS3_i C M d6_conflictCount_19 l6_75 w6_in (ev6_in C.lt hN h7) rfl (Nat.le_of_ble_eq_true rfl) (Nat.le_of_ble_eq_true rfl) ?_
  obtain ⟨y10, h11, h⟩ := bd_of h
  suffices J12 : At G X 0 0 30 [(0, .ref (gB G + 148)), (1, vI x1), (2, vI x2), (3, vI x3)] [vI y10, vI y4, .ref (gB G + 148)] V by
    replace h := h11
    refine x_ifne (tgt := 29) C d6_conflictCount_22 rfl (fun c9 => ?_) (fun c9 => ?_)
    · replace h := ite_p c9 h
      refine r_iconst C d6_conflictCount_25 ?_
      refine r_goto (tgt := 30) C d6_conflictCount_26 rfl ?_
      cases h
      exact AtH.sw J12 ⟨rfl, rfl, rfl, rfl, trivial⟩
    · replace h := ite_m c9 h
      refine r_iconst C d6_conflictCount_29 ?_
      cases h
      exact AtH.sw J12 ⟨rfl, rfl, rfl, rfl, trivial⟩
  refine r_iconst C d6_conflictCount_30 ?_
  obtain ⟨r14, W15, h13, h⟩ := bd2_of h
  refine cV3_i C M d6_conflictCount_31 l6_148 w6_fails (rc_model hN) (ev6_fails C.lt hN h13) rfl (Nat.le_of_ble_eq_true rfl) (Nat.le_of_ble_eq_true rfl) ?_
  refine x_ifeq (tgt := 39) C d6_conflictCount_34 rfl (fun c16 => ?_) (fun c16 => ?_)
  · replace h := ite_p c16 h
    refine r_iconst C d6_conflictCount_39 ?_
    refine x_istore hx C d6_conflictCount_40 rfl ?_
    refine r_iload_n C d6_conflictCount_42 rfl ?_
    refine r_aload_n C d6_conflictCount_43 rfl ?_
    refine r_iload_n C d6_conflictCount_44 rfl ?_
    obtain ⟨r18, h17, h⟩ := bd_of h
    refine cV1_i C M d6_conflictCount_45 l6_94 w6_transit (rc_model hN) (ev6_transit C.lt hN h17) rfl (Nat.le_of_ble_eq_true rfl) (Nat.le_of_ble_eq_true rfl) ?_
    refine r_iadd C d6_conflictCount_48 ?_
    refine x_istore hx C d6_conflictCount_49 rfl ?_
    refine r_iconst C d6_conflictCount_51 ?_
    refine x_istore hx C d6_conflictCount_52 rfl ?_
    obtain ⟨y27, h28, h⟩ := bd_of h
    refine AtH.sw (lp6_conflictCount_54 hN hx C M (Nat.le_of_ble_eq_true rfl) (Nat.le_of_ble_eq_true rfl) FU h28 ?_) ⟨rfl, rfl, rfl, rfl, rfl, rfl, trivial⟩
    refine r_iload C d6_conflictCount_102 rfl ?_
    exact e_iv C M d6_conflictCount_104 (Nat.le_of_ble_eq_true rfl) (Nat.le_of_ble_eq_true rfl) h
  · replace h := ite_m c16 h
    refine r_iconst C d6_conflictCount_37 ?_
    exact e_iv C M d6_conflictCount_38 (Nat.le_of_ble_eq_true rfl) (Nat.le_of_ble_eq_true rfl) h
def f6_firstConflict (V : VV) (x1 : Int) (x2 : Int) (x3 : Int) : Option (Int × VV) := bd (f6_isShip V x1) (fun r2 => bd ((if nrm r2 = 0 then some (1) else some (0))) (fun y4 => bd (f6_in V x3 0 999) (fun r8 => bd ((if nrm r8 = 0 then some (1) else some (0))) (fun y10 => bd2 (f6_fails V y4 y10 0) (fun r14 W15 => (if nrm r14 = 0 then bd ((if nrm x2 = 0 then some (0) else some (1))) (fun y18 => bd (f6_conflicting W15 x1 y18 x3 (-1)) (fun r22 => some (r22, W15))) else some (0, W15)))))))
theorem ev6_firstConflict {G : GT} {l : Launch} {V : VV} {x1 : Int} {x2 : Int} {x3 : Int} {r : Int} {V1 : VV} (hlt : l.stackTraces = false) (hN : 154 ≤ gN G) (h : f6_firstConflict V x1 x2 x3 = some (r, V1)) : EvX G l y6_firstConflict b6_firstConflict 4 (some .int) 4 0 0 [.ref (gB G + 148), vI x1, vI x2, vI x3] V (.ok (some (vI r))) V1 := by
  refine ev_w hlt (by decide +kernel) rfl rfl (fun X hl hx C M => ?_)
  subst hl
  replace C : Cx G X "ChannelScheduleModel" b6_firstConflict := C
  unfold f6_firstConflict at h
  show At G X 0 0 0 [(0, .ref (gB G + 148)), (1, vI x1), (2, vI x2), (3, vI x3)] [] V
  refine r_aload_n C d6_firstConflict_0 rfl ?_
  refine r_aload_n C d6_firstConflict_1 rfl ?_
  refine r_iload_n C d6_firstConflict_2 rfl ?_
  obtain ⟨r2, h1, h⟩ := bd_of h
  refine cV1_i C M d6_firstConflict_3 l6_268 w6_isShip (rc_model hN) (ev6_isShip C.lt hN h1) rfl (Nat.le_of_ble_eq_true rfl) (Nat.le_of_ble_eq_true rfl) ?_
  obtain ⟨y4, h5, h⟩ := bd_of h
  suffices J6 : At G X 0 0 14 [(0, .ref (gB G + 148)), (1, vI x1), (2, vI x2), (3, vI x3)] [vI y4, .ref (gB G + 148)] V by
    replace h := h5
    refine x_ifne (tgt := 13) C d6_firstConflict_6 rfl (fun c3 => ?_) (fun c3 => ?_)
    · replace h := ite_p c3 h
      refine r_iconst C d6_firstConflict_9 ?_
      refine r_goto (tgt := 14) C d6_firstConflict_10 rfl ?_
      cases h
      exact AtH.sw J6 ⟨rfl, rfl, rfl, rfl, trivial⟩
    · replace h := ite_m c3 h
      refine r_iconst C d6_firstConflict_13 ?_
      cases h
      exact AtH.sw J6 ⟨rfl, rfl, rfl, rfl, trivial⟩
  refine r_iload_n C d6_firstConflict_14 rfl ?_
  refine r_iconst C d6_firstConflict_15 ?_
  refine r_sipush C d6_firstConflict_16 (by decide +kernel) ?_
  obtain ⟨r8, h7, h⟩ := bd_of h
  refine cS3_i C M d6_firstConflict_19 l6_75 w6_in (ev6_in C.lt hN h7) rfl (Nat.le_of_ble_eq_true rfl) (Nat.le_of_ble_eq_true rfl) ?_
  obtain ⟨y10, h11, h⟩ := bd_of h
  suffices J12 : At G X 0 0 30 [(0, .ref (gB G + 148)), (1, vI x1), (2, vI x2), (3, vI x3)] [vI y10, vI y4, .ref (gB G + 148)] V by
    replace h := h11
    refine x_ifne (tgt := 29) C d6_firstConflict_22 rfl (fun c9 => ?_) (fun c9 => ?_)
    · replace h := ite_p c9 h
      refine r_iconst C d6_firstConflict_25 ?_
      refine r_goto (tgt := 30) C d6_firstConflict_26 rfl ?_
      cases h
      exact AtH.sw J12 ⟨rfl, rfl, rfl, rfl, trivial⟩
    · replace h := ite_m c9 h
      refine r_iconst C d6_firstConflict_29 ?_
      cases h
      exact AtH.sw J12 ⟨rfl, rfl, rfl, rfl, trivial⟩
  refine r_iconst C d6_firstConflict_30 ?_
  obtain ⟨r14, W15, h13, h⟩ := bd2_of h
  refine cV3_i C M d6_firstConflict_31 l6_148 w6_fails (rc_model hN) (ev6_fails C.lt hN h13) rfl (Nat.le_of_ble_eq_true rfl) (Nat.le_of_ble_eq_true rfl) ?_
  refine x_ifeq (tgt := 39) C d6_firstConflict_34 rfl (fun c16 => ?_) (fun c16 => ?_)
  · replace h := ite_p c16 h
    refine r_aload_n C d6_firstConflict_39 rfl ?_
    refine r_iload_n C d6_firstConflict_40 rfl ?_
    refine r_iload_n C d6_firstConflict_41 rfl ?_
    obtain ⟨y18, h19, h⟩ := bd_of h
    suffices J20 : At G X 0 0 50 [(3, vI x3)] [vI y18, vI x1, .ref (gB G + 148)] W15 by
      replace h := h19
      refine x_ifeq (tgt := 49) C d6_firstConflict_42 rfl (fun c17 => ?_) (fun c17 => ?_)
      · replace h := ite_p c17 h
        refine r_iconst C d6_firstConflict_49 ?_
        cases h
        exact AtH.sw J20 ⟨rfl, trivial⟩
      · replace h := ite_m c17 h
        refine r_iconst C d6_firstConflict_45 ?_
        refine r_goto (tgt := 50) C d6_firstConflict_46 rfl ?_
        cases h
        exact AtH.sw J20 ⟨rfl, trivial⟩
    refine r_iload_n C d6_firstConflict_50 rfl ?_
    refine r_iconst C d6_firstConflict_51 ?_
    obtain ⟨r22, h21, h⟩ := bd_of h
    refine cV4_i C M d6_firstConflict_52 l6_102 w6_conflicting (rc_model hN) (ev6_conflicting C.lt hN h21) rfl (Nat.le_of_ble_eq_true rfl) (Nat.le_of_ble_eq_true rfl) ?_
    exact e_iv C M d6_firstConflict_55 (Nat.le_of_ble_eq_true rfl) (Nat.le_of_ble_eq_true rfl) h
  · replace h := ite_m c16 h
    refine r_iconst C d6_firstConflict_37 ?_
    exact e_iv C M d6_firstConflict_38 (Nat.le_of_ble_eq_true rfl) (Nat.le_of_ble_eq_true rfl) h
def f6_earliestStart (V : VV) (x1 : Int) (x2 : Int) (x3 : Int) : Option (Int × VV) := bd (f6_isShip V x1) (fun r2 => bd ((if nrm r2 = 0 then some (1) else some (0))) (fun y4 => bd (f6_in V x3 0 999) (fun r8 => bd ((if nrm r8 = 0 then some (1) else some (0))) (fun y10 => bd2 (f6_fails V y4 y10 0) (fun r14 W15 => (if nrm r14 = 0 then bd ((if nrm x2 = 0 then some (0) else some (1))) (fun y18 => bd (f6_earliest W15 x1 y18 x3 999 (-1)) (fun r22 => some (r22, W15))) else some (0, W15)))))))
theorem ev6_earliestStart {G : GT} {l : Launch} {V : VV} {x1 : Int} {x2 : Int} {x3 : Int} {r : Int} {V1 : VV} (hlt : l.stackTraces = false) (hN : 154 ≤ gN G) (h : f6_earliestStart V x1 x2 x3 = some (r, V1)) : EvX G l y6_earliestStart b6_earliestStart 4 (some .int) 5 0 0 [.ref (gB G + 148), vI x1, vI x2, vI x3] V (.ok (some (vI r))) V1 := by
  refine ev_w hlt (by decide +kernel) rfl rfl (fun X hl hx C M => ?_)
  subst hl
  replace C : Cx G X "ChannelScheduleModel" b6_earliestStart := C
  unfold f6_earliestStart at h
  show At G X 0 0 0 [(0, .ref (gB G + 148)), (1, vI x1), (2, vI x2), (3, vI x3)] [] V
  refine r_aload_n C d6_earliestStart_0 rfl ?_
  refine r_aload_n C d6_earliestStart_1 rfl ?_
  refine r_iload_n C d6_earliestStart_2 rfl ?_
  obtain ⟨r2, h1, h⟩ := bd_of h
  refine cV1_i C M d6_earliestStart_3 l6_268 w6_isShip (rc_model hN) (ev6_isShip C.lt hN h1) rfl (Nat.le_of_ble_eq_true rfl) (Nat.le_of_ble_eq_true rfl) ?_
  obtain ⟨y4, h5, h⟩ := bd_of h
  suffices J6 : At G X 0 0 14 [(0, .ref (gB G + 148)), (1, vI x1), (2, vI x2), (3, vI x3)] [vI y4, .ref (gB G + 148)] V by
    replace h := h5
    refine x_ifne (tgt := 13) C d6_earliestStart_6 rfl (fun c3 => ?_) (fun c3 => ?_)
    · replace h := ite_p c3 h
      refine r_iconst C d6_earliestStart_9 ?_
      refine r_goto (tgt := 14) C d6_earliestStart_10 rfl ?_
      cases h
      exact AtH.sw J6 ⟨rfl, rfl, rfl, rfl, trivial⟩
    · replace h := ite_m c3 h
      refine r_iconst C d6_earliestStart_13 ?_
      cases h
      exact AtH.sw J6 ⟨rfl, rfl, rfl, rfl, trivial⟩
  refine r_iload_n C d6_earliestStart_14 rfl ?_
  refine r_iconst C d6_earliestStart_15 ?_
  refine r_sipush C d6_earliestStart_16 (by decide +kernel) ?_
  obtain ⟨r8, h7, h⟩ := bd_of h
  refine cS3_i C M d6_earliestStart_19 l6_75 w6_in (ev6_in C.lt hN h7) rfl (Nat.le_of_ble_eq_true rfl) (Nat.le_of_ble_eq_true rfl) ?_
  obtain ⟨y10, h11, h⟩ := bd_of h
  suffices J12 : At G X 0 0 30 [(0, .ref (gB G + 148)), (1, vI x1), (2, vI x2), (3, vI x3)] [vI y10, vI y4, .ref (gB G + 148)] V by
    replace h := h11
    refine x_ifne (tgt := 29) C d6_earliestStart_22 rfl (fun c9 => ?_) (fun c9 => ?_)
    · replace h := ite_p c9 h
      refine r_iconst C d6_earliestStart_25 ?_
      refine r_goto (tgt := 30) C d6_earliestStart_26 rfl ?_
      cases h
      exact AtH.sw J12 ⟨rfl, rfl, rfl, rfl, trivial⟩
    · replace h := ite_m c9 h
      refine r_iconst C d6_earliestStart_29 ?_
      cases h
      exact AtH.sw J12 ⟨rfl, rfl, rfl, rfl, trivial⟩
  refine r_iconst C d6_earliestStart_30 ?_
  obtain ⟨r14, W15, h13, h⟩ := bd2_of h
  refine cV3_i C M d6_earliestStart_31 l6_148 w6_fails (rc_model hN) (ev6_fails C.lt hN h13) rfl (Nat.le_of_ble_eq_true rfl) (Nat.le_of_ble_eq_true rfl) ?_
  refine x_ifeq (tgt := 39) C d6_earliestStart_34 rfl (fun c16 => ?_) (fun c16 => ?_)
  · replace h := ite_p c16 h
    refine r_aload_n C d6_earliestStart_39 rfl ?_
    refine r_iload_n C d6_earliestStart_40 rfl ?_
    refine r_iload_n C d6_earliestStart_41 rfl ?_
    obtain ⟨y18, h19, h⟩ := bd_of h
    suffices J20 : At G X 0 0 50 [(3, vI x3)] [vI y18, vI x1, .ref (gB G + 148)] W15 by
      replace h := h19
      refine x_ifeq (tgt := 49) C d6_earliestStart_42 rfl (fun c17 => ?_) (fun c17 => ?_)
      · replace h := ite_p c17 h
        refine r_iconst C d6_earliestStart_49 ?_
        cases h
        exact AtH.sw J20 ⟨rfl, trivial⟩
      · replace h := ite_m c17 h
        refine r_iconst C d6_earliestStart_45 ?_
        refine r_goto (tgt := 50) C d6_earliestStart_46 rfl ?_
        cases h
        exact AtH.sw J20 ⟨rfl, trivial⟩
    refine r_iload_n C d6_earliestStart_50 rfl ?_
    refine r_sipush C d6_earliestStart_51 (by decide +kernel) ?_
    refine r_iconst C d6_earliestStart_54 ?_
    obtain ⟨r22, h21, h⟩ := bd_of h
    refine cV5_i C M d6_earliestStart_55 l6_110 w6_earliest (rc_model hN) (ev6_earliest C.lt hN h21) rfl (Nat.le_of_ble_eq_true rfl) (Nat.le_of_ble_eq_true rfl) ?_
    exact e_iv C M d6_earliestStart_58 (Nat.le_of_ble_eq_true rfl) (Nat.le_of_ble_eq_true rfl) h
  · replace h := ite_m c16 h
    refine r_iconst C d6_earliestStart_37 ?_
    exact e_iv C M d6_earliestStart_38 (Nat.le_of_ble_eq_true rfl) (Nat.le_of_ble_eq_true rfl) h
def f6_latestStart_L66 (V : VV) (x1 : Int) (x2 : Int) : Nat → Int → Option (Int × VV)
  | 0, _ => none
  | n + 1, x5 => (if nrm x5 < 0 then some ((-1), V) else bd ((if nrm x2 = 0 then some (0) else some (1))) (fun y25 => bd (f6_conflicting V x1 y25 x5 (-1)) (fun r29 => (if nrm r29 = nrm (-1) then some (x5, V) else f6_latestStart_L66 V x1 x2 n (x5 + (-1))))))
theorem lp6_latestStart_66 {G : GT} {X : CT} {cells slots : Nat} {V : VV} (hN : 154 ≤ gN G) (hx : xN X = 6) (C : Cx G X "ChannelScheduleModel" b6_latestStart) {x1 : Int} {x2 : Int} : ∀ (n : Nat) {x5 : Int} {r : Int} {V1 : VV}, MX G X 4 0 0 (some .int) (.ok (some (vI r))) V1 → cells ≤ 0 → slots ≤ 0 → f6_latestStart_L66 V x1 x2 n x5 = some (r, V1) → At G X cells slots 66 [(0, .ref (gB G + 148)), (1, vI x1), (2, vI x2), (5, vI x5)] [] V := by
  intro n
  induction n with
  | zero => intro x5 r V1 _ _ _ h; exact nomatch h
  | succ n ih =>
    intro x5 r V1 M hc hs h
    rw [f6_latestStart_L66] at h
    refine r_iload C d6_latestStart_66 rfl ?_
    refine x_iflt (tgt := 101) C d6_latestStart_68 rfl (fun c23 => ?_) (fun c23 => ?_)
    · replace h := ite_p c23 h
      refine r_iconst C d6_latestStart_101 ?_
      exact e_iv C M d6_latestStart_102 hc hs h
    · replace h := ite_m c23 h
      refine r_aload_n C d6_latestStart_71 rfl ?_
      refine r_iload_n C d6_latestStart_72 rfl ?_
      refine r_iload_n C d6_latestStart_73 rfl ?_
      obtain ⟨y25, h26, h⟩ := bd_of h
      suffices J27 : At G X cells slots 82 [(0, .ref (gB G + 148)), (1, vI x1), (2, vI x2), (5, vI x5)] [vI y25, vI x1, .ref (gB G + 148)] V by
        replace h := h26
        refine x_ifeq (tgt := 81) C d6_latestStart_74 rfl (fun c24 => ?_) (fun c24 => ?_)
        · replace h := ite_p c24 h
          refine r_iconst C d6_latestStart_81 ?_
          cases h
          exact AtH.sw J27 ⟨rfl, rfl, rfl, rfl, trivial⟩
        · replace h := ite_m c24 h
          refine r_iconst C d6_latestStart_77 ?_
          refine r_goto (tgt := 82) C d6_latestStart_78 rfl ?_
          cases h
          exact AtH.sw J27 ⟨rfl, rfl, rfl, rfl, trivial⟩
      refine r_iload C d6_latestStart_82 rfl ?_
      refine r_iconst C d6_latestStart_84 ?_
      obtain ⟨r29, h28, h⟩ := bd_of h
      refine cV4_i C M d6_latestStart_85 l6_102 w6_conflicting (rc_model hN) (ev6_conflicting C.lt hN h28) rfl hc hs ?_
      refine r_iconst C d6_latestStart_88 ?_
      refine x_icmpne (tgt := 95) C d6_latestStart_89 rfl (fun c30 => ?_) (fun c30 => ?_)
      · replace h := ite_p c30 h
        refine r_iload C d6_latestStart_92 rfl ?_
        exact e_iv C M d6_latestStart_94 hc hs h
      · replace h := ite_m c30 h
        refine x_iinc hx C d6_latestStart_95 rfl rfl ?_
        refine r_goto (tgt := 66) C d6_latestStart_98 rfl ?_
        exact AtH.sw (ih M hc hs h) ⟨rfl, rfl, rfl, rfl, trivial⟩
def f6_latestStart (V : VV) (x1 : Int) (x2 : Int) (x3 : Int) : Option (Int × VV) := bd (f6_isShip V x1) (fun r2 => bd ((if nrm r2 = 0 then some (1) else some (0))) (fun y4 => bd (f6_in V x3 0 1200) (fun r8 => bd ((if nrm r8 = 0 then some (1) else some (0))) (fun y10 => bd2 (f6_fails V y4 y10 0) (fun r14 W15 => (if nrm r14 = 0 then bd (f6_transit W15 x1) (fun r18 => bd ((if nrm 999 ≤ nrm (x3 - r18) then some (999) else some (x3 - r18))) (fun y20 => f6_latestStart_L66 W15 x1 x2 FU y20)) else some (0, W15)))))))
theorem ev6_latestStart {G : GT} {l : Launch} {V : VV} {x1 : Int} {x2 : Int} {x3 : Int} {r : Int} {V1 : VV} (hlt : l.stackTraces = false) (hN : 154 ≤ gN G) (h : f6_latestStart V x1 x2 x3 = some (r, V1)) : EvX G l y6_latestStart b6_latestStart 6 (some .int) 4 0 0 [.ref (gB G + 148), vI x1, vI x2, vI x3] V (.ok (some (vI r))) V1 := by
  refine ev_w hlt (by decide +kernel) rfl rfl (fun X hl hx C M => ?_)
  subst hl
  replace C : Cx G X "ChannelScheduleModel" b6_latestStart := C
  unfold f6_latestStart at h
  show At G X 0 0 0 [(0, .ref (gB G + 148)), (1, vI x1), (2, vI x2), (3, vI x3)] [] V
  refine r_aload_n C d6_latestStart_0 rfl ?_
  refine r_aload_n C d6_latestStart_1 rfl ?_
  refine r_iload_n C d6_latestStart_2 rfl ?_
  obtain ⟨r2, h1, h⟩ := bd_of h
  refine cV1_i C M d6_latestStart_3 l6_268 w6_isShip (rc_model hN) (ev6_isShip C.lt hN h1) rfl (Nat.le_of_ble_eq_true rfl) (Nat.le_of_ble_eq_true rfl) ?_
  obtain ⟨y4, h5, h⟩ := bd_of h
  suffices J6 : At G X 0 0 14 [(0, .ref (gB G + 148)), (1, vI x1), (2, vI x2), (3, vI x3)] [vI y4, .ref (gB G + 148)] V by
    replace h := h5
    refine x_ifne (tgt := 13) C d6_latestStart_6 rfl (fun c3 => ?_) (fun c3 => ?_)
    · replace h := ite_p c3 h
      refine r_iconst C d6_latestStart_9 ?_
      refine r_goto (tgt := 14) C d6_latestStart_10 rfl ?_
      cases h
      exact AtH.sw J6 ⟨rfl, rfl, rfl, rfl, trivial⟩
    · replace h := ite_m c3 h
      refine r_iconst C d6_latestStart_13 ?_
      cases h
      exact AtH.sw J6 ⟨rfl, rfl, rfl, rfl, trivial⟩
  refine r_iload_n C d6_latestStart_14 rfl ?_
  refine r_iconst C d6_latestStart_15 ?_
  refine r_sipush C d6_latestStart_16 (by decide +kernel) ?_
  obtain ⟨r8, h7, h⟩ := bd_of h
  refine cS3_i C M d6_latestStart_19 l6_75 w6_in (ev6_in C.lt hN h7) rfl (Nat.le_of_ble_eq_true rfl) (Nat.le_of_ble_eq_true rfl) ?_
  obtain ⟨y10, h11, h⟩ := bd_of h
  suffices J12 : At G X 0 0 30 [(0, .ref (gB G + 148)), (1, vI x1), (2, vI x2), (3, vI x3)] [vI y10, vI y4, .ref (gB G + 148)] V by
    replace h := h11
    refine x_ifne (tgt := 29) C d6_latestStart_22 rfl (fun c9 => ?_) (fun c9 => ?_)
    · replace h := ite_p c9 h
      refine r_iconst C d6_latestStart_25 ?_
      refine r_goto (tgt := 30) C d6_latestStart_26 rfl ?_
      cases h
      exact AtH.sw J12 ⟨rfl, rfl, rfl, rfl, trivial⟩
    · replace h := ite_m c9 h
      refine r_iconst C d6_latestStart_29 ?_
      cases h
      exact AtH.sw J12 ⟨rfl, rfl, rfl, rfl, trivial⟩
  refine r_iconst C d6_latestStart_30 ?_
  obtain ⟨r14, W15, h13, h⟩ := bd2_of h
  refine cV3_i C M d6_latestStart_31 l6_148 w6_fails (rc_model hN) (ev6_fails C.lt hN h13) rfl (Nat.le_of_ble_eq_true rfl) (Nat.le_of_ble_eq_true rfl) ?_
  refine x_ifeq (tgt := 39) C d6_latestStart_34 rfl (fun c16 => ?_) (fun c16 => ?_)
  · replace h := ite_p c16 h
    refine r_iload_n C d6_latestStart_39 rfl ?_
    refine r_aload_n C d6_latestStart_40 rfl ?_
    refine r_iload_n C d6_latestStart_41 rfl ?_
    obtain ⟨r18, h17, h⟩ := bd_of h
    refine cV1_i C M d6_latestStart_42 l6_94 w6_transit (rc_model hN) (ev6_transit C.lt hN h17) rfl (Nat.le_of_ble_eq_true rfl) (Nat.le_of_ble_eq_true rfl) ?_
    refine r_isub C d6_latestStart_45 ?_
    refine x_istore hx C d6_latestStart_46 rfl ?_
    refine r_iload C d6_latestStart_48 rfl ?_
    refine r_sipush C d6_latestStart_50 (by decide +kernel) ?_
    obtain ⟨y20, h21, h⟩ := bd_of h
    suffices J22 : At G X 0 0 64 [(0, .ref (gB G + 148)), (1, vI x1), (2, vI x2)] [vI y20] W15 by
      replace h := h21
      refine x_icmpge (tgt := 61) C d6_latestStart_53 rfl (fun c19 => ?_) (fun c19 => ?_)
      · replace h := ite_p c19 h
        refine r_sipush C d6_latestStart_61 (by decide +kernel) ?_
        cases h
        exact AtH.sw J22 ⟨rfl, rfl, rfl, trivial⟩
      · replace h := ite_m c19 h
        refine r_iload C d6_latestStart_56 rfl ?_
        refine r_goto (tgt := 64) C d6_latestStart_58 rfl ?_
        cases h
        exact AtH.sw J22 ⟨rfl, rfl, rfl, trivial⟩
    refine x_istore hx C d6_latestStart_64 rfl ?_
    exact AtH.sw (lp6_latestStart_66 hN hx C FU M (Nat.le_of_ble_eq_true rfl) (Nat.le_of_ble_eq_true rfl) h) ⟨rfl, rfl, rfl, rfl, trivial⟩
  · replace h := ite_m c16 h
    refine r_iconst C d6_latestStart_37 ?_
    exact e_iv C M d6_latestStart_38 (Nat.le_of_ble_eq_true rfl) (Nat.le_of_ble_eq_true rfl) h
def f6_bestCancellation_L92 (V : VV) (x1 : Int) (x2 : Int) (x3 : Int) : Nat → Int → Int → Int → Option (Int)
  | 0, _, _, _ => none
  | n + 1, x5, x6, x7 => (if nrm (V 149 5) ≤ nrm x7 then some x5 else bd ((if nrm x2 = 0 then some (0) else some (1))) (fun y33 => bd (f6_earliest V x1 y33 x3 999 x7) (fun r37 => bd ((if nrm r37 = nrm (-1) then some (1000) else some (r37))) (fun y39 => (if nrm x5 = nrm (-1) then f6_bestCancellation_L92 V x1 x2 x3 n x7 y39 (x7 + 1) else (if nrm y39 < nrm x6 then f6_bestCancellation_L92 V x1 x2 x3 n x7 y39 (x7 + 1) else f6_bestCancellation_L92 V x1 x2 x3 n x5 x6 (x7 + 1)))))))
theorem lp6_bestCancellation_92 {G : GT} {X : CT} {cells slots : Nat} {V : VV} (hN : 154 ≤ gN G) (hx : xN X = 9) (C : Cx G X "ChannelScheduleModel" b6_bestCancellation) {x1 : Int} {x2 : Int} {x3 : Int} {o0 : Except String (Option Value)} {V9 : VV} (M : MX G X 5 0 0 (some .int) o0 V9) (hc : cells ≤ 0) (hs : slots ≤ 0) : ∀ (n : Nat) {x5 : Int} {x6 : Int} {x7 : Int} {e5 : Int}, f6_bestCancellation_L92 V x1 x2 x3 n x5 x6 x7 = some (e5) → At G X cells slots 166 [(5, vI e5)] [] V → At G X cells slots 92 [(0, .ref (gB G + 148)), (1, vI x1), (2, vI x2), (3, vI x3), (5, vI x5), (6, vI x6), (7, vI x7)] [] V := by
  intro n
  induction n with
  | zero => intro x5 x6 x7 e5 h _; exact nomatch h
  | succ n ih =>
    intro x5 x6 x7 e5 h K
    rw [f6_bestCancellation_L92] at h
    refine r_iload C d6_bestCancellation_92 rfl ?_
    refine r_aload_n C d6_bestCancellation_94 rfl ?_
    refine g_model_0 C d6_bestCancellation_95 f6_13 hN ?_
    refine r_iconst C d6_bestCancellation_98 ?_
    refine x_iald C d6_bestCancellation_99 (ra_m hN) (by omega) ?_
    refine x_icmpge (tgt := 166) C d6_bestCancellation_100 rfl (fun c31 => ?_) (fun c31 => ?_)
    · replace h := ite_p c31 h
      cases h
      exact AtH.sw K ⟨rfl, trivial⟩
    · replace h := ite_m c31 h
      refine r_aload_n C d6_bestCancellation_103 rfl ?_
      refine r_iload_n C d6_bestCancellation_104 rfl ?_
      refine r_iload_n C d6_bestCancellation_105 rfl ?_
      obtain ⟨y33, h34, h⟩ := bd_of h
      suffices J35 : At G X cells slots 114 [(0, .ref (gB G + 148)), (1, vI x1), (2, vI x2), (3, vI x3), (5, vI x5), (6, vI x6), (7, vI x7)] [vI y33, vI x1, .ref (gB G + 148)] V by
        replace h := h34
        refine x_ifeq (tgt := 113) C d6_bestCancellation_106 rfl (fun c32 => ?_) (fun c32 => ?_)
        · replace h := ite_p c32 h
          refine r_iconst C d6_bestCancellation_113 ?_
          cases h
          exact AtH.sw J35 ⟨rfl, rfl, rfl, rfl, rfl, rfl, rfl, trivial⟩
        · replace h := ite_m c32 h
          refine r_iconst C d6_bestCancellation_109 ?_
          refine r_goto (tgt := 114) C d6_bestCancellation_110 rfl ?_
          cases h
          exact AtH.sw J35 ⟨rfl, rfl, rfl, rfl, rfl, rfl, rfl, trivial⟩
      refine r_iload_n C d6_bestCancellation_114 rfl ?_
      refine r_sipush C d6_bestCancellation_115 (by decide +kernel) ?_
      refine r_iload C d6_bestCancellation_118 rfl ?_
      obtain ⟨r37, h36, h⟩ := bd_of h
      refine cV5_i C M d6_bestCancellation_120 l6_110 w6_earliest (rc_model hN) (ev6_earliest C.lt hN h36) rfl hc hs ?_
      refine x_istore hx C d6_bestCancellation_123 rfl ?_
      refine r_iload C d6_bestCancellation_125 rfl ?_
      refine r_iconst C d6_bestCancellation_127 ?_
      obtain ⟨y39, h40, h⟩ := bd_of h
      suffices J41 : At G X cells slots 136 [(0, .ref (gB G + 148)), (1, vI x1), (2, vI x2), (3, vI x3), (5, vI x5), (6, vI x6), (7, vI x7), (8, vI y39)] [] V by
        replace h := h40
        refine x_icmpne (tgt := 136) C d6_bestCancellation_128 rfl (fun c38 => ?_) (fun c38 => ?_)
        · replace h := ite_p c38 h
          refine r_sipush C d6_bestCancellation_131 (by decide +kernel) ?_
          refine x_istore hx C d6_bestCancellation_134 rfl ?_
          cases h
          exact AtH.sw J41 ⟨rfl, rfl, rfl, rfl, rfl, rfl, rfl, rfl, trivial⟩
        · replace h := ite_m c38 h
          cases h
          exact AtH.sw J41 ⟨rfl, rfl, rfl, rfl, rfl, rfl, rfl, rfl, trivial⟩
      refine r_iload C d6_bestCancellation_136 rfl ?_
      refine r_iconst C d6_bestCancellation_138 ?_
      refine x_icmpeq (tgt := 152) C d6_bestCancellation_139 rfl (fun c42 => ?_) (fun c42 => ?_)
      · replace h := ite_p c42 h
        refine r_iload C d6_bestCancellation_152 rfl ?_
        refine x_istore hx C d6_bestCancellation_154 rfl ?_
        refine r_iload C d6_bestCancellation_156 rfl ?_
        refine x_istore hx C d6_bestCancellation_158 rfl ?_
        refine x_iinc hx C d6_bestCancellation_160 rfl rfl ?_
        refine r_goto (tgt := 92) C d6_bestCancellation_163 rfl ?_
        exact AtH.sw (ih h K) ⟨rfl, rfl, rfl, rfl, rfl, rfl, rfl, trivial⟩
      · replace h := ite_m c42 h
        refine r_iload C d6_bestCancellation_142 rfl ?_
        refine r_iload C d6_bestCancellation_144 rfl ?_
        refine x_icmplt (tgt := 152) C d6_bestCancellation_146 rfl (fun c43 => ?_) (fun c43 => ?_)
        · replace h := ite_p c43 h
          refine r_iload C d6_bestCancellation_152 rfl ?_
          refine x_istore hx C d6_bestCancellation_154 rfl ?_
          refine r_iload C d6_bestCancellation_156 rfl ?_
          refine x_istore hx C d6_bestCancellation_158 rfl ?_
          refine x_iinc hx C d6_bestCancellation_160 rfl rfl ?_
          refine r_goto (tgt := 92) C d6_bestCancellation_163 rfl ?_
          exact AtH.sw (ih h K) ⟨rfl, rfl, rfl, rfl, rfl, rfl, rfl, trivial⟩
        · replace h := ite_m c43 h
          refine r_goto (tgt := 160) C d6_bestCancellation_149 rfl ?_
          refine x_iinc hx C d6_bestCancellation_160 rfl rfl ?_
          refine r_goto (tgt := 92) C d6_bestCancellation_163 rfl ?_
          exact AtH.sw (ih h K) ⟨rfl, rfl, rfl, rfl, rfl, rfl, rfl, trivial⟩
def f6_bestCancellation (V : VV) (x1 : Int) (x2 : Int) (x3 : Int) : Option (Int × VV) := bd (f6_isShip V x1) (fun r2 => bd ((if nrm r2 = 0 then some (0) else bd (f6_in V x3 0 999) (fun r5 => (if nrm r5 = 0 then some (0) else some (1))))) (fun y7 => bd (f6_isShip V x1) (fun r11 => bd ((if nrm r11 = 0 then some (1) else some (0))) (fun y13 => bd (f6_in V x3 0 999) (fun r17 => bd ((if nrm r17 = 0 then some (1) else some (0))) (fun y19 => bd ((if nrm y7 = 0 then some (0) else (if nrm (V 149 5) = 0 then some (1) else some (0)))) (fun y24 => bd2 (f6_fails V y13 y19 y24) (fun r28 W29 => (if nrm r28 = 0 then bd (f6_bestCancellation_L92 W29 x1 x2 x3 FU (-1) 0 0) (fun y44 => some (y44, W29)) else some (0, W29))))))))))
theorem ev6_bestCancellation {G : GT} {l : Launch} {V : VV} {x1 : Int} {x2 : Int} {x3 : Int} {r : Int} {V1 : VV} (hlt : l.stackTraces = false) (hN : 154 ≤ gN G) (h : f6_bestCancellation V x1 x2 x3 = some (r, V1)) : EvX G l y6_bestCancellation b6_bestCancellation 9 (some .int) 5 0 0 [.ref (gB G + 148), vI x1, vI x2, vI x3] V (.ok (some (vI r))) V1 := by
  refine ev_w hlt (by decide +kernel) rfl rfl (fun X hl hx C M => ?_)
  subst hl
  replace C : Cx G X "ChannelScheduleModel" b6_bestCancellation := C
  unfold f6_bestCancellation at h
  show At G X 0 0 0 [(0, .ref (gB G + 148)), (1, vI x1), (2, vI x2), (3, vI x3)] [] V
  refine r_aload_n C d6_bestCancellation_0 rfl ?_
  refine r_iload_n C d6_bestCancellation_1 rfl ?_
  obtain ⟨r2, h1, h⟩ := bd_of h
  refine cV1_i C M d6_bestCancellation_2 l6_268 w6_isShip (rc_model hN) (ev6_isShip C.lt hN h1) rfl (Nat.le_of_ble_eq_true rfl) (Nat.le_of_ble_eq_true rfl) ?_
  obtain ⟨y7, h8, h⟩ := bd_of h
  suffices J9 : At G X 0 0 24 [(0, .ref (gB G + 148)), (1, vI x1), (2, vI x2), (3, vI x3)] [vI y7] V by
    replace h := h8
    refine x_ifeq (tgt := 23) C d6_bestCancellation_5 rfl (fun c3 => ?_) (fun c3 => ?_)
    · replace h := ite_p c3 h
      refine r_iconst C d6_bestCancellation_23 ?_
      cases h
      exact AtH.sw J9 ⟨rfl, rfl, rfl, rfl, trivial⟩
    · replace h := ite_m c3 h
      refine r_iload_n C d6_bestCancellation_8 rfl ?_
      refine r_iconst C d6_bestCancellation_9 ?_
      refine r_sipush C d6_bestCancellation_10 (by decide +kernel) ?_
      obtain ⟨r5, h4, h⟩ := bd_of h
      refine cS3_i C M d6_bestCancellation_13 l6_75 w6_in (ev6_in C.lt hN h4) rfl (Nat.le_of_ble_eq_true rfl) (Nat.le_of_ble_eq_true rfl) ?_
      refine x_ifeq (tgt := 23) C d6_bestCancellation_16 rfl (fun c6 => ?_) (fun c6 => ?_)
      · replace h := ite_p c6 h
        refine r_iconst C d6_bestCancellation_23 ?_
        cases h
        exact AtH.sw J9 ⟨rfl, rfl, rfl, rfl, trivial⟩
      · replace h := ite_m c6 h
        refine r_iconst C d6_bestCancellation_19 ?_
        refine r_goto (tgt := 24) C d6_bestCancellation_20 rfl ?_
        cases h
        exact AtH.sw J9 ⟨rfl, rfl, rfl, rfl, trivial⟩
  refine x_istore hx C d6_bestCancellation_24 rfl ?_
  refine r_aload_n C d6_bestCancellation_26 rfl ?_
  refine r_aload_n C d6_bestCancellation_27 rfl ?_
  refine r_iload_n C d6_bestCancellation_28 rfl ?_
  obtain ⟨r11, h10, h⟩ := bd_of h
  refine cV1_i C M d6_bestCancellation_29 l6_268 w6_isShip (rc_model hN) (ev6_isShip C.lt hN h10) rfl (Nat.le_of_ble_eq_true rfl) (Nat.le_of_ble_eq_true rfl) ?_
  obtain ⟨y13, h14, h⟩ := bd_of h
  suffices J15 : At G X 0 0 40 [(0, .ref (gB G + 148)), (1, vI x1), (2, vI x2), (3, vI x3), (4, vI y7)] [vI y13, .ref (gB G + 148)] V by
    replace h := h14
    refine x_ifne (tgt := 39) C d6_bestCancellation_32 rfl (fun c12 => ?_) (fun c12 => ?_)
    · replace h := ite_p c12 h
      refine r_iconst C d6_bestCancellation_35 ?_
      refine r_goto (tgt := 40) C d6_bestCancellation_36 rfl ?_
      cases h
      exact AtH.sw J15 ⟨rfl, rfl, rfl, rfl, rfl, trivial⟩
    · replace h := ite_m c12 h
      refine r_iconst C d6_bestCancellation_39 ?_
      cases h
      exact AtH.sw J15 ⟨rfl, rfl, rfl, rfl, rfl, trivial⟩
  refine r_iload_n C d6_bestCancellation_40 rfl ?_
  refine r_iconst C d6_bestCancellation_41 ?_
  refine r_sipush C d6_bestCancellation_42 (by decide +kernel) ?_
  obtain ⟨r17, h16, h⟩ := bd_of h
  refine cS3_i C M d6_bestCancellation_45 l6_75 w6_in (ev6_in C.lt hN h16) rfl (Nat.le_of_ble_eq_true rfl) (Nat.le_of_ble_eq_true rfl) ?_
  obtain ⟨y19, h20, h⟩ := bd_of h
  suffices J21 : At G X 0 0 56 [(0, .ref (gB G + 148)), (1, vI x1), (2, vI x2), (3, vI x3), (4, vI y7)] [vI y19, vI y13, .ref (gB G + 148)] V by
    replace h := h20
    refine x_ifne (tgt := 55) C d6_bestCancellation_48 rfl (fun c18 => ?_) (fun c18 => ?_)
    · replace h := ite_p c18 h
      refine r_iconst C d6_bestCancellation_51 ?_
      refine r_goto (tgt := 56) C d6_bestCancellation_52 rfl ?_
      cases h
      exact AtH.sw J21 ⟨rfl, rfl, rfl, rfl, rfl, trivial⟩
    · replace h := ite_m c18 h
      refine r_iconst C d6_bestCancellation_55 ?_
      cases h
      exact AtH.sw J21 ⟨rfl, rfl, rfl, rfl, rfl, trivial⟩
  refine r_iload C d6_bestCancellation_56 rfl ?_
  obtain ⟨y24, h25, h⟩ := bd_of h
  suffices J26 : At G X 0 0 75 [(0, .ref (gB G + 148)), (1, vI x1), (2, vI x2), (3, vI x3)] [vI y24, vI y19, vI y13, .ref (gB G + 148)] V by
    replace h := h25
    refine x_ifeq (tgt := 74) C d6_bestCancellation_58 rfl (fun c22 => ?_) (fun c22 => ?_)
    · replace h := ite_p c22 h
      refine r_iconst C d6_bestCancellation_74 ?_
      cases h
      exact AtH.sw J26 ⟨rfl, rfl, rfl, rfl, trivial⟩
    · replace h := ite_m c22 h
      refine r_aload_n C d6_bestCancellation_61 rfl ?_
      refine g_model_0 C d6_bestCancellation_62 f6_13 hN ?_
      refine r_iconst C d6_bestCancellation_65 ?_
      refine x_iald C d6_bestCancellation_66 (ra_m hN) (by omega) ?_
      refine x_ifne (tgt := 74) C d6_bestCancellation_67 rfl (fun c23 => ?_) (fun c23 => ?_)
      · replace h := ite_p c23 h
        refine r_iconst C d6_bestCancellation_70 ?_
        refine r_goto (tgt := 75) C d6_bestCancellation_71 rfl ?_
        cases h
        exact AtH.sw J26 ⟨rfl, rfl, rfl, rfl, trivial⟩
      · replace h := ite_m c23 h
        refine r_iconst C d6_bestCancellation_74 ?_
        cases h
        exact AtH.sw J26 ⟨rfl, rfl, rfl, rfl, trivial⟩
  obtain ⟨r28, W29, h27, h⟩ := bd2_of h
  refine cV3_i C M d6_bestCancellation_75 l6_148 w6_fails (rc_model hN) (ev6_fails C.lt hN h27) rfl (Nat.le_of_ble_eq_true rfl) (Nat.le_of_ble_eq_true rfl) ?_
  refine x_ifeq (tgt := 83) C d6_bestCancellation_78 rfl (fun c30 => ?_) (fun c30 => ?_)
  · replace h := ite_p c30 h
    refine r_iconst C d6_bestCancellation_83 ?_
    refine x_istore hx C d6_bestCancellation_84 rfl ?_
    refine r_iconst C d6_bestCancellation_86 ?_
    refine x_istore hx C d6_bestCancellation_87 rfl ?_
    refine r_iconst C d6_bestCancellation_89 ?_
    refine x_istore hx C d6_bestCancellation_90 rfl ?_
    obtain ⟨y44, h45, h⟩ := bd_of h
    refine AtH.sw (lp6_bestCancellation_92 hN hx C M (Nat.le_of_ble_eq_true rfl) (Nat.le_of_ble_eq_true rfl) FU h45 ?_) ⟨rfl, rfl, rfl, rfl, rfl, rfl, rfl, trivial⟩
    refine r_iload C d6_bestCancellation_166 rfl ?_
    exact e_iv C M d6_bestCancellation_168 (Nat.le_of_ble_eq_true rfl) (Nat.le_of_ble_eq_true rfl) h
  · replace h := ite_m c30 h
    refine r_iconst C d6_bestCancellation_81 ?_
    exact e_iv C M d6_bestCancellation_82 (Nat.le_of_ble_eq_true rfl) (Nat.le_of_ble_eq_true rfl) h
def f6_directionSwitches_L9 (V : VV) : Nat → Int → Int → Option (Int)
  | 0, _, _ => none
  | n + 1, x1, x2 => (if nrm (V 149 5) ≤ nrm x2 then some x1 else bd (f6_ofBooking V x2 1) (fun r3 => bd (f6_ofBooking V (x2 - 1) 1) (fun r5 => (if nrm r3 = nrm r5 then f6_directionSwitches_L9 V n (x1 + 0) (x2 + 1) else f6_directionSwitches_L9 V n (x1 + 1) (x2 + 1)))))
theorem lp6_directionSwitches_9 {G : GT} {X : CT} {cells slots : Nat} {V : VV} (hN : 154 ≤ gN G) (hx : xN X = 3) (C : Cx G X "ChannelScheduleModel" b6_directionSwitches) {o0 : Except String (Option Value)} {V9 : VV} (M : MX G X 1 0 0 (some .int) o0 V9) (hc : cells ≤ 0) (hs : slots ≤ 0) : ∀ (n : Nat) {x1 : Int} {x2 : Int} {e1 : Int}, f6_directionSwitches_L9 V n x1 x2 = some (e1) → At G X cells slots 50 [(1, vI e1)] [] V → At G X cells slots 9 [(0, .ref (gB G + 148)), (1, vI x1), (2, vI x2)] [] V := by
  intro n
  induction n with
  | zero => intro x1 x2 e1 h _; exact nomatch h
  | succ n ih =>
    intro x1 x2 e1 h K
    rw [f6_directionSwitches_L9] at h
    refine r_iload_n C d6_directionSwitches_9 rfl ?_
    refine r_aload_n C d6_directionSwitches_10 rfl ?_
    refine g_model_0 C d6_directionSwitches_11 f6_13 hN ?_
    refine r_iconst C d6_directionSwitches_14 ?_
    refine x_iald C d6_directionSwitches_15 (ra_m hN) (by omega) ?_
    refine x_icmpge (tgt := 50) C d6_directionSwitches_16 rfl (fun c1 => ?_) (fun c1 => ?_)
    · replace h := ite_p c1 h
      cases h
      exact AtH.sw K ⟨rfl, trivial⟩
    · replace h := ite_m c1 h
      refine r_iload_n C d6_directionSwitches_19 rfl ?_
      refine r_aload_n C d6_directionSwitches_20 rfl ?_
      refine r_iload_n C d6_directionSwitches_21 rfl ?_
      refine r_iconst C d6_directionSwitches_22 ?_
      obtain ⟨r3, h2, h⟩ := bd_of h
      refine cV2_i C M d6_directionSwitches_23 l6_91 w6_ofBooking (rc_model hN) (ev6_ofBooking C.lt hN h2) rfl hc hs ?_
      refine r_aload_n C d6_directionSwitches_26 rfl ?_
      refine r_iload_n C d6_directionSwitches_27 rfl ?_
      refine r_iconst C d6_directionSwitches_28 ?_
      refine r_isub C d6_directionSwitches_29 ?_
      refine r_iconst C d6_directionSwitches_30 ?_
      obtain ⟨r5, h4, h⟩ := bd_of h
      refine cV2_i C M d6_directionSwitches_31 l6_91 w6_ofBooking (rc_model hN) (ev6_ofBooking C.lt hN h4) rfl hc hs ?_
      refine x_icmpeq (tgt := 41) C d6_directionSwitches_34 rfl (fun c6 => ?_) (fun c6 => ?_)
      · replace h := ite_p c6 h
        refine r_iconst C d6_directionSwitches_41 ?_
        refine r_iadd C d6_directionSwitches_42 ?_
        refine x_istore_n hx C d6_directionSwitches_43 rfl ?_
        refine x_iinc hx C d6_directionSwitches_44 rfl rfl ?_
        refine r_goto (tgt := 9) C d6_directionSwitches_47 rfl ?_
        exact AtH.sw (ih h K) ⟨rfl, rfl, rfl, trivial⟩
      · replace h := ite_m c6 h
        refine r_iconst C d6_directionSwitches_37 ?_
        refine r_goto (tgt := 42) C d6_directionSwitches_38 rfl ?_
        refine r_iadd C d6_directionSwitches_42 ?_
        refine x_istore_n hx C d6_directionSwitches_43 rfl ?_
        refine x_iinc hx C d6_directionSwitches_44 rfl rfl ?_
        refine r_goto (tgt := 9) C d6_directionSwitches_47 rfl ?_
        exact AtH.sw (ih h K) ⟨rfl, rfl, rfl, trivial⟩
def f6_directionSwitches (V : VV) : Option (Int × VV) := bd (f6_directionSwitches_L9 (up2 V 148 9 0) FU 0 1) (fun y7 => some (y7, up2 V 148 9 0))
theorem ev6_directionSwitches {G : GT} {l : Launch} {V : VV} {r : Int} {V1 : VV} (hlt : l.stackTraces = false) (hN : 154 ≤ gN G) (h : f6_directionSwitches V = some (r, V1)) : EvX G l y6_directionSwitches b6_directionSwitches 3 (some .int) 1 0 0 [.ref (gB G + 148)] V (.ok (some (vI r))) V1 := by
  refine ev_w hlt (by decide +kernel) rfl rfl (fun X hl hx C M => ?_)
  subst hl
  replace C : Cx G X "ChannelScheduleModel" b6_directionSwitches := C
  unfold f6_directionSwitches at h
  show At G X 0 0 0 [(0, .ref (gB G + 148))] [] V
  refine r_aload_n C d6_directionSwitches_0 rfl ?_
  refine r_iconst C d6_directionSwitches_1 ?_
  refine p_model_9 C d6_directionSwitches_2 f6_1 hN ?_
  refine r_iconst C d6_directionSwitches_5 ?_
  refine x_istore_n hx C d6_directionSwitches_6 rfl ?_
  refine r_iconst C d6_directionSwitches_7 ?_
  refine x_istore_n hx C d6_directionSwitches_8 rfl ?_
  obtain ⟨y7, h8, h⟩ := bd_of h
  refine AtH.sw (lp6_directionSwitches_9 hN hx C M (Nat.le_of_ble_eq_true rfl) (Nat.le_of_ble_eq_true rfl) FU h8 ?_) ⟨rfl, rfl, rfl, trivial⟩
  refine r_iload_n C d6_directionSwitches_50 rfl ?_
  exact e_iv C M d6_directionSwitches_51 (Nat.le_of_ble_eq_true rfl) (Nat.le_of_ble_eq_true rfl) h
def f6_longestConvoy_L11 (V : VV) : Nat → Int → Int → Int → Option (Int)
  | 0, _, _, _ => none
  | n + 1, x1, x2, x3 => (if nrm (V 149 5) ≤ nrm x3 then some x1 else bd ((if nrm x3 ≤ 0 then some (1) else bd (f6_ofBooking V x3 1) (fun r4 => bd (f6_ofBooking V (x3 - 1) 1) (fun r6 => (if nrm r4 = nrm r6 then some (x2 + 1) else some (1)))))) (fun y8 => (if nrm y8 ≤ nrm x1 then f6_longestConvoy_L11 V n x1 y8 (x3 + 1) else f6_longestConvoy_L11 V n y8 y8 (x3 + 1))))
theorem lp6_longestConvoy_11 {G : GT} {X : CT} {cells slots : Nat} {V : VV} (hN : 154 ≤ gN G) (hx : xN X = 4) (C : Cx G X "ChannelScheduleModel" b6_longestConvoy) {o0 : Except String (Option Value)} {V9 : VV} (M : MX G X 1 0 0 (some .int) o0 V9) (hc : cells ≤ 0) (hs : slots ≤ 0) : ∀ (n : Nat) {x1 : Int} {x2 : Int} {x3 : Int} {e1 : Int}, f6_longestConvoy_L11 V n x1 x2 x3 = some (e1) → At G X cells slots 63 [(1, vI e1)] [] V → At G X cells slots 11 [(0, .ref (gB G + 148)), (1, vI x1), (2, vI x2), (3, vI x3)] [] V := by
  intro n
  induction n with
  | zero => intro x1 x2 x3 e1 h _; exact nomatch h
  | succ n ih =>
    intro x1 x2 x3 e1 h K
    rw [f6_longestConvoy_L11] at h
    refine r_iload_n C d6_longestConvoy_11 rfl ?_
    refine r_aload_n C d6_longestConvoy_12 rfl ?_
    refine g_model_0 C d6_longestConvoy_13 f6_13 hN ?_
    refine r_iconst C d6_longestConvoy_16 ?_
    refine x_iald C d6_longestConvoy_17 (ra_m hN) (by omega) ?_
    refine x_icmpge (tgt := 63) C d6_longestConvoy_18 rfl (fun c1 => ?_) (fun c1 => ?_)
    · replace h := ite_p c1 h
      cases h
      exact AtH.sw K ⟨rfl, trivial⟩
    · replace h := ite_m c1 h
      refine r_iload_n C d6_longestConvoy_21 rfl ?_
      obtain ⟨y8, h9, h⟩ := bd_of h
      suffices J10 : At G X cells slots 49 [(0, .ref (gB G + 148)), (1, vI x1), (3, vI x3)] [vI y8] V by
        replace h := h9
        refine x_ifle (tgt := 48) C d6_longestConvoy_22 rfl (fun c2 => ?_) (fun c2 => ?_)
        · replace h := ite_p c2 h
          refine r_iconst C d6_longestConvoy_48 ?_
          cases h
          exact AtH.sw J10 ⟨rfl, rfl, rfl, trivial⟩
        · replace h := ite_m c2 h
          refine r_aload_n C d6_longestConvoy_25 rfl ?_
          refine r_iload_n C d6_longestConvoy_26 rfl ?_
          refine r_iconst C d6_longestConvoy_27 ?_
          obtain ⟨r4, h3, h⟩ := bd_of h
          refine cV2_i C M d6_longestConvoy_28 l6_91 w6_ofBooking (rc_model hN) (ev6_ofBooking C.lt hN h3) rfl hc hs ?_
          refine r_aload_n C d6_longestConvoy_31 rfl ?_
          refine r_iload_n C d6_longestConvoy_32 rfl ?_
          refine r_iconst C d6_longestConvoy_33 ?_
          refine r_isub C d6_longestConvoy_34 ?_
          refine r_iconst C d6_longestConvoy_35 ?_
          obtain ⟨r6, h5, h⟩ := bd_of h
          refine cV2_i C M d6_longestConvoy_36 l6_91 w6_ofBooking (rc_model hN) (ev6_ofBooking C.lt hN h5) rfl hc hs ?_
          refine x_icmpne (tgt := 48) C d6_longestConvoy_39 rfl (fun c7 => ?_) (fun c7 => ?_)
          · replace h := ite_p c7 h
            refine r_iload_n C d6_longestConvoy_42 rfl ?_
            refine r_iconst C d6_longestConvoy_43 ?_
            refine r_iadd C d6_longestConvoy_44 ?_
            refine r_goto (tgt := 49) C d6_longestConvoy_45 rfl ?_
            cases h
            exact AtH.sw J10 ⟨rfl, rfl, rfl, trivial⟩
          · replace h := ite_m c7 h
            refine r_iconst C d6_longestConvoy_48 ?_
            cases h
            exact AtH.sw J10 ⟨rfl, rfl, rfl, trivial⟩
      refine x_istore_n hx C d6_longestConvoy_49 rfl ?_
      refine r_iload_n C d6_longestConvoy_50 rfl ?_
      refine r_iload_n C d6_longestConvoy_51 rfl ?_
      refine x_icmple (tgt := 57) C d6_longestConvoy_52 rfl (fun c11 => ?_) (fun c11 => ?_)
      · replace h := ite_p c11 h
        refine x_iinc hx C d6_longestConvoy_57 rfl rfl ?_
        refine r_goto (tgt := 11) C d6_longestConvoy_60 rfl ?_
        exact AtH.sw (ih h K) ⟨rfl, rfl, rfl, rfl, trivial⟩
      · replace h := ite_m c11 h
        refine r_iload_n C d6_longestConvoy_55 rfl ?_
        refine x_istore_n hx C d6_longestConvoy_56 rfl ?_
        refine x_iinc hx C d6_longestConvoy_57 rfl rfl ?_
        refine r_goto (tgt := 11) C d6_longestConvoy_60 rfl ?_
        exact AtH.sw (ih h K) ⟨rfl, rfl, rfl, rfl, trivial⟩
def f6_longestConvoy (V : VV) : Option (Int × VV) := bd (f6_longestConvoy_L11 (up2 V 148 9 0) FU 0 0 0) (fun y12 => some (y12, up2 V 148 9 0))
theorem ev6_longestConvoy {G : GT} {l : Launch} {V : VV} {r : Int} {V1 : VV} (hlt : l.stackTraces = false) (hN : 154 ≤ gN G) (h : f6_longestConvoy V = some (r, V1)) : EvX G l y6_longestConvoy b6_longestConvoy 4 (some .int) 1 0 0 [.ref (gB G + 148)] V (.ok (some (vI r))) V1 := by
  refine ev_w hlt (by decide +kernel) rfl rfl (fun X hl hx C M => ?_)
  subst hl
  replace C : Cx G X "ChannelScheduleModel" b6_longestConvoy := C
  unfold f6_longestConvoy at h
  show At G X 0 0 0 [(0, .ref (gB G + 148))] [] V
  refine r_aload_n C d6_longestConvoy_0 rfl ?_
  refine r_iconst C d6_longestConvoy_1 ?_
  refine p_model_9 C d6_longestConvoy_2 f6_1 hN ?_
  refine r_iconst C d6_longestConvoy_5 ?_
  refine x_istore_n hx C d6_longestConvoy_6 rfl ?_
  refine r_iconst C d6_longestConvoy_7 ?_
  refine x_istore_n hx C d6_longestConvoy_8 rfl ?_
  refine r_iconst C d6_longestConvoy_9 ?_
  refine x_istore_n hx C d6_longestConvoy_10 rfl ?_
  obtain ⟨y12, h13, h⟩ := bd_of h
  refine AtH.sw (lp6_longestConvoy_11 hN hx C M (Nat.le_of_ble_eq_true rfl) (Nat.le_of_ble_eq_true rfl) FU h13 ?_) ⟨rfl, rfl, rfl, rfl, trivial⟩
  refine r_iload_n C d6_longestConvoy_63 rfl ?_
  exact e_iv C M d6_longestConvoy_64 (Nat.le_of_ble_eq_true rfl) (Nat.le_of_ble_eq_true rfl) h
def f6_slack_L26 (V : VV) (x1 : Int) : Nat → Int → Option (Int)
  | 0, _ => none
  | n + 1, x2 => bd (f6_ofBooking V x1 2) (fun r12 => (if nrm 999 ≤ nrm (r12 + x2) then some x2 else bd (f6_ofBooking V x1 2) (fun r15 => bd (f6_fitsAt V x1 ((r15 + x2) + 1)) (fun r17 => (if nrm r17 = 0 then some x2 else f6_slack_L26 V x1 n (x2 + 1))))))
theorem lp6_slack_26 {G : GT} {X : CT} {cells slots : Nat} {V : VV} (hN : 154 ≤ gN G) (hx : xN X = 3) (C : Cx G X "ChannelScheduleModel" b6_slack) {x1 : Int} {o0 : Except String (Option Value)} {V9 : VV} (M : MX G X 4 0 0 (some .int) o0 V9) (hc : cells ≤ 0) (hs : slots ≤ 0) : ∀ (n : Nat) {x2 : Int} {e2 : Int}, f6_slack_L26 V x1 n x2 = some (e2) → At G X cells slots 64 [(2, vI e2)] [] V → At G X cells slots 26 [(0, .ref (gB G + 148)), (1, vI x1), (2, vI x2)] [] V := by
  intro n
  induction n with
  | zero => intro x2 e2 h _; exact nomatch h
  | succ n ih =>
    intro x2 e2 h K
    rw [f6_slack_L26] at h
    refine r_aload_n C d6_slack_26 rfl ?_
    refine r_iload_n C d6_slack_27 rfl ?_
    refine r_iconst C d6_slack_28 ?_
    obtain ⟨r12, h11, h⟩ := bd_of h
    refine cV2_i C M d6_slack_29 l6_91 w6_ofBooking (rc_model hN) (ev6_ofBooking C.lt hN h11) rfl hc hs ?_
    refine r_iload_n C d6_slack_32 rfl ?_
    refine r_iadd C d6_slack_33 ?_
    refine r_sipush C d6_slack_34 (by decide +kernel) ?_
    refine x_icmpge (tgt := 64) C d6_slack_37 rfl (fun c13 => ?_) (fun c13 => ?_)
    · replace h := ite_p c13 h
      cases h
      exact AtH.sw K ⟨rfl, trivial⟩
    · replace h := ite_m c13 h
      refine r_aload_n C d6_slack_40 rfl ?_
      refine r_iload_n C d6_slack_41 rfl ?_
      refine r_aload_n C d6_slack_42 rfl ?_
      refine r_iload_n C d6_slack_43 rfl ?_
      refine r_iconst C d6_slack_44 ?_
      obtain ⟨r15, h14, h⟩ := bd_of h
      refine cV2_i C M d6_slack_45 l6_91 w6_ofBooking (rc_model hN) (ev6_ofBooking C.lt hN h14) rfl hc hs ?_
      refine r_iload_n C d6_slack_48 rfl ?_
      refine r_iadd C d6_slack_49 ?_
      refine r_iconst C d6_slack_50 ?_
      refine r_iadd C d6_slack_51 ?_
      obtain ⟨r17, h16, h⟩ := bd_of h
      refine cV2_i C M d6_slack_52 l6_141 w6_fitsAt (rc_model hN) (ev6_fitsAt C.lt hN h16) rfl hc hs ?_
      refine x_ifeq (tgt := 64) C d6_slack_55 rfl (fun c18 => ?_) (fun c18 => ?_)
      · replace h := ite_p c18 h
        cases h
        exact AtH.sw K ⟨rfl, trivial⟩
      · replace h := ite_m c18 h
        refine x_iinc hx C d6_slack_58 rfl rfl ?_
        refine r_goto (tgt := 26) C d6_slack_61 rfl ?_
        exact AtH.sw (ih h K) ⟨rfl, rfl, rfl, trivial⟩
def f6_slack (V : VV) (x1 : Int) : Option (Int × VV) := bd (f6_isBooking V x1) (fun r2 => bd ((if nrm r2 = 0 then some (1) else some (0))) (fun y4 => bd2 (f6_fails V y4 0 0) (fun r8 W9 => (if nrm r8 = 0 then bd (f6_slack_L26 W9 x1 FU 0) (fun y19 => some (y19, W9)) else some (0, W9)))))
theorem ev6_slack {G : GT} {l : Launch} {V : VV} {x1 : Int} {r : Int} {V1 : VV} (hlt : l.stackTraces = false) (hN : 154 ≤ gN G) (h : f6_slack V x1 = some (r, V1)) : EvX G l y6_slack b6_slack 3 (some .int) 4 0 0 [.ref (gB G + 148), vI x1] V (.ok (some (vI r))) V1 := by
  refine ev_w hlt (by decide +kernel) rfl rfl (fun X hl hx C M => ?_)
  subst hl
  replace C : Cx G X "ChannelScheduleModel" b6_slack := C
  unfold f6_slack at h
  show At G X 0 0 0 [(0, .ref (gB G + 148)), (1, vI x1)] [] V
  refine r_aload_n C d6_slack_0 rfl ?_
  refine r_aload_n C d6_slack_1 rfl ?_
  refine r_iload_n C d6_slack_2 rfl ?_
  obtain ⟨r2, h1, h⟩ := bd_of h
  refine cV1_i C M d6_slack_3 l6_235 w6_isBooking (rc_model hN) (ev6_isBooking C.lt hN h1) rfl (Nat.le_of_ble_eq_true rfl) (Nat.le_of_ble_eq_true rfl) ?_
  obtain ⟨y4, h5, h⟩ := bd_of h
  suffices J6 : At G X 0 0 14 [(0, .ref (gB G + 148)), (1, vI x1)] [vI y4, .ref (gB G + 148)] V by
    replace h := h5
    refine x_ifne (tgt := 13) C d6_slack_6 rfl (fun c3 => ?_) (fun c3 => ?_)
    · replace h := ite_p c3 h
      refine r_iconst C d6_slack_9 ?_
      refine r_goto (tgt := 14) C d6_slack_10 rfl ?_
      cases h
      exact AtH.sw J6 ⟨rfl, rfl, trivial⟩
    · replace h := ite_m c3 h
      refine r_iconst C d6_slack_13 ?_
      cases h
      exact AtH.sw J6 ⟨rfl, rfl, trivial⟩
  refine r_iconst C d6_slack_14 ?_
  refine r_iconst C d6_slack_15 ?_
  obtain ⟨r8, W9, h7, h⟩ := bd2_of h
  refine cV3_i C M d6_slack_16 l6_148 w6_fails (rc_model hN) (ev6_fails C.lt hN h7) rfl (Nat.le_of_ble_eq_true rfl) (Nat.le_of_ble_eq_true rfl) ?_
  refine x_ifeq (tgt := 24) C d6_slack_19 rfl (fun c10 => ?_) (fun c10 => ?_)
  · replace h := ite_p c10 h
    refine r_iconst C d6_slack_24 ?_
    refine x_istore_n hx C d6_slack_25 rfl ?_
    obtain ⟨y19, h20, h⟩ := bd_of h
    refine AtH.sw (lp6_slack_26 hN hx C M (Nat.le_of_ble_eq_true rfl) (Nat.le_of_ble_eq_true rfl) FU h20 ?_) ⟨rfl, rfl, rfl, trivial⟩
    refine r_iload_n C d6_slack_64 rfl ?_
    exact e_iv C M d6_slack_65 (Nat.le_of_ble_eq_true rfl) (Nat.le_of_ble_eq_true rfl) h
  · replace h := ite_m c10 h
    refine r_iconst C d6_slack_22 ?_
    exact e_iv C M d6_slack_23 (Nat.le_of_ble_eq_true rfl) (Nat.le_of_ble_eq_true rfl) h
def f6_whyNotMovable (V : VV) (x1 : Int) (x2 : Int) : Option (Int × VV) := bd (f6_isBooking V x1) (fun r2 => bd ((if nrm r2 = 0 then some (1) else some (0))) (fun y4 => bd (f6_in V x2 0 999) (fun r8 => bd ((if nrm r8 = 0 then some (1) else some (0))) (fun y10 => bd2 (f6_fails V y4 y10 0) (fun r14 W15 => (if nrm r14 = 0 then bd (f6_movingReason W15 x1 x2) (fun r18 => some (r18, W15)) else some (0, W15)))))))
theorem ev6_whyNotMovable {G : GT} {l : Launch} {V : VV} {x1 : Int} {x2 : Int} {r : Int} {V1 : VV} (hlt : l.stackTraces = false) (hN : 154 ≤ gN G) (h : f6_whyNotMovable V x1 x2 = some (r, V1)) : EvX G l y6_whyNotMovable b6_whyNotMovable 3 (some .int) 5 0 0 [.ref (gB G + 148), vI x1, vI x2] V (.ok (some (vI r))) V1 := by
  refine ev_w hlt (by decide +kernel) rfl rfl (fun X hl hx C M => ?_)
  subst hl
  replace C : Cx G X "ChannelScheduleModel" b6_whyNotMovable := C
  unfold f6_whyNotMovable at h
  show At G X 0 0 0 [(0, .ref (gB G + 148)), (1, vI x1), (2, vI x2)] [] V
  refine r_aload_n C d6_whyNotMovable_0 rfl ?_
  refine r_aload_n C d6_whyNotMovable_1 rfl ?_
  refine r_iload_n C d6_whyNotMovable_2 rfl ?_
  obtain ⟨r2, h1, h⟩ := bd_of h
  refine cV1_i C M d6_whyNotMovable_3 l6_235 w6_isBooking (rc_model hN) (ev6_isBooking C.lt hN h1) rfl (Nat.le_of_ble_eq_true rfl) (Nat.le_of_ble_eq_true rfl) ?_
  obtain ⟨y4, h5, h⟩ := bd_of h
  suffices J6 : At G X 0 0 14 [(0, .ref (gB G + 148)), (1, vI x1), (2, vI x2)] [vI y4, .ref (gB G + 148)] V by
    replace h := h5
    refine x_ifne (tgt := 13) C d6_whyNotMovable_6 rfl (fun c3 => ?_) (fun c3 => ?_)
    · replace h := ite_p c3 h
      refine r_iconst C d6_whyNotMovable_9 ?_
      refine r_goto (tgt := 14) C d6_whyNotMovable_10 rfl ?_
      cases h
      exact AtH.sw J6 ⟨rfl, rfl, rfl, trivial⟩
    · replace h := ite_m c3 h
      refine r_iconst C d6_whyNotMovable_13 ?_
      cases h
      exact AtH.sw J6 ⟨rfl, rfl, rfl, trivial⟩
  refine r_iload_n C d6_whyNotMovable_14 rfl ?_
  refine r_iconst C d6_whyNotMovable_15 ?_
  refine r_sipush C d6_whyNotMovable_16 (by decide +kernel) ?_
  obtain ⟨r8, h7, h⟩ := bd_of h
  refine cS3_i C M d6_whyNotMovable_19 l6_75 w6_in (ev6_in C.lt hN h7) rfl (Nat.le_of_ble_eq_true rfl) (Nat.le_of_ble_eq_true rfl) ?_
  obtain ⟨y10, h11, h⟩ := bd_of h
  suffices J12 : At G X 0 0 30 [(0, .ref (gB G + 148)), (1, vI x1), (2, vI x2)] [vI y10, vI y4, .ref (gB G + 148)] V by
    replace h := h11
    refine x_ifne (tgt := 29) C d6_whyNotMovable_22 rfl (fun c9 => ?_) (fun c9 => ?_)
    · replace h := ite_p c9 h
      refine r_iconst C d6_whyNotMovable_25 ?_
      refine r_goto (tgt := 30) C d6_whyNotMovable_26 rfl ?_
      cases h
      exact AtH.sw J12 ⟨rfl, rfl, rfl, trivial⟩
    · replace h := ite_m c9 h
      refine r_iconst C d6_whyNotMovable_29 ?_
      cases h
      exact AtH.sw J12 ⟨rfl, rfl, rfl, trivial⟩
  refine r_iconst C d6_whyNotMovable_30 ?_
  obtain ⟨r14, W15, h13, h⟩ := bd2_of h
  refine cV3_i C M d6_whyNotMovable_31 l6_148 w6_fails (rc_model hN) (ev6_fails C.lt hN h13) rfl (Nat.le_of_ble_eq_true rfl) (Nat.le_of_ble_eq_true rfl) ?_
  refine x_ifeq (tgt := 39) C d6_whyNotMovable_34 rfl (fun c16 => ?_) (fun c16 => ?_)
  · replace h := ite_p c16 h
    refine r_aload_n C d6_whyNotMovable_39 rfl ?_
    refine r_iload_n C d6_whyNotMovable_40 rfl ?_
    refine r_iload_n C d6_whyNotMovable_41 rfl ?_
    obtain ⟨r18, h17, h⟩ := bd_of h
    refine cV2_i C M d6_whyNotMovable_42 l6_241 w6_movingReason (rc_model hN) (ev6_movingReason C.lt hN h17) rfl (Nat.le_of_ble_eq_true rfl) (Nat.le_of_ble_eq_true rfl) ?_
    exact e_iv C M d6_whyNotMovable_45 (Nat.le_of_ble_eq_true rfl) (Nat.le_of_ble_eq_true rfl) h
  · replace h := ite_m c16 h
    refine r_iconst C d6_whyNotMovable_37 ?_
    exact e_iv C M d6_whyNotMovable_38 (Nat.le_of_ble_eq_true rfl) (Nat.le_of_ble_eq_true rfl) h
def f6_requestCount (V : VV) : Option (Int × VV) := bd2 (f6_plain V (V 149 6)) (fun r2 W3 => some (r2, W3))
theorem ev6_requestCount {G : GT} {l : Launch} {V : VV} {r : Int} {V1 : VV} (hlt : l.stackTraces = false) (hN : 154 ≤ gN G) (h : f6_requestCount V = some (r, V1)) : EvX G l y6_requestCount b6_requestCount 1 (some .int) 1 0 0 [.ref (gB G + 148)] V (.ok (some (vI r))) V1 := by
  refine ev_w hlt (by decide +kernel) rfl rfl (fun X hl hx C M => ?_)
  subst hl
  replace C : Cx G X "ChannelScheduleModel" b6_requestCount := C
  unfold f6_requestCount at h
  show At G X 0 0 0 [(0, .ref (gB G + 148))] [] V
  refine r_aload_n C d6_requestCount_0 rfl ?_
  refine r_aload_n C d6_requestCount_1 rfl ?_
  refine g_model_0 C d6_requestCount_2 f6_13 hN ?_
  refine r_bipush C d6_requestCount_5 (by decide +kernel) ?_
  refine x_iald C d6_requestCount_7 (ra_m hN) (by omega) ?_
  obtain ⟨r2, W3, h1, h⟩ := bd2_of h
  refine cV1_i C M d6_requestCount_8 l6_265 w6_plain (rc_model hN) (ev6_plain C.lt hN h1) rfl (Nat.le_of_ble_eq_true rfl) (Nat.le_of_ble_eq_true rfl) ?_
  exact e_iv C M d6_requestCount_11 (Nat.le_of_ble_eq_true rfl) (Nat.le_of_ble_eq_true rfl) h
def f6_requestField (V : VV) (x1 : Int) (x2 : Int) : Option (Int × VV) := bd (f6_isRequest V x1) (fun r2 => bd ((if nrm r2 = 0 then some (1) else some (0))) (fun y4 => bd2 (f6_fails V y4 0 0) (fun r8 W9 => (if nrm r8 = 0 then bd (f6_ofRequest W9 x1 x2) (fun r12 => some (r12, W9)) else some (0, W9)))))
theorem ev6_requestField {G : GT} {l : Launch} {V : VV} {x1 : Int} {x2 : Int} {r : Int} {V1 : VV} (hlt : l.stackTraces = false) (hN : 154 ≤ gN G) (h : f6_requestField V x1 x2 = some (r, V1)) : EvX G l y6_requestField b6_requestField 3 (some .int) 2 0 0 [.ref (gB G + 148), vI x1, vI x2] V (.ok (some (vI r))) V1 := by
  refine ev_w hlt (by decide +kernel) rfl rfl (fun X hl hx C M => ?_)
  subst hl
  replace C : Cx G X "ChannelScheduleModel" b6_requestField := C
  unfold f6_requestField at h
  show At G X 0 0 0 [(0, .ref (gB G + 148)), (1, vI x1), (2, vI x2)] [] V
  refine r_aload_n C d6_requestField_0 rfl ?_
  refine r_aload_n C d6_requestField_1 rfl ?_
  refine r_iload_n C d6_requestField_2 rfl ?_
  obtain ⟨r2, h1, h⟩ := bd_of h
  refine cV1_i C M d6_requestField_3 l6_247 w6_isRequest (rc_model hN) (ev6_isRequest C.lt hN h1) rfl (Nat.le_of_ble_eq_true rfl) (Nat.le_of_ble_eq_true rfl) ?_
  obtain ⟨y4, h5, h⟩ := bd_of h
  suffices J6 : At G X 0 0 14 [(0, .ref (gB G + 148)), (1, vI x1), (2, vI x2)] [vI y4, .ref (gB G + 148)] V by
    replace h := h5
    refine x_ifne (tgt := 13) C d6_requestField_6 rfl (fun c3 => ?_) (fun c3 => ?_)
    · replace h := ite_p c3 h
      refine r_iconst C d6_requestField_9 ?_
      refine r_goto (tgt := 14) C d6_requestField_10 rfl ?_
      cases h
      exact AtH.sw J6 ⟨rfl, rfl, rfl, trivial⟩
    · replace h := ite_m c3 h
      refine r_iconst C d6_requestField_13 ?_
      cases h
      exact AtH.sw J6 ⟨rfl, rfl, rfl, trivial⟩
  refine r_iconst C d6_requestField_14 ?_
  refine r_iconst C d6_requestField_15 ?_
  obtain ⟨r8, W9, h7, h⟩ := bd2_of h
  refine cV3_i C M d6_requestField_16 l6_148 w6_fails (rc_model hN) (ev6_fails C.lt hN h7) rfl (Nat.le_of_ble_eq_true rfl) (Nat.le_of_ble_eq_true rfl) ?_
  refine x_ifeq (tgt := 24) C d6_requestField_19 rfl (fun c10 => ?_) (fun c10 => ?_)
  · replace h := ite_p c10 h
    refine r_aload_n C d6_requestField_24 rfl ?_
    refine r_iload_n C d6_requestField_25 rfl ?_
    refine r_iload_n C d6_requestField_26 rfl ?_
    obtain ⟨r12, h11, h⟩ := bd_of h
    refine cV2_i C M d6_requestField_27 l6_114 w6_ofRequest (rc_model hN) (ev6_ofRequest C.lt hN h11) rfl (Nat.le_of_ble_eq_true rfl) (Nat.le_of_ble_eq_true rfl) ?_
    exact e_iv C M d6_requestField_30 (Nat.le_of_ble_eq_true rfl) (Nat.le_of_ble_eq_true rfl) h
  · replace h := ite_m c10 h
    refine r_iconst C d6_requestField_22 ?_
    exact e_iv C M d6_requestField_23 (Nat.le_of_ble_eq_true rfl) (Nat.le_of_ble_eq_true rfl) h
def f6_requestedShip (V : VV) (x1 : Int) : Option (Int × VV) := bd2 (f6_requestField V x1 0) (fun r2 W3 => some (r2, W3))
theorem ev6_requestedShip {G : GT} {l : Launch} {V : VV} {x1 : Int} {r : Int} {V1 : VV} (hlt : l.stackTraces = false) (hN : 154 ≤ gN G) (h : f6_requestedShip V x1 = some (r, V1)) : EvX G l y6_requestedShip b6_requestedShip 2 (some .int) 3 0 0 [.ref (gB G + 148), vI x1] V (.ok (some (vI r))) V1 := by
  refine ev_w hlt (by decide +kernel) rfl rfl (fun X hl hx C M => ?_)
  subst hl
  replace C : Cx G X "ChannelScheduleModel" b6_requestedShip := C
  unfold f6_requestedShip at h
  show At G X 0 0 0 [(0, .ref (gB G + 148)), (1, vI x1)] [] V
  refine r_aload_n C d6_requestedShip_0 rfl ?_
  refine r_iload_n C d6_requestedShip_1 rfl ?_
  refine r_iconst C d6_requestedShip_2 ?_
  obtain ⟨r2, W3, h1, h⟩ := bd2_of h
  refine cV2_i C M d6_requestedShip_3 l6_280 w6_requestField (rc_model hN) (ev6_requestField C.lt hN h1) rfl (Nat.le_of_ble_eq_true rfl) (Nat.le_of_ble_eq_true rfl) ?_
  exact e_iv C M d6_requestedShip_6 (Nat.le_of_ble_eq_true rfl) (Nat.le_of_ble_eq_true rfl) h
def f6_isRequestInbound (V : VV) (x1 : Int) : Option (Int × VV) := bd2 (f6_requestField V x1 1) (fun r2 W3 => (if nrm r2 = nrm 1 then some (1, W3) else some (0, W3)))
theorem ev6_isRequestInbound {G : GT} {l : Launch} {V : VV} {x1 : Int} {r : Int} {V1 : VV} (hlt : l.stackTraces = false) (hN : 154 ≤ gN G) (h : f6_isRequestInbound V x1 = some (r, V1)) : EvX G l y6_isRequestInbound b6_isRequestInbound 2 (some .boolean) 3 0 0 [.ref (gB G + 148), vI x1] V (.ok (some (vI r))) V1 := by
  refine ev_w hlt (by decide +kernel) rfl rfl (fun X hl hx C M => ?_)
  subst hl
  replace C : Cx G X "ChannelScheduleModel" b6_isRequestInbound := C
  unfold f6_isRequestInbound at h
  show At G X 0 0 0 [(0, .ref (gB G + 148)), (1, vI x1)] [] V
  refine r_aload_n C d6_isRequestInbound_0 rfl ?_
  refine r_iload_n C d6_isRequestInbound_1 rfl ?_
  refine r_iconst C d6_isRequestInbound_2 ?_
  obtain ⟨r2, W3, h1, h⟩ := bd2_of h
  refine cV2_i C M d6_isRequestInbound_3 l6_280 w6_requestField (rc_model hN) (ev6_requestField C.lt hN h1) rfl (Nat.le_of_ble_eq_true rfl) (Nat.le_of_ble_eq_true rfl) ?_
  refine r_iconst C d6_isRequestInbound_6 ?_
  refine x_icmpne (tgt := 14) C d6_isRequestInbound_7 rfl (fun c4 => ?_) (fun c4 => ?_)
  · replace h := ite_p c4 h
    refine r_iconst C d6_isRequestInbound_10 ?_
    refine r_goto (tgt := 15) C d6_isRequestInbound_11 rfl ?_
    exact e_zv C M d6_isRequestInbound_15 (Nat.le_of_ble_eq_true rfl) (Nat.le_of_ble_eq_true rfl) (Or.inr rfl) h
  · replace h := ite_m c4 h
    refine r_iconst C d6_isRequestInbound_14 ?_
    exact e_zv C M d6_isRequestInbound_15 (Nat.le_of_ble_eq_true rfl) (Nat.le_of_ble_eq_true rfl) (Or.inl rfl) h
