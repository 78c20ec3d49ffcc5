/-! walks of the class, 3 (printed by walk.py) -/
def f5_freezeNow (V : VV) (x1 : Int) : Option (Int × VV) := bd2 (f5_serveWaiting (up2 V (aP 0) 0 x1)) (fun r2 W3 => some (r2, W3))
theorem ev5_freezeNow {G : GT} {l : Launch} {V : VV} {x1 : Int} {r : Int} {V1 : VV} (hlt : l.stackTraces = false) (hN : 148 ≤ gN G) (h : f5_freezeNow V x1 = some (r, V1)) : EvX G l y5_freezeNow b5_freezeNow 2 (some .int) 4 0 0 [.ref (gB G + 0), vI x1] V (.ok (some (vI r))) V1 := by
  refine ev_w hlt (by decide +kernel) rfl rfl (fun X hl hx C M => ?_)
  subst hl
  replace C : Cx G X "ChannelSchedule" b5_freezeNow := C
  unfold f5_freezeNow at h
  show At G X 0 0 0 [(0, .ref (gB G + 0)), (1, vI x1)] [] V
  refine r_aload_n C d5_freezeNow_0 rfl ?_
  refine g_main_4 C d5_freezeNow_1 f5_36 hN ?_
  refine r_iload_n C d5_freezeNow_4 rfl ?_
  refine p_plan_0 C d5_freezeNow_5 f5_126 hN p0 ?_
  refine r_aload_n C d5_freezeNow_8 rfl ?_
  obtain ⟨r2, W3, h1, h⟩ := bd2_of h
  refine cV0_i C M d5_freezeNow_9 l5_376 w5_serveWaiting (rc_main hN) (ev5_serveWaiting C.lt hN h1) rfl (Nat.le_of_ble_eq_true rfl) (Nat.le_of_ble_eq_true rfl) ?_
  exact e_iv C M d5_freezeNow_12 (Nat.le_of_ble_eq_true rfl) (Nat.le_of_ble_eq_true rfl) h
def f5_setThickness (V : VV) (x1 : Int) : Option (Int × VV) := bd (f5_isWithin V x1 0 9) (fun r2 => ck (¬ nrm r2 = 0) (bd (f5_remember V) (fun W5 => bd2 (f5_freezeNow W5 x1) (fun r7 W8 => some (r7, W8)))))
theorem ev5_setThickness {G : GT} {l : Launch} {V : VV} {x1 : Int} {r : Int} {V1 : VV} (hlt : l.stackTraces = false) (hN : 148 ≤ gN G) (h : f5_setThickness V x1 = some (r, V1)) : EvX G l y5_setThickness b5_setThickness 2 (some .int) 5 0 0 [.ref (gB G + 0), vI x1] V (.ok (some (vI r))) V1 := by
  refine ev_w hlt (by decide +kernel) rfl rfl (fun X hl hx C M => ?_)
  subst hl
  replace C : Cx G X "ChannelSchedule" b5_setThickness := C
  unfold f5_setThickness at h
  show At G X 0 0 0 [(0, .ref (gB G + 0)), (1, vI x1)] [] V
  refine r_iload_n C d5_setThickness_0 rfl ?_
  refine r_iconst C d5_setThickness_1 ?_
  refine r_bipush C d5_setThickness_2 (by decide +kernel) ?_
  obtain ⟨r2, h1, h⟩ := bd_of h
  refine cS3_i C M d5_setThickness_4 l5_104 w5_isWithin (ev5_isWithin C.lt hN h1) rfl (Nat.le_of_ble_eq_true rfl) (Nat.le_of_ble_eq_true rfl) ?_
  obtain ⟨c3, h⟩ := ck_of h
  refine cS1_v C M d5_setThickness_7 l5_108 w5_requireArgument (ev5_requireArgument C.lt c3) rfl (Nat.le_of_ble_eq_true rfl) (Nat.le_of_ble_eq_true rfl) ?_
  refine r_aload_n C d5_setThickness_10 rfl ?_
  obtain ⟨W5, h4, h⟩ := bd_of h
  refine cV0_v C M d5_setThickness_11 l5_284 w5_remember (rc_main hN) (ev5_remember C.lt hN h4) rfl (Nat.le_of_ble_eq_true rfl) (Nat.le_of_ble_eq_true rfl) ?_
  refine r_aload_n C d5_setThickness_14 rfl ?_
  refine r_iload_n C d5_setThickness_15 rfl ?_
  obtain ⟨r7, W8, h6, h⟩ := bd2_of h
  refine cV1_i C M d5_setThickness_16 l5_309 w5_freezeNow (rc_main hN) (ev5_freezeNow C.lt hN h6) rfl (Nat.le_of_ble_eq_true rfl) (Nat.le_of_ble_eq_true rfl) ?_
  exact e_iv C M d5_setThickness_19 (Nat.le_of_ble_eq_true rfl) (Nat.le_of_ble_eq_true rfl) h
def f5_advanceFault (V : VV) (x1 : Int) : Option Int := bd (f5_isWithin V x1 1 500) (fun r2 => (if nrm r2 = 0 then some 2 else (if nrm ((V (aP 0) 1) + x1) ≤ nrm 1200 then some 0 else some 3)))
theorem ev5_advanceFault {G : GT} {l : Launch} {V : VV} {x1 : Int} {r : Int} (hlt : l.stackTraces = false) (hN : 148 ≤ gN G) (h : f5_advanceFault V x1 = some r) : EvX G l y5_advanceFault b5_advanceFault 2 (some .int) 1 0 0 [.ref (gB G + 0), vI x1] V (.ok (some (vI r))) V := by
  refine ev_w hlt (by decide +kernel) rfl rfl (fun X hl hx C M => ?_)
  subst hl
  replace C : Cx G X "ChannelSchedule" b5_advanceFault := C
  unfold f5_advanceFault at h
  show At G X 0 0 0 [(0, .ref (gB G + 0)), (1, vI x1)] [] V
  refine r_iload_n C d5_advanceFault_0 rfl ?_
  refine r_iconst C d5_advanceFault_1 ?_
  refine r_sipush C d5_advanceFault_2 (by decide +kernel) ?_
  obtain ⟨r2, h1, h⟩ := bd_of h
  refine cS3_i C M d5_advanceFault_5 l5_104 w5_isWithin (ev5_isWithin C.lt hN h1) rfl (Nat.le_of_ble_eq_true rfl) (Nat.le_of_ble_eq_true rfl) ?_
  refine x_ifne (tgt := 13) C d5_advanceFault_8 rfl (fun c3 => ?_) (fun c3 => ?_)
  · replace h := ite_p c3 h
    refine r_iconst C d5_advanceFault_11 ?_
    exact e_i C M d5_advanceFault_12 (Nat.le_of_ble_eq_true rfl) (Nat.le_of_ble_eq_true rfl) h
  · replace h := ite_m c3 h
    refine r_aload_n C d5_advanceFault_13 rfl ?_
    refine g_main_4 C d5_advanceFault_14 f5_36 hN ?_
    refine g_plan_1 C d5_advanceFault_17 f5_129 hN p0 ?_
    refine r_iload_n C d5_advanceFault_20 rfl ?_
    refine r_iadd C d5_advanceFault_21 ?_
    refine r_sipush C d5_advanceFault_22 (by decide +kernel) ?_
    refine x_icmple (tgt := 32) C d5_advanceFault_25 rfl (fun c4 => ?_) (fun c4 => ?_)
    · replace h := ite_p c4 h
      refine r_iconst C d5_advanceFault_32 ?_
      exact e_i C M d5_advanceFault_33 (Nat.le_of_ble_eq_true rfl) (Nat.le_of_ble_eq_true rfl) h
    · replace h := ite_m c4 h
      refine r_iconst C d5_advanceFault_28 ?_
      refine r_goto (tgt := 33) C d5_advanceFault_29 rfl ?_
      exact e_i C M d5_advanceFault_33 (Nat.le_of_ble_eq_true rfl) (Nat.le_of_ble_eq_true rfl) h
def f5_advanceNow_L26 (V : VV) (x2 : Int) : Nat → Int → Int → Option (Int)
  | 0, _, _ => none
  | n + 1, x3, x4 => (if nrm (V (aP 0) 5) ≤ nrm x4 then some x3 else ck ((0:Int) ≤ x4 ∧ x4 < 20) ((if nrm (V (aP 0 + 4) (Int.toNat x4)) ≤ nrm x2 then f5_advanceNow_L26 V x2 n x3 (x4 + 1) else (if nrm (V (aP 0) 1) < nrm (V (aP 0 + 4) (Int.toNat x4)) then f5_advanceNow_L26 V x2 n x3 (x4 + 1) else f5_advanceNow_L26 V x2 n (x3 + 1) (x4 + 1)))))
theorem lp5_advanceNow_26 {G : GT} {X : CT} {cells slots : Nat} {V : VV} (hN : 148 ≤ gN G) (hx : xN X = 5) (C : Cx G X "ChannelSchedule" b5_advanceNow) {x2 : Int} {o0 : Except String (Option Value)} {V9 : VV} (M : MX G X 0 0 0 (some .int) o0 V9) (hc : cells ≤ 0) (hs : slots ≤ 0) : ∀ (n : Nat) {x3 : Int} {x4 : Int} {e3 : Int}, f5_advanceNow_L26 V x2 n x3 x4 = some (e3) → At G X cells slots 81 [(3, vI e3)] [] V → At G X cells slots 26 [(0, .ref (gB G + 0)), (2, vI x2), (3, vI x3), (4, vI x4)] [] V := by
  intro n
  induction n with
  | zero => intro x3 x4 e3 h _; exact nomatch h
  | succ n ih =>
    intro x3 x4 e3 h K
    rw [f5_advanceNow_L26] at h
    refine r_iload C d5_advanceNow_26 rfl ?_
    refine r_aload_n C d5_advanceNow_28 rfl ?_
    refine g_main_4 C d5_advanceNow_29 f5_36 hN ?_
    refine g_plan_5 C d5_advanceNow_32 f5_175 hN p0 ?_
    refine x_icmpge (tgt := 81) C d5_advanceNow_35 rfl (fun c1 => ?_) (fun c1 => ?_)
    · replace h := ite_p c1 h
      cases h
      exact AtH.sw K ⟨rfl, trivial⟩
    · replace h := ite_m c1 h
      refine r_aload_n C d5_advanceNow_38 rfl ?_
      refine g_main_4 C d5_advanceNow_39 f5_36 hN ?_
      refine g_plan_9 C d5_advanceNow_42 f5_186 hN p0 ?_
      refine r_iload C d5_advanceNow_45 rfl ?_
      obtain ⟨c2, h⟩ := ck_of h
      refine x_iald C d5_advanceNow_47 (ra_plan4 hN p0) c2 ?_
      refine r_iload_n C d5_advanceNow_48 rfl ?_
      refine x_icmple (tgt := 75) C d5_advanceNow_49 rfl (fun c3 => ?_) (fun c3 => ?_)
      · replace h := ite_p c3 h
        refine x_iinc hx C d5_advanceNow_75 rfl rfl ?_
        refine r_goto (tgt := 26) C d5_advanceNow_78 rfl ?_
        exact AtH.sw (ih h K) ⟨rfl, rfl, rfl, rfl, trivial⟩
      · replace h := ite_m c3 h
        refine r_aload_n C d5_advanceNow_52 rfl ?_
        refine g_main_4 C d5_advanceNow_53 f5_36 hN ?_
        refine g_plan_9 C d5_advanceNow_56 f5_186 hN p0 ?_
        refine r_iload C d5_advanceNow_59 rfl ?_
        refine x_iald C d5_advanceNow_61 (ra_plan4 hN p0) c2 ?_
        refine r_aload_n C d5_advanceNow_62 rfl ?_
        refine g_main_4 C d5_advanceNow_63 f5_36 hN ?_
        refine g_plan_1 C d5_advanceNow_66 f5_129 hN p0 ?_
        refine x_icmpgt (tgt := 75) C d5_advanceNow_69 rfl (fun c4 => ?_) (fun c4 => ?_)
        · replace h := ite_p c4 h
          refine x_iinc hx C d5_advanceNow_75 rfl rfl ?_
          refine r_goto (tgt := 26) C d5_advanceNow_78 rfl ?_
          exact AtH.sw (ih h K) ⟨rfl, rfl, rfl, rfl, trivial⟩
        · replace h := ite_m c4 h
          refine x_iinc hx C d5_advanceNow_72 rfl rfl ?_
          refine x_iinc hx C d5_advanceNow_75 rfl rfl ?_
          refine r_goto (tgt := 26) C d5_advanceNow_78 rfl ?_
          exact AtH.sw (ih h K) ⟨rfl, rfl, rfl, rfl, trivial⟩
def f5_advanceNow (V : VV) (x1 : Int) : Option (Int × VV) := bd (f5_advanceNow_L26 (up2 V (aP 0) 1 ((V (aP 0) 1) + x1)) (V (aP 0) 1) FU 0 0) (fun y5 => some (y5, up2 V (aP 0) 1 ((V (aP 0) 1) + x1)))
theorem ev5_advanceNow {G : GT} {l : Launch} {V : VV} {x1 : Int} {r : Int} {V1 : VV} (hlt : l.stackTraces = false) (hN : 148 ≤ gN G) (h : f5_advanceNow V x1 = some (r, V1)) : EvX G l y5_advanceNow b5_advanceNow 5 (some .int) 0 0 0 [.ref (gB G + 0), vI x1] V (.ok (some (vI r))) V1 := by
  refine ev_w hlt (by decide +kernel) rfl rfl (fun X hl hx C M => ?_)
  subst hl
  replace C : Cx G X "ChannelSchedule" b5_advanceNow := C
  unfold f5_advanceNow at h
  show At G X 0 0 0 [(0, .ref (gB G + 0)), (1, vI x1)] [] V
  refine r_aload_n C d5_advanceNow_0 rfl ?_
  refine g_main_4 C d5_advanceNow_1 f5_36 hN ?_
  refine g_plan_1 C d5_advanceNow_4 f5_129 hN p0 ?_
  refine x_istore_n hx C d5_advanceNow_7 rfl ?_
  refine r_aload_n C d5_advanceNow_8 rfl ?_
  refine g_main_4 C d5_advanceNow_9 f5_36 hN ?_
  refine r_dup C d5_advanceNow_12 rfl ?_
  refine g_plan_1 C d5_advanceNow_13 f5_129 hN p0 ?_
  refine r_iload_n C d5_advanceNow_16 rfl ?_
  refine r_iadd C d5_advanceNow_17 ?_
  refine p_plan_1 C d5_advanceNow_18 f5_129 hN p0 ?_
  refine r_iconst C d5_advanceNow_21 ?_
  refine x_istore_n hx C d5_advanceNow_22 rfl ?_
  refine r_iconst C d5_advanceNow_23 ?_
  refine x_istore hx C d5_advanceNow_24 rfl ?_
  obtain ⟨y5, h6, h⟩ := bd_of h
  refine AtH.sw (lp5_advanceNow_26 hN hx C M (Nat.le_of_ble_eq_true rfl) (Nat.le_of_ble_eq_true rfl) FU h6 ?_) ⟨rfl, rfl, rfl, rfl, trivial⟩
  refine r_iload_n C d5_advanceNow_81 rfl ?_
  exact e_iv C M d5_advanceNow_82 (Nat.le_of_ble_eq_true rfl) (Nat.le_of_ble_eq_true rfl) h
def f5_advance (V : VV) (x1 : Int) : Option (Int × VV) := bd (f5_advanceFault V x1) (fun r2 => ck (¬ nrm r2 = 1 ∧ ¬ nrm r2 = 2 ∧ ¬ nrm r2 = 3) (bd (f5_remember V) (fun W5 => bd2 (f5_advanceNow W5 x1) (fun r7 W8 => some (r7, W8)))))
theorem ev5_advance {G : GT} {l : Launch} {V : VV} {x1 : Int} {r : Int} {V1 : VV} (hlt : l.stackTraces = false) (hN : 148 ≤ gN G) (h : f5_advance V x1 = some (r, V1)) : EvX G l y5_advance b5_advance 2 (some .int) 3 0 0 [.ref (gB G + 0), vI x1] V (.ok (some (vI r))) V1 := by
  refine ev_w hlt (by decide +kernel) rfl rfl (fun X hl hx C M => ?_)
  subst hl
  replace C : Cx G X "ChannelSchedule" b5_advance := C
  unfold f5_advance at h
  show At G X 0 0 0 [(0, .ref (gB G + 0)), (1, vI x1)] [] V
  refine r_aload_n C d5_advance_0 rfl ?_
  refine r_iload_n C d5_advance_1 rfl ?_
  obtain ⟨r2, h1, h⟩ := bd_of h
  refine cV1_i C M d5_advance_2 l5_312 w5_advanceFault (rc_main hN) (ev5_advanceFault C.lt hN h1) rfl (Nat.le_of_ble_eq_true rfl) (Nat.le_of_ble_eq_true rfl) ?_
  obtain ⟨c3, h⟩ := ck_of h
  refine cS1_v C M d5_advance_5 l5_281 w5_refuse (ev5_refuse C.lt c3) rfl (Nat.le_of_ble_eq_true rfl) (Nat.le_of_ble_eq_true rfl) ?_
  refine r_aload_n C d5_advance_8 rfl ?_
  obtain ⟨W5, h4, h⟩ := bd_of h
  refine cV0_v C M d5_advance_9 l5_284 w5_remember (rc_main hN) (ev5_remember C.lt hN h4) rfl (Nat.le_of_ble_eq_true rfl) (Nat.le_of_ble_eq_true rfl) ?_
  refine r_aload_n C d5_advance_12 rfl ?_
  refine r_iload_n C d5_advance_13 rfl ?_
  obtain ⟨r7, W8, h6, h⟩ := bd2_of h
  refine cV1_i C M d5_advance_14 l5_315 w5_advanceNow (rc_main hN) (ev5_advanceNow C.lt hN h6) rfl (Nat.le_of_ble_eq_true rfl) (Nat.le_of_ble_eq_true rfl) ?_
  exact e_iv C M d5_advance_17 (Nat.le_of_ble_eq_true rfl) (Nat.le_of_ble_eq_true rfl) h
