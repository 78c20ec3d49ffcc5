/-! walks of the class, 4 (printed by walk.py) -/
def f5_requestNow (V : VV) (x1 : Int) (x2 : Int) (x3 : Int) (x4 : Int) : Option (Int × VV) := bd (f5_startToServe V x1 x2 x3 x4) (fun r2 => (if nrm r2 = nrm (-1) then bd (f1_addRequest V 0 x1 x2 x3 x4) (fun W5 => some (r2, W5)) else bd2 (f5_bookNow V x1 x2 r2) (fun r7 W8 => some (r2, W8))))
theorem ev5_requestNow {G : GT} {l : Launch} {V : VV} {x1 : Int} {x2 : Int} {x3 : Int} {x4 : Int} {r : Int} {V1 : VV} (hlt : l.stackTraces = false) (hN : 148 ≤ gN G) (h : f5_requestNow V x1 x2 x3 x4 = some (r, V1)) : EvX G l y5_requestNow b5_requestNow 6 (some .int) 3 0 0 [.ref (gB G + 0), vI x1, vI x2, vI x3, vI x4] V (.ok (some (vI r))) V1 := by
  refine ev_w hlt (by decide +kernel) rfl rfl (fun X hl hx C M => ?_)
  subst hl
  replace C : Cx G X "ChannelSchedule" b5_requestNow := C
  unfold f5_requestNow at h
  show At G X 0 0 0 [(0, .ref (gB G + 0)), (1, vI x1), (2, vI x2), (3, vI x3), (4, vI x4)] [] V
  refine r_aload_n C d5_requestNow_0 rfl ?_
  refine r_iload_n C d5_requestNow_1 rfl ?_
  refine r_iload_n C d5_requestNow_2 rfl ?_
  refine r_iload_n C d5_requestNow_3 rfl ?_
  refine r_iload C d5_requestNow_4 rfl ?_
  obtain ⟨r2, h1, h⟩ := bd_of h
  refine cV4_i C M d5_requestNow_6 l5_354 w5_startToServe (rc_main hN) (ev5_startToServe C.lt hN h1) rfl (Nat.le_of_ble_eq_true rfl) (Nat.le_of_ble_eq_true rfl) ?_
  refine x_istore hx C d5_requestNow_9 rfl ?_
  refine r_iload C d5_requestNow_11 rfl ?_
  refine r_iconst C d5_requestNow_13 ?_
  refine x_icmpne (tgt := 32) C d5_requestNow_14 rfl (fun c3 => ?_) (fun c3 => ?_)
  · replace h := ite_p c3 h
    refine r_aload_n C d5_requestNow_17 rfl ?_
    refine g_main_4 C d5_requestNow_18 f5_36 hN ?_
    refine r_iload_n C d5_requestNow_21 rfl ?_
    refine r_iload_n C d5_requestNow_22 rfl ?_
    refine r_iload_n C d5_requestNow_23 rfl ?_
    refine r_iload C d5_requestNow_24 rfl ?_
    obtain ⟨W5, h4, h⟩ := bd_of h
    refine cV4_v C M d5_requestNow_26 l5_370 w1_addRequest (rc_plan hN p0) (ev1_addRequest C.lt hN h4) rfl (Nat.le_of_ble_eq_true rfl) (Nat.le_of_ble_eq_true rfl) ?_
    refine r_goto (tgt := 41) C d5_requestNow_29 rfl ?_
    refine r_iload C d5_requestNow_41 rfl ?_
    exact e_iv C M d5_requestNow_43 (Nat.le_of_ble_eq_true rfl) (Nat.le_of_ble_eq_true rfl) h
  · replace h := ite_m c3 h
    refine r_aload_n C d5_requestNow_32 rfl ?_
    refine r_iload_n C d5_requestNow_33 rfl ?_
    refine r_iload_n C d5_requestNow_34 rfl ?_
    refine r_iload C d5_requestNow_35 rfl ?_
    obtain ⟨r7, W8, h6, h⟩ := bd2_of h
    refine cV3_i C M d5_requestNow_37 l5_287 w5_bookNow (rc_main hN) (ev5_bookNow C.lt hN h6) rfl (Nat.le_of_ble_eq_true rfl) (Nat.le_of_ble_eq_true rfl) ?_
    refine r_pop C d5_requestNow_40 rfl ?_
    refine r_iload C d5_requestNow_41 rfl ?_
    exact e_iv C M d5_requestNow_43 (Nat.le_of_ble_eq_true rfl) (Nat.le_of_ble_eq_true rfl) h
def f5_request (V : VV) (x1 : Int) (x2 : Int) (x3 : Int) (x4 : Int) : Option (Except String Int × VV) := bd (f5_requestFault V x1 x2 x3 x4) (fun r2 => if nrm r2 = 1 then some (.error "java/lang/IndexOutOfBoundsException", V) else if nrm r2 = 2 then some (.error "java/lang/IllegalArgumentException", V) else if nrm r2 = 3 then some (.error "java/lang/IllegalStateException", V) else bd (f5_remember V) (fun W7 => bd2 (f5_requestNow W7 x1 x2 x3 x4) (fun r9 W10 => some (.ok r9, W10))))
theorem ev5_request {G : GT} {l : Launch} {V : VV} {x1 : Int} {x2 : Int} {x3 : Int} {x4 : Int} {e : Except String Int} {V1 : VV} (hlt : l.stackTraces = false) (hN : 148 ≤ gN G) (hX : gX G = false) (h : f5_request V x1 x2 x3 x4 = some (e, V1)) : EvX G l y5_request b5_request 5 (some .int) 8 3 18 [.ref (gB G + 0), vI x1, vI x2, vI x3, vI x4] V (oX e) V1 := by
  refine ev_w hlt (by decide +kernel) rfl rfl (fun X hl hx C M => ?_)
  subst hl
  replace C : Cx G X "ChannelSchedule" b5_request := C
  unfold f5_request at h
  show At G X 0 0 0 [(0, .ref (gB G + 0)), (1, vI x1), (2, vI x2), (3, vI x3), (4, vI x4)] [] V
  refine r_aload_n C d5_request_0 rfl ?_
  refine r_iload_n C d5_request_1 rfl ?_
  refine r_iload_n C d5_request_2 rfl ?_
  refine r_iload_n C d5_request_3 rfl ?_
  refine r_iload C d5_request_4 rfl ?_
  obtain ⟨r2, h1, h⟩ := bd_of h
  refine cV4_i C M d5_request_6 l5_290 w5_requestFault (rc_main hN) (ev5_requestFault C.lt hN h1) rfl (Nat.le_of_ble_eq_true rfl) (Nat.le_of_ble_eq_true rfl) ?_
  refine c_ref C M d5_request_9 l5_281 w5_refuse (ev5_refuse C.lt hX) rfl (Nat.le_of_ble_eq_true rfl) (Nat.le_of_ble_eq_true rfl) (fun c => e_thr (ite_p c h)) (fun b c => e_thr (ite_p c (ite_m b h))) (fun a b c => e_thr (ite_p c (ite_m b (ite_m a h)))) (fun c3 c4 c5 => ?_)
  replace h := ite_m c5 (ite_m c4 (ite_m c3 h))
  refine r_aload_n C d5_request_12 rfl ?_
  obtain ⟨W7, h6, h⟩ := bd_of h
  refine cV0_v C M d5_request_13 l5_284 w5_remember (rc_main hN) (ev5_remember C.lt hN h6) rfl (Nat.le_of_ble_eq_true rfl) (Nat.le_of_ble_eq_true rfl) ?_
  refine r_aload_n C d5_request_16 rfl ?_
  refine r_iload_n C d5_request_17 rfl ?_
  refine r_iload_n C d5_request_18 rfl ?_
  refine r_iload_n C d5_request_19 rfl ?_
  refine r_iload C d5_request_20 rfl ?_
  obtain ⟨r9, W10, h8, h⟩ := bd2_of h
  refine cV4_i C M d5_request_22 l5_294 w5_requestNow (rc_main hN) (ev5_requestNow C.lt hN h8) rfl (Nat.le_of_ble_eq_true rfl) (Nat.le_of_ble_eq_true rfl) ?_
  exact e_it C M d5_request_25 (Nat.le_of_ble_eq_true rfl) (Nat.le_of_ble_eq_true rfl) h
def f5_cancelFault (V : VV) (x1 : Int) : Option Int := bd (f5_isBooking V x1) (fun r2 => (if nrm r2 = 0 then some 1 else ck ((0:Int) ≤ x1 ∧ x1 < 20) ((if nrm (V (aP 0) 1) < nrm (V (aP 0 + 3) (Int.toNat x1)) then some 0 else some 3))))
theorem ev5_cancelFault {G : GT} {l : Launch} {V : VV} {x1 : Int} {r : Int} (hlt : l.stackTraces = false) (hN : 148 ≤ gN G) (h : f5_cancelFault V x1 = some r) : EvX G l y5_cancelFault b5_cancelFault 2 (some .int) 2 0 0 [.ref (gB G + 0), vI x1] V (.ok (some (vI r))) V := by
  refine ev_w hlt (by decide +kernel) rfl rfl (fun X hl hx C M => ?_)
  subst hl
  replace C : Cx G X "ChannelSchedule" b5_cancelFault := C
  unfold f5_cancelFault at h
  show At G X 0 0 0 [(0, .ref (gB G + 0)), (1, vI x1)] [] V
  refine r_aload_n C d5_cancelFault_0 rfl ?_
  refine r_iload_n C d5_cancelFault_1 rfl ?_
  obtain ⟨r2, h1, h⟩ := bd_of h
  refine cV1_i C M d5_cancelFault_2 l5_178 w5_isBooking (rc_main hN) (ev5_isBooking C.lt hN h1) rfl (Nat.le_of_ble_eq_true rfl) (Nat.le_of_ble_eq_true rfl) ?_
  refine x_ifne (tgt := 10) C d5_cancelFault_5 rfl (fun c3 => ?_) (fun c3 => ?_)
  · replace h := ite_p c3 h
    refine r_iconst C d5_cancelFault_8 ?_
    exact e_i C M d5_cancelFault_9 (Nat.le_of_ble_eq_true rfl) (Nat.le_of_ble_eq_true rfl) h
  · replace h := ite_m c3 h
    refine r_aload_n C d5_cancelFault_10 rfl ?_
    refine g_main_4 C d5_cancelFault_11 f5_36 hN ?_
    refine g_plan_8 C d5_cancelFault_14 f5_183 hN p0 ?_
    refine r_iload_n C d5_cancelFault_17 rfl ?_
    obtain ⟨c4, h⟩ := ck_of h
    refine x_iald C d5_cancelFault_18 (ra_plan3 hN p0) c4 ?_
    refine r_aload_n C d5_cancelFault_19 rfl ?_
    refine g_main_4 C d5_cancelFault_20 f5_36 hN ?_
    refine g_plan_1 C d5_cancelFault_23 f5_129 hN p0 ?_
    refine x_icmpgt (tgt := 33) C d5_cancelFault_26 rfl (fun c5 => ?_) (fun c5 => ?_)
    · replace h := ite_p c5 h
      refine r_iconst C d5_cancelFault_33 ?_
      exact e_i C M d5_cancelFault_34 (Nat.le_of_ble_eq_true rfl) (Nat.le_of_ble_eq_true rfl) h
    · replace h := ite_m c5 h
      refine r_iconst C d5_cancelFault_29 ?_
      refine r_goto (tgt := 34) C d5_cancelFault_30 rfl ?_
      exact e_i C M d5_cancelFault_34 (Nat.le_of_ble_eq_true rfl) (Nat.le_of_ble_eq_true rfl) h
def f5_cancel (V : VV) (x1 : Int) : Option (Except String Int × VV) := bd (f5_cancelFault V x1) (fun r2 => if nrm r2 = 1 then some (.error "java/lang/IndexOutOfBoundsException", V) else if nrm r2 = 2 then some (.error "java/lang/IllegalArgumentException", V) else if nrm r2 = 3 then some (.error "java/lang/IllegalStateException", V) else bd (f5_remember V) (fun W7 => bd2 (f5_cancelNow W7 x1) (fun r9 W10 => some (.ok r9, W10))))
theorem ev5_cancel {G : GT} {l : Launch} {V : VV} {x1 : Int} {e : Except String Int} {V1 : VV} (hlt : l.stackTraces = false) (hN : 148 ≤ gN G) (hX : gX G = false) (h : f5_cancel V x1 = some (e, V1)) : EvX G l y5_cancel b5_cancel 2 (some .int) 8 3 18 [.ref (gB G + 0), vI x1] V (oX e) V1 := by
  refine ev_w hlt (by decide +kernel) rfl rfl (fun X hl hx C M => ?_)
  subst hl
  replace C : Cx G X "ChannelSchedule" b5_cancel := C
  unfold f5_cancel at h
  show At G X 0 0 0 [(0, .ref (gB G + 0)), (1, vI x1)] [] V
  refine r_aload_n C d5_cancel_0 rfl ?_
  refine r_iload_n C d5_cancel_1 rfl ?_
  obtain ⟨r2, h1, h⟩ := bd_of h
  refine cV1_i C M d5_cancel_2 l5_297 w5_cancelFault (rc_main hN) (ev5_cancelFault C.lt hN h1) rfl (Nat.le_of_ble_eq_true rfl) (Nat.le_of_ble_eq_true rfl) ?_
  refine c_ref C M d5_cancel_5 l5_281 w5_refuse (ev5_refuse C.lt hX) rfl (Nat.le_of_ble_eq_true rfl) (Nat.le_of_ble_eq_true rfl) (fun c => e_thr (ite_p c h)) (fun b c => e_thr (ite_p c (ite_m b h))) (fun a b c => e_thr (ite_p c (ite_m b (ite_m a h)))) (fun c3 c4 c5 => ?_)
  replace h := ite_m c5 (ite_m c4 (ite_m c3 h))
  refine r_aload_n C d5_cancel_8 rfl ?_
  obtain ⟨W7, h6, h⟩ := bd_of h
  refine cV0_v C M d5_cancel_9 l5_284 w5_remember (rc_main hN) (ev5_remember C.lt hN h6) rfl (Nat.le_of_ble_eq_true rfl) (Nat.le_of_ble_eq_true rfl) ?_
  refine r_aload_n C d5_cancel_12 rfl ?_
  refine r_iload_n C d5_cancel_13 rfl ?_
  obtain ⟨r9, W10, h8, h⟩ := bd2_of h
  refine cV1_i C M d5_cancel_14 l5_265 w5_cancelNow (rc_main hN) (ev5_cancelNow C.lt hN h8) rfl (Nat.le_of_ble_eq_true rfl) (Nat.le_of_ble_eq_true rfl) ?_
  exact e_it C M d5_cancel_17 (Nat.le_of_ble_eq_true rfl) (Nat.le_of_ble_eq_true rfl) h
def f5_moveFault (V : VV) (x1 : Int) (x2 : Int) : Option Int := bd (f5_isBooking V x1) (fun r2 => (if nrm r2 = 0 then some 1 else bd (f5_isWithin V x2 0 999) (fun r5 => (if nrm r5 = 0 then some 2 else bd (f5_hindranceToMove V x1 x2) (fun r8 => (if nrm r8 = 0 then some 0 else some 3))))))
theorem ev5_moveFault {G : GT} {l : Launch} {V : VV} {x1 : Int} {x2 : Int} {r : Int} (hlt : l.stackTraces = false) (hN : 148 ≤ gN G) (h : f5_moveFault V x1 x2 = some r) : EvX G l y5_moveFault b5_moveFault 3 (some .int) 4 0 0 [.ref (gB G + 0), vI x1, vI x2] V (.ok (some (vI r))) V := by
  refine ev_w hlt (by decide +kernel) rfl rfl (fun X hl hx C M => ?_)
  subst hl
  replace C : Cx G X "ChannelSchedule" b5_moveFault := C
  unfold f5_moveFault at h
  show At G X 0 0 0 [(0, .ref (gB G + 0)), (1, vI x1), (2, vI x2)] [] V
  refine r_aload_n C d5_moveFault_0 rfl ?_
  refine r_iload_n C d5_moveFault_1 rfl ?_
  obtain ⟨r2, h1, h⟩ := bd_of h
  refine cV1_i C M d5_moveFault_2 l5_178 w5_isBooking (rc_main hN) (ev5_isBooking C.lt hN h1) rfl (Nat.le_of_ble_eq_true rfl) (Nat.le_of_ble_eq_true rfl) ?_
  refine x_ifne (tgt := 10) C d5_moveFault_5 rfl (fun c3 => ?_) (fun c3 => ?_)
  · replace h := ite_p c3 h
    refine r_iconst C d5_moveFault_8 ?_
    exact e_i C M d5_moveFault_9 (Nat.le_of_ble_eq_true rfl) (Nat.le_of_ble_eq_true rfl) h
  · replace h := ite_m c3 h
    refine r_iload_n C d5_moveFault_10 rfl ?_
    refine r_iconst C d5_moveFault_11 ?_
    refine r_sipush C d5_moveFault_12 (by decide +kernel) ?_
    obtain ⟨r5, h4, h⟩ := bd_of h
    refine cS3_i C M d5_moveFault_15 l5_104 w5_isWithin (ev5_isWithin C.lt hN h4) rfl (Nat.le_of_ble_eq_true rfl) (Nat.le_of_ble_eq_true rfl) ?_
    refine x_ifne (tgt := 23) C d5_moveFault_18 rfl (fun c6 => ?_) (fun c6 => ?_)
    · replace h := ite_p c6 h
      refine r_iconst C d5_moveFault_21 ?_
      exact e_i C M d5_moveFault_22 (Nat.le_of_ble_eq_true rfl) (Nat.le_of_ble_eq_true rfl) h
    · replace h := ite_m c6 h
      refine r_aload_n C d5_moveFault_23 rfl ?_
      refine r_iload_n C d5_moveFault_24 rfl ?_
      refine r_iload_n C d5_moveFault_25 rfl ?_
      obtain ⟨r8, h7, h⟩ := bd_of h
      refine cV2_i C M d5_moveFault_26 l5_228 w5_hindranceToMove (rc_main hN) (ev5_hindranceToMove C.lt hN h7) rfl (Nat.le_of_ble_eq_true rfl) (Nat.le_of_ble_eq_true rfl) ?_
      refine x_ifne (tgt := 36) C d5_moveFault_29 rfl (fun c9 => ?_) (fun c9 => ?_)
      · replace h := ite_p c9 h
        refine r_iconst C d5_moveFault_32 ?_
        refine r_goto (tgt := 37) C d5_moveFault_33 rfl ?_
        exact e_i C M d5_moveFault_37 (Nat.le_of_ble_eq_true rfl) (Nat.le_of_ble_eq_true rfl) h
      · replace h := ite_m c9 h
        refine r_iconst C d5_moveFault_36 ?_
        exact e_i C M d5_moveFault_37 (Nat.le_of_ble_eq_true rfl) (Nat.le_of_ble_eq_true rfl) h
def f5_moveNow (V : VV) (x1 : Int) (x2 : Int) : Option (Int × VV) := ck ((0:Int) ≤ x1 ∧ x1 < 20) (bd (f1_removeBooking V 0 x1) (fun W3 => bd (f1_insertBooking W3 0 (V (aP 0 + 1) (Int.toNat x1)) (V (aP 0 + 2) (Int.toNat x1)) x2 (x2 + ((V (aP 0 + 4) (Int.toNat x1)) - (V (aP 0 + 3) (Int.toNat x1))))) (fun W5 => bd2 (f5_serveWaiting W5) (fun r7 W8 => some (r7, W8)))))
theorem ev5_moveNow {G : GT} {l : Launch} {V : VV} {x1 : Int} {x2 : Int} {r : Int} {V1 : VV} (hlt : l.stackTraces = false) (hN : 148 ≤ gN G) (h : f5_moveNow V x1 x2 = some (r, V1)) : EvX G l y5_moveNow b5_moveNow 6 (some .int) 4 0 0 [.ref (gB G + 0), vI x1, vI x2] V (.ok (some (vI r))) V1 := by
  refine ev_w hlt (by decide +kernel) rfl rfl (fun X hl hx C M => ?_)
  subst hl
  replace C : Cx G X "ChannelSchedule" b5_moveNow := C
  unfold f5_moveNow at h
  show At G X 0 0 0 [(0, .ref (gB G + 0)), (1, vI x1), (2, vI x2)] [] V
  refine r_aload_n C d5_moveNow_0 rfl ?_
  refine g_main_4 C d5_moveNow_1 f5_36 hN ?_
  refine g_plan_6 C d5_moveNow_4 f5_181 hN p0 ?_
  refine r_iload_n C d5_moveNow_7 rfl ?_
  obtain ⟨c1, h⟩ := ck_of h
  refine x_iald C d5_moveNow_8 (ra_plan1 hN p0) c1 ?_
  refine x_istore_n hx C d5_moveNow_9 rfl ?_
  refine r_aload_n C d5_moveNow_10 rfl ?_
  refine g_main_4 C d5_moveNow_11 f5_36 hN ?_
  refine g_plan_7 C d5_moveNow_14 f5_189 hN p0 ?_
  refine r_iload_n C d5_moveNow_17 rfl ?_
  refine x_zald C d5_moveNow_18 (ra_plan2 hN p0) c1 ?_
  refine x_istore hx C d5_moveNow_19 rfl ?_
  refine r_aload_n C d5_moveNow_21 rfl ?_
  refine g_main_4 C d5_moveNow_22 f5_36 hN ?_
  refine g_plan_9 C d5_moveNow_25 f5_186 hN p0 ?_
  refine r_iload_n C d5_moveNow_28 rfl ?_
  refine x_iald C d5_moveNow_29 (ra_plan4 hN p0) c1 ?_
  refine r_aload_n C d5_moveNow_30 rfl ?_
  refine g_main_4 C d5_moveNow_31 f5_36 hN ?_
  refine g_plan_8 C d5_moveNow_34 f5_183 hN p0 ?_
  refine r_iload_n C d5_moveNow_37 rfl ?_
  refine x_iald C d5_moveNow_38 (ra_plan3 hN p0) c1 ?_
  refine r_isub C d5_moveNow_39 ?_
  refine x_istore hx C d5_moveNow_40 rfl ?_
  refine r_aload_n C d5_moveNow_42 rfl ?_
  refine g_main_4 C d5_moveNow_43 f5_36 hN ?_
  refine r_iload_n C d5_moveNow_46 rfl ?_
  obtain ⟨W3, h2, h⟩ := bd_of h
  refine cV1_v C M d5_moveNow_47 l5_373 w1_removeBooking (rc_plan hN p0) (ev1_removeBooking C.lt hN h2) rfl (Nat.le_of_ble_eq_true rfl) (Nat.le_of_ble_eq_true rfl) ?_
  refine r_aload_n C d5_moveNow_50 rfl ?_
  refine g_main_4 C d5_moveNow_51 f5_36 hN ?_
  refine r_iload_n C d5_moveNow_54 rfl ?_
  refine r_iload C d5_moveNow_55 rfl ?_
  refine r_iload_n C d5_moveNow_57 rfl ?_
  refine r_iload_n C d5_moveNow_58 rfl ?_
  refine r_iload C d5_moveNow_59 rfl ?_
  refine r_iadd C d5_moveNow_61 ?_
  obtain ⟨W5, h4, h⟩ := bd_of h
  refine cV4_v C M d5_moveNow_62 l5_366 w1_insertBooking (rc_plan hN p0) (ev1_insertBooking C.lt hN h4) rfl (Nat.le_of_ble_eq_true rfl) (Nat.le_of_ble_eq_true rfl) ?_
  refine r_aload_n C d5_moveNow_65 rfl ?_
  obtain ⟨r7, W8, h6, h⟩ := bd2_of h
  refine cV0_i C M d5_moveNow_66 l5_376 w5_serveWaiting (rc_main hN) (ev5_serveWaiting C.lt hN h6) rfl (Nat.le_of_ble_eq_true rfl) (Nat.le_of_ble_eq_true rfl) ?_
  exact e_iv C M d5_moveNow_69 (Nat.le_of_ble_eq_true rfl) (Nat.le_of_ble_eq_true rfl) h
def f5_moveBooking (V : VV) (x1 : Int) (x2 : Int) : Option (Except String Int × VV) := bd (f5_moveFault V x1 x2) (fun r2 => if nrm r2 = 1 then some (.error "java/lang/IndexOutOfBoundsException", V) else if nrm r2 = 2 then some (.error "java/lang/IllegalArgumentException", V) else if nrm r2 = 3 then some (.error "java/lang/IllegalStateException", V) else bd (f5_remember V) (fun W7 => bd2 (f5_moveNow W7 x1 x2) (fun r9 W10 => some (.ok r9, W10))))
theorem ev5_moveBooking {G : GT} {l : Launch} {V : VV} {x1 : Int} {x2 : Int} {e : Except String Int} {V1 : VV} (hlt : l.stackTraces = false) (hN : 148 ≤ gN G) (hX : gX G = false) (h : f5_moveBooking V x1 x2 = some (e, V1)) : EvX G l y5_moveBooking b5_moveBooking 3 (some .int) 8 3 18 [.ref (gB G + 0), vI x1, vI x2] V (oX e) V1 := by
  refine ev_w hlt (by decide +kernel) rfl rfl (fun X hl hx C M => ?_)
  subst hl
  replace C : Cx G X "ChannelSchedule" b5_moveBooking := C
  unfold f5_moveBooking at h
  show At G X 0 0 0 [(0, .ref (gB G + 0)), (1, vI x1), (2, vI x2)] [] V
  refine r_aload_n C d5_moveBooking_0 rfl ?_
  refine r_iload_n C d5_moveBooking_1 rfl ?_
  refine r_iload_n C d5_moveBooking_2 rfl ?_
  obtain ⟨r2, h1, h⟩ := bd_of h
  refine cV2_i C M d5_moveBooking_3 l5_300 w5_moveFault (rc_main hN) (ev5_moveFault C.lt hN h1) rfl (Nat.le_of_ble_eq_true rfl) (Nat.le_of_ble_eq_true rfl) ?_
  refine c_ref C M d5_moveBooking_6 l5_281 w5_refuse (ev5_refuse C.lt hX) rfl (Nat.le_of_ble_eq_true rfl) (Nat.le_of_ble_eq_true rfl) (fun c => e_thr (ite_p c h)) (fun b c => e_thr (ite_p c (ite_m b h))) (fun a b c => e_thr (ite_p c (ite_m b (ite_m a h)))) (fun c3 c4 c5 => ?_)
  replace h := ite_m c5 (ite_m c4 (ite_m c3 h))
  refine r_aload_n C d5_moveBooking_9 rfl ?_
  obtain ⟨W7, h6, h⟩ := bd_of h
  refine cV0_v C M d5_moveBooking_10 l5_284 w5_remember (rc_main hN) (ev5_remember C.lt hN h6) rfl (Nat.le_of_ble_eq_true rfl) (Nat.le_of_ble_eq_true rfl) ?_
  refine r_aload_n C d5_moveBooking_13 rfl ?_
  refine r_iload_n C d5_moveBooking_14 rfl ?_
  refine r_iload_n C d5_moveBooking_15 rfl ?_
  obtain ⟨r9, W10, h8, h⟩ := bd2_of h
  refine cV2_i C M d5_moveBooking_16 l5_303 w5_moveNow (rc_main hN) (ev5_moveNow C.lt hN h8) rfl (Nat.le_of_ble_eq_true rfl) (Nat.le_of_ble_eq_true rfl) ?_
  exact e_it C M d5_moveBooking_19 (Nat.le_of_ble_eq_true rfl) (Nat.le_of_ble_eq_true rfl) h
def f5_withdraw (V : VV) (x1 : Int) : Option (Except String Int × VV) := bd (f5_isRequest V x1) (fun r2 => if nrm r2 = 0 then some (.error "java/lang/IndexOutOfBoundsException", V) else bd (f5_remember V) (fun W5 => ck ((0:Int) ≤ x1 ∧ x1 < 8) (bd (f1_removeRequest W5 0 x1) (fun W8 => some (.ok (W5 (aP 0 + 5) (Int.toNat x1)), W8)))))
theorem ev5_withdraw {G : GT} {l : Launch} {V : VV} {x1 : Int} {e : Except String Int} {V1 : VV} (hlt : l.stackTraces = false) (hN : 148 ≤ gN G) (hX : gX G = false) (h : f5_withdraw V x1 = some (e, V1)) : EvX G l y5_withdraw b5_withdraw 3 (some .int) 7 1 6 [.ref (gB G + 0), vI x1] V (oX e) V1 := by
  refine ev_w hlt (by decide +kernel) rfl rfl (fun X hl hx C M => ?_)
  subst hl
  replace C : Cx G X "ChannelSchedule" b5_withdraw := C
  unfold f5_withdraw at h
  show At G X 0 0 0 [(0, .ref (gB G + 0)), (1, vI x1)] [] V
  refine r_aload_n C d5_withdraw_0 rfl ?_
  refine r_iload_n C d5_withdraw_1 rfl ?_
  obtain ⟨r2, h1, h⟩ := bd_of h
  refine cV1_i C M d5_withdraw_2 l5_234 w5_isRequest (rc_main hN) (ev5_isRequest C.lt hN h1) rfl (Nat.le_of_ble_eq_true rfl) (Nat.le_of_ble_eq_true rfl) ?_
  refine c_req C M d5_withdraw_5 l5_136 w5_requireIndex (ev5_requireIndex C.lt hX) rfl (Nat.le_of_ble_eq_true rfl) (Nat.le_of_ble_eq_true rfl) (fun c3 => e_thr (ite_p c3 h)) (fun c3 => ?_)
  replace h := ite_m c3 h
  refine r_aload_n C d5_withdraw_8 rfl ?_
  obtain ⟨W5, h4, h⟩ := bd_of h
  refine cV0_v C M d5_withdraw_9 l5_284 w5_remember (rc_main hN) (ev5_remember C.lt hN h4) rfl (Nat.le_of_ble_eq_true rfl) (Nat.le_of_ble_eq_true rfl) ?_
  refine r_aload_n C d5_withdraw_12 rfl ?_
  refine g_main_4 C d5_withdraw_13 f5_36 hN ?_
  refine g_plan_11 C d5_withdraw_16 f5_237 hN p0 ?_
  refine r_iload_n C d5_withdraw_19 rfl ?_
  obtain ⟨c6, h⟩ := ck_of h
  refine x_iald C d5_withdraw_20 (ra_plan5 hN p0) c6 ?_
  refine x_istore_n hx C d5_withdraw_21 rfl ?_
  refine r_aload_n C d5_withdraw_22 rfl ?_
  refine g_main_4 C d5_withdraw_23 f5_36 hN ?_
  refine r_iload_n C d5_withdraw_26 rfl ?_
  obtain ⟨W8, h7, h⟩ := bd_of h
  refine cV1_v C M d5_withdraw_27 l5_306 w1_removeRequest (rc_plan hN p0) (ev1_removeRequest C.lt hN h7) rfl (Nat.le_of_ble_eq_true rfl) (Nat.le_of_ble_eq_true rfl) ?_
  refine r_iload_n C d5_withdraw_30 rfl ?_
  exact e_it C M d5_withdraw_31 (Nat.le_of_ble_eq_true rfl) (Nat.le_of_ble_eq_true rfl) h
def f5_freezeNow (V : VV) (x1 : Int) : Option (Int × VV) := bd2 (f5_serveWaiting (up2 V (aP 0) 0 x1)) (fun r2 W3 => some (r2, W3))
theorem ev5_freezeNow {G : GT} {l : Launch} {V : VV} {x1 : Int} {r : Int} {V1 : VV} (hlt : l.stackTraces = false) (hN : 148 ≤ gN G) (h : f5_freezeNow V x1 = some (r, V1)) : EvX G l y5_freezeNow b5_freezeNow 2 (some .int) 4 0 0 [.ref (gB G + 0), vI x1] V (.ok (some (vI r))) V1 := by
  refine ev_w hlt (by decide +kernel) rfl rfl (fun X hl hx C M => ?_)
  subst hl
  replace C : Cx G X "ChannelSchedule" b5_freezeNow := C
  unfold f5_freezeNow at h
  show At G X 0 0 0 [(0, .ref (gB G + 0)), (1, vI x1)] [] V
  refine r_aload_n C d5_freezeNow_0 rfl ?_
  refine g_main_4 C d5_freezeNow_1 f5_36 hN ?_
  refine r_iload_n C d5_freezeNow_4 rfl ?_
  refine p_plan_0 C d5_freezeNow_5 f5_126 hN p0 ?_
  refine r_aload_n C d5_freezeNow_8 rfl ?_
  obtain ⟨r2, W3, h1, h⟩ := bd2_of h
  refine cV0_i C M d5_freezeNow_9 l5_376 w5_serveWaiting (rc_main hN) (ev5_serveWaiting C.lt hN h1) rfl (Nat.le_of_ble_eq_true rfl) (Nat.le_of_ble_eq_true rfl) ?_
  exact e_iv C M d5_freezeNow_12 (Nat.le_of_ble_eq_true rfl) (Nat.le_of_ble_eq_true rfl) h
def f5_setThickness (V : VV) (x1 : Int) : Option (Except String Int × VV) := bd (f5_isWithin V x1 0 9) (fun r2 => if nrm r2 = 0 then some (.error "java/lang/IllegalArgumentException", V) else bd (f5_remember V) (fun W5 => bd2 (f5_freezeNow W5 x1) (fun r7 W8 => some (.ok r7, W8))))
theorem ev5_setThickness {G : GT} {l : Launch} {V : VV} {x1 : Int} {e : Except String Int} {V1 : VV} (hlt : l.stackTraces = false) (hN : 148 ≤ gN G) (hX : gX G = false) (h : f5_setThickness V x1 = some (e, V1)) : EvX G l y5_setThickness b5_setThickness 2 (some .int) 7 1 6 [.ref (gB G + 0), vI x1] V (oX e) V1 := by
  refine ev_w hlt (by decide +kernel) rfl rfl (fun X hl hx C M => ?_)
  subst hl
  replace C : Cx G X "ChannelSchedule" b5_setThickness := C
  unfold f5_setThickness at h
  show At G X 0 0 0 [(0, .ref (gB G + 0)), (1, vI x1)] [] V
  refine r_iload_n C d5_setThickness_0 rfl ?_
  refine r_iconst C d5_setThickness_1 ?_
  refine r_bipush C d5_setThickness_2 (by decide +kernel) ?_
  obtain ⟨r2, h1, h⟩ := bd_of h
  refine cS3_i C M d5_setThickness_4 l5_104 w5_isWithin (ev5_isWithin C.lt hN h1) rfl (Nat.le_of_ble_eq_true rfl) (Nat.le_of_ble_eq_true rfl) ?_
  refine c_req C M d5_setThickness_7 l5_108 w5_requireArgument (ev5_requireArgument C.lt hX) rfl (Nat.le_of_ble_eq_true rfl) (Nat.le_of_ble_eq_true rfl) (fun c3 => e_thr (ite_p c3 h)) (fun c3 => ?_)
  replace h := ite_m c3 h
  refine r_aload_n C d5_setThickness_10 rfl ?_
  obtain ⟨W5, h4, h⟩ := bd_of h
  refine cV0_v C M d5_setThickness_11 l5_284 w5_remember (rc_main hN) (ev5_remember C.lt hN h4) rfl (Nat.le_of_ble_eq_true rfl) (Nat.le_of_ble_eq_true rfl) ?_
  refine r_aload_n C d5_setThickness_14 rfl ?_
  refine r_iload_n C d5_setThickness_15 rfl ?_
  obtain ⟨r7, W8, h6, h⟩ := bd2_of h
  refine cV1_i C M d5_setThickness_16 l5_309 w5_freezeNow (rc_main hN) (ev5_freezeNow C.lt hN h6) rfl (Nat.le_of_ble_eq_true rfl) (Nat.le_of_ble_eq_true rfl) ?_
  exact e_it C M d5_setThickness_19 (Nat.le_of_ble_eq_true rfl) (Nat.le_of_ble_eq_true rfl) h
def f5_advanceFault (V : VV) (x1 : Int) : Option Int := bd (f5_isWithin V x1 1 500) (fun r2 => (if nrm r2 = 0 then some 2 else (if nrm ((V (aP 0) 1) + x1) ≤ nrm 1200 then some 0 else some 3)))
theorem ev5_advanceFault {G : GT} {l : Launch} {V : VV} {x1 : Int} {r : Int} (hlt : l.stackTraces = false) (hN : 148 ≤ gN G) (h : f5_advanceFault V x1 = some r) : EvX G l y5_advanceFault b5_advanceFault 2 (some .int) 1 0 0 [.ref (gB G + 0), vI x1] V (.ok (some (vI r))) V := by
  refine ev_w hlt (by decide +kernel) rfl rfl (fun X hl hx C M => ?_)
  subst hl
  replace C : Cx G X "ChannelSchedule" b5_advanceFault := C
  unfold f5_advanceFault at h
  show At G X 0 0 0 [(0, .ref (gB G + 0)), (1, vI x1)] [] V
  refine r_iload_n C d5_advanceFault_0 rfl ?_
  refine r_iconst C d5_advanceFault_1 ?_
  refine r_sipush C d5_advanceFault_2 (by decide +kernel) ?_
  obtain ⟨r2, h1, h⟩ := bd_of h
  refine cS3_i C M d5_advanceFault_5 l5_104 w5_isWithin (ev5_isWithin C.lt hN h1) rfl (Nat.le_of_ble_eq_true rfl) (Nat.le_of_ble_eq_true rfl) ?_
  refine x_ifne (tgt := 13) C d5_advanceFault_8 rfl (fun c3 => ?_) (fun c3 => ?_)
  · replace h := ite_p c3 h
    refine r_iconst C d5_advanceFault_11 ?_
    exact e_i C M d5_advanceFault_12 (Nat.le_of_ble_eq_true rfl) (Nat.le_of_ble_eq_true rfl) h
  · replace h := ite_m c3 h
    refine r_aload_n C d5_advanceFault_13 rfl ?_
    refine g_main_4 C d5_advanceFault_14 f5_36 hN ?_
    refine g_plan_1 C d5_advanceFault_17 f5_129 hN p0 ?_
    refine r_iload_n C d5_advanceFault_20 rfl ?_
    refine r_iadd C d5_advanceFault_21 ?_
    refine r_sipush C d5_advanceFault_22 (by decide +kernel) ?_
    refine x_icmple (tgt := 32) C d5_advanceFault_25 rfl (fun c4 => ?_) (fun c4 => ?_)
    · replace h := ite_p c4 h
      refine r_iconst C d5_advanceFault_32 ?_
      exact e_i C M d5_advanceFault_33 (Nat.le_of_ble_eq_true rfl) (Nat.le_of_ble_eq_true rfl) h
    · replace h := ite_m c4 h
      refine r_iconst C d5_advanceFault_28 ?_
      refine r_goto (tgt := 33) C d5_advanceFault_29 rfl ?_
      exact e_i C M d5_advanceFault_33 (Nat.le_of_ble_eq_true rfl) (Nat.le_of_ble_eq_true rfl) h
def f5_advanceNow_L26 (V : VV) (x2 : Int) : Nat → Int → Int → Option (Int)
  | 0, _, _ => none
  | n + 1, x3, x4 => (if nrm (V (aP 0) 5) ≤ nrm x4 then some x3 else ck ((0:Int) ≤ x4 ∧ x4 < 20) ((if nrm (V (aP 0 + 4) (Int.toNat x4)) ≤ nrm x2 then f5_advanceNow_L26 V x2 n x3 (x4 + 1) else (if nrm (V (aP 0) 1) < nrm (V (aP 0 + 4) (Int.toNat x4)) then f5_advanceNow_L26 V x2 n x3 (x4 + 1) else f5_advanceNow_L26 V x2 n (x3 + 1) (x4 + 1)))))
theorem lp5_advanceNow_26 {G : GT} {X : CT} {cells slots : Nat} {V : VV} (hN : 148 ≤ gN G) (hx : xN X = 5) (C : Cx G X "ChannelSchedule" b5_advanceNow) {x2 : Int} {o0 : Except String (Option Value)} {V9 : VV} (M : MX G X 0 0 0 (some .int) o0 V9) (hc : cells ≤ 0) (hs : slots ≤ 0) : ∀ (n : Nat) {x3 : Int} {x4 : Int} {e3 : Int}, f5_advanceNow_L26 V x2 n x3 x4 = some (e3) → At G X cells slots 81 [(3, vI e3)] [] V → At G X cells slots 26 [(0, .ref (gB G + 0)), (2, vI x2), (3, vI x3), (4, vI x4)] [] V := by
  intro n
  induction n with
  | zero => intro x3 x4 e3 h _; exact nomatch h
  | succ n ih =>
    intro x3 x4 e3 h K
    rw [f5_advanceNow_L26] at h
    refine r_iload C d5_advanceNow_26 rfl ?_
    refine r_aload_n C d5_advanceNow_28 rfl ?_
    refine g_main_4 C d5_advanceNow_29 f5_36 hN ?_
    refine g_plan_5 C d5_advanceNow_32 f5_175 hN p0 ?_
    refine x_icmpge (tgt := 81) C d5_advanceNow_35 rfl (fun c1 => ?_) (fun c1 => ?_)
    · replace h := ite_p c1 h
      cases h
      exact AtH.sw K ⟨rfl, trivial⟩
    · replace h := ite_m c1 h
      refine r_aload_n C d5_advanceNow_38 rfl ?_
      refine g_main_4 C d5_advanceNow_39 f5_36 hN ?_
      refine g_plan_9 C d5_advanceNow_42 f5_186 hN p0 ?_
      refine r_iload C d5_advanceNow_45 rfl ?_
      obtain ⟨c2, h⟩ := ck_of h
      refine x_iald C d5_advanceNow_47 (ra_plan4 hN p0) c2 ?_
      refine r_iload_n C d5_advanceNow_48 rfl ?_
      refine x_icmple (tgt := 75) C d5_advanceNow_49 rfl (fun c3 => ?_) (fun c3 => ?_)
      · replace h := ite_p c3 h
        refine x_iinc hx C d5_advanceNow_75 rfl rfl ?_
        refine r_goto (tgt := 26) C d5_advanceNow_78 rfl ?_
        exact AtH.sw (ih h K) ⟨rfl, rfl, rfl, rfl, trivial⟩
      · replace h := ite_m c3 h
        refine r_aload_n C d5_advanceNow_52 rfl ?_
        refine g_main_4 C d5_advanceNow_53 f5_36 hN ?_
        refine g_plan_9 C d5_advanceNow_56 f5_186 hN p0 ?_
        refine r_iload C d5_advanceNow_59 rfl ?_
        refine x_iald C d5_advanceNow_61 (ra_plan4 hN p0) c2 ?_
        refine r_aload_n C d5_advanceNow_62 rfl ?_
        refine g_main_4 C d5_advanceNow_63 f5_36 hN ?_
        refine g_plan_1 C d5_advanceNow_66 f5_129 hN p0 ?_
        refine x_icmpgt (tgt := 75) C d5_advanceNow_69 rfl (fun c4 => ?_) (fun c4 => ?_)
        · replace h := ite_p c4 h
          refine x_iinc hx C d5_advanceNow_75 rfl rfl ?_
          refine r_goto (tgt := 26) C d5_advanceNow_78 rfl ?_
          exact AtH.sw (ih h K) ⟨rfl, rfl, rfl, rfl, trivial⟩
        · replace h := ite_m c4 h
          refine x_iinc hx C d5_advanceNow_72 rfl rfl ?_
          refine x_iinc hx C d5_advanceNow_75 rfl rfl ?_
          refine r_goto (tgt := 26) C d5_advanceNow_78 rfl ?_
          exact AtH.sw (ih h K) ⟨rfl, rfl, rfl, rfl, trivial⟩
def f5_advanceNow (V : VV) (x1 : Int) : Option (Int × VV) := bd (f5_advanceNow_L26 (up2 V (aP 0) 1 ((V (aP 0) 1) + x1)) (V (aP 0) 1) FU 0 0) (fun y5 => some (y5, up2 V (aP 0) 1 ((V (aP 0) 1) + x1)))
theorem ev5_advanceNow {G : GT} {l : Launch} {V : VV} {x1 : Int} {r : Int} {V1 : VV} (hlt : l.stackTraces = false) (hN : 148 ≤ gN G) (h : f5_advanceNow V x1 = some (r, V1)) : EvX G l y5_advanceNow b5_advanceNow 5 (some .int) 0 0 0 [.ref (gB G + 0), vI x1] V (.ok (some (vI r))) V1 := by
  refine ev_w hlt (by decide +kernel) rfl rfl (fun X hl hx C M => ?_)
  subst hl
  replace C : Cx G X "ChannelSchedule" b5_advanceNow := C
  unfold f5_advanceNow at h
  show At G X 0 0 0 [(0, .ref (gB G + 0)), (1, vI x1)] [] V
  refine r_aload_n C d5_advanceNow_0 rfl ?_
  refine g_main_4 C d5_advanceNow_1 f5_36 hN ?_
  refine g_plan_1 C d5_advanceNow_4 f5_129 hN p0 ?_
  refine x_istore_n hx C d5_advanceNow_7 rfl ?_
  refine r_aload_n C d5_advanceNow_8 rfl ?_
  refine g_main_4 C d5_advanceNow_9 f5_36 hN ?_
  refine r_dup C d5_advanceNow_12 rfl ?_
  refine g_plan_1 C d5_advanceNow_13 f5_129 hN p0 ?_
  refine r_iload_n C d5_advanceNow_16 rfl ?_
  refine r_iadd C d5_advanceNow_17 ?_
  refine p_plan_1 C d5_advanceNow_18 f5_129 hN p0 ?_
  refine r_iconst C d5_advanceNow_21 ?_
  refine x_istore_n hx C d5_advanceNow_22 rfl ?_
  refine r_iconst C d5_advanceNow_23 ?_
  refine x_istore hx C d5_advanceNow_24 rfl ?_
  obtain ⟨y5, h6, h⟩ := bd_of h
  refine AtH.sw (lp5_advanceNow_26 hN hx C M (Nat.le_of_ble_eq_true rfl) (Nat.le_of_ble_eq_true rfl) FU h6 ?_) ⟨rfl, rfl, rfl, rfl, trivial⟩
  refine r_iload_n C d5_advanceNow_81 rfl ?_
  exact e_iv C M d5_advanceNow_82 (Nat.le_of_ble_eq_true rfl) (Nat.le_of_ble_eq_true rfl) h
def f5_advance (V : VV) (x1 : Int) : Option (Except String Int × VV) := bd (f5_advanceFault V x1) (fun r2 => if nrm r2 = 1 then some (.error "java/lang/IndexOutOfBoundsException", V) else if nrm r2 = 2 then some (.error "java/lang/IllegalArgumentException", V) else if nrm r2 = 3 then some (.error "java/lang/IllegalStateException", V) else bd (f5_remember V) (fun W7 => bd2 (f5_advanceNow W7 x1) (fun r9 W10 => some (.ok r9, W10))))
theorem ev5_advance {G : GT} {l : Launch} {V : VV} {x1 : Int} {e : Except String Int} {V1 : VV} (hlt : l.stackTraces = false) (hN : 148 ≤ gN G) (hX : gX G = false) (h : f5_advance V x1 = some (e, V1)) : EvX G l y5_advance b5_advance 2 (some .int) 8 3 18 [.ref (gB G + 0), vI x1] V (oX e) V1 := by
  refine ev_w hlt (by decide +kernel) rfl rfl (fun X hl hx C M => ?_)
  subst hl
  replace C : Cx G X "ChannelSchedule" b5_advance := C
  unfold f5_advance at h
  show At G X 0 0 0 [(0, .ref (gB G + 0)), (1, vI x1)] [] V
  refine r_aload_n C d5_advance_0 rfl ?_
  refine r_iload_n C d5_advance_1 rfl ?_
  obtain ⟨r2, h1, h⟩ := bd_of h
  refine cV1_i C M d5_advance_2 l5_312 w5_advanceFault (rc_main hN) (ev5_advanceFault C.lt hN h1) rfl (Nat.le_of_ble_eq_true rfl) (Nat.le_of_ble_eq_true rfl) ?_
  refine c_ref C M d5_advance_5 l5_281 w5_refuse (ev5_refuse C.lt hX) rfl (Nat.le_of_ble_eq_true rfl) (Nat.le_of_ble_eq_true rfl) (fun c => e_thr (ite_p c h)) (fun b c => e_thr (ite_p c (ite_m b h))) (fun a b c => e_thr (ite_p c (ite_m b (ite_m a h)))) (fun c3 c4 c5 => ?_)
  replace h := ite_m c5 (ite_m c4 (ite_m c3 h))
  refine r_aload_n C d5_advance_8 rfl ?_
  obtain ⟨W7, h6, h⟩ := bd_of h
  refine cV0_v C M d5_advance_9 l5_284 w5_remember (rc_main hN) (ev5_remember C.lt hN h6) rfl (Nat.le_of_ble_eq_true rfl) (Nat.le_of_ble_eq_true rfl) ?_
  refine r_aload_n C d5_advance_12 rfl ?_
  refine r_iload_n C d5_advance_13 rfl ?_
  obtain ⟨r9, W10, h8, h⟩ := bd2_of h
  refine cV1_i C M d5_advance_14 l5_315 w5_advanceNow (rc_main hN) (ev5_advanceNow C.lt hN h8) rfl (Nat.le_of_ble_eq_true rfl) (Nat.le_of_ble_eq_true rfl) ?_
  exact e_it C M d5_advance_17 (Nat.le_of_ble_eq_true rfl) (Nat.le_of_ble_eq_true rfl) h
def f5_verbRead (V : VV) : Option Int := bd (f0_isWord V 3) (fun r2 => (if nrm r2 = 0 then bd (f0_isWord V 4) (fun r5 => (if nrm r5 = 0 then bd (f0_isWord V 5) (fun r8 => (if nrm r8 = 0 then bd (f0_isWord V 6) (fun r11 => (if nrm r11 = 0 then bd (f0_isWord V 7) (fun r14 => (if nrm r14 = 0 then bd (f0_isWord V 8) (fun r17 => (if nrm r17 = 0 then bd (f0_isWord V 9) (fun r20 => (if nrm r20 = 0 then some (-1) else some 6)) else some 5)) else some 4)) else some 3)) else some 2)) else some 1)) else some 0))
theorem ev5_verbRead {G : GT} {l : Launch} {V : VV} {r : Int} (hlt : l.stackTraces = false) (hN : 148 ≤ gN G) (h : f5_verbRead V = some r) : EvX G l y5_verbRead b5_verbRead 1 (some .int) 5 0 0 [.ref (gB G + 0)] V (.ok (some (vI r))) V := by
  refine ev_w hlt (by decide +kernel) rfl rfl (fun X hl hx C M => ?_)
  subst hl
  replace C : Cx G X "ChannelSchedule" b5_verbRead := C
  unfold f5_verbRead at h
  show At G X 0 0 0 [(0, .ref (gB G + 0))] [] V
  refine r_aload_n C d5_verbRead_0 rfl ?_
  refine g_main_0 C d5_verbRead_1 f5_10 hN ?_
  refine x_ldc_wX C d5_verbRead_4 (k := 3) (by decide) ?_
  obtain ⟨r2, h1, h⟩ := bd_of h
  refine cV1_i C M d5_verbRead_7 l5_409 w0_isWord (rc_input hN) (ev0_isWord C.lt hN h1) rfl (Nat.le_of_ble_eq_true rfl) (Nat.le_of_ble_eq_true rfl) ?_
  refine x_ifeq (tgt := 15) C d5_verbRead_10 rfl (fun c3 => ?_) (fun c3 => ?_)
  · replace h := ite_p c3 h
    refine r_aload_n C d5_verbRead_15 rfl ?_
    refine g_main_0 C d5_verbRead_16 f5_10 hN ?_
    refine x_ldc_wX C d5_verbRead_19 (k := 4) (by decide) ?_
    obtain ⟨r5, h4, h⟩ := bd_of h
    refine cV1_i C M d5_verbRead_22 l5_409 w0_isWord (rc_input hN) (ev0_isWord C.lt hN h4) rfl (Nat.le_of_ble_eq_true rfl) (Nat.le_of_ble_eq_true rfl) ?_
    refine x_ifeq (tgt := 30) C d5_verbRead_25 rfl (fun c6 => ?_) (fun c6 => ?_)
    · replace h := ite_p c6 h
      refine r_aload_n C d5_verbRead_30 rfl ?_
      refine g_main_0 C d5_verbRead_31 f5_10 hN ?_
      refine x_ldc_wX C d5_verbRead_34 (k := 5) (by decide) ?_
      obtain ⟨r8, h7, h⟩ := bd_of h
      refine cV1_i C M d5_verbRead_37 l5_409 w0_isWord (rc_input hN) (ev0_isWord C.lt hN h7) rfl (Nat.le_of_ble_eq_true rfl) (Nat.le_of_ble_eq_true rfl) ?_
      refine x_ifeq (tgt := 45) C d5_verbRead_40 rfl (fun c9 => ?_) (fun c9 => ?_)
      · replace h := ite_p c9 h
        refine r_aload_n C d5_verbRead_45 rfl ?_
        refine g_main_0 C d5_verbRead_46 f5_10 hN ?_
        refine x_ldc_wX C d5_verbRead_49 (k := 6) (by decide) ?_
        obtain ⟨r11, h10, h⟩ := bd_of h
        refine cV1_i C M d5_verbRead_52 l5_409 w0_isWord (rc_input hN) (ev0_isWord C.lt hN h10) rfl (Nat.le_of_ble_eq_true rfl) (Nat.le_of_ble_eq_true rfl) ?_
        refine x_ifeq (tgt := 60) C d5_verbRead_55 rfl (fun c12 => ?_) (fun c12 => ?_)
        · replace h := ite_p c12 h
          refine r_aload_n C d5_verbRead_60 rfl ?_
          refine g_main_0 C d5_verbRead_61 f5_10 hN ?_
          refine x_ldc_wX C d5_verbRead_64 (k := 7) (by decide) ?_
          obtain ⟨r14, h13, h⟩ := bd_of h
          refine cV1_i C M d5_verbRead_67 l5_409 w0_isWord (rc_input hN) (ev0_isWord C.lt hN h13) rfl (Nat.le_of_ble_eq_true rfl) (Nat.le_of_ble_eq_true rfl) ?_
          refine x_ifeq (tgt := 75) C d5_verbRead_70 rfl (fun c15 => ?_) (fun c15 => ?_)
          · replace h := ite_p c15 h
            refine r_aload_n C d5_verbRead_75 rfl ?_
            refine g_main_0 C d5_verbRead_76 f5_10 hN ?_
            refine x_ldc_wX C d5_verbRead_79 (k := 8) (by decide) ?_
            obtain ⟨r17, h16, h⟩ := bd_of h
            refine cV1_i C M d5_verbRead_82 l5_409 w0_isWord (rc_input hN) (ev0_isWord C.lt hN h16) rfl (Nat.le_of_ble_eq_true rfl) (Nat.le_of_ble_eq_true rfl) ?_
            refine x_ifeq (tgt := 90) C d5_verbRead_85 rfl (fun c18 => ?_) (fun c18 => ?_)
            · replace h := ite_p c18 h
              refine r_aload_n C d5_verbRead_90 rfl ?_
              refine g_main_0 C d5_verbRead_91 f5_10 hN ?_
              refine x_ldc_wX C d5_verbRead_94 (k := 9) (by decide) ?_
              obtain ⟨r20, h19, h⟩ := bd_of h
              refine cV1_i C M d5_verbRead_97 l5_409 w0_isWord (rc_input hN) (ev0_isWord C.lt hN h19) rfl (Nat.le_of_ble_eq_true rfl) (Nat.le_of_ble_eq_true rfl) ?_
              refine x_ifeq (tgt := 108) C d5_verbRead_100 rfl (fun c21 => ?_) (fun c21 => ?_)
              · replace h := ite_p c21 h
                refine r_iconst C d5_verbRead_108 ?_
                exact e_i C M d5_verbRead_109 (Nat.le_of_ble_eq_true rfl) (Nat.le_of_ble_eq_true rfl) h
              · replace h := ite_m c21 h
                refine r_bipush C d5_verbRead_103 (by decide +kernel) ?_
                refine r_goto (tgt := 109) C d5_verbRead_105 rfl ?_
                exact e_i C M d5_verbRead_109 (Nat.le_of_ble_eq_true rfl) (Nat.le_of_ble_eq_true rfl) h
            · replace h := ite_m c18 h
              refine r_iconst C d5_verbRead_88 ?_
              exact e_i C M d5_verbRead_89 (Nat.le_of_ble_eq_true rfl) (Nat.le_of_ble_eq_true rfl) h
          · replace h := ite_m c15 h
            refine r_iconst C d5_verbRead_73 ?_
            exact e_i C M d5_verbRead_74 (Nat.le_of_ble_eq_true rfl) (Nat.le_of_ble_eq_true rfl) h
        · replace h := ite_m c12 h
          refine r_iconst C d5_verbRead_58 ?_
          exact e_i C M d5_verbRead_59 (Nat.le_of_ble_eq_true rfl) (Nat.le_of_ble_eq_true rfl) h
      · replace h := ite_m c9 h
        refine r_iconst C d5_verbRead_43 ?_
        exact e_i C M d5_verbRead_44 (Nat.le_of_ble_eq_true rfl) (Nat.le_of_ble_eq_true rfl) h
    · replace h := ite_m c6 h
      refine r_iconst C d5_verbRead_28 ?_
      exact e_i C M d5_verbRead_29 (Nat.le_of_ble_eq_true rfl) (Nat.le_of_ble_eq_true rfl) h
  · replace h := ite_m c3 h
    refine r_iconst C d5_verbRead_13 ?_
    exact e_i C M d5_verbRead_14 (Nat.le_of_ble_eq_true rfl) (Nat.le_of_ble_eq_true rfl) h
def f5_readShipAndWay (V : VV) (x1 : Int) : Option (Int × VV) := (if nrm (V 1 4) = nrm 1 then ck ((V 0 2).toNat < 2) (bd (f3_shipNamed V ((V 0 2).toNat) (V 1 5) ((V 1 6) - (V 1 5))) (fun r4 => (if nrm r4 = nrm (-1) then bd2 (f0_fail V 3) (fun r7 W8 => ck (r7 = 0 ∨ r7 = 1) (some (r7, W8))) else ck ((0:Int) ≤ x1 ∧ x1 < 30) (bd (f0_readToken (up2 V 5 (Int.toNat x1) r4)) (fun W12 => bd (f0_isWord W12 10) (fun r14 => (if nrm r14 = 0 then bd (f0_isWord W12 11) (fun r17 => (if nrm r17 = 0 then bd2 (f0_fail W12 1) (fun r20 W21 => ck (r20 = 0 ∨ r20 = 1) (some (r20, W21))) else ck (r14 = 0 ∨ r14 = 1) (bd (f0_readToken (up2 W12 6 (Int.toNat x1) r14)) (fun W25 => some (1, W25))))) else ck (r14 = 0 ∨ r14 = 1) (bd (f0_readToken (up2 W12 6 (Int.toNat x1) r14)) (fun W28 => some (1, W28)))))))))) else bd2 (f0_fail V 1) (fun r30 W31 => ck (r30 = 0 ∨ r30 = 1) (some (r30, W31))))
theorem ev5_readShipAndWay {G : GT} {l : Launch} {V : VV} {x1 : Int} {r : Int} {V1 : VV} (hlt : l.stackTraces = false) (hN : 148 ≤ gN G) (h : f5_readShipAndWay V x1 = some (r, V1)) : EvX G l y5_readShipAndWay b5_readShipAndWay 4 (some .boolean) 5 0 0 [.ref (gB G + 0), vI x1] V (.ok (some (vI r))) V1 := by
  refine ev_w hlt (by decide +kernel) rfl rfl (fun X hl hx C M => ?_)
  subst hl
  replace C : Cx G X "ChannelSchedule" b5_readShipAndWay := C
  unfold f5_readShipAndWay at h
  show At G X 0 0 0 [(0, .ref (gB G + 0)), (1, vI x1)] [] V
  refine r_aload_n C d5_readShipAndWay_0 rfl ?_
  refine g_main_0 C d5_readShipAndWay_1 f5_10 hN ?_
  refine g_input_4 C d5_readShipAndWay_4 f5_385 hN ?_
  refine r_iconst C d5_readShipAndWay_7 ?_
  refine x_icmpeq (tgt := 20) C d5_readShipAndWay_8 rfl (fun c1 => ?_) (fun c1 => ?_)
  · replace h := ite_p c1 h
    refine r_aload_n C d5_readShipAndWay_20 rfl ?_
    refine g_main_2 C d5_readShipAndWay_21 f5_26 hN ?_
    obtain ⟨c2, h⟩ := ck_of h
    refine r_aload_n C d5_readShipAndWay_24 rfl ?_
    refine g_main_0 C d5_readShipAndWay_25 f5_10 hN ?_
    refine g_input_0 C d5_readShipAndWay_28 f5_165 hN ?_
    refine r_aload_n C d5_readShipAndWay_31 rfl ?_
    refine g_main_0 C d5_readShipAndWay_32 f5_10 hN ?_
    refine g_input_5 C d5_readShipAndWay_35 f5_422 hN ?_
    refine r_aload_n C d5_readShipAndWay_38 rfl ?_
    refine g_main_0 C d5_readShipAndWay_39 f5_10 hN ?_
    refine g_input_6 C d5_readShipAndWay_42 f5_419 hN ?_
    refine r_aload_n C d5_readShipAndWay_45 rfl ?_
    refine g_main_0 C d5_readShipAndWay_46 f5_10 hN ?_
    refine g_input_5 C d5_readShipAndWay_49 f5_422 hN ?_
    refine r_isub C d5_readShipAndWay_52 ?_
    obtain ⟨r4, h3, h⟩ := bd_of h
    refine cV3_i C M d5_readShipAndWay_53 l5_168 w3_shipNamed (rc_setup hN c2) (ev3_shipNamed C.lt hN h3) rfl (Nat.le_of_ble_eq_true rfl) (Nat.le_of_ble_eq_true rfl) ?_
    refine x_istore_n hx C d5_readShipAndWay_56 rfl ?_
    refine r_iload_n C d5_readShipAndWay_57 rfl ?_
    refine r_iconst C d5_readShipAndWay_58 ?_
    refine x_icmpne (tgt := 71) C d5_readShipAndWay_59 rfl (fun c5 => ?_) (fun c5 => ?_)
    · replace h := ite_p c5 h
      refine r_aload_n C d5_readShipAndWay_62 rfl ?_
      refine g_main_0 C d5_readShipAndWay_63 f5_10 hN ?_
      refine r_iconst C d5_readShipAndWay_66 ?_
      obtain ⟨r7, W8, h6, h⟩ := bd2_of h
      refine cV1_i C M d5_readShipAndWay_67 l5_412 w0_fail (rc_input hN) (ev0_fail C.lt hN h6) rfl (Nat.le_of_ble_eq_true rfl) (Nat.le_of_ble_eq_true rfl) ?_
      obtain ⟨c9, h⟩ := ck_of h
      exact e_zv C M d5_readShipAndWay_70 (Nat.le_of_ble_eq_true rfl) (Nat.le_of_ble_eq_true rfl) c9 h
    · replace h := ite_m c5 h
      refine r_aload_n C d5_readShipAndWay_71 rfl ?_
      refine g_main_1 C d5_readShipAndWay_72 f5_19 hN ?_
      refine g_script_2 C d5_readShipAndWay_75 f5_467 hN ?_
      refine r_iload_n C d5_readShipAndWay_78 rfl ?_
      refine r_iload_n C d5_readShipAndWay_79 rfl ?_
      obtain ⟨c10, h⟩ := ck_of h
      refine x_iast C d5_readShipAndWay_80 (ra_script5 hN) c10 ?_
      refine r_aload_n C d5_readShipAndWay_81 rfl ?_
      refine g_main_0 C d5_readShipAndWay_82 f5_10 hN ?_
      obtain ⟨W12, h11, h⟩ := bd_of h
      refine cV0_v C M d5_readShipAndWay_85 l5_429 w0_readToken (rc_input hN) (ev0_readToken C.lt hN h11) rfl (Nat.le_of_ble_eq_true rfl) (Nat.le_of_ble_eq_true rfl) ?_
      refine r_aload_n C d5_readShipAndWay_88 rfl ?_
      refine g_main_0 C d5_readShipAndWay_89 f5_10 hN ?_
      refine x_ldc_wX C d5_readShipAndWay_92 (k := 10) (by decide) ?_
      obtain ⟨r14, h13, h⟩ := bd_of h
      refine cV1_i C M d5_readShipAndWay_95 l5_409 w0_isWord (rc_input hN) (ev0_isWord C.lt hN h13) rfl (Nat.le_of_ble_eq_true rfl) (Nat.le_of_ble_eq_true rfl) ?_
      refine x_istore_n hx C d5_readShipAndWay_98 rfl ?_
      refine r_iload_n C d5_readShipAndWay_99 rfl ?_
      refine x_ifne (tgt := 125) C d5_readShipAndWay_100 rfl (fun c15 => ?_) (fun c15 => ?_)
      · replace h := ite_p c15 h
        refine r_aload_n C d5_readShipAndWay_103 rfl ?_
        refine g_main_0 C d5_readShipAndWay_104 f5_10 hN ?_
        refine x_ldc_wX C d5_readShipAndWay_107 (k := 11) (by decide) ?_
        obtain ⟨r17, h16, h⟩ := bd_of h
        refine cV1_i C M d5_readShipAndWay_110 l5_409 w0_isWord (rc_input hN) (ev0_isWord C.lt hN h16) rfl (Nat.le_of_ble_eq_true rfl) (Nat.le_of_ble_eq_true rfl) ?_
        refine x_ifne (tgt := 125) C d5_readShipAndWay_113 rfl (fun c18 => ?_) (fun c18 => ?_)
        · replace h := ite_p c18 h
          refine r_aload_n C d5_readShipAndWay_116 rfl ?_
          refine g_main_0 C d5_readShipAndWay_117 f5_10 hN ?_
          refine r_iconst C d5_readShipAndWay_120 ?_
          obtain ⟨r20, W21, h19, h⟩ := bd2_of h
          refine cV1_i C M d5_readShipAndWay_121 l5_412 w0_fail (rc_input hN) (ev0_fail C.lt hN h19) rfl (Nat.le_of_ble_eq_true rfl) (Nat.le_of_ble_eq_true rfl) ?_
          obtain ⟨c22, h⟩ := ck_of h
          exact e_zv C M d5_readShipAndWay_124 (Nat.le_of_ble_eq_true rfl) (Nat.le_of_ble_eq_true rfl) c22 h
        · replace h := ite_m c18 h
          refine r_aload_n C d5_readShipAndWay_125 rfl ?_
          refine g_main_1 C d5_readShipAndWay_126 f5_19 hN ?_
          refine g_script_3 C d5_readShipAndWay_129 f5_472 hN ?_
          refine r_iload_n C d5_readShipAndWay_132 rfl ?_
          refine r_iload_n C d5_readShipAndWay_133 rfl ?_
          obtain ⟨c23, h⟩ := ck_of h
          refine x_zast C d5_readShipAndWay_134 (ra_script6 hN) c10 c23 ?_
          refine r_aload_n C d5_readShipAndWay_135 rfl ?_
          refine g_main_0 C d5_readShipAndWay_136 f5_10 hN ?_
          obtain ⟨W25, h24, h⟩ := bd_of h
          refine cV0_v C M d5_readShipAndWay_139 l5_429 w0_readToken (rc_input hN) (ev0_readToken C.lt hN h24) rfl (Nat.le_of_ble_eq_true rfl) (Nat.le_of_ble_eq_true rfl) ?_
          refine r_iconst C d5_readShipAndWay_142 ?_
          exact e_zv C M d5_readShipAndWay_143 (Nat.le_of_ble_eq_true rfl) (Nat.le_of_ble_eq_true rfl) (Or.inr rfl) h
      · replace h := ite_m c15 h
        refine r_aload_n C d5_readShipAndWay_125 rfl ?_
        refine g_main_1 C d5_readShipAndWay_126 f5_19 hN ?_
        refine g_script_3 C d5_readShipAndWay_129 f5_472 hN ?_
        refine r_iload_n C d5_readShipAndWay_132 rfl ?_
        refine r_iload_n C d5_readShipAndWay_133 rfl ?_
        obtain ⟨c26, h⟩ := ck_of h
        refine x_zast C d5_readShipAndWay_134 (ra_script6 hN) c10 c26 ?_
        refine r_aload_n C d5_readShipAndWay_135 rfl ?_
        refine g_main_0 C d5_readShipAndWay_136 f5_10 hN ?_
        obtain ⟨W28, h27, h⟩ := bd_of h
        refine cV0_v C M d5_readShipAndWay_139 l5_429 w0_readToken (rc_input hN) (ev0_readToken C.lt hN h27) rfl (Nat.le_of_ble_eq_true rfl) (Nat.le_of_ble_eq_true rfl) ?_
        refine r_iconst C d5_readShipAndWay_142 ?_
        exact e_zv C M d5_readShipAndWay_143 (Nat.le_of_ble_eq_true rfl) (Nat.le_of_ble_eq_true rfl) (Or.inr rfl) h
  · replace h := ite_m c1 h
    refine r_aload_n C d5_readShipAndWay_11 rfl ?_
    refine g_main_0 C d5_readShipAndWay_12 f5_10 hN ?_
    refine r_iconst C d5_readShipAndWay_15 ?_
    obtain ⟨r30, W31, h29, h⟩ := bd2_of h
    refine cV1_i C M d5_readShipAndWay_16 l5_412 w0_fail (rc_input hN) (ev0_fail C.lt hN h29) rfl (Nat.le_of_ble_eq_true rfl) (Nat.le_of_ble_eq_true rfl) ?_
    obtain ⟨c32, h⟩ := ck_of h
    exact e_zv C M d5_readShipAndWay_19 (Nat.le_of_ble_eq_true rfl) (Nat.le_of_ble_eq_true rfl) c32 h
def f5_readCommand (V : VV) : Option (Int × VV) := bd (f5_verbRead V) (fun r2 => (if nrm r2 = nrm (-1) then bd2 (f0_fail V 1) (fun r5 W6 => ck (r5 = 0 ∨ r5 = 1) (some (r5, W6))) else (if nrm (V 3 0) = nrm 30 then bd2 (f0_fail V 4) (fun r10 W11 => ck (r10 = 0 ∨ r10 = 1) (some (r10, W11))) else ck ((0:Int) ≤ (V 3 0) ∧ (V 3 0) < 30) (bd (f0_readToken (up2 V 4 (Int.toNat (V 3 0)) r2)) (fun W15 => (if nrm r2 = 0 then bd2 (f5_readShipAndWay W15 (V 3 0)) (fun r18 W19 => (if nrm r18 = 0 then some (0, W19) else bd2 (f0_takeNumber W19 0 9999) (fun r22 W23 => (if nrm r22 = 0 then some (0, W23) else (if nrm r2 = nrm 3 then bd2 (f0_takeNumber (up2 W23 7 (Int.toNat (V 3 0)) (W23 1 7)) 0 9999) (fun r27 W28 => (if nrm r27 = 0 then some (0, W28) else bd2 (f0_takeSemicolon (up2 (up2 W28 8 (Int.toNat (V 3 0)) (W28 1 7)) 3 0 (((up2 W28 8 (Int.toNat (V 3 0)) (W28 1 7)) 3 0) + 1))) (fun r31 W32 => ck (r31 = 0 ∨ r31 = 1) (some (r31, W32))))) else (if nrm r2 = nrm 1 then bd2 (f0_takeNumber (up2 W23 7 (Int.toNat (V 3 0)) (W23 1 7)) 0 9999) (fun r36 W37 => (if nrm r36 = 0 then some (0, W37) else bd2 (f0_takeSemicolon (up2 (up2 W37 8 (Int.toNat (V 3 0)) (W37 1 7)) 3 0 (((up2 W37 8 (Int.toNat (V 3 0)) (W37 1 7)) 3 0) + 1))) (fun r40 W41 => ck (r40 = 0 ∨ r40 = 1) (some (r40, W41))))) else bd2 (f0_takeSemicolon (up2 (up2 (up2 W23 7 (Int.toNat (V 3 0)) (W23 1 7)) 8 (Int.toNat (V 3 0)) ((up2 W23 7 (Int.toNat (V 3 0)) (W23 1 7)) 1 7)) 3 0 (((up2 (up2 W23 7 (Int.toNat (V 3 0)) (W23 1 7)) 8 (Int.toNat (V 3 0)) ((up2 W23 7 (Int.toNat (V 3 0)) (W23 1 7)) 1 7)) 3 0) + 1))) (fun r44 W45 => ck (r44 = 0 ∨ r44 = 1) (some (r44, W45))))))))) else (if nrm r2 = nrm 1 then bd2 (f5_readShipAndWay W15 (V 3 0)) (fun r49 W50 => (if nrm r49 = 0 then some (0, W50) else bd2 (f0_takeNumber W50 0 9999) (fun r53 W54 => (if nrm r53 = 0 then some (0, W54) else (if nrm r2 = nrm 3 then bd2 (f0_takeNumber (up2 W54 7 (Int.toNat (V 3 0)) (W54 1 7)) 0 9999) (fun r58 W59 => (if nrm r58 = 0 then some (0, W59) else bd2 (f0_takeSemicolon (up2 (up2 W59 8 (Int.toNat (V 3 0)) (W59 1 7)) 3 0 (((up2 W59 8 (Int.toNat (V 3 0)) (W59 1 7)) 3 0) + 1))) (fun r62 W63 => ck (r62 = 0 ∨ r62 = 1) (some (r62, W63))))) else (if nrm r2 = nrm 1 then bd2 (f0_takeNumber (up2 W54 7 (Int.toNat (V 3 0)) (W54 1 7)) 0 9999) (fun r67 W68 => (if nrm r67 = 0 then some (0, W68) else bd2 (f0_takeSemicolon (up2 (up2 W68 8 (Int.toNat (V 3 0)) (W68 1 7)) 3 0 (((up2 W68 8 (Int.toNat (V 3 0)) (W68 1 7)) 3 0) + 1))) (fun r71 W72 => ck (r71 = 0 ∨ r71 = 1) (some (r71, W72))))) else bd2 (f0_takeSemicolon (up2 (up2 (up2 W54 7 (Int.toNat (V 3 0)) (W54 1 7)) 8 (Int.toNat (V 3 0)) ((up2 W54 7 (Int.toNat (V 3 0)) (W54 1 7)) 1 7)) 3 0 (((up2 (up2 W54 7 (Int.toNat (V 3 0)) (W54 1 7)) 8 (Int.toNat (V 3 0)) ((up2 W54 7 (Int.toNat (V 3 0)) (W54 1 7)) 1 7)) 3 0) + 1))) (fun r75 W76 => ck (r75 = 0 ∨ r75 = 1) (some (r75, W76))))))))) else bd2 (f0_takeNumber W15 0 9999) (fun r79 W80 => (if nrm r79 = 0 then some (0, W80) else (if nrm r2 = nrm 3 then bd2 (f0_takeNumber (up2 W80 7 (Int.toNat (V 3 0)) (W80 1 7)) 0 9999) (fun r84 W85 => (if nrm r84 = 0 then some (0, W85) else bd2 (f0_takeSemicolon (up2 (up2 W85 8 (Int.toNat (V 3 0)) (W85 1 7)) 3 0 (((up2 W85 8 (Int.toNat (V 3 0)) (W85 1 7)) 3 0) + 1))) (fun r88 W89 => ck (r88 = 0 ∨ r88 = 1) (some (r88, W89))))) else (if nrm r2 = nrm 1 then bd2 (f0_takeNumber (up2 W80 7 (Int.toNat (V 3 0)) (W80 1 7)) 0 9999) (fun r93 W94 => (if nrm r93 = 0 then some (0, W94) else bd2 (f0_takeSemicolon (up2 (up2 W94 8 (Int.toNat (V 3 0)) (W94 1 7)) 3 0 (((up2 W94 8 (Int.toNat (V 3 0)) (W94 1 7)) 3 0) + 1))) (fun r97 W98 => ck (r97 = 0 ∨ r97 = 1) (some (r97, W98))))) else bd2 (f0_takeSemicolon (up2 (up2 (up2 W80 7 (Int.toNat (V 3 0)) (W80 1 7)) 8 (Int.toNat (V 3 0)) ((up2 W80 7 (Int.toNat (V 3 0)) (W80 1 7)) 1 7)) 3 0 (((up2 (up2 W80 7 (Int.toNat (V 3 0)) (W80 1 7)) 8 (Int.toNat (V 3 0)) ((up2 W80 7 (Int.toNat (V 3 0)) (W80 1 7)) 1 7)) 3 0) + 1))) (fun r101 W102 => ck (r101 = 0 ∨ r101 = 1) (some (r101, W102))))))))))))))
theorem ev5_readCommand {G : GT} {l : Launch} {V : VV} {r : Int} {V1 : VV} (hlt : l.stackTraces = false) (hN : 148 ≤ gN G) (h : f5_readCommand V = some (r, V1)) : EvX G l y5_readCommand b5_readCommand 3 (some .boolean) 6 0 0 [.ref (gB G + 0)] V (.ok (some (vI r))) V1 := by
  refine ev_w hlt (by decide +kernel) rfl rfl (fun X hl hx C M => ?_)
  subst hl
  replace C : Cx G X "ChannelSchedule" b5_readCommand := C
  unfold f5_readCommand at h
  show At G X 0 0 0 [(0, .ref (gB G + 0))] [] V
  refine r_aload_n C d5_readCommand_0 rfl ?_
  obtain ⟨r2, h1, h⟩ := bd_of h
  refine cV0_i C M d5_readCommand_1 l5_438 w5_verbRead (rc_main hN) (ev5_verbRead C.lt hN h1) rfl (Nat.le_of_ble_eq_true rfl) (Nat.le_of_ble_eq_true rfl) ?_
  refine x_istore_n hx C d5_readCommand_4 rfl ?_
  refine r_iload_n C d5_readCommand_5 rfl ?_
  refine r_iconst C d5_readCommand_6 ?_
  refine x_icmpne (tgt := 19) C d5_readCommand_7 rfl (fun c3 => ?_) (fun c3 => ?_)
  · replace h := ite_p c3 h
    refine r_aload_n C d5_readCommand_10 rfl ?_
    refine g_main_0 C d5_readCommand_11 f5_10 hN ?_
    refine r_iconst C d5_readCommand_14 ?_
    obtain ⟨r5, W6, h4, h⟩ := bd2_of h
    refine cV1_i C M d5_readCommand_15 l5_412 w0_fail (rc_input hN) (ev0_fail C.lt hN h4) rfl (Nat.le_of_ble_eq_true rfl) (Nat.le_of_ble_eq_true rfl) ?_
    obtain ⟨c7, h⟩ := ck_of h
    exact e_zv C M d5_readCommand_18 (Nat.le_of_ble_eq_true rfl) (Nat.le_of_ble_eq_true rfl) c7 h
  · replace h := ite_m c3 h
    refine r_aload_n C d5_readCommand_19 rfl ?_
    refine g_main_1 C d5_readCommand_20 f5_19 hN ?_
    refine g_script_0 C d5_readCommand_23 f5_321 hN ?_
    refine r_bipush C d5_readCommand_26 (by decide +kernel) ?_
    refine x_icmpne (tgt := 40) C d5_readCommand_28 rfl (fun c8 => ?_) (fun c8 => ?_)
    · replace h := ite_p c8 h
      refine r_aload_n C d5_readCommand_31 rfl ?_
      refine g_main_0 C d5_readCommand_32 f5_10 hN ?_
      refine r_iconst C d5_readCommand_35 ?_
      obtain ⟨r10, W11, h9, h⟩ := bd2_of h
      refine cV1_i C M d5_readCommand_36 l5_412 w0_fail (rc_input hN) (ev0_fail C.lt hN h9) rfl (Nat.le_of_ble_eq_true rfl) (Nat.le_of_ble_eq_true rfl) ?_
      obtain ⟨c12, h⟩ := ck_of h
      exact e_zv C M d5_readCommand_39 (Nat.le_of_ble_eq_true rfl) (Nat.le_of_ble_eq_true rfl) c12 h
    · replace h := ite_m c8 h
      refine r_aload_n C d5_readCommand_40 rfl ?_
      refine g_main_1 C d5_readCommand_41 f5_19 hN ?_
      refine g_script_0 C d5_readCommand_44 f5_321 hN ?_
      refine x_istore_n hx C d5_readCommand_47 rfl ?_
      refine r_aload_n C d5_readCommand_48 rfl ?_
      refine g_main_1 C d5_readCommand_49 f5_19 hN ?_
      refine g_script_1 C d5_readCommand_52 f5_441 hN ?_
      refine r_iload_n C d5_readCommand_55 rfl ?_
      refine r_iload_n C d5_readCommand_56 rfl ?_
      obtain ⟨c13, h⟩ := ck_of h
      refine x_iast C d5_readCommand_57 (ra_script4 hN) c13 ?_
      refine r_aload_n C d5_readCommand_58 rfl ?_
      refine g_main_0 C d5_readCommand_59 f5_10 hN ?_
      obtain ⟨W15, h14, h⟩ := bd_of h
      refine cV0_v C M d5_readCommand_62 l5_429 w0_readToken (rc_input hN) (ev0_readToken C.lt hN h14) rfl (Nat.le_of_ble_eq_true rfl) (Nat.le_of_ble_eq_true rfl) ?_
      refine r_iload_n C d5_readCommand_65 rfl ?_
      refine x_ifeq (tgt := 74) C d5_readCommand_66 rfl (fun c16 => ?_) (fun c16 => ?_)
      · replace h := ite_p c16 h
        refine r_aload_n C d5_readCommand_74 rfl ?_
        refine r_iload_n C d5_readCommand_75 rfl ?_
        obtain ⟨r18, W19, h17, h⟩ := bd2_of h
        refine cV1_i C M d5_readCommand_76 l5_444 w5_readShipAndWay (rc_main hN) (ev5_readShipAndWay C.lt hN h17) rfl (Nat.le_of_ble_eq_true rfl) (Nat.le_of_ble_eq_true rfl) ?_
        refine x_ifne (tgt := 84) C d5_readCommand_79 rfl (fun c20 => ?_) (fun c20 => ?_)
        · replace h := ite_p c20 h
          refine r_iconst C d5_readCommand_82 ?_
          exact e_zv C M d5_readCommand_83 (Nat.le_of_ble_eq_true rfl) (Nat.le_of_ble_eq_true rfl) (Or.inl rfl) h
        · replace h := ite_m c20 h
          refine r_aload_n C d5_readCommand_84 rfl ?_
          refine g_main_0 C d5_readCommand_85 f5_10 hN ?_
          refine r_iconst C d5_readCommand_88 ?_
          refine r_sipush C d5_readCommand_89 (by decide +kernel) ?_
          obtain ⟨r22, W23, h21, h⟩ := bd2_of h
          refine cV2_i C M d5_readCommand_92 l5_397 w0_takeNumber (rc_input hN) (ev0_takeNumber C.lt hN h21) rfl (Nat.le_of_ble_eq_true rfl) (Nat.le_of_ble_eq_true rfl) ?_
          refine x_ifne (tgt := 100) C d5_readCommand_95 rfl (fun c24 => ?_) (fun c24 => ?_)
          · replace h := ite_p c24 h
            refine r_iconst C d5_readCommand_98 ?_
            exact e_zv C M d5_readCommand_99 (Nat.le_of_ble_eq_true rfl) (Nat.le_of_ble_eq_true rfl) (Or.inl rfl) h
          · replace h := ite_m c24 h
            refine r_aload_n C d5_readCommand_100 rfl ?_
            refine g_main_1 C d5_readCommand_101 f5_19 hN ?_
            refine g_script_4 C d5_readCommand_104 f5_447 hN ?_
            refine r_iload_n C d5_readCommand_107 rfl ?_
            refine r_aload_n C d5_readCommand_108 rfl ?_
            refine g_main_0 C d5_readCommand_109 f5_10 hN ?_
            refine g_input_7 C d5_readCommand_112 f5_400 hN ?_
            refine x_iast C d5_readCommand_115 (ra_script7 hN) c13 ?_
            refine r_iload_n C d5_readCommand_116 rfl ?_
            refine r_iconst C d5_readCommand_117 ?_
            refine x_icmpeq (tgt := 126) C d5_readCommand_118 rfl (fun c25 => ?_) (fun c25 => ?_)
            · replace h := ite_p c25 h
              refine r_aload_n C d5_readCommand_126 rfl ?_
              refine g_main_0 C d5_readCommand_127 f5_10 hN ?_
              refine r_iconst C d5_readCommand_130 ?_
              refine r_sipush C d5_readCommand_131 (by decide +kernel) ?_
              obtain ⟨r27, W28, h26, h⟩ := bd2_of h
              refine cV2_i C M d5_readCommand_134 l5_397 w0_takeNumber (rc_input hN) (ev0_takeNumber C.lt hN h26) rfl (Nat.le_of_ble_eq_true rfl) (Nat.le_of_ble_eq_true rfl) ?_
              refine x_ifne (tgt := 142) C d5_readCommand_137 rfl (fun c29 => ?_) (fun c29 => ?_)
              · replace h := ite_p c29 h
                refine r_iconst C d5_readCommand_140 ?_
                exact e_zv C M d5_readCommand_141 (Nat.le_of_ble_eq_true rfl) (Nat.le_of_ble_eq_true rfl) (Or.inl rfl) h
              · replace h := ite_m c29 h
                refine r_aload_n C d5_readCommand_142 rfl ?_
                refine g_main_1 C d5_readCommand_143 f5_19 hN ?_
                refine g_script_5 C d5_readCommand_146 f5_450 hN ?_
                refine r_iload_n C d5_readCommand_149 rfl ?_
                refine r_aload_n C d5_readCommand_150 rfl ?_
                refine g_main_0 C d5_readCommand_151 f5_10 hN ?_
                refine g_input_7 C d5_readCommand_154 f5_400 hN ?_
                refine x_iast C d5_readCommand_157 (ra_script8 hN) c13 ?_
                refine r_aload_n C d5_readCommand_158 rfl ?_
                refine g_main_1 C d5_readCommand_159 f5_19 hN ?_
                refine r_dup C d5_readCommand_162 rfl ?_
                refine g_script_0 C d5_readCommand_163 f5_321 hN ?_
                refine r_iconst C d5_readCommand_166 ?_
                refine r_iadd C d5_readCommand_167 ?_
                refine p_script_0 C d5_readCommand_168 f5_321 hN ?_
                refine r_aload_n C d5_readCommand_171 rfl ?_
                refine g_main_0 C d5_readCommand_172 f5_10 hN ?_
                obtain ⟨r31, W32, h30, h⟩ := bd2_of h
                refine cV0_i C M d5_readCommand_175 l5_404 w0_takeSemicolon (rc_input hN) (ev0_takeSemicolon C.lt hN h30) rfl (Nat.le_of_ble_eq_true rfl) (Nat.le_of_ble_eq_true rfl) ?_
                obtain ⟨c33, h⟩ := ck_of h
                exact e_zv C M d5_readCommand_178 (Nat.le_of_ble_eq_true rfl) (Nat.le_of_ble_eq_true rfl) c33 h
            · replace h := ite_m c25 h
              refine r_iload_n C d5_readCommand_121 rfl ?_
              refine r_iconst C d5_readCommand_122 ?_
              refine x_icmpne (tgt := 142) C d5_readCommand_123 rfl (fun c34 => ?_) (fun c34 => ?_)
              · replace h := ite_p c34 h
                refine r_aload_n C d5_readCommand_126 rfl ?_
                refine g_main_0 C d5_readCommand_127 f5_10 hN ?_
                refine r_iconst C d5_readCommand_130 ?_
                refine r_sipush C d5_readCommand_131 (by decide +kernel) ?_
                obtain ⟨r36, W37, h35, h⟩ := bd2_of h
                refine cV2_i C M d5_readCommand_134 l5_397 w0_takeNumber (rc_input hN) (ev0_takeNumber C.lt hN h35) rfl (Nat.le_of_ble_eq_true rfl) (Nat.le_of_ble_eq_true rfl) ?_
                refine x_ifne (tgt := 142) C d5_readCommand_137 rfl (fun c38 => ?_) (fun c38 => ?_)
                · replace h := ite_p c38 h
                  refine r_iconst C d5_readCommand_140 ?_
                  exact e_zv C M d5_readCommand_141 (Nat.le_of_ble_eq_true rfl) (Nat.le_of_ble_eq_true rfl) (Or.inl rfl) h
                · replace h := ite_m c38 h
                  refine r_aload_n C d5_readCommand_142 rfl ?_
                  refine g_main_1 C d5_readCommand_143 f5_19 hN ?_
                  refine g_script_5 C d5_readCommand_146 f5_450 hN ?_
                  refine r_iload_n C d5_readCommand_149 rfl ?_
                  refine r_aload_n C d5_readCommand_150 rfl ?_
                  refine g_main_0 C d5_readCommand_151 f5_10 hN ?_
                  refine g_input_7 C d5_readCommand_154 f5_400 hN ?_
                  refine x_iast C d5_readCommand_157 (ra_script8 hN) c13 ?_
                  refine r_aload_n C d5_readCommand_158 rfl ?_
                  refine g_main_1 C d5_readCommand_159 f5_19 hN ?_
                  refine r_dup C d5_readCommand_162 rfl ?_
                  refine g_script_0 C d5_readCommand_163 f5_321 hN ?_
                  refine r_iconst C d5_readCommand_166 ?_
                  refine r_iadd C d5_readCommand_167 ?_
                  refine p_script_0 C d5_readCommand_168 f5_321 hN ?_
                  refine r_aload_n C d5_readCommand_171 rfl ?_
                  refine g_main_0 C d5_readCommand_172 f5_10 hN ?_
                  obtain ⟨r40, W41, h39, h⟩ := bd2_of h
                  refine cV0_i C M d5_readCommand_175 l5_404 w0_takeSemicolon (rc_input hN) (ev0_takeSemicolon C.lt hN h39) rfl (Nat.le_of_ble_eq_true rfl) (Nat.le_of_ble_eq_true rfl) ?_
                  obtain ⟨c42, h⟩ := ck_of h
                  exact e_zv C M d5_readCommand_178 (Nat.le_of_ble_eq_true rfl) (Nat.le_of_ble_eq_true rfl) c42 h
              · replace h := ite_m c34 h
                refine r_aload_n C d5_readCommand_142 rfl ?_
                refine g_main_1 C d5_readCommand_143 f5_19 hN ?_
                refine g_script_5 C d5_readCommand_146 f5_450 hN ?_
                refine r_iload_n C d5_readCommand_149 rfl ?_
                refine r_aload_n C d5_readCommand_150 rfl ?_
                refine g_main_0 C d5_readCommand_151 f5_10 hN ?_
                refine g_input_7 C d5_readCommand_154 f5_400 hN ?_
                refine x_iast C d5_readCommand_157 (ra_script8 hN) c13 ?_
                refine r_aload_n C d5_readCommand_158 rfl ?_
                refine g_main_1 C d5_readCommand_159 f5_19 hN ?_
                refine r_dup C d5_readCommand_162 rfl ?_
                refine g_script_0 C d5_readCommand_163 f5_321 hN ?_
                refine r_iconst C d5_readCommand_166 ?_
                refine r_iadd C d5_readCommand_167 ?_
                refine p_script_0 C d5_readCommand_168 f5_321 hN ?_
                refine r_aload_n C d5_readCommand_171 rfl ?_
                refine g_main_0 C d5_readCommand_172 f5_10 hN ?_
                obtain ⟨r44, W45, h43, h⟩ := bd2_of h
                refine cV0_i C M d5_readCommand_175 l5_404 w0_takeSemicolon (rc_input hN) (ev0_takeSemicolon C.lt hN h43) rfl (Nat.le_of_ble_eq_true rfl) (Nat.le_of_ble_eq_true rfl) ?_
                obtain ⟨c46, h⟩ := ck_of h
                exact e_zv C M d5_readCommand_178 (Nat.le_of_ble_eq_true rfl) (Nat.le_of_ble_eq_true rfl) c46 h
      · replace h := ite_m c16 h
        refine r_iload_n C d5_readCommand_69 rfl ?_
        refine r_iconst C d5_readCommand_70 ?_
        refine x_icmpne (tgt := 84) C d5_readCommand_71 rfl (fun c47 => ?_) (fun c47 => ?_)
        · replace h := ite_p c47 h
          refine r_aload_n C d5_readCommand_74 rfl ?_
          refine r_iload_n C d5_readCommand_75 rfl ?_
          obtain ⟨r49, W50, h48, h⟩ := bd2_of h
          refine cV1_i C M d5_readCommand_76 l5_444 w5_readShipAndWay (rc_main hN) (ev5_readShipAndWay C.lt hN h48) rfl (Nat.le_of_ble_eq_true rfl) (Nat.le_of_ble_eq_true rfl) ?_
          refine x_ifne (tgt := 84) C d5_readCommand_79 rfl (fun c51 => ?_) (fun c51 => ?_)
          · replace h := ite_p c51 h
            refine r_iconst C d5_readCommand_82 ?_
            exact e_zv C M d5_readCommand_83 (Nat.le_of_ble_eq_true rfl) (Nat.le_of_ble_eq_true rfl) (Or.inl rfl) h
          · replace h := ite_m c51 h
            refine r_aload_n C d5_readCommand_84 rfl ?_
            refine g_main_0 C d5_readCommand_85 f5_10 hN ?_
            refine r_iconst C d5_readCommand_88 ?_
            refine r_sipush C d5_readCommand_89 (by decide +kernel) ?_
            obtain ⟨r53, W54, h52, h⟩ := bd2_of h
            refine cV2_i C M d5_readCommand_92 l5_397 w0_takeNumber (rc_input hN) (ev0_takeNumber C.lt hN h52) rfl (Nat.le_of_ble_eq_true rfl) (Nat.le_of_ble_eq_true rfl) ?_
            refine x_ifne (tgt := 100) C d5_readCommand_95 rfl (fun c55 => ?_) (fun c55 => ?_)
            · replace h := ite_p c55 h
              refine r_iconst C d5_readCommand_98 ?_
              exact e_zv C M d5_readCommand_99 (Nat.le_of_ble_eq_true rfl) (Nat.le_of_ble_eq_true rfl) (Or.inl rfl) h
            · replace h := ite_m c55 h
              refine r_aload_n C d5_readCommand_100 rfl ?_
              refine g_main_1 C d5_readCommand_101 f5_19 hN ?_
              refine g_script_4 C d5_readCommand_104 f5_447 hN ?_
              refine r_iload_n C d5_readCommand_107 rfl ?_
              refine r_aload_n C d5_readCommand_108 rfl ?_
              refine g_main_0 C d5_readCommand_109 f5_10 hN ?_
              refine g_input_7 C d5_readCommand_112 f5_400 hN ?_
              refine x_iast C d5_readCommand_115 (ra_script7 hN) c13 ?_
              refine r_iload_n C d5_readCommand_116 rfl ?_
              refine r_iconst C d5_readCommand_117 ?_
              refine x_icmpeq (tgt := 126) C d5_readCommand_118 rfl (fun c56 => ?_) (fun c56 => ?_)
              · replace h := ite_p c56 h
                refine r_aload_n C d5_readCommand_126 rfl ?_
                refine g_main_0 C d5_readCommand_127 f5_10 hN ?_
                refine r_iconst C d5_readCommand_130 ?_
                refine r_sipush C d5_readCommand_131 (by decide +kernel) ?_
                obtain ⟨r58, W59, h57, h⟩ := bd2_of h
                refine cV2_i C M d5_readCommand_134 l5_397 w0_takeNumber (rc_input hN) (ev0_takeNumber C.lt hN h57) rfl (Nat.le_of_ble_eq_true rfl) (Nat.le_of_ble_eq_true rfl) ?_
                refine x_ifne (tgt := 142) C d5_readCommand_137 rfl (fun c60 => ?_) (fun c60 => ?_)
                · replace h := ite_p c60 h
                  refine r_iconst C d5_readCommand_140 ?_
                  exact e_zv C M d5_readCommand_141 (Nat.le_of_ble_eq_true rfl) (Nat.le_of_ble_eq_true rfl) (Or.inl rfl) h
                · replace h := ite_m c60 h
                  refine r_aload_n C d5_readCommand_142 rfl ?_
                  refine g_main_1 C d5_readCommand_143 f5_19 hN ?_
                  refine g_script_5 C d5_readCommand_146 f5_450 hN ?_
                  refine r_iload_n C d5_readCommand_149 rfl ?_
                  refine r_aload_n C d5_readCommand_150 rfl ?_
                  refine g_main_0 C d5_readCommand_151 f5_10 hN ?_
                  refine g_input_7 C d5_readCommand_154 f5_400 hN ?_
                  refine x_iast C d5_readCommand_157 (ra_script8 hN) c13 ?_
                  refine r_aload_n C d5_readCommand_158 rfl ?_
                  refine g_main_1 C d5_readCommand_159 f5_19 hN ?_
                  refine r_dup C d5_readCommand_162 rfl ?_
                  refine g_script_0 C d5_readCommand_163 f5_321 hN ?_
                  refine r_iconst C d5_readCommand_166 ?_
                  refine r_iadd C d5_readCommand_167 ?_
                  refine p_script_0 C d5_readCommand_168 f5_321 hN ?_
                  refine r_aload_n C d5_readCommand_171 rfl ?_
                  refine g_main_0 C d5_readCommand_172 f5_10 hN ?_
                  obtain ⟨r62, W63, h61, h⟩ := bd2_of h
                  refine cV0_i C M d5_readCommand_175 l5_404 w0_takeSemicolon (rc_input hN) (ev0_takeSemicolon C.lt hN h61) rfl (Nat.le_of_ble_eq_true rfl) (Nat.le_of_ble_eq_true rfl) ?_
                  obtain ⟨c64, h⟩ := ck_of h
                  exact e_zv C M d5_readCommand_178 (Nat.le_of_ble_eq_true rfl) (Nat.le_of_ble_eq_true rfl) c64 h
              · replace h := ite_m c56 h
                refine r_iload_n C d5_readCommand_121 rfl ?_
                refine r_iconst C d5_readCommand_122 ?_
                refine x_icmpne (tgt := 142) C d5_readCommand_123 rfl (fun c65 => ?_) (fun c65 => ?_)
                · replace h := ite_p c65 h
                  refine r_aload_n C d5_readCommand_126 rfl ?_
                  refine g_main_0 C d5_readCommand_127 f5_10 hN ?_
                  refine r_iconst C d5_readCommand_130 ?_
                  refine r_sipush C d5_readCommand_131 (by decide +kernel) ?_
                  obtain ⟨r67, W68, h66, h⟩ := bd2_of h
                  refine cV2_i C M d5_readCommand_134 l5_397 w0_takeNumber (rc_input hN) (ev0_takeNumber C.lt hN h66) rfl (Nat.le_of_ble_eq_true rfl) (Nat.le_of_ble_eq_true rfl) ?_
                  refine x_ifne (tgt := 142) C d5_readCommand_137 rfl (fun c69 => ?_) (fun c69 => ?_)
                  · replace h := ite_p c69 h
                    refine r_iconst C d5_readCommand_140 ?_
                    exact e_zv C M d5_readCommand_141 (Nat.le_of_ble_eq_true rfl) (Nat.le_of_ble_eq_true rfl) (Or.inl rfl) h
                  · replace h := ite_m c69 h
                    refine r_aload_n C d5_readCommand_142 rfl ?_
                    refine g_main_1 C d5_readCommand_143 f5_19 hN ?_
                    refine g_script_5 C d5_readCommand_146 f5_450 hN ?_
                    refine r_iload_n C d5_readCommand_149 rfl ?_
                    refine r_aload_n C d5_readCommand_150 rfl ?_
                    refine g_main_0 C d5_readCommand_151 f5_10 hN ?_
                    refine g_input_7 C d5_readCommand_154 f5_400 hN ?_
                    refine x_iast C d5_readCommand_157 (ra_script8 hN) c13 ?_
                    refine r_aload_n C d5_readCommand_158 rfl ?_
                    refine g_main_1 C d5_readCommand_159 f5_19 hN ?_
                    refine r_dup C d5_readCommand_162 rfl ?_
                    refine g_script_0 C d5_readCommand_163 f5_321 hN ?_
                    refine r_iconst C d5_readCommand_166 ?_
                    refine r_iadd C d5_readCommand_167 ?_
                    refine p_script_0 C d5_readCommand_168 f5_321 hN ?_
                    refine r_aload_n C d5_readCommand_171 rfl ?_
                    refine g_main_0 C d5_readCommand_172 f5_10 hN ?_
                    obtain ⟨r71, W72, h70, h⟩ := bd2_of h
                    refine cV0_i C M d5_readCommand_175 l5_404 w0_takeSemicolon (rc_input hN) (ev0_takeSemicolon C.lt hN h70) rfl (Nat.le_of_ble_eq_true rfl) (Nat.le_of_ble_eq_true rfl) ?_
                    obtain ⟨c73, h⟩ := ck_of h
                    exact e_zv C M d5_readCommand_178 (Nat.le_of_ble_eq_true rfl) (Nat.le_of_ble_eq_true rfl) c73 h
                · replace h := ite_m c65 h
                  refine r_aload_n C d5_readCommand_142 rfl ?_
                  refine g_main_1 C d5_readCommand_143 f5_19 hN ?_
                  refine g_script_5 C d5_readCommand_146 f5_450 hN ?_
                  refine r_iload_n C d5_readCommand_149 rfl ?_
                  refine r_aload_n C d5_readCommand_150 rfl ?_
                  refine g_main_0 C d5_readCommand_151 f5_10 hN ?_
                  refine g_input_7 C d5_readCommand_154 f5_400 hN ?_
                  refine x_iast C d5_readCommand_157 (ra_script8 hN) c13 ?_
                  refine r_aload_n C d5_readCommand_158 rfl ?_
                  refine g_main_1 C d5_readCommand_159 f5_19 hN ?_
                  refine r_dup C d5_readCommand_162 rfl ?_
                  refine g_script_0 C d5_readCommand_163 f5_321 hN ?_
                  refine r_iconst C d5_readCommand_166 ?_
                  refine r_iadd C d5_readCommand_167 ?_
                  refine p_script_0 C d5_readCommand_168 f5_321 hN ?_
                  refine r_aload_n C d5_readCommand_171 rfl ?_
                  refine g_main_0 C d5_readCommand_172 f5_10 hN ?_
                  obtain ⟨r75, W76, h74, h⟩ := bd2_of h
                  refine cV0_i C M d5_readCommand_175 l5_404 w0_takeSemicolon (rc_input hN) (ev0_takeSemicolon C.lt hN h74) rfl (Nat.le_of_ble_eq_true rfl) (Nat.le_of_ble_eq_true rfl) ?_
                  obtain ⟨c77, h⟩ := ck_of h
                  exact e_zv C M d5_readCommand_178 (Nat.le_of_ble_eq_true rfl) (Nat.le_of_ble_eq_true rfl) c77 h
        · replace h := ite_m c47 h
          refine r_aload_n C d5_readCommand_84 rfl ?_
          refine g_main_0 C d5_readCommand_85 f5_10 hN ?_
          refine r_iconst C d5_readCommand_88 ?_
          refine r_sipush C d5_readCommand_89 (by decide +kernel) ?_
          obtain ⟨r79, W80, h78, h⟩ := bd2_of h
          refine cV2_i C M d5_readCommand_92 l5_397 w0_takeNumber (rc_input hN) (ev0_takeNumber C.lt hN h78) rfl (Nat.le_of_ble_eq_true rfl) (Nat.le_of_ble_eq_true rfl) ?_
          refine x_ifne (tgt := 100) C d5_readCommand_95 rfl (fun c81 => ?_) (fun c81 => ?_)
          · replace h := ite_p c81 h
            refine r_iconst C d5_readCommand_98 ?_
            exact e_zv C M d5_readCommand_99 (Nat.le_of_ble_eq_true rfl) (Nat.le_of_ble_eq_true rfl) (Or.inl rfl) h
          · replace h := ite_m c81 h
            refine r_aload_n C d5_readCommand_100 rfl ?_
            refine g_main_1 C d5_readCommand_101 f5_19 hN ?_
            refine g_script_4 C d5_readCommand_104 f5_447 hN ?_
            refine r_iload_n C d5_readCommand_107 rfl ?_
            refine r_aload_n C d5_readCommand_108 rfl ?_
            refine g_main_0 C d5_readCommand_109 f5_10 hN ?_
            refine g_input_7 C d5_readCommand_112 f5_400 hN ?_
            refine x_iast C d5_readCommand_115 (ra_script7 hN) c13 ?_
            refine r_iload_n C d5_readCommand_116 rfl ?_
            refine r_iconst C d5_readCommand_117 ?_
            refine x_icmpeq (tgt := 126) C d5_readCommand_118 rfl (fun c82 => ?_) (fun c82 => ?_)
            · replace h := ite_p c82 h
              refine r_aload_n C d5_readCommand_126 rfl ?_
              refine g_main_0 C d5_readCommand_127 f5_10 hN ?_
              refine r_iconst C d5_readCommand_130 ?_
              refine r_sipush C d5_readCommand_131 (by decide +kernel) ?_
              obtain ⟨r84, W85, h83, h⟩ := bd2_of h
              refine cV2_i C M d5_readCommand_134 l5_397 w0_takeNumber (rc_input hN) (ev0_takeNumber C.lt hN h83) rfl (Nat.le_of_ble_eq_true rfl) (Nat.le_of_ble_eq_true rfl) ?_
              refine x_ifne (tgt := 142) C d5_readCommand_137 rfl (fun c86 => ?_) (fun c86 => ?_)
              · replace h := ite_p c86 h
                refine r_iconst C d5_readCommand_140 ?_
                exact e_zv C M d5_readCommand_141 (Nat.le_of_ble_eq_true rfl) (Nat.le_of_ble_eq_true rfl) (Or.inl rfl) h
              · replace h := ite_m c86 h
                refine r_aload_n C d5_readCommand_142 rfl ?_
                refine g_main_1 C d5_readCommand_143 f5_19 hN ?_
                refine g_script_5 C d5_readCommand_146 f5_450 hN ?_
                refine r_iload_n C d5_readCommand_149 rfl ?_
                refine r_aload_n C d5_readCommand_150 rfl ?_
                refine g_main_0 C d5_readCommand_151 f5_10 hN ?_
                refine g_input_7 C d5_readCommand_154 f5_400 hN ?_
                refine x_iast C d5_readCommand_157 (ra_script8 hN) c13 ?_
                refine r_aload_n C d5_readCommand_158 rfl ?_
                refine g_main_1 C d5_readCommand_159 f5_19 hN ?_
                refine r_dup C d5_readCommand_162 rfl ?_
                refine g_script_0 C d5_readCommand_163 f5_321 hN ?_
                refine r_iconst C d5_readCommand_166 ?_
                refine r_iadd C d5_readCommand_167 ?_
                refine p_script_0 C d5_readCommand_168 f5_321 hN ?_
                refine r_aload_n C d5_readCommand_171 rfl ?_
                refine g_main_0 C d5_readCommand_172 f5_10 hN ?_
                obtain ⟨r88, W89, h87, h⟩ := bd2_of h
                refine cV0_i C M d5_readCommand_175 l5_404 w0_takeSemicolon (rc_input hN) (ev0_takeSemicolon C.lt hN h87) rfl (Nat.le_of_ble_eq_true rfl) (Nat.le_of_ble_eq_true rfl) ?_
                obtain ⟨c90, h⟩ := ck_of h
                exact e_zv C M d5_readCommand_178 (Nat.le_of_ble_eq_true rfl) (Nat.le_of_ble_eq_true rfl) c90 h
            · replace h := ite_m c82 h
              refine r_iload_n C d5_readCommand_121 rfl ?_
              refine r_iconst C d5_readCommand_122 ?_
              refine x_icmpne (tgt := 142) C d5_readCommand_123 rfl (fun c91 => ?_) (fun c91 => ?_)
              · replace h := ite_p c91 h
                refine r_aload_n C d5_readCommand_126 rfl ?_
                refine g_main_0 C d5_readCommand_127 f5_10 hN ?_
                refine r_iconst C d5_readCommand_130 ?_
                refine r_sipush C d5_readCommand_131 (by decide +kernel) ?_
                obtain ⟨r93, W94, h92, h⟩ := bd2_of h
                refine cV2_i C M d5_readCommand_134 l5_397 w0_takeNumber (rc_input hN) (ev0_takeNumber C.lt hN h92) rfl (Nat.le_of_ble_eq_true rfl) (Nat.le_of_ble_eq_true rfl) ?_
                refine x_ifne (tgt := 142) C d5_readCommand_137 rfl (fun c95 => ?_) (fun c95 => ?_)
                · replace h := ite_p c95 h
                  refine r_iconst C d5_readCommand_140 ?_
                  exact e_zv C M d5_readCommand_141 (Nat.le_of_ble_eq_true rfl) (Nat.le_of_ble_eq_true rfl) (Or.inl rfl) h
                · replace h := ite_m c95 h
                  refine r_aload_n C d5_readCommand_142 rfl ?_
                  refine g_main_1 C d5_readCommand_143 f5_19 hN ?_
                  refine g_script_5 C d5_readCommand_146 f5_450 hN ?_
                  refine r_iload_n C d5_readCommand_149 rfl ?_
                  refine r_aload_n C d5_readCommand_150 rfl ?_
                  refine g_main_0 C d5_readCommand_151 f5_10 hN ?_
                  refine g_input_7 C d5_readCommand_154 f5_400 hN ?_
                  refine x_iast C d5_readCommand_157 (ra_script8 hN) c13 ?_
                  refine r_aload_n C d5_readCommand_158 rfl ?_
                  refine g_main_1 C d5_readCommand_159 f5_19 hN ?_
                  refine r_dup C d5_readCommand_162 rfl ?_
                  refine g_script_0 C d5_readCommand_163 f5_321 hN ?_
                  refine r_iconst C d5_readCommand_166 ?_
                  refine r_iadd C d5_readCommand_167 ?_
                  refine p_script_0 C d5_readCommand_168 f5_321 hN ?_
                  refine r_aload_n C d5_readCommand_171 rfl ?_
                  refine g_main_0 C d5_readCommand_172 f5_10 hN ?_
                  obtain ⟨r97, W98, h96, h⟩ := bd2_of h
                  refine cV0_i C M d5_readCommand_175 l5_404 w0_takeSemicolon (rc_input hN) (ev0_takeSemicolon C.lt hN h96) rfl (Nat.le_of_ble_eq_true rfl) (Nat.le_of_ble_eq_true rfl) ?_
                  obtain ⟨c99, h⟩ := ck_of h
                  exact e_zv C M d5_readCommand_178 (Nat.le_of_ble_eq_true rfl) (Nat.le_of_ble_eq_true rfl) c99 h
              · replace h := ite_m c91 h
                refine r_aload_n C d5_readCommand_142 rfl ?_
                refine g_main_1 C d5_readCommand_143 f5_19 hN ?_
                refine g_script_5 C d5_readCommand_146 f5_450 hN ?_
                refine r_iload_n C d5_readCommand_149 rfl ?_
                refine r_aload_n C d5_readCommand_150 rfl ?_
                refine g_main_0 C d5_readCommand_151 f5_10 hN ?_
                refine g_input_7 C d5_readCommand_154 f5_400 hN ?_
                refine x_iast C d5_readCommand_157 (ra_script8 hN) c13 ?_
                refine r_aload_n C d5_readCommand_158 rfl ?_
                refine g_main_1 C d5_readCommand_159 f5_19 hN ?_
                refine r_dup C d5_readCommand_162 rfl ?_
                refine g_script_0 C d5_readCommand_163 f5_321 hN ?_
                refine r_iconst C d5_readCommand_166 ?_
                refine r_iadd C d5_readCommand_167 ?_
                refine p_script_0 C d5_readCommand_168 f5_321 hN ?_
                refine r_aload_n C d5_readCommand_171 rfl ?_
                refine g_main_0 C d5_readCommand_172 f5_10 hN ?_
                obtain ⟨r101, W102, h100, h⟩ := bd2_of h
                refine cV0_i C M d5_readCommand_175 l5_404 w0_takeSemicolon (rc_input hN) (ev0_takeSemicolon C.lt hN h100) rfl (Nat.le_of_ble_eq_true rfl) (Nat.le_of_ble_eq_true rfl) ?_
                obtain ⟨c103, h⟩ := ck_of h
                exact e_zv C M d5_readCommand_178 (Nat.le_of_ble_eq_true rfl) (Nat.le_of_ble_eq_true rfl) c103 h
def f5_readScript_L17 : Nat → Int → VV → Option (Int × VV)
  | 0, _, _ => none
  | n + 1, x1, V => (if nrm 30 < nrm x1 then some (1, V) else (if nrm (V 1 4) = 0 then some (1, V) else bd2 (f5_readCommand V) (fun r6 W7 => (if nrm r6 = 0 then some (0, W7) else f5_readScript_L17 n (x1 + 1) W7))))
theorem lp5_readScript_17 {G : GT} {X : CT} {cells slots : Nat} (hN : 148 ≤ gN G) (hx : xN X = 2) (C : Cx G X "ChannelSchedule" b5_readScript) : ∀ (n : Nat) {x1 : Int} {V : VV} {r : Int} {V1 : VV}, MX G X 7 0 0 (some .boolean) (.ok (some (vI r))) V1 → cells ≤ 0 → slots ≤ 0 → f5_readScript_L17 n x1 V = some (r, V1) → At G X cells slots 17 [(0, .ref (gB G + 0)), (1, vI x1)] [] V := by
  intro n
  induction n with
  | zero => intro x1 V r V1 _ _ _ h; exact nomatch h
  | succ n ih =>
    intro x1 V r V1 M hc hs h
    rw [f5_readScript_L17] at h
    refine r_iload_n C d5_readScript_17 rfl ?_
    refine r_bipush C d5_readScript_18 (by decide +kernel) ?_
    refine x_icmpgt (tgt := 48) C d5_readScript_20 rfl (fun c3 => ?_) (fun c3 => ?_)
    · replace h := ite_p c3 h
      refine r_iconst C d5_readScript_48 ?_
      exact e_zv C M d5_readScript_49 hc hs (Or.inr rfl) h
    · replace h := ite_m c3 h
      refine r_aload_n C d5_readScript_23 rfl ?_
      refine g_main_0 C d5_readScript_24 f5_10 hN ?_
      refine g_input_4 C d5_readScript_27 f5_385 hN ?_
      refine x_ifeq (tgt := 48) C d5_readScript_30 rfl (fun c4 => ?_) (fun c4 => ?_)
      · replace h := ite_p c4 h
        refine r_iconst C d5_readScript_48 ?_
        exact e_zv C M d5_readScript_49 hc hs (Or.inr rfl) h
      · replace h := ite_m c4 h
        refine r_aload_n C d5_readScript_33 rfl ?_
        obtain ⟨r6, W7, h5, h⟩ := bd2_of h
        refine cV0_i C M d5_readScript_34 l5_435 w5_readCommand (rc_main hN) (ev5_readCommand C.lt hN h5) rfl hc hs ?_
        refine x_ifne (tgt := 42) C d5_readScript_37 rfl (fun c8 => ?_) (fun c8 => ?_)
        · replace h := ite_p c8 h
          refine r_iconst C d5_readScript_40 ?_
          exact e_zv C M d5_readScript_41 hc hs (Or.inl rfl) h
        · replace h := ite_m c8 h
          refine x_iinc hx C d5_readScript_42 rfl rfl ?_
          refine r_goto (tgt := 17) C d5_readScript_45 rfl ?_
          exact AtH.sw (ih M hc hs h) ⟨rfl, rfl, trivial⟩
def f5_readScript (V : VV) : Option (Int × VV) := bd (f0_startReading V) (fun W2 => f5_readScript_L17 FU 0 (up2 W2 3 0 0))
theorem ev5_readScript {G : GT} {l : Launch} {V : VV} {r : Int} {V1 : VV} (hlt : l.stackTraces = false) (hN : 148 ≤ gN G) (h : f5_readScript V = some (r, V1)) : EvX G l y5_readScript b5_readScript 2 (some .boolean) 7 0 0 [.ref (gB G + 0)] V (.ok (some (vI r))) V1 := by
  refine ev_w hlt (by decide +kernel) rfl rfl (fun X hl hx C M => ?_)
  subst hl
  replace C : Cx G X "ChannelSchedule" b5_readScript := C
  unfold f5_readScript at h
  show At G X 0 0 0 [(0, .ref (gB G + 0))] [] V
  refine r_aload_n C d5_readScript_0 rfl ?_
  refine g_main_0 C d5_readScript_1 f5_10 hN ?_
  obtain ⟨W2, h1, h⟩ := bd_of h
  refine cV0_v C M d5_readScript_4 l5_379 w0_startReading (rc_input hN) (ev0_startReading C.lt hN h1) rfl (Nat.le_of_ble_eq_true rfl) (Nat.le_of_ble_eq_true rfl) ?_
  refine r_aload_n C d5_readScript_7 rfl ?_
  refine g_main_1 C d5_readScript_8 f5_19 hN ?_
  refine r_iconst C d5_readScript_11 ?_
  refine p_script_0 C d5_readScript_12 f5_321 hN ?_
  refine r_iconst C d5_readScript_15 ?_
  refine x_istore_n hx C d5_readScript_16 rfl ?_
  exact AtH.sw (lp5_readScript_17 hN hx C FU M (Nat.le_of_ble_eq_true rfl) (Nat.le_of_ble_eq_true rfl) h) ⟨rfl, rfl, trivial⟩
def f5_faultOf (V : VV) (x1 : Int) : Option Int := ck ((0:Int) ≤ x1 ∧ x1 < 30) ((if nrm (V 4 (Int.toNat x1)) = 0 then bd (f5_bookFault V (V 5 (Int.toNat x1)) (V 6 (Int.toNat x1)) (V 7 (Int.toNat x1))) (fun r9 => some r9) else if nrm (V 4 (Int.toNat x1)) = 1 then bd (f5_requestFault V (V 5 (Int.toNat x1)) (V 6 (Int.toNat x1)) (V 7 (Int.toNat x1)) (V 8 (Int.toNat x1))) (fun r11 => some r11) else if nrm (V 4 (Int.toNat x1)) = 2 then bd (f5_cancelFault V (V 7 (Int.toNat x1))) (fun r13 => some r13) else if nrm (V 4 (Int.toNat x1)) = 3 then bd (f5_moveFault V (V 7 (Int.toNat x1)) (V 8 (Int.toNat x1))) (fun r15 => some r15) else if nrm (V 4 (Int.toNat x1)) = 4 then bd (f5_isRequest V (V 7 (Int.toNat x1))) (fun r17 => (if nrm r17 = 0 then some 1 else some 0)) else if nrm (V 4 (Int.toNat x1)) = 5 then bd (f5_isWithin V (V 7 (Int.toNat x1)) 0 9) (fun r20 => (if nrm r20 = 0 then some 2 else some 0)) else bd (f5_advanceFault V (V 7 (Int.toNat x1))) (fun r23 => some r23)))
theorem ev5_faultOf {G : GT} {l : Launch} {V : VV} {x1 : Int} {r : Int} (hlt : l.stackTraces = false) (hN : 148 ≤ gN G) (h : f5_faultOf V x1 = some r) : EvX G l y5_faultOf b5_faultOf 4 (some .int) 5 0 0 [.ref (gB G + 0), vI x1] V (.ok (some (vI r))) V := by
  refine ev_w hlt (by decide +kernel) rfl rfl (fun X hl hx C M => ?_)
  subst hl
  replace C : Cx G X "ChannelSchedule" b5_faultOf := C
  unfold f5_faultOf at h
  show At G X 0 0 0 [(0, .ref (gB G + 0)), (1, vI x1)] [] V
  refine r_aload_n C d5_faultOf_0 rfl ?_
  refine g_main_1 C d5_faultOf_1 f5_19 hN ?_
  refine g_script_4 C d5_faultOf_4 f5_447 hN ?_
  refine r_iload_n C d5_faultOf_7 rfl ?_
  obtain ⟨c1, h⟩ := ck_of h
  refine x_iald C d5_faultOf_8 (ra_script7 hN) c1 ?_
  refine x_istore_n hx C d5_faultOf_9 rfl ?_
  refine r_aload_n C d5_faultOf_10 rfl ?_
  refine g_main_1 C d5_faultOf_11 f5_19 hN ?_
  refine g_script_5 C d5_faultOf_14 f5_450 hN ?_
  refine r_iload_n C d5_faultOf_17 rfl ?_
  refine x_iald C d5_faultOf_18 (ra_script8 hN) c1 ?_
  refine x_istore_n hx C d5_faultOf_19 rfl ?_
  refine r_aload_n C d5_faultOf_20 rfl ?_
  refine g_main_1 C d5_faultOf_21 f5_19 hN ?_
  refine g_script_1 C d5_faultOf_24 f5_441 hN ?_
  refine r_iload_n C d5_faultOf_27 rfl ?_
  refine x_iald C d5_faultOf_28 (ra_script4 hN) c1 ?_
  refine x_tsw6 (t0 := 68) (t1 := 92) (t2 := 117) (t3 := 123) (t4 := 130) (t5 := 144) (td := 160) C d5_faultOf_29 rfl rfl rfl rfl rfl rfl rfl (fun c2 => ?_) (fun c3 => ?_) (fun c4 => ?_) (fun c5 => ?_) (fun c6 => ?_) (fun c7 => ?_) (fun c2 c3 c4 c5 c6 c7 => ?_)
  · replace h := ite_p c2 h
    refine r_aload_n C d5_faultOf_68 rfl ?_
    refine r_aload_n C d5_faultOf_69 rfl ?_
    refine g_main_1 C d5_faultOf_70 f5_19 hN ?_
    refine g_script_2 C d5_faultOf_73 f5_467 hN ?_
    refine r_iload_n C d5_faultOf_76 rfl ?_
    refine x_iald C d5_faultOf_77 (ra_script5 hN) c1 ?_
    refine r_aload_n C d5_faultOf_78 rfl ?_
    refine g_main_1 C d5_faultOf_79 f5_19 hN ?_
    refine g_script_3 C d5_faultOf_82 f5_472 hN ?_
    refine r_iload_n C d5_faultOf_85 rfl ?_
    refine x_zald C d5_faultOf_86 (ra_script6 hN) c1 ?_
    refine r_iload_n C d5_faultOf_87 rfl ?_
    obtain ⟨r9, h8, h⟩ := bd_of h
    refine cV3_i C M d5_faultOf_88 l5_277 w5_bookFault (rc_main hN) (ev5_bookFault C.lt hN h8) rfl (Nat.le_of_ble_eq_true rfl) (Nat.le_of_ble_eq_true rfl) ?_
    exact e_i C M d5_faultOf_91 (Nat.le_of_ble_eq_true rfl) (Nat.le_of_ble_eq_true rfl) h
  · replace h := ite_p c3 (ite_m (by omega : ¬ nrm (V 4 (Int.toNat x1)) = 0) h)
    refine r_aload_n C d5_faultOf_92 rfl ?_
    refine r_aload_n C d5_faultOf_93 rfl ?_
    refine g_main_1 C d5_faultOf_94 f5_19 hN ?_
    refine g_script_2 C d5_faultOf_97 f5_467 hN ?_
    refine r_iload_n C d5_faultOf_100 rfl ?_
    refine x_iald C d5_faultOf_101 (ra_script5 hN) c1 ?_
    refine r_aload_n C d5_faultOf_102 rfl ?_
    refine g_main_1 C d5_faultOf_103 f5_19 hN ?_
    refine g_script_3 C d5_faultOf_106 f5_472 hN ?_
    refine r_iload_n C d5_faultOf_109 rfl ?_
    refine x_zald C d5_faultOf_110 (ra_script6 hN) c1 ?_
    refine r_iload_n C d5_faultOf_111 rfl ?_
    refine r_iload_n C d5_faultOf_112 rfl ?_
    obtain ⟨r11, h10, h⟩ := bd_of h
    refine cV4_i C M d5_faultOf_113 l5_290 w5_requestFault (rc_main hN) (ev5_requestFault C.lt hN h10) rfl (Nat.le_of_ble_eq_true rfl) (Nat.le_of_ble_eq_true rfl) ?_
    exact e_i C M d5_faultOf_116 (Nat.le_of_ble_eq_true rfl) (Nat.le_of_ble_eq_true rfl) h
  · replace h := ite_p c4 (ite_m (by omega : ¬ nrm (V 4 (Int.toNat x1)) = 1) (ite_m (by omega : ¬ nrm (V 4 (Int.toNat x1)) = 0) h))
    refine r_aload_n C d5_faultOf_117 rfl ?_
    refine r_iload_n C d5_faultOf_118 rfl ?_
    obtain ⟨r13, h12, h⟩ := bd_of h
    refine cV1_i C M d5_faultOf_119 l5_297 w5_cancelFault (rc_main hN) (ev5_cancelFault C.lt hN h12) rfl (Nat.le_of_ble_eq_true rfl) (Nat.le_of_ble_eq_true rfl) ?_
    exact e_i C M d5_faultOf_122 (Nat.le_of_ble_eq_true rfl) (Nat.le_of_ble_eq_true rfl) h
  · replace h := ite_p c5 (ite_m (by omega : ¬ nrm (V 4 (Int.toNat x1)) = 2) (ite_m (by omega : ¬ nrm (V 4 (Int.toNat x1)) = 1) (ite_m (by omega : ¬ nrm (V 4 (Int.toNat x1)) = 0) h)))
    refine r_aload_n C d5_faultOf_123 rfl ?_
    refine r_iload_n C d5_faultOf_124 rfl ?_
    refine r_iload_n C d5_faultOf_125 rfl ?_
    obtain ⟨r15, h14, h⟩ := bd_of h
    refine cV2_i C M d5_faultOf_126 l5_300 w5_moveFault (rc_main hN) (ev5_moveFault C.lt hN h14) rfl (Nat.le_of_ble_eq_true rfl) (Nat.le_of_ble_eq_true rfl) ?_
    exact e_i C M d5_faultOf_129 (Nat.le_of_ble_eq_true rfl) (Nat.le_of_ble_eq_true rfl) h
  · replace h := ite_p c6 (ite_m (by omega : ¬ nrm (V 4 (Int.toNat x1)) = 3) (ite_m (by omega : ¬ nrm (V 4 (Int.toNat x1)) = 2) (ite_m (by omega : ¬ nrm (V 4 (Int.toNat x1)) = 1) (ite_m (by omega : ¬ nrm (V 4 (Int.toNat x1)) = 0) h))))
    refine r_aload_n C d5_faultOf_130 rfl ?_
    refine r_iload_n C d5_faultOf_131 rfl ?_
    obtain ⟨r17, h16, h⟩ := bd_of h
    refine cV1_i C M d5_faultOf_132 l5_234 w5_isRequest (rc_main hN) (ev5_isRequest C.lt hN h16) rfl (Nat.le_of_ble_eq_true rfl) (Nat.le_of_ble_eq_true rfl) ?_
    refine x_ifeq (tgt := 142) C d5_faultOf_135 rfl (fun c18 => ?_) (fun c18 => ?_)
    · replace h := ite_p c18 h
      refine r_iconst C d5_faultOf_142 ?_
      exact e_i C M d5_faultOf_143 (Nat.le_of_ble_eq_true rfl) (Nat.le_of_ble_eq_true rfl) h
    · replace h := ite_m c18 h
      refine r_iconst C d5_faultOf_138 ?_
      refine r_goto (tgt := 143) C d5_faultOf_139 rfl ?_
      exact e_i C M d5_faultOf_143 (Nat.le_of_ble_eq_true rfl) (Nat.le_of_ble_eq_true rfl) h
  · replace h := ite_p c7 (ite_m (by omega : ¬ nrm (V 4 (Int.toNat x1)) = 4) (ite_m (by omega : ¬ nrm (V 4 (Int.toNat x1)) = 3) (ite_m (by omega : ¬ nrm (V 4 (Int.toNat x1)) = 2) (ite_m (by omega : ¬ nrm (V 4 (Int.toNat x1)) = 1) (ite_m (by omega : ¬ nrm (V 4 (Int.toNat x1)) = 0) h)))))
    refine r_iload_n C d5_faultOf_144 rfl ?_
    refine r_iconst C d5_faultOf_145 ?_
    refine r_bipush C d5_faultOf_146 (by decide +kernel) ?_
    obtain ⟨r20, h19, h⟩ := bd_of h
    refine cS3_i C M d5_faultOf_148 l5_104 w5_isWithin (ev5_isWithin C.lt hN h19) rfl (Nat.le_of_ble_eq_true rfl) (Nat.le_of_ble_eq_true rfl) ?_
    refine x_ifeq (tgt := 158) C d5_faultOf_151 rfl (fun c21 => ?_) (fun c21 => ?_)
    · replace h := ite_p c21 h
      refine r_iconst C d5_faultOf_158 ?_
      exact e_i C M d5_faultOf_159 (Nat.le_of_ble_eq_true rfl) (Nat.le_of_ble_eq_true rfl) h
    · replace h := ite_m c21 h
      refine r_iconst C d5_faultOf_154 ?_
      refine r_goto (tgt := 159) C d5_faultOf_155 rfl ?_
      exact e_i C M d5_faultOf_159 (Nat.le_of_ble_eq_true rfl) (Nat.le_of_ble_eq_true rfl) h
  · replace h := (ite_m c7 (ite_m c6 (ite_m c5 (ite_m c4 (ite_m c3 (ite_m c2 h))))))
    refine r_aload_n C d5_faultOf_160 rfl ?_
    refine r_iload_n C d5_faultOf_161 rfl ?_
    obtain ⟨r23, h22, h⟩ := bd_of h
    refine cV1_i C M d5_faultOf_162 l5_312 w5_advanceFault (rc_main hN) (ev5_advanceFault C.lt hN h22) rfl (Nat.le_of_ble_eq_true rfl) (Nat.le_of_ble_eq_true rfl) ?_
    exact e_i C M d5_faultOf_165 (Nat.le_of_ble_eq_true rfl) (Nat.le_of_ble_eq_true rfl) h
def f5_execute (V : VV) (x1 : Int) : Option VV := ck ((0:Int) ≤ x1 ∧ x1 < 30) ((if nrm (V 4 (Int.toNat x1)) = 0 then bd2 (f5_bookNow V (V 5 (Int.toNat x1)) (V 6 (Int.toNat x1)) (V 7 (Int.toNat x1))) (fun r9 W10 => some W10) else if nrm (V 4 (Int.toNat x1)) = 1 then bd2 (f5_requestNow V (V 5 (Int.toNat x1)) (V 6 (Int.toNat x1)) (V 7 (Int.toNat x1)) (V 8 (Int.toNat x1))) (fun r12 W13 => some W13) else if nrm (V 4 (Int.toNat x1)) = 2 then bd2 (f5_cancelNow V (V 7 (Int.toNat x1))) (fun r15 W16 => some W16) else if nrm (V 4 (Int.toNat x1)) = 3 then bd2 (f5_moveNow V (V 7 (Int.toNat x1)) (V 8 (Int.toNat x1))) (fun r18 W19 => some W19) else if nrm (V 4 (Int.toNat x1)) = 4 then bd (f1_removeRequest V 0 (V 7 (Int.toNat x1))) (fun W21 => some W21) else if nrm (V 4 (Int.toNat x1)) = 5 then bd2 (f5_freezeNow V (V 7 (Int.toNat x1))) (fun r23 W24 => some W24) else bd2 (f5_advanceNow V (V 7 (Int.toNat x1))) (fun r26 W27 => some W27)))
theorem ev5_execute {G : GT} {l : Launch} {V : VV} {x1 : Int} {V1 : VV} (hlt : l.stackTraces = false) (hN : 148 ≤ gN G) (h : f5_execute V x1 = some V1) : EvX G l y5_execute b5_execute 4 none 5 0 0 [.ref (gB G + 0), vI x1] V (.ok none) V1 := by
  refine ev_w hlt (by decide +kernel) rfl rfl (fun X hl hx C M => ?_)
  subst hl
  replace C : Cx G X "ChannelSchedule" b5_execute := C
  unfold f5_execute at h
  show At G X 0 0 0 [(0, .ref (gB G + 0)), (1, vI x1)] [] V
  refine r_aload_n C d5_execute_0 rfl ?_
  refine g_main_1 C d5_execute_1 f5_19 hN ?_
  refine g_script_4 C d5_execute_4 f5_447 hN ?_
  refine r_iload_n C d5_execute_7 rfl ?_
  obtain ⟨c1, h⟩ := ck_of h
  refine x_iald C d5_execute_8 (ra_script7 hN) c1 ?_
  refine x_istore_n hx C d5_execute_9 rfl ?_
  refine r_aload_n C d5_execute_10 rfl ?_
  refine g_main_1 C d5_execute_11 f5_19 hN ?_
  refine g_script_5 C d5_execute_14 f5_450 hN ?_
  refine r_iload_n C d5_execute_17 rfl ?_
  refine x_iald C d5_execute_18 (ra_script8 hN) c1 ?_
  refine x_istore_n hx C d5_execute_19 rfl ?_
  refine r_aload_n C d5_execute_20 rfl ?_
  refine g_main_1 C d5_execute_21 f5_19 hN ?_
  refine g_script_1 C d5_execute_24 f5_441 hN ?_
  refine r_iload_n C d5_execute_27 rfl ?_
  refine x_iald C d5_execute_28 (ra_script4 hN) c1 ?_
  refine x_tsw6 (t0 := 68) (t1 := 95) (t2 := 123) (t3 := 132) (t4 := 142) (t5 := 153) (td := 162) C d5_execute_29 rfl rfl rfl rfl rfl rfl rfl (fun c2 => ?_) (fun c3 => ?_) (fun c4 => ?_) (fun c5 => ?_) (fun c6 => ?_) (fun c7 => ?_) (fun c2 c3 c4 c5 c6 c7 => ?_)
  · replace h := ite_p c2 h
    refine r_aload_n C d5_execute_68 rfl ?_
    refine r_aload_n C d5_execute_69 rfl ?_
    refine g_main_1 C d5_execute_70 f5_19 hN ?_
    refine g_script_2 C d5_execute_73 f5_467 hN ?_
    refine r_iload_n C d5_execute_76 rfl ?_
    refine x_iald C d5_execute_77 (ra_script5 hN) c1 ?_
    refine r_aload_n C d5_execute_78 rfl ?_
    refine g_main_1 C d5_execute_79 f5_19 hN ?_
    refine g_script_3 C d5_execute_82 f5_472 hN ?_
    refine r_iload_n C d5_execute_85 rfl ?_
    refine x_zald C d5_execute_86 (ra_script6 hN) c1 ?_
    refine r_iload_n C d5_execute_87 rfl ?_
    obtain ⟨r9, W10, h8, h⟩ := bd2_of h
    refine cV3_i C M d5_execute_88 l5_287 w5_bookNow (rc_main hN) (ev5_bookNow C.lt hN h8) rfl (Nat.le_of_ble_eq_true rfl) (Nat.le_of_ble_eq_true rfl) ?_
    refine r_pop C d5_execute_91 rfl ?_
    refine r_goto (tgt := 168) C d5_execute_92 rfl ?_
    exact e_v C M d5_execute_168 (Nat.le_of_ble_eq_true rfl) (Nat.le_of_ble_eq_true rfl) h
  · replace h := ite_p c3 (ite_m (by omega : ¬ nrm (V 4 (Int.toNat x1)) = 0) h)
    refine r_aload_n C d5_execute_95 rfl ?_
    refine r_aload_n C d5_execute_96 rfl ?_
    refine g_main_1 C d5_execute_97 f5_19 hN ?_
    refine g_script_2 C d5_execute_100 f5_467 hN ?_
    refine r_iload_n C d5_execute_103 rfl ?_
    refine x_iald C d5_execute_104 (ra_script5 hN) c1 ?_
    refine r_aload_n C d5_execute_105 rfl ?_
    refine g_main_1 C d5_execute_106 f5_19 hN ?_
    refine g_script_3 C d5_execute_109 f5_472 hN ?_
    refine r_iload_n C d5_execute_112 rfl ?_
    refine x_zald C d5_execute_113 (ra_script6 hN) c1 ?_
    refine r_iload_n C d5_execute_114 rfl ?_
    refine r_iload_n C d5_execute_115 rfl ?_
    obtain ⟨r12, W13, h11, h⟩ := bd2_of h
    refine cV4_i C M d5_execute_116 l5_294 w5_requestNow (rc_main hN) (ev5_requestNow C.lt hN h11) rfl (Nat.le_of_ble_eq_true rfl) (Nat.le_of_ble_eq_true rfl) ?_
    refine r_pop C d5_execute_119 rfl ?_
    refine r_goto (tgt := 168) C d5_execute_120 rfl ?_
    exact e_v C M d5_execute_168 (Nat.le_of_ble_eq_true rfl) (Nat.le_of_ble_eq_true rfl) h
  · replace h := ite_p c4 (ite_m (by omega : ¬ nrm (V 4 (Int.toNat x1)) = 1) (ite_m (by omega : ¬ nrm (V 4 (Int.toNat x1)) = 0) h))
    refine r_aload_n C d5_execute_123 rfl ?_
    refine r_iload_n C d5_execute_124 rfl ?_
    obtain ⟨r15, W16, h14, h⟩ := bd2_of h
    refine cV1_i C M d5_execute_125 l5_265 w5_cancelNow (rc_main hN) (ev5_cancelNow C.lt hN h14) rfl (Nat.le_of_ble_eq_true rfl) (Nat.le_of_ble_eq_true rfl) ?_
    refine r_pop C d5_execute_128 rfl ?_
    refine r_goto (tgt := 168) C d5_execute_129 rfl ?_
    exact e_v C M d5_execute_168 (Nat.le_of_ble_eq_true rfl) (Nat.le_of_ble_eq_true rfl) h
  · replace h := ite_p c5 (ite_m (by omega : ¬ nrm (V 4 (Int.toNat x1)) = 2) (ite_m (by omega : ¬ nrm (V 4 (Int.toNat x1)) = 1) (ite_m (by omega : ¬ nrm (V 4 (Int.toNat x1)) = 0) h)))
    refine r_aload_n C d5_execute_132 rfl ?_
    refine r_iload_n C d5_execute_133 rfl ?_
    refine r_iload_n C d5_execute_134 rfl ?_
    obtain ⟨r18, W19, h17, h⟩ := bd2_of h
    refine cV2_i C M d5_execute_135 l5_303 w5_moveNow (rc_main hN) (ev5_moveNow C.lt hN h17) rfl (Nat.le_of_ble_eq_true rfl) (Nat.le_of_ble_eq_true rfl) ?_
    refine r_pop C d5_execute_138 rfl ?_
    refine r_goto (tgt := 168) C d5_execute_139 rfl ?_
    exact e_v C M d5_execute_168 (Nat.le_of_ble_eq_true rfl) (Nat.le_of_ble_eq_true rfl) h
  · replace h := ite_p c6 (ite_m (by omega : ¬ nrm (V 4 (Int.toNat x1)) = 3) (ite_m (by omega : ¬ nrm (V 4 (Int.toNat x1)) = 2) (ite_m (by omega : ¬ nrm (V 4 (Int.toNat x1)) = 1) (ite_m (by omega : ¬ nrm (V 4 (Int.toNat x1)) = 0) h))))
    refine r_aload_n C d5_execute_142 rfl ?_
    refine g_main_4 C d5_execute_143 f5_36 hN ?_
    refine r_iload_n C d5_execute_146 rfl ?_
    obtain ⟨W21, h20, h⟩ := bd_of h
    refine cV1_v C M d5_execute_147 l5_306 w1_removeRequest (rc_plan hN p0) (ev1_removeRequest C.lt hN h20) rfl (Nat.le_of_ble_eq_true rfl) (Nat.le_of_ble_eq_true rfl) ?_
    refine r_goto (tgt := 168) C d5_execute_150 rfl ?_
    exact e_v C M d5_execute_168 (Nat.le_of_ble_eq_true rfl) (Nat.le_of_ble_eq_true rfl) h
  · replace h := ite_p c7 (ite_m (by omega : ¬ nrm (V 4 (Int.toNat x1)) = 4) (ite_m (by omega : ¬ nrm (V 4 (Int.toNat x1)) = 3) (ite_m (by omega : ¬ nrm (V 4 (Int.toNat x1)) = 2) (ite_m (by omega : ¬ nrm (V 4 (Int.toNat x1)) = 1) (ite_m (by omega : ¬ nrm (V 4 (Int.toNat x1)) = 0) h)))))
    refine r_aload_n C d5_execute_153 rfl ?_
    refine r_iload_n C d5_execute_154 rfl ?_
    obtain ⟨r23, W24, h22, h⟩ := bd2_of h
    refine cV1_i C M d5_execute_155 l5_309 w5_freezeNow (rc_main hN) (ev5_freezeNow C.lt hN h22) rfl (Nat.le_of_ble_eq_true rfl) (Nat.le_of_ble_eq_true rfl) ?_
    refine r_pop C d5_execute_158 rfl ?_
    refine r_goto (tgt := 168) C d5_execute_159 rfl ?_
    exact e_v C M d5_execute_168 (Nat.le_of_ble_eq_true rfl) (Nat.le_of_ble_eq_true rfl) h
  · replace h := (ite_m c7 (ite_m c6 (ite_m c5 (ite_m c4 (ite_m c3 (ite_m c2 h))))))
    refine r_aload_n C d5_execute_162 rfl ?_
    refine r_iload_n C d5_execute_163 rfl ?_
    obtain ⟨r26, W27, h25, h⟩ := bd2_of h
    refine cV1_i C M d5_execute_164 l5_315 w5_advanceNow (rc_main hN) (ev5_advanceNow C.lt hN h25) rfl (Nat.le_of_ble_eq_true rfl) (Nat.le_of_ble_eq_true rfl) ?_
    refine r_pop C d5_execute_167 rfl ?_
    exact e_v C M d5_execute_168 (Nat.le_of_ble_eq_true rfl) (Nat.le_of_ble_eq_true rfl) h
def f5_runScript_L23 : Nat → Int → VV → Option (Int × VV)
  | 0, _, _ => none
  | n + 1, x2, V => (if nrm (V 3 0) ≤ nrm x2 then some (x2, V) else bd (f5_faultOf V x2) (fun r9 => (if nrm r9 = 0 then bd (f5_execute V x2) (fun W12 => f5_runScript_L23 n (x2 + 1) W12) else some (x2, V))))
theorem lp5_runScript_23 {G : GT} {X : CT} {cells slots : Nat} (hN : 148 ≤ gN G) (hx : xN X = 3) (C : Cx G X "ChannelSchedule" b5_runScript) {o0 : Except String (Option Value)} {V9 : VV} (M : MX G X 8 1 6 (some .int) o0 V9) (hc : cells ≤ 1) (hs : slots ≤ 6) : ∀ (n : Nat) {x2 : Int} {V : VV} {e2 : Int} {W0 : VV}, f5_runScript_L23 n x2 V = some (e2, W0) → At G X cells slots 53 [(2, vI e2)] [] W0 → At G X cells slots 23 [(0, .ref (gB G + 0)), (2, vI x2)] [] V := by
  intro n
  induction n with
  | zero => intro x2 V e2 W0 h _; exact nomatch h
  | succ n ih =>
    intro x2 V e2 W0 h K
    rw [f5_runScript_L23] at h
    refine r_iload_n C d5_runScript_23 rfl ?_
    refine r_aload_n C d5_runScript_24 rfl ?_
    refine g_main_1 C d5_runScript_25 f5_19 hN ?_
    refine g_script_0 C d5_runScript_28 f5_321 hN ?_
    refine x_icmpge (tgt := 53) C d5_runScript_31 rfl (fun c7 => ?_) (fun c7 => ?_)
    · replace h := ite_p c7 h
      cases h
      exact AtH.sw K ⟨rfl, trivial⟩
    · replace h := ite_m c7 h
      refine r_aload_n C d5_runScript_34 rfl ?_
      refine r_iload_n C d5_runScript_35 rfl ?_
      obtain ⟨r9, h8, h⟩ := bd_of h
      refine cV1_i C M d5_runScript_36 l5_324 w5_faultOf (rc_main hN) (ev5_faultOf C.lt hN h8) rfl hc hs ?_
      refine x_ifne (tgt := 53) C d5_runScript_39 rfl (fun c10 => ?_) (fun c10 => ?_)
      · replace h := ite_p c10 h
        refine r_aload_n C d5_runScript_42 rfl ?_
        refine r_iload_n C d5_runScript_43 rfl ?_
        obtain ⟨W12, h11, h⟩ := bd_of h
        refine cV1_v C M d5_runScript_44 l5_327 w5_execute (rc_main hN) (ev5_execute C.lt hN h11) rfl hc hs ?_
        refine x_iinc hx C d5_runScript_47 rfl rfl ?_
        refine r_goto (tgt := 23) C d5_runScript_50 rfl ?_
        exact AtH.sw (ih h K) ⟨rfl, rfl, trivial⟩
      · replace h := ite_m c10 h
        cases h
        exact AtH.sw K ⟨rfl, trivial⟩
def f5_runScript (V : VV) : Option (Except String Int × VV) := bd2 (f5_readScript V) (fun r2 W3 => if nrm r2 = 0 then some (.error "java/lang/IllegalArgumentException", up2 W3 1 1 0) else bd (f5_remember (up2 W3 1 1 0)) (fun W6 => bd2 (f5_runScript_L23 FU 0 W6) (fun y13 W14 => some (.ok y13, W14))))
theorem ev5_runScript {G : GT} {l : Launch} {V : VV} {e : Except String Int} {V1 : VV} (hlt : l.stackTraces = false) (hN : 148 ≤ gN G) (hX : gX G = false) (h : f5_runScript V = some (e, V1)) : EvX G l y5_runScript b5_runScript 3 (some .int) 8 1 6 [.ref (gB G + 0)] V (oX e) V1 := by
  refine ev_w hlt (by decide +kernel) rfl rfl (fun X hl hx C M => ?_)
  subst hl
  replace C : Cx G X "ChannelSchedule" b5_runScript := C
  unfold f5_runScript at h
  show At G X 0 0 0 [(0, .ref (gB G + 0))] [] V
  refine r_aload_n C d5_runScript_0 rfl ?_
  obtain ⟨r2, W3, h1, h⟩ := bd2_of h
  refine cV0_i C M d5_runScript_1 l5_318 w5_readScript (rc_main hN) (ev5_readScript C.lt hN h1) rfl (Nat.le_of_ble_eq_true rfl) (Nat.le_of_ble_eq_true rfl) ?_
  refine x_istore_n hx C d5_runScript_4 rfl ?_
  refine r_aload_n C d5_runScript_5 rfl ?_
  refine g_main_0 C d5_runScript_6 f5_10 hN ?_
  refine r_iconst C d5_runScript_9 ?_
  refine p_input_1 C d5_runScript_10 f5_95 hN ?_
  refine r_iload_n C d5_runScript_13 rfl ?_
  refine c_req C M d5_runScript_14 l5_108 w5_requireArgument (ev5_requireArgument C.lt hX) rfl (Nat.le_of_ble_eq_true rfl) (Nat.le_of_ble_eq_true rfl) (fun c4 => e_thr (ite_p c4 h)) (fun c4 => ?_)
  replace h := ite_m c4 h
  refine r_aload_n C d5_runScript_17 rfl ?_
  obtain ⟨W6, h5, h⟩ := bd_of h
  refine cV0_v C M d5_runScript_18 l5_284 w5_remember (rc_main hN) (ev5_remember C.lt hN h5) rfl (Nat.le_of_ble_eq_true rfl) (Nat.le_of_ble_eq_true rfl) ?_
  refine r_iconst C d5_runScript_21 ?_
  refine x_istore_n hx C d5_runScript_22 rfl ?_
  obtain ⟨y13, W14, h15, h⟩ := bd2_of h
  refine AtH.sw (lp5_runScript_23 hN hx C M (Nat.le_of_ble_eq_true rfl) (Nat.le_of_ble_eq_true rfl) FU h15 ?_) ⟨rfl, rfl, trivial⟩
  refine r_iload_n C d5_runScript_53 rfl ?_
  exact e_it C M d5_runScript_54 (Nat.le_of_ble_eq_true rfl) (Nat.le_of_ble_eq_true rfl) h
def f5_undo (V : VV) : Option (Except String Int × VV) := bd ((if nrm (V 0 8) ≤ 0 then some (0) else some (1))) (fun y2 => if nrm y2 = 0 then some (.error "java/lang/IllegalStateException", V) else ck ((0:Int) ≤ (V 0 7) ∧ (V 0 7) < 6) (bd (f1_copyFrom V 0 ((Int.toNat (V 0 7)) + 2)) (fun W8 => bd ((if nrm (W8 0 7) = 0 then some (5) else some ((W8 0 7) - 1))) (fun y10 => some (.ok ((up2 (up2 W8 0 7 y10) 0 8 (((up2 W8 0 7 y10) 0 8) - 1)) 0 8), up2 (up2 W8 0 7 y10) 0 8 (((up2 W8 0 7 y10) 0 8) - 1))))))
theorem ev5_undo {G : GT} {l : Launch} {V : VV} {e : Except String Int} {V1 : VV} (hlt : l.stackTraces = false) (hN : 148 ≤ gN G) (hX : gX G = false) (h : f5_undo V = some (e, V1)) : EvX G l y5_undo b5_undo 1 (some .int) 7 1 6 [.ref (gB G + 0)] V (oX e) V1 := by
  refine ev_w hlt (by decide +kernel) rfl rfl (fun X hl hx C M => ?_)
  subst hl
  replace C : Cx G X "ChannelSchedule" b5_undo := C
  unfold f5_undo at h
  show At G X 0 0 0 [(0, .ref (gB G + 0))] [] V
  refine r_aload_n C d5_undo_0 rfl ?_
  refine g_main_8 C d5_undo_1 f5_51 hN ?_
  obtain ⟨y2, h3, h⟩ := bd_of h
  suffices J4 : At G X 0 0 12 [(0, .ref (gB G + 0))] [vI y2] V by
    replace h := h3
    refine x_ifle (tgt := 11) C d5_undo_4 rfl (fun c1 => ?_) (fun c1 => ?_)
    · replace h := ite_p c1 h
      refine r_iconst C d5_undo_11 ?_
      cases h
      exact AtH.sw J4 ⟨rfl, trivial⟩
    · replace h := ite_m c1 h
      refine r_iconst C d5_undo_7 ?_
      refine r_goto (tgt := 12) C d5_undo_8 rfl ?_
      cases h
      exact AtH.sw J4 ⟨rfl, trivial⟩
  refine c_req C M d5_undo_12 l5_97 w5_requireState (ev5_requireState C.lt hX) rfl (Nat.le_of_ble_eq_true rfl) (Nat.le_of_ble_eq_true rfl) (fun c5 => e_thr (ite_p c5 h)) (fun c5 => ?_)
  replace h := ite_m c5 h
  refine r_aload_n C d5_undo_15 rfl ?_
  refine g_main_4 C d5_undo_16 f5_36 hN ?_
  refine r_aload_n C d5_undo_19 rfl ?_
  refine g_main_6 C d5_undo_20 f5_43 hN ?_
  refine r_aload_n C d5_undo_23 rfl ?_
  refine g_main_7 C d5_undo_24 f5_47 hN ?_
  obtain ⟨c6, h⟩ := ck_of h
  refine x_past C d5_undo_27 hN c6 ?_
  obtain ⟨W8, h7, h⟩ := bd_of h
  refine cV1_v C M d5_undo_28 l5_261 w1_copyFrom (rc_plan hN p0) (ev1_copyFrom C.lt hN h7) rfl (Nat.le_of_ble_eq_true rfl) (Nat.le_of_ble_eq_true rfl) ?_
  refine r_aload_n C d5_undo_31 rfl ?_
  refine r_aload_n C d5_undo_32 rfl ?_
  refine g_main_7 C d5_undo_33 f5_47 hN ?_
  obtain ⟨y10, h11, h⟩ := bd_of h
  suffices J12 : At G X 1 6 49 [(0, .ref (gB G + 0))] [vI y10, .ref (gB G + 0)] W8 by
    replace h := h11
    refine x_ifne (tgt := 43) C d5_undo_36 rfl (fun c9 => ?_) (fun c9 => ?_)
    · replace h := ite_p c9 h
      refine r_iconst C d5_undo_39 ?_
      refine r_goto (tgt := 49) C d5_undo_40 rfl ?_
      cases h
      exact AtH.sw J12 ⟨rfl, trivial⟩
    · replace h := ite_m c9 h
      refine r_aload_n C d5_undo_43 rfl ?_
      refine g_main_7 C d5_undo_44 f5_47 hN ?_
      refine r_iconst C d5_undo_47 ?_
      refine r_isub C d5_undo_48 ?_
      cases h
      exact AtH.sw J12 ⟨rfl, trivial⟩
  refine p_main_7 C d5_undo_49 f5_47 hN ?_
  refine r_aload_n C d5_undo_52 rfl ?_
  refine r_dup C d5_undo_53 rfl ?_
  refine g_main_8 C d5_undo_54 f5_51 hN ?_
  refine r_iconst C d5_undo_57 ?_
  refine r_isub C d5_undo_58 ?_
  refine p_main_8 C d5_undo_59 f5_51 hN ?_
  refine r_aload_n C d5_undo_62 rfl ?_
  refine g_main_8 C d5_undo_63 f5_51 hN ?_
  exact e_it C M d5_undo_66 (Nat.le_of_ble_eq_true rfl) (Nat.le_of_ble_eq_true rfl) h
def f5_save (V : VV) (x1 : Int) : Option (Except String Int × VV) := bd (f5_isNumberBelow V x1 2) (fun r2 => if nrm r2 = 0 then some (.error "java/lang/IndexOutOfBoundsException", V) else ck ((0:Int) ≤ x1 ∧ x1 < 2) (bd (f1_copyFrom V ((Int.toNat x1) + 8) 0) (fun W6 => some (.ok ((up2 W6 73 (Int.toNat x1) 1) (aP 0) 5), up2 W6 73 (Int.toNat x1) 1))))
theorem ev5_save {G : GT} {l : Launch} {V : VV} {x1 : Int} {e : Except String Int} {V1 : VV} (hlt : l.stackTraces = false) (hN : 148 ≤ gN G) (hX : gX G = false) (h : f5_save V x1 = some (e, V1)) : EvX G l y5_save b5_save 2 (some .int) 7 1 6 [.ref (gB G + 0), vI x1] V (oX e) V1 := by
  refine ev_w hlt (by decide +kernel) rfl rfl (fun X hl hx C M => ?_)
  subst hl
  replace C : Cx G X "ChannelSchedule" b5_save := C
  unfold f5_save at h
  show At G X 0 0 0 [(0, .ref (gB G + 0)), (1, vI x1)] [] V
  refine r_iload_n C d5_save_0 rfl ?_
  refine r_iconst C d5_save_1 ?_
  obtain ⟨r2, h1, h⟩ := bd_of h
  refine cS2_i C M d5_save_2 l5_158 w5_isNumberBelow (ev5_isNumberBelow C.lt hN h1) rfl (Nat.le_of_ble_eq_true rfl) (Nat.le_of_ble_eq_true rfl) ?_
  refine c_req C M d5_save_5 l5_136 w5_requireIndex (ev5_requireIndex C.lt hX) rfl (Nat.le_of_ble_eq_true rfl) (Nat.le_of_ble_eq_true rfl) (fun c3 => e_thr (ite_p c3 h)) (fun c3 => ?_)
  replace h := ite_m c3 h
  refine r_aload_n C d5_save_8 rfl ?_
  refine g_main_9 C d5_save_9 f5_54 hN ?_
  refine r_iload_n C d5_save_12 rfl ?_
  obtain ⟨c4, h⟩ := ck_of h
  refine x_saved C d5_save_13 hN c4 ?_
  refine r_aload_n C d5_save_14 rfl ?_
  refine g_main_4 C d5_save_15 f5_36 hN ?_
  obtain ⟨W6, h5, h⟩ := bd_of h
  refine cV1_v C M d5_save_18 l5_261 w1_copyFrom (rc_plan hN (by omega : (Int.toNat x1) + 8 < 10)) (ev1_copyFrom C.lt hN h5) rfl (Nat.le_of_ble_eq_true rfl) (Nat.le_of_ble_eq_true rfl) ?_
  refine r_aload_n C d5_save_21 rfl ?_
  refine g_main_10 C d5_save_22 f5_57 hN ?_
  refine r_iload_n C d5_save_25 rfl ?_
  refine r_iconst C d5_save_26 ?_
  refine x_zast C d5_save_27 (ra_isSaved hN) c4 (Or.inr rfl) ?_
  refine r_aload_n C d5_save_28 rfl ?_
  refine g_main_4 C d5_save_29 f5_36 hN ?_
  refine g_plan_5 C d5_save_32 f5_175 hN p0 ?_
  exact e_it C M d5_save_35 (Nat.le_of_ble_eq_true rfl) (Nat.le_of_ble_eq_true rfl) h
def f5_restore (V : VV) (x1 : Int) : Option (Except String Int × VV) := bd (f5_isNumberBelow V x1 2) (fun r2 => if nrm r2 = 0 then some (.error "java/lang/IndexOutOfBoundsException", V) else ck ((0:Int) ≤ x1 ∧ x1 < 2) (if nrm (V 73 (Int.toNat x1)) = 0 then some (.error "java/lang/IllegalStateException", V) else bd (f1_copyFrom V 0 ((Int.toNat x1) + 8)) (fun W7 => some (.ok ((up2 W7 0 8 0) (aP 0) 5), up2 W7 0 8 0))))
theorem ev5_restore {G : GT} {l : Launch} {V : VV} {x1 : Int} {e : Except String Int} {V1 : VV} (hlt : l.stackTraces = false) (hN : 148 ≤ gN G) (hX : gX G = false) (h : f5_restore V x1 = some (e, V1)) : EvX G l y5_restore b5_restore 2 (some .int) 7 2 12 [.ref (gB G + 0), vI x1] V (oX e) V1 := by
  refine ev_w hlt (by decide +kernel) rfl rfl (fun X hl hx C M => ?_)
  subst hl
  replace C : Cx G X "ChannelSchedule" b5_restore := C
  unfold f5_restore at h
  show At G X 0 0 0 [(0, .ref (gB G + 0)), (1, vI x1)] [] V
  refine r_iload_n C d5_restore_0 rfl ?_
  refine r_iconst C d5_restore_1 ?_
  obtain ⟨r2, h1, h⟩ := bd_of h
  refine cS2_i C M d5_restore_2 l5_158 w5_isNumberBelow (ev5_isNumberBelow C.lt hN h1) rfl (Nat.le_of_ble_eq_true rfl) (Nat.le_of_ble_eq_true rfl) ?_
  refine c_req C M d5_restore_5 l5_136 w5_requireIndex (ev5_requireIndex C.lt hX) rfl (Nat.le_of_ble_eq_true rfl) (Nat.le_of_ble_eq_true rfl) (fun c3 => e_thr (ite_p c3 h)) (fun c3 => ?_)
  replace h := ite_m c3 h
  refine r_aload_n C d5_restore_8 rfl ?_
  refine g_main_10 C d5_restore_9 f5_57 hN ?_
  refine r_iload_n C d5_restore_12 rfl ?_
  obtain ⟨c4, h⟩ := ck_of h
  refine x_zald C d5_restore_13 (ra_isSaved hN) c4 ?_
  refine c_req C M d5_restore_14 l5_97 w5_requireState (ev5_requireState C.lt hX) rfl (Nat.le_of_ble_eq_true rfl) (Nat.le_of_ble_eq_true rfl) (fun c5 => e_thr (ite_p c5 h)) (fun c5 => ?_)
  replace h := ite_m c5 h
  refine r_aload_n C d5_restore_17 rfl ?_
  refine g_main_4 C d5_restore_18 f5_36 hN ?_
  refine r_aload_n C d5_restore_21 rfl ?_
  refine g_main_9 C d5_restore_22 f5_54 hN ?_
  refine r_iload_n C d5_restore_25 rfl ?_
  refine x_saved C d5_restore_26 hN c4 ?_
  obtain ⟨W7, h6, h⟩ := bd_of h
  refine cV1_v C M d5_restore_27 l5_261 w1_copyFrom (rc_plan hN p0) (ev1_copyFrom C.lt hN h6) rfl (Nat.le_of_ble_eq_true rfl) (Nat.le_of_ble_eq_true rfl) ?_
  refine r_aload_n C d5_restore_30 rfl ?_
  refine r_iconst C d5_restore_31 ?_
  refine p_main_8 C d5_restore_32 f5_51 hN ?_
  refine r_aload_n C d5_restore_35 rfl ?_
  refine g_main_4 C d5_restore_36 f5_36 hN ?_
  refine g_plan_5 C d5_restore_39 f5_175 hN p0 ?_
  exact e_it C M d5_restore_42 (Nat.le_of_ble_eq_true rfl) (Nat.le_of_ble_eq_true rfl) h
def f5_writeByte (V : VV) (x1 : Int) : Option VV := (if nrm 320 ≤ nrm (V 0 13) then some V else ck ((0:Int) ≤ (V 0 13) ∧ (V 0 13) < 320) (some (up2 (up2 V 75 (Int.toNat (V 0 13)) (wB (wB x1))) 0 13 (((up2 V 75 (Int.toNat (V 0 13)) (wB (wB x1))) 0 13) + 1))))
theorem ev5_writeByte {G : GT} {l : Launch} {V : VV} {x1 : Int} {V1 : VV} (hlt : l.stackTraces = false) (hN : 148 ≤ gN G) (h : f5_writeByte V x1 = some V1) : EvX G l y5_writeByte b5_writeByte 2 none 0 0 0 [.ref (gB G + 0), vI x1] V (.ok none) V1 := by
  refine ev_w hlt (by decide +kernel) rfl rfl (fun X hl hx C M => ?_)
  subst hl
  replace C : Cx G X "ChannelSchedule" b5_writeByte := C
  unfold f5_writeByte at h
  show At G X 0 0 0 [(0, .ref (gB G + 0)), (1, vI x1)] [] V
  refine r_aload_n C d5_writeByte_0 rfl ?_
  refine g_main_13 C d5_writeByte_1 f5_69 hN ?_
  refine r_aload_n C d5_writeByte_4 rfl ?_
  refine g_main_12 C d5_writeByte_5 f5_65 hN ?_
  refine x_alen C d5_writeByte_8 (ra_output hN) ?_
  refine x_icmpge (tgt := 33) C d5_writeByte_9 rfl (fun c1 => ?_) (fun c1 => ?_)
  · replace h := ite_p c1 h
    exact e_v C M d5_writeByte_33 (Nat.le_of_ble_eq_true rfl) (Nat.le_of_ble_eq_true rfl) h
  · replace h := ite_m c1 h
    refine r_aload_n C d5_writeByte_12 rfl ?_
    refine g_main_12 C d5_writeByte_13 f5_65 hN ?_
    refine r_aload_n C d5_writeByte_16 rfl ?_
    refine g_main_13 C d5_writeByte_17 f5_69 hN ?_
    refine r_iload_n C d5_writeByte_20 rfl ?_
    refine r_i2b C d5_writeByte_21 ?_
    obtain ⟨c2, h⟩ := ck_of h
    refine x_bast C d5_writeByte_22 (ra_output hN) c2 ?_
    refine r_aload_n C d5_writeByte_23 rfl ?_
    refine r_dup C d5_writeByte_24 rfl ?_
    refine g_main_13 C d5_writeByte_25 f5_69 hN ?_
    refine r_iconst C d5_writeByte_28 ?_
    refine r_iadd C d5_writeByte_29 ?_
    refine p_main_13 C d5_writeByte_30 f5_69 hN ?_
    exact e_v C M d5_writeByte_33 (Nat.le_of_ble_eq_true rfl) (Nat.le_of_ble_eq_true rfl) h
def f5_writeNumber_L4 (x1 : Int) : Nat → Int → VV → Option (VV)
  | 0, _, _ => none
  | n + 1, x2, V => (if nrm x2 ≤ 0 then some V else (if nrm x2 ≤ nrm x1 then ck (0 < nrm x2) (ck (0 < nrm 10) (bd (f5_writeByte V (48 + ((nrm ((nrm x1).tdiv (nrm x2))).tmod (nrm 10)))) (fun W6 => f5_writeNumber_L4 x1 n ((nrm x2).tdiv (nrm 10)) W6))) else (if nrm x2 = nrm 1 then ck (0 < nrm x2) (ck (0 < nrm 10) (bd (f5_writeByte V (48 + ((nrm ((nrm x1).tdiv (nrm x2))).tmod (nrm 10)))) (fun W11 => f5_writeNumber_L4 x1 n ((nrm x2).tdiv (nrm 10)) W11))) else ck (0 < nrm 10) (f5_writeNumber_L4 x1 n ((nrm x2).tdiv (nrm 10)) V))))
theorem lp5_writeNumber_4 {G : GT} {X : CT} {cells slots : Nat} (hN : 148 ≤ gN G) (hx : xN X = 3) (C : Cx G X "ChannelSchedule" b5_writeNumber) {x1 : Int} {o0 : Except String (Option Value)} {V9 : VV} (M : MX G X 1 0 0 none o0 V9) (hc : cells ≤ 0) (hs : slots ≤ 0) : ∀ (n : Nat) {x2 : Int} {V : VV} {W0 : VV}, f5_writeNumber_L4 x1 n x2 V = some (W0) → At G X cells slots 39 [] [] W0 → At G X cells slots 4 [(0, .ref (gB G + 0)), (1, vI x1), (2, vI x2)] [] V := by
  intro n
  induction n with
  | zero => intro x2 V W0 h _; exact nomatch h
  | succ n ih =>
    intro x2 V W0 h K
    rw [f5_writeNumber_L4] at h
    refine r_iload_n C d5_writeNumber_4 rfl ?_
    refine x_ifle (tgt := 39) C d5_writeNumber_5 rfl (fun c1 => ?_) (fun c1 => ?_)
    · replace h := ite_p c1 h
      cases h
      exact AtH.sw K trivial
    · replace h := ite_m c1 h
      refine r_iload_n C d5_writeNumber_8 rfl ?_
      refine r_iload_n C d5_writeNumber_9 rfl ?_
      refine x_icmpge (tgt := 18) C d5_writeNumber_10 rfl (fun c2 => ?_) (fun c2 => ?_)
      · replace h := ite_p c2 h
        refine r_aload_n C d5_writeNumber_18 rfl ?_
        refine r_bipush C d5_writeNumber_19 (by decide +kernel) ?_
        refine r_iload_n C d5_writeNumber_21 rfl ?_
        refine r_iload_n C d5_writeNumber_22 rfl ?_
        obtain ⟨c3, h⟩ := ck_of h
        refine x_idiv C d5_writeNumber_23 c3 ?_
        refine r_bipush C d5_writeNumber_24 (by decide +kernel) ?_
        obtain ⟨c4, h⟩ := ck_of h
        refine x_irem C d5_writeNumber_26 c4 ?_
        refine r_iadd C d5_writeNumber_27 ?_
        obtain ⟨W6, h5, h⟩ := bd_of h
        refine cV1_v C M d5_writeNumber_28 l5_330 w5_writeByte (rc_main hN) (ev5_writeByte C.lt hN h5) rfl hc hs ?_
        refine r_iload_n C d5_writeNumber_31 rfl ?_
        refine r_bipush C d5_writeNumber_32 (by decide +kernel) ?_
        refine x_idiv C d5_writeNumber_34 c4 ?_
        refine x_istore_n hx C d5_writeNumber_35 rfl ?_
        refine r_goto (tgt := 4) C d5_writeNumber_36 rfl ?_
        exact AtH.sw (ih h K) ⟨rfl, rfl, rfl, trivial⟩
      · replace h := ite_m c2 h
        refine r_iload_n C d5_writeNumber_13 rfl ?_
        refine r_iconst C d5_writeNumber_14 ?_
        refine x_icmpne (tgt := 31) C d5_writeNumber_15 rfl (fun c7 => ?_) (fun c7 => ?_)
        · replace h := ite_p c7 h
          refine r_aload_n C d5_writeNumber_18 rfl ?_
          refine r_bipush C d5_writeNumber_19 (by decide +kernel) ?_
          refine r_iload_n C d5_writeNumber_21 rfl ?_
          refine r_iload_n C d5_writeNumber_22 rfl ?_
          obtain ⟨c8, h⟩ := ck_of h
          refine x_idiv C d5_writeNumber_23 c8 ?_
          refine r_bipush C d5_writeNumber_24 (by decide +kernel) ?_
          obtain ⟨c9, h⟩ := ck_of h
          refine x_irem C d5_writeNumber_26 c9 ?_
          refine r_iadd C d5_writeNumber_27 ?_
          obtain ⟨W11, h10, h⟩ := bd_of h
          refine cV1_v C M d5_writeNumber_28 l5_330 w5_writeByte (rc_main hN) (ev5_writeByte C.lt hN h10) rfl hc hs ?_
          refine r_iload_n C d5_writeNumber_31 rfl ?_
          refine r_bipush C d5_writeNumber_32 (by decide +kernel) ?_
          refine x_idiv C d5_writeNumber_34 c9 ?_
          refine x_istore_n hx C d5_writeNumber_35 rfl ?_
          refine r_goto (tgt := 4) C d5_writeNumber_36 rfl ?_
          exact AtH.sw (ih h K) ⟨rfl, rfl, rfl, trivial⟩
        · replace h := ite_m c7 h
          refine r_iload_n C d5_writeNumber_31 rfl ?_
          refine r_bipush C d5_writeNumber_32 (by decide +kernel) ?_
          obtain ⟨c12, h⟩ := ck_of h
          refine x_idiv C d5_writeNumber_34 c12 ?_
          refine x_istore_n hx C d5_writeNumber_35 rfl ?_
          refine r_goto (tgt := 4) C d5_writeNumber_36 rfl ?_
          exact AtH.sw (ih h K) ⟨rfl, rfl, rfl, trivial⟩
def f5_writeNumber (V : VV) (x1 : Int) : Option VV := bd (f5_writeNumber_L4 x1 FU 1000 V) (fun W13 => some W13)
theorem ev5_writeNumber {G : GT} {l : Launch} {V : VV} {x1 : Int} {V1 : VV} (hlt : l.stackTraces = false) (hN : 148 ≤ gN G) (h : f5_writeNumber V x1 = some V1) : EvX G l y5_writeNumber b5_writeNumber 3 none 1 0 0 [.ref (gB G + 0), vI x1] V (.ok none) V1 := by
  refine ev_w hlt (by decide +kernel) rfl rfl (fun X hl hx C M => ?_)
  subst hl
  replace C : Cx G X "ChannelSchedule" b5_writeNumber := C
  unfold f5_writeNumber at h
  show At G X 0 0 0 [(0, .ref (gB G + 0)), (1, vI x1)] [] V
  refine r_sipush C d5_writeNumber_0 (by decide +kernel) ?_
  refine x_istore_n hx C d5_writeNumber_3 rfl ?_
  obtain ⟨W13, h14, h⟩ := bd_of h
  refine AtH.sw (lp5_writeNumber_4 hN hx C M (Nat.le_of_ble_eq_true rfl) (Nat.le_of_ble_eq_true rfl) FU h14 ?_) ⟨rfl, rfl, rfl, trivial⟩
  exact e_v C M d5_writeNumber_39 (Nat.le_of_ble_eq_true rfl) (Nat.le_of_ble_eq_true rfl) h
def f5_writeSchedule_L48 (x1 : Int) (q2 : Nat) (i2 : Nat) : Nat → Int → VV → Option (VV)
  | 0, _, _ => none
  | n + 1, x3, V => (if nrm (V (aS q2 + (2 + 2 * i2)) 1) ≤ nrm x3 then some V else ck ((0:Int) ≤ x3 ∧ x3 < 6) (bd (f5_writeByte V (V (aS q2 + (2 + 2 * i2) + 1) (Int.toNat x3))) (fun W14 => f5_writeSchedule_L48 x1 q2 i2 n (x3 + 1) W14)))
theorem lp5_writeSchedule_48 {G : GT} {X : CT} {cells slots : Nat} (hN : 148 ≤ gN G) (hx : xN X = 4) (C : Cx G X "ChannelSchedule" b5_writeSchedule) {x1 : Int} {q2 : Nat} {i2 : Nat} (hq2 : q2 < 2) (hi2 : i2 < 10) {o0 : Except String (Option Value)} {V9 : VV} (M : MX G X 2 0 0 (some .int) o0 V9) (hc : cells ≤ 0) (hs : slots ≤ 0) : ∀ (n : Nat) {x3 : Int} {V : VV} {W0 : VV}, f5_writeSchedule_L48 x1 q2 i2 n x3 V = some (W0) → At G X cells slots 72 [(0, .ref (gB G + 0)), (1, vI x1)] [] W0 → At G X cells slots 48 [(0, .ref (gB G + 0)), (1, vI x1), (2, .ref (gB G + (aS q2 + (2 + 2 * i2)))), (3, vI x3)] [] V := by
  intro n
  induction n with
  | zero => intro x3 V W0 h _; exact nomatch h
  | succ n ih =>
    intro x3 V W0 h K
    rw [f5_writeSchedule_L48] at h
    refine r_iload_n C d5_writeSchedule_48 rfl ?_
    refine r_aload_n C d5_writeSchedule_49 rfl ?_
    refine g_ship_1 C d5_writeSchedule_50 f5_155 hN hq2 hi2 ?_
    refine x_icmpge (tgt := 72) C d5_writeSchedule_53 rfl (fun c11 => ?_) (fun c11 => ?_)
    · replace h := ite_p c11 h
      cases h
      exact AtH.sw K ⟨rfl, rfl, trivial⟩
    · replace h := ite_m c11 h
      refine r_aload_n C d5_writeSchedule_56 rfl ?_
      refine r_aload_n C d5_writeSchedule_57 rfl ?_
      refine g_ship_0 C d5_writeSchedule_58 f5_162 hN hq2 hi2 ?_
      refine r_iload_n C d5_writeSchedule_61 rfl ?_
      obtain ⟨c12, h⟩ := ck_of h
      refine x_bald C d5_writeSchedule_62 (ra_name hN hq2 hi2) c12 ?_
      obtain ⟨W14, h13, h⟩ := bd_of h
      refine cV1_v C M d5_writeSchedule_63 l5_330 w5_writeByte (rc_main hN) (ev5_writeByte C.lt hN h13) rfl hc hs ?_
      refine x_iinc hx C d5_writeSchedule_66 rfl rfl ?_
      refine r_goto (tgt := 48) C d5_writeSchedule_69 rfl ?_
      exact AtH.sw (ih h K) ⟨rfl, rfl, rfl, rfl, trivial⟩
def f5_writeSchedule_L7 : Nat → Int → VV → Option (VV)
  | 0, _, _ => none
  | n + 1, x1, V => (if nrm (V (aP 0) 5) ≤ nrm x1 then some V else bd ((if nrm x1 ≤ 0 then some (V) else bd (f5_writeByte V 32) (fun W4 => some (W4)))) (fun W5 => ck ((W5 0 2).toNat < 2) (ck ((0:Int) ≤ x1 ∧ x1 < 20) (ck ((0:Int) ≤ (W5 (aP 0 + 1) (Int.toNat x1)) ∧ (W5 (aP 0 + 1) (Int.toNat x1)) < 10) (bd (f5_writeSchedule_L48 x1 ((W5 0 2).toNat) (Int.toNat (W5 (aP 0 + 1) (Int.toNat x1))) FU 0 W5) (fun W15 => bd ((if nrm (W15 (aP 0 + 2) (Int.toNat x1)) = 0 then some (60) else some (62))) (fun y18 => bd (f5_writeByte W15 y18) (fun W22 => bd (f5_writeNumber W22 (W22 (aP 0 + 3) (Int.toNat x1))) (fun W24 => bd (f5_writeByte W24 45) (fun W26 => bd (f5_writeNumber W26 (W26 (aP 0 + 4) (Int.toNat x1))) (fun W28 => f5_writeSchedule_L7 n (x1 + 1) W28)))))))))))
theorem lp5_writeSchedule_7 {G : GT} {X : CT} {cells slots : Nat} (hN : 148 ≤ gN G) (hx : xN X = 4) (C : Cx G X "ChannelSchedule" b5_writeSchedule) {o0 : Except String (Option Value)} {V9 : VV} (M : MX G X 2 0 0 (some .int) o0 V9) (hc : cells ≤ 0) (hs : slots ≤ 0) : ∀ (n : Nat) {x1 : Int} {V : VV} {W0 : VV}, f5_writeSchedule_L7 n x1 V = some (W0) → At G X cells slots 133 [(0, .ref (gB G + 0))] [] W0 → At G X cells slots 7 [(0, .ref (gB G + 0)), (1, vI x1)] [] V := by
  intro n
  induction n with
  | zero => intro x1 V W0 h _; exact nomatch h
  | succ n ih =>
    intro x1 V W0 h K
    rw [f5_writeSchedule_L7] at h
    refine r_iload_n C d5_writeSchedule_7 rfl ?_
    refine r_aload_n C d5_writeSchedule_8 rfl ?_
    refine g_main_4 C d5_writeSchedule_9 f5_36 hN ?_
    refine g_plan_5 C d5_writeSchedule_12 f5_175 hN p0 ?_
    refine x_icmpge (tgt := 133) C d5_writeSchedule_15 rfl (fun c1 => ?_) (fun c1 => ?_)
    · replace h := ite_p c1 h
      cases h
      exact AtH.sw K ⟨rfl, trivial⟩
    · replace h := ite_m c1 h
      refine r_iload_n C d5_writeSchedule_18 rfl ?_
      obtain ⟨W5, h6, h⟩ := bd_of h
      suffices J7 : At G X cells slots 28 [(0, .ref (gB G + 0)), (1, vI x1)] [] W5 by
        replace h := h6
        refine x_ifle (tgt := 28) C d5_writeSchedule_19 rfl (fun c2 => ?_) (fun c2 => ?_)
        · replace h := ite_p c2 h
          cases h
          exact AtH.sw J7 ⟨rfl, rfl, trivial⟩
        · replace h := ite_m c2 h
          refine r_aload_n C d5_writeSchedule_22 rfl ?_
          refine r_bipush C d5_writeSchedule_23 (by decide +kernel) ?_
          obtain ⟨W4, h3, h⟩ := bd_of h
          refine cV1_v C M d5_writeSchedule_25 l5_330 w5_writeByte (rc_main hN) (ev5_writeByte C.lt hN h3) rfl hc hs ?_
          cases h
          exact AtH.sw J7 ⟨rfl, rfl, trivial⟩
      refine r_aload_n C d5_writeSchedule_28 rfl ?_
      refine g_main_2 C d5_writeSchedule_29 f5_26 hN ?_
      obtain ⟨c8, h⟩ := ck_of h
      refine g_setup_4 C d5_writeSchedule_32 f5_143 hN c8 ?_
      refine r_aload_n C d5_writeSchedule_35 rfl ?_
      refine g_main_4 C d5_writeSchedule_36 f5_36 hN ?_
      refine g_plan_6 C d5_writeSchedule_39 f5_181 hN p0 ?_
      refine r_iload_n C d5_writeSchedule_42 rfl ?_
      obtain ⟨c9, h⟩ := ck_of h
      refine x_iald C d5_writeSchedule_43 (ra_plan1 hN p0) c9 ?_
      obtain ⟨c10, h⟩ := ck_of h
      refine x_ships C d5_writeSchedule_44 hN c8 c10 ?_
      refine x_astore_n hx C d5_writeSchedule_45 rfl ?_
      refine r_iconst C d5_writeSchedule_46 ?_
      refine x_istore_n hx C d5_writeSchedule_47 rfl ?_
      obtain ⟨W15, h16, h⟩ := bd_of h
      refine AtH.sw (lp5_writeSchedule_48 hN hx C c8 (by omega : Int.toNat (W5 (aP 0 + 1) (Int.toNat x1)) < 10) M hc hs FU h16 ?_) ⟨rfl, rfl, rfl, rfl, trivial⟩
      refine r_aload_n C d5_writeSchedule_72 rfl ?_
      refine r_aload_n C d5_writeSchedule_73 rfl ?_
      refine g_main_4 C d5_writeSchedule_74 f5_36 hN ?_
      refine g_plan_7 C d5_writeSchedule_77 f5_189 hN p0 ?_
      refine r_iload_n C d5_writeSchedule_80 rfl ?_
      refine x_zald C d5_writeSchedule_81 (ra_plan2 hN p0) c9 ?_
      obtain ⟨y18, h19, h⟩ := bd_of h
      suffices J20 : At G X cells slots 92 [(0, .ref (gB G + 0)), (1, vI x1)] [vI y18, .ref (gB G + 0)] W15 by
        replace h := h19
        refine x_ifeq (tgt := 90) C d5_writeSchedule_82 rfl (fun c17 => ?_) (fun c17 => ?_)
        · replace h := ite_p c17 h
          refine r_bipush C d5_writeSchedule_90 (by decide +kernel) ?_
          cases h
          exact AtH.sw J20 ⟨rfl, rfl, trivial⟩
        · replace h := ite_m c17 h
          refine r_bipush C d5_writeSchedule_85 (by decide +kernel) ?_
          refine r_goto (tgt := 92) C d5_writeSchedule_87 rfl ?_
          cases h
          exact AtH.sw J20 ⟨rfl, rfl, trivial⟩
      obtain ⟨W22, h21, h⟩ := bd_of h
      refine cV1_v C M d5_writeSchedule_92 l5_330 w5_writeByte (rc_main hN) (ev5_writeByte C.lt hN h21) rfl hc hs ?_
      refine r_aload_n C d5_writeSchedule_95 rfl ?_
      refine r_aload_n C d5_writeSchedule_96 rfl ?_
      refine g_main_4 C d5_writeSchedule_97 f5_36 hN ?_
      refine g_plan_8 C d5_writeSchedule_100 f5_183 hN p0 ?_
      refine r_iload_n C d5_writeSchedule_103 rfl ?_
      refine x_iald C d5_writeSchedule_104 (ra_plan3 hN p0) c9 ?_
      obtain ⟨W24, h23, h⟩ := bd_of h
      refine cV1_v C M d5_writeSchedule_105 l5_333 w5_writeNumber (rc_main hN) (ev5_writeNumber C.lt hN h23) rfl hc hs ?_
      refine r_aload_n C d5_writeSchedule_108 rfl ?_
      refine r_bipush C d5_writeSchedule_109 (by decide +kernel) ?_
      obtain ⟨W26, h25, h⟩ := bd_of h
      refine cV1_v C M d5_writeSchedule_111 l5_330 w5_writeByte (rc_main hN) (ev5_writeByte C.lt hN h25) rfl hc hs ?_
      refine r_aload_n C d5_writeSchedule_114 rfl ?_
      refine r_aload_n C d5_writeSchedule_115 rfl ?_
      refine g_main_4 C d5_writeSchedule_116 f5_36 hN ?_
      refine g_plan_9 C d5_writeSchedule_119 f5_186 hN p0 ?_
      refine r_iload_n C d5_writeSchedule_122 rfl ?_
      refine x_iald C d5_writeSchedule_123 (ra_plan4 hN p0) c9 ?_
      obtain ⟨W28, h27, h⟩ := bd_of h
      refine cV1_v C M d5_writeSchedule_124 l5_333 w5_writeNumber (rc_main hN) (ev5_writeNumber C.lt hN h27) rfl hc hs ?_
      refine x_iinc hx C d5_writeSchedule_127 rfl rfl ?_
      refine r_goto (tgt := 7) C d5_writeSchedule_130 rfl ?_
      exact AtH.sw (ih h K) ⟨rfl, rfl, trivial⟩
def f5_writeSchedule (V : VV) : Option (Int × VV) := bd (f5_writeSchedule_L7 FU 0 (up2 V 0 13 0)) (fun W29 => some (W29 0 13, W29))
theorem ev5_writeSchedule {G : GT} {l : Launch} {V : VV} {r : Int} {V1 : VV} (hlt : l.stackTraces = false) (hN : 148 ≤ gN G) (h : f5_writeSchedule V = some (r, V1)) : EvX G l y5_writeSchedule b5_writeSchedule 4 (some .int) 2 0 0 [.ref (gB G + 0)] V (.ok (some (vI r))) V1 := by
  refine ev_w hlt (by decide +kernel) rfl rfl (fun X hl hx C M => ?_)
  subst hl
  replace C : Cx G X "ChannelSchedule" b5_writeSchedule := C
  unfold f5_writeSchedule at h
  show At G X 0 0 0 [(0, .ref (gB G + 0))] [] V
  refine r_aload_n C d5_writeSchedule_0 rfl ?_
  refine r_iconst C d5_writeSchedule_1 ?_
  refine p_main_13 C d5_writeSchedule_2 f5_69 hN ?_
  refine r_iconst C d5_writeSchedule_5 ?_
  refine x_istore_n hx C d5_writeSchedule_6 rfl ?_
  obtain ⟨W29, h30, h⟩ := bd_of h
  refine AtH.sw (lp5_writeSchedule_7 hN hx C M (Nat.le_of_ble_eq_true rfl) (Nat.le_of_ble_eq_true rfl) FU h30 ?_) ⟨rfl, rfl, trivial⟩
  refine r_aload_n C d5_writeSchedule_133 rfl ?_
  refine g_main_13 C d5_writeSchedule_134 f5_69 hN ?_
  exact e_iv C M d5_writeSchedule_137 (Nat.le_of_ble_eq_true rfl) (Nat.le_of_ble_eq_true rfl) h
def f5_outputByte (V : VV) (x1 : Int) : Option (Except String Int × VV) := bd (f5_isNumberBelow V x1 (V 0 13)) (fun r2 => if nrm r2 = 0 then some (.error "java/lang/IndexOutOfBoundsException", V) else ck ((0:Int) ≤ x1 ∧ x1 < 320) (some (.ok (V 75 (Int.toNat x1)), V)))
theorem ev5_outputByte {G : GT} {l : Launch} {V : VV} {x1 : Int} {e : Except String Int} {V1 : VV} (hlt : l.stackTraces = false) (hN : 148 ≤ gN G) (hX : gX G = false) (h : f5_outputByte V x1 = some (e, V1)) : EvX G l y5_outputByte b5_outputByte 2 (some .int) 7 1 6 [.ref (gB G + 0), vI x1] V (oX e) V1 := by
  refine ev_w hlt (by decide +kernel) rfl rfl (fun X hl hx C M => ?_)
  subst hl
  replace C : Cx G X "ChannelSchedule" b5_outputByte := C
  unfold f5_outputByte at h
  show At G X 0 0 0 [(0, .ref (gB G + 0)), (1, vI x1)] [] V
  refine r_iload_n C d5_outputByte_0 rfl ?_
  refine r_aload_n C d5_outputByte_1 rfl ?_
  refine g_main_13 C d5_outputByte_2 f5_69 hN ?_
  obtain ⟨r2, h1, h⟩ := bd_of h
  refine cS2_i C M d5_outputByte_5 l5_158 w5_isNumberBelow (ev5_isNumberBelow C.lt hN h1) rfl (Nat.le_of_ble_eq_true rfl) (Nat.le_of_ble_eq_true rfl) ?_
  refine c_req C M d5_outputByte_8 l5_136 w5_requireIndex (ev5_requireIndex C.lt hX) rfl (Nat.le_of_ble_eq_true rfl) (Nat.le_of_ble_eq_true rfl) (fun c3 => e_thr (ite_p c3 h)) (fun c3 => ?_)
  replace h := ite_m c3 h
  refine r_aload_n C d5_outputByte_11 rfl ?_
  refine g_main_12 C d5_outputByte_12 f5_65 hN ?_
  refine r_iload_n C d5_outputByte_15 rfl ?_
  obtain ⟨c4, h⟩ := ck_of h
  refine x_bald C d5_outputByte_16 (ra_output hN) c4 ?_
  exact e_it C M d5_outputByte_17 (Nat.le_of_ble_eq_true rfl) (Nat.le_of_ble_eq_true rfl) h
