/-! the law's helpers (printed by g82.py) -/
theorem ew_append {G : GT} {l : Launch} {V V1 : VV} {e : Except String Int} {x1 : Int} {x2 : Int} {x3 : Int} {x4 : Int} {x5 : Int} (hlt : l.stackTraces = false) (hN : gN G = 155) (hX : gX G = false) (h : f5_append V x1 x2 x3 x4 x5 = some (e, V1)) : EvW G l yL_append bL_append 8 hhL_append 8 1 6 [.ref (gB G + 0), vI x1, vI x2, vI x3, vI x4, vI x5, .ref (gB G + 154)] (gN G) (hV G V) (QW G (oGI G e) (cod [eS] e) V1) := by
  refine evw_of hlt (by decide +kernel) (Nat.le_of_ble_eq_true rfl) (av1 rfl) (fun X hl hx C M hXK => ?_)
  subst hl
  replace C : Cx G X "ChannelScheduleLaw" bL_append := C
  show At G X 0 0 0 [(0, .ref (gB G + 0)), (1, vI x1), (2, vI x2), (3, vI x3), (4, vI x4), (5, vI x5), (6, .ref (gB G + 154))] [] V
  refine r_aload C dL_append_0 rfl ?_
  refine r_iconst C dL_append_2 ?_
  refine r_aload_n C dL_append_3 rfl ?_
  refine r_iload_n C dL_append_4 rfl ?_
  refine r_iload_n C dL_append_5 rfl ?_
  refine r_iload_n C dL_append_6 rfl ?_
  refine r_iload C dL_append_7 rfl ?_
  refine r_iload C dL_append_9 rfl ?_
  refine w_callV (As := [vI x1, vI x2, vI x3, vI x4, vI x5]) (rest := [vI 0, .ref (gB G + 154)]) (tg := tgt1 19) C M hXK dL_append_11 lL_7 w5_append (rc_main (by omega)) (ev5_append C.lt (by omega) hX h) rfl rfl (Nat.le_of_ble_eq_true rfl) (Nat.le_of_ble_eq_true rfl) (Nat.le_of_ble_eq_true rfl) (Nat.le_of_ble_eq_true rfl) (Nat.le_of_ble_eq_true rfl) (fun E q => ?_) (fun E a q => ?_) (fun r q => ?_)
  · subst q
    have m := er_append h
    obtain rfl := List.mem_singleton.mp m
    exact hd1 (by omega) (by decide) wcL_13 (by decide +kernel)
  · subst q
    have m := er_append h
    obtain rfl := List.mem_singleton.mp m
    refine x_astore hx C dL_append_19 rfl ?_
    refine r_iconst C dL_append_21 ?_
    exact w_ret C M dL_append_22 (Nat.le_of_ble_eq_true rfl) (Nat.le_of_ble_eq_true rfl) ⟨by rw [cod_1], rfl, rfl⟩
  · subst q
    refine r_i2l C dL_append_14 ?_
    refine v_last hN C dL_append_15 (rg_nrm r).1 ?_
    refine r_goto (tgt := 23) C dL_append_16 rfl ?_
    refine r_iconst C dL_append_23 ?_
    exact w_ret C M dL_append_24 (Nat.le_of_ble_eq_true rfl) (Nat.le_of_ble_eq_true rfl) ⟨rfl, rfl, rfl⟩
theorem ew_truncate {G : GT} {l : Launch} {V V1 : VV} {e : Except String Int} {x1 : Int} (hlt : l.stackTraces = false) (hN : gN G = 155) (hX : gX G = false) (h : f5_truncate V x1 = some (e, V1)) : EvW G l yL_truncate bL_truncate 4 hhL_truncate 8 1 6 [.ref (gB G + 0), vI x1, .ref (gB G + 154)] (gN G) (hV G V) (QW G (oGI G e) (cod [eA] e) V1) := by
  refine evw_of hlt (by decide +kernel) (Nat.le_of_ble_eq_true rfl) (av1 rfl) (fun X hl hx C M hXK => ?_)
  subst hl
  replace C : Cx G X "ChannelScheduleLaw" bL_truncate := C
  show At G X 0 0 0 [(0, .ref (gB G + 0)), (1, vI x1), (2, .ref (gB G + 154))] [] V
  refine r_aload_n C dL_truncate_0 rfl ?_
  refine r_iconst C dL_truncate_1 ?_
  refine r_aload_n C dL_truncate_2 rfl ?_
  refine r_iload_n C dL_truncate_3 rfl ?_
  refine w_callV (As := [vI x1]) (rest := [vI 0, .ref (gB G + 154)]) (tg := tgt1 12) C M hXK dL_truncate_4 lL_15 w5_truncate (rc_main (by omega)) (ev5_truncate C.lt (by omega) hX h) rfl rfl (Nat.le_of_ble_eq_true rfl) (Nat.le_of_ble_eq_true rfl) (Nat.le_of_ble_eq_true rfl) (Nat.le_of_ble_eq_true rfl) (Nat.le_of_ble_eq_true rfl) (fun E q => ?_) (fun E a q => ?_) (fun r q => ?_)
  · subst q
    have m := er_truncate h
    obtain rfl := List.mem_singleton.mp m
    exact hd1 (by omega) (by decide) wcL_19 (by decide +kernel)
  · subst q
    have m := er_truncate h
    obtain rfl := List.mem_singleton.mp m
    refine x_astore_n hx C dL_truncate_12 rfl ?_
    refine r_iconst C dL_truncate_13 ?_
    exact w_ret C M dL_truncate_14 (Nat.le_of_ble_eq_true rfl) (Nat.le_of_ble_eq_true rfl) ⟨by rw [cod_1], rfl, rfl⟩
  · subst q
    refine r_i2l C dL_truncate_7 ?_
    refine v_last hN C dL_truncate_8 (rg_nrm r).1 ?_
    refine r_goto (tgt := 15) C dL_truncate_9 rfl ?_
    refine r_iconst C dL_truncate_15 ?_
    exact w_ret C M dL_truncate_16 (Nat.le_of_ble_eq_true rfl) (Nat.le_of_ble_eq_true rfl) ⟨rfl, rfl, rfl⟩
theorem ew_load {G : GT} {l : Launch} {V V1 : VV} {e : Except String Int} (hlt : l.stackTraces = false) (hN : gN G = 155) (hX : gX G = false) (h : f5_load V = some (e, V1)) : EvW G l yL_load bL_load 3 hhL_load 9 1 6 [.ref (gB G + 0), .ref (gB G + 154)] (gN G) (hV G V) (QW G (oGI G e) (cod [eA] e) V1) := by
  refine evw_of hlt (by decide +kernel) (Nat.le_of_ble_eq_true rfl) (av1 rfl) (fun X hl hx C M hXK => ?_)
  subst hl
  replace C : Cx G X "ChannelScheduleLaw" bL_load := C
  show At G X 0 0 0 [(0, .ref (gB G + 0)), (1, .ref (gB G + 154))] [] V
  refine r_aload_n C dL_load_0 rfl ?_
  refine r_iconst C dL_load_1 ?_
  refine r_aload_n C dL_load_2 rfl ?_
  refine w_callV (As := []) (rest := [vI 0, .ref (gB G + 154)]) (tg := tgt1 11) C M hXK dL_load_3 lL_21 w5_load (rc_main (by omega)) (ev5_load C.lt (by omega) hX h) rfl rfl (Nat.le_of_ble_eq_true rfl) (Nat.le_of_ble_eq_true rfl) (Nat.le_of_ble_eq_true rfl) (Nat.le_of_ble_eq_true rfl) (Nat.le_of_ble_eq_true rfl) (fun E q => ?_) (fun E a q => ?_) (fun r q => ?_)
  · subst q
    have m := er_load h
    obtain rfl := List.mem_singleton.mp m
    exact hd1 (by omega) (by decide) wcL_19 (by decide +kernel)
  · subst q
    have m := er_load h
    obtain rfl := List.mem_singleton.mp m
    refine x_astore_n hx C dL_load_11 rfl ?_
    refine r_iconst C dL_load_12 ?_
    exact w_ret C M dL_load_13 (Nat.le_of_ble_eq_true rfl) (Nat.le_of_ble_eq_true rfl) ⟨by rw [cod_1], rfl, rfl⟩
  · subst q
    refine r_i2l C dL_load_6 ?_
    refine v_last hN C dL_load_7 (rg_nrm r).1 ?_
    refine r_goto (tgt := 14) C dL_load_8 rfl ?_
    refine r_iconst C dL_load_14 ?_
    exact w_ret C M dL_load_15 (Nat.le_of_ble_eq_true rfl) (Nat.le_of_ble_eq_true rfl) ⟨rfl, rfl, rfl⟩
theorem ew_transitTime {G : GT} {l : Launch} {V V1 : VV} {e : Except String Int} {x1 : Int} (hlt : l.stackTraces = false) (hN : gN G = 155) (hX : gX G = false) (h : f5_transitTime V x1 = some (e, V1)) : EvW G l yL_transitTime bL_transitTime 4 hhL_transitTime 8 1 6 [.ref (gB G + 0), vI x1, .ref (gB G + 154)] (gN G) (hV G V) (QW G (oGI G e) (cod [eI] e) V1) := by
  refine evw_of hlt (by decide +kernel) (Nat.le_of_ble_eq_true rfl) (av1 rfl) (fun X hl hx C M hXK => ?_)
  subst hl
  replace C : Cx G X "ChannelScheduleLaw" bL_transitTime := C
  show At G X 0 0 0 [(0, .ref (gB G + 0)), (1, vI x1), (2, .ref (gB G + 154))] [] V
  refine r_aload_n C dL_transitTime_0 rfl ?_
  refine r_iconst C dL_transitTime_1 ?_
  refine r_aload_n C dL_transitTime_2 rfl ?_
  refine r_iload_n C dL_transitTime_3 rfl ?_
  refine w_callV (As := [vI x1]) (rest := [vI 0, .ref (gB G + 154)]) (tg := tgt1 12) C M hXK dL_transitTime_4 lL_25 w5_transitTime (rc_main (by omega)) (ev5_transitTime C.lt (by omega) hX h) rfl rfl (Nat.le_of_ble_eq_true rfl) (Nat.le_of_ble_eq_true rfl) (Nat.le_of_ble_eq_true rfl) (Nat.le_of_ble_eq_true rfl) (Nat.le_of_ble_eq_true rfl) (fun E q => ?_) (fun E a q => ?_) (fun r q => ?_)
  · subst q
    have m := er_transitTime h
    obtain rfl := List.mem_singleton.mp m
    exact hd1 (by omega) (by decide) wcL_28 (by decide +kernel)
  · subst q
    have m := er_transitTime h
    obtain rfl := List.mem_singleton.mp m
    refine x_astore_n hx C dL_transitTime_12 rfl ?_
    refine r_iconst C dL_transitTime_13 ?_
    exact w_ret C M dL_transitTime_14 (Nat.le_of_ble_eq_true rfl) (Nat.le_of_ble_eq_true rfl) ⟨by rw [cod_1], rfl, rfl⟩
  · subst q
    refine r_i2l C dL_transitTime_7 ?_
    refine v_last hN C dL_transitTime_8 (rg_nrm r).1 ?_
    refine r_goto (tgt := 15) C dL_transitTime_9 rfl ?_
    refine r_iconst C dL_transitTime_15 ?_
    exact w_ret C M dL_transitTime_16 (Nat.le_of_ble_eq_true rfl) (Nat.le_of_ble_eq_true rfl) ⟨rfl, rfl, rfl⟩
theorem ew_iceClass {G : GT} {l : Launch} {V V1 : VV} {e : Except String Int} {x1 : Int} (hlt : l.stackTraces = false) (hN : gN G = 155) (hX : gX G = false) (h : f5_iceClass V x1 = some (e, V1)) : EvW G l yL_iceClass bL_iceClass 4 hhL_iceClass 8 1 6 [.ref (gB G + 0), vI x1, .ref (gB G + 154)] (gN G) (hV G V) (QW G (oGI G e) (cod [eI] e) V1) := by
  refine evw_of hlt (by decide +kernel) (Nat.le_of_ble_eq_true rfl) (av1 rfl) (fun X hl hx C M hXK => ?_)
  subst hl
  replace C : Cx G X "ChannelScheduleLaw" bL_iceClass := C
  show At G X 0 0 0 [(0, .ref (gB G + 0)), (1, vI x1), (2, .ref (gB G + 154))] [] V
  refine r_aload_n C dL_iceClass_0 rfl ?_
  refine r_iconst C dL_iceClass_1 ?_
  refine r_aload_n C dL_iceClass_2 rfl ?_
  refine r_iload_n C dL_iceClass_3 rfl ?_
  refine w_callV (As := [vI x1]) (rest := [vI 0, .ref (gB G + 154)]) (tg := tgt1 12) C M hXK dL_iceClass_4 lL_30 w5_iceClass (rc_main (by omega)) (ev5_iceClass C.lt (by omega) hX h) rfl rfl (Nat.le_of_ble_eq_true rfl) (Nat.le_of_ble_eq_true rfl) (Nat.le_of_ble_eq_true rfl) (Nat.le_of_ble_eq_true rfl) (Nat.le_of_ble_eq_true rfl) (fun E q => ?_) (fun E a q => ?_) (fun r q => ?_)
  · subst q
    have m := er_iceClass h
    obtain rfl := List.mem_singleton.mp m
    exact hd1 (by omega) (by decide) wcL_28 (by decide +kernel)
  · subst q
    have m := er_iceClass h
    obtain rfl := List.mem_singleton.mp m
    refine x_astore_n hx C dL_iceClass_12 rfl ?_
    refine r_iconst C dL_iceClass_13 ?_
    exact w_ret C M dL_iceClass_14 (Nat.le_of_ble_eq_true rfl) (Nat.le_of_ble_eq_true rfl) ⟨by rw [cod_1], rfl, rfl⟩
  · subst q
    refine r_i2l C dL_iceClass_7 ?_
    refine v_last hN C dL_iceClass_8 (rg_nrm r).1 ?_
    refine r_goto (tgt := 15) C dL_iceClass_9 rfl ?_
    refine r_iconst C dL_iceClass_15 ?_
    exact w_ret C M dL_iceClass_16 (Nat.le_of_ble_eq_true rfl) (Nat.le_of_ble_eq_true rfl) ⟨rfl, rfl, rfl⟩
theorem ew_weight {G : GT} {l : Launch} {V V1 : VV} {e : Except String Int} {x1 : Int} (hlt : l.stackTraces = false) (hN : gN G = 155) (hX : gX G = false) (h : f5_weight V x1 = some (e, V1)) : EvW G l yL_weight bL_weight 4 hhL_weight 8 1 6 [.ref (gB G + 0), vI x1, .ref (gB G + 154)] (gN G) (hV G V) (QW G (oGI G e) (cod [eI] e) V1) := by
  refine evw_of hlt (by decide +kernel) (Nat.le_of_ble_eq_true rfl) (av1 rfl) (fun X hl hx C M hXK => ?_)
  subst hl
  replace C : Cx G X "ChannelScheduleLaw" bL_weight := C
  show At G X 0 0 0 [(0, .ref (gB G + 0)), (1, vI x1), (2, .ref (gB G + 154))] [] V
  refine r_aload_n C dL_weight_0 rfl ?_
  refine r_iconst C dL_weight_1 ?_
  refine r_aload_n C dL_weight_2 rfl ?_
  refine r_iload_n C dL_weight_3 rfl ?_
  refine w_callV (As := [vI x1]) (rest := [vI 0, .ref (gB G + 154)]) (tg := tgt1 12) C M hXK dL_weight_4 lL_33 w5_weight (rc_main (by omega)) (ev5_weight C.lt (by omega) hX h) rfl rfl (Nat.le_of_ble_eq_true rfl) (Nat.le_of_ble_eq_true rfl) (Nat.le_of_ble_eq_true rfl) (Nat.le_of_ble_eq_true rfl) (Nat.le_of_ble_eq_true rfl) (fun E q => ?_) (fun E a q => ?_) (fun r q => ?_)
  · subst q
    have m := er_weight h
    obtain rfl := List.mem_singleton.mp m
    exact hd1 (by omega) (by decide) wcL_28 (by decide +kernel)
  · subst q
    have m := er_weight h
    obtain rfl := List.mem_singleton.mp m
    refine x_astore_n hx C dL_weight_12 rfl ?_
    refine r_iconst C dL_weight_13 ?_
    exact w_ret C M dL_weight_14 (Nat.le_of_ble_eq_true rfl) (Nat.le_of_ble_eq_true rfl) ⟨by rw [cod_1], rfl, rfl⟩
  · subst q
    refine r_i2l C dL_weight_7 ?_
    refine v_last hN C dL_weight_8 (rg_nrm r).1 ?_
    refine r_goto (tgt := 15) C dL_weight_9 rfl ?_
    refine r_iconst C dL_weight_15 ?_
    exact w_ret C M dL_weight_16 (Nat.le_of_ble_eq_true rfl) (Nat.le_of_ble_eq_true rfl) ⟨rfl, rfl, rfl⟩
theorem ew_shipNameByte {G : GT} {l : Launch} {V V1 : VV} {e : Except String Int} {x1 : Int} {x2 : Int} (hlt : l.stackTraces = false) (hN : gN G = 155) (hX : gX G = false) (h : f5_shipNameByte V x1 x2 = some (e, V1)) : EvW G l yL_shipNameByte bL_shipNameByte 5 hhL_shipNameByte 8 2 12 [.ref (gB G + 0), vI x1, vI x2, .ref (gB G + 154)] (gN G) (hV G V) (QW G (oGI G e) (cod [eI] e) V1) := by
  refine evw_of hlt (by decide +kernel) (Nat.le_of_ble_eq_true rfl) (av1 rfl) (fun X hl hx C M hXK => ?_)
  subst hl
  replace C : Cx G X "ChannelScheduleLaw" bL_shipNameByte := C
  show At G X 0 0 0 [(0, .ref (gB G + 0)), (1, vI x1), (2, vI x2), (3, .ref (gB G + 154))] [] V
  refine r_aload_n C dL_shipNameByte_0 rfl ?_
  refine r_iconst C dL_shipNameByte_1 ?_
  refine r_aload_n C dL_shipNameByte_2 rfl ?_
  refine r_iload_n C dL_shipNameByte_3 rfl ?_
  refine r_iload_n C dL_shipNameByte_4 rfl ?_
  refine w_callV (As := [vI x1, vI x2]) (rest := [vI 0, .ref (gB G + 154)]) (tg := tgt1 13) C M hXK dL_shipNameByte_5 lL_36 w5_shipNameByte (rc_main (by omega)) (ev5_shipNameByte C.lt (by omega) hX h) rfl rfl (Nat.le_of_ble_eq_true rfl) (Nat.le_of_ble_eq_true rfl) (Nat.le_of_ble_eq_true rfl) (Nat.le_of_ble_eq_true rfl) (Nat.le_of_ble_eq_true rfl) (fun E q => ?_) (fun E a q => ?_) (fun r q => ?_)
  · subst q
    have m := er_shipNameByte h
    obtain rfl := List.mem_singleton.mp m
    exact hd1 (by omega) (by decide) wcL_28 (by decide +kernel)
  · subst q
    have m := er_shipNameByte h
    obtain rfl := List.mem_singleton.mp m
    refine x_astore hx C dL_shipNameByte_13 rfl ?_
    refine r_iconst C dL_shipNameByte_15 ?_
    exact w_ret C M dL_shipNameByte_16 (Nat.le_of_ble_eq_true rfl) (Nat.le_of_ble_eq_true rfl) ⟨by rw [cod_1], rfl, rfl⟩
  · subst q
    refine r_i2l C dL_shipNameByte_8 ?_
    refine v_last hN C dL_shipNameByte_9 (rg_nrm r).1 ?_
    refine r_goto (tgt := 17) C dL_shipNameByte_10 rfl ?_
    refine r_iconst C dL_shipNameByte_17 ?_
    exact w_ret C M dL_shipNameByte_18 (Nat.le_of_ble_eq_true rfl) (Nat.le_of_ble_eq_true rfl) ⟨rfl, rfl, rfl⟩
theorem ew_findShip {G : GT} {l : Launch} {V V1 : VV} {e : Except String Int} (hlt : l.stackTraces = false) (hN : gN G = 155) (hX : gX G = false) (h : f5_findShip V = some (e, V1)) : EvW G l yL_findShip bL_findShip 3 hhL_findShip 8 1 6 [.ref (gB G + 0), .ref (gB G + 154)] (gN G) (hV G V) (QW G (oGI G e) (cod [eN] e) V1) := by
  refine evw_of hlt (by decide +kernel) (Nat.le_of_ble_eq_true rfl) (av1 rfl) (fun X hl hx C M hXK => ?_)
  subst hl
  replace C : Cx G X "ChannelScheduleLaw" bL_findShip := C
  show At G X 0 0 0 [(0, .ref (gB G + 0)), (1, .ref (gB G + 154))] [] V
  refine r_aload_n C dL_findShip_0 rfl ?_
  refine r_iconst C dL_findShip_1 ?_
  refine r_aload_n C dL_findShip_2 rfl ?_
  refine w_callV (As := []) (rest := [vI 0, .ref (gB G + 154)]) (tg := tgt1 11) C M hXK dL_findShip_3 lL_40 w5_findShip (rc_main (by omega)) (ev5_findShip C.lt (by omega) hX h) rfl rfl (Nat.le_of_ble_eq_true rfl) (Nat.le_of_ble_eq_true rfl) (Nat.le_of_ble_eq_true rfl) (Nat.le_of_ble_eq_true rfl) (Nat.le_of_ble_eq_true rfl) (fun E q => ?_) (fun E a q => ?_) (fun r q => ?_)
  · subst q
    have m := er_findShip h
    obtain rfl := List.mem_singleton.mp m
    exact hd1 (by omega) (by decide) wcL_43 (by decide +kernel)
  · subst q
    have m := er_findShip h
    obtain rfl := List.mem_singleton.mp m
    refine x_astore_n hx C dL_findShip_11 rfl ?_
    refine r_iconst C dL_findShip_12 ?_
    exact w_ret C M dL_findShip_13 (Nat.le_of_ble_eq_true rfl) (Nat.le_of_ble_eq_true rfl) ⟨by rw [cod_1], rfl, rfl⟩
  · subst q
    refine r_i2l C dL_findShip_6 ?_
    refine v_last hN C dL_findShip_7 (rg_nrm r).1 ?_
    refine r_goto (tgt := 14) C dL_findShip_8 rfl ?_
    refine r_iconst C dL_findShip_14 ?_
    exact w_ret C M dL_findShip_15 (Nat.le_of_ble_eq_true rfl) (Nat.le_of_ble_eq_true rfl) ⟨rfl, rfl, rfl⟩
theorem ew_bookedShip {G : GT} {l : Launch} {V V1 : VV} {e : Except String Int} {x1 : Int} (hlt : l.stackTraces = false) (hN : gN G = 155) (hX : gX G = false) (h : f5_bookedShip V x1 = some (e, V1)) : EvW G l yL_bookedShip bL_bookedShip 4 hhL_bookedShip 8 1 6 [.ref (gB G + 0), vI x1, .ref (gB G + 154)] (gN G) (hV G V) (QW G (oGI G e) (cod [eI] e) V1) := by
  refine evw_of hlt (by decide +kernel) (Nat.le_of_ble_eq_true rfl) (av1 rfl) (fun X hl hx C M hXK => ?_)
  subst hl
  replace C : Cx G X "ChannelScheduleLaw" bL_bookedShip := C
  show At G X 0 0 0 [(0, .ref (gB G + 0)), (1, vI x1), (2, .ref (gB G + 154))] [] V
  refine r_aload_n C dL_bookedShip_0 rfl ?_
  refine r_iconst C dL_bookedShip_1 ?_
  refine r_aload_n C dL_bookedShip_2 rfl ?_
  refine r_iload_n C dL_bookedShip_3 rfl ?_
  refine w_callV (As := [vI x1]) (rest := [vI 0, .ref (gB G + 154)]) (tg := tgt1 12) C M hXK dL_bookedShip_4 lL_45 w5_bookedShip (rc_main (by omega)) (ev5_bookedShip C.lt (by omega) hX h) rfl rfl (Nat.le_of_ble_eq_true rfl) (Nat.le_of_ble_eq_true rfl) (Nat.le_of_ble_eq_true rfl) (Nat.le_of_ble_eq_true rfl) (Nat.le_of_ble_eq_true rfl) (fun E q => ?_) (fun E a q => ?_) (fun r q => ?_)
  · subst q
    have m := er_bookedShip h
    obtain rfl := List.mem_singleton.mp m
    exact hd1 (by omega) (by decide) wcL_28 (by decide +kernel)
  · subst q
    have m := er_bookedShip h
    obtain rfl := List.mem_singleton.mp m
    refine x_astore_n hx C dL_bookedShip_12 rfl ?_
    refine r_iconst C dL_bookedShip_13 ?_
    exact w_ret C M dL_bookedShip_14 (Nat.le_of_ble_eq_true rfl) (Nat.le_of_ble_eq_true rfl) ⟨by rw [cod_1], rfl, rfl⟩
  · subst q
    refine r_i2l C dL_bookedShip_7 ?_
    refine v_last hN C dL_bookedShip_8 (rg_nrm r).1 ?_
    refine r_goto (tgt := 15) C dL_bookedShip_9 rfl ?_
    refine r_iconst C dL_bookedShip_15 ?_
    exact w_ret C M dL_bookedShip_16 (Nat.le_of_ble_eq_true rfl) (Nat.le_of_ble_eq_true rfl) ⟨rfl, rfl, rfl⟩
theorem ew_startMinute {G : GT} {l : Launch} {V V1 : VV} {e : Except String Int} {x1 : Int} (hlt : l.stackTraces = false) (hN : gN G = 155) (hX : gX G = false) (h : f5_startMinute V x1 = some (e, V1)) : EvW G l yL_startMinute bL_startMinute 4 hhL_startMinute 8 1 6 [.ref (gB G + 0), vI x1, .ref (gB G + 154)] (gN G) (hV G V) (QW G (oGI G e) (cod [eI] e) V1) := by
  refine evw_of hlt (by decide +kernel) (Nat.le_of_ble_eq_true rfl) (av1 rfl) (fun X hl hx C M hXK => ?_)
  subst hl
  replace C : Cx G X "ChannelScheduleLaw" bL_startMinute := C
  show At G X 0 0 0 [(0, .ref (gB G + 0)), (1, vI x1), (2, .ref (gB G + 154))] [] V
  refine r_aload_n C dL_startMinute_0 rfl ?_
  refine r_iconst C dL_startMinute_1 ?_
  refine r_aload_n C dL_startMinute_2 rfl ?_
  refine r_iload_n C dL_startMinute_3 rfl ?_
  refine w_callV (As := [vI x1]) (rest := [vI 0, .ref (gB G + 154)]) (tg := tgt1 12) C M hXK dL_startMinute_4 lL_48 w5_startMinute (rc_main (by omega)) (ev5_startMinute C.lt (by omega) hX h) rfl rfl (Nat.le_of_ble_eq_true rfl) (Nat.le_of_ble_eq_true rfl) (Nat.le_of_ble_eq_true rfl) (Nat.le_of_ble_eq_true rfl) (Nat.le_of_ble_eq_true rfl) (fun E q => ?_) (fun E a q => ?_) (fun r q => ?_)
  · subst q
    have m := er_startMinute h
    obtain rfl := List.mem_singleton.mp m
    exact hd1 (by omega) (by decide) wcL_28 (by decide +kernel)
  · subst q
    have m := er_startMinute h
    obtain rfl := List.mem_singleton.mp m
    refine x_astore_n hx C dL_startMinute_12 rfl ?_
    refine r_iconst C dL_startMinute_13 ?_
    exact w_ret C M dL_startMinute_14 (Nat.le_of_ble_eq_true rfl) (Nat.le_of_ble_eq_true rfl) ⟨by rw [cod_1], rfl, rfl⟩
  · subst q
    refine r_i2l C dL_startMinute_7 ?_
    refine v_last hN C dL_startMinute_8 (rg_nrm r).1 ?_
    refine r_goto (tgt := 15) C dL_startMinute_9 rfl ?_
    refine r_iconst C dL_startMinute_15 ?_
    exact w_ret C M dL_startMinute_16 (Nat.le_of_ble_eq_true rfl) (Nat.le_of_ble_eq_true rfl) ⟨rfl, rfl, rfl⟩
theorem ew_endMinute {G : GT} {l : Launch} {V V1 : VV} {e : Except String Int} {x1 : Int} (hlt : l.stackTraces = false) (hN : gN G = 155) (hX : gX G = false) (h : f5_endMinute V x1 = some (e, V1)) : EvW G l yL_endMinute bL_endMinute 4 hhL_endMinute 8 1 6 [.ref (gB G + 0), vI x1, .ref (gB G + 154)] (gN G) (hV G V) (QW G (oGI G e) (cod [eI] e) V1) := by
  refine evw_of hlt (by decide +kernel) (Nat.le_of_ble_eq_true rfl) (av1 rfl) (fun X hl hx C M hXK => ?_)
  subst hl
  replace C : Cx G X "ChannelScheduleLaw" bL_endMinute := C
  show At G X 0 0 0 [(0, .ref (gB G + 0)), (1, vI x1), (2, .ref (gB G + 154))] [] V
  refine r_aload_n C dL_endMinute_0 rfl ?_
  refine r_iconst C dL_endMinute_1 ?_
  refine r_aload_n C dL_endMinute_2 rfl ?_
  refine r_iload_n C dL_endMinute_3 rfl ?_
  refine w_callV (As := [vI x1]) (rest := [vI 0, .ref (gB G + 154)]) (tg := tgt1 12) C M hXK dL_endMinute_4 lL_51 w5_endMinute (rc_main (by omega)) (ev5_endMinute C.lt (by omega) hX h) rfl rfl (Nat.le_of_ble_eq_true rfl) (Nat.le_of_ble_eq_true rfl) (Nat.le_of_ble_eq_true rfl) (Nat.le_of_ble_eq_true rfl) (Nat.le_of_ble_eq_true rfl) (fun E q => ?_) (fun E a q => ?_) (fun r q => ?_)
  · subst q
    have m := er_endMinute h
    obtain rfl := List.mem_singleton.mp m
    exact hd1 (by omega) (by decide) wcL_28 (by decide +kernel)
  · subst q
    have m := er_endMinute h
    obtain rfl := List.mem_singleton.mp m
    refine x_astore_n hx C dL_endMinute_12 rfl ?_
    refine r_iconst C dL_endMinute_13 ?_
    exact w_ret C M dL_endMinute_14 (Nat.le_of_ble_eq_true rfl) (Nat.le_of_ble_eq_true rfl) ⟨by rw [cod_1], rfl, rfl⟩
  · subst q
    refine r_i2l C dL_endMinute_7 ?_
    refine v_last hN C dL_endMinute_8 (rg_nrm r).1 ?_
    refine r_goto (tgt := 15) C dL_endMinute_9 rfl ?_
    refine r_iconst C dL_endMinute_15 ?_
    exact w_ret C M dL_endMinute_16 (Nat.le_of_ble_eq_true rfl) (Nat.le_of_ble_eq_true rfl) ⟨rfl, rfl, rfl⟩
theorem ew_isInbound {G : GT} {l : Launch} {V V1 : VV} {e : Except String Int} {x1 : Int} (hlt : l.stackTraces = false) (hN : gN G = 155) (hX : gX G = false) (h : f5_isInbound V x1 = some (e, V1)) : EvW G l yL_isInbound bL_isInbound 4 hhL_isInbound 8 1 6 [.ref (gB G + 0), vI x1, .ref (gB G + 154)] (gN G) (hV G V) (QW G (oGZ G e) (cod [eI] e) V1) := by
  refine evw_of hlt (by decide +kernel) (Nat.le_of_ble_eq_true rfl) (av1 rfl) (fun X hl hx C M hXK => ?_)
  subst hl
  replace C : Cx G X "ChannelScheduleLaw" bL_isInbound := C
  show At G X 0 0 0 [(0, .ref (gB G + 0)), (1, vI x1), (2, .ref (gB G + 154))] [] V
  refine r_aload_n C dL_isInbound_0 rfl ?_
  refine r_iconst C dL_isInbound_1 ?_
  refine r_aload_n C dL_isInbound_2 rfl ?_
  refine r_iload_n C dL_isInbound_3 rfl ?_
  refine w_callV (As := [vI x1]) (rest := [vI 0, .ref (gB G + 154)]) (tg := tgt1 19) C M hXK dL_isInbound_4 lL_54 w5_isInbound (rc_main (by omega)) (ev5_isInbound C.lt (by omega) hX h) rfl rfl (Nat.le_of_ble_eq_true rfl) (Nat.le_of_ble_eq_true rfl) (Nat.le_of_ble_eq_true rfl) (Nat.le_of_ble_eq_true rfl) (Nat.le_of_ble_eq_true rfl) (fun E q => ?_) (fun E a q => ?_) (fun r q => ?_)
  · subst q
    have m := er_isInbound h
    obtain rfl := List.mem_singleton.mp m
    exact hd1 (by omega) (by decide) wcL_28 (by decide +kernel)
  · subst q
    have m := er_isInbound h
    obtain rfl := List.mem_singleton.mp m
    refine x_astore_n hx C dL_isInbound_19 rfl ?_
    refine r_iconst C dL_isInbound_20 ?_
    exact w_ret C M dL_isInbound_21 (Nat.le_of_ble_eq_true rfl) (Nat.le_of_ble_eq_true rfl) ⟨by rw [cod_1], rfl, rfl⟩
  · subst q
    refine x_ifeq (tgt := 14) C dL_isInbound_7 rfl (fun c => ?_) (fun c => ?_)
    · refine r_lconst (z := 0) C dL_isInbound_14 rfl ?_
      refine v_last hN C dL_isInbound_15 (by omega) ?_
      refine r_goto (tgt := 22) C dL_isInbound_16 rfl ?_
      refine r_iconst C dL_isInbound_22 ?_
      exact w_ret C M dL_isInbound_23 (Nat.le_of_ble_eq_true rfl) (Nat.le_of_ble_eq_true rfl) ⟨rfl, rfl, by show hV (gO G 0) V1 = hV (gO G (if nrm r = 0 then 0 else 1)) V1; rw [if_pos c]⟩
    · refine r_lconst (z := 1) C dL_isInbound_10 rfl ?_
      refine r_goto (tgt := 15) C dL_isInbound_11 rfl ?_
      refine v_last hN C dL_isInbound_15 (by omega) ?_
      refine r_goto (tgt := 22) C dL_isInbound_16 rfl ?_
      refine r_iconst C dL_isInbound_22 ?_
      exact w_ret C M dL_isInbound_23 (Nat.le_of_ble_eq_true rfl) (Nat.le_of_ble_eq_true rfl) ⟨rfl, rfl, by show hV (gO G 1) V1 = hV (gO G (if nrm r = 0 then 0 else 1)) V1; rw [if_neg c]⟩
theorem ew_isFinished {G : GT} {l : Launch} {V V1 : VV} {e : Except String Int} {x1 : Int} (hlt : l.stackTraces = false) (hN : gN G = 155) (hX : gX G = false) (h : f5_isFinished V x1 = some (e, V1)) : EvW G l yL_isFinished bL_isFinished 4 hhL_isFinished 8 1 6 [.ref (gB G + 0), vI x1, .ref (gB G + 154)] (gN G) (hV G V) (QW G (oGZ G e) (cod [eI] e) V1) := by
  refine evw_of hlt (by decide +kernel) (Nat.le_of_ble_eq_true rfl) (av1 rfl) (fun X hl hx C M hXK => ?_)
  subst hl
  replace C : Cx G X "ChannelScheduleLaw" bL_isFinished := C
  show At G X 0 0 0 [(0, .ref (gB G + 0)), (1, vI x1), (2, .ref (gB G + 154))] [] V
  refine r_aload_n C dL_isFinished_0 rfl ?_
  refine r_iconst C dL_isFinished_1 ?_
  refine r_aload_n C dL_isFinished_2 rfl ?_
  refine r_iload_n C dL_isFinished_3 rfl ?_
  refine w_callV (As := [vI x1]) (rest := [vI 0, .ref (gB G + 154)]) (tg := tgt1 19) C M hXK dL_isFinished_4 lL_58 w5_isFinished (rc_main (by omega)) (ev5_isFinished C.lt (by omega) hX h) rfl rfl (Nat.le_of_ble_eq_true rfl) (Nat.le_of_ble_eq_true rfl) (Nat.le_of_ble_eq_true rfl) (Nat.le_of_ble_eq_true rfl) (Nat.le_of_ble_eq_true rfl) (fun E q => ?_) (fun E a q => ?_) (fun r q => ?_)
  · subst q
    have m := er_isFinished h
    obtain rfl := List.mem_singleton.mp m
    exact hd1 (by omega) (by decide) wcL_28 (by decide +kernel)
  · subst q
    have m := er_isFinished h
    obtain rfl := List.mem_singleton.mp m
    refine x_astore_n hx C dL_isFinished_19 rfl ?_
    refine r_iconst C dL_isFinished_20 ?_
    exact w_ret C M dL_isFinished_21 (Nat.le_of_ble_eq_true rfl) (Nat.le_of_ble_eq_true rfl) ⟨by rw [cod_1], rfl, rfl⟩
  · subst q
    refine x_ifeq (tgt := 14) C dL_isFinished_7 rfl (fun c => ?_) (fun c => ?_)
    · refine r_lconst (z := 0) C dL_isFinished_14 rfl ?_
      refine v_last hN C dL_isFinished_15 (by omega) ?_
      refine r_goto (tgt := 22) C dL_isFinished_16 rfl ?_
      refine r_iconst C dL_isFinished_22 ?_
      exact w_ret C M dL_isFinished_23 (Nat.le_of_ble_eq_true rfl) (Nat.le_of_ble_eq_true rfl) ⟨rfl, rfl, by show hV (gO G 0) V1 = hV (gO G (if nrm r = 0 then 0 else 1)) V1; rw [if_pos c]⟩
    · refine r_lconst (z := 1) C dL_isFinished_10 rfl ?_
      refine r_goto (tgt := 15) C dL_isFinished_11 rfl ?_
      refine v_last hN C dL_isFinished_15 (by omega) ?_
      refine r_goto (tgt := 22) C dL_isFinished_16 rfl ?_
      refine r_iconst C dL_isFinished_22 ?_
      exact w_ret C M dL_isFinished_23 (Nat.le_of_ble_eq_true rfl) (Nat.le_of_ble_eq_true rfl) ⟨rfl, rfl, by show hV (gO G 1) V1 = hV (gO G (if nrm r = 0 then 0 else 1)) V1; rw [if_neg c]⟩
theorem ew_isUnderWay {G : GT} {l : Launch} {V V1 : VV} {e : Except String Int} {x1 : Int} (hlt : l.stackTraces = false) (hN : gN G = 155) (hX : gX G = false) (h : f5_isUnderWay V x1 = some (e, V1)) : EvW G l yL_isUnderWay bL_isUnderWay 4 hhL_isUnderWay 8 1 6 [.ref (gB G + 0), vI x1, .ref (gB G + 154)] (gN G) (hV G V) (QW G (oGZ G e) (cod [eI] e) V1) := by
  refine evw_of hlt (by decide +kernel) (Nat.le_of_ble_eq_true rfl) (av1 rfl) (fun X hl hx C M hXK => ?_)
  subst hl
  replace C : Cx G X "ChannelScheduleLaw" bL_isUnderWay := C
  show At G X 0 0 0 [(0, .ref (gB G + 0)), (1, vI x1), (2, .ref (gB G + 154))] [] V
  refine r_aload_n C dL_isUnderWay_0 rfl ?_
  refine r_iconst C dL_isUnderWay_1 ?_
  refine r_aload_n C dL_isUnderWay_2 rfl ?_
  refine r_iload_n C dL_isUnderWay_3 rfl ?_
  refine w_callV (As := [vI x1]) (rest := [vI 0, .ref (gB G + 154)]) (tg := tgt1 19) C M hXK dL_isUnderWay_4 lL_61 w5_isUnderWay (rc_main (by omega)) (ev5_isUnderWay C.lt (by omega) hX h) rfl rfl (Nat.le_of_ble_eq_true rfl) (Nat.le_of_ble_eq_true rfl) (Nat.le_of_ble_eq_true rfl) (Nat.le_of_ble_eq_true rfl) (Nat.le_of_ble_eq_true rfl) (fun E q => ?_) (fun E a q => ?_) (fun r q => ?_)
  · subst q
    have m := er_isUnderWay h
    obtain rfl := List.mem_singleton.mp m
    exact hd1 (by omega) (by decide) wcL_28 (by decide +kernel)
  · subst q
    have m := er_isUnderWay h
    obtain rfl := List.mem_singleton.mp m
    refine x_astore_n hx C dL_isUnderWay_19 rfl ?_
    refine r_iconst C dL_isUnderWay_20 ?_
    exact w_ret C M dL_isUnderWay_21 (Nat.le_of_ble_eq_true rfl) (Nat.le_of_ble_eq_true rfl) ⟨by rw [cod_1], rfl, rfl⟩
  · subst q
    refine x_ifeq (tgt := 14) C dL_isUnderWay_7 rfl (fun c => ?_) (fun c => ?_)
    · refine r_lconst (z := 0) C dL_isUnderWay_14 rfl ?_
      refine v_last hN C dL_isUnderWay_15 (by omega) ?_
      refine r_goto (tgt := 22) C dL_isUnderWay_16 rfl ?_
      refine r_iconst C dL_isUnderWay_22 ?_
      exact w_ret C M dL_isUnderWay_23 (Nat.le_of_ble_eq_true rfl) (Nat.le_of_ble_eq_true rfl) ⟨rfl, rfl, by show hV (gO G 0) V1 = hV (gO G (if nrm r = 0 then 0 else 1)) V1; rw [if_pos c]⟩
    · refine r_lconst (z := 1) C dL_isUnderWay_10 rfl ?_
      refine r_goto (tgt := 15) C dL_isUnderWay_11 rfl ?_
      refine v_last hN C dL_isUnderWay_15 (by omega) ?_
      refine r_goto (tgt := 22) C dL_isUnderWay_16 rfl ?_
      refine r_iconst C dL_isUnderWay_22 ?_
      exact w_ret C M dL_isUnderWay_23 (Nat.le_of_ble_eq_true rfl) (Nat.le_of_ble_eq_true rfl) ⟨rfl, rfl, by show hV (gO G 1) V1 = hV (gO G (if nrm r = 0 then 0 else 1)) V1; rw [if_neg c]⟩
theorem ew_occupancy {G : GT} {l : Launch} {V V1 : VV} {e : Except String Int} {x1 : Int} (hlt : l.stackTraces = false) (hN : gN G = 155) (hX : gX G = false) (h : f5_occupancy V x1 = some (e, V1)) : EvW G l yL_occupancy bL_occupancy 4 hhL_occupancy 8 1 6 [.ref (gB G + 0), vI x1, .ref (gB G + 154)] (gN G) (hV G V) (QW G (oGI G e) (cod [eA] e) V1) := by
  refine evw_of hlt (by decide +kernel) (Nat.le_of_ble_eq_true rfl) (av1 rfl) (fun X hl hx C M hXK => ?_)
  subst hl
  replace C : Cx G X "ChannelScheduleLaw" bL_occupancy := C
  show At G X 0 0 0 [(0, .ref (gB G + 0)), (1, vI x1), (2, .ref (gB G + 154))] [] V
  refine r_aload_n C dL_occupancy_0 rfl ?_
  refine r_iconst C dL_occupancy_1 ?_
  refine r_aload_n C dL_occupancy_2 rfl ?_
  refine r_iload_n C dL_occupancy_3 rfl ?_
  refine w_callV (As := [vI x1]) (rest := [vI 0, .ref (gB G + 154)]) (tg := tgt1 12) C M hXK dL_occupancy_4 lL_64 w5_occupancy (rc_main (by omega)) (ev5_occupancy C.lt (by omega) hX h) rfl rfl (Nat.le_of_ble_eq_true rfl) (Nat.le_of_ble_eq_true rfl) (Nat.le_of_ble_eq_true rfl) (Nat.le_of_ble_eq_true rfl) (Nat.le_of_ble_eq_true rfl) (fun E q => ?_) (fun E a q => ?_) (fun r q => ?_)
  · subst q
    have m := er_occupancy h
    obtain rfl := List.mem_singleton.mp m
    exact hd1 (by omega) (by decide) wcL_19 (by decide +kernel)
  · subst q
    have m := er_occupancy h
    obtain rfl := List.mem_singleton.mp m
    refine x_astore_n hx C dL_occupancy_12 rfl ?_
    refine r_iconst C dL_occupancy_13 ?_
    exact w_ret C M dL_occupancy_14 (Nat.le_of_ble_eq_true rfl) (Nat.le_of_ble_eq_true rfl) ⟨by rw [cod_1], rfl, rfl⟩
  · subst q
    refine r_i2l C dL_occupancy_7 ?_
    refine v_last hN C dL_occupancy_8 (rg_nrm r).1 ?_
    refine r_goto (tgt := 15) C dL_occupancy_9 rfl ?_
    refine r_iconst C dL_occupancy_15 ?_
    exact w_ret C M dL_occupancy_16 (Nat.le_of_ble_eq_true rfl) (Nat.le_of_ble_eq_true rfl) ⟨rfl, rfl, rfl⟩
theorem ew_emptyMinutes {G : GT} {l : Launch} {V V1 : VV} {e : Except String Int} {x1 : Int} {x2 : Int} (hlt : l.stackTraces = false) (hN : gN G = 155) (hX : gX G = false) (h : f5_emptyMinutes V x1 x2 = some (e, V1)) : EvW G l yL_emptyMinutes bL_emptyMinutes 5 hhL_emptyMinutes 8 1 6 [.ref (gB G + 0), vI x1, vI x2, .ref (gB G + 154)] (gN G) (hV G V) (QW G (oGI G e) (cod [eA] e) V1) := by
  refine evw_of hlt (by decide +kernel) (Nat.le_of_ble_eq_true rfl) (av1 rfl) (fun X hl hx C M hXK => ?_)
  subst hl
  replace C : Cx G X "ChannelScheduleLaw" bL_emptyMinutes := C
  show At G X 0 0 0 [(0, .ref (gB G + 0)), (1, vI x1), (2, vI x2), (3, .ref (gB G + 154))] [] V
  refine r_aload_n C dL_emptyMinutes_0 rfl ?_
  refine r_iconst C dL_emptyMinutes_1 ?_
  refine r_aload_n C dL_emptyMinutes_2 rfl ?_
  refine r_iload_n C dL_emptyMinutes_3 rfl ?_
  refine r_iload_n C dL_emptyMinutes_4 rfl ?_
  refine w_callV (As := [vI x1, vI x2]) (rest := [vI 0, .ref (gB G + 154)]) (tg := tgt1 13) C M hXK dL_emptyMinutes_5 lL_67 w5_emptyMinutes (rc_main (by omega)) (ev5_emptyMinutes C.lt (by omega) hX h) rfl rfl (Nat.le_of_ble_eq_true rfl) (Nat.le_of_ble_eq_true rfl) (Nat.le_of_ble_eq_true rfl) (Nat.le_of_ble_eq_true rfl) (Nat.le_of_ble_eq_true rfl) (fun E q => ?_) (fun E a q => ?_) (fun r q => ?_)
  · subst q
    have m := er_emptyMinutes h
    obtain rfl := List.mem_singleton.mp m
    exact hd1 (by omega) (by decide) wcL_19 (by decide +kernel)
  · subst q
    have m := er_emptyMinutes h
    obtain rfl := List.mem_singleton.mp m
    refine x_astore hx C dL_emptyMinutes_13 rfl ?_
    refine r_iconst C dL_emptyMinutes_15 ?_
    exact w_ret C M dL_emptyMinutes_16 (Nat.le_of_ble_eq_true rfl) (Nat.le_of_ble_eq_true rfl) ⟨by rw [cod_1], rfl, rfl⟩
  · subst q
    refine r_i2l C dL_emptyMinutes_8 ?_
    refine v_last hN C dL_emptyMinutes_9 (rg_nrm r).1 ?_
    refine r_goto (tgt := 17) C dL_emptyMinutes_10 rfl ?_
    refine r_iconst C dL_emptyMinutes_17 ?_
    exact w_ret C M dL_emptyMinutes_18 (Nat.le_of_ble_eq_true rfl) (Nat.le_of_ble_eq_true rfl) ⟨rfl, rfl, rfl⟩
theorem ew_longestEmptyRun {G : GT} {l : Launch} {V V1 : VV} {e : Except String Int} {x1 : Int} {x2 : Int} (hlt : l.stackTraces = false) (hN : gN G = 155) (hX : gX G = false) (h : f5_longestEmptyRun V x1 x2 = some (e, V1)) : EvW G l yL_longestEmptyRun bL_longestEmptyRun 5 hhL_longestEmptyRun 8 1 6 [.ref (gB G + 0), vI x1, vI x2, .ref (gB G + 154)] (gN G) (hV G V) (QW G (oGI G e) (cod [eA] e) V1) := by
  refine evw_of hlt (by decide +kernel) (Nat.le_of_ble_eq_true rfl) (av1 rfl) (fun X hl hx C M hXK => ?_)
  subst hl
  replace C : Cx G X "ChannelScheduleLaw" bL_longestEmptyRun := C
  show At G X 0 0 0 [(0, .ref (gB G + 0)), (1, vI x1), (2, vI x2), (3, .ref (gB G + 154))] [] V
  refine r_aload_n C dL_longestEmptyRun_0 rfl ?_
  refine r_iconst C dL_longestEmptyRun_1 ?_
  refine r_aload_n C dL_longestEmptyRun_2 rfl ?_
  refine r_iload_n C dL_longestEmptyRun_3 rfl ?_
  refine r_iload_n C dL_longestEmptyRun_4 rfl ?_
  refine w_callV (As := [vI x1, vI x2]) (rest := [vI 0, .ref (gB G + 154)]) (tg := tgt1 13) C M hXK dL_longestEmptyRun_5 lL_70 w5_longestEmptyRun (rc_main (by omega)) (ev5_longestEmptyRun C.lt (by omega) hX h) rfl rfl (Nat.le_of_ble_eq_true rfl) (Nat.le_of_ble_eq_true rfl) (Nat.le_of_ble_eq_true rfl) (Nat.le_of_ble_eq_true rfl) (Nat.le_of_ble_eq_true rfl) (fun E q => ?_) (fun E a q => ?_) (fun r q => ?_)
  · subst q
    have m := er_longestEmptyRun h
    obtain rfl := List.mem_singleton.mp m
    exact hd1 (by omega) (by decide) wcL_19 (by decide +kernel)
  · subst q
    have m := er_longestEmptyRun h
    obtain rfl := List.mem_singleton.mp m
    refine x_astore hx C dL_longestEmptyRun_13 rfl ?_
    refine r_iconst C dL_longestEmptyRun_15 ?_
    exact w_ret C M dL_longestEmptyRun_16 (Nat.le_of_ble_eq_true rfl) (Nat.le_of_ble_eq_true rfl) ⟨by rw [cod_1], rfl, rfl⟩
  · subst q
    refine r_i2l C dL_longestEmptyRun_8 ?_
    refine v_last hN C dL_longestEmptyRun_9 (rg_nrm r).1 ?_
    refine r_goto (tgt := 17) C dL_longestEmptyRun_10 rfl ?_
    refine r_iconst C dL_longestEmptyRun_17 ?_
    exact w_ret C M dL_longestEmptyRun_18 (Nat.le_of_ble_eq_true rfl) (Nat.le_of_ble_eq_true rfl) ⟨rfl, rfl, rfl⟩
theorem ew_conflictCount {G : GT} {l : Launch} {V V1 : VV} {e : Except String Int} {x1 : Int} {x2 : Int} {x3 : Int} (hlt : l.stackTraces = false) (hN : gN G = 155) (hX : gX G = false) (h : f5_conflictCount V x1 x2 x3 = some (e, V1)) : EvW G l yL_conflictCount bL_conflictCount 6 hhL_conflictCount 8 2 12 [.ref (gB G + 0), vI x1, vI x2, vI x3, .ref (gB G + 154)] (gN G) (hV G V) (QW G (oGI G e) (cod [eI, eA] e) V1) := by
  refine evw_of hlt (by decide +kernel) (Nat.le_of_ble_eq_true rfl) (av1 rfl) (fun X hl hx C M hXK => ?_)
  subst hl
  replace C : Cx G X "ChannelScheduleLaw" bL_conflictCount := C
  show At G X 0 0 0 [(0, .ref (gB G + 0)), (1, vI x1), (2, vI x2), (3, vI x3), (4, .ref (gB G + 154))] [] V
  refine r_aload C dL_conflictCount_0 rfl ?_
  refine r_iconst C dL_conflictCount_2 ?_
  refine r_aload_n C dL_conflictCount_3 rfl ?_
  refine r_iload_n C dL_conflictCount_4 rfl ?_
  refine r_iload_n C dL_conflictCount_5 rfl ?_
  refine r_iload_n C dL_conflictCount_6 rfl ?_
  refine w_callV (As := [vI x1, vI x2, vI x3]) (rest := [vI 0, .ref (gB G + 154)]) (tg := tgt2 eI 15 19) C M hXK dL_conflictCount_7 lL_73 w5_conflictCount (rc_main (by omega)) (ev5_conflictCount C.lt (by omega) hX h) rfl rfl (Nat.le_of_ble_eq_true rfl) (Nat.le_of_ble_eq_true rfl) (Nat.le_of_ble_eq_true rfl) (Nat.le_of_ble_eq_true rfl) (Nat.le_of_ble_eq_true rfl) (fun E q => ?_) (fun E a q => ?_) (fun r q => ?_)
  · subst q
    have m := er_conflictCount h
    rcases List.mem_cons.mp m with m | m
    · subst m
      rw [tgt2_1]
      exact hd1 (by omega) (by decide) wcL_28 (by decide +kernel)
    · obtain rfl := List.mem_singleton.mp m
      rw [tgt2_2 (Ne.symm eIA)]
      exact hd2 (by omega) (by decide) wcL_19 (by decide +kernel) (by decide) wcL_28 (by decide +kernel)
  · subst q
    have m := er_conflictCount h
    rcases List.mem_cons.mp m with m | m
    · subst m
      rw [tgt2_1]
      refine x_astore hx C dL_conflictCount_15 rfl ?_
      refine r_iconst C dL_conflictCount_17 ?_
      exact w_ret C M dL_conflictCount_18 (Nat.le_of_ble_eq_true rfl) (Nat.le_of_ble_eq_true rfl) ⟨by rw [cod_1], rfl, rfl⟩
    · obtain rfl := List.mem_singleton.mp m
      rw [tgt2_2 (Ne.symm eIA)]
      refine x_astore hx C dL_conflictCount_19 rfl ?_
      refine r_iconst C dL_conflictCount_21 ?_
      exact w_ret C M dL_conflictCount_22 (Nat.le_of_ble_eq_true rfl) (Nat.le_of_ble_eq_true rfl) ⟨by rw [cod_2 eIA], rfl, rfl⟩
  · subst q
    refine r_i2l C dL_conflictCount_10 ?_
    refine v_last hN C dL_conflictCount_11 (rg_nrm r).1 ?_
    refine r_goto (tgt := 23) C dL_conflictCount_12 rfl ?_
    refine r_iconst C dL_conflictCount_23 ?_
    exact w_ret C M dL_conflictCount_24 (Nat.le_of_ble_eq_true rfl) (Nat.le_of_ble_eq_true rfl) ⟨rfl, rfl, rfl⟩
theorem ew_firstConflict {G : GT} {l : Launch} {V V1 : VV} {e : Except String Int} {x1 : Int} {x2 : Int} {x3 : Int} (hlt : l.stackTraces = false) (hN : gN G = 155) (hX : gX G = false) (h : f5_firstConflict V x1 x2 x3 = some (e, V1)) : EvW G l yL_firstConflict bL_firstConflict 6 hhL_firstConflict 8 2 12 [.ref (gB G + 0), vI x1, vI x2, vI x3, .ref (gB G + 154)] (gN G) (hV G V) (QW G (oGI G e) (cod [eI, eA] e) V1) := by
  refine evw_of hlt (by decide +kernel) (Nat.le_of_ble_eq_true rfl) (av1 rfl) (fun X hl hx C M hXK => ?_)
  subst hl
  replace C : Cx G X "ChannelScheduleLaw" bL_firstConflict := C
  show At G X 0 0 0 [(0, .ref (gB G + 0)), (1, vI x1), (2, vI x2), (3, vI x3), (4, .ref (gB G + 154))] [] V
  refine r_aload C dL_firstConflict_0 rfl ?_
  refine r_iconst C dL_firstConflict_2 ?_
  refine r_aload_n C dL_firstConflict_3 rfl ?_
  refine r_iload_n C dL_firstConflict_4 rfl ?_
  refine r_iload_n C dL_firstConflict_5 rfl ?_
  refine r_iload_n C dL_firstConflict_6 rfl ?_
  refine w_callV (As := [vI x1, vI x2, vI x3]) (rest := [vI 0, .ref (gB G + 154)]) (tg := tgt2 eI 15 19) C M hXK dL_firstConflict_7 lL_77 w5_firstConflict (rc_main (by omega)) (ev5_firstConflict C.lt (by omega) hX h) rfl rfl (Nat.le_of_ble_eq_true rfl) (Nat.le_of_ble_eq_true rfl) (Nat.le_of_ble_eq_true rfl) (Nat.le_of_ble_eq_true rfl) (Nat.le_of_ble_eq_true rfl) (fun E q => ?_) (fun E a q => ?_) (fun r q => ?_)
  · subst q
    have m := er_firstConflict h
    rcases List.mem_cons.mp m with m | m
    · subst m
      rw [tgt2_1]
      exact hd1 (by omega) (by decide) wcL_28 (by decide +kernel)
    · obtain rfl := List.mem_singleton.mp m
      rw [tgt2_2 (Ne.symm eIA)]
      exact hd2 (by omega) (by decide) wcL_19 (by decide +kernel) (by decide) wcL_28 (by decide +kernel)
  · subst q
    have m := er_firstConflict h
    rcases List.mem_cons.mp m with m | m
    · subst m
      rw [tgt2_1]
      refine x_astore hx C dL_firstConflict_15 rfl ?_
      refine r_iconst C dL_firstConflict_17 ?_
      exact w_ret C M dL_firstConflict_18 (Nat.le_of_ble_eq_true rfl) (Nat.le_of_ble_eq_true rfl) ⟨by rw [cod_1], rfl, rfl⟩
    · obtain rfl := List.mem_singleton.mp m
      rw [tgt2_2 (Ne.symm eIA)]
      refine x_astore hx C dL_firstConflict_19 rfl ?_
      refine r_iconst C dL_firstConflict_21 ?_
      exact w_ret C M dL_firstConflict_22 (Nat.le_of_ble_eq_true rfl) (Nat.le_of_ble_eq_true rfl) ⟨by rw [cod_2 eIA], rfl, rfl⟩
  · subst q
    refine r_i2l C dL_firstConflict_10 ?_
    refine v_last hN C dL_firstConflict_11 (rg_nrm r).1 ?_
    refine r_goto (tgt := 23) C dL_firstConflict_12 rfl ?_
    refine r_iconst C dL_firstConflict_23 ?_
    exact w_ret C M dL_firstConflict_24 (Nat.le_of_ble_eq_true rfl) (Nat.le_of_ble_eq_true rfl) ⟨rfl, rfl, rfl⟩
theorem ew_earliestStart {G : GT} {l : Launch} {V V1 : VV} {e : Except String Int} {x1 : Int} {x2 : Int} {x3 : Int} (hlt : l.stackTraces = false) (hN : gN G = 155) (hX : gX G = false) (h : f5_earliestStart V x1 x2 x3 = some (e, V1)) : EvW G l yL_earliestStart bL_earliestStart 6 hhL_earliestStart 8 2 12 [.ref (gB G + 0), vI x1, vI x2, vI x3, .ref (gB G + 154)] (gN G) (hV G V) (QW G (oGI G e) (cod [eI, eA] e) V1) := by
  refine evw_of hlt (by decide +kernel) (Nat.le_of_ble_eq_true rfl) (av1 rfl) (fun X hl hx C M hXK => ?_)
  subst hl
  replace C : Cx G X "ChannelScheduleLaw" bL_earliestStart := C
  show At G X 0 0 0 [(0, .ref (gB G + 0)), (1, vI x1), (2, vI x2), (3, vI x3), (4, .ref (gB G + 154))] [] V
  refine r_aload C dL_earliestStart_0 rfl ?_
  refine r_iconst C dL_earliestStart_2 ?_
  refine r_aload_n C dL_earliestStart_3 rfl ?_
  refine r_iload_n C dL_earliestStart_4 rfl ?_
  refine r_iload_n C dL_earliestStart_5 rfl ?_
  refine r_iload_n C dL_earliestStart_6 rfl ?_
  refine w_callV (As := [vI x1, vI x2, vI x3]) (rest := [vI 0, .ref (gB G + 154)]) (tg := tgt2 eI 15 19) C M hXK dL_earliestStart_7 lL_80 w5_earliestStart (rc_main (by omega)) (ev5_earliestStart C.lt (by omega) hX h) rfl rfl (Nat.le_of_ble_eq_true rfl) (Nat.le_of_ble_eq_true rfl) (Nat.le_of_ble_eq_true rfl) (Nat.le_of_ble_eq_true rfl) (Nat.le_of_ble_eq_true rfl) (fun E q => ?_) (fun E a q => ?_) (fun r q => ?_)
  · subst q
    have m := er_earliestStart h
    rcases List.mem_cons.mp m with m | m
    · subst m
      rw [tgt2_1]
      exact hd1 (by omega) (by decide) wcL_28 (by decide +kernel)
    · obtain rfl := List.mem_singleton.mp m
      rw [tgt2_2 (Ne.symm eIA)]
      exact hd2 (by omega) (by decide) wcL_19 (by decide +kernel) (by decide) wcL_28 (by decide +kernel)
  · subst q
    have m := er_earliestStart h
    rcases List.mem_cons.mp m with m | m
    · subst m
      rw [tgt2_1]
      refine x_astore hx C dL_earliestStart_15 rfl ?_
      refine r_iconst C dL_earliestStart_17 ?_
      exact w_ret C M dL_earliestStart_18 (Nat.le_of_ble_eq_true rfl) (Nat.le_of_ble_eq_true rfl) ⟨by rw [cod_1], rfl, rfl⟩
    · obtain rfl := List.mem_singleton.mp m
      rw [tgt2_2 (Ne.symm eIA)]
      refine x_astore hx C dL_earliestStart_19 rfl ?_
      refine r_iconst C dL_earliestStart_21 ?_
      exact w_ret C M dL_earliestStart_22 (Nat.le_of_ble_eq_true rfl) (Nat.le_of_ble_eq_true rfl) ⟨by rw [cod_2 eIA], rfl, rfl⟩
  · subst q
    refine r_i2l C dL_earliestStart_10 ?_
    refine v_last hN C dL_earliestStart_11 (rg_nrm r).1 ?_
    refine r_goto (tgt := 23) C dL_earliestStart_12 rfl ?_
    refine r_iconst C dL_earliestStart_23 ?_
    exact w_ret C M dL_earliestStart_24 (Nat.le_of_ble_eq_true rfl) (Nat.le_of_ble_eq_true rfl) ⟨rfl, rfl, rfl⟩
theorem ew_latestStart {G : GT} {l : Launch} {V V1 : VV} {e : Except String Int} {x1 : Int} {x2 : Int} {x3 : Int} (hlt : l.stackTraces = false) (hN : gN G = 155) (hX : gX G = false) (h : f5_latestStart V x1 x2 x3 = some (e, V1)) : EvW G l yL_latestStart bL_latestStart 6 hhL_latestStart 8 2 12 [.ref (gB G + 0), vI x1, vI x2, vI x3, .ref (gB G + 154)] (gN G) (hV G V) (QW G (oGI G e) (cod [eI, eA] e) V1) := by
  refine evw_of hlt (by decide +kernel) (Nat.le_of_ble_eq_true rfl) (av1 rfl) (fun X hl hx C M hXK => ?_)
  subst hl
  replace C : Cx G X "ChannelScheduleLaw" bL_latestStart := C
  show At G X 0 0 0 [(0, .ref (gB G + 0)), (1, vI x1), (2, vI x2), (3, vI x3), (4, .ref (gB G + 154))] [] V
  refine r_aload C dL_latestStart_0 rfl ?_
  refine r_iconst C dL_latestStart_2 ?_
  refine r_aload_n C dL_latestStart_3 rfl ?_
  refine r_iload_n C dL_latestStart_4 rfl ?_
  refine r_iload_n C dL_latestStart_5 rfl ?_
  refine r_iload_n C dL_latestStart_6 rfl ?_
  refine w_callV (As := [vI x1, vI x2, vI x3]) (rest := [vI 0, .ref (gB G + 154)]) (tg := tgt2 eI 15 19) C M hXK dL_latestStart_7 lL_83 w5_latestStart (rc_main (by omega)) (ev5_latestStart C.lt (by omega) hX h) rfl rfl (Nat.le_of_ble_eq_true rfl) (Nat.le_of_ble_eq_true rfl) (Nat.le_of_ble_eq_true rfl) (Nat.le_of_ble_eq_true rfl) (Nat.le_of_ble_eq_true rfl) (fun E q => ?_) (fun E a q => ?_) (fun r q => ?_)
  · subst q
    have m := er_latestStart h
    rcases List.mem_cons.mp m with m | m
    · subst m
      rw [tgt2_1]
      exact hd1 (by omega) (by decide) wcL_28 (by decide +kernel)
    · obtain rfl := List.mem_singleton.mp m
      rw [tgt2_2 (Ne.symm eIA)]
      exact hd2 (by omega) (by decide) wcL_19 (by decide +kernel) (by decide) wcL_28 (by decide +kernel)
  · subst q
    have m := er_latestStart h
    rcases List.mem_cons.mp m with m | m
    · subst m
      rw [tgt2_1]
      refine x_astore hx C dL_latestStart_15 rfl ?_
      refine r_iconst C dL_latestStart_17 ?_
      exact w_ret C M dL_latestStart_18 (Nat.le_of_ble_eq_true rfl) (Nat.le_of_ble_eq_true rfl) ⟨by rw [cod_1], rfl, rfl⟩
    · obtain rfl := List.mem_singleton.mp m
      rw [tgt2_2 (Ne.symm eIA)]
      refine x_astore hx C dL_latestStart_19 rfl ?_
      refine r_iconst C dL_latestStart_21 ?_
      exact w_ret C M dL_latestStart_22 (Nat.le_of_ble_eq_true rfl) (Nat.le_of_ble_eq_true rfl) ⟨by rw [cod_2 eIA], rfl, rfl⟩
  · subst q
    refine r_i2l C dL_latestStart_10 ?_
    refine v_last hN C dL_latestStart_11 (rg_nrm r).1 ?_
    refine r_goto (tgt := 23) C dL_latestStart_12 rfl ?_
    refine r_iconst C dL_latestStart_23 ?_
    exact w_ret C M dL_latestStart_24 (Nat.le_of_ble_eq_true rfl) (Nat.le_of_ble_eq_true rfl) ⟨rfl, rfl, rfl⟩
theorem ew_bestCancellation {G : GT} {l : Launch} {V V1 : VV} {e : Except String Int} {x1 : Int} {x2 : Int} {x3 : Int} (hlt : l.stackTraces = false) (hN : gN G = 155) (hX : gX G = false) (h : f5_bestCancellation V x1 x2 x3 = some (e, V1)) : EvW G l yL_bestCancellation bL_bestCancellation 6 hhL_bestCancellation 8 3 18 [.ref (gB G + 0), vI x1, vI x2, vI x3, .ref (gB G + 154)] (gN G) (hV G V) (QW G (oGI G e) (cod [eI, eA, eN] e) V1) := by
  refine evw_of hlt (by decide +kernel) (Nat.le_of_ble_eq_true rfl) (av1 rfl) (fun X hl hx C M hXK => ?_)
  subst hl
  replace C : Cx G X "ChannelScheduleLaw" bL_bestCancellation := C
  show At G X 0 0 0 [(0, .ref (gB G + 0)), (1, vI x1), (2, vI x2), (3, vI x3), (4, .ref (gB G + 154))] [] V
  refine r_aload C dL_bestCancellation_0 rfl ?_
  refine r_iconst C dL_bestCancellation_2 ?_
  refine r_aload_n C dL_bestCancellation_3 rfl ?_
  refine r_iload_n C dL_bestCancellation_4 rfl ?_
  refine r_iload_n C dL_bestCancellation_5 rfl ?_
  refine r_iload_n C dL_bestCancellation_6 rfl ?_
  refine w_callV (As := [vI x1, vI x2, vI x3]) (rest := [vI 0, .ref (gB G + 154)]) (tg := tgt3 eI eA 15 19 23) C M hXK dL_bestCancellation_7 lL_86 w5_bestCancellation (rc_main (by omega)) (ev5_bestCancellation C.lt (by omega) hX h) rfl rfl (Nat.le_of_ble_eq_true rfl) (Nat.le_of_ble_eq_true rfl) (Nat.le_of_ble_eq_true rfl) (Nat.le_of_ble_eq_true rfl) (Nat.le_of_ble_eq_true rfl) (fun E q => ?_) (fun E a q => ?_) (fun r q => ?_)
  · subst q
    have m := er_bestCancellation h
    rcases List.mem_cons.mp m with m | m
    · subst m
      rw [tgt3_1]
      exact hd1 (by omega) (by decide) wcL_28 (by decide +kernel)
    · rcases List.mem_cons.mp m with m | m
      · subst m
        rw [tgt3_2 (Ne.symm eIA)]
        exact hd2 (by omega) (by decide) wcL_19 (by decide +kernel) (by decide) wcL_28 (by decide +kernel)
      · obtain rfl := List.mem_singleton.mp m
        rw [tgt3_3 (Ne.symm eIN) (Ne.symm eAN)]
        exact hd3 (by omega) (by decide) wcL_43 (by decide +kernel) (by decide) wcL_28 (by decide +kernel) (by decide) wcL_19 (by decide +kernel)
  · subst q
    have m := er_bestCancellation h
    rcases List.mem_cons.mp m with m | m
    · subst m
      rw [tgt3_1]
      refine x_astore hx C dL_bestCancellation_15 rfl ?_
      refine r_iconst C dL_bestCancellation_17 ?_
      exact w_ret C M dL_bestCancellation_18 (Nat.le_of_ble_eq_true rfl) (Nat.le_of_ble_eq_true rfl) ⟨by rw [cod_1], rfl, rfl⟩
    · rcases List.mem_cons.mp m with m | m
      · subst m
        rw [tgt3_2 (Ne.symm eIA)]
        refine x_astore hx C dL_bestCancellation_19 rfl ?_
        refine r_iconst C dL_bestCancellation_21 ?_
        exact w_ret C M dL_bestCancellation_22 (Nat.le_of_ble_eq_true rfl) (Nat.le_of_ble_eq_true rfl) ⟨by rw [cod_2 eIA], rfl, rfl⟩
      · obtain rfl := List.mem_singleton.mp m
        rw [tgt3_3 (Ne.symm eIN) (Ne.symm eAN)]
        refine x_astore hx C dL_bestCancellation_23 rfl ?_
        refine r_iconst C dL_bestCancellation_25 ?_
        exact w_ret C M dL_bestCancellation_26 (Nat.le_of_ble_eq_true rfl) (Nat.le_of_ble_eq_true rfl) ⟨by rw [cod_3 eIN eAN], rfl, rfl⟩
  · subst q
    refine r_i2l C dL_bestCancellation_10 ?_
    refine v_last hN C dL_bestCancellation_11 (rg_nrm r).1 ?_
    refine r_goto (tgt := 27) C dL_bestCancellation_12 rfl ?_
    refine r_iconst C dL_bestCancellation_27 ?_
    exact w_ret C M dL_bestCancellation_28 (Nat.le_of_ble_eq_true rfl) (Nat.le_of_ble_eq_true rfl) ⟨rfl, rfl, rfl⟩
theorem ew_slack {G : GT} {l : Launch} {V V1 : VV} {e : Except String Int} {x1 : Int} (hlt : l.stackTraces = false) (hN : gN G = 155) (hX : gX G = false) (h : f5_slack V x1 = some (e, V1)) : EvW G l yL_slack bL_slack 4 hhL_slack 8 1 6 [.ref (gB G + 0), vI x1, .ref (gB G + 154)] (gN G) (hV G V) (QW G (oGI G e) (cod [eI] e) V1) := by
  refine evw_of hlt (by decide +kernel) (Nat.le_of_ble_eq_true rfl) (av1 rfl) (fun X hl hx C M hXK => ?_)
  subst hl
  replace C : Cx G X "ChannelScheduleLaw" bL_slack := C
  show At G X 0 0 0 [(0, .ref (gB G + 0)), (1, vI x1), (2, .ref (gB G + 154))] [] V
  refine r_aload_n C dL_slack_0 rfl ?_
  refine r_iconst C dL_slack_1 ?_
  refine r_aload_n C dL_slack_2 rfl ?_
  refine r_iload_n C dL_slack_3 rfl ?_
  refine w_callV (As := [vI x1]) (rest := [vI 0, .ref (gB G + 154)]) (tg := tgt1 12) C M hXK dL_slack_4 lL_89 w5_slack (rc_main (by omega)) (ev5_slack C.lt (by omega) hX h) rfl rfl (Nat.le_of_ble_eq_true rfl) (Nat.le_of_ble_eq_true rfl) (Nat.le_of_ble_eq_true rfl) (Nat.le_of_ble_eq_true rfl) (Nat.le_of_ble_eq_true rfl) (fun E q => ?_) (fun E a q => ?_) (fun r q => ?_)
  · subst q
    have m := er_slack h
    obtain rfl := List.mem_singleton.mp m
    exact hd1 (by omega) (by decide) wcL_28 (by decide +kernel)
  · subst q
    have m := er_slack h
    obtain rfl := List.mem_singleton.mp m
    refine x_astore_n hx C dL_slack_12 rfl ?_
    refine r_iconst C dL_slack_13 ?_
    exact w_ret C M dL_slack_14 (Nat.le_of_ble_eq_true rfl) (Nat.le_of_ble_eq_true rfl) ⟨by rw [cod_1], rfl, rfl⟩
  · subst q
    refine r_i2l C dL_slack_7 ?_
    refine v_last hN C dL_slack_8 (rg_nrm r).1 ?_
    refine r_goto (tgt := 15) C dL_slack_9 rfl ?_
    refine r_iconst C dL_slack_15 ?_
    exact w_ret C M dL_slack_16 (Nat.le_of_ble_eq_true rfl) (Nat.le_of_ble_eq_true rfl) ⟨rfl, rfl, rfl⟩
theorem ew_whyNotMovable {G : GT} {l : Launch} {V V1 : VV} {e : Except String Int} {x1 : Int} {x2 : Int} (hlt : l.stackTraces = false) (hN : gN G = 155) (hX : gX G = false) (h : f5_whyNotMovable V x1 x2 = some (e, V1)) : EvW G l yL_whyNotMovable bL_whyNotMovable 5 hhL_whyNotMovable 8 2 12 [.ref (gB G + 0), vI x1, vI x2, .ref (gB G + 154)] (gN G) (hV G V) (QW G (oGI G e) (cod [eI, eA] e) V1) := by
  refine evw_of hlt (by decide +kernel) (Nat.le_of_ble_eq_true rfl) (av1 rfl) (fun X hl hx C M hXK => ?_)
  subst hl
  replace C : Cx G X "ChannelScheduleLaw" bL_whyNotMovable := C
  show At G X 0 0 0 [(0, .ref (gB G + 0)), (1, vI x1), (2, vI x2), (3, .ref (gB G + 154))] [] V
  refine r_aload_n C dL_whyNotMovable_0 rfl ?_
  refine r_iconst C dL_whyNotMovable_1 ?_
  refine r_aload_n C dL_whyNotMovable_2 rfl ?_
  refine r_iload_n C dL_whyNotMovable_3 rfl ?_
  refine r_iload_n C dL_whyNotMovable_4 rfl ?_
  refine w_callV (As := [vI x1, vI x2]) (rest := [vI 0, .ref (gB G + 154)]) (tg := tgt2 eI 13 17) C M hXK dL_whyNotMovable_5 lL_92 w5_whyNotMovable (rc_main (by omega)) (ev5_whyNotMovable C.lt (by omega) hX h) rfl rfl (Nat.le_of_ble_eq_true rfl) (Nat.le_of_ble_eq_true rfl) (Nat.le_of_ble_eq_true rfl) (Nat.le_of_ble_eq_true rfl) (Nat.le_of_ble_eq_true rfl) (fun E q => ?_) (fun E a q => ?_) (fun r q => ?_)
  · subst q
    have m := er_whyNotMovable h
    rcases List.mem_cons.mp m with m | m
    · subst m
      rw [tgt2_1]
      exact hd1 (by omega) (by decide) wcL_28 (by decide +kernel)
    · obtain rfl := List.mem_singleton.mp m
      rw [tgt2_2 (Ne.symm eIA)]
      exact hd2 (by omega) (by decide) wcL_19 (by decide +kernel) (by decide) wcL_28 (by decide +kernel)
  · subst q
    have m := er_whyNotMovable h
    rcases List.mem_cons.mp m with m | m
    · subst m
      rw [tgt2_1]
      refine x_astore hx C dL_whyNotMovable_13 rfl ?_
      refine r_iconst C dL_whyNotMovable_15 ?_
      exact w_ret C M dL_whyNotMovable_16 (Nat.le_of_ble_eq_true rfl) (Nat.le_of_ble_eq_true rfl) ⟨by rw [cod_1], rfl, rfl⟩
    · obtain rfl := List.mem_singleton.mp m
      rw [tgt2_2 (Ne.symm eIA)]
      refine x_astore hx C dL_whyNotMovable_17 rfl ?_
      refine r_iconst C dL_whyNotMovable_19 ?_
      exact w_ret C M dL_whyNotMovable_20 (Nat.le_of_ble_eq_true rfl) (Nat.le_of_ble_eq_true rfl) ⟨by rw [cod_2 eIA], rfl, rfl⟩
  · subst q
    refine r_i2l C dL_whyNotMovable_8 ?_
    refine v_last hN C dL_whyNotMovable_9 (rg_nrm r).1 ?_
    refine r_goto (tgt := 21) C dL_whyNotMovable_10 rfl ?_
    refine r_iconst C dL_whyNotMovable_21 ?_
    exact w_ret C M dL_whyNotMovable_22 (Nat.le_of_ble_eq_true rfl) (Nat.le_of_ble_eq_true rfl) ⟨rfl, rfl, rfl⟩
theorem ew_requestedShip {G : GT} {l : Launch} {V V1 : VV} {e : Except String Int} {x1 : Int} (hlt : l.stackTraces = false) (hN : gN G = 155) (hX : gX G = false) (h : f5_requestedShip V x1 = some (e, V1)) : EvW G l yL_requestedShip bL_requestedShip 4 hhL_requestedShip 8 1 6 [.ref (gB G + 0), vI x1, .ref (gB G + 154)] (gN G) (hV G V) (QW G (oGI G e) (cod [eI] e) V1) := by
  refine evw_of hlt (by decide +kernel) (Nat.le_of_ble_eq_true rfl) (av1 rfl) (fun X hl hx C M hXK => ?_)
  subst hl
  replace C : Cx G X "ChannelScheduleLaw" bL_requestedShip := C
  show At G X 0 0 0 [(0, .ref (gB G + 0)), (1, vI x1), (2, .ref (gB G + 154))] [] V
  refine r_aload_n C dL_requestedShip_0 rfl ?_
  refine r_iconst C dL_requestedShip_1 ?_
  refine r_aload_n C dL_requestedShip_2 rfl ?_
  refine r_iload_n C dL_requestedShip_3 rfl ?_
  refine w_callV (As := [vI x1]) (rest := [vI 0, .ref (gB G + 154)]) (tg := tgt1 12) C M hXK dL_requestedShip_4 lL_95 w5_requestedShip (rc_main (by omega)) (ev5_requestedShip C.lt (by omega) hX h) rfl rfl (Nat.le_of_ble_eq_true rfl) (Nat.le_of_ble_eq_true rfl) (Nat.le_of_ble_eq_true rfl) (Nat.le_of_ble_eq_true rfl) (Nat.le_of_ble_eq_true rfl) (fun E q => ?_) (fun E a q => ?_) (fun r q => ?_)
  · subst q
    have m := er_requestedShip h
    obtain rfl := List.mem_singleton.mp m
    exact hd1 (by omega) (by decide) wcL_28 (by decide +kernel)
  · subst q
    have m := er_requestedShip h
    obtain rfl := List.mem_singleton.mp m
    refine x_astore_n hx C dL_requestedShip_12 rfl ?_
    refine r_iconst C dL_requestedShip_13 ?_
    exact w_ret C M dL_requestedShip_14 (Nat.le_of_ble_eq_true rfl) (Nat.le_of_ble_eq_true rfl) ⟨by rw [cod_1], rfl, rfl⟩
  · subst q
    refine r_i2l C dL_requestedShip_7 ?_
    refine v_last hN C dL_requestedShip_8 (rg_nrm r).1 ?_
    refine r_goto (tgt := 15) C dL_requestedShip_9 rfl ?_
    refine r_iconst C dL_requestedShip_15 ?_
    exact w_ret C M dL_requestedShip_16 (Nat.le_of_ble_eq_true rfl) (Nat.le_of_ble_eq_true rfl) ⟨rfl, rfl, rfl⟩
theorem ew_isRequestInbound {G : GT} {l : Launch} {V V1 : VV} {e : Except String Int} {x1 : Int} (hlt : l.stackTraces = false) (hN : gN G = 155) (hX : gX G = false) (h : f5_isRequestInbound V x1 = some (e, V1)) : EvW G l yL_isRequestInbound bL_isRequestInbound 4 hhL_isRequestInbound 8 1 6 [.ref (gB G + 0), vI x1, .ref (gB G + 154)] (gN G) (hV G V) (QW G (oGZ G e) (cod [eI] e) V1) := by
  refine evw_of hlt (by decide +kernel) (Nat.le_of_ble_eq_true rfl) (av1 rfl) (fun X hl hx C M hXK => ?_)
  subst hl
  replace C : Cx G X "ChannelScheduleLaw" bL_isRequestInbound := C
  show At G X 0 0 0 [(0, .ref (gB G + 0)), (1, vI x1), (2, .ref (gB G + 154))] [] V
  refine r_aload_n C dL_isRequestInbound_0 rfl ?_
  refine r_iconst C dL_isRequestInbound_1 ?_
  refine r_aload_n C dL_isRequestInbound_2 rfl ?_
  refine r_iload_n C dL_isRequestInbound_3 rfl ?_
  refine w_callV (As := [vI x1]) (rest := [vI 0, .ref (gB G + 154)]) (tg := tgt1 19) C M hXK dL_isRequestInbound_4 lL_98 w5_isRequestInbound (rc_main (by omega)) (ev5_isRequestInbound C.lt (by omega) hX h) rfl rfl (Nat.le_of_ble_eq_true rfl) (Nat.le_of_ble_eq_true rfl) (Nat.le_of_ble_eq_true rfl) (Nat.le_of_ble_eq_true rfl) (Nat.le_of_ble_eq_true rfl) (fun E q => ?_) (fun E a q => ?_) (fun r q => ?_)
  · subst q
    have m := er_isRequestInbound h
    obtain rfl := List.mem_singleton.mp m
    exact hd1 (by omega) (by decide) wcL_28 (by decide +kernel)
  · subst q
    have m := er_isRequestInbound h
    obtain rfl := List.mem_singleton.mp m
    refine x_astore_n hx C dL_isRequestInbound_19 rfl ?_
    refine r_iconst C dL_isRequestInbound_20 ?_
    exact w_ret C M dL_isRequestInbound_21 (Nat.le_of_ble_eq_true rfl) (Nat.le_of_ble_eq_true rfl) ⟨by rw [cod_1], rfl, rfl⟩
  · subst q
    refine x_ifeq (tgt := 14) C dL_isRequestInbound_7 rfl (fun c => ?_) (fun c => ?_)
    · refine r_lconst (z := 0) C dL_isRequestInbound_14 rfl ?_
      refine v_last hN C dL_isRequestInbound_15 (by omega) ?_
      refine r_goto (tgt := 22) C dL_isRequestInbound_16 rfl ?_
      refine r_iconst C dL_isRequestInbound_22 ?_
      exact w_ret C M dL_isRequestInbound_23 (Nat.le_of_ble_eq_true rfl) (Nat.le_of_ble_eq_true rfl) ⟨rfl, rfl, by show hV (gO G 0) V1 = hV (gO G (if nrm r = 0 then 0 else 1)) V1; rw [if_pos c]⟩
    · refine r_lconst (z := 1) C dL_isRequestInbound_10 rfl ?_
      refine r_goto (tgt := 15) C dL_isRequestInbound_11 rfl ?_
      refine v_last hN C dL_isRequestInbound_15 (by omega) ?_
      refine r_goto (tgt := 22) C dL_isRequestInbound_16 rfl ?_
      refine r_iconst C dL_isRequestInbound_22 ?_
      exact w_ret C M dL_isRequestInbound_23 (Nat.le_of_ble_eq_true rfl) (Nat.le_of_ble_eq_true rfl) ⟨rfl, rfl, by show hV (gO G 1) V1 = hV (gO G (if nrm r = 0 then 0 else 1)) V1; rw [if_neg c]⟩
theorem ew_earliestRequested {G : GT} {l : Launch} {V V1 : VV} {e : Except String Int} {x1 : Int} (hlt : l.stackTraces = false) (hN : gN G = 155) (hX : gX G = false) (h : f5_earliestRequested V x1 = some (e, V1)) : EvW G l yL_earliestRequested bL_earliestRequested 4 hhL_earliestRequested 8 1 6 [.ref (gB G + 0), vI x1, .ref (gB G + 154)] (gN G) (hV G V) (QW G (oGI G e) (cod [eI] e) V1) := by
  refine evw_of hlt (by decide +kernel) (Nat.le_of_ble_eq_true rfl) (av1 rfl) (fun X hl hx C M hXK => ?_)
  subst hl
  replace C : Cx G X "ChannelScheduleLaw" bL_earliestRequested := C
  show At G X 0 0 0 [(0, .ref (gB G + 0)), (1, vI x1), (2, .ref (gB G + 154))] [] V
  refine r_aload_n C dL_earliestRequested_0 rfl ?_
  refine r_iconst C dL_earliestRequested_1 ?_
  refine r_aload_n C dL_earliestRequested_2 rfl ?_
  refine r_iload_n C dL_earliestRequested_3 rfl ?_
  refine w_callV (As := [vI x1]) (rest := [vI 0, .ref (gB G + 154)]) (tg := tgt1 12) C M hXK dL_earliestRequested_4 lL_101 w5_earliestRequested (rc_main (by omega)) (ev5_earliestRequested C.lt (by omega) hX h) rfl rfl (Nat.le_of_ble_eq_true rfl) (Nat.le_of_ble_eq_true rfl) (Nat.le_of_ble_eq_true rfl) (Nat.le_of_ble_eq_true rfl) (Nat.le_of_ble_eq_true rfl) (fun E q => ?_) (fun E a q => ?_) (fun r q => ?_)
  · subst q
    have m := er_earliestRequested h
    obtain rfl := List.mem_singleton.mp m
    exact hd1 (by omega) (by decide) wcL_28 (by decide +kernel)
  · subst q
    have m := er_earliestRequested h
    obtain rfl := List.mem_singleton.mp m
    refine x_astore_n hx C dL_earliestRequested_12 rfl ?_
    refine r_iconst C dL_earliestRequested_13 ?_
    exact w_ret C M dL_earliestRequested_14 (Nat.le_of_ble_eq_true rfl) (Nat.le_of_ble_eq_true rfl) ⟨by rw [cod_1], rfl, rfl⟩
  · subst q
    refine r_i2l C dL_earliestRequested_7 ?_
    refine v_last hN C dL_earliestRequested_8 (rg_nrm r).1 ?_
    refine r_goto (tgt := 15) C dL_earliestRequested_9 rfl ?_
    refine r_iconst C dL_earliestRequested_15 ?_
    exact w_ret C M dL_earliestRequested_16 (Nat.le_of_ble_eq_true rfl) (Nat.le_of_ble_eq_true rfl) ⟨rfl, rfl, rfl⟩
theorem ew_latestRequested {G : GT} {l : Launch} {V V1 : VV} {e : Except String Int} {x1 : Int} (hlt : l.stackTraces = false) (hN : gN G = 155) (hX : gX G = false) (h : f5_latestRequested V x1 = some (e, V1)) : EvW G l yL_latestRequested bL_latestRequested 4 hhL_latestRequested 8 1 6 [.ref (gB G + 0), vI x1, .ref (gB G + 154)] (gN G) (hV G V) (QW G (oGI G e) (cod [eI] e) V1) := by
  refine evw_of hlt (by decide +kernel) (Nat.le_of_ble_eq_true rfl) (av1 rfl) (fun X hl hx C M hXK => ?_)
  subst hl
  replace C : Cx G X "ChannelScheduleLaw" bL_latestRequested := C
  show At G X 0 0 0 [(0, .ref (gB G + 0)), (1, vI x1), (2, .ref (gB G + 154))] [] V
  refine r_aload_n C dL_latestRequested_0 rfl ?_
  refine r_iconst C dL_latestRequested_1 ?_
  refine r_aload_n C dL_latestRequested_2 rfl ?_
  refine r_iload_n C dL_latestRequested_3 rfl ?_
  refine w_callV (As := [vI x1]) (rest := [vI 0, .ref (gB G + 154)]) (tg := tgt1 12) C M hXK dL_latestRequested_4 lL_104 w5_latestRequested (rc_main (by omega)) (ev5_latestRequested C.lt (by omega) hX h) rfl rfl (Nat.le_of_ble_eq_true rfl) (Nat.le_of_ble_eq_true rfl) (Nat.le_of_ble_eq_true rfl) (Nat.le_of_ble_eq_true rfl) (Nat.le_of_ble_eq_true rfl) (fun E q => ?_) (fun E a q => ?_) (fun r q => ?_)
  · subst q
    have m := er_latestRequested h
    obtain rfl := List.mem_singleton.mp m
    exact hd1 (by omega) (by decide) wcL_28 (by decide +kernel)
  · subst q
    have m := er_latestRequested h
    obtain rfl := List.mem_singleton.mp m
    refine x_astore_n hx C dL_latestRequested_12 rfl ?_
    refine r_iconst C dL_latestRequested_13 ?_
    exact w_ret C M dL_latestRequested_14 (Nat.le_of_ble_eq_true rfl) (Nat.le_of_ble_eq_true rfl) ⟨by rw [cod_1], rfl, rfl⟩
  · subst q
    refine r_i2l C dL_latestRequested_7 ?_
    refine v_last hN C dL_latestRequested_8 (rg_nrm r).1 ?_
    refine r_goto (tgt := 15) C dL_latestRequested_9 rfl ?_
    refine r_iconst C dL_latestRequested_15 ?_
    exact w_ret C M dL_latestRequested_16 (Nat.le_of_ble_eq_true rfl) (Nat.le_of_ble_eq_true rfl) ⟨rfl, rfl, rfl⟩
theorem ew_whyNotFeasible {G : GT} {l : Launch} {V V1 : VV} {e : Except String Int} {x1 : Int} (hlt : l.stackTraces = false) (hN : gN G = 155) (hX : gX G = false) (h : f5_whyNotFeasible V x1 = some (e, V1)) : EvW G l yL_whyNotFeasible bL_whyNotFeasible 4 hhL_whyNotFeasible 8 1 6 [.ref (gB G + 0), vI x1, .ref (gB G + 154)] (gN G) (hV G V) (QW G (oGI G e) (cod [eI] e) V1) := by
  refine evw_of hlt (by decide +kernel) (Nat.le_of_ble_eq_true rfl) (av1 rfl) (fun X hl hx C M hXK => ?_)
  subst hl
  replace C : Cx G X "ChannelScheduleLaw" bL_whyNotFeasible := C
  show At G X 0 0 0 [(0, .ref (gB G + 0)), (1, vI x1), (2, .ref (gB G + 154))] [] V
  refine r_aload_n C dL_whyNotFeasible_0 rfl ?_
  refine r_iconst C dL_whyNotFeasible_1 ?_
  refine r_aload_n C dL_whyNotFeasible_2 rfl ?_
  refine r_iload_n C dL_whyNotFeasible_3 rfl ?_
  refine w_callV (As := [vI x1]) (rest := [vI 0, .ref (gB G + 154)]) (tg := tgt1 12) C M hXK dL_whyNotFeasible_4 lL_107 w5_whyNotFeasible (rc_main (by omega)) (ev5_whyNotFeasible C.lt (by omega) hX h) rfl rfl (Nat.le_of_ble_eq_true rfl) (Nat.le_of_ble_eq_true rfl) (Nat.le_of_ble_eq_true rfl) (Nat.le_of_ble_eq_true rfl) (Nat.le_of_ble_eq_true rfl) (fun E q => ?_) (fun E a q => ?_) (fun r q => ?_)
  · subst q
    have m := er_whyNotFeasible h
    obtain rfl := List.mem_singleton.mp m
    exact hd1 (by omega) (by decide) wcL_28 (by decide +kernel)
  · subst q
    have m := er_whyNotFeasible h
    obtain rfl := List.mem_singleton.mp m
    refine x_astore_n hx C dL_whyNotFeasible_12 rfl ?_
    refine r_iconst C dL_whyNotFeasible_13 ?_
    exact w_ret C M dL_whyNotFeasible_14 (Nat.le_of_ble_eq_true rfl) (Nat.le_of_ble_eq_true rfl) ⟨by rw [cod_1], rfl, rfl⟩
  · subst q
    refine r_i2l C dL_whyNotFeasible_7 ?_
    refine v_last hN C dL_whyNotFeasible_8 (rg_nrm r).1 ?_
    refine r_goto (tgt := 15) C dL_whyNotFeasible_9 rfl ?_
    refine r_iconst C dL_whyNotFeasible_15 ?_
    exact w_ret C M dL_whyNotFeasible_16 (Nat.le_of_ble_eq_true rfl) (Nat.le_of_ble_eq_true rfl) ⟨rfl, rfl, rfl⟩
theorem ew_isSelected {G : GT} {l : Launch} {V V1 : VV} {e : Except String Int} {x1 : Int} (hlt : l.stackTraces = false) (hN : gN G = 155) (hX : gX G = false) (h : f5_isSelected V x1 = some (e, V1)) : EvW G l yL_isSelected bL_isSelected 4 hhL_isSelected 8 1 6 [.ref (gB G + 0), vI x1, .ref (gB G + 154)] (gN G) (hV G V) (QW G (oGZ G e) (cod [eI] e) V1) := by
  refine evw_of hlt (by decide +kernel) (Nat.le_of_ble_eq_true rfl) (av1 rfl) (fun X hl hx C M hXK => ?_)
  subst hl
  replace C : Cx G X "ChannelScheduleLaw" bL_isSelected := C
  show At G X 0 0 0 [(0, .ref (gB G + 0)), (1, vI x1), (2, .ref (gB G + 154))] [] V
  refine r_aload_n C dL_isSelected_0 rfl ?_
  refine r_iconst C dL_isSelected_1 ?_
  refine r_aload_n C dL_isSelected_2 rfl ?_
  refine r_iload_n C dL_isSelected_3 rfl ?_
  refine w_callV (As := [vI x1]) (rest := [vI 0, .ref (gB G + 154)]) (tg := tgt1 19) C M hXK dL_isSelected_4 lL_110 w5_isSelected (rc_main (by omega)) (ev5_isSelected C.lt (by omega) hX h) rfl rfl (Nat.le_of_ble_eq_true rfl) (Nat.le_of_ble_eq_true rfl) (Nat.le_of_ble_eq_true rfl) (Nat.le_of_ble_eq_true rfl) (Nat.le_of_ble_eq_true rfl) (fun E q => ?_) (fun E a q => ?_) (fun r q => ?_)
  · subst q
    have m := er_isSelected h
    obtain rfl := List.mem_singleton.mp m
    exact hd1 (by omega) (by decide) wcL_28 (by decide +kernel)
  · subst q
    have m := er_isSelected h
    obtain rfl := List.mem_singleton.mp m
    refine x_astore_n hx C dL_isSelected_19 rfl ?_
    refine r_iconst C dL_isSelected_20 ?_
    exact w_ret C M dL_isSelected_21 (Nat.le_of_ble_eq_true rfl) (Nat.le_of_ble_eq_true rfl) ⟨by rw [cod_1], rfl, rfl⟩
  · subst q
    refine x_ifeq (tgt := 14) C dL_isSelected_7 rfl (fun c => ?_) (fun c => ?_)
    · refine r_lconst (z := 0) C dL_isSelected_14 rfl ?_
      refine v_last hN C dL_isSelected_15 (by omega) ?_
      refine r_goto (tgt := 22) C dL_isSelected_16 rfl ?_
      refine r_iconst C dL_isSelected_22 ?_
      exact w_ret C M dL_isSelected_23 (Nat.le_of_ble_eq_true rfl) (Nat.le_of_ble_eq_true rfl) ⟨rfl, rfl, by show hV (gO G 0) V1 = hV (gO G (if nrm r = 0 then 0 else 1)) V1; rw [if_pos c]⟩
    · refine r_lconst (z := 1) C dL_isSelected_10 rfl ?_
      refine r_goto (tgt := 15) C dL_isSelected_11 rfl ?_
      refine v_last hN C dL_isSelected_15 (by omega) ?_
      refine r_goto (tgt := 22) C dL_isSelected_16 rfl ?_
      refine r_iconst C dL_isSelected_22 ?_
      exact w_ret C M dL_isSelected_23 (Nat.le_of_ble_eq_true rfl) (Nat.le_of_ble_eq_true rfl) ⟨rfl, rfl, by show hV (gO G 1) V1 = hV (gO G (if nrm r = 0 then 0 else 1)) V1; rw [if_neg c]⟩
theorem ew_servedWithout {G : GT} {l : Launch} {V V1 : VV} {e : Except String Int} {x1 : Int} (hlt : l.stackTraces = false) (hN : gN G = 155) (hX : gX G = false) (h : f5_servedWithout V x1 = some (e, V1)) : EvW G l yL_servedWithout bL_servedWithout 4 hhL_servedWithout 8 1 6 [.ref (gB G + 0), vI x1, .ref (gB G + 154)] (gN G) (hV G V) (QW G (oGI G e) (cod [eI] e) V1) := by
  refine evw_of hlt (by decide +kernel) (Nat.le_of_ble_eq_true rfl) (av1 rfl) (fun X hl hx C M hXK => ?_)
  subst hl
  replace C : Cx G X "ChannelScheduleLaw" bL_servedWithout := C
  show At G X 0 0 0 [(0, .ref (gB G + 0)), (1, vI x1), (2, .ref (gB G + 154))] [] V
  refine r_aload_n C dL_servedWithout_0 rfl ?_
  refine r_iconst C dL_servedWithout_1 ?_
  refine r_aload_n C dL_servedWithout_2 rfl ?_
  refine r_iload_n C dL_servedWithout_3 rfl ?_
  refine w_callV (As := [vI x1]) (rest := [vI 0, .ref (gB G + 154)]) (tg := tgt1 12) C M hXK dL_servedWithout_4 lL_113 w5_servedWithout (rc_main (by omega)) (ev5_servedWithout C.lt (by omega) hX h) rfl rfl (Nat.le_of_ble_eq_true rfl) (Nat.le_of_ble_eq_true rfl) (Nat.le_of_ble_eq_true rfl) (Nat.le_of_ble_eq_true rfl) (Nat.le_of_ble_eq_true rfl) (fun E q => ?_) (fun E a q => ?_) (fun r q => ?_)
  · subst q
    have m := er_servedWithout h
    obtain rfl := List.mem_singleton.mp m
    exact hd1 (by omega) (by decide) wcL_28 (by decide +kernel)
  · subst q
    have m := er_servedWithout h
    obtain rfl := List.mem_singleton.mp m
    refine x_astore_n hx C dL_servedWithout_12 rfl ?_
    refine r_iconst C dL_servedWithout_13 ?_
    exact w_ret C M dL_servedWithout_14 (Nat.le_of_ble_eq_true rfl) (Nat.le_of_ble_eq_true rfl) ⟨by rw [cod_1], rfl, rfl⟩
  · subst q
    refine r_i2l C dL_servedWithout_7 ?_
    refine v_last hN C dL_servedWithout_8 (rg_nrm r).1 ?_
    refine r_goto (tgt := 15) C dL_servedWithout_9 rfl ?_
    refine r_iconst C dL_servedWithout_15 ?_
    exact w_ret C M dL_servedWithout_16 (Nat.le_of_ble_eq_true rfl) (Nat.le_of_ble_eq_true rfl) ⟨rfl, rfl, rfl⟩
theorem ew_feasibleStart {G : GT} {l : Launch} {V V1 : VV} {e : Except String Int} {x1 : Int} (hlt : l.stackTraces = false) (hN : gN G = 155) (hX : gX G = false) (h : f5_feasibleStart V x1 = some (e, V1)) : EvW G l yL_feasibleStart bL_feasibleStart 4 hhL_feasibleStart 8 1 6 [.ref (gB G + 0), vI x1, .ref (gB G + 154)] (gN G) (hV G V) (QW G (oGI G e) (cod [eI] e) V1) := by
  refine evw_of hlt (by decide +kernel) (Nat.le_of_ble_eq_true rfl) (av1 rfl) (fun X hl hx C M hXK => ?_)
  subst hl
  replace C : Cx G X "ChannelScheduleLaw" bL_feasibleStart := C
  show At G X 0 0 0 [(0, .ref (gB G + 0)), (1, vI x1), (2, .ref (gB G + 154))] [] V
  refine r_aload_n C dL_feasibleStart_0 rfl ?_
  refine r_iconst C dL_feasibleStart_1 ?_
  refine r_aload_n C dL_feasibleStart_2 rfl ?_
  refine r_iload_n C dL_feasibleStart_3 rfl ?_
  refine w_callV (As := [vI x1]) (rest := [vI 0, .ref (gB G + 154)]) (tg := tgt1 12) C M hXK dL_feasibleStart_4 lL_116 w5_feasibleStart (rc_main (by omega)) (ev5_feasibleStart C.lt (by omega) hX h) rfl rfl (Nat.le_of_ble_eq_true rfl) (Nat.le_of_ble_eq_true rfl) (Nat.le_of_ble_eq_true rfl) (Nat.le_of_ble_eq_true rfl) (Nat.le_of_ble_eq_true rfl) (fun E q => ?_) (fun E a q => ?_) (fun r q => ?_)
  · subst q
    have m := er_feasibleStart h
    obtain rfl := List.mem_singleton.mp m
    exact hd1 (by omega) (by decide) wcL_28 (by decide +kernel)
  · subst q
    have m := er_feasibleStart h
    obtain rfl := List.mem_singleton.mp m
    refine x_astore_n hx C dL_feasibleStart_12 rfl ?_
    refine r_iconst C dL_feasibleStart_13 ?_
    exact w_ret C M dL_feasibleStart_14 (Nat.le_of_ble_eq_true rfl) (Nat.le_of_ble_eq_true rfl) ⟨by rw [cod_1], rfl, rfl⟩
  · subst q
    refine r_i2l C dL_feasibleStart_7 ?_
    refine v_last hN C dL_feasibleStart_8 (rg_nrm r).1 ?_
    refine r_goto (tgt := 15) C dL_feasibleStart_9 rfl ?_
    refine r_iconst C dL_feasibleStart_15 ?_
    exact w_ret C M dL_feasibleStart_16 (Nat.le_of_ble_eq_true rfl) (Nat.le_of_ble_eq_true rfl) ⟨rfl, rfl, rfl⟩
theorem ew_book {G : GT} {l : Launch} {V V1 : VV} {e : Except String Int} {x1 : Int} {x2 : Int} {x3 : Int} (hlt : l.stackTraces = false) (hN : gN G = 155) (hX : gX G = false) (h : f5_book V x1 x2 x3 = some (e, V1)) : EvW G l yL_book bL_book 6 hhL_book 9 3 18 [.ref (gB G + 0), vI x1, vI x2, vI x3, .ref (gB G + 154)] (gN G) (hV G V) (QW G (oGI G e) (cod [eI, eA, eS] e) V1) := by
  refine evw_of hlt (by decide +kernel) (Nat.le_of_ble_eq_true rfl) (av1 rfl) (fun X hl hx C M hXK => ?_)
  subst hl
  replace C : Cx G X "ChannelScheduleLaw" bL_book := C
  show At G X 0 0 0 [(0, .ref (gB G + 0)), (1, vI x1), (2, vI x2), (3, vI x3), (4, .ref (gB G + 154))] [] V
  refine r_aload C dL_book_0 rfl ?_
  refine r_iconst C dL_book_2 ?_
  refine r_aload_n C dL_book_3 rfl ?_
  refine r_iload_n C dL_book_4 rfl ?_
  refine r_iload_n C dL_book_5 rfl ?_
  refine r_iload_n C dL_book_6 rfl ?_
  refine w_callV (As := [vI x1, vI x2, vI x3]) (rest := [vI 0, .ref (gB G + 154)]) (tg := tgt3 eI eA 15 19 23) C M hXK dL_book_7 lL_119 w5_book (rc_main (by omega)) (ev5_book C.lt (by omega) hX h) rfl rfl (Nat.le_of_ble_eq_true rfl) (Nat.le_of_ble_eq_true rfl) (Nat.le_of_ble_eq_true rfl) (Nat.le_of_ble_eq_true rfl) (Nat.le_of_ble_eq_true rfl) (fun E q => ?_) (fun E a q => ?_) (fun r q => ?_)
  · subst q
    have m := er_book h
    rcases List.mem_cons.mp m with m | m
    · subst m
      rw [tgt3_1]
      exact hd1 (by omega) (by decide) wcL_28 (by decide +kernel)
    · rcases List.mem_cons.mp m with m | m
      · subst m
        rw [tgt3_2 (Ne.symm eIA)]
        exact hd2 (by omega) (by decide) wcL_19 (by decide +kernel) (by decide) wcL_28 (by decide +kernel)
      · obtain rfl := List.mem_singleton.mp m
        rw [tgt3_3 (Ne.symm eIS) (Ne.symm eAS)]
        exact hd3 (by omega) (by decide) wcL_13 (by decide +kernel) (by decide) wcL_28 (by decide +kernel) (by decide) wcL_19 (by decide +kernel)
  · subst q
    have m := er_book h
    rcases List.mem_cons.mp m with m | m
    · subst m
      rw [tgt3_1]
      refine x_astore hx C dL_book_15 rfl ?_
      refine r_iconst C dL_book_17 ?_
      exact w_ret C M dL_book_18 (Nat.le_of_ble_eq_true rfl) (Nat.le_of_ble_eq_true rfl) ⟨by rw [cod_1], rfl, rfl⟩
    · rcases List.mem_cons.mp m with m | m
      · subst m
        rw [tgt3_2 (Ne.symm eIA)]
        refine x_astore hx C dL_book_19 rfl ?_
        refine r_iconst C dL_book_21 ?_
        exact w_ret C M dL_book_22 (Nat.le_of_ble_eq_true rfl) (Nat.le_of_ble_eq_true rfl) ⟨by rw [cod_2 eIA], rfl, rfl⟩
      · obtain rfl := List.mem_singleton.mp m
        rw [tgt3_3 (Ne.symm eIS) (Ne.symm eAS)]
        refine x_astore hx C dL_book_23 rfl ?_
        refine r_iconst C dL_book_25 ?_
        exact w_ret C M dL_book_26 (Nat.le_of_ble_eq_true rfl) (Nat.le_of_ble_eq_true rfl) ⟨by rw [cod_3 eIS eAS], rfl, rfl⟩
  · subst q
    refine r_i2l C dL_book_10 ?_
    refine v_last hN C dL_book_11 (rg_nrm r).1 ?_
    refine r_goto (tgt := 27) C dL_book_12 rfl ?_
    refine r_iconst C dL_book_27 ?_
    exact w_ret C M dL_book_28 (Nat.le_of_ble_eq_true rfl) (Nat.le_of_ble_eq_true rfl) ⟨rfl, rfl, rfl⟩
theorem ew_request {G : GT} {l : Launch} {V V1 : VV} {e : Except String Int} {x1 : Int} {x2 : Int} {x3 : Int} {x4 : Int} (hlt : l.stackTraces = false) (hN : gN G = 155) (hX : gX G = false) (h : f5_request V x1 x2 x3 x4 = some (e, V1)) : EvW G l yL_request bL_request 7 hhL_request 9 3 18 [.ref (gB G + 0), vI x1, vI x2, vI x3, vI x4, .ref (gB G + 154)] (gN G) (hV G V) (QW G (oGI G e) (cod [eI, eA, eS] e) V1) := by
  refine evw_of hlt (by decide +kernel) (Nat.le_of_ble_eq_true rfl) (av1 rfl) (fun X hl hx C M hXK => ?_)
  subst hl
  replace C : Cx G X "ChannelScheduleLaw" bL_request := C
  show At G X 0 0 0 [(0, .ref (gB G + 0)), (1, vI x1), (2, vI x2), (3, vI x3), (4, vI x4), (5, .ref (gB G + 154))] [] V
  refine r_aload C dL_request_0 rfl ?_
  refine r_iconst C dL_request_2 ?_
  refine r_aload_n C dL_request_3 rfl ?_
  refine r_iload_n C dL_request_4 rfl ?_
  refine r_iload_n C dL_request_5 rfl ?_
  refine r_iload_n C dL_request_6 rfl ?_
  refine r_iload C dL_request_7 rfl ?_
  refine w_callV (As := [vI x1, vI x2, vI x3, vI x4]) (rest := [vI 0, .ref (gB G + 154)]) (tg := tgt3 eI eA 17 21 25) C M hXK dL_request_9 lL_122 w5_request (rc_main (by omega)) (ev5_request C.lt (by omega) hX h) rfl rfl (Nat.le_of_ble_eq_true rfl) (Nat.le_of_ble_eq_true rfl) (Nat.le_of_ble_eq_true rfl) (Nat.le_of_ble_eq_true rfl) (Nat.le_of_ble_eq_true rfl) (fun E q => ?_) (fun E a q => ?_) (fun r q => ?_)
  · subst q
    have m := er_request h
    rcases List.mem_cons.mp m with m | m
    · subst m
      rw [tgt3_1]
      exact hd1 (by omega) (by decide) wcL_28 (by decide +kernel)
    · rcases List.mem_cons.mp m with m | m
      · subst m
        rw [tgt3_2 (Ne.symm eIA)]
        exact hd2 (by omega) (by decide) wcL_19 (by decide +kernel) (by decide) wcL_28 (by decide +kernel)
      · obtain rfl := List.mem_singleton.mp m
        rw [tgt3_3 (Ne.symm eIS) (Ne.symm eAS)]
        exact hd3 (by omega) (by decide) wcL_13 (by decide +kernel) (by decide) wcL_28 (by decide +kernel) (by decide) wcL_19 (by decide +kernel)
  · subst q
    have m := er_request h
    rcases List.mem_cons.mp m with m | m
    · subst m
      rw [tgt3_1]
      refine x_astore hx C dL_request_17 rfl ?_
      refine r_iconst C dL_request_19 ?_
      exact w_ret C M dL_request_20 (Nat.le_of_ble_eq_true rfl) (Nat.le_of_ble_eq_true rfl) ⟨by rw [cod_1], rfl, rfl⟩
    · rcases List.mem_cons.mp m with m | m
      · subst m
        rw [tgt3_2 (Ne.symm eIA)]
        refine x_astore hx C dL_request_21 rfl ?_
        refine r_iconst C dL_request_23 ?_
        exact w_ret C M dL_request_24 (Nat.le_of_ble_eq_true rfl) (Nat.le_of_ble_eq_true rfl) ⟨by rw [cod_2 eIA], rfl, rfl⟩
      · obtain rfl := List.mem_singleton.mp m
        rw [tgt3_3 (Ne.symm eIS) (Ne.symm eAS)]
        refine x_astore hx C dL_request_25 rfl ?_
        refine r_iconst C dL_request_27 ?_
        exact w_ret C M dL_request_28 (Nat.le_of_ble_eq_true rfl) (Nat.le_of_ble_eq_true rfl) ⟨by rw [cod_3 eIS eAS], rfl, rfl⟩
  · subst q
    refine r_i2l C dL_request_12 ?_
    refine v_last hN C dL_request_13 (rg_nrm r).1 ?_
    refine r_goto (tgt := 29) C dL_request_14 rfl ?_
    refine r_iconst C dL_request_29 ?_
    exact w_ret C M dL_request_30 (Nat.le_of_ble_eq_true rfl) (Nat.le_of_ble_eq_true rfl) ⟨rfl, rfl, rfl⟩
theorem ew_cancel {G : GT} {l : Launch} {V V1 : VV} {e : Except String Int} {x1 : Int} (hlt : l.stackTraces = false) (hN : gN G = 155) (hX : gX G = false) (h : f5_cancel V x1 = some (e, V1)) : EvW G l yL_cancel bL_cancel 4 hhL_cancel 9 3 18 [.ref (gB G + 0), vI x1, .ref (gB G + 154)] (gN G) (hV G V) (QW G (oGI G e) (cod [eI, eS] e) V1) := by
  refine evw_of hlt (by decide +kernel) (Nat.le_of_ble_eq_true rfl) (av1 rfl) (fun X hl hx C M hXK => ?_)
  subst hl
  replace C : Cx G X "ChannelScheduleLaw" bL_cancel := C
  show At G X 0 0 0 [(0, .ref (gB G + 0)), (1, vI x1), (2, .ref (gB G + 154))] [] V
  refine r_aload_n C dL_cancel_0 rfl ?_
  refine r_iconst C dL_cancel_1 ?_
  refine r_aload_n C dL_cancel_2 rfl ?_
  refine r_iload_n C dL_cancel_3 rfl ?_
  refine w_callV (As := [vI x1]) (rest := [vI 0, .ref (gB G + 154)]) (tg := tgt2 eI 12 15) C M hXK dL_cancel_4 lL_126 w5_cancel (rc_main (by omega)) (ev5_cancel C.lt (by omega) hX h) rfl rfl (Nat.le_of_ble_eq_true rfl) (Nat.le_of_ble_eq_true rfl) (Nat.le_of_ble_eq_true rfl) (Nat.le_of_ble_eq_true rfl) (Nat.le_of_ble_eq_true rfl) (fun E q => ?_) (fun E a q => ?_) (fun r q => ?_)
  · subst q
    have m := er_cancel h
    rcases List.mem_cons.mp m with m | m
    · subst m
      rw [tgt2_1]
      exact hd1 (by omega) (by decide) wcL_28 (by decide +kernel)
    · obtain rfl := List.mem_singleton.mp m
      rw [tgt2_2 (Ne.symm eIS)]
      exact hd2 (by omega) (by decide) wcL_13 (by decide +kernel) (by decide) wcL_28 (by decide +kernel)
  · subst q
    have m := er_cancel h
    rcases List.mem_cons.mp m with m | m
    · subst m
      rw [tgt2_1]
      refine x_astore_n hx C dL_cancel_12 rfl ?_
      refine r_iconst C dL_cancel_13 ?_
      exact w_ret C M dL_cancel_14 (Nat.le_of_ble_eq_true rfl) (Nat.le_of_ble_eq_true rfl) ⟨by rw [cod_1], rfl, rfl⟩
    · obtain rfl := List.mem_singleton.mp m
      rw [tgt2_2 (Ne.symm eIS)]
      refine x_astore_n hx C dL_cancel_15 rfl ?_
      refine r_iconst C dL_cancel_16 ?_
      exact w_ret C M dL_cancel_17 (Nat.le_of_ble_eq_true rfl) (Nat.le_of_ble_eq_true rfl) ⟨by rw [cod_2 eIS], rfl, rfl⟩
  · subst q
    refine r_i2l C dL_cancel_7 ?_
    refine v_last hN C dL_cancel_8 (rg_nrm r).1 ?_
    refine r_goto (tgt := 18) C dL_cancel_9 rfl ?_
    refine r_iconst C dL_cancel_18 ?_
    exact w_ret C M dL_cancel_19 (Nat.le_of_ble_eq_true rfl) (Nat.le_of_ble_eq_true rfl) ⟨rfl, rfl, rfl⟩
theorem ew_moveBooking {G : GT} {l : Launch} {V V1 : VV} {e : Except String Int} {x1 : Int} {x2 : Int} (hlt : l.stackTraces = false) (hN : gN G = 155) (hX : gX G = false) (h : f5_moveBooking V x1 x2 = some (e, V1)) : EvW G l yL_moveBooking bL_moveBooking 5 hhL_moveBooking 9 3 18 [.ref (gB G + 0), vI x1, vI x2, .ref (gB G + 154)] (gN G) (hV G V) (QW G (oGI G e) (cod [eI, eA, eS] e) V1) := by
  refine evw_of hlt (by decide +kernel) (Nat.le_of_ble_eq_true rfl) (av1 rfl) (fun X hl hx C M hXK => ?_)
  subst hl
  replace C : Cx G X "ChannelScheduleLaw" bL_moveBooking := C
  show At G X 0 0 0 [(0, .ref (gB G + 0)), (1, vI x1), (2, vI x2), (3, .ref (gB G + 154))] [] V
  refine r_aload_n C dL_moveBooking_0 rfl ?_
  refine r_iconst C dL_moveBooking_1 ?_
  refine r_aload_n C dL_moveBooking_2 rfl ?_
  refine r_iload_n C dL_moveBooking_3 rfl ?_
  refine r_iload_n C dL_moveBooking_4 rfl ?_
  refine w_callV (As := [vI x1, vI x2]) (rest := [vI 0, .ref (gB G + 154)]) (tg := tgt3 eI eA 13 17 21) C M hXK dL_moveBooking_5 lL_129 w5_moveBooking (rc_main (by omega)) (ev5_moveBooking C.lt (by omega) hX h) rfl rfl (Nat.le_of_ble_eq_true rfl) (Nat.le_of_ble_eq_true rfl) (Nat.le_of_ble_eq_true rfl) (Nat.le_of_ble_eq_true rfl) (Nat.le_of_ble_eq_true rfl) (fun E q => ?_) (fun E a q => ?_) (fun r q => ?_)
  · subst q
    have m := er_moveBooking h
    rcases List.mem_cons.mp m with m | m
    · subst m
      rw [tgt3_1]
      exact hd1 (by omega) (by decide) wcL_28 (by decide +kernel)
    · rcases List.mem_cons.mp m with m | m
      · subst m
        rw [tgt3_2 (Ne.symm eIA)]
        exact hd2 (by omega) (by decide) wcL_19 (by decide +kernel) (by decide) wcL_28 (by decide +kernel)
      · obtain rfl := List.mem_singleton.mp m
        rw [tgt3_3 (Ne.symm eIS) (Ne.symm eAS)]
        exact hd3 (by omega) (by decide) wcL_13 (by decide +kernel) (by decide) wcL_28 (by decide +kernel) (by decide) wcL_19 (by decide +kernel)
  · subst q
    have m := er_moveBooking h
    rcases List.mem_cons.mp m with m | m
    · subst m
      rw [tgt3_1]
      refine x_astore hx C dL_moveBooking_13 rfl ?_
      refine r_iconst C dL_moveBooking_15 ?_
      exact w_ret C M dL_moveBooking_16 (Nat.le_of_ble_eq_true rfl) (Nat.le_of_ble_eq_true rfl) ⟨by rw [cod_1], rfl, rfl⟩
    · rcases List.mem_cons.mp m with m | m
      · subst m
        rw [tgt3_2 (Ne.symm eIA)]
        refine x_astore hx C dL_moveBooking_17 rfl ?_
        refine r_iconst C dL_moveBooking_19 ?_
        exact w_ret C M dL_moveBooking_20 (Nat.le_of_ble_eq_true rfl) (Nat.le_of_ble_eq_true rfl) ⟨by rw [cod_2 eIA], rfl, rfl⟩
      · obtain rfl := List.mem_singleton.mp m
        rw [tgt3_3 (Ne.symm eIS) (Ne.symm eAS)]
        refine x_astore hx C dL_moveBooking_21 rfl ?_
        refine r_iconst C dL_moveBooking_23 ?_
        exact w_ret C M dL_moveBooking_24 (Nat.le_of_ble_eq_true rfl) (Nat.le_of_ble_eq_true rfl) ⟨by rw [cod_3 eIS eAS], rfl, rfl⟩
  · subst q
    refine r_i2l C dL_moveBooking_8 ?_
    refine v_last hN C dL_moveBooking_9 (rg_nrm r).1 ?_
    refine r_goto (tgt := 25) C dL_moveBooking_10 rfl ?_
    refine r_iconst C dL_moveBooking_25 ?_
    exact w_ret C M dL_moveBooking_26 (Nat.le_of_ble_eq_true rfl) (Nat.le_of_ble_eq_true rfl) ⟨rfl, rfl, rfl⟩
theorem ew_withdraw {G : GT} {l : Launch} {V V1 : VV} {e : Except String Int} {x1 : Int} (hlt : l.stackTraces = false) (hN : gN G = 155) (hX : gX G = false) (h : f5_withdraw V x1 = some (e, V1)) : EvW G l yL_withdraw bL_withdraw 4 hhL_withdraw 8 1 6 [.ref (gB G + 0), vI x1, .ref (gB G + 154)] (gN G) (hV G V) (QW G (oGI G e) (cod [eI] e) V1) := by
  refine evw_of hlt (by decide +kernel) (Nat.le_of_ble_eq_true rfl) (av1 rfl) (fun X hl hx C M hXK => ?_)
  subst hl
  replace C : Cx G X "ChannelScheduleLaw" bL_withdraw := C
  show At G X 0 0 0 [(0, .ref (gB G + 0)), (1, vI x1), (2, .ref (gB G + 154))] [] V
  refine r_aload_n C dL_withdraw_0 rfl ?_
  refine r_iconst C dL_withdraw_1 ?_
  refine r_aload_n C dL_withdraw_2 rfl ?_
  refine r_iload_n C dL_withdraw_3 rfl ?_
  refine w_callV (As := [vI x1]) (rest := [vI 0, .ref (gB G + 154)]) (tg := tgt1 12) C M hXK dL_withdraw_4 lL_132 w5_withdraw (rc_main (by omega)) (ev5_withdraw C.lt (by omega) hX h) rfl rfl (Nat.le_of_ble_eq_true rfl) (Nat.le_of_ble_eq_true rfl) (Nat.le_of_ble_eq_true rfl) (Nat.le_of_ble_eq_true rfl) (Nat.le_of_ble_eq_true rfl) (fun E q => ?_) (fun E a q => ?_) (fun r q => ?_)
  · subst q
    have m := er_withdraw h
    obtain rfl := List.mem_singleton.mp m
    exact hd1 (by omega) (by decide) wcL_28 (by decide +kernel)
  · subst q
    have m := er_withdraw h
    obtain rfl := List.mem_singleton.mp m
    refine x_astore_n hx C dL_withdraw_12 rfl ?_
    refine r_iconst C dL_withdraw_13 ?_
    exact w_ret C M dL_withdraw_14 (Nat.le_of_ble_eq_true rfl) (Nat.le_of_ble_eq_true rfl) ⟨by rw [cod_1], rfl, rfl⟩
  · subst q
    refine r_i2l C dL_withdraw_7 ?_
    refine v_last hN C dL_withdraw_8 (rg_nrm r).1 ?_
    refine r_goto (tgt := 15) C dL_withdraw_9 rfl ?_
    refine r_iconst C dL_withdraw_15 ?_
    exact w_ret C M dL_withdraw_16 (Nat.le_of_ble_eq_true rfl) (Nat.le_of_ble_eq_true rfl) ⟨rfl, rfl, rfl⟩
theorem ew_setThickness {G : GT} {l : Launch} {V V1 : VV} {e : Except String Int} {x1 : Int} (hlt : l.stackTraces = false) (hN : gN G = 155) (hX : gX G = false) (h : f5_setThickness V x1 = some (e, V1)) : EvW G l yL_setThickness bL_setThickness 4 hhL_setThickness 8 1 6 [.ref (gB G + 0), vI x1, .ref (gB G + 154)] (gN G) (hV G V) (QW G (oGI G e) (cod [eA] e) V1) := by
  refine evw_of hlt (by decide +kernel) (Nat.le_of_ble_eq_true rfl) (av1 rfl) (fun X hl hx C M hXK => ?_)
  subst hl
  replace C : Cx G X "ChannelScheduleLaw" bL_setThickness := C
  show At G X 0 0 0 [(0, .ref (gB G + 0)), (1, vI x1), (2, .ref (gB G + 154))] [] V
  refine r_aload_n C dL_setThickness_0 rfl ?_
  refine r_iconst C dL_setThickness_1 ?_
  refine r_aload_n C dL_setThickness_2 rfl ?_
  refine r_iload_n C dL_setThickness_3 rfl ?_
  refine w_callV (As := [vI x1]) (rest := [vI 0, .ref (gB G + 154)]) (tg := tgt1 12) C M hXK dL_setThickness_4 lL_135 w5_setThickness (rc_main (by omega)) (ev5_setThickness C.lt (by omega) hX h) rfl rfl (Nat.le_of_ble_eq_true rfl) (Nat.le_of_ble_eq_true rfl) (Nat.le_of_ble_eq_true rfl) (Nat.le_of_ble_eq_true rfl) (Nat.le_of_ble_eq_true rfl) (fun E q => ?_) (fun E a q => ?_) (fun r q => ?_)
  · subst q
    have m := er_setThickness h
    obtain rfl := List.mem_singleton.mp m
    exact hd1 (by omega) (by decide) wcL_19 (by decide +kernel)
  · subst q
    have m := er_setThickness h
    obtain rfl := List.mem_singleton.mp m
    refine x_astore_n hx C dL_setThickness_12 rfl ?_
    refine r_iconst C dL_setThickness_13 ?_
    exact w_ret C M dL_setThickness_14 (Nat.le_of_ble_eq_true rfl) (Nat.le_of_ble_eq_true rfl) ⟨by rw [cod_1], rfl, rfl⟩
  · subst q
    refine r_i2l C dL_setThickness_7 ?_
    refine v_last hN C dL_setThickness_8 (rg_nrm r).1 ?_
    refine r_goto (tgt := 15) C dL_setThickness_9 rfl ?_
    refine r_iconst C dL_setThickness_15 ?_
    exact w_ret C M dL_setThickness_16 (Nat.le_of_ble_eq_true rfl) (Nat.le_of_ble_eq_true rfl) ⟨rfl, rfl, rfl⟩
theorem ew_advance {G : GT} {l : Launch} {V V1 : VV} {e : Except String Int} {x1 : Int} (hlt : l.stackTraces = false) (hN : gN G = 155) (hX : gX G = false) (h : f5_advance V x1 = some (e, V1)) : EvW G l yL_advance bL_advance 4 hhL_advance 9 3 18 [.ref (gB G + 0), vI x1, .ref (gB G + 154)] (gN G) (hV G V) (QW G (oGI G e) (cod [eA, eS] e) V1) := by
  refine evw_of hlt (by decide +kernel) (Nat.le_of_ble_eq_true rfl) (av1 rfl) (fun X hl hx C M hXK => ?_)
  subst hl
  replace C : Cx G X "ChannelScheduleLaw" bL_advance := C
  show At G X 0 0 0 [(0, .ref (gB G + 0)), (1, vI x1), (2, .ref (gB G + 154))] [] V
  refine r_aload_n C dL_advance_0 rfl ?_
  refine r_iconst C dL_advance_1 ?_
  refine r_aload_n C dL_advance_2 rfl ?_
  refine r_iload_n C dL_advance_3 rfl ?_
  refine w_callV (As := [vI x1]) (rest := [vI 0, .ref (gB G + 154)]) (tg := tgt2 eA 12 15) C M hXK dL_advance_4 lL_138 w5_advance (rc_main (by omega)) (ev5_advance C.lt (by omega) hX h) rfl rfl (Nat.le_of_ble_eq_true rfl) (Nat.le_of_ble_eq_true rfl) (Nat.le_of_ble_eq_true rfl) (Nat.le_of_ble_eq_true rfl) (Nat.le_of_ble_eq_true rfl) (fun E q => ?_) (fun E a q => ?_) (fun r q => ?_)
  · subst q
    have m := er_advance h
    rcases List.mem_cons.mp m with m | m
    · subst m
      rw [tgt2_1]
      exact hd1 (by omega) (by decide) wcL_19 (by decide +kernel)
    · obtain rfl := List.mem_singleton.mp m
      rw [tgt2_2 (Ne.symm eAS)]
      exact hd2 (by omega) (by decide) wcL_13 (by decide +kernel) (by decide) wcL_19 (by decide +kernel)
  · subst q
    have m := er_advance h
    rcases List.mem_cons.mp m with m | m
    · subst m
      rw [tgt2_1]
      refine x_astore_n hx C dL_advance_12 rfl ?_
      refine r_iconst C dL_advance_13 ?_
      exact w_ret C M dL_advance_14 (Nat.le_of_ble_eq_true rfl) (Nat.le_of_ble_eq_true rfl) ⟨by rw [cod_1], rfl, rfl⟩
    · obtain rfl := List.mem_singleton.mp m
      rw [tgt2_2 (Ne.symm eAS)]
      refine x_astore_n hx C dL_advance_15 rfl ?_
      refine r_iconst C dL_advance_16 ?_
      exact w_ret C M dL_advance_17 (Nat.le_of_ble_eq_true rfl) (Nat.le_of_ble_eq_true rfl) ⟨by rw [cod_2 eAS], rfl, rfl⟩
  · subst q
    refine r_i2l C dL_advance_7 ?_
    refine v_last hN C dL_advance_8 (rg_nrm r).1 ?_
    refine r_goto (tgt := 18) C dL_advance_9 rfl ?_
    refine r_iconst C dL_advance_18 ?_
    exact w_ret C M dL_advance_19 (Nat.le_of_ble_eq_true rfl) (Nat.le_of_ble_eq_true rfl) ⟨rfl, rfl, rfl⟩
theorem ew_runScript {G : GT} {l : Launch} {V V1 : VV} {e : Except String Int} (hlt : l.stackTraces = false) (hN : gN G = 155) (hX : gX G = false) (h : f5_runScript V = some (e, V1)) : EvW G l yL_runScript bL_runScript 3 hhL_runScript 9 1 6 [.ref (gB G + 0), .ref (gB G + 154)] (gN G) (hV G V) (QW G (oGI G e) (cod [eA] e) V1) := by
  refine evw_of hlt (by decide +kernel) (Nat.le_of_ble_eq_true rfl) (av1 rfl) (fun X hl hx C M hXK => ?_)
  subst hl
  replace C : Cx G X "ChannelScheduleLaw" bL_runScript := C
  show At G X 0 0 0 [(0, .ref (gB G + 0)), (1, .ref (gB G + 154))] [] V
  refine r_aload_n C dL_runScript_0 rfl ?_
  refine r_iconst C dL_runScript_1 ?_
  refine r_aload_n C dL_runScript_2 rfl ?_
  refine w_callV (As := []) (rest := [vI 0, .ref (gB G + 154)]) (tg := tgt1 11) C M hXK dL_runScript_3 lL_141 w5_runScript (rc_main (by omega)) (ev5_runScript C.lt (by omega) hX h) rfl rfl (Nat.le_of_ble_eq_true rfl) (Nat.le_of_ble_eq_true rfl) (Nat.le_of_ble_eq_true rfl) (Nat.le_of_ble_eq_true rfl) (Nat.le_of_ble_eq_true rfl) (fun E q => ?_) (fun E a q => ?_) (fun r q => ?_)
  · subst q
    have m := er_runScript h
    obtain rfl := List.mem_singleton.mp m
    exact hd1 (by omega) (by decide) wcL_19 (by decide +kernel)
  · subst q
    have m := er_runScript h
    obtain rfl := List.mem_singleton.mp m
    refine x_astore_n hx C dL_runScript_11 rfl ?_
    refine r_iconst C dL_runScript_12 ?_
    exact w_ret C M dL_runScript_13 (Nat.le_of_ble_eq_true rfl) (Nat.le_of_ble_eq_true rfl) ⟨by rw [cod_1], rfl, rfl⟩
  · subst q
    refine r_i2l C dL_runScript_6 ?_
    refine v_last hN C dL_runScript_7 (rg_nrm r).1 ?_
    refine r_goto (tgt := 14) C dL_runScript_8 rfl ?_
    refine r_iconst C dL_runScript_14 ?_
    exact w_ret C M dL_runScript_15 (Nat.le_of_ble_eq_true rfl) (Nat.le_of_ble_eq_true rfl) ⟨rfl, rfl, rfl⟩
theorem ew_undo {G : GT} {l : Launch} {V V1 : VV} {e : Except String Int} (hlt : l.stackTraces = false) (hN : gN G = 155) (hX : gX G = false) (h : f5_undo V = some (e, V1)) : EvW G l yL_undo bL_undo 3 hhL_undo 8 1 6 [.ref (gB G + 0), .ref (gB G + 154)] (gN G) (hV G V) (QW G (oGI G e) (cod [eS] e) V1) := by
  refine evw_of hlt (by decide +kernel) (Nat.le_of_ble_eq_true rfl) (av1 rfl) (fun X hl hx C M hXK => ?_)
  subst hl
  replace C : Cx G X "ChannelScheduleLaw" bL_undo := C
  show At G X 0 0 0 [(0, .ref (gB G + 0)), (1, .ref (gB G + 154))] [] V
  refine r_aload_n C dL_undo_0 rfl ?_
  refine r_iconst C dL_undo_1 ?_
  refine r_aload_n C dL_undo_2 rfl ?_
  refine w_callV (As := []) (rest := [vI 0, .ref (gB G + 154)]) (tg := tgt1 11) C M hXK dL_undo_3 lL_144 w5_undo (rc_main (by omega)) (ev5_undo C.lt (by omega) hX h) rfl rfl (Nat.le_of_ble_eq_true rfl) (Nat.le_of_ble_eq_true rfl) (Nat.le_of_ble_eq_true rfl) (Nat.le_of_ble_eq_true rfl) (Nat.le_of_ble_eq_true rfl) (fun E q => ?_) (fun E a q => ?_) (fun r q => ?_)
  · subst q
    have m := er_undo h
    obtain rfl := List.mem_singleton.mp m
    exact hd1 (by omega) (by decide) wcL_13 (by decide +kernel)
  · subst q
    have m := er_undo h
    obtain rfl := List.mem_singleton.mp m
    refine x_astore_n hx C dL_undo_11 rfl ?_
    refine r_iconst C dL_undo_12 ?_
    exact w_ret C M dL_undo_13 (Nat.le_of_ble_eq_true rfl) (Nat.le_of_ble_eq_true rfl) ⟨by rw [cod_1], rfl, rfl⟩
  · subst q
    refine r_i2l C dL_undo_6 ?_
    refine v_last hN C dL_undo_7 (rg_nrm r).1 ?_
    refine r_goto (tgt := 14) C dL_undo_8 rfl ?_
    refine r_iconst C dL_undo_14 ?_
    exact w_ret C M dL_undo_15 (Nat.le_of_ble_eq_true rfl) (Nat.le_of_ble_eq_true rfl) ⟨rfl, rfl, rfl⟩
theorem ew_save {G : GT} {l : Launch} {V V1 : VV} {e : Except String Int} {x1 : Int} (hlt : l.stackTraces = false) (hN : gN G = 155) (hX : gX G = false) (h : f5_save V x1 = some (e, V1)) : EvW G l yL_save bL_save 4 hhL_save 8 1 6 [.ref (gB G + 0), vI x1, .ref (gB G + 154)] (gN G) (hV G V) (QW G (oGI G e) (cod [eI] e) V1) := by
  refine evw_of hlt (by decide +kernel) (Nat.le_of_ble_eq_true rfl) (av1 rfl) (fun X hl hx C M hXK => ?_)
  subst hl
  replace C : Cx G X "ChannelScheduleLaw" bL_save := C
  show At G X 0 0 0 [(0, .ref (gB G + 0)), (1, vI x1), (2, .ref (gB G + 154))] [] V
  refine r_aload_n C dL_save_0 rfl ?_
  refine r_iconst C dL_save_1 ?_
  refine r_aload_n C dL_save_2 rfl ?_
  refine r_iload_n C dL_save_3 rfl ?_
  refine w_callV (As := [vI x1]) (rest := [vI 0, .ref (gB G + 154)]) (tg := tgt1 12) C M hXK dL_save_4 lL_147 w5_save (rc_main (by omega)) (ev5_save C.lt (by omega) hX h) rfl rfl (Nat.le_of_ble_eq_true rfl) (Nat.le_of_ble_eq_true rfl) (Nat.le_of_ble_eq_true rfl) (Nat.le_of_ble_eq_true rfl) (Nat.le_of_ble_eq_true rfl) (fun E q => ?_) (fun E a q => ?_) (fun r q => ?_)
  · subst q
    have m := er_save h
    obtain rfl := List.mem_singleton.mp m
    exact hd1 (by omega) (by decide) wcL_28 (by decide +kernel)
  · subst q
    have m := er_save h
    obtain rfl := List.mem_singleton.mp m
    refine x_astore_n hx C dL_save_12 rfl ?_
    refine r_iconst C dL_save_13 ?_
    exact w_ret C M dL_save_14 (Nat.le_of_ble_eq_true rfl) (Nat.le_of_ble_eq_true rfl) ⟨by rw [cod_1], rfl, rfl⟩
  · subst q
    refine r_i2l C dL_save_7 ?_
    refine v_last hN C dL_save_8 (rg_nrm r).1 ?_
    refine r_goto (tgt := 15) C dL_save_9 rfl ?_
    refine r_iconst C dL_save_15 ?_
    exact w_ret C M dL_save_16 (Nat.le_of_ble_eq_true rfl) (Nat.le_of_ble_eq_true rfl) ⟨rfl, rfl, rfl⟩
theorem ew_restore {G : GT} {l : Launch} {V V1 : VV} {e : Except String Int} {x1 : Int} (hlt : l.stackTraces = false) (hN : gN G = 155) (hX : gX G = false) (h : f5_restore V x1 = some (e, V1)) : EvW G l yL_restore bL_restore 4 hhL_restore 8 2 12 [.ref (gB G + 0), vI x1, .ref (gB G + 154)] (gN G) (hV G V) (QW G (oGI G e) (cod [eI, eS] e) V1) := by
  refine evw_of hlt (by decide +kernel) (Nat.le_of_ble_eq_true rfl) (av1 rfl) (fun X hl hx C M hXK => ?_)
  subst hl
  replace C : Cx G X "ChannelScheduleLaw" bL_restore := C
  show At G X 0 0 0 [(0, .ref (gB G + 0)), (1, vI x1), (2, .ref (gB G + 154))] [] V
  refine r_aload_n C dL_restore_0 rfl ?_
  refine r_iconst C dL_restore_1 ?_
  refine r_aload_n C dL_restore_2 rfl ?_
  refine r_iload_n C dL_restore_3 rfl ?_
  refine w_callV (As := [vI x1]) (rest := [vI 0, .ref (gB G + 154)]) (tg := tgt2 eI 12 15) C M hXK dL_restore_4 lL_150 w5_restore (rc_main (by omega)) (ev5_restore C.lt (by omega) hX h) rfl rfl (Nat.le_of_ble_eq_true rfl) (Nat.le_of_ble_eq_true rfl) (Nat.le_of_ble_eq_true rfl) (Nat.le_of_ble_eq_true rfl) (Nat.le_of_ble_eq_true rfl) (fun E q => ?_) (fun E a q => ?_) (fun r q => ?_)
  · subst q
    have m := er_restore h
    rcases List.mem_cons.mp m with m | m
    · subst m
      rw [tgt2_1]
      exact hd1 (by omega) (by decide) wcL_28 (by decide +kernel)
    · obtain rfl := List.mem_singleton.mp m
      rw [tgt2_2 (Ne.symm eIS)]
      exact hd2 (by omega) (by decide) wcL_13 (by decide +kernel) (by decide) wcL_28 (by decide +kernel)
  · subst q
    have m := er_restore h
    rcases List.mem_cons.mp m with m | m
    · subst m
      rw [tgt2_1]
      refine x_astore_n hx C dL_restore_12 rfl ?_
      refine r_iconst C dL_restore_13 ?_
      exact w_ret C M dL_restore_14 (Nat.le_of_ble_eq_true rfl) (Nat.le_of_ble_eq_true rfl) ⟨by rw [cod_1], rfl, rfl⟩
    · obtain rfl := List.mem_singleton.mp m
      rw [tgt2_2 (Ne.symm eIS)]
      refine x_astore_n hx C dL_restore_15 rfl ?_
      refine r_iconst C dL_restore_16 ?_
      exact w_ret C M dL_restore_17 (Nat.le_of_ble_eq_true rfl) (Nat.le_of_ble_eq_true rfl) ⟨by rw [cod_2 eIS], rfl, rfl⟩
  · subst q
    refine r_i2l C dL_restore_7 ?_
    refine v_last hN C dL_restore_8 (rg_nrm r).1 ?_
    refine r_goto (tgt := 18) C dL_restore_9 rfl ?_
    refine r_iconst C dL_restore_18 ?_
    exact w_ret C M dL_restore_19 (Nat.le_of_ble_eq_true rfl) (Nat.le_of_ble_eq_true rfl) ⟨rfl, rfl, rfl⟩
theorem ew_outputByte {G : GT} {l : Launch} {V V1 : VV} {e : Except String Int} {x1 : Int} (hlt : l.stackTraces = false) (hN : gN G = 155) (hX : gX G = false) (h : f5_outputByte V x1 = some (e, V1)) : EvW G l yL_outputByte bL_outputByte 4 hhL_outputByte 8 1 6 [.ref (gB G + 0), vI x1, .ref (gB G + 154)] (gN G) (hV G V) (QW G (oGI G e) (cod [eI] e) V1) := by
  refine evw_of hlt (by decide +kernel) (Nat.le_of_ble_eq_true rfl) (av1 rfl) (fun X hl hx C M hXK => ?_)
  subst hl
  replace C : Cx G X "ChannelScheduleLaw" bL_outputByte := C
  show At G X 0 0 0 [(0, .ref (gB G + 0)), (1, vI x1), (2, .ref (gB G + 154))] [] V
  refine r_aload_n C dL_outputByte_0 rfl ?_
  refine r_iconst C dL_outputByte_1 ?_
  refine r_aload_n C dL_outputByte_2 rfl ?_
  refine r_iload_n C dL_outputByte_3 rfl ?_
  refine w_callV (As := [vI x1]) (rest := [vI 0, .ref (gB G + 154)]) (tg := tgt1 12) C M hXK dL_outputByte_4 lL_153 w5_outputByte (rc_main (by omega)) (ev5_outputByte C.lt (by omega) hX h) rfl rfl (Nat.le_of_ble_eq_true rfl) (Nat.le_of_ble_eq_true rfl) (Nat.le_of_ble_eq_true rfl) (Nat.le_of_ble_eq_true rfl) (Nat.le_of_ble_eq_true rfl) (fun E q => ?_) (fun E a q => ?_) (fun r q => ?_)
  · subst q
    have m := er_outputByte h
    obtain rfl := List.mem_singleton.mp m
    exact hd1 (by omega) (by decide) wcL_28 (by decide +kernel)
  · subst q
    have m := er_outputByte h
    obtain rfl := List.mem_singleton.mp m
    refine x_astore_n hx C dL_outputByte_12 rfl ?_
    refine r_iconst C dL_outputByte_13 ?_
    exact w_ret C M dL_outputByte_14 (Nat.le_of_ble_eq_true rfl) (Nat.le_of_ble_eq_true rfl) ⟨by rw [cod_1], rfl, rfl⟩
  · subst q
    refine r_i2l C dL_outputByte_7 ?_
    refine v_last hN C dL_outputByte_8 (rg_nrm r).1 ?_
    refine r_goto (tgt := 15) C dL_outputByte_9 rfl ?_
    refine r_iconst C dL_outputByte_15 ?_
    exact w_ret C M dL_outputByte_16 (Nat.le_of_ble_eq_true rfl) (Nat.le_of_ble_eq_true rfl) ⟨rfl, rfl, rfl⟩
