/-! walks of the reference, 1 (printed by walk.py) -/
def f6_thrown (V : VV) : Option Int := some (V 148 9)
theorem ev6_thrown {G : GT} {l : Launch} {V : VV} {r : Int} (hlt : l.stackTraces = false) (hN : 154 ≤ gN G) (h : f6_thrown V = some r) : EvX G l y6_thrown b6_thrown 1 (some .int) 0 0 0 [.ref (gB G + 148)] V (.ok (some (vI r))) V := by
  refine ev_w hlt (by decide +kernel) rfl rfl (fun X hl hx C M => ?_)
  subst hl
  replace C : Cx G X "ChannelScheduleModel" b6_thrown := C
  unfold f6_thrown at h
  show At G X 0 0 0 [(0, .ref (gB G + 148))] [] V
  refine r_aload_n C d6_thrown_0 rfl ?_
  refine g_model_9 C d6_thrown_1 f6_1 hN ?_
  exact e_i C M d6_thrown_4 (Nat.le_of_ble_eq_true rfl) (Nat.le_of_ble_eq_true rfl) h
def f6_fails (V : VV) (x1 : Int) (x2 : Int) (x3 : Int) : Option (Int × VV) := bd ((if nrm x1 = 0 then (if nrm x2 = 0 then (if nrm x3 = 0 then some (0) else some (3)) else some (2)) else some (1))) (fun y4 => (if nrm ((up2 V 148 9 y4) 148 9) ≤ 0 then some (0, up2 V 148 9 y4) else some (1, up2 V 148 9 y4)))
theorem ev6_fails {G : GT} {l : Launch} {V : VV} {x1 : Int} {x2 : Int} {x3 : Int} {r : Int} {V1 : VV} (hlt : l.stackTraces = false) (hN : 154 ≤ gN G) (h : f6_fails V x1 x2 x3 = some (r, V1)) : EvX G l y6_fails b6_fails 4 (some .boolean) 0 0 0 [.ref (gB G + 148), vI x1, vI x2, vI x3] V (.ok (some (vI r))) V1 := by
  refine ev_w hlt (by decide +kernel) rfl rfl (fun X hl hx C M => ?_)
  subst hl
  replace C : Cx G X "ChannelScheduleModel" b6_fails := C
  unfold f6_fails at h
  show At G X 0 0 0 [(0, .ref (gB G + 148)), (1, vI x1), (2, vI x2), (3, vI x3)] [] V
  refine r_aload_n C d6_fails_0 rfl ?_
  refine r_iload_n C d6_fails_1 rfl ?_
  obtain ⟨y4, h5, h⟩ := bd_of h
  suffices J6 : At G X 0 0 26 [(0, .ref (gB G + 148))] [vI y4, .ref (gB G + 148)] V by
    replace h := h5
    refine x_ifeq (tgt := 9) C d6_fails_2 rfl (fun c1 => ?_) (fun c1 => ?_)
    · replace h := ite_p c1 h
      refine r_iload_n C d6_fails_9 rfl ?_
      refine x_ifeq (tgt := 17) C d6_fails_10 rfl (fun c2 => ?_) (fun c2 => ?_)
      · replace h := ite_p c2 h
        refine r_iload_n C d6_fails_17 rfl ?_
        refine x_ifeq (tgt := 25) C d6_fails_18 rfl (fun c3 => ?_) (fun c3 => ?_)
        · replace h := ite_p c3 h
          refine r_iconst C d6_fails_25 ?_
          cases h
          exact AtH.sw J6 ⟨rfl, trivial⟩
        · replace h := ite_m c3 h
          refine r_iconst C d6_fails_21 ?_
          refine r_goto (tgt := 26) C d6_fails_22 rfl ?_
          cases h
          exact AtH.sw J6 ⟨rfl, trivial⟩
      · replace h := ite_m c2 h
        refine r_iconst C d6_fails_13 ?_
        refine r_goto (tgt := 26) C d6_fails_14 rfl ?_
        cases h
        exact AtH.sw J6 ⟨rfl, trivial⟩
    · replace h := ite_m c1 h
      refine r_iconst C d6_fails_5 ?_
      refine r_goto (tgt := 26) C d6_fails_6 rfl ?_
      cases h
      exact AtH.sw J6 ⟨rfl, trivial⟩
  refine p_model_9 C d6_fails_26 f6_1 hN ?_
  refine r_aload_n C d6_fails_29 rfl ?_
  refine g_model_9 C d6_fails_30 f6_1 hN ?_
  refine x_ifle (tgt := 40) C d6_fails_33 rfl (fun c7 => ?_) (fun c7 => ?_)
  · replace h := ite_p c7 h
    refine r_iconst C d6_fails_40 ?_
    exact e_zv C M d6_fails_41 (Nat.le_of_ble_eq_true rfl) (Nat.le_of_ble_eq_true rfl) (Or.inl rfl) h
  · replace h := ite_m c7 h
    refine r_iconst C d6_fails_36 ?_
    refine r_goto (tgt := 41) C d6_fails_37 rfl ?_
    exact e_zv C M d6_fails_41 (Nat.le_of_ble_eq_true rfl) (Nat.le_of_ble_eq_true rfl) (Or.inr rfl) h
def f6_in (V : VV) (x0 : Int) (x1 : Int) (x2 : Int) : Option Int := (if nrm x0 < nrm x1 then some 0 else (if nrm x2 < nrm x0 then some 0 else some 1))
theorem ev6_in {G : GT} {l : Launch} {V : VV} {x0 : Int} {x1 : Int} {x2 : Int} {r : Int} (hlt : l.stackTraces = false) (hN : 154 ≤ gN G) (h : f6_in V x0 x1 x2 = some r) : EvX G l y6_in b6_in 3 (some .boolean) 0 0 0 [vI x0, vI x1, vI x2] V (.ok (some (vI r))) V := by
  refine ev_w hlt (by decide +kernel) rfl rfl (fun X hl hx C M => ?_)
  subst hl
  replace C : Cx G X "ChannelScheduleModel" b6_in := C
  unfold f6_in at h
  show At G X 0 0 0 [(0, vI x0), (1, vI x1), (2, vI x2)] [] V
  refine r_iload_n C d6_in_0 rfl ?_
  refine r_iload_n C d6_in_1 rfl ?_
  refine x_icmplt (tgt := 14) C d6_in_2 rfl (fun c1 => ?_) (fun c1 => ?_)
  · replace h := ite_p c1 h
    refine r_iconst C d6_in_14 ?_
    exact e_z C M d6_in_15 (Nat.le_of_ble_eq_true rfl) (Nat.le_of_ble_eq_true rfl) (Or.inl rfl) h
  · replace h := ite_m c1 h
    refine r_iload_n C d6_in_5 rfl ?_
    refine r_iload_n C d6_in_6 rfl ?_
    refine x_icmpgt (tgt := 14) C d6_in_7 rfl (fun c2 => ?_) (fun c2 => ?_)
    · replace h := ite_p c2 h
      refine r_iconst C d6_in_14 ?_
      exact e_z C M d6_in_15 (Nat.le_of_ble_eq_true rfl) (Nat.le_of_ble_eq_true rfl) (Or.inl rfl) h
    · replace h := ite_m c2 h
      refine r_iconst C d6_in_10 ?_
      refine r_goto (tgt := 15) C d6_in_11 rfl ?_
      exact e_z C M d6_in_15 (Nat.le_of_ble_eq_true rfl) (Nat.le_of_ble_eq_true rfl) (Or.inr rfl) h
def f6_isShip (V : VV) (x1 : Int) : Option Int := bd (f6_in V x1 0 ((V 149 4) - 1)) (fun r2 => ck (r2 = 0 ∨ r2 = 1) (some r2))
theorem ev6_isShip {G : GT} {l : Launch} {V : VV} {x1 : Int} {r : Int} (hlt : l.stackTraces = false) (hN : 154 ≤ gN G) (h : f6_isShip V x1 = some r) : EvX G l y6_isShip b6_isShip 2 (some .boolean) 1 0 0 [.ref (gB G + 148), vI x1] V (.ok (some (vI r))) V := by
  refine ev_w hlt (by decide +kernel) rfl rfl (fun X hl hx C M => ?_)
  subst hl
  replace C : Cx G X "ChannelScheduleModel" b6_isShip := C
  unfold f6_isShip at h
  show At G X 0 0 0 [(0, .ref (gB G + 148)), (1, vI x1)] [] V
  refine r_iload_n C d6_isShip_0 rfl ?_
  refine r_iconst C d6_isShip_1 ?_
  refine r_aload_n C d6_isShip_2 rfl ?_
  refine g_model_0 C d6_isShip_3 f6_13 hN ?_
  refine r_iconst C d6_isShip_6 ?_
  refine x_iald C d6_isShip_7 (ra_m hN) (by omega) ?_
  refine r_iconst C d6_isShip_8 ?_
  refine r_isub C d6_isShip_9 ?_
  obtain ⟨r2, h1, h⟩ := bd_of h
  refine cS3_i C M d6_isShip_10 l6_75 w6_in (ev6_in C.lt hN h1) rfl (Nat.le_of_ble_eq_true rfl) (Nat.le_of_ble_eq_true rfl) ?_
  obtain ⟨c3, h⟩ := ck_of h
  exact e_z C M d6_isShip_13 (Nat.le_of_ble_eq_true rfl) (Nat.le_of_ble_eq_true rfl) c3 h
def f6_isBooking (V : VV) (x1 : Int) : Option Int := bd (f6_in V x1 0 ((V 149 5) - 1)) (fun r2 => ck (r2 = 0 ∨ r2 = 1) (some r2))
theorem ev6_isBooking {G : GT} {l : Launch} {V : VV} {x1 : Int} {r : Int} (hlt : l.stackTraces = false) (hN : 154 ≤ gN G) (h : f6_isBooking V x1 = some r) : EvX G l y6_isBooking b6_isBooking 2 (some .boolean) 1 0 0 [.ref (gB G + 148), vI x1] V (.ok (some (vI r))) V := by
  refine ev_w hlt (by decide +kernel) rfl rfl (fun X hl hx C M => ?_)
  subst hl
  replace C : Cx G X "ChannelScheduleModel" b6_isBooking := C
  unfold f6_isBooking at h
  show At G X 0 0 0 [(0, .ref (gB G + 148)), (1, vI x1)] [] V
  refine r_iload_n C d6_isBooking_0 rfl ?_
  refine r_iconst C d6_isBooking_1 ?_
  refine r_aload_n C d6_isBooking_2 rfl ?_
  refine g_model_0 C d6_isBooking_3 f6_13 hN ?_
  refine r_iconst C d6_isBooking_6 ?_
  refine x_iald C d6_isBooking_7 (ra_m hN) (by omega) ?_
  refine r_iconst C d6_isBooking_8 ?_
  refine r_isub C d6_isBooking_9 ?_
  obtain ⟨r2, h1, h⟩ := bd_of h
  refine cS3_i C M d6_isBooking_10 l6_75 w6_in (ev6_in C.lt hN h1) rfl (Nat.le_of_ble_eq_true rfl) (Nat.le_of_ble_eq_true rfl) ?_
  obtain ⟨c3, h⟩ := ck_of h
  exact e_z C M d6_isBooking_13 (Nat.le_of_ble_eq_true rfl) (Nat.le_of_ble_eq_true rfl) c3 h
def f6_isRequest (V : VV) (x1 : Int) : Option Int := bd (f6_in V x1 0 ((V 149 6) - 1)) (fun r2 => ck (r2 = 0 ∨ r2 = 1) (some r2))
theorem ev6_isRequest {G : GT} {l : Launch} {V : VV} {x1 : Int} {r : Int} (hlt : l.stackTraces = false) (hN : 154 ≤ gN G) (h : f6_isRequest V x1 = some r) : EvX G l y6_isRequest b6_isRequest 2 (some .boolean) 1 0 0 [.ref (gB G + 148), vI x1] V (.ok (some (vI r))) V := by
  refine ev_w hlt (by decide +kernel) rfl rfl (fun X hl hx C M => ?_)
  subst hl
  replace C : Cx G X "ChannelScheduleModel" b6_isRequest := C
  unfold f6_isRequest at h
  show At G X 0 0 0 [(0, .ref (gB G + 148)), (1, vI x1)] [] V
  refine r_iload_n C d6_isRequest_0 rfl ?_
  refine r_iconst C d6_isRequest_1 ?_
  refine r_aload_n C d6_isRequest_2 rfl ?_
  refine g_model_0 C d6_isRequest_3 f6_13 hN ?_
  refine r_bipush C d6_isRequest_6 (by decide +kernel) ?_
  refine x_iald C d6_isRequest_8 (ra_m hN) (by omega) ?_
  refine r_iconst C d6_isRequest_9 ?_
  refine r_isub C d6_isRequest_10 ?_
  obtain ⟨r2, h1, h⟩ := bd_of h
  refine cS3_i C M d6_isRequest_11 l6_75 w6_in (ev6_in C.lt hN h1) rfl (Nat.le_of_ble_eq_true rfl) (Nat.le_of_ble_eq_true rfl) ?_
  obtain ⟨c3, h⟩ := ck_of h
  exact e_z C M d6_isRequest_14 (Nat.le_of_ble_eq_true rfl) (Nat.le_of_ble_eq_true rfl) c3 h
def f6_ofShip (V : VV) (x1 : Int) (x2 : Int) : Option Int := ck ((0:Int) ≤ ((10 + (x1 * 10)) + x2) ∧ ((10 + (x1 * 10)) + x2) < 2300) (some (V 149 (Int.toNat ((10 + (x1 * 10)) + x2))))
theorem ev6_ofShip {G : GT} {l : Launch} {V : VV} {x1 : Int} {x2 : Int} {r : Int} (hlt : l.stackTraces = false) (hN : 154 ≤ gN G) (h : f6_ofShip V x1 x2 = some r) : EvX G l y6_ofShip b6_ofShip 3 (some .int) 0 0 0 [.ref (gB G + 148), vI x1, vI x2] V (.ok (some (vI r))) V := by
  refine ev_w hlt (by decide +kernel) rfl rfl (fun X hl hx C M => ?_)
  subst hl
  replace C : Cx G X "ChannelScheduleModel" b6_ofShip := C
  unfold f6_ofShip at h
  show At G X 0 0 0 [(0, .ref (gB G + 148)), (1, vI x1), (2, vI x2)] [] V
  refine r_aload_n C d6_ofShip_0 rfl ?_
  refine g_model_0 C d6_ofShip_1 f6_13 hN ?_
  refine r_bipush C d6_ofShip_4 (by decide +kernel) ?_
  refine r_iload_n C d6_ofShip_6 rfl ?_
  refine r_bipush C d6_ofShip_7 (by decide +kernel) ?_
  refine r_imul C d6_ofShip_9 ?_
  refine r_iadd C d6_ofShip_10 ?_
  refine r_iload_n C d6_ofShip_11 rfl ?_
  refine r_iadd C d6_ofShip_12 ?_
  obtain ⟨c1, h⟩ := ck_of h
  refine x_iald C d6_ofShip_13 (ra_m hN) c1 ?_
  exact e_i C M d6_ofShip_14 (Nat.le_of_ble_eq_true rfl) (Nat.le_of_ble_eq_true rfl) h
def f6_ofBooking (V : VV) (x1 : Int) (x2 : Int) : Option Int := ck ((0:Int) ≤ ((110 + (x1 * 4)) + x2) ∧ ((110 + (x1 * 4)) + x2) < 2300) (some (V 149 (Int.toNat ((110 + (x1 * 4)) + x2))))
theorem ev6_ofBooking {G : GT} {l : Launch} {V : VV} {x1 : Int} {x2 : Int} {r : Int} (hlt : l.stackTraces = false) (hN : 154 ≤ gN G) (h : f6_ofBooking V x1 x2 = some r) : EvX G l y6_ofBooking b6_ofBooking 3 (some .int) 0 0 0 [.ref (gB G + 148), vI x1, vI x2] V (.ok (some (vI r))) V := by
  refine ev_w hlt (by decide +kernel) rfl rfl (fun X hl hx C M => ?_)
  subst hl
  replace C : Cx G X "ChannelScheduleModel" b6_ofBooking := C
  unfold f6_ofBooking at h
  show At G X 0 0 0 [(0, .ref (gB G + 148)), (1, vI x1), (2, vI x2)] [] V
  refine r_aload_n C d6_ofBooking_0 rfl ?_
  refine g_model_0 C d6_ofBooking_1 f6_13 hN ?_
  refine r_bipush C d6_ofBooking_4 (by decide +kernel) ?_
  refine r_iload_n C d6_ofBooking_6 rfl ?_
  refine r_iconst C d6_ofBooking_7 ?_
  refine r_imul C d6_ofBooking_8 ?_
  refine r_iadd C d6_ofBooking_9 ?_
  refine r_iload_n C d6_ofBooking_10 rfl ?_
  refine r_iadd C d6_ofBooking_11 ?_
  obtain ⟨c1, h⟩ := ck_of h
  refine x_iald C d6_ofBooking_12 (ra_m hN) c1 ?_
  exact e_i C M d6_ofBooking_13 (Nat.le_of_ble_eq_true rfl) (Nat.le_of_ble_eq_true rfl) h
def f6_ofRequest (V : VV) (x1 : Int) (x2 : Int) : Option Int := ck ((0:Int) ≤ ((194 + (x1 * 4)) + x2) ∧ ((194 + (x1 * 4)) + x2) < 2300) (some (V 149 (Int.toNat ((194 + (x1 * 4)) + x2))))
theorem ev6_ofRequest {G : GT} {l : Launch} {V : VV} {x1 : Int} {x2 : Int} {r : Int} (hlt : l.stackTraces = false) (hN : 154 ≤ gN G) (h : f6_ofRequest V x1 x2 = some r) : EvX G l y6_ofRequest b6_ofRequest 3 (some .int) 0 0 0 [.ref (gB G + 148), vI x1, vI x2] V (.ok (some (vI r))) V := by
  refine ev_w hlt (by decide +kernel) rfl rfl (fun X hl hx C M => ?_)
  subst hl
  replace C : Cx G X "ChannelScheduleModel" b6_ofRequest := C
  unfold f6_ofRequest at h
  show At G X 0 0 0 [(0, .ref (gB G + 148)), (1, vI x1), (2, vI x2)] [] V
  refine r_aload_n C d6_ofRequest_0 rfl ?_
  refine g_model_0 C d6_ofRequest_1 f6_13 hN ?_
  refine r_sipush C d6_ofRequest_4 (by decide +kernel) ?_
  refine r_iload_n C d6_ofRequest_7 rfl ?_
  refine r_iconst C d6_ofRequest_8 ?_
  refine r_imul C d6_ofRequest_9 ?_
  refine r_iadd C d6_ofRequest_10 ?_
  refine r_iload_n C d6_ofRequest_11 rfl ?_
  refine r_iadd C d6_ofRequest_12 ?_
  obtain ⟨c1, h⟩ := ck_of h
  refine x_iald C d6_ofRequest_13 (ra_m hN) c1 ?_
  exact e_i C M d6_ofRequest_14 (Nat.le_of_ble_eq_true rfl) (Nat.le_of_ble_eq_true rfl) h
def f6_copyBlock_L2 (x1 : Int) (x2 : Int) : Nat → Int → VV → Option (VV)
  | 0, _, _ => none
  | n + 1, x3, V => (if nrm 230 ≤ nrm x3 then some V else ck ((0:Int) ≤ ((x1 * 230) + x3) ∧ ((x1 * 230) + x3) < 2300) (ck ((0:Int) ≤ ((x2 * 230) + x3) ∧ ((x2 * 230) + x3) < 2300) (f6_copyBlock_L2 x1 x2 n (x3 + 1) (up2 V 149 (Int.toNat ((x2 * 230) + x3)) (V 149 (Int.toNat ((x1 * 230) + x3)))))))
theorem lp6_copyBlock_2 {G : GT} {X : CT} {cells slots : Nat} (hN : 154 ≤ gN G) (hx : xN X = 4) (C : Cx G X "ChannelScheduleModel" b6_copyBlock) {x1 : Int} {x2 : Int} {o0 : Except String (Option Value)} {V9 : VV} (M : MX G X 0 0 0 none o0 V9) (hc : cells ≤ 0) (hs : slots ≤ 0) : ∀ (n : Nat) {x3 : Int} {V : VV} {W0 : VV}, f6_copyBlock_L2 x1 x2 n x3 V = some (W0) → At G X cells slots 39 [] [] W0 → At G X cells slots 2 [(0, .ref (gB G + 148)), (1, vI x1), (2, vI x2), (3, vI x3)] [] V := by
  intro n
  induction n with
  | zero => intro x3 V W0 h _; exact nomatch h
  | succ n ih =>
    intro x3 V W0 h K
    rw [f6_copyBlock_L2] at h
    refine r_iload_n C d6_copyBlock_2 rfl ?_
    refine r_sipush C d6_copyBlock_3 (by decide +kernel) ?_
    refine x_icmpge (tgt := 39) C d6_copyBlock_6 rfl (fun c1 => ?_) (fun c1 => ?_)
    · replace h := ite_p c1 h
      cases h
      exact AtH.sw K trivial
    · replace h := ite_m c1 h
      refine r_aload_n C d6_copyBlock_9 rfl ?_
      refine g_model_0 C d6_copyBlock_10 f6_13 hN ?_
      refine r_iload_n C d6_copyBlock_13 rfl ?_
      refine r_sipush C d6_copyBlock_14 (by decide +kernel) ?_
      refine r_imul C d6_copyBlock_17 ?_
      refine r_iload_n C d6_copyBlock_18 rfl ?_
      refine r_iadd C d6_copyBlock_19 ?_
      refine r_aload_n C d6_copyBlock_20 rfl ?_
      refine g_model_0 C d6_copyBlock_21 f6_13 hN ?_
      refine r_iload_n C d6_copyBlock_24 rfl ?_
      refine r_sipush C d6_copyBlock_25 (by decide +kernel) ?_
      refine r_imul C d6_copyBlock_28 ?_
      refine r_iload_n C d6_copyBlock_29 rfl ?_
      refine r_iadd C d6_copyBlock_30 ?_
      obtain ⟨c2, h⟩ := ck_of h
      refine x_iald C d6_copyBlock_31 (ra_m hN) c2 ?_
      obtain ⟨c3, h⟩ := ck_of h
      refine x_iast C d6_copyBlock_32 (ra_m hN) c3 ?_
      refine x_iinc hx C d6_copyBlock_33 rfl rfl ?_
      refine r_goto (tgt := 2) C d6_copyBlock_36 rfl ?_
      exact AtH.sw (ih h K) ⟨rfl, rfl, rfl, rfl, trivial⟩
def f6_copyBlock (V : VV) (x1 : Int) (x2 : Int) : Option VV := bd (f6_copyBlock_L2 x1 x2 FU 0 V) (fun W4 => some W4)
theorem ev6_copyBlock {G : GT} {l : Launch} {V : VV} {x1 : Int} {x2 : Int} {V1 : VV} (hlt : l.stackTraces = false) (hN : 154 ≤ gN G) (h : f6_copyBlock V x1 x2 = some V1) : EvX G l y6_copyBlock b6_copyBlock 4 none 0 0 0 [.ref (gB G + 148), vI x1, vI x2] V (.ok none) V1 := by
  refine ev_w hlt (by decide +kernel) rfl rfl (fun X hl hx C M => ?_)
  subst hl
  replace C : Cx G X "ChannelScheduleModel" b6_copyBlock := C
  unfold f6_copyBlock at h
  show At G X 0 0 0 [(0, .ref (gB G + 148)), (1, vI x1), (2, vI x2)] [] V
  refine r_iconst C d6_copyBlock_0 ?_
  refine x_istore_n hx C d6_copyBlock_1 rfl ?_
  obtain ⟨W4, h5, h⟩ := bd_of h
  refine AtH.sw (lp6_copyBlock_2 hN hx C M (Nat.le_of_ble_eq_true rfl) (Nat.le_of_ble_eq_true rfl) FU h5 ?_) ⟨rfl, rfl, rfl, rfl, trivial⟩
  exact e_v C M d6_copyBlock_39 (Nat.le_of_ble_eq_true rfl) (Nat.le_of_ble_eq_true rfl) h
def f6_remember_L11 (x1 : Int) : Nat → Int → VV → Option (VV)
  | 0, _, _ => none
  | n + 1, x2, V => (if nrm 6 ≤ nrm x2 then some V else bd (f6_copyBlock V (x2 + 1) x2) (fun W4 => f6_remember_L11 x1 n (x2 + 1) W4))
theorem lp6_remember_11 {G : GT} {X : CT} {cells slots : Nat} (hN : 154 ≤ gN G) (hx : xN X = 3) (C : Cx G X "ChannelScheduleModel" b6_remember) {x1 : Int} {o0 : Except String (Option Value)} {V9 : VV} (M : MX G X 1 0 0 none o0 V9) (hc : cells ≤ 0) (hs : slots ≤ 0) : ∀ (n : Nat) {x2 : Int} {V : VV} {W0 : VV}, f6_remember_L11 x1 n x2 V = some (W0) → At G X cells slots 31 [(0, .ref (gB G + 148)), (1, vI x1)] [] W0 → At G X cells slots 11 [(0, .ref (gB G + 148)), (1, vI x1), (2, vI x2)] [] V := by
  intro n
  induction n with
  | zero => intro x2 V W0 h _; exact nomatch h
  | succ n ih =>
    intro x2 V W0 h K
    rw [f6_remember_L11] at h
    refine r_iload_n C d6_remember_11 rfl ?_
    refine r_bipush C d6_remember_12 (by decide +kernel) ?_
    refine x_icmpge (tgt := 31) C d6_remember_14 rfl (fun c2 => ?_) (fun c2 => ?_)
    · replace h := ite_p c2 h
      cases h
      exact AtH.sw K ⟨rfl, rfl, trivial⟩
    · replace h := ite_m c2 h
      refine r_aload_n C d6_remember_17 rfl ?_
      refine r_iload_n C d6_remember_18 rfl ?_
      refine r_iconst C d6_remember_19 ?_
      refine r_iadd C d6_remember_20 ?_
      refine r_iload_n C d6_remember_21 rfl ?_
      obtain ⟨W4, h3, h⟩ := bd_of h
      refine cV2_v C M d6_remember_22 l6_79 w6_copyBlock (rc_model hN) (ev6_copyBlock C.lt hN h3) rfl hc hs ?_
      refine x_iinc hx C d6_remember_25 rfl rfl ?_
      refine r_goto (tgt := 11) C d6_remember_28 rfl ?_
      exact AtH.sw (ih h K) ⟨rfl, rfl, rfl, trivial⟩
def f6_remember (V : VV) (x1 : Int) : Option VV := bd ((if nrm (V 148 2) = nrm 6 then bd (f6_remember_L11 x1 FU 1 V) (fun W5 => some (up2 W5 148 2 ((W5 148 2) - 1))) else some (V))) (fun W7 => bd (f6_copyBlock (up2 W7 148 2 ((W7 148 2) + 1)) x1 ((up2 W7 148 2 ((W7 148 2) + 1)) 148 2)) (fun W11 => some W11))
theorem ev6_remember {G : GT} {l : Launch} {V : VV} {x1 : Int} {V1 : VV} (hlt : l.stackTraces = false) (hN : 154 ≤ gN G) (h : f6_remember V x1 = some V1) : EvX G l y6_remember b6_remember 3 none 1 0 0 [.ref (gB G + 148), vI x1] V (.ok none) V1 := by
  refine ev_w hlt (by decide +kernel) rfl rfl (fun X hl hx C M => ?_)
  subst hl
  replace C : Cx G X "ChannelScheduleModel" b6_remember := C
  unfold f6_remember at h
  show At G X 0 0 0 [(0, .ref (gB G + 148)), (1, vI x1)] [] V
  refine r_aload_n C d6_remember_0 rfl ?_
  refine g_model_2 C d6_remember_1 f6_21 hN ?_
  refine r_bipush C d6_remember_4 (by decide +kernel) ?_
  obtain ⟨W7, h8, h⟩ := bd_of h
  suffices J9 : At G X 0 0 41 [(0, .ref (gB G + 148)), (1, vI x1)] [] W7 by
    replace h := h8
    refine x_icmpne (tgt := 41) C d6_remember_6 rfl (fun c1 => ?_) (fun c1 => ?_)
    · replace h := ite_p c1 h
      refine r_iconst C d6_remember_9 ?_
      refine x_istore_n hx C d6_remember_10 rfl ?_
      obtain ⟨W5, h6, h⟩ := bd_of h
      refine AtH.sw (lp6_remember_11 hN hx C M (Nat.le_of_ble_eq_true rfl) (Nat.le_of_ble_eq_true rfl) FU h6 ?_) ⟨rfl, rfl, rfl, trivial⟩
      refine r_aload_n C d6_remember_31 rfl ?_
      refine r_dup C d6_remember_32 rfl ?_
      refine g_model_2 C d6_remember_33 f6_21 hN ?_
      refine r_iconst C d6_remember_36 ?_
      refine r_isub C d6_remember_37 ?_
      refine p_model_2 C d6_remember_38 f6_21 hN ?_
      cases h
      exact AtH.sw J9 ⟨rfl, rfl, trivial⟩
    · replace h := ite_m c1 h
      cases h
      exact AtH.sw J9 ⟨rfl, rfl, trivial⟩
  refine r_aload_n C d6_remember_41 rfl ?_
  refine r_dup C d6_remember_42 rfl ?_
  refine g_model_2 C d6_remember_43 f6_21 hN ?_
  refine r_iconst C d6_remember_46 ?_
  refine r_iadd C d6_remember_47 ?_
  refine p_model_2 C d6_remember_48 f6_21 hN ?_
  refine r_aload_n C d6_remember_51 rfl ?_
  refine r_iload_n C d6_remember_52 rfl ?_
  refine r_aload_n C d6_remember_53 rfl ?_
  refine g_model_2 C d6_remember_54 f6_21 hN ?_
  obtain ⟨W11, h10, h⟩ := bd_of h
  refine cV2_v C M d6_remember_57 l6_79 w6_copyBlock (rc_model hN) (ev6_copyBlock C.lt hN h10) rfl (Nat.le_of_ble_eq_true rfl) (Nat.le_of_ble_eq_true rfl) ?_
  exact e_v C M d6_remember_60 (Nat.le_of_ble_eq_true rfl) (Nat.le_of_ble_eq_true rfl) h
def f6_transit (V : VV) (x1 : Int) : Option Int := bd (f6_ofShip V x1 8) (fun r2 => bd (f6_ofShip V x1 7) (fun r4 => (if nrm ((V 149 2) - r2) ≤ 0 then some (r4 + 0) else some (r4 + (2 * ((V 149 2) - r2))))))
theorem ev6_transit {G : GT} {l : Launch} {V : VV} {x1 : Int} {r : Int} (hlt : l.stackTraces = false) (hN : 154 ≤ gN G) (h : f6_transit V x1 = some r) : EvX G l y6_transit b6_transit 3 (some .int) 1 0 0 [.ref (gB G + 148), vI x1] V (.ok (some (vI r))) V := by
  refine ev_w hlt (by decide +kernel) rfl rfl (fun X hl hx C M => ?_)
  subst hl
  replace C : Cx G X "ChannelScheduleModel" b6_transit := C
  unfold f6_transit at h
  show At G X 0 0 0 [(0, .ref (gB G + 148)), (1, vI x1)] [] V
  refine r_aload_n C d6_transit_0 rfl ?_
  refine g_model_0 C d6_transit_1 f6_13 hN ?_
  refine r_iconst C d6_transit_4 ?_
  refine x_iald C d6_transit_5 (ra_m hN) (by omega) ?_
  refine r_aload_n C d6_transit_6 rfl ?_
  refine r_iload_n C d6_transit_7 rfl ?_
  refine r_bipush C d6_transit_8 (by decide +kernel) ?_
  obtain ⟨r2, h1, h⟩ := bd_of h
  refine cV2_i C M d6_transit_10 l6_83 w6_ofShip (rc_model hN) (ev6_ofShip C.lt hN h1) rfl (Nat.le_of_ble_eq_true rfl) (Nat.le_of_ble_eq_true rfl) ?_
  refine r_isub C d6_transit_13 ?_
  refine x_istore_n hx C d6_transit_14 rfl ?_
  refine r_aload_n C d6_transit_15 rfl ?_
  refine r_iload_n C d6_transit_16 rfl ?_
  refine r_bipush C d6_transit_17 (by decide +kernel) ?_
  obtain ⟨r4, h3, h⟩ := bd_of h
  refine cV2_i C M d6_transit_19 l6_83 w6_ofShip (rc_model hN) (ev6_ofShip C.lt hN h3) rfl (Nat.le_of_ble_eq_true rfl) (Nat.le_of_ble_eq_true rfl) ?_
  refine r_iload_n C d6_transit_22 rfl ?_
  refine x_ifle (tgt := 32) C d6_transit_23 rfl (fun c5 => ?_) (fun c5 => ?_)
  · replace h := ite_p c5 h
    refine r_iconst C d6_transit_32 ?_
    refine r_iadd C d6_transit_33 ?_
    exact e_i C M d6_transit_34 (Nat.le_of_ble_eq_true rfl) (Nat.le_of_ble_eq_true rfl) h
  · replace h := ite_m c5 h
    refine r_iconst C d6_transit_26 ?_
    refine r_iload_n C d6_transit_27 rfl ?_
    refine r_imul C d6_transit_28 ?_
    refine r_goto (tgt := 33) C d6_transit_29 rfl ?_
    refine r_iadd C d6_transit_33 ?_
    exact e_i C M d6_transit_34 (Nat.le_of_ble_eq_true rfl) (Nat.le_of_ble_eq_true rfl) h
def f6_conflict0 (V : VV) (x1 : Int) (x2 : Int) (x3 : Int) (x4 : Int) (x5 : Int) (x6 : Int) : Option Int := (if nrm x2 = nrm x5 then some 1 else (if nrm x2 ≤ nrm x5 then (if nrm x1 = nrm x4 then (if nrm x5 < nrm (x2 + (V 149 0)) then some 1 else (if nrm (x3 + (V 149 0)) ≤ nrm x6 then some 0 else some 1)) else (if nrm (x3 + (V 149 1)) ≤ nrm x5 then some 0 else some 1)) else none))
theorem ev6_conflict0 {G : GT} {l : Launch} {V : VV} {x1 : Int} {x2 : Int} {x3 : Int} {x4 : Int} {x5 : Int} {x6 : Int} {r : Int} (hlt : l.stackTraces = false) (hN : 154 ≤ gN G) (h : f6_conflict0 V x1 x2 x3 x4 x5 x6 = some r) : EvX G l y6_conflict b6_conflict 7 (some .boolean) 0 0 0 [.ref (gB G + 148), vI x1, vI x2, vI x3, vI x4, vI x5, vI x6] V (.ok (some (vI r))) V := by
  refine ev_w hlt (by decide +kernel) rfl rfl (fun X hl hx C M => ?_)
  subst hl
  replace C : Cx G X "ChannelScheduleModel" b6_conflict := C
  unfold f6_conflict0 at h
  show At G X 0 0 0 [(0, .ref (gB G + 148)), (1, vI x1), (2, vI x2), (3, vI x3), (4, vI x4), (5, vI x5), (6, vI x6)] [] V
  refine r_iload_n C d6_conflict_0 rfl ?_
  refine r_iload C d6_conflict_1 rfl ?_
  refine x_icmpne (tgt := 8) C d6_conflict_3 rfl (fun c1 => ?_) (fun c1 => ?_)
  · replace h := ite_p c1 h
    refine r_iconst C d6_conflict_6 ?_
    exact e_z C M d6_conflict_7 (Nat.le_of_ble_eq_true rfl) (Nat.le_of_ble_eq_true rfl) (Or.inr rfl) h
  · replace h := ite_m c1 h
    refine r_iload_n C d6_conflict_8 rfl ?_
    refine r_iload C d6_conflict_9 rfl ?_
    refine x_icmple (tgt := 28) C d6_conflict_11 rfl (fun c2 => ?_) (fun c2 => ?_)
    · replace h := ite_p c2 h
      refine r_iload_n C d6_conflict_28 rfl ?_
      refine r_iload C d6_conflict_29 rfl ?_
      refine x_icmpeq (tgt := 53) C d6_conflict_31 rfl (fun c3 => ?_) (fun c3 => ?_)
      · replace h := ite_p c3 h
        refine r_iload C d6_conflict_53 rfl ?_
        refine r_iload_n C d6_conflict_55 rfl ?_
        refine r_aload_n C d6_conflict_56 rfl ?_
        refine g_model_0 C d6_conflict_57 f6_13 hN ?_
        refine r_iconst C d6_conflict_60 ?_
        refine x_iald C d6_conflict_61 (ra_m hN) (by omega) ?_
        refine r_iadd C d6_conflict_62 ?_
        refine x_icmplt (tgt := 79) C d6_conflict_63 rfl (fun c4 => ?_) (fun c4 => ?_)
        · replace h := ite_p c4 h
          refine r_iconst C d6_conflict_79 ?_
          refine r_goto (tgt := 84) C d6_conflict_80 rfl ?_
          exact e_z C M d6_conflict_84 (Nat.le_of_ble_eq_true rfl) (Nat.le_of_ble_eq_true rfl) (Or.inr rfl) h
        · replace h := ite_m c4 h
          refine r_iload C d6_conflict_66 rfl ?_
          refine r_iload_n C d6_conflict_68 rfl ?_
          refine r_aload_n C d6_conflict_69 rfl ?_
          refine g_model_0 C d6_conflict_70 f6_13 hN ?_
          refine r_iconst C d6_conflict_73 ?_
          refine x_iald C d6_conflict_74 (ra_m hN) (by omega) ?_
          refine r_iadd C d6_conflict_75 ?_
          refine x_icmpge (tgt := 83) C d6_conflict_76 rfl (fun c5 => ?_) (fun c5 => ?_)
          · replace h := ite_p c5 h
            refine r_iconst C d6_conflict_83 ?_
            exact e_z C M d6_conflict_84 (Nat.le_of_ble_eq_true rfl) (Nat.le_of_ble_eq_true rfl) (Or.inl rfl) h
          · replace h := ite_m c5 h
            refine r_iconst C d6_conflict_79 ?_
            refine r_goto (tgt := 84) C d6_conflict_80 rfl ?_
            exact e_z C M d6_conflict_84 (Nat.le_of_ble_eq_true rfl) (Nat.le_of_ble_eq_true rfl) (Or.inr rfl) h
      · replace h := ite_m c3 h
        refine r_iload C d6_conflict_34 rfl ?_
        refine r_iload_n C d6_conflict_36 rfl ?_
        refine r_aload_n C d6_conflict_37 rfl ?_
        refine g_model_0 C d6_conflict_38 f6_13 hN ?_
        refine r_iconst C d6_conflict_41 ?_
        refine x_iald C d6_conflict_42 (ra_m hN) (by omega) ?_
        refine r_iadd C d6_conflict_43 ?_
        refine x_icmpge (tgt := 51) C d6_conflict_44 rfl (fun c6 => ?_) (fun c6 => ?_)
        · replace h := ite_p c6 h
          refine r_iconst C d6_conflict_51 ?_
          exact e_z C M d6_conflict_52 (Nat.le_of_ble_eq_true rfl) (Nat.le_of_ble_eq_true rfl) (Or.inl rfl) h
        · replace h := ite_m c6 h
          refine r_iconst C d6_conflict_47 ?_
          refine r_goto (tgt := 52) C d6_conflict_48 rfl ?_
          exact e_z C M d6_conflict_52 (Nat.le_of_ble_eq_true rfl) (Nat.le_of_ble_eq_true rfl) (Or.inr rfl) h
    · replace h := ite_m c2 h
      refine r_aload_n C d6_conflict_14 rfl ?_
      refine r_iload C d6_conflict_15 rfl ?_
      refine r_iload C d6_conflict_17 rfl ?_
      refine r_iload C d6_conflict_19 rfl ?_
      refine r_iload_n C d6_conflict_21 rfl ?_
      refine r_iload_n C d6_conflict_22 rfl ?_
      refine r_iload_n C d6_conflict_23 rfl ?_
      exact nomatch h
def f6_conflict (V : VV) (x1 : Int) (x2 : Int) (x3 : Int) (x4 : Int) (x5 : Int) (x6 : Int) : Option Int := (if nrm x2 = nrm x5 then some 1 else (if nrm x2 ≤ nrm x5 then (if nrm x1 = nrm x4 then (if nrm x5 < nrm (x2 + (V 149 0)) then some 1 else (if nrm (x3 + (V 149 0)) ≤ nrm x6 then some 0 else some 1)) else (if nrm (x3 + (V 149 1)) ≤ nrm x5 then some 0 else some 1)) else bd (f6_conflict0 V x4 x5 x6 x1 x2 x3) (fun r8 => ck (r8 = 0 ∨ r8 = 1) (some r8))))
theorem ev6_conflict {G : GT} {l : Launch} {V : VV} {x1 : Int} {x2 : Int} {x3 : Int} {x4 : Int} {x5 : Int} {x6 : Int} {r : Int} (hlt : l.stackTraces = false) (hN : 154 ≤ gN G) (h : f6_conflict V x1 x2 x3 x4 x5 x6 = some r) : EvX G l y6_conflict b6_conflict 7 (some .boolean) 1 0 0 [.ref (gB G + 148), vI x1, vI x2, vI x3, vI x4, vI x5, vI x6] V (.ok (some (vI r))) V := by
  refine ev_w hlt (by decide +kernel) rfl rfl (fun X hl hx C M => ?_)
  subst hl
  replace C : Cx G X "ChannelScheduleModel" b6_conflict := C
  unfold f6_conflict at h
  show At G X 0 0 0 [(0, .ref (gB G + 148)), (1, vI x1), (2, vI x2), (3, vI x3), (4, vI x4), (5, vI x5), (6, vI x6)] [] V
  refine r_iload_n C d6_conflict_0 rfl ?_
  refine r_iload C d6_conflict_1 rfl ?_
  refine x_icmpne (tgt := 8) C d6_conflict_3 rfl (fun c1 => ?_) (fun c1 => ?_)
  · replace h := ite_p c1 h
    refine r_iconst C d6_conflict_6 ?_
    exact e_z C M d6_conflict_7 (Nat.le_of_ble_eq_true rfl) (Nat.le_of_ble_eq_true rfl) (Or.inr rfl) h
  · replace h := ite_m c1 h
    refine r_iload_n C d6_conflict_8 rfl ?_
    refine r_iload C d6_conflict_9 rfl ?_
    refine x_icmple (tgt := 28) C d6_conflict_11 rfl (fun c2 => ?_) (fun c2 => ?_)
    · replace h := ite_p c2 h
      refine r_iload_n C d6_conflict_28 rfl ?_
      refine r_iload C d6_conflict_29 rfl ?_
      refine x_icmpeq (tgt := 53) C d6_conflict_31 rfl (fun c3 => ?_) (fun c3 => ?_)
      · replace h := ite_p c3 h
        refine r_iload C d6_conflict_53 rfl ?_
        refine r_iload_n C d6_conflict_55 rfl ?_
        refine r_aload_n C d6_conflict_56 rfl ?_
        refine g_model_0 C d6_conflict_57 f6_13 hN ?_
        refine r_iconst C d6_conflict_60 ?_
        refine x_iald C d6_conflict_61 (ra_m hN) (by omega) ?_
        refine r_iadd C d6_conflict_62 ?_
        refine x_icmplt (tgt := 79) C d6_conflict_63 rfl (fun c4 => ?_) (fun c4 => ?_)
        · replace h := ite_p c4 h
          refine r_iconst C d6_conflict_79 ?_
          refine r_goto (tgt := 84) C d6_conflict_80 rfl ?_
          exact e_z C M d6_conflict_84 (Nat.le_of_ble_eq_true rfl) (Nat.le_of_ble_eq_true rfl) (Or.inr rfl) h
        · replace h := ite_m c4 h
          refine r_iload C d6_conflict_66 rfl ?_
          refine r_iload_n C d6_conflict_68 rfl ?_
          refine r_aload_n C d6_conflict_69 rfl ?_
          refine g_model_0 C d6_conflict_70 f6_13 hN ?_
          refine r_iconst C d6_conflict_73 ?_
          refine x_iald C d6_conflict_74 (ra_m hN) (by omega) ?_
          refine r_iadd C d6_conflict_75 ?_
          refine x_icmpge (tgt := 83) C d6_conflict_76 rfl (fun c5 => ?_) (fun c5 => ?_)
          · replace h := ite_p c5 h
            refine r_iconst C d6_conflict_83 ?_
            exact e_z C M d6_conflict_84 (Nat.le_of_ble_eq_true rfl) (Nat.le_of_ble_eq_true rfl) (Or.inl rfl) h
          · replace h := ite_m c5 h
            refine r_iconst C d6_conflict_79 ?_
            refine r_goto (tgt := 84) C d6_conflict_80 rfl ?_
            exact e_z C M d6_conflict_84 (Nat.le_of_ble_eq_true rfl) (Nat.le_of_ble_eq_true rfl) (Or.inr rfl) h
      · replace h := ite_m c3 h
        refine r_iload C d6_conflict_34 rfl ?_
        refine r_iload_n C d6_conflict_36 rfl ?_
        refine r_aload_n C d6_conflict_37 rfl ?_
        refine g_model_0 C d6_conflict_38 f6_13 hN ?_
        refine r_iconst C d6_conflict_41 ?_
        refine x_iald C d6_conflict_42 (ra_m hN) (by omega) ?_
        refine r_iadd C d6_conflict_43 ?_
        refine x_icmpge (tgt := 51) C d6_conflict_44 rfl (fun c6 => ?_) (fun c6 => ?_)
        · replace h := ite_p c6 h
          refine r_iconst C d6_conflict_51 ?_
          exact e_z C M d6_conflict_52 (Nat.le_of_ble_eq_true rfl) (Nat.le_of_ble_eq_true rfl) (Or.inl rfl) h
        · replace h := ite_m c6 h
          refine r_iconst C d6_conflict_47 ?_
          refine r_goto (tgt := 52) C d6_conflict_48 rfl ?_
          exact e_z C M d6_conflict_52 (Nat.le_of_ble_eq_true rfl) (Nat.le_of_ble_eq_true rfl) (Or.inr rfl) h
    · replace h := ite_m c2 h
      refine r_aload_n C d6_conflict_14 rfl ?_
      refine r_iload C d6_conflict_15 rfl ?_
      refine r_iload C d6_conflict_17 rfl ?_
      refine r_iload C d6_conflict_19 rfl ?_
      refine r_iload_n C d6_conflict_21 rfl ?_
      refine r_iload_n C d6_conflict_22 rfl ?_
      refine r_iload_n C d6_conflict_23 rfl ?_
      obtain ⟨r8, h7, h⟩ := bd_of h
      refine cV6_i C M d6_conflict_24 l6_87 w6_conflict (rc_model hN) (ev6_conflict0 C.lt hN h7) rfl (Nat.le_of_ble_eq_true rfl) (Nat.le_of_ble_eq_true rfl) ?_
      obtain ⟨c9, h⟩ := ck_of h
      exact e_z C M d6_conflict_27 (Nat.le_of_ble_eq_true rfl) (Nat.le_of_ble_eq_true rfl) c9 h
def f6_conflictsWith (V : VV) (x1 : Int) (x2 : Int) (x3 : Int) (x4 : Int) : Option Int := bd (f6_ofBooking V x1 1) (fun r2 => bd (f6_ofBooking V x1 2) (fun r4 => bd (f6_ofBooking V x1 3) (fun r6 => bd (f6_conflict V r2 r4 r6 x2 x3 x4) (fun r8 => ck (r8 = 0 ∨ r8 = 1) (some r8)))))
theorem ev6_conflictsWith {G : GT} {l : Launch} {V : VV} {x1 : Int} {x2 : Int} {x3 : Int} {x4 : Int} {r : Int} (hlt : l.stackTraces = false) (hN : 154 ≤ gN G) (h : f6_conflictsWith V x1 x2 x3 x4 = some r) : EvX G l y6_conflictsWith b6_conflictsWith 5 (some .boolean) 2 0 0 [.ref (gB G + 148), vI x1, vI x2, vI x3, vI x4] V (.ok (some (vI r))) V := by
  refine ev_w hlt (by decide +kernel) rfl rfl (fun X hl hx C M => ?_)
  subst hl
  replace C : Cx G X "ChannelScheduleModel" b6_conflictsWith := C
  unfold f6_conflictsWith at h
  show At G X 0 0 0 [(0, .ref (gB G + 148)), (1, vI x1), (2, vI x2), (3, vI x3), (4, vI x4)] [] V
  refine r_aload_n C d6_conflictsWith_0 rfl ?_
  refine r_aload_n C d6_conflictsWith_1 rfl ?_
  refine r_iload_n C d6_conflictsWith_2 rfl ?_
  refine r_iconst C d6_conflictsWith_3 ?_
  obtain ⟨r2, h1, h⟩ := bd_of h
  refine cV2_i C M d6_conflictsWith_4 l6_91 w6_ofBooking (rc_model hN) (ev6_ofBooking C.lt hN h1) rfl (Nat.le_of_ble_eq_true rfl) (Nat.le_of_ble_eq_true rfl) ?_
  refine r_aload_n C d6_conflictsWith_7 rfl ?_
  refine r_iload_n C d6_conflictsWith_8 rfl ?_
  refine r_iconst C d6_conflictsWith_9 ?_
  obtain ⟨r4, h3, h⟩ := bd_of h
  refine cV2_i C M d6_conflictsWith_10 l6_91 w6_ofBooking (rc_model hN) (ev6_ofBooking C.lt hN h3) rfl (Nat.le_of_ble_eq_true rfl) (Nat.le_of_ble_eq_true rfl) ?_
  refine r_aload_n C d6_conflictsWith_13 rfl ?_
  refine r_iload_n C d6_conflictsWith_14 rfl ?_
  refine r_iconst C d6_conflictsWith_15 ?_
  obtain ⟨r6, h5, h⟩ := bd_of h
  refine cV2_i C M d6_conflictsWith_16 l6_91 w6_ofBooking (rc_model hN) (ev6_ofBooking C.lt hN h5) rfl (Nat.le_of_ble_eq_true rfl) (Nat.le_of_ble_eq_true rfl) ?_
  refine r_iload_n C d6_conflictsWith_19 rfl ?_
  refine r_iload_n C d6_conflictsWith_20 rfl ?_
  refine r_iload C d6_conflictsWith_21 rfl ?_
  obtain ⟨r8, h7, h⟩ := bd_of h
  refine cV6_i C M d6_conflictsWith_23 l6_87 w6_conflict (rc_model hN) (ev6_conflict C.lt hN h7) rfl (Nat.le_of_ble_eq_true rfl) (Nat.le_of_ble_eq_true rfl) ?_
  obtain ⟨c9, h⟩ := ck_of h
  exact e_z C M d6_conflictsWith_26 (Nat.le_of_ble_eq_true rfl) (Nat.le_of_ble_eq_true rfl) c9 h
def f6_conflicting_L12 (V : VV) (x2 : Int) (x3 : Int) (x4 : Int) (x5 : Int) : Nat → Int → Option Int
  | 0, _ => none
  | n + 1, x6 => (if nrm (V 149 5) ≤ nrm x6 then some (-1) else (if nrm x6 = nrm x4 then f6_conflicting_L12 V x2 x3 x4 x5 n (x6 + 1) else bd (f6_conflictsWith V x6 x2 x3 x5) (fun r6 => (if nrm r6 = 0 then f6_conflicting_L12 V x2 x3 x4 x5 n (x6 + 1) else some x6))))
theorem lp6_conflicting_12 {G : GT} {X : CT} {cells slots : Nat} {V : VV} (hN : 154 ≤ gN G) (hx : xN X = 7) (C : Cx G X "ChannelScheduleModel" b6_conflicting) {x2 : Int} {x3 : Int} {x4 : Int} {x5 : Int} : ∀ (n : Nat) {x6 : Int} {r : Int}, MX G X 3 0 0 (some .int) (.ok (some (vI r))) V → cells ≤ 0 → slots ≤ 0 → f6_conflicting_L12 V x2 x3 x4 x5 n x6 = some r → At G X cells slots 12 [(0, .ref (gB G + 148)), (2, vI x2), (3, vI x3), (4, vI x4), (5, vI x5), (6, vI x6)] [] V := by
  intro n
  induction n with
  | zero => intro x6 r _ _ _ h; exact nomatch h
  | succ n ih =>
    intro x6 r M hc hs h
    rw [f6_conflicting_L12] at h
    refine r_iload C d6_conflicting_12 rfl ?_
    refine r_aload_n C d6_conflicting_14 rfl ?_
    refine g_model_0 C d6_conflicting_15 f6_13 hN ?_
    refine r_iconst C d6_conflicting_18 ?_
    refine x_iald C d6_conflicting_19 (ra_m hN) (by omega) ?_
    refine x_icmpge (tgt := 52) C d6_conflicting_20 rfl (fun c3 => ?_) (fun c3 => ?_)
    · replace h := ite_p c3 h
      refine r_iconst C d6_conflicting_52 ?_
      exact e_i C M d6_conflicting_53 hc hs h
    · replace h := ite_m c3 h
      refine r_iload C d6_conflicting_23 rfl ?_
      refine r_iload C d6_conflicting_25 rfl ?_
      refine x_icmpeq (tgt := 46) C d6_conflicting_27 rfl (fun c4 => ?_) (fun c4 => ?_)
      · replace h := ite_p c4 h
        refine x_iinc hx C d6_conflicting_46 rfl rfl ?_
        refine r_goto (tgt := 12) C d6_conflicting_49 rfl ?_
        exact AtH.sw (ih M hc hs h) ⟨rfl, rfl, rfl, rfl, rfl, rfl, trivial⟩
      · replace h := ite_m c4 h
        refine r_aload_n C d6_conflicting_30 rfl ?_
        refine r_iload C d6_conflicting_31 rfl ?_
        refine r_iload_n C d6_conflicting_33 rfl ?_
        refine r_iload_n C d6_conflicting_34 rfl ?_
        refine r_iload C d6_conflicting_35 rfl ?_
        obtain ⟨r6, h5, h⟩ := bd_of h
        refine cV4_i C M d6_conflicting_37 l6_98 w6_conflictsWith (rc_model hN) (ev6_conflictsWith C.lt hN h5) rfl hc hs ?_
        refine x_ifeq (tgt := 46) C d6_conflicting_40 rfl (fun c7 => ?_) (fun c7 => ?_)
        · replace h := ite_p c7 h
          refine x_iinc hx C d6_conflicting_46 rfl rfl ?_
          refine r_goto (tgt := 12) C d6_conflicting_49 rfl ?_
          exact AtH.sw (ih M hc hs h) ⟨rfl, rfl, rfl, rfl, rfl, rfl, trivial⟩
        · replace h := ite_m c7 h
          refine r_iload C d6_conflicting_43 rfl ?_
          exact e_i C M d6_conflicting_45 hc hs h
def f6_conflicting (V : VV) (x1 : Int) (x2 : Int) (x3 : Int) (x4 : Int) : Option Int := bd (f6_transit V x1) (fun r2 => f6_conflicting_L12 V x2 x3 x4 (x3 + r2) FU 0)
theorem ev6_conflicting {G : GT} {l : Launch} {V : VV} {x1 : Int} {x2 : Int} {x3 : Int} {x4 : Int} {r : Int} (hlt : l.stackTraces = false) (hN : 154 ≤ gN G) (h : f6_conflicting V x1 x2 x3 x4 = some r) : EvX G l y6_conflicting b6_conflicting 7 (some .int) 3 0 0 [.ref (gB G + 148), vI x1, vI x2, vI x3, vI x4] V (.ok (some (vI r))) V := by
  refine ev_w hlt (by decide +kernel) rfl rfl (fun X hl hx C M => ?_)
  subst hl
  replace C : Cx G X "ChannelScheduleModel" b6_conflicting := C
  unfold f6_conflicting at h
  show At G X 0 0 0 [(0, .ref (gB G + 148)), (1, vI x1), (2, vI x2), (3, vI x3), (4, vI x4)] [] V
  refine r_iload_n C d6_conflicting_0 rfl ?_
  refine r_aload_n C d6_conflicting_1 rfl ?_
  refine r_iload_n C d6_conflicting_2 rfl ?_
  obtain ⟨r2, h1, h⟩ := bd_of h
  refine cV1_i C M d6_conflicting_3 l6_94 w6_transit (rc_model hN) (ev6_transit C.lt hN h1) rfl (Nat.le_of_ble_eq_true rfl) (Nat.le_of_ble_eq_true rfl) ?_
  refine r_iadd C d6_conflicting_6 ?_
  refine x_istore hx C d6_conflicting_7 rfl ?_
  refine r_iconst C d6_conflicting_9 ?_
  refine x_istore hx C d6_conflicting_10 rfl ?_
  exact AtH.sw (lp6_conflicting_12 hN hx C FU M (Nat.le_of_ble_eq_true rfl) (Nat.le_of_ble_eq_true rfl) h) ⟨rfl, rfl, rfl, rfl, rfl, rfl, trivial⟩
def f6_earliest_L3 (V : VV) (x1 : Int) (x2 : Int) (x4 : Int) (x5 : Int) : Nat → Int → Option Int
  | 0, _ => none
  | n + 1, x6 => (if nrm x4 < nrm x6 then some (-1) else bd (f6_conflicting V x1 x2 x6 x5) (fun r3 => (if nrm r3 = nrm (-1) then some x6 else f6_earliest_L3 V x1 x2 x4 x5 n (x6 + 1))))
theorem lp6_earliest_3 {G : GT} {X : CT} {cells slots : Nat} {V : VV} (hN : 154 ≤ gN G) (hx : xN X = 7) (C : Cx G X "ChannelScheduleModel" b6_earliest) {x1 : Int} {x2 : Int} {x4 : Int} {x5 : Int} : ∀ (n : Nat) {x6 : Int} {r : Int}, MX G X 4 0 0 (some .int) (.ok (some (vI r))) V → cells ≤ 0 → slots ≤ 0 → f6_earliest_L3 V x1 x2 x4 x5 n x6 = some r → At G X cells slots 3 [(0, .ref (gB G + 148)), (1, vI x1), (2, vI x2), (4, vI x4), (5, vI x5), (6, vI x6)] [] V := by
  intro n
  induction n with
  | zero => intro x6 r _ _ _ h; exact nomatch h
  | succ n ih =>
    intro x6 r M hc hs h
    rw [f6_earliest_L3] at h
    refine r_iload C d6_earliest_3 rfl ?_
    refine r_iload C d6_earliest_5 rfl ?_
    refine x_icmpgt (tgt := 33) C d6_earliest_7 rfl (fun c1 => ?_) (fun c1 => ?_)
    · replace h := ite_p c1 h
      refine r_iconst C d6_earliest_33 ?_
      exact e_i C M d6_earliest_34 hc hs h
    · replace h := ite_m c1 h
      refine r_aload_n C d6_earliest_10 rfl ?_
      refine r_iload_n C d6_earliest_11 rfl ?_
      refine r_iload_n C d6_earliest_12 rfl ?_
      refine r_iload C d6_earliest_13 rfl ?_
      refine r_iload C d6_earliest_15 rfl ?_
      obtain ⟨r3, h2, h⟩ := bd_of h
      refine cV4_i C M d6_earliest_17 l6_102 w6_conflicting (rc_model hN) (ev6_conflicting C.lt hN h2) rfl hc hs ?_
      refine r_iconst C d6_earliest_20 ?_
      refine x_icmpne (tgt := 27) C d6_earliest_21 rfl (fun c4 => ?_) (fun c4 => ?_)
      · replace h := ite_p c4 h
        refine r_iload C d6_earliest_24 rfl ?_
        exact e_i C M d6_earliest_26 hc hs h
      · replace h := ite_m c4 h
        refine x_iinc hx C d6_earliest_27 rfl rfl ?_
        refine r_goto (tgt := 3) C d6_earliest_30 rfl ?_
        exact AtH.sw (ih M hc hs h) ⟨rfl, rfl, rfl, rfl, rfl, rfl, trivial⟩
def f6_earliest (V : VV) (x1 : Int) (x2 : Int) (x3 : Int) (x4 : Int) (x5 : Int) : Option Int := f6_earliest_L3 V x1 x2 x4 x5 FU x3
theorem ev6_earliest {G : GT} {l : Launch} {V : VV} {x1 : Int} {x2 : Int} {x3 : Int} {x4 : Int} {x5 : Int} {r : Int} (hlt : l.stackTraces = false) (hN : 154 ≤ gN G) (h : f6_earliest V x1 x2 x3 x4 x5 = some r) : EvX G l y6_earliest b6_earliest 7 (some .int) 4 0 0 [.ref (gB G + 148), vI x1, vI x2, vI x3, vI x4, vI x5] V (.ok (some (vI r))) V := by
  refine ev_w hlt (by decide +kernel) rfl rfl (fun X hl hx C M => ?_)
  subst hl
  replace C : Cx G X "ChannelScheduleModel" b6_earliest := C
  unfold f6_earliest at h
  show At G X 0 0 0 [(0, .ref (gB G + 148)), (1, vI x1), (2, vI x2), (3, vI x3), (4, vI x4), (5, vI x5)] [] V
  refine r_iload_n C d6_earliest_0 rfl ?_
  refine x_istore hx C d6_earliest_1 rfl ?_
  exact AtH.sw (lp6_earliest_3 hN hx C FU M (Nat.le_of_ble_eq_true rfl) (Nat.le_of_ble_eq_true rfl) h) ⟨rfl, rfl, rfl, rfl, rfl, rfl, trivial⟩
def f6_insert_L29 (x1 : Int) (x2 : Int) (x3 : Int) (x4 : Int) (x5 : Int) : Nat → Int → VV → Option (VV)
  | 0, _, _ => none
  | n + 1, x6, V => (if nrm 4 ≤ nrm x6 then some V else ck ((0:Int) ≤ ((110 + ((x5 - 1) * 4)) + x6) ∧ ((110 + ((x5 - 1) * 4)) + x6) < 2300) (ck ((0:Int) ≤ ((110 + (x5 * 4)) + x6) ∧ ((110 + (x5 * 4)) + x6) < 2300) (f6_insert_L29 x1 x2 x3 x4 x5 n (x6 + 1) (up2 V 149 (Int.toNat ((110 + (x5 * 4)) + x6)) (V 149 (Int.toNat ((110 + ((x5 - 1) * 4)) + x6)))))))
theorem lp6_insert_29 {G : GT} {X : CT} {cells slots : Nat} (hN : 154 ≤ gN G) (hx : xN X = 7) (C : Cx G X "ChannelScheduleModel" b6_insert) {x1 : Int} {x2 : Int} {x3 : Int} {x4 : Int} {x5 : Int} {o0 : Except String (Option Value)} {V9 : VV} (M : MX G X 1 0 0 none o0 V9) (hc : cells ≤ 0) (hs : slots ≤ 0) : ∀ (n : Nat) {x6 : Int} {V : VV} {W0 : VV}, f6_insert_L29 x1 x2 x3 x4 x5 n x6 V = some (W0) → At G X cells slots 73 [(0, .ref (gB G + 148)), (1, vI x1), (2, vI x2), (3, vI x3), (4, vI x4), (5, vI x5)] [] W0 → At G X cells slots 29 [(0, .ref (gB G + 148)), (1, vI x1), (2, vI x2), (3, vI x3), (4, vI x4), (5, vI x5), (6, vI x6)] [] V := by
  intro n
  induction n with
  | zero => intro x6 V W0 h _; exact nomatch h
  | succ n ih =>
    intro x6 V W0 h K
    rw [f6_insert_L29] at h
    refine r_iload C d6_insert_29 rfl ?_
    refine r_iconst C d6_insert_31 ?_
    refine x_icmpge (tgt := 73) C d6_insert_32 rfl (fun c5 => ?_) (fun c5 => ?_)
    · replace h := ite_p c5 h
      cases h
      exact AtH.sw K ⟨rfl, rfl, rfl, rfl, rfl, rfl, trivial⟩
    · replace h := ite_m c5 h
      refine r_aload_n C d6_insert_35 rfl ?_
      refine g_model_0 C d6_insert_36 f6_13 hN ?_
      refine r_bipush C d6_insert_39 (by decide +kernel) ?_
      refine r_iload C d6_insert_41 rfl ?_
      refine r_iconst C d6_insert_43 ?_
      refine r_imul C d6_insert_44 ?_
      refine r_iadd C d6_insert_45 ?_
      refine r_iload C d6_insert_46 rfl ?_
      refine r_iadd C d6_insert_48 ?_
      refine r_aload_n C d6_insert_49 rfl ?_
      refine g_model_0 C d6_insert_50 f6_13 hN ?_
      refine r_bipush C d6_insert_53 (by decide +kernel) ?_
      refine r_iload C d6_insert_55 rfl ?_
      refine r_iconst C d6_insert_57 ?_
      refine r_isub C d6_insert_58 ?_
      refine r_iconst C d6_insert_59 ?_
      refine r_imul C d6_insert_60 ?_
      refine r_iadd C d6_insert_61 ?_
      refine r_iload C d6_insert_62 rfl ?_
      refine r_iadd C d6_insert_64 ?_
      obtain ⟨c6, h⟩ := ck_of h
      refine x_iald C d6_insert_65 (ra_m hN) c6 ?_
      obtain ⟨c7, h⟩ := ck_of h
      refine x_iast C d6_insert_66 (ra_m hN) c7 ?_
      refine x_iinc hx C d6_insert_67 rfl rfl ?_
      refine r_goto (tgt := 29) C d6_insert_70 rfl ?_
      exact AtH.sw (ih h K) ⟨rfl, rfl, rfl, rfl, rfl, rfl, rfl, trivial⟩
def f6_insert_L8 (x1 : Int) (x2 : Int) (x3 : Int) (x4 : Int) : Nat → Int → VV → Option (Int × VV)
  | 0, _, _ => none
  | n + 1, x5, V => (if nrm x5 ≤ 0 then some (x5, V) else bd (f6_ofBooking V (x5 - 1) 2) (fun r3 => (if nrm r3 ≤ nrm x3 then some (x5, V) else bd (f6_insert_L29 x1 x2 x3 x4 x5 FU 0 V) (fun W8 => f6_insert_L8 x1 x2 x3 x4 n (x5 + (-1)) W8))))
theorem lp6_insert_8 {G : GT} {X : CT} {cells slots : Nat} (hN : 154 ≤ gN G) (hx : xN X = 7) (C : Cx G X "ChannelScheduleModel" b6_insert) {x1 : Int} {x2 : Int} {x3 : Int} {x4 : Int} {o0 : Except String (Option Value)} {V9 : VV} (M : MX G X 1 0 0 none o0 V9) (hc : cells ≤ 0) (hs : slots ≤ 0) : ∀ (n : Nat) {x5 : Int} {V : VV} {e5 : Int} {W0 : VV}, f6_insert_L8 x1 x2 x3 x4 n x5 V = some (e5, W0) → At G X cells slots 79 [(0, .ref (gB G + 148)), (1, vI x1), (2, vI x2), (3, vI x3), (4, vI x4), (5, vI e5)] [] W0 → At G X cells slots 8 [(0, .ref (gB G + 148)), (1, vI x1), (2, vI x2), (3, vI x3), (4, vI x4), (5, vI x5)] [] V := by
  intro n
  induction n with
  | zero => intro x5 V e5 W0 h _; exact nomatch h
  | succ n ih =>
    intro x5 V e5 W0 h K
    rw [f6_insert_L8] at h
    refine r_iload C d6_insert_8 rfl ?_
    refine x_ifle (tgt := 79) C d6_insert_10 rfl (fun c1 => ?_) (fun c1 => ?_)
    · replace h := ite_p c1 h
      cases h
      exact AtH.sw K ⟨rfl, rfl, rfl, rfl, rfl, rfl, trivial⟩
    · replace h := ite_m c1 h
      refine r_aload_n C d6_insert_13 rfl ?_
      refine r_iload C d6_insert_14 rfl ?_
      refine r_iconst C d6_insert_16 ?_
      refine r_isub C d6_insert_17 ?_
      refine r_iconst C d6_insert_18 ?_
      obtain ⟨r3, h2, h⟩ := bd_of h
      refine cV2_i C M d6_insert_19 l6_91 w6_ofBooking (rc_model hN) (ev6_ofBooking C.lt hN h2) rfl hc hs ?_
      refine r_iload_n C d6_insert_22 rfl ?_
      refine x_icmple (tgt := 79) C d6_insert_23 rfl (fun c4 => ?_) (fun c4 => ?_)
      · replace h := ite_p c4 h
        cases h
        exact AtH.sw K ⟨rfl, rfl, rfl, rfl, rfl, rfl, trivial⟩
      · replace h := ite_m c4 h
        refine r_iconst C d6_insert_26 ?_
        refine x_istore hx C d6_insert_27 rfl ?_
        obtain ⟨W8, h9, h⟩ := bd_of h
        refine AtH.sw (lp6_insert_29 hN hx C M hc hs FU h9 ?_) ⟨rfl, rfl, rfl, rfl, rfl, rfl, rfl, trivial⟩
        refine x_iinc hx C d6_insert_73 rfl rfl ?_
        refine r_goto (tgt := 8) C d6_insert_76 rfl ?_
        exact AtH.sw (ih h K) ⟨rfl, rfl, rfl, rfl, rfl, rfl, trivial⟩
def f6_insert (V : VV) (x1 : Int) (x2 : Int) (x3 : Int) (x4 : Int) : Option VV := bd2 (f6_insert_L8 x1 x2 x3 x4 FU (V 149 5) V) (fun y10 W11 => ck ((0:Int) ≤ ((110 + (y10 * 4)) + 0) ∧ ((110 + (y10 * 4)) + 0) < 2300) (ck ((0:Int) ≤ ((110 + (y10 * 4)) + 1) ∧ ((110 + (y10 * 4)) + 1) < 2300) (ck ((0:Int) ≤ ((110 + (y10 * 4)) + 2) ∧ ((110 + (y10 * 4)) + 2) < 2300) (ck ((0:Int) ≤ ((110 + (y10 * 4)) + 3) ∧ ((110 + (y10 * 4)) + 3) < 2300) (some (up2 (up2 (up2 (up2 (up2 W11 149 (Int.toNat ((110 + (y10 * 4)) + 0)) x1) 149 (Int.toNat ((110 + (y10 * 4)) + 1)) x2) 149 (Int.toNat ((110 + (y10 * 4)) + 2)) x3) 149 (Int.toNat ((110 + (y10 * 4)) + 3)) x4) 149 5 (((up2 (up2 (up2 (up2 W11 149 (Int.toNat ((110 + (y10 * 4)) + 0)) x1) 149 (Int.toNat ((110 + (y10 * 4)) + 1)) x2) 149 (Int.toNat ((110 + (y10 * 4)) + 2)) x3) 149 (Int.toNat ((110 + (y10 * 4)) + 3)) x4) 149 5) + 1)))))))
theorem ev6_insert {G : GT} {l : Launch} {V : VV} {x1 : Int} {x2 : Int} {x3 : Int} {x4 : Int} {V1 : VV} (hlt : l.stackTraces = false) (hN : 154 ≤ gN G) (h : f6_insert V x1 x2 x3 x4 = some V1) : EvX G l y6_insert b6_insert 7 none 1 0 0 [.ref (gB G + 148), vI x1, vI x2, vI x3, vI x4] V (.ok none) V1 := by
  refine ev_w hlt (by decide +kernel) rfl rfl (fun X hl hx C M => ?_)
  subst hl
  replace C : Cx G X "ChannelScheduleModel" b6_insert := C
  unfold f6_insert at h
  show At G X 0 0 0 [(0, .ref (gB G + 148)), (1, vI x1), (2, vI x2), (3, vI x3), (4, vI x4)] [] V
  refine r_aload_n C d6_insert_0 rfl ?_
  refine g_model_0 C d6_insert_1 f6_13 hN ?_
  refine r_iconst C d6_insert_4 ?_
  refine x_iald C d6_insert_5 (ra_m hN) (by omega) ?_
  refine x_istore hx C d6_insert_6 rfl ?_
  obtain ⟨y10, W11, h12, h⟩ := bd2_of h
  refine AtH.sw (lp6_insert_8 hN hx C M (Nat.le_of_ble_eq_true rfl) (Nat.le_of_ble_eq_true rfl) FU h12 ?_) ⟨rfl, rfl, rfl, rfl, rfl, rfl, trivial⟩
  refine r_aload_n C d6_insert_79 rfl ?_
  refine g_model_0 C d6_insert_80 f6_13 hN ?_
  refine r_bipush C d6_insert_83 (by decide +kernel) ?_
  refine r_iload C d6_insert_85 rfl ?_
  refine r_iconst C d6_insert_87 ?_
  refine r_imul C d6_insert_88 ?_
  refine r_iadd C d6_insert_89 ?_
  refine r_iconst C d6_insert_90 ?_
  refine r_iadd C d6_insert_91 ?_
  refine r_iload_n C d6_insert_92 rfl ?_
  obtain ⟨c13, h⟩ := ck_of h
  refine x_iast C d6_insert_93 (ra_m hN) c13 ?_
  refine r_aload_n C d6_insert_94 rfl ?_
  refine g_model_0 C d6_insert_95 f6_13 hN ?_
  refine r_bipush C d6_insert_98 (by decide +kernel) ?_
  refine r_iload C d6_insert_100 rfl ?_
  refine r_iconst C d6_insert_102 ?_
  refine r_imul C d6_insert_103 ?_
  refine r_iadd C d6_insert_104 ?_
  refine r_iconst C d6_insert_105 ?_
  refine r_iadd C d6_insert_106 ?_
  refine r_iload_n C d6_insert_107 rfl ?_
  obtain ⟨c14, h⟩ := ck_of h
  refine x_iast C d6_insert_108 (ra_m hN) c14 ?_
  refine r_aload_n C d6_insert_109 rfl ?_
  refine g_model_0 C d6_insert_110 f6_13 hN ?_
  refine r_bipush C d6_insert_113 (by decide +kernel) ?_
  refine r_iload C d6_insert_115 rfl ?_
  refine r_iconst C d6_insert_117 ?_
  refine r_imul C d6_insert_118 ?_
  refine r_iadd C d6_insert_119 ?_
  refine r_iconst C d6_insert_120 ?_
  refine r_iadd C d6_insert_121 ?_
  refine r_iload_n C d6_insert_122 rfl ?_
  obtain ⟨c15, h⟩ := ck_of h
  refine x_iast C d6_insert_123 (ra_m hN) c15 ?_
  refine r_aload_n C d6_insert_124 rfl ?_
  refine g_model_0 C d6_insert_125 f6_13 hN ?_
  refine r_bipush C d6_insert_128 (by decide +kernel) ?_
  refine r_iload C d6_insert_130 rfl ?_
  refine r_iconst C d6_insert_132 ?_
  refine r_imul C d6_insert_133 ?_
  refine r_iadd C d6_insert_134 ?_
  refine r_iconst C d6_insert_135 ?_
  refine r_iadd C d6_insert_136 ?_
  refine r_iload C d6_insert_137 rfl ?_
  obtain ⟨c16, h⟩ := ck_of h
  refine x_iast C d6_insert_139 (ra_m hN) c16 ?_
  refine r_aload_n C d6_insert_140 rfl ?_
  refine g_model_0 C d6_insert_141 f6_13 hN ?_
  refine r_iconst C d6_insert_144 ?_
  refine r_dup2 C d6_insert_145 rfl rfl ?_
  refine x_iald C d6_insert_146 (ra_m hN) (by omega) ?_
  refine r_iconst C d6_insert_147 ?_
  refine r_iadd C d6_insert_148 ?_
  refine x_iast C d6_insert_149 (ra_m hN) (by omega) ?_
  exact e_v C M d6_insert_150 (Nat.le_of_ble_eq_true rfl) (Nat.le_of_ble_eq_true rfl) h
def f6_addBooking (V : VV) (x1 : Int) (x2 : Int) (x3 : Int) : Option VV := bd (f6_transit V x1) (fun r2 => bd (f6_insert V x1 x2 x3 (x3 + r2)) (fun W4 => some (up2 W4 149 7 ((W4 149 7) + 1))))
theorem ev6_addBooking {G : GT} {l : Launch} {V : VV} {x1 : Int} {x2 : Int} {x3 : Int} {V1 : VV} (hlt : l.stackTraces = false) (hN : 154 ≤ gN G) (h : f6_addBooking V x1 x2 x3 = some V1) : EvX G l y6_addBooking b6_addBooking 4 none 2 0 0 [.ref (gB G + 148), vI x1, vI x2, vI x3] V (.ok none) V1 := by
  refine ev_w hlt (by decide +kernel) rfl rfl (fun X hl hx C M => ?_)
  subst hl
  replace C : Cx G X "ChannelScheduleModel" b6_addBooking := C
  unfold f6_addBooking at h
  show At G X 0 0 0 [(0, .ref (gB G + 148)), (1, vI x1), (2, vI x2), (3, vI x3)] [] V
  refine r_aload_n C d6_addBooking_0 rfl ?_
  refine r_iload_n C d6_addBooking_1 rfl ?_
  refine r_iload_n C d6_addBooking_2 rfl ?_
  refine r_iload_n C d6_addBooking_3 rfl ?_
  refine r_iload_n C d6_addBooking_4 rfl ?_
  refine r_aload_n C d6_addBooking_5 rfl ?_
  refine r_iload_n C d6_addBooking_6 rfl ?_
  obtain ⟨r2, h1, h⟩ := bd_of h
  refine cV1_i C M d6_addBooking_7 l6_94 w6_transit (rc_model hN) (ev6_transit C.lt hN h1) rfl (Nat.le_of_ble_eq_true rfl) (Nat.le_of_ble_eq_true rfl) ?_
  refine r_iadd C d6_addBooking_10 ?_
  obtain ⟨W4, h3, h⟩ := bd_of h
  refine cV4_v C M d6_addBooking_11 l6_106 w6_insert (rc_model hN) (ev6_insert C.lt hN h3) rfl (Nat.le_of_ble_eq_true rfl) (Nat.le_of_ble_eq_true rfl) ?_
  refine r_aload_n C d6_addBooking_14 rfl ?_
  refine g_model_0 C d6_addBooking_15 f6_13 hN ?_
  refine r_bipush C d6_addBooking_18 (by decide +kernel) ?_
  refine r_dup2 C d6_addBooking_20 rfl rfl ?_
  refine x_iald C d6_addBooking_21 (ra_m hN) (by omega) ?_
  refine r_iconst C d6_addBooking_22 ?_
  refine r_iadd C d6_addBooking_23 ?_
  refine x_iast C d6_addBooking_24 (ra_m hN) (by omega) ?_
  exact e_v C M d6_addBooking_25 (Nat.le_of_ble_eq_true rfl) (Nat.le_of_ble_eq_true rfl) h
def f6_removeBooking_L4 : Nat → Int → VV → Option (VV)
  | 0, _, _ => none
  | n + 1, x2, V => (if nrm (((V 149 5) - 1) * 4) ≤ nrm x2 then some V else ck ((0:Int) ≤ ((110 + x2) + 4) ∧ ((110 + x2) + 4) < 2300) (ck ((0:Int) ≤ (110 + x2) ∧ (110 + x2) < 2300) (f6_removeBooking_L4 n (x2 + 1) (up2 V 149 (Int.toNat (110 + x2)) (V 149 (Int.toNat ((110 + x2) + 4)))))))
theorem lp6_removeBooking_4 {G : GT} {X : CT} {cells slots : Nat} (hN : 154 ≤ gN G) (hx : xN X = 3) (C : Cx G X "ChannelScheduleModel" b6_removeBooking) {o0 : Except String (Option Value)} {V9 : VV} (M : MX G X 0 0 0 none o0 V9) (hc : cells ≤ 0) (hs : slots ≤ 0) : ∀ (n : Nat) {x2 : Int} {V : VV} {W0 : VV}, f6_removeBooking_L4 n x2 V = some (W0) → At G X cells slots 44 [(0, .ref (gB G + 148))] [] W0 → At G X cells slots 4 [(0, .ref (gB G + 148)), (2, vI x2)] [] V := by
  intro n
  induction n with
  | zero => intro x2 V W0 h _; exact nomatch h
  | succ n ih =>
    intro x2 V W0 h K
    rw [f6_removeBooking_L4] at h
    refine r_iload_n C d6_removeBooking_4 rfl ?_
    refine r_aload_n C d6_removeBooking_5 rfl ?_
    refine g_model_0 C d6_removeBooking_6 f6_13 hN ?_
    refine r_iconst C d6_removeBooking_9 ?_
    refine x_iald C d6_removeBooking_10 (ra_m hN) (by omega) ?_
    refine r_iconst C d6_removeBooking_11 ?_
    refine r_isub C d6_removeBooking_12 ?_
    refine r_iconst C d6_removeBooking_13 ?_
    refine r_imul C d6_removeBooking_14 ?_
    refine x_icmpge (tgt := 44) C d6_removeBooking_15 rfl (fun c1 => ?_) (fun c1 => ?_)
    · replace h := ite_p c1 h
      cases h
      exact AtH.sw K ⟨rfl, trivial⟩
    · replace h := ite_m c1 h
      refine r_aload_n C d6_removeBooking_18 rfl ?_
      refine g_model_0 C d6_removeBooking_19 f6_13 hN ?_
      refine r_bipush C d6_removeBooking_22 (by decide +kernel) ?_
      refine r_iload_n C d6_removeBooking_24 rfl ?_
      refine r_iadd C d6_removeBooking_25 ?_
      refine r_aload_n C d6_removeBooking_26 rfl ?_
      refine g_model_0 C d6_removeBooking_27 f6_13 hN ?_
      refine r_bipush C d6_removeBooking_30 (by decide +kernel) ?_
      refine r_iload_n C d6_removeBooking_32 rfl ?_
      refine r_iadd C d6_removeBooking_33 ?_
      refine r_iconst C d6_removeBooking_34 ?_
      refine r_iadd C d6_removeBooking_35 ?_
      obtain ⟨c2, h⟩ := ck_of h
      refine x_iald C d6_removeBooking_36 (ra_m hN) c2 ?_
      obtain ⟨c3, h⟩ := ck_of h
      refine x_iast C d6_removeBooking_37 (ra_m hN) c3 ?_
      refine x_iinc hx C d6_removeBooking_38 rfl rfl ?_
      refine r_goto (tgt := 4) C d6_removeBooking_41 rfl ?_
      exact AtH.sw (ih h K) ⟨rfl, rfl, trivial⟩
def f6_removeBooking (V : VV) (x1 : Int) : Option VV := bd (f6_removeBooking_L4 FU (x1 * 4) V) (fun W4 => some (up2 W4 149 5 ((W4 149 5) - 1)))
theorem ev6_removeBooking {G : GT} {l : Launch} {V : VV} {x1 : Int} {V1 : VV} (hlt : l.stackTraces = false) (hN : 154 ≤ gN G) (h : f6_removeBooking V x1 = some V1) : EvX G l y6_removeBooking b6_removeBooking 3 none 0 0 0 [.ref (gB G + 148), vI x1] V (.ok none) V1 := by
  refine ev_w hlt (by decide +kernel) rfl rfl (fun X hl hx C M => ?_)
  subst hl
  replace C : Cx G X "ChannelScheduleModel" b6_removeBooking := C
  unfold f6_removeBooking at h
  show At G X 0 0 0 [(0, .ref (gB G + 148)), (1, vI x1)] [] V
  refine r_iload_n C d6_removeBooking_0 rfl ?_
  refine r_iconst C d6_removeBooking_1 ?_
  refine r_imul C d6_removeBooking_2 ?_
  refine x_istore_n hx C d6_removeBooking_3 rfl ?_
  obtain ⟨W4, h5, h⟩ := bd_of h
  refine AtH.sw (lp6_removeBooking_4 hN hx C M (Nat.le_of_ble_eq_true rfl) (Nat.le_of_ble_eq_true rfl) FU h5 ?_) ⟨rfl, rfl, trivial⟩
  refine r_aload_n C d6_removeBooking_44 rfl ?_
  refine g_model_0 C d6_removeBooking_45 f6_13 hN ?_
  refine r_iconst C d6_removeBooking_48 ?_
  refine r_dup2 C d6_removeBooking_49 rfl rfl ?_
  refine x_iald C d6_removeBooking_50 (ra_m hN) (by omega) ?_
  refine r_iconst C d6_removeBooking_51 ?_
  refine r_isub C d6_removeBooking_52 ?_
  refine x_iast C d6_removeBooking_53 (ra_m hN) (by omega) ?_
  exact e_v C M d6_removeBooking_54 (Nat.le_of_ble_eq_true rfl) (Nat.le_of_ble_eq_true rfl) h
def f6_removeRequest_L4 : Nat → Int → VV → Option (VV)
  | 0, _, _ => none
  | n + 1, x2, V => (if nrm (((V 149 6) - 1) * 4) ≤ nrm x2 then some V else ck ((0:Int) ≤ ((194 + x2) + 4) ∧ ((194 + x2) + 4) < 2300) (ck ((0:Int) ≤ (194 + x2) ∧ (194 + x2) < 2300) (f6_removeRequest_L4 n (x2 + 1) (up2 V 149 (Int.toNat (194 + x2)) (V 149 (Int.toNat ((194 + x2) + 4)))))))
theorem lp6_removeRequest_4 {G : GT} {X : CT} {cells slots : Nat} (hN : 154 ≤ gN G) (hx : xN X = 3) (C : Cx G X "ChannelScheduleModel" b6_removeRequest) {o0 : Except String (Option Value)} {V9 : VV} (M : MX G X 0 0 0 none o0 V9) (hc : cells ≤ 0) (hs : slots ≤ 0) : ∀ (n : Nat) {x2 : Int} {V : VV} {W0 : VV}, f6_removeRequest_L4 n x2 V = some (W0) → At G X cells slots 47 [(0, .ref (gB G + 148))] [] W0 → At G X cells slots 4 [(0, .ref (gB G + 148)), (2, vI x2)] [] V := by
  intro n
  induction n with
  | zero => intro x2 V W0 h _; exact nomatch h
  | succ n ih =>
    intro x2 V W0 h K
    rw [f6_removeRequest_L4] at h
    refine r_iload_n C d6_removeRequest_4 rfl ?_
    refine r_aload_n C d6_removeRequest_5 rfl ?_
    refine g_model_0 C d6_removeRequest_6 f6_13 hN ?_
    refine r_bipush C d6_removeRequest_9 (by decide +kernel) ?_
    refine x_iald C d6_removeRequest_11 (ra_m hN) (by omega) ?_
    refine r_iconst C d6_removeRequest_12 ?_
    refine r_isub C d6_removeRequest_13 ?_
    refine r_iconst C d6_removeRequest_14 ?_
    refine r_imul C d6_removeRequest_15 ?_
    refine x_icmpge (tgt := 47) C d6_removeRequest_16 rfl (fun c1 => ?_) (fun c1 => ?_)
    · replace h := ite_p c1 h
      cases h
      exact AtH.sw K ⟨rfl, trivial⟩
    · replace h := ite_m c1 h
      refine r_aload_n C d6_removeRequest_19 rfl ?_
      refine g_model_0 C d6_removeRequest_20 f6_13 hN ?_
      refine r_sipush C d6_removeRequest_23 (by decide +kernel) ?_
      refine r_iload_n C d6_removeRequest_26 rfl ?_
      refine r_iadd C d6_removeRequest_27 ?_
      refine r_aload_n C d6_removeRequest_28 rfl ?_
      refine g_model_0 C d6_removeRequest_29 f6_13 hN ?_
      refine r_sipush C d6_removeRequest_32 (by decide +kernel) ?_
      refine r_iload_n C d6_removeRequest_35 rfl ?_
      refine r_iadd C d6_removeRequest_36 ?_
      refine r_iconst C d6_removeRequest_37 ?_
      refine r_iadd C d6_removeRequest_38 ?_
      obtain ⟨c2, h⟩ := ck_of h
      refine x_iald C d6_removeRequest_39 (ra_m hN) c2 ?_
      obtain ⟨c3, h⟩ := ck_of h
      refine x_iast C d6_removeRequest_40 (ra_m hN) c3 ?_
      refine x_iinc hx C d6_removeRequest_41 rfl rfl ?_
      refine r_goto (tgt := 4) C d6_removeRequest_44 rfl ?_
      exact AtH.sw (ih h K) ⟨rfl, rfl, trivial⟩
def f6_removeRequest (V : VV) (x1 : Int) : Option VV := bd (f6_removeRequest_L4 FU (x1 * 4) V) (fun W4 => some (up2 W4 149 6 ((W4 149 6) - 1)))
theorem ev6_removeRequest {G : GT} {l : Launch} {V : VV} {x1 : Int} {V1 : VV} (hlt : l.stackTraces = false) (hN : 154 ≤ gN G) (h : f6_removeRequest V x1 = some V1) : EvX G l y6_removeRequest b6_removeRequest 3 none 0 0 0 [.ref (gB G + 148), vI x1] V (.ok none) V1 := by
  refine ev_w hlt (by decide +kernel) rfl rfl (fun X hl hx C M => ?_)
  subst hl
  replace C : Cx G X "ChannelScheduleModel" b6_removeRequest := C
  unfold f6_removeRequest at h
  show At G X 0 0 0 [(0, .ref (gB G + 148)), (1, vI x1)] [] V
  refine r_iload_n C d6_removeRequest_0 rfl ?_
  refine r_iconst C d6_removeRequest_1 ?_
  refine r_imul C d6_removeRequest_2 ?_
  refine x_istore_n hx C d6_removeRequest_3 rfl ?_
  obtain ⟨W4, h5, h⟩ := bd_of h
  refine AtH.sw (lp6_removeRequest_4 hN hx C M (Nat.le_of_ble_eq_true rfl) (Nat.le_of_ble_eq_true rfl) FU h5 ?_) ⟨rfl, rfl, trivial⟩
  refine r_aload_n C d6_removeRequest_47 rfl ?_
  refine g_model_0 C d6_removeRequest_48 f6_13 hN ?_
  refine r_bipush C d6_removeRequest_51 (by decide +kernel) ?_
  refine r_dup2 C d6_removeRequest_53 rfl rfl ?_
  refine x_iald C d6_removeRequest_54 (ra_m hN) (by omega) ?_
  refine r_iconst C d6_removeRequest_55 ?_
  refine r_isub C d6_removeRequest_56 ?_
  refine x_iast C d6_removeRequest_57 (ra_m hN) (by omega) ?_
  exact e_v C M d6_removeRequest_58 (Nat.le_of_ble_eq_true rfl) (Nat.le_of_ble_eq_true rfl) h
def f6_servingMinute (V : VV) (x1 : Int) (x2 : Int) (x3 : Int) (x4 : Int) : Option Int := (if nrm (V 149 5) = nrm 20 then some (-1) else bd ((if nrm x3 ≤ nrm (V 149 3) then some (V 149 3) else some (x3))) (fun y3 => bd (f6_earliest V x1 x2 y3 x4 (-1)) (fun r7 => some r7)))
theorem ev6_servingMinute {G : GT} {l : Launch} {V : VV} {x1 : Int} {x2 : Int} {x3 : Int} {x4 : Int} {r : Int} (hlt : l.stackTraces = false) (hN : 154 ≤ gN G) (h : f6_servingMinute V x1 x2 x3 x4 = some r) : EvX G l y6_servingMinute b6_servingMinute 5 (some .int) 5 0 0 [.ref (gB G + 148), vI x1, vI x2, vI x3, vI x4] V (.ok (some (vI r))) V := by
  refine ev_w hlt (by decide +kernel) rfl rfl (fun X hl hx C M => ?_)
  subst hl
  replace C : Cx G X "ChannelScheduleModel" b6_servingMinute := C
  unfold f6_servingMinute at h
  show At G X 0 0 0 [(0, .ref (gB G + 148)), (1, vI x1), (2, vI x2), (3, vI x3), (4, vI x4)] [] V
  refine r_aload_n C d6_servingMinute_0 rfl ?_
  refine g_model_0 C d6_servingMinute_1 f6_13 hN ?_
  refine r_iconst C d6_servingMinute_4 ?_
  refine x_iald C d6_servingMinute_5 (ra_m hN) (by omega) ?_
  refine r_bipush C d6_servingMinute_6 (by decide +kernel) ?_
  refine x_icmpne (tgt := 13) C d6_servingMinute_8 rfl (fun c1 => ?_) (fun c1 => ?_)
  · replace h := ite_p c1 h
    refine r_iconst C d6_servingMinute_11 ?_
    exact e_i C M d6_servingMinute_12 (Nat.le_of_ble_eq_true rfl) (Nat.le_of_ble_eq_true rfl) h
  · replace h := ite_m c1 h
    refine r_aload_n C d6_servingMinute_13 rfl ?_
    refine r_iload_n C d6_servingMinute_14 rfl ?_
    refine r_iload_n C d6_servingMinute_15 rfl ?_
    refine r_iload_n C d6_servingMinute_16 rfl ?_
    refine r_aload_n C d6_servingMinute_17 rfl ?_
    refine g_model_0 C d6_servingMinute_18 f6_13 hN ?_
    refine r_iconst C d6_servingMinute_21 ?_
    refine x_iald C d6_servingMinute_22 (ra_m hN) (by omega) ?_
    obtain ⟨y3, h4, h⟩ := bd_of h
    suffices J5 : At G X 0 0 36 [(4, vI x4)] [vI y3, vI x2, vI x1, .ref (gB G + 148)] V by
      replace h := h4
      refine x_icmple (tgt := 30) C d6_servingMinute_23 rfl (fun c2 => ?_) (fun c2 => ?_)
      · replace h := ite_p c2 h
        refine r_aload_n C d6_servingMinute_30 rfl ?_
        refine g_model_0 C d6_servingMinute_31 f6_13 hN ?_
        refine r_iconst C d6_servingMinute_34 ?_
        refine x_iald C d6_servingMinute_35 (ra_m hN) (by omega) ?_
        cases h
        exact AtH.sw J5 ⟨rfl, trivial⟩
      · replace h := ite_m c2 h
        refine r_iload_n C d6_servingMinute_26 rfl ?_
        refine r_goto (tgt := 36) C d6_servingMinute_27 rfl ?_
        cases h
        exact AtH.sw J5 ⟨rfl, trivial⟩
    refine r_iload C d6_servingMinute_36 rfl ?_
    refine r_iconst C d6_servingMinute_38 ?_
    obtain ⟨r7, h6, h⟩ := bd_of h
    refine cV5_i C M d6_servingMinute_39 l6_110 w6_earliest (rc_model hN) (ev6_earliest C.lt hN h6) rfl (Nat.le_of_ble_eq_true rfl) (Nat.le_of_ble_eq_true rfl) ?_
    exact e_i C M d6_servingMinute_42 (Nat.le_of_ble_eq_true rfl) (Nat.le_of_ble_eq_true rfl) h
def f6_process_L4 : Nat → Int → Int → VV → Option (Int × VV)
  | 0, _, _, _ => none
  | n + 1, x1, x2, V => (if nrm (V 149 6) ≤ nrm x2 then some (x1, V) else bd (f6_ofRequest V x2 0) (fun r3 => bd (f6_ofRequest V x2 1) (fun r5 => bd (f6_ofRequest V x2 2) (fun r7 => bd (f6_ofRequest V x2 3) (fun r9 => bd (f6_servingMinute V r3 r5 r7 r9) (fun r11 => (if nrm r11 = nrm (-1) then f6_process_L4 n x1 (x2 + 1) V else bd (f6_addBooking V r3 r5 r11) (fun W14 => bd (f6_removeRequest W14 x2) (fun W16 => f6_process_L4 n (x1 + 1) x2 W16)))))))))
theorem lp6_process_4 {G : GT} {X : CT} {cells slots : Nat} (hN : 154 ≤ gN G) (hx : xN X = 6) (C : Cx G X "ChannelScheduleModel" b6_process) {o0 : Except String (Option Value)} {V9 : VV} (M : MX G X 6 0 0 (some .int) o0 V9) (hc : cells ≤ 0) (hs : slots ≤ 0) : ∀ (n : Nat) {x1 : Int} {x2 : Int} {V : VV} {e1 : Int} {W0 : VV}, f6_process_L4 n x1 x2 V = some (e1, W0) → At G X cells slots 83 [(0, .ref (gB G + 148)), (1, vI e1)] [] W0 → At G X cells slots 4 [(0, .ref (gB G + 148)), (1, vI x1), (2, vI x2)] [] V := by
  intro n
  induction n with
  | zero => intro x1 x2 V e1 W0 h _; exact nomatch h
  | succ n ih =>
    intro x1 x2 V e1 W0 h K
    rw [f6_process_L4] at h
    refine r_iload_n C d6_process_4 rfl ?_
    refine r_aload_n C d6_process_5 rfl ?_
    refine g_model_0 C d6_process_6 f6_13 hN ?_
    refine r_bipush C d6_process_9 (by decide +kernel) ?_
    refine x_iald C d6_process_11 (ra_m hN) (by omega) ?_
    refine x_icmpge (tgt := 83) C d6_process_12 rfl (fun c1 => ?_) (fun c1 => ?_)
    · replace h := ite_p c1 h
      cases h
      exact AtH.sw K ⟨rfl, rfl, trivial⟩
    · replace h := ite_m c1 h
      refine r_aload_n C d6_process_15 rfl ?_
      refine r_iload_n C d6_process_16 rfl ?_
      refine r_iconst C d6_process_17 ?_
      obtain ⟨r3, h2, h⟩ := bd_of h
      refine cV2_i C M d6_process_18 l6_114 w6_ofRequest (rc_model hN) (ev6_ofRequest C.lt hN h2) rfl hc hs ?_
      refine x_istore_n hx C d6_process_21 rfl ?_
      refine r_aload_n C d6_process_22 rfl ?_
      refine r_iload_n C d6_process_23 rfl ?_
      refine r_iconst C d6_process_24 ?_
      obtain ⟨r5, h4, h⟩ := bd_of h
      refine cV2_i C M d6_process_25 l6_114 w6_ofRequest (rc_model hN) (ev6_ofRequest C.lt hN h4) rfl hc hs ?_
      refine x_istore hx C d6_process_28 rfl ?_
      refine r_aload_n C d6_process_30 rfl ?_
      refine r_iload_n C d6_process_31 rfl ?_
      refine r_iload C d6_process_32 rfl ?_
      refine r_aload_n C d6_process_34 rfl ?_
      refine r_iload_n C d6_process_35 rfl ?_
      refine r_iconst C d6_process_36 ?_
      obtain ⟨r7, h6, h⟩ := bd_of h
      refine cV2_i C M d6_process_37 l6_114 w6_ofRequest (rc_model hN) (ev6_ofRequest C.lt hN h6) rfl hc hs ?_
      refine r_aload_n C d6_process_40 rfl ?_
      refine r_iload_n C d6_process_41 rfl ?_
      refine r_iconst C d6_process_42 ?_
      obtain ⟨r9, h8, h⟩ := bd_of h
      refine cV2_i C M d6_process_43 l6_114 w6_ofRequest (rc_model hN) (ev6_ofRequest C.lt hN h8) rfl hc hs ?_
      obtain ⟨r11, h10, h⟩ := bd_of h
      refine cV4_i C M d6_process_46 l6_117 w6_servingMinute (rc_model hN) (ev6_servingMinute C.lt hN h10) rfl hc hs ?_
      refine x_istore hx C d6_process_49 rfl ?_
      refine r_iload C d6_process_51 rfl ?_
      refine r_iconst C d6_process_53 ?_
      refine x_icmpne (tgt := 63) C d6_process_54 rfl (fun c12 => ?_) (fun c12 => ?_)
      · replace h := ite_p c12 h
        refine x_iinc hx C d6_process_57 rfl rfl ?_
        refine r_goto (tgt := 4) C d6_process_60 rfl ?_
        exact AtH.sw (ih h K) ⟨rfl, rfl, rfl, trivial⟩
      · replace h := ite_m c12 h
        refine r_aload_n C d6_process_63 rfl ?_
        refine r_iload_n C d6_process_64 rfl ?_
        refine r_iload C d6_process_65 rfl ?_
        refine r_iload C d6_process_67 rfl ?_
        obtain ⟨W14, h13, h⟩ := bd_of h
        refine cV3_v C M d6_process_69 l6_120 w6_addBooking (rc_model hN) (ev6_addBooking C.lt hN h13) rfl hc hs ?_
        refine r_aload_n C d6_process_72 rfl ?_
        refine r_iload_n C d6_process_73 rfl ?_
        obtain ⟨W16, h15, h⟩ := bd_of h
        refine cV1_v C M d6_process_74 l6_124 w6_removeRequest (rc_model hN) (ev6_removeRequest C.lt hN h15) rfl hc hs ?_
        refine x_iinc hx C d6_process_77 rfl rfl ?_
        refine r_goto (tgt := 4) C d6_process_80 rfl ?_
        exact AtH.sw (ih h K) ⟨rfl, rfl, rfl, trivial⟩
def f6_process (V : VV) : Option (Int × VV) := bd2 (f6_process_L4 FU 0 0 V) (fun y17 W18 => some (y17, up2 W18 149 9 ((W18 149 9) + y17)))
theorem ev6_process {G : GT} {l : Launch} {V : VV} {r : Int} {V1 : VV} (hlt : l.stackTraces = false) (hN : 154 ≤ gN G) (h : f6_process V = some (r, V1)) : EvX G l y6_process b6_process 6 (some .int) 6 0 0 [.ref (gB G + 148)] V (.ok (some (vI r))) V1 := by
  refine ev_w hlt (by decide +kernel) rfl rfl (fun X hl hx C M => ?_)
  subst hl
  replace C : Cx G X "ChannelScheduleModel" b6_process := C
  unfold f6_process at h
  show At G X 0 0 0 [(0, .ref (gB G + 148))] [] V
  refine r_iconst C d6_process_0 ?_
  refine x_istore_n hx C d6_process_1 rfl ?_
  refine r_iconst C d6_process_2 ?_
  refine x_istore_n hx C d6_process_3 rfl ?_
  obtain ⟨y17, W18, h19, h⟩ := bd2_of h
  refine AtH.sw (lp6_process_4 hN hx C M (Nat.le_of_ble_eq_true rfl) (Nat.le_of_ble_eq_true rfl) FU h19 ?_) ⟨rfl, rfl, rfl, trivial⟩
  refine r_aload_n C d6_process_83 rfl ?_
  refine g_model_0 C d6_process_84 f6_13 hN ?_
  refine r_bipush C d6_process_87 (by decide +kernel) ?_
  refine r_dup2 C d6_process_89 rfl rfl ?_
  refine x_iald C d6_process_90 (ra_m hN) (by omega) ?_
  refine r_iload_n C d6_process_91 rfl ?_
  refine r_iadd C d6_process_92 ?_
  refine x_iast C d6_process_93 (ra_m hN) (by omega) ?_
  refine r_iload_n C d6_process_94 rfl ?_
  exact e_iv C M d6_process_95 (Nat.le_of_ble_eq_true rfl) (Nat.le_of_ble_eq_true rfl) h
def f6_cancelIt (V : VV) (x1 : Int) : Option (Int × VV) := bd (f6_removeBooking V x1) (fun W2 => bd2 (f6_process (up2 W2 149 8 ((W2 149 8) + 1))) (fun r4 W5 => some (r4, W5)))
theorem ev6_cancelIt {G : GT} {l : Launch} {V : VV} {x1 : Int} {r : Int} {V1 : VV} (hlt : l.stackTraces = false) (hN : 154 ≤ gN G) (h : f6_cancelIt V x1 = some (r, V1)) : EvX G l y6_cancelIt b6_cancelIt 2 (some .int) 7 0 0 [.ref (gB G + 148), vI x1] V (.ok (some (vI r))) V1 := by
  refine ev_w hlt (by decide +kernel) rfl rfl (fun X hl hx C M => ?_)
  subst hl
  replace C : Cx G X "ChannelScheduleModel" b6_cancelIt := C
  unfold f6_cancelIt at h
  show At G X 0 0 0 [(0, .ref (gB G + 148)), (1, vI x1)] [] V
  refine r_aload_n C d6_cancelIt_0 rfl ?_
  refine r_iload_n C d6_cancelIt_1 rfl ?_
  obtain ⟨W2, h1, h⟩ := bd_of h
  refine cV1_v C M d6_cancelIt_2 l6_128 w6_removeBooking (rc_model hN) (ev6_removeBooking C.lt hN h1) rfl (Nat.le_of_ble_eq_true rfl) (Nat.le_of_ble_eq_true rfl) ?_
  refine r_aload_n C d6_cancelIt_5 rfl ?_
  refine g_model_0 C d6_cancelIt_6 f6_13 hN ?_
  refine r_bipush C d6_cancelIt_9 (by decide +kernel) ?_
  refine r_dup2 C d6_cancelIt_11 rfl rfl ?_
  refine x_iald C d6_cancelIt_12 (ra_m hN) (by omega) ?_
  refine r_iconst C d6_cancelIt_13 ?_
  refine r_iadd C d6_cancelIt_14 ?_
  refine x_iast C d6_cancelIt_15 (ra_m hN) (by omega) ?_
  refine r_aload_n C d6_cancelIt_16 rfl ?_
  obtain ⟨r4, W5, h3, h⟩ := bd2_of h
  refine cV0_i C M d6_cancelIt_17 l6_131 w6_process (rc_model hN) (ev6_process C.lt hN h3) rfl (Nat.le_of_ble_eq_true rfl) (Nat.le_of_ble_eq_true rfl) ?_
  exact e_iv C M d6_cancelIt_20 (Nat.le_of_ble_eq_true rfl) (Nat.le_of_ble_eq_true rfl) h
def f6_durationOf (V : VV) (x1 : Int) : Option Int := bd (f6_ofBooking V x1 3) (fun r2 => bd (f6_ofBooking V x1 2) (fun r4 => some (r2 - r4)))
theorem ev6_durationOf {G : GT} {l : Launch} {V : VV} {x1 : Int} {r : Int} (hlt : l.stackTraces = false) (hN : 154 ≤ gN G) (h : f6_durationOf V x1 = some r) : EvX G l y6_durationOf b6_durationOf 2 (some .int) 1 0 0 [.ref (gB G + 148), vI x1] V (.ok (some (vI r))) V := by
  refine ev_w hlt (by decide +kernel) rfl rfl (fun X hl hx C M => ?_)
  subst hl
  replace C : Cx G X "ChannelScheduleModel" b6_durationOf := C
  unfold f6_durationOf at h
  show At G X 0 0 0 [(0, .ref (gB G + 148)), (1, vI x1)] [] V
  refine r_aload_n C d6_durationOf_0 rfl ?_
  refine r_iload_n C d6_durationOf_1 rfl ?_
  refine r_iconst C d6_durationOf_2 ?_
  obtain ⟨r2, h1, h⟩ := bd_of h
  refine cV2_i C M d6_durationOf_3 l6_91 w6_ofBooking (rc_model hN) (ev6_ofBooking C.lt hN h1) rfl (Nat.le_of_ble_eq_true rfl) (Nat.le_of_ble_eq_true rfl) ?_
  refine r_aload_n C d6_durationOf_6 rfl ?_
  refine r_iload_n C d6_durationOf_7 rfl ?_
  refine r_iconst C d6_durationOf_8 ?_
  obtain ⟨r4, h3, h⟩ := bd_of h
  refine cV2_i C M d6_durationOf_9 l6_91 w6_ofBooking (rc_model hN) (ev6_ofBooking C.lt hN h3) rfl (Nat.le_of_ble_eq_true rfl) (Nat.le_of_ble_eq_true rfl) ?_
  refine r_isub C d6_durationOf_12 ?_
  exact e_i C M d6_durationOf_13 (Nat.le_of_ble_eq_true rfl) (Nat.le_of_ble_eq_true rfl) h
def f6_fitsAt_L2 (V : VV) (x1 : Int) (x2 : Int) : Nat → Int → Option Int
  | 0, _ => none
  | n + 1, x3 => (if nrm (V 149 5) ≤ nrm x3 then some 1 else (if nrm x3 = nrm x1 then f6_fitsAt_L2 V x1 x2 n (x3 + 1) else bd (f6_ofBooking V x1 1) (fun r4 => bd (f6_durationOf V x1) (fun r6 => bd (f6_conflictsWith V x3 r4 x2 (x2 + r6)) (fun r8 => (if nrm r8 = 0 then f6_fitsAt_L2 V x1 x2 n (x3 + 1) else some 0))))))
theorem lp6_fitsAt_2 {G : GT} {X : CT} {cells slots : Nat} {V : VV} (hN : 154 ≤ gN G) (hx : xN X = 4) (C : Cx G X "ChannelScheduleModel" b6_fitsAt) {x1 : Int} {x2 : Int} : ∀ (n : Nat) {x3 : Int} {r : Int}, MX G X 3 0 0 (some .boolean) (.ok (some (vI r))) V → cells ≤ 0 → slots ≤ 0 → f6_fitsAt_L2 V x1 x2 n x3 = some r → At G X cells slots 2 [(0, .ref (gB G + 148)), (1, vI x1), (2, vI x2), (3, vI x3)] [] V := by
  intro n
  induction n with
  | zero => intro x3 r _ _ _ h; exact nomatch h
  | succ n ih =>
    intro x3 r M hc hs h
    rw [f6_fitsAt_L2] at h
    refine r_iload_n C d6_fitsAt_2 rfl ?_
    refine r_aload_n C d6_fitsAt_3 rfl ?_
    refine g_model_0 C d6_fitsAt_4 f6_13 hN ?_
    refine r_iconst C d6_fitsAt_7 ?_
    refine x_iald C d6_fitsAt_8 (ra_m hN) (by omega) ?_
    refine x_icmpge (tgt := 47) C d6_fitsAt_9 rfl (fun c1 => ?_) (fun c1 => ?_)
    · replace h := ite_p c1 h
      refine r_iconst C d6_fitsAt_47 ?_
      exact e_z C M d6_fitsAt_48 hc hs (Or.inr rfl) h
    · replace h := ite_m c1 h
      refine r_iload_n C d6_fitsAt_12 rfl ?_
      refine r_iload_n C d6_fitsAt_13 rfl ?_
      refine x_icmpeq (tgt := 41) C d6_fitsAt_14 rfl (fun c2 => ?_) (fun c2 => ?_)
      · replace h := ite_p c2 h
        refine x_iinc hx C d6_fitsAt_41 rfl rfl ?_
        refine r_goto (tgt := 2) C d6_fitsAt_44 rfl ?_
        exact AtH.sw (ih M hc hs h) ⟨rfl, rfl, rfl, rfl, trivial⟩
      · replace h := ite_m c2 h
        refine r_aload_n C d6_fitsAt_17 rfl ?_
        refine r_iload_n C d6_fitsAt_18 rfl ?_
        refine r_aload_n C d6_fitsAt_19 rfl ?_
        refine r_iload_n C d6_fitsAt_20 rfl ?_
        refine r_iconst C d6_fitsAt_21 ?_
        obtain ⟨r4, h3, h⟩ := bd_of h
        refine cV2_i C M d6_fitsAt_22 l6_91 w6_ofBooking (rc_model hN) (ev6_ofBooking C.lt hN h3) rfl hc hs ?_
        refine r_iload_n C d6_fitsAt_25 rfl ?_
        refine r_iload_n C d6_fitsAt_26 rfl ?_
        refine r_aload_n C d6_fitsAt_27 rfl ?_
        refine r_iload_n C d6_fitsAt_28 rfl ?_
        obtain ⟨r6, h5, h⟩ := bd_of h
        refine cV1_i C M d6_fitsAt_29 l6_134 w6_durationOf (rc_model hN) (ev6_durationOf C.lt hN h5) rfl hc hs ?_
        refine r_iadd C d6_fitsAt_32 ?_
        obtain ⟨r8, h7, h⟩ := bd_of h
        refine cV4_i C M d6_fitsAt_33 l6_98 w6_conflictsWith (rc_model hN) (ev6_conflictsWith C.lt hN h7) rfl hc hs ?_
        refine x_ifeq (tgt := 41) C d6_fitsAt_36 rfl (fun c9 => ?_) (fun c9 => ?_)
        · replace h := ite_p c9 h
          refine x_iinc hx C d6_fitsAt_41 rfl rfl ?_
          refine r_goto (tgt := 2) C d6_fitsAt_44 rfl ?_
          exact AtH.sw (ih M hc hs h) ⟨rfl, rfl, rfl, rfl, trivial⟩
        · replace h := ite_m c9 h
          refine r_iconst C d6_fitsAt_39 ?_
          exact e_z C M d6_fitsAt_40 hc hs (Or.inl rfl) h
def f6_fitsAt (V : VV) (x1 : Int) (x2 : Int) : Option Int := f6_fitsAt_L2 V x1 x2 FU 0
theorem ev6_fitsAt {G : GT} {l : Launch} {V : VV} {x1 : Int} {x2 : Int} {r : Int} (hlt : l.stackTraces = false) (hN : 154 ≤ gN G) (h : f6_fitsAt V x1 x2 = some r) : EvX G l y6_fitsAt b6_fitsAt 4 (some .boolean) 3 0 0 [.ref (gB G + 148), vI x1, vI x2] V (.ok (some (vI r))) V := by
  refine ev_w hlt (by decide +kernel) rfl rfl (fun X hl hx C M => ?_)
  subst hl
  replace C : Cx G X "ChannelScheduleModel" b6_fitsAt := C
  unfold f6_fitsAt at h
  show At G X 0 0 0 [(0, .ref (gB G + 148)), (1, vI x1), (2, vI x2)] [] V
  refine r_iconst C d6_fitsAt_0 ?_
  refine x_istore_n hx C d6_fitsAt_1 rfl ?_
  exact AtH.sw (lp6_fitsAt_2 hN hx C FU M (Nat.le_of_ble_eq_true rfl) (Nat.le_of_ble_eq_true rfl) h) ⟨rfl, rfl, rfl, rfl, trivial⟩
def f6_canCancel (V : VV) (x1 : Int) : Option Int := bd (f6_ofBooking V x1 2) (fun r2 => (if nrm r2 ≤ nrm (V 149 3) then some 0 else some 1))
theorem ev6_canCancel {G : GT} {l : Launch} {V : VV} {x1 : Int} {r : Int} (hlt : l.stackTraces = false) (hN : 154 ≤ gN G) (h : f6_canCancel V x1 = some r) : EvX G l y6_canCancel b6_canCancel 2 (some .boolean) 1 0 0 [.ref (gB G + 148), vI x1] V (.ok (some (vI r))) V := by
  refine ev_w hlt (by decide +kernel) rfl rfl (fun X hl hx C M => ?_)
  subst hl
  replace C : Cx G X "ChannelScheduleModel" b6_canCancel := C
  unfold f6_canCancel at h
  show At G X 0 0 0 [(0, .ref (gB G + 148)), (1, vI x1)] [] V
  refine r_aload_n C d6_canCancel_0 rfl ?_
  refine r_iload_n C d6_canCancel_1 rfl ?_
  refine r_iconst C d6_canCancel_2 ?_
  obtain ⟨r2, h1, h⟩ := bd_of h
  refine cV2_i C M d6_canCancel_3 l6_91 w6_ofBooking (rc_model hN) (ev6_ofBooking C.lt hN h1) rfl (Nat.le_of_ble_eq_true rfl) (Nat.le_of_ble_eq_true rfl) ?_
  refine r_aload_n C d6_canCancel_6 rfl ?_
  refine g_model_0 C d6_canCancel_7 f6_13 hN ?_
  refine r_iconst C d6_canCancel_10 ?_
  refine x_iald C d6_canCancel_11 (ra_m hN) (by omega) ?_
  refine x_icmple (tgt := 19) C d6_canCancel_12 rfl (fun c3 => ?_) (fun c3 => ?_)
  · replace h := ite_p c3 h
    refine r_iconst C d6_canCancel_19 ?_
    exact e_z C M d6_canCancel_20 (Nat.le_of_ble_eq_true rfl) (Nat.le_of_ble_eq_true rfl) (Or.inl rfl) h
  · replace h := ite_m c3 h
    refine r_iconst C d6_canCancel_15 ?_
    refine r_goto (tgt := 20) C d6_canCancel_16 rfl ?_
    exact e_z C M d6_canCancel_20 (Nat.le_of_ble_eq_true rfl) (Nat.le_of_ble_eq_true rfl) (Or.inr rfl) h
def f6_movingReason (V : VV) (x1 : Int) (x2 : Int) : Option Int := bd (f6_canCancel V x1) (fun r2 => (if nrm r2 = 0 then some 1 else (if nrm (V 149 3) ≤ nrm x2 then bd (f6_fitsAt V x1 x2) (fun r6 => (if nrm r6 = 0 then some 3 else some 0)) else some 2)))
theorem ev6_movingReason {G : GT} {l : Launch} {V : VV} {x1 : Int} {x2 : Int} {r : Int} (hlt : l.stackTraces = false) (hN : 154 ≤ gN G) (h : f6_movingReason V x1 x2 = some r) : EvX G l y6_movingReason b6_movingReason 3 (some .int) 4 0 0 [.ref (gB G + 148), vI x1, vI x2] V (.ok (some (vI r))) V := by
  refine ev_w hlt (by decide +kernel) rfl rfl (fun X hl hx C M => ?_)
  subst hl
  replace C : Cx G X "ChannelScheduleModel" b6_movingReason := C
  unfold f6_movingReason at h
  show At G X 0 0 0 [(0, .ref (gB G + 148)), (1, vI x1), (2, vI x2)] [] V
  refine r_aload_n C d6_movingReason_0 rfl ?_
  refine r_iload_n C d6_movingReason_1 rfl ?_
  obtain ⟨r2, h1, h⟩ := bd_of h
  refine cV1_i C M d6_movingReason_2 l6_137 w6_canCancel (rc_model hN) (ev6_canCancel C.lt hN h1) rfl (Nat.le_of_ble_eq_true rfl) (Nat.le_of_ble_eq_true rfl) ?_
  refine x_ifne (tgt := 10) C d6_movingReason_5 rfl (fun c3 => ?_) (fun c3 => ?_)
  · replace h := ite_p c3 h
    refine r_iconst C d6_movingReason_8 ?_
    exact e_i C M d6_movingReason_9 (Nat.le_of_ble_eq_true rfl) (Nat.le_of_ble_eq_true rfl) h
  · replace h := ite_m c3 h
    refine r_iload_n C d6_movingReason_10 rfl ?_
    refine r_aload_n C d6_movingReason_11 rfl ?_
    refine g_model_0 C d6_movingReason_12 f6_13 hN ?_
    refine r_iconst C d6_movingReason_15 ?_
    refine x_iald C d6_movingReason_16 (ra_m hN) (by omega) ?_
    refine x_icmpge (tgt := 22) C d6_movingReason_17 rfl (fun c4 => ?_) (fun c4 => ?_)
    · replace h := ite_p c4 h
      refine r_aload_n C d6_movingReason_22 rfl ?_
      refine r_iload_n C d6_movingReason_23 rfl ?_
      refine r_iload_n C d6_movingReason_24 rfl ?_
      obtain ⟨r6, h5, h⟩ := bd_of h
      refine cV2_i C M d6_movingReason_25 l6_141 w6_fitsAt (rc_model hN) (ev6_fitsAt C.lt hN h5) rfl (Nat.le_of_ble_eq_true rfl) (Nat.le_of_ble_eq_true rfl) ?_
      refine x_ifeq (tgt := 35) C d6_movingReason_28 rfl (fun c7 => ?_) (fun c7 => ?_)
      · replace h := ite_p c7 h
        refine r_iconst C d6_movingReason_35 ?_
        exact e_i C M d6_movingReason_36 (Nat.le_of_ble_eq_true rfl) (Nat.le_of_ble_eq_true rfl) h
      · replace h := ite_m c7 h
        refine r_iconst C d6_movingReason_31 ?_
        refine r_goto (tgt := 36) C d6_movingReason_32 rfl ?_
        exact e_i C M d6_movingReason_36 (Nat.le_of_ble_eq_true rfl) (Nat.le_of_ble_eq_true rfl) h
    · replace h := ite_m c4 h
      refine r_iconst C d6_movingReason_20 ?_
      exact e_i C M d6_movingReason_21 (Nat.le_of_ble_eq_true rfl) (Nat.le_of_ble_eq_true rfl) h
def f6_moveIt (V : VV) (x1 : Int) (x2 : Int) : Option (Int × VV) := bd (f6_ofBooking V x1 0) (fun r2 => bd (f6_ofBooking V x1 1) (fun r4 => bd (f6_durationOf V x1) (fun r6 => bd (f6_removeBooking V x1) (fun W8 => bd (f6_insert W8 r2 r4 x2 (x2 + r6)) (fun W10 => bd2 (f6_process W10) (fun r12 W13 => some (r12, W13)))))))
theorem ev6_moveIt {G : GT} {l : Launch} {V : VV} {x1 : Int} {x2 : Int} {r : Int} {V1 : VV} (hlt : l.stackTraces = false) (hN : 154 ≤ gN G) (h : f6_moveIt V x1 x2 = some (r, V1)) : EvX G l y6_moveIt b6_moveIt 6 (some .int) 7 0 0 [.ref (gB G + 148), vI x1, vI x2] V (.ok (some (vI r))) V1 := by
  refine ev_w hlt (by decide +kernel) rfl rfl (fun X hl hx C M => ?_)
  subst hl
  replace C : Cx G X "ChannelScheduleModel" b6_moveIt := C
  unfold f6_moveIt at h
  show At G X 0 0 0 [(0, .ref (gB G + 148)), (1, vI x1), (2, vI x2)] [] V
  refine r_aload_n C d6_moveIt_0 rfl ?_
  refine r_iload_n C d6_moveIt_1 rfl ?_
  refine r_iconst C d6_moveIt_2 ?_
  obtain ⟨r2, h1, h⟩ := bd_of h
  refine cV2_i C M d6_moveIt_3 l6_91 w6_ofBooking (rc_model hN) (ev6_ofBooking C.lt hN h1) rfl (Nat.le_of_ble_eq_true rfl) (Nat.le_of_ble_eq_true rfl) ?_
  refine x_istore_n hx C d6_moveIt_6 rfl ?_
  refine r_aload_n C d6_moveIt_7 rfl ?_
  refine r_iload_n C d6_moveIt_8 rfl ?_
  refine r_iconst C d6_moveIt_9 ?_
  obtain ⟨r4, h3, h⟩ := bd_of h
  refine cV2_i C M d6_moveIt_10 l6_91 w6_ofBooking (rc_model hN) (ev6_ofBooking C.lt hN h3) rfl (Nat.le_of_ble_eq_true rfl) (Nat.le_of_ble_eq_true rfl) ?_
  refine x_istore hx C d6_moveIt_13 rfl ?_
  refine r_iload_n C d6_moveIt_15 rfl ?_
  refine r_aload_n C d6_moveIt_16 rfl ?_
  refine r_iload_n C d6_moveIt_17 rfl ?_
  obtain ⟨r6, h5, h⟩ := bd_of h
  refine cV1_i C M d6_moveIt_18 l6_134 w6_durationOf (rc_model hN) (ev6_durationOf C.lt hN h5) rfl (Nat.le_of_ble_eq_true rfl) (Nat.le_of_ble_eq_true rfl) ?_
  refine r_iadd C d6_moveIt_21 ?_
  refine x_istore hx C d6_moveIt_22 rfl ?_
  refine r_aload_n C d6_moveIt_24 rfl ?_
  refine r_iload_n C d6_moveIt_25 rfl ?_
  obtain ⟨W8, h7, h⟩ := bd_of h
  refine cV1_v C M d6_moveIt_26 l6_128 w6_removeBooking (rc_model hN) (ev6_removeBooking C.lt hN h7) rfl (Nat.le_of_ble_eq_true rfl) (Nat.le_of_ble_eq_true rfl) ?_
  refine r_aload_n C d6_moveIt_29 rfl ?_
  refine r_iload_n C d6_moveIt_30 rfl ?_
  refine r_iload C d6_moveIt_31 rfl ?_
  refine r_iload_n C d6_moveIt_33 rfl ?_
  refine r_iload C d6_moveIt_34 rfl ?_
  obtain ⟨W10, h9, h⟩ := bd_of h
  refine cV4_v C M d6_moveIt_36 l6_106 w6_insert (rc_model hN) (ev6_insert C.lt hN h9) rfl (Nat.le_of_ble_eq_true rfl) (Nat.le_of_ble_eq_true rfl) ?_
  refine r_aload_n C d6_moveIt_39 rfl ?_
  obtain ⟨r12, W13, h11, h⟩ := bd2_of h
  refine cV0_i C M d6_moveIt_40 l6_131 w6_process (rc_model hN) (ev6_process C.lt hN h11) rfl (Nat.le_of_ble_eq_true rfl) (Nat.le_of_ble_eq_true rfl) ?_
  exact e_iv C M d6_moveIt_43 (Nat.le_of_ble_eq_true rfl) (Nat.le_of_ble_eq_true rfl) h
def f6_canBook (V : VV) (x1 : Int) (x2 : Int) (x3 : Int) : Option Int := (if nrm x3 < nrm (V 149 3) then some 0 else (if nrm 20 ≤ nrm (V 149 5) then some 0 else bd (f6_conflicting V x1 x2 x3 (-1)) (fun r4 => (if nrm r4 = nrm (-1) then some 1 else some 0))))
theorem ev6_canBook {G : GT} {l : Launch} {V : VV} {x1 : Int} {x2 : Int} {x3 : Int} {r : Int} (hlt : l.stackTraces = false) (hN : 154 ≤ gN G) (h : f6_canBook V x1 x2 x3 = some r) : EvX G l y6_canBook b6_canBook 4 (some .boolean) 4 0 0 [.ref (gB G + 148), vI x1, vI x2, vI x3] V (.ok (some (vI r))) V := by
  refine ev_w hlt (by decide +kernel) rfl rfl (fun X hl hx C M => ?_)
  subst hl
  replace C : Cx G X "ChannelScheduleModel" b6_canBook := C
  unfold f6_canBook at h
  show At G X 0 0 0 [(0, .ref (gB G + 148)), (1, vI x1), (2, vI x2), (3, vI x3)] [] V
  refine r_iload_n C d6_canBook_0 rfl ?_
  refine r_aload_n C d6_canBook_1 rfl ?_
  refine g_model_0 C d6_canBook_2 f6_13 hN ?_
  refine r_iconst C d6_canBook_5 ?_
  refine x_iald C d6_canBook_6 (ra_m hN) (by omega) ?_
  refine x_icmplt (tgt := 37) C d6_canBook_7 rfl (fun c1 => ?_) (fun c1 => ?_)
  · replace h := ite_p c1 h
    refine r_iconst C d6_canBook_37 ?_
    exact e_z C M d6_canBook_38 (Nat.le_of_ble_eq_true rfl) (Nat.le_of_ble_eq_true rfl) (Or.inl rfl) h
  · replace h := ite_m c1 h
    refine r_aload_n C d6_canBook_10 rfl ?_
    refine g_model_0 C d6_canBook_11 f6_13 hN ?_
    refine r_iconst C d6_canBook_14 ?_
    refine x_iald C d6_canBook_15 (ra_m hN) (by omega) ?_
    refine r_bipush C d6_canBook_16 (by decide +kernel) ?_
    refine x_icmpge (tgt := 37) C d6_canBook_18 rfl (fun c2 => ?_) (fun c2 => ?_)
    · replace h := ite_p c2 h
      refine r_iconst C d6_canBook_37 ?_
      exact e_z C M d6_canBook_38 (Nat.le_of_ble_eq_true rfl) (Nat.le_of_ble_eq_true rfl) (Or.inl rfl) h
    · replace h := ite_m c2 h
      refine r_aload_n C d6_canBook_21 rfl ?_
      refine r_iload_n C d6_canBook_22 rfl ?_
      refine r_iload_n C d6_canBook_23 rfl ?_
      refine r_iload_n C d6_canBook_24 rfl ?_
      refine r_iconst C d6_canBook_25 ?_
      obtain ⟨r4, h3, h⟩ := bd_of h
      refine cV4_i C M d6_canBook_26 l6_102 w6_conflicting (rc_model hN) (ev6_conflicting C.lt hN h3) rfl (Nat.le_of_ble_eq_true rfl) (Nat.le_of_ble_eq_true rfl) ?_
      refine r_iconst C d6_canBook_29 ?_
      refine x_icmpne (tgt := 37) C d6_canBook_30 rfl (fun c5 => ?_) (fun c5 => ?_)
      · replace h := ite_p c5 h
        refine r_iconst C d6_canBook_33 ?_
        refine r_goto (tgt := 38) C d6_canBook_34 rfl ?_
        exact e_z C M d6_canBook_38 (Nat.le_of_ble_eq_true rfl) (Nat.le_of_ble_eq_true rfl) (Or.inr rfl) h
      · replace h := ite_m c5 h
        refine r_iconst C d6_canBook_37 ?_
        exact e_z C M d6_canBook_38 (Nat.le_of_ble_eq_true rfl) (Nat.le_of_ble_eq_true rfl) (Or.inl rfl) h
def f6_canRequest (V : VV) (x1 : Int) (x2 : Int) (x3 : Int) (x4 : Int) : Option Int := (if nrm (V 149 6) < nrm 8 then some 1 else bd (f6_servingMinute V x1 x2 x3 x4) (fun r3 => (if nrm r3 = nrm (-1) then some 0 else some 1)))
theorem ev6_canRequest {G : GT} {l : Launch} {V : VV} {x1 : Int} {x2 : Int} {x3 : Int} {x4 : Int} {r : Int} (hlt : l.stackTraces = false) (hN : 154 ≤ gN G) (h : f6_canRequest V x1 x2 x3 x4 = some r) : EvX G l y6_canRequest b6_canRequest 5 (some .boolean) 6 0 0 [.ref (gB G + 148), vI x1, vI x2, vI x3, vI x4] V (.ok (some (vI r))) V := by
  refine ev_w hlt (by decide +kernel) rfl rfl (fun X hl hx C M => ?_)
  subst hl
  replace C : Cx G X "ChannelScheduleModel" b6_canRequest := C
  unfold f6_canRequest at h
  show At G X 0 0 0 [(0, .ref (gB G + 148)), (1, vI x1), (2, vI x2), (3, vI x3), (4, vI x4)] [] V
  refine r_aload_n C d6_canRequest_0 rfl ?_
  refine g_model_0 C d6_canRequest_1 f6_13 hN ?_
  refine r_bipush C d6_canRequest_4 (by decide +kernel) ?_
  refine x_iald C d6_canRequest_6 (ra_m hN) (by omega) ?_
  refine r_bipush C d6_canRequest_7 (by decide +kernel) ?_
  refine x_icmplt (tgt := 25) C d6_canRequest_9 rfl (fun c1 => ?_) (fun c1 => ?_)
  · replace h := ite_p c1 h
    refine r_iconst C d6_canRequest_25 ?_
    refine r_goto (tgt := 30) C d6_canRequest_26 rfl ?_
    exact e_z C M d6_canRequest_30 (Nat.le_of_ble_eq_true rfl) (Nat.le_of_ble_eq_true rfl) (Or.inr rfl) h
  · replace h := ite_m c1 h
    refine r_aload_n C d6_canRequest_12 rfl ?_
    refine r_iload_n C d6_canRequest_13 rfl ?_
    refine r_iload_n C d6_canRequest_14 rfl ?_
    refine r_iload_n C d6_canRequest_15 rfl ?_
    refine r_iload C d6_canRequest_16 rfl ?_
    obtain ⟨r3, h2, h⟩ := bd_of h
    refine cV4_i C M d6_canRequest_18 l6_117 w6_servingMinute (rc_model hN) (ev6_servingMinute C.lt hN h2) rfl (Nat.le_of_ble_eq_true rfl) (Nat.le_of_ble_eq_true rfl) ?_
    refine r_iconst C d6_canRequest_21 ?_
    refine x_icmpeq (tgt := 29) C d6_canRequest_22 rfl (fun c4 => ?_) (fun c4 => ?_)
    · replace h := ite_p c4 h
      refine r_iconst C d6_canRequest_29 ?_
      exact e_z C M d6_canRequest_30 (Nat.le_of_ble_eq_true rfl) (Nat.le_of_ble_eq_true rfl) (Or.inl rfl) h
    · replace h := ite_m c4 h
      refine r_iconst C d6_canRequest_25 ?_
      refine r_goto (tgt := 30) C d6_canRequest_26 rfl ?_
      exact e_z C M d6_canRequest_30 (Nat.le_of_ble_eq_true rfl) (Nat.le_of_ble_eq_true rfl) (Or.inr rfl) h
def f6_requestIt (V : VV) (x1 : Int) (x2 : Int) (x3 : Int) (x4 : Int) : Option (Int × VV) := bd (f6_servingMinute V x1 x2 x3 x4) (fun r2 => (if nrm r2 = nrm (-1) then ck ((0:Int) ≤ ((194 + ((V 149 6) * 4)) + 0) ∧ ((194 + ((V 149 6) * 4)) + 0) < 2300) (ck ((0:Int) ≤ ((194 + ((V 149 6) * 4)) + 1) ∧ ((194 + ((V 149 6) * 4)) + 1) < 2300) (ck ((0:Int) ≤ ((194 + ((V 149 6) * 4)) + 2) ∧ ((194 + ((V 149 6) * 4)) + 2) < 2300) (ck ((0:Int) ≤ ((194 + ((V 149 6) * 4)) + 3) ∧ ((194 + ((V 149 6) * 4)) + 3) < 2300) (some ((-1), up2 (up2 (up2 (up2 (up2 V 149 (Int.toNat ((194 + ((V 149 6) * 4)) + 0)) x1) 149 (Int.toNat ((194 + ((V 149 6) * 4)) + 1)) x2) 149 (Int.toNat ((194 + ((V 149 6) * 4)) + 2)) x3) 149 (Int.toNat ((194 + ((V 149 6) * 4)) + 3)) x4) 149 6 (((up2 (up2 (up2 (up2 V 149 (Int.toNat ((194 + ((V 149 6) * 4)) + 0)) x1) 149 (Int.toNat ((194 + ((V 149 6) * 4)) + 1)) x2) 149 (Int.toNat ((194 + ((V 149 6) * 4)) + 2)) x3) 149 (Int.toNat ((194 + ((V 149 6) * 4)) + 3)) x4) 149 6) + 1)))))) else bd (f6_addBooking V x1 x2 r2) (fun W9 => some (r2, W9))))
theorem ev6_requestIt {G : GT} {l : Launch} {V : VV} {x1 : Int} {x2 : Int} {x3 : Int} {x4 : Int} {r : Int} {V1 : VV} (hlt : l.stackTraces = false) (hN : 154 ≤ gN G) (h : f6_requestIt V x1 x2 x3 x4 = some (r, V1)) : EvX G l y6_requestIt b6_requestIt 7 (some .int) 6 0 0 [.ref (gB G + 148), vI x1, vI x2, vI x3, vI x4] V (.ok (some (vI r))) V1 := by
  refine ev_w hlt (by decide +kernel) rfl rfl (fun X hl hx C M => ?_)
  subst hl
  replace C : Cx G X "ChannelScheduleModel" b6_requestIt := C
  unfold f6_requestIt at h
  show At G X 0 0 0 [(0, .ref (gB G + 148)), (1, vI x1), (2, vI x2), (3, vI x3), (4, vI x4)] [] V
  refine r_aload_n C d6_requestIt_0 rfl ?_
  refine r_iload_n C d6_requestIt_1 rfl ?_
  refine r_iload_n C d6_requestIt_2 rfl ?_
  refine r_iload_n C d6_requestIt_3 rfl ?_
  refine r_iload C d6_requestIt_4 rfl ?_
  obtain ⟨r2, h1, h⟩ := bd_of h
  refine cV4_i C M d6_requestIt_6 l6_117 w6_servingMinute (rc_model hN) (ev6_servingMinute C.lt hN h1) rfl (Nat.le_of_ble_eq_true rfl) (Nat.le_of_ble_eq_true rfl) ?_
  refine x_istore hx C d6_requestIt_9 rfl ?_
  refine r_iload C d6_requestIt_11 rfl ?_
  refine r_iconst C d6_requestIt_13 ?_
  refine x_icmpeq (tgt := 28) C d6_requestIt_14 rfl (fun c3 => ?_) (fun c3 => ?_)
  · replace h := ite_p c3 h
    refine r_sipush C d6_requestIt_28 (by decide +kernel) ?_
    refine r_aload_n C d6_requestIt_31 rfl ?_
    refine g_model_0 C d6_requestIt_32 f6_13 hN ?_
    refine r_bipush C d6_requestIt_35 (by decide +kernel) ?_
    refine x_iald C d6_requestIt_37 (ra_m hN) (by omega) ?_
    refine r_iconst C d6_requestIt_38 ?_
    refine r_imul C d6_requestIt_39 ?_
    refine r_iadd C d6_requestIt_40 ?_
    refine x_istore hx C d6_requestIt_41 rfl ?_
    refine r_aload_n C d6_requestIt_43 rfl ?_
    refine g_model_0 C d6_requestIt_44 f6_13 hN ?_
    refine r_iload C d6_requestIt_47 rfl ?_
    refine r_iconst C d6_requestIt_49 ?_
    refine r_iadd C d6_requestIt_50 ?_
    refine r_iload_n C d6_requestIt_51 rfl ?_
    obtain ⟨c4, h⟩ := ck_of h
    refine x_iast C d6_requestIt_52 (ra_m hN) c4 ?_
    refine r_aload_n C d6_requestIt_53 rfl ?_
    refine g_model_0 C d6_requestIt_54 f6_13 hN ?_
    refine r_iload C d6_requestIt_57 rfl ?_
    refine r_iconst C d6_requestIt_59 ?_
    refine r_iadd C d6_requestIt_60 ?_
    refine r_iload_n C d6_requestIt_61 rfl ?_
    obtain ⟨c5, h⟩ := ck_of h
    refine x_iast C d6_requestIt_62 (ra_m hN) c5 ?_
    refine r_aload_n C d6_requestIt_63 rfl ?_
    refine g_model_0 C d6_requestIt_64 f6_13 hN ?_
    refine r_iload C d6_requestIt_67 rfl ?_
    refine r_iconst C d6_requestIt_69 ?_
    refine r_iadd C d6_requestIt_70 ?_
    refine r_iload_n C d6_requestIt_71 rfl ?_
    obtain ⟨c6, h⟩ := ck_of h
    refine x_iast C d6_requestIt_72 (ra_m hN) c6 ?_
    refine r_aload_n C d6_requestIt_73 rfl ?_
    refine g_model_0 C d6_requestIt_74 f6_13 hN ?_
    refine r_iload C d6_requestIt_77 rfl ?_
    refine r_iconst C d6_requestIt_79 ?_
    refine r_iadd C d6_requestIt_80 ?_
    refine r_iload C d6_requestIt_81 rfl ?_
    obtain ⟨c7, h⟩ := ck_of h
    refine x_iast C d6_requestIt_83 (ra_m hN) c7 ?_
    refine r_aload_n C d6_requestIt_84 rfl ?_
    refine g_model_0 C d6_requestIt_85 f6_13 hN ?_
    refine r_bipush C d6_requestIt_88 (by decide +kernel) ?_
    refine r_dup2 C d6_requestIt_90 rfl rfl ?_
    refine x_iald C d6_requestIt_91 (ra_m hN) (by omega) ?_
    refine r_iconst C d6_requestIt_92 ?_
    refine r_iadd C d6_requestIt_93 ?_
    refine x_iast C d6_requestIt_94 (ra_m hN) (by omega) ?_
    refine r_iconst C d6_requestIt_95 ?_
    exact e_iv C M d6_requestIt_96 (Nat.le_of_ble_eq_true rfl) (Nat.le_of_ble_eq_true rfl) h
  · replace h := ite_m c3 h
    refine r_aload_n C d6_requestIt_17 rfl ?_
    refine r_iload_n C d6_requestIt_18 rfl ?_
    refine r_iload_n C d6_requestIt_19 rfl ?_
    refine r_iload C d6_requestIt_20 rfl ?_
    obtain ⟨W9, h8, h⟩ := bd_of h
    refine cV3_v C M d6_requestIt_22 l6_120 w6_addBooking (rc_model hN) (ev6_addBooking C.lt hN h8) rfl (Nat.le_of_ble_eq_true rfl) (Nat.le_of_ble_eq_true rfl) ?_
    refine r_iload C d6_requestIt_25 rfl ?_
    exact e_iv C M d6_requestIt_27 (Nat.le_of_ble_eq_true rfl) (Nat.le_of_ble_eq_true rfl) h
def f6_iceIt (V : VV) (x1 : Int) : Option (Int × VV) := bd2 (f6_process (up2 V 149 2 x1)) (fun r2 W3 => some (r2, W3))
theorem ev6_iceIt {G : GT} {l : Launch} {V : VV} {x1 : Int} {r : Int} {V1 : VV} (hlt : l.stackTraces = false) (hN : 154 ≤ gN G) (h : f6_iceIt V x1 = some (r, V1)) : EvX G l y6_iceIt b6_iceIt 2 (some .int) 7 0 0 [.ref (gB G + 148), vI x1] V (.ok (some (vI r))) V1 := by
  refine ev_w hlt (by decide +kernel) rfl rfl (fun X hl hx C M => ?_)
  subst hl
  replace C : Cx G X "ChannelScheduleModel" b6_iceIt := C
  unfold f6_iceIt at h
  show At G X 0 0 0 [(0, .ref (gB G + 148)), (1, vI x1)] [] V
  refine r_aload_n C d6_iceIt_0 rfl ?_
  refine g_model_0 C d6_iceIt_1 f6_13 hN ?_
  refine r_iconst C d6_iceIt_4 ?_
  refine r_iload_n C d6_iceIt_5 rfl ?_
  refine x_iast C d6_iceIt_6 (ra_m hN) (by omega) ?_
  refine r_aload_n C d6_iceIt_7 rfl ?_
  obtain ⟨r2, W3, h1, h⟩ := bd2_of h
  refine cV0_i C M d6_iceIt_8 l6_131 w6_process (rc_model hN) (ev6_process C.lt hN h1) rfl (Nat.le_of_ble_eq_true rfl) (Nat.le_of_ble_eq_true rfl) ?_
  exact e_iv C M d6_iceIt_11 (Nat.le_of_ble_eq_true rfl) (Nat.le_of_ble_eq_true rfl) h
def f6_finishedBy_L4 (V : VV) (x1 : Int) : Nat → Int → Int → Option (Int)
  | 0, _, _ => none
  | n + 1, x2, x3 => (if nrm (V 149 5) ≤ nrm x3 then some x2 else bd (f6_ofBooking V x3 3) (fun r3 => (if nrm x1 < nrm r3 then f6_finishedBy_L4 V x1 n (x2 + 0) (x3 + 1) else f6_finishedBy_L4 V x1 n (x2 + 1) (x3 + 1))))
theorem lp6_finishedBy_4 {G : GT} {X : CT} {cells slots : Nat} {V : VV} (hN : 154 ≤ gN G) (hx : xN X = 4) (C : Cx G X "ChannelScheduleModel" b6_finishedBy) {x1 : Int} {o0 : Except String (Option Value)} {V9 : VV} (M : MX G X 1 0 0 (some .int) o0 V9) (hc : cells ≤ 0) (hs : slots ≤ 0) : ∀ (n : Nat) {x2 : Int} {x3 : Int} {e2 : Int}, f6_finishedBy_L4 V x1 n x2 x3 = some (e2) → At G X cells slots 38 [(2, vI e2)] [] V → At G X cells slots 4 [(0, .ref (gB G + 148)), (1, vI x1), (2, vI x2), (3, vI x3)] [] V := by
  intro n
  induction n with
  | zero => intro x2 x3 e2 h _; exact nomatch h
  | succ n ih =>
    intro x2 x3 e2 h K
    rw [f6_finishedBy_L4] at h
    refine r_iload_n C d6_finishedBy_4 rfl ?_
    refine r_aload_n C d6_finishedBy_5 rfl ?_
    refine g_model_0 C d6_finishedBy_6 f6_13 hN ?_
    refine r_iconst C d6_finishedBy_9 ?_
    refine x_iald C d6_finishedBy_10 (ra_m hN) (by omega) ?_
    refine x_icmpge (tgt := 38) C d6_finishedBy_11 rfl (fun c1 => ?_) (fun c1 => ?_)
    · replace h := ite_p c1 h
      cases h
      exact AtH.sw K ⟨rfl, trivial⟩
    · replace h := ite_m c1 h
      refine r_iload_n C d6_finishedBy_14 rfl ?_
      refine r_aload_n C d6_finishedBy_15 rfl ?_
      refine r_iload_n C d6_finishedBy_16 rfl ?_
      refine r_iconst C d6_finishedBy_17 ?_
      obtain ⟨r3, h2, h⟩ := bd_of h
      refine cV2_i C M d6_finishedBy_18 l6_91 w6_ofBooking (rc_model hN) (ev6_ofBooking C.lt hN h2) rfl hc hs ?_
      refine r_iload_n C d6_finishedBy_21 rfl ?_
      refine x_icmpgt (tgt := 29) C d6_finishedBy_22 rfl (fun c4 => ?_) (fun c4 => ?_)
      · replace h := ite_p c4 h
        refine r_iconst C d6_finishedBy_29 ?_
        refine r_iadd C d6_finishedBy_30 ?_
        refine x_istore_n hx C d6_finishedBy_31 rfl ?_
        refine x_iinc hx C d6_finishedBy_32 rfl rfl ?_
        refine r_goto (tgt := 4) C d6_finishedBy_35 rfl ?_
        exact AtH.sw (ih h K) ⟨rfl, rfl, rfl, rfl, trivial⟩
      · replace h := ite_m c4 h
        refine r_iconst C d6_finishedBy_25 ?_
        refine r_goto (tgt := 30) C d6_finishedBy_26 rfl ?_
        refine r_iadd C d6_finishedBy_30 ?_
        refine x_istore_n hx C d6_finishedBy_31 rfl ?_
        refine x_iinc hx C d6_finishedBy_32 rfl rfl ?_
        refine r_goto (tgt := 4) C d6_finishedBy_35 rfl ?_
        exact AtH.sw (ih h K) ⟨rfl, rfl, rfl, rfl, trivial⟩
def f6_finishedBy (V : VV) (x1 : Int) : Option Int := bd (f6_finishedBy_L4 V x1 FU 0 0) (fun y5 => some y5)
theorem ev6_finishedBy {G : GT} {l : Launch} {V : VV} {x1 : Int} {r : Int} (hlt : l.stackTraces = false) (hN : 154 ≤ gN G) (h : f6_finishedBy V x1 = some r) : EvX G l y6_finishedBy b6_finishedBy 4 (some .int) 1 0 0 [.ref (gB G + 148), vI x1] V (.ok (some (vI r))) V := by
  refine ev_w hlt (by decide +kernel) rfl rfl (fun X hl hx C M => ?_)
  subst hl
  replace C : Cx G X "ChannelScheduleModel" b6_finishedBy := C
  unfold f6_finishedBy at h
  show At G X 0 0 0 [(0, .ref (gB G + 148)), (1, vI x1)] [] V
  refine r_iconst C d6_finishedBy_0 ?_
  refine x_istore_n hx C d6_finishedBy_1 rfl ?_
  refine r_iconst C d6_finishedBy_2 ?_
  refine x_istore_n hx C d6_finishedBy_3 rfl ?_
  obtain ⟨y5, h6, h⟩ := bd_of h
  refine AtH.sw (lp6_finishedBy_4 hN hx C M (Nat.le_of_ble_eq_true rfl) (Nat.le_of_ble_eq_true rfl) FU h6 ?_) ⟨rfl, rfl, rfl, rfl, trivial⟩
  refine r_iload_n C d6_finishedBy_38 rfl ?_
  exact e_i C M d6_finishedBy_39 (Nat.le_of_ble_eq_true rfl) (Nat.le_of_ble_eq_true rfl) h
def f6_advanceIt (V : VV) (x1 : Int) : Option (Int × VV) := bd (f6_finishedBy V (V 149 3)) (fun r2 => bd (f6_finishedBy (up2 V 149 3 ((V 149 3) + x1)) ((up2 V 149 3 ((V 149 3) + x1)) 149 3)) (fun r4 => some (r4 - r2, up2 V 149 3 ((V 149 3) + x1))))
theorem ev6_advanceIt {G : GT} {l : Launch} {V : VV} {x1 : Int} {r : Int} {V1 : VV} (hlt : l.stackTraces = false) (hN : 154 ≤ gN G) (h : f6_advanceIt V x1 = some (r, V1)) : EvX G l y6_advanceIt b6_advanceIt 3 (some .int) 2 0 0 [.ref (gB G + 148), vI x1] V (.ok (some (vI r))) V1 := by
  refine ev_w hlt (by decide +kernel) rfl rfl (fun X hl hx C M => ?_)
  subst hl
  replace C : Cx G X "ChannelScheduleModel" b6_advanceIt := C
  unfold f6_advanceIt at h
  show At G X 0 0 0 [(0, .ref (gB G + 148)), (1, vI x1)] [] V
  refine r_aload_n C d6_advanceIt_0 rfl ?_
  refine r_aload_n C d6_advanceIt_1 rfl ?_
  refine g_model_0 C d6_advanceIt_2 f6_13 hN ?_
  refine r_iconst C d6_advanceIt_5 ?_
  refine x_iald C d6_advanceIt_6 (ra_m hN) (by omega) ?_
  obtain ⟨r2, h1, h⟩ := bd_of h
  refine cV1_i C M d6_advanceIt_7 l6_145 w6_finishedBy (rc_model hN) (ev6_finishedBy C.lt hN h1) rfl (Nat.le_of_ble_eq_true rfl) (Nat.le_of_ble_eq_true rfl) ?_
  refine x_istore_n hx C d6_advanceIt_10 rfl ?_
  refine r_aload_n C d6_advanceIt_11 rfl ?_
  refine g_model_0 C d6_advanceIt_12 f6_13 hN ?_
  refine r_iconst C d6_advanceIt_15 ?_
  refine r_dup2 C d6_advanceIt_16 rfl rfl ?_
  refine x_iald C d6_advanceIt_17 (ra_m hN) (by omega) ?_
  refine r_iload_n C d6_advanceIt_18 rfl ?_
  refine r_iadd C d6_advanceIt_19 ?_
  refine x_iast C d6_advanceIt_20 (ra_m hN) (by omega) ?_
  refine r_aload_n C d6_advanceIt_21 rfl ?_
  refine r_aload_n C d6_advanceIt_22 rfl ?_
  refine g_model_0 C d6_advanceIt_23 f6_13 hN ?_
  refine r_iconst C d6_advanceIt_26 ?_
  refine x_iald C d6_advanceIt_27 (ra_m hN) (by omega) ?_
  obtain ⟨r4, h3, h⟩ := bd_of h
  refine cV1_i C M d6_advanceIt_28 l6_145 w6_finishedBy (rc_model hN) (ev6_finishedBy C.lt hN h3) rfl (Nat.le_of_ble_eq_true rfl) (Nat.le_of_ble_eq_true rfl) ?_
  refine r_iload_n C d6_advanceIt_31 rfl ?_
  refine r_isub C d6_advanceIt_32 ?_
  exact e_iv C M d6_advanceIt_33 (Nat.le_of_ble_eq_true rfl) (Nat.le_of_ble_eq_true rfl) h
def f6_appendWord_L3 (x1 : Int) : Nat → Int → VV → Option (VV)
  | 0, _, _ => none
  | n + 1, x2, V => (if nrm x2 < 0 then some V else ck ((0:Int) ≤ (V 148 4) ∧ (V 148 4) < 600) (f6_appendWord_L3 x1 n (x2 + (-8)) (up2 (up2 V 151 (Int.toNat (V 148 4)) (aI (sI x1 x2) 255)) 148 4 (((up2 V 151 (Int.toNat (V 148 4)) (aI (sI x1 x2) 255)) 148 4) + 1))))
theorem lp6_appendWord_3 {G : GT} {X : CT} {cells slots : Nat} (hN : 154 ≤ gN G) (hx : xN X = 3) (C : Cx G X "ChannelScheduleModel" b6_appendWord) {x1 : Int} {o0 : Except String (Option Value)} {V9 : VV} (M : MX G X 0 0 0 none o0 V9) (hc : cells ≤ 0) (hs : slots ≤ 0) : ∀ (n : Nat) {x2 : Int} {V : VV} {W0 : VV}, f6_appendWord_L3 x1 n x2 V = some (W0) → At G X cells slots 39 [] [] W0 → At G X cells slots 3 [(0, .ref (gB G + 148)), (1, vI x1), (2, vI x2)] [] V := by
  intro n
  induction n with
  | zero => intro x2 V W0 h _; exact nomatch h
  | succ n ih =>
    intro x2 V W0 h K
    rw [f6_appendWord_L3] at h
    refine r_iload_n C d6_appendWord_3 rfl ?_
    refine x_iflt (tgt := 39) C d6_appendWord_4 rfl (fun c1 => ?_) (fun c1 => ?_)
    · replace h := ite_p c1 h
      cases h
      exact AtH.sw K trivial
    · replace h := ite_m c1 h
      refine r_aload_n C d6_appendWord_7 rfl ?_
      refine g_model_3 C d6_appendWord_8 f6_24 hN ?_
      refine r_aload_n C d6_appendWord_11 rfl ?_
      refine g_model_4 C d6_appendWord_12 f6_27 hN ?_
      refine r_iload_n C d6_appendWord_15 rfl ?_
      refine r_iload_n C d6_appendWord_16 rfl ?_
      refine x_ishr C d6_appendWord_17 ?_
      refine r_sipush C d6_appendWord_18 (by decide +kernel) ?_
      refine x_iand C d6_appendWord_21 ?_
      obtain ⟨c2, h⟩ := ck_of h
      refine x_iast C d6_appendWord_22 (ra_buffer hN) c2 ?_
      refine r_aload_n C d6_appendWord_23 rfl ?_
      refine r_dup C d6_appendWord_24 rfl ?_
      refine g_model_4 C d6_appendWord_25 f6_27 hN ?_
      refine r_iconst C d6_appendWord_28 ?_
      refine r_iadd C d6_appendWord_29 ?_
      refine p_model_4 C d6_appendWord_30 f6_27 hN ?_
      refine x_iinc hx C d6_appendWord_33 rfl rfl ?_
      refine r_goto (tgt := 3) C d6_appendWord_36 rfl ?_
      exact AtH.sw (ih h K) ⟨rfl, rfl, rfl, trivial⟩
def f6_appendWord (V : VV) (x1 : Int) : Option VV := bd (f6_appendWord_L3 x1 FU 24 V) (fun W3 => some W3)
theorem ev6_appendWord {G : GT} {l : Launch} {V : VV} {x1 : Int} {V1 : VV} (hlt : l.stackTraces = false) (hN : 154 ≤ gN G) (h : f6_appendWord V x1 = some V1) : EvX G l y6_appendWord b6_appendWord 3 none 0 0 0 [.ref (gB G + 148), vI x1] V (.ok none) V1 := by
  refine ev_w hlt (by decide +kernel) rfl rfl (fun X hl hx C M => ?_)
  subst hl
  replace C : Cx G X "ChannelScheduleModel" b6_appendWord := C
  unfold f6_appendWord at h
  show At G X 0 0 0 [(0, .ref (gB G + 148)), (1, vI x1)] [] V
  refine r_bipush C d6_appendWord_0 (by decide +kernel) ?_
  refine x_istore_n hx C d6_appendWord_2 rfl ?_
  obtain ⟨W3, h4, h⟩ := bd_of h
  refine AtH.sw (lp6_appendWord_3 hN hx C M (Nat.le_of_ble_eq_true rfl) (Nat.le_of_ble_eq_true rfl) FU h4 ?_) ⟨rfl, rfl, rfl, trivial⟩
  exact e_v C M d6_appendWord_39 (Nat.le_of_ble_eq_true rfl) (Nat.le_of_ble_eq_true rfl) h
def f6_append (V : VV) (x1 : Int) (x2 : Int) (x3 : Int) (x4 : Int) (x5 : Int) : Option (Int × VV) := bd ((if nrm ((V 148 4) + 20) ≤ nrm 600 then some (0) else some (1))) (fun y2 => bd2 (f6_fails V y2 0 0) (fun r6 W7 => (if nrm r6 = 0 then bd (f6_appendWord W7 x1) (fun W10 => bd (f6_appendWord W10 x2) (fun W12 => bd (f6_appendWord W12 x3) (fun W14 => bd (f6_appendWord W14 x4) (fun W16 => bd (f6_appendWord W16 x5) (fun W18 => some (W18 148 4, W18)))))) else some (0, W7))))
theorem ev6_append {G : GT} {l : Launch} {V : VV} {x1 : Int} {x2 : Int} {x3 : Int} {x4 : Int} {x5 : Int} {r : Int} {V1 : VV} (hlt : l.stackTraces = false) (hN : 154 ≤ gN G) (h : f6_append V x1 x2 x3 x4 x5 = some (r, V1)) : EvX G l y6_append b6_append 6 (some .int) 1 0 0 [.ref (gB G + 148), vI x1, vI x2, vI x3, vI x4, vI x5] V (.ok (some (vI r))) V1 := by
  refine ev_w hlt (by decide +kernel) rfl rfl (fun X hl hx C M => ?_)
  subst hl
  replace C : Cx G X "ChannelScheduleModel" b6_append := C
  unfold f6_append at h
  show At G X 0 0 0 [(0, .ref (gB G + 148)), (1, vI x1), (2, vI x2), (3, vI x3), (4, vI x4), (5, vI x5)] [] V
  refine r_aload_n C d6_append_0 rfl ?_
  refine r_aload_n C d6_append_1 rfl ?_
  refine g_model_4 C d6_append_2 f6_27 hN ?_
  refine r_bipush C d6_append_5 (by decide +kernel) ?_
  refine r_iadd C d6_append_7 ?_
  refine r_sipush C d6_append_8 (by decide +kernel) ?_
  obtain ⟨y2, h3, h⟩ := bd_of h
  suffices J4 : At G X 0 0 19 [(0, .ref (gB G + 148)), (1, vI x1), (2, vI x2), (3, vI x3), (4, vI x4), (5, vI x5)] [vI y2, .ref (gB G + 148)] V by
    replace h := h3
    refine x_icmple (tgt := 18) C d6_append_11 rfl (fun c1 => ?_) (fun c1 => ?_)
    · replace h := ite_p c1 h
      refine r_iconst C d6_append_18 ?_
      cases h
      exact AtH.sw J4 ⟨rfl, rfl, rfl, rfl, rfl, rfl, trivial⟩
    · replace h := ite_m c1 h
      refine r_iconst C d6_append_14 ?_
      refine r_goto (tgt := 19) C d6_append_15 rfl ?_
      cases h
      exact AtH.sw J4 ⟨rfl, rfl, rfl, rfl, rfl, rfl, trivial⟩
  refine r_iconst C d6_append_19 ?_
  refine r_iconst C d6_append_20 ?_
  obtain ⟨r6, W7, h5, h⟩ := bd2_of h
  refine cV3_i C M d6_append_21 l6_148 w6_fails (rc_model hN) (ev6_fails C.lt hN h5) rfl (Nat.le_of_ble_eq_true rfl) (Nat.le_of_ble_eq_true rfl) ?_
  refine x_ifeq (tgt := 29) C d6_append_24 rfl (fun c8 => ?_) (fun c8 => ?_)
  · replace h := ite_p c8 h
    refine r_aload_n C d6_append_29 rfl ?_
    refine r_iload_n C d6_append_30 rfl ?_
    obtain ⟨W10, h9, h⟩ := bd_of h
    refine cV1_v C M d6_append_31 l6_152 w6_appendWord (rc_model hN) (ev6_appendWord C.lt hN h9) rfl (Nat.le_of_ble_eq_true rfl) (Nat.le_of_ble_eq_true rfl) ?_
    refine r_aload_n C d6_append_34 rfl ?_
    refine r_iload_n C d6_append_35 rfl ?_
    obtain ⟨W12, h11, h⟩ := bd_of h
    refine cV1_v C M d6_append_36 l6_152 w6_appendWord (rc_model hN) (ev6_appendWord C.lt hN h11) rfl (Nat.le_of_ble_eq_true rfl) (Nat.le_of_ble_eq_true rfl) ?_
    refine r_aload_n C d6_append_39 rfl ?_
    refine r_iload_n C d6_append_40 rfl ?_
    obtain ⟨W14, h13, h⟩ := bd_of h
    refine cV1_v C M d6_append_41 l6_152 w6_appendWord (rc_model hN) (ev6_appendWord C.lt hN h13) rfl (Nat.le_of_ble_eq_true rfl) (Nat.le_of_ble_eq_true rfl) ?_
    refine r_aload_n C d6_append_44 rfl ?_
    refine r_iload C d6_append_45 rfl ?_
    obtain ⟨W16, h15, h⟩ := bd_of h
    refine cV1_v C M d6_append_47 l6_152 w6_appendWord (rc_model hN) (ev6_appendWord C.lt hN h15) rfl (Nat.le_of_ble_eq_true rfl) (Nat.le_of_ble_eq_true rfl) ?_
    refine r_aload_n C d6_append_50 rfl ?_
    refine r_iload C d6_append_51 rfl ?_
    obtain ⟨W18, h17, h⟩ := bd_of h
    refine cV1_v C M d6_append_53 l6_152 w6_appendWord (rc_model hN) (ev6_appendWord C.lt hN h17) rfl (Nat.le_of_ble_eq_true rfl) (Nat.le_of_ble_eq_true rfl) ?_
    refine r_aload_n C d6_append_56 rfl ?_
    refine g_model_4 C d6_append_57 f6_27 hN ?_
    exact e_iv C M d6_append_60 (Nat.le_of_ble_eq_true rfl) (Nat.le_of_ble_eq_true rfl) h
  · replace h := ite_m c8 h
    refine r_iconst C d6_append_27 ?_
    exact e_iv C M d6_append_28 (Nat.le_of_ble_eq_true rfl) (Nat.le_of_ble_eq_true rfl) h
