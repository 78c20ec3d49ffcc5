/-! walks of the reference, 5 (printed by walk.py) -/
def f6_writeSchedule_L41 (x1 : Int) (x2 : Int) : Nat → Int → VV → Option (VV)
  | 0, _, _ => none
  | n + 1, x3, V => bd (f6_ofShip V x2 0) (fun r11 => (if nrm r11 ≤ nrm x3 then some V else bd (f6_ofShip V x2 (1 + x3)) (fun r14 => bd (f6_put V r14) (fun W16 => f6_writeSchedule_L41 x1 x2 n (x3 + 1) W16))))
theorem lp6_writeSchedule_41 {G : GT} {X : CT} {cells slots : Nat} (hN : 154 ≤ gN G) (hx : xN X = 4) (C : Cx G X "ChannelScheduleModel" b6_writeSchedule) {x1 : Int} {x2 : Int} {o0 : Except String (Option Value)} {V9 : VV} (M : MX G X 2 0 0 (some .int) o0 V9) (hc : cells ≤ 0) (hs : slots ≤ 0) : ∀ (n : Nat) {x3 : Int} {V : VV} {W0 : VV}, f6_writeSchedule_L41 x1 x2 n x3 V = some (W0) → At G X cells slots 69 [(0, .ref (gB G + 148)), (1, vI x1)] [] W0 → At G X cells slots 41 [(0, .ref (gB G + 148)), (1, vI x1), (2, vI x2), (3, vI x3)] [] V := by
  intro n
  induction n with
  | zero => intro x3 V W0 h _; exact nomatch h
  | succ n ih =>
    intro x3 V W0 h K
    rw [f6_writeSchedule_L41] at h
    refine r_iload_n C d6_writeSchedule_41 rfl ?_
    refine r_aload_n C d6_writeSchedule_42 rfl ?_
    refine r_iload_n C d6_writeSchedule_43 rfl ?_
    refine r_iconst C d6_writeSchedule_44 ?_
    obtain ⟨r11, h10, h⟩ := bd_of h
    refine cV2_i C M d6_writeSchedule_45 l6_83 w6_ofShip (rc_model hN) (ev6_ofShip C.lt hN h10) rfl hc hs ?_
    refine x_icmpge (tgt := 69) C d6_writeSchedule_48 rfl (fun c12 => ?_) (fun c12 => ?_)
    · replace h := ite_p c12 h
      cases h
      exact AtH.sw K ⟨rfl, rfl, trivial⟩
    · replace h := ite_m c12 h
      refine r_aload_n C d6_writeSchedule_51 rfl ?_
      refine r_aload_n C d6_writeSchedule_52 rfl ?_
      refine r_iload_n C d6_writeSchedule_53 rfl ?_
      refine r_iconst C d6_writeSchedule_54 ?_
      refine r_iload_n C d6_writeSchedule_55 rfl ?_
      refine r_iadd C d6_writeSchedule_56 ?_
      obtain ⟨r14, h13, h⟩ := bd_of h
      refine cV2_i C M d6_writeSchedule_57 l6_83 w6_ofShip (rc_model hN) (ev6_ofShip C.lt hN h13) rfl hc hs ?_
      obtain ⟨W16, h15, h⟩ := bd_of h
      refine cV1_v C M d6_writeSchedule_60 l6_301 w6_put (rc_model hN) (ev6_put C.lt hN h15) rfl hc hs ?_
      refine x_iinc hx C d6_writeSchedule_63 rfl rfl ?_
      refine r_goto (tgt := 41) C d6_writeSchedule_66 rfl ?_
      exact AtH.sw (ih h K) ⟨rfl, rfl, rfl, rfl, trivial⟩
def f6_writeSchedule_L12 : Nat → Int → VV → Option (VV)
  | 0, _, _ => none
  | n + 1, x1, V => (if nrm (V 149 5) ≤ nrm x1 then some V else bd ((if nrm x1 ≤ 0 then some (V) else bd (f6_put V 32) (fun W4 => some (W4)))) (fun W5 => bd (f6_ofBooking W5 x1 0) (fun r9 => bd (f6_writeSchedule_L41 x1 r9 FU 0 W5) (fun W17 => bd (f6_ofBooking W17 x1 1) (fun r20 => bd ((if nrm r20 = nrm 1 then some (62) else some (60))) (fun y22 => bd (f6_put W17 y22) (fun W26 => bd (f6_ofBooking W26 x1 2) (fun r28 => bd (f6_putNumber W26 r28) (fun W30 => bd (f6_put W30 45) (fun W32 => bd (f6_ofBooking W32 x1 3) (fun r34 => bd (f6_putNumber W32 r34) (fun W36 => f6_writeSchedule_L12 n (x1 + 1) W36))))))))))))
theorem lp6_writeSchedule_12 {G : GT} {X : CT} {cells slots : Nat} (hN : 154 ≤ gN G) (hx : xN X = 4) (C : Cx G X "ChannelScheduleModel" b6_writeSchedule) {o0 : Except String (Option Value)} {V9 : VV} (M : MX G X 2 0 0 (some .int) o0 V9) (hc : cells ≤ 0) (hs : slots ≤ 0) : ∀ (n : Nat) {x1 : Int} {V : VV} {W0 : VV}, f6_writeSchedule_L12 n x1 V = some (W0) → At G X cells slots 122 [(0, .ref (gB G + 148))] [] W0 → At G X cells slots 12 [(0, .ref (gB G + 148)), (1, vI x1)] [] V := by
  intro n
  induction n with
  | zero => intro x1 V W0 h _; exact nomatch h
  | succ n ih =>
    intro x1 V W0 h K
    rw [f6_writeSchedule_L12] at h
    refine r_iload_n C d6_writeSchedule_12 rfl ?_
    refine r_aload_n C d6_writeSchedule_13 rfl ?_
    refine g_model_0 C d6_writeSchedule_14 f6_13 hN ?_
    refine r_iconst C d6_writeSchedule_17 ?_
    refine x_iald C d6_writeSchedule_18 (ra_m hN) (by omega) ?_
    refine x_icmpge (tgt := 122) C d6_writeSchedule_19 rfl (fun c1 => ?_) (fun c1 => ?_)
    · replace h := ite_p c1 h
      cases h
      exact AtH.sw K ⟨rfl, trivial⟩
    · replace h := ite_m c1 h
      refine r_iload_n C d6_writeSchedule_22 rfl ?_
      obtain ⟨W5, h6, h⟩ := bd_of h
      suffices J7 : At G X cells slots 32 [(0, .ref (gB G + 148)), (1, vI x1)] [] W5 by
        replace h := h6
        refine x_ifle (tgt := 32) C d6_writeSchedule_23 rfl (fun c2 => ?_) (fun c2 => ?_)
        · replace h := ite_p c2 h
          cases h
          exact AtH.sw J7 ⟨rfl, rfl, trivial⟩
        · replace h := ite_m c2 h
          refine r_aload_n C d6_writeSchedule_26 rfl ?_
          refine r_bipush C d6_writeSchedule_27 (by decide +kernel) ?_
          obtain ⟨W4, h3, h⟩ := bd_of h
          refine cV1_v C M d6_writeSchedule_29 l6_301 w6_put (rc_model hN) (ev6_put C.lt hN h3) rfl hc hs ?_
          cases h
          exact AtH.sw J7 ⟨rfl, rfl, trivial⟩
      refine r_aload_n C d6_writeSchedule_32 rfl ?_
      refine r_iload_n C d6_writeSchedule_33 rfl ?_
      refine r_iconst C d6_writeSchedule_34 ?_
      obtain ⟨r9, h8, h⟩ := bd_of h
      refine cV2_i C M d6_writeSchedule_35 l6_91 w6_ofBooking (rc_model hN) (ev6_ofBooking C.lt hN h8) rfl hc hs ?_
      refine x_istore_n hx C d6_writeSchedule_38 rfl ?_
      refine r_iconst C d6_writeSchedule_39 ?_
      refine x_istore_n hx C d6_writeSchedule_40 rfl ?_
      obtain ⟨W17, h18, h⟩ := bd_of h
      refine AtH.sw (lp6_writeSchedule_41 hN hx C M hc hs FU h18 ?_) ⟨rfl, rfl, rfl, rfl, trivial⟩
      refine r_aload_n C d6_writeSchedule_69 rfl ?_
      refine r_aload_n C d6_writeSchedule_70 rfl ?_
      refine r_iload_n C d6_writeSchedule_71 rfl ?_
      refine r_iconst C d6_writeSchedule_72 ?_
      obtain ⟨r20, h19, h⟩ := bd_of h
      refine cV2_i C M d6_writeSchedule_73 l6_91 w6_ofBooking (rc_model hN) (ev6_ofBooking C.lt hN h19) rfl hc hs ?_
      refine r_iconst C d6_writeSchedule_76 ?_
      obtain ⟨y22, h23, h⟩ := bd_of h
      suffices J24 : At G X cells slots 87 [(0, .ref (gB G + 148)), (1, vI x1)] [vI y22, .ref (gB G + 148)] W17 by
        replace h := h23
        refine x_icmpne (tgt := 85) C d6_writeSchedule_77 rfl (fun c21 => ?_) (fun c21 => ?_)
        · replace h := ite_p c21 h
          refine r_bipush C d6_writeSchedule_80 (by decide +kernel) ?_
          refine r_goto (tgt := 87) C d6_writeSchedule_82 rfl ?_
          cases h
          exact AtH.sw J24 ⟨rfl, rfl, trivial⟩
        · replace h := ite_m c21 h
          refine r_bipush C d6_writeSchedule_85 (by decide +kernel) ?_
          cases h
          exact AtH.sw J24 ⟨rfl, rfl, trivial⟩
      obtain ⟨W26, h25, h⟩ := bd_of h
      refine cV1_v C M d6_writeSchedule_87 l6_301 w6_put (rc_model hN) (ev6_put C.lt hN h25) rfl hc hs ?_
      refine r_aload_n C d6_writeSchedule_90 rfl ?_
      refine r_aload_n C d6_writeSchedule_91 rfl ?_
      refine r_iload_n C d6_writeSchedule_92 rfl ?_
      refine r_iconst C d6_writeSchedule_93 ?_
      obtain ⟨r28, h27, h⟩ := bd_of h
      refine cV2_i C M d6_writeSchedule_94 l6_91 w6_ofBooking (rc_model hN) (ev6_ofBooking C.lt hN h27) rfl hc hs ?_
      obtain ⟨W30, h29, h⟩ := bd_of h
      refine cV1_v C M d6_writeSchedule_97 l6_304 w6_putNumber (rc_model hN) (ev6_putNumber C.lt hN h29) rfl hc hs ?_
      refine r_aload_n C d6_writeSchedule_100 rfl ?_
      refine r_bipush C d6_writeSchedule_101 (by decide +kernel) ?_
      obtain ⟨W32, h31, h⟩ := bd_of h
      refine cV1_v C M d6_writeSchedule_103 l6_301 w6_put (rc_model hN) (ev6_put C.lt hN h31) rfl hc hs ?_
      refine r_aload_n C d6_writeSchedule_106 rfl ?_
      refine r_aload_n C d6_writeSchedule_107 rfl ?_
      refine r_iload_n C d6_writeSchedule_108 rfl ?_
      refine r_iconst C d6_writeSchedule_109 ?_
      obtain ⟨r34, h33, h⟩ := bd_of h
      refine cV2_i C M d6_writeSchedule_110 l6_91 w6_ofBooking (rc_model hN) (ev6_ofBooking C.lt hN h33) rfl hc hs ?_
      obtain ⟨W36, h35, h⟩ := bd_of h
      refine cV1_v C M d6_writeSchedule_113 l6_304 w6_putNumber (rc_model hN) (ev6_putNumber C.lt hN h35) rfl hc hs ?_
      refine x_iinc hx C d6_writeSchedule_116 rfl rfl ?_
      refine r_goto (tgt := 12) C d6_writeSchedule_119 rfl ?_
      exact AtH.sw (ih h K) ⟨rfl, rfl, trivial⟩
def f6_writeSchedule (V : VV) : Option (Int × VV) := bd (f6_writeSchedule_L12 FU 0 (up2 (up2 V 148 9 0) 148 8 0)) (fun W37 => some (W37 148 8, W37))
theorem ev6_writeSchedule {G : GT} {l : Launch} {V : VV} {r : Int} {V1 : VV} (hlt : l.stackTraces = false) (hN : 154 ≤ gN G) (h : f6_writeSchedule V = some (r, V1)) : EvX G l y6_writeSchedule b6_writeSchedule 4 (some .int) 2 0 0 [.ref (gB G + 148)] V (.ok (some (vI r))) V1 := by
  refine ev_w hlt (by decide +kernel) rfl rfl (fun X hl hx C M => ?_)
  subst hl
  replace C : Cx G X "ChannelScheduleModel" b6_writeSchedule := C
  unfold f6_writeSchedule at h
  show At G X 0 0 0 [(0, .ref (gB G + 148))] [] V
  refine r_aload_n C d6_writeSchedule_0 rfl ?_
  refine r_iconst C d6_writeSchedule_1 ?_
  refine p_model_9 C d6_writeSchedule_2 f6_1 hN ?_
  refine r_aload_n C d6_writeSchedule_5 rfl ?_
  refine r_iconst C d6_writeSchedule_6 ?_
  refine p_model_8 C d6_writeSchedule_7 f6_39 hN ?_
  refine r_iconst C d6_writeSchedule_10 ?_
  refine x_istore_n hx C d6_writeSchedule_11 rfl ?_
  obtain ⟨W37, h38, h⟩ := bd_of h
  refine AtH.sw (lp6_writeSchedule_12 hN hx C M (Nat.le_of_ble_eq_true rfl) (Nat.le_of_ble_eq_true rfl) FU h38 ?_) ⟨rfl, rfl, trivial⟩
  refine r_aload_n C d6_writeSchedule_122 rfl ?_
  refine g_model_8 C d6_writeSchedule_123 f6_39 hN ?_
  exact e_iv C M d6_writeSchedule_126 (Nat.le_of_ble_eq_true rfl) (Nat.le_of_ble_eq_true rfl) h
def f6_outputByte (V : VV) (x1 : Int) : Option (Int × VV) := bd (f6_in V x1 0 ((V 148 8) - 1)) (fun r2 => bd ((if nrm r2 = 0 then some (1) else some (0))) (fun y4 => bd2 (f6_fails V y4 0 0) (fun r8 W9 => (if nrm r8 = 0 then ck ((0:Int) ≤ x1 ∧ x1 < 360) (some (W9 152 (Int.toNat x1), W9)) else some (0, W9)))))
theorem ev6_outputByte {G : GT} {l : Launch} {V : VV} {x1 : Int} {r : Int} {V1 : VV} (hlt : l.stackTraces = false) (hN : 154 ≤ gN G) (h : f6_outputByte V x1 = some (r, V1)) : EvX G l y6_outputByte b6_outputByte 2 (some .int) 1 0 0 [.ref (gB G + 148), vI x1] V (.ok (some (vI r))) V1 := by
  refine ev_w hlt (by decide +kernel) rfl rfl (fun X hl hx C M => ?_)
  subst hl
  replace C : Cx G X "ChannelScheduleModel" b6_outputByte := C
  unfold f6_outputByte at h
  show At G X 0 0 0 [(0, .ref (gB G + 148)), (1, vI x1)] [] V
  refine r_aload_n C d6_outputByte_0 rfl ?_
  refine r_iload_n C d6_outputByte_1 rfl ?_
  refine r_iconst C d6_outputByte_2 ?_
  refine r_aload_n C d6_outputByte_3 rfl ?_
  refine g_model_8 C d6_outputByte_4 f6_39 hN ?_
  refine r_iconst C d6_outputByte_7 ?_
  refine r_isub C d6_outputByte_8 ?_
  obtain ⟨r2, h1, h⟩ := bd_of h
  refine cS3_i C M d6_outputByte_9 l6_75 w6_in (ev6_in C.lt hN h1) rfl (Nat.le_of_ble_eq_true rfl) (Nat.le_of_ble_eq_true rfl) ?_
  obtain ⟨y4, h5, h⟩ := bd_of h
  suffices J6 : At G X 0 0 20 [(0, .ref (gB G + 148)), (1, vI x1)] [vI y4, .ref (gB G + 148)] V by
    replace h := h5
    refine x_ifne (tgt := 19) C d6_outputByte_12 rfl (fun c3 => ?_) (fun c3 => ?_)
    · replace h := ite_p c3 h
      refine r_iconst C d6_outputByte_15 ?_
      refine r_goto (tgt := 20) C d6_outputByte_16 rfl ?_
      cases h
      exact AtH.sw J6 ⟨rfl, rfl, trivial⟩
    · replace h := ite_m c3 h
      refine r_iconst C d6_outputByte_19 ?_
      cases h
      exact AtH.sw J6 ⟨rfl, rfl, trivial⟩
  refine r_iconst C d6_outputByte_20 ?_
  refine r_iconst C d6_outputByte_21 ?_
  obtain ⟨r8, W9, h7, h⟩ := bd2_of h
  refine cV3_i C M d6_outputByte_22 l6_148 w6_fails (rc_model hN) (ev6_fails C.lt hN h7) rfl (Nat.le_of_ble_eq_true rfl) (Nat.le_of_ble_eq_true rfl) ?_
  refine x_ifeq (tgt := 30) C d6_outputByte_25 rfl (fun c10 => ?_) (fun c10 => ?_)
  · replace h := ite_p c10 h
    refine r_aload_n C d6_outputByte_30 rfl ?_
    refine g_model_7 C d6_outputByte_31 f6_36 hN ?_
    refine r_iload_n C d6_outputByte_34 rfl ?_
    obtain ⟨c11, h⟩ := ck_of h
    refine x_iald C d6_outputByte_35 (ra_written hN) c11 ?_
    exact e_iv C M d6_outputByte_36 (Nat.le_of_ble_eq_true rfl) (Nat.le_of_ble_eq_true rfl) h
  · replace h := ite_m c10 h
    refine r_iconst C d6_outputByte_28 ?_
    exact e_iv C M d6_outputByte_29 (Nat.le_of_ble_eq_true rfl) (Nat.le_of_ble_eq_true rfl) h
