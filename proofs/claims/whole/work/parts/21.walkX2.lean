/-! walks of the class, 2 (printed by walk.py) -/
def f5_readSetup_L26 : Nat → Int → VV → Option (Int × VV)
  | 0, _, _ => none
  | n + 1, x1, V => (if nrm 10 < nrm x1 then some (1, V) else (if nrm x1 ≤ 0 then bd2 (f5_readShip V) (fun r11 W12 => (if nrm r11 = 0 then some (0, W12) else f5_readSetup_L26 n (x1 + 1) W12)) else (if nrm (V 1 4) = 0 then some (1, V) else bd2 (f5_readShip V) (fun r16 W17 => (if nrm r16 = 0 then some (0, W17) else f5_readSetup_L26 n (x1 + 1) W17)))))
theorem lp5_readSetup_26 {G : GT} {X : CT} {cells slots : Nat} (hN : 148 ≤ gN G) (hx : xN X = 2) (C : Cx G X "ChannelSchedule" b5_readSetup) : ∀ (n : Nat) {x1 : Int} {V : VV} {r : Int} {V1 : VV}, MX G X 7 0 0 (some .boolean) (.ok (some (vI r))) V1 → cells ≤ 0 → slots ≤ 0 → f5_readSetup_L26 n x1 V = some (r, V1) → At G X cells slots 26 [(0, .ref (gB G + 0)), (1, vI x1)] [] V := by
  intro n
  induction n with
  | zero => intro x1 V r V1 _ _ _ h; exact nomatch h
  | succ n ih =>
    intro x1 V r V1 M hc hs h
    rw [f5_readSetup_L26] at h
    refine r_iload_n C d5_readSetup_26 rfl ?_
    refine r_bipush C d5_readSetup_27 (by decide +kernel) ?_
    refine x_icmpgt (tgt := 63) C d5_readSetup_29 rfl (fun c8 => ?_) (fun c8 => ?_)
    · replace h := ite_p c8 h
      refine r_iconst C d5_readSetup_63 ?_
      exact e_zv C M d5_readSetup_64 hc hs (Or.inr rfl) h
    · replace h := ite_m c8 h
      refine r_iload_n C d5_readSetup_32 rfl ?_
      refine x_ifle (tgt := 48) C d5_readSetup_33 rfl (fun c9 => ?_) (fun c9 => ?_)
      · replace h := ite_p c9 h
        refine r_aload_n C d5_readSetup_48 rfl ?_
        obtain ⟨r11, W12, h10, h⟩ := bd2_of h
        refine cV0_i C M d5_readSetup_49 l5_388 w5_readShip (rc_main hN) (ev5_readShip C.lt hN h10) rfl hc hs ?_
        refine x_ifne (tgt := 57) C d5_readSetup_52 rfl (fun c13 => ?_) (fun c13 => ?_)
        · replace h := ite_p c13 h
          refine r_iconst C d5_readSetup_55 ?_
          exact e_zv C M d5_readSetup_56 hc hs (Or.inl rfl) h
        · replace h := ite_m c13 h
          refine x_iinc hx C d5_readSetup_57 rfl rfl ?_
          refine r_goto (tgt := 26) C d5_readSetup_60 rfl ?_
          exact AtH.sw (ih M hc hs h) ⟨rfl, rfl, trivial⟩
      · replace h := ite_m c9 h
        refine r_aload_n C d5_readSetup_36 rfl ?_
        refine g_main_0 C d5_readSetup_37 f5_10 hN ?_
        refine g_input_4 C d5_readSetup_40 f5_385 hN ?_
        refine x_ifne (tgt := 48) C d5_readSetup_43 rfl (fun c14 => ?_) (fun c14 => ?_)
        · replace h := ite_p c14 h
          refine r_iconst C d5_readSetup_46 ?_
          exact e_zv C M d5_readSetup_47 hc hs (Or.inr rfl) h
        · replace h := ite_m c14 h
          refine r_aload_n C d5_readSetup_48 rfl ?_
          obtain ⟨r16, W17, h15, h⟩ := bd2_of h
          refine cV0_i C M d5_readSetup_49 l5_388 w5_readShip (rc_main hN) (ev5_readShip C.lt hN h15) rfl hc hs ?_
          refine x_ifne (tgt := 57) C d5_readSetup_52 rfl (fun c18 => ?_) (fun c18 => ?_)
          · replace h := ite_p c18 h
            refine r_iconst C d5_readSetup_55 ?_
            exact e_zv C M d5_readSetup_56 hc hs (Or.inl rfl) h
          · replace h := ite_m c18 h
            refine x_iinc hx C d5_readSetup_57 rfl rfl ?_
            refine r_goto (tgt := 26) C d5_readSetup_60 rfl ?_
            exact AtH.sw (ih M hc hs h) ⟨rfl, rfl, trivial⟩
def f5_readSetup (V : VV) : Option (Int × VV) := bd (f0_startReading V) (fun W2 => ck ((W2 0 3).toNat < 2) (bd2 (f5_readSettings (up2 W2 (aS ((W2 0 3).toNat)) 3 0)) (fun r5 W6 => (if nrm r5 = 0 then some (0, W6) else f5_readSetup_L26 FU 0 W6))))
theorem ev5_readSetup {G : GT} {l : Launch} {V : VV} {r : Int} {V1 : VV} (hlt : l.stackTraces = false) (hN : 148 ≤ gN G) (h : f5_readSetup V = some (r, V1)) : EvX G l y5_readSetup b5_readSetup 2 (some .boolean) 7 0 0 [.ref (gB G + 0)] V (.ok (some (vI r))) V1 := by
  refine ev_w hlt (by decide +kernel) rfl rfl (fun X hl hx C M => ?_)
  subst hl
  replace C : Cx G X "ChannelSchedule" b5_readSetup := C
  unfold f5_readSetup at h
  show At G X 0 0 0 [(0, .ref (gB G + 0))] [] V
  refine r_aload_n C d5_readSetup_0 rfl ?_
  refine g_main_0 C d5_readSetup_1 f5_10 hN ?_
  obtain ⟨W2, h1, h⟩ := bd_of h
  refine cV0_v C M d5_readSetup_4 l5_379 w0_startReading (rc_input hN) (ev0_startReading C.lt hN h1) rfl (Nat.le_of_ble_eq_true rfl) (Nat.le_of_ble_eq_true rfl) ?_
  refine r_aload_n C d5_readSetup_7 rfl ?_
  refine g_main_3 C d5_readSetup_8 f5_30 hN ?_
  obtain ⟨c3, h⟩ := ck_of h
  refine r_iconst C d5_readSetup_11 ?_
  refine p_setup_3 C d5_readSetup_12 f5_111 hN c3 ?_
  refine r_aload_n C d5_readSetup_15 rfl ?_
  obtain ⟨r5, W6, h4, h⟩ := bd2_of h
  refine cV0_i C M d5_readSetup_16 l5_382 w5_readSettings (rc_main hN) (ev5_readSettings C.lt hN h4) rfl (Nat.le_of_ble_eq_true rfl) (Nat.le_of_ble_eq_true rfl) ?_
  refine x_ifne (tgt := 24) C d5_readSetup_19 rfl (fun c7 => ?_) (fun c7 => ?_)
  · replace h := ite_p c7 h
    refine r_iconst C d5_readSetup_22 ?_
    exact e_zv C M d5_readSetup_23 (Nat.le_of_ble_eq_true rfl) (Nat.le_of_ble_eq_true rfl) (Or.inl rfl) h
  · replace h := ite_m c7 h
    refine r_iconst C d5_readSetup_24 ?_
    refine x_istore_n hx C d5_readSetup_25 rfl ?_
    exact AtH.sw (lp5_readSetup_26 hN hx C FU M (Nat.le_of_ble_eq_true rfl) (Nat.le_of_ble_eq_true rfl) h) ⟨rfl, rfl, trivial⟩
def f5_startWithDraft_L39 : Nat → Int → VV → Option (VV)
  | 0, _, _ => none
  | n + 1, x2, V => (if nrm 2 ≤ nrm x2 then some V else ck ((0:Int) ≤ x2 ∧ x2 < 2) (f5_startWithDraft_L39 n (x2 + 1) (up2 V 73 (Int.toNat x2) 0)))
theorem lp5_startWithDraft_39 {G : GT} {X : CT} {cells slots : Nat} (hN : 148 ≤ gN G) (hx : xN X = 3) (C : Cx G X "ChannelSchedule" b5_startWithDraft) {o0 : Except String (Option Value)} {V9 : VV} (M : MX G X 1 0 0 none o0 V9) (hc : cells ≤ 0) (hs : slots ≤ 0) : ∀ (n : Nat) {x2 : Int} {V : VV} {W0 : VV}, f5_startWithDraft_L39 n x2 V = some (W0) → At G X cells slots 57 [] [] W0 → At G X cells slots 39 [(0, .ref (gB G + 0)), (2, vI x2)] [] V := by
  intro n
  induction n with
  | zero => intro x2 V W0 h _; exact nomatch h
  | succ n ih =>
    intro x2 V W0 h K
    rw [f5_startWithDraft_L39] at h
    refine r_iload_n C d5_startWithDraft_39 rfl ?_
    refine r_iconst C d5_startWithDraft_40 ?_
    refine x_icmpge (tgt := 57) C d5_startWithDraft_41 rfl (fun c6 => ?_) (fun c6 => ?_)
    · replace h := ite_p c6 h
      cases h
      exact AtH.sw K trivial
    · replace h := ite_m c6 h
      refine r_aload_n C d5_startWithDraft_44 rfl ?_
      refine g_main_10 C d5_startWithDraft_45 f5_57 hN ?_
      refine r_iload_n C d5_startWithDraft_48 rfl ?_
      refine r_iconst C d5_startWithDraft_49 ?_
      obtain ⟨c7, h⟩ := ck_of h
      refine x_zast C d5_startWithDraft_50 (ra_isSaved hN) c7 (Or.inl rfl) ?_
      refine x_iinc hx C d5_startWithDraft_51 rfl rfl ?_
      refine r_goto (tgt := 39) C d5_startWithDraft_54 rfl ?_
      exact AtH.sw (ih h K) ⟨rfl, rfl, trivial⟩
def f5_startWithDraft (V : VV) : Option VV := ck ((V 0 2).toNat < 2) (ck ((V 0 3).toNat < 2) (ck (((up2 (up2 V 0 2 (((V 0 3).toNat : Nat) : Int)) 0 3 (((V 0 2).toNat : Nat) : Int)) 0 2).toNat < 2) (bd (f1_startAnew (up2 (up2 V 0 2 (((V 0 3).toNat : Nat) : Int)) 0 3 (((V 0 2).toNat : Nat) : Int)) 0 ((up2 (up2 V 0 2 (((V 0 3).toNat : Nat) : Int)) 0 3 (((V 0 2).toNat : Nat) : Int)) (aS (((up2 (up2 V 0 2 (((V 0 3).toNat : Nat) : Int)) 0 3 (((V 0 2).toNat : Nat) : Int)) 0 2).toNat)) 2)) (fun W5 => bd (f5_startWithDraft_L39 FU 0 (up2 W5 0 8 0)) (fun W8 => some W8)))))
theorem ev5_startWithDraft {G : GT} {l : Launch} {V : VV} {V1 : VV} (hlt : l.stackTraces = false) (hN : 148 ≤ gN G) (h : f5_startWithDraft V = some V1) : EvX G l y5_startWithDraft b5_startWithDraft 3 none 1 0 0 [.ref (gB G + 0)] V (.ok none) V1 := by
  refine ev_w hlt (by decide +kernel) rfl rfl (fun X hl hx C M => ?_)
  subst hl
  replace C : Cx G X "ChannelSchedule" b5_startWithDraft := C
  unfold f5_startWithDraft at h
  show At G X 0 0 0 [(0, .ref (gB G + 0))] [] V
  refine r_aload_n C d5_startWithDraft_0 rfl ?_
  refine g_main_2 C d5_startWithDraft_1 f5_26 hN ?_
  obtain ⟨c1, h⟩ := ck_of h
  refine x_astore_n hx C d5_startWithDraft_4 rfl ?_
  refine r_aload_n C d5_startWithDraft_5 rfl ?_
  refine r_aload_n C d5_startWithDraft_6 rfl ?_
  refine g_main_3 C d5_startWithDraft_7 f5_30 hN ?_
  obtain ⟨c2, h⟩ := ck_of h
  refine p_main_2 C d5_startWithDraft_10 f5_26 hN ?_
  refine r_aload_n C d5_startWithDraft_13 rfl ?_
  refine r_aload_n C d5_startWithDraft_14 rfl ?_
  refine p_main_3 C d5_startWithDraft_15 f5_30 hN ?_
  refine r_aload_n C d5_startWithDraft_18 rfl ?_
  refine g_main_4 C d5_startWithDraft_19 f5_36 hN ?_
  refine r_aload_n C d5_startWithDraft_22 rfl ?_
  refine g_main_2 C d5_startWithDraft_23 f5_26 hN ?_
  obtain ⟨c3, h⟩ := ck_of h
  refine g_setup_2 C d5_startWithDraft_26 f5_403 hN c3 ?_
  obtain ⟨W5, h4, h⟩ := bd_of h
  refine cV1_v C M d5_startWithDraft_29 l5_432 w1_startAnew (rc_plan hN p0) (ev1_startAnew C.lt hN h4) rfl (Nat.le_of_ble_eq_true rfl) (Nat.le_of_ble_eq_true rfl) ?_
  refine r_aload_n C d5_startWithDraft_32 rfl ?_
  refine r_iconst C d5_startWithDraft_33 ?_
  refine p_main_8 C d5_startWithDraft_34 f5_51 hN ?_
  refine r_iconst C d5_startWithDraft_37 ?_
  refine x_istore_n hx C d5_startWithDraft_38 rfl ?_
  obtain ⟨W8, h9, h⟩ := bd_of h
  refine AtH.sw (lp5_startWithDraft_39 hN hx C M (Nat.le_of_ble_eq_true rfl) (Nat.le_of_ble_eq_true rfl) FU h9 ?_) ⟨rfl, rfl, trivial⟩
  exact e_v C M d5_startWithDraft_57 (Nat.le_of_ble_eq_true rfl) (Nat.le_of_ble_eq_true rfl) h
def f5_load (V : VV) : Option (Except String Int × VV) := bd2 (f5_readSetup V) (fun r2 W3 => if nrm r2 = 0 then some (.error "java/lang/IllegalArgumentException", up2 W3 1 1 0) else bd (f5_startWithDraft (up2 W3 1 1 0)) (fun W6 => ck ((W6 0 2).toNat < 2) (some (.ok (W6 (aS ((W6 0 2).toNat)) 3), W6))))
theorem ev5_load {G : GT} {l : Launch} {V : VV} {e : Except String Int} {V1 : VV} (hlt : l.stackTraces = false) (hN : 148 ≤ gN G) (hX : gX G = false) (h : f5_load V = some (e, V1)) : EvX G l y5_load b5_load 2 (some .int) 8 1 6 [.ref (gB G + 0)] V (oX e) V1 := by
  refine ev_w hlt (by decide +kernel) rfl rfl (fun X hl hx C M => ?_)
  subst hl
  replace C : Cx G X "ChannelSchedule" b5_load := C
  unfold f5_load at h
  show At G X 0 0 0 [(0, .ref (gB G + 0))] [] V
  refine r_aload_n C d5_load_0 rfl ?_
  obtain ⟨r2, W3, h1, h⟩ := bd2_of h
  refine cV0_i C M d5_load_1 l5_88 w5_readSetup (rc_main hN) (ev5_readSetup C.lt hN h1) rfl (Nat.le_of_ble_eq_true rfl) (Nat.le_of_ble_eq_true rfl) ?_
  refine x_istore_n hx C d5_load_4 rfl ?_
  refine r_aload_n C d5_load_5 rfl ?_
  refine g_main_0 C d5_load_6 f5_10 hN ?_
  refine r_iconst C d5_load_9 ?_
  refine p_input_1 C d5_load_10 f5_95 hN ?_
  refine r_iload_n C d5_load_13 rfl ?_
  refine c_req C M d5_load_14 l5_108 w5_requireArgument (ev5_requireArgument C.lt hX) rfl (Nat.le_of_ble_eq_true rfl) (Nat.le_of_ble_eq_true rfl) (fun c4 => e_thr (ite_p c4 h)) (fun c4 => ?_)
  replace h := ite_m c4 h
  refine r_aload_n C d5_load_17 rfl ?_
  obtain ⟨W6, h5, h⟩ := bd_of h
  refine cV0_v C M d5_load_18 l5_92 w5_startWithDraft (rc_main hN) (ev5_startWithDraft C.lt hN h5) rfl (Nat.le_of_ble_eq_true rfl) (Nat.le_of_ble_eq_true rfl) ?_
  refine r_aload_n C d5_load_21 rfl ?_
  refine g_main_2 C d5_load_22 f5_26 hN ?_
  obtain ⟨c7, h⟩ := ck_of h
  refine g_setup_3 C d5_load_25 f5_111 hN c7 ?_
  exact e_it C M d5_load_28 (Nat.le_of_ble_eq_true rfl) (Nat.le_of_ble_eq_true rfl) h
def f5_errorCode (V : VV) : Option Int := some (V 1 2)
theorem ev5_errorCode {G : GT} {l : Launch} {V : VV} {r : Int} (hlt : l.stackTraces = false) (hN : 148 ≤ gN G) (h : f5_errorCode V = some r) : EvX G l y5_errorCode b5_errorCode 1 (some .int) 0 0 0 [.ref (gB G + 0)] V (.ok (some (vI r))) V := by
  refine ev_w hlt (by decide +kernel) rfl rfl (fun X hl hx C M => ?_)
  subst hl
  replace C : Cx G X "ChannelSchedule" b5_errorCode := C
  unfold f5_errorCode at h
  show At G X 0 0 0 [(0, .ref (gB G + 0))] [] V
  refine r_aload_n C d5_errorCode_0 rfl ?_
  refine g_main_0 C d5_errorCode_1 f5_10 hN ?_
  refine g_input_2 C d5_errorCode_4 f5_114 hN ?_
  exact e_i C M d5_errorCode_7 (Nat.le_of_ble_eq_true rfl) (Nat.le_of_ble_eq_true rfl) h
def f5_errorPosition (V : VV) : Option Int := some (V 1 3)
theorem ev5_errorPosition {G : GT} {l : Launch} {V : VV} {r : Int} (hlt : l.stackTraces = false) (hN : 148 ≤ gN G) (h : f5_errorPosition V = some r) : EvX G l y5_errorPosition b5_errorPosition 1 (some .int) 0 0 0 [.ref (gB G + 0)] V (.ok (some (vI r))) V := by
  refine ev_w hlt (by decide +kernel) rfl rfl (fun X hl hx C M => ?_)
  subst hl
  replace C : Cx G X "ChannelSchedule" b5_errorPosition := C
  unfold f5_errorPosition at h
  show At G X 0 0 0 [(0, .ref (gB G + 0))] [] V
  refine r_aload_n C d5_errorPosition_0 rfl ?_
  refine g_main_0 C d5_errorPosition_1 f5_10 hN ?_
  refine g_input_3 C d5_errorPosition_4 f5_117 hN ?_
  exact e_i C M d5_errorPosition_7 (Nat.le_of_ble_eq_true rfl) (Nat.le_of_ble_eq_true rfl) h
def f5_shipCount (V : VV) : Option Int := ck ((V 0 2).toNat < 2) (some (V (aS ((V 0 2).toNat)) 3))
theorem ev5_shipCount {G : GT} {l : Launch} {V : VV} {r : Int} (hlt : l.stackTraces = false) (hN : 148 ≤ gN G) (h : f5_shipCount V = some r) : EvX G l y5_shipCount b5_shipCount 1 (some .int) 0 0 0 [.ref (gB G + 0)] V (.ok (some (vI r))) V := by
  refine ev_w hlt (by decide +kernel) rfl rfl (fun X hl hx C M => ?_)
  subst hl
  replace C : Cx G X "ChannelSchedule" b5_shipCount := C
  unfold f5_shipCount at h
  show At G X 0 0 0 [(0, .ref (gB G + 0))] [] V
  refine r_aload_n C d5_shipCount_0 rfl ?_
  refine g_main_2 C d5_shipCount_1 f5_26 hN ?_
  obtain ⟨c1, h⟩ := ck_of h
  refine g_setup_3 C d5_shipCount_4 f5_111 hN c1 ?_
  exact e_i C M d5_shipCount_7 (Nat.le_of_ble_eq_true rfl) (Nat.le_of_ble_eq_true rfl) h
def f5_headway (V : VV) : Option Int := ck ((V 0 2).toNat < 2) (some (V (aS ((V 0 2).toNat)) 0))
theorem ev5_headway {G : GT} {l : Launch} {V : VV} {r : Int} (hlt : l.stackTraces = false) (hN : 148 ≤ gN G) (h : f5_headway V = some r) : EvX G l y5_headway b5_headway 1 (some .int) 0 0 0 [.ref (gB G + 0)] V (.ok (some (vI r))) V := by
  refine ev_w hlt (by decide +kernel) rfl rfl (fun X hl hx C M => ?_)
  subst hl
  replace C : Cx G X "ChannelSchedule" b5_headway := C
  unfold f5_headway at h
  show At G X 0 0 0 [(0, .ref (gB G + 0))] [] V
  refine r_aload_n C d5_headway_0 rfl ?_
  refine g_main_2 C d5_headway_1 f5_26 hN ?_
  obtain ⟨c1, h⟩ := ck_of h
  refine g_setup_0 C d5_headway_4 f5_120 hN c1 ?_
  exact e_i C M d5_headway_7 (Nat.le_of_ble_eq_true rfl) (Nat.le_of_ble_eq_true rfl) h
def f5_clearance (V : VV) : Option Int := ck ((V 0 2).toNat < 2) (some (V (aS ((V 0 2).toNat)) 1))
theorem ev5_clearance {G : GT} {l : Launch} {V : VV} {r : Int} (hlt : l.stackTraces = false) (hN : 148 ≤ gN G) (h : f5_clearance V = some r) : EvX G l y5_clearance b5_clearance 1 (some .int) 0 0 0 [.ref (gB G + 0)] V (.ok (some (vI r))) V := by
  refine ev_w hlt (by decide +kernel) rfl rfl (fun X hl hx C M => ?_)
  subst hl
  replace C : Cx G X "ChannelSchedule" b5_clearance := C
  unfold f5_clearance at h
  show At G X 0 0 0 [(0, .ref (gB G + 0))] [] V
  refine r_aload_n C d5_clearance_0 rfl ?_
  refine g_main_2 C d5_clearance_1 f5_26 hN ?_
  obtain ⟨c1, h⟩ := ck_of h
  refine g_setup_1 C d5_clearance_4 f5_123 hN c1 ?_
  exact e_i C M d5_clearance_7 (Nat.le_of_ble_eq_true rfl) (Nat.le_of_ble_eq_true rfl) h
def f5_thickness (V : VV) : Option Int := some (V (aP 0) 0)
theorem ev5_thickness {G : GT} {l : Launch} {V : VV} {r : Int} (hlt : l.stackTraces = false) (hN : 148 ≤ gN G) (h : f5_thickness V = some r) : EvX G l y5_thickness b5_thickness 1 (some .int) 0 0 0 [.ref (gB G + 0)] V (.ok (some (vI r))) V := by
  refine ev_w hlt (by decide +kernel) rfl rfl (fun X hl hx C M => ?_)
  subst hl
  replace C : Cx G X "ChannelSchedule" b5_thickness := C
  unfold f5_thickness at h
  show At G X 0 0 0 [(0, .ref (gB G + 0))] [] V
  refine r_aload_n C d5_thickness_0 rfl ?_
  refine g_main_4 C d5_thickness_1 f5_36 hN ?_
  refine g_plan_0 C d5_thickness_4 f5_126 hN p0 ?_
  exact e_i C M d5_thickness_7 (Nat.le_of_ble_eq_true rfl) (Nat.le_of_ble_eq_true rfl) h
def f5_minute (V : VV) : Option Int := some (V (aP 0) 1)
theorem ev5_minute {G : GT} {l : Launch} {V : VV} {r : Int} (hlt : l.stackTraces = false) (hN : 148 ≤ gN G) (h : f5_minute V = some r) : EvX G l y5_minute b5_minute 1 (some .int) 0 0 0 [.ref (gB G + 0)] V (.ok (some (vI r))) V := by
  refine ev_w hlt (by decide +kernel) rfl rfl (fun X hl hx C M => ?_)
  subst hl
  replace C : Cx G X "ChannelSchedule" b5_minute := C
  unfold f5_minute at h
  show At G X 0 0 0 [(0, .ref (gB G + 0))] [] V
  refine r_aload_n C d5_minute_0 rfl ?_
  refine g_main_4 C d5_minute_1 f5_36 hN ?_
  refine g_plan_1 C d5_minute_4 f5_129 hN p0 ?_
  exact e_i C M d5_minute_7 (Nat.le_of_ble_eq_true rfl) (Nat.le_of_ble_eq_true rfl) h
def f5_isNumberBelow (V : VV) (x0 : Int) (x1 : Int) : Option Int := (if nrm x0 < 0 then some 0 else (if nrm x1 ≤ nrm x0 then some 0 else some 1))
theorem ev5_isNumberBelow {G : GT} {l : Launch} {V : VV} {x0 : Int} {x1 : Int} {r : Int} (hlt : l.stackTraces = false) (hN : 148 ≤ gN G) (h : f5_isNumberBelow V x0 x1 = some r) : EvX G l y5_isNumberBelow b5_isNumberBelow 2 (some .boolean) 0 0 0 [vI x0, vI x1] V (.ok (some (vI r))) V := by
  refine ev_w hlt (by decide +kernel) rfl rfl (fun X hl hx C M => ?_)
  subst hl
  replace C : Cx G X "ChannelSchedule" b5_isNumberBelow := C
  unfold f5_isNumberBelow at h
  show At G X 0 0 0 [(0, vI x0), (1, vI x1)] [] V
  refine r_iload_n C d5_isNumberBelow_0 rfl ?_
  refine x_iflt (tgt := 13) C d5_isNumberBelow_1 rfl (fun c1 => ?_) (fun c1 => ?_)
  · replace h := ite_p c1 h
    refine r_iconst C d5_isNumberBelow_13 ?_
    exact e_z C M d5_isNumberBelow_14 (Nat.le_of_ble_eq_true rfl) (Nat.le_of_ble_eq_true rfl) (Or.inl rfl) h
  · replace h := ite_m c1 h
    refine r_iload_n C d5_isNumberBelow_4 rfl ?_
    refine r_iload_n C d5_isNumberBelow_5 rfl ?_
    refine x_icmpge (tgt := 13) C d5_isNumberBelow_6 rfl (fun c2 => ?_) (fun c2 => ?_)
    · replace h := ite_p c2 h
      refine r_iconst C d5_isNumberBelow_13 ?_
      exact e_z C M d5_isNumberBelow_14 (Nat.le_of_ble_eq_true rfl) (Nat.le_of_ble_eq_true rfl) (Or.inl rfl) h
    · replace h := ite_m c2 h
      refine r_iconst C d5_isNumberBelow_9 ?_
      refine r_goto (tgt := 14) C d5_isNumberBelow_10 rfl ?_
      exact e_z C M d5_isNumberBelow_14 (Nat.le_of_ble_eq_true rfl) (Nat.le_of_ble_eq_true rfl) (Or.inr rfl) h
def f5_isShip (V : VV) (x1 : Int) : Option Int := ck ((V 0 2).toNat < 2) (bd (f5_isNumberBelow V x1 (V (aS ((V 0 2).toNat)) 3)) (fun r3 => ck (r3 = 0 ∨ r3 = 1) (some r3)))
theorem ev5_isShip {G : GT} {l : Launch} {V : VV} {x1 : Int} {r : Int} (hlt : l.stackTraces = false) (hN : 148 ≤ gN G) (h : f5_isShip V x1 = some r) : EvX G l y5_isShip b5_isShip 2 (some .boolean) 1 0 0 [.ref (gB G + 0), vI x1] V (.ok (some (vI r))) V := by
  refine ev_w hlt (by decide +kernel) rfl rfl (fun X hl hx C M => ?_)
  subst hl
  replace C : Cx G X "ChannelSchedule" b5_isShip := C
  unfold f5_isShip at h
  show At G X 0 0 0 [(0, .ref (gB G + 0)), (1, vI x1)] [] V
  refine r_iload_n C d5_isShip_0 rfl ?_
  refine r_aload_n C d5_isShip_1 rfl ?_
  refine g_main_2 C d5_isShip_2 f5_26 hN ?_
  obtain ⟨c1, h⟩ := ck_of h
  refine g_setup_3 C d5_isShip_5 f5_111 hN c1 ?_
  obtain ⟨r3, h2, h⟩ := bd_of h
  refine cS2_i C M d5_isShip_8 l5_158 w5_isNumberBelow (ev5_isNumberBelow C.lt hN h2) rfl (Nat.le_of_ble_eq_true rfl) (Nat.le_of_ble_eq_true rfl) ?_
  obtain ⟨c4, h⟩ := ck_of h
  exact e_z C M d5_isShip_11 (Nat.le_of_ble_eq_true rfl) (Nat.le_of_ble_eq_true rfl) c4 h
def f5_transitOf (V : VV) (x1 : Int) : Option Int := ck ((V 0 2).toNat < 2) (ck ((0:Int) ≤ x1 ∧ x1 < 10) ((if nrm ((V (aP 0) 0) - (V (aS ((V 0 2).toNat) + (2 + 2 * (Int.toNat x1))) 3)) ≤ 0 then some (V (aS ((V 0 2).toNat) + (2 + 2 * (Int.toNat x1))) 2) else some ((V (aS ((V 0 2).toNat) + (2 + 2 * (Int.toNat x1))) 2) + (2 * ((V (aP 0) 0) - (V (aS ((V 0 2).toNat) + (2 + 2 * (Int.toNat x1))) 3)))))))
theorem ev5_transitOf {G : GT} {l : Launch} {V : VV} {x1 : Int} {r : Int} (hlt : l.stackTraces = false) (hN : 148 ≤ gN G) (h : f5_transitOf V x1 = some r) : EvX G l y5_transitOf b5_transitOf 4 (some .int) 0 0 0 [.ref (gB G + 0), vI x1] V (.ok (some (vI r))) V := by
  refine ev_w hlt (by decide +kernel) rfl rfl (fun X hl hx C M => ?_)
  subst hl
  replace C : Cx G X "ChannelSchedule" b5_transitOf := C
  unfold f5_transitOf at h
  show At G X 0 0 0 [(0, .ref (gB G + 0)), (1, vI x1)] [] V
  refine r_aload_n C d5_transitOf_0 rfl ?_
  refine g_main_2 C d5_transitOf_1 f5_26 hN ?_
  obtain ⟨c1, h⟩ := ck_of h
  refine g_setup_4 C d5_transitOf_4 f5_143 hN c1 ?_
  refine r_iload_n C d5_transitOf_7 rfl ?_
  obtain ⟨c2, h⟩ := ck_of h
  refine x_ships C d5_transitOf_8 hN c1 c2 ?_
  refine x_astore_n hx C d5_transitOf_9 rfl ?_
  refine r_aload_n C d5_transitOf_10 rfl ?_
  refine g_main_4 C d5_transitOf_11 f5_36 hN ?_
  refine g_plan_0 C d5_transitOf_14 f5_126 hN p0 ?_
  refine r_aload_n C d5_transitOf_17 rfl ?_
  refine g_ship_3 C d5_transitOf_18 f5_147 hN c1 (by omega : Int.toNat x1 < 10) ?_
  refine r_isub C d5_transitOf_21 ?_
  refine x_istore_n hx C d5_transitOf_22 rfl ?_
  refine r_iload_n C d5_transitOf_23 rfl ?_
  refine x_ifle (tgt := 38) C d5_transitOf_24 rfl (fun c3 => ?_) (fun c3 => ?_)
  · replace h := ite_p c3 h
    refine r_aload_n C d5_transitOf_38 rfl ?_
    refine g_ship_2 C d5_transitOf_39 f5_348 hN c1 (by omega : Int.toNat x1 < 10) ?_
    exact e_i C M d5_transitOf_42 (Nat.le_of_ble_eq_true rfl) (Nat.le_of_ble_eq_true rfl) h
  · replace h := ite_m c3 h
    refine r_aload_n C d5_transitOf_27 rfl ?_
    refine g_ship_2 C d5_transitOf_28 f5_348 hN c1 (by omega : Int.toNat x1 < 10) ?_
    refine r_iconst C d5_transitOf_31 ?_
    refine r_iload_n C d5_transitOf_32 rfl ?_
    refine r_imul C d5_transitOf_33 ?_
    refine r_iadd C d5_transitOf_34 ?_
    refine r_goto (tgt := 42) C d5_transitOf_35 rfl ?_
    exact e_i C M d5_transitOf_42 (Nat.le_of_ble_eq_true rfl) (Nat.le_of_ble_eq_true rfl) h
def f5_transitTime (V : VV) (x1 : Int) : Option (Except String Int × VV) := bd (f5_isShip V x1) (fun r2 => if nrm r2 = 0 then some (.error "java/lang/IndexOutOfBoundsException", V) else bd (f5_transitOf V x1) (fun r5 => some (.ok r5, V)))
theorem ev5_transitTime {G : GT} {l : Launch} {V : VV} {x1 : Int} {e : Except String Int} {V1 : VV} (hlt : l.stackTraces = false) (hN : 148 ≤ gN G) (hX : gX G = false) (h : f5_transitTime V x1 = some (e, V1)) : EvX G l y5_transitTime b5_transitTime 2 (some .int) 7 1 6 [.ref (gB G + 0), vI x1] V (oX e) V1 := by
  refine ev_w hlt (by decide +kernel) rfl rfl (fun X hl hx C M => ?_)
  subst hl
  replace C : Cx G X "ChannelSchedule" b5_transitTime := C
  unfold f5_transitTime at h
  show At G X 0 0 0 [(0, .ref (gB G + 0)), (1, vI x1)] [] V
  refine r_aload_n C d5_transitTime_0 rfl ?_
  refine r_iload_n C d5_transitTime_1 rfl ?_
  obtain ⟨r2, h1, h⟩ := bd_of h
  refine cV1_i C M d5_transitTime_2 l5_132 w5_isShip (rc_main hN) (ev5_isShip C.lt hN h1) rfl (Nat.le_of_ble_eq_true rfl) (Nat.le_of_ble_eq_true rfl) ?_
  refine c_req C M d5_transitTime_5 l5_136 w5_requireIndex (ev5_requireIndex C.lt hX) rfl (Nat.le_of_ble_eq_true rfl) (Nat.le_of_ble_eq_true rfl) (fun c3 => e_thr (ite_p c3 h)) (fun c3 => ?_)
  replace h := ite_m c3 h
  refine r_aload_n C d5_transitTime_8 rfl ?_
  refine r_iload_n C d5_transitTime_9 rfl ?_
  obtain ⟨r5, h4, h⟩ := bd_of h
  refine cV1_i C M d5_transitTime_10 l5_139 w5_transitOf (rc_main hN) (ev5_transitOf C.lt hN h4) rfl (Nat.le_of_ble_eq_true rfl) (Nat.le_of_ble_eq_true rfl) ?_
  exact e_it C M d5_transitTime_13 (Nat.le_of_ble_eq_true rfl) (Nat.le_of_ble_eq_true rfl) h
def f5_iceClass (V : VV) (x1 : Int) : Option (Except String Int × VV) := bd (f5_isShip V x1) (fun r2 => if nrm r2 = 0 then some (.error "java/lang/IndexOutOfBoundsException", V) else ck ((V 0 2).toNat < 2) (ck ((0:Int) ≤ x1 ∧ x1 < 10) (some (.ok (V (aS ((V 0 2).toNat) + (2 + 2 * (Int.toNat x1))) 3), V))))
theorem ev5_iceClass {G : GT} {l : Launch} {V : VV} {x1 : Int} {e : Except String Int} {V1 : VV} (hlt : l.stackTraces = false) (hN : 148 ≤ gN G) (hX : gX G = false) (h : f5_iceClass V x1 = some (e, V1)) : EvX G l y5_iceClass b5_iceClass 2 (some .int) 7 1 6 [.ref (gB G + 0), vI x1] V (oX e) V1 := by
  refine ev_w hlt (by decide +kernel) rfl rfl (fun X hl hx C M => ?_)
  subst hl
  replace C : Cx G X "ChannelSchedule" b5_iceClass := C
  unfold f5_iceClass at h
  show At G X 0 0 0 [(0, .ref (gB G + 0)), (1, vI x1)] [] V
  refine r_aload_n C d5_iceClass_0 rfl ?_
  refine r_iload_n C d5_iceClass_1 rfl ?_
  obtain ⟨r2, h1, h⟩ := bd_of h
  refine cV1_i C M d5_iceClass_2 l5_132 w5_isShip (rc_main hN) (ev5_isShip C.lt hN h1) rfl (Nat.le_of_ble_eq_true rfl) (Nat.le_of_ble_eq_true rfl) ?_
  refine c_req C M d5_iceClass_5 l5_136 w5_requireIndex (ev5_requireIndex C.lt hX) rfl (Nat.le_of_ble_eq_true rfl) (Nat.le_of_ble_eq_true rfl) (fun c3 => e_thr (ite_p c3 h)) (fun c3 => ?_)
  replace h := ite_m c3 h
  refine r_aload_n C d5_iceClass_8 rfl ?_
  refine g_main_2 C d5_iceClass_9 f5_26 hN ?_
  obtain ⟨c4, h⟩ := ck_of h
  refine g_setup_4 C d5_iceClass_12 f5_143 hN c4 ?_
  refine r_iload_n C d5_iceClass_15 rfl ?_
  obtain ⟨c5, h⟩ := ck_of h
  refine x_ships C d5_iceClass_16 hN c4 c5 ?_
  refine g_ship_3 C d5_iceClass_17 f5_147 hN c4 (by omega : Int.toNat x1 < 10) ?_
  exact e_it C M d5_iceClass_20 (Nat.le_of_ble_eq_true rfl) (Nat.le_of_ble_eq_true rfl) h
def f5_weight (V : VV) (x1 : Int) : Option (Except String Int × VV) := bd (f5_isShip V x1) (fun r2 => if nrm r2 = 0 then some (.error "java/lang/IndexOutOfBoundsException", V) else ck ((V 0 2).toNat < 2) (ck ((0:Int) ≤ x1 ∧ x1 < 10) (some (.ok (V (aS ((V 0 2).toNat) + (2 + 2 * (Int.toNat x1))) 4), V))))
theorem ev5_weight {G : GT} {l : Launch} {V : VV} {x1 : Int} {e : Except String Int} {V1 : VV} (hlt : l.stackTraces = false) (hN : 148 ≤ gN G) (hX : gX G = false) (h : f5_weight V x1 = some (e, V1)) : EvX G l y5_weight b5_weight 2 (some .int) 7 1 6 [.ref (gB G + 0), vI x1] V (oX e) V1 := by
  refine ev_w hlt (by decide +kernel) rfl rfl (fun X hl hx C M => ?_)
  subst hl
  replace C : Cx G X "ChannelSchedule" b5_weight := C
  unfold f5_weight at h
  show At G X 0 0 0 [(0, .ref (gB G + 0)), (1, vI x1)] [] V
  refine r_aload_n C d5_weight_0 rfl ?_
  refine r_iload_n C d5_weight_1 rfl ?_
  obtain ⟨r2, h1, h⟩ := bd_of h
  refine cV1_i C M d5_weight_2 l5_132 w5_isShip (rc_main hN) (ev5_isShip C.lt hN h1) rfl (Nat.le_of_ble_eq_true rfl) (Nat.le_of_ble_eq_true rfl) ?_
  refine c_req C M d5_weight_5 l5_136 w5_requireIndex (ev5_requireIndex C.lt hX) rfl (Nat.le_of_ble_eq_true rfl) (Nat.le_of_ble_eq_true rfl) (fun c3 => e_thr (ite_p c3 h)) (fun c3 => ?_)
  replace h := ite_m c3 h
  refine r_aload_n C d5_weight_8 rfl ?_
  refine g_main_2 C d5_weight_9 f5_26 hN ?_
  obtain ⟨c4, h⟩ := ck_of h
  refine g_setup_4 C d5_weight_12 f5_143 hN c4 ?_
  refine r_iload_n C d5_weight_15 rfl ?_
  obtain ⟨c5, h⟩ := ck_of h
  refine x_ships C d5_weight_16 hN c4 c5 ?_
  refine g_ship_4 C d5_weight_17 f5_152 hN c4 (by omega : Int.toNat x1 < 10) ?_
  exact e_it C M d5_weight_20 (Nat.le_of_ble_eq_true rfl) (Nat.le_of_ble_eq_true rfl) h
def f5_shipNameByte (V : VV) (x1 : Int) (x2 : Int) : Option (Except String Int × VV) := bd (f5_isShip V x1) (fun r2 => if nrm r2 = 0 then some (.error "java/lang/IndexOutOfBoundsException", V) else ck ((V 0 2).toNat < 2) (ck ((0:Int) ≤ x1 ∧ x1 < 10) (bd (f5_isNumberBelow V x2 (V (aS ((V 0 2).toNat) + (2 + 2 * (Int.toNat x1))) 1)) (fun r7 => if nrm r7 = 0 then some (.error "java/lang/IndexOutOfBoundsException", V) else ck ((0:Int) ≤ x2 ∧ x2 < 6) (some (.ok (V (aS ((V 0 2).toNat) + (2 + 2 * (Int.toNat x1)) + 1) (Int.toNat x2)), V))))))
theorem ev5_shipNameByte {G : GT} {l : Launch} {V : VV} {x1 : Int} {x2 : Int} {e : Except String Int} {V1 : VV} (hlt : l.stackTraces = false) (hN : 148 ≤ gN G) (hX : gX G = false) (h : f5_shipNameByte V x1 x2 = some (e, V1)) : EvX G l y5_shipNameByte b5_shipNameByte 4 (some .int) 7 2 12 [.ref (gB G + 0), vI x1, vI x2] V (oX e) V1 := by
  refine ev_w hlt (by decide +kernel) rfl rfl (fun X hl hx C M => ?_)
  subst hl
  replace C : Cx G X "ChannelSchedule" b5_shipNameByte := C
  unfold f5_shipNameByte at h
  show At G X 0 0 0 [(0, .ref (gB G + 0)), (1, vI x1), (2, vI x2)] [] V
  refine r_aload_n C d5_shipNameByte_0 rfl ?_
  refine r_iload_n C d5_shipNameByte_1 rfl ?_
  obtain ⟨r2, h1, h⟩ := bd_of h
  refine cV1_i C M d5_shipNameByte_2 l5_132 w5_isShip (rc_main hN) (ev5_isShip C.lt hN h1) rfl (Nat.le_of_ble_eq_true rfl) (Nat.le_of_ble_eq_true rfl) ?_
  refine c_req C M d5_shipNameByte_5 l5_136 w5_requireIndex (ev5_requireIndex C.lt hX) rfl (Nat.le_of_ble_eq_true rfl) (Nat.le_of_ble_eq_true rfl) (fun c3 => e_thr (ite_p c3 h)) (fun c3 => ?_)
  replace h := ite_m c3 h
  refine r_aload_n C d5_shipNameByte_8 rfl ?_
  refine g_main_2 C d5_shipNameByte_9 f5_26 hN ?_
  obtain ⟨c4, h⟩ := ck_of h
  refine g_setup_4 C d5_shipNameByte_12 f5_143 hN c4 ?_
  refine r_iload_n C d5_shipNameByte_15 rfl ?_
  obtain ⟨c5, h⟩ := ck_of h
  refine x_ships C d5_shipNameByte_16 hN c4 c5 ?_
  refine x_astore_n hx C d5_shipNameByte_17 rfl ?_
  refine r_iload_n C d5_shipNameByte_18 rfl ?_
  refine r_aload_n C d5_shipNameByte_19 rfl ?_
  refine g_ship_1 C d5_shipNameByte_20 f5_155 hN c4 (by omega : Int.toNat x1 < 10) ?_
  obtain ⟨r7, h6, h⟩ := bd_of h
  refine cS2_i C M d5_shipNameByte_23 l5_158 w5_isNumberBelow (ev5_isNumberBelow C.lt hN h6) rfl (Nat.le_of_ble_eq_true rfl) (Nat.le_of_ble_eq_true rfl) ?_
  refine c_req C M d5_shipNameByte_26 l5_136 w5_requireIndex (ev5_requireIndex C.lt hX) rfl (Nat.le_of_ble_eq_true rfl) (Nat.le_of_ble_eq_true rfl) (fun c8 => e_thr (ite_p c8 h)) (fun c8 => ?_)
  replace h := ite_m c8 h
  refine r_aload_n C d5_shipNameByte_29 rfl ?_
  refine g_ship_0 C d5_shipNameByte_30 f5_162 hN c4 (by omega : Int.toNat x1 < 10) ?_
  refine r_iload_n C d5_shipNameByte_33 rfl ?_
  obtain ⟨c9, h⟩ := ck_of h
  refine x_bald C d5_shipNameByte_34 (ra_name hN c4 (by omega : Int.toNat x1 < 10)) c9 ?_
  exact e_it C M d5_shipNameByte_35 (Nat.le_of_ble_eq_true rfl) (Nat.le_of_ble_eq_true rfl) h
def f5_findShip (V : VV) : Option (Except String Int × VV) := ck ((V 0 2).toNat < 2) (bd (f3_shipNamed V ((V 0 2).toNat) 0 (V 1 1)) (fun r3 => (if nrm r3 = nrm (-1) then if nrm 0 = 0 then some (.error "java/util/NoSuchElementException", V) else some (.ok r3, V) else if nrm 1 = 0 then some (.error "java/util/NoSuchElementException", V) else some (.ok r3, V))))
theorem ev5_findShip {G : GT} {l : Launch} {V : VV} {e : Except String Int} {V1 : VV} (hlt : l.stackTraces = false) (hN : 148 ≤ gN G) (hX : gX G = false) (h : f5_findShip V = some (e, V1)) : EvX G l y5_findShip b5_findShip 2 (some .int) 7 1 6 [.ref (gB G + 0)] V (oX e) V1 := by
  refine ev_w hlt (by decide +kernel) rfl rfl (fun X hl hx C M => ?_)
  subst hl
  replace C : Cx G X "ChannelSchedule" b5_findShip := C
  unfold f5_findShip at h
  show At G X 0 0 0 [(0, .ref (gB G + 0))] [] V
  refine r_aload_n C d5_findShip_0 rfl ?_
  refine g_main_2 C d5_findShip_1 f5_26 hN ?_
  obtain ⟨c1, h⟩ := ck_of h
  refine r_aload_n C d5_findShip_4 rfl ?_
  refine g_main_0 C d5_findShip_5 f5_10 hN ?_
  refine g_input_0 C d5_findShip_8 f5_165 hN ?_
  refine r_iconst C d5_findShip_11 ?_
  refine r_aload_n C d5_findShip_12 rfl ?_
  refine g_main_0 C d5_findShip_13 f5_10 hN ?_
  refine g_input_1 C d5_findShip_16 f5_95 hN ?_
  obtain ⟨r3, h2, h⟩ := bd_of h
  refine cV3_i C M d5_findShip_19 l5_168 w3_shipNamed (rc_setup hN c1) (ev3_shipNamed C.lt hN h2) rfl (Nat.le_of_ble_eq_true rfl) (Nat.le_of_ble_eq_true rfl) ?_
  refine x_istore_n hx C d5_findShip_22 rfl ?_
  refine r_iload_n C d5_findShip_23 rfl ?_
  refine r_iconst C d5_findShip_24 ?_
  refine x_icmpeq (tgt := 32) C d5_findShip_25 rfl (fun c4 => ?_) (fun c4 => ?_)
  · replace h := ite_p c4 h
    refine r_iconst C d5_findShip_32 ?_
    refine c_req C M d5_findShip_33 l5_172 w5_requireElement (ev5_requireElement C.lt hX) rfl (Nat.le_of_ble_eq_true rfl) (Nat.le_of_ble_eq_true rfl) (fun c5 => e_thr (ite_p c5 h)) (fun c5 => ?_)
    replace h := ite_m c5 h
    refine r_iload_n C d5_findShip_36 rfl ?_
    exact e_it C M d5_findShip_37 (Nat.le_of_ble_eq_true rfl) (Nat.le_of_ble_eq_true rfl) h
  · replace h := ite_m c4 h
    refine r_iconst C d5_findShip_28 ?_
    refine r_goto (tgt := 33) C d5_findShip_29 rfl ?_
    refine c_req C M d5_findShip_33 l5_172 w5_requireElement (ev5_requireElement C.lt hX) rfl (Nat.le_of_ble_eq_true rfl) (Nat.le_of_ble_eq_true rfl) (fun c6 => e_thr (ite_p c6 h)) (fun c6 => ?_)
    replace h := ite_m c6 h
    refine r_iload_n C d5_findShip_36 rfl ?_
    exact e_it C M d5_findShip_37 (Nat.le_of_ble_eq_true rfl) (Nat.le_of_ble_eq_true rfl) h
def f5_bookingCount (V : VV) : Option Int := some (V (aP 0) 5)
theorem ev5_bookingCount {G : GT} {l : Launch} {V : VV} {r : Int} (hlt : l.stackTraces = false) (hN : 148 ≤ gN G) (h : f5_bookingCount V = some r) : EvX G l y5_bookingCount b5_bookingCount 1 (some .int) 0 0 0 [.ref (gB G + 0)] V (.ok (some (vI r))) V := by
  refine ev_w hlt (by decide +kernel) rfl rfl (fun X hl hx C M => ?_)
  subst hl
  replace C : Cx G X "ChannelSchedule" b5_bookingCount := C
  unfold f5_bookingCount at h
  show At G X 0 0 0 [(0, .ref (gB G + 0))] [] V
  refine r_aload_n C d5_bookingCount_0 rfl ?_
  refine g_main_4 C d5_bookingCount_1 f5_36 hN ?_
  refine g_plan_5 C d5_bookingCount_4 f5_175 hN p0 ?_
  exact e_i C M d5_bookingCount_7 (Nat.le_of_ble_eq_true rfl) (Nat.le_of_ble_eq_true rfl) h
def f5_isBooking (V : VV) (x1 : Int) : Option Int := bd (f5_isNumberBelow V x1 (V (aP 0) 5)) (fun r2 => ck (r2 = 0 ∨ r2 = 1) (some r2))
theorem ev5_isBooking {G : GT} {l : Launch} {V : VV} {x1 : Int} {r : Int} (hlt : l.stackTraces = false) (hN : 148 ≤ gN G) (h : f5_isBooking V x1 = some r) : EvX G l y5_isBooking b5_isBooking 2 (some .boolean) 1 0 0 [.ref (gB G + 0), vI x1] V (.ok (some (vI r))) V := by
  refine ev_w hlt (by decide +kernel) rfl rfl (fun X hl hx C M => ?_)
  subst hl
  replace C : Cx G X "ChannelSchedule" b5_isBooking := C
  unfold f5_isBooking at h
  show At G X 0 0 0 [(0, .ref (gB G + 0)), (1, vI x1)] [] V
  refine r_iload_n C d5_isBooking_0 rfl ?_
  refine r_aload_n C d5_isBooking_1 rfl ?_
  refine g_main_4 C d5_isBooking_2 f5_36 hN ?_
  refine g_plan_5 C d5_isBooking_5 f5_175 hN p0 ?_
  obtain ⟨r2, h1, h⟩ := bd_of h
  refine cS2_i C M d5_isBooking_8 l5_158 w5_isNumberBelow (ev5_isNumberBelow C.lt hN h1) rfl (Nat.le_of_ble_eq_true rfl) (Nat.le_of_ble_eq_true rfl) ?_
  obtain ⟨c3, h⟩ := ck_of h
  exact e_z C M d5_isBooking_11 (Nat.le_of_ble_eq_true rfl) (Nat.le_of_ble_eq_true rfl) c3 h
def f5_bookedShip (V : VV) (x1 : Int) : Option (Except String Int × VV) := bd (f5_isBooking V x1) (fun r2 => if nrm r2 = 0 then some (.error "java/lang/IndexOutOfBoundsException", V) else ck ((0:Int) ≤ x1 ∧ x1 < 20) (some (.ok (V (aP 0 + 1) (Int.toNat x1)), V)))
theorem ev5_bookedShip {G : GT} {l : Launch} {V : VV} {x1 : Int} {e : Except String Int} {V1 : VV} (hlt : l.stackTraces = false) (hN : 148 ≤ gN G) (hX : gX G = false) (h : f5_bookedShip V x1 = some (e, V1)) : EvX G l y5_bookedShip b5_bookedShip 2 (some .int) 7 1 6 [.ref (gB G + 0), vI x1] V (oX e) V1 := by
  refine ev_w hlt (by decide +kernel) rfl rfl (fun X hl hx C M => ?_)
  subst hl
  replace C : Cx G X "ChannelSchedule" b5_bookedShip := C
  unfold f5_bookedShip at h
  show At G X 0 0 0 [(0, .ref (gB G + 0)), (1, vI x1)] [] V
  refine r_aload_n C d5_bookedShip_0 rfl ?_
  refine r_iload_n C d5_bookedShip_1 rfl ?_
  obtain ⟨r2, h1, h⟩ := bd_of h
  refine cV1_i C M d5_bookedShip_2 l5_178 w5_isBooking (rc_main hN) (ev5_isBooking C.lt hN h1) rfl (Nat.le_of_ble_eq_true rfl) (Nat.le_of_ble_eq_true rfl) ?_
  refine c_req C M d5_bookedShip_5 l5_136 w5_requireIndex (ev5_requireIndex C.lt hX) rfl (Nat.le_of_ble_eq_true rfl) (Nat.le_of_ble_eq_true rfl) (fun c3 => e_thr (ite_p c3 h)) (fun c3 => ?_)
  replace h := ite_m c3 h
  refine r_aload_n C d5_bookedShip_8 rfl ?_
  refine g_main_4 C d5_bookedShip_9 f5_36 hN ?_
  refine g_plan_6 C d5_bookedShip_12 f5_181 hN p0 ?_
  refine r_iload_n C d5_bookedShip_15 rfl ?_
  obtain ⟨c4, h⟩ := ck_of h
  refine x_iald C d5_bookedShip_16 (ra_plan1 hN p0) c4 ?_
  exact e_it C M d5_bookedShip_17 (Nat.le_of_ble_eq_true rfl) (Nat.le_of_ble_eq_true rfl) h
def f5_startMinute (V : VV) (x1 : Int) : Option (Except String Int × VV) := bd (f5_isBooking V x1) (fun r2 => if nrm r2 = 0 then some (.error "java/lang/IndexOutOfBoundsException", V) else ck ((0:Int) ≤ x1 ∧ x1 < 20) (some (.ok (V (aP 0 + 3) (Int.toNat x1)), V)))
theorem ev5_startMinute {G : GT} {l : Launch} {V : VV} {x1 : Int} {e : Except String Int} {V1 : VV} (hlt : l.stackTraces = false) (hN : 148 ≤ gN G) (hX : gX G = false) (h : f5_startMinute V x1 = some (e, V1)) : EvX G l y5_startMinute b5_startMinute 2 (some .int) 7 1 6 [.ref (gB G + 0), vI x1] V (oX e) V1 := by
  refine ev_w hlt (by decide +kernel) rfl rfl (fun X hl hx C M => ?_)
  subst hl
  replace C : Cx G X "ChannelSchedule" b5_startMinute := C
  unfold f5_startMinute at h
  show At G X 0 0 0 [(0, .ref (gB G + 0)), (1, vI x1)] [] V
  refine r_aload_n C d5_startMinute_0 rfl ?_
  refine r_iload_n C d5_startMinute_1 rfl ?_
  obtain ⟨r2, h1, h⟩ := bd_of h
  refine cV1_i C M d5_startMinute_2 l5_178 w5_isBooking (rc_main hN) (ev5_isBooking C.lt hN h1) rfl (Nat.le_of_ble_eq_true rfl) (Nat.le_of_ble_eq_true rfl) ?_
  refine c_req C M d5_startMinute_5 l5_136 w5_requireIndex (ev5_requireIndex C.lt hX) rfl (Nat.le_of_ble_eq_true rfl) (Nat.le_of_ble_eq_true rfl) (fun c3 => e_thr (ite_p c3 h)) (fun c3 => ?_)
  replace h := ite_m c3 h
  refine r_aload_n C d5_startMinute_8 rfl ?_
  refine g_main_4 C d5_startMinute_9 f5_36 hN ?_
  refine g_plan_8 C d5_startMinute_12 f5_183 hN p0 ?_
  refine r_iload_n C d5_startMinute_15 rfl ?_
  obtain ⟨c4, h⟩ := ck_of h
  refine x_iald C d5_startMinute_16 (ra_plan3 hN p0) c4 ?_
  exact e_it C M d5_startMinute_17 (Nat.le_of_ble_eq_true rfl) (Nat.le_of_ble_eq_true rfl) h
def f5_endMinute (V : VV) (x1 : Int) : Option (Except String Int × VV) := bd (f5_isBooking V x1) (fun r2 => if nrm r2 = 0 then some (.error "java/lang/IndexOutOfBoundsException", V) else ck ((0:Int) ≤ x1 ∧ x1 < 20) (some (.ok (V (aP 0 + 4) (Int.toNat x1)), V)))
theorem ev5_endMinute {G : GT} {l : Launch} {V : VV} {x1 : Int} {e : Except String Int} {V1 : VV} (hlt : l.stackTraces = false) (hN : 148 ≤ gN G) (hX : gX G = false) (h : f5_endMinute V x1 = some (e, V1)) : EvX G l y5_endMinute b5_endMinute 2 (some .int) 7 1 6 [.ref (gB G + 0), vI x1] V (oX e) V1 := by
  refine ev_w hlt (by decide +kernel) rfl rfl (fun X hl hx C M => ?_)
  subst hl
  replace C : Cx G X "ChannelSchedule" b5_endMinute := C
  unfold f5_endMinute at h
  show At G X 0 0 0 [(0, .ref (gB G + 0)), (1, vI x1)] [] V
  refine r_aload_n C d5_endMinute_0 rfl ?_
  refine r_iload_n C d5_endMinute_1 rfl ?_
  obtain ⟨r2, h1, h⟩ := bd_of h
  refine cV1_i C M d5_endMinute_2 l5_178 w5_isBooking (rc_main hN) (ev5_isBooking C.lt hN h1) rfl (Nat.le_of_ble_eq_true rfl) (Nat.le_of_ble_eq_true rfl) ?_
  refine c_req C M d5_endMinute_5 l5_136 w5_requireIndex (ev5_requireIndex C.lt hX) rfl (Nat.le_of_ble_eq_true rfl) (Nat.le_of_ble_eq_true rfl) (fun c3 => e_thr (ite_p c3 h)) (fun c3 => ?_)
  replace h := ite_m c3 h
  refine r_aload_n C d5_endMinute_8 rfl ?_
  refine g_main_4 C d5_endMinute_9 f5_36 hN ?_
  refine g_plan_9 C d5_endMinute_12 f5_186 hN p0 ?_
  refine r_iload_n C d5_endMinute_15 rfl ?_
  obtain ⟨c4, h⟩ := ck_of h
  refine x_iald C d5_endMinute_16 (ra_plan4 hN p0) c4 ?_
  exact e_it C M d5_endMinute_17 (Nat.le_of_ble_eq_true rfl) (Nat.le_of_ble_eq_true rfl) h
def f5_isInbound (V : VV) (x1 : Int) : Option (Except String Int × VV) := bd (f5_isBooking V x1) (fun r2 => if nrm r2 = 0 then some (.error "java/lang/IndexOutOfBoundsException", V) else ck ((0:Int) ≤ x1 ∧ x1 < 20) (ck ((V (aP 0 + 2) (Int.toNat x1)) = 0 ∨ (V (aP 0 + 2) (Int.toNat x1)) = 1) (some (.ok (V (aP 0 + 2) (Int.toNat x1)), V))))
theorem ev5_isInbound {G : GT} {l : Launch} {V : VV} {x1 : Int} {e : Except String Int} {V1 : VV} (hlt : l.stackTraces = false) (hN : 148 ≤ gN G) (hX : gX G = false) (h : f5_isInbound V x1 = some (e, V1)) : EvX G l y5_isInbound b5_isInbound 2 (some .boolean) 7 1 6 [.ref (gB G + 0), vI x1] V (oX e) V1 := by
  refine ev_w hlt (by decide +kernel) rfl rfl (fun X hl hx C M => ?_)
  subst hl
  replace C : Cx G X "ChannelSchedule" b5_isInbound := C
  unfold f5_isInbound at h
  show At G X 0 0 0 [(0, .ref (gB G + 0)), (1, vI x1)] [] V
  refine r_aload_n C d5_isInbound_0 rfl ?_
  refine r_iload_n C d5_isInbound_1 rfl ?_
  obtain ⟨r2, h1, h⟩ := bd_of h
  refine cV1_i C M d5_isInbound_2 l5_178 w5_isBooking (rc_main hN) (ev5_isBooking C.lt hN h1) rfl (Nat.le_of_ble_eq_true rfl) (Nat.le_of_ble_eq_true rfl) ?_
  refine c_req C M d5_isInbound_5 l5_136 w5_requireIndex (ev5_requireIndex C.lt hX) rfl (Nat.le_of_ble_eq_true rfl) (Nat.le_of_ble_eq_true rfl) (fun c3 => e_thr (ite_p c3 h)) (fun c3 => ?_)
  replace h := ite_m c3 h
  refine r_aload_n C d5_isInbound_8 rfl ?_
  refine g_main_4 C d5_isInbound_9 f5_36 hN ?_
  refine g_plan_7 C d5_isInbound_12 f5_189 hN p0 ?_
  refine r_iload_n C d5_isInbound_15 rfl ?_
  obtain ⟨c4, h⟩ := ck_of h
  refine x_zald C d5_isInbound_16 (ra_plan2 hN p0) c4 ?_
  obtain ⟨c5, h⟩ := ck_of h
  exact e_zt C M d5_isInbound_17 (Nat.le_of_ble_eq_true rfl) (Nat.le_of_ble_eq_true rfl) c5 h
def f5_isFinished (V : VV) (x1 : Int) : Option (Except String Int × VV) := bd (f5_isBooking V x1) (fun r2 => if nrm r2 = 0 then some (.error "java/lang/IndexOutOfBoundsException", V) else ck ((0:Int) ≤ x1 ∧ x1 < 20) ((if nrm (V (aP 0) 1) < nrm (V (aP 0 + 4) (Int.toNat x1)) then some (.ok 0, V) else some (.ok 1, V))))
theorem ev5_isFinished {G : GT} {l : Launch} {V : VV} {x1 : Int} {e : Except String Int} {V1 : VV} (hlt : l.stackTraces = false) (hN : 148 ≤ gN G) (hX : gX G = false) (h : f5_isFinished V x1 = some (e, V1)) : EvX G l y5_isFinished b5_isFinished 2 (some .boolean) 7 1 6 [.ref (gB G + 0), vI x1] V (oX e) V1 := by
  refine ev_w hlt (by decide +kernel) rfl rfl (fun X hl hx C M => ?_)
  subst hl
  replace C : Cx G X "ChannelSchedule" b5_isFinished := C
  unfold f5_isFinished at h
  show At G X 0 0 0 [(0, .ref (gB G + 0)), (1, vI x1)] [] V
  refine r_aload_n C d5_isFinished_0 rfl ?_
  refine r_iload_n C d5_isFinished_1 rfl ?_
  obtain ⟨r2, h1, h⟩ := bd_of h
  refine cV1_i C M d5_isFinished_2 l5_178 w5_isBooking (rc_main hN) (ev5_isBooking C.lt hN h1) rfl (Nat.le_of_ble_eq_true rfl) (Nat.le_of_ble_eq_true rfl) ?_
  refine c_req C M d5_isFinished_5 l5_136 w5_requireIndex (ev5_requireIndex C.lt hX) rfl (Nat.le_of_ble_eq_true rfl) (Nat.le_of_ble_eq_true rfl) (fun c3 => e_thr (ite_p c3 h)) (fun c3 => ?_)
  replace h := ite_m c3 h
  refine r_aload_n C d5_isFinished_8 rfl ?_
  refine g_main_4 C d5_isFinished_9 f5_36 hN ?_
  refine g_plan_9 C d5_isFinished_12 f5_186 hN p0 ?_
  refine r_iload_n C d5_isFinished_15 rfl ?_
  obtain ⟨c4, h⟩ := ck_of h
  refine x_iald C d5_isFinished_16 (ra_plan4 hN p0) c4 ?_
  refine r_aload_n C d5_isFinished_17 rfl ?_
  refine g_main_4 C d5_isFinished_18 f5_36 hN ?_
  refine g_plan_1 C d5_isFinished_21 f5_129 hN p0 ?_
  refine x_icmpgt (tgt := 31) C d5_isFinished_24 rfl (fun c5 => ?_) (fun c5 => ?_)
  · replace h := ite_p c5 h
    refine r_iconst C d5_isFinished_31 ?_
    exact e_zt C M d5_isFinished_32 (Nat.le_of_ble_eq_true rfl) (Nat.le_of_ble_eq_true rfl) (Or.inl rfl) h
  · replace h := ite_m c5 h
    refine r_iconst C d5_isFinished_27 ?_
    refine r_goto (tgt := 32) C d5_isFinished_28 rfl ?_
    exact e_zt C M d5_isFinished_32 (Nat.le_of_ble_eq_true rfl) (Nat.le_of_ble_eq_true rfl) (Or.inr rfl) h
def f5_isUnderWay (V : VV) (x1 : Int) : Option (Except String Int × VV) := bd (f5_isBooking V x1) (fun r2 => if nrm r2 = 0 then some (.error "java/lang/IndexOutOfBoundsException", V) else ck ((0:Int) ≤ x1 ∧ x1 < 20) ((if nrm (V (aP 0) 1) < nrm (V (aP 0 + 3) (Int.toNat x1)) then some (.ok 0, V) else (if nrm (V (aP 0 + 4) (Int.toNat x1)) ≤ nrm (V (aP 0) 1) then some (.ok 0, V) else some (.ok 1, V)))))
theorem ev5_isUnderWay {G : GT} {l : Launch} {V : VV} {x1 : Int} {e : Except String Int} {V1 : VV} (hlt : l.stackTraces = false) (hN : 148 ≤ gN G) (hX : gX G = false) (h : f5_isUnderWay V x1 = some (e, V1)) : EvX G l y5_isUnderWay b5_isUnderWay 2 (some .boolean) 7 1 6 [.ref (gB G + 0), vI x1] V (oX e) V1 := by
  refine ev_w hlt (by decide +kernel) rfl rfl (fun X hl hx C M => ?_)
  subst hl
  replace C : Cx G X "ChannelSchedule" b5_isUnderWay := C
  unfold f5_isUnderWay at h
  show At G X 0 0 0 [(0, .ref (gB G + 0)), (1, vI x1)] [] V
  refine r_aload_n C d5_isUnderWay_0 rfl ?_
  refine r_iload_n C d5_isUnderWay_1 rfl ?_
  obtain ⟨r2, h1, h⟩ := bd_of h
  refine cV1_i C M d5_isUnderWay_2 l5_178 w5_isBooking (rc_main hN) (ev5_isBooking C.lt hN h1) rfl (Nat.le_of_ble_eq_true rfl) (Nat.le_of_ble_eq_true rfl) ?_
  refine c_req C M d5_isUnderWay_5 l5_136 w5_requireIndex (ev5_requireIndex C.lt hX) rfl (Nat.le_of_ble_eq_true rfl) (Nat.le_of_ble_eq_true rfl) (fun c3 => e_thr (ite_p c3 h)) (fun c3 => ?_)
  replace h := ite_m c3 h
  refine r_aload_n C d5_isUnderWay_8 rfl ?_
  refine g_main_4 C d5_isUnderWay_9 f5_36 hN ?_
  refine g_plan_8 C d5_isUnderWay_12 f5_183 hN p0 ?_
  refine r_iload_n C d5_isUnderWay_15 rfl ?_
  obtain ⟨c4, h⟩ := ck_of h
  refine x_iald C d5_isUnderWay_16 (ra_plan3 hN p0) c4 ?_
  refine r_aload_n C d5_isUnderWay_17 rfl ?_
  refine g_main_4 C d5_isUnderWay_18 f5_36 hN ?_
  refine g_plan_1 C d5_isUnderWay_21 f5_129 hN p0 ?_
  refine x_icmpgt (tgt := 50) C d5_isUnderWay_24 rfl (fun c5 => ?_) (fun c5 => ?_)
  · replace h := ite_p c5 h
    refine r_iconst C d5_isUnderWay_50 ?_
    exact e_zt C M d5_isUnderWay_51 (Nat.le_of_ble_eq_true rfl) (Nat.le_of_ble_eq_true rfl) (Or.inl rfl) h
  · replace h := ite_m c5 h
    refine r_aload_n C d5_isUnderWay_27 rfl ?_
    refine g_main_4 C d5_isUnderWay_28 f5_36 hN ?_
    refine g_plan_9 C d5_isUnderWay_31 f5_186 hN p0 ?_
    refine r_iload_n C d5_isUnderWay_34 rfl ?_
    refine x_iald C d5_isUnderWay_35 (ra_plan4 hN p0) c4 ?_
    refine r_aload_n C d5_isUnderWay_36 rfl ?_
    refine g_main_4 C d5_isUnderWay_37 f5_36 hN ?_
    refine g_plan_1 C d5_isUnderWay_40 f5_129 hN p0 ?_
    refine x_icmple (tgt := 50) C d5_isUnderWay_43 rfl (fun c6 => ?_) (fun c6 => ?_)
    · replace h := ite_p c6 h
      refine r_iconst C d5_isUnderWay_50 ?_
      exact e_zt C M d5_isUnderWay_51 (Nat.le_of_ble_eq_true rfl) (Nat.le_of_ble_eq_true rfl) (Or.inl rfl) h
    · replace h := ite_m c6 h
      refine r_iconst C d5_isUnderWay_46 ?_
      refine r_goto (tgt := 51) C d5_isUnderWay_47 rfl ?_
      exact e_zt C M d5_isUnderWay_51 (Nat.le_of_ble_eq_true rfl) (Nat.le_of_ble_eq_true rfl) (Or.inr rfl) h
def f5_occupancy_L15 (V : VV) (x1 : Int) : Nat → Int → Int → Option (Int)
  | 0, _, _ => none
  | n + 1, x2, x3 => (if nrm (V (aP 0) 5) ≤ nrm x3 then some x2 else ck ((0:Int) ≤ x3 ∧ x3 < 20) ((if nrm x1 < nrm (V (aP 0 + 3) (Int.toNat x3)) then f5_occupancy_L15 V x1 n x2 (x3 + 1) else (if nrm (V (aP 0 + 4) (Int.toNat x3)) ≤ nrm x1 then f5_occupancy_L15 V x1 n x2 (x3 + 1) else f5_occupancy_L15 V x1 n (x2 + 1) (x3 + 1)))))
theorem lp5_occupancy_15 {G : GT} {X : CT} {cells slots : Nat} {V : VV} (hN : 148 ≤ gN G) (hx : xN X = 4) (C : Cx G X "ChannelSchedule" b5_occupancy) {x1 : Int} {o0 : Except String (Option Value)} {V9 : VV} (M : MX G X 7 1 6 (some .int) o0 V9) (hc : cells ≤ 1) (hs : slots ≤ 6) : ∀ (n : Nat) {x2 : Int} {x3 : Int} {e2 : Int}, f5_occupancy_L15 V x1 n x2 x3 = some (e2) → At G X cells slots 61 [(2, vI e2)] [] V → At G X cells slots 15 [(0, .ref (gB G + 0)), (1, vI x1), (2, vI x2), (3, vI x3)] [] V := by
  intro n
  induction n with
  | zero => intro x2 x3 e2 h _; exact nomatch h
  | succ n ih =>
    intro x2 x3 e2 h K
    rw [f5_occupancy_L15] at h
    refine r_iload_n C d5_occupancy_15 rfl ?_
    refine r_aload_n C d5_occupancy_16 rfl ?_
    refine g_main_4 C d5_occupancy_17 f5_36 hN ?_
    refine g_plan_5 C d5_occupancy_20 f5_175 hN p0 ?_
    refine x_icmpge (tgt := 61) C d5_occupancy_23 rfl (fun c4 => ?_) (fun c4 => ?_)
    · replace h := ite_p c4 h
      cases h
      exact AtH.sw K ⟨rfl, trivial⟩
    · replace h := ite_m c4 h
      refine r_aload_n C d5_occupancy_26 rfl ?_
      refine g_main_4 C d5_occupancy_27 f5_36 hN ?_
      refine g_plan_8 C d5_occupancy_30 f5_183 hN p0 ?_
      refine r_iload_n C d5_occupancy_33 rfl ?_
      obtain ⟨c5, h⟩ := ck_of h
      refine x_iald C d5_occupancy_34 (ra_plan3 hN p0) c5 ?_
      refine r_iload_n C d5_occupancy_35 rfl ?_
      refine x_icmpgt (tgt := 55) C d5_occupancy_36 rfl (fun c6 => ?_) (fun c6 => ?_)
      · replace h := ite_p c6 h
        refine x_iinc hx C d5_occupancy_55 rfl rfl ?_
        refine r_goto (tgt := 15) C d5_occupancy_58 rfl ?_
        exact AtH.sw (ih h K) ⟨rfl, rfl, rfl, rfl, trivial⟩
      · replace h := ite_m c6 h
        refine r_aload_n C d5_occupancy_39 rfl ?_
        refine g_main_4 C d5_occupancy_40 f5_36 hN ?_
        refine g_plan_9 C d5_occupancy_43 f5_186 hN p0 ?_
        refine r_iload_n C d5_occupancy_46 rfl ?_
        refine x_iald C d5_occupancy_47 (ra_plan4 hN p0) c5 ?_
        refine r_iload_n C d5_occupancy_48 rfl ?_
        refine x_icmple (tgt := 55) C d5_occupancy_49 rfl (fun c7 => ?_) (fun c7 => ?_)
        · replace h := ite_p c7 h
          refine x_iinc hx C d5_occupancy_55 rfl rfl ?_
          refine r_goto (tgt := 15) C d5_occupancy_58 rfl ?_
          exact AtH.sw (ih h K) ⟨rfl, rfl, rfl, rfl, trivial⟩
        · replace h := ite_m c7 h
          refine x_iinc hx C d5_occupancy_52 rfl rfl ?_
          refine x_iinc hx C d5_occupancy_55 rfl rfl ?_
          refine r_goto (tgt := 15) C d5_occupancy_58 rfl ?_
          exact AtH.sw (ih h K) ⟨rfl, rfl, rfl, rfl, trivial⟩
def f5_occupancy (V : VV) (x1 : Int) : Option (Except String Int × VV) := bd (f5_isWithin V x1 0 1200) (fun r2 => if nrm r2 = 0 then some (.error "java/lang/IllegalArgumentException", V) else bd (f5_occupancy_L15 V x1 FU 0 0) (fun y8 => some (.ok y8, V)))
theorem ev5_occupancy {G : GT} {l : Launch} {V : VV} {x1 : Int} {e : Except String Int} {V1 : VV} (hlt : l.stackTraces = false) (hN : 148 ≤ gN G) (hX : gX G = false) (h : f5_occupancy V x1 = some (e, V1)) : EvX G l y5_occupancy b5_occupancy 4 (some .int) 7 1 6 [.ref (gB G + 0), vI x1] V (oX e) V1 := by
  refine ev_w hlt (by decide +kernel) rfl rfl (fun X hl hx C M => ?_)
  subst hl
  replace C : Cx G X "ChannelSchedule" b5_occupancy := C
  unfold f5_occupancy at h
  show At G X 0 0 0 [(0, .ref (gB G + 0)), (1, vI x1)] [] V
  refine r_iload_n C d5_occupancy_0 rfl ?_
  refine r_iconst C d5_occupancy_1 ?_
  refine r_sipush C d5_occupancy_2 (by decide +kernel) ?_
  obtain ⟨r2, h1, h⟩ := bd_of h
  refine cS3_i C M d5_occupancy_5 l5_104 w5_isWithin (ev5_isWithin C.lt hN h1) rfl (Nat.le_of_ble_eq_true rfl) (Nat.le_of_ble_eq_true rfl) ?_
  refine c_req C M d5_occupancy_8 l5_108 w5_requireArgument (ev5_requireArgument C.lt hX) rfl (Nat.le_of_ble_eq_true rfl) (Nat.le_of_ble_eq_true rfl) (fun c3 => e_thr (ite_p c3 h)) (fun c3 => ?_)
  replace h := ite_m c3 h
  refine r_iconst C d5_occupancy_11 ?_
  refine x_istore_n hx C d5_occupancy_12 rfl ?_
  refine r_iconst C d5_occupancy_13 ?_
  refine x_istore_n hx C d5_occupancy_14 rfl ?_
  obtain ⟨y8, h9, h⟩ := bd_of h
  refine AtH.sw (lp5_occupancy_15 hN hx C M (Nat.le_of_ble_eq_true rfl) (Nat.le_of_ble_eq_true rfl) FU h9 ?_) ⟨rfl, rfl, rfl, rfl, trivial⟩
  refine r_iload_n C d5_occupancy_61 rfl ?_
  exact e_it C M d5_occupancy_62 (Nat.le_of_ble_eq_true rfl) (Nat.le_of_ble_eq_true rfl) h
def f5_gapBefore_L6 (V : VV) (x1 : Int) (x3 : Int) : Nat → Int → Int → Option (Int)
  | 0, _, _ => none
  | n + 1, x4, x5 => (if nrm x1 ≤ nrm x5 then some x4 else ck ((0:Int) ≤ x5 ∧ x5 < 20) (f5_gapBefore_L6 V x1 x3 n (mxI x4 (V (aP 0 + 4) (Int.toNat x5))) (x5 + 1)))
theorem lp5_gapBefore_6 {G : GT} {X : CT} {cells slots : Nat} {V : VV} (hN : 148 ≤ gN G) (hx : xN X = 6) (C : Cx G X "ChannelSchedule" b5_gapBefore) {x1 : Int} {x3 : Int} {o0 : Except String (Option Value)} {V9 : VV} (M : MX G X 1 0 0 (some .int) o0 V9) (hc : cells ≤ 0) (hs : slots ≤ 0) : ∀ (n : Nat) {x4 : Int} {x5 : Int} {e4 : Int}, f5_gapBefore_L6 V x1 x3 n x4 x5 = some (e4) → At G X cells slots 35 [(0, .ref (gB G + 0)), (1, vI x1), (3, vI x3), (4, vI e4)] [] V → At G X cells slots 6 [(0, .ref (gB G + 0)), (1, vI x1), (3, vI x3), (4, vI x4), (5, vI x5)] [] V := by
  intro n
  induction n with
  | zero => intro x4 x5 e4 h _; exact nomatch h
  | succ n ih =>
    intro x4 x5 e4 h K
    rw [f5_gapBefore_L6] at h
    refine r_iload C d5_gapBefore_6 rfl ?_
    refine r_iload_n C d5_gapBefore_8 rfl ?_
    refine x_icmpge (tgt := 35) C d5_gapBefore_9 rfl (fun c1 => ?_) (fun c1 => ?_)
    · replace h := ite_p c1 h
      cases h
      exact AtH.sw K ⟨rfl, rfl, rfl, rfl, trivial⟩
    · replace h := ite_m c1 h
      refine r_iload C d5_gapBefore_12 rfl ?_
      refine r_aload_n C d5_gapBefore_14 rfl ?_
      refine g_main_4 C d5_gapBefore_15 f5_36 hN ?_
      refine g_plan_9 C d5_gapBefore_18 f5_186 hN p0 ?_
      refine r_iload C d5_gapBefore_21 rfl ?_
      obtain ⟨c2, h⟩ := ck_of h
      refine x_iald C d5_gapBefore_23 (ra_plan4 hN p0) c2 ?_
      refine x_mmax C M d5_gapBefore_24 l5_200 rfl hc hs ?_
      refine x_istore hx C d5_gapBefore_27 rfl ?_
      refine x_iinc hx C d5_gapBefore_29 rfl rfl ?_
      refine r_goto (tgt := 6) C d5_gapBefore_32 rfl ?_
      exact AtH.sw (ih h K) ⟨rfl, rfl, rfl, rfl, rfl, trivial⟩
def f5_gapBefore (V : VV) (x1 : Int) (x2 : Int) (x3 : Int) : Option Int := bd (f5_gapBefore_L6 V x1 x3 FU x2 0) (fun y3 => bd ((if nrm (V (aP 0) 5) ≤ nrm x1 then some (x3 + 1) else ck ((0:Int) ≤ x1 ∧ x1 < 20) (some (mnI (V (aP 0 + 3) (Int.toNat x1)) (x3 + 1))))) (fun y7 => some (mxI 0 (y7 - y3))))
theorem ev5_gapBefore {G : GT} {l : Launch} {V : VV} {x1 : Int} {x2 : Int} {x3 : Int} {r : Int} (hlt : l.stackTraces = false) (hN : 148 ≤ gN G) (h : f5_gapBefore V x1 x2 x3 = some r) : EvX G l y5_gapBefore b5_gapBefore 6 (some .int) 1 0 0 [.ref (gB G + 0), vI x1, vI x2, vI x3] V (.ok (some (vI r))) V := by
  refine ev_w hlt (by decide +kernel) rfl rfl (fun X hl hx C M => ?_)
  subst hl
  replace C : Cx G X "ChannelSchedule" b5_gapBefore := C
  unfold f5_gapBefore at h
  show At G X 0 0 0 [(0, .ref (gB G + 0)), (1, vI x1), (2, vI x2), (3, vI x3)] [] V
  refine r_iload_n C d5_gapBefore_0 rfl ?_
  refine x_istore hx C d5_gapBefore_1 rfl ?_
  refine r_iconst C d5_gapBefore_3 ?_
  refine x_istore hx C d5_gapBefore_4 rfl ?_
  obtain ⟨y3, h4, h⟩ := bd_of h
  refine AtH.sw (lp5_gapBefore_6 hN hx C M (Nat.le_of_ble_eq_true rfl) (Nat.le_of_ble_eq_true rfl) FU h4 ?_) ⟨rfl, rfl, rfl, rfl, rfl, trivial⟩
  refine r_iload_n C d5_gapBefore_35 rfl ?_
  refine r_aload_n C d5_gapBefore_36 rfl ?_
  refine g_main_4 C d5_gapBefore_37 f5_36 hN ?_
  refine g_plan_5 C d5_gapBefore_40 f5_175 hN p0 ?_
  obtain ⟨y7, h8, h⟩ := bd_of h
  suffices J9 : At G X 0 0 67 [(4, vI y3)] [vI y7] V by
    replace h := h8
    refine x_icmpge (tgt := 64) C d5_gapBefore_43 rfl (fun c5 => ?_) (fun c5 => ?_)
    · replace h := ite_p c5 h
      refine r_iload_n C d5_gapBefore_64 rfl ?_
      refine r_iconst C d5_gapBefore_65 ?_
      refine r_iadd C d5_gapBefore_66 ?_
      cases h
      exact AtH.sw J9 ⟨rfl, trivial⟩
    · replace h := ite_m c5 h
      refine r_aload_n C d5_gapBefore_46 rfl ?_
      refine g_main_4 C d5_gapBefore_47 f5_36 hN ?_
      refine g_plan_8 C d5_gapBefore_50 f5_183 hN p0 ?_
      refine r_iload_n C d5_gapBefore_53 rfl ?_
      obtain ⟨c6, h⟩ := ck_of h
      refine x_iald C d5_gapBefore_54 (ra_plan3 hN p0) c6 ?_
      refine r_iload_n C d5_gapBefore_55 rfl ?_
      refine r_iconst C d5_gapBefore_56 ?_
      refine r_iadd C d5_gapBefore_57 ?_
      refine x_mmin C M d5_gapBefore_58 l5_217 rfl (Nat.le_of_ble_eq_true rfl) (Nat.le_of_ble_eq_true rfl) ?_
      refine r_goto (tgt := 67) C d5_gapBefore_61 rfl ?_
      cases h
      exact AtH.sw J9 ⟨rfl, trivial⟩
  refine x_istore hx C d5_gapBefore_67 rfl ?_
  refine r_iconst C d5_gapBefore_69 ?_
  refine r_iload C d5_gapBefore_70 rfl ?_
  refine r_iload C d5_gapBefore_72 rfl ?_
  refine r_isub C d5_gapBefore_74 ?_
  refine x_mmax C M d5_gapBefore_75 l5_200 rfl (Nat.le_of_ble_eq_true rfl) (Nat.le_of_ble_eq_true rfl) ?_
  exact e_i C M d5_gapBefore_78 (Nat.le_of_ble_eq_true rfl) (Nat.le_of_ble_eq_true rfl) h
def f5_countEmpty_L5 (V : VV) (x1 : Int) (x2 : Int) : Nat → Int → Int → Option (Int)
  | 0, _, _ => none
  | n + 1, x3, x4 => (if nrm (V (aP 0) 5) < nrm x4 then some x3 else bd (f5_gapBefore V x4 x1 x2) (fun r3 => f5_countEmpty_L5 V x1 x2 n (x3 + r3) (x4 + 1)))
theorem lp5_countEmpty_5 {G : GT} {X : CT} {cells slots : Nat} {V : VV} (hN : 148 ≤ gN G) (hx : xN X = 5) (C : Cx G X "ChannelSchedule" b5_countEmpty) {x1 : Int} {x2 : Int} {o0 : Except String (Option Value)} {V9 : VV} (M : MX G X 2 0 0 (some .int) o0 V9) (hc : cells ≤ 0) (hs : slots ≤ 0) : ∀ (n : Nat) {x3 : Int} {x4 : Int} {e3 : Int}, f5_countEmpty_L5 V x1 x2 n x3 x4 = some (e3) → At G X cells slots 34 [(3, vI e3)] [] V → At G X cells slots 5 [(0, .ref (gB G + 0)), (1, vI x1), (2, vI x2), (3, vI x3), (4, vI x4)] [] V := by
  intro n
  induction n with
  | zero => intro x3 x4 e3 h _; exact nomatch h
  | succ n ih =>
    intro x3 x4 e3 h K
    rw [f5_countEmpty_L5] at h
    refine r_iload C d5_countEmpty_5 rfl ?_
    refine r_aload_n C d5_countEmpty_7 rfl ?_
    refine g_main_4 C d5_countEmpty_8 f5_36 hN ?_
    refine g_plan_5 C d5_countEmpty_11 f5_175 hN p0 ?_
    refine x_icmpgt (tgt := 34) C d5_countEmpty_14 rfl (fun c1 => ?_) (fun c1 => ?_)
    · replace h := ite_p c1 h
      cases h
      exact AtH.sw K ⟨rfl, trivial⟩
    · replace h := ite_m c1 h
      refine r_iload_n C d5_countEmpty_17 rfl ?_
      refine r_aload_n C d5_countEmpty_18 rfl ?_
      refine r_iload C d5_countEmpty_19 rfl ?_
      refine r_iload_n C d5_countEmpty_21 rfl ?_
      refine r_iload_n C d5_countEmpty_22 rfl ?_
      obtain ⟨r3, h2, h⟩ := bd_of h
      refine cV3_i C M d5_countEmpty_23 l5_196 w5_gapBefore (rc_main hN) (ev5_gapBefore C.lt hN h2) rfl hc hs ?_
      refine r_iadd C d5_countEmpty_26 ?_
      refine x_istore_n hx C d5_countEmpty_27 rfl ?_
      refine x_iinc hx C d5_countEmpty_28 rfl rfl ?_
      refine r_goto (tgt := 5) C d5_countEmpty_31 rfl ?_
      exact AtH.sw (ih h K) ⟨rfl, rfl, rfl, rfl, rfl, trivial⟩
def f5_countEmpty (V : VV) (x1 : Int) (x2 : Int) : Option Int := bd (f5_countEmpty_L5 V x1 x2 FU 0 0) (fun y4 => some y4)
theorem ev5_countEmpty {G : GT} {l : Launch} {V : VV} {x1 : Int} {x2 : Int} {r : Int} (hlt : l.stackTraces = false) (hN : 148 ≤ gN G) (h : f5_countEmpty V x1 x2 = some r) : EvX G l y5_countEmpty b5_countEmpty 5 (some .int) 2 0 0 [.ref (gB G + 0), vI x1, vI x2] V (.ok (some (vI r))) V := by
  refine ev_w hlt (by decide +kernel) rfl rfl (fun X hl hx C M => ?_)
  subst hl
  replace C : Cx G X "ChannelSchedule" b5_countEmpty := C
  unfold f5_countEmpty at h
  show At G X 0 0 0 [(0, .ref (gB G + 0)), (1, vI x1), (2, vI x2)] [] V
  refine r_iconst C d5_countEmpty_0 ?_
  refine x_istore_n hx C d5_countEmpty_1 rfl ?_
  refine r_iconst C d5_countEmpty_2 ?_
  refine x_istore hx C d5_countEmpty_3 rfl ?_
  obtain ⟨y4, h5, h⟩ := bd_of h
  refine AtH.sw (lp5_countEmpty_5 hN hx C M (Nat.le_of_ble_eq_true rfl) (Nat.le_of_ble_eq_true rfl) FU h5 ?_) ⟨rfl, rfl, rfl, rfl, rfl, trivial⟩
  refine r_iload_n C d5_countEmpty_34 rfl ?_
  exact e_i C M d5_countEmpty_35 (Nat.le_of_ble_eq_true rfl) (Nat.le_of_ble_eq_true rfl) h
def f5_emptyMinutes (V : VV) (x1 : Int) (x2 : Int) : Option (Except String Int × VV) := bd (f5_isWithin V x1 0 1200) (fun r2 => bd ((if nrm r2 = 0 then some (0) else bd (f5_isWithin V x2 x1 1200) (fun r5 => (if nrm r5 = 0 then some (0) else some (1))))) (fun y7 => if nrm y7 = 0 then some (.error "java/lang/IllegalArgumentException", V) else bd (f5_countEmpty V x1 x2) (fun r12 => some (.ok r12, V))))
theorem ev5_emptyMinutes {G : GT} {l : Launch} {V : VV} {x1 : Int} {x2 : Int} {e : Except String Int} {V1 : VV} (hlt : l.stackTraces = false) (hN : 148 ≤ gN G) (hX : gX G = false) (h : f5_emptyMinutes V x1 x2 = some (e, V1)) : EvX G l y5_emptyMinutes b5_emptyMinutes 3 (some .int) 7 1 6 [.ref (gB G + 0), vI x1, vI x2] V (oX e) V1 := by
  refine ev_w hlt (by decide +kernel) rfl rfl (fun X hl hx C M => ?_)
  subst hl
  replace C : Cx G X "ChannelSchedule" b5_emptyMinutes := C
  unfold f5_emptyMinutes at h
  show At G X 0 0 0 [(0, .ref (gB G + 0)), (1, vI x1), (2, vI x2)] [] V
  refine r_iload_n C d5_emptyMinutes_0 rfl ?_
  refine r_iconst C d5_emptyMinutes_1 ?_
  refine r_sipush C d5_emptyMinutes_2 (by decide +kernel) ?_
  obtain ⟨r2, h1, h⟩ := bd_of h
  refine cS3_i C M d5_emptyMinutes_5 l5_104 w5_isWithin (ev5_isWithin C.lt hN h1) rfl (Nat.le_of_ble_eq_true rfl) (Nat.le_of_ble_eq_true rfl) ?_
  obtain ⟨y7, h8, h⟩ := bd_of h
  suffices J9 : At G X 0 0 27 [(0, .ref (gB G + 0)), (1, vI x1), (2, vI x2)] [vI y7] V by
    replace h := h8
    refine x_ifeq (tgt := 26) C d5_emptyMinutes_8 rfl (fun c3 => ?_) (fun c3 => ?_)
    · replace h := ite_p c3 h
      refine r_iconst C d5_emptyMinutes_26 ?_
      cases h
      exact AtH.sw J9 ⟨rfl, rfl, rfl, trivial⟩
    · replace h := ite_m c3 h
      refine r_iload_n C d5_emptyMinutes_11 rfl ?_
      refine r_iload_n C d5_emptyMinutes_12 rfl ?_
      refine r_sipush C d5_emptyMinutes_13 (by decide +kernel) ?_
      obtain ⟨r5, h4, h⟩ := bd_of h
      refine cS3_i C M d5_emptyMinutes_16 l5_104 w5_isWithin (ev5_isWithin C.lt hN h4) rfl (Nat.le_of_ble_eq_true rfl) (Nat.le_of_ble_eq_true rfl) ?_
      refine x_ifeq (tgt := 26) C d5_emptyMinutes_19 rfl (fun c6 => ?_) (fun c6 => ?_)
      · replace h := ite_p c6 h
        refine r_iconst C d5_emptyMinutes_26 ?_
        cases h
        exact AtH.sw J9 ⟨rfl, rfl, rfl, trivial⟩
      · replace h := ite_m c6 h
        refine r_iconst C d5_emptyMinutes_22 ?_
        refine r_goto (tgt := 27) C d5_emptyMinutes_23 rfl ?_
        cases h
        exact AtH.sw J9 ⟨rfl, rfl, rfl, trivial⟩
  refine c_req C M d5_emptyMinutes_27 l5_108 w5_requireArgument (ev5_requireArgument C.lt hX) rfl (Nat.le_of_ble_eq_true rfl) (Nat.le_of_ble_eq_true rfl) (fun c10 => e_thr (ite_p c10 h)) (fun c10 => ?_)
  replace h := ite_m c10 h
  refine r_aload_n C d5_emptyMinutes_30 rfl ?_
  refine r_iload_n C d5_emptyMinutes_31 rfl ?_
  refine r_iload_n C d5_emptyMinutes_32 rfl ?_
  obtain ⟨r12, h11, h⟩ := bd_of h
  refine cV2_i C M d5_emptyMinutes_33 l5_192 w5_countEmpty (rc_main hN) (ev5_countEmpty C.lt hN h11) rfl (Nat.le_of_ble_eq_true rfl) (Nat.le_of_ble_eq_true rfl) ?_
  exact e_it C M d5_emptyMinutes_36 (Nat.le_of_ble_eq_true rfl) (Nat.le_of_ble_eq_true rfl) h
def f5_longestEmptyRun_L35 (V : VV) (x1 : Int) (x2 : Int) : Nat → Int → Int → Option (Int)
  | 0, _, _ => none
  | n + 1, x3, x4 => (if nrm (V (aP 0) 5) < nrm x4 then some x3 else bd (f5_gapBefore V x4 x1 x2) (fun r13 => f5_longestEmptyRun_L35 V x1 x2 n (mxI x3 r13) (x4 + 1)))
theorem lp5_longestEmptyRun_35 {G : GT} {X : CT} {cells slots : Nat} {V : VV} (hN : 148 ≤ gN G) (hx : xN X = 5) (C : Cx G X "ChannelSchedule" b5_longestEmptyRun) {x1 : Int} {x2 : Int} {o0 : Except String (Option Value)} {V9 : VV} (M : MX G X 7 1 6 (some .int) o0 V9) (hc : cells ≤ 1) (hs : slots ≤ 6) : ∀ (n : Nat) {x3 : Int} {x4 : Int} {e3 : Int}, f5_longestEmptyRun_L35 V x1 x2 n x3 x4 = some (e3) → At G X cells slots 66 [(3, vI e3)] [] V → At G X cells slots 35 [(0, .ref (gB G + 0)), (1, vI x1), (2, vI x2), (3, vI x3), (4, vI x4)] [] V := by
  intro n
  induction n with
  | zero => intro x3 x4 e3 h _; exact nomatch h
  | succ n ih =>
    intro x3 x4 e3 h K
    rw [f5_longestEmptyRun_L35] at h
    refine r_iload C d5_longestEmptyRun_35 rfl ?_
    refine r_aload_n C d5_longestEmptyRun_37 rfl ?_
    refine g_main_4 C d5_longestEmptyRun_38 f5_36 hN ?_
    refine g_plan_5 C d5_longestEmptyRun_41 f5_175 hN p0 ?_
    refine x_icmpgt (tgt := 66) C d5_longestEmptyRun_44 rfl (fun c11 => ?_) (fun c11 => ?_)
    · replace h := ite_p c11 h
      cases h
      exact AtH.sw K ⟨rfl, trivial⟩
    · replace h := ite_m c11 h
      refine r_iload_n C d5_longestEmptyRun_47 rfl ?_
      refine r_aload_n C d5_longestEmptyRun_48 rfl ?_
      refine r_iload C d5_longestEmptyRun_49 rfl ?_
      refine r_iload_n C d5_longestEmptyRun_51 rfl ?_
      refine r_iload_n C d5_longestEmptyRun_52 rfl ?_
      obtain ⟨r13, h12, h⟩ := bd_of h
      refine cV3_i C M d5_longestEmptyRun_53 l5_196 w5_gapBefore (rc_main hN) (ev5_gapBefore C.lt hN h12) rfl hc hs ?_
      refine x_mmax C M d5_longestEmptyRun_56 l5_200 rfl hc hs ?_
      refine x_istore_n hx C d5_longestEmptyRun_59 rfl ?_
      refine x_iinc hx C d5_longestEmptyRun_60 rfl rfl ?_
      refine r_goto (tgt := 35) C d5_longestEmptyRun_63 rfl ?_
      exact AtH.sw (ih h K) ⟨rfl, rfl, rfl, rfl, rfl, trivial⟩
def f5_longestEmptyRun (V : VV) (x1 : Int) (x2 : Int) : Option (Except String Int × VV) := bd (f5_isWithin V x1 0 1200) (fun r2 => bd ((if nrm r2 = 0 then some (0) else bd (f5_isWithin V x2 x1 1200) (fun r5 => (if nrm r5 = 0 then some (0) else some (1))))) (fun y7 => if nrm y7 = 0 then some (.error "java/lang/IllegalArgumentException", V) else bd (f5_longestEmptyRun_L35 V x1 x2 FU 0 0) (fun y14 => some (.ok y14, V))))
theorem ev5_longestEmptyRun {G : GT} {l : Launch} {V : VV} {x1 : Int} {x2 : Int} {e : Except String Int} {V1 : VV} (hlt : l.stackTraces = false) (hN : 148 ≤ gN G) (hX : gX G = false) (h : f5_longestEmptyRun V x1 x2 = some (e, V1)) : EvX G l y5_longestEmptyRun b5_longestEmptyRun 5 (some .int) 7 1 6 [.ref (gB G + 0), vI x1, vI x2] V (oX e) V1 := by
  refine ev_w hlt (by decide +kernel) rfl rfl (fun X hl hx C M => ?_)
  subst hl
  replace C : Cx G X "ChannelSchedule" b5_longestEmptyRun := C
  unfold f5_longestEmptyRun at h
  show At G X 0 0 0 [(0, .ref (gB G + 0)), (1, vI x1), (2, vI x2)] [] V
  refine r_iload_n C d5_longestEmptyRun_0 rfl ?_
  refine r_iconst C d5_longestEmptyRun_1 ?_
  refine r_sipush C d5_longestEmptyRun_2 (by decide +kernel) ?_
  obtain ⟨r2, h1, h⟩ := bd_of h
  refine cS3_i C M d5_longestEmptyRun_5 l5_104 w5_isWithin (ev5_isWithin C.lt hN h1) rfl (Nat.le_of_ble_eq_true rfl) (Nat.le_of_ble_eq_true rfl) ?_
  obtain ⟨y7, h8, h⟩ := bd_of h
  suffices J9 : At G X 0 0 27 [(0, .ref (gB G + 0)), (1, vI x1), (2, vI x2)] [vI y7] V by
    replace h := h8
    refine x_ifeq (tgt := 26) C d5_longestEmptyRun_8 rfl (fun c3 => ?_) (fun c3 => ?_)
    · replace h := ite_p c3 h
      refine r_iconst C d5_longestEmptyRun_26 ?_
      cases h
      exact AtH.sw J9 ⟨rfl, rfl, rfl, trivial⟩
    · replace h := ite_m c3 h
      refine r_iload_n C d5_longestEmptyRun_11 rfl ?_
      refine r_iload_n C d5_longestEmptyRun_12 rfl ?_
      refine r_sipush C d5_longestEmptyRun_13 (by decide +kernel) ?_
      obtain ⟨r5, h4, h⟩ := bd_of h
      refine cS3_i C M d5_longestEmptyRun_16 l5_104 w5_isWithin (ev5_isWithin C.lt hN h4) rfl (Nat.le_of_ble_eq_true rfl) (Nat.le_of_ble_eq_true rfl) ?_
      refine x_ifeq (tgt := 26) C d5_longestEmptyRun_19 rfl (fun c6 => ?_) (fun c6 => ?_)
      · replace h := ite_p c6 h
        refine r_iconst C d5_longestEmptyRun_26 ?_
        cases h
        exact AtH.sw J9 ⟨rfl, rfl, rfl, trivial⟩
      · replace h := ite_m c6 h
        refine r_iconst C d5_longestEmptyRun_22 ?_
        refine r_goto (tgt := 27) C d5_longestEmptyRun_23 rfl ?_
        cases h
        exact AtH.sw J9 ⟨rfl, rfl, rfl, trivial⟩
  refine c_req C M d5_longestEmptyRun_27 l5_108 w5_requireArgument (ev5_requireArgument C.lt hX) rfl (Nat.le_of_ble_eq_true rfl) (Nat.le_of_ble_eq_true rfl) (fun c10 => e_thr (ite_p c10 h)) (fun c10 => ?_)
  replace h := ite_m c10 h
  refine r_iconst C d5_longestEmptyRun_30 ?_
  refine x_istore_n hx C d5_longestEmptyRun_31 rfl ?_
  refine r_iconst C d5_longestEmptyRun_32 ?_
  refine x_istore hx C d5_longestEmptyRun_33 rfl ?_
  obtain ⟨y14, h15, h⟩ := bd_of h
  refine AtH.sw (lp5_longestEmptyRun_35 hN hx C M (Nat.le_of_ble_eq_true rfl) (Nat.le_of_ble_eq_true rfl) FU h15 ?_) ⟨rfl, rfl, rfl, rfl, rfl, trivial⟩
  refine r_iload_n C d5_longestEmptyRun_66 rfl ?_
  exact e_it C M d5_longestEmptyRun_67 (Nat.le_of_ble_eq_true rfl) (Nat.le_of_ble_eq_true rfl) h
def f5_freeBefore (V : VV) (x1 : Int) (x2 : Int) (x3 : Int) (x4 : Int) : Option Int := (if nrm x3 = 0 then ck ((V 0 2).toNat < 2) (some ((x1 - (V (aS ((V 0 2).toNat)) 1)) - x4)) else ck ((V 0 2).toNat < 2) (bd ((if nrm (V (aS ((V 0 2).toNat)) 0) ≤ 0 then some (x1 - 1) else some (x1 - (V (aS ((V 0 2).toNat)) 0)))) (fun y5 => (if nrm ((x2 - (V (aS ((V 0 2).toNat)) 0)) - x4) ≤ nrm y5 then some ((x2 - (V (aS ((V 0 2).toNat)) 0)) - x4) else some y5))))
theorem ev5_freeBefore {G : GT} {l : Launch} {V : VV} {x1 : Int} {x2 : Int} {x3 : Int} {x4 : Int} {r : Int} (hlt : l.stackTraces = false) (hN : 148 ≤ gN G) (h : f5_freeBefore V x1 x2 x3 x4 = some r) : EvX G l y5_freeBefore b5_freeBefore 7 (some .int) 0 0 0 [.ref (gB G + 0), vI x1, vI x2, vI x3, vI x4] V (.ok (some (vI r))) V := by
  refine ev_w hlt (by decide +kernel) rfl rfl (fun X hl hx C M => ?_)
  subst hl
  replace C : Cx G X "ChannelSchedule" b5_freeBefore := C
  unfold f5_freeBefore at h
  show At G X 0 0 0 [(0, .ref (gB G + 0)), (1, vI x1), (2, vI x2), (3, vI x3), (4, vI x4)] [] V
  refine r_iload_n C d5_freeBefore_0 rfl ?_
  refine x_ifne (tgt := 17) C d5_freeBefore_1 rfl (fun c1 => ?_) (fun c1 => ?_)
  · replace h := ite_p c1 h
    refine r_iload_n C d5_freeBefore_4 rfl ?_
    refine r_aload_n C d5_freeBefore_5 rfl ?_
    refine g_main_2 C d5_freeBefore_6 f5_26 hN ?_
    obtain ⟨c2, h⟩ := ck_of h
    refine g_setup_1 C d5_freeBefore_9 f5_123 hN c2 ?_
    refine r_isub C d5_freeBefore_12 ?_
    refine r_iload C d5_freeBefore_13 rfl ?_
    refine r_isub C d5_freeBefore_15 ?_
    exact e_i C M d5_freeBefore_16 (Nat.le_of_ble_eq_true rfl) (Nat.le_of_ble_eq_true rfl) h
  · replace h := ite_m c1 h
    refine r_aload_n C d5_freeBefore_17 rfl ?_
    refine g_main_2 C d5_freeBefore_18 f5_26 hN ?_
    obtain ⟨c3, h⟩ := ck_of h
    refine g_setup_0 C d5_freeBefore_21 f5_120 hN c3 ?_
    obtain ⟨y5, h6, h⟩ := bd_of h
    suffices J7 : At G X 0 0 42 [(0, .ref (gB G + 0)), (2, vI x2), (4, vI x4)] [vI y5] V by
      replace h := h6
      refine x_ifle (tgt := 39) C d5_freeBefore_24 rfl (fun c4 => ?_) (fun c4 => ?_)
      · replace h := ite_p c4 h
        refine r_iload_n C d5_freeBefore_39 rfl ?_
        refine r_iconst C d5_freeBefore_40 ?_
        refine r_isub C d5_freeBefore_41 ?_
        cases h
        exact AtH.sw J7 ⟨rfl, rfl, rfl, trivial⟩
      · replace h := ite_m c4 h
        refine r_iload_n C d5_freeBefore_27 rfl ?_
        refine r_aload_n C d5_freeBefore_28 rfl ?_
        refine g_main_2 C d5_freeBefore_29 f5_26 hN ?_
        refine g_setup_0 C d5_freeBefore_32 f5_120 hN c3 ?_
        refine r_isub C d5_freeBefore_35 ?_
        refine r_goto (tgt := 42) C d5_freeBefore_36 rfl ?_
        cases h
        exact AtH.sw J7 ⟨rfl, rfl, rfl, trivial⟩
    refine x_istore hx C d5_freeBefore_42 rfl ?_
    refine r_iload_n C d5_freeBefore_44 rfl ?_
    refine r_aload_n C d5_freeBefore_45 rfl ?_
    refine g_main_2 C d5_freeBefore_46 f5_26 hN ?_
    refine g_setup_0 C d5_freeBefore_49 f5_120 hN c3 ?_
    refine r_isub C d5_freeBefore_52 ?_
    refine r_iload C d5_freeBefore_53 rfl ?_
    refine r_isub C d5_freeBefore_55 ?_
    refine x_istore hx C d5_freeBefore_56 rfl ?_
    refine r_iload C d5_freeBefore_58 rfl ?_
    refine r_iload C d5_freeBefore_60 rfl ?_
    refine x_icmpge (tgt := 70) C d5_freeBefore_62 rfl (fun c8 => ?_) (fun c8 => ?_)
    · replace h := ite_p c8 h
      refine r_iload C d5_freeBefore_70 rfl ?_
      exact e_i C M d5_freeBefore_72 (Nat.le_of_ble_eq_true rfl) (Nat.le_of_ble_eq_true rfl) h
    · replace h := ite_m c8 h
      refine r_iload C d5_freeBefore_65 rfl ?_
      refine r_goto (tgt := 72) C d5_freeBefore_67 rfl ?_
      exact e_i C M d5_freeBefore_72 (Nat.le_of_ble_eq_true rfl) (Nat.le_of_ble_eq_true rfl) h
def f5_freeAfter (V : VV) (x1 : Int) (x2 : Int) (x3 : Int) (x4 : Int) : Option Int := (if nrm x3 = 0 then ck ((V 0 2).toNat < 2) (some (x2 + (V (aS ((V 0 2).toNat)) 1))) else ck ((V 0 2).toNat < 2) (bd ((if nrm (V (aS ((V 0 2).toNat)) 0) ≤ 0 then some (x1 + 1) else some (x1 + (V (aS ((V 0 2).toNat)) 0)))) (fun y5 => (if nrm y5 ≤ nrm ((x2 + (V (aS ((V 0 2).toNat)) 0)) - x4) then some ((x2 + (V (aS ((V 0 2).toNat)) 0)) - x4) else some y5))))
theorem ev5_freeAfter {G : GT} {l : Launch} {V : VV} {x1 : Int} {x2 : Int} {x3 : Int} {x4 : Int} {r : Int} (hlt : l.stackTraces = false) (hN : 148 ≤ gN G) (h : f5_freeAfter V x1 x2 x3 x4 = some r) : EvX G l y5_freeAfter b5_freeAfter 7 (some .int) 0 0 0 [.ref (gB G + 0), vI x1, vI x2, vI x3, vI x4] V (.ok (some (vI r))) V := by
  refine ev_w hlt (by decide +kernel) rfl rfl (fun X hl hx C M => ?_)
  subst hl
  replace C : Cx G X "ChannelSchedule" b5_freeAfter := C
  unfold f5_freeAfter at h
  show At G X 0 0 0 [(0, .ref (gB G + 0)), (1, vI x1), (2, vI x2), (3, vI x3), (4, vI x4)] [] V
  refine r_iload_n C d5_freeAfter_0 rfl ?_
  refine x_ifne (tgt := 14) C d5_freeAfter_1 rfl (fun c1 => ?_) (fun c1 => ?_)
  · replace h := ite_p c1 h
    refine r_iload_n C d5_freeAfter_4 rfl ?_
    refine r_aload_n C d5_freeAfter_5 rfl ?_
    refine g_main_2 C d5_freeAfter_6 f5_26 hN ?_
    obtain ⟨c2, h⟩ := ck_of h
    refine g_setup_1 C d5_freeAfter_9 f5_123 hN c2 ?_
    refine r_iadd C d5_freeAfter_12 ?_
    exact e_i C M d5_freeAfter_13 (Nat.le_of_ble_eq_true rfl) (Nat.le_of_ble_eq_true rfl) h
  · replace h := ite_m c1 h
    refine r_aload_n C d5_freeAfter_14 rfl ?_
    refine g_main_2 C d5_freeAfter_15 f5_26 hN ?_
    obtain ⟨c3, h⟩ := ck_of h
    refine g_setup_0 C d5_freeAfter_18 f5_120 hN c3 ?_
    obtain ⟨y5, h6, h⟩ := bd_of h
    suffices J7 : At G X 0 0 39 [(0, .ref (gB G + 0)), (2, vI x2), (4, vI x4)] [vI y5] V by
      replace h := h6
      refine x_ifle (tgt := 36) C d5_freeAfter_21 rfl (fun c4 => ?_) (fun c4 => ?_)
      · replace h := ite_p c4 h
        refine r_iload_n C d5_freeAfter_36 rfl ?_
        refine r_iconst C d5_freeAfter_37 ?_
        refine r_iadd C d5_freeAfter_38 ?_
        cases h
        exact AtH.sw J7 ⟨rfl, rfl, rfl, trivial⟩
      · replace h := ite_m c4 h
        refine r_iload_n C d5_freeAfter_24 rfl ?_
        refine r_aload_n C d5_freeAfter_25 rfl ?_
        refine g_main_2 C d5_freeAfter_26 f5_26 hN ?_
        refine g_setup_0 C d5_freeAfter_29 f5_120 hN c3 ?_
        refine r_iadd C d5_freeAfter_32 ?_
        refine r_goto (tgt := 39) C d5_freeAfter_33 rfl ?_
        cases h
        exact AtH.sw J7 ⟨rfl, rfl, rfl, trivial⟩
    refine x_istore hx C d5_freeAfter_39 rfl ?_
    refine r_iload_n C d5_freeAfter_41 rfl ?_
    refine r_aload_n C d5_freeAfter_42 rfl ?_
    refine g_main_2 C d5_freeAfter_43 f5_26 hN ?_
    refine g_setup_0 C d5_freeAfter_46 f5_120 hN c3 ?_
    refine r_iadd C d5_freeAfter_49 ?_
    refine r_iload C d5_freeAfter_50 rfl ?_
    refine r_isub C d5_freeAfter_52 ?_
    refine x_istore hx C d5_freeAfter_53 rfl ?_
    refine r_iload C d5_freeAfter_55 rfl ?_
    refine r_iload C d5_freeAfter_57 rfl ?_
    refine x_icmple (tgt := 67) C d5_freeAfter_59 rfl (fun c8 => ?_) (fun c8 => ?_)
    · replace h := ite_p c8 h
      refine r_iload C d5_freeAfter_67 rfl ?_
      exact e_i C M d5_freeAfter_69 (Nat.le_of_ble_eq_true rfl) (Nat.le_of_ble_eq_true rfl) h
    · replace h := ite_m c8 h
      refine r_iload C d5_freeAfter_62 rfl ?_
      refine r_goto (tgt := 69) C d5_freeAfter_64 rfl ?_
      exact e_i C M d5_freeAfter_69 (Nat.le_of_ble_eq_true rfl) (Nat.le_of_ble_eq_true rfl) h
def f5_clashes (V : VV) (x1 : Int) (x2 : Int) (x3 : Int) (x4 : Int) : Option Int := ck ((0:Int) ≤ x1 ∧ x1 < 20) (bd ((if nrm (V (aP 0 + 2) (Int.toNat x1)) = nrm x2 then some (1) else some (0))) (fun y3 => bd (f5_freeBefore V (V (aP 0 + 3) (Int.toNat x1)) (V (aP 0 + 4) (Int.toNat x1)) y3 x4) (fun r7 => (if nrm x3 ≤ nrm r7 then some 0 else bd (f5_freeAfter V (V (aP 0 + 3) (Int.toNat x1)) (V (aP 0 + 4) (Int.toNat x1)) y3 x4) (fun r10 => (if nrm r10 ≤ nrm x3 then some 0 else some 1))))))
theorem ev5_clashes {G : GT} {l : Launch} {V : VV} {x1 : Int} {x2 : Int} {x3 : Int} {x4 : Int} {r : Int} (hlt : l.stackTraces = false) (hN : 148 ≤ gN G) (h : f5_clashes V x1 x2 x3 x4 = some r) : EvX G l y5_clashes b5_clashes 6 (some .boolean) 1 0 0 [.ref (gB G + 0), vI x1, vI x2, vI x3, vI x4] V (.ok (some (vI r))) V := by
  refine ev_w hlt (by decide +kernel) rfl rfl (fun X hl hx C M => ?_)
  subst hl
  replace C : Cx G X "ChannelSchedule" b5_clashes := C
  unfold f5_clashes at h
  show At G X 0 0 0 [(0, .ref (gB G + 0)), (1, vI x1), (2, vI x2), (3, vI x3), (4, vI x4)] [] V
  refine r_aload_n C d5_clashes_0 rfl ?_
  refine g_main_4 C d5_clashes_1 f5_36 hN ?_
  refine g_plan_7 C d5_clashes_4 f5_189 hN p0 ?_
  refine r_iload_n C d5_clashes_7 rfl ?_
  obtain ⟨c1, h⟩ := ck_of h
  refine x_zald C d5_clashes_8 (ra_plan2 hN p0) c1 ?_
  refine r_iload_n C d5_clashes_9 rfl ?_
  obtain ⟨y3, h4, h⟩ := bd_of h
  suffices J5 : At G X 0 0 18 [(0, .ref (gB G + 0)), (1, vI x1), (3, vI x3), (4, vI x4)] [vI y3] V by
    replace h := h4
    refine x_icmpne (tgt := 17) C d5_clashes_10 rfl (fun c2 => ?_) (fun c2 => ?_)
    · replace h := ite_p c2 h
      refine r_iconst C d5_clashes_13 ?_
      refine r_goto (tgt := 18) C d5_clashes_14 rfl ?_
      cases h
      exact AtH.sw J5 ⟨rfl, rfl, rfl, rfl, trivial⟩
    · replace h := ite_m c2 h
      refine r_iconst C d5_clashes_17 ?_
      cases h
      exact AtH.sw J5 ⟨rfl, rfl, rfl, rfl, trivial⟩
  refine x_istore hx C d5_clashes_18 rfl ?_
  refine r_iload_n C d5_clashes_20 rfl ?_
  refine r_aload_n C d5_clashes_21 rfl ?_
  refine r_aload_n C d5_clashes_22 rfl ?_
  refine g_main_4 C d5_clashes_23 f5_36 hN ?_
  refine g_plan_8 C d5_clashes_26 f5_183 hN p0 ?_
  refine r_iload_n C d5_clashes_29 rfl ?_
  refine x_iald C d5_clashes_30 (ra_plan3 hN p0) c1 ?_
  refine r_aload_n C d5_clashes_31 rfl ?_
  refine g_main_4 C d5_clashes_32 f5_36 hN ?_
  refine g_plan_9 C d5_clashes_35 f5_186 hN p0 ?_
  refine r_iload_n C d5_clashes_38 rfl ?_
  refine x_iald C d5_clashes_39 (ra_plan4 hN p0) c1 ?_
  refine r_iload C d5_clashes_40 rfl ?_
  refine r_iload C d5_clashes_42 rfl ?_
  obtain ⟨r7, h6, h⟩ := bd_of h
  refine cV4_i C M d5_clashes_44 l5_224 w5_freeBefore (rc_main hN) (ev5_freeBefore C.lt hN h6) rfl (Nat.le_of_ble_eq_true rfl) (Nat.le_of_ble_eq_true rfl) ?_
  refine x_icmple (tgt := 84) C d5_clashes_47 rfl (fun c8 => ?_) (fun c8 => ?_)
  · replace h := ite_p c8 h
    refine r_iconst C d5_clashes_84 ?_
    exact e_z C M d5_clashes_85 (Nat.le_of_ble_eq_true rfl) (Nat.le_of_ble_eq_true rfl) (Or.inl rfl) h
  · replace h := ite_m c8 h
    refine r_iload_n C d5_clashes_50 rfl ?_
    refine r_aload_n C d5_clashes_51 rfl ?_
    refine r_aload_n C d5_clashes_52 rfl ?_
    refine g_main_4 C d5_clashes_53 f5_36 hN ?_
    refine g_plan_8 C d5_clashes_56 f5_183 hN p0 ?_
    refine r_iload_n C d5_clashes_59 rfl ?_
    refine x_iald C d5_clashes_60 (ra_plan3 hN p0) c1 ?_
    refine r_aload_n C d5_clashes_61 rfl ?_
    refine g_main_4 C d5_clashes_62 f5_36 hN ?_
    refine g_plan_9 C d5_clashes_65 f5_186 hN p0 ?_
    refine r_iload_n C d5_clashes_68 rfl ?_
    refine x_iald C d5_clashes_69 (ra_plan4 hN p0) c1 ?_
    refine r_iload C d5_clashes_70 rfl ?_
    refine r_iload C d5_clashes_72 rfl ?_
    obtain ⟨r10, h9, h⟩ := bd_of h
    refine cV4_i C M d5_clashes_74 l5_351 w5_freeAfter (rc_main hN) (ev5_freeAfter C.lt hN h9) rfl (Nat.le_of_ble_eq_true rfl) (Nat.le_of_ble_eq_true rfl) ?_
    refine x_icmpge (tgt := 84) C d5_clashes_77 rfl (fun c11 => ?_) (fun c11 => ?_)
    · replace h := ite_p c11 h
      refine r_iconst C d5_clashes_84 ?_
      exact e_z C M d5_clashes_85 (Nat.le_of_ble_eq_true rfl) (Nat.le_of_ble_eq_true rfl) (Or.inl rfl) h
    · replace h := ite_m c11 h
      refine r_iconst C d5_clashes_80 ?_
      refine r_goto (tgt := 85) C d5_clashes_81 rfl ?_
      exact e_z C M d5_clashes_85 (Nat.le_of_ble_eq_true rfl) (Nat.le_of_ble_eq_true rfl) (Or.inr rfl) h
def f5_conflictCount_L32 (V : VV) (x2 : Int) (x3 : Int) (x4 : Int) : Nat → Int → Int → Option (Int)
  | 0, _, _ => none
  | n + 1, x5, x6 => (if nrm (V (aP 0) 5) ≤ nrm x6 then some x5 else bd (f5_clashes V x6 x2 x3 x4) (fun r11 => (if nrm r11 = 0 then f5_conflictCount_L32 V x2 x3 x4 n x5 (x6 + 1) else f5_conflictCount_L32 V x2 x3 x4 n (x5 + 1) (x6 + 1))))
theorem lp5_conflictCount_32 {G : GT} {X : CT} {cells slots : Nat} {V : VV} (hN : 148 ≤ gN G) (hx : xN X = 7) (C : Cx G X "ChannelSchedule" b5_conflictCount) {x2 : Int} {x3 : Int} {x4 : Int} {o0 : Except String (Option Value)} {V9 : VV} (M : MX G X 7 2 12 (some .int) o0 V9) (hc : cells ≤ 2) (hs : slots ≤ 12) : ∀ (n : Nat) {x5 : Int} {x6 : Int} {e5 : Int}, f5_conflictCount_L32 V x2 x3 x4 n x5 x6 = some (e5) → At G X cells slots 66 [(5, vI e5)] [] V → At G X cells slots 32 [(0, .ref (gB G + 0)), (2, vI x2), (3, vI x3), (4, vI x4), (5, vI x5), (6, vI x6)] [] V := by
  intro n
  induction n with
  | zero => intro x5 x6 e5 h _; exact nomatch h
  | succ n ih =>
    intro x5 x6 e5 h K
    rw [f5_conflictCount_L32] at h
    refine r_iload C d5_conflictCount_32 rfl ?_
    refine r_aload_n C d5_conflictCount_34 rfl ?_
    refine g_main_4 C d5_conflictCount_35 f5_36 hN ?_
    refine g_plan_5 C d5_conflictCount_38 f5_175 hN p0 ?_
    refine x_icmpge (tgt := 66) C d5_conflictCount_41 rfl (fun c9 => ?_) (fun c9 => ?_)
    · replace h := ite_p c9 h
      cases h
      exact AtH.sw K ⟨rfl, trivial⟩
    · replace h := ite_m c9 h
      refine r_aload_n C d5_conflictCount_44 rfl ?_
      refine r_iload C d5_conflictCount_45 rfl ?_
      refine r_iload_n C d5_conflictCount_47 rfl ?_
      refine r_iload_n C d5_conflictCount_48 rfl ?_
      refine r_iload C d5_conflictCount_49 rfl ?_
      obtain ⟨r11, h10, h⟩ := bd_of h
      refine cV4_i C M d5_conflictCount_51 l5_205 w5_clashes (rc_main hN) (ev5_clashes C.lt hN h10) rfl hc hs ?_
      refine x_ifeq (tgt := 60) C d5_conflictCount_54 rfl (fun c12 => ?_) (fun c12 => ?_)
      · replace h := ite_p c12 h
        refine x_iinc hx C d5_conflictCount_60 rfl rfl ?_
        refine r_goto (tgt := 32) C d5_conflictCount_63 rfl ?_
        exact AtH.sw (ih h K) ⟨rfl, rfl, rfl, rfl, rfl, rfl, trivial⟩
      · replace h := ite_m c12 h
        refine x_iinc hx C d5_conflictCount_57 rfl rfl ?_
        refine x_iinc hx C d5_conflictCount_60 rfl rfl ?_
        refine r_goto (tgt := 32) C d5_conflictCount_63 rfl ?_
        exact AtH.sw (ih h K) ⟨rfl, rfl, rfl, rfl, rfl, rfl, trivial⟩
def f5_conflictCount (V : VV) (x1 : Int) (x2 : Int) (x3 : Int) : Option (Except String Int × VV) := bd (f5_isShip V x1) (fun r2 => if nrm r2 = 0 then some (.error "java/lang/IndexOutOfBoundsException", V) else bd (f5_isWithin V x3 0 999) (fun r5 => if nrm r5 = 0 then some (.error "java/lang/IllegalArgumentException", V) else bd (f5_transitOf V x1) (fun r8 => bd (f5_conflictCount_L32 V x2 x3 r8 FU 0 0) (fun y13 => some (.ok y13, V)))))
theorem ev5_conflictCount {G : GT} {l : Launch} {V : VV} {x1 : Int} {x2 : Int} {x3 : Int} {e : Except String Int} {V1 : VV} (hlt : l.stackTraces = false) (hN : 148 ≤ gN G) (hX : gX G = false) (h : f5_conflictCount V x1 x2 x3 = some (e, V1)) : EvX G l y5_conflictCount b5_conflictCount 7 (some .int) 7 2 12 [.ref (gB G + 0), vI x1, vI x2, vI x3] V (oX e) V1 := by
  refine ev_w hlt (by decide +kernel) rfl rfl (fun X hl hx C M => ?_)
  subst hl
  replace C : Cx G X "ChannelSchedule" b5_conflictCount := C
  unfold f5_conflictCount at h
  show At G X 0 0 0 [(0, .ref (gB G + 0)), (1, vI x1), (2, vI x2), (3, vI x3)] [] V
  refine r_aload_n C d5_conflictCount_0 rfl ?_
  refine r_iload_n C d5_conflictCount_1 rfl ?_
  obtain ⟨r2, h1, h⟩ := bd_of h
  refine cV1_i C M d5_conflictCount_2 l5_132 w5_isShip (rc_main hN) (ev5_isShip C.lt hN h1) rfl (Nat.le_of_ble_eq_true rfl) (Nat.le_of_ble_eq_true rfl) ?_
  refine c_req C M d5_conflictCount_5 l5_136 w5_requireIndex (ev5_requireIndex C.lt hX) rfl (Nat.le_of_ble_eq_true rfl) (Nat.le_of_ble_eq_true rfl) (fun c3 => e_thr (ite_p c3 h)) (fun c3 => ?_)
  replace h := ite_m c3 h
  refine r_iload_n C d5_conflictCount_8 rfl ?_
  refine r_iconst C d5_conflictCount_9 ?_
  refine r_sipush C d5_conflictCount_10 (by decide +kernel) ?_
  obtain ⟨r5, h4, h⟩ := bd_of h
  refine cS3_i C M d5_conflictCount_13 l5_104 w5_isWithin (ev5_isWithin C.lt hN h4) rfl (Nat.le_of_ble_eq_true rfl) (Nat.le_of_ble_eq_true rfl) ?_
  refine c_req C M d5_conflictCount_16 l5_108 w5_requireArgument (ev5_requireArgument C.lt hX) rfl (Nat.le_of_ble_eq_true rfl) (Nat.le_of_ble_eq_true rfl) (fun c6 => e_thr (ite_p c6 h)) (fun c6 => ?_)
  replace h := ite_m c6 h
  refine r_aload_n C d5_conflictCount_19 rfl ?_
  refine r_iload_n C d5_conflictCount_20 rfl ?_
  obtain ⟨r8, h7, h⟩ := bd_of h
  refine cV1_i C M d5_conflictCount_21 l5_139 w5_transitOf (rc_main hN) (ev5_transitOf C.lt hN h7) rfl (Nat.le_of_ble_eq_true rfl) (Nat.le_of_ble_eq_true rfl) ?_
  refine x_istore hx C d5_conflictCount_24 rfl ?_
  refine r_iconst C d5_conflictCount_26 ?_
  refine x_istore hx C d5_conflictCount_27 rfl ?_
  refine r_iconst C d5_conflictCount_29 ?_
  refine x_istore hx C d5_conflictCount_30 rfl ?_
  obtain ⟨y13, h14, h⟩ := bd_of h
  refine AtH.sw (lp5_conflictCount_32 hN hx C M (Nat.le_of_ble_eq_true rfl) (Nat.le_of_ble_eq_true rfl) FU h14 ?_) ⟨rfl, rfl, rfl, rfl, rfl, rfl, trivial⟩
  refine r_iload C d5_conflictCount_66 rfl ?_
  exact e_it C M d5_conflictCount_68 (Nat.le_of_ble_eq_true rfl) (Nat.le_of_ble_eq_true rfl) h
def f5_firstClash_L3 (V : VV) (x1 : Int) (x2 : Int) (x3 : Int) (x4 : Int) : Nat → Int → Option Int
  | 0, _ => none
  | n + 1, x5 => (if nrm (V (aP 0) 5) ≤ nrm x5 then some (-1) else (if nrm x5 = nrm x4 then f5_firstClash_L3 V x1 x2 x3 x4 n (x5 + 1) else bd (f5_clashes V x5 x1 x2 x3) (fun r4 => (if nrm r4 = 0 then f5_firstClash_L3 V x1 x2 x3 x4 n (x5 + 1) else some x5))))
theorem lp5_firstClash_3 {G : GT} {X : CT} {cells slots : Nat} {V : VV} (hN : 148 ≤ gN G) (hx : xN X = 6) (C : Cx G X "ChannelSchedule" b5_firstClash) {x1 : Int} {x2 : Int} {x3 : Int} {x4 : Int} : ∀ (n : Nat) {x5 : Int} {r : Int}, MX G X 2 0 0 (some .int) (.ok (some (vI r))) V → cells ≤ 0 → slots ≤ 0 → f5_firstClash_L3 V x1 x2 x3 x4 n x5 = some r → At G X cells slots 3 [(0, .ref (gB G + 0)), (1, vI x1), (2, vI x2), (3, vI x3), (4, vI x4), (5, vI x5)] [] V := by
  intro n
  induction n with
  | zero => intro x5 r _ _ _ h; exact nomatch h
  | succ n ih =>
    intro x5 r M hc hs h
    rw [f5_firstClash_L3] at h
    refine r_iload C d5_firstClash_3 rfl ?_
    refine r_aload_n C d5_firstClash_5 rfl ?_
    refine g_main_4 C d5_firstClash_6 f5_36 hN ?_
    refine g_plan_5 C d5_firstClash_9 f5_175 hN p0 ?_
    refine x_icmpge (tgt := 43) C d5_firstClash_12 rfl (fun c1 => ?_) (fun c1 => ?_)
    · replace h := ite_p c1 h
      refine r_iconst C d5_firstClash_43 ?_
      exact e_i C M d5_firstClash_44 hc hs h
    · replace h := ite_m c1 h
      refine r_iload C d5_firstClash_15 rfl ?_
      refine r_iload C d5_firstClash_17 rfl ?_
      refine x_icmpeq (tgt := 37) C d5_firstClash_19 rfl (fun c2 => ?_) (fun c2 => ?_)
      · replace h := ite_p c2 h
        refine x_iinc hx C d5_firstClash_37 rfl rfl ?_
        refine r_goto (tgt := 3) C d5_firstClash_40 rfl ?_
        exact AtH.sw (ih M hc hs h) ⟨rfl, rfl, rfl, rfl, rfl, rfl, trivial⟩
      · replace h := ite_m c2 h
        refine r_aload_n C d5_firstClash_22 rfl ?_
        refine r_iload C d5_firstClash_23 rfl ?_
        refine r_iload_n C d5_firstClash_25 rfl ?_
        refine r_iload_n C d5_firstClash_26 rfl ?_
        refine r_iload_n C d5_firstClash_27 rfl ?_
        obtain ⟨r4, h3, h⟩ := bd_of h
        refine cV4_i C M d5_firstClash_28 l5_205 w5_clashes (rc_main hN) (ev5_clashes C.lt hN h3) rfl hc hs ?_
        refine x_ifeq (tgt := 37) C d5_firstClash_31 rfl (fun c5 => ?_) (fun c5 => ?_)
        · replace h := ite_p c5 h
          refine x_iinc hx C d5_firstClash_37 rfl rfl ?_
          refine r_goto (tgt := 3) C d5_firstClash_40 rfl ?_
          exact AtH.sw (ih M hc hs h) ⟨rfl, rfl, rfl, rfl, rfl, rfl, trivial⟩
        · replace h := ite_m c5 h
          refine r_iload C d5_firstClash_34 rfl ?_
          exact e_i C M d5_firstClash_36 hc hs h
def f5_firstClash (V : VV) (x1 : Int) (x2 : Int) (x3 : Int) (x4 : Int) : Option Int := f5_firstClash_L3 V x1 x2 x3 x4 FU 0
theorem ev5_firstClash {G : GT} {l : Launch} {V : VV} {x1 : Int} {x2 : Int} {x3 : Int} {x4 : Int} {r : Int} (hlt : l.stackTraces = false) (hN : 148 ≤ gN G) (h : f5_firstClash V x1 x2 x3 x4 = some r) : EvX G l y5_firstClash b5_firstClash 6 (some .int) 2 0 0 [.ref (gB G + 0), vI x1, vI x2, vI x3, vI x4] V (.ok (some (vI r))) V := by
  refine ev_w hlt (by decide +kernel) rfl rfl (fun X hl hx C M => ?_)
  subst hl
  replace C : Cx G X "ChannelSchedule" b5_firstClash := C
  unfold f5_firstClash at h
  show At G X 0 0 0 [(0, .ref (gB G + 0)), (1, vI x1), (2, vI x2), (3, vI x3), (4, vI x4)] [] V
  refine r_iconst C d5_firstClash_0 ?_
  refine x_istore hx C d5_firstClash_1 rfl ?_
  exact AtH.sw (lp5_firstClash_3 hN hx C FU M (Nat.le_of_ble_eq_true rfl) (Nat.le_of_ble_eq_true rfl) h) ⟨rfl, rfl, rfl, rfl, rfl, rfl, trivial⟩
def f5_firstConflict (V : VV) (x1 : Int) (x2 : Int) (x3 : Int) : Option (Except String Int × VV) := bd (f5_isShip V x1) (fun r2 => if nrm r2 = 0 then some (.error "java/lang/IndexOutOfBoundsException", V) else bd (f5_isWithin V x3 0 999) (fun r5 => if nrm r5 = 0 then some (.error "java/lang/IllegalArgumentException", V) else bd (f5_transitOf V x1) (fun r8 => bd (f5_firstClash V x2 x3 r8 (-1)) (fun r10 => some (.ok r10, V)))))
theorem ev5_firstConflict {G : GT} {l : Launch} {V : VV} {x1 : Int} {x2 : Int} {x3 : Int} {e : Except String Int} {V1 : VV} (hlt : l.stackTraces = false) (hN : 148 ≤ gN G) (hX : gX G = false) (h : f5_firstConflict V x1 x2 x3 = some (e, V1)) : EvX G l y5_firstConflict b5_firstConflict 4 (some .int) 7 2 12 [.ref (gB G + 0), vI x1, vI x2, vI x3] V (oX e) V1 := by
  refine ev_w hlt (by decide +kernel) rfl rfl (fun X hl hx C M => ?_)
  subst hl
  replace C : Cx G X "ChannelSchedule" b5_firstConflict := C
  unfold f5_firstConflict at h
  show At G X 0 0 0 [(0, .ref (gB G + 0)), (1, vI x1), (2, vI x2), (3, vI x3)] [] V
  refine r_aload_n C d5_firstConflict_0 rfl ?_
  refine r_iload_n C d5_firstConflict_1 rfl ?_
  obtain ⟨r2, h1, h⟩ := bd_of h
  refine cV1_i C M d5_firstConflict_2 l5_132 w5_isShip (rc_main hN) (ev5_isShip C.lt hN h1) rfl (Nat.le_of_ble_eq_true rfl) (Nat.le_of_ble_eq_true rfl) ?_
  refine c_req C M d5_firstConflict_5 l5_136 w5_requireIndex (ev5_requireIndex C.lt hX) rfl (Nat.le_of_ble_eq_true rfl) (Nat.le_of_ble_eq_true rfl) (fun c3 => e_thr (ite_p c3 h)) (fun c3 => ?_)
  replace h := ite_m c3 h
  refine r_iload_n C d5_firstConflict_8 rfl ?_
  refine r_iconst C d5_firstConflict_9 ?_
  refine r_sipush C d5_firstConflict_10 (by decide +kernel) ?_
  obtain ⟨r5, h4, h⟩ := bd_of h
  refine cS3_i C M d5_firstConflict_13 l5_104 w5_isWithin (ev5_isWithin C.lt hN h4) rfl (Nat.le_of_ble_eq_true rfl) (Nat.le_of_ble_eq_true rfl) ?_
  refine c_req C M d5_firstConflict_16 l5_108 w5_requireArgument (ev5_requireArgument C.lt hX) rfl (Nat.le_of_ble_eq_true rfl) (Nat.le_of_ble_eq_true rfl) (fun c6 => e_thr (ite_p c6 h)) (fun c6 => ?_)
  replace h := ite_m c6 h
  refine r_aload_n C d5_firstConflict_19 rfl ?_
  refine r_iload_n C d5_firstConflict_20 rfl ?_
  refine r_iload_n C d5_firstConflict_21 rfl ?_
  refine r_aload_n C d5_firstConflict_22 rfl ?_
  refine r_iload_n C d5_firstConflict_23 rfl ?_
  obtain ⟨r8, h7, h⟩ := bd_of h
  refine cV1_i C M d5_firstConflict_24 l5_139 w5_transitOf (rc_main hN) (ev5_transitOf C.lt hN h7) rfl (Nat.le_of_ble_eq_true rfl) (Nat.le_of_ble_eq_true rfl) ?_
  refine r_iconst C d5_firstConflict_27 ?_
  obtain ⟨r10, h9, h⟩ := bd_of h
  refine cV4_i C M d5_firstConflict_28 l5_209 w5_firstClash (rc_main hN) (ev5_firstClash C.lt hN h9) rfl (Nat.le_of_ble_eq_true rfl) (Nat.le_of_ble_eq_true rfl) ?_
  exact e_it C M d5_firstConflict_31 (Nat.le_of_ble_eq_true rfl) (Nat.le_of_ble_eq_true rfl) h
def f5_leastFreeStart_L31 (V : VV) (x1 : Int) (x3 : Int) (x4 : Int) (x5 : Int) (x7 : Int) (x8 : Int) : Nat → Int → Int → Option (Int)
  | 0, _, _ => none
  | n + 1, x6, x9 => (if nrm (V (aP 0) 5) ≤ nrm x9 then some x6 else ck ((0:Int) ≤ x9 ∧ x9 < 20) (bd ((if nrm (V (aP 0 + 2) (Int.toNat x9)) = nrm x1 then some (1) else some (0))) (fun y6 => bd (f5_freeAfter V (V (aP 0 + 3) (Int.toNat x9)) (V (aP 0 + 4) (Int.toNat x9)) y6 x4) (fun r10 => (if nrm x9 = nrm x5 then f5_leastFreeStart_L31 V x1 x3 x4 x5 x7 x8 n x6 (x9 + 1) else (if nrm r10 ≤ nrm x6 then f5_leastFreeStart_L31 V x1 x3 x4 x5 x7 x8 n x6 (x9 + 1) else bd (f5_freeBefore V (V (aP 0 + 3) (Int.toNat x9)) (V (aP 0 + 4) (Int.toNat x9)) y6 x4) (fun r14 => (if nrm x6 ≤ nrm r14 then f5_leastFreeStart_L31 V x1 x3 x4 x5 x7 x8 n x6 (x9 + 1) else f5_leastFreeStart_L31 V x1 x3 x4 x5 x7 x8 n r10 (x9 + 1)))))))))
theorem lp5_leastFreeStart_31 {G : GT} {X : CT} {cells slots : Nat} {V : VV} (hN : 148 ≤ gN G) (hx : xN X = 12) (C : Cx G X "ChannelSchedule" b5_leastFreeStart) {x1 : Int} {x3 : Int} {x4 : Int} {x5 : Int} {x7 : Int} {x8 : Int} {o0 : Except String (Option Value)} {V9 : VV} (M : MX G X 1 0 0 (some .int) o0 V9) (hc : cells ≤ 0) (hs : slots ≤ 0) : ∀ (n : Nat) {x6 : Int} {x9 : Int} {e6 : Int}, f5_leastFreeStart_L31 V x1 x3 x4 x5 x7 x8 n x6 x9 = some (e6) → At G X cells slots 151 [(0, .ref (gB G + 0)), (1, vI x1), (3, vI x3), (4, vI x4), (5, vI x5), (6, vI e6), (7, vI x7), (8, vI x8)] [] V → At G X cells slots 31 [(0, .ref (gB G + 0)), (1, vI x1), (3, vI x3), (4, vI x4), (5, vI x5), (6, vI x6), (7, vI x7), (8, vI x8), (9, vI x9)] [] V := by
  intro n
  induction n with
  | zero => intro x6 x9 e6 h _; exact nomatch h
  | succ n ih =>
    intro x6 x9 e6 h K
    rw [f5_leastFreeStart_L31] at h
    refine r_iload C d5_leastFreeStart_31 rfl ?_
    refine r_aload_n C d5_leastFreeStart_33 rfl ?_
    refine g_main_4 C d5_leastFreeStart_34 f5_36 hN ?_
    refine g_plan_5 C d5_leastFreeStart_37 f5_175 hN p0 ?_
    refine x_icmpge (tgt := 151) C d5_leastFreeStart_40 rfl (fun c3 => ?_) (fun c3 => ?_)
    · replace h := ite_p c3 h
      cases h
      exact AtH.sw K ⟨rfl, rfl, rfl, rfl, rfl, rfl, rfl, rfl, trivial⟩
    · replace h := ite_m c3 h
      refine r_aload_n C d5_leastFreeStart_43 rfl ?_
      refine g_main_4 C d5_leastFreeStart_44 f5_36 hN ?_
      refine g_plan_7 C d5_leastFreeStart_47 f5_189 hN p0 ?_
      refine r_iload C d5_leastFreeStart_50 rfl ?_
      obtain ⟨c4, h⟩ := ck_of h
      refine x_zald C d5_leastFreeStart_52 (ra_plan2 hN p0) c4 ?_
      refine r_iload_n C d5_leastFreeStart_53 rfl ?_
      obtain ⟨y6, h7, h⟩ := bd_of h
      suffices J8 : At G X cells slots 62 [(0, .ref (gB G + 0)), (1, vI x1), (3, vI x3), (4, vI x4), (5, vI x5), (6, vI x6), (7, vI x7), (8, vI x8), (9, vI x9)] [vI y6] V by
        replace h := h7
        refine x_icmpne (tgt := 61) C d5_leastFreeStart_54 rfl (fun c5 => ?_) (fun c5 => ?_)
        · replace h := ite_p c5 h
          refine r_iconst C d5_leastFreeStart_57 ?_
          refine r_goto (tgt := 62) C d5_leastFreeStart_58 rfl ?_
          cases h
          exact AtH.sw J8 ⟨rfl, rfl, rfl, rfl, rfl, rfl, rfl, rfl, rfl, trivial⟩
        · replace h := ite_m c5 h
          refine r_iconst C d5_leastFreeStart_61 ?_
          cases h
          exact AtH.sw J8 ⟨rfl, rfl, rfl, rfl, rfl, rfl, rfl, rfl, rfl, trivial⟩
      refine x_istore hx C d5_leastFreeStart_62 rfl ?_
      refine r_aload_n C d5_leastFreeStart_64 rfl ?_
      refine r_aload_n C d5_leastFreeStart_65 rfl ?_
      refine g_main_4 C d5_leastFreeStart_66 f5_36 hN ?_
      refine g_plan_8 C d5_leastFreeStart_69 f5_183 hN p0 ?_
      refine r_iload C d5_leastFreeStart_72 rfl ?_
      refine x_iald C d5_leastFreeStart_74 (ra_plan3 hN p0) c4 ?_
      refine r_aload_n C d5_leastFreeStart_75 rfl ?_
      refine g_main_4 C d5_leastFreeStart_76 f5_36 hN ?_
      refine g_plan_9 C d5_leastFreeStart_79 f5_186 hN p0 ?_
      refine r_iload C d5_leastFreeStart_82 rfl ?_
      refine x_iald C d5_leastFreeStart_84 (ra_plan4 hN p0) c4 ?_
      refine r_iload C d5_leastFreeStart_85 rfl ?_
      refine r_iload C d5_leastFreeStart_87 rfl ?_
      obtain ⟨r10, h9, h⟩ := bd_of h
      refine cV4_i C M d5_leastFreeStart_89 l5_351 w5_freeAfter (rc_main hN) (ev5_freeAfter C.lt hN h9) rfl hc hs ?_
      refine x_istore hx C d5_leastFreeStart_92 rfl ?_
      refine r_iload C d5_leastFreeStart_94 rfl ?_
      refine r_iload C d5_leastFreeStart_96 rfl ?_
      refine x_icmpeq (tgt := 145) C d5_leastFreeStart_98 rfl (fun c11 => ?_) (fun c11 => ?_)
      · replace h := ite_p c11 h
        refine x_iinc hx C d5_leastFreeStart_145 rfl rfl ?_
        refine r_goto (tgt := 31) C d5_leastFreeStart_148 rfl ?_
        exact AtH.sw (ih h K) ⟨rfl, rfl, rfl, rfl, rfl, rfl, rfl, rfl, rfl, trivial⟩
      · replace h := ite_m c11 h
        refine r_iload C d5_leastFreeStart_101 rfl ?_
        refine r_iload C d5_leastFreeStart_103 rfl ?_
        refine x_icmpge (tgt := 145) C d5_leastFreeStart_105 rfl (fun c12 => ?_) (fun c12 => ?_)
        · replace h := ite_p c12 h
          refine x_iinc hx C d5_leastFreeStart_145 rfl rfl ?_
          refine r_goto (tgt := 31) C d5_leastFreeStart_148 rfl ?_
          exact AtH.sw (ih h K) ⟨rfl, rfl, rfl, rfl, rfl, rfl, rfl, rfl, rfl, trivial⟩
        · replace h := ite_m c12 h
          refine r_iload C d5_leastFreeStart_108 rfl ?_
          refine r_aload_n C d5_leastFreeStart_110 rfl ?_
          refine r_aload_n C d5_leastFreeStart_111 rfl ?_
          refine g_main_4 C d5_leastFreeStart_112 f5_36 hN ?_
          refine g_plan_8 C d5_leastFreeStart_115 f5_183 hN p0 ?_
          refine r_iload C d5_leastFreeStart_118 rfl ?_
          refine x_iald C d5_leastFreeStart_120 (ra_plan3 hN p0) c4 ?_
          refine r_aload_n C d5_leastFreeStart_121 rfl ?_
          refine g_main_4 C d5_leastFreeStart_122 f5_36 hN ?_
          refine g_plan_9 C d5_leastFreeStart_125 f5_186 hN p0 ?_
          refine r_iload C d5_leastFreeStart_128 rfl ?_
          refine x_iald C d5_leastFreeStart_130 (ra_plan4 hN p0) c4 ?_
          refine r_iload C d5_leastFreeStart_131 rfl ?_
          refine r_iload C d5_leastFreeStart_133 rfl ?_
          obtain ⟨r14, h13, h⟩ := bd_of h
          refine cV4_i C M d5_leastFreeStart_135 l5_224 w5_freeBefore (rc_main hN) (ev5_freeBefore C.lt hN h13) rfl hc hs ?_
          refine x_icmple (tgt := 145) C d5_leastFreeStart_138 rfl (fun c15 => ?_) (fun c15 => ?_)
          · replace h := ite_p c15 h
            refine x_iinc hx C d5_leastFreeStart_145 rfl rfl ?_
            refine r_goto (tgt := 31) C d5_leastFreeStart_148 rfl ?_
            exact AtH.sw (ih h K) ⟨rfl, rfl, rfl, rfl, rfl, rfl, rfl, rfl, rfl, trivial⟩
          · replace h := ite_m c15 h
            refine r_iload C d5_leastFreeStart_141 rfl ?_
            refine x_istore hx C d5_leastFreeStart_143 rfl ?_
            refine x_iinc hx C d5_leastFreeStart_145 rfl rfl ?_
            refine r_goto (tgt := 31) C d5_leastFreeStart_148 rfl ?_
            exact AtH.sw (ih h K) ⟨rfl, rfl, rfl, rfl, rfl, rfl, rfl, rfl, rfl, trivial⟩
def f5_leastFreeStart_L6 (V : VV) (x1 : Int) (x3 : Int) (x4 : Int) (x5 : Int) : Nat → Int → Int → Option Int
  | 0, _, _ => none
  | n + 1, x6, x7 => (if nrm (V (aP 0) 5) < nrm x7 then some (-1) else (if nrm x3 < nrm x6 then some (-1) else bd (f5_leastFreeStart_L31 V x1 x3 x4 x5 x7 x6 FU x6 0) (fun y16 => (if nrm y16 = nrm x6 then some y16 else f5_leastFreeStart_L6 V x1 x3 x4 x5 n y16 (x7 + 1)))))
theorem lp5_leastFreeStart_6 {G : GT} {X : CT} {cells slots : Nat} {V : VV} (hN : 148 ≤ gN G) (hx : xN X = 12) (C : Cx G X "ChannelSchedule" b5_leastFreeStart) {x1 : Int} {x3 : Int} {x4 : Int} {x5 : Int} : ∀ (n : Nat) {x6 : Int} {x7 : Int} {r : Int}, MX G X 1 0 0 (some .int) (.ok (some (vI r))) V → cells ≤ 0 → slots ≤ 0 → f5_leastFreeStart_L6 V x1 x3 x4 x5 n x6 x7 = some r → At G X cells slots 6 [(0, .ref (gB G + 0)), (1, vI x1), (3, vI x3), (4, vI x4), (5, vI x5), (6, vI x6), (7, vI x7)] [] V := by
  intro n
  induction n with
  | zero => intro x6 x7 r _ _ _ h; exact nomatch h
  | succ n ih =>
    intro x6 x7 r M hc hs h
    rw [f5_leastFreeStart_L6] at h
    refine r_iload C d5_leastFreeStart_6 rfl ?_
    refine r_aload_n C d5_leastFreeStart_8 rfl ?_
    refine g_main_4 C d5_leastFreeStart_9 f5_36 hN ?_
    refine g_plan_5 C d5_leastFreeStart_12 f5_175 hN p0 ?_
    refine x_icmpgt (tgt := 167) C d5_leastFreeStart_15 rfl (fun c1 => ?_) (fun c1 => ?_)
    · replace h := ite_p c1 h
      refine r_iconst C d5_leastFreeStart_167 ?_
      exact e_i C M d5_leastFreeStart_168 hc hs h
    · replace h := ite_m c1 h
      refine r_iload C d5_leastFreeStart_18 rfl ?_
      refine r_iload_n C d5_leastFreeStart_20 rfl ?_
      refine x_icmpgt (tgt := 167) C d5_leastFreeStart_21 rfl (fun c2 => ?_) (fun c2 => ?_)
      · replace h := ite_p c2 h
        refine r_iconst C d5_leastFreeStart_167 ?_
        exact e_i C M d5_leastFreeStart_168 hc hs h
      · replace h := ite_m c2 h
        refine r_iload C d5_leastFreeStart_24 rfl ?_
        refine x_istore hx C d5_leastFreeStart_26 rfl ?_
        refine r_iconst C d5_leastFreeStart_28 ?_
        refine x_istore hx C d5_leastFreeStart_29 rfl ?_
        obtain ⟨y16, h17, h⟩ := bd_of h
        refine AtH.sw (lp5_leastFreeStart_31 hN hx C M hc hs FU h17 ?_) ⟨rfl, rfl, rfl, rfl, rfl, rfl, rfl, rfl, rfl, trivial⟩
        refine r_iload C d5_leastFreeStart_151 rfl ?_
        refine r_iload C d5_leastFreeStart_153 rfl ?_
        refine x_icmpne (tgt := 161) C d5_leastFreeStart_155 rfl (fun c18 => ?_) (fun c18 => ?_)
        · replace h := ite_p c18 h
          refine r_iload C d5_leastFreeStart_158 rfl ?_
          exact e_i C M d5_leastFreeStart_160 hc hs h
        · replace h := ite_m c18 h
          refine x_iinc hx C d5_leastFreeStart_161 rfl rfl ?_
          refine r_goto (tgt := 6) C d5_leastFreeStart_164 rfl ?_
          exact AtH.sw (ih M hc hs h) ⟨rfl, rfl, rfl, rfl, rfl, rfl, rfl, trivial⟩
def f5_leastFreeStart (V : VV) (x1 : Int) (x2 : Int) (x3 : Int) (x4 : Int) (x5 : Int) : Option Int := f5_leastFreeStart_L6 V x1 x3 x4 x5 FU x2 0
theorem ev5_leastFreeStart {G : GT} {l : Launch} {V : VV} {x1 : Int} {x2 : Int} {x3 : Int} {x4 : Int} {x5 : Int} {r : Int} (hlt : l.stackTraces = false) (hN : 148 ≤ gN G) (h : f5_leastFreeStart V x1 x2 x3 x4 x5 = some r) : EvX G l y5_leastFreeStart b5_leastFreeStart 12 (some .int) 1 0 0 [.ref (gB G + 0), vI x1, vI x2, vI x3, vI x4, vI x5] V (.ok (some (vI r))) V := by
  refine ev_w hlt (by decide +kernel) rfl rfl (fun X hl hx C M => ?_)
  subst hl
  replace C : Cx G X "ChannelSchedule" b5_leastFreeStart := C
  unfold f5_leastFreeStart at h
  show At G X 0 0 0 [(0, .ref (gB G + 0)), (1, vI x1), (2, vI x2), (3, vI x3), (4, vI x4), (5, vI x5)] [] V
  refine r_iload_n C d5_leastFreeStart_0 rfl ?_
  refine x_istore hx C d5_leastFreeStart_1 rfl ?_
  refine r_iconst C d5_leastFreeStart_3 ?_
  refine x_istore hx C d5_leastFreeStart_4 rfl ?_
  exact AtH.sw (lp5_leastFreeStart_6 hN hx C FU M (Nat.le_of_ble_eq_true rfl) (Nat.le_of_ble_eq_true rfl) h) ⟨rfl, rfl, rfl, rfl, rfl, rfl, rfl, trivial⟩
def f5_earliestStart (V : VV) (x1 : Int) (x2 : Int) (x3 : Int) : Option (Except String Int × VV) := bd (f5_isShip V x1) (fun r2 => if nrm r2 = 0 then some (.error "java/lang/IndexOutOfBoundsException", V) else bd (f5_isWithin V x3 0 999) (fun r5 => if nrm r5 = 0 then some (.error "java/lang/IllegalArgumentException", V) else bd (f5_transitOf V x1) (fun r8 => bd (f5_leastFreeStart V x2 x3 999 r8 (-1)) (fun r10 => some (.ok r10, V)))))
theorem ev5_earliestStart {G : GT} {l : Launch} {V : VV} {x1 : Int} {x2 : Int} {x3 : Int} {e : Except String Int} {V1 : VV} (hlt : l.stackTraces = false) (hN : 148 ≤ gN G) (hX : gX G = false) (h : f5_earliestStart V x1 x2 x3 = some (e, V1)) : EvX G l y5_earliestStart b5_earliestStart 4 (some .int) 7 2 12 [.ref (gB G + 0), vI x1, vI x2, vI x3] V (oX e) V1 := by
  refine ev_w hlt (by decide +kernel) rfl rfl (fun X hl hx C M => ?_)
  subst hl
  replace C : Cx G X "ChannelSchedule" b5_earliestStart := C
  unfold f5_earliestStart at h
  show At G X 0 0 0 [(0, .ref (gB G + 0)), (1, vI x1), (2, vI x2), (3, vI x3)] [] V
  refine r_aload_n C d5_earliestStart_0 rfl ?_
  refine r_iload_n C d5_earliestStart_1 rfl ?_
  obtain ⟨r2, h1, h⟩ := bd_of h
  refine cV1_i C M d5_earliestStart_2 l5_132 w5_isShip (rc_main hN) (ev5_isShip C.lt hN h1) rfl (Nat.le_of_ble_eq_true rfl) (Nat.le_of_ble_eq_true rfl) ?_
  refine c_req C M d5_earliestStart_5 l5_136 w5_requireIndex (ev5_requireIndex C.lt hX) rfl (Nat.le_of_ble_eq_true rfl) (Nat.le_of_ble_eq_true rfl) (fun c3 => e_thr (ite_p c3 h)) (fun c3 => ?_)
  replace h := ite_m c3 h
  refine r_iload_n C d5_earliestStart_8 rfl ?_
  refine r_iconst C d5_earliestStart_9 ?_
  refine r_sipush C d5_earliestStart_10 (by decide +kernel) ?_
  obtain ⟨r5, h4, h⟩ := bd_of h
  refine cS3_i C M d5_earliestStart_13 l5_104 w5_isWithin (ev5_isWithin C.lt hN h4) rfl (Nat.le_of_ble_eq_true rfl) (Nat.le_of_ble_eq_true rfl) ?_
  refine c_req C M d5_earliestStart_16 l5_108 w5_requireArgument (ev5_requireArgument C.lt hX) rfl (Nat.le_of_ble_eq_true rfl) (Nat.le_of_ble_eq_true rfl) (fun c6 => e_thr (ite_p c6 h)) (fun c6 => ?_)
  replace h := ite_m c6 h
  refine r_aload_n C d5_earliestStart_19 rfl ?_
  refine r_iload_n C d5_earliestStart_20 rfl ?_
  refine r_iload_n C d5_earliestStart_21 rfl ?_
  refine r_sipush C d5_earliestStart_22 (by decide +kernel) ?_
  refine r_aload_n C d5_earliestStart_25 rfl ?_
  refine r_iload_n C d5_earliestStart_26 rfl ?_
  obtain ⟨r8, h7, h⟩ := bd_of h
  refine cV1_i C M d5_earliestStart_27 l5_139 w5_transitOf (rc_main hN) (ev5_transitOf C.lt hN h7) rfl (Nat.le_of_ble_eq_true rfl) (Nat.le_of_ble_eq_true rfl) ?_
  refine r_iconst C d5_earliestStart_30 ?_
  obtain ⟨r10, h9, h⟩ := bd_of h
  refine cV5_i C M d5_earliestStart_31 l5_213 w5_leastFreeStart (rc_main hN) (ev5_leastFreeStart C.lt hN h9) rfl (Nat.le_of_ble_eq_true rfl) (Nat.le_of_ble_eq_true rfl) ?_
  exact e_it C M d5_earliestStart_34 (Nat.le_of_ble_eq_true rfl) (Nat.le_of_ble_eq_true rfl) h
def f5_greatestFreeStart_L6 (V : VV) (x1 : Int) (x3 : Int) : Nat → Int → Int → Option Int
  | 0, _, _ => none
  | n + 1, x4, x5 => (if nrm (V (aP 0) 5) < nrm x5 then some (-1) else (if nrm x4 < 0 then some (-1) else bd (f5_firstClash V x1 x4 x3 (-1)) (fun r4 => (if nrm r4 = nrm (-1) then some x4 else ck ((0:Int) ≤ r4 ∧ r4 < 20) (bd ((if nrm (V (aP 0 + 2) (Int.toNat r4)) = nrm x1 then some (1) else some (0))) (fun y8 => bd (f5_freeBefore V (V (aP 0 + 3) (Int.toNat r4)) (V (aP 0 + 4) (Int.toNat r4)) y8 x3) (fun r12 => f5_greatestFreeStart_L6 V x1 x3 n r12 (x5 + 1))))))))
theorem lp5_greatestFreeStart_6 {G : GT} {X : CT} {cells slots : Nat} {V : VV} (hN : 148 ≤ gN G) (hx : xN X = 8) (C : Cx G X "ChannelSchedule" b5_greatestFreeStart) {x1 : Int} {x3 : Int} : ∀ (n : Nat) {x4 : Int} {x5 : Int} {r : Int}, MX G X 3 0 0 (some .int) (.ok (some (vI r))) V → cells ≤ 0 → slots ≤ 0 → f5_greatestFreeStart_L6 V x1 x3 n x4 x5 = some r → At G X cells slots 6 [(0, .ref (gB G + 0)), (1, vI x1), (3, vI x3), (4, vI x4), (5, vI x5)] [] V := by
  intro n
  induction n with
  | zero => intro x4 x5 r _ _ _ h; exact nomatch h
  | succ n ih =>
    intro x4 x5 r M hc hs h
    rw [f5_greatestFreeStart_L6] at h
    refine r_iload C d5_greatestFreeStart_6 rfl ?_
    refine r_aload_n C d5_greatestFreeStart_8 rfl ?_
    refine g_main_4 C d5_greatestFreeStart_9 f5_36 hN ?_
    refine g_plan_5 C d5_greatestFreeStart_12 f5_175 hN p0 ?_
    refine x_icmpgt (tgt := 99) C d5_greatestFreeStart_15 rfl (fun c1 => ?_) (fun c1 => ?_)
    · replace h := ite_p c1 h
      refine r_iconst C d5_greatestFreeStart_99 ?_
      exact e_i C M d5_greatestFreeStart_100 hc hs h
    · replace h := ite_m c1 h
      refine r_iload C d5_greatestFreeStart_18 rfl ?_
      refine x_iflt (tgt := 99) C d5_greatestFreeStart_20 rfl (fun c2 => ?_) (fun c2 => ?_)
      · replace h := ite_p c2 h
        refine r_iconst C d5_greatestFreeStart_99 ?_
        exact e_i C M d5_greatestFreeStart_100 hc hs h
      · replace h := ite_m c2 h
        refine r_aload_n C d5_greatestFreeStart_23 rfl ?_
        refine r_iload_n C d5_greatestFreeStart_24 rfl ?_
        refine r_iload C d5_greatestFreeStart_25 rfl ?_
        refine r_iload_n C d5_greatestFreeStart_27 rfl ?_
        refine r_iconst C d5_greatestFreeStart_28 ?_
        obtain ⟨r4, h3, h⟩ := bd_of h
        refine cV4_i C M d5_greatestFreeStart_29 l5_209 w5_firstClash (rc_main hN) (ev5_firstClash C.lt hN h3) rfl hc hs ?_
        refine x_istore hx C d5_greatestFreeStart_32 rfl ?_
        refine r_iload C d5_greatestFreeStart_34 rfl ?_
        refine r_iconst C d5_greatestFreeStart_36 ?_
        refine x_icmpne (tgt := 43) C d5_greatestFreeStart_37 rfl (fun c5 => ?_) (fun c5 => ?_)
        · replace h := ite_p c5 h
          refine r_iload C d5_greatestFreeStart_40 rfl ?_
          exact e_i C M d5_greatestFreeStart_42 hc hs h
        · replace h := ite_m c5 h
          refine r_aload_n C d5_greatestFreeStart_43 rfl ?_
          refine g_main_4 C d5_greatestFreeStart_44 f5_36 hN ?_
          refine g_plan_7 C d5_greatestFreeStart_47 f5_189 hN p0 ?_
          refine r_iload C d5_greatestFreeStart_50 rfl ?_
          obtain ⟨c6, h⟩ := ck_of h
          refine x_zald C d5_greatestFreeStart_52 (ra_plan2 hN p0) c6 ?_
          refine r_iload_n C d5_greatestFreeStart_53 rfl ?_
          obtain ⟨y8, h9, h⟩ := bd_of h
          suffices J10 : At G X cells slots 62 [(0, .ref (gB G + 0)), (1, vI x1), (3, vI x3), (5, vI x5), (6, vI r4)] [vI y8] V by
            replace h := h9
            refine x_icmpne (tgt := 61) C d5_greatestFreeStart_54 rfl (fun c7 => ?_) (fun c7 => ?_)
            · replace h := ite_p c7 h
              refine r_iconst C d5_greatestFreeStart_57 ?_
              refine r_goto (tgt := 62) C d5_greatestFreeStart_58 rfl ?_
              cases h
              exact AtH.sw J10 ⟨rfl, rfl, rfl, rfl, rfl, trivial⟩
            · replace h := ite_m c7 h
              refine r_iconst C d5_greatestFreeStart_61 ?_
              cases h
              exact AtH.sw J10 ⟨rfl, rfl, rfl, rfl, rfl, trivial⟩
          refine x_istore hx C d5_greatestFreeStart_62 rfl ?_
          refine r_aload_n C d5_greatestFreeStart_64 rfl ?_
          refine r_aload_n C d5_greatestFreeStart_65 rfl ?_
          refine g_main_4 C d5_greatestFreeStart_66 f5_36 hN ?_
          refine g_plan_8 C d5_greatestFreeStart_69 f5_183 hN p0 ?_
          refine r_iload C d5_greatestFreeStart_72 rfl ?_
          refine x_iald C d5_greatestFreeStart_74 (ra_plan3 hN p0) c6 ?_
          refine r_aload_n C d5_greatestFreeStart_75 rfl ?_
          refine g_main_4 C d5_greatestFreeStart_76 f5_36 hN ?_
          refine g_plan_9 C d5_greatestFreeStart_79 f5_186 hN p0 ?_
          refine r_iload C d5_greatestFreeStart_82 rfl ?_
          refine x_iald C d5_greatestFreeStart_84 (ra_plan4 hN p0) c6 ?_
          refine r_iload C d5_greatestFreeStart_85 rfl ?_
          refine r_iload_n C d5_greatestFreeStart_87 rfl ?_
          obtain ⟨r12, h11, h⟩ := bd_of h
          refine cV4_i C M d5_greatestFreeStart_88 l5_224 w5_freeBefore (rc_main hN) (ev5_freeBefore C.lt hN h11) rfl hc hs ?_
          refine x_istore hx C d5_greatestFreeStart_91 rfl ?_
          refine x_iinc hx C d5_greatestFreeStart_93 rfl rfl ?_
          refine r_goto (tgt := 6) C d5_greatestFreeStart_96 rfl ?_
          exact AtH.sw (ih M hc hs h) ⟨rfl, rfl, rfl, rfl, rfl, trivial⟩
def f5_greatestFreeStart (V : VV) (x1 : Int) (x2 : Int) (x3 : Int) : Option Int := f5_greatestFreeStart_L6 V x1 x3 FU x2 0
theorem ev5_greatestFreeStart {G : GT} {l : Launch} {V : VV} {x1 : Int} {x2 : Int} {x3 : Int} {r : Int} (hlt : l.stackTraces = false) (hN : 148 ≤ gN G) (h : f5_greatestFreeStart V x1 x2 x3 = some r) : EvX G l y5_greatestFreeStart b5_greatestFreeStart 8 (some .int) 3 0 0 [.ref (gB G + 0), vI x1, vI x2, vI x3] V (.ok (some (vI r))) V := by
  refine ev_w hlt (by decide +kernel) rfl rfl (fun X hl hx C M => ?_)
  subst hl
  replace C : Cx G X "ChannelSchedule" b5_greatestFreeStart := C
  unfold f5_greatestFreeStart at h
  show At G X 0 0 0 [(0, .ref (gB G + 0)), (1, vI x1), (2, vI x2), (3, vI x3)] [] V
  refine r_iload_n C d5_greatestFreeStart_0 rfl ?_
  refine x_istore hx C d5_greatestFreeStart_1 rfl ?_
  refine r_iconst C d5_greatestFreeStart_3 ?_
  refine x_istore hx C d5_greatestFreeStart_4 rfl ?_
  exact AtH.sw (lp5_greatestFreeStart_6 hN hx C FU M (Nat.le_of_ble_eq_true rfl) (Nat.le_of_ble_eq_true rfl) h) ⟨rfl, rfl, rfl, rfl, rfl, trivial⟩
def f5_latestStart (V : VV) (x1 : Int) (x2 : Int) (x3 : Int) : Option (Except String Int × VV) := bd (f5_isShip V x1) (fun r2 => if nrm r2 = 0 then some (.error "java/lang/IndexOutOfBoundsException", V) else bd (f5_isWithin V x3 0 1200) (fun r5 => if nrm r5 = 0 then some (.error "java/lang/IllegalArgumentException", V) else bd (f5_transitOf V x1) (fun r8 => bd (f5_greatestFreeStart V x2 (mnI 999 (x3 - r8)) r8) (fun r10 => some (.ok r10, V)))))
theorem ev5_latestStart {G : GT} {l : Launch} {V : VV} {x1 : Int} {x2 : Int} {x3 : Int} {e : Except String Int} {V1 : VV} (hlt : l.stackTraces = false) (hN : 148 ≤ gN G) (hX : gX G = false) (h : f5_latestStart V x1 x2 x3 = some (e, V1)) : EvX G l y5_latestStart b5_latestStart 5 (some .int) 7 2 12 [.ref (gB G + 0), vI x1, vI x2, vI x3] V (oX e) V1 := by
  refine ev_w hlt (by decide +kernel) rfl rfl (fun X hl hx C M => ?_)
  subst hl
  replace C : Cx G X "ChannelSchedule" b5_latestStart := C
  unfold f5_latestStart at h
  show At G X 0 0 0 [(0, .ref (gB G + 0)), (1, vI x1), (2, vI x2), (3, vI x3)] [] V
  refine r_aload_n C d5_latestStart_0 rfl ?_
  refine r_iload_n C d5_latestStart_1 rfl ?_
  obtain ⟨r2, h1, h⟩ := bd_of h
  refine cV1_i C M d5_latestStart_2 l5_132 w5_isShip (rc_main hN) (ev5_isShip C.lt hN h1) rfl (Nat.le_of_ble_eq_true rfl) (Nat.le_of_ble_eq_true rfl) ?_
  refine c_req C M d5_latestStart_5 l5_136 w5_requireIndex (ev5_requireIndex C.lt hX) rfl (Nat.le_of_ble_eq_true rfl) (Nat.le_of_ble_eq_true rfl) (fun c3 => e_thr (ite_p c3 h)) (fun c3 => ?_)
  replace h := ite_m c3 h
  refine r_iload_n C d5_latestStart_8 rfl ?_
  refine r_iconst C d5_latestStart_9 ?_
  refine r_sipush C d5_latestStart_10 (by decide +kernel) ?_
  obtain ⟨r5, h4, h⟩ := bd_of h
  refine cS3_i C M d5_latestStart_13 l5_104 w5_isWithin (ev5_isWithin C.lt hN h4) rfl (Nat.le_of_ble_eq_true rfl) (Nat.le_of_ble_eq_true rfl) ?_
  refine c_req C M d5_latestStart_16 l5_108 w5_requireArgument (ev5_requireArgument C.lt hX) rfl (Nat.le_of_ble_eq_true rfl) (Nat.le_of_ble_eq_true rfl) (fun c6 => e_thr (ite_p c6 h)) (fun c6 => ?_)
  replace h := ite_m c6 h
  refine r_aload_n C d5_latestStart_19 rfl ?_
  refine r_iload_n C d5_latestStart_20 rfl ?_
  obtain ⟨r8, h7, h⟩ := bd_of h
  refine cV1_i C M d5_latestStart_21 l5_139 w5_transitOf (rc_main hN) (ev5_transitOf C.lt hN h7) rfl (Nat.le_of_ble_eq_true rfl) (Nat.le_of_ble_eq_true rfl) ?_
  refine x_istore hx C d5_latestStart_24 rfl ?_
  refine r_aload_n C d5_latestStart_26 rfl ?_
  refine r_iload_n C d5_latestStart_27 rfl ?_
  refine r_sipush C d5_latestStart_28 (by decide +kernel) ?_
  refine r_iload_n C d5_latestStart_31 rfl ?_
  refine r_iload C d5_latestStart_32 rfl ?_
  refine r_isub C d5_latestStart_34 ?_
  refine x_mmin C M d5_latestStart_35 l5_217 rfl (Nat.le_of_ble_eq_true rfl) (Nat.le_of_ble_eq_true rfl) ?_
  refine r_iload C d5_latestStart_38 rfl ?_
  obtain ⟨r10, h9, h⟩ := bd_of h
  refine cV3_i C M d5_latestStart_40 l5_220 w5_greatestFreeStart (rc_main hN) (ev5_greatestFreeStart C.lt hN h9) rfl (Nat.le_of_ble_eq_true rfl) (Nat.le_of_ble_eq_true rfl) ?_
  exact e_it C M d5_latestStart_43 (Nat.le_of_ble_eq_true rfl) (Nat.le_of_ble_eq_true rfl) h
def f5_bestCancellation_L53 (V : VV) (x2 : Int) (x3 : Int) (x4 : Int) : Nat → Int → Int → Int → Option (Int)
  | 0, _, _, _ => none
  | n + 1, x5, x6, x7 => (if nrm (V (aP 0) 5) ≤ nrm x7 then some x5 else bd (f5_leastFreeStart V x2 x3 999 x4 x7) (fun r16 => bd ((if nrm r16 = nrm (-1) then some (1000) else some (r16))) (fun y18 => (if nrm x5 = nrm (-1) then f5_bestCancellation_L53 V x2 x3 x4 n x7 y18 (x7 + 1) else (if nrm x6 ≤ nrm y18 then f5_bestCancellation_L53 V x2 x3 x4 n x5 x6 (x7 + 1) else f5_bestCancellation_L53 V x2 x3 x4 n x7 y18 (x7 + 1))))))
theorem lp5_bestCancellation_53 {G : GT} {X : CT} {cells slots : Nat} {V : VV} (hN : 148 ≤ gN G) (hx : xN X = 10) (C : Cx G X "ChannelSchedule" b5_bestCancellation) {x2 : Int} {x3 : Int} {x4 : Int} {o0 : Except String (Option Value)} {V9 : VV} (M : MX G X 7 3 18 (some .int) o0 V9) (hc : cells ≤ 3) (hs : slots ≤ 18) : ∀ (n : Nat) {x5 : Int} {x6 : Int} {x7 : Int} {e5 : Int}, f5_bestCancellation_L53 V x2 x3 x4 n x5 x6 x7 = some (e5) → At G X cells slots 123 [(5, vI e5)] [] V → At G X cells slots 53 [(0, .ref (gB G + 0)), (2, vI x2), (3, vI x3), (4, vI x4), (5, vI x5), (6, vI x6), (7, vI x7)] [] V := by
  intro n
  induction n with
  | zero => intro x5 x6 x7 e5 h _; exact nomatch h
  | succ n ih =>
    intro x5 x6 x7 e5 h K
    rw [f5_bestCancellation_L53] at h
    refine r_iload C d5_bestCancellation_53 rfl ?_
    refine r_aload_n C d5_bestCancellation_55 rfl ?_
    refine g_main_4 C d5_bestCancellation_56 f5_36 hN ?_
    refine g_plan_5 C d5_bestCancellation_59 f5_175 hN p0 ?_
    refine x_icmpge (tgt := 123) C d5_bestCancellation_62 rfl (fun c14 => ?_) (fun c14 => ?_)
    · replace h := ite_p c14 h
      cases h
      exact AtH.sw K ⟨rfl, trivial⟩
    · replace h := ite_m c14 h
      refine r_aload_n C d5_bestCancellation_65 rfl ?_
      refine r_iload_n C d5_bestCancellation_66 rfl ?_
      refine r_iload_n C d5_bestCancellation_67 rfl ?_
      refine r_sipush C d5_bestCancellation_68 (by decide +kernel) ?_
      refine r_iload C d5_bestCancellation_71 rfl ?_
      refine r_iload C d5_bestCancellation_73 rfl ?_
      obtain ⟨r16, h15, h⟩ := bd_of h
      refine cV5_i C M d5_bestCancellation_75 l5_213 w5_leastFreeStart (rc_main hN) (ev5_leastFreeStart C.lt hN h15) rfl hc hs ?_
      refine x_istore hx C d5_bestCancellation_78 rfl ?_
      refine r_iload C d5_bestCancellation_80 rfl ?_
      refine r_iconst C d5_bestCancellation_82 ?_
      obtain ⟨y18, h19, h⟩ := bd_of h
      suffices J20 : At G X cells slots 94 [(0, .ref (gB G + 0)), (2, vI x2), (3, vI x3), (4, vI x4), (5, vI x5), (6, vI x6), (7, vI x7)] [vI y18] V by
        replace h := h19
        refine x_icmpne (tgt := 92) C d5_bestCancellation_83 rfl (fun c17 => ?_) (fun c17 => ?_)
        · replace h := ite_p c17 h
          refine r_sipush C d5_bestCancellation_86 (by decide +kernel) ?_
          refine r_goto (tgt := 94) C d5_bestCancellation_89 rfl ?_
          cases h
          exact AtH.sw J20 ⟨rfl, rfl, rfl, rfl, rfl, rfl, rfl, trivial⟩
        · replace h := ite_m c17 h
          refine r_iload C d5_bestCancellation_92 rfl ?_
          cases h
          exact AtH.sw J20 ⟨rfl, rfl, rfl, rfl, rfl, rfl, rfl, trivial⟩
      refine x_istore hx C d5_bestCancellation_94 rfl ?_
      refine r_iload C d5_bestCancellation_96 rfl ?_
      refine r_iconst C d5_bestCancellation_98 ?_
      refine x_icmpeq (tgt := 109) C d5_bestCancellation_99 rfl (fun c21 => ?_) (fun c21 => ?_)
      · replace h := ite_p c21 h
        refine r_iload C d5_bestCancellation_109 rfl ?_
        refine x_istore hx C d5_bestCancellation_111 rfl ?_
        refine r_iload C d5_bestCancellation_113 rfl ?_
        refine x_istore hx C d5_bestCancellation_115 rfl ?_
        refine x_iinc hx C d5_bestCancellation_117 rfl rfl ?_
        refine r_goto (tgt := 53) C d5_bestCancellation_120 rfl ?_
        exact AtH.sw (ih h K) ⟨rfl, rfl, rfl, rfl, rfl, rfl, rfl, trivial⟩
      · replace h := ite_m c21 h
        refine r_iload C d5_bestCancellation_102 rfl ?_
        refine r_iload C d5_bestCancellation_104 rfl ?_
        refine x_icmpge (tgt := 117) C d5_bestCancellation_106 rfl (fun c22 => ?_) (fun c22 => ?_)
        · replace h := ite_p c22 h
          refine x_iinc hx C d5_bestCancellation_117 rfl rfl ?_
          refine r_goto (tgt := 53) C d5_bestCancellation_120 rfl ?_
          exact AtH.sw (ih h K) ⟨rfl, rfl, rfl, rfl, rfl, rfl, rfl, trivial⟩
        · replace h := ite_m c22 h
          refine r_iload C d5_bestCancellation_109 rfl ?_
          refine x_istore hx C d5_bestCancellation_111 rfl ?_
          refine r_iload C d5_bestCancellation_113 rfl ?_
          refine x_istore hx C d5_bestCancellation_115 rfl ?_
          refine x_iinc hx C d5_bestCancellation_117 rfl rfl ?_
          refine r_goto (tgt := 53) C d5_bestCancellation_120 rfl ?_
          exact AtH.sw (ih h K) ⟨rfl, rfl, rfl, rfl, rfl, rfl, rfl, trivial⟩
def f5_bestCancellation (V : VV) (x1 : Int) (x2 : Int) (x3 : Int) : Option (Except String Int × VV) := bd (f5_isShip V x1) (fun r2 => if nrm r2 = 0 then some (.error "java/lang/IndexOutOfBoundsException", V) else bd (f5_isWithin V x3 0 999) (fun r5 => if nrm r5 = 0 then some (.error "java/lang/IllegalArgumentException", V) else bd ((if nrm (V (aP 0) 5) ≤ 0 then some (0) else some (1))) (fun y8 => if nrm y8 = 0 then some (.error "java/util/NoSuchElementException", V) else bd (f5_transitOf V x1) (fun r13 => bd (f5_bestCancellation_L53 V x2 x3 r13 FU (-1) 0 0) (fun y23 => some (.ok y23, V))))))
theorem ev5_bestCancellation {G : GT} {l : Launch} {V : VV} {x1 : Int} {x2 : Int} {x3 : Int} {e : Except String Int} {V1 : VV} (hlt : l.stackTraces = false) (hN : 148 ≤ gN G) (hX : gX G = false) (h : f5_bestCancellation V x1 x2 x3 = some (e, V1)) : EvX G l y5_bestCancellation b5_bestCancellation 10 (some .int) 7 3 18 [.ref (gB G + 0), vI x1, vI x2, vI x3] V (oX e) V1 := by
  refine ev_w hlt (by decide +kernel) rfl rfl (fun X hl hx C M => ?_)
  subst hl
  replace C : Cx G X "ChannelSchedule" b5_bestCancellation := C
  unfold f5_bestCancellation at h
  show At G X 0 0 0 [(0, .ref (gB G + 0)), (1, vI x1), (2, vI x2), (3, vI x3)] [] V
  refine r_aload_n C d5_bestCancellation_0 rfl ?_
  refine r_iload_n C d5_bestCancellation_1 rfl ?_
  obtain ⟨r2, h1, h⟩ := bd_of h
  refine cV1_i C M d5_bestCancellation_2 l5_132 w5_isShip (rc_main hN) (ev5_isShip C.lt hN h1) rfl (Nat.le_of_ble_eq_true rfl) (Nat.le_of_ble_eq_true rfl) ?_
  refine c_req C M d5_bestCancellation_5 l5_136 w5_requireIndex (ev5_requireIndex C.lt hX) rfl (Nat.le_of_ble_eq_true rfl) (Nat.le_of_ble_eq_true rfl) (fun c3 => e_thr (ite_p c3 h)) (fun c3 => ?_)
  replace h := ite_m c3 h
  refine r_iload_n C d5_bestCancellation_8 rfl ?_
  refine r_iconst C d5_bestCancellation_9 ?_
  refine r_sipush C d5_bestCancellation_10 (by decide +kernel) ?_
  obtain ⟨r5, h4, h⟩ := bd_of h
  refine cS3_i C M d5_bestCancellation_13 l5_104 w5_isWithin (ev5_isWithin C.lt hN h4) rfl (Nat.le_of_ble_eq_true rfl) (Nat.le_of_ble_eq_true rfl) ?_
  refine c_req C M d5_bestCancellation_16 l5_108 w5_requireArgument (ev5_requireArgument C.lt hX) rfl (Nat.le_of_ble_eq_true rfl) (Nat.le_of_ble_eq_true rfl) (fun c6 => e_thr (ite_p c6 h)) (fun c6 => ?_)
  replace h := ite_m c6 h
  refine r_aload_n C d5_bestCancellation_19 rfl ?_
  refine g_main_4 C d5_bestCancellation_20 f5_36 hN ?_
  refine g_plan_5 C d5_bestCancellation_23 f5_175 hN p0 ?_
  obtain ⟨y8, h9, h⟩ := bd_of h
  suffices J10 : At G X 2 12 34 [(0, .ref (gB G + 0)), (1, vI x1), (2, vI x2), (3, vI x3)] [vI y8] V by
    replace h := h9
    refine x_ifle (tgt := 33) C d5_bestCancellation_26 rfl (fun c7 => ?_) (fun c7 => ?_)
    · replace h := ite_p c7 h
      refine r_iconst C d5_bestCancellation_33 ?_
      cases h
      exact AtH.sw J10 ⟨rfl, rfl, rfl, rfl, trivial⟩
    · replace h := ite_m c7 h
      refine r_iconst C d5_bestCancellation_29 ?_
      refine r_goto (tgt := 34) C d5_bestCancellation_30 rfl ?_
      cases h
      exact AtH.sw J10 ⟨rfl, rfl, rfl, rfl, trivial⟩
  refine c_req C M d5_bestCancellation_34 l5_172 w5_requireElement (ev5_requireElement C.lt hX) rfl (Nat.le_of_ble_eq_true rfl) (Nat.le_of_ble_eq_true rfl) (fun c11 => e_thr (ite_p c11 h)) (fun c11 => ?_)
  replace h := ite_m c11 h
  refine r_aload_n C d5_bestCancellation_37 rfl ?_
  refine r_iload_n C d5_bestCancellation_38 rfl ?_
  obtain ⟨r13, h12, h⟩ := bd_of h
  refine cV1_i C M d5_bestCancellation_39 l5_139 w5_transitOf (rc_main hN) (ev5_transitOf C.lt hN h12) rfl (Nat.le_of_ble_eq_true rfl) (Nat.le_of_ble_eq_true rfl) ?_
  refine x_istore hx C d5_bestCancellation_42 rfl ?_
  refine r_iconst C d5_bestCancellation_44 ?_
  refine x_istore hx C d5_bestCancellation_45 rfl ?_
  refine r_iconst C d5_bestCancellation_47 ?_
  refine x_istore hx C d5_bestCancellation_48 rfl ?_
  refine r_iconst C d5_bestCancellation_50 ?_
  refine x_istore hx C d5_bestCancellation_51 rfl ?_
  obtain ⟨y23, h24, h⟩ := bd_of h
  refine AtH.sw (lp5_bestCancellation_53 hN hx C M (Nat.le_of_ble_eq_true rfl) (Nat.le_of_ble_eq_true rfl) FU h24 ?_) ⟨rfl, rfl, rfl, rfl, rfl, rfl, rfl, trivial⟩
  refine r_iload C d5_bestCancellation_123 rfl ?_
  exact e_it C M d5_bestCancellation_125 (Nat.le_of_ble_eq_true rfl) (Nat.le_of_ble_eq_true rfl) h
def f5_directionSwitches_L4 (V : VV) : Nat → Int → Int → Option (Int)
  | 0, _, _ => none
  | n + 1, x1, x2 => (if nrm (V (aP 0) 5) ≤ nrm x2 then some x1 else ck ((0:Int) ≤ x2 ∧ x2 < 20) (ck ((0:Int) ≤ (x2 - 1) ∧ (x2 - 1) < 20) ((if nrm (V (aP 0 + 2) (Int.toNat x2)) = nrm (V (aP 0 + 2) (Int.toNat (x2 - 1))) then f5_directionSwitches_L4 V n x1 (x2 + 1) else f5_directionSwitches_L4 V n (x1 + 1) (x2 + 1)))))
theorem lp5_directionSwitches_4 {G : GT} {X : CT} {cells slots : Nat} {V : VV} (hN : 148 ≤ gN G) (hx : xN X = 3) (C : Cx G X "ChannelSchedule" b5_directionSwitches) {o0 : Except String (Option Value)} {V9 : VV} (M : MX G X 0 0 0 (some .int) o0 V9) (hc : cells ≤ 0) (hs : slots ≤ 0) : ∀ (n : Nat) {x1 : Int} {x2 : Int} {e1 : Int}, f5_directionSwitches_L4 V n x1 x2 = some (e1) → At G X cells slots 47 [(1, vI e1)] [] V → At G X cells slots 4 [(0, .ref (gB G + 0)), (1, vI x1), (2, vI x2)] [] V := by
  intro n
  induction n with
  | zero => intro x1 x2 e1 h _; exact nomatch h
  | succ n ih =>
    intro x1 x2 e1 h K
    rw [f5_directionSwitches_L4] at h
    refine r_iload_n C d5_directionSwitches_4 rfl ?_
    refine r_aload_n C d5_directionSwitches_5 rfl ?_
    refine g_main_4 C d5_directionSwitches_6 f5_36 hN ?_
    refine g_plan_5 C d5_directionSwitches_9 f5_175 hN p0 ?_
    refine x_icmpge (tgt := 47) C d5_directionSwitches_12 rfl (fun c1 => ?_) (fun c1 => ?_)
    · replace h := ite_p c1 h
      cases h
      exact AtH.sw K ⟨rfl, trivial⟩
    · replace h := ite_m c1 h
      refine r_aload_n C d5_directionSwitches_15 rfl ?_
      refine g_main_4 C d5_directionSwitches_16 f5_36 hN ?_
      refine g_plan_7 C d5_directionSwitches_19 f5_189 hN p0 ?_
      refine r_iload_n C d5_directionSwitches_22 rfl ?_
      obtain ⟨c2, h⟩ := ck_of h
      refine x_zald C d5_directionSwitches_23 (ra_plan2 hN p0) c2 ?_
      refine r_aload_n C d5_directionSwitches_24 rfl ?_
      refine g_main_4 C d5_directionSwitches_25 f5_36 hN ?_
      refine g_plan_7 C d5_directionSwitches_28 f5_189 hN p0 ?_
      refine r_iload_n C d5_directionSwitches_31 rfl ?_
      refine r_iconst C d5_directionSwitches_32 ?_
      refine r_isub C d5_directionSwitches_33 ?_
      obtain ⟨c3, h⟩ := ck_of h
      refine x_zald C d5_directionSwitches_34 (ra_plan2 hN p0) c3 ?_
      refine x_icmpeq (tgt := 41) C d5_directionSwitches_35 rfl (fun c4 => ?_) (fun c4 => ?_)
      · replace h := ite_p c4 h
        refine x_iinc hx C d5_directionSwitches_41 rfl rfl ?_
        refine r_goto (tgt := 4) C d5_directionSwitches_44 rfl ?_
        exact AtH.sw (ih h K) ⟨rfl, rfl, rfl, trivial⟩
      · replace h := ite_m c4 h
        refine x_iinc hx C d5_directionSwitches_38 rfl rfl ?_
        refine x_iinc hx C d5_directionSwitches_41 rfl rfl ?_
        refine r_goto (tgt := 4) C d5_directionSwitches_44 rfl ?_
        exact AtH.sw (ih h K) ⟨rfl, rfl, rfl, trivial⟩
def f5_directionSwitches (V : VV) : Option Int := bd (f5_directionSwitches_L4 V FU 0 1) (fun y5 => some y5)
theorem ev5_directionSwitches {G : GT} {l : Launch} {V : VV} {r : Int} (hlt : l.stackTraces = false) (hN : 148 ≤ gN G) (h : f5_directionSwitches V = some r) : EvX G l y5_directionSwitches b5_directionSwitches 3 (some .int) 0 0 0 [.ref (gB G + 0)] V (.ok (some (vI r))) V := by
  refine ev_w hlt (by decide +kernel) rfl rfl (fun X hl hx C M => ?_)
  subst hl
  replace C : Cx G X "ChannelSchedule" b5_directionSwitches := C
  unfold f5_directionSwitches at h
  show At G X 0 0 0 [(0, .ref (gB G + 0))] [] V
  refine r_iconst C d5_directionSwitches_0 ?_
  refine x_istore_n hx C d5_directionSwitches_1 rfl ?_
  refine r_iconst C d5_directionSwitches_2 ?_
  refine x_istore_n hx C d5_directionSwitches_3 rfl ?_
  obtain ⟨y5, h6, h⟩ := bd_of h
  refine AtH.sw (lp5_directionSwitches_4 hN hx C M (Nat.le_of_ble_eq_true rfl) (Nat.le_of_ble_eq_true rfl) FU h6 ?_) ⟨rfl, rfl, rfl, trivial⟩
  refine r_iload_n C d5_directionSwitches_47 rfl ?_
  exact e_i C M d5_directionSwitches_48 (Nat.le_of_ble_eq_true rfl) (Nat.le_of_ble_eq_true rfl) h
