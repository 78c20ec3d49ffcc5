/-! walks of the class, 2 (printed by walk.py) -/
def f5_readSetup_L26 : Nat → Int → VV → Option (Int × VV)
  | 0, _, _ => none
  | n + 1, x1, V => (if nrm 10 < nrm x1 then some (1, V) else (if nrm x1 ≤ 0 then bd2 (f5_readShip V) (fun r11 W12 => (if nrm r11 = 0 then some (0, W12) else f5_readSetup_L26 n (x1 + 1) W12)) else (if nrm (V 1 4) = 0 then some (1, V) else bd2 (f5_readShip V) (fun r16 W17 => (if nrm r16 = 0 then some (0, W17) else f5_readSetup_L26 n (x1 + 1) W17)))))
theorem lp5_readSetup_26 {G : GT} {X : CT} {cells slots : Nat} (hN : 148 ≤ gN G) (hx : xN X = 2) (C : Cx G X "ChannelSchedule" b5_readSetup) : ∀ (n : Nat) {x1 : Int} {V : VV} {r : Int} {V1 : VV}, MX G X 7 0 0 (some .boolean) (.ok (some (vI r))) V1 → cells ≤ 0 → slots ≤ 0 → f5_readSetup_L26 n x1 V = some (r, V1) → At G X cells slots 26 [(0, .ref (gB G + 0)), (1, vI x1)] [] V := by
  intro n
  induction n with
  | zero => intro x1 V r V1 _ _ _ h; exact nomatch h
  | succ n ih =>
    intro x1 V r V1 M hc hs h
    rw [f5_readSetup_L26] at h
    refine r_iload_n C d5_readSetup_26 rfl ?_
    refine r_bipush C d5_readSetup_27 (by decide +kernel) ?_
    refine x_icmpgt (tgt := 63) C d5_readSetup_29 rfl (fun c8 => ?_) (fun c8 => ?_)
    · replace h := ite_p c8 h
      refine r_iconst C d5_readSetup_63 ?_
      exact e_zv C M d5_readSetup_64 hc hs (Or.inr rfl) h
    · replace h := ite_m c8 h
      refine r_iload_n C d5_readSetup_32 rfl ?_
      refine x_ifle (tgt := 48) C d5_readSetup_33 rfl (fun c9 => ?_) (fun c9 => ?_)
      · replace h := ite_p c9 h
        refine r_aload_n C d5_readSetup_48 rfl ?_
        obtain ⟨r11, W12, h10, h⟩ := bd2_of h
        refine cV0_i C M d5_readSetup_49 l5_388 w5_readShip (rc_main hN) (ev5_readShip C.lt hN h10) rfl hc hs ?_
        refine x_ifne (tgt := 57) C d5_readSetup_52 rfl (fun c13 => ?_) (fun c13 => ?_)
        · replace h := ite_p c13 h
          refine r_iconst C d5_readSetup_55 ?_
          exact e_zv C M d5_readSetup_56 hc hs (Or.inl rfl) h
        · replace h := ite_m c13 h
          refine x_iinc hx C d5_readSetup_57 rfl rfl ?_
          refine r_goto (tgt := 26) C d5_readSetup_60 rfl ?_
          exact AtH.sw (ih M hc hs h) ⟨rfl, rfl, trivial⟩
      · replace h := ite_m c9 h
        refine r_aload_n C d5_readSetup_36 rfl ?_
        refine g_main_0 C d5_readSetup_37 f5_10 hN ?_
        refine g_input_4 C d5_readSetup_40 f5_385 hN ?_
        refine x_ifne (tgt := 48) C d5_readSetup_43 rfl (fun c14 => ?_) (fun c14 => ?_)
        · replace h := ite_p c14 h
          refine r_iconst C d5_readSetup_46 ?_
          exact e_zv C M d5_readSetup_47 hc hs (Or.inr rfl) h
        · replace h := ite_m c14 h
          refine r_aload_n C d5_readSetup_48 rfl ?_
          obtain ⟨r16, W17, h15, h⟩ := bd2_of h
          refine cV0_i C M d5_readSetup_49 l5_388 w5_readShip (rc_main hN) (ev5_readShip C.lt hN h15) rfl hc hs ?_
          refine x_ifne (tgt := 57) C d5_readSetup_52 rfl (fun c18 => ?_) (fun c18 => ?_)
          · replace h := ite_p c18 h
            refine r_iconst C d5_readSetup_55 ?_
            exact e_zv C M d5_readSetup_56 hc hs (Or.inl rfl) h
          · replace h := ite_m c18 h
            refine x_iinc hx C d5_readSetup_57 rfl rfl ?_
            refine r_goto (tgt := 26) C d5_readSetup_60 rfl ?_
            exact AtH.sw (ih M hc hs h) ⟨rfl, rfl, trivial⟩
def f5_readSetup (V : VV) : Option (Int × VV) := bd (f0_startReading V) (fun W2 => ck ((W2 0 3).toNat < 2) (bd2 (f5_readSettings (up2 W2 (aS ((W2 0 3).toNat)) 3 0)) (fun r5 W6 => (if nrm r5 = 0 then some (0, W6) else f5_readSetup_L26 FU 0 W6))))
theorem ev5_readSetup {G : GT} {l : Launch} {V : VV} {r : Int} {V1 : VV} (hlt : l.stackTraces = false) (hN : 148 ≤ gN G) (h : f5_readSetup V = some (r, V1)) : EvX G l y5_readSetup b5_readSetup 2 (some .boolean) 7 0 0 [.ref (gB G + 0)] V (.ok (some (vI r))) V1 := by
  refine ev_w hlt (by decide +kernel) rfl rfl (fun X hl hx C M => ?_)
  subst hl
  replace C : Cx G X "ChannelSchedule" b5_readSetup := C
  unfold f5_readSetup at h
  show At G X 0 0 0 [(0, .ref (gB G + 0))] [] V
  refine r_aload_n C d5_readSetup_0 rfl ?_
  refine g_main_0 C d5_readSetup_1 f5_10 hN ?_
  obtain ⟨W2, h1, h⟩ := bd_of h
  refine cV0_v C M d5_readSetup_4 l5_379 w0_startReading (rc_input hN) (ev0_startReading C.lt hN h1) rfl (Nat.le_of_ble_eq_true rfl) (Nat.le_of_ble_eq_true rfl) ?_
  refine r_aload_n C d5_readSetup_7 rfl ?_
  refine g_main_3 C d5_readSetup_8 f5_30 hN ?_
  obtain ⟨c3, h⟩ := ck_of h
  refine r_iconst C d5_readSetup_11 ?_
  refine p_setup_3 C d5_readSetup_12 f5_111 hN c3 ?_
  refine r_aload_n C d5_readSetup_15 rfl ?_
  obtain ⟨r5, W6, h4, h⟩ := bd2_of h
  refine cV0_i C M d5_readSetup_16 l5_382 w5_readSettings (rc_main hN) (ev5_readSettings C.lt hN h4) rfl (Nat.le_of_ble_eq_true rfl) (Nat.le_of_ble_eq_true rfl) ?_
  refine x_ifne (tgt := 24) C d5_readSetup_19 rfl (fun c7 => ?_) (fun c7 => ?_)
  · replace h := ite_p c7 h
    refine r_iconst C d5_readSetup_22 ?_
    exact e_zv C M d5_readSetup_23 (Nat.le_of_ble_eq_true rfl) (Nat.le_of_ble_eq_true rfl) (Or.inl rfl) h
  · replace h := ite_m c7 h
    refine r_iconst C d5_readSetup_24 ?_
    refine x_istore_n hx C d5_readSetup_25 rfl ?_
    exact AtH.sw (lp5_readSetup_26 hN hx C FU M (Nat.le_of_ble_eq_true rfl) (Nat.le_of_ble_eq_true rfl) h) ⟨rfl, rfl, trivial⟩
def f5_startWithDraft_L39 : Nat → Int → VV → Option (VV)
  | 0, _, _ => none
  | n + 1, x2, V => (if nrm 2 ≤ nrm x2 then some V else ck ((0:Int) ≤ x2 ∧ x2 < 2) (f5_startWithDraft_L39 n (x2 + 1) (up2 V 73 (Int.toNat x2) 0)))
theorem lp5_startWithDraft_39 {G : GT} {X : CT} {cells slots : Nat} (hN : 148 ≤ gN G) (hx : xN X = 3) (C : Cx G X "ChannelSchedule" b5_startWithDraft) {o0 : Except String (Option Value)} {V9 : VV} (M : MX G X 1 0 0 none o0 V9) (hc : cells ≤ 0) (hs : slots ≤ 0) : ∀ (n : Nat) {x2 : Int} {V : VV} {W0 : VV}, f5_startWithDraft_L39 n x2 V = some (W0) → At G X cells slots 57 [] [] W0 → At G X cells slots 39 [(0, .ref (gB G + 0)), (2, vI x2)] [] V := by
  intro n
  induction n with
  | zero => intro x2 V W0 h _; exact nomatch h
  | succ n ih =>
    intro x2 V W0 h K
    rw [f5_startWithDraft_L39] at h
    refine r_iload_n C d5_startWithDraft_39 rfl ?_
    refine r_iconst C d5_startWithDraft_40 ?_
    refine x_icmpge (tgt := 57) C d5_startWithDraft_41 rfl (fun c6 => ?_) (fun c6 => ?_)
    · replace h := ite_p c6 h
      cases h
      exact AtH.sw K trivial
    · replace h := ite_m c6 h
      refine r_aload_n C d5_startWithDraft_44 rfl ?_
      refine g_main_10 C d5_startWithDraft_45 f5_57 hN ?_
      refine r_iload_n C d5_startWithDraft_48 rfl ?_
      refine r_iconst C d5_startWithDraft_49 ?_
      obtain ⟨c7, h⟩ := ck_of h
      refine x_zast C d5_startWithDraft_50 (ra_isSaved hN) c7 (Or.inl rfl) ?_
      refine x_iinc hx C d5_startWithDraft_51 rfl rfl ?_
      refine r_goto (tgt := 39) C d5_startWithDraft_54 rfl ?_
      exact AtH.sw (ih h K) ⟨rfl, rfl, trivial⟩
def f5_startWithDraft (V : VV) : Option VV := ck ((V 0 2).toNat < 2) (ck ((V 0 3).toNat < 2) (ck (((up2 (up2 V 0 2 (((V 0 3).toNat : Nat) : Int)) 0 3 (((V 0 2).toNat : Nat) : Int)) 0 2).toNat < 2) (bd (f1_startAnew (up2 (up2 V 0 2 (((V 0 3).toNat : Nat) : Int)) 0 3 (((V 0 2).toNat : Nat) : Int)) 0 ((up2 (up2 V 0 2 (((V 0 3).toNat : Nat) : Int)) 0 3 (((V 0 2).toNat : Nat) : Int)) (aS (((up2 (up2 V 0 2 (((V 0 3).toNat : Nat) : Int)) 0 3 (((V 0 2).toNat : Nat) : Int)) 0 2).toNat)) 2)) (fun W5 => bd (f5_startWithDraft_L39 FU 0 (up2 W5 0 8 0)) (fun W8 => some W8)))))
theorem ev5_startWithDraft {G : GT} {l : Launch} {V : VV} {V1 : VV} (hlt : l.stackTraces = false) (hN : 148 ≤ gN G) (h : f5_startWithDraft V = some V1) : EvX G l y5_startWithDraft b5_startWithDraft 3 none 1 0 0 [.ref (gB G + 0)] V (.ok none) V1 := by
  refine ev_w hlt (by decide +kernel) rfl rfl (fun X hl hx C M => ?_)
  subst hl
  replace C : Cx G X "ChannelSchedule" b5_startWithDraft := C
  unfold f5_startWithDraft at h
  show At G X 0 0 0 [(0, .ref (gB G + 0))] [] V
  refine r_aload_n C d5_startWithDraft_0 rfl ?_
  refine g_main_2 C d5_startWithDraft_1 f5_26 hN ?_
  obtain ⟨c1, h⟩ := ck_of h
  refine x_astore_n hx C d5_startWithDraft_4 rfl ?_
  refine r_aload_n C d5_startWithDraft_5 rfl ?_
  refine r_aload_n C d5_startWithDraft_6 rfl ?_
  refine g_main_3 C d5_startWithDraft_7 f5_30 hN ?_
  obtain ⟨c2, h⟩ := ck_of h
  refine p_main_2 C d5_startWithDraft_10 f5_26 hN ?_
  refine r_aload_n C d5_startWithDraft_13 rfl ?_
  refine r_aload_n C d5_startWithDraft_14 rfl ?_
  refine p_main_3 C d5_startWithDraft_15 f5_30 hN ?_
  refine r_aload_n C d5_startWithDraft_18 rfl ?_
  refine g_main_4 C d5_startWithDraft_19 f5_36 hN ?_
  refine r_aload_n C d5_startWithDraft_22 rfl ?_
  refine g_main_2 C d5_startWithDraft_23 f5_26 hN ?_
  obtain ⟨c3, h⟩ := ck_of h
  refine g_setup_2 C d5_startWithDraft_26 f5_403 hN c3 ?_
  obtain ⟨W5, h4, h⟩ := bd_of h
  refine cV1_v C M d5_startWithDraft_29 l5_432 w1_startAnew (rc_plan hN p0) (ev1_startAnew C.lt hN h4) rfl (Nat.le_of_ble_eq_true rfl) (Nat.le_of_ble_eq_true rfl) ?_
  refine r_aload_n C d5_startWithDraft_32 rfl ?_
  refine r_iconst C d5_startWithDraft_33 ?_
  refine p_main_8 C d5_startWithDraft_34 f5_51 hN ?_
  refine r_iconst C d5_startWithDraft_37 ?_
  refine x_istore_n hx C d5_startWithDraft_38 rfl ?_
  obtain ⟨W8, h9, h⟩ := bd_of h
  refine AtH.sw (lp5_startWithDraft_39 hN hx C M (Nat.le_of_ble_eq_true rfl) (Nat.le_of_ble_eq_true rfl) FU h9 ?_) ⟨rfl, rfl, trivial⟩
  exact e_v C M d5_startWithDraft_57 (Nat.le_of_ble_eq_true rfl) (Nat.le_of_ble_eq_true rfl) h
def f5_load (V : VV) : Option (Int × VV) := bd2 (f5_readSetup V) (fun r2 W3 => ck (¬ nrm r2 = 0) (bd (f5_startWithDraft (up2 W3 1 1 0)) (fun W6 => ck ((W6 0 2).toNat < 2) (some (W6 (aS ((W6 0 2).toNat)) 3, W6)))))
theorem ev5_load {G : GT} {l : Launch} {V : VV} {r : Int} {V1 : VV} (hlt : l.stackTraces = false) (hN : 148 ≤ gN G) (h : f5_load V = some (r, V1)) : EvX G l y5_load b5_load 2 (some .int) 8 0 0 [.ref (gB G + 0)] V (.ok (some (vI r))) V1 := by
  refine ev_w hlt (by decide +kernel) rfl rfl (fun X hl hx C M => ?_)
  subst hl
  replace C : Cx G X "ChannelSchedule" b5_load := C
  unfold f5_load at h
  show At G X 0 0 0 [(0, .ref (gB G + 0))] [] V
  refine r_aload_n C d5_load_0 rfl ?_
  obtain ⟨r2, W3, h1, h⟩ := bd2_of h
  refine cV0_i C M d5_load_1 l5_88 w5_readSetup (rc_main hN) (ev5_readSetup C.lt hN h1) rfl (Nat.le_of_ble_eq_true rfl) (Nat.le_of_ble_eq_true rfl) ?_
  refine x_istore_n hx C d5_load_4 rfl ?_
  refine r_aload_n C d5_load_5 rfl ?_
  refine g_main_0 C d5_load_6 f5_10 hN ?_
  refine r_iconst C d5_load_9 ?_
  refine p_input_1 C d5_load_10 f5_95 hN ?_
  refine r_iload_n C d5_load_13 rfl ?_
  obtain ⟨c4, h⟩ := ck_of h
  refine cS1_v C M d5_load_14 l5_108 w5_requireArgument (ev5_requireArgument C.lt c4) rfl (Nat.le_of_ble_eq_true rfl) (Nat.le_of_ble_eq_true rfl) ?_
  refine r_aload_n C d5_load_17 rfl ?_
  obtain ⟨W6, h5, h⟩ := bd_of h
  refine cV0_v C M d5_load_18 l5_92 w5_startWithDraft (rc_main hN) (ev5_startWithDraft C.lt hN h5) rfl (Nat.le_of_ble_eq_true rfl) (Nat.le_of_ble_eq_true rfl) ?_
  refine r_aload_n C d5_load_21 rfl ?_
  refine g_main_2 C d5_load_22 f5_26 hN ?_
  obtain ⟨c7, h⟩ := ck_of h
  refine g_setup_3 C d5_load_25 f5_111 hN c7 ?_
  exact e_iv C M d5_load_28 (Nat.le_of_ble_eq_true rfl) (Nat.le_of_ble_eq_true rfl) h
def f5_shipCount (V : VV) : Option Int := ck ((V 0 2).toNat < 2) (some (V (aS ((V 0 2).toNat)) 3))
theorem ev5_shipCount {G : GT} {l : Launch} {V : VV} {r : Int} (hlt : l.stackTraces = false) (hN : 148 ≤ gN G) (h : f5_shipCount V = some r) : EvX G l y5_shipCount b5_shipCount 1 (some .int) 0 0 0 [.ref (gB G + 0)] V (.ok (some (vI r))) V := by
  refine ev_w hlt (by decide +kernel) rfl rfl (fun X hl hx C M => ?_)
  subst hl
  replace C : Cx G X "ChannelSchedule" b5_shipCount := C
  unfold f5_shipCount at h
  show At G X 0 0 0 [(0, .ref (gB G + 0))] [] V
  refine r_aload_n C d5_shipCount_0 rfl ?_
  refine g_main_2 C d5_shipCount_1 f5_26 hN ?_
  obtain ⟨c1, h⟩ := ck_of h
  refine g_setup_3 C d5_shipCount_4 f5_111 hN c1 ?_
  exact e_i C M d5_shipCount_7 (Nat.le_of_ble_eq_true rfl) (Nat.le_of_ble_eq_true rfl) h
def f5_headway (V : VV) : Option Int := ck ((V 0 2).toNat < 2) (some (V (aS ((V 0 2).toNat)) 0))
theorem ev5_headway {G : GT} {l : Launch} {V : VV} {r : Int} (hlt : l.stackTraces = false) (hN : 148 ≤ gN G) (h : f5_headway V = some r) : EvX G l y5_headway b5_headway 1 (some .int) 0 0 0 [.ref (gB G + 0)] V (.ok (some (vI r))) V := by
  refine ev_w hlt (by decide +kernel) rfl rfl (fun X hl hx C M => ?_)
  subst hl
  replace C : Cx G X "ChannelSchedule" b5_headway := C
  unfold f5_headway at h
  show At G X 0 0 0 [(0, .ref (gB G + 0))] [] V
  refine r_aload_n C d5_headway_0 rfl ?_
  refine g_main_2 C d5_headway_1 f5_26 hN ?_
  obtain ⟨c1, h⟩ := ck_of h
  refine g_setup_0 C d5_headway_4 f5_120 hN c1 ?_
  exact e_i C M d5_headway_7 (Nat.le_of_ble_eq_true rfl) (Nat.le_of_ble_eq_true rfl) h
def f5_clearance (V : VV) : Option Int := ck ((V 0 2).toNat < 2) (some (V (aS ((V 0 2).toNat)) 1))
theorem ev5_clearance {G : GT} {l : Launch} {V : VV} {r : Int} (hlt : l.stackTraces = false) (hN : 148 ≤ gN G) (h : f5_clearance V = some r) : EvX G l y5_clearance b5_clearance 1 (some .int) 0 0 0 [.ref (gB G + 0)] V (.ok (some (vI r))) V := by
  refine ev_w hlt (by decide +kernel) rfl rfl (fun X hl hx C M => ?_)
  subst hl
  replace C : Cx G X "ChannelSchedule" b5_clearance := C
  unfold f5_clearance at h
  show At G X 0 0 0 [(0, .ref (gB G + 0))] [] V
  refine r_aload_n C d5_clearance_0 rfl ?_
  refine g_main_2 C d5_clearance_1 f5_26 hN ?_
  obtain ⟨c1, h⟩ := ck_of h
  refine g_setup_1 C d5_clearance_4 f5_123 hN c1 ?_
  exact e_i C M d5_clearance_7 (Nat.le_of_ble_eq_true rfl) (Nat.le_of_ble_eq_true rfl) h
def f5_minute (V : VV) : Option Int := some (V (aP 0) 1)
theorem ev5_minute {G : GT} {l : Launch} {V : VV} {r : Int} (hlt : l.stackTraces = false) (hN : 148 ≤ gN G) (h : f5_minute V = some r) : EvX G l y5_minute b5_minute 1 (some .int) 0 0 0 [.ref (gB G + 0)] V (.ok (some (vI r))) V := by
  refine ev_w hlt (by decide +kernel) rfl rfl (fun X hl hx C M => ?_)
  subst hl
  replace C : Cx G X "ChannelSchedule" b5_minute := C
  unfold f5_minute at h
  show At G X 0 0 0 [(0, .ref (gB G + 0))] [] V
  refine r_aload_n C d5_minute_0 rfl ?_
  refine g_main_4 C d5_minute_1 f5_36 hN ?_
  refine g_plan_1 C d5_minute_4 f5_129 hN p0 ?_
  exact e_i C M d5_minute_7 (Nat.le_of_ble_eq_true rfl) (Nat.le_of_ble_eq_true rfl) h
def f5_isNumberBelow (V : VV) (x0 : Int) (x1 : Int) : Option Int := (if nrm x0 < 0 then some 0 else (if nrm x1 ≤ nrm x0 then some 0 else some 1))
theorem ev5_isNumberBelow {G : GT} {l : Launch} {V : VV} {x0 : Int} {x1 : Int} {r : Int} (hlt : l.stackTraces = false) (hN : 148 ≤ gN G) (h : f5_isNumberBelow V x0 x1 = some r) : EvX G l y5_isNumberBelow b5_isNumberBelow 2 (some .boolean) 0 0 0 [vI x0, vI x1] V (.ok (some (vI r))) V := by
  refine ev_w hlt (by decide +kernel) rfl rfl (fun X hl hx C M => ?_)
  subst hl
  replace C : Cx G X "ChannelSchedule" b5_isNumberBelow := C
  unfold f5_isNumberBelow at h
  show At G X 0 0 0 [(0, vI x0), (1, vI x1)] [] V
  refine r_iload_n C d5_isNumberBelow_0 rfl ?_
  refine x_iflt (tgt := 13) C d5_isNumberBelow_1 rfl (fun c1 => ?_) (fun c1 => ?_)
  · replace h := ite_p c1 h
    refine r_iconst C d5_isNumberBelow_13 ?_
    exact e_z C M d5_isNumberBelow_14 (Nat.le_of_ble_eq_true rfl) (Nat.le_of_ble_eq_true rfl) (Or.inl rfl) h
  · replace h := ite_m c1 h
    refine r_iload_n C d5_isNumberBelow_4 rfl ?_
    refine r_iload_n C d5_isNumberBelow_5 rfl ?_
    refine x_icmpge (tgt := 13) C d5_isNumberBelow_6 rfl (fun c2 => ?_) (fun c2 => ?_)
    · replace h := ite_p c2 h
      refine r_iconst C d5_isNumberBelow_13 ?_
      exact e_z C M d5_isNumberBelow_14 (Nat.le_of_ble_eq_true rfl) (Nat.le_of_ble_eq_true rfl) (Or.inl rfl) h
    · replace h := ite_m c2 h
      refine r_iconst C d5_isNumberBelow_9 ?_
      refine r_goto (tgt := 14) C d5_isNumberBelow_10 rfl ?_
      exact e_z C M d5_isNumberBelow_14 (Nat.le_of_ble_eq_true rfl) (Nat.le_of_ble_eq_true rfl) (Or.inr rfl) h
def f5_isShip (V : VV) (x1 : Int) : Option Int := ck ((V 0 2).toNat < 2) (bd (f5_isNumberBelow V x1 (V (aS ((V 0 2).toNat)) 3)) (fun r3 => ck (r3 = 0 ∨ r3 = 1) (some r3)))
theorem ev5_isShip {G : GT} {l : Launch} {V : VV} {x1 : Int} {r : Int} (hlt : l.stackTraces = false) (hN : 148 ≤ gN G) (h : f5_isShip V x1 = some r) : EvX G l y5_isShip b5_isShip 2 (some .boolean) 1 0 0 [.ref (gB G + 0), vI x1] V (.ok (some (vI r))) V := by
  refine ev_w hlt (by decide +kernel) rfl rfl (fun X hl hx C M => ?_)
  subst hl
  replace C : Cx G X "ChannelSchedule" b5_isShip := C
  unfold f5_isShip at h
  show At G X 0 0 0 [(0, .ref (gB G + 0)), (1, vI x1)] [] V
  refine r_iload_n C d5_isShip_0 rfl ?_
  refine r_aload_n C d5_isShip_1 rfl ?_
  refine g_main_2 C d5_isShip_2 f5_26 hN ?_
  obtain ⟨c1, h⟩ := ck_of h
  refine g_setup_3 C d5_isShip_5 f5_111 hN c1 ?_
  obtain ⟨r3, h2, h⟩ := bd_of h
  refine cS2_i C M d5_isShip_8 l5_158 w5_isNumberBelow (ev5_isNumberBelow C.lt hN h2) rfl (Nat.le_of_ble_eq_true rfl) (Nat.le_of_ble_eq_true rfl) ?_
  obtain ⟨c4, h⟩ := ck_of h
  exact e_z C M d5_isShip_11 (Nat.le_of_ble_eq_true rfl) (Nat.le_of_ble_eq_true rfl) c4 h
def f5_transitOf (V : VV) (x1 : Int) : Option Int := ck ((V 0 2).toNat < 2) (ck ((0:Int) ≤ x1 ∧ x1 < 10) ((if nrm ((V (aP 0) 0) - (V (aS ((V 0 2).toNat) + (2 + 2 * (Int.toNat x1))) 3)) ≤ 0 then some (V (aS ((V 0 2).toNat) + (2 + 2 * (Int.toNat x1))) 2) else some ((V (aS ((V 0 2).toNat) + (2 + 2 * (Int.toNat x1))) 2) + (2 * ((V (aP 0) 0) - (V (aS ((V 0 2).toNat) + (2 + 2 * (Int.toNat x1))) 3)))))))
theorem ev5_transitOf {G : GT} {l : Launch} {V : VV} {x1 : Int} {r : Int} (hlt : l.stackTraces = false) (hN : 148 ≤ gN G) (h : f5_transitOf V x1 = some r) : EvX G l y5_transitOf b5_transitOf 4 (some .int) 0 0 0 [.ref (gB G + 0), vI x1] V (.ok (some (vI r))) V := by
  refine ev_w hlt (by decide +kernel) rfl rfl (fun X hl hx C M => ?_)
  subst hl
  replace C : Cx G X "ChannelSchedule" b5_transitOf := C
  unfold f5_transitOf at h
  show At G X 0 0 0 [(0, .ref (gB G + 0)), (1, vI x1)] [] V
  refine r_aload_n C d5_transitOf_0 rfl ?_
  refine g_main_2 C d5_transitOf_1 f5_26 hN ?_
  obtain ⟨c1, h⟩ := ck_of h
  refine g_setup_4 C d5_transitOf_4 f5_143 hN c1 ?_
  refine r_iload_n C d5_transitOf_7 rfl ?_
  obtain ⟨c2, h⟩ := ck_of h
  refine x_ships C d5_transitOf_8 hN c1 c2 ?_
  refine x_astore_n hx C d5_transitOf_9 rfl ?_
  refine r_aload_n C d5_transitOf_10 rfl ?_
  refine g_main_4 C d5_transitOf_11 f5_36 hN ?_
  refine g_plan_0 C d5_transitOf_14 f5_126 hN p0 ?_
  refine r_aload_n C d5_transitOf_17 rfl ?_
  refine g_ship_3 C d5_transitOf_18 f5_147 hN c1 (by omega : Int.toNat x1 < 10) ?_
  refine r_isub C d5_transitOf_21 ?_
  refine x_istore_n hx C d5_transitOf_22 rfl ?_
  refine r_iload_n C d5_transitOf_23 rfl ?_
  refine x_ifle (tgt := 38) C d5_transitOf_24 rfl (fun c3 => ?_) (fun c3 => ?_)
  · replace h := ite_p c3 h
    refine r_aload_n C d5_transitOf_38 rfl ?_
    refine g_ship_2 C d5_transitOf_39 f5_348 hN c1 (by omega : Int.toNat x1 < 10) ?_
    exact e_i C M d5_transitOf_42 (Nat.le_of_ble_eq_true rfl) (Nat.le_of_ble_eq_true rfl) h
  · replace h := ite_m c3 h
    refine r_aload_n C d5_transitOf_27 rfl ?_
    refine g_ship_2 C d5_transitOf_28 f5_348 hN c1 (by omega : Int.toNat x1 < 10) ?_
    refine r_iconst C d5_transitOf_31 ?_
    refine r_iload_n C d5_transitOf_32 rfl ?_
    refine r_imul C d5_transitOf_33 ?_
    refine r_iadd C d5_transitOf_34 ?_
    refine r_goto (tgt := 42) C d5_transitOf_35 rfl ?_
    exact e_i C M d5_transitOf_42 (Nat.le_of_ble_eq_true rfl) (Nat.le_of_ble_eq_true rfl) h
def f5_transitTime (V : VV) (x1 : Int) : Option Int := bd (f5_isShip V x1) (fun r2 => ck (¬ nrm r2 = 0) (bd (f5_transitOf V x1) (fun r5 => some r5)))
theorem ev5_transitTime {G : GT} {l : Launch} {V : VV} {x1 : Int} {r : Int} (hlt : l.stackTraces = false) (hN : 148 ≤ gN G) (h : f5_transitTime V x1 = some r) : EvX G l y5_transitTime b5_transitTime 2 (some .int) 2 0 0 [.ref (gB G + 0), vI x1] V (.ok (some (vI r))) V := by
  refine ev_w hlt (by decide +kernel) rfl rfl (fun X hl hx C M => ?_)
  subst hl
  replace C : Cx G X "ChannelSchedule" b5_transitTime := C
  unfold f5_transitTime at h
  show At G X 0 0 0 [(0, .ref (gB G + 0)), (1, vI x1)] [] V
  refine r_aload_n C d5_transitTime_0 rfl ?_
  refine r_iload_n C d5_transitTime_1 rfl ?_
  obtain ⟨r2, h1, h⟩ := bd_of h
  refine cV1_i C M d5_transitTime_2 l5_132 w5_isShip (rc_main hN) (ev5_isShip C.lt hN h1) rfl (Nat.le_of_ble_eq_true rfl) (Nat.le_of_ble_eq_true rfl) ?_
  obtain ⟨c3, h⟩ := ck_of h
  refine cS1_v C M d5_transitTime_5 l5_136 w5_requireIndex (ev5_requireIndex C.lt c3) rfl (Nat.le_of_ble_eq_true rfl) (Nat.le_of_ble_eq_true rfl) ?_
  refine r_aload_n C d5_transitTime_8 rfl ?_
  refine r_iload_n C d5_transitTime_9 rfl ?_
  obtain ⟨r5, h4, h⟩ := bd_of h
  refine cV1_i C M d5_transitTime_10 l5_139 w5_transitOf (rc_main hN) (ev5_transitOf C.lt hN h4) rfl (Nat.le_of_ble_eq_true rfl) (Nat.le_of_ble_eq_true rfl) ?_
  exact e_i C M d5_transitTime_13 (Nat.le_of_ble_eq_true rfl) (Nat.le_of_ble_eq_true rfl) h
def f5_bookingCount (V : VV) : Option Int := some (V (aP 0) 5)
theorem ev5_bookingCount {G : GT} {l : Launch} {V : VV} {r : Int} (hlt : l.stackTraces = false) (hN : 148 ≤ gN G) (h : f5_bookingCount V = some r) : EvX G l y5_bookingCount b5_bookingCount 1 (some .int) 0 0 0 [.ref (gB G + 0)] V (.ok (some (vI r))) V := by
  refine ev_w hlt (by decide +kernel) rfl rfl (fun X hl hx C M => ?_)
  subst hl
  replace C : Cx G X "ChannelSchedule" b5_bookingCount := C
  unfold f5_bookingCount at h
  show At G X 0 0 0 [(0, .ref (gB G + 0))] [] V
  refine r_aload_n C d5_bookingCount_0 rfl ?_
  refine g_main_4 C d5_bookingCount_1 f5_36 hN ?_
  refine g_plan_5 C d5_bookingCount_4 f5_175 hN p0 ?_
  exact e_i C M d5_bookingCount_7 (Nat.le_of_ble_eq_true rfl) (Nat.le_of_ble_eq_true rfl) h
def f5_isBooking (V : VV) (x1 : Int) : Option Int := bd (f5_isNumberBelow V x1 (V (aP 0) 5)) (fun r2 => ck (r2 = 0 ∨ r2 = 1) (some r2))
theorem ev5_isBooking {G : GT} {l : Launch} {V : VV} {x1 : Int} {r : Int} (hlt : l.stackTraces = false) (hN : 148 ≤ gN G) (h : f5_isBooking V x1 = some r) : EvX G l y5_isBooking b5_isBooking 2 (some .boolean) 1 0 0 [.ref (gB G + 0), vI x1] V (.ok (some (vI r))) V := by
  refine ev_w hlt (by decide +kernel) rfl rfl (fun X hl hx C M => ?_)
  subst hl
  replace C : Cx G X "ChannelSchedule" b5_isBooking := C
  unfold f5_isBooking at h
  show At G X 0 0 0 [(0, .ref (gB G + 0)), (1, vI x1)] [] V
  refine r_iload_n C d5_isBooking_0 rfl ?_
  refine r_aload_n C d5_isBooking_1 rfl ?_
  refine g_main_4 C d5_isBooking_2 f5_36 hN ?_
  refine g_plan_5 C d5_isBooking_5 f5_175 hN p0 ?_
  obtain ⟨r2, h1, h⟩ := bd_of h
  refine cS2_i C M d5_isBooking_8 l5_158 w5_isNumberBelow (ev5_isNumberBelow C.lt hN h1) rfl (Nat.le_of_ble_eq_true rfl) (Nat.le_of_ble_eq_true rfl) ?_
  obtain ⟨c3, h⟩ := ck_of h
  exact e_z C M d5_isBooking_11 (Nat.le_of_ble_eq_true rfl) (Nat.le_of_ble_eq_true rfl) c3 h
def f5_bookedShip (V : VV) (x1 : Int) : Option Int := bd (f5_isBooking V x1) (fun r2 => ck (¬ nrm r2 = 0) (ck ((0:Int) ≤ x1 ∧ x1 < 20) (some (V (aP 0 + 1) (Int.toNat x1)))))
theorem ev5_bookedShip {G : GT} {l : Launch} {V : VV} {x1 : Int} {r : Int} (hlt : l.stackTraces = false) (hN : 148 ≤ gN G) (h : f5_bookedShip V x1 = some r) : EvX G l y5_bookedShip b5_bookedShip 2 (some .int) 2 0 0 [.ref (gB G + 0), vI x1] V (.ok (some (vI r))) V := by
  refine ev_w hlt (by decide +kernel) rfl rfl (fun X hl hx C M => ?_)
  subst hl
  replace C : Cx G X "ChannelSchedule" b5_bookedShip := C
  unfold f5_bookedShip at h
  show At G X 0 0 0 [(0, .ref (gB G + 0)), (1, vI x1)] [] V
  refine r_aload_n C d5_bookedShip_0 rfl ?_
  refine r_iload_n C d5_bookedShip_1 rfl ?_
  obtain ⟨r2, h1, h⟩ := bd_of h
  refine cV1_i C M d5_bookedShip_2 l5_178 w5_isBooking (rc_main hN) (ev5_isBooking C.lt hN h1) rfl (Nat.le_of_ble_eq_true rfl) (Nat.le_of_ble_eq_true rfl) ?_
  obtain ⟨c3, h⟩ := ck_of h
  refine cS1_v C M d5_bookedShip_5 l5_136 w5_requireIndex (ev5_requireIndex C.lt c3) rfl (Nat.le_of_ble_eq_true rfl) (Nat.le_of_ble_eq_true rfl) ?_
  refine r_aload_n C d5_bookedShip_8 rfl ?_
  refine g_main_4 C d5_bookedShip_9 f5_36 hN ?_
  refine g_plan_6 C d5_bookedShip_12 f5_181 hN p0 ?_
  refine r_iload_n C d5_bookedShip_15 rfl ?_
  obtain ⟨c4, h⟩ := ck_of h
  refine x_iald C d5_bookedShip_16 (ra_plan1 hN p0) c4 ?_
  exact e_i C M d5_bookedShip_17 (Nat.le_of_ble_eq_true rfl) (Nat.le_of_ble_eq_true rfl) h
def f5_startMinute (V : VV) (x1 : Int) : Option Int := bd (f5_isBooking V x1) (fun r2 => ck (¬ nrm r2 = 0) (ck ((0:Int) ≤ x1 ∧ x1 < 20) (some (V (aP 0 + 3) (Int.toNat x1)))))
theorem ev5_startMinute {G : GT} {l : Launch} {V : VV} {x1 : Int} {r : Int} (hlt : l.stackTraces = false) (hN : 148 ≤ gN G) (h : f5_startMinute V x1 = some r) : EvX G l y5_startMinute b5_startMinute 2 (some .int) 2 0 0 [.ref (gB G + 0), vI x1] V (.ok (some (vI r))) V := by
  refine ev_w hlt (by decide +kernel) rfl rfl (fun X hl hx C M => ?_)
  subst hl
  replace C : Cx G X "ChannelSchedule" b5_startMinute := C
  unfold f5_startMinute at h
  show At G X 0 0 0 [(0, .ref (gB G + 0)), (1, vI x1)] [] V
  refine r_aload_n C d5_startMinute_0 rfl ?_
  refine r_iload_n C d5_startMinute_1 rfl ?_
  obtain ⟨r2, h1, h⟩ := bd_of h
  refine cV1_i C M d5_startMinute_2 l5_178 w5_isBooking (rc_main hN) (ev5_isBooking C.lt hN h1) rfl (Nat.le_of_ble_eq_true rfl) (Nat.le_of_ble_eq_true rfl) ?_
  obtain ⟨c3, h⟩ := ck_of h
  refine cS1_v C M d5_startMinute_5 l5_136 w5_requireIndex (ev5_requireIndex C.lt c3) rfl (Nat.le_of_ble_eq_true rfl) (Nat.le_of_ble_eq_true rfl) ?_
  refine r_aload_n C d5_startMinute_8 rfl ?_
  refine g_main_4 C d5_startMinute_9 f5_36 hN ?_
  refine g_plan_8 C d5_startMinute_12 f5_183 hN p0 ?_
  refine r_iload_n C d5_startMinute_15 rfl ?_
  obtain ⟨c4, h⟩ := ck_of h
  refine x_iald C d5_startMinute_16 (ra_plan3 hN p0) c4 ?_
  exact e_i C M d5_startMinute_17 (Nat.le_of_ble_eq_true rfl) (Nat.le_of_ble_eq_true rfl) h
def f5_endMinute (V : VV) (x1 : Int) : Option Int := bd (f5_isBooking V x1) (fun r2 => ck (¬ nrm r2 = 0) (ck ((0:Int) ≤ x1 ∧ x1 < 20) (some (V (aP 0 + 4) (Int.toNat x1)))))
theorem ev5_endMinute {G : GT} {l : Launch} {V : VV} {x1 : Int} {r : Int} (hlt : l.stackTraces = false) (hN : 148 ≤ gN G) (h : f5_endMinute V x1 = some r) : EvX G l y5_endMinute b5_endMinute 2 (some .int) 2 0 0 [.ref (gB G + 0), vI x1] V (.ok (some (vI r))) V := by
  refine ev_w hlt (by decide +kernel) rfl rfl (fun X hl hx C M => ?_)
  subst hl
  replace C : Cx G X "ChannelSchedule" b5_endMinute := C
  unfold f5_endMinute at h
  show At G X 0 0 0 [(0, .ref (gB G + 0)), (1, vI x1)] [] V
  refine r_aload_n C d5_endMinute_0 rfl ?_
  refine r_iload_n C d5_endMinute_1 rfl ?_
  obtain ⟨r2, h1, h⟩ := bd_of h
  refine cV1_i C M d5_endMinute_2 l5_178 w5_isBooking (rc_main hN) (ev5_isBooking C.lt hN h1) rfl (Nat.le_of_ble_eq_true rfl) (Nat.le_of_ble_eq_true rfl) ?_
  obtain ⟨c3, h⟩ := ck_of h
  refine cS1_v C M d5_endMinute_5 l5_136 w5_requireIndex (ev5_requireIndex C.lt c3) rfl (Nat.le_of_ble_eq_true rfl) (Nat.le_of_ble_eq_true rfl) ?_
  refine r_aload_n C d5_endMinute_8 rfl ?_
  refine g_main_4 C d5_endMinute_9 f5_36 hN ?_
  refine g_plan_9 C d5_endMinute_12 f5_186 hN p0 ?_
  refine r_iload_n C d5_endMinute_15 rfl ?_
  obtain ⟨c4, h⟩ := ck_of h
  refine x_iald C d5_endMinute_16 (ra_plan4 hN p0) c4 ?_
  exact e_i C M d5_endMinute_17 (Nat.le_of_ble_eq_true rfl) (Nat.le_of_ble_eq_true rfl) h
def f5_isInbound (V : VV) (x1 : Int) : Option Int := bd (f5_isBooking V x1) (fun r2 => ck (¬ nrm r2 = 0) (ck ((0:Int) ≤ x1 ∧ x1 < 20) (ck ((V (aP 0 + 2) (Int.toNat x1)) = 0 ∨ (V (aP 0 + 2) (Int.toNat x1)) = 1) (some (V (aP 0 + 2) (Int.toNat x1))))))
theorem ev5_isInbound {G : GT} {l : Launch} {V : VV} {x1 : Int} {r : Int} (hlt : l.stackTraces = false) (hN : 148 ≤ gN G) (h : f5_isInbound V x1 = some r) : EvX G l y5_isInbound b5_isInbound 2 (some .boolean) 2 0 0 [.ref (gB G + 0), vI x1] V (.ok (some (vI r))) V := by
  refine ev_w hlt (by decide +kernel) rfl rfl (fun X hl hx C M => ?_)
  subst hl
  replace C : Cx G X "ChannelSchedule" b5_isInbound := C
  unfold f5_isInbound at h
  show At G X 0 0 0 [(0, .ref (gB G + 0)), (1, vI x1)] [] V
  refine r_aload_n C d5_isInbound_0 rfl ?_
  refine r_iload_n C d5_isInbound_1 rfl ?_
  obtain ⟨r2, h1, h⟩ := bd_of h
  refine cV1_i C M d5_isInbound_2 l5_178 w5_isBooking (rc_main hN) (ev5_isBooking C.lt hN h1) rfl (Nat.le_of_ble_eq_true rfl) (Nat.le_of_ble_eq_true rfl) ?_
  obtain ⟨c3, h⟩ := ck_of h
  refine cS1_v C M d5_isInbound_5 l5_136 w5_requireIndex (ev5_requireIndex C.lt c3) rfl (Nat.le_of_ble_eq_true rfl) (Nat.le_of_ble_eq_true rfl) ?_
  refine r_aload_n C d5_isInbound_8 rfl ?_
  refine g_main_4 C d5_isInbound_9 f5_36 hN ?_
  refine g_plan_7 C d5_isInbound_12 f5_189 hN p0 ?_
  refine r_iload_n C d5_isInbound_15 rfl ?_
  obtain ⟨c4, h⟩ := ck_of h
  refine x_zald C d5_isInbound_16 (ra_plan2 hN p0) c4 ?_
  obtain ⟨c5, h⟩ := ck_of h
  exact e_z C M d5_isInbound_17 (Nat.le_of_ble_eq_true rfl) (Nat.le_of_ble_eq_true rfl) c5 h
def f5_freeBefore (V : VV) (x1 : Int) (x2 : Int) (x3 : Int) (x4 : Int) : Option Int := (if nrm x3 = 0 then ck ((V 0 2).toNat < 2) (some ((x1 - (V (aS ((V 0 2).toNat)) 1)) - x4)) else ck ((V 0 2).toNat < 2) (bd ((if nrm (V (aS ((V 0 2).toNat)) 0) ≤ 0 then some (x1 - 1) else some (x1 - (V (aS ((V 0 2).toNat)) 0)))) (fun y5 => (if nrm ((x2 - (V (aS ((V 0 2).toNat)) 0)) - x4) ≤ nrm y5 then some ((x2 - (V (aS ((V 0 2).toNat)) 0)) - x4) else some y5))))
theorem ev5_freeBefore {G : GT} {l : Launch} {V : VV} {x1 : Int} {x2 : Int} {x3 : Int} {x4 : Int} {r : Int} (hlt : l.stackTraces = false) (hN : 148 ≤ gN G) (h : f5_freeBefore V x1 x2 x3 x4 = some r) : EvX G l y5_freeBefore b5_freeBefore 7 (some .int) 0 0 0 [.ref (gB G + 0), vI x1, vI x2, vI x3, vI x4] V (.ok (some (vI r))) V := by
  refine ev_w hlt (by decide +kernel) rfl rfl (fun X hl hx C M => ?_)
  subst hl
  replace C : Cx G X "ChannelSchedule" b5_freeBefore := C
  unfold f5_freeBefore at h
  show At G X 0 0 0 [(0, .ref (gB G + 0)), (1, vI x1), (2, vI x2), (3, vI x3), (4, vI x4)] [] V
  refine r_iload_n C d5_freeBefore_0 rfl ?_
  refine x_ifne (tgt := 17) C d5_freeBefore_1 rfl (fun c1 => ?_) (fun c1 => ?_)
  · replace h := ite_p c1 h
    refine r_iload_n C d5_freeBefore_4 rfl ?_
    refine r_aload_n C d5_freeBefore_5 rfl ?_
    refine g_main_2 C d5_freeBefore_6 f5_26 hN ?_
    obtain ⟨c2, h⟩ := ck_of h
    refine g_setup_1 C d5_freeBefore_9 f5_123 hN c2 ?_
    refine r_isub C d5_freeBefore_12 ?_
    refine r_iload C d5_freeBefore_13 rfl ?_
    refine r_isub C d5_freeBefore_15 ?_
    exact e_i C M d5_freeBefore_16 (Nat.le_of_ble_eq_true rfl) (Nat.le_of_ble_eq_true rfl) h
  · replace h := ite_m c1 h
    refine r_aload_n C d5_freeBefore_17 rfl ?_
    refine g_main_2 C d5_freeBefore_18 f5_26 hN ?_
    obtain ⟨c3, h⟩ := ck_of h
    refine g_setup_0 C d5_freeBefore_21 f5_120 hN c3 ?_
    obtain ⟨y5, h6, h⟩ := bd_of h
    suffices J7 : At G X 0 0 42 [(0, .ref (gB G + 0)), (2, vI x2), (4, vI x4)] [vI y5] V by
      replace h := h6
      refine x_ifle (tgt := 39) C d5_freeBefore_24 rfl (fun c4 => ?_) (fun c4 => ?_)
      · replace h := ite_p c4 h
        refine r_iload_n C d5_freeBefore_39 rfl ?_
        refine r_iconst C d5_freeBefore_40 ?_
        refine r_isub C d5_freeBefore_41 ?_
        cases h
        exact AtH.sw J7 ⟨rfl, rfl, rfl, trivial⟩
      · replace h := ite_m c4 h
        refine r_iload_n C d5_freeBefore_27 rfl ?_
        refine r_aload_n C d5_freeBefore_28 rfl ?_
        refine g_main_2 C d5_freeBefore_29 f5_26 hN ?_
        refine g_setup_0 C d5_freeBefore_32 f5_120 hN c3 ?_
        refine r_isub C d5_freeBefore_35 ?_
        refine r_goto (tgt := 42) C d5_freeBefore_36 rfl ?_
        cases h
        exact AtH.sw J7 ⟨rfl, rfl, rfl, trivial⟩
    refine x_istore hx C d5_freeBefore_42 rfl ?_
    refine r_iload_n C d5_freeBefore_44 rfl ?_
    refine r_aload_n C d5_freeBefore_45 rfl ?_
    refine g_main_2 C d5_freeBefore_46 f5_26 hN ?_
    refine g_setup_0 C d5_freeBefore_49 f5_120 hN c3 ?_
    refine r_isub C d5_freeBefore_52 ?_
    refine r_iload C d5_freeBefore_53 rfl ?_
    refine r_isub C d5_freeBefore_55 ?_
    refine x_istore hx C d5_freeBefore_56 rfl ?_
    refine r_iload C d5_freeBefore_58 rfl ?_
    refine r_iload C d5_freeBefore_60 rfl ?_
    refine x_icmpge (tgt := 70) C d5_freeBefore_62 rfl (fun c8 => ?_) (fun c8 => ?_)
    · replace h := ite_p c8 h
      refine r_iload C d5_freeBefore_70 rfl ?_
      exact e_i C M d5_freeBefore_72 (Nat.le_of_ble_eq_true rfl) (Nat.le_of_ble_eq_true rfl) h
    · replace h := ite_m c8 h
      refine r_iload C d5_freeBefore_65 rfl ?_
      refine r_goto (tgt := 72) C d5_freeBefore_67 rfl ?_
      exact e_i C M d5_freeBefore_72 (Nat.le_of_ble_eq_true rfl) (Nat.le_of_ble_eq_true rfl) h
def f5_freeAfter (V : VV) (x1 : Int) (x2 : Int) (x3 : Int) (x4 : Int) : Option Int := (if nrm x3 = 0 then ck ((V 0 2).toNat < 2) (some (x2 + (V (aS ((V 0 2).toNat)) 1))) else ck ((V 0 2).toNat < 2) (bd ((if nrm (V (aS ((V 0 2).toNat)) 0) ≤ 0 then some (x1 + 1) else some (x1 + (V (aS ((V 0 2).toNat)) 0)))) (fun y5 => (if nrm y5 ≤ nrm ((x2 + (V (aS ((V 0 2).toNat)) 0)) - x4) then some ((x2 + (V (aS ((V 0 2).toNat)) 0)) - x4) else some y5))))
theorem ev5_freeAfter {G : GT} {l : Launch} {V : VV} {x1 : Int} {x2 : Int} {x3 : Int} {x4 : Int} {r : Int} (hlt : l.stackTraces = false) (hN : 148 ≤ gN G) (h : f5_freeAfter V x1 x2 x3 x4 = some r) : EvX G l y5_freeAfter b5_freeAfter 7 (some .int) 0 0 0 [.ref (gB G + 0), vI x1, vI x2, vI x3, vI x4] V (.ok (some (vI r))) V := by
  refine ev_w hlt (by decide +kernel) rfl rfl (fun X hl hx C M => ?_)
  subst hl
  replace C : Cx G X "ChannelSchedule" b5_freeAfter := C
  unfold f5_freeAfter at h
  show At G X 0 0 0 [(0, .ref (gB G + 0)), (1, vI x1), (2, vI x2), (3, vI x3), (4, vI x4)] [] V
  refine r_iload_n C d5_freeAfter_0 rfl ?_
  refine x_ifne (tgt := 14) C d5_freeAfter_1 rfl (fun c1 => ?_) (fun c1 => ?_)
  · replace h := ite_p c1 h
    refine r_iload_n C d5_freeAfter_4 rfl ?_
    refine r_aload_n C d5_freeAfter_5 rfl ?_
    refine g_main_2 C d5_freeAfter_6 f5_26 hN ?_
    obtain ⟨c2, h⟩ := ck_of h
    refine g_setup_1 C d5_freeAfter_9 f5_123 hN c2 ?_
    refine r_iadd C d5_freeAfter_12 ?_
    exact e_i C M d5_freeAfter_13 (Nat.le_of_ble_eq_true rfl) (Nat.le_of_ble_eq_true rfl) h
  · replace h := ite_m c1 h
    refine r_aload_n C d5_freeAfter_14 rfl ?_
    refine g_main_2 C d5_freeAfter_15 f5_26 hN ?_
    obtain ⟨c3, h⟩ := ck_of h
    refine g_setup_0 C d5_freeAfter_18 f5_120 hN c3 ?_
    obtain ⟨y5, h6, h⟩ := bd_of h
    suffices J7 : At G X 0 0 39 [(0, .ref (gB G + 0)), (2, vI x2), (4, vI x4)] [vI y5] V by
      replace h := h6
      refine x_ifle (tgt := 36) C d5_freeAfter_21 rfl (fun c4 => ?_) (fun c4 => ?_)
      · replace h := ite_p c4 h
        refine r_iload_n C d5_freeAfter_36 rfl ?_
        refine r_iconst C d5_freeAfter_37 ?_
        refine r_iadd C d5_freeAfter_38 ?_
        cases h
        exact AtH.sw J7 ⟨rfl, rfl, rfl, trivial⟩
      · replace h := ite_m c4 h
        refine r_iload_n C d5_freeAfter_24 rfl ?_
        refine r_aload_n C d5_freeAfter_25 rfl ?_
        refine g_main_2 C d5_freeAfter_26 f5_26 hN ?_
        refine g_setup_0 C d5_freeAfter_29 f5_120 hN c3 ?_
        refine r_iadd C d5_freeAfter_32 ?_
        refine r_goto (tgt := 39) C d5_freeAfter_33 rfl ?_
        cases h
        exact AtH.sw J7 ⟨rfl, rfl, rfl, trivial⟩
    refine x_istore hx C d5_freeAfter_39 rfl ?_
    refine r_iload_n C d5_freeAfter_41 rfl ?_
    refine r_aload_n C d5_freeAfter_42 rfl ?_
    refine g_main_2 C d5_freeAfter_43 f5_26 hN ?_
    refine g_setup_0 C d5_freeAfter_46 f5_120 hN c3 ?_
    refine r_iadd C d5_freeAfter_49 ?_
    refine r_iload C d5_freeAfter_50 rfl ?_
    refine r_isub C d5_freeAfter_52 ?_
    refine x_istore hx C d5_freeAfter_53 rfl ?_
    refine r_iload C d5_freeAfter_55 rfl ?_
    refine r_iload C d5_freeAfter_57 rfl ?_
    refine x_icmple (tgt := 67) C d5_freeAfter_59 rfl (fun c8 => ?_) (fun c8 => ?_)
    · replace h := ite_p c8 h
      refine r_iload C d5_freeAfter_67 rfl ?_
      exact e_i C M d5_freeAfter_69 (Nat.le_of_ble_eq_true rfl) (Nat.le_of_ble_eq_true rfl) h
    · replace h := ite_m c8 h
      refine r_iload C d5_freeAfter_62 rfl ?_
      refine r_goto (tgt := 69) C d5_freeAfter_64 rfl ?_
      exact e_i C M d5_freeAfter_69 (Nat.le_of_ble_eq_true rfl) (Nat.le_of_ble_eq_true rfl) h
def f5_clashes (V : VV) (x1 : Int) (x2 : Int) (x3 : Int) (x4 : Int) : Option Int := ck ((0:Int) ≤ x1 ∧ x1 < 20) (bd ((if nrm (V (aP 0 + 2) (Int.toNat x1)) = nrm x2 then some (1) else some (0))) (fun y3 => bd (f5_freeBefore V (V (aP 0 + 3) (Int.toNat x1)) (V (aP 0 + 4) (Int.toNat x1)) y3 x4) (fun r7 => (if nrm x3 ≤ nrm r7 then some 0 else bd (f5_freeAfter V (V (aP 0 + 3) (Int.toNat x1)) (V (aP 0 + 4) (Int.toNat x1)) y3 x4) (fun r10 => (if nrm r10 ≤ nrm x3 then some 0 else some 1))))))
theorem ev5_clashes {G : GT} {l : Launch} {V : VV} {x1 : Int} {x2 : Int} {x3 : Int} {x4 : Int} {r : Int} (hlt : l.stackTraces = false) (hN : 148 ≤ gN G) (h : f5_clashes V x1 x2 x3 x4 = some r) : EvX G l y5_clashes b5_clashes 6 (some .boolean) 1 0 0 [.ref (gB G + 0), vI x1, vI x2, vI x3, vI x4] V (.ok (some (vI r))) V := by
  refine ev_w hlt (by decide +kernel) rfl rfl (fun X hl hx C M => ?_)
  subst hl
  replace C : Cx G X "ChannelSchedule" b5_clashes := C
  unfold f5_clashes at h
  show At G X 0 0 0 [(0, .ref (gB G + 0)), (1, vI x1), (2, vI x2), (3, vI x3), (4, vI x4)] [] V
  refine r_aload_n C d5_clashes_0 rfl ?_
  refine g_main_4 C d5_clashes_1 f5_36 hN ?_
  refine g_plan_7 C d5_clashes_4 f5_189 hN p0 ?_
  refine r_iload_n C d5_clashes_7 rfl ?_
  obtain ⟨c1, h⟩ := ck_of h
  refine x_zald C d5_clashes_8 (ra_plan2 hN p0) c1 ?_
  refine r_iload_n C d5_clashes_9 rfl ?_
  obtain ⟨y3, h4, h⟩ := bd_of h
  suffices J5 : At G X 0 0 18 [(0, .ref (gB G + 0)), (1, vI x1), (3, vI x3), (4, vI x4)] [vI y3] V by
    replace h := h4
    refine x_icmpne (tgt := 17) C d5_clashes_10 rfl (fun c2 => ?_) (fun c2 => ?_)
    · replace h := ite_p c2 h
      refine r_iconst C d5_clashes_13 ?_
      refine r_goto (tgt := 18) C d5_clashes_14 rfl ?_
      cases h
      exact AtH.sw J5 ⟨rfl, rfl, rfl, rfl, trivial⟩
    · replace h := ite_m c2 h
      refine r_iconst C d5_clashes_17 ?_
      cases h
      exact AtH.sw J5 ⟨rfl, rfl, rfl, rfl, trivial⟩
  refine x_istore hx C d5_clashes_18 rfl ?_
  refine r_iload_n C d5_clashes_20 rfl ?_
  refine r_aload_n C d5_clashes_21 rfl ?_
  refine r_aload_n C d5_clashes_22 rfl ?_
  refine g_main_4 C d5_clashes_23 f5_36 hN ?_
  refine g_plan_8 C d5_clashes_26 f5_183 hN p0 ?_
  refine r_iload_n C d5_clashes_29 rfl ?_
  refine x_iald C d5_clashes_30 (ra_plan3 hN p0) c1 ?_
  refine r_aload_n C d5_clashes_31 rfl ?_
  refine g_main_4 C d5_clashes_32 f5_36 hN ?_
  refine g_plan_9 C d5_clashes_35 f5_186 hN p0 ?_
  refine r_iload_n C d5_clashes_38 rfl ?_
  refine x_iald C d5_clashes_39 (ra_plan4 hN p0) c1 ?_
  refine r_iload C d5_clashes_40 rfl ?_
  refine r_iload C d5_clashes_42 rfl ?_
  obtain ⟨r7, h6, h⟩ := bd_of h
  refine cV4_i C M d5_clashes_44 l5_224 w5_freeBefore (rc_main hN) (ev5_freeBefore C.lt hN h6) rfl (Nat.le_of_ble_eq_true rfl) (Nat.le_of_ble_eq_true rfl) ?_
  refine x_icmple (tgt := 84) C d5_clashes_47 rfl (fun c8 => ?_) (fun c8 => ?_)
  · replace h := ite_p c8 h
    refine r_iconst C d5_clashes_84 ?_
    exact e_z C M d5_clashes_85 (Nat.le_of_ble_eq_true rfl) (Nat.le_of_ble_eq_true rfl) (Or.inl rfl) h
  · replace h := ite_m c8 h
    refine r_iload_n C d5_clashes_50 rfl ?_
    refine r_aload_n C d5_clashes_51 rfl ?_
    refine r_aload_n C d5_clashes_52 rfl ?_
    refine g_main_4 C d5_clashes_53 f5_36 hN ?_
    refine g_plan_8 C d5_clashes_56 f5_183 hN p0 ?_
    refine r_iload_n C d5_clashes_59 rfl ?_
    refine x_iald C d5_clashes_60 (ra_plan3 hN p0) c1 ?_
    refine r_aload_n C d5_clashes_61 rfl ?_
    refine g_main_4 C d5_clashes_62 f5_36 hN ?_
    refine g_plan_9 C d5_clashes_65 f5_186 hN p0 ?_
    refine r_iload_n C d5_clashes_68 rfl ?_
    refine x_iald C d5_clashes_69 (ra_plan4 hN p0) c1 ?_
    refine r_iload C d5_clashes_70 rfl ?_
    refine r_iload C d5_clashes_72 rfl ?_
    obtain ⟨r10, h9, h⟩ := bd_of h
    refine cV4_i C M d5_clashes_74 l5_351 w5_freeAfter (rc_main hN) (ev5_freeAfter C.lt hN h9) rfl (Nat.le_of_ble_eq_true rfl) (Nat.le_of_ble_eq_true rfl) ?_
    refine x_icmpge (tgt := 84) C d5_clashes_77 rfl (fun c11 => ?_) (fun c11 => ?_)
    · replace h := ite_p c11 h
      refine r_iconst C d5_clashes_84 ?_
      exact e_z C M d5_clashes_85 (Nat.le_of_ble_eq_true rfl) (Nat.le_of_ble_eq_true rfl) (Or.inl rfl) h
    · replace h := ite_m c11 h
      refine r_iconst C d5_clashes_80 ?_
      refine r_goto (tgt := 85) C d5_clashes_81 rfl ?_
      exact e_z C M d5_clashes_85 (Nat.le_of_ble_eq_true rfl) (Nat.le_of_ble_eq_true rfl) (Or.inr rfl) h
def f5_conflictCount_L32 (V : VV) (x2 : Int) (x3 : Int) (x4 : Int) : Nat → Int → Int → Option (Int)
  | 0, _, _ => none
  | n + 1, x5, x6 => (if nrm (V (aP 0) 5) ≤ nrm x6 then some x5 else bd (f5_clashes V x6 x2 x3 x4) (fun r11 => (if nrm r11 = 0 then f5_conflictCount_L32 V x2 x3 x4 n x5 (x6 + 1) else f5_conflictCount_L32 V x2 x3 x4 n (x5 + 1) (x6 + 1))))
theorem lp5_conflictCount_32 {G : GT} {X : CT} {cells slots : Nat} {V : VV} (hN : 148 ≤ gN G) (hx : xN X = 7) (C : Cx G X "ChannelSchedule" b5_conflictCount) {x2 : Int} {x3 : Int} {x4 : Int} {o0 : Except String (Option Value)} {V9 : VV} (M : MX G X 2 0 0 (some .int) o0 V9) (hc : cells ≤ 0) (hs : slots ≤ 0) : ∀ (n : Nat) {x5 : Int} {x6 : Int} {e5 : Int}, f5_conflictCount_L32 V x2 x3 x4 n x5 x6 = some (e5) → At G X cells slots 66 [(5, vI e5)] [] V → At G X cells slots 32 [(0, .ref (gB G + 0)), (2, vI x2), (3, vI x3), (4, vI x4), (5, vI x5), (6, vI x6)] [] V := by
  intro n
  induction n with
  | zero => intro x5 x6 e5 h _; exact nomatch h
  | succ n ih =>
    intro x5 x6 e5 h K
    rw [f5_conflictCount_L32] at h
    refine r_iload C d5_conflictCount_32 rfl ?_
    refine r_aload_n C d5_conflictCount_34 rfl ?_
    refine g_main_4 C d5_conflictCount_35 f5_36 hN ?_
    refine g_plan_5 C d5_conflictCount_38 f5_175 hN p0 ?_
    refine x_icmpge (tgt := 66) C d5_conflictCount_41 rfl (fun c9 => ?_) (fun c9 => ?_)
    · replace h := ite_p c9 h
      cases h
      exact AtH.sw K ⟨rfl, trivial⟩
    · replace h := ite_m c9 h
      refine r_aload_n C d5_conflictCount_44 rfl ?_
      refine r_iload C d5_conflictCount_45 rfl ?_
      refine r_iload_n C d5_conflictCount_47 rfl ?_
      refine r_iload_n C d5_conflictCount_48 rfl ?_
      refine r_iload C d5_conflictCount_49 rfl ?_
      obtain ⟨r11, h10, h⟩ := bd_of h
      refine cV4_i C M d5_conflictCount_51 l5_205 w5_clashes (rc_main hN) (ev5_clashes C.lt hN h10) rfl hc hs ?_
      refine x_ifeq (tgt := 60) C d5_conflictCount_54 rfl (fun c12 => ?_) (fun c12 => ?_)
      · replace h := ite_p c12 h
        refine x_iinc hx C d5_conflictCount_60 rfl rfl ?_
        refine r_goto (tgt := 32) C d5_conflictCount_63 rfl ?_
        exact AtH.sw (ih h K) ⟨rfl, rfl, rfl, rfl, rfl, rfl, trivial⟩
      · replace h := ite_m c12 h
        refine x_iinc hx C d5_conflictCount_57 rfl rfl ?_
        refine x_iinc hx C d5_conflictCount_60 rfl rfl ?_
        refine r_goto (tgt := 32) C d5_conflictCount_63 rfl ?_
        exact AtH.sw (ih h K) ⟨rfl, rfl, rfl, rfl, rfl, rfl, trivial⟩
def f5_conflictCount (V : VV) (x1 : Int) (x2 : Int) (x3 : Int) : Option Int := bd (f5_isShip V x1) (fun r2 => ck (¬ nrm r2 = 0) (bd (f5_isWithin V x3 0 999) (fun r5 => ck (¬ nrm r5 = 0) (bd (f5_transitOf V x1) (fun r8 => bd (f5_conflictCount_L32 V x2 x3 r8 FU 0 0) (fun y13 => some y13))))))
theorem ev5_conflictCount {G : GT} {l : Launch} {V : VV} {x1 : Int} {x2 : Int} {x3 : Int} {r : Int} (hlt : l.stackTraces = false) (hN : 148 ≤ gN G) (h : f5_conflictCount V x1 x2 x3 = some r) : EvX G l y5_conflictCount b5_conflictCount 7 (some .int) 2 0 0 [.ref (gB G + 0), vI x1, vI x2, vI x3] V (.ok (some (vI r))) V := by
  refine ev_w hlt (by decide +kernel) rfl rfl (fun X hl hx C M => ?_)
  subst hl
  replace C : Cx G X "ChannelSchedule" b5_conflictCount := C
  unfold f5_conflictCount at h
  show At G X 0 0 0 [(0, .ref (gB G + 0)), (1, vI x1), (2, vI x2), (3, vI x3)] [] V
  refine r_aload_n C d5_conflictCount_0 rfl ?_
  refine r_iload_n C d5_conflictCount_1 rfl ?_
  obtain ⟨r2, h1, h⟩ := bd_of h
  refine cV1_i C M d5_conflictCount_2 l5_132 w5_isShip (rc_main hN) (ev5_isShip C.lt hN h1) rfl (Nat.le_of_ble_eq_true rfl) (Nat.le_of_ble_eq_true rfl) ?_
  obtain ⟨c3, h⟩ := ck_of h
  refine cS1_v C M d5_conflictCount_5 l5_136 w5_requireIndex (ev5_requireIndex C.lt c3) rfl (Nat.le_of_ble_eq_true rfl) (Nat.le_of_ble_eq_true rfl) ?_
  refine r_iload_n C d5_conflictCount_8 rfl ?_
  refine r_iconst C d5_conflictCount_9 ?_
  refine r_sipush C d5_conflictCount_10 (by decide +kernel) ?_
  obtain ⟨r5, h4, h⟩ := bd_of h
  refine cS3_i C M d5_conflictCount_13 l5_104 w5_isWithin (ev5_isWithin C.lt hN h4) rfl (Nat.le_of_ble_eq_true rfl) (Nat.le_of_ble_eq_true rfl) ?_
  obtain ⟨c6, h⟩ := ck_of h
  refine cS1_v C M d5_conflictCount_16 l5_108 w5_requireArgument (ev5_requireArgument C.lt c6) rfl (Nat.le_of_ble_eq_true rfl) (Nat.le_of_ble_eq_true rfl) ?_
  refine r_aload_n C d5_conflictCount_19 rfl ?_
  refine r_iload_n C d5_conflictCount_20 rfl ?_
  obtain ⟨r8, h7, h⟩ := bd_of h
  refine cV1_i C M d5_conflictCount_21 l5_139 w5_transitOf (rc_main hN) (ev5_transitOf C.lt hN h7) rfl (Nat.le_of_ble_eq_true rfl) (Nat.le_of_ble_eq_true rfl) ?_
  refine x_istore hx C d5_conflictCount_24 rfl ?_
  refine r_iconst C d5_conflictCount_26 ?_
  refine x_istore hx C d5_conflictCount_27 rfl ?_
  refine r_iconst C d5_conflictCount_29 ?_
  refine x_istore hx C d5_conflictCount_30 rfl ?_
  obtain ⟨y13, h14, h⟩ := bd_of h
  refine AtH.sw (lp5_conflictCount_32 hN hx C M (Nat.le_of_ble_eq_true rfl) (Nat.le_of_ble_eq_true rfl) FU h14 ?_) ⟨rfl, rfl, rfl, rfl, rfl, rfl, trivial⟩
  refine r_iload C d5_conflictCount_66 rfl ?_
  exact e_i C M d5_conflictCount_68 (Nat.le_of_ble_eq_true rfl) (Nat.le_of_ble_eq_true rfl) h
def f5_requestCount (V : VV) : Option Int := some (V (aP 0) 10)
theorem ev5_requestCount {G : GT} {l : Launch} {V : VV} {r : Int} (hlt : l.stackTraces = false) (hN : 148 ≤ gN G) (h : f5_requestCount V = some r) : EvX G l y5_requestCount b5_requestCount 1 (some .int) 0 0 0 [.ref (gB G + 0)] V (.ok (some (vI r))) V := by
  refine ev_w hlt (by decide +kernel) rfl rfl (fun X hl hx C M => ?_)
  subst hl
  replace C : Cx G X "ChannelSchedule" b5_requestCount := C
  unfold f5_requestCount at h
  show At G X 0 0 0 [(0, .ref (gB G + 0))] [] V
  refine r_aload_n C d5_requestCount_0 rfl ?_
  refine g_main_4 C d5_requestCount_1 f5_36 hN ?_
  refine g_plan_10 C d5_requestCount_4 f5_231 hN p0 ?_
  exact e_i C M d5_requestCount_7 (Nat.le_of_ble_eq_true rfl) (Nat.le_of_ble_eq_true rfl) h
def f5_isRequest (V : VV) (x1 : Int) : Option Int := bd (f5_isNumberBelow V x1 (V (aP 0) 10)) (fun r2 => ck (r2 = 0 ∨ r2 = 1) (some r2))
theorem ev5_isRequest {G : GT} {l : Launch} {V : VV} {x1 : Int} {r : Int} (hlt : l.stackTraces = false) (hN : 148 ≤ gN G) (h : f5_isRequest V x1 = some r) : EvX G l y5_isRequest b5_isRequest 2 (some .boolean) 1 0 0 [.ref (gB G + 0), vI x1] V (.ok (some (vI r))) V := by
  refine ev_w hlt (by decide +kernel) rfl rfl (fun X hl hx C M => ?_)
  subst hl
  replace C : Cx G X "ChannelSchedule" b5_isRequest := C
  unfold f5_isRequest at h
  show At G X 0 0 0 [(0, .ref (gB G + 0)), (1, vI x1)] [] V
  refine r_iload_n C d5_isRequest_0 rfl ?_
  refine r_aload_n C d5_isRequest_1 rfl ?_
  refine g_main_4 C d5_isRequest_2 f5_36 hN ?_
  refine g_plan_10 C d5_isRequest_5 f5_231 hN p0 ?_
  obtain ⟨r2, h1, h⟩ := bd_of h
  refine cS2_i C M d5_isRequest_8 l5_158 w5_isNumberBelow (ev5_isNumberBelow C.lt hN h1) rfl (Nat.le_of_ble_eq_true rfl) (Nat.le_of_ble_eq_true rfl) ?_
  obtain ⟨c3, h⟩ := ck_of h
  exact e_z C M d5_isRequest_11 (Nat.le_of_ble_eq_true rfl) (Nat.le_of_ble_eq_true rfl) c3 h
def f5_requestedShip (V : VV) (x1 : Int) : Option Int := bd (f5_isRequest V x1) (fun r2 => ck (¬ nrm r2 = 0) (ck ((0:Int) ≤ x1 ∧ x1 < 8) (some (V (aP 0 + 5) (Int.toNat x1)))))
theorem ev5_requestedShip {G : GT} {l : Launch} {V : VV} {x1 : Int} {r : Int} (hlt : l.stackTraces = false) (hN : 148 ≤ gN G) (h : f5_requestedShip V x1 = some r) : EvX G l y5_requestedShip b5_requestedShip 2 (some .int) 2 0 0 [.ref (gB G + 0), vI x1] V (.ok (some (vI r))) V := by
  refine ev_w hlt (by decide +kernel) rfl rfl (fun X hl hx C M => ?_)
  subst hl
  replace C : Cx G X "ChannelSchedule" b5_requestedShip := C
  unfold f5_requestedShip at h
  show At G X 0 0 0 [(0, .ref (gB G + 0)), (1, vI x1)] [] V
  refine r_aload_n C d5_requestedShip_0 rfl ?_
  refine r_iload_n C d5_requestedShip_1 rfl ?_
  obtain ⟨r2, h1, h⟩ := bd_of h
  refine cV1_i C M d5_requestedShip_2 l5_234 w5_isRequest (rc_main hN) (ev5_isRequest C.lt hN h1) rfl (Nat.le_of_ble_eq_true rfl) (Nat.le_of_ble_eq_true rfl) ?_
  obtain ⟨c3, h⟩ := ck_of h
  refine cS1_v C M d5_requestedShip_5 l5_136 w5_requireIndex (ev5_requireIndex C.lt c3) rfl (Nat.le_of_ble_eq_true rfl) (Nat.le_of_ble_eq_true rfl) ?_
  refine r_aload_n C d5_requestedShip_8 rfl ?_
  refine g_main_4 C d5_requestedShip_9 f5_36 hN ?_
  refine g_plan_11 C d5_requestedShip_12 f5_237 hN p0 ?_
  refine r_iload_n C d5_requestedShip_15 rfl ?_
  obtain ⟨c4, h⟩ := ck_of h
  refine x_iald C d5_requestedShip_16 (ra_plan5 hN p0) c4 ?_
  exact e_i C M d5_requestedShip_17 (Nat.le_of_ble_eq_true rfl) (Nat.le_of_ble_eq_true rfl) h
def f5_isRequestInbound (V : VV) (x1 : Int) : Option Int := bd (f5_isRequest V x1) (fun r2 => ck (¬ nrm r2 = 0) (ck ((0:Int) ≤ x1 ∧ x1 < 8) (ck ((V (aP 0 + 6) (Int.toNat x1)) = 0 ∨ (V (aP 0 + 6) (Int.toNat x1)) = 1) (some (V (aP 0 + 6) (Int.toNat x1))))))
theorem ev5_isRequestInbound {G : GT} {l : Launch} {V : VV} {x1 : Int} {r : Int} (hlt : l.stackTraces = false) (hN : 148 ≤ gN G) (h : f5_isRequestInbound V x1 = some r) : EvX G l y5_isRequestInbound b5_isRequestInbound 2 (some .boolean) 2 0 0 [.ref (gB G + 0), vI x1] V (.ok (some (vI r))) V := by
  refine ev_w hlt (by decide +kernel) rfl rfl (fun X hl hx C M => ?_)
  subst hl
  replace C : Cx G X "ChannelSchedule" b5_isRequestInbound := C
  unfold f5_isRequestInbound at h
  show At G X 0 0 0 [(0, .ref (gB G + 0)), (1, vI x1)] [] V
  refine r_aload_n C d5_isRequestInbound_0 rfl ?_
  refine r_iload_n C d5_isRequestInbound_1 rfl ?_
  obtain ⟨r2, h1, h⟩ := bd_of h
  refine cV1_i C M d5_isRequestInbound_2 l5_234 w5_isRequest (rc_main hN) (ev5_isRequest C.lt hN h1) rfl (Nat.le_of_ble_eq_true rfl) (Nat.le_of_ble_eq_true rfl) ?_
  obtain ⟨c3, h⟩ := ck_of h
  refine cS1_v C M d5_isRequestInbound_5 l5_136 w5_requireIndex (ev5_requireIndex C.lt c3) rfl (Nat.le_of_ble_eq_true rfl) (Nat.le_of_ble_eq_true rfl) ?_
  refine r_aload_n C d5_isRequestInbound_8 rfl ?_
  refine g_main_4 C d5_isRequestInbound_9 f5_36 hN ?_
  refine g_plan_12 C d5_isRequestInbound_12 f5_240 hN p0 ?_
  refine r_iload_n C d5_isRequestInbound_15 rfl ?_
  obtain ⟨c4, h⟩ := ck_of h
  refine x_zald C d5_isRequestInbound_16 (ra_plan6 hN p0) c4 ?_
  obtain ⟨c5, h⟩ := ck_of h
  exact e_z C M d5_isRequestInbound_17 (Nat.le_of_ble_eq_true rfl) (Nat.le_of_ble_eq_true rfl) c5 h
def f5_earliestRequested (V : VV) (x1 : Int) : Option Int := bd (f5_isRequest V x1) (fun r2 => ck (¬ nrm r2 = 0) (ck ((0:Int) ≤ x1 ∧ x1 < 8) (some (V (aP 0 + 7) (Int.toNat x1)))))
theorem ev5_earliestRequested {G : GT} {l : Launch} {V : VV} {x1 : Int} {r : Int} (hlt : l.stackTraces = false) (hN : 148 ≤ gN G) (h : f5_earliestRequested V x1 = some r) : EvX G l y5_earliestRequested b5_earliestRequested 2 (some .int) 2 0 0 [.ref (gB G + 0), vI x1] V (.ok (some (vI r))) V := by
  refine ev_w hlt (by decide +kernel) rfl rfl (fun X hl hx C M => ?_)
  subst hl
  replace C : Cx G X "ChannelSchedule" b5_earliestRequested := C
  unfold f5_earliestRequested at h
  show At G X 0 0 0 [(0, .ref (gB G + 0)), (1, vI x1)] [] V
  refine r_aload_n C d5_earliestRequested_0 rfl ?_
  refine r_iload_n C d5_earliestRequested_1 rfl ?_
  obtain ⟨r2, h1, h⟩ := bd_of h
  refine cV1_i C M d5_earliestRequested_2 l5_234 w5_isRequest (rc_main hN) (ev5_isRequest C.lt hN h1) rfl (Nat.le_of_ble_eq_true rfl) (Nat.le_of_ble_eq_true rfl) ?_
  obtain ⟨c3, h⟩ := ck_of h
  refine cS1_v C M d5_earliestRequested_5 l5_136 w5_requireIndex (ev5_requireIndex C.lt c3) rfl (Nat.le_of_ble_eq_true rfl) (Nat.le_of_ble_eq_true rfl) ?_
  refine r_aload_n C d5_earliestRequested_8 rfl ?_
  refine g_main_4 C d5_earliestRequested_9 f5_36 hN ?_
  refine g_plan_13 C d5_earliestRequested_12 f5_243 hN p0 ?_
  refine r_iload_n C d5_earliestRequested_15 rfl ?_
  obtain ⟨c4, h⟩ := ck_of h
  refine x_iald C d5_earliestRequested_16 (ra_plan7 hN p0) c4 ?_
  exact e_i C M d5_earliestRequested_17 (Nat.le_of_ble_eq_true rfl) (Nat.le_of_ble_eq_true rfl) h
def f5_latestRequested (V : VV) (x1 : Int) : Option Int := bd (f5_isRequest V x1) (fun r2 => ck (¬ nrm r2 = 0) (ck ((0:Int) ≤ x1 ∧ x1 < 8) (some (V (aP 0 + 8) (Int.toNat x1)))))
theorem ev5_latestRequested {G : GT} {l : Launch} {V : VV} {x1 : Int} {r : Int} (hlt : l.stackTraces = false) (hN : 148 ≤ gN G) (h : f5_latestRequested V x1 = some r) : EvX G l y5_latestRequested b5_latestRequested 2 (some .int) 2 0 0 [.ref (gB G + 0), vI x1] V (.ok (some (vI r))) V := by
  refine ev_w hlt (by decide +kernel) rfl rfl (fun X hl hx C M => ?_)
  subst hl
  replace C : Cx G X "ChannelSchedule" b5_latestRequested := C
  unfold f5_latestRequested at h
  show At G X 0 0 0 [(0, .ref (gB G + 0)), (1, vI x1)] [] V
  refine r_aload_n C d5_latestRequested_0 rfl ?_
  refine r_iload_n C d5_latestRequested_1 rfl ?_
  obtain ⟨r2, h1, h⟩ := bd_of h
  refine cV1_i C M d5_latestRequested_2 l5_234 w5_isRequest (rc_main hN) (ev5_isRequest C.lt hN h1) rfl (Nat.le_of_ble_eq_true rfl) (Nat.le_of_ble_eq_true rfl) ?_
  obtain ⟨c3, h⟩ := ck_of h
  refine cS1_v C M d5_latestRequested_5 l5_136 w5_requireIndex (ev5_requireIndex C.lt c3) rfl (Nat.le_of_ble_eq_true rfl) (Nat.le_of_ble_eq_true rfl) ?_
  refine r_aload_n C d5_latestRequested_8 rfl ?_
  refine g_main_4 C d5_latestRequested_9 f5_36 hN ?_
  refine g_plan_14 C d5_latestRequested_12 f5_246 hN p0 ?_
  refine r_iload_n C d5_latestRequested_15 rfl ?_
  obtain ⟨c4, h⟩ := ck_of h
  refine x_iald C d5_latestRequested_16 (ra_plan8 hN p0) c4 ?_
  exact e_i C M d5_latestRequested_17 (Nat.le_of_ble_eq_true rfl) (Nat.le_of_ble_eq_true rfl) h
def f5_requestsServed (V : VV) : Option Int := some (V (aP 0) 4)
theorem ev5_requestsServed {G : GT} {l : Launch} {V : VV} {r : Int} (hlt : l.stackTraces = false) (hN : 148 ≤ gN G) (h : f5_requestsServed V = some r) : EvX G l y5_requestsServed b5_requestsServed 1 (some .int) 0 0 0 [.ref (gB G + 0)] V (.ok (some (vI r))) V := by
  refine ev_w hlt (by decide +kernel) rfl rfl (fun X hl hx C M => ?_)
  subst hl
  replace C : Cx G X "ChannelSchedule" b5_requestsServed := C
  unfold f5_requestsServed at h
  show At G X 0 0 0 [(0, .ref (gB G + 0))] [] V
  refine r_aload_n C d5_requestsServed_0 rfl ?_
  refine g_main_4 C d5_requestsServed_1 f5_36 hN ?_
  refine g_plan_4 C d5_requestsServed_4 f5_274 hN p0 ?_
  exact e_i C M d5_requestsServed_7 (Nat.le_of_ble_eq_true rfl) (Nat.le_of_ble_eq_true rfl) h
def f5_inconsistencies_L60 (V : VV) (x2 : Int) (x3 : Int) : Nat → Int → Int → Option (Int)
  | 0, _, _ => none
  | n + 1, x1, x4 => (if nrm x2 ≤ nrm x4 then some x1 else ck ((0:Int) ≤ x2 ∧ x2 < 20) (bd (f5_clashes V x4 (V (aP 0 + 2) (Int.toNat x2)) (V (aP 0 + 3) (Int.toNat x2)) x3) (fun r6 => (if nrm r6 = 0 then f5_inconsistencies_L60 V x2 x3 n x1 (x4 + 1) else f5_inconsistencies_L60 V x2 x3 n (x1 + 1) (x4 + 1)))))
theorem lp5_inconsistencies_60 {G : GT} {X : CT} {cells slots : Nat} {V : VV} (hN : 148 ≤ gN G) (hx : xN X = 5) (C : Cx G X "ChannelSchedule" b5_inconsistencies) {x2 : Int} {x3 : Int} {o0 : Except String (Option Value)} {V9 : VV} (M : MX G X 2 0 0 (some .int) o0 V9) (hc : cells ≤ 0) (hs : slots ≤ 0) : ∀ (n : Nat) {x1 : Int} {x4 : Int} {e1 : Int}, f5_inconsistencies_L60 V x2 x3 n x1 x4 = some (e1) → At G X cells slots 103 [(0, .ref (gB G + 0)), (1, vI e1), (2, vI x2)] [] V → At G X cells slots 60 [(0, .ref (gB G + 0)), (1, vI x1), (2, vI x2), (3, vI x3), (4, vI x4)] [] V := by
  intro n
  induction n with
  | zero => intro x1 x4 e1 h _; exact nomatch h
  | succ n ih =>
    intro x1 x4 e1 h K
    rw [f5_inconsistencies_L60] at h
    refine r_iload C d5_inconsistencies_60 rfl ?_
    refine r_iload_n C d5_inconsistencies_62 rfl ?_
    refine x_icmpge (tgt := 103) C d5_inconsistencies_63 rfl (fun c3 => ?_) (fun c3 => ?_)
    · replace h := ite_p c3 h
      cases h
      exact AtH.sw K ⟨rfl, rfl, rfl, trivial⟩
    · replace h := ite_m c3 h
      refine r_aload_n C d5_inconsistencies_66 rfl ?_
      refine r_iload C d5_inconsistencies_67 rfl ?_
      refine r_aload_n C d5_inconsistencies_69 rfl ?_
      refine g_main_4 C d5_inconsistencies_70 f5_36 hN ?_
      refine g_plan_7 C d5_inconsistencies_73 f5_189 hN p0 ?_
      refine r_iload_n C d5_inconsistencies_76 rfl ?_
      obtain ⟨c4, h⟩ := ck_of h
      refine x_zald C d5_inconsistencies_77 (ra_plan2 hN p0) c4 ?_
      refine r_aload_n C d5_inconsistencies_78 rfl ?_
      refine g_main_4 C d5_inconsistencies_79 f5_36 hN ?_
      refine g_plan_8 C d5_inconsistencies_82 f5_183 hN p0 ?_
      refine r_iload_n C d5_inconsistencies_85 rfl ?_
      refine x_iald C d5_inconsistencies_86 (ra_plan3 hN p0) c4 ?_
      refine r_iload_n C d5_inconsistencies_87 rfl ?_
      obtain ⟨r6, h5, h⟩ := bd_of h
      refine cV4_i C M d5_inconsistencies_88 l5_205 w5_clashes (rc_main hN) (ev5_clashes C.lt hN h5) rfl hc hs ?_
      refine x_ifeq (tgt := 97) C d5_inconsistencies_91 rfl (fun c7 => ?_) (fun c7 => ?_)
      · replace h := ite_p c7 h
        refine x_iinc hx C d5_inconsistencies_97 rfl rfl ?_
        refine r_goto (tgt := 60) C d5_inconsistencies_100 rfl ?_
        exact AtH.sw (ih h K) ⟨rfl, rfl, rfl, rfl, rfl, trivial⟩
      · replace h := ite_m c7 h
        refine x_iinc hx C d5_inconsistencies_94 rfl rfl ?_
        refine x_iinc hx C d5_inconsistencies_97 rfl rfl ?_
        refine r_goto (tgt := 60) C d5_inconsistencies_100 rfl ?_
        exact AtH.sw (ih h K) ⟨rfl, rfl, rfl, rfl, rfl, trivial⟩
def f5_inconsistencies_L26 (V : VV) : Nat → Int → Int → Option (Int)
  | 0, _, _ => none
  | n + 1, x1, x2 => (if nrm (V (aP 0) 5) ≤ nrm x2 then some x1 else ck ((0:Int) ≤ x2 ∧ x2 < 20) (bd (f5_inconsistencies_L60 V x2 ((V (aP 0 + 4) (Int.toNat x2)) - (V (aP 0 + 3) (Int.toNat x2))) FU x1 0) (fun y8 => f5_inconsistencies_L26 V n y8 (x2 + 1))))
theorem lp5_inconsistencies_26 {G : GT} {X : CT} {cells slots : Nat} {V : VV} (hN : 148 ≤ gN G) (hx : xN X = 5) (C : Cx G X "ChannelSchedule" b5_inconsistencies) {o0 : Except String (Option Value)} {V9 : VV} (M : MX G X 2 0 0 (some .int) o0 V9) (hc : cells ≤ 0) (hs : slots ≤ 0) : ∀ (n : Nat) {x1 : Int} {x2 : Int} {e1 : Int}, f5_inconsistencies_L26 V n x1 x2 = some (e1) → At G X cells slots 109 [(1, vI e1)] [] V → At G X cells slots 26 [(0, .ref (gB G + 0)), (1, vI x1), (2, vI x2)] [] V := by
  intro n
  induction n with
  | zero => intro x1 x2 e1 h _; exact nomatch h
  | succ n ih =>
    intro x1 x2 e1 h K
    rw [f5_inconsistencies_L26] at h
    refine r_iload_n C d5_inconsistencies_26 rfl ?_
    refine r_aload_n C d5_inconsistencies_27 rfl ?_
    refine g_main_4 C d5_inconsistencies_28 f5_36 hN ?_
    refine g_plan_5 C d5_inconsistencies_31 f5_175 hN p0 ?_
    refine x_icmpge (tgt := 109) C d5_inconsistencies_34 rfl (fun c1 => ?_) (fun c1 => ?_)
    · replace h := ite_p c1 h
      cases h
      exact AtH.sw K ⟨rfl, trivial⟩
    · replace h := ite_m c1 h
      refine r_aload_n C d5_inconsistencies_37 rfl ?_
      refine g_main_4 C d5_inconsistencies_38 f5_36 hN ?_
      refine g_plan_9 C d5_inconsistencies_41 f5_186 hN p0 ?_
      refine r_iload_n C d5_inconsistencies_44 rfl ?_
      obtain ⟨c2, h⟩ := ck_of h
      refine x_iald C d5_inconsistencies_45 (ra_plan4 hN p0) c2 ?_
      refine r_aload_n C d5_inconsistencies_46 rfl ?_
      refine g_main_4 C d5_inconsistencies_47 f5_36 hN ?_
      refine g_plan_8 C d5_inconsistencies_50 f5_183 hN p0 ?_
      refine r_iload_n C d5_inconsistencies_53 rfl ?_
      refine x_iald C d5_inconsistencies_54 (ra_plan3 hN p0) c2 ?_
      refine r_isub C d5_inconsistencies_55 ?_
      refine x_istore_n hx C d5_inconsistencies_56 rfl ?_
      refine r_iconst C d5_inconsistencies_57 ?_
      refine x_istore hx C d5_inconsistencies_58 rfl ?_
      obtain ⟨y8, h9, h⟩ := bd_of h
      refine AtH.sw (lp5_inconsistencies_60 hN hx C M hc hs FU h9 ?_) ⟨rfl, rfl, rfl, rfl, rfl, trivial⟩
      refine x_iinc hx C d5_inconsistencies_103 rfl rfl ?_
      refine r_goto (tgt := 26) C d5_inconsistencies_106 rfl ?_
      exact AtH.sw (ih h K) ⟨rfl, rfl, rfl, trivial⟩
def f5_inconsistencies (V : VV) : Option Int := bd (f5_inconsistencies_L26 V FU (((V (aP 0) 2) - (V (aP 0) 3)) - (V (aP 0) 5)) 0) (fun y10 => some y10)
theorem ev5_inconsistencies {G : GT} {l : Launch} {V : VV} {r : Int} (hlt : l.stackTraces = false) (hN : 148 ≤ gN G) (h : f5_inconsistencies V = some r) : EvX G l y5_inconsistencies b5_inconsistencies 5 (some .int) 2 0 0 [.ref (gB G + 0)] V (.ok (some (vI r))) V := by
  refine ev_w hlt (by decide +kernel) rfl rfl (fun X hl hx C M => ?_)
  subst hl
  replace C : Cx G X "ChannelSchedule" b5_inconsistencies := C
  unfold f5_inconsistencies at h
  show At G X 0 0 0 [(0, .ref (gB G + 0))] [] V
  refine r_aload_n C d5_inconsistencies_0 rfl ?_
  refine g_main_4 C d5_inconsistencies_1 f5_36 hN ?_
  refine g_plan_2 C d5_inconsistencies_4 f5_268 hN p0 ?_
  refine r_aload_n C d5_inconsistencies_7 rfl ?_
  refine g_main_4 C d5_inconsistencies_8 f5_36 hN ?_
  refine g_plan_3 C d5_inconsistencies_11 f5_271 hN p0 ?_
  refine r_isub C d5_inconsistencies_14 ?_
  refine r_aload_n C d5_inconsistencies_15 rfl ?_
  refine g_main_4 C d5_inconsistencies_16 f5_36 hN ?_
  refine g_plan_5 C d5_inconsistencies_19 f5_175 hN p0 ?_
  refine r_isub C d5_inconsistencies_22 ?_
  refine x_istore_n hx C d5_inconsistencies_23 rfl ?_
  refine r_iconst C d5_inconsistencies_24 ?_
  refine x_istore_n hx C d5_inconsistencies_25 rfl ?_
  obtain ⟨y10, h11, h⟩ := bd_of h
  refine AtH.sw (lp5_inconsistencies_26 hN hx C M (Nat.le_of_ble_eq_true rfl) (Nat.le_of_ble_eq_true rfl) FU h11 ?_) ⟨rfl, rfl, rfl, trivial⟩
  refine r_iload_n C d5_inconsistencies_109 rfl ?_
  exact e_i C M d5_inconsistencies_110 (Nat.le_of_ble_eq_true rfl) (Nat.le_of_ble_eq_true rfl) h
def f5_firstClash_L3 (V : VV) (x1 : Int) (x2 : Int) (x3 : Int) (x4 : Int) : Nat → Int → Option Int
  | 0, _ => none
  | n + 1, x5 => (if nrm (V (aP 0) 5) ≤ nrm x5 then some (-1) else (if nrm x5 = nrm x4 then f5_firstClash_L3 V x1 x2 x3 x4 n (x5 + 1) else bd (f5_clashes V x5 x1 x2 x3) (fun r4 => (if nrm r4 = 0 then f5_firstClash_L3 V x1 x2 x3 x4 n (x5 + 1) else some x5))))
theorem lp5_firstClash_3 {G : GT} {X : CT} {cells slots : Nat} {V : VV} (hN : 148 ≤ gN G) (hx : xN X = 6) (C : Cx G X "ChannelSchedule" b5_firstClash) {x1 : Int} {x2 : Int} {x3 : Int} {x4 : Int} : ∀ (n : Nat) {x5 : Int} {r : Int}, MX G X 2 0 0 (some .int) (.ok (some (vI r))) V → cells ≤ 0 → slots ≤ 0 → f5_firstClash_L3 V x1 x2 x3 x4 n x5 = some r → At G X cells slots 3 [(0, .ref (gB G + 0)), (1, vI x1), (2, vI x2), (3, vI x3), (4, vI x4), (5, vI x5)] [] V := by
  intro n
  induction n with
  | zero => intro x5 r _ _ _ h; exact nomatch h
  | succ n ih =>
    intro x5 r M hc hs h
    rw [f5_firstClash_L3] at h
    refine r_iload C d5_firstClash_3 rfl ?_
    refine r_aload_n C d5_firstClash_5 rfl ?_
    refine g_main_4 C d5_firstClash_6 f5_36 hN ?_
    refine g_plan_5 C d5_firstClash_9 f5_175 hN p0 ?_
    refine x_icmpge (tgt := 43) C d5_firstClash_12 rfl (fun c1 => ?_) (fun c1 => ?_)
    · replace h := ite_p c1 h
      refine r_iconst C d5_firstClash_43 ?_
      exact e_i C M d5_firstClash_44 hc hs h
    · replace h := ite_m c1 h
      refine r_iload C d5_firstClash_15 rfl ?_
      refine r_iload C d5_firstClash_17 rfl ?_
      refine x_icmpeq (tgt := 37) C d5_firstClash_19 rfl (fun c2 => ?_) (fun c2 => ?_)
      · replace h := ite_p c2 h
        refine x_iinc hx C d5_firstClash_37 rfl rfl ?_
        refine r_goto (tgt := 3) C d5_firstClash_40 rfl ?_
        exact AtH.sw (ih M hc hs h) ⟨rfl, rfl, rfl, rfl, rfl, rfl, trivial⟩
      · replace h := ite_m c2 h
        refine r_aload_n C d5_firstClash_22 rfl ?_
        refine r_iload C d5_firstClash_23 rfl ?_
        refine r_iload_n C d5_firstClash_25 rfl ?_
        refine r_iload_n C d5_firstClash_26 rfl ?_
        refine r_iload_n C d5_firstClash_27 rfl ?_
        obtain ⟨r4, h3, h⟩ := bd_of h
        refine cV4_i C M d5_firstClash_28 l5_205 w5_clashes (rc_main hN) (ev5_clashes C.lt hN h3) rfl hc hs ?_
        refine x_ifeq (tgt := 37) C d5_firstClash_31 rfl (fun c5 => ?_) (fun c5 => ?_)
        · replace h := ite_p c5 h
          refine x_iinc hx C d5_firstClash_37 rfl rfl ?_
          refine r_goto (tgt := 3) C d5_firstClash_40 rfl ?_
          exact AtH.sw (ih M hc hs h) ⟨rfl, rfl, rfl, rfl, rfl, rfl, trivial⟩
        · replace h := ite_m c5 h
          refine r_iload C d5_firstClash_34 rfl ?_
          exact e_i C M d5_firstClash_36 hc hs h
def f5_firstClash (V : VV) (x1 : Int) (x2 : Int) (x3 : Int) (x4 : Int) : Option Int := f5_firstClash_L3 V x1 x2 x3 x4 FU 0
theorem ev5_firstClash {G : GT} {l : Launch} {V : VV} {x1 : Int} {x2 : Int} {x3 : Int} {x4 : Int} {r : Int} (hlt : l.stackTraces = false) (hN : 148 ≤ gN G) (h : f5_firstClash V x1 x2 x3 x4 = some r) : EvX G l y5_firstClash b5_firstClash 6 (some .int) 2 0 0 [.ref (gB G + 0), vI x1, vI x2, vI x3, vI x4] V (.ok (some (vI r))) V := by
  refine ev_w hlt (by decide +kernel) rfl rfl (fun X hl hx C M => ?_)
  subst hl
  replace C : Cx G X "ChannelSchedule" b5_firstClash := C
  unfold f5_firstClash at h
  show At G X 0 0 0 [(0, .ref (gB G + 0)), (1, vI x1), (2, vI x2), (3, vI x3), (4, vI x4)] [] V
  refine r_iconst C d5_firstClash_0 ?_
  refine x_istore hx C d5_firstClash_1 rfl ?_
  exact AtH.sw (lp5_firstClash_3 hN hx C FU M (Nat.le_of_ble_eq_true rfl) (Nat.le_of_ble_eq_true rfl) h) ⟨rfl, rfl, rfl, rfl, rfl, rfl, trivial⟩
def f5_bookFault (V : VV) (x1 : Int) (x2 : Int) (x3 : Int) : Option Int := bd (f5_isShip V x1) (fun r2 => (if nrm r2 = 0 then some 1 else bd (f5_isWithin V x3 0 999) (fun r5 => (if nrm r5 = 0 then some 2 else bd ((if nrm x3 < nrm (V (aP 0) 1) then some (0) else (if nrm 20 ≤ nrm (V (aP 0) 5) then some (0) else bd (f5_transitOf V x1) (fun r10 => bd (f5_firstClash V x2 x3 r10 (-1)) (fun r12 => (if nrm r12 = nrm (-1) then some (1) else some (0))))))) (fun y14 => (if nrm y14 = 0 then some 3 else some 0))))))
theorem ev5_bookFault {G : GT} {l : Launch} {V : VV} {x1 : Int} {x2 : Int} {x3 : Int} {r : Int} (hlt : l.stackTraces = false) (hN : 148 ≤ gN G) (h : f5_bookFault V x1 x2 x3 = some r) : EvX G l y5_bookFault b5_bookFault 5 (some .int) 3 0 0 [.ref (gB G + 0), vI x1, vI x2, vI x3] V (.ok (some (vI r))) V := by
  refine ev_w hlt (by decide +kernel) rfl rfl (fun X hl hx C M => ?_)
  subst hl
  replace C : Cx G X "ChannelSchedule" b5_bookFault := C
  unfold f5_bookFault at h
  show At G X 0 0 0 [(0, .ref (gB G + 0)), (1, vI x1), (2, vI x2), (3, vI x3)] [] V
  refine r_aload_n C d5_bookFault_0 rfl ?_
  refine r_iload_n C d5_bookFault_1 rfl ?_
  obtain ⟨r2, h1, h⟩ := bd_of h
  refine cV1_i C M d5_bookFault_2 l5_132 w5_isShip (rc_main hN) (ev5_isShip C.lt hN h1) rfl (Nat.le_of_ble_eq_true rfl) (Nat.le_of_ble_eq_true rfl) ?_
  refine x_ifne (tgt := 10) C d5_bookFault_5 rfl (fun c3 => ?_) (fun c3 => ?_)
  · replace h := ite_p c3 h
    refine r_iconst C d5_bookFault_8 ?_
    exact e_i C M d5_bookFault_9 (Nat.le_of_ble_eq_true rfl) (Nat.le_of_ble_eq_true rfl) h
  · replace h := ite_m c3 h
    refine r_iload_n C d5_bookFault_10 rfl ?_
    refine r_iconst C d5_bookFault_11 ?_
    refine r_sipush C d5_bookFault_12 (by decide +kernel) ?_
    obtain ⟨r5, h4, h⟩ := bd_of h
    refine cS3_i C M d5_bookFault_15 l5_104 w5_isWithin (ev5_isWithin C.lt hN h4) rfl (Nat.le_of_ble_eq_true rfl) (Nat.le_of_ble_eq_true rfl) ?_
    refine x_ifne (tgt := 23) C d5_bookFault_18 rfl (fun c6 => ?_) (fun c6 => ?_)
    · replace h := ite_p c6 h
      refine r_iconst C d5_bookFault_21 ?_
      exact e_i C M d5_bookFault_22 (Nat.le_of_ble_eq_true rfl) (Nat.le_of_ble_eq_true rfl) h
    · replace h := ite_m c6 h
      refine r_iload_n C d5_bookFault_23 rfl ?_
      refine r_aload_n C d5_bookFault_24 rfl ?_
      refine g_main_4 C d5_bookFault_25 f5_36 hN ?_
      refine g_plan_1 C d5_bookFault_28 f5_129 hN p0 ?_
      obtain ⟨y14, h15, h⟩ := bd_of h
      suffices J16 : At G X 0 0 67 [] [vI y14] V by
        replace h := h15
        refine x_icmplt (tgt := 66) C d5_bookFault_31 rfl (fun c7 => ?_) (fun c7 => ?_)
        · replace h := ite_p c7 h
          refine r_iconst C d5_bookFault_66 ?_
          cases h
          exact AtH.sw J16 trivial
        · replace h := ite_m c7 h
          refine r_aload_n C d5_bookFault_34 rfl ?_
          refine g_main_4 C d5_bookFault_35 f5_36 hN ?_
          refine g_plan_5 C d5_bookFault_38 f5_175 hN p0 ?_
          refine r_bipush C d5_bookFault_41 (by decide +kernel) ?_
          refine x_icmpge (tgt := 66) C d5_bookFault_43 rfl (fun c8 => ?_) (fun c8 => ?_)
          · replace h := ite_p c8 h
            refine r_iconst C d5_bookFault_66 ?_
            cases h
            exact AtH.sw J16 trivial
          · replace h := ite_m c8 h
            refine r_aload_n C d5_bookFault_46 rfl ?_
            refine r_iload_n C d5_bookFault_47 rfl ?_
            refine r_iload_n C d5_bookFault_48 rfl ?_
            refine r_aload_n C d5_bookFault_49 rfl ?_
            refine r_iload_n C d5_bookFault_50 rfl ?_
            obtain ⟨r10, h9, h⟩ := bd_of h
            refine cV1_i C M d5_bookFault_51 l5_139 w5_transitOf (rc_main hN) (ev5_transitOf C.lt hN h9) rfl (Nat.le_of_ble_eq_true rfl) (Nat.le_of_ble_eq_true rfl) ?_
            refine r_iconst C d5_bookFault_54 ?_
            obtain ⟨r12, h11, h⟩ := bd_of h
            refine cV4_i C M d5_bookFault_55 l5_209 w5_firstClash (rc_main hN) (ev5_firstClash C.lt hN h11) rfl (Nat.le_of_ble_eq_true rfl) (Nat.le_of_ble_eq_true rfl) ?_
            refine r_iconst C d5_bookFault_58 ?_
            refine x_icmpne (tgt := 66) C d5_bookFault_59 rfl (fun c13 => ?_) (fun c13 => ?_)
            · replace h := ite_p c13 h
              refine r_iconst C d5_bookFault_62 ?_
              refine r_goto (tgt := 67) C d5_bookFault_63 rfl ?_
              cases h
              exact AtH.sw J16 trivial
            · replace h := ite_m c13 h
              refine r_iconst C d5_bookFault_66 ?_
              cases h
              exact AtH.sw J16 trivial
      refine x_istore hx C d5_bookFault_67 rfl ?_
      refine r_iload C d5_bookFault_69 rfl ?_
      refine x_ifeq (tgt := 78) C d5_bookFault_71 rfl (fun c17 => ?_) (fun c17 => ?_)
      · replace h := ite_p c17 h
        refine r_iconst C d5_bookFault_78 ?_
        exact e_i C M d5_bookFault_79 (Nat.le_of_ble_eq_true rfl) (Nat.le_of_ble_eq_true rfl) h
      · replace h := ite_m c17 h
        refine r_iconst C d5_bookFault_74 ?_
        refine r_goto (tgt := 79) C d5_bookFault_75 rfl ?_
        exact e_i C M d5_bookFault_79 (Nat.le_of_ble_eq_true rfl) (Nat.le_of_ble_eq_true rfl) h
def f5_remember (V : VV) : Option VV := bd ((if nrm (V 0 7) = nrm 5 then some (0) else some ((V 0 7) + 1))) (fun y2 => ck ((0:Int) ≤ ((up2 V 0 7 y2) 0 7) ∧ ((up2 V 0 7 y2) 0 7) < 6) (bd (f1_copyFrom (up2 V 0 7 y2) ((Int.toNat ((up2 V 0 7 y2) 0 7)) + 2) 0) (fun W7 => (if nrm 6 ≤ nrm (W7 0 8) then some W7 else some (up2 W7 0 8 ((W7 0 8) + 1))))))
theorem ev5_remember {G : GT} {l : Launch} {V : VV} {V1 : VV} (hlt : l.stackTraces = false) (hN : 148 ≤ gN G) (h : f5_remember V = some V1) : EvX G l y5_remember b5_remember 1 none 2 0 0 [.ref (gB G + 0)] V (.ok none) V1 := by
  refine ev_w hlt (by decide +kernel) rfl rfl (fun X hl hx C M => ?_)
  subst hl
  replace C : Cx G X "ChannelSchedule" b5_remember := C
  unfold f5_remember at h
  show At G X 0 0 0 [(0, .ref (gB G + 0))] [] V
  refine r_aload_n C d5_remember_0 rfl ?_
  refine r_aload_n C d5_remember_1 rfl ?_
  refine g_main_7 C d5_remember_2 f5_47 hN ?_
  refine r_iconst C d5_remember_5 ?_
  obtain ⟨y2, h3, h⟩ := bd_of h
  suffices J4 : At G X 0 0 19 [(0, .ref (gB G + 0))] [vI y2, .ref (gB G + 0)] V by
    replace h := h3
    refine x_icmpne (tgt := 13) C d5_remember_6 rfl (fun c1 => ?_) (fun c1 => ?_)
    · replace h := ite_p c1 h
      refine r_iconst C d5_remember_9 ?_
      refine r_goto (tgt := 19) C d5_remember_10 rfl ?_
      cases h
      exact AtH.sw J4 ⟨rfl, trivial⟩
    · replace h := ite_m c1 h
      refine r_aload_n C d5_remember_13 rfl ?_
      refine g_main_7 C d5_remember_14 f5_47 hN ?_
      refine r_iconst C d5_remember_17 ?_
      refine r_iadd C d5_remember_18 ?_
      cases h
      exact AtH.sw J4 ⟨rfl, trivial⟩
  refine p_main_7 C d5_remember_19 f5_47 hN ?_
  refine r_aload_n C d5_remember_22 rfl ?_
  refine g_main_6 C d5_remember_23 f5_43 hN ?_
  refine r_aload_n C d5_remember_26 rfl ?_
  refine g_main_7 C d5_remember_27 f5_47 hN ?_
  obtain ⟨c5, h⟩ := ck_of h
  refine x_past C d5_remember_30 hN c5 ?_
  refine r_aload_n C d5_remember_31 rfl ?_
  refine g_main_4 C d5_remember_32 f5_36 hN ?_
  obtain ⟨W7, h6, h⟩ := bd_of h
  refine cV1_v C M d5_remember_35 l5_261 w1_copyFrom (rc_plan hN (by omega : (Int.toNat ((up2 V 0 7 y2) 0 7)) + 2 < 10)) (ev1_copyFrom C.lt hN h6) rfl (Nat.le_of_ble_eq_true rfl) (Nat.le_of_ble_eq_true rfl) ?_
  refine r_aload_n C d5_remember_38 rfl ?_
  refine g_main_8 C d5_remember_39 f5_51 hN ?_
  refine r_bipush C d5_remember_42 (by decide +kernel) ?_
  refine x_icmpge (tgt := 57) C d5_remember_44 rfl (fun c8 => ?_) (fun c8 => ?_)
  · replace h := ite_p c8 h
    exact e_v C M d5_remember_57 (Nat.le_of_ble_eq_true rfl) (Nat.le_of_ble_eq_true rfl) h
  · replace h := ite_m c8 h
    refine r_aload_n C d5_remember_47 rfl ?_
    refine r_dup C d5_remember_48 rfl ?_
    refine g_main_8 C d5_remember_49 f5_51 hN ?_
    refine r_iconst C d5_remember_52 ?_
    refine r_iadd C d5_remember_53 ?_
    refine p_main_8 C d5_remember_54 f5_51 hN ?_
    exact e_v C M d5_remember_57 (Nat.le_of_ble_eq_true rfl) (Nat.le_of_ble_eq_true rfl) h
def f5_bookNow (V : VV) (x1 : Int) (x2 : Int) (x3 : Int) : Option (Int × VV) := bd (f5_transitOf V x1) (fun r2 => bd (f1_insertBooking V 0 x1 x2 x3 (x3 + r2)) (fun W4 => some (x3 + r2, up2 W4 (aP 0) 2 ((W4 (aP 0) 2) + 1))))
theorem ev5_bookNow {G : GT} {l : Launch} {V : VV} {x1 : Int} {x2 : Int} {x3 : Int} {r : Int} {V1 : VV} (hlt : l.stackTraces = false) (hN : 148 ≤ gN G) (h : f5_bookNow V x1 x2 x3 = some (r, V1)) : EvX G l y5_bookNow b5_bookNow 5 (some .int) 2 0 0 [.ref (gB G + 0), vI x1, vI x2, vI x3] V (.ok (some (vI r))) V1 := by
  refine ev_w hlt (by decide +kernel) rfl rfl (fun X hl hx C M => ?_)
  subst hl
  replace C : Cx G X "ChannelSchedule" b5_bookNow := C
  unfold f5_bookNow at h
  show At G X 0 0 0 [(0, .ref (gB G + 0)), (1, vI x1), (2, vI x2), (3, vI x3)] [] V
  refine r_iload_n C d5_bookNow_0 rfl ?_
  refine r_aload_n C d5_bookNow_1 rfl ?_
  refine r_iload_n C d5_bookNow_2 rfl ?_
  obtain ⟨r2, h1, h⟩ := bd_of h
  refine cV1_i C M d5_bookNow_3 l5_139 w5_transitOf (rc_main hN) (ev5_transitOf C.lt hN h1) rfl (Nat.le_of_ble_eq_true rfl) (Nat.le_of_ble_eq_true rfl) ?_
  refine r_iadd C d5_bookNow_6 ?_
  refine x_istore hx C d5_bookNow_7 rfl ?_
  refine r_aload_n C d5_bookNow_9 rfl ?_
  refine g_main_4 C d5_bookNow_10 f5_36 hN ?_
  refine r_iload_n C d5_bookNow_13 rfl ?_
  refine r_iload_n C d5_bookNow_14 rfl ?_
  refine r_iload_n C d5_bookNow_15 rfl ?_
  refine r_iload C d5_bookNow_16 rfl ?_
  obtain ⟨W4, h3, h⟩ := bd_of h
  refine cV4_v C M d5_bookNow_18 l5_366 w1_insertBooking (rc_plan hN p0) (ev1_insertBooking C.lt hN h3) rfl (Nat.le_of_ble_eq_true rfl) (Nat.le_of_ble_eq_true rfl) ?_
  refine r_aload_n C d5_bookNow_21 rfl ?_
  refine g_main_4 C d5_bookNow_22 f5_36 hN ?_
  refine r_dup C d5_bookNow_25 rfl ?_
  refine g_plan_2 C d5_bookNow_26 f5_268 hN p0 ?_
  refine r_iconst C d5_bookNow_29 ?_
  refine r_iadd C d5_bookNow_30 ?_
  refine p_plan_2 C d5_bookNow_31 f5_268 hN p0 ?_
  refine r_iload C d5_bookNow_34 rfl ?_
  exact e_iv C M d5_bookNow_36 (Nat.le_of_ble_eq_true rfl) (Nat.le_of_ble_eq_true rfl) h
def f5_book (V : VV) (x1 : Int) (x2 : Int) (x3 : Int) : Option (Int × VV) := bd (f5_bookFault V x1 x2 x3) (fun r2 => ck (¬ nrm r2 = 1 ∧ ¬ nrm r2 = 2 ∧ ¬ nrm r2 = 3) (bd (f5_remember V) (fun W5 => bd2 (f5_bookNow W5 x1 x2 x3) (fun r7 W8 => some (r7, W8)))))
theorem ev5_book {G : GT} {l : Launch} {V : VV} {x1 : Int} {x2 : Int} {x3 : Int} {r : Int} {V1 : VV} (hlt : l.stackTraces = false) (hN : 148 ≤ gN G) (h : f5_book V x1 x2 x3 = some (r, V1)) : EvX G l y5_book b5_book 4 (some .int) 4 0 0 [.ref (gB G + 0), vI x1, vI x2, vI x3] V (.ok (some (vI r))) V1 := by
  refine ev_w hlt (by decide +kernel) rfl rfl (fun X hl hx C M => ?_)
  subst hl
  replace C : Cx G X "ChannelSchedule" b5_book := C
  unfold f5_book at h
  show At G X 0 0 0 [(0, .ref (gB G + 0)), (1, vI x1), (2, vI x2), (3, vI x3)] [] V
  refine r_aload_n C d5_book_0 rfl ?_
  refine r_iload_n C d5_book_1 rfl ?_
  refine r_iload_n C d5_book_2 rfl ?_
  refine r_iload_n C d5_book_3 rfl ?_
  obtain ⟨r2, h1, h⟩ := bd_of h
  refine cV3_i C M d5_book_4 l5_277 w5_bookFault (rc_main hN) (ev5_bookFault C.lt hN h1) rfl (Nat.le_of_ble_eq_true rfl) (Nat.le_of_ble_eq_true rfl) ?_
  obtain ⟨c3, h⟩ := ck_of h
  refine cS1_v C M d5_book_7 l5_281 w5_refuse (ev5_refuse C.lt c3) rfl (Nat.le_of_ble_eq_true rfl) (Nat.le_of_ble_eq_true rfl) ?_
  refine r_aload_n C d5_book_10 rfl ?_
  obtain ⟨W5, h4, h⟩ := bd_of h
  refine cV0_v C M d5_book_11 l5_284 w5_remember (rc_main hN) (ev5_remember C.lt hN h4) rfl (Nat.le_of_ble_eq_true rfl) (Nat.le_of_ble_eq_true rfl) ?_
  refine r_aload_n C d5_book_14 rfl ?_
  refine r_iload_n C d5_book_15 rfl ?_
  refine r_iload_n C d5_book_16 rfl ?_
  refine r_iload_n C d5_book_17 rfl ?_
  obtain ⟨r7, W8, h6, h⟩ := bd2_of h
  refine cV3_i C M d5_book_18 l5_287 w5_bookNow (rc_main hN) (ev5_bookNow C.lt hN h6) rfl (Nat.le_of_ble_eq_true rfl) (Nat.le_of_ble_eq_true rfl) ?_
  exact e_iv C M d5_book_21 (Nat.le_of_ble_eq_true rfl) (Nat.le_of_ble_eq_true rfl) h
def f5_leastFreeStart_L31 (V : VV) (x1 : Int) (x3 : Int) (x4 : Int) (x5 : Int) (x7 : Int) (x8 : Int) : Nat → Int → Int → Option (Int)
  | 0, _, _ => none
  | n + 1, x6, x9 => (if nrm (V (aP 0) 5) ≤ nrm x9 then some x6 else ck ((0:Int) ≤ x9 ∧ x9 < 20) (bd ((if nrm (V (aP 0 + 2) (Int.toNat x9)) = nrm x1 then some (1) else some (0))) (fun y6 => bd (f5_freeAfter V (V (aP 0 + 3) (Int.toNat x9)) (V (aP 0 + 4) (Int.toNat x9)) y6 x4) (fun r10 => (if nrm x9 = nrm x5 then f5_leastFreeStart_L31 V x1 x3 x4 x5 x7 x8 n x6 (x9 + 1) else (if nrm r10 ≤ nrm x6 then f5_leastFreeStart_L31 V x1 x3 x4 x5 x7 x8 n x6 (x9 + 1) else bd (f5_freeBefore V (V (aP 0 + 3) (Int.toNat x9)) (V (aP 0 + 4) (Int.toNat x9)) y6 x4) (fun r14 => (if nrm x6 ≤ nrm r14 then f5_leastFreeStart_L31 V x1 x3 x4 x5 x7 x8 n x6 (x9 + 1) else f5_leastFreeStart_L31 V x1 x3 x4 x5 x7 x8 n r10 (x9 + 1)))))))))
theorem lp5_leastFreeStart_31 {G : GT} {X : CT} {cells slots : Nat} {V : VV} (hN : 148 ≤ gN G) (hx : xN X = 12) (C : Cx G X "ChannelSchedule" b5_leastFreeStart) {x1 : Int} {x3 : Int} {x4 : Int} {x5 : Int} {x7 : Int} {x8 : Int} {o0 : Except String (Option Value)} {V9 : VV} (M : MX G X 1 0 0 (some .int) o0 V9) (hc : cells ≤ 0) (hs : slots ≤ 0) : ∀ (n : Nat) {x6 : Int} {x9 : Int} {e6 : Int}, f5_leastFreeStart_L31 V x1 x3 x4 x5 x7 x8 n x6 x9 = some (e6) → At G X cells slots 151 [(0, .ref (gB G + 0)), (1, vI x1), (3, vI x3), (4, vI x4), (5, vI x5), (6, vI e6), (7, vI x7), (8, vI x8)] [] V → At G X cells slots 31 [(0, .ref (gB G + 0)), (1, vI x1), (3, vI x3), (4, vI x4), (5, vI x5), (6, vI x6), (7, vI x7), (8, vI x8), (9, vI x9)] [] V := by
  intro n
  induction n with
  | zero => intro x6 x9 e6 h _; exact nomatch h
  | succ n ih =>
    intro x6 x9 e6 h K
    rw [f5_leastFreeStart_L31] at h
    refine r_iload C d5_leastFreeStart_31 rfl ?_
    refine r_aload_n C d5_leastFreeStart_33 rfl ?_
    refine g_main_4 C d5_leastFreeStart_34 f5_36 hN ?_
    refine g_plan_5 C d5_leastFreeStart_37 f5_175 hN p0 ?_
    refine x_icmpge (tgt := 151) C d5_leastFreeStart_40 rfl (fun c3 => ?_) (fun c3 => ?_)
    · replace h := ite_p c3 h
      cases h
      exact AtH.sw K ⟨rfl, rfl, rfl, rfl, rfl, rfl, rfl, rfl, trivial⟩
    · replace h := ite_m c3 h
      refine r_aload_n C d5_leastFreeStart_43 rfl ?_
      refine g_main_4 C d5_leastFreeStart_44 f5_36 hN ?_
      refine g_plan_7 C d5_leastFreeStart_47 f5_189 hN p0 ?_
      refine r_iload C d5_leastFreeStart_50 rfl ?_
      obtain ⟨c4, h⟩ := ck_of h
      refine x_zald C d5_leastFreeStart_52 (ra_plan2 hN p0) c4 ?_
      refine r_iload_n C d5_leastFreeStart_53 rfl ?_
      obtain ⟨y6, h7, h⟩ := bd_of h
      suffices J8 : At G X cells slots 62 [(0, .ref (gB G + 0)), (1, vI x1), (3, vI x3), (4, vI x4), (5, vI x5), (6, vI x6), (7, vI x7), (8, vI x8), (9, vI x9)] [vI y6] V by
        replace h := h7
        refine x_icmpne (tgt := 61) C d5_leastFreeStart_54 rfl (fun c5 => ?_) (fun c5 => ?_)
        · replace h := ite_p c5 h
          refine r_iconst C d5_leastFreeStart_57 ?_
          refine r_goto (tgt := 62) C d5_leastFreeStart_58 rfl ?_
          cases h
          exact AtH.sw J8 ⟨rfl, rfl, rfl, rfl, rfl, rfl, rfl, rfl, rfl, trivial⟩
        · replace h := ite_m c5 h
          refine r_iconst C d5_leastFreeStart_61 ?_
          cases h
          exact AtH.sw J8 ⟨rfl, rfl, rfl, rfl, rfl, rfl, rfl, rfl, rfl, trivial⟩
      refine x_istore hx C d5_leastFreeStart_62 rfl ?_
      refine r_aload_n C d5_leastFreeStart_64 rfl ?_
      refine r_aload_n C d5_leastFreeStart_65 rfl ?_
      refine g_main_4 C d5_leastFreeStart_66 f5_36 hN ?_
      refine g_plan_8 C d5_leastFreeStart_69 f5_183 hN p0 ?_
      refine r_iload C d5_leastFreeStart_72 rfl ?_
      refine x_iald C d5_leastFreeStart_74 (ra_plan3 hN p0) c4 ?_
      refine r_aload_n C d5_leastFreeStart_75 rfl ?_
      refine g_main_4 C d5_leastFreeStart_76 f5_36 hN ?_
      refine g_plan_9 C d5_leastFreeStart_79 f5_186 hN p0 ?_
      refine r_iload C d5_leastFreeStart_82 rfl ?_
      refine x_iald C d5_leastFreeStart_84 (ra_plan4 hN p0) c4 ?_
      refine r_iload C d5_leastFreeStart_85 rfl ?_
      refine r_iload C d5_leastFreeStart_87 rfl ?_
      obtain ⟨r10, h9, h⟩ := bd_of h
      refine cV4_i C M d5_leastFreeStart_89 l5_351 w5_freeAfter (rc_main hN) (ev5_freeAfter C.lt hN h9) rfl hc hs ?_
      refine x_istore hx C d5_leastFreeStart_92 rfl ?_
      refine r_iload C d5_leastFreeStart_94 rfl ?_
      refine r_iload C d5_leastFreeStart_96 rfl ?_
      refine x_icmpeq (tgt := 145) C d5_leastFreeStart_98 rfl (fun c11 => ?_) (fun c11 => ?_)
      · replace h := ite_p c11 h
        refine x_iinc hx C d5_leastFreeStart_145 rfl rfl ?_
        refine r_goto (tgt := 31) C d5_leastFreeStart_148 rfl ?_
        exact AtH.sw (ih h K) ⟨rfl, rfl, rfl, rfl, rfl, rfl, rfl, rfl, rfl, trivial⟩
      · replace h := ite_m c11 h
        refine r_iload C d5_leastFreeStart_101 rfl ?_
        refine r_iload C d5_leastFreeStart_103 rfl ?_
        refine x_icmpge (tgt := 145) C d5_leastFreeStart_105 rfl (fun c12 => ?_) (fun c12 => ?_)
        · replace h := ite_p c12 h
          refine x_iinc hx C d5_leastFreeStart_145 rfl rfl ?_
          refine r_goto (tgt := 31) C d5_leastFreeStart_148 rfl ?_
          exact AtH.sw (ih h K) ⟨rfl, rfl, rfl, rfl, rfl, rfl, rfl, rfl, rfl, trivial⟩
        · replace h := ite_m c12 h
          refine r_iload C d5_leastFreeStart_108 rfl ?_
          refine r_aload_n C d5_leastFreeStart_110 rfl ?_
          refine r_aload_n C d5_leastFreeStart_111 rfl ?_
          refine g_main_4 C d5_leastFreeStart_112 f5_36 hN ?_
          refine g_plan_8 C d5_leastFreeStart_115 f5_183 hN p0 ?_
          refine r_iload C d5_leastFreeStart_118 rfl ?_
          refine x_iald C d5_leastFreeStart_120 (ra_plan3 hN p0) c4 ?_
          refine r_aload_n C d5_leastFreeStart_121 rfl ?_
          refine g_main_4 C d5_leastFreeStart_122 f5_36 hN ?_
          refine g_plan_9 C d5_leastFreeStart_125 f5_186 hN p0 ?_
          refine r_iload C d5_leastFreeStart_128 rfl ?_
          refine x_iald C d5_leastFreeStart_130 (ra_plan4 hN p0) c4 ?_
          refine r_iload C d5_leastFreeStart_131 rfl ?_
          refine r_iload C d5_leastFreeStart_133 rfl ?_
          obtain ⟨r14, h13, h⟩ := bd_of h
          refine cV4_i C M d5_leastFreeStart_135 l5_224 w5_freeBefore (rc_main hN) (ev5_freeBefore C.lt hN h13) rfl hc hs ?_
          refine x_icmple (tgt := 145) C d5_leastFreeStart_138 rfl (fun c15 => ?_) (fun c15 => ?_)
          · replace h := ite_p c15 h
            refine x_iinc hx C d5_leastFreeStart_145 rfl rfl ?_
            refine r_goto (tgt := 31) C d5_leastFreeStart_148 rfl ?_
            exact AtH.sw (ih h K) ⟨rfl, rfl, rfl, rfl, rfl, rfl, rfl, rfl, rfl, trivial⟩
          · replace h := ite_m c15 h
            refine r_iload C d5_leastFreeStart_141 rfl ?_
            refine x_istore hx C d5_leastFreeStart_143 rfl ?_
            refine x_iinc hx C d5_leastFreeStart_145 rfl rfl ?_
            refine r_goto (tgt := 31) C d5_leastFreeStart_148 rfl ?_
            exact AtH.sw (ih h K) ⟨rfl, rfl, rfl, rfl, rfl, rfl, rfl, rfl, rfl, trivial⟩
def f5_leastFreeStart_L6 (V : VV) (x1 : Int) (x3 : Int) (x4 : Int) (x5 : Int) : Nat → Int → Int → Option Int
  | 0, _, _ => none
  | n + 1, x6, x7 => (if nrm (V (aP 0) 5) < nrm x7 then some (-1) else (if nrm x3 < nrm x6 then some (-1) else bd (f5_leastFreeStart_L31 V x1 x3 x4 x5 x7 x6 FU x6 0) (fun y16 => (if nrm y16 = nrm x6 then some y16 else f5_leastFreeStart_L6 V x1 x3 x4 x5 n y16 (x7 + 1)))))
theorem lp5_leastFreeStart_6 {G : GT} {X : CT} {cells slots : Nat} {V : VV} (hN : 148 ≤ gN G) (hx : xN X = 12) (C : Cx G X "ChannelSchedule" b5_leastFreeStart) {x1 : Int} {x3 : Int} {x4 : Int} {x5 : Int} : ∀ (n : Nat) {x6 : Int} {x7 : Int} {r : Int}, MX G X 1 0 0 (some .int) (.ok (some (vI r))) V → cells ≤ 0 → slots ≤ 0 → f5_leastFreeStart_L6 V x1 x3 x4 x5 n x6 x7 = some r → At G X cells slots 6 [(0, .ref (gB G + 0)), (1, vI x1), (3, vI x3), (4, vI x4), (5, vI x5), (6, vI x6), (7, vI x7)] [] V := by
  intro n
  induction n with
  | zero => intro x6 x7 r _ _ _ h; exact nomatch h
  | succ n ih =>
    intro x6 x7 r M hc hs h
    rw [f5_leastFreeStart_L6] at h
    refine r_iload C d5_leastFreeStart_6 rfl ?_
    refine r_aload_n C d5_leastFreeStart_8 rfl ?_
    refine g_main_4 C d5_leastFreeStart_9 f5_36 hN ?_
    refine g_plan_5 C d5_leastFreeStart_12 f5_175 hN p0 ?_
    refine x_icmpgt (tgt := 167) C d5_leastFreeStart_15 rfl (fun c1 => ?_) (fun c1 => ?_)
    · replace h := ite_p c1 h
      refine r_iconst C d5_leastFreeStart_167 ?_
      exact e_i C M d5_leastFreeStart_168 hc hs h
    · replace h := ite_m c1 h
      refine r_iload C d5_leastFreeStart_18 rfl ?_
      refine r_iload_n C d5_leastFreeStart_20 rfl ?_
      refine x_icmpgt (tgt := 167) C d5_leastFreeStart_21 rfl (fun c2 => ?_) (fun c2 => ?_)
      · replace h := ite_p c2 h
        refine r_iconst C d5_leastFreeStart_167 ?_
        exact e_i C M d5_leastFreeStart_168 hc hs h
      · replace h := ite_m c2 h
        refine r_iload C d5_leastFreeStart_24 rfl ?_
        refine x_istore hx C d5_leastFreeStart_26 rfl ?_
        refine r_iconst C d5_leastFreeStart_28 ?_
        refine x_istore hx C d5_leastFreeStart_29 rfl ?_
        obtain ⟨y16, h17, h⟩ := bd_of h
        refine AtH.sw (lp5_leastFreeStart_31 hN hx C M hc hs FU h17 ?_) ⟨rfl, rfl, rfl, rfl, rfl, rfl, rfl, rfl, rfl, trivial⟩
        refine r_iload C d5_leastFreeStart_151 rfl ?_
        refine r_iload C d5_leastFreeStart_153 rfl ?_
        refine x_icmpne (tgt := 161) C d5_leastFreeStart_155 rfl (fun c18 => ?_) (fun c18 => ?_)
        · replace h := ite_p c18 h
          refine r_iload C d5_leastFreeStart_158 rfl ?_
          exact e_i C M d5_leastFreeStart_160 hc hs h
        · replace h := ite_m c18 h
          refine x_iinc hx C d5_leastFreeStart_161 rfl rfl ?_
          refine r_goto (tgt := 6) C d5_leastFreeStart_164 rfl ?_
          exact AtH.sw (ih M hc hs h) ⟨rfl, rfl, rfl, rfl, rfl, rfl, rfl, trivial⟩
def f5_leastFreeStart (V : VV) (x1 : Int) (x2 : Int) (x3 : Int) (x4 : Int) (x5 : Int) : Option Int := f5_leastFreeStart_L6 V x1 x3 x4 x5 FU x2 0
theorem ev5_leastFreeStart {G : GT} {l : Launch} {V : VV} {x1 : Int} {x2 : Int} {x3 : Int} {x4 : Int} {x5 : Int} {r : Int} (hlt : l.stackTraces = false) (hN : 148 ≤ gN G) (h : f5_leastFreeStart V x1 x2 x3 x4 x5 = some r) : EvX G l y5_leastFreeStart b5_leastFreeStart 12 (some .int) 1 0 0 [.ref (gB G + 0), vI x1, vI x2, vI x3, vI x4, vI x5] V (.ok (some (vI r))) V := by
  refine ev_w hlt (by decide +kernel) rfl rfl (fun X hl hx C M => ?_)
  subst hl
  replace C : Cx G X "ChannelSchedule" b5_leastFreeStart := C
  unfold f5_leastFreeStart at h
  show At G X 0 0 0 [(0, .ref (gB G + 0)), (1, vI x1), (2, vI x2), (3, vI x3), (4, vI x4), (5, vI x5)] [] V
  refine r_iload_n C d5_leastFreeStart_0 rfl ?_
  refine x_istore hx C d5_leastFreeStart_1 rfl ?_
  refine r_iconst C d5_leastFreeStart_3 ?_
  refine x_istore hx C d5_leastFreeStart_4 rfl ?_
  exact AtH.sw (lp5_leastFreeStart_6 hN hx C FU M (Nat.le_of_ble_eq_true rfl) (Nat.le_of_ble_eq_true rfl) h) ⟨rfl, rfl, rfl, rfl, rfl, rfl, rfl, trivial⟩
def f5_startToServe (V : VV) (x1 : Int) (x2 : Int) (x3 : Int) (x4 : Int) : Option Int := (if nrm (V (aP 0) 5) = nrm 20 then some (-1) else bd ((if nrm x3 ≤ nrm (V (aP 0) 1) then some (V (aP 0) 1) else some (x3))) (fun y3 => bd (f5_transitOf V x1) (fun r7 => bd (f5_leastFreeStart V x2 y3 x4 r7 (-1)) (fun r9 => some r9))))
theorem ev5_startToServe {G : GT} {l : Launch} {V : VV} {x1 : Int} {x2 : Int} {x3 : Int} {x4 : Int} {r : Int} (hlt : l.stackTraces = false) (hN : 148 ≤ gN G) (h : f5_startToServe V x1 x2 x3 x4 = some r) : EvX G l y5_startToServe b5_startToServe 6 (some .int) 2 0 0 [.ref (gB G + 0), vI x1, vI x2, vI x3, vI x4] V (.ok (some (vI r))) V := by
  refine ev_w hlt (by decide +kernel) rfl rfl (fun X hl hx C M => ?_)
  subst hl
  replace C : Cx G X "ChannelSchedule" b5_startToServe := C
  unfold f5_startToServe at h
  show At G X 0 0 0 [(0, .ref (gB G + 0)), (1, vI x1), (2, vI x2), (3, vI x3), (4, vI x4)] [] V
  refine r_aload_n C d5_startToServe_0 rfl ?_
  refine g_main_4 C d5_startToServe_1 f5_36 hN ?_
  refine g_plan_5 C d5_startToServe_4 f5_175 hN p0 ?_
  refine r_bipush C d5_startToServe_7 (by decide +kernel) ?_
  refine x_icmpne (tgt := 14) C d5_startToServe_9 rfl (fun c1 => ?_) (fun c1 => ?_)
  · replace h := ite_p c1 h
    refine r_iconst C d5_startToServe_12 ?_
    exact e_i C M d5_startToServe_13 (Nat.le_of_ble_eq_true rfl) (Nat.le_of_ble_eq_true rfl) h
  · replace h := ite_m c1 h
    refine r_iload_n C d5_startToServe_14 rfl ?_
    refine r_aload_n C d5_startToServe_15 rfl ?_
    refine g_main_4 C d5_startToServe_16 f5_36 hN ?_
    refine g_plan_1 C d5_startToServe_19 f5_129 hN p0 ?_
    obtain ⟨y3, h4, h⟩ := bd_of h
    suffices J5 : At G X 0 0 36 [(0, .ref (gB G + 0)), (1, vI x1), (2, vI x2), (4, vI x4)] [vI y3] V by
      replace h := h4
      refine x_icmple (tgt := 29) C d5_startToServe_22 rfl (fun c2 => ?_) (fun c2 => ?_)
      · replace h := ite_p c2 h
        refine r_aload_n C d5_startToServe_29 rfl ?_
        refine g_main_4 C d5_startToServe_30 f5_36 hN ?_
        refine g_plan_1 C d5_startToServe_33 f5_129 hN p0 ?_
        cases h
        exact AtH.sw J5 ⟨rfl, rfl, rfl, rfl, trivial⟩
      · replace h := ite_m c2 h
        refine r_iload_n C d5_startToServe_25 rfl ?_
        refine r_goto (tgt := 36) C d5_startToServe_26 rfl ?_
        cases h
        exact AtH.sw J5 ⟨rfl, rfl, rfl, rfl, trivial⟩
    refine x_istore hx C d5_startToServe_36 rfl ?_
    refine r_aload_n C d5_startToServe_38 rfl ?_
    refine r_iload_n C d5_startToServe_39 rfl ?_
    refine r_iload C d5_startToServe_40 rfl ?_
    refine r_iload C d5_startToServe_42 rfl ?_
    refine r_aload_n C d5_startToServe_44 rfl ?_
    refine r_iload_n C d5_startToServe_45 rfl ?_
    obtain ⟨r7, h6, h⟩ := bd_of h
    refine cV1_i C M d5_startToServe_46 l5_139 w5_transitOf (rc_main hN) (ev5_transitOf C.lt hN h6) rfl (Nat.le_of_ble_eq_true rfl) (Nat.le_of_ble_eq_true rfl) ?_
    refine r_iconst C d5_startToServe_49 ?_
    obtain ⟨r9, h8, h⟩ := bd_of h
    refine cV5_i C M d5_startToServe_50 l5_213 w5_leastFreeStart (rc_main hN) (ev5_leastFreeStart C.lt hN h8) rfl (Nat.le_of_ble_eq_true rfl) (Nat.le_of_ble_eq_true rfl) ?_
    exact e_i C M d5_startToServe_53 (Nat.le_of_ble_eq_true rfl) (Nat.le_of_ble_eq_true rfl) h
def f5_requestFault (V : VV) (x1 : Int) (x2 : Int) (x3 : Int) (x4 : Int) : Option Int := bd (f5_isShip V x1) (fun r2 => (if nrm r2 = 0 then some 1 else bd (f5_isWithin V x3 0 999) (fun r5 => (if nrm r5 = 0 then some 2 else bd (f5_isWithin V x4 x3 999) (fun r8 => (if nrm r8 = 0 then some 2 else bd ((if nrm (V (aP 0) 10) < nrm 8 then some (1) else bd (f5_startToServe V x1 x2 x3 x4) (fun r12 => (if nrm r12 = nrm (-1) then some (0) else some (1))))) (fun y14 => (if nrm y14 = 0 then some 3 else some 0))))))))
theorem ev5_requestFault {G : GT} {l : Launch} {V : VV} {x1 : Int} {x2 : Int} {x3 : Int} {x4 : Int} {r : Int} (hlt : l.stackTraces = false) (hN : 148 ≤ gN G) (h : f5_requestFault V x1 x2 x3 x4 = some r) : EvX G l y5_requestFault b5_requestFault 6 (some .int) 3 0 0 [.ref (gB G + 0), vI x1, vI x2, vI x3, vI x4] V (.ok (some (vI r))) V := by
  refine ev_w hlt (by decide +kernel) rfl rfl (fun X hl hx C M => ?_)
  subst hl
  replace C : Cx G X "ChannelSchedule" b5_requestFault := C
  unfold f5_requestFault at h
  show At G X 0 0 0 [(0, .ref (gB G + 0)), (1, vI x1), (2, vI x2), (3, vI x3), (4, vI x4)] [] V
  refine r_aload_n C d5_requestFault_0 rfl ?_
  refine r_iload_n C d5_requestFault_1 rfl ?_
  obtain ⟨r2, h1, h⟩ := bd_of h
  refine cV1_i C M d5_requestFault_2 l5_132 w5_isShip (rc_main hN) (ev5_isShip C.lt hN h1) rfl (Nat.le_of_ble_eq_true rfl) (Nat.le_of_ble_eq_true rfl) ?_
  refine x_ifne (tgt := 10) C d5_requestFault_5 rfl (fun c3 => ?_) (fun c3 => ?_)
  · replace h := ite_p c3 h
    refine r_iconst C d5_requestFault_8 ?_
    exact e_i C M d5_requestFault_9 (Nat.le_of_ble_eq_true rfl) (Nat.le_of_ble_eq_true rfl) h
  · replace h := ite_m c3 h
    refine r_iload_n C d5_requestFault_10 rfl ?_
    refine r_iconst C d5_requestFault_11 ?_
    refine r_sipush C d5_requestFault_12 (by decide +kernel) ?_
    obtain ⟨r5, h4, h⟩ := bd_of h
    refine cS3_i C M d5_requestFault_15 l5_104 w5_isWithin (ev5_isWithin C.lt hN h4) rfl (Nat.le_of_ble_eq_true rfl) (Nat.le_of_ble_eq_true rfl) ?_
    refine x_ifeq (tgt := 33) C d5_requestFault_18 rfl (fun c6 => ?_) (fun c6 => ?_)
    · replace h := ite_p c6 h
      refine r_iconst C d5_requestFault_33 ?_
      exact e_i C M d5_requestFault_34 (Nat.le_of_ble_eq_true rfl) (Nat.le_of_ble_eq_true rfl) h
    · replace h := ite_m c6 h
      refine r_iload C d5_requestFault_21 rfl ?_
      refine r_iload_n C d5_requestFault_23 rfl ?_
      refine r_sipush C d5_requestFault_24 (by decide +kernel) ?_
      obtain ⟨r8, h7, h⟩ := bd_of h
      refine cS3_i C M d5_requestFault_27 l5_104 w5_isWithin (ev5_isWithin C.lt hN h7) rfl (Nat.le_of_ble_eq_true rfl) (Nat.le_of_ble_eq_true rfl) ?_
      refine x_ifne (tgt := 35) C d5_requestFault_30 rfl (fun c9 => ?_) (fun c9 => ?_)
      · replace h := ite_p c9 h
        refine r_iconst C d5_requestFault_33 ?_
        exact e_i C M d5_requestFault_34 (Nat.le_of_ble_eq_true rfl) (Nat.le_of_ble_eq_true rfl) h
      · replace h := ite_m c9 h
        refine r_aload_n C d5_requestFault_35 rfl ?_
        refine g_main_4 C d5_requestFault_36 f5_36 hN ?_
        refine g_plan_10 C d5_requestFault_39 f5_231 hN p0 ?_
        refine r_bipush C d5_requestFault_42 (by decide +kernel) ?_
        obtain ⟨y14, h15, h⟩ := bd_of h
        suffices J16 : At G X 0 0 65 [] [vI y14] V by
          replace h := h15
          refine x_icmplt (tgt := 60) C d5_requestFault_44 rfl (fun c10 => ?_) (fun c10 => ?_)
          · replace h := ite_p c10 h
            refine r_iconst C d5_requestFault_60 ?_
            refine r_goto (tgt := 65) C d5_requestFault_61 rfl ?_
            cases h
            exact AtH.sw J16 trivial
          · replace h := ite_m c10 h
            refine r_aload_n C d5_requestFault_47 rfl ?_
            refine r_iload_n C d5_requestFault_48 rfl ?_
            refine r_iload_n C d5_requestFault_49 rfl ?_
            refine r_iload_n C d5_requestFault_50 rfl ?_
            refine r_iload C d5_requestFault_51 rfl ?_
            obtain ⟨r12, h11, h⟩ := bd_of h
            refine cV4_i C M d5_requestFault_53 l5_354 w5_startToServe (rc_main hN) (ev5_startToServe C.lt hN h11) rfl (Nat.le_of_ble_eq_true rfl) (Nat.le_of_ble_eq_true rfl) ?_
            refine r_iconst C d5_requestFault_56 ?_
            refine x_icmpeq (tgt := 64) C d5_requestFault_57 rfl (fun c13 => ?_) (fun c13 => ?_)
            · replace h := ite_p c13 h
              refine r_iconst C d5_requestFault_64 ?_
              cases h
              exact AtH.sw J16 trivial
            · replace h := ite_m c13 h
              refine r_iconst C d5_requestFault_60 ?_
              refine r_goto (tgt := 65) C d5_requestFault_61 rfl ?_
              cases h
              exact AtH.sw J16 trivial
        refine x_istore hx C d5_requestFault_65 rfl ?_
        refine r_iload C d5_requestFault_67 rfl ?_
        refine x_ifeq (tgt := 76) C d5_requestFault_69 rfl (fun c17 => ?_) (fun c17 => ?_)
        · replace h := ite_p c17 h
          refine r_iconst C d5_requestFault_76 ?_
          exact e_i C M d5_requestFault_77 (Nat.le_of_ble_eq_true rfl) (Nat.le_of_ble_eq_true rfl) h
        · replace h := ite_m c17 h
          refine r_iconst C d5_requestFault_72 ?_
          refine r_goto (tgt := 77) C d5_requestFault_73 rfl ?_
          exact e_i C M d5_requestFault_77 (Nat.le_of_ble_eq_true rfl) (Nat.le_of_ble_eq_true rfl) h
def f5_requestNow (V : VV) (x1 : Int) (x2 : Int) (x3 : Int) (x4 : Int) : Option (Int × VV) := bd (f5_startToServe V x1 x2 x3 x4) (fun r2 => (if nrm r2 = nrm (-1) then bd (f1_addRequest V 0 x1 x2 x3 x4) (fun W5 => some (r2, W5)) else bd2 (f5_bookNow V x1 x2 r2) (fun r7 W8 => some (r2, W8))))
theorem ev5_requestNow {G : GT} {l : Launch} {V : VV} {x1 : Int} {x2 : Int} {x3 : Int} {x4 : Int} {r : Int} {V1 : VV} (hlt : l.stackTraces = false) (hN : 148 ≤ gN G) (h : f5_requestNow V x1 x2 x3 x4 = some (r, V1)) : EvX G l y5_requestNow b5_requestNow 6 (some .int) 3 0 0 [.ref (gB G + 0), vI x1, vI x2, vI x3, vI x4] V (.ok (some (vI r))) V1 := by
  refine ev_w hlt (by decide +kernel) rfl rfl (fun X hl hx C M => ?_)
  subst hl
  replace C : Cx G X "ChannelSchedule" b5_requestNow := C
  unfold f5_requestNow at h
  show At G X 0 0 0 [(0, .ref (gB G + 0)), (1, vI x1), (2, vI x2), (3, vI x3), (4, vI x4)] [] V
  refine r_aload_n C d5_requestNow_0 rfl ?_
  refine r_iload_n C d5_requestNow_1 rfl ?_
  refine r_iload_n C d5_requestNow_2 rfl ?_
  refine r_iload_n C d5_requestNow_3 rfl ?_
  refine r_iload C d5_requestNow_4 rfl ?_
  obtain ⟨r2, h1, h⟩ := bd_of h
  refine cV4_i C M d5_requestNow_6 l5_354 w5_startToServe (rc_main hN) (ev5_startToServe C.lt hN h1) rfl (Nat.le_of_ble_eq_true rfl) (Nat.le_of_ble_eq_true rfl) ?_
  refine x_istore hx C d5_requestNow_9 rfl ?_
  refine r_iload C d5_requestNow_11 rfl ?_
  refine r_iconst C d5_requestNow_13 ?_
  refine x_icmpne (tgt := 32) C d5_requestNow_14 rfl (fun c3 => ?_) (fun c3 => ?_)
  · replace h := ite_p c3 h
    refine r_aload_n C d5_requestNow_17 rfl ?_
    refine g_main_4 C d5_requestNow_18 f5_36 hN ?_
    refine r_iload_n C d5_requestNow_21 rfl ?_
    refine r_iload_n C d5_requestNow_22 rfl ?_
    refine r_iload_n C d5_requestNow_23 rfl ?_
    refine r_iload C d5_requestNow_24 rfl ?_
    obtain ⟨W5, h4, h⟩ := bd_of h
    refine cV4_v C M d5_requestNow_26 l5_370 w1_addRequest (rc_plan hN p0) (ev1_addRequest C.lt hN h4) rfl (Nat.le_of_ble_eq_true rfl) (Nat.le_of_ble_eq_true rfl) ?_
    refine r_goto (tgt := 41) C d5_requestNow_29 rfl ?_
    refine r_iload C d5_requestNow_41 rfl ?_
    exact e_iv C M d5_requestNow_43 (Nat.le_of_ble_eq_true rfl) (Nat.le_of_ble_eq_true rfl) h
  · replace h := ite_m c3 h
    refine r_aload_n C d5_requestNow_32 rfl ?_
    refine r_iload_n C d5_requestNow_33 rfl ?_
    refine r_iload_n C d5_requestNow_34 rfl ?_
    refine r_iload C d5_requestNow_35 rfl ?_
    obtain ⟨r7, W8, h6, h⟩ := bd2_of h
    refine cV3_i C M d5_requestNow_37 l5_287 w5_bookNow (rc_main hN) (ev5_bookNow C.lt hN h6) rfl (Nat.le_of_ble_eq_true rfl) (Nat.le_of_ble_eq_true rfl) ?_
    refine r_pop C d5_requestNow_40 rfl ?_
    refine r_iload C d5_requestNow_41 rfl ?_
    exact e_iv C M d5_requestNow_43 (Nat.le_of_ble_eq_true rfl) (Nat.le_of_ble_eq_true rfl) h
def f5_request (V : VV) (x1 : Int) (x2 : Int) (x3 : Int) (x4 : Int) : Option (Int × VV) := bd (f5_requestFault V x1 x2 x3 x4) (fun r2 => ck (¬ nrm r2 = 1 ∧ ¬ nrm r2 = 2 ∧ ¬ nrm r2 = 3) (bd (f5_remember V) (fun W5 => bd2 (f5_requestNow W5 x1 x2 x3 x4) (fun r7 W8 => some (r7, W8)))))
theorem ev5_request {G : GT} {l : Launch} {V : VV} {x1 : Int} {x2 : Int} {x3 : Int} {x4 : Int} {r : Int} {V1 : VV} (hlt : l.stackTraces = false) (hN : 148 ≤ gN G) (h : f5_request V x1 x2 x3 x4 = some (r, V1)) : EvX G l y5_request b5_request 5 (some .int) 4 0 0 [.ref (gB G + 0), vI x1, vI x2, vI x3, vI x4] V (.ok (some (vI r))) V1 := by
  refine ev_w hlt (by decide +kernel) rfl rfl (fun X hl hx C M => ?_)
  subst hl
  replace C : Cx G X "ChannelSchedule" b5_request := C
  unfold f5_request at h
  show At G X 0 0 0 [(0, .ref (gB G + 0)), (1, vI x1), (2, vI x2), (3, vI x3), (4, vI x4)] [] V
  refine r_aload_n C d5_request_0 rfl ?_
  refine r_iload_n C d5_request_1 rfl ?_
  refine r_iload_n C d5_request_2 rfl ?_
  refine r_iload_n C d5_request_3 rfl ?_
  refine r_iload C d5_request_4 rfl ?_
  obtain ⟨r2, h1, h⟩ := bd_of h
  refine cV4_i C M d5_request_6 l5_290 w5_requestFault (rc_main hN) (ev5_requestFault C.lt hN h1) rfl (Nat.le_of_ble_eq_true rfl) (Nat.le_of_ble_eq_true rfl) ?_
  obtain ⟨c3, h⟩ := ck_of h
  refine cS1_v C M d5_request_9 l5_281 w5_refuse (ev5_refuse C.lt c3) rfl (Nat.le_of_ble_eq_true rfl) (Nat.le_of_ble_eq_true rfl) ?_
  refine r_aload_n C d5_request_12 rfl ?_
  obtain ⟨W5, h4, h⟩ := bd_of h
  refine cV0_v C M d5_request_13 l5_284 w5_remember (rc_main hN) (ev5_remember C.lt hN h4) rfl (Nat.le_of_ble_eq_true rfl) (Nat.le_of_ble_eq_true rfl) ?_
  refine r_aload_n C d5_request_16 rfl ?_
  refine r_iload_n C d5_request_17 rfl ?_
  refine r_iload_n C d5_request_18 rfl ?_
  refine r_iload_n C d5_request_19 rfl ?_
  refine r_iload C d5_request_20 rfl ?_
  obtain ⟨r7, W8, h6, h⟩ := bd2_of h
  refine cV4_i C M d5_request_22 l5_294 w5_requestNow (rc_main hN) (ev5_requestNow C.lt hN h6) rfl (Nat.le_of_ble_eq_true rfl) (Nat.le_of_ble_eq_true rfl) ?_
  exact e_iv C M d5_request_25 (Nat.le_of_ble_eq_true rfl) (Nat.le_of_ble_eq_true rfl) h
def f5_cancelFault (V : VV) (x1 : Int) : Option Int := bd (f5_isBooking V x1) (fun r2 => (if nrm r2 = 0 then some 1 else ck ((0:Int) ≤ x1 ∧ x1 < 20) ((if nrm (V (aP 0) 1) < nrm (V (aP 0 + 3) (Int.toNat x1)) then some 0 else some 3))))
theorem ev5_cancelFault {G : GT} {l : Launch} {V : VV} {x1 : Int} {r : Int} (hlt : l.stackTraces = false) (hN : 148 ≤ gN G) (h : f5_cancelFault V x1 = some r) : EvX G l y5_cancelFault b5_cancelFault 2 (some .int) 2 0 0 [.ref (gB G + 0), vI x1] V (.ok (some (vI r))) V := by
  refine ev_w hlt (by decide +kernel) rfl rfl (fun X hl hx C M => ?_)
  subst hl
  replace C : Cx G X "ChannelSchedule" b5_cancelFault := C
  unfold f5_cancelFault at h
  show At G X 0 0 0 [(0, .ref (gB G + 0)), (1, vI x1)] [] V
  refine r_aload_n C d5_cancelFault_0 rfl ?_
  refine r_iload_n C d5_cancelFault_1 rfl ?_
  obtain ⟨r2, h1, h⟩ := bd_of h
  refine cV1_i C M d5_cancelFault_2 l5_178 w5_isBooking (rc_main hN) (ev5_isBooking C.lt hN h1) rfl (Nat.le_of_ble_eq_true rfl) (Nat.le_of_ble_eq_true rfl) ?_
  refine x_ifne (tgt := 10) C d5_cancelFault_5 rfl (fun c3 => ?_) (fun c3 => ?_)
  · replace h := ite_p c3 h
    refine r_iconst C d5_cancelFault_8 ?_
    exact e_i C M d5_cancelFault_9 (Nat.le_of_ble_eq_true rfl) (Nat.le_of_ble_eq_true rfl) h
  · replace h := ite_m c3 h
    refine r_aload_n C d5_cancelFault_10 rfl ?_
    refine g_main_4 C d5_cancelFault_11 f5_36 hN ?_
    refine g_plan_8 C d5_cancelFault_14 f5_183 hN p0 ?_
    refine r_iload_n C d5_cancelFault_17 rfl ?_
    obtain ⟨c4, h⟩ := ck_of h
    refine x_iald C d5_cancelFault_18 (ra_plan3 hN p0) c4 ?_
    refine r_aload_n C d5_cancelFault_19 rfl ?_
    refine g_main_4 C d5_cancelFault_20 f5_36 hN ?_
    refine g_plan_1 C d5_cancelFault_23 f5_129 hN p0 ?_
    refine x_icmpgt (tgt := 33) C d5_cancelFault_26 rfl (fun c5 => ?_) (fun c5 => ?_)
    · replace h := ite_p c5 h
      refine r_iconst C d5_cancelFault_33 ?_
      exact e_i C M d5_cancelFault_34 (Nat.le_of_ble_eq_true rfl) (Nat.le_of_ble_eq_true rfl) h
    · replace h := ite_m c5 h
      refine r_iconst C d5_cancelFault_29 ?_
      refine r_goto (tgt := 34) C d5_cancelFault_30 rfl ?_
      exact e_i C M d5_cancelFault_34 (Nat.le_of_ble_eq_true rfl) (Nat.le_of_ble_eq_true rfl) h
def f5_serveWaiting_L12 : Nat → Int → Int → Int → VV → Option (Int × VV)
  | 0, _, _, _, _ => none
  | n + 1, x1, x2, x3, V => (if nrm x3 ≤ 0 then some (x1, V) else ck ((0:Int) ≤ x2 ∧ x2 < 8) (bd (f5_startToServe V (V (aP 0 + 5) (Int.toNat x2)) (V (aP 0 + 6) (Int.toNat x2)) (V (aP 0 + 7) (Int.toNat x2)) (V (aP 0 + 8) (Int.toNat x2))) (fun r4 => (if nrm r4 = nrm (-1) then f5_serveWaiting_L12 n x1 (x2 + 1) (x3 + (-1)) V else bd (f1_removeRequest V 0 x2) (fun W7 => bd2 (f5_bookNow W7 (V (aP 0 + 5) (Int.toNat x2)) (V (aP 0 + 6) (Int.toNat x2)) r4) (fun r9 W10 => f5_serveWaiting_L12 n (x1 + 1) x2 (x3 + (-1)) W10))))))
theorem lp5_serveWaiting_12 {G : GT} {X : CT} {cells slots : Nat} (hN : 148 ≤ gN G) (hx : xN X = 7) (C : Cx G X "ChannelSchedule" b5_serveWaiting) {o0 : Except String (Option Value)} {V9 : VV} (M : MX G X 3 0 0 (some .int) o0 V9) (hc : cells ≤ 0) (hs : slots ≤ 0) : ∀ (n : Nat) {x1 : Int} {x2 : Int} {x3 : Int} {V : VV} {e1 : Int} {W0 : VV}, f5_serveWaiting_L12 n x1 x2 x3 V = some (e1, W0) → At G X cells slots 106 [(0, .ref (gB G + 0)), (1, vI e1)] [] W0 → At G X cells slots 12 [(0, .ref (gB G + 0)), (1, vI x1), (2, vI x2), (3, vI x3)] [] V := by
  intro n
  induction n with
  | zero => intro x1 x2 x3 V e1 W0 h _; exact nomatch h
  | succ n ih =>
    intro x1 x2 x3 V e1 W0 h K
    rw [f5_serveWaiting_L12] at h
    refine r_iload_n C d5_serveWaiting_12 rfl ?_
    refine x_ifle (tgt := 106) C d5_serveWaiting_13 rfl (fun c1 => ?_) (fun c1 => ?_)
    · replace h := ite_p c1 h
      cases h
      exact AtH.sw K ⟨rfl, rfl, trivial⟩
    · replace h := ite_m c1 h
      refine r_aload_n C d5_serveWaiting_16 rfl ?_
      refine g_main_4 C d5_serveWaiting_17 f5_36 hN ?_
      refine g_plan_11 C d5_serveWaiting_20 f5_237 hN p0 ?_
      refine r_iload_n C d5_serveWaiting_23 rfl ?_
      obtain ⟨c2, h⟩ := ck_of h
      refine x_iald C d5_serveWaiting_24 (ra_plan5 hN p0) c2 ?_
      refine x_istore hx C d5_serveWaiting_25 rfl ?_
      refine r_aload_n C d5_serveWaiting_27 rfl ?_
      refine g_main_4 C d5_serveWaiting_28 f5_36 hN ?_
      refine g_plan_12 C d5_serveWaiting_31 f5_240 hN p0 ?_
      refine r_iload_n C d5_serveWaiting_34 rfl ?_
      refine x_zald C d5_serveWaiting_35 (ra_plan6 hN p0) c2 ?_
      refine x_istore hx C d5_serveWaiting_36 rfl ?_
      refine r_aload_n C d5_serveWaiting_38 rfl ?_
      refine r_iload C d5_serveWaiting_39 rfl ?_
      refine r_iload C d5_serveWaiting_41 rfl ?_
      refine r_aload_n C d5_serveWaiting_43 rfl ?_
      refine g_main_4 C d5_serveWaiting_44 f5_36 hN ?_
      refine g_plan_13 C d5_serveWaiting_47 f5_243 hN p0 ?_
      refine r_iload_n C d5_serveWaiting_50 rfl ?_
      refine x_iald C d5_serveWaiting_51 (ra_plan7 hN p0) c2 ?_
      refine r_aload_n C d5_serveWaiting_52 rfl ?_
      refine g_main_4 C d5_serveWaiting_53 f5_36 hN ?_
      refine g_plan_14 C d5_serveWaiting_56 f5_246 hN p0 ?_
      refine r_iload_n C d5_serveWaiting_59 rfl ?_
      refine x_iald C d5_serveWaiting_60 (ra_plan8 hN p0) c2 ?_
      obtain ⟨r4, h3, h⟩ := bd_of h
      refine cV4_i C M d5_serveWaiting_61 l5_354 w5_startToServe (rc_main hN) (ev5_startToServe C.lt hN h3) rfl hc hs ?_
      refine x_istore hx C d5_serveWaiting_64 rfl ?_
      refine r_iload C d5_serveWaiting_66 rfl ?_
      refine r_iconst C d5_serveWaiting_68 ?_
      refine x_icmpne (tgt := 78) C d5_serveWaiting_69 rfl (fun c5 => ?_) (fun c5 => ?_)
      · replace h := ite_p c5 h
        refine x_iinc hx C d5_serveWaiting_72 rfl rfl ?_
        refine r_goto (tgt := 100) C d5_serveWaiting_75 rfl ?_
        refine x_iinc hx C d5_serveWaiting_100 rfl rfl ?_
        refine r_goto (tgt := 12) C d5_serveWaiting_103 rfl ?_
        exact AtH.sw (ih h K) ⟨rfl, rfl, rfl, rfl, trivial⟩
      · replace h := ite_m c5 h
        refine r_aload_n C d5_serveWaiting_78 rfl ?_
        refine g_main_4 C d5_serveWaiting_79 f5_36 hN ?_
        refine r_iload_n C d5_serveWaiting_82 rfl ?_
        obtain ⟨W7, h6, h⟩ := bd_of h
        refine cV1_v C M d5_serveWaiting_83 l5_306 w1_removeRequest (rc_plan hN p0) (ev1_removeRequest C.lt hN h6) rfl hc hs ?_
        refine r_aload_n C d5_serveWaiting_86 rfl ?_
        refine r_iload C d5_serveWaiting_87 rfl ?_
        refine r_iload C d5_serveWaiting_89 rfl ?_
        refine r_iload C d5_serveWaiting_91 rfl ?_
        obtain ⟨r9, W10, h8, h⟩ := bd2_of h
        refine cV3_i C M d5_serveWaiting_93 l5_287 w5_bookNow (rc_main hN) (ev5_bookNow C.lt hN h8) rfl hc hs ?_
        refine r_pop C d5_serveWaiting_96 rfl ?_
        refine x_iinc hx C d5_serveWaiting_97 rfl rfl ?_
        refine x_iinc hx C d5_serveWaiting_100 rfl rfl ?_
        refine r_goto (tgt := 12) C d5_serveWaiting_103 rfl ?_
        exact AtH.sw (ih h K) ⟨rfl, rfl, rfl, rfl, trivial⟩
def f5_serveWaiting (V : VV) : Option (Int × VV) := bd2 (f5_serveWaiting_L12 FU 0 0 (V (aP 0) 10) V) (fun y11 W12 => some (y11, up2 W12 (aP 0) 4 ((W12 (aP 0) 4) + y11)))
theorem ev5_serveWaiting {G : GT} {l : Launch} {V : VV} {r : Int} {V1 : VV} (hlt : l.stackTraces = false) (hN : 148 ≤ gN G) (h : f5_serveWaiting V = some (r, V1)) : EvX G l y5_serveWaiting b5_serveWaiting 7 (some .int) 3 0 0 [.ref (gB G + 0)] V (.ok (some (vI r))) V1 := by
  refine ev_w hlt (by decide +kernel) rfl rfl (fun X hl hx C M => ?_)
  subst hl
  replace C : Cx G X "ChannelSchedule" b5_serveWaiting := C
  unfold f5_serveWaiting at h
  show At G X 0 0 0 [(0, .ref (gB G + 0))] [] V
  refine r_iconst C d5_serveWaiting_0 ?_
  refine x_istore_n hx C d5_serveWaiting_1 rfl ?_
  refine r_iconst C d5_serveWaiting_2 ?_
  refine x_istore_n hx C d5_serveWaiting_3 rfl ?_
  refine r_aload_n C d5_serveWaiting_4 rfl ?_
  refine g_main_4 C d5_serveWaiting_5 f5_36 hN ?_
  refine g_plan_10 C d5_serveWaiting_8 f5_231 hN p0 ?_
  refine x_istore_n hx C d5_serveWaiting_11 rfl ?_
  obtain ⟨y11, W12, h13, h⟩ := bd2_of h
  refine AtH.sw (lp5_serveWaiting_12 hN hx C M (Nat.le_of_ble_eq_true rfl) (Nat.le_of_ble_eq_true rfl) FU h13 ?_) ⟨rfl, rfl, rfl, rfl, trivial⟩
  refine r_aload_n C d5_serveWaiting_106 rfl ?_
  refine g_main_4 C d5_serveWaiting_107 f5_36 hN ?_
  refine r_dup C d5_serveWaiting_110 rfl ?_
  refine g_plan_4 C d5_serveWaiting_111 f5_274 hN p0 ?_
  refine r_iload_n C d5_serveWaiting_114 rfl ?_
  refine r_iadd C d5_serveWaiting_115 ?_
  refine p_plan_4 C d5_serveWaiting_116 f5_274 hN p0 ?_
  refine r_iload_n C d5_serveWaiting_119 rfl ?_
  exact e_iv C M d5_serveWaiting_120 (Nat.le_of_ble_eq_true rfl) (Nat.le_of_ble_eq_true rfl) h
def f5_cancelNow (V : VV) (x1 : Int) : Option (Int × VV) := bd (f1_removeBooking V 0 x1) (fun W2 => bd2 (f5_serveWaiting (up2 W2 (aP 0) 3 ((W2 (aP 0) 3) + 1))) (fun r4 W5 => some (r4, W5)))
theorem ev5_cancelNow {G : GT} {l : Launch} {V : VV} {x1 : Int} {r : Int} {V1 : VV} (hlt : l.stackTraces = false) (hN : 148 ≤ gN G) (h : f5_cancelNow V x1 = some (r, V1)) : EvX G l y5_cancelNow b5_cancelNow 2 (some .int) 4 0 0 [.ref (gB G + 0), vI x1] V (.ok (some (vI r))) V1 := by
  refine ev_w hlt (by decide +kernel) rfl rfl (fun X hl hx C M => ?_)
  subst hl
  replace C : Cx G X "ChannelSchedule" b5_cancelNow := C
  unfold f5_cancelNow at h
  show At G X 0 0 0 [(0, .ref (gB G + 0)), (1, vI x1)] [] V
  refine r_aload_n C d5_cancelNow_0 rfl ?_
  refine g_main_4 C d5_cancelNow_1 f5_36 hN ?_
  refine r_iload_n C d5_cancelNow_4 rfl ?_
  obtain ⟨W2, h1, h⟩ := bd_of h
  refine cV1_v C M d5_cancelNow_5 l5_373 w1_removeBooking (rc_plan hN p0) (ev1_removeBooking C.lt hN h1) rfl (Nat.le_of_ble_eq_true rfl) (Nat.le_of_ble_eq_true rfl) ?_
  refine r_aload_n C d5_cancelNow_8 rfl ?_
  refine g_main_4 C d5_cancelNow_9 f5_36 hN ?_
  refine r_dup C d5_cancelNow_12 rfl ?_
  refine g_plan_3 C d5_cancelNow_13 f5_271 hN p0 ?_
  refine r_iconst C d5_cancelNow_16 ?_
  refine r_iadd C d5_cancelNow_17 ?_
  refine p_plan_3 C d5_cancelNow_18 f5_271 hN p0 ?_
  refine r_aload_n C d5_cancelNow_21 rfl ?_
  obtain ⟨r4, W5, h3, h⟩ := bd2_of h
  refine cV0_i C M d5_cancelNow_22 l5_376 w5_serveWaiting (rc_main hN) (ev5_serveWaiting C.lt hN h3) rfl (Nat.le_of_ble_eq_true rfl) (Nat.le_of_ble_eq_true rfl) ?_
  exact e_iv C M d5_cancelNow_25 (Nat.le_of_ble_eq_true rfl) (Nat.le_of_ble_eq_true rfl) h
def f5_cancel (V : VV) (x1 : Int) : Option (Int × VV) := bd (f5_cancelFault V x1) (fun r2 => ck (¬ nrm r2 = 1 ∧ ¬ nrm r2 = 2 ∧ ¬ nrm r2 = 3) (bd (f5_remember V) (fun W5 => bd2 (f5_cancelNow W5 x1) (fun r7 W8 => some (r7, W8)))))
theorem ev5_cancel {G : GT} {l : Launch} {V : VV} {x1 : Int} {r : Int} {V1 : VV} (hlt : l.stackTraces = false) (hN : 148 ≤ gN G) (h : f5_cancel V x1 = some (r, V1)) : EvX G l y5_cancel b5_cancel 2 (some .int) 5 0 0 [.ref (gB G + 0), vI x1] V (.ok (some (vI r))) V1 := by
  refine ev_w hlt (by decide +kernel) rfl rfl (fun X hl hx C M => ?_)
  subst hl
  replace C : Cx G X "ChannelSchedule" b5_cancel := C
  unfold f5_cancel at h
  show At G X 0 0 0 [(0, .ref (gB G + 0)), (1, vI x1)] [] V
  refine r_aload_n C d5_cancel_0 rfl ?_
  refine r_iload_n C d5_cancel_1 rfl ?_
  obtain ⟨r2, h1, h⟩ := bd_of h
  refine cV1_i C M d5_cancel_2 l5_297 w5_cancelFault (rc_main hN) (ev5_cancelFault C.lt hN h1) rfl (Nat.le_of_ble_eq_true rfl) (Nat.le_of_ble_eq_true rfl) ?_
  obtain ⟨c3, h⟩ := ck_of h
  refine cS1_v C M d5_cancel_5 l5_281 w5_refuse (ev5_refuse C.lt c3) rfl (Nat.le_of_ble_eq_true rfl) (Nat.le_of_ble_eq_true rfl) ?_
  refine r_aload_n C d5_cancel_8 rfl ?_
  obtain ⟨W5, h4, h⟩ := bd_of h
  refine cV0_v C M d5_cancel_9 l5_284 w5_remember (rc_main hN) (ev5_remember C.lt hN h4) rfl (Nat.le_of_ble_eq_true rfl) (Nat.le_of_ble_eq_true rfl) ?_
  refine r_aload_n C d5_cancel_12 rfl ?_
  refine r_iload_n C d5_cancel_13 rfl ?_
  obtain ⟨r7, W8, h6, h⟩ := bd2_of h
  refine cV1_i C M d5_cancel_14 l5_265 w5_cancelNow (rc_main hN) (ev5_cancelNow C.lt hN h6) rfl (Nat.le_of_ble_eq_true rfl) (Nat.le_of_ble_eq_true rfl) ?_
  exact e_iv C M d5_cancel_17 (Nat.le_of_ble_eq_true rfl) (Nat.le_of_ble_eq_true rfl) h
def f5_withdraw (V : VV) (x1 : Int) : Option (Int × VV) := bd (f5_isRequest V x1) (fun r2 => ck (¬ nrm r2 = 0) (bd (f5_remember V) (fun W5 => ck ((0:Int) ≤ x1 ∧ x1 < 8) (bd (f1_removeRequest W5 0 x1) (fun W8 => some (W5 (aP 0 + 5) (Int.toNat x1), W8))))))
theorem ev5_withdraw {G : GT} {l : Launch} {V : VV} {x1 : Int} {r : Int} {V1 : VV} (hlt : l.stackTraces = false) (hN : 148 ≤ gN G) (h : f5_withdraw V x1 = some (r, V1)) : EvX G l y5_withdraw b5_withdraw 3 (some .int) 3 0 0 [.ref (gB G + 0), vI x1] V (.ok (some (vI r))) V1 := by
  refine ev_w hlt (by decide +kernel) rfl rfl (fun X hl hx C M => ?_)
  subst hl
  replace C : Cx G X "ChannelSchedule" b5_withdraw := C
  unfold f5_withdraw at h
  show At G X 0 0 0 [(0, .ref (gB G + 0)), (1, vI x1)] [] V
  refine r_aload_n C d5_withdraw_0 rfl ?_
  refine r_iload_n C d5_withdraw_1 rfl ?_
  obtain ⟨r2, h1, h⟩ := bd_of h
  refine cV1_i C M d5_withdraw_2 l5_234 w5_isRequest (rc_main hN) (ev5_isRequest C.lt hN h1) rfl (Nat.le_of_ble_eq_true rfl) (Nat.le_of_ble_eq_true rfl) ?_
  obtain ⟨c3, h⟩ := ck_of h
  refine cS1_v C M d5_withdraw_5 l5_136 w5_requireIndex (ev5_requireIndex C.lt c3) rfl (Nat.le_of_ble_eq_true rfl) (Nat.le_of_ble_eq_true rfl) ?_
  refine r_aload_n C d5_withdraw_8 rfl ?_
  obtain ⟨W5, h4, h⟩ := bd_of h
  refine cV0_v C M d5_withdraw_9 l5_284 w5_remember (rc_main hN) (ev5_remember C.lt hN h4) rfl (Nat.le_of_ble_eq_true rfl) (Nat.le_of_ble_eq_true rfl) ?_
  refine r_aload_n C d5_withdraw_12 rfl ?_
  refine g_main_4 C d5_withdraw_13 f5_36 hN ?_
  refine g_plan_11 C d5_withdraw_16 f5_237 hN p0 ?_
  refine r_iload_n C d5_withdraw_19 rfl ?_
  obtain ⟨c6, h⟩ := ck_of h
  refine x_iald C d5_withdraw_20 (ra_plan5 hN p0) c6 ?_
  refine x_istore_n hx C d5_withdraw_21 rfl ?_
  refine r_aload_n C d5_withdraw_22 rfl ?_
  refine g_main_4 C d5_withdraw_23 f5_36 hN ?_
  refine r_iload_n C d5_withdraw_26 rfl ?_
  obtain ⟨W8, h7, h⟩ := bd_of h
  refine cV1_v C M d5_withdraw_27 l5_306 w1_removeRequest (rc_plan hN p0) (ev1_removeRequest C.lt hN h7) rfl (Nat.le_of_ble_eq_true rfl) (Nat.le_of_ble_eq_true rfl) ?_
  refine r_iload_n C d5_withdraw_30 rfl ?_
  exact e_iv C M d5_withdraw_31 (Nat.le_of_ble_eq_true rfl) (Nat.le_of_ble_eq_true rfl) h
