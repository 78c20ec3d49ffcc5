/-! walks of the class, 1 (printed by walk.py) -/
def f0_putByte (V : VV) (x1 : Int) : Option VV := (if nrm 600 ≤ nrm (V 1 1) then some V else ck ((0:Int) ≤ (V 1 1) ∧ (V 1 1) < 600) (some (up2 (up2 V 2 (Int.toNat (V 1 1)) (wB (wB x1))) 1 1 (((up2 V 2 (Int.toNat (V 1 1)) (wB (wB x1))) 1 1) + 1))))
theorem ev0_putByte {G : GT} {l : Launch} {V : VV} {x1 : Int} {V1 : VV} (hlt : l.stackTraces = false) (hN : 148 ≤ gN G) (h : f0_putByte V x1 = some V1) : EvX G l y0_putByte b0_putByte 2 none 0 0 0 [.ref (gB G + 1), vI x1] V (.ok none) V1 := by
  refine ev_w hlt (by decide +kernel) rfl rfl (fun X hl hx C M => ?_)
  subst hl
  replace C : Cx G X "ChannelSchedule$Input" b0_putByte := C
  unfold f0_putByte at h
  show At G X 0 0 0 [(0, .ref (gB G + 1)), (1, vI x1)] [] V
  refine r_aload_n C d0_putByte_0 rfl ?_
  refine g_input_1 C d0_putByte_1 f0_15 hN ?_
  refine r_aload_n C d0_putByte_4 rfl ?_
  refine g_input_0 C d0_putByte_5 f0_9 hN ?_
  refine x_alen C d0_putByte_8 (ra_bytes hN) ?_
  refine x_icmpge (tgt := 33) C d0_putByte_9 rfl (fun c1 => ?_) (fun c1 => ?_)
  · replace h := ite_p c1 h
    exact e_v C M d0_putByte_33 (Nat.le_of_ble_eq_true rfl) (Nat.le_of_ble_eq_true rfl) h
  · replace h := ite_m c1 h
    refine r_aload_n C d0_putByte_12 rfl ?_
    refine g_input_0 C d0_putByte_13 f0_9 hN ?_
    refine r_aload_n C d0_putByte_16 rfl ?_
    refine g_input_1 C d0_putByte_17 f0_15 hN ?_
    refine r_iload_n C d0_putByte_20 rfl ?_
    refine r_i2b C d0_putByte_21 ?_
    obtain ⟨c2, h⟩ := ck_of h
    refine x_bast C d0_putByte_22 (ra_bytes hN) c2 ?_
    refine r_aload_n C d0_putByte_23 rfl ?_
    refine r_dup C d0_putByte_24 rfl ?_
    refine g_input_1 C d0_putByte_25 f0_15 hN ?_
    refine r_iconst C d0_putByte_28 ?_
    refine r_iadd C d0_putByte_29 ?_
    refine p_input_1 C d0_putByte_30 f0_15 hN ?_
    exact e_v C M d0_putByte_33 (Nat.le_of_ble_eq_true rfl) (Nat.le_of_ble_eq_true rfl) h
def f0_putFour (V : VV) (x1 : Int) : Option VV := bd (f0_putByte V (uI x1 24)) (fun W2 => bd (f0_putByte W2 (uI x1 16)) (fun W4 => bd (f0_putByte W4 (uI x1 8)) (fun W6 => bd (f0_putByte W6 x1) (fun W8 => some W8))))
theorem ev0_putFour {G : GT} {l : Launch} {V : VV} {x1 : Int} {V1 : VV} (hlt : l.stackTraces = false) (hN : 148 ≤ gN G) (h : f0_putFour V x1 = some V1) : EvX G l y0_putFour b0_putFour 2 none 1 0 0 [.ref (gB G + 1), vI x1] V (.ok none) V1 := by
  refine ev_w hlt (by decide +kernel) rfl rfl (fun X hl hx C M => ?_)
  subst hl
  replace C : Cx G X "ChannelSchedule$Input" b0_putFour := C
  unfold f0_putFour at h
  show At G X 0 0 0 [(0, .ref (gB G + 1)), (1, vI x1)] [] V
  refine r_aload_n C d0_putFour_0 rfl ?_
  refine r_iload_n C d0_putFour_1 rfl ?_
  refine r_bipush C d0_putFour_2 (by decide +kernel) ?_
  refine x_iushr C d0_putFour_4 ?_
  obtain ⟨W2, h1, h⟩ := bd_of h
  refine cV1_v C M d0_putFour_5 l0_37 w0_putByte (rc_input hN) (ev0_putByte C.lt hN h1) rfl (Nat.le_of_ble_eq_true rfl) (Nat.le_of_ble_eq_true rfl) ?_
  refine r_aload_n C d0_putFour_8 rfl ?_
  refine r_iload_n C d0_putFour_9 rfl ?_
  refine r_bipush C d0_putFour_10 (by decide +kernel) ?_
  refine x_iushr C d0_putFour_12 ?_
  obtain ⟨W4, h3, h⟩ := bd_of h
  refine cV1_v C M d0_putFour_13 l0_37 w0_putByte (rc_input hN) (ev0_putByte C.lt hN h3) rfl (Nat.le_of_ble_eq_true rfl) (Nat.le_of_ble_eq_true rfl) ?_
  refine r_aload_n C d0_putFour_16 rfl ?_
  refine r_iload_n C d0_putFour_17 rfl ?_
  refine r_bipush C d0_putFour_18 (by decide +kernel) ?_
  refine x_iushr C d0_putFour_20 ?_
  obtain ⟨W6, h5, h⟩ := bd_of h
  refine cV1_v C M d0_putFour_21 l0_37 w0_putByte (rc_input hN) (ev0_putByte C.lt hN h5) rfl (Nat.le_of_ble_eq_true rfl) (Nat.le_of_ble_eq_true rfl) ?_
  refine r_aload_n C d0_putFour_24 rfl ?_
  refine r_iload_n C d0_putFour_25 rfl ?_
  obtain ⟨W8, h7, h⟩ := bd_of h
  refine cV1_v C M d0_putFour_26 l0_37 w0_putByte (rc_input hN) (ev0_putByte C.lt hN h7) rfl (Nat.le_of_ble_eq_true rfl) (Nat.le_of_ble_eq_true rfl) ?_
  exact e_v C M d0_putFour_29 (Nat.le_of_ble_eq_true rfl) (Nat.le_of_ble_eq_true rfl) h
def f0_kindOf (V : VV) (x0 : Int) : Option Int := (if nrm x0 < nrm 97 then (if nrm x0 < nrm 48 then (if nrm x0 = nrm 59 then some 3 else (if nrm x0 = nrm 32 then some 5 else (if nrm x0 = nrm 10 then some 5 else some 4))) else (if nrm 57 < nrm x0 then (if nrm x0 = nrm 59 then some 3 else (if nrm x0 = nrm 32 then some 5 else (if nrm x0 = nrm 10 then some 5 else some 4))) else some 2)) else (if nrm 122 < nrm x0 then (if nrm x0 < nrm 48 then (if nrm x0 = nrm 59 then some 3 else (if nrm x0 = nrm 32 then some 5 else (if nrm x0 = nrm 10 then some 5 else some 4))) else (if nrm 57 < nrm x0 then (if nrm x0 = nrm 59 then some 3 else (if nrm x0 = nrm 32 then some 5 else (if nrm x0 = nrm 10 then some 5 else some 4))) else some 2)) else some 1))
theorem ev0_kindOf {G : GT} {l : Launch} {V : VV} {x0 : Int} {r : Int} (hlt : l.stackTraces = false) (hN : 148 ≤ gN G) (h : f0_kindOf V x0 = some r) : EvX G l y0_kindOf b0_kindOf 1 (some .int) 0 0 0 [vI x0] V (.ok (some (vI r))) V := by
  refine ev_w hlt (by decide +kernel) rfl rfl (fun X hl hx C M => ?_)
  subst hl
  replace C : Cx G X "ChannelSchedule$Input" b0_kindOf := C
  unfold f0_kindOf at h
  show At G X 0 0 0 [(0, vI x0)] [] V
  refine r_iload_n C d0_kindOf_0 rfl ?_
  refine r_bipush C d0_kindOf_1 (by decide +kernel) ?_
  refine x_icmplt (tgt := 14) C d0_kindOf_3 rfl (fun c1 => ?_) (fun c1 => ?_)
  · replace h := ite_p c1 h
    refine r_iload_n C d0_kindOf_14 rfl ?_
    refine r_bipush C d0_kindOf_15 (by decide +kernel) ?_
    refine x_icmplt (tgt := 28) C d0_kindOf_17 rfl (fun c2 => ?_) (fun c2 => ?_)
    · replace h := ite_p c2 h
      refine r_iload_n C d0_kindOf_28 rfl ?_
      refine r_bipush C d0_kindOf_29 (by decide +kernel) ?_
      refine x_icmpne (tgt := 36) C d0_kindOf_31 rfl (fun c3 => ?_) (fun c3 => ?_)
      · replace h := ite_p c3 h
        refine r_iconst C d0_kindOf_34 ?_
        exact e_i C M d0_kindOf_35 (Nat.le_of_ble_eq_true rfl) (Nat.le_of_ble_eq_true rfl) h
      · replace h := ite_m c3 h
        refine r_iload_n C d0_kindOf_36 rfl ?_
        refine r_bipush C d0_kindOf_37 (by decide +kernel) ?_
        refine x_icmpeq (tgt := 48) C d0_kindOf_39 rfl (fun c4 => ?_) (fun c4 => ?_)
        · replace h := ite_p c4 h
          refine r_iconst C d0_kindOf_48 ?_
          refine r_goto (tgt := 53) C d0_kindOf_49 rfl ?_
          exact e_i C M d0_kindOf_53 (Nat.le_of_ble_eq_true rfl) (Nat.le_of_ble_eq_true rfl) h
        · replace h := ite_m c4 h
          refine r_iload_n C d0_kindOf_42 rfl ?_
          refine r_bipush C d0_kindOf_43 (by decide +kernel) ?_
          refine x_icmpne (tgt := 52) C d0_kindOf_45 rfl (fun c5 => ?_) (fun c5 => ?_)
          · replace h := ite_p c5 h
            refine r_iconst C d0_kindOf_48 ?_
            refine r_goto (tgt := 53) C d0_kindOf_49 rfl ?_
            exact e_i C M d0_kindOf_53 (Nat.le_of_ble_eq_true rfl) (Nat.le_of_ble_eq_true rfl) h
          · replace h := ite_m c5 h
            refine r_iconst C d0_kindOf_52 ?_
            exact e_i C M d0_kindOf_53 (Nat.le_of_ble_eq_true rfl) (Nat.le_of_ble_eq_true rfl) h
    · replace h := ite_m c2 h
      refine r_iload_n C d0_kindOf_20 rfl ?_
      refine r_bipush C d0_kindOf_21 (by decide +kernel) ?_
      refine x_icmpgt (tgt := 28) C d0_kindOf_23 rfl (fun c6 => ?_) (fun c6 => ?_)
      · replace h := ite_p c6 h
        refine r_iload_n C d0_kindOf_28 rfl ?_
        refine r_bipush C d0_kindOf_29 (by decide +kernel) ?_
        refine x_icmpne (tgt := 36) C d0_kindOf_31 rfl (fun c7 => ?_) (fun c7 => ?_)
        · replace h := ite_p c7 h
          refine r_iconst C d0_kindOf_34 ?_
          exact e_i C M d0_kindOf_35 (Nat.le_of_ble_eq_true rfl) (Nat.le_of_ble_eq_true rfl) h
        · replace h := ite_m c7 h
          refine r_iload_n C d0_kindOf_36 rfl ?_
          refine r_bipush C d0_kindOf_37 (by decide +kernel) ?_
          refine x_icmpeq (tgt := 48) C d0_kindOf_39 rfl (fun c8 => ?_) (fun c8 => ?_)
          · replace h := ite_p c8 h
            refine r_iconst C d0_kindOf_48 ?_
            refine r_goto (tgt := 53) C d0_kindOf_49 rfl ?_
            exact e_i C M d0_kindOf_53 (Nat.le_of_ble_eq_true rfl) (Nat.le_of_ble_eq_true rfl) h
          · replace h := ite_m c8 h
            refine r_iload_n C d0_kindOf_42 rfl ?_
            refine r_bipush C d0_kindOf_43 (by decide +kernel) ?_
            refine x_icmpne (tgt := 52) C d0_kindOf_45 rfl (fun c9 => ?_) (fun c9 => ?_)
            · replace h := ite_p c9 h
              refine r_iconst C d0_kindOf_48 ?_
              refine r_goto (tgt := 53) C d0_kindOf_49 rfl ?_
              exact e_i C M d0_kindOf_53 (Nat.le_of_ble_eq_true rfl) (Nat.le_of_ble_eq_true rfl) h
            · replace h := ite_m c9 h
              refine r_iconst C d0_kindOf_52 ?_
              exact e_i C M d0_kindOf_53 (Nat.le_of_ble_eq_true rfl) (Nat.le_of_ble_eq_true rfl) h
      · replace h := ite_m c6 h
        refine r_iconst C d0_kindOf_26 ?_
        exact e_i C M d0_kindOf_27 (Nat.le_of_ble_eq_true rfl) (Nat.le_of_ble_eq_true rfl) h
  · replace h := ite_m c1 h
    refine r_iload_n C d0_kindOf_6 rfl ?_
    refine r_bipush C d0_kindOf_7 (by decide +kernel) ?_
    refine x_icmpgt (tgt := 14) C d0_kindOf_9 rfl (fun c10 => ?_) (fun c10 => ?_)
    · replace h := ite_p c10 h
      refine r_iload_n C d0_kindOf_14 rfl ?_
      refine r_bipush C d0_kindOf_15 (by decide +kernel) ?_
      refine x_icmplt (tgt := 28) C d0_kindOf_17 rfl (fun c11 => ?_) (fun c11 => ?_)
      · replace h := ite_p c11 h
        refine r_iload_n C d0_kindOf_28 rfl ?_
        refine r_bipush C d0_kindOf_29 (by decide +kernel) ?_
        refine x_icmpne (tgt := 36) C d0_kindOf_31 rfl (fun c12 => ?_) (fun c12 => ?_)
        · replace h := ite_p c12 h
          refine r_iconst C d0_kindOf_34 ?_
          exact e_i C M d0_kindOf_35 (Nat.le_of_ble_eq_true rfl) (Nat.le_of_ble_eq_true rfl) h
        · replace h := ite_m c12 h
          refine r_iload_n C d0_kindOf_36 rfl ?_
          refine r_bipush C d0_kindOf_37 (by decide +kernel) ?_
          refine x_icmpeq (tgt := 48) C d0_kindOf_39 rfl (fun c13 => ?_) (fun c13 => ?_)
          · replace h := ite_p c13 h
            refine r_iconst C d0_kindOf_48 ?_
            refine r_goto (tgt := 53) C d0_kindOf_49 rfl ?_
            exact e_i C M d0_kindOf_53 (Nat.le_of_ble_eq_true rfl) (Nat.le_of_ble_eq_true rfl) h
          · replace h := ite_m c13 h
            refine r_iload_n C d0_kindOf_42 rfl ?_
            refine r_bipush C d0_kindOf_43 (by decide +kernel) ?_
            refine x_icmpne (tgt := 52) C d0_kindOf_45 rfl (fun c14 => ?_) (fun c14 => ?_)
            · replace h := ite_p c14 h
              refine r_iconst C d0_kindOf_48 ?_
              refine r_goto (tgt := 53) C d0_kindOf_49 rfl ?_
              exact e_i C M d0_kindOf_53 (Nat.le_of_ble_eq_true rfl) (Nat.le_of_ble_eq_true rfl) h
            · replace h := ite_m c14 h
              refine r_iconst C d0_kindOf_52 ?_
              exact e_i C M d0_kindOf_53 (Nat.le_of_ble_eq_true rfl) (Nat.le_of_ble_eq_true rfl) h
      · replace h := ite_m c11 h
        refine r_iload_n C d0_kindOf_20 rfl ?_
        refine r_bipush C d0_kindOf_21 (by decide +kernel) ?_
        refine x_icmpgt (tgt := 28) C d0_kindOf_23 rfl (fun c15 => ?_) (fun c15 => ?_)
        · replace h := ite_p c15 h
          refine r_iload_n C d0_kindOf_28 rfl ?_
          refine r_bipush C d0_kindOf_29 (by decide +kernel) ?_
          refine x_icmpne (tgt := 36) C d0_kindOf_31 rfl (fun c16 => ?_) (fun c16 => ?_)
          · replace h := ite_p c16 h
            refine r_iconst C d0_kindOf_34 ?_
            exact e_i C M d0_kindOf_35 (Nat.le_of_ble_eq_true rfl) (Nat.le_of_ble_eq_true rfl) h
          · replace h := ite_m c16 h
            refine r_iload_n C d0_kindOf_36 rfl ?_
            refine r_bipush C d0_kindOf_37 (by decide +kernel) ?_
            refine x_icmpeq (tgt := 48) C d0_kindOf_39 rfl (fun c17 => ?_) (fun c17 => ?_)
            · replace h := ite_p c17 h
              refine r_iconst C d0_kindOf_48 ?_
              refine r_goto (tgt := 53) C d0_kindOf_49 rfl ?_
              exact e_i C M d0_kindOf_53 (Nat.le_of_ble_eq_true rfl) (Nat.le_of_ble_eq_true rfl) h
            · replace h := ite_m c17 h
              refine r_iload_n C d0_kindOf_42 rfl ?_
              refine r_bipush C d0_kindOf_43 (by decide +kernel) ?_
              refine x_icmpne (tgt := 52) C d0_kindOf_45 rfl (fun c18 => ?_) (fun c18 => ?_)
              · replace h := ite_p c18 h
                refine r_iconst C d0_kindOf_48 ?_
                refine r_goto (tgt := 53) C d0_kindOf_49 rfl ?_
                exact e_i C M d0_kindOf_53 (Nat.le_of_ble_eq_true rfl) (Nat.le_of_ble_eq_true rfl) h
              · replace h := ite_m c18 h
                refine r_iconst C d0_kindOf_52 ?_
                exact e_i C M d0_kindOf_53 (Nat.le_of_ble_eq_true rfl) (Nat.le_of_ble_eq_true rfl) h
        · replace h := ite_m c15 h
          refine r_iconst C d0_kindOf_26 ?_
          exact e_i C M d0_kindOf_27 (Nat.le_of_ble_eq_true rfl) (Nat.le_of_ble_eq_true rfl) h
    · replace h := ite_m c10 h
      refine r_iconst C d0_kindOf_12 ?_
      exact e_i C M d0_kindOf_13 (Nat.le_of_ble_eq_true rfl) (Nat.le_of_ble_eq_true rfl) h
def f0_readRun_L0 : Nat → VV → Option (VV)
  | 0, _ => none
  | n + 1, V => (if nrm (V 1 1) ≤ nrm (V 1 6) then some V else ck ((0:Int) ≤ (V 1 6) ∧ (V 1 6) < 600) (bd (f0_kindOf V (V 2 (Int.toNat (V 1 6)))) (fun r4 => (if nrm r4 = nrm (V 1 4) then f0_readRun_L0 n (up2 V 1 6 ((V 1 6) + 1)) else some V))))
theorem lp0_readRun_0 {G : GT} {X : CT} {cells slots : Nat} (hN : 148 ≤ gN G) (hx : xN X = 2) (C : Cx G X "ChannelSchedule$Input" b0_readRun) {o0 : Except String (Option Value)} {V9 : VV} (M : MX G X 1 0 0 none o0 V9) (hc : cells ≤ 0) (hs : slots ≤ 0) : ∀ (n : Nat) {V : VV} {W0 : VV}, f0_readRun_L0 n V = some (W0) → At G X cells slots 43 [(0, .ref (gB G + 1))] [] W0 → At G X cells slots 0 [(0, .ref (gB G + 1))] [] V := by
  intro n
  induction n with
  | zero => intro V W0 h _; exact nomatch h
  | succ n ih =>
    intro V W0 h K
    rw [f0_readRun_L0] at h
    refine r_aload_n C d0_readRun_0 rfl ?_
    refine g_input_6 C d0_readRun_1 f0_31 hN ?_
    refine r_aload_n C d0_readRun_4 rfl ?_
    refine g_input_1 C d0_readRun_5 f0_15 hN ?_
    refine x_icmpge (tgt := 43) C d0_readRun_8 rfl (fun c1 => ?_) (fun c1 => ?_)
    · replace h := ite_p c1 h
      cases h
      exact AtH.sw K ⟨rfl, trivial⟩
    · replace h := ite_m c1 h
      refine r_aload_n C d0_readRun_11 rfl ?_
      refine g_input_0 C d0_readRun_12 f0_9 hN ?_
      refine r_aload_n C d0_readRun_15 rfl ?_
      refine g_input_6 C d0_readRun_16 f0_31 hN ?_
      obtain ⟨c2, h⟩ := ck_of h
      refine x_bald C d0_readRun_19 (ra_bytes hN) c2 ?_
      obtain ⟨r4, h3, h⟩ := bd_of h
      refine cS1_i C M d0_readRun_20 l0_44 w0_kindOf (ev0_kindOf C.lt hN h3) rfl hc hs ?_
      refine r_aload_n C d0_readRun_23 rfl ?_
      refine g_input_4 C d0_readRun_24 f0_25 hN ?_
      refine x_icmpne (tgt := 43) C d0_readRun_27 rfl (fun c5 => ?_) (fun c5 => ?_)
      · replace h := ite_p c5 h
        refine r_aload_n C d0_readRun_30 rfl ?_
        refine r_dup C d0_readRun_31 rfl ?_
        refine g_input_6 C d0_readRun_32 f0_31 hN ?_
        refine r_iconst C d0_readRun_35 ?_
        refine r_iadd C d0_readRun_36 ?_
        refine p_input_6 C d0_readRun_37 f0_31 hN ?_
        refine r_goto (tgt := 0) C d0_readRun_40 rfl ?_
        exact AtH.sw (ih h K) ⟨rfl, trivial⟩
      · replace h := ite_m c5 h
        cases h
        exact AtH.sw K ⟨rfl, trivial⟩
def f0_readRun (V : VV) : Option VV := bd (f0_readRun_L0 FU V) (fun W6 => bd ((if nrm (W6 1 4) = nrm 1 then some (8) else some (4))) (fun y9 => (if nrm ((W6 1 6) - (W6 1 5)) ≤ nrm y9 then some W6 else some (up2 W6 1 4 4))))
theorem ev0_readRun {G : GT} {l : Launch} {V : VV} {V1 : VV} (hlt : l.stackTraces = false) (hN : 148 ≤ gN G) (h : f0_readRun V = some V1) : EvX G l y0_readRun b0_readRun 2 none 1 0 0 [.ref (gB G + 1)] V (.ok none) V1 := by
  refine ev_w hlt (by decide +kernel) rfl rfl (fun X hl hx C M => ?_)
  subst hl
  replace C : Cx G X "ChannelSchedule$Input" b0_readRun := C
  unfold f0_readRun at h
  show At G X 0 0 0 [(0, .ref (gB G + 1))] [] V
  obtain ⟨W6, h7, h⟩ := bd_of h
  refine AtH.sw (lp0_readRun_0 hN hx C M (Nat.le_of_ble_eq_true rfl) (Nat.le_of_ble_eq_true rfl) FU h7 ?_) ⟨rfl, trivial⟩
  refine r_aload_n C d0_readRun_43 rfl ?_
  refine g_input_4 C d0_readRun_44 f0_25 hN ?_
  refine r_iconst C d0_readRun_47 ?_
  obtain ⟨y9, h10, h⟩ := bd_of h
  suffices J11 : At G X 0 0 57 [(0, .ref (gB G + 1))] [vI y9] W6 by
    replace h := h10
    refine x_icmpne (tgt := 56) C d0_readRun_48 rfl (fun c8 => ?_) (fun c8 => ?_)
    · replace h := ite_p c8 h
      refine r_bipush C d0_readRun_51 (by decide +kernel) ?_
      refine r_goto (tgt := 57) C d0_readRun_53 rfl ?_
      cases h
      exact AtH.sw J11 ⟨rfl, trivial⟩
    · replace h := ite_m c8 h
      refine r_iconst C d0_readRun_56 ?_
      cases h
      exact AtH.sw J11 ⟨rfl, trivial⟩
  refine x_istore_n hx C d0_readRun_57 rfl ?_
  refine r_aload_n C d0_readRun_58 rfl ?_
  refine g_input_6 C d0_readRun_59 f0_31 hN ?_
  refine r_aload_n C d0_readRun_62 rfl ?_
  refine g_input_5 C d0_readRun_63 f0_28 hN ?_
  refine r_isub C d0_readRun_66 ?_
  refine r_iload_n C d0_readRun_67 rfl ?_
  refine x_icmple (tgt := 76) C d0_readRun_68 rfl (fun c12 => ?_) (fun c12 => ?_)
  · replace h := ite_p c12 h
    exact e_v C M d0_readRun_76 (Nat.le_of_ble_eq_true rfl) (Nat.le_of_ble_eq_true rfl) h
  · replace h := ite_m c12 h
    refine r_aload_n C d0_readRun_71 rfl ?_
    refine r_iconst C d0_readRun_72 ?_
    refine p_input_4 C d0_readRun_73 f0_25 hN ?_
    exact e_v C M d0_readRun_76 (Nat.le_of_ble_eq_true rfl) (Nat.le_of_ble_eq_true rfl) h
def f0_readToken_L0 : Nat → VV → Option (VV)
  | 0, _ => none
  | n + 1, V => (if nrm (V 1 1) ≤ nrm (V 1 6) then some V else ck ((0:Int) ≤ (V 1 6) ∧ (V 1 6) < 600) (bd (f0_kindOf V (V 2 (Int.toNat (V 1 6)))) (fun r4 => (if nrm r4 = nrm 5 then f0_readToken_L0 n (up2 V 1 6 ((V 1 6) + 1)) else some V))))
theorem lp0_readToken_0 {G : GT} {X : CT} {cells slots : Nat} (hN : 148 ≤ gN G) (hx : xN X = 1) (C : Cx G X "ChannelSchedule$Input" b0_readToken) {o0 : Except String (Option Value)} {V9 : VV} (M : MX G X 2 0 0 none o0 V9) (hc : cells ≤ 0) (hs : slots ≤ 0) : ∀ (n : Nat) {V : VV} {W0 : VV}, f0_readToken_L0 n V = some (W0) → At G X cells slots 40 [(0, .ref (gB G + 1))] [] W0 → At G X cells slots 0 [(0, .ref (gB G + 1))] [] V := by
  intro n
  induction n with
  | zero => intro V W0 h _; exact nomatch h
  | succ n ih =>
    intro V W0 h K
    rw [f0_readToken_L0] at h
    refine r_aload_n C d0_readToken_0 rfl ?_
    refine g_input_6 C d0_readToken_1 f0_31 hN ?_
    refine r_aload_n C d0_readToken_4 rfl ?_
    refine g_input_1 C d0_readToken_5 f0_15 hN ?_
    refine x_icmpge (tgt := 40) C d0_readToken_8 rfl (fun c1 => ?_) (fun c1 => ?_)
    · replace h := ite_p c1 h
      cases h
      exact AtH.sw K ⟨rfl, trivial⟩
    · replace h := ite_m c1 h
      refine r_aload_n C d0_readToken_11 rfl ?_
      refine g_input_0 C d0_readToken_12 f0_9 hN ?_
      refine r_aload_n C d0_readToken_15 rfl ?_
      refine g_input_6 C d0_readToken_16 f0_31 hN ?_
      obtain ⟨c2, h⟩ := ck_of h
      refine x_bald C d0_readToken_19 (ra_bytes hN) c2 ?_
      obtain ⟨r4, h3, h⟩ := bd_of h
      refine cS1_i C M d0_readToken_20 l0_44 w0_kindOf (ev0_kindOf C.lt hN h3) rfl hc hs ?_
      refine r_iconst C d0_readToken_23 ?_
      refine x_icmpne (tgt := 40) C d0_readToken_24 rfl (fun c5 => ?_) (fun c5 => ?_)
      · replace h := ite_p c5 h
        refine r_aload_n C d0_readToken_27 rfl ?_
        refine r_dup C d0_readToken_28 rfl ?_
        refine g_input_6 C d0_readToken_29 f0_31 hN ?_
        refine r_iconst C d0_readToken_32 ?_
        refine r_iadd C d0_readToken_33 ?_
        refine p_input_6 C d0_readToken_34 f0_31 hN ?_
        refine r_goto (tgt := 0) C d0_readToken_37 rfl ?_
        exact AtH.sw (ih h K) ⟨rfl, trivial⟩
      · replace h := ite_m c5 h
        cases h
        exact AtH.sw K ⟨rfl, trivial⟩
def f0_readToken (V : VV) : Option VV := bd (f0_readToken_L0 FU V) (fun W6 => (if nrm ((up2 W6 1 5 (W6 1 6)) 1 6) < nrm ((up2 W6 1 5 (W6 1 6)) 1 1) then ck ((0:Int) ≤ ((up2 W6 1 5 (W6 1 6)) 1 6) ∧ ((up2 W6 1 5 (W6 1 6)) 1 6) < 600) (bd (f0_kindOf (up2 W6 1 5 (W6 1 6)) ((up2 W6 1 5 (W6 1 6)) 2 (Int.toNat ((up2 W6 1 5 (W6 1 6)) 1 6)))) (fun r11 => (if nrm ((up2 (up2 (up2 W6 1 5 (W6 1 6)) 1 4 r11) 1 6 (((up2 (up2 W6 1 5 (W6 1 6)) 1 4 r11) 1 6) + 1)) 1 4) = nrm 1 then bd (f0_readRun (up2 (up2 (up2 W6 1 5 (W6 1 6)) 1 4 r11) 1 6 (((up2 (up2 W6 1 5 (W6 1 6)) 1 4 r11) 1 6) + 1))) (fun W14 => some W14) else (if nrm ((up2 (up2 (up2 W6 1 5 (W6 1 6)) 1 4 r11) 1 6 (((up2 (up2 W6 1 5 (W6 1 6)) 1 4 r11) 1 6) + 1)) 1 4) = nrm 2 then bd (f0_readRun (up2 (up2 (up2 W6 1 5 (W6 1 6)) 1 4 r11) 1 6 (((up2 (up2 W6 1 5 (W6 1 6)) 1 4 r11) 1 6) + 1))) (fun W17 => some W17) else some (up2 (up2 (up2 W6 1 5 (W6 1 6)) 1 4 r11) 1 6 (((up2 (up2 W6 1 5 (W6 1 6)) 1 4 r11) 1 6) + 1)))))) else some (up2 (up2 W6 1 5 (W6 1 6)) 1 4 0)))
theorem ev0_readToken {G : GT} {l : Launch} {V : VV} {V1 : VV} (hlt : l.stackTraces = false) (hN : 148 ≤ gN G) (h : f0_readToken V = some V1) : EvX G l y0_readToken b0_readToken 1 none 2 0 0 [.ref (gB G + 1)] V (.ok none) V1 := by
  refine ev_w hlt (by decide +kernel) rfl rfl (fun X hl hx C M => ?_)
  subst hl
  replace C : Cx G X "ChannelSchedule$Input" b0_readToken := C
  unfold f0_readToken at h
  show At G X 0 0 0 [(0, .ref (gB G + 1))] [] V
  obtain ⟨W6, h7, h⟩ := bd_of h
  refine AtH.sw (lp0_readToken_0 hN hx C M (Nat.le_of_ble_eq_true rfl) (Nat.le_of_ble_eq_true rfl) FU h7 ?_) ⟨rfl, trivial⟩
  refine r_aload_n C d0_readToken_40 rfl ?_
  refine r_aload_n C d0_readToken_41 rfl ?_
  refine g_input_6 C d0_readToken_42 f0_31 hN ?_
  refine p_input_5 C d0_readToken_45 f0_28 hN ?_
  refine r_aload_n C d0_readToken_48 rfl ?_
  refine g_input_6 C d0_readToken_49 f0_31 hN ?_
  refine r_aload_n C d0_readToken_52 rfl ?_
  refine g_input_1 C d0_readToken_53 f0_15 hN ?_
  refine x_icmplt (tgt := 65) C d0_readToken_56 rfl (fun c8 => ?_) (fun c8 => ?_)
  · replace h := ite_p c8 h
    refine r_aload_n C d0_readToken_65 rfl ?_
    refine r_aload_n C d0_readToken_66 rfl ?_
    refine g_input_0 C d0_readToken_67 f0_9 hN ?_
    refine r_aload_n C d0_readToken_70 rfl ?_
    refine g_input_6 C d0_readToken_71 f0_31 hN ?_
    obtain ⟨c9, h⟩ := ck_of h
    refine x_bald C d0_readToken_74 (ra_bytes hN) c9 ?_
    obtain ⟨r11, h10, h⟩ := bd_of h
    refine cS1_i C M d0_readToken_75 l0_44 w0_kindOf (ev0_kindOf C.lt hN h10) rfl (Nat.le_of_ble_eq_true rfl) (Nat.le_of_ble_eq_true rfl) ?_
    refine p_input_4 C d0_readToken_78 f0_25 hN ?_
    refine r_aload_n C d0_readToken_81 rfl ?_
    refine r_dup C d0_readToken_82 rfl ?_
    refine g_input_6 C d0_readToken_83 f0_31 hN ?_
    refine r_iconst C d0_readToken_86 ?_
    refine r_iadd C d0_readToken_87 ?_
    refine p_input_6 C d0_readToken_88 f0_31 hN ?_
    refine r_aload_n C d0_readToken_91 rfl ?_
    refine g_input_4 C d0_readToken_92 f0_25 hN ?_
    refine r_iconst C d0_readToken_95 ?_
    refine x_icmpeq (tgt := 107) C d0_readToken_96 rfl (fun c12 => ?_) (fun c12 => ?_)
    · replace h := ite_p c12 h
      refine r_aload_n C d0_readToken_107 rfl ?_
      obtain ⟨W14, h13, h⟩ := bd_of h
      refine cV0_v C M d0_readToken_108 l0_48 w0_readRun (rc_input hN) (ev0_readRun C.lt hN h13) rfl (Nat.le_of_ble_eq_true rfl) (Nat.le_of_ble_eq_true rfl) ?_
      exact e_v C M d0_readToken_111 (Nat.le_of_ble_eq_true rfl) (Nat.le_of_ble_eq_true rfl) h
    · replace h := ite_m c12 h
      refine r_aload_n C d0_readToken_99 rfl ?_
      refine g_input_4 C d0_readToken_100 f0_25 hN ?_
      refine r_iconst C d0_readToken_103 ?_
      refine x_icmpne (tgt := 111) C d0_readToken_104 rfl (fun c15 => ?_) (fun c15 => ?_)
      · replace h := ite_p c15 h
        refine r_aload_n C d0_readToken_107 rfl ?_
        obtain ⟨W17, h16, h⟩ := bd_of h
        refine cV0_v C M d0_readToken_108 l0_48 w0_readRun (rc_input hN) (ev0_readRun C.lt hN h16) rfl (Nat.le_of_ble_eq_true rfl) (Nat.le_of_ble_eq_true rfl) ?_
        exact e_v C M d0_readToken_111 (Nat.le_of_ble_eq_true rfl) (Nat.le_of_ble_eq_true rfl) h
      · replace h := ite_m c15 h
        exact e_v C M d0_readToken_111 (Nat.le_of_ble_eq_true rfl) (Nat.le_of_ble_eq_true rfl) h
  · replace h := ite_m c8 h
    refine r_aload_n C d0_readToken_59 rfl ?_
    refine r_iconst C d0_readToken_60 ?_
    refine p_input_4 C d0_readToken_61 f0_25 hN ?_
    exact e_v C M d0_readToken_64 (Nat.le_of_ble_eq_true rfl) (Nat.le_of_ble_eq_true rfl) h
def f0_startReading (V : VV) : Option VV := bd (f0_readToken (up2 (up2 (up2 V 1 2 0) 1 3 (-1)) 1 6 0)) (fun W2 => some W2)
theorem ev0_startReading {G : GT} {l : Launch} {V : VV} {V1 : VV} (hlt : l.stackTraces = false) (hN : 148 ≤ gN G) (h : f0_startReading V = some V1) : EvX G l y0_startReading b0_startReading 1 none 3 0 0 [.ref (gB G + 1)] V (.ok none) V1 := by
  refine ev_w hlt (by decide +kernel) rfl rfl (fun X hl hx C M => ?_)
  subst hl
  replace C : Cx G X "ChannelSchedule$Input" b0_startReading := C
  unfold f0_startReading at h
  show At G X 0 0 0 [(0, .ref (gB G + 1))] [] V
  refine r_aload_n C d0_startReading_0 rfl ?_
  refine r_iconst C d0_startReading_1 ?_
  refine p_input_2 C d0_startReading_2 f0_19 hN ?_
  refine r_aload_n C d0_startReading_5 rfl ?_
  refine r_iconst C d0_startReading_6 ?_
  refine p_input_3 C d0_startReading_7 f0_22 hN ?_
  refine r_aload_n C d0_startReading_10 rfl ?_
  refine r_iconst C d0_startReading_11 ?_
  refine p_input_6 C d0_startReading_12 f0_31 hN ?_
  refine r_aload_n C d0_startReading_15 rfl ?_
  obtain ⟨W2, h1, h⟩ := bd_of h
  refine cV0_v C M d0_startReading_16 l0_41 w0_readToken (rc_input hN) (ev0_readToken C.lt hN h1) rfl (Nat.le_of_ble_eq_true rfl) (Nat.le_of_ble_eq_true rfl) ?_
  exact e_v C M d0_startReading_19 (Nat.le_of_ble_eq_true rfl) (Nat.le_of_ble_eq_true rfl) h
def f0_fail (V : VV) (x1 : Int) : Option (Int × VV) := some (0, up2 (up2 V 1 2 x1) 1 3 ((up2 V 1 2 x1) 1 5))
theorem ev0_fail {G : GT} {l : Launch} {V : VV} {x1 : Int} {r : Int} {V1 : VV} (hlt : l.stackTraces = false) (hN : 148 ≤ gN G) (h : f0_fail V x1 = some (r, V1)) : EvX G l y0_fail b0_fail 2 (some .boolean) 0 0 0 [.ref (gB G + 1), vI x1] V (.ok (some (vI r))) V1 := by
  refine ev_w hlt (by decide +kernel) rfl rfl (fun X hl hx C M => ?_)
  subst hl
  replace C : Cx G X "ChannelSchedule$Input" b0_fail := C
  unfold f0_fail at h
  show At G X 0 0 0 [(0, .ref (gB G + 1)), (1, vI x1)] [] V
  refine r_aload_n C d0_fail_0 rfl ?_
  refine r_iload_n C d0_fail_1 rfl ?_
  refine p_input_2 C d0_fail_2 f0_19 hN ?_
  refine r_aload_n C d0_fail_5 rfl ?_
  refine r_aload_n C d0_fail_6 rfl ?_
  refine g_input_5 C d0_fail_7 f0_28 hN ?_
  refine p_input_3 C d0_fail_10 f0_22 hN ?_
  refine r_iconst C d0_fail_13 ?_
  exact e_zv C M d0_fail_14 (Nat.le_of_ble_eq_true rfl) (Nat.le_of_ble_eq_true rfl) (Or.inl rfl) h
def f0_isWord_L28 (V : VV) (k1 : Nat) : Nat → Int → Option Int
  | 0, _ => none
  | n + 1, x2 => (if nrm (slI k1) ≤ nrm x2 then some 1 else ck ((0:Int) ≤ ((V 1 5) + x2) ∧ ((V 1 5) + x2) < 600) (ck ((0:Int) ≤ x2 ∧ x2 < slI k1) ((if nrm (V 2 (Int.toNat ((V 1 5) + x2))) = nrm (scI k1 (Int.toNat x2)) then f0_isWord_L28 V k1 n (x2 + 1) else some 0))))
theorem lp0_isWord_28 {G : GT} {X : CT} {cells slots : Nat} {V : VV} (hN : 148 ≤ gN G) (hx : xN X = 3) (C : Cx G X "ChannelSchedule$Input" b0_isWord) {k1 : Nat} (hk1 : k1 < 5) : ∀ (n : Nat) {x2 : Int} {r : Int}, MX G X 4 0 0 (some .boolean) (.ok (some (vI r))) V → cells ≤ 0 → slots ≤ 0 → f0_isWord_L28 V k1 n x2 = some r → At G X cells slots 28 [(0, .ref (gB G + 1)), (1, .ref (gK G k1)), (2, vI x2)] [] V := by
  intro n
  induction n with
  | zero => intro x2 r _ _ _ h; exact nomatch h
  | succ n ih =>
    intro x2 r M hc hs h
    rw [f0_isWord_L28] at h
    refine r_iload_n C d0_isWord_28 rfl ?_
    refine r_aload_n C d0_isWord_29 rfl ?_
    refine x_slen C M d0_isWord_30 l0_51 hk1 rfl hc hs ?_
    refine x_icmpge (tgt := 63) C d0_isWord_33 rfl (fun c3 => ?_) (fun c3 => ?_)
    · replace h := ite_p c3 h
      refine r_iconst C d0_isWord_63 ?_
      exact e_z C M d0_isWord_64 hc hs (Or.inr rfl) h
    · replace h := ite_m c3 h
      refine r_aload_n C d0_isWord_36 rfl ?_
      refine g_input_0 C d0_isWord_37 f0_9 hN ?_
      refine r_aload_n C d0_isWord_40 rfl ?_
      refine g_input_5 C d0_isWord_41 f0_28 hN ?_
      refine r_iload_n C d0_isWord_44 rfl ?_
      refine r_iadd C d0_isWord_45 ?_
      obtain ⟨c4, h⟩ := ck_of h
      refine x_bald C d0_isWord_46 (ra_bytes hN) c4 ?_
      refine r_aload_n C d0_isWord_47 rfl ?_
      refine r_iload_n C d0_isWord_48 rfl ?_
      obtain ⟨c5, h⟩ := ck_of h
      refine x_schar C M d0_isWord_49 l0_56 hk1 c5 rfl hc hs ?_
      refine x_icmpeq (tgt := 57) C d0_isWord_52 rfl (fun c6 => ?_) (fun c6 => ?_)
      · replace h := ite_p c6 h
        refine x_iinc hx C d0_isWord_57 rfl rfl ?_
        refine r_goto (tgt := 28) C d0_isWord_60 rfl ?_
        exact AtH.sw (ih M hc hs h) ⟨rfl, rfl, rfl, trivial⟩
      · replace h := ite_m c6 h
        refine r_iconst C d0_isWord_55 ?_
        exact e_z C M d0_isWord_56 hc hs (Or.inl rfl) h
def f0_isWord (V : VV) (k1 : Nat) : Option Int := ck (k1 < 5) ((if nrm (V 1 4) = nrm 1 then (if nrm ((V 1 6) - (V 1 5)) = nrm (slI k1) then f0_isWord_L28 V k1 FU 0 else some 0) else some 0))
theorem ev0_isWord {G : GT} {l : Launch} {V : VV} {k1 : Nat} {r : Int} (hlt : l.stackTraces = false) (hN : 148 ≤ gN G) (h : f0_isWord V k1 = some r) : EvX G l y0_isWord b0_isWord 3 (some .boolean) 4 0 0 [.ref (gB G + 1), .ref (gK G k1)] V (.ok (some (vI r))) V := by
  refine ev_w hlt (by decide +kernel) rfl rfl (fun X hl hx C M => ?_)
  subst hl
  replace C : Cx G X "ChannelSchedule$Input" b0_isWord := C
  unfold f0_isWord at h
  show At G X 0 0 0 [(0, .ref (gB G + 1)), (1, .ref (gK G k1))] [] V
  obtain ⟨hk1, h⟩ := ck_of h
  refine r_aload_n C d0_isWord_0 rfl ?_
  refine g_input_4 C d0_isWord_1 f0_25 hN ?_
  refine r_iconst C d0_isWord_4 ?_
  refine x_icmpne (tgt := 24) C d0_isWord_5 rfl (fun c1 => ?_) (fun c1 => ?_)
  · replace h := ite_p c1 h
    refine r_aload_n C d0_isWord_8 rfl ?_
    refine g_input_6 C d0_isWord_9 f0_31 hN ?_
    refine r_aload_n C d0_isWord_12 rfl ?_
    refine g_input_5 C d0_isWord_13 f0_28 hN ?_
    refine r_isub C d0_isWord_16 ?_
    refine r_aload_n C d0_isWord_17 rfl ?_
    refine x_slen C M d0_isWord_18 l0_51 hk1 rfl (Nat.le_of_ble_eq_true rfl) (Nat.le_of_ble_eq_true rfl) ?_
    refine x_icmpeq (tgt := 26) C d0_isWord_21 rfl (fun c2 => ?_) (fun c2 => ?_)
    · replace h := ite_p c2 h
      refine r_iconst C d0_isWord_26 ?_
      refine x_istore_n hx C d0_isWord_27 rfl ?_
      exact AtH.sw (lp0_isWord_28 hN hx C hk1 FU M (Nat.le_of_ble_eq_true rfl) (Nat.le_of_ble_eq_true rfl) h) ⟨rfl, rfl, rfl, trivial⟩
    · replace h := ite_m c2 h
      refine r_iconst C d0_isWord_24 ?_
      exact e_z C M d0_isWord_25 (Nat.le_of_ble_eq_true rfl) (Nat.le_of_ble_eq_true rfl) (Or.inl rfl) h
  · replace h := ite_m c1 h
    refine r_iconst C d0_isWord_24 ?_
    exact e_z C M d0_isWord_25 (Nat.le_of_ble_eq_true rfl) (Nat.le_of_ble_eq_true rfl) (Or.inl rfl) h
def f0_takeWord (V : VV) (k1 : Nat) : Option (Int × VV) := ck (k1 < 5) (bd (f0_isWord V k1) (fun r2 => (if nrm r2 = 0 then bd2 (f0_fail V 1) (fun r5 W6 => ck (r5 = 0 ∨ r5 = 1) (some (r5, W6))) else bd (f0_readToken V) (fun W9 => some (1, W9)))))
theorem ev0_takeWord {G : GT} {l : Launch} {V : VV} {k1 : Nat} {r : Int} {V1 : VV} (hlt : l.stackTraces = false) (hN : 148 ≤ gN G) (h : f0_takeWord V k1 = some (r, V1)) : EvX G l y0_takeWord b0_takeWord 2 (some .boolean) 5 0 0 [.ref (gB G + 1), .ref (gK G k1)] V (.ok (some (vI r))) V1 := by
  refine ev_w hlt (by decide +kernel) rfl rfl (fun X hl hx C M => ?_)
  subst hl
  replace C : Cx G X "ChannelSchedule$Input" b0_takeWord := C
  unfold f0_takeWord at h
  show At G X 0 0 0 [(0, .ref (gB G + 1)), (1, .ref (gK G k1))] [] V
  obtain ⟨hk1, h⟩ := ck_of h
  refine r_aload_n C d0_takeWord_0 rfl ?_
  refine r_aload_n C d0_takeWord_1 rfl ?_
  obtain ⟨r2, h1, h⟩ := bd_of h
  refine cV1_i C M d0_takeWord_2 l0_60 w0_isWord (rc_input hN) (ev0_isWord C.lt hN h1) rfl (Nat.le_of_ble_eq_true rfl) (Nat.le_of_ble_eq_true rfl) ?_
  refine x_ifne (tgt := 14) C d0_takeWord_5 rfl (fun c3 => ?_) (fun c3 => ?_)
  · replace h := ite_p c3 h
    refine r_aload_n C d0_takeWord_8 rfl ?_
    refine r_iconst C d0_takeWord_9 ?_
    obtain ⟨r5, W6, h4, h⟩ := bd2_of h
    refine cV1_i C M d0_takeWord_10 l0_64 w0_fail (rc_input hN) (ev0_fail C.lt hN h4) rfl (Nat.le_of_ble_eq_true rfl) (Nat.le_of_ble_eq_true rfl) ?_
    obtain ⟨c7, h⟩ := ck_of h
    exact e_zv C M d0_takeWord_13 (Nat.le_of_ble_eq_true rfl) (Nat.le_of_ble_eq_true rfl) c7 h
  · replace h := ite_m c3 h
    refine r_aload_n C d0_takeWord_14 rfl ?_
    obtain ⟨W9, h8, h⟩ := bd_of h
    refine cV0_v C M d0_takeWord_15 l0_41 w0_readToken (rc_input hN) (ev0_readToken C.lt hN h8) rfl (Nat.le_of_ble_eq_true rfl) (Nat.le_of_ble_eq_true rfl) ?_
    refine r_iconst C d0_takeWord_18 ?_
    exact e_zv C M d0_takeWord_19 (Nat.le_of_ble_eq_true rfl) (Nat.le_of_ble_eq_true rfl) (Or.inr rfl) h
def f0_takeSemicolon (V : VV) : Option (Int × VV) := (if nrm (V 1 4) = nrm 3 then bd (f0_readToken V) (fun W3 => some (1, W3)) else bd2 (f0_fail V 1) (fun r5 W6 => ck (r5 = 0 ∨ r5 = 1) (some (r5, W6))))
theorem ev0_takeSemicolon {G : GT} {l : Launch} {V : VV} {r : Int} {V1 : VV} (hlt : l.stackTraces = false) (hN : 148 ≤ gN G) (h : f0_takeSemicolon V = some (r, V1)) : EvX G l y0_takeSemicolon b0_takeSemicolon 1 (some .boolean) 3 0 0 [.ref (gB G + 1)] V (.ok (some (vI r))) V1 := by
  refine ev_w hlt (by decide +kernel) rfl rfl (fun X hl hx C M => ?_)
  subst hl
  replace C : Cx G X "ChannelSchedule$Input" b0_takeSemicolon := C
  unfold f0_takeSemicolon at h
  show At G X 0 0 0 [(0, .ref (gB G + 1))] [] V
  refine r_aload_n C d0_takeSemicolon_0 rfl ?_
  refine g_input_4 C d0_takeSemicolon_1 f0_25 hN ?_
  refine r_iconst C d0_takeSemicolon_4 ?_
  refine x_icmpeq (tgt := 14) C d0_takeSemicolon_5 rfl (fun c1 => ?_) (fun c1 => ?_)
  · replace h := ite_p c1 h
    refine r_aload_n C d0_takeSemicolon_14 rfl ?_
    obtain ⟨W3, h2, h⟩ := bd_of h
    refine cV0_v C M d0_takeSemicolon_15 l0_41 w0_readToken (rc_input hN) (ev0_readToken C.lt hN h2) rfl (Nat.le_of_ble_eq_true rfl) (Nat.le_of_ble_eq_true rfl) ?_
    refine r_iconst C d0_takeSemicolon_18 ?_
    exact e_zv C M d0_takeSemicolon_19 (Nat.le_of_ble_eq_true rfl) (Nat.le_of_ble_eq_true rfl) (Or.inr rfl) h
  · replace h := ite_m c1 h
    refine r_aload_n C d0_takeSemicolon_8 rfl ?_
    refine r_iconst C d0_takeSemicolon_9 ?_
    obtain ⟨r5, W6, h4, h⟩ := bd2_of h
    refine cV1_i C M d0_takeSemicolon_10 l0_64 w0_fail (rc_input hN) (ev0_fail C.lt hN h4) rfl (Nat.le_of_ble_eq_true rfl) (Nat.le_of_ble_eq_true rfl) ?_
    obtain ⟨c7, h⟩ := ck_of h
    exact e_zv C M d0_takeSemicolon_13 (Nat.le_of_ble_eq_true rfl) (Nat.le_of_ble_eq_true rfl) c7 h
def f0_takeNumber_L24 (x1 : Int) (x2 : Int) : Nat → Int → VV → Option (VV)
  | 0, _, _ => none
  | n + 1, x3, V => (if nrm (V 1 6) ≤ nrm x3 then some V else ck ((0:Int) ≤ x3 ∧ x3 < 600) (f0_takeNumber_L24 x1 x2 n (x3 + 1) (up2 V 1 7 (((V 1 7) * 10) + ((V 2 (Int.toNat x3)) - 48)))))
theorem lp0_takeNumber_24 {G : GT} {X : CT} {cells slots : Nat} (hN : 148 ≤ gN G) (hx : xN X = 4) (C : Cx G X "ChannelSchedule$Input" b0_takeNumber) {x1 : Int} {x2 : Int} {o0 : Except String (Option Value)} {V9 : VV} (M : MX G X 3 0 0 (some .boolean) o0 V9) (hc : cells ≤ 0) (hs : slots ≤ 0) : ∀ (n : Nat) {x3 : Int} {V : VV} {W0 : VV}, f0_takeNumber_L24 x1 x2 n x3 V = some (W0) → At G X cells slots 59 [(0, .ref (gB G + 1)), (1, vI x1), (2, vI x2)] [] W0 → At G X cells slots 24 [(0, .ref (gB G + 1)), (1, vI x1), (2, vI x2), (3, vI x3)] [] V := by
  intro n
  induction n with
  | zero => intro x3 V W0 h _; exact nomatch h
  | succ n ih =>
    intro x3 V W0 h K
    rw [f0_takeNumber_L24] at h
    refine r_iload_n C d0_takeNumber_24 rfl ?_
    refine r_aload_n C d0_takeNumber_25 rfl ?_
    refine g_input_6 C d0_takeNumber_26 f0_31 hN ?_
    refine x_icmpge (tgt := 59) C d0_takeNumber_29 rfl (fun c2 => ?_) (fun c2 => ?_)
    · replace h := ite_p c2 h
      cases h
      exact AtH.sw K ⟨rfl, rfl, rfl, trivial⟩
    · replace h := ite_m c2 h
      refine r_aload_n C d0_takeNumber_32 rfl ?_
      refine r_aload_n C d0_takeNumber_33 rfl ?_
      refine g_input_7 C d0_takeNumber_34 f0_34 hN ?_
      refine r_bipush C d0_takeNumber_37 (by decide +kernel) ?_
      refine r_imul C d0_takeNumber_39 ?_
      refine r_aload_n C d0_takeNumber_40 rfl ?_
      refine g_input_0 C d0_takeNumber_41 f0_9 hN ?_
      refine r_iload_n C d0_takeNumber_44 rfl ?_
      obtain ⟨c3, h⟩ := ck_of h
      refine x_bald C d0_takeNumber_45 (ra_bytes hN) c3 ?_
      refine r_bipush C d0_takeNumber_46 (by decide +kernel) ?_
      refine r_isub C d0_takeNumber_48 ?_
      refine r_iadd C d0_takeNumber_49 ?_
      refine p_input_7 C d0_takeNumber_50 f0_34 hN ?_
      refine x_iinc hx C d0_takeNumber_53 rfl rfl ?_
      refine r_goto (tgt := 24) C d0_takeNumber_56 rfl ?_
      exact AtH.sw (ih h K) ⟨rfl, rfl, rfl, rfl, trivial⟩
def f0_takeNumber (V : VV) (x1 : Int) (x2 : Int) : Option (Int × VV) := (if nrm (V 1 4) = nrm 2 then bd (f0_takeNumber_L24 x1 x2 FU ((up2 V 1 7 0) 1 5) (up2 V 1 7 0)) (fun W4 => (if nrm (W4 1 7) < nrm x1 then bd2 (f0_fail W4 2) (fun r8 W9 => ck (r8 = 0 ∨ r8 = 1) (some (r8, W9))) else (if nrm (W4 1 7) ≤ nrm x2 then bd (f0_readToken W4) (fun W13 => some (1, W13)) else bd2 (f0_fail W4 2) (fun r15 W16 => ck (r15 = 0 ∨ r15 = 1) (some (r15, W16)))))) else bd2 (f0_fail V 1) (fun r19 W20 => ck (r19 = 0 ∨ r19 = 1) (some (r19, W20))))
theorem ev0_takeNumber {G : GT} {l : Launch} {V : VV} {x1 : Int} {x2 : Int} {r : Int} {V1 : VV} (hlt : l.stackTraces = false) (hN : 148 ≤ gN G) (h : f0_takeNumber V x1 x2 = some (r, V1)) : EvX G l y0_takeNumber b0_takeNumber 4 (some .boolean) 3 0 0 [.ref (gB G + 1), vI x1, vI x2] V (.ok (some (vI r))) V1 := by
  refine ev_w hlt (by decide +kernel) rfl rfl (fun X hl hx C M => ?_)
  subst hl
  replace C : Cx G X "ChannelSchedule$Input" b0_takeNumber := C
  unfold f0_takeNumber at h
  show At G X 0 0 0 [(0, .ref (gB G + 1)), (1, vI x1), (2, vI x2)] [] V
  refine r_aload_n C d0_takeNumber_0 rfl ?_
  refine g_input_4 C d0_takeNumber_1 f0_25 hN ?_
  refine r_iconst C d0_takeNumber_4 ?_
  refine x_icmpeq (tgt := 14) C d0_takeNumber_5 rfl (fun c1 => ?_) (fun c1 => ?_)
  · replace h := ite_p c1 h
    refine r_aload_n C d0_takeNumber_14 rfl ?_
    refine r_iconst C d0_takeNumber_15 ?_
    refine p_input_7 C d0_takeNumber_16 f0_34 hN ?_
    refine r_aload_n C d0_takeNumber_19 rfl ?_
    refine g_input_5 C d0_takeNumber_20 f0_28 hN ?_
    refine x_istore_n hx C d0_takeNumber_23 rfl ?_
    obtain ⟨W4, h5, h⟩ := bd_of h
    refine AtH.sw (lp0_takeNumber_24 hN hx C M (Nat.le_of_ble_eq_true rfl) (Nat.le_of_ble_eq_true rfl) FU h5 ?_) ⟨rfl, rfl, rfl, rfl, trivial⟩
    refine r_aload_n C d0_takeNumber_59 rfl ?_
    refine g_input_7 C d0_takeNumber_60 f0_34 hN ?_
    refine r_iload_n C d0_takeNumber_63 rfl ?_
    refine x_icmplt (tgt := 75) C d0_takeNumber_64 rfl (fun c6 => ?_) (fun c6 => ?_)
    · replace h := ite_p c6 h
      refine r_aload_n C d0_takeNumber_75 rfl ?_
      refine r_iconst C d0_takeNumber_76 ?_
      obtain ⟨r8, W9, h7, h⟩ := bd2_of h
      refine cV1_i C M d0_takeNumber_77 l0_64 w0_fail (rc_input hN) (ev0_fail C.lt hN h7) rfl (Nat.le_of_ble_eq_true rfl) (Nat.le_of_ble_eq_true rfl) ?_
      obtain ⟨c10, h⟩ := ck_of h
      exact e_zv C M d0_takeNumber_80 (Nat.le_of_ble_eq_true rfl) (Nat.le_of_ble_eq_true rfl) c10 h
    · replace h := ite_m c6 h
      refine r_aload_n C d0_takeNumber_67 rfl ?_
      refine g_input_7 C d0_takeNumber_68 f0_34 hN ?_
      refine r_iload_n C d0_takeNumber_71 rfl ?_
      refine x_icmple (tgt := 81) C d0_takeNumber_72 rfl (fun c11 => ?_) (fun c11 => ?_)
      · replace h := ite_p c11 h
        refine r_aload_n C d0_takeNumber_81 rfl ?_
        obtain ⟨W13, h12, h⟩ := bd_of h
        refine cV0_v C M d0_takeNumber_82 l0_41 w0_readToken (rc_input hN) (ev0_readToken C.lt hN h12) rfl (Nat.le_of_ble_eq_true rfl) (Nat.le_of_ble_eq_true rfl) ?_
        refine r_iconst C d0_takeNumber_85 ?_
        exact e_zv C M d0_takeNumber_86 (Nat.le_of_ble_eq_true rfl) (Nat.le_of_ble_eq_true rfl) (Or.inr rfl) h
      · replace h := ite_m c11 h
        refine r_aload_n C d0_takeNumber_75 rfl ?_
        refine r_iconst C d0_takeNumber_76 ?_
        obtain ⟨r15, W16, h14, h⟩ := bd2_of h
        refine cV1_i C M d0_takeNumber_77 l0_64 w0_fail (rc_input hN) (ev0_fail C.lt hN h14) rfl (Nat.le_of_ble_eq_true rfl) (Nat.le_of_ble_eq_true rfl) ?_
        obtain ⟨c17, h⟩ := ck_of h
        exact e_zv C M d0_takeNumber_80 (Nat.le_of_ble_eq_true rfl) (Nat.le_of_ble_eq_true rfl) c17 h
  · replace h := ite_m c1 h
    refine r_aload_n C d0_takeNumber_8 rfl ?_
    refine r_iconst C d0_takeNumber_9 ?_
    obtain ⟨r19, W20, h18, h⟩ := bd2_of h
    refine cV1_i C M d0_takeNumber_10 l0_64 w0_fail (rc_input hN) (ev0_fail C.lt hN h18) rfl (Nat.le_of_ble_eq_true rfl) (Nat.le_of_ble_eq_true rfl) ?_
    obtain ⟨c21, h⟩ := ck_of h
    exact e_zv C M d0_takeNumber_13 (Nat.le_of_ble_eq_true rfl) (Nat.le_of_ble_eq_true rfl) c21 h
def f1_startAnew (V : VV) (p0 : Nat) (x1 : Int) : Option VV := ck (p0 < 10) (some (up2 (up2 (up2 (up2 (up2 (up2 (up2 V (aP p0) 0 x1) (aP p0) 1 0) (aP p0) 2 0) (aP p0) 3 0) (aP p0) 4 0) (aP p0) 5 0) (aP p0) 10 0))
theorem ev1_startAnew {G : GT} {l : Launch} {V : VV} {p0 : Nat} {x1 : Int} {V1 : VV} (hlt : l.stackTraces = false) (hN : 148 ≤ gN G) (h : f1_startAnew V p0 x1 = some V1) : EvX G l y1_startAnew b1_startAnew 2 none 0 0 0 [.ref (gB G + aP p0), vI x1] V (.ok none) V1 := by
  refine ev_w hlt (by decide +kernel) rfl rfl (fun X hl hx C M => ?_)
  subst hl
  replace C : Cx G X "ChannelSchedule$Plan" b1_startAnew := C
  unfold f1_startAnew at h
  show At G X 0 0 0 [(0, .ref (gB G + aP p0)), (1, vI x1)] [] V
  obtain ⟨hp0, h⟩ := ck_of h
  refine r_aload_n C d1_startAnew_0 rfl ?_
  refine r_iload_n C d1_startAnew_1 rfl ?_
  refine p_plan_0 C d1_startAnew_2 f1_9 hN hp0 ?_
  refine r_aload_n C d1_startAnew_5 rfl ?_
  refine r_iconst C d1_startAnew_6 ?_
  refine p_plan_1 C d1_startAnew_7 f1_15 hN hp0 ?_
  refine r_aload_n C d1_startAnew_10 rfl ?_
  refine r_iconst C d1_startAnew_11 ?_
  refine p_plan_2 C d1_startAnew_12 f1_18 hN hp0 ?_
  refine r_aload_n C d1_startAnew_15 rfl ?_
  refine r_iconst C d1_startAnew_16 ?_
  refine p_plan_3 C d1_startAnew_17 f1_21 hN hp0 ?_
  refine r_aload_n C d1_startAnew_20 rfl ?_
  refine r_iconst C d1_startAnew_21 ?_
  refine p_plan_4 C d1_startAnew_22 f1_24 hN hp0 ?_
  refine r_aload_n C d1_startAnew_25 rfl ?_
  refine r_iconst C d1_startAnew_26 ?_
  refine p_plan_5 C d1_startAnew_27 f1_27 hN hp0 ?_
  refine r_aload_n C d1_startAnew_30 rfl ?_
  refine r_iconst C d1_startAnew_31 ?_
  refine p_plan_10 C d1_startAnew_32 f1_44 hN hp0 ?_
  exact e_v C M d1_startAnew_35 (Nat.le_of_ble_eq_true rfl) (Nat.le_of_ble_eq_true rfl) h
def f1_putBooking (V : VV) (p0 : Nat) (x1 : Int) (x2 : Int) (x3 : Int) (x4 : Int) (x5 : Int) : Option VV := ck (p0 < 10) (ck ((0:Int) ≤ x1 ∧ x1 < 20) (ck (x3 = 0 ∨ x3 = 1) (some (up2 (up2 (up2 (up2 V (aP p0 + 1) (Int.toNat x1) x2) (aP p0 + 2) (Int.toNat x1) x3) (aP p0 + 3) (Int.toNat x1) x4) (aP p0 + 4) (Int.toNat x1) x5))))
theorem ev1_putBooking {G : GT} {l : Launch} {V : VV} {p0 : Nat} {x1 : Int} {x2 : Int} {x3 : Int} {x4 : Int} {x5 : Int} {V1 : VV} (hlt : l.stackTraces = false) (hN : 148 ≤ gN G) (h : f1_putBooking V p0 x1 x2 x3 x4 x5 = some V1) : EvX G l y1_putBooking b1_putBooking 6 none 0 0 0 [.ref (gB G + aP p0), vI x1, vI x2, vI x3, vI x4, vI x5] V (.ok none) V1 := by
  refine ev_w hlt (by decide +kernel) rfl rfl (fun X hl hx C M => ?_)
  subst hl
  replace C : Cx G X "ChannelSchedule$Plan" b1_putBooking := C
  unfold f1_putBooking at h
  show At G X 0 0 0 [(0, .ref (gB G + aP p0)), (1, vI x1), (2, vI x2), (3, vI x3), (4, vI x4), (5, vI x5)] [] V
  obtain ⟨hp0, h⟩ := ck_of h
  refine r_aload_n C d1_putBooking_0 rfl ?_
  refine g_plan_6 C d1_putBooking_1 f1_30 hN hp0 ?_
  refine r_iload_n C d1_putBooking_4 rfl ?_
  refine r_iload_n C d1_putBooking_5 rfl ?_
  obtain ⟨c1, h⟩ := ck_of h
  refine x_iast C d1_putBooking_6 (ra_plan1 hN hp0) c1 ?_
  refine r_aload_n C d1_putBooking_7 rfl ?_
  refine g_plan_7 C d1_putBooking_8 f1_34 hN hp0 ?_
  refine r_iload_n C d1_putBooking_11 rfl ?_
  refine r_iload_n C d1_putBooking_12 rfl ?_
  obtain ⟨c2, h⟩ := ck_of h
  refine x_zast C d1_putBooking_13 (ra_plan2 hN hp0) c1 c2 ?_
  refine r_aload_n C d1_putBooking_14 rfl ?_
  refine g_plan_8 C d1_putBooking_15 f1_38 hN hp0 ?_
  refine r_iload_n C d1_putBooking_18 rfl ?_
  refine r_iload C d1_putBooking_19 rfl ?_
  refine x_iast C d1_putBooking_21 (ra_plan3 hN hp0) c1 ?_
  refine r_aload_n C d1_putBooking_22 rfl ?_
  refine g_plan_9 C d1_putBooking_23 f1_41 hN hp0 ?_
  refine r_iload_n C d1_putBooking_26 rfl ?_
  refine r_iload C d1_putBooking_27 rfl ?_
  refine x_iast C d1_putBooking_29 (ra_plan4 hN hp0) c1 ?_
  exact e_v C M d1_putBooking_30 (Nat.le_of_ble_eq_true rfl) (Nat.le_of_ble_eq_true rfl) h
def f1_putRequest (V : VV) (p0 : Nat) (x1 : Int) (x2 : Int) (x3 : Int) (x4 : Int) (x5 : Int) : Option VV := ck (p0 < 10) (ck ((0:Int) ≤ x1 ∧ x1 < 8) (ck (x3 = 0 ∨ x3 = 1) (some (up2 (up2 (up2 (up2 V (aP p0 + 5) (Int.toNat x1) x2) (aP p0 + 6) (Int.toNat x1) x3) (aP p0 + 7) (Int.toNat x1) x4) (aP p0 + 8) (Int.toNat x1) x5))))
theorem ev1_putRequest {G : GT} {l : Launch} {V : VV} {p0 : Nat} {x1 : Int} {x2 : Int} {x3 : Int} {x4 : Int} {x5 : Int} {V1 : VV} (hlt : l.stackTraces = false) (hN : 148 ≤ gN G) (h : f1_putRequest V p0 x1 x2 x3 x4 x5 = some V1) : EvX G l y1_putRequest b1_putRequest 6 none 0 0 0 [.ref (gB G + aP p0), vI x1, vI x2, vI x3, vI x4, vI x5] V (.ok none) V1 := by
  refine ev_w hlt (by decide +kernel) rfl rfl (fun X hl hx C M => ?_)
  subst hl
  replace C : Cx G X "ChannelSchedule$Plan" b1_putRequest := C
  unfold f1_putRequest at h
  show At G X 0 0 0 [(0, .ref (gB G + aP p0)), (1, vI x1), (2, vI x2), (3, vI x3), (4, vI x4), (5, vI x5)] [] V
  obtain ⟨hp0, h⟩ := ck_of h
  refine r_aload_n C d1_putRequest_0 rfl ?_
  refine g_plan_11 C d1_putRequest_1 f1_47 hN hp0 ?_
  refine r_iload_n C d1_putRequest_4 rfl ?_
  refine r_iload_n C d1_putRequest_5 rfl ?_
  obtain ⟨c1, h⟩ := ck_of h
  refine x_iast C d1_putRequest_6 (ra_plan5 hN hp0) c1 ?_
  refine r_aload_n C d1_putRequest_7 rfl ?_
  refine g_plan_12 C d1_putRequest_8 f1_50 hN hp0 ?_
  refine r_iload_n C d1_putRequest_11 rfl ?_
  refine r_iload_n C d1_putRequest_12 rfl ?_
  obtain ⟨c2, h⟩ := ck_of h
  refine x_zast C d1_putRequest_13 (ra_plan6 hN hp0) c1 c2 ?_
  refine r_aload_n C d1_putRequest_14 rfl ?_
  refine g_plan_13 C d1_putRequest_15 f1_53 hN hp0 ?_
  refine r_iload_n C d1_putRequest_18 rfl ?_
  refine r_iload C d1_putRequest_19 rfl ?_
  refine x_iast C d1_putRequest_21 (ra_plan7 hN hp0) c1 ?_
  refine r_aload_n C d1_putRequest_22 rfl ?_
  refine g_plan_14 C d1_putRequest_23 f1_56 hN hp0 ?_
  refine r_iload_n C d1_putRequest_26 rfl ?_
  refine r_iload C d1_putRequest_27 rfl ?_
  refine x_iast C d1_putRequest_29 (ra_plan8 hN hp0) c1 ?_
  exact e_v C M d1_putRequest_30 (Nat.le_of_ble_eq_true rfl) (Nat.le_of_ble_eq_true rfl) h
def f1_copyFrom_L50 (p0 : Nat) (p1 : Nat) : Nat → Int → VV → Option (VV)
  | 0, _, _ => none
  | n + 1, x2, V => (if nrm (V (aP p0) 5) ≤ nrm x2 then some V else ck ((0:Int) ≤ x2 ∧ x2 < 20) (bd (f1_putBooking V p0 x2 (V (aP p1 + 1) (Int.toNat x2)) (V (aP p1 + 2) (Int.toNat x2)) (V (aP p1 + 3) (Int.toNat x2)) (V (aP p1 + 4) (Int.toNat x2))) (fun W4 => f1_copyFrom_L50 p0 p1 n (x2 + 1) W4)))
theorem lp1_copyFrom_50 {G : GT} {X : CT} {cells slots : Nat} (hN : 148 ≤ gN G) (hx : xN X = 3) (C : Cx G X "ChannelSchedule$Plan" b1_copyFrom) {p0 : Nat} {p1 : Nat} (hp0 : p0 < 10) (hp1 : p1 < 10) {o0 : Except String (Option Value)} {V9 : VV} (M : MX G X 1 0 0 none o0 V9) (hc : cells ≤ 0) (hs : slots ≤ 0) : ∀ (n : Nat) {x2 : Int} {V : VV} {W0 : VV}, f1_copyFrom_L50 p0 p1 n x2 V = some (W0) → At G X cells slots 93 [(0, .ref (gB G + aP p0)), (1, .ref (gB G + aP p1))] [] W0 → At G X cells slots 50 [(0, .ref (gB G + aP p0)), (1, .ref (gB G + aP p1)), (2, vI x2)] [] V := by
  intro n
  induction n with
  | zero => intro x2 V W0 h _; exact nomatch h
  | succ n ih =>
    intro x2 V W0 h K
    rw [f1_copyFrom_L50] at h
    refine r_iload_n C d1_copyFrom_50 rfl ?_
    refine r_aload_n C d1_copyFrom_51 rfl ?_
    refine g_plan_5 C d1_copyFrom_52 f1_27 hN hp0 ?_
    refine x_icmpge (tgt := 93) C d1_copyFrom_55 rfl (fun c1 => ?_) (fun c1 => ?_)
    · replace h := ite_p c1 h
      cases h
      exact AtH.sw K ⟨rfl, rfl, trivial⟩
    · replace h := ite_m c1 h
      refine r_aload_n C d1_copyFrom_58 rfl ?_
      refine r_iload_n C d1_copyFrom_59 rfl ?_
      refine r_aload_n C d1_copyFrom_60 rfl ?_
      refine g_plan_6 C d1_copyFrom_61 f1_30 hN hp1 ?_
      refine r_iload_n C d1_copyFrom_64 rfl ?_
      obtain ⟨c2, h⟩ := ck_of h
      refine x_iald C d1_copyFrom_65 (ra_plan1 hN hp1) c2 ?_
      refine r_aload_n C d1_copyFrom_66 rfl ?_
      refine g_plan_7 C d1_copyFrom_67 f1_34 hN hp1 ?_
      refine r_iload_n C d1_copyFrom_70 rfl ?_
      refine x_zald C d1_copyFrom_71 (ra_plan2 hN hp1) c2 ?_
      refine r_aload_n C d1_copyFrom_72 rfl ?_
      refine g_plan_8 C d1_copyFrom_73 f1_38 hN hp1 ?_
      refine r_iload_n C d1_copyFrom_76 rfl ?_
      refine x_iald C d1_copyFrom_77 (ra_plan3 hN hp1) c2 ?_
      refine r_aload_n C d1_copyFrom_78 rfl ?_
      refine g_plan_9 C d1_copyFrom_79 f1_41 hN hp1 ?_
      refine r_iload_n C d1_copyFrom_82 rfl ?_
      refine x_iald C d1_copyFrom_83 (ra_plan4 hN hp1) c2 ?_
      obtain ⟨W4, h3, h⟩ := bd_of h
      refine cV5_v C M d1_copyFrom_84 l1_59 w1_putBooking (rc_plan hN hp0) (ev1_putBooking C.lt hN h3) rfl hc hs ?_
      refine x_iinc hx C d1_copyFrom_87 rfl rfl ?_
      refine r_goto (tgt := 50) C d1_copyFrom_90 rfl ?_
      exact AtH.sw (ih h K) ⟨rfl, rfl, rfl, trivial⟩
def f1_copyFrom_L103 (p0 : Nat) (p1 : Nat) : Nat → Int → VV → Option (VV)
  | 0, _, _ => none
  | n + 1, x2, V => (if nrm (V (aP p0) 10) ≤ nrm x2 then some V else ck ((0:Int) ≤ x2 ∧ x2 < 8) (bd (f1_putRequest V p0 x2 (V (aP p1 + 5) (Int.toNat x2)) (V (aP p1 + 6) (Int.toNat x2)) (V (aP p1 + 7) (Int.toNat x2)) (V (aP p1 + 8) (Int.toNat x2))) (fun W10 => f1_copyFrom_L103 p0 p1 n (x2 + 1) W10)))
theorem lp1_copyFrom_103 {G : GT} {X : CT} {cells slots : Nat} (hN : 148 ≤ gN G) (hx : xN X = 3) (C : Cx G X "ChannelSchedule$Plan" b1_copyFrom) {p0 : Nat} {p1 : Nat} (hp0 : p0 < 10) (hp1 : p1 < 10) {o0 : Except String (Option Value)} {V9 : VV} (M : MX G X 1 0 0 none o0 V9) (hc : cells ≤ 0) (hs : slots ≤ 0) : ∀ (n : Nat) {x2 : Int} {V : VV} {W0 : VV}, f1_copyFrom_L103 p0 p1 n x2 V = some (W0) → At G X cells slots 146 [] [] W0 → At G X cells slots 103 [(0, .ref (gB G + aP p0)), (1, .ref (gB G + aP p1)), (2, vI x2)] [] V := by
  intro n
  induction n with
  | zero => intro x2 V W0 h _; exact nomatch h
  | succ n ih =>
    intro x2 V W0 h K
    rw [f1_copyFrom_L103] at h
    refine r_iload_n C d1_copyFrom_103 rfl ?_
    refine r_aload_n C d1_copyFrom_104 rfl ?_
    refine g_plan_10 C d1_copyFrom_105 f1_44 hN hp0 ?_
    refine x_icmpge (tgt := 146) C d1_copyFrom_108 rfl (fun c7 => ?_) (fun c7 => ?_)
    · replace h := ite_p c7 h
      cases h
      exact AtH.sw K trivial
    · replace h := ite_m c7 h
      refine r_aload_n C d1_copyFrom_111 rfl ?_
      refine r_iload_n C d1_copyFrom_112 rfl ?_
      refine r_aload_n C d1_copyFrom_113 rfl ?_
      refine g_plan_11 C d1_copyFrom_114 f1_47 hN hp1 ?_
      refine r_iload_n C d1_copyFrom_117 rfl ?_
      obtain ⟨c8, h⟩ := ck_of h
      refine x_iald C d1_copyFrom_118 (ra_plan5 hN hp1) c8 ?_
      refine r_aload_n C d1_copyFrom_119 rfl ?_
      refine g_plan_12 C d1_copyFrom_120 f1_50 hN hp1 ?_
      refine r_iload_n C d1_copyFrom_123 rfl ?_
      refine x_zald C d1_copyFrom_124 (ra_plan6 hN hp1) c8 ?_
      refine r_aload_n C d1_copyFrom_125 rfl ?_
      refine g_plan_13 C d1_copyFrom_126 f1_53 hN hp1 ?_
      refine r_iload_n C d1_copyFrom_129 rfl ?_
      refine x_iald C d1_copyFrom_130 (ra_plan7 hN hp1) c8 ?_
      refine r_aload_n C d1_copyFrom_131 rfl ?_
      refine g_plan_14 C d1_copyFrom_132 f1_56 hN hp1 ?_
      refine r_iload_n C d1_copyFrom_135 rfl ?_
      refine x_iald C d1_copyFrom_136 (ra_plan8 hN hp1) c8 ?_
      obtain ⟨W10, h9, h⟩ := bd_of h
      refine cV5_v C M d1_copyFrom_137 l1_63 w1_putRequest (rc_plan hN hp0) (ev1_putRequest C.lt hN h9) rfl hc hs ?_
      refine x_iinc hx C d1_copyFrom_140 rfl rfl ?_
      refine r_goto (tgt := 103) C d1_copyFrom_143 rfl ?_
      exact AtH.sw (ih h K) ⟨rfl, rfl, rfl, trivial⟩
def f1_copyFrom (V : VV) (p0 : Nat) (p1 : Nat) : Option VV := ck (p0 < 10) (ck (p1 < 10) (bd (f1_copyFrom_L50 p0 p1 FU 0 (up2 (up2 (up2 (up2 (up2 (up2 V (aP p0) 0 (V (aP p1) 0)) (aP p0) 1 ((up2 V (aP p0) 0 (V (aP p1) 0)) (aP p1) 1)) (aP p0) 2 ((up2 (up2 V (aP p0) 0 (V (aP p1) 0)) (aP p0) 1 ((up2 V (aP p0) 0 (V (aP p1) 0)) (aP p1) 1)) (aP p1) 2)) (aP p0) 3 ((up2 (up2 (up2 V (aP p0) 0 (V (aP p1) 0)) (aP p0) 1 ((up2 V (aP p0) 0 (V (aP p1) 0)) (aP p1) 1)) (aP p0) 2 ((up2 (up2 V (aP p0) 0 (V (aP p1) 0)) (aP p0) 1 ((up2 V (aP p0) 0 (V (aP p1) 0)) (aP p1) 1)) (aP p1) 2)) (aP p1) 3)) (aP p0) 4 ((up2 (up2 (up2 (up2 V (aP p0) 0 (V (aP p1) 0)) (aP p0) 1 ((up2 V (aP p0) 0 (V (aP p1) 0)) (aP p1) 1)) (aP p0) 2 ((up2 (up2 V (aP p0) 0 (V (aP p1) 0)) (aP p0) 1 ((up2 V (aP p0) 0 (V (aP p1) 0)) (aP p1) 1)) (aP p1) 2)) (aP p0) 3 ((up2 (up2 (up2 V (aP p0) 0 (V (aP p1) 0)) (aP p0) 1 ((up2 V (aP p0) 0 (V (aP p1) 0)) (aP p1) 1)) (aP p0) 2 ((up2 (up2 V (aP p0) 0 (V (aP p1) 0)) (aP p0) 1 ((up2 V (aP p0) 0 (V (aP p1) 0)) (aP p1) 1)) (aP p1) 2)) (aP p1) 3)) (aP p1) 4)) (aP p0) 5 ((up2 (up2 (up2 (up2 (up2 V (aP p0) 0 (V (aP p1) 0)) (aP p0) 1 ((up2 V (aP p0) 0 (V (aP p1) 0)) (aP p1) 1)) (aP p0) 2 ((up2 (up2 V (aP p0) 0 (V (aP p1) 0)) (aP p0) 1 ((up2 V (aP p0) 0 (V (aP p1) 0)) (aP p1) 1)) (aP p1) 2)) (aP p0) 3 ((up2 (up2 (up2 V (aP p0) 0 (V (aP p1) 0)) (aP p0) 1 ((up2 V (aP p0) 0 (V (aP p1) 0)) (aP p1) 1)) (aP p0) 2 ((up2 (up2 V (aP p0) 0 (V (aP p1) 0)) (aP p0) 1 ((up2 V (aP p0) 0 (V (aP p1) 0)) (aP p1) 1)) (aP p1) 2)) (aP p1) 3)) (aP p0) 4 ((up2 (up2 (up2 (up2 V (aP p0) 0 (V (aP p1) 0)) (aP p0) 1 ((up2 V (aP p0) 0 (V (aP p1) 0)) (aP p1) 1)) (aP p0) 2 ((up2 (up2 V (aP p0) 0 (V (aP p1) 0)) (aP p0) 1 ((up2 V (aP p0) 0 (V (aP p1) 0)) (aP p1) 1)) (aP p1) 2)) (aP p0) 3 ((up2 (up2 (up2 V (aP p0) 0 (V (aP p1) 0)) (aP p0) 1 ((up2 V (aP p0) 0 (V (aP p1) 0)) (aP p1) 1)) (aP p0) 2 ((up2 (up2 V (aP p0) 0 (V (aP p1) 0)) (aP p0) 1 ((up2 V (aP p0) 0 (V (aP p1) 0)) (aP p1) 1)) (aP p1) 2)) (aP p1) 3)) (aP p1) 4)) (aP p1) 5))) (fun W5 => bd (f1_copyFrom_L103 p0 p1 FU 0 (up2 W5 (aP p0) 10 (W5 (aP p1) 10))) (fun W11 => some W11))))
theorem ev1_copyFrom {G : GT} {l : Launch} {V : VV} {p0 : Nat} {p1 : Nat} {V1 : VV} (hlt : l.stackTraces = false) (hN : 148 ≤ gN G) (h : f1_copyFrom V p0 p1 = some V1) : EvX G l y1_copyFrom b1_copyFrom 3 none 1 0 0 [.ref (gB G + aP p0), .ref (gB G + aP p1)] V (.ok none) V1 := by
  refine ev_w hlt (by decide +kernel) rfl rfl (fun X hl hx C M => ?_)
  subst hl
  replace C : Cx G X "ChannelSchedule$Plan" b1_copyFrom := C
  unfold f1_copyFrom at h
  show At G X 0 0 0 [(0, .ref (gB G + aP p0)), (1, .ref (gB G + aP p1))] [] V
  obtain ⟨hp0, h⟩ := ck_of h
  obtain ⟨hp1, h⟩ := ck_of h
  refine r_aload_n C d1_copyFrom_0 rfl ?_
  refine r_aload_n C d1_copyFrom_1 rfl ?_
  refine g_plan_0 C d1_copyFrom_2 f1_9 hN hp1 ?_
  refine p_plan_0 C d1_copyFrom_5 f1_9 hN hp0 ?_
  refine r_aload_n C d1_copyFrom_8 rfl ?_
  refine r_aload_n C d1_copyFrom_9 rfl ?_
  refine g_plan_1 C d1_copyFrom_10 f1_15 hN hp1 ?_
  refine p_plan_1 C d1_copyFrom_13 f1_15 hN hp0 ?_
  refine r_aload_n C d1_copyFrom_16 rfl ?_
  refine r_aload_n C d1_copyFrom_17 rfl ?_
  refine g_plan_2 C d1_copyFrom_18 f1_18 hN hp1 ?_
  refine p_plan_2 C d1_copyFrom_21 f1_18 hN hp0 ?_
  refine r_aload_n C d1_copyFrom_24 rfl ?_
  refine r_aload_n C d1_copyFrom_25 rfl ?_
  refine g_plan_3 C d1_copyFrom_26 f1_21 hN hp1 ?_
  refine p_plan_3 C d1_copyFrom_29 f1_21 hN hp0 ?_
  refine r_aload_n C d1_copyFrom_32 rfl ?_
  refine r_aload_n C d1_copyFrom_33 rfl ?_
  refine g_plan_4 C d1_copyFrom_34 f1_24 hN hp1 ?_
  refine p_plan_4 C d1_copyFrom_37 f1_24 hN hp0 ?_
  refine r_aload_n C d1_copyFrom_40 rfl ?_
  refine r_aload_n C d1_copyFrom_41 rfl ?_
  refine g_plan_5 C d1_copyFrom_42 f1_27 hN hp1 ?_
  refine p_plan_5 C d1_copyFrom_45 f1_27 hN hp0 ?_
  refine r_iconst C d1_copyFrom_48 ?_
  refine x_istore_n hx C d1_copyFrom_49 rfl ?_
  obtain ⟨W5, h6, h⟩ := bd_of h
  refine AtH.sw (lp1_copyFrom_50 hN hx C hp0 hp1 M (Nat.le_of_ble_eq_true rfl) (Nat.le_of_ble_eq_true rfl) FU h6 ?_) ⟨rfl, rfl, rfl, trivial⟩
  refine r_aload_n C d1_copyFrom_93 rfl ?_
  refine r_aload_n C d1_copyFrom_94 rfl ?_
  refine g_plan_10 C d1_copyFrom_95 f1_44 hN hp1 ?_
  refine p_plan_10 C d1_copyFrom_98 f1_44 hN hp0 ?_
  refine r_iconst C d1_copyFrom_101 ?_
  refine x_istore_n hx C d1_copyFrom_102 rfl ?_
  obtain ⟨W11, h12, h⟩ := bd_of h
  refine AtH.sw (lp1_copyFrom_103 hN hx C hp0 hp1 M (Nat.le_of_ble_eq_true rfl) (Nat.le_of_ble_eq_true rfl) FU h12 ?_) ⟨rfl, rfl, rfl, trivial⟩
  exact e_v C M d1_copyFrom_146 (Nat.le_of_ble_eq_true rfl) (Nat.le_of_ble_eq_true rfl) h
def f1_insertBooking_L16 (p0 : Nat) (x1 : Int) (x2 : Int) (x3 : Int) (x4 : Int) : Nat → Int → VV → Option (Int × VV)
  | 0, _, _ => none
  | n + 1, x5, V => (if nrm x5 ≤ 0 then some (x5, V) else ck ((0:Int) ≤ (x5 - 1) ∧ (x5 - 1) < 20) ((if nrm (V (aP p0 + 3) (Int.toNat (x5 - 1))) ≤ nrm x3 then some (x5, V) else bd (f1_putBooking V p0 x5 (V (aP p0 + 1) (Int.toNat (x5 - 1))) (V (aP p0 + 2) (Int.toNat (x5 - 1))) (V (aP p0 + 3) (Int.toNat (x5 - 1))) (V (aP p0 + 4) (Int.toNat (x5 - 1)))) (fun W6 => f1_insertBooking_L16 p0 x1 x2 x3 x4 n (x5 + (-1)) W6))))
theorem lp1_insertBooking_16 {G : GT} {X : CT} {cells slots : Nat} (hN : 148 ≤ gN G) (hx : xN X = 6) (C : Cx G X "ChannelSchedule$Plan" b1_insertBooking) {p0 : Nat} {x1 : Int} {x2 : Int} {x3 : Int} {x4 : Int} (hp0 : p0 < 10) {o0 : Except String (Option Value)} {V9 : VV} (M : MX G X 1 0 0 none o0 V9) (hc : cells ≤ 0) (hs : slots ≤ 0) : ∀ (n : Nat) {x5 : Int} {V : VV} {e5 : Int} {W0 : VV}, f1_insertBooking_L16 p0 x1 x2 x3 x4 n x5 V = some (e5, W0) → At G X cells slots 82 [(0, .ref (gB G + aP p0)), (1, vI x1), (2, vI x2), (3, vI x3), (4, vI x4), (5, vI e5)] [] W0 → At G X cells slots 16 [(0, .ref (gB G + aP p0)), (1, vI x1), (2, vI x2), (3, vI x3), (4, vI x4), (5, vI x5)] [] V := by
  intro n
  induction n with
  | zero => intro x5 V e5 W0 h _; exact nomatch h
  | succ n ih =>
    intro x5 V e5 W0 h K
    rw [f1_insertBooking_L16] at h
    refine r_iload C d1_insertBooking_16 rfl ?_
    refine x_ifle (tgt := 82) C d1_insertBooking_18 rfl (fun c2 => ?_) (fun c2 => ?_)
    · replace h := ite_p c2 h
      cases h
      exact AtH.sw K ⟨rfl, rfl, rfl, rfl, rfl, rfl, trivial⟩
    · replace h := ite_m c2 h
      refine r_aload_n C d1_insertBooking_21 rfl ?_
      refine g_plan_8 C d1_insertBooking_22 f1_38 hN hp0 ?_
      refine r_iload C d1_insertBooking_25 rfl ?_
      refine r_iconst C d1_insertBooking_27 ?_
      refine r_isub C d1_insertBooking_28 ?_
      obtain ⟨c3, h⟩ := ck_of h
      refine x_iald C d1_insertBooking_29 (ra_plan3 hN hp0) c3 ?_
      refine r_iload_n C d1_insertBooking_30 rfl ?_
      refine x_icmple (tgt := 82) C d1_insertBooking_31 rfl (fun c4 => ?_) (fun c4 => ?_)
      · replace h := ite_p c4 h
        cases h
        exact AtH.sw K ⟨rfl, rfl, rfl, rfl, rfl, rfl, trivial⟩
      · replace h := ite_m c4 h
        refine r_aload_n C d1_insertBooking_34 rfl ?_
        refine r_iload C d1_insertBooking_35 rfl ?_
        refine r_aload_n C d1_insertBooking_37 rfl ?_
        refine g_plan_6 C d1_insertBooking_38 f1_30 hN hp0 ?_
        refine r_iload C d1_insertBooking_41 rfl ?_
        refine r_iconst C d1_insertBooking_43 ?_
        refine r_isub C d1_insertBooking_44 ?_
        refine x_iald C d1_insertBooking_45 (ra_plan1 hN hp0) c3 ?_
        refine r_aload_n C d1_insertBooking_46 rfl ?_
        refine g_plan_7 C d1_insertBooking_47 f1_34 hN hp0 ?_
        refine r_iload C d1_insertBooking_50 rfl ?_
        refine r_iconst C d1_insertBooking_52 ?_
        refine r_isub C d1_insertBooking_53 ?_
        refine x_zald C d1_insertBooking_54 (ra_plan2 hN hp0) c3 ?_
        refine r_aload_n C d1_insertBooking_55 rfl ?_
        refine g_plan_8 C d1_insertBooking_56 f1_38 hN hp0 ?_
        refine r_iload C d1_insertBooking_59 rfl ?_
        refine r_iconst C d1_insertBooking_61 ?_
        refine r_isub C d1_insertBooking_62 ?_
        refine x_iald C d1_insertBooking_63 (ra_plan3 hN hp0) c3 ?_
        refine r_aload_n C d1_insertBooking_64 rfl ?_
        refine g_plan_9 C d1_insertBooking_65 f1_41 hN hp0 ?_
        refine r_iload C d1_insertBooking_68 rfl ?_
        refine r_iconst C d1_insertBooking_70 ?_
        refine r_isub C d1_insertBooking_71 ?_
        refine x_iald C d1_insertBooking_72 (ra_plan4 hN hp0) c3 ?_
        obtain ⟨W6, h5, h⟩ := bd_of h
        refine cV5_v C M d1_insertBooking_73 l1_59 w1_putBooking (rc_plan hN hp0) (ev1_putBooking C.lt hN h5) rfl hc hs ?_
        refine x_iinc hx C d1_insertBooking_76 rfl rfl ?_
        refine r_goto (tgt := 16) C d1_insertBooking_79 rfl ?_
        exact AtH.sw (ih h K) ⟨rfl, rfl, rfl, rfl, rfl, rfl, trivial⟩
def f1_insertBooking (V : VV) (p0 : Nat) (x1 : Int) (x2 : Int) (x3 : Int) (x4 : Int) : Option VV := ck (p0 < 10) ((if nrm (V (aP p0) 5) < nrm 20 then bd2 (f1_insertBooking_L16 p0 x1 x2 x3 x4 FU (V (aP p0) 5) V) (fun y7 W8 => bd (f1_putBooking W8 p0 y7 x1 x2 x3 x4) (fun W11 => some (up2 W11 (aP p0) 5 ((W11 (aP p0) 5) + 1)))) else some V))
theorem ev1_insertBooking {G : GT} {l : Launch} {V : VV} {p0 : Nat} {x1 : Int} {x2 : Int} {x3 : Int} {x4 : Int} {V1 : VV} (hlt : l.stackTraces = false) (hN : 148 ≤ gN G) (h : f1_insertBooking V p0 x1 x2 x3 x4 = some V1) : EvX G l y1_insertBooking b1_insertBooking 6 none 1 0 0 [.ref (gB G + aP p0), vI x1, vI x2, vI x3, vI x4] V (.ok none) V1 := by
  refine ev_w hlt (by decide +kernel) rfl rfl (fun X hl hx C M => ?_)
  subst hl
  replace C : Cx G X "ChannelSchedule$Plan" b1_insertBooking := C
  unfold f1_insertBooking at h
  show At G X 0 0 0 [(0, .ref (gB G + aP p0)), (1, vI x1), (2, vI x2), (3, vI x3), (4, vI x4)] [] V
  obtain ⟨hp0, h⟩ := ck_of h
  refine r_aload_n C d1_insertBooking_0 rfl ?_
  refine g_plan_5 C d1_insertBooking_1 f1_27 hN hp0 ?_
  refine r_bipush C d1_insertBooking_4 (by decide +kernel) ?_
  refine x_icmplt (tgt := 10) C d1_insertBooking_6 rfl (fun c1 => ?_) (fun c1 => ?_)
  · replace h := ite_p c1 h
    refine r_aload_n C d1_insertBooking_10 rfl ?_
    refine g_plan_5 C d1_insertBooking_11 f1_27 hN hp0 ?_
    refine x_istore hx C d1_insertBooking_14 rfl ?_
    obtain ⟨y7, W8, h9, h⟩ := bd2_of h
    refine AtH.sw (lp1_insertBooking_16 hN hx C hp0 M (Nat.le_of_ble_eq_true rfl) (Nat.le_of_ble_eq_true rfl) FU h9 ?_) ⟨rfl, rfl, rfl, rfl, rfl, rfl, trivial⟩
    refine r_aload_n C d1_insertBooking_82 rfl ?_
    refine r_iload C d1_insertBooking_83 rfl ?_
    refine r_iload_n C d1_insertBooking_85 rfl ?_
    refine r_iload_n C d1_insertBooking_86 rfl ?_
    refine r_iload_n C d1_insertBooking_87 rfl ?_
    refine r_iload C d1_insertBooking_88 rfl ?_
    obtain ⟨W11, h10, h⟩ := bd_of h
    refine cV5_v C M d1_insertBooking_90 l1_59 w1_putBooking (rc_plan hN hp0) (ev1_putBooking C.lt hN h10) rfl (Nat.le_of_ble_eq_true rfl) (Nat.le_of_ble_eq_true rfl) ?_
    refine r_aload_n C d1_insertBooking_93 rfl ?_
    refine r_dup C d1_insertBooking_94 rfl ?_
    refine g_plan_5 C d1_insertBooking_95 f1_27 hN hp0 ?_
    refine r_iconst C d1_insertBooking_98 ?_
    refine r_iadd C d1_insertBooking_99 ?_
    refine p_plan_5 C d1_insertBooking_100 f1_27 hN hp0 ?_
    exact e_v C M d1_insertBooking_103 (Nat.le_of_ble_eq_true rfl) (Nat.le_of_ble_eq_true rfl) h
  · replace h := ite_m c1 h
    exact e_v C M d1_insertBooking_9 (Nat.le_of_ble_eq_true rfl) (Nat.le_of_ble_eq_true rfl) h
def f1_removeBooking_L4 (p0 : Nat) : Nat → Int → VV → Option (VV)
  | 0, _, _ => none
  | n + 1, x2, V => (if nrm (V (aP p0) 5) ≤ nrm x2 then some V else ck ((0:Int) ≤ x2 ∧ x2 < 20) (bd (f1_putBooking V p0 (x2 - 1) (V (aP p0 + 1) (Int.toNat x2)) (V (aP p0 + 2) (Int.toNat x2)) (V (aP p0 + 3) (Int.toNat x2)) (V (aP p0 + 4) (Int.toNat x2))) (fun W4 => f1_removeBooking_L4 p0 n (x2 + 1) W4)))
theorem lp1_removeBooking_4 {G : GT} {X : CT} {cells slots : Nat} (hN : 148 ≤ gN G) (hx : xN X = 3) (C : Cx G X "ChannelSchedule$Plan" b1_removeBooking) {p0 : Nat} (hp0 : p0 < 10) {o0 : Except String (Option Value)} {V9 : VV} (M : MX G X 1 0 0 none o0 V9) (hc : cells ≤ 0) (hs : slots ≤ 0) : ∀ (n : Nat) {x2 : Int} {V : VV} {W0 : VV}, f1_removeBooking_L4 p0 n x2 V = some (W0) → At G X cells slots 49 [(0, .ref (gB G + aP p0))] [] W0 → At G X cells slots 4 [(0, .ref (gB G + aP p0)), (2, vI x2)] [] V := by
  intro n
  induction n with
  | zero => intro x2 V W0 h _; exact nomatch h
  | succ n ih =>
    intro x2 V W0 h K
    rw [f1_removeBooking_L4] at h
    refine r_iload_n C d1_removeBooking_4 rfl ?_
    refine r_aload_n C d1_removeBooking_5 rfl ?_
    refine g_plan_5 C d1_removeBooking_6 f1_27 hN hp0 ?_
    refine x_icmpge (tgt := 49) C d1_removeBooking_9 rfl (fun c1 => ?_) (fun c1 => ?_)
    · replace h := ite_p c1 h
      cases h
      exact AtH.sw K ⟨rfl, trivial⟩
    · replace h := ite_m c1 h
      refine r_aload_n C d1_removeBooking_12 rfl ?_
      refine r_iload_n C d1_removeBooking_13 rfl ?_
      refine r_iconst C d1_removeBooking_14 ?_
      refine r_isub C d1_removeBooking_15 ?_
      refine r_aload_n C d1_removeBooking_16 rfl ?_
      refine g_plan_6 C d1_removeBooking_17 f1_30 hN hp0 ?_
      refine r_iload_n C d1_removeBooking_20 rfl ?_
      obtain ⟨c2, h⟩ := ck_of h
      refine x_iald C d1_removeBooking_21 (ra_plan1 hN hp0) c2 ?_
      refine r_aload_n C d1_removeBooking_22 rfl ?_
      refine g_plan_7 C d1_removeBooking_23 f1_34 hN hp0 ?_
      refine r_iload_n C d1_removeBooking_26 rfl ?_
      refine x_zald C d1_removeBooking_27 (ra_plan2 hN hp0) c2 ?_
      refine r_aload_n C d1_removeBooking_28 rfl ?_
      refine g_plan_8 C d1_removeBooking_29 f1_38 hN hp0 ?_
      refine r_iload_n C d1_removeBooking_32 rfl ?_
      refine x_iald C d1_removeBooking_33 (ra_plan3 hN hp0) c2 ?_
      refine r_aload_n C d1_removeBooking_34 rfl ?_
      refine g_plan_9 C d1_removeBooking_35 f1_41 hN hp0 ?_
      refine r_iload_n C d1_removeBooking_38 rfl ?_
      refine x_iald C d1_removeBooking_39 (ra_plan4 hN hp0) c2 ?_
      obtain ⟨W4, h3, h⟩ := bd_of h
      refine cV5_v C M d1_removeBooking_40 l1_59 w1_putBooking (rc_plan hN hp0) (ev1_putBooking C.lt hN h3) rfl hc hs ?_
      refine x_iinc hx C d1_removeBooking_43 rfl rfl ?_
      refine r_goto (tgt := 4) C d1_removeBooking_46 rfl ?_
      exact AtH.sw (ih h K) ⟨rfl, rfl, trivial⟩
def f1_removeBooking (V : VV) (p0 : Nat) (x1 : Int) : Option VV := ck (p0 < 10) (bd (f1_removeBooking_L4 p0 FU (x1 + 1) V) (fun W5 => some (up2 W5 (aP p0) 5 ((W5 (aP p0) 5) - 1))))
theorem ev1_removeBooking {G : GT} {l : Launch} {V : VV} {p0 : Nat} {x1 : Int} {V1 : VV} (hlt : l.stackTraces = false) (hN : 148 ≤ gN G) (h : f1_removeBooking V p0 x1 = some V1) : EvX G l y1_removeBooking b1_removeBooking 3 none 1 0 0 [.ref (gB G + aP p0), vI x1] V (.ok none) V1 := by
  refine ev_w hlt (by decide +kernel) rfl rfl (fun X hl hx C M => ?_)
  subst hl
  replace C : Cx G X "ChannelSchedule$Plan" b1_removeBooking := C
  unfold f1_removeBooking at h
  show At G X 0 0 0 [(0, .ref (gB G + aP p0)), (1, vI x1)] [] V
  obtain ⟨hp0, h⟩ := ck_of h
  refine r_iload_n C d1_removeBooking_0 rfl ?_
  refine r_iconst C d1_removeBooking_1 ?_
  refine r_iadd C d1_removeBooking_2 ?_
  refine x_istore_n hx C d1_removeBooking_3 rfl ?_
  obtain ⟨W5, h6, h⟩ := bd_of h
  refine AtH.sw (lp1_removeBooking_4 hN hx C hp0 M (Nat.le_of_ble_eq_true rfl) (Nat.le_of_ble_eq_true rfl) FU h6 ?_) ⟨rfl, rfl, trivial⟩
  refine r_aload_n C d1_removeBooking_49 rfl ?_
  refine r_dup C d1_removeBooking_50 rfl ?_
  refine g_plan_5 C d1_removeBooking_51 f1_27 hN hp0 ?_
  refine r_iconst C d1_removeBooking_54 ?_
  refine r_isub C d1_removeBooking_55 ?_
  refine p_plan_5 C d1_removeBooking_56 f1_27 hN hp0 ?_
  exact e_v C M d1_removeBooking_59 (Nat.le_of_ble_eq_true rfl) (Nat.le_of_ble_eq_true rfl) h
def f1_addRequest (V : VV) (p0 : Nat) (x1 : Int) (x2 : Int) (x3 : Int) (x4 : Int) : Option VV := ck (p0 < 10) ((if nrm 8 ≤ nrm (V (aP p0) 10) then some V else bd (f1_putRequest V p0 (V (aP p0) 10) x1 x2 x3 x4) (fun W3 => some (up2 W3 (aP p0) 10 ((W3 (aP p0) 10) + 1)))))
theorem ev1_addRequest {G : GT} {l : Launch} {V : VV} {p0 : Nat} {x1 : Int} {x2 : Int} {x3 : Int} {x4 : Int} {V1 : VV} (hlt : l.stackTraces = false) (hN : 148 ≤ gN G) (h : f1_addRequest V p0 x1 x2 x3 x4 = some V1) : EvX G l y1_addRequest b1_addRequest 5 none 1 0 0 [.ref (gB G + aP p0), vI x1, vI x2, vI x3, vI x4] V (.ok none) V1 := by
  refine ev_w hlt (by decide +kernel) rfl rfl (fun X hl hx C M => ?_)
  subst hl
  replace C : Cx G X "ChannelSchedule$Plan" b1_addRequest := C
  unfold f1_addRequest at h
  show At G X 0 0 0 [(0, .ref (gB G + aP p0)), (1, vI x1), (2, vI x2), (3, vI x3), (4, vI x4)] [] V
  obtain ⟨hp0, h⟩ := ck_of h
  refine r_aload_n C d1_addRequest_0 rfl ?_
  refine g_plan_10 C d1_addRequest_1 f1_44 hN hp0 ?_
  refine r_bipush C d1_addRequest_4 (by decide +kernel) ?_
  refine x_icmpge (tgt := 32) C d1_addRequest_6 rfl (fun c1 => ?_) (fun c1 => ?_)
  · replace h := ite_p c1 h
    exact e_v C M d1_addRequest_32 (Nat.le_of_ble_eq_true rfl) (Nat.le_of_ble_eq_true rfl) h
  · replace h := ite_m c1 h
    refine r_aload_n C d1_addRequest_9 rfl ?_
    refine r_aload_n C d1_addRequest_10 rfl ?_
    refine g_plan_10 C d1_addRequest_11 f1_44 hN hp0 ?_
    refine r_iload_n C d1_addRequest_14 rfl ?_
    refine r_iload_n C d1_addRequest_15 rfl ?_
    refine r_iload_n C d1_addRequest_16 rfl ?_
    refine r_iload C d1_addRequest_17 rfl ?_
    obtain ⟨W3, h2, h⟩ := bd_of h
    refine cV5_v C M d1_addRequest_19 l1_63 w1_putRequest (rc_plan hN hp0) (ev1_putRequest C.lt hN h2) rfl (Nat.le_of_ble_eq_true rfl) (Nat.le_of_ble_eq_true rfl) ?_
    refine r_aload_n C d1_addRequest_22 rfl ?_
    refine r_dup C d1_addRequest_23 rfl ?_
    refine g_plan_10 C d1_addRequest_24 f1_44 hN hp0 ?_
    refine r_iconst C d1_addRequest_27 ?_
    refine r_iadd C d1_addRequest_28 ?_
    refine p_plan_10 C d1_addRequest_29 f1_44 hN hp0 ?_
    exact e_v C M d1_addRequest_32 (Nat.le_of_ble_eq_true rfl) (Nat.le_of_ble_eq_true rfl) h
def f1_removeRequest_L4 (p0 : Nat) : Nat → Int → VV → Option (VV)
  | 0, _, _ => none
  | n + 1, x2, V => (if nrm (V (aP p0) 10) ≤ nrm x2 then some V else ck ((0:Int) ≤ x2 ∧ x2 < 8) (bd (f1_putRequest V p0 (x2 - 1) (V (aP p0 + 5) (Int.toNat x2)) (V (aP p0 + 6) (Int.toNat x2)) (V (aP p0 + 7) (Int.toNat x2)) (V (aP p0 + 8) (Int.toNat x2))) (fun W4 => f1_removeRequest_L4 p0 n (x2 + 1) W4)))
theorem lp1_removeRequest_4 {G : GT} {X : CT} {cells slots : Nat} (hN : 148 ≤ gN G) (hx : xN X = 3) (C : Cx G X "ChannelSchedule$Plan" b1_removeRequest) {p0 : Nat} (hp0 : p0 < 10) {o0 : Except String (Option Value)} {V9 : VV} (M : MX G X 1 0 0 none o0 V9) (hc : cells ≤ 0) (hs : slots ≤ 0) : ∀ (n : Nat) {x2 : Int} {V : VV} {W0 : VV}, f1_removeRequest_L4 p0 n x2 V = some (W0) → At G X cells slots 49 [(0, .ref (gB G + aP p0))] [] W0 → At G X cells slots 4 [(0, .ref (gB G + aP p0)), (2, vI x2)] [] V := by
  intro n
  induction n with
  | zero => intro x2 V W0 h _; exact nomatch h
  | succ n ih =>
    intro x2 V W0 h K
    rw [f1_removeRequest_L4] at h
    refine r_iload_n C d1_removeRequest_4 rfl ?_
    refine r_aload_n C d1_removeRequest_5 rfl ?_
    refine g_plan_10 C d1_removeRequest_6 f1_44 hN hp0 ?_
    refine x_icmpge (tgt := 49) C d1_removeRequest_9 rfl (fun c1 => ?_) (fun c1 => ?_)
    · replace h := ite_p c1 h
      cases h
      exact AtH.sw K ⟨rfl, trivial⟩
    · replace h := ite_m c1 h
      refine r_aload_n C d1_removeRequest_12 rfl ?_
      refine r_iload_n C d1_removeRequest_13 rfl ?_
      refine r_iconst C d1_removeRequest_14 ?_
      refine r_isub C d1_removeRequest_15 ?_
      refine r_aload_n C d1_removeRequest_16 rfl ?_
      refine g_plan_11 C d1_removeRequest_17 f1_47 hN hp0 ?_
      refine r_iload_n C d1_removeRequest_20 rfl ?_
      obtain ⟨c2, h⟩ := ck_of h
      refine x_iald C d1_removeRequest_21 (ra_plan5 hN hp0) c2 ?_
      refine r_aload_n C d1_removeRequest_22 rfl ?_
      refine g_plan_12 C d1_removeRequest_23 f1_50 hN hp0 ?_
      refine r_iload_n C d1_removeRequest_26 rfl ?_
      refine x_zald C d1_removeRequest_27 (ra_plan6 hN hp0) c2 ?_
      refine r_aload_n C d1_removeRequest_28 rfl ?_
      refine g_plan_13 C d1_removeRequest_29 f1_53 hN hp0 ?_
      refine r_iload_n C d1_removeRequest_32 rfl ?_
      refine x_iald C d1_removeRequest_33 (ra_plan7 hN hp0) c2 ?_
      refine r_aload_n C d1_removeRequest_34 rfl ?_
      refine g_plan_14 C d1_removeRequest_35 f1_56 hN hp0 ?_
      refine r_iload_n C d1_removeRequest_38 rfl ?_
      refine x_iald C d1_removeRequest_39 (ra_plan8 hN hp0) c2 ?_
      obtain ⟨W4, h3, h⟩ := bd_of h
      refine cV5_v C M d1_removeRequest_40 l1_63 w1_putRequest (rc_plan hN hp0) (ev1_putRequest C.lt hN h3) rfl hc hs ?_
      refine x_iinc hx C d1_removeRequest_43 rfl rfl ?_
      refine r_goto (tgt := 4) C d1_removeRequest_46 rfl ?_
      exact AtH.sw (ih h K) ⟨rfl, rfl, trivial⟩
def f1_removeRequest (V : VV) (p0 : Nat) (x1 : Int) : Option VV := ck (p0 < 10) (bd (f1_removeRequest_L4 p0 FU (x1 + 1) V) (fun W5 => some (up2 W5 (aP p0) 10 ((W5 (aP p0) 10) - 1))))
theorem ev1_removeRequest {G : GT} {l : Launch} {V : VV} {p0 : Nat} {x1 : Int} {V1 : VV} (hlt : l.stackTraces = false) (hN : 148 ≤ gN G) (h : f1_removeRequest V p0 x1 = some V1) : EvX G l y1_removeRequest b1_removeRequest 3 none 1 0 0 [.ref (gB G + aP p0), vI x1] V (.ok none) V1 := by
  refine ev_w hlt (by decide +kernel) rfl rfl (fun X hl hx C M => ?_)
  subst hl
  replace C : Cx G X "ChannelSchedule$Plan" b1_removeRequest := C
  unfold f1_removeRequest at h
  show At G X 0 0 0 [(0, .ref (gB G + aP p0)), (1, vI x1)] [] V
  obtain ⟨hp0, h⟩ := ck_of h
  refine r_iload_n C d1_removeRequest_0 rfl ?_
  refine r_iconst C d1_removeRequest_1 ?_
  refine r_iadd C d1_removeRequest_2 ?_
  refine x_istore_n hx C d1_removeRequest_3 rfl ?_
  obtain ⟨W5, h6, h⟩ := bd_of h
  refine AtH.sw (lp1_removeRequest_4 hN hx C hp0 M (Nat.le_of_ble_eq_true rfl) (Nat.le_of_ble_eq_true rfl) FU h6 ?_) ⟨rfl, rfl, trivial⟩
  refine r_aload_n C d1_removeRequest_49 rfl ?_
  refine r_dup C d1_removeRequest_50 rfl ?_
  refine g_plan_10 C d1_removeRequest_51 f1_44 hN hp0 ?_
  refine r_iconst C d1_removeRequest_54 ?_
  refine r_isub C d1_removeRequest_55 ?_
  refine p_plan_10 C d1_removeRequest_56 f1_44 hN hp0 ?_
  exact e_v C M d1_removeRequest_59 (Nat.le_of_ble_eq_true rfl) (Nat.le_of_ble_eq_true rfl) h
def f4_hasName_L13 (V : VV) (q0 : Nat) (i0 : Nat) (x2 : Int) : Nat → Int → Option Int
  | 0, _ => none
  | n + 1, x4 => (if nrm (V (aS q0 + (2 + 2 * i0)) 1) ≤ nrm x4 then some 1 else ck ((0:Int) ≤ x4 ∧ x4 < 6) (ck ((0:Int) ≤ (x2 + x4) ∧ (x2 + x4) < 600) ((if nrm (V (aS q0 + (2 + 2 * i0) + 1) (Int.toNat x4)) = nrm (V 2 (Int.toNat (x2 + x4))) then f4_hasName_L13 V q0 i0 x2 n (x4 + 1) else some 0))))
theorem lp4_hasName_13 {G : GT} {X : CT} {cells slots : Nat} {V : VV} (hN : 148 ≤ gN G) (hx : xN X = 5) (C : Cx G X "ChannelSchedule$Ship" b4_hasName) {q0 : Nat} {i0 : Nat} {x2 : Int} (hq0 : q0 < 2) (hi0 : i0 < 10) : ∀ (n : Nat) {x4 : Int} {r : Int}, MX G X 0 0 0 (some .boolean) (.ok (some (vI r))) V → cells ≤ 0 → slots ≤ 0 → f4_hasName_L13 V q0 i0 x2 n x4 = some r → At G X cells slots 13 [(0, .ref (gB G + (aS q0 + (2 + 2 * i0)))), (1, .ref (gB G + 2)), (2, vI x2), (4, vI x4)] [] V := by
  intro n
  induction n with
  | zero => intro x4 r _ _ _ h; exact nomatch h
  | succ n ih =>
    intro x4 r M hc hs h
    rw [f4_hasName_L13] at h
    refine r_iload C d4_hasName_13 rfl ?_
    refine r_aload_n C d4_hasName_15 rfl ?_
    refine g_ship_1 C d4_hasName_16 f4_15 hN hq0 hi0 ?_
    refine x_icmpge (tgt := 46) C d4_hasName_19 rfl (fun c2 => ?_) (fun c2 => ?_)
    · replace h := ite_p c2 h
      refine r_iconst C d4_hasName_46 ?_
      exact e_z C M d4_hasName_47 hc hs (Or.inr rfl) h
    · replace h := ite_m c2 h
      refine r_aload_n C d4_hasName_22 rfl ?_
      refine g_ship_0 C d4_hasName_23 f4_9 hN hq0 hi0 ?_
      refine r_iload C d4_hasName_26 rfl ?_
      obtain ⟨c3, h⟩ := ck_of h
      refine x_bald C d4_hasName_28 (ra_name hN hq0 hi0) c3 ?_
      refine r_aload_n C d4_hasName_29 rfl ?_
      refine r_iload_n C d4_hasName_30 rfl ?_
      refine r_iload C d4_hasName_31 rfl ?_
      refine r_iadd C d4_hasName_33 ?_
      obtain ⟨c4, h⟩ := ck_of h
      refine x_bald C d4_hasName_34 (ra_bytes hN) c4 ?_
      refine x_icmpeq (tgt := 40) C d4_hasName_35 rfl (fun c5 => ?_) (fun c5 => ?_)
      · replace h := ite_p c5 h
        refine x_iinc hx C d4_hasName_40 rfl rfl ?_
        refine r_goto (tgt := 13) C d4_hasName_43 rfl ?_
        exact AtH.sw (ih M hc hs h) ⟨rfl, rfl, rfl, rfl, trivial⟩
      · replace h := ite_m c5 h
        refine r_iconst C d4_hasName_38 ?_
        exact e_z C M d4_hasName_39 hc hs (Or.inl rfl) h
def f4_hasName (V : VV) (q0 : Nat) (i0 : Nat) (x2 : Int) (x3 : Int) : Option Int := ck (q0 < 2) (ck (i0 < 10) ((if nrm x3 = nrm (V (aS q0 + (2 + 2 * i0)) 1) then f4_hasName_L13 V q0 i0 x2 FU 0 else some 0)))
theorem ev4_hasName {G : GT} {l : Launch} {V : VV} {q0 : Nat} {i0 : Nat} {x2 : Int} {x3 : Int} {r : Int} (hlt : l.stackTraces = false) (hN : 148 ≤ gN G) (h : f4_hasName V q0 i0 x2 x3 = some r) : EvX G l y4_hasName b4_hasName 5 (some .boolean) 0 0 0 [.ref (gB G + (aS q0 + (2 + 2 * i0))), .ref (gB G + 2), vI x2, vI x3] V (.ok (some (vI r))) V := by
  refine ev_w hlt (by decide +kernel) rfl rfl (fun X hl hx C M => ?_)
  subst hl
  replace C : Cx G X "ChannelSchedule$Ship" b4_hasName := C
  unfold f4_hasName at h
  show At G X 0 0 0 [(0, .ref (gB G + (aS q0 + (2 + 2 * i0)))), (1, .ref (gB G + 2)), (2, vI x2), (3, vI x3)] [] V
  obtain ⟨hq0, h⟩ := ck_of h
  obtain ⟨hi0, h⟩ := ck_of h
  refine r_iload_n C d4_hasName_0 rfl ?_
  refine r_aload_n C d4_hasName_1 rfl ?_
  refine g_ship_1 C d4_hasName_2 f4_15 hN hq0 hi0 ?_
  refine x_icmpeq (tgt := 10) C d4_hasName_5 rfl (fun c1 => ?_) (fun c1 => ?_)
  · replace h := ite_p c1 h
    refine r_iconst C d4_hasName_10 ?_
    refine x_istore hx C d4_hasName_11 rfl ?_
    exact AtH.sw (lp4_hasName_13 hN hx C hq0 hi0 FU M (Nat.le_of_ble_eq_true rfl) (Nat.le_of_ble_eq_true rfl) h) ⟨rfl, rfl, rfl, rfl, trivial⟩
  · replace h := ite_m c1 h
    refine r_iconst C d4_hasName_8 ?_
    exact e_z C M d4_hasName_9 (Nat.le_of_ble_eq_true rfl) (Nat.le_of_ble_eq_true rfl) (Or.inl rfl) h
def f3_shipNamed_L3 (V : VV) (q0 : Nat) (x2 : Int) (x3 : Int) : Nat → Int → Option Int
  | 0, _ => none
  | n + 1, x4 => (if nrm (V (aS q0) 3) ≤ nrm x4 then some (-1) else ck ((0:Int) ≤ x4 ∧ x4 < 10) (bd (f4_hasName V q0 (Int.toNat x4) x2 x3) (fun r4 => (if nrm r4 = 0 then f3_shipNamed_L3 V q0 x2 x3 n (x4 + 1) else some x4))))
theorem lp3_shipNamed_3 {G : GT} {X : CT} {cells slots : Nat} {V : VV} (hN : 148 ≤ gN G) (hx : xN X = 5) (C : Cx G X "ChannelSchedule$Setup" b3_shipNamed) {q0 : Nat} {x2 : Int} {x3 : Int} (hq0 : q0 < 2) : ∀ (n : Nat) {x4 : Int} {r : Int}, MX G X 1 0 0 (some .int) (.ok (some (vI r))) V → cells ≤ 0 → slots ≤ 0 → f3_shipNamed_L3 V q0 x2 x3 n x4 = some r → At G X cells slots 3 [(0, .ref (gB G + aS q0)), (1, .ref (gB G + 2)), (2, vI x2), (3, vI x3), (4, vI x4)] [] V := by
  intro n
  induction n with
  | zero => intro x4 r _ _ _ h; exact nomatch h
  | succ n ih =>
    intro x4 r M hc hs h
    rw [f3_shipNamed_L3] at h
    refine r_iload C d3_shipNamed_3 rfl ?_
    refine r_aload_n C d3_shipNamed_5 rfl ?_
    refine g_setup_3 C d3_shipNamed_6 f3_21 hN hq0 ?_
    refine x_icmpge (tgt := 37) C d3_shipNamed_9 rfl (fun c1 => ?_) (fun c1 => ?_)
    · replace h := ite_p c1 h
      refine r_iconst C d3_shipNamed_37 ?_
      exact e_i C M d3_shipNamed_38 hc hs h
    · replace h := ite_m c1 h
      refine r_aload_n C d3_shipNamed_12 rfl ?_
      refine g_setup_4 C d3_shipNamed_13 f3_26 hN hq0 ?_
      refine r_iload C d3_shipNamed_16 rfl ?_
      obtain ⟨c2, h⟩ := ck_of h
      refine x_ships C d3_shipNamed_18 hN hq0 c2 ?_
      refine r_aload_n C d3_shipNamed_19 rfl ?_
      refine r_iload_n C d3_shipNamed_20 rfl ?_
      refine r_iload_n C d3_shipNamed_21 rfl ?_
      obtain ⟨r4, h3, h⟩ := bd_of h
      refine cV3_i C M d3_shipNamed_22 l3_31 w4_hasName (rc_ship hN hq0 (by omega : Int.toNat x4 < 10)) (ev4_hasName C.lt hN h3) rfl hc hs ?_
      refine x_ifeq (tgt := 31) C d3_shipNamed_25 rfl (fun c5 => ?_) (fun c5 => ?_)
      · replace h := ite_p c5 h
        refine x_iinc hx C d3_shipNamed_31 rfl rfl ?_
        refine r_goto (tgt := 3) C d3_shipNamed_34 rfl ?_
        exact AtH.sw (ih M hc hs h) ⟨rfl, rfl, rfl, rfl, rfl, trivial⟩
      · replace h := ite_m c5 h
        refine r_iload C d3_shipNamed_28 rfl ?_
        exact e_i C M d3_shipNamed_30 hc hs h
def f3_shipNamed (V : VV) (q0 : Nat) (x2 : Int) (x3 : Int) : Option Int := ck (q0 < 2) (f3_shipNamed_L3 V q0 x2 x3 FU 0)
theorem ev3_shipNamed {G : GT} {l : Launch} {V : VV} {q0 : Nat} {x2 : Int} {x3 : Int} {r : Int} (hlt : l.stackTraces = false) (hN : 148 ≤ gN G) (h : f3_shipNamed V q0 x2 x3 = some r) : EvX G l y3_shipNamed b3_shipNamed 5 (some .int) 1 0 0 [.ref (gB G + aS q0), .ref (gB G + 2), vI x2, vI x3] V (.ok (some (vI r))) V := by
  refine ev_w hlt (by decide +kernel) rfl rfl (fun X hl hx C M => ?_)
  subst hl
  replace C : Cx G X "ChannelSchedule$Setup" b3_shipNamed := C
  unfold f3_shipNamed at h
  show At G X 0 0 0 [(0, .ref (gB G + aS q0)), (1, .ref (gB G + 2)), (2, vI x2), (3, vI x3)] [] V
  obtain ⟨hq0, h⟩ := ck_of h
  refine r_iconst C d3_shipNamed_0 ?_
  refine x_istore hx C d3_shipNamed_1 rfl ?_
  exact AtH.sw (lp3_shipNamed_3 hN hx C hq0 FU M (Nat.le_of_ble_eq_true rfl) (Nat.le_of_ble_eq_true rfl) h) ⟨rfl, rfl, rfl, rfl, rfl, trivial⟩
def f4_takeName_L19 (q0 : Nat) (i0 : Nat) (x2 : Int) : Nat → Int → VV → Option (VV)
  | 0, _, _ => none
  | n + 1, x4, V => (if nrm (V (aS q0 + (2 + 2 * i0)) 1) ≤ nrm x4 then some V else ck ((0:Int) ≤ (x2 + x4) ∧ (x2 + x4) < 600) (ck ((0:Int) ≤ x4 ∧ x4 < 6) (f4_takeName_L19 q0 i0 x2 n (x4 + 1) (up2 V (aS q0 + (2 + 2 * i0) + 1) (Int.toNat x4) (wB (V 2 (Int.toNat (x2 + x4))))))))
theorem lp4_takeName_19 {G : GT} {X : CT} {cells slots : Nat} (hN : 148 ≤ gN G) (hx : xN X = 5) (C : Cx G X "ChannelSchedule$Ship" b4_takeName) {q0 : Nat} {i0 : Nat} {x2 : Int} (hq0 : q0 < 2) (hi0 : i0 < 10) {o0 : Except String (Option Value)} {V9 : VV} (M : MX G X 0 0 0 none o0 V9) (hc : cells ≤ 0) (hs : slots ≤ 0) : ∀ (n : Nat) {x4 : Int} {V : VV} {W0 : VV}, f4_takeName_L19 q0 i0 x2 n x4 V = some (W0) → At G X cells slots 47 [] [] W0 → At G X cells slots 19 [(0, .ref (gB G + (aS q0 + (2 + 2 * i0)))), (1, .ref (gB G + 2)), (2, vI x2), (4, vI x4)] [] V := by
  intro n
  induction n with
  | zero => intro x4 V W0 h _; exact nomatch h
  | succ n ih =>
    intro x4 V W0 h K
    rw [f4_takeName_L19] at h
    refine r_iload C d4_takeName_19 rfl ?_
    refine r_aload_n C d4_takeName_21 rfl ?_
    refine g_ship_1 C d4_takeName_22 f4_15 hN hq0 hi0 ?_
    refine x_icmpge (tgt := 47) C d4_takeName_25 rfl (fun c5 => ?_) (fun c5 => ?_)
    · replace h := ite_p c5 h
      cases h
      exact AtH.sw K trivial
    · replace h := ite_m c5 h
      refine r_aload_n C d4_takeName_28 rfl ?_
      refine g_ship_0 C d4_takeName_29 f4_9 hN hq0 hi0 ?_
      refine r_iload C d4_takeName_32 rfl ?_
      refine r_aload_n C d4_takeName_34 rfl ?_
      refine r_iload_n C d4_takeName_35 rfl ?_
      refine r_iload C d4_takeName_36 rfl ?_
      refine r_iadd C d4_takeName_38 ?_
      obtain ⟨c6, h⟩ := ck_of h
      refine x_bald C d4_takeName_39 (ra_bytes hN) c6 ?_
      obtain ⟨c7, h⟩ := ck_of h
      refine x_bast C d4_takeName_40 (ra_name hN hq0 hi0) c7 ?_
      refine x_iinc hx C d4_takeName_41 rfl rfl ?_
      refine r_goto (tgt := 19) C d4_takeName_44 rfl ?_
      exact AtH.sw (ih h K) ⟨rfl, rfl, rfl, rfl, trivial⟩
def f4_takeName (V : VV) (q0 : Nat) (i0 : Nat) (x2 : Int) (x3 : Int) : Option VV := ck (q0 < 2) (ck (i0 < 10) (bd ((if nrm 6 ≤ nrm x3 then some (6) else some (x3))) (fun y2 => bd (f4_takeName_L19 q0 i0 x2 FU 0 (up2 V (aS q0 + (2 + 2 * i0)) 1 y2)) (fun W8 => some W8))))
theorem ev4_takeName {G : GT} {l : Launch} {V : VV} {q0 : Nat} {i0 : Nat} {x2 : Int} {x3 : Int} {V1 : VV} (hlt : l.stackTraces = false) (hN : 148 ≤ gN G) (h : f4_takeName V q0 i0 x2 x3 = some V1) : EvX G l y4_takeName b4_takeName 5 none 0 0 0 [.ref (gB G + (aS q0 + (2 + 2 * i0))), .ref (gB G + 2), vI x2, vI x3] V (.ok none) V1 := by
  refine ev_w hlt (by decide +kernel) rfl rfl (fun X hl hx C M => ?_)
  subst hl
  replace C : Cx G X "ChannelSchedule$Ship" b4_takeName := C
  unfold f4_takeName at h
  show At G X 0 0 0 [(0, .ref (gB G + (aS q0 + (2 + 2 * i0)))), (1, .ref (gB G + 2)), (2, vI x2), (3, vI x3)] [] V
  obtain ⟨hq0, h⟩ := ck_of h
  obtain ⟨hi0, h⟩ := ck_of h
  refine r_aload_n C d4_takeName_0 rfl ?_
  refine r_iload_n C d4_takeName_1 rfl ?_
  refine r_bipush C d4_takeName_2 (by decide +kernel) ?_
  obtain ⟨y2, h3, h⟩ := bd_of h
  suffices J4 : At G X 0 0 13 [(0, .ref (gB G + (aS q0 + (2 + 2 * i0)))), (1, .ref (gB G + 2)), (2, vI x2)] [vI y2, .ref (gB G + (aS q0 + (2 + 2 * i0)))] V by
    replace h := h3
    refine x_icmpge (tgt := 11) C d4_takeName_4 rfl (fun c1 => ?_) (fun c1 => ?_)
    · replace h := ite_p c1 h
      refine r_bipush C d4_takeName_11 (by decide +kernel) ?_
      cases h
      exact AtH.sw J4 ⟨rfl, rfl, rfl, trivial⟩
    · replace h := ite_m c1 h
      refine r_iload_n C d4_takeName_7 rfl ?_
      refine r_goto (tgt := 13) C d4_takeName_8 rfl ?_
      cases h
      exact AtH.sw J4 ⟨rfl, rfl, rfl, trivial⟩
  refine p_ship_1 C d4_takeName_13 f4_15 hN hq0 hi0 ?_
  refine r_iconst C d4_takeName_16 ?_
  refine x_istore hx C d4_takeName_17 rfl ?_
  obtain ⟨W8, h9, h⟩ := bd_of h
  refine AtH.sw (lp4_takeName_19 hN hx C hq0 hi0 M (Nat.le_of_ble_eq_true rfl) (Nat.le_of_ble_eq_true rfl) FU h9 ?_) ⟨rfl, rfl, rfl, rfl, trivial⟩
  exact e_v C M d4_takeName_47 (Nat.le_of_ble_eq_true rfl) (Nat.le_of_ble_eq_true rfl) h
def f5_append (V : VV) (x1 : Int) (x2 : Int) (x3 : Int) (x4 : Int) (x5 : Int) : Option (Int × VV) := bd ((if nrm 600 < nrm ((V 1 1) + 20) then some (0) else some (1))) (fun y2 => ck (¬ nrm y2 = 0) (bd (f0_putFour V x1) (fun W7 => bd (f0_putFour W7 x2) (fun W9 => bd (f0_putFour W9 x3) (fun W11 => bd (f0_putFour W11 x4) (fun W13 => bd (f0_putFour W13 x5) (fun W15 => some (W15 1 1, W15))))))))
theorem ev5_append {G : GT} {l : Launch} {V : VV} {x1 : Int} {x2 : Int} {x3 : Int} {x4 : Int} {x5 : Int} {r : Int} {V1 : VV} (hlt : l.stackTraces = false) (hN : 148 ≤ gN G) (h : f5_append V x1 x2 x3 x4 x5 = some (r, V1)) : EvX G l y5_append b5_append 6 (some .int) 2 0 0 [.ref (gB G + 0), vI x1, vI x2, vI x3, vI x4, vI x5] V (.ok (some (vI r))) V1 := by
  refine ev_w hlt (by decide +kernel) rfl rfl (fun X hl hx C M => ?_)
  subst hl
  replace C : Cx G X "ChannelSchedule" b5_append := C
  unfold f5_append at h
  show At G X 0 0 0 [(0, .ref (gB G + 0)), (1, vI x1), (2, vI x2), (3, vI x3), (4, vI x4), (5, vI x5)] [] V
  refine r_aload_n C d5_append_0 rfl ?_
  refine g_main_0 C d5_append_1 f5_10 hN ?_
  refine g_input_1 C d5_append_4 f5_95 hN ?_
  refine r_bipush C d5_append_7 (by decide +kernel) ?_
  refine r_iadd C d5_append_9 ?_
  refine r_sipush C d5_append_10 (by decide +kernel) ?_
  obtain ⟨y2, h3, h⟩ := bd_of h
  suffices J4 : At G X 0 0 21 [(0, .ref (gB G + 0)), (1, vI x1), (2, vI x2), (3, vI x3), (4, vI x4), (5, vI x5)] [vI y2] V by
    replace h := h3
    refine x_icmpgt (tgt := 20) C d5_append_13 rfl (fun c1 => ?_) (fun c1 => ?_)
    · replace h := ite_p c1 h
      refine r_iconst C d5_append_20 ?_
      cases h
      exact AtH.sw J4 ⟨rfl, rfl, rfl, rfl, rfl, rfl, trivial⟩
    · replace h := ite_m c1 h
      refine r_iconst C d5_append_16 ?_
      refine r_goto (tgt := 21) C d5_append_17 rfl ?_
      cases h
      exact AtH.sw J4 ⟨rfl, rfl, rfl, rfl, rfl, rfl, trivial⟩
  obtain ⟨c5, h⟩ := ck_of h
  refine cS1_v C M d5_append_21 l5_97 w5_requireState (ev5_requireState C.lt c5) rfl (Nat.le_of_ble_eq_true rfl) (Nat.le_of_ble_eq_true rfl) ?_
  refine r_aload_n C d5_append_24 rfl ?_
  refine g_main_0 C d5_append_25 f5_10 hN ?_
  refine r_iload_n C d5_append_28 rfl ?_
  obtain ⟨W7, h6, h⟩ := bd_of h
  refine cV1_v C M d5_append_29 l5_101 w0_putFour (rc_input hN) (ev0_putFour C.lt hN h6) rfl (Nat.le_of_ble_eq_true rfl) (Nat.le_of_ble_eq_true rfl) ?_
  refine r_aload_n C d5_append_32 rfl ?_
  refine g_main_0 C d5_append_33 f5_10 hN ?_
  refine r_iload_n C d5_append_36 rfl ?_
  obtain ⟨W9, h8, h⟩ := bd_of h
  refine cV1_v C M d5_append_37 l5_101 w0_putFour (rc_input hN) (ev0_putFour C.lt hN h8) rfl (Nat.le_of_ble_eq_true rfl) (Nat.le_of_ble_eq_true rfl) ?_
  refine r_aload_n C d5_append_40 rfl ?_
  refine g_main_0 C d5_append_41 f5_10 hN ?_
  refine r_iload_n C d5_append_44 rfl ?_
  obtain ⟨W11, h10, h⟩ := bd_of h
  refine cV1_v C M d5_append_45 l5_101 w0_putFour (rc_input hN) (ev0_putFour C.lt hN h10) rfl (Nat.le_of_ble_eq_true rfl) (Nat.le_of_ble_eq_true rfl) ?_
  refine r_aload_n C d5_append_48 rfl ?_
  refine g_main_0 C d5_append_49 f5_10 hN ?_
  refine r_iload C d5_append_52 rfl ?_
  obtain ⟨W13, h12, h⟩ := bd_of h
  refine cV1_v C M d5_append_54 l5_101 w0_putFour (rc_input hN) (ev0_putFour C.lt hN h12) rfl (Nat.le_of_ble_eq_true rfl) (Nat.le_of_ble_eq_true rfl) ?_
  refine r_aload_n C d5_append_57 rfl ?_
  refine g_main_0 C d5_append_58 f5_10 hN ?_
  refine r_iload C d5_append_61 rfl ?_
  obtain ⟨W15, h14, h⟩ := bd_of h
  refine cV1_v C M d5_append_63 l5_101 w0_putFour (rc_input hN) (ev0_putFour C.lt hN h14) rfl (Nat.le_of_ble_eq_true rfl) (Nat.le_of_ble_eq_true rfl) ?_
  refine r_aload_n C d5_append_66 rfl ?_
  refine g_main_0 C d5_append_67 f5_10 hN ?_
  refine g_input_1 C d5_append_70 f5_95 hN ?_
  exact e_iv C M d5_append_73 (Nat.le_of_ble_eq_true rfl) (Nat.le_of_ble_eq_true rfl) h
def f5_isWithin (V : VV) (x0 : Int) (x1 : Int) (x2 : Int) : Option Int := (if nrm x0 < nrm x1 then some 0 else (if nrm x2 < nrm x0 then some 0 else some 1))
theorem ev5_isWithin {G : GT} {l : Launch} {V : VV} {x0 : Int} {x1 : Int} {x2 : Int} {r : Int} (hlt : l.stackTraces = false) (hN : 148 ≤ gN G) (h : f5_isWithin V x0 x1 x2 = some r) : EvX G l y5_isWithin b5_isWithin 3 (some .boolean) 0 0 0 [vI x0, vI x1, vI x2] V (.ok (some (vI r))) V := by
  refine ev_w hlt (by decide +kernel) rfl rfl (fun X hl hx C M => ?_)
  subst hl
  replace C : Cx G X "ChannelSchedule" b5_isWithin := C
  unfold f5_isWithin at h
  show At G X 0 0 0 [(0, vI x0), (1, vI x1), (2, vI x2)] [] V
  refine r_iload_n C d5_isWithin_0 rfl ?_
  refine r_iload_n C d5_isWithin_1 rfl ?_
  refine x_icmplt (tgt := 14) C d5_isWithin_2 rfl (fun c1 => ?_) (fun c1 => ?_)
  · replace h := ite_p c1 h
    refine r_iconst C d5_isWithin_14 ?_
    exact e_z C M d5_isWithin_15 (Nat.le_of_ble_eq_true rfl) (Nat.le_of_ble_eq_true rfl) (Or.inl rfl) h
  · replace h := ite_m c1 h
    refine r_iload_n C d5_isWithin_5 rfl ?_
    refine r_iload_n C d5_isWithin_6 rfl ?_
    refine x_icmpgt (tgt := 14) C d5_isWithin_7 rfl (fun c2 => ?_) (fun c2 => ?_)
    · replace h := ite_p c2 h
      refine r_iconst C d5_isWithin_14 ?_
      exact e_z C M d5_isWithin_15 (Nat.le_of_ble_eq_true rfl) (Nat.le_of_ble_eq_true rfl) (Or.inl rfl) h
    · replace h := ite_m c2 h
      refine r_iconst C d5_isWithin_10 ?_
      refine r_goto (tgt := 15) C d5_isWithin_11 rfl ?_
      exact e_z C M d5_isWithin_15 (Nat.le_of_ble_eq_true rfl) (Nat.le_of_ble_eq_true rfl) (Or.inr rfl) h
def f5_truncate (V : VV) (x1 : Int) : Option (Int × VV) := bd (f5_isWithin V x1 0 (V 1 1)) (fun r2 => ck (¬ nrm r2 = 0) (some (x1, up2 V 1 1 x1)))
theorem ev5_truncate {G : GT} {l : Launch} {V : VV} {x1 : Int} {r : Int} {V1 : VV} (hlt : l.stackTraces = false) (hN : 148 ≤ gN G) (h : f5_truncate V x1 = some (r, V1)) : EvX G l y5_truncate b5_truncate 2 (some .int) 1 0 0 [.ref (gB G + 0), vI x1] V (.ok (some (vI r))) V1 := by
  refine ev_w hlt (by decide +kernel) rfl rfl (fun X hl hx C M => ?_)
  subst hl
  replace C : Cx G X "ChannelSchedule" b5_truncate := C
  unfold f5_truncate at h
  show At G X 0 0 0 [(0, .ref (gB G + 0)), (1, vI x1)] [] V
  refine r_iload_n C d5_truncate_0 rfl ?_
  refine r_iconst C d5_truncate_1 ?_
  refine r_aload_n C d5_truncate_2 rfl ?_
  refine g_main_0 C d5_truncate_3 f5_10 hN ?_
  refine g_input_1 C d5_truncate_6 f5_95 hN ?_
  obtain ⟨r2, h1, h⟩ := bd_of h
  refine cS3_i C M d5_truncate_9 l5_104 w5_isWithin (ev5_isWithin C.lt hN h1) rfl (Nat.le_of_ble_eq_true rfl) (Nat.le_of_ble_eq_true rfl) ?_
  obtain ⟨c3, h⟩ := ck_of h
  refine cS1_v C M d5_truncate_12 l5_108 w5_requireArgument (ev5_requireArgument C.lt c3) rfl (Nat.le_of_ble_eq_true rfl) (Nat.le_of_ble_eq_true rfl) ?_
  refine r_aload_n C d5_truncate_15 rfl ?_
  refine g_main_0 C d5_truncate_16 f5_10 hN ?_
  refine r_iload_n C d5_truncate_19 rfl ?_
  refine p_input_1 C d5_truncate_20 f5_95 hN ?_
  refine r_iload_n C d5_truncate_23 rfl ?_
  exact e_iv C M d5_truncate_24 (Nat.le_of_ble_eq_true rfl) (Nat.le_of_ble_eq_true rfl) h
def f5_readSettings (V : VV) : Option (Int × VV) := bd2 (f0_takeWord V 1) (fun r2 W3 => (if nrm r2 = 0 then some (0, W3) else bd2 (f0_takeNumber W3 0 30) (fun r6 W7 => (if nrm r6 = 0 then some (0, W7) else ck ((W7 0 3).toNat < 2) (bd2 (f0_takeNumber (up2 W7 (aS ((W7 0 3).toNat)) 0 (W7 1 7)) 0 30) (fun r11 W12 => (if nrm r11 = 0 then some (0, W12) else ck ((W12 0 3).toNat < 2) (bd2 (f0_takeNumber (up2 W12 (aS ((W12 0 3).toNat)) 1 (W12 1 7)) 0 9) (fun r16 W17 => (if nrm r16 = 0 then some (0, W17) else ck ((W17 0 3).toNat < 2) (bd2 (f0_takeSemicolon (up2 W17 (aS ((W17 0 3).toNat)) 2 (W17 1 7))) (fun r21 W22 => ck (r21 = 0 ∨ r21 = 1) (some (r21, W22))))))))))))))
theorem ev5_readSettings {G : GT} {l : Launch} {V : VV} {r : Int} {V1 : VV} (hlt : l.stackTraces = false) (hN : 148 ≤ gN G) (h : f5_readSettings V = some (r, V1)) : EvX G l y5_readSettings b5_readSettings 1 (some .boolean) 6 0 0 [.ref (gB G + 0)] V (.ok (some (vI r))) V1 := by
  refine ev_w hlt (by decide +kernel) rfl rfl (fun X hl hx C M => ?_)
  subst hl
  replace C : Cx G X "ChannelSchedule" b5_readSettings := C
  unfold f5_readSettings at h
  show At G X 0 0 0 [(0, .ref (gB G + 0))] [] V
  refine r_aload_n C d5_readSettings_0 rfl ?_
  refine g_main_0 C d5_readSettings_1 f5_10 hN ?_
  refine x_ldc_wX C d5_readSettings_4 (k := 1) (by decide) ?_
  obtain ⟨r2, W3, h1, h⟩ := bd2_of h
  refine cV1_i C M d5_readSettings_7 l5_393 w0_takeWord (rc_input hN) (ev0_takeWord C.lt hN h1) rfl (Nat.le_of_ble_eq_true rfl) (Nat.le_of_ble_eq_true rfl) ?_
  refine x_ifeq (tgt := 26) C d5_readSettings_10 rfl (fun c4 => ?_) (fun c4 => ?_)
  · replace h := ite_p c4 h
    refine r_iconst C d5_readSettings_26 ?_
    exact e_zv C M d5_readSettings_27 (Nat.le_of_ble_eq_true rfl) (Nat.le_of_ble_eq_true rfl) (Or.inl rfl) h
  · replace h := ite_m c4 h
    refine r_aload_n C d5_readSettings_13 rfl ?_
    refine g_main_0 C d5_readSettings_14 f5_10 hN ?_
    refine r_iconst C d5_readSettings_17 ?_
    refine r_bipush C d5_readSettings_18 (by decide +kernel) ?_
    obtain ⟨r6, W7, h5, h⟩ := bd2_of h
    refine cV2_i C M d5_readSettings_20 l5_397 w0_takeNumber (rc_input hN) (ev0_takeNumber C.lt hN h5) rfl (Nat.le_of_ble_eq_true rfl) (Nat.le_of_ble_eq_true rfl) ?_
    refine x_ifne (tgt := 28) C d5_readSettings_23 rfl (fun c8 => ?_) (fun c8 => ?_)
    · replace h := ite_p c8 h
      refine r_iconst C d5_readSettings_26 ?_
      exact e_zv C M d5_readSettings_27 (Nat.le_of_ble_eq_true rfl) (Nat.le_of_ble_eq_true rfl) (Or.inl rfl) h
    · replace h := ite_m c8 h
      refine r_aload_n C d5_readSettings_28 rfl ?_
      refine g_main_3 C d5_readSettings_29 f5_30 hN ?_
      obtain ⟨c9, h⟩ := ck_of h
      refine r_aload_n C d5_readSettings_32 rfl ?_
      refine g_main_0 C d5_readSettings_33 f5_10 hN ?_
      refine g_input_7 C d5_readSettings_36 f5_400 hN ?_
      refine p_setup_0 C d5_readSettings_39 f5_120 hN c9 ?_
      refine r_aload_n C d5_readSettings_42 rfl ?_
      refine g_main_0 C d5_readSettings_43 f5_10 hN ?_
      refine r_iconst C d5_readSettings_46 ?_
      refine r_bipush C d5_readSettings_47 (by decide +kernel) ?_
      obtain ⟨r11, W12, h10, h⟩ := bd2_of h
      refine cV2_i C M d5_readSettings_49 l5_397 w0_takeNumber (rc_input hN) (ev0_takeNumber C.lt hN h10) rfl (Nat.le_of_ble_eq_true rfl) (Nat.le_of_ble_eq_true rfl) ?_
      refine x_ifne (tgt := 57) C d5_readSettings_52 rfl (fun c13 => ?_) (fun c13 => ?_)
      · replace h := ite_p c13 h
        refine r_iconst C d5_readSettings_55 ?_
        exact e_zv C M d5_readSettings_56 (Nat.le_of_ble_eq_true rfl) (Nat.le_of_ble_eq_true rfl) (Or.inl rfl) h
      · replace h := ite_m c13 h
        refine r_aload_n C d5_readSettings_57 rfl ?_
        refine g_main_3 C d5_readSettings_58 f5_30 hN ?_
        obtain ⟨c14, h⟩ := ck_of h
        refine r_aload_n C d5_readSettings_61 rfl ?_
        refine g_main_0 C d5_readSettings_62 f5_10 hN ?_
        refine g_input_7 C d5_readSettings_65 f5_400 hN ?_
        refine p_setup_1 C d5_readSettings_68 f5_123 hN c14 ?_
        refine r_aload_n C d5_readSettings_71 rfl ?_
        refine g_main_0 C d5_readSettings_72 f5_10 hN ?_
        refine r_iconst C d5_readSettings_75 ?_
        refine r_bipush C d5_readSettings_76 (by decide +kernel) ?_
        obtain ⟨r16, W17, h15, h⟩ := bd2_of h
        refine cV2_i C M d5_readSettings_78 l5_397 w0_takeNumber (rc_input hN) (ev0_takeNumber C.lt hN h15) rfl (Nat.le_of_ble_eq_true rfl) (Nat.le_of_ble_eq_true rfl) ?_
        refine x_ifne (tgt := 86) C d5_readSettings_81 rfl (fun c18 => ?_) (fun c18 => ?_)
        · replace h := ite_p c18 h
          refine r_iconst C d5_readSettings_84 ?_
          exact e_zv C M d5_readSettings_85 (Nat.le_of_ble_eq_true rfl) (Nat.le_of_ble_eq_true rfl) (Or.inl rfl) h
        · replace h := ite_m c18 h
          refine r_aload_n C d5_readSettings_86 rfl ?_
          refine g_main_3 C d5_readSettings_87 f5_30 hN ?_
          obtain ⟨c19, h⟩ := ck_of h
          refine r_aload_n C d5_readSettings_90 rfl ?_
          refine g_main_0 C d5_readSettings_91 f5_10 hN ?_
          refine g_input_7 C d5_readSettings_94 f5_400 hN ?_
          refine p_setup_2 C d5_readSettings_97 f5_403 hN c19 ?_
          refine r_aload_n C d5_readSettings_100 rfl ?_
          refine g_main_0 C d5_readSettings_101 f5_10 hN ?_
          obtain ⟨r21, W22, h20, h⟩ := bd2_of h
          refine cV0_i C M d5_readSettings_104 l5_404 w0_takeSemicolon (rc_input hN) (ev0_takeSemicolon C.lt hN h20) rfl (Nat.le_of_ble_eq_true rfl) (Nat.le_of_ble_eq_true rfl) ?_
          obtain ⟨c23, h⟩ := ck_of h
          exact e_zv C M d5_readSettings_107 (Nat.le_of_ble_eq_true rfl) (Nat.le_of_ble_eq_true rfl) c23 h
def f5_readNewName (V : VV) (q1 : Nat) (i1 : Nat) : Option (Int × VV) := ck (q1 < 2) (ck (i1 < 10) ((if nrm (V 1 4) = nrm 1 then (if nrm 6 < nrm ((V 1 6) - (V 1 5)) then bd2 (f0_fail V 3) (fun r4 W5 => ck (r4 = 0 ∨ r4 = 1) (some (r4, W5))) else ck ((V 0 3).toNat < 2) (bd (f3_shipNamed V ((V 0 3).toNat) (V 1 5) ((V 1 6) - (V 1 5))) (fun r9 => (if nrm r9 = nrm (-1) then bd (f4_takeName V q1 i1 (V 1 5) ((V 1 6) - (V 1 5))) (fun W12 => bd (f0_readToken W12) (fun W14 => some (1, W14))) else bd2 (f0_fail V 3) (fun r16 W17 => ck (r16 = 0 ∨ r16 = 1) (some (r16, W17))))))) else bd2 (f0_fail V 1) (fun r20 W21 => ck (r20 = 0 ∨ r20 = 1) (some (r20, W21))))))
theorem ev5_readNewName {G : GT} {l : Launch} {V : VV} {q1 : Nat} {i1 : Nat} {r : Int} {V1 : VV} (hlt : l.stackTraces = false) (hN : 148 ≤ gN G) (h : f5_readNewName V q1 i1 = some (r, V1)) : EvX G l y5_readNewName b5_readNewName 3 (some .boolean) 3 0 0 [.ref (gB G + 0), .ref (gB G + (aS q1 + (2 + 2 * i1)))] V (.ok (some (vI r))) V1 := by
  refine ev_w hlt (by decide +kernel) rfl rfl (fun X hl hx C M => ?_)
  subst hl
  replace C : Cx G X "ChannelSchedule" b5_readNewName := C
  unfold f5_readNewName at h
  show At G X 0 0 0 [(0, .ref (gB G + 0)), (1, .ref (gB G + (aS q1 + (2 + 2 * i1))))] [] V
  obtain ⟨hq1, h⟩ := ck_of h
  obtain ⟨hi1, h⟩ := ck_of h
  refine r_aload_n C d5_readNewName_0 rfl ?_
  refine g_main_0 C d5_readNewName_1 f5_10 hN ?_
  refine g_input_4 C d5_readNewName_4 f5_385 hN ?_
  refine r_iconst C d5_readNewName_7 ?_
  refine x_icmpeq (tgt := 20) C d5_readNewName_8 rfl (fun c1 => ?_) (fun c1 => ?_)
  · replace h := ite_p c1 h
    refine r_aload_n C d5_readNewName_20 rfl ?_
    refine g_main_0 C d5_readNewName_21 f5_10 hN ?_
    refine g_input_6 C d5_readNewName_24 f5_419 hN ?_
    refine r_aload_n C d5_readNewName_27 rfl ?_
    refine g_main_0 C d5_readNewName_28 f5_10 hN ?_
    refine g_input_5 C d5_readNewName_31 f5_422 hN ?_
    refine r_isub C d5_readNewName_34 ?_
    refine x_istore_n hx C d5_readNewName_35 rfl ?_
    refine r_iload_n C d5_readNewName_36 rfl ?_
    refine r_bipush C d5_readNewName_37 (by decide +kernel) ?_
    refine x_icmpgt (tgt := 68) C d5_readNewName_39 rfl (fun c2 => ?_) (fun c2 => ?_)
    · replace h := ite_p c2 h
      refine r_aload_n C d5_readNewName_68 rfl ?_
      refine g_main_0 C d5_readNewName_69 f5_10 hN ?_
      refine r_iconst C d5_readNewName_72 ?_
      obtain ⟨r4, W5, h3, h⟩ := bd2_of h
      refine cV1_i C M d5_readNewName_73 l5_412 w0_fail (rc_input hN) (ev0_fail C.lt hN h3) rfl (Nat.le_of_ble_eq_true rfl) (Nat.le_of_ble_eq_true rfl) ?_
      obtain ⟨c6, h⟩ := ck_of h
      exact e_zv C M d5_readNewName_76 (Nat.le_of_ble_eq_true rfl) (Nat.le_of_ble_eq_true rfl) c6 h
    · replace h := ite_m c2 h
      refine r_aload_n C d5_readNewName_42 rfl ?_
      refine g_main_3 C d5_readNewName_43 f5_30 hN ?_
      obtain ⟨c7, h⟩ := ck_of h
      refine r_aload_n C d5_readNewName_46 rfl ?_
      refine g_main_0 C d5_readNewName_47 f5_10 hN ?_
      refine g_input_0 C d5_readNewName_50 f5_165 hN ?_
      refine r_aload_n C d5_readNewName_53 rfl ?_
      refine g_main_0 C d5_readNewName_54 f5_10 hN ?_
      refine g_input_5 C d5_readNewName_57 f5_422 hN ?_
      refine r_iload_n C d5_readNewName_60 rfl ?_
      obtain ⟨r9, h8, h⟩ := bd_of h
      refine cV3_i C M d5_readNewName_61 l5_168 w3_shipNamed (rc_setup hN c7) (ev3_shipNamed C.lt hN h8) rfl (Nat.le_of_ble_eq_true rfl) (Nat.le_of_ble_eq_true rfl) ?_
      refine r_iconst C d5_readNewName_64 ?_
      refine x_icmpeq (tgt := 77) C d5_readNewName_65 rfl (fun c10 => ?_) (fun c10 => ?_)
      · replace h := ite_p c10 h
        refine r_aload_n C d5_readNewName_77 rfl ?_
        refine r_aload_n C d5_readNewName_78 rfl ?_
        refine g_main_0 C d5_readNewName_79 f5_10 hN ?_
        refine g_input_0 C d5_readNewName_82 f5_165 hN ?_
        refine r_aload_n C d5_readNewName_85 rfl ?_
        refine g_main_0 C d5_readNewName_86 f5_10 hN ?_
        refine g_input_5 C d5_readNewName_89 f5_422 hN ?_
        refine r_iload_n C d5_readNewName_92 rfl ?_
        obtain ⟨W12, h11, h⟩ := bd_of h
        refine cV3_v C M d5_readNewName_93 l5_425 w4_takeName (rc_ship hN hq1 hi1) (ev4_takeName C.lt hN h11) rfl (Nat.le_of_ble_eq_true rfl) (Nat.le_of_ble_eq_true rfl) ?_
        refine r_aload_n C d5_readNewName_96 rfl ?_
        refine g_main_0 C d5_readNewName_97 f5_10 hN ?_
        obtain ⟨W14, h13, h⟩ := bd_of h
        refine cV0_v C M d5_readNewName_100 l5_429 w0_readToken (rc_input hN) (ev0_readToken C.lt hN h13) rfl (Nat.le_of_ble_eq_true rfl) (Nat.le_of_ble_eq_true rfl) ?_
        refine r_iconst C d5_readNewName_103 ?_
        exact e_zv C M d5_readNewName_104 (Nat.le_of_ble_eq_true rfl) (Nat.le_of_ble_eq_true rfl) (Or.inr rfl) h
      · replace h := ite_m c10 h
        refine r_aload_n C d5_readNewName_68 rfl ?_
        refine g_main_0 C d5_readNewName_69 f5_10 hN ?_
        refine r_iconst C d5_readNewName_72 ?_
        obtain ⟨r16, W17, h15, h⟩ := bd2_of h
        refine cV1_i C M d5_readNewName_73 l5_412 w0_fail (rc_input hN) (ev0_fail C.lt hN h15) rfl (Nat.le_of_ble_eq_true rfl) (Nat.le_of_ble_eq_true rfl) ?_
        obtain ⟨c18, h⟩ := ck_of h
        exact e_zv C M d5_readNewName_76 (Nat.le_of_ble_eq_true rfl) (Nat.le_of_ble_eq_true rfl) c18 h
  · replace h := ite_m c1 h
    refine r_aload_n C d5_readNewName_11 rfl ?_
    refine g_main_0 C d5_readNewName_12 f5_10 hN ?_
    refine r_iconst C d5_readNewName_15 ?_
    obtain ⟨r20, W21, h19, h⟩ := bd2_of h
    refine cV1_i C M d5_readNewName_16 l5_412 w0_fail (rc_input hN) (ev0_fail C.lt hN h19) rfl (Nat.le_of_ble_eq_true rfl) (Nat.le_of_ble_eq_true rfl) ?_
    obtain ⟨c22, h⟩ := ck_of h
    exact e_zv C M d5_readNewName_19 (Nat.le_of_ble_eq_true rfl) (Nat.le_of_ble_eq_true rfl) c22 h
def f5_readShip (V : VV) : Option (Int × VV) := bd (f0_isWord V 2) (fun r2 => (if nrm r2 = 0 then bd2 (f0_takeWord V 2) (fun r5 W6 => (if nrm r5 = 0 then some (0, W6) else ck ((W6 0 3).toNat < 2) (ck ((0:Int) ≤ (W6 (aS ((W6 0 3).toNat)) 3) ∧ (W6 (aS ((W6 0 3).toNat)) 3) < 10) (bd2 (f5_readNewName W6 ((W6 0 3).toNat) (Int.toNat (W6 (aS ((W6 0 3).toNat)) 3))) (fun r11 W12 => (if nrm r11 = 0 then some (0, W12) else bd2 (f0_takeNumber W12 1 60) (fun r15 W16 => (if nrm r15 = 0 then some (0, W16) else bd2 (f0_takeNumber (up2 W16 (aS ((W6 0 3).toNat) + (2 + 2 * (Int.toNat (W6 (aS ((W6 0 3).toNat)) 3)))) 2 (W16 1 7)) 0 9) (fun r19 W20 => (if nrm r19 = 0 then some (0, W20) else bd2 (f0_takeNumber (up2 W20 (aS ((W6 0 3).toNat) + (2 + 2 * (Int.toNat (W6 (aS ((W6 0 3).toNat)) 3)))) 3 (W20 1 7)) 1 99) (fun r23 W24 => (if nrm r23 = 0 then some (0, W24) else ck (((up2 W24 (aS ((W6 0 3).toNat) + (2 + 2 * (Int.toNat (W6 (aS ((W6 0 3).toNat)) 3)))) 4 (W24 1 7)) 0 3).toNat < 2) (bd2 (f0_takeSemicolon (up2 (up2 W24 (aS ((W6 0 3).toNat) + (2 + 2 * (Int.toNat (W6 (aS ((W6 0 3).toNat)) 3)))) 4 (W24 1 7)) (aS (((up2 W24 (aS ((W6 0 3).toNat) + (2 + 2 * (Int.toNat (W6 (aS ((W6 0 3).toNat)) 3)))) 4 (W24 1 7)) 0 3).toNat)) 3 (((up2 W24 (aS ((W6 0 3).toNat) + (2 + 2 * (Int.toNat (W6 (aS ((W6 0 3).toNat)) 3)))) 4 (W24 1 7)) (aS (((up2 W24 (aS ((W6 0 3).toNat) + (2 + 2 * (Int.toNat (W6 (aS ((W6 0 3).toNat)) 3)))) 4 (W24 1 7)) 0 3).toNat)) 3) + 1))) (fun r28 W29 => ck (r28 = 0 ∨ r28 = 1) (some (r28, W29)))))))))))))))) else ck ((V 0 3).toNat < 2) ((if nrm (V (aS ((V 0 3).toNat)) 3) = nrm 10 then bd2 (f0_fail V 4) (fun r34 W35 => ck (r34 = 0 ∨ r34 = 1) (some (r34, W35))) else bd2 (f0_takeWord V 2) (fun r38 W39 => (if nrm r38 = 0 then some (0, W39) else ck ((W39 0 3).toNat < 2) (ck ((0:Int) ≤ (W39 (aS ((W39 0 3).toNat)) 3) ∧ (W39 (aS ((W39 0 3).toNat)) 3) < 10) (bd2 (f5_readNewName W39 ((W39 0 3).toNat) (Int.toNat (W39 (aS ((W39 0 3).toNat)) 3))) (fun r44 W45 => (if nrm r44 = 0 then some (0, W45) else bd2 (f0_takeNumber W45 1 60) (fun r48 W49 => (if nrm r48 = 0 then some (0, W49) else bd2 (f0_takeNumber (up2 W49 (aS ((W39 0 3).toNat) + (2 + 2 * (Int.toNat (W39 (aS ((W39 0 3).toNat)) 3)))) 2 (W49 1 7)) 0 9) (fun r52 W53 => (if nrm r52 = 0 then some (0, W53) else bd2 (f0_takeNumber (up2 W53 (aS ((W39 0 3).toNat) + (2 + 2 * (Int.toNat (W39 (aS ((W39 0 3).toNat)) 3)))) 3 (W53 1 7)) 1 99) (fun r56 W57 => (if nrm r56 = 0 then some (0, W57) else ck (((up2 W57 (aS ((W39 0 3).toNat) + (2 + 2 * (Int.toNat (W39 (aS ((W39 0 3).toNat)) 3)))) 4 (W57 1 7)) 0 3).toNat < 2) (bd2 (f0_takeSemicolon (up2 (up2 W57 (aS ((W39 0 3).toNat) + (2 + 2 * (Int.toNat (W39 (aS ((W39 0 3).toNat)) 3)))) 4 (W57 1 7)) (aS (((up2 W57 (aS ((W39 0 3).toNat) + (2 + 2 * (Int.toNat (W39 (aS ((W39 0 3).toNat)) 3)))) 4 (W57 1 7)) 0 3).toNat)) 3 (((up2 W57 (aS ((W39 0 3).toNat) + (2 + 2 * (Int.toNat (W39 (aS ((W39 0 3).toNat)) 3)))) 4 (W57 1 7)) (aS (((up2 W57 (aS ((W39 0 3).toNat) + (2 + 2 * (Int.toNat (W39 (aS ((W39 0 3).toNat)) 3)))) 4 (W57 1 7)) 0 3).toNat)) 3) + 1))) (fun r61 W62 => ck (r61 = 0 ∨ r61 = 1) (some (r61, W62))))))))))))))))))))
theorem ev5_readShip {G : GT} {l : Launch} {V : VV} {r : Int} {V1 : VV} (hlt : l.stackTraces = false) (hN : 148 ≤ gN G) (h : f5_readShip V = some (r, V1)) : EvX G l y5_readShip b5_readShip 2 (some .boolean) 6 0 0 [.ref (gB G + 0)] V (.ok (some (vI r))) V1 := by
  refine ev_w hlt (by decide +kernel) rfl rfl (fun X hl hx C M => ?_)
  subst hl
  replace C : Cx G X "ChannelSchedule" b5_readShip := C
  unfold f5_readShip at h
  show At G X 0 0 0 [(0, .ref (gB G + 0))] [] V
  refine r_aload_n C d5_readShip_0 rfl ?_
  refine g_main_0 C d5_readShip_1 f5_10 hN ?_
  refine x_ldc_wX C d5_readShip_4 (k := 2) (by decide) ?_
  obtain ⟨r2, h1, h⟩ := bd_of h
  refine cV1_i C M d5_readShip_7 l5_409 w0_isWord (rc_input hN) (ev0_isWord C.lt hN h1) rfl (Nat.le_of_ble_eq_true rfl) (Nat.le_of_ble_eq_true rfl) ?_
  refine x_ifeq (tgt := 34) C d5_readShip_10 rfl (fun c3 => ?_) (fun c3 => ?_)
  · replace h := ite_p c3 h
    refine r_aload_n C d5_readShip_34 rfl ?_
    refine g_main_0 C d5_readShip_35 f5_10 hN ?_
    refine x_ldc_wX C d5_readShip_38 (k := 2) (by decide) ?_
    obtain ⟨r5, W6, h4, h⟩ := bd2_of h
    refine cV1_i C M d5_readShip_41 l5_393 w0_takeWord (rc_input hN) (ev0_takeWord C.lt hN h4) rfl (Nat.le_of_ble_eq_true rfl) (Nat.le_of_ble_eq_true rfl) ?_
    refine x_ifne (tgt := 49) C d5_readShip_44 rfl (fun c7 => ?_) (fun c7 => ?_)
    · replace h := ite_p c7 h
      refine r_iconst C d5_readShip_47 ?_
      exact e_zv C M d5_readShip_48 (Nat.le_of_ble_eq_true rfl) (Nat.le_of_ble_eq_true rfl) (Or.inl rfl) h
    · replace h := ite_m c7 h
      refine r_aload_n C d5_readShip_49 rfl ?_
      refine g_main_3 C d5_readShip_50 f5_30 hN ?_
      obtain ⟨c8, h⟩ := ck_of h
      refine g_setup_4 C d5_readShip_53 f5_143 hN c8 ?_
      refine r_aload_n C d5_readShip_56 rfl ?_
      refine g_main_3 C d5_readShip_57 f5_30 hN ?_
      refine g_setup_3 C d5_readShip_60 f5_111 hN c8 ?_
      obtain ⟨c9, h⟩ := ck_of h
      refine x_ships C d5_readShip_63 hN c8 c9 ?_
      refine x_astore_n hx C d5_readShip_64 rfl ?_
      refine r_aload_n C d5_readShip_65 rfl ?_
      refine r_aload_n C d5_readShip_66 rfl ?_
      obtain ⟨r11, W12, h10, h⟩ := bd2_of h
      refine cV1_i C M d5_readShip_67 l5_415 w5_readNewName (rc_main hN) (ev5_readNewName C.lt hN h10) rfl (Nat.le_of_ble_eq_true rfl) (Nat.le_of_ble_eq_true rfl) ?_
      refine x_ifeq (tgt := 86) C d5_readShip_70 rfl (fun c13 => ?_) (fun c13 => ?_)
      · replace h := ite_p c13 h
        refine r_iconst C d5_readShip_86 ?_
        exact e_zv C M d5_readShip_87 (Nat.le_of_ble_eq_true rfl) (Nat.le_of_ble_eq_true rfl) (Or.inl rfl) h
      · replace h := ite_m c13 h
        refine r_aload_n C d5_readShip_73 rfl ?_
        refine g_main_0 C d5_readShip_74 f5_10 hN ?_
        refine r_iconst C d5_readShip_77 ?_
        refine r_bipush C d5_readShip_78 (by decide +kernel) ?_
        obtain ⟨r15, W16, h14, h⟩ := bd2_of h
        refine cV2_i C M d5_readShip_80 l5_397 w0_takeNumber (rc_input hN) (ev0_takeNumber C.lt hN h14) rfl (Nat.le_of_ble_eq_true rfl) (Nat.le_of_ble_eq_true rfl) ?_
        refine x_ifne (tgt := 88) C d5_readShip_83 rfl (fun c17 => ?_) (fun c17 => ?_)
        · replace h := ite_p c17 h
          refine r_iconst C d5_readShip_86 ?_
          exact e_zv C M d5_readShip_87 (Nat.le_of_ble_eq_true rfl) (Nat.le_of_ble_eq_true rfl) (Or.inl rfl) h
        · replace h := ite_m c17 h
          refine r_aload_n C d5_readShip_88 rfl ?_
          refine r_aload_n C d5_readShip_89 rfl ?_
          refine g_main_0 C d5_readShip_90 f5_10 hN ?_
          refine g_input_7 C d5_readShip_93 f5_400 hN ?_
          refine p_ship_2 C d5_readShip_96 f5_348 hN c8 (by omega : Int.toNat (W6 (aS ((W6 0 3).toNat)) 3) < 10) ?_
          refine r_aload_n C d5_readShip_99 rfl ?_
          refine g_main_0 C d5_readShip_100 f5_10 hN ?_
          refine r_iconst C d5_readShip_103 ?_
          refine r_bipush C d5_readShip_104 (by decide +kernel) ?_
          obtain ⟨r19, W20, h18, h⟩ := bd2_of h
          refine cV2_i C M d5_readShip_106 l5_397 w0_takeNumber (rc_input hN) (ev0_takeNumber C.lt hN h18) rfl (Nat.le_of_ble_eq_true rfl) (Nat.le_of_ble_eq_true rfl) ?_
          refine x_ifne (tgt := 114) C d5_readShip_109 rfl (fun c21 => ?_) (fun c21 => ?_)
          · replace h := ite_p c21 h
            refine r_iconst C d5_readShip_112 ?_
            exact e_zv C M d5_readShip_113 (Nat.le_of_ble_eq_true rfl) (Nat.le_of_ble_eq_true rfl) (Or.inl rfl) h
          · replace h := ite_m c21 h
            refine r_aload_n C d5_readShip_114 rfl ?_
            refine r_aload_n C d5_readShip_115 rfl ?_
            refine g_main_0 C d5_readShip_116 f5_10 hN ?_
            refine g_input_7 C d5_readShip_119 f5_400 hN ?_
            refine p_ship_3 C d5_readShip_122 f5_147 hN c8 (by omega : Int.toNat (W6 (aS ((W6 0 3).toNat)) 3) < 10) ?_
            refine r_aload_n C d5_readShip_125 rfl ?_
            refine g_main_0 C d5_readShip_126 f5_10 hN ?_
            refine r_iconst C d5_readShip_129 ?_
            refine r_bipush C d5_readShip_130 (by decide +kernel) ?_
            obtain ⟨r23, W24, h22, h⟩ := bd2_of h
            refine cV2_i C M d5_readShip_132 l5_397 w0_takeNumber (rc_input hN) (ev0_takeNumber C.lt hN h22) rfl (Nat.le_of_ble_eq_true rfl) (Nat.le_of_ble_eq_true rfl) ?_
            refine x_ifne (tgt := 140) C d5_readShip_135 rfl (fun c25 => ?_) (fun c25 => ?_)
            · replace h := ite_p c25 h
              refine r_iconst C d5_readShip_138 ?_
              exact e_zv C M d5_readShip_139 (Nat.le_of_ble_eq_true rfl) (Nat.le_of_ble_eq_true rfl) (Or.inl rfl) h
            · replace h := ite_m c25 h
              refine r_aload_n C d5_readShip_140 rfl ?_
              refine r_aload_n C d5_readShip_141 rfl ?_
              refine g_main_0 C d5_readShip_142 f5_10 hN ?_
              refine g_input_7 C d5_readShip_145 f5_400 hN ?_
              refine p_ship_4 C d5_readShip_148 f5_152 hN c8 (by omega : Int.toNat (W6 (aS ((W6 0 3).toNat)) 3) < 10) ?_
              refine r_aload_n C d5_readShip_151 rfl ?_
              refine g_main_3 C d5_readShip_152 f5_30 hN ?_
              obtain ⟨c26, h⟩ := ck_of h
              refine r_dup C d5_readShip_155 rfl ?_
              refine g_setup_3 C d5_readShip_156 f5_111 hN c26 ?_
              refine r_iconst C d5_readShip_159 ?_
              refine r_iadd C d5_readShip_160 ?_
              refine p_setup_3 C d5_readShip_161 f5_111 hN c26 ?_
              refine r_aload_n C d5_readShip_164 rfl ?_
              refine g_main_0 C d5_readShip_165 f5_10 hN ?_
              obtain ⟨r28, W29, h27, h⟩ := bd2_of h
              refine cV0_i C M d5_readShip_168 l5_404 w0_takeSemicolon (rc_input hN) (ev0_takeSemicolon C.lt hN h27) rfl (Nat.le_of_ble_eq_true rfl) (Nat.le_of_ble_eq_true rfl) ?_
              obtain ⟨c30, h⟩ := ck_of h
              exact e_zv C M d5_readShip_171 (Nat.le_of_ble_eq_true rfl) (Nat.le_of_ble_eq_true rfl) c30 h
  · replace h := ite_m c3 h
    refine r_aload_n C d5_readShip_13 rfl ?_
    refine g_main_3 C d5_readShip_14 f5_30 hN ?_
    obtain ⟨c31, h⟩ := ck_of h
    refine g_setup_3 C d5_readShip_17 f5_111 hN c31 ?_
    refine r_bipush C d5_readShip_20 (by decide +kernel) ?_
    refine x_icmpne (tgt := 34) C d5_readShip_22 rfl (fun c32 => ?_) (fun c32 => ?_)
    · replace h := ite_p c32 h
      refine r_aload_n C d5_readShip_25 rfl ?_
      refine g_main_0 C d5_readShip_26 f5_10 hN ?_
      refine r_iconst C d5_readShip_29 ?_
      obtain ⟨r34, W35, h33, h⟩ := bd2_of h
      refine cV1_i C M d5_readShip_30 l5_412 w0_fail (rc_input hN) (ev0_fail C.lt hN h33) rfl (Nat.le_of_ble_eq_true rfl) (Nat.le_of_ble_eq_true rfl) ?_
      obtain ⟨c36, h⟩ := ck_of h
      exact e_zv C M d5_readShip_33 (Nat.le_of_ble_eq_true rfl) (Nat.le_of_ble_eq_true rfl) c36 h
    · replace h := ite_m c32 h
      refine r_aload_n C d5_readShip_34 rfl ?_
      refine g_main_0 C d5_readShip_35 f5_10 hN ?_
      refine x_ldc_wX C d5_readShip_38 (k := 2) (by decide) ?_
      obtain ⟨r38, W39, h37, h⟩ := bd2_of h
      refine cV1_i C M d5_readShip_41 l5_393 w0_takeWord (rc_input hN) (ev0_takeWord C.lt hN h37) rfl (Nat.le_of_ble_eq_true rfl) (Nat.le_of_ble_eq_true rfl) ?_
      refine x_ifne (tgt := 49) C d5_readShip_44 rfl (fun c40 => ?_) (fun c40 => ?_)
      · replace h := ite_p c40 h
        refine r_iconst C d5_readShip_47 ?_
        exact e_zv C M d5_readShip_48 (Nat.le_of_ble_eq_true rfl) (Nat.le_of_ble_eq_true rfl) (Or.inl rfl) h
      · replace h := ite_m c40 h
        refine r_aload_n C d5_readShip_49 rfl ?_
        refine g_main_3 C d5_readShip_50 f5_30 hN ?_
        obtain ⟨c41, h⟩ := ck_of h
        refine g_setup_4 C d5_readShip_53 f5_143 hN c41 ?_
        refine r_aload_n C d5_readShip_56 rfl ?_
        refine g_main_3 C d5_readShip_57 f5_30 hN ?_
        refine g_setup_3 C d5_readShip_60 f5_111 hN c41 ?_
        obtain ⟨c42, h⟩ := ck_of h
        refine x_ships C d5_readShip_63 hN c41 c42 ?_
        refine x_astore_n hx C d5_readShip_64 rfl ?_
        refine r_aload_n C d5_readShip_65 rfl ?_
        refine r_aload_n C d5_readShip_66 rfl ?_
        obtain ⟨r44, W45, h43, h⟩ := bd2_of h
        refine cV1_i C M d5_readShip_67 l5_415 w5_readNewName (rc_main hN) (ev5_readNewName C.lt hN h43) rfl (Nat.le_of_ble_eq_true rfl) (Nat.le_of_ble_eq_true rfl) ?_
        refine x_ifeq (tgt := 86) C d5_readShip_70 rfl (fun c46 => ?_) (fun c46 => ?_)
        · replace h := ite_p c46 h
          refine r_iconst C d5_readShip_86 ?_
          exact e_zv C M d5_readShip_87 (Nat.le_of_ble_eq_true rfl) (Nat.le_of_ble_eq_true rfl) (Or.inl rfl) h
        · replace h := ite_m c46 h
          refine r_aload_n C d5_readShip_73 rfl ?_
          refine g_main_0 C d5_readShip_74 f5_10 hN ?_
          refine r_iconst C d5_readShip_77 ?_
          refine r_bipush C d5_readShip_78 (by decide +kernel) ?_
          obtain ⟨r48, W49, h47, h⟩ := bd2_of h
          refine cV2_i C M d5_readShip_80 l5_397 w0_takeNumber (rc_input hN) (ev0_takeNumber C.lt hN h47) rfl (Nat.le_of_ble_eq_true rfl) (Nat.le_of_ble_eq_true rfl) ?_
          refine x_ifne (tgt := 88) C d5_readShip_83 rfl (fun c50 => ?_) (fun c50 => ?_)
          · replace h := ite_p c50 h
            refine r_iconst C d5_readShip_86 ?_
            exact e_zv C M d5_readShip_87 (Nat.le_of_ble_eq_true rfl) (Nat.le_of_ble_eq_true rfl) (Or.inl rfl) h
          · replace h := ite_m c50 h
            refine r_aload_n C d5_readShip_88 rfl ?_
            refine r_aload_n C d5_readShip_89 rfl ?_
            refine g_main_0 C d5_readShip_90 f5_10 hN ?_
            refine g_input_7 C d5_readShip_93 f5_400 hN ?_
            refine p_ship_2 C d5_readShip_96 f5_348 hN c41 (by omega : Int.toNat (W39 (aS ((W39 0 3).toNat)) 3) < 10) ?_
            refine r_aload_n C d5_readShip_99 rfl ?_
            refine g_main_0 C d5_readShip_100 f5_10 hN ?_
            refine r_iconst C d5_readShip_103 ?_
            refine r_bipush C d5_readShip_104 (by decide +kernel) ?_
            obtain ⟨r52, W53, h51, h⟩ := bd2_of h
            refine cV2_i C M d5_readShip_106 l5_397 w0_takeNumber (rc_input hN) (ev0_takeNumber C.lt hN h51) rfl (Nat.le_of_ble_eq_true rfl) (Nat.le_of_ble_eq_true rfl) ?_
            refine x_ifne (tgt := 114) C d5_readShip_109 rfl (fun c54 => ?_) (fun c54 => ?_)
            · replace h := ite_p c54 h
              refine r_iconst C d5_readShip_112 ?_
              exact e_zv C M d5_readShip_113 (Nat.le_of_ble_eq_true rfl) (Nat.le_of_ble_eq_true rfl) (Or.inl rfl) h
            · replace h := ite_m c54 h
              refine r_aload_n C d5_readShip_114 rfl ?_
              refine r_aload_n C d5_readShip_115 rfl ?_
              refine g_main_0 C d5_readShip_116 f5_10 hN ?_
              refine g_input_7 C d5_readShip_119 f5_400 hN ?_
              refine p_ship_3 C d5_readShip_122 f5_147 hN c41 (by omega : Int.toNat (W39 (aS ((W39 0 3).toNat)) 3) < 10) ?_
              refine r_aload_n C d5_readShip_125 rfl ?_
              refine g_main_0 C d5_readShip_126 f5_10 hN ?_
              refine r_iconst C d5_readShip_129 ?_
              refine r_bipush C d5_readShip_130 (by decide +kernel) ?_
              obtain ⟨r56, W57, h55, h⟩ := bd2_of h
              refine cV2_i C M d5_readShip_132 l5_397 w0_takeNumber (rc_input hN) (ev0_takeNumber C.lt hN h55) rfl (Nat.le_of_ble_eq_true rfl) (Nat.le_of_ble_eq_true rfl) ?_
              refine x_ifne (tgt := 140) C d5_readShip_135 rfl (fun c58 => ?_) (fun c58 => ?_)
              · replace h := ite_p c58 h
                refine r_iconst C d5_readShip_138 ?_
                exact e_zv C M d5_readShip_139 (Nat.le_of_ble_eq_true rfl) (Nat.le_of_ble_eq_true rfl) (Or.inl rfl) h
              · replace h := ite_m c58 h
                refine r_aload_n C d5_readShip_140 rfl ?_
                refine r_aload_n C d5_readShip_141 rfl ?_
                refine g_main_0 C d5_readShip_142 f5_10 hN ?_
                refine g_input_7 C d5_readShip_145 f5_400 hN ?_
                refine p_ship_4 C d5_readShip_148 f5_152 hN c41 (by omega : Int.toNat (W39 (aS ((W39 0 3).toNat)) 3) < 10) ?_
                refine r_aload_n C d5_readShip_151 rfl ?_
                refine g_main_3 C d5_readShip_152 f5_30 hN ?_
                obtain ⟨c59, h⟩ := ck_of h
                refine r_dup C d5_readShip_155 rfl ?_
                refine g_setup_3 C d5_readShip_156 f5_111 hN c59 ?_
                refine r_iconst C d5_readShip_159 ?_
                refine r_iadd C d5_readShip_160 ?_
                refine p_setup_3 C d5_readShip_161 f5_111 hN c59 ?_
                refine r_aload_n C d5_readShip_164 rfl ?_
                refine g_main_0 C d5_readShip_165 f5_10 hN ?_
                obtain ⟨r61, W62, h60, h⟩ := bd2_of h
                refine cV0_i C M d5_readShip_168 l5_404 w0_takeSemicolon (rc_input hN) (ev0_takeSemicolon C.lt hN h60) rfl (Nat.le_of_ble_eq_true rfl) (Nat.le_of_ble_eq_true rfl) ?_
                obtain ⟨c63, h⟩ := ck_of h
                exact e_zv C M d5_readShip_171 (Nat.le_of_ble_eq_true rfl) (Nat.le_of_ble_eq_true rfl) c63 h
