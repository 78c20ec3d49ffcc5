/-! walks of the class, 3 (printed by walk.py) -/
def f5_longestConvoy_L6 (V : VV) : Nat → Int → Int → Int → Option (Int)
  | 0, _, _, _ => none
  | n + 1, x1, x2, x3 => (if nrm (V (aP 0) 5) ≤ nrm x3 then some x1 else bd ((if nrm x3 ≤ 0 then some (0) else ck ((0:Int) ≤ x3 ∧ x3 < 20) (ck ((0:Int) ≤ (x3 - 1) ∧ (x3 - 1) < 20) ((if nrm (V (aP 0 + 2) (Int.toNat x3)) = nrm (V (aP 0 + 2) (Int.toNat (x3 - 1))) then some (1) else some (0)))))) (fun y6 => bd ((if nrm y6 = 0 then some (1) else some (x2 + 1))) (fun y10 => f5_longestConvoy_L6 V n (mxI x1 y10) y10 (x3 + 1))))
theorem lp5_longestConvoy_6 {G : GT} {X : CT} {cells slots : Nat} {V : VV} (hN : 148 ≤ gN G) (hx : xN X = 5) (C : Cx G X "ChannelSchedule" b5_longestConvoy) {o0 : Except String (Option Value)} {V9 : VV} (M : MX G X 1 0 0 (some .int) o0 V9) (hc : cells ≤ 0) (hs : slots ≤ 0) : ∀ (n : Nat) {x1 : Int} {x2 : Int} {x3 : Int} {e1 : Int}, f5_longestConvoy_L6 V n x1 x2 x3 = some (e1) → At G X cells slots 76 [(1, vI e1)] [] V → At G X cells slots 6 [(0, .ref (gB G + 0)), (1, vI x1), (2, vI x2), (3, vI x3)] [] V := by
  intro n
  induction n with
  | zero => intro x1 x2 x3 e1 h _; exact nomatch h
  | succ n ih =>
    intro x1 x2 x3 e1 h K
    rw [f5_longestConvoy_L6] at h
    refine r_iload_n C d5_longestConvoy_6 rfl ?_
    refine r_aload_n C d5_longestConvoy_7 rfl ?_
    refine g_main_4 C d5_longestConvoy_8 f5_36 hN ?_
    refine g_plan_5 C d5_longestConvoy_11 f5_175 hN p0 ?_
    refine x_icmpge (tgt := 76) C d5_longestConvoy_14 rfl (fun c1 => ?_) (fun c1 => ?_)
    · replace h := ite_p c1 h
      cases h
      exact AtH.sw K ⟨rfl, trivial⟩
    · replace h := ite_m c1 h
      refine r_iload_n C d5_longestConvoy_17 rfl ?_
      obtain ⟨y6, h7, h⟩ := bd_of h
      suffices J8 : At G X cells slots 49 [(0, .ref (gB G + 0)), (1, vI x1), (2, vI x2), (3, vI x3)] [vI y6] V by
        replace h := h7
        refine x_ifle (tgt := 48) C d5_longestConvoy_18 rfl (fun c2 => ?_) (fun c2 => ?_)
        · replace h := ite_p c2 h
          refine r_iconst C d5_longestConvoy_48 ?_
          cases h
          exact AtH.sw J8 ⟨rfl, rfl, rfl, rfl, trivial⟩
        · replace h := ite_m c2 h
          refine r_aload_n C d5_longestConvoy_21 rfl ?_
          refine g_main_4 C d5_longestConvoy_22 f5_36 hN ?_
          refine g_plan_7 C d5_longestConvoy_25 f5_189 hN p0 ?_
          refine r_iload_n C d5_longestConvoy_28 rfl ?_
          obtain ⟨c3, h⟩ := ck_of h
          refine x_zald C d5_longestConvoy_29 (ra_plan2 hN p0) c3 ?_
          refine r_aload_n C d5_longestConvoy_30 rfl ?_
          refine g_main_4 C d5_longestConvoy_31 f5_36 hN ?_
          refine g_plan_7 C d5_longestConvoy_34 f5_189 hN p0 ?_
          refine r_iload_n C d5_longestConvoy_37 rfl ?_
          refine r_iconst C d5_longestConvoy_38 ?_
          refine r_isub C d5_longestConvoy_39 ?_
          obtain ⟨c4, h⟩ := ck_of h
          refine x_zald C d5_longestConvoy_40 (ra_plan2 hN p0) c4 ?_
          refine x_icmpne (tgt := 48) C d5_longestConvoy_41 rfl (fun c5 => ?_) (fun c5 => ?_)
          · replace h := ite_p c5 h
            refine r_iconst C d5_longestConvoy_44 ?_
            refine r_goto (tgt := 49) C d5_longestConvoy_45 rfl ?_
            cases h
            exact AtH.sw J8 ⟨rfl, rfl, rfl, rfl, trivial⟩
          · replace h := ite_m c5 h
            refine r_iconst C d5_longestConvoy_48 ?_
            cases h
            exact AtH.sw J8 ⟨rfl, rfl, rfl, rfl, trivial⟩
      refine x_istore hx C d5_longestConvoy_49 rfl ?_
      refine r_iload C d5_longestConvoy_51 rfl ?_
      obtain ⟨y10, h11, h⟩ := bd_of h
      suffices J12 : At G X cells slots 63 [(0, .ref (gB G + 0)), (1, vI x1), (3, vI x3)] [vI y10] V by
        replace h := h11
        refine x_ifeq (tgt := 62) C d5_longestConvoy_53 rfl (fun c9 => ?_) (fun c9 => ?_)
        · replace h := ite_p c9 h
          refine r_iconst C d5_longestConvoy_62 ?_
          cases h
          exact AtH.sw J12 ⟨rfl, rfl, rfl, trivial⟩
        · replace h := ite_m c9 h
          refine r_iload_n C d5_longestConvoy_56 rfl ?_
          refine r_iconst C d5_longestConvoy_57 ?_
          refine r_iadd C d5_longestConvoy_58 ?_
          refine r_goto (tgt := 63) C d5_longestConvoy_59 rfl ?_
          cases h
          exact AtH.sw J12 ⟨rfl, rfl, rfl, trivial⟩
      refine x_istore_n hx C d5_longestConvoy_63 rfl ?_
      refine r_iload_n C d5_longestConvoy_64 rfl ?_
      refine r_iload_n C d5_longestConvoy_65 rfl ?_
      refine x_mmax C M d5_longestConvoy_66 l5_200 rfl hc hs ?_
      refine x_istore_n hx C d5_longestConvoy_69 rfl ?_
      refine x_iinc hx C d5_longestConvoy_70 rfl rfl ?_
      refine r_goto (tgt := 6) C d5_longestConvoy_73 rfl ?_
      exact AtH.sw (ih h K) ⟨rfl, rfl, rfl, rfl, trivial⟩
def f5_longestConvoy (V : VV) : Option Int := bd (f5_longestConvoy_L6 V FU 0 0 0) (fun y13 => some y13)
theorem ev5_longestConvoy {G : GT} {l : Launch} {V : VV} {r : Int} (hlt : l.stackTraces = false) (hN : 148 ≤ gN G) (h : f5_longestConvoy V = some r) : EvX G l y5_longestConvoy b5_longestConvoy 5 (some .int) 1 0 0 [.ref (gB G + 0)] V (.ok (some (vI r))) V := by
  refine ev_w hlt (by decide +kernel) rfl rfl (fun X hl hx C M => ?_)
  subst hl
  replace C : Cx G X "ChannelSchedule" b5_longestConvoy := C
  unfold f5_longestConvoy at h
  show At G X 0 0 0 [(0, .ref (gB G + 0))] [] V
  refine r_iconst C d5_longestConvoy_0 ?_
  refine x_istore_n hx C d5_longestConvoy_1 rfl ?_
  refine r_iconst C d5_longestConvoy_2 ?_
  refine x_istore_n hx C d5_longestConvoy_3 rfl ?_
  refine r_iconst C d5_longestConvoy_4 ?_
  refine x_istore_n hx C d5_longestConvoy_5 rfl ?_
  obtain ⟨y13, h14, h⟩ := bd_of h
  refine AtH.sw (lp5_longestConvoy_6 hN hx C M (Nat.le_of_ble_eq_true rfl) (Nat.le_of_ble_eq_true rfl) FU h14 ?_) ⟨rfl, rfl, rfl, rfl, trivial⟩
  refine r_iload_n C d5_longestConvoy_76 rfl ?_
  exact e_i C M d5_longestConvoy_77 (Nat.le_of_ble_eq_true rfl) (Nat.le_of_ble_eq_true rfl) h
def f5_slack_L40 (V : VV) (x1 : Int) (x2 : Int) (x3 : Int) : Nat → Int → Int → Option (Int)
  | 0, _, _ => none
  | n + 1, x4, x5 => (if nrm (V (aP 0) 5) ≤ nrm x5 then some x4 else ck ((0:Int) ≤ x5 ∧ x5 < 20) (ck ((0:Int) ≤ x1 ∧ x1 < 20) (bd ((if nrm (V (aP 0 + 2) (Int.toNat x5)) = nrm (V (aP 0 + 2) (Int.toNat x1)) then some (1) else some (0))) (fun y9 => bd (f5_freeBefore V (V (aP 0 + 3) (Int.toNat x5)) (V (aP 0 + 4) (Int.toNat x5)) y9 x3) (fun r13 => f5_slack_L40 V x1 x2 x3 n (mnI x4 r13) (x5 + 1))))))
theorem lp5_slack_40 {G : GT} {X : CT} {cells slots : Nat} {V : VV} (hN : 148 ≤ gN G) (hx : xN X = 7) (C : Cx G X "ChannelSchedule" b5_slack) {x1 : Int} {x2 : Int} {x3 : Int} {o0 : Except String (Option Value)} {V9 : VV} (M : MX G X 7 1 6 (some .int) o0 V9) (hc : cells ≤ 1) (hs : slots ≤ 6) : ∀ (n : Nat) {x4 : Int} {x5 : Int} {e4 : Int}, f5_slack_L40 V x1 x2 x3 n x4 x5 = some (e4) → At G X cells slots 121 [(2, vI x2), (4, vI e4)] [] V → At G X cells slots 40 [(0, .ref (gB G + 0)), (1, vI x1), (2, vI x2), (3, vI x3), (4, vI x4), (5, vI x5)] [] V := by
  intro n
  induction n with
  | zero => intro x4 x5 e4 h _; exact nomatch h
  | succ n ih =>
    intro x4 x5 e4 h K
    rw [f5_slack_L40] at h
    refine r_iload C d5_slack_40 rfl ?_
    refine r_aload_n C d5_slack_42 rfl ?_
    refine g_main_4 C d5_slack_43 f5_36 hN ?_
    refine g_plan_5 C d5_slack_46 f5_175 hN p0 ?_
    refine x_icmpge (tgt := 121) C d5_slack_49 rfl (fun c5 => ?_) (fun c5 => ?_)
    · replace h := ite_p c5 h
      cases h
      exact AtH.sw K ⟨rfl, rfl, trivial⟩
    · replace h := ite_m c5 h
      refine r_aload_n C d5_slack_52 rfl ?_
      refine g_main_4 C d5_slack_53 f5_36 hN ?_
      refine g_plan_7 C d5_slack_56 f5_189 hN p0 ?_
      refine r_iload C d5_slack_59 rfl ?_
      obtain ⟨c6, h⟩ := ck_of h
      refine x_zald C d5_slack_61 (ra_plan2 hN p0) c6 ?_
      refine r_aload_n C d5_slack_62 rfl ?_
      refine g_main_4 C d5_slack_63 f5_36 hN ?_
      refine g_plan_7 C d5_slack_66 f5_189 hN p0 ?_
      refine r_iload_n C d5_slack_69 rfl ?_
      obtain ⟨c7, h⟩ := ck_of h
      refine x_zald C d5_slack_70 (ra_plan2 hN p0) c7 ?_
      obtain ⟨y9, h10, h⟩ := bd_of h
      suffices J11 : At G X cells slots 79 [(0, .ref (gB G + 0)), (1, vI x1), (2, vI x2), (3, vI x3), (4, vI x4), (5, vI x5)] [vI y9] V by
        replace h := h10
        refine x_icmpne (tgt := 78) C d5_slack_71 rfl (fun c8 => ?_) (fun c8 => ?_)
        · replace h := ite_p c8 h
          refine r_iconst C d5_slack_74 ?_
          refine r_goto (tgt := 79) C d5_slack_75 rfl ?_
          cases h
          exact AtH.sw J11 ⟨rfl, rfl, rfl, rfl, rfl, rfl, trivial⟩
        · replace h := ite_m c8 h
          refine r_iconst C d5_slack_78 ?_
          cases h
          exact AtH.sw J11 ⟨rfl, rfl, rfl, rfl, rfl, rfl, trivial⟩
      refine x_istore hx C d5_slack_79 rfl ?_
      refine r_iload C d5_slack_81 rfl ?_
      refine r_aload_n C d5_slack_83 rfl ?_
      refine r_aload_n C d5_slack_84 rfl ?_
      refine g_main_4 C d5_slack_85 f5_36 hN ?_
      refine g_plan_8 C d5_slack_88 f5_183 hN p0 ?_
      refine r_iload C d5_slack_91 rfl ?_
      refine x_iald C d5_slack_93 (ra_plan3 hN p0) c6 ?_
      refine r_aload_n C d5_slack_94 rfl ?_
      refine g_main_4 C d5_slack_95 f5_36 hN ?_
      refine g_plan_9 C d5_slack_98 f5_186 hN p0 ?_
      refine r_iload C d5_slack_101 rfl ?_
      refine x_iald C d5_slack_103 (ra_plan4 hN p0) c6 ?_
      refine r_iload C d5_slack_104 rfl ?_
      refine r_iload_n C d5_slack_106 rfl ?_
      obtain ⟨r13, h12, h⟩ := bd_of h
      refine cV4_i C M d5_slack_107 l5_224 w5_freeBefore (rc_main hN) (ev5_freeBefore C.lt hN h12) rfl hc hs ?_
      refine x_mmin C M d5_slack_110 l5_217 rfl hc hs ?_
      refine x_istore hx C d5_slack_113 rfl ?_
      refine x_iinc hx C d5_slack_115 rfl rfl ?_
      refine r_goto (tgt := 40) C d5_slack_118 rfl ?_
      exact AtH.sw (ih h K) ⟨rfl, rfl, rfl, rfl, rfl, rfl, trivial⟩
def f5_slack (V : VV) (x1 : Int) : Option (Except String Int × VV) := bd (f5_isBooking V x1) (fun r2 => if nrm r2 = 0 then some (.error "java/lang/IndexOutOfBoundsException", V) else ck ((0:Int) ≤ x1 ∧ x1 < 20) (bd (f5_slack_L40 V x1 (V (aP 0 + 3) (Int.toNat x1)) ((V (aP 0 + 4) (Int.toNat x1)) - (V (aP 0 + 3) (Int.toNat x1))) FU 999 (x1 + 1)) (fun y14 => some (.ok (y14 - (V (aP 0 + 3) (Int.toNat x1))), V))))
theorem ev5_slack {G : GT} {l : Launch} {V : VV} {x1 : Int} {e : Except String Int} {V1 : VV} (hlt : l.stackTraces = false) (hN : 148 ≤ gN G) (hX : gX G = false) (h : f5_slack V x1 = some (e, V1)) : EvX G l y5_slack b5_slack 7 (some .int) 7 1 6 [.ref (gB G + 0), vI x1] V (oX e) V1 := by
  refine ev_w hlt (by decide +kernel) rfl rfl (fun X hl hx C M => ?_)
  subst hl
  replace C : Cx G X "ChannelSchedule" b5_slack := C
  unfold f5_slack at h
  show At G X 0 0 0 [(0, .ref (gB G + 0)), (1, vI x1)] [] V
  refine r_aload_n C d5_slack_0 rfl ?_
  refine r_iload_n C d5_slack_1 rfl ?_
  obtain ⟨r2, h1, h⟩ := bd_of h
  refine cV1_i C M d5_slack_2 l5_178 w5_isBooking (rc_main hN) (ev5_isBooking C.lt hN h1) rfl (Nat.le_of_ble_eq_true rfl) (Nat.le_of_ble_eq_true rfl) ?_
  refine c_req C M d5_slack_5 l5_136 w5_requireIndex (ev5_requireIndex C.lt hX) rfl (Nat.le_of_ble_eq_true rfl) (Nat.le_of_ble_eq_true rfl) (fun c3 => e_thr (ite_p c3 h)) (fun c3 => ?_)
  replace h := ite_m c3 h
  refine r_aload_n C d5_slack_8 rfl ?_
  refine g_main_4 C d5_slack_9 f5_36 hN ?_
  refine g_plan_8 C d5_slack_12 f5_183 hN p0 ?_
  refine r_iload_n C d5_slack_15 rfl ?_
  obtain ⟨c4, h⟩ := ck_of h
  refine x_iald C d5_slack_16 (ra_plan3 hN p0) c4 ?_
  refine x_istore_n hx C d5_slack_17 rfl ?_
  refine r_aload_n C d5_slack_18 rfl ?_
  refine g_main_4 C d5_slack_19 f5_36 hN ?_
  refine g_plan_9 C d5_slack_22 f5_186 hN p0 ?_
  refine r_iload_n C d5_slack_25 rfl ?_
  refine x_iald C d5_slack_26 (ra_plan4 hN p0) c4 ?_
  refine r_iload_n C d5_slack_27 rfl ?_
  refine r_isub C d5_slack_28 ?_
  refine x_istore_n hx C d5_slack_29 rfl ?_
  refine r_sipush C d5_slack_30 (by decide +kernel) ?_
  refine x_istore hx C d5_slack_33 rfl ?_
  refine r_iload_n C d5_slack_35 rfl ?_
  refine r_iconst C d5_slack_36 ?_
  refine r_iadd C d5_slack_37 ?_
  refine x_istore hx C d5_slack_38 rfl ?_
  obtain ⟨y14, h15, h⟩ := bd_of h
  refine AtH.sw (lp5_slack_40 hN hx C M (Nat.le_of_ble_eq_true rfl) (Nat.le_of_ble_eq_true rfl) FU h15 ?_) ⟨rfl, rfl, rfl, rfl, rfl, rfl, trivial⟩
  refine r_iload C d5_slack_121 rfl ?_
  refine r_iload_n C d5_slack_123 rfl ?_
  refine r_isub C d5_slack_124 ?_
  exact e_it C M d5_slack_125 (Nat.le_of_ble_eq_true rfl) (Nat.le_of_ble_eq_true rfl) h
def f5_hindranceToMove (V : VV) (x1 : Int) (x2 : Int) : Option Int := ck ((0:Int) ≤ x1 ∧ x1 < 20) ((if nrm (V (aP 0) 1) < nrm (V (aP 0 + 3) (Int.toNat x1)) then (if nrm (V (aP 0) 1) ≤ nrm x2 then bd (f5_firstClash V (V (aP 0 + 2) (Int.toNat x1)) x2 ((V (aP 0 + 4) (Int.toNat x1)) - (V (aP 0 + 3) (Int.toNat x1))) x1) (fun r5 => (if nrm r5 = nrm (-1) then some 0 else some 3)) else some 2) else some 1))
theorem ev5_hindranceToMove {G : GT} {l : Launch} {V : VV} {x1 : Int} {x2 : Int} {r : Int} (hlt : l.stackTraces = false) (hN : 148 ≤ gN G) (h : f5_hindranceToMove V x1 x2 = some r) : EvX G l y5_hindranceToMove b5_hindranceToMove 4 (some .int) 3 0 0 [.ref (gB G + 0), vI x1, vI x2] V (.ok (some (vI r))) V := by
  refine ev_w hlt (by decide +kernel) rfl rfl (fun X hl hx C M => ?_)
  subst hl
  replace C : Cx G X "ChannelSchedule" b5_hindranceToMove := C
  unfold f5_hindranceToMove at h
  show At G X 0 0 0 [(0, .ref (gB G + 0)), (1, vI x1), (2, vI x2)] [] V
  refine r_aload_n C d5_hindranceToMove_0 rfl ?_
  refine g_main_4 C d5_hindranceToMove_1 f5_36 hN ?_
  refine g_plan_8 C d5_hindranceToMove_4 f5_183 hN p0 ?_
  refine r_iload_n C d5_hindranceToMove_7 rfl ?_
  obtain ⟨c1, h⟩ := ck_of h
  refine x_iald C d5_hindranceToMove_8 (ra_plan3 hN p0) c1 ?_
  refine r_aload_n C d5_hindranceToMove_9 rfl ?_
  refine g_main_4 C d5_hindranceToMove_10 f5_36 hN ?_
  refine g_plan_1 C d5_hindranceToMove_13 f5_129 hN p0 ?_
  refine x_icmpgt (tgt := 21) C d5_hindranceToMove_16 rfl (fun c2 => ?_) (fun c2 => ?_)
  · replace h := ite_p c2 h
    refine r_iload_n C d5_hindranceToMove_21 rfl ?_
    refine r_aload_n C d5_hindranceToMove_22 rfl ?_
    refine g_main_4 C d5_hindranceToMove_23 f5_36 hN ?_
    refine g_plan_1 C d5_hindranceToMove_26 f5_129 hN p0 ?_
    refine x_icmpge (tgt := 34) C d5_hindranceToMove_29 rfl (fun c3 => ?_) (fun c3 => ?_)
    · replace h := ite_p c3 h
      refine r_aload_n C d5_hindranceToMove_34 rfl ?_
      refine g_main_4 C d5_hindranceToMove_35 f5_36 hN ?_
      refine g_plan_9 C d5_hindranceToMove_38 f5_186 hN p0 ?_
      refine r_iload_n C d5_hindranceToMove_41 rfl ?_
      refine x_iald C d5_hindranceToMove_42 (ra_plan4 hN p0) c1 ?_
      refine r_aload_n C d5_hindranceToMove_43 rfl ?_
      refine g_main_4 C d5_hindranceToMove_44 f5_36 hN ?_
      refine g_plan_8 C d5_hindranceToMove_47 f5_183 hN p0 ?_
      refine r_iload_n C d5_hindranceToMove_50 rfl ?_
      refine x_iald C d5_hindranceToMove_51 (ra_plan3 hN p0) c1 ?_
      refine r_isub C d5_hindranceToMove_52 ?_
      refine x_istore_n hx C d5_hindranceToMove_53 rfl ?_
      refine r_aload_n C d5_hindranceToMove_54 rfl ?_
      refine r_aload_n C d5_hindranceToMove_55 rfl ?_
      refine g_main_4 C d5_hindranceToMove_56 f5_36 hN ?_
      refine g_plan_7 C d5_hindranceToMove_59 f5_189 hN p0 ?_
      refine r_iload_n C d5_hindranceToMove_62 rfl ?_
      refine x_zald C d5_hindranceToMove_63 (ra_plan2 hN p0) c1 ?_
      refine r_iload_n C d5_hindranceToMove_64 rfl ?_
      refine r_iload_n C d5_hindranceToMove_65 rfl ?_
      refine r_iload_n C d5_hindranceToMove_66 rfl ?_
      obtain ⟨r5, h4, h⟩ := bd_of h
      refine cV4_i C M d5_hindranceToMove_67 l5_209 w5_firstClash (rc_main hN) (ev5_firstClash C.lt hN h4) rfl (Nat.le_of_ble_eq_true rfl) (Nat.le_of_ble_eq_true rfl) ?_
      refine r_iconst C d5_hindranceToMove_70 ?_
      refine x_icmpne (tgt := 78) C d5_hindranceToMove_71 rfl (fun c6 => ?_) (fun c6 => ?_)
      · replace h := ite_p c6 h
        refine r_iconst C d5_hindranceToMove_74 ?_
        refine r_goto (tgt := 79) C d5_hindranceToMove_75 rfl ?_
        exact e_i C M d5_hindranceToMove_79 (Nat.le_of_ble_eq_true rfl) (Nat.le_of_ble_eq_true rfl) h
      · replace h := ite_m c6 h
        refine r_iconst C d5_hindranceToMove_78 ?_
        exact e_i C M d5_hindranceToMove_79 (Nat.le_of_ble_eq_true rfl) (Nat.le_of_ble_eq_true rfl) h
    · replace h := ite_m c3 h
      refine r_iconst C d5_hindranceToMove_32 ?_
      exact e_i C M d5_hindranceToMove_33 (Nat.le_of_ble_eq_true rfl) (Nat.le_of_ble_eq_true rfl) h
  · replace h := ite_m c2 h
    refine r_iconst C d5_hindranceToMove_19 ?_
    exact e_i C M d5_hindranceToMove_20 (Nat.le_of_ble_eq_true rfl) (Nat.le_of_ble_eq_true rfl) h
def f5_whyNotMovable (V : VV) (x1 : Int) (x2 : Int) : Option (Except String Int × VV) := bd (f5_isBooking V x1) (fun r2 => if nrm r2 = 0 then some (.error "java/lang/IndexOutOfBoundsException", V) else bd (f5_isWithin V x2 0 999) (fun r5 => if nrm r5 = 0 then some (.error "java/lang/IllegalArgumentException", V) else bd (f5_hindranceToMove V x1 x2) (fun r8 => some (.ok r8, V))))
theorem ev5_whyNotMovable {G : GT} {l : Launch} {V : VV} {x1 : Int} {x2 : Int} {e : Except String Int} {V1 : VV} (hlt : l.stackTraces = false) (hN : 148 ≤ gN G) (hX : gX G = false) (h : f5_whyNotMovable V x1 x2 = some (e, V1)) : EvX G l y5_whyNotMovable b5_whyNotMovable 3 (some .int) 7 2 12 [.ref (gB G + 0), vI x1, vI x2] V (oX e) V1 := by
  refine ev_w hlt (by decide +kernel) rfl rfl (fun X hl hx C M => ?_)
  subst hl
  replace C : Cx G X "ChannelSchedule" b5_whyNotMovable := C
  unfold f5_whyNotMovable at h
  show At G X 0 0 0 [(0, .ref (gB G + 0)), (1, vI x1), (2, vI x2)] [] V
  refine r_aload_n C d5_whyNotMovable_0 rfl ?_
  refine r_iload_n C d5_whyNotMovable_1 rfl ?_
  obtain ⟨r2, h1, h⟩ := bd_of h
  refine cV1_i C M d5_whyNotMovable_2 l5_178 w5_isBooking (rc_main hN) (ev5_isBooking C.lt hN h1) rfl (Nat.le_of_ble_eq_true rfl) (Nat.le_of_ble_eq_true rfl) ?_
  refine c_req C M d5_whyNotMovable_5 l5_136 w5_requireIndex (ev5_requireIndex C.lt hX) rfl (Nat.le_of_ble_eq_true rfl) (Nat.le_of_ble_eq_true rfl) (fun c3 => e_thr (ite_p c3 h)) (fun c3 => ?_)
  replace h := ite_m c3 h
  refine r_iload_n C d5_whyNotMovable_8 rfl ?_
  refine r_iconst C d5_whyNotMovable_9 ?_
  refine r_sipush C d5_whyNotMovable_10 (by decide +kernel) ?_
  obtain ⟨r5, h4, h⟩ := bd_of h
  refine cS3_i C M d5_whyNotMovable_13 l5_104 w5_isWithin (ev5_isWithin C.lt hN h4) rfl (Nat.le_of_ble_eq_true rfl) (Nat.le_of_ble_eq_true rfl) ?_
  refine c_req C M d5_whyNotMovable_16 l5_108 w5_requireArgument (ev5_requireArgument C.lt hX) rfl (Nat.le_of_ble_eq_true rfl) (Nat.le_of_ble_eq_true rfl) (fun c6 => e_thr (ite_p c6 h)) (fun c6 => ?_)
  replace h := ite_m c6 h
  refine r_aload_n C d5_whyNotMovable_19 rfl ?_
  refine r_iload_n C d5_whyNotMovable_20 rfl ?_
  refine r_iload_n C d5_whyNotMovable_21 rfl ?_
  obtain ⟨r8, h7, h⟩ := bd_of h
  refine cV2_i C M d5_whyNotMovable_22 l5_228 w5_hindranceToMove (rc_main hN) (ev5_hindranceToMove C.lt hN h7) rfl (Nat.le_of_ble_eq_true rfl) (Nat.le_of_ble_eq_true rfl) ?_
  exact e_it C M d5_whyNotMovable_25 (Nat.le_of_ble_eq_true rfl) (Nat.le_of_ble_eq_true rfl) h
def f5_requestCount (V : VV) : Option Int := some (V (aP 0) 10)
theorem ev5_requestCount {G : GT} {l : Launch} {V : VV} {r : Int} (hlt : l.stackTraces = false) (hN : 148 ≤ gN G) (h : f5_requestCount V = some r) : EvX G l y5_requestCount b5_requestCount 1 (some .int) 0 0 0 [.ref (gB G + 0)] V (.ok (some (vI r))) V := by
  refine ev_w hlt (by decide +kernel) rfl rfl (fun X hl hx C M => ?_)
  subst hl
  replace C : Cx G X "ChannelSchedule" b5_requestCount := C
  unfold f5_requestCount at h
  show At G X 0 0 0 [(0, .ref (gB G + 0))] [] V
  refine r_aload_n C d5_requestCount_0 rfl ?_
  refine g_main_4 C d5_requestCount_1 f5_36 hN ?_
  refine g_plan_10 C d5_requestCount_4 f5_231 hN p0 ?_
  exact e_i C M d5_requestCount_7 (Nat.le_of_ble_eq_true rfl) (Nat.le_of_ble_eq_true rfl) h
def f5_isRequest (V : VV) (x1 : Int) : Option Int := bd (f5_isNumberBelow V x1 (V (aP 0) 10)) (fun r2 => ck (r2 = 0 ∨ r2 = 1) (some r2))
theorem ev5_isRequest {G : GT} {l : Launch} {V : VV} {x1 : Int} {r : Int} (hlt : l.stackTraces = false) (hN : 148 ≤ gN G) (h : f5_isRequest V x1 = some r) : EvX G l y5_isRequest b5_isRequest 2 (some .boolean) 1 0 0 [.ref (gB G + 0), vI x1] V (.ok (some (vI r))) V := by
  refine ev_w hlt (by decide +kernel) rfl rfl (fun X hl hx C M => ?_)
  subst hl
  replace C : Cx G X "ChannelSchedule" b5_isRequest := C
  unfold f5_isRequest at h
  show At G X 0 0 0 [(0, .ref (gB G + 0)), (1, vI x1)] [] V
  refine r_iload_n C d5_isRequest_0 rfl ?_
  refine r_aload_n C d5_isRequest_1 rfl ?_
  refine g_main_4 C d5_isRequest_2 f5_36 hN ?_
  refine g_plan_10 C d5_isRequest_5 f5_231 hN p0 ?_
  obtain ⟨r2, h1, h⟩ := bd_of h
  refine cS2_i C M d5_isRequest_8 l5_158 w5_isNumberBelow (ev5_isNumberBelow C.lt hN h1) rfl (Nat.le_of_ble_eq_true rfl) (Nat.le_of_ble_eq_true rfl) ?_
  obtain ⟨c3, h⟩ := ck_of h
  exact e_z C M d5_isRequest_11 (Nat.le_of_ble_eq_true rfl) (Nat.le_of_ble_eq_true rfl) c3 h
def f5_requestedShip (V : VV) (x1 : Int) : Option (Except String Int × VV) := bd (f5_isRequest V x1) (fun r2 => if nrm r2 = 0 then some (.error "java/lang/IndexOutOfBoundsException", V) else ck ((0:Int) ≤ x1 ∧ x1 < 8) (some (.ok (V (aP 0 + 5) (Int.toNat x1)), V)))
theorem ev5_requestedShip {G : GT} {l : Launch} {V : VV} {x1 : Int} {e : Except String Int} {V1 : VV} (hlt : l.stackTraces = false) (hN : 148 ≤ gN G) (hX : gX G = false) (h : f5_requestedShip V x1 = some (e, V1)) : EvX G l y5_requestedShip b5_requestedShip 2 (some .int) 7 1 6 [.ref (gB G + 0), vI x1] V (oX e) V1 := by
  refine ev_w hlt (by decide +kernel) rfl rfl (fun X hl hx C M => ?_)
  subst hl
  replace C : Cx G X "ChannelSchedule" b5_requestedShip := C
  unfold f5_requestedShip at h
  show At G X 0 0 0 [(0, .ref (gB G + 0)), (1, vI x1)] [] V
  refine r_aload_n C d5_requestedShip_0 rfl ?_
  refine r_iload_n C d5_requestedShip_1 rfl ?_
  obtain ⟨r2, h1, h⟩ := bd_of h
  refine cV1_i C M d5_requestedShip_2 l5_234 w5_isRequest (rc_main hN) (ev5_isRequest C.lt hN h1) rfl (Nat.le_of_ble_eq_true rfl) (Nat.le_of_ble_eq_true rfl) ?_
  refine c_req C M d5_requestedShip_5 l5_136 w5_requireIndex (ev5_requireIndex C.lt hX) rfl (Nat.le_of_ble_eq_true rfl) (Nat.le_of_ble_eq_true rfl) (fun c3 => e_thr (ite_p c3 h)) (fun c3 => ?_)
  replace h := ite_m c3 h
  refine r_aload_n C d5_requestedShip_8 rfl ?_
  refine g_main_4 C d5_requestedShip_9 f5_36 hN ?_
  refine g_plan_11 C d5_requestedShip_12 f5_237 hN p0 ?_
  refine r_iload_n C d5_requestedShip_15 rfl ?_
  obtain ⟨c4, h⟩ := ck_of h
  refine x_iald C d5_requestedShip_16 (ra_plan5 hN p0) c4 ?_
  exact e_it C M d5_requestedShip_17 (Nat.le_of_ble_eq_true rfl) (Nat.le_of_ble_eq_true rfl) h
def f5_isRequestInbound (V : VV) (x1 : Int) : Option (Except String Int × VV) := bd (f5_isRequest V x1) (fun r2 => if nrm r2 = 0 then some (.error "java/lang/IndexOutOfBoundsException", V) else ck ((0:Int) ≤ x1 ∧ x1 < 8) (ck ((V (aP 0 + 6) (Int.toNat x1)) = 0 ∨ (V (aP 0 + 6) (Int.toNat x1)) = 1) (some (.ok (V (aP 0 + 6) (Int.toNat x1)), V))))
theorem ev5_isRequestInbound {G : GT} {l : Launch} {V : VV} {x1 : Int} {e : Except String Int} {V1 : VV} (hlt : l.stackTraces = false) (hN : 148 ≤ gN G) (hX : gX G = false) (h : f5_isRequestInbound V x1 = some (e, V1)) : EvX G l y5_isRequestInbound b5_isRequestInbound 2 (some .boolean) 7 1 6 [.ref (gB G + 0), vI x1] V (oX e) V1 := by
  refine ev_w hlt (by decide +kernel) rfl rfl (fun X hl hx C M => ?_)
  subst hl
  replace C : Cx G X "ChannelSchedule" b5_isRequestInbound := C
  unfold f5_isRequestInbound at h
  show At G X 0 0 0 [(0, .ref (gB G + 0)), (1, vI x1)] [] V
  refine r_aload_n C d5_isRequestInbound_0 rfl ?_
  refine r_iload_n C d5_isRequestInbound_1 rfl ?_
  obtain ⟨r2, h1, h⟩ := bd_of h
  refine cV1_i C M d5_isRequestInbound_2 l5_234 w5_isRequest (rc_main hN) (ev5_isRequest C.lt hN h1) rfl (Nat.le_of_ble_eq_true rfl) (Nat.le_of_ble_eq_true rfl) ?_
  refine c_req C M d5_isRequestInbound_5 l5_136 w5_requireIndex (ev5_requireIndex C.lt hX) rfl (Nat.le_of_ble_eq_true rfl) (Nat.le_of_ble_eq_true rfl) (fun c3 => e_thr (ite_p c3 h)) (fun c3 => ?_)
  replace h := ite_m c3 h
  refine r_aload_n C d5_isRequestInbound_8 rfl ?_
  refine g_main_4 C d5_isRequestInbound_9 f5_36 hN ?_
  refine g_plan_12 C d5_isRequestInbound_12 f5_240 hN p0 ?_
  refine r_iload_n C d5_isRequestInbound_15 rfl ?_
  obtain ⟨c4, h⟩ := ck_of h
  refine x_zald C d5_isRequestInbound_16 (ra_plan6 hN p0) c4 ?_
  obtain ⟨c5, h⟩ := ck_of h
  exact e_zt C M d5_isRequestInbound_17 (Nat.le_of_ble_eq_true rfl) (Nat.le_of_ble_eq_true rfl) c5 h
def f5_earliestRequested (V : VV) (x1 : Int) : Option (Except String Int × VV) := bd (f5_isRequest V x1) (fun r2 => if nrm r2 = 0 then some (.error "java/lang/IndexOutOfBoundsException", V) else ck ((0:Int) ≤ x1 ∧ x1 < 8) (some (.ok (V (aP 0 + 7) (Int.toNat x1)), V)))
theorem ev5_earliestRequested {G : GT} {l : Launch} {V : VV} {x1 : Int} {e : Except String Int} {V1 : VV} (hlt : l.stackTraces = false) (hN : 148 ≤ gN G) (hX : gX G = false) (h : f5_earliestRequested V x1 = some (e, V1)) : EvX G l y5_earliestRequested b5_earliestRequested 2 (some .int) 7 1 6 [.ref (gB G + 0), vI x1] V (oX e) V1 := by
  refine ev_w hlt (by decide +kernel) rfl rfl (fun X hl hx C M => ?_)
  subst hl
  replace C : Cx G X "ChannelSchedule" b5_earliestRequested := C
  unfold f5_earliestRequested at h
  show At G X 0 0 0 [(0, .ref (gB G + 0)), (1, vI x1)] [] V
  refine r_aload_n C d5_earliestRequested_0 rfl ?_
  refine r_iload_n C d5_earliestRequested_1 rfl ?_
  obtain ⟨r2, h1, h⟩ := bd_of h
  refine cV1_i C M d5_earliestRequested_2 l5_234 w5_isRequest (rc_main hN) (ev5_isRequest C.lt hN h1) rfl (Nat.le_of_ble_eq_true rfl) (Nat.le_of_ble_eq_true rfl) ?_
  refine c_req C M d5_earliestRequested_5 l5_136 w5_requireIndex (ev5_requireIndex C.lt hX) rfl (Nat.le_of_ble_eq_true rfl) (Nat.le_of_ble_eq_true rfl) (fun c3 => e_thr (ite_p c3 h)) (fun c3 => ?_)
  replace h := ite_m c3 h
  refine r_aload_n C d5_earliestRequested_8 rfl ?_
  refine g_main_4 C d5_earliestRequested_9 f5_36 hN ?_
  refine g_plan_13 C d5_earliestRequested_12 f5_243 hN p0 ?_
  refine r_iload_n C d5_earliestRequested_15 rfl ?_
  obtain ⟨c4, h⟩ := ck_of h
  refine x_iald C d5_earliestRequested_16 (ra_plan7 hN p0) c4 ?_
  exact e_it C M d5_earliestRequested_17 (Nat.le_of_ble_eq_true rfl) (Nat.le_of_ble_eq_true rfl) h
def f5_latestRequested (V : VV) (x1 : Int) : Option (Except String Int × VV) := bd (f5_isRequest V x1) (fun r2 => if nrm r2 = 0 then some (.error "java/lang/IndexOutOfBoundsException", V) else ck ((0:Int) ≤ x1 ∧ x1 < 8) (some (.ok (V (aP 0 + 8) (Int.toNat x1)), V)))
theorem ev5_latestRequested {G : GT} {l : Launch} {V : VV} {x1 : Int} {e : Except String Int} {V1 : VV} (hlt : l.stackTraces = false) (hN : 148 ≤ gN G) (hX : gX G = false) (h : f5_latestRequested V x1 = some (e, V1)) : EvX G l y5_latestRequested b5_latestRequested 2 (some .int) 7 1 6 [.ref (gB G + 0), vI x1] V (oX e) V1 := by
  refine ev_w hlt (by decide +kernel) rfl rfl (fun X hl hx C M => ?_)
  subst hl
  replace C : Cx G X "ChannelSchedule" b5_latestRequested := C
  unfold f5_latestRequested at h
  show At G X 0 0 0 [(0, .ref (gB G + 0)), (1, vI x1)] [] V
  refine r_aload_n C d5_latestRequested_0 rfl ?_
  refine r_iload_n C d5_latestRequested_1 rfl ?_
  obtain ⟨r2, h1, h⟩ := bd_of h
  refine cV1_i C M d5_latestRequested_2 l5_234 w5_isRequest (rc_main hN) (ev5_isRequest C.lt hN h1) rfl (Nat.le_of_ble_eq_true rfl) (Nat.le_of_ble_eq_true rfl) ?_
  refine c_req C M d5_latestRequested_5 l5_136 w5_requireIndex (ev5_requireIndex C.lt hX) rfl (Nat.le_of_ble_eq_true rfl) (Nat.le_of_ble_eq_true rfl) (fun c3 => e_thr (ite_p c3 h)) (fun c3 => ?_)
  replace h := ite_m c3 h
  refine r_aload_n C d5_latestRequested_8 rfl ?_
  refine g_main_4 C d5_latestRequested_9 f5_36 hN ?_
  refine g_plan_14 C d5_latestRequested_12 f5_246 hN p0 ?_
  refine r_iload_n C d5_latestRequested_15 rfl ?_
  obtain ⟨c4, h⟩ := ck_of h
  refine x_iald C d5_latestRequested_16 (ra_plan8 hN p0) c4 ?_
  exact e_it C M d5_latestRequested_17 (Nat.le_of_ble_eq_true rfl) (Nat.le_of_ble_eq_true rfl) h
def f5_startToServe (V : VV) (x1 : Int) (x2 : Int) (x3 : Int) (x4 : Int) : Option Int := (if nrm (V (aP 0) 5) = nrm 20 then some (-1) else bd ((if nrm x3 ≤ nrm (V (aP 0) 1) then some (V (aP 0) 1) else some (x3))) (fun y3 => bd (f5_transitOf V x1) (fun r7 => bd (f5_leastFreeStart V x2 y3 x4 r7 (-1)) (fun r9 => some r9))))
theorem ev5_startToServe {G : GT} {l : Launch} {V : VV} {x1 : Int} {x2 : Int} {x3 : Int} {x4 : Int} {r : Int} (hlt : l.stackTraces = false) (hN : 148 ≤ gN G) (h : f5_startToServe V x1 x2 x3 x4 = some r) : EvX G l y5_startToServe b5_startToServe 6 (some .int) 2 0 0 [.ref (gB G + 0), vI x1, vI x2, vI x3, vI x4] V (.ok (some (vI r))) V := by
  refine ev_w hlt (by decide +kernel) rfl rfl (fun X hl hx C M => ?_)
  subst hl
  replace C : Cx G X "ChannelSchedule" b5_startToServe := C
  unfold f5_startToServe at h
  show At G X 0 0 0 [(0, .ref (gB G + 0)), (1, vI x1), (2, vI x2), (3, vI x3), (4, vI x4)] [] V
  refine r_aload_n C d5_startToServe_0 rfl ?_
  refine g_main_4 C d5_startToServe_1 f5_36 hN ?_
  refine g_plan_5 C d5_startToServe_4 f5_175 hN p0 ?_
  refine r_bipush C d5_startToServe_7 (by decide +kernel) ?_
  refine x_icmpne (tgt := 14) C d5_startToServe_9 rfl (fun c1 => ?_) (fun c1 => ?_)
  · replace h := ite_p c1 h
    refine r_iconst C d5_startToServe_12 ?_
    exact e_i C M d5_startToServe_13 (Nat.le_of_ble_eq_true rfl) (Nat.le_of_ble_eq_true rfl) h
  · replace h := ite_m c1 h
    refine r_iload_n C d5_startToServe_14 rfl ?_
    refine r_aload_n C d5_startToServe_15 rfl ?_
    refine g_main_4 C d5_startToServe_16 f5_36 hN ?_
    refine g_plan_1 C d5_startToServe_19 f5_129 hN p0 ?_
    obtain ⟨y3, h4, h⟩ := bd_of h
    suffices J5 : At G X 0 0 36 [(0, .ref (gB G + 0)), (1, vI x1), (2, vI x2), (4, vI x4)] [vI y3] V by
      replace h := h4
      refine x_icmple (tgt := 29) C d5_startToServe_22 rfl (fun c2 => ?_) (fun c2 => ?_)
      · replace h := ite_p c2 h
        refine r_aload_n C d5_startToServe_29 rfl ?_
        refine g_main_4 C d5_startToServe_30 f5_36 hN ?_
        refine g_plan_1 C d5_startToServe_33 f5_129 hN p0 ?_
        cases h
        exact AtH.sw J5 ⟨rfl, rfl, rfl, rfl, trivial⟩
      · replace h := ite_m c2 h
        refine r_iload_n C d5_startToServe_25 rfl ?_
        refine r_goto (tgt := 36) C d5_startToServe_26 rfl ?_
        cases h
        exact AtH.sw J5 ⟨rfl, rfl, rfl, rfl, trivial⟩
    refine x_istore hx C d5_startToServe_36 rfl ?_
    refine r_aload_n C d5_startToServe_38 rfl ?_
    refine r_iload_n C d5_startToServe_39 rfl ?_
    refine r_iload C d5_startToServe_40 rfl ?_
    refine r_iload C d5_startToServe_42 rfl ?_
    refine r_aload_n C d5_startToServe_44 rfl ?_
    refine r_iload_n C d5_startToServe_45 rfl ?_
    obtain ⟨r7, h6, h⟩ := bd_of h
    refine cV1_i C M d5_startToServe_46 l5_139 w5_transitOf (rc_main hN) (ev5_transitOf C.lt hN h6) rfl (Nat.le_of_ble_eq_true rfl) (Nat.le_of_ble_eq_true rfl) ?_
    refine r_iconst C d5_startToServe_49 ?_
    obtain ⟨r9, h8, h⟩ := bd_of h
    refine cV5_i C M d5_startToServe_50 l5_213 w5_leastFreeStart (rc_main hN) (ev5_leastFreeStart C.lt hN h8) rfl (Nat.le_of_ble_eq_true rfl) (Nat.le_of_ble_eq_true rfl) ?_
    exact e_i C M d5_startToServe_53 (Nat.le_of_ble_eq_true rfl) (Nat.le_of_ble_eq_true rfl) h
def f5_servingStart (V : VV) (x1 : Int) : Option Int := ck ((0:Int) ≤ x1 ∧ x1 < 8) (bd (f5_startToServe V (V (aP 0 + 5) (Int.toNat x1)) (V (aP 0 + 6) (Int.toNat x1)) (V (aP 0 + 7) (Int.toNat x1)) (V (aP 0 + 8) (Int.toNat x1))) (fun r3 => some r3))
theorem ev5_servingStart {G : GT} {l : Launch} {V : VV} {x1 : Int} {r : Int} (hlt : l.stackTraces = false) (hN : 148 ≤ gN G) (h : f5_servingStart V x1 = some r) : EvX G l y5_servingStart b5_servingStart 2 (some .int) 3 0 0 [.ref (gB G + 0), vI x1] V (.ok (some (vI r))) V := by
  refine ev_w hlt (by decide +kernel) rfl rfl (fun X hl hx C M => ?_)
  subst hl
  replace C : Cx G X "ChannelSchedule" b5_servingStart := C
  unfold f5_servingStart at h
  show At G X 0 0 0 [(0, .ref (gB G + 0)), (1, vI x1)] [] V
  refine r_aload_n C d5_servingStart_0 rfl ?_
  refine r_aload_n C d5_servingStart_1 rfl ?_
  refine g_main_4 C d5_servingStart_2 f5_36 hN ?_
  refine g_plan_11 C d5_servingStart_5 f5_237 hN p0 ?_
  refine r_iload_n C d5_servingStart_8 rfl ?_
  obtain ⟨c1, h⟩ := ck_of h
  refine x_iald C d5_servingStart_9 (ra_plan5 hN p0) c1 ?_
  refine r_aload_n C d5_servingStart_10 rfl ?_
  refine g_main_4 C d5_servingStart_11 f5_36 hN ?_
  refine g_plan_12 C d5_servingStart_14 f5_240 hN p0 ?_
  refine r_iload_n C d5_servingStart_17 rfl ?_
  refine x_zald C d5_servingStart_18 (ra_plan6 hN p0) c1 ?_
  refine r_aload_n C d5_servingStart_19 rfl ?_
  refine g_main_4 C d5_servingStart_20 f5_36 hN ?_
  refine g_plan_13 C d5_servingStart_23 f5_243 hN p0 ?_
  refine r_iload_n C d5_servingStart_26 rfl ?_
  refine x_iald C d5_servingStart_27 (ra_plan7 hN p0) c1 ?_
  refine r_aload_n C d5_servingStart_28 rfl ?_
  refine g_main_4 C d5_servingStart_29 f5_36 hN ?_
  refine g_plan_14 C d5_servingStart_32 f5_246 hN p0 ?_
  refine r_iload_n C d5_servingStart_35 rfl ?_
  refine x_iald C d5_servingStart_36 (ra_plan8 hN p0) c1 ?_
  obtain ⟨r3, h2, h⟩ := bd_of h
  refine cV4_i C M d5_servingStart_37 l5_354 w5_startToServe (rc_main hN) (ev5_startToServe C.lt hN h2) rfl (Nat.le_of_ble_eq_true rfl) (Nat.le_of_ble_eq_true rfl) ?_
  exact e_i C M d5_servingStart_40 (Nat.le_of_ble_eq_true rfl) (Nat.le_of_ble_eq_true rfl) h
def f5_whyNotFeasible (V : VV) (x1 : Int) : Option (Except String Int × VV) := bd (f5_isRequest V x1) (fun r2 => if nrm r2 = 0 then some (.error "java/lang/IndexOutOfBoundsException", V) else ck ((0:Int) ≤ x1 ∧ x1 < 8) ((if nrm (V (aP 0) 1) ≤ nrm (V (aP 0 + 8) (Int.toNat x1)) then (if nrm (V (aP 0) 5) = nrm 20 then some (.ok 2, V) else bd (f5_servingStart V x1) (fun r8 => (if nrm r8 = nrm (-1) then some (.ok 3, V) else some (.ok 0, V)))) else some (.ok 1, V))))
theorem ev5_whyNotFeasible {G : GT} {l : Launch} {V : VV} {x1 : Int} {e : Except String Int} {V1 : VV} (hlt : l.stackTraces = false) (hN : 148 ≤ gN G) (hX : gX G = false) (h : f5_whyNotFeasible V x1 = some (e, V1)) : EvX G l y5_whyNotFeasible b5_whyNotFeasible 2 (some .int) 7 1 6 [.ref (gB G + 0), vI x1] V (oX e) V1 := by
  refine ev_w hlt (by decide +kernel) rfl rfl (fun X hl hx C M => ?_)
  subst hl
  replace C : Cx G X "ChannelSchedule" b5_whyNotFeasible := C
  unfold f5_whyNotFeasible at h
  show At G X 0 0 0 [(0, .ref (gB G + 0)), (1, vI x1)] [] V
  refine r_aload_n C d5_whyNotFeasible_0 rfl ?_
  refine r_iload_n C d5_whyNotFeasible_1 rfl ?_
  obtain ⟨r2, h1, h⟩ := bd_of h
  refine cV1_i C M d5_whyNotFeasible_2 l5_234 w5_isRequest (rc_main hN) (ev5_isRequest C.lt hN h1) rfl (Nat.le_of_ble_eq_true rfl) (Nat.le_of_ble_eq_true rfl) ?_
  refine c_req C M d5_whyNotFeasible_5 l5_136 w5_requireIndex (ev5_requireIndex C.lt hX) rfl (Nat.le_of_ble_eq_true rfl) (Nat.le_of_ble_eq_true rfl) (fun c3 => e_thr (ite_p c3 h)) (fun c3 => ?_)
  replace h := ite_m c3 h
  refine r_aload_n C d5_whyNotFeasible_8 rfl ?_
  refine g_main_4 C d5_whyNotFeasible_9 f5_36 hN ?_
  refine g_plan_14 C d5_whyNotFeasible_12 f5_246 hN p0 ?_
  refine r_iload_n C d5_whyNotFeasible_15 rfl ?_
  obtain ⟨c4, h⟩ := ck_of h
  refine x_iald C d5_whyNotFeasible_16 (ra_plan8 hN p0) c4 ?_
  refine r_aload_n C d5_whyNotFeasible_17 rfl ?_
  refine g_main_4 C d5_whyNotFeasible_18 f5_36 hN ?_
  refine g_plan_1 C d5_whyNotFeasible_21 f5_129 hN p0 ?_
  refine x_icmpge (tgt := 29) C d5_whyNotFeasible_24 rfl (fun c5 => ?_) (fun c5 => ?_)
  · replace h := ite_p c5 h
    refine r_aload_n C d5_whyNotFeasible_29 rfl ?_
    refine g_main_4 C d5_whyNotFeasible_30 f5_36 hN ?_
    refine g_plan_5 C d5_whyNotFeasible_33 f5_175 hN p0 ?_
    refine r_bipush C d5_whyNotFeasible_36 (by decide +kernel) ?_
    refine x_icmpne (tgt := 43) C d5_whyNotFeasible_38 rfl (fun c6 => ?_) (fun c6 => ?_)
    · replace h := ite_p c6 h
      refine r_iconst C d5_whyNotFeasible_41 ?_
      exact e_it C M d5_whyNotFeasible_42 (Nat.le_of_ble_eq_true rfl) (Nat.le_of_ble_eq_true rfl) h
    · replace h := ite_m c6 h
      refine r_aload_n C d5_whyNotFeasible_43 rfl ?_
      refine r_iload_n C d5_whyNotFeasible_44 rfl ?_
      obtain ⟨r8, h7, h⟩ := bd_of h
      refine cV1_i C M d5_whyNotFeasible_45 l5_249 w5_servingStart (rc_main hN) (ev5_servingStart C.lt hN h7) rfl (Nat.le_of_ble_eq_true rfl) (Nat.le_of_ble_eq_true rfl) ?_
      refine r_iconst C d5_whyNotFeasible_48 ?_
      refine x_icmpne (tgt := 56) C d5_whyNotFeasible_49 rfl (fun c9 => ?_) (fun c9 => ?_)
      · replace h := ite_p c9 h
        refine r_iconst C d5_whyNotFeasible_52 ?_
        refine r_goto (tgt := 57) C d5_whyNotFeasible_53 rfl ?_
        exact e_it C M d5_whyNotFeasible_57 (Nat.le_of_ble_eq_true rfl) (Nat.le_of_ble_eq_true rfl) h
      · replace h := ite_m c9 h
        refine r_iconst C d5_whyNotFeasible_56 ?_
        exact e_it C M d5_whyNotFeasible_57 (Nat.le_of_ble_eq_true rfl) (Nat.le_of_ble_eq_true rfl) h
  · replace h := ite_m c5 h
    refine r_iconst C d5_whyNotFeasible_27 ?_
    exact e_it C M d5_whyNotFeasible_28 (Nat.le_of_ble_eq_true rfl) (Nat.le_of_ble_eq_true rfl) h
def f5_bitOf (V : VV) (x1 : Int) : Option Int := some (lI 1 (((V (aP 0) 10) - 1) - x1))
theorem ev5_bitOf {G : GT} {l : Launch} {V : VV} {x1 : Int} {r : Int} (hlt : l.stackTraces = false) (hN : 148 ≤ gN G) (h : f5_bitOf V x1 = some r) : EvX G l y5_bitOf b5_bitOf 2 (some .int) 0 0 0 [.ref (gB G + 0), vI x1] V (.ok (some (vI r))) V := by
  refine ev_w hlt (by decide +kernel) rfl rfl (fun X hl hx C M => ?_)
  subst hl
  replace C : Cx G X "ChannelSchedule" b5_bitOf := C
  unfold f5_bitOf at h
  show At G X 0 0 0 [(0, .ref (gB G + 0)), (1, vI x1)] [] V
  refine r_iconst C d5_bitOf_0 ?_
  refine r_aload_n C d5_bitOf_1 rfl ?_
  refine g_main_4 C d5_bitOf_2 f5_36 hN ?_
  refine g_plan_10 C d5_bitOf_5 f5_231 hN p0 ?_
  refine r_iconst C d5_bitOf_8 ?_
  refine r_isub C d5_bitOf_9 ?_
  refine r_iload_n C d5_bitOf_10 rfl ?_
  refine r_isub C d5_bitOf_11 ?_
  refine x_ishl C d5_bitOf_12 ?_
  exact e_i C M d5_bitOf_13 (Nat.le_of_ble_eq_true rfl) (Nat.le_of_ble_eq_true rfl) h
def f5_requestsClash (V : VV) (x1 : Int) (x2 : Int) : Option Int := ck ((0:Int) ≤ x1 ∧ x1 < 8) (ck ((0:Int) ≤ x2 ∧ x2 < 8) (bd ((if nrm (V (aP 0 + 6) (Int.toNat x1)) = nrm (V (aP 0 + 6) (Int.toNat x2)) then some (1) else some (0))) (fun y4 => bd (f5_transitOf V (V (aP 0 + 5) (Int.toNat x1))) (fun r8 => bd (f5_transitOf V (V (aP 0 + 5) (Int.toNat x2))) (fun r10 => bd (f5_freeBefore V (V (aP 0 + 7) (Int.toNat x1)) ((V (aP 0 + 7) (Int.toNat x1)) + r8) y4 r10) (fun r12 => (if nrm (V (aP 0 + 7) (Int.toNat x2)) ≤ nrm r12 then some 0 else bd (f5_freeAfter V (V (aP 0 + 7) (Int.toNat x1)) ((V (aP 0 + 7) (Int.toNat x1)) + r8) y4 r10) (fun r15 => (if nrm r15 ≤ nrm (V (aP 0 + 7) (Int.toNat x2)) then some 0 else some 1)))))))))
theorem ev5_requestsClash {G : GT} {l : Launch} {V : VV} {x1 : Int} {x2 : Int} {r : Int} (hlt : l.stackTraces = false) (hN : 148 ≤ gN G) (h : f5_requestsClash V x1 x2 = some r) : EvX G l y5_requestsClash b5_requestsClash 8 (some .boolean) 1 0 0 [.ref (gB G + 0), vI x1, vI x2] V (.ok (some (vI r))) V := by
  refine ev_w hlt (by decide +kernel) rfl rfl (fun X hl hx C M => ?_)
  subst hl
  replace C : Cx G X "ChannelSchedule" b5_requestsClash := C
  unfold f5_requestsClash at h
  show At G X 0 0 0 [(0, .ref (gB G + 0)), (1, vI x1), (2, vI x2)] [] V
  refine r_aload_n C d5_requestsClash_0 rfl ?_
  refine g_main_4 C d5_requestsClash_1 f5_36 hN ?_
  refine g_plan_12 C d5_requestsClash_4 f5_240 hN p0 ?_
  refine r_iload_n C d5_requestsClash_7 rfl ?_
  obtain ⟨c1, h⟩ := ck_of h
  refine x_zald C d5_requestsClash_8 (ra_plan6 hN p0) c1 ?_
  refine r_aload_n C d5_requestsClash_9 rfl ?_
  refine g_main_4 C d5_requestsClash_10 f5_36 hN ?_
  refine g_plan_12 C d5_requestsClash_13 f5_240 hN p0 ?_
  refine r_iload_n C d5_requestsClash_16 rfl ?_
  obtain ⟨c2, h⟩ := ck_of h
  refine x_zald C d5_requestsClash_17 (ra_plan6 hN p0) c2 ?_
  obtain ⟨y4, h5, h⟩ := bd_of h
  suffices J6 : At G X 0 0 26 [(0, .ref (gB G + 0)), (1, vI x1), (2, vI x2)] [vI y4] V by
    replace h := h5
    refine x_icmpne (tgt := 25) C d5_requestsClash_18 rfl (fun c3 => ?_) (fun c3 => ?_)
    · replace h := ite_p c3 h
      refine r_iconst C d5_requestsClash_21 ?_
      refine r_goto (tgt := 26) C d5_requestsClash_22 rfl ?_
      cases h
      exact AtH.sw J6 ⟨rfl, rfl, rfl, trivial⟩
    · replace h := ite_m c3 h
      refine r_iconst C d5_requestsClash_25 ?_
      cases h
      exact AtH.sw J6 ⟨rfl, rfl, rfl, trivial⟩
  refine x_istore_n hx C d5_requestsClash_26 rfl ?_
  refine r_aload_n C d5_requestsClash_27 rfl ?_
  refine g_main_4 C d5_requestsClash_28 f5_36 hN ?_
  refine g_plan_13 C d5_requestsClash_31 f5_243 hN p0 ?_
  refine r_iload_n C d5_requestsClash_34 rfl ?_
  refine x_iald C d5_requestsClash_35 (ra_plan7 hN p0) c1 ?_
  refine x_istore hx C d5_requestsClash_36 rfl ?_
  refine r_iload C d5_requestsClash_38 rfl ?_
  refine r_aload_n C d5_requestsClash_40 rfl ?_
  refine r_aload_n C d5_requestsClash_41 rfl ?_
  refine g_main_4 C d5_requestsClash_42 f5_36 hN ?_
  refine g_plan_11 C d5_requestsClash_45 f5_237 hN p0 ?_
  refine r_iload_n C d5_requestsClash_48 rfl ?_
  refine x_iald C d5_requestsClash_49 (ra_plan5 hN p0) c1 ?_
  obtain ⟨r8, h7, h⟩ := bd_of h
  refine cV1_i C M d5_requestsClash_50 l5_139 w5_transitOf (rc_main hN) (ev5_transitOf C.lt hN h7) rfl (Nat.le_of_ble_eq_true rfl) (Nat.le_of_ble_eq_true rfl) ?_
  refine r_iadd C d5_requestsClash_53 ?_
  refine x_istore hx C d5_requestsClash_54 rfl ?_
  refine r_aload_n C d5_requestsClash_56 rfl ?_
  refine g_main_4 C d5_requestsClash_57 f5_36 hN ?_
  refine g_plan_13 C d5_requestsClash_60 f5_243 hN p0 ?_
  refine r_iload_n C d5_requestsClash_63 rfl ?_
  refine x_iald C d5_requestsClash_64 (ra_plan7 hN p0) c2 ?_
  refine x_istore hx C d5_requestsClash_65 rfl ?_
  refine r_aload_n C d5_requestsClash_67 rfl ?_
  refine r_aload_n C d5_requestsClash_68 rfl ?_
  refine g_main_4 C d5_requestsClash_69 f5_36 hN ?_
  refine g_plan_11 C d5_requestsClash_72 f5_237 hN p0 ?_
  refine r_iload_n C d5_requestsClash_75 rfl ?_
  refine x_iald C d5_requestsClash_76 (ra_plan5 hN p0) c2 ?_
  obtain ⟨r10, h9, h⟩ := bd_of h
  refine cV1_i C M d5_requestsClash_77 l5_139 w5_transitOf (rc_main hN) (ev5_transitOf C.lt hN h9) rfl (Nat.le_of_ble_eq_true rfl) (Nat.le_of_ble_eq_true rfl) ?_
  refine x_istore hx C d5_requestsClash_80 rfl ?_
  refine r_iload C d5_requestsClash_82 rfl ?_
  refine r_aload_n C d5_requestsClash_84 rfl ?_
  refine r_iload C d5_requestsClash_85 rfl ?_
  refine r_iload C d5_requestsClash_87 rfl ?_
  refine r_iload_n C d5_requestsClash_89 rfl ?_
  refine r_iload C d5_requestsClash_90 rfl ?_
  obtain ⟨r12, h11, h⟩ := bd_of h
  refine cV4_i C M d5_requestsClash_92 l5_224 w5_freeBefore (rc_main hN) (ev5_freeBefore C.lt hN h11) rfl (Nat.le_of_ble_eq_true rfl) (Nat.le_of_ble_eq_true rfl) ?_
  refine x_icmple (tgt := 118) C d5_requestsClash_95 rfl (fun c13 => ?_) (fun c13 => ?_)
  · replace h := ite_p c13 h
    refine r_iconst C d5_requestsClash_118 ?_
    exact e_z C M d5_requestsClash_119 (Nat.le_of_ble_eq_true rfl) (Nat.le_of_ble_eq_true rfl) (Or.inl rfl) h
  · replace h := ite_m c13 h
    refine r_iload C d5_requestsClash_98 rfl ?_
    refine r_aload_n C d5_requestsClash_100 rfl ?_
    refine r_iload C d5_requestsClash_101 rfl ?_
    refine r_iload C d5_requestsClash_103 rfl ?_
    refine r_iload_n C d5_requestsClash_105 rfl ?_
    refine r_iload C d5_requestsClash_106 rfl ?_
    obtain ⟨r15, h14, h⟩ := bd_of h
    refine cV4_i C M d5_requestsClash_108 l5_351 w5_freeAfter (rc_main hN) (ev5_freeAfter C.lt hN h14) rfl (Nat.le_of_ble_eq_true rfl) (Nat.le_of_ble_eq_true rfl) ?_
    refine x_icmpge (tgt := 118) C d5_requestsClash_111 rfl (fun c16 => ?_) (fun c16 => ?_)
    · replace h := ite_p c16 h
      refine r_iconst C d5_requestsClash_118 ?_
      exact e_z C M d5_requestsClash_119 (Nat.le_of_ble_eq_true rfl) (Nat.le_of_ble_eq_true rfl) (Or.inl rfl) h
    · replace h := ite_m c16 h
      refine r_iconst C d5_requestsClash_114 ?_
      refine r_goto (tgt := 119) C d5_requestsClash_115 rfl ?_
      exact e_z C M d5_requestsClash_119 (Nat.le_of_ble_eq_true rfl) (Nat.le_of_ble_eq_true rfl) (Or.inr rfl) h
def f5_findExcluded_L75 (x1 : Int) : Nat → Int → VV → Option (VV)
  | 0, _, _ => none
  | n + 1, x4, V => (if nrm (V (aP 0) 10) ≤ nrm x4 then some V else (if nrm x4 = nrm x1 then f5_findExcluded_L75 x1 n (x4 + 1) V else bd (f5_requestsClash V x1 x4) (fun r16 => (if nrm r16 = 0 then f5_findExcluded_L75 x1 n (x4 + 1) V else ck ((0:Int) ≤ x1 ∧ x1 < 8) (bd (f5_bitOf V x4) (fun r20 => f5_findExcluded_L75 x1 n (x4 + 1) (up2 V 74 (Int.toNat x1) (oI (V 74 (Int.toNat x1)) r20))))))))
theorem lp5_findExcluded_75 {G : GT} {X : CT} {cells slots : Nat} (hN : 148 ≤ gN G) (hx : xN X = 5) (C : Cx G X "ChannelSchedule" b5_findExcluded) {x1 : Int} {o0 : Except String (Option Value)} {V9 : VV} (M : MX G X 3 0 0 none o0 V9) (hc : cells ≤ 0) (hs : slots ≤ 0) : ∀ (n : Nat) {x4 : Int} {V : VV} {W0 : VV}, f5_findExcluded_L75 x1 n x4 V = some (W0) → At G X cells slots 124 [(0, .ref (gB G + 0)), (1, vI x1)] [] W0 → At G X cells slots 75 [(0, .ref (gB G + 0)), (1, vI x1), (4, vI x4)] [] V := by
  intro n
  induction n with
  | zero => intro x4 V W0 h _; exact nomatch h
  | succ n ih =>
    intro x4 V W0 h K
    rw [f5_findExcluded_L75] at h
    refine r_iload C d5_findExcluded_75 rfl ?_
    refine r_aload_n C d5_findExcluded_77 rfl ?_
    refine g_main_4 C d5_findExcluded_78 f5_36 hN ?_
    refine g_plan_10 C d5_findExcluded_81 f5_231 hN p0 ?_
    refine x_icmpge (tgt := 124) C d5_findExcluded_84 rfl (fun c13 => ?_) (fun c13 => ?_)
    · replace h := ite_p c13 h
      cases h
      exact AtH.sw K ⟨rfl, rfl, trivial⟩
    · replace h := ite_m c13 h
      refine r_iload C d5_findExcluded_87 rfl ?_
      refine r_iload_n C d5_findExcluded_89 rfl ?_
      refine x_icmpeq (tgt := 118) C d5_findExcluded_90 rfl (fun c14 => ?_) (fun c14 => ?_)
      · replace h := ite_p c14 h
        refine x_iinc hx C d5_findExcluded_118 rfl rfl ?_
        refine r_goto (tgt := 75) C d5_findExcluded_121 rfl ?_
        exact AtH.sw (ih h K) ⟨rfl, rfl, rfl, trivial⟩
      · replace h := ite_m c14 h
        refine r_aload_n C d5_findExcluded_93 rfl ?_
        refine r_iload_n C d5_findExcluded_94 rfl ?_
        refine r_iload C d5_findExcluded_95 rfl ?_
        obtain ⟨r16, h15, h⟩ := bd_of h
        refine cV2_i C M d5_findExcluded_97 l5_363 w5_requestsClash (rc_main hN) (ev5_requestsClash C.lt hN h15) rfl hc hs ?_
        refine x_ifeq (tgt := 118) C d5_findExcluded_100 rfl (fun c17 => ?_) (fun c17 => ?_)
        · replace h := ite_p c17 h
          refine x_iinc hx C d5_findExcluded_118 rfl rfl ?_
          refine r_goto (tgt := 75) C d5_findExcluded_121 rfl ?_
          exact AtH.sw (ih h K) ⟨rfl, rfl, rfl, trivial⟩
        · replace h := ite_m c17 h
          refine r_aload_n C d5_findExcluded_103 rfl ?_
          refine g_main_11 C d5_findExcluded_104 f5_61 hN ?_
          refine r_iload_n C d5_findExcluded_107 rfl ?_
          refine r_dup2 C d5_findExcluded_108 rfl rfl ?_
          obtain ⟨c18, h⟩ := ck_of h
          refine x_iald C d5_findExcluded_109 (ra_excluded hN) c18 ?_
          refine r_aload_n C d5_findExcluded_110 rfl ?_
          refine r_iload C d5_findExcluded_111 rfl ?_
          obtain ⟨r20, h19, h⟩ := bd_of h
          refine cV1_i C M d5_findExcluded_113 l5_258 w5_bitOf (rc_main hN) (ev5_bitOf C.lt hN h19) rfl hc hs ?_
          refine x_ior C d5_findExcluded_116 ?_
          refine x_iast C d5_findExcluded_117 (ra_excluded hN) c18 ?_
          refine x_iinc hx C d5_findExcluded_118 rfl rfl ?_
          refine r_goto (tgt := 75) C d5_findExcluded_121 rfl ?_
          exact AtH.sw (ih h K) ⟨rfl, rfl, rfl, trivial⟩
def f5_findExcluded_L2 : Nat → Int → VV → Option (VV)
  | 0, _, _ => none
  | n + 1, x1, V => (if nrm (V (aP 0) 10) ≤ nrm x1 then some V else ck ((0:Int) ≤ x1 ∧ x1 < 8) (bd (f5_transitOf V (V (aP 0 + 5) (Int.toNat x1))) (fun r4 => bd (f5_firstClash V (V (aP 0 + 6) (Int.toNat x1)) (V (aP 0 + 7) (Int.toNat x1)) r4 (-1)) (fun r6 => bd ((if nrm r6 = nrm (-1) then some (0) else bd (f5_bitOf V x1) (fun r9 => some (r9)))) (fun y10 => bd (f5_findExcluded_L75 x1 FU 0 (up2 V 74 (Int.toNat x1) y10)) (fun W21 => f5_findExcluded_L2 n (x1 + 1) W21))))))
theorem lp5_findExcluded_2 {G : GT} {X : CT} {cells slots : Nat} (hN : 148 ≤ gN G) (hx : xN X = 5) (C : Cx G X "ChannelSchedule" b5_findExcluded) {o0 : Except String (Option Value)} {V9 : VV} (M : MX G X 3 0 0 none o0 V9) (hc : cells ≤ 0) (hs : slots ≤ 0) : ∀ (n : Nat) {x1 : Int} {V : VV} {W0 : VV}, f5_findExcluded_L2 n x1 V = some (W0) → At G X cells slots 130 [] [] W0 → At G X cells slots 2 [(0, .ref (gB G + 0)), (1, vI x1)] [] V := by
  intro n
  induction n with
  | zero => intro x1 V W0 h _; exact nomatch h
  | succ n ih =>
    intro x1 V W0 h K
    rw [f5_findExcluded_L2] at h
    refine r_iload_n C d5_findExcluded_2 rfl ?_
    refine r_aload_n C d5_findExcluded_3 rfl ?_
    refine g_main_4 C d5_findExcluded_4 f5_36 hN ?_
    refine g_plan_10 C d5_findExcluded_7 f5_231 hN p0 ?_
    refine x_icmpge (tgt := 130) C d5_findExcluded_10 rfl (fun c1 => ?_) (fun c1 => ?_)
    · replace h := ite_p c1 h
      cases h
      exact AtH.sw K trivial
    · replace h := ite_m c1 h
      refine r_aload_n C d5_findExcluded_13 rfl ?_
      refine r_aload_n C d5_findExcluded_14 rfl ?_
      refine g_main_4 C d5_findExcluded_15 f5_36 hN ?_
      refine g_plan_11 C d5_findExcluded_18 f5_237 hN p0 ?_
      refine r_iload_n C d5_findExcluded_21 rfl ?_
      obtain ⟨c2, h⟩ := ck_of h
      refine x_iald C d5_findExcluded_22 (ra_plan5 hN p0) c2 ?_
      obtain ⟨r4, h3, h⟩ := bd_of h
      refine cV1_i C M d5_findExcluded_23 l5_139 w5_transitOf (rc_main hN) (ev5_transitOf C.lt hN h3) rfl hc hs ?_
      refine x_istore_n hx C d5_findExcluded_26 rfl ?_
      refine r_aload_n C d5_findExcluded_27 rfl ?_
      refine r_aload_n C d5_findExcluded_28 rfl ?_
      refine g_main_4 C d5_findExcluded_29 f5_36 hN ?_
      refine g_plan_12 C d5_findExcluded_32 f5_240 hN p0 ?_
      refine r_iload_n C d5_findExcluded_35 rfl ?_
      refine x_zald C d5_findExcluded_36 (ra_plan6 hN p0) c2 ?_
      refine r_aload_n C d5_findExcluded_37 rfl ?_
      refine g_main_4 C d5_findExcluded_38 f5_36 hN ?_
      refine g_plan_13 C d5_findExcluded_41 f5_243 hN p0 ?_
      refine r_iload_n C d5_findExcluded_44 rfl ?_
      refine x_iald C d5_findExcluded_45 (ra_plan7 hN p0) c2 ?_
      refine r_iload_n C d5_findExcluded_46 rfl ?_
      refine r_iconst C d5_findExcluded_47 ?_
      obtain ⟨r6, h5, h⟩ := bd_of h
      refine cV4_i C M d5_findExcluded_48 l5_209 w5_firstClash (rc_main hN) (ev5_firstClash C.lt hN h5) rfl hc hs ?_
      refine x_istore_n hx C d5_findExcluded_51 rfl ?_
      refine r_aload_n C d5_findExcluded_52 rfl ?_
      refine g_main_11 C d5_findExcluded_53 f5_61 hN ?_
      refine r_iload_n C d5_findExcluded_56 rfl ?_
      refine r_iload_n C d5_findExcluded_57 rfl ?_
      refine r_iconst C d5_findExcluded_58 ?_
      obtain ⟨y10, h11, h⟩ := bd_of h
      suffices J12 : At G X cells slots 71 [(0, .ref (gB G + 0)), (1, vI x1)] [vI y10, vI x1, .ref (gB G + 74)] V by
        replace h := h11
        refine x_icmpne (tgt := 66) C d5_findExcluded_59 rfl (fun c7 => ?_) (fun c7 => ?_)
        · replace h := ite_p c7 h
          refine r_iconst C d5_findExcluded_62 ?_
          refine r_goto (tgt := 71) C d5_findExcluded_63 rfl ?_
          cases h
          exact AtH.sw J12 ⟨rfl, rfl, trivial⟩
        · replace h := ite_m c7 h
          refine r_aload_n C d5_findExcluded_66 rfl ?_
          refine r_iload_n C d5_findExcluded_67 rfl ?_
          obtain ⟨r9, h8, h⟩ := bd_of h
          refine cV1_i C M d5_findExcluded_68 l5_258 w5_bitOf (rc_main hN) (ev5_bitOf C.lt hN h8) rfl hc hs ?_
          cases h
          exact AtH.sw J12 ⟨rfl, rfl, trivial⟩
      refine x_iast C d5_findExcluded_71 (ra_excluded hN) c2 ?_
      refine r_iconst C d5_findExcluded_72 ?_
      refine x_istore hx C d5_findExcluded_73 rfl ?_
      obtain ⟨W21, h22, h⟩ := bd_of h
      refine AtH.sw (lp5_findExcluded_75 hN hx C M hc hs FU h22 ?_) ⟨rfl, rfl, rfl, trivial⟩
      refine x_iinc hx C d5_findExcluded_124 rfl rfl ?_
      refine r_goto (tgt := 2) C d5_findExcluded_127 rfl ?_
      exact AtH.sw (ih h K) ⟨rfl, rfl, trivial⟩
def f5_findExcluded (V : VV) : Option VV := bd (f5_findExcluded_L2 FU 0 V) (fun W23 => some W23)
theorem ev5_findExcluded {G : GT} {l : Launch} {V : VV} {V1 : VV} (hlt : l.stackTraces = false) (hN : 148 ≤ gN G) (h : f5_findExcluded V = some V1) : EvX G l y5_findExcluded b5_findExcluded 5 none 3 0 0 [.ref (gB G + 0)] V (.ok none) V1 := by
  refine ev_w hlt (by decide +kernel) rfl rfl (fun X hl hx C M => ?_)
  subst hl
  replace C : Cx G X "ChannelSchedule" b5_findExcluded := C
  unfold f5_findExcluded at h
  show At G X 0 0 0 [(0, .ref (gB G + 0))] [] V
  refine r_iconst C d5_findExcluded_0 ?_
  refine x_istore_n hx C d5_findExcluded_1 rfl ?_
  obtain ⟨W23, h24, h⟩ := bd_of h
  refine AtH.sw (lp5_findExcluded_2 hN hx C M (Nat.le_of_ble_eq_true rfl) (Nat.le_of_ble_eq_true rfl) FU h24 ?_) ⟨rfl, rfl, trivial⟩
  exact e_v C M d5_findExcluded_130 (Nat.le_of_ble_eq_true rfl) (Nat.le_of_ble_eq_true rfl) h
def f5_isSelection_L2 (V : VV) (x1 : Int) : Nat → Int → Option Int
  | 0, _ => none
  | n + 1, x2 => (if nrm (V (aP 0) 10) ≤ nrm x2 then some 1 else bd (f5_bitOf V x2) (fun r3 => (if nrm (aI x1 r3) = 0 then f5_isSelection_L2 V x1 n (x2 + 1) else ck ((0:Int) ≤ x2 ∧ x2 < 8) ((if nrm (aI x1 (V 74 (Int.toNat x2))) = 0 then f5_isSelection_L2 V x1 n (x2 + 1) else some 0)))))
theorem lp5_isSelection_2 {G : GT} {X : CT} {cells slots : Nat} {V : VV} (hN : 148 ≤ gN G) (hx : xN X = 3) (C : Cx G X "ChannelSchedule" b5_isSelection) {x1 : Int} : ∀ (n : Nat) {x2 : Int} {r : Int}, MX G X 1 0 0 (some .boolean) (.ok (some (vI r))) V → cells ≤ 0 → slots ≤ 0 → f5_isSelection_L2 V x1 n x2 = some r → At G X cells slots 2 [(0, .ref (gB G + 0)), (1, vI x1), (2, vI x2)] [] V := by
  intro n
  induction n with
  | zero => intro x2 r _ _ _ h; exact nomatch h
  | succ n ih =>
    intro x2 r M hc hs h
    rw [f5_isSelection_L2] at h
    refine r_iload_n C d5_isSelection_2 rfl ?_
    refine r_aload_n C d5_isSelection_3 rfl ?_
    refine g_main_4 C d5_isSelection_4 f5_36 hN ?_
    refine g_plan_10 C d5_isSelection_7 f5_231 hN p0 ?_
    refine x_icmpge (tgt := 42) C d5_isSelection_10 rfl (fun c1 => ?_) (fun c1 => ?_)
    · replace h := ite_p c1 h
      refine r_iconst C d5_isSelection_42 ?_
      exact e_z C M d5_isSelection_43 hc hs (Or.inr rfl) h
    · replace h := ite_m c1 h
      refine r_iload_n C d5_isSelection_13 rfl ?_
      refine r_aload_n C d5_isSelection_14 rfl ?_
      refine r_iload_n C d5_isSelection_15 rfl ?_
      obtain ⟨r3, h2, h⟩ := bd_of h
      refine cV1_i C M d5_isSelection_16 l5_258 w5_bitOf (rc_main hN) (ev5_bitOf C.lt hN h2) rfl hc hs ?_
      refine x_iand C d5_isSelection_19 ?_
      refine x_ifeq (tgt := 36) C d5_isSelection_20 rfl (fun c4 => ?_) (fun c4 => ?_)
      · replace h := ite_p c4 h
        refine x_iinc hx C d5_isSelection_36 rfl rfl ?_
        refine r_goto (tgt := 2) C d5_isSelection_39 rfl ?_
        exact AtH.sw (ih M hc hs h) ⟨rfl, rfl, rfl, trivial⟩
      · replace h := ite_m c4 h
        refine r_iload_n C d5_isSelection_23 rfl ?_
        refine r_aload_n C d5_isSelection_24 rfl ?_
        refine g_main_11 C d5_isSelection_25 f5_61 hN ?_
        refine r_iload_n C d5_isSelection_28 rfl ?_
        obtain ⟨c5, h⟩ := ck_of h
        refine x_iald C d5_isSelection_29 (ra_excluded hN) c5 ?_
        refine x_iand C d5_isSelection_30 ?_
        refine x_ifeq (tgt := 36) C d5_isSelection_31 rfl (fun c6 => ?_) (fun c6 => ?_)
        · replace h := ite_p c6 h
          refine x_iinc hx C d5_isSelection_36 rfl rfl ?_
          refine r_goto (tgt := 2) C d5_isSelection_39 rfl ?_
          exact AtH.sw (ih M hc hs h) ⟨rfl, rfl, rfl, trivial⟩
        · replace h := ite_m c6 h
          refine r_iconst C d5_isSelection_34 ?_
          exact e_z C M d5_isSelection_35 hc hs (Or.inl rfl) h
def f5_isSelection (V : VV) (x1 : Int) : Option Int := f5_isSelection_L2 V x1 FU 0
theorem ev5_isSelection {G : GT} {l : Launch} {V : VV} {x1 : Int} {r : Int} (hlt : l.stackTraces = false) (hN : 148 ≤ gN G) (h : f5_isSelection V x1 = some r) : EvX G l y5_isSelection b5_isSelection 3 (some .boolean) 1 0 0 [.ref (gB G + 0), vI x1] V (.ok (some (vI r))) V := by
  refine ev_w hlt (by decide +kernel) rfl rfl (fun X hl hx C M => ?_)
  subst hl
  replace C : Cx G X "ChannelSchedule" b5_isSelection := C
  unfold f5_isSelection at h
  show At G X 0 0 0 [(0, .ref (gB G + 0)), (1, vI x1)] [] V
  refine r_iconst C d5_isSelection_0 ?_
  refine x_istore_n hx C d5_isSelection_1 rfl ?_
  exact AtH.sw (lp5_isSelection_2 hN hx C FU M (Nat.le_of_ble_eq_true rfl) (Nat.le_of_ble_eq_true rfl) h) ⟨rfl, rfl, rfl, trivial⟩
def f5_valueOf_L4 (V : VV) (x1 : Int) : Nat → Int → Int → Option (Int)
  | 0, _, _ => none
  | n + 1, x2, x3 => (if nrm (V (aP 0) 10) ≤ nrm x3 then some x2 else bd (f5_bitOf V x3) (fun r3 => (if nrm (aI x1 r3) = 0 then f5_valueOf_L4 V x1 n x2 (x3 + 1) else ck ((V 0 2).toNat < 2) (ck ((0:Int) ≤ x3 ∧ x3 < 8) (ck ((0:Int) ≤ (V (aP 0 + 5) (Int.toNat x3)) ∧ (V (aP 0 + 5) (Int.toNat x3)) < 10) (f5_valueOf_L4 V x1 n (x2 + (V (aS ((V 0 2).toNat) + (2 + 2 * (Int.toNat (V (aP 0 + 5) (Int.toNat x3))))) 4)) (x3 + 1)))))))
theorem lp5_valueOf_4 {G : GT} {X : CT} {cells slots : Nat} {V : VV} (hN : 148 ≤ gN G) (hx : xN X = 4) (C : Cx G X "ChannelSchedule" b5_valueOf) {x1 : Int} {o0 : Except String (Option Value)} {V9 : VV} (M : MX G X 1 0 0 (some .int) o0 V9) (hc : cells ≤ 0) (hs : slots ≤ 0) : ∀ (n : Nat) {x2 : Int} {x3 : Int} {e2 : Int}, f5_valueOf_L4 V x1 n x2 x3 = some (e2) → At G X cells slots 54 [(2, vI e2)] [] V → At G X cells slots 4 [(0, .ref (gB G + 0)), (1, vI x1), (2, vI x2), (3, vI x3)] [] V := by
  intro n
  induction n with
  | zero => intro x2 x3 e2 h _; exact nomatch h
  | succ n ih =>
    intro x2 x3 e2 h K
    rw [f5_valueOf_L4] at h
    refine r_iload_n C d5_valueOf_4 rfl ?_
    refine r_aload_n C d5_valueOf_5 rfl ?_
    refine g_main_4 C d5_valueOf_6 f5_36 hN ?_
    refine g_plan_10 C d5_valueOf_9 f5_231 hN p0 ?_
    refine x_icmpge (tgt := 54) C d5_valueOf_12 rfl (fun c1 => ?_) (fun c1 => ?_)
    · replace h := ite_p c1 h
      cases h
      exact AtH.sw K ⟨rfl, trivial⟩
    · replace h := ite_m c1 h
      refine r_iload_n C d5_valueOf_15 rfl ?_
      refine r_aload_n C d5_valueOf_16 rfl ?_
      refine r_iload_n C d5_valueOf_17 rfl ?_
      obtain ⟨r3, h2, h⟩ := bd_of h
      refine cV1_i C M d5_valueOf_18 l5_258 w5_bitOf (rc_main hN) (ev5_bitOf C.lt hN h2) rfl hc hs ?_
      refine x_iand C d5_valueOf_21 ?_
      refine x_ifeq (tgt := 48) C d5_valueOf_22 rfl (fun c4 => ?_) (fun c4 => ?_)
      · replace h := ite_p c4 h
        refine x_iinc hx C d5_valueOf_48 rfl rfl ?_
        refine r_goto (tgt := 4) C d5_valueOf_51 rfl ?_
        exact AtH.sw (ih h K) ⟨rfl, rfl, rfl, rfl, trivial⟩
      · replace h := ite_m c4 h
        refine r_iload_n C d5_valueOf_25 rfl ?_
        refine r_aload_n C d5_valueOf_26 rfl ?_
        refine g_main_2 C d5_valueOf_27 f5_26 hN ?_
        obtain ⟨c5, h⟩ := ck_of h
        refine g_setup_4 C d5_valueOf_30 f5_143 hN c5 ?_
        refine r_aload_n C d5_valueOf_33 rfl ?_
        refine g_main_4 C d5_valueOf_34 f5_36 hN ?_
        refine g_plan_11 C d5_valueOf_37 f5_237 hN p0 ?_
        refine r_iload_n C d5_valueOf_40 rfl ?_
        obtain ⟨c6, h⟩ := ck_of h
        refine x_iald C d5_valueOf_41 (ra_plan5 hN p0) c6 ?_
        obtain ⟨c7, h⟩ := ck_of h
        refine x_ships C d5_valueOf_42 hN c5 c7 ?_
        refine g_ship_4 C d5_valueOf_43 f5_152 hN c5 (by omega : Int.toNat (V (aP 0 + 5) (Int.toNat x3)) < 10) ?_
        refine r_iadd C d5_valueOf_46 ?_
        refine x_istore_n hx C d5_valueOf_47 rfl ?_
        refine x_iinc hx C d5_valueOf_48 rfl rfl ?_
        refine r_goto (tgt := 4) C d5_valueOf_51 rfl ?_
        exact AtH.sw (ih h K) ⟨rfl, rfl, rfl, rfl, trivial⟩
def f5_valueOf (V : VV) (x1 : Int) : Option Int := bd (f5_valueOf_L4 V x1 FU 0 0) (fun y8 => some y8)
theorem ev5_valueOf {G : GT} {l : Launch} {V : VV} {x1 : Int} {r : Int} (hlt : l.stackTraces = false) (hN : 148 ≤ gN G) (h : f5_valueOf V x1 = some r) : EvX G l y5_valueOf b5_valueOf 4 (some .int) 1 0 0 [.ref (gB G + 0), vI x1] V (.ok (some (vI r))) V := by
  refine ev_w hlt (by decide +kernel) rfl rfl (fun X hl hx C M => ?_)
  subst hl
  replace C : Cx G X "ChannelSchedule" b5_valueOf := C
  unfold f5_valueOf at h
  show At G X 0 0 0 [(0, .ref (gB G + 0)), (1, vI x1)] [] V
  refine r_iconst C d5_valueOf_0 ?_
  refine x_istore_n hx C d5_valueOf_1 rfl ?_
  refine r_iconst C d5_valueOf_2 ?_
  refine x_istore_n hx C d5_valueOf_3 rfl ?_
  obtain ⟨y8, h9, h⟩ := bd_of h
  refine AtH.sw (lp5_valueOf_4 hN hx C M (Nat.le_of_ble_eq_true rfl) (Nat.le_of_ble_eq_true rfl) FU h9 ?_) ⟨rfl, rfl, rfl, rfl, trivial⟩
  refine r_iload_n C d5_valueOf_54 rfl ?_
  exact e_i C M d5_valueOf_55 (Nat.le_of_ble_eq_true rfl) (Nat.le_of_ble_eq_true rfl) h
def f5_bestSelection_L20 (V : VV) : Nat → Int → Int → Int → Option (Int)
  | 0, _, _, _ => none
  | n + 1, x1, x2, x3 => (if nrm x3 ≤ 0 then some x1 else bd (f5_isSelection V x3) (fun r5 => bd ((if nrm r5 = 0 then some (0) else bd (f5_valueOf V x3) (fun r8 => some (r8)))) (fun y9 => (if nrm y9 ≤ nrm x2 then f5_bestSelection_L20 V n x1 x2 (x3 + (-1)) else f5_bestSelection_L20 V n x3 y9 (x3 + (-1))))))
theorem lp5_bestSelection_20 {G : GT} {X : CT} {cells slots : Nat} {V : VV} (hN : 148 ≤ gN G) (hx : xN X = 5) (C : Cx G X "ChannelSchedule" b5_bestSelection) {o0 : Except String (Option Value)} {V9 : VV} (M : MX G X 4 0 0 (some .int) o0 V9) (hc : cells ≤ 0) (hs : slots ≤ 0) : ∀ (n : Nat) {x1 : Int} {x2 : Int} {x3 : Int} {e1 : Int}, f5_bestSelection_L20 V n x1 x2 x3 = some (e1) → At G X cells slots 60 [(1, vI e1)] [] V → At G X cells slots 20 [(0, .ref (gB G + 0)), (1, vI x1), (2, vI x2), (3, vI x3)] [] V := by
  intro n
  induction n with
  | zero => intro x1 x2 x3 e1 h _; exact nomatch h
  | succ n ih =>
    intro x1 x2 x3 e1 h K
    rw [f5_bestSelection_L20] at h
    refine r_iload_n C d5_bestSelection_20 rfl ?_
    refine x_ifle (tgt := 60) C d5_bestSelection_21 rfl (fun c3 => ?_) (fun c3 => ?_)
    · replace h := ite_p c3 h
      cases h
      exact AtH.sw K ⟨rfl, trivial⟩
    · replace h := ite_m c3 h
      refine r_aload_n C d5_bestSelection_24 rfl ?_
      refine r_iload_n C d5_bestSelection_25 rfl ?_
      obtain ⟨r5, h4, h⟩ := bd_of h
      refine cV1_i C M d5_bestSelection_26 l5_360 w5_isSelection (rc_main hN) (ev5_isSelection C.lt hN h4) rfl hc hs ?_
      obtain ⟨y9, h10, h⟩ := bd_of h
      suffices J11 : At G X cells slots 41 [(0, .ref (gB G + 0)), (1, vI x1), (2, vI x2), (3, vI x3)] [vI y9] V by
        replace h := h10
        refine x_ifeq (tgt := 40) C d5_bestSelection_29 rfl (fun c6 => ?_) (fun c6 => ?_)
        · replace h := ite_p c6 h
          refine r_iconst C d5_bestSelection_40 ?_
          cases h
          exact AtH.sw J11 ⟨rfl, rfl, rfl, rfl, trivial⟩
        · replace h := ite_m c6 h
          refine r_aload_n C d5_bestSelection_32 rfl ?_
          refine r_iload_n C d5_bestSelection_33 rfl ?_
          obtain ⟨r8, h7, h⟩ := bd_of h
          refine cV1_i C M d5_bestSelection_34 l5_255 w5_valueOf (rc_main hN) (ev5_valueOf C.lt hN h7) rfl hc hs ?_
          refine r_goto (tgt := 41) C d5_bestSelection_37 rfl ?_
          cases h
          exact AtH.sw J11 ⟨rfl, rfl, rfl, rfl, trivial⟩
      refine x_istore hx C d5_bestSelection_41 rfl ?_
      refine r_iload C d5_bestSelection_43 rfl ?_
      refine r_iload_n C d5_bestSelection_45 rfl ?_
      refine x_icmple (tgt := 54) C d5_bestSelection_46 rfl (fun c12 => ?_) (fun c12 => ?_)
      · replace h := ite_p c12 h
        refine x_iinc hx C d5_bestSelection_54 rfl rfl ?_
        refine r_goto (tgt := 20) C d5_bestSelection_57 rfl ?_
        exact AtH.sw (ih h K) ⟨rfl, rfl, rfl, rfl, trivial⟩
      · replace h := ite_m c12 h
        refine r_iload_n C d5_bestSelection_49 rfl ?_
        refine x_istore_n hx C d5_bestSelection_50 rfl ?_
        refine r_iload C d5_bestSelection_51 rfl ?_
        refine x_istore_n hx C d5_bestSelection_53 rfl ?_
        refine x_iinc hx C d5_bestSelection_54 rfl rfl ?_
        refine r_goto (tgt := 20) C d5_bestSelection_57 rfl ?_
        exact AtH.sw (ih h K) ⟨rfl, rfl, rfl, rfl, trivial⟩
def f5_bestSelection (V : VV) : Option (Int × VV) := bd (f5_findExcluded V) (fun W2 => bd (f5_bestSelection_L20 W2 FU 0 0 ((lI 1 (W2 (aP 0) 10)) - 1)) (fun y13 => some (y13, W2)))
theorem ev5_bestSelection {G : GT} {l : Launch} {V : VV} {r : Int} {V1 : VV} (hlt : l.stackTraces = false) (hN : 148 ≤ gN G) (h : f5_bestSelection V = some (r, V1)) : EvX G l y5_bestSelection b5_bestSelection 5 (some .int) 4 0 0 [.ref (gB G + 0)] V (.ok (some (vI r))) V1 := by
  refine ev_w hlt (by decide +kernel) rfl rfl (fun X hl hx C M => ?_)
  subst hl
  replace C : Cx G X "ChannelSchedule" b5_bestSelection := C
  unfold f5_bestSelection at h
  show At G X 0 0 0 [(0, .ref (gB G + 0))] [] V
  refine r_aload_n C d5_bestSelection_0 rfl ?_
  obtain ⟨W2, h1, h⟩ := bd_of h
  refine cV0_v C M d5_bestSelection_1 l5_357 w5_findExcluded (rc_main hN) (ev5_findExcluded C.lt hN h1) rfl (Nat.le_of_ble_eq_true rfl) (Nat.le_of_ble_eq_true rfl) ?_
  refine r_iconst C d5_bestSelection_4 ?_
  refine x_istore_n hx C d5_bestSelection_5 rfl ?_
  refine r_iconst C d5_bestSelection_6 ?_
  refine x_istore_n hx C d5_bestSelection_7 rfl ?_
  refine r_iconst C d5_bestSelection_8 ?_
  refine r_aload_n C d5_bestSelection_9 rfl ?_
  refine g_main_4 C d5_bestSelection_10 f5_36 hN ?_
  refine g_plan_10 C d5_bestSelection_13 f5_231 hN p0 ?_
  refine x_ishl C d5_bestSelection_16 ?_
  refine r_iconst C d5_bestSelection_17 ?_
  refine r_isub C d5_bestSelection_18 ?_
  refine x_istore_n hx C d5_bestSelection_19 rfl ?_
  obtain ⟨y13, h14, h⟩ := bd_of h
  refine AtH.sw (lp5_bestSelection_20 hN hx C M (Nat.le_of_ble_eq_true rfl) (Nat.le_of_ble_eq_true rfl) FU h14 ?_) ⟨rfl, rfl, rfl, rfl, trivial⟩
  refine r_iload_n C d5_bestSelection_60 rfl ?_
  exact e_iv C M d5_bestSelection_61 (Nat.le_of_ble_eq_true rfl) (Nat.le_of_ble_eq_true rfl) h
def f5_bestValue (V : VV) : Option (Int × VV) := bd2 (f5_bestSelection V) (fun r2 W3 => bd (f5_valueOf W3 r2) (fun r5 => some (r5, W3)))
theorem ev5_bestValue {G : GT} {l : Launch} {V : VV} {r : Int} {V1 : VV} (hlt : l.stackTraces = false) (hN : 148 ≤ gN G) (h : f5_bestValue V = some (r, V1)) : EvX G l y5_bestValue b5_bestValue 1 (some .int) 5 0 0 [.ref (gB G + 0)] V (.ok (some (vI r))) V1 := by
  refine ev_w hlt (by decide +kernel) rfl rfl (fun X hl hx C M => ?_)
  subst hl
  replace C : Cx G X "ChannelSchedule" b5_bestValue := C
  unfold f5_bestValue at h
  show At G X 0 0 0 [(0, .ref (gB G + 0))] [] V
  refine r_aload_n C d5_bestValue_0 rfl ?_
  refine r_aload_n C d5_bestValue_1 rfl ?_
  obtain ⟨r2, W3, h1, h⟩ := bd2_of h
  refine cV0_i C M d5_bestValue_2 l5_252 w5_bestSelection (rc_main hN) (ev5_bestSelection C.lt hN h1) rfl (Nat.le_of_ble_eq_true rfl) (Nat.le_of_ble_eq_true rfl) ?_
  obtain ⟨r5, h4, h⟩ := bd_of h
  refine cV1_i C M d5_bestValue_5 l5_255 w5_valueOf (rc_main hN) (ev5_valueOf C.lt hN h4) rfl (Nat.le_of_ble_eq_true rfl) (Nat.le_of_ble_eq_true rfl) ?_
  exact e_iv C M d5_bestValue_8 (Nat.le_of_ble_eq_true rfl) (Nat.le_of_ble_eq_true rfl) h
def f5_isSelected (V : VV) (x1 : Int) : Option (Except String Int × VV) := bd (f5_isRequest V x1) (fun r2 => if nrm r2 = 0 then some (.error "java/lang/IndexOutOfBoundsException", V) else bd2 (f5_bestSelection V) (fun r5 W6 => bd (f5_bitOf W6 x1) (fun r8 => (if nrm (aI r5 r8) = 0 then some (.ok 0, W6) else some (.ok 1, W6)))))
theorem ev5_isSelected {G : GT} {l : Launch} {V : VV} {x1 : Int} {e : Except String Int} {V1 : VV} (hlt : l.stackTraces = false) (hN : 148 ≤ gN G) (hX : gX G = false) (h : f5_isSelected V x1 = some (e, V1)) : EvX G l y5_isSelected b5_isSelected 2 (some .boolean) 7 1 6 [.ref (gB G + 0), vI x1] V (oX e) V1 := by
  refine ev_w hlt (by decide +kernel) rfl rfl (fun X hl hx C M => ?_)
  subst hl
  replace C : Cx G X "ChannelSchedule" b5_isSelected := C
  unfold f5_isSelected at h
  show At G X 0 0 0 [(0, .ref (gB G + 0)), (1, vI x1)] [] V
  refine r_aload_n C d5_isSelected_0 rfl ?_
  refine r_iload_n C d5_isSelected_1 rfl ?_
  obtain ⟨r2, h1, h⟩ := bd_of h
  refine cV1_i C M d5_isSelected_2 l5_234 w5_isRequest (rc_main hN) (ev5_isRequest C.lt hN h1) rfl (Nat.le_of_ble_eq_true rfl) (Nat.le_of_ble_eq_true rfl) ?_
  refine c_req C M d5_isSelected_5 l5_136 w5_requireIndex (ev5_requireIndex C.lt hX) rfl (Nat.le_of_ble_eq_true rfl) (Nat.le_of_ble_eq_true rfl) (fun c3 => e_thr (ite_p c3 h)) (fun c3 => ?_)
  replace h := ite_m c3 h
  refine r_aload_n C d5_isSelected_8 rfl ?_
  obtain ⟨r5, W6, h4, h⟩ := bd2_of h
  refine cV0_i C M d5_isSelected_9 l5_252 w5_bestSelection (rc_main hN) (ev5_bestSelection C.lt hN h4) rfl (Nat.le_of_ble_eq_true rfl) (Nat.le_of_ble_eq_true rfl) ?_
  refine r_aload_n C d5_isSelected_12 rfl ?_
  refine r_iload_n C d5_isSelected_13 rfl ?_
  obtain ⟨r8, h7, h⟩ := bd_of h
  refine cV1_i C M d5_isSelected_14 l5_258 w5_bitOf (rc_main hN) (ev5_bitOf C.lt hN h7) rfl (Nat.le_of_ble_eq_true rfl) (Nat.le_of_ble_eq_true rfl) ?_
  refine x_iand C d5_isSelected_17 ?_
  refine x_ifeq (tgt := 25) C d5_isSelected_18 rfl (fun c9 => ?_) (fun c9 => ?_)
  · replace h := ite_p c9 h
    refine r_iconst C d5_isSelected_25 ?_
    exact e_zt C M d5_isSelected_26 (Nat.le_of_ble_eq_true rfl) (Nat.le_of_ble_eq_true rfl) (Or.inl rfl) h
  · replace h := ite_m c9 h
    refine r_iconst C d5_isSelected_21 ?_
    refine r_goto (tgt := 26) C d5_isSelected_22 rfl ?_
    exact e_zt C M d5_isSelected_26 (Nat.le_of_ble_eq_true rfl) (Nat.le_of_ble_eq_true rfl) (Or.inr rfl) h
def f5_bookNow (V : VV) (x1 : Int) (x2 : Int) (x3 : Int) : Option (Int × VV) := bd (f5_transitOf V x1) (fun r2 => bd (f1_insertBooking V 0 x1 x2 x3 (x3 + r2)) (fun W4 => some (x3 + r2, up2 W4 (aP 0) 2 ((W4 (aP 0) 2) + 1))))
theorem ev5_bookNow {G : GT} {l : Launch} {V : VV} {x1 : Int} {x2 : Int} {x3 : Int} {r : Int} {V1 : VV} (hlt : l.stackTraces = false) (hN : 148 ≤ gN G) (h : f5_bookNow V x1 x2 x3 = some (r, V1)) : EvX G l y5_bookNow b5_bookNow 5 (some .int) 2 0 0 [.ref (gB G + 0), vI x1, vI x2, vI x3] V (.ok (some (vI r))) V1 := by
  refine ev_w hlt (by decide +kernel) rfl rfl (fun X hl hx C M => ?_)
  subst hl
  replace C : Cx G X "ChannelSchedule" b5_bookNow := C
  unfold f5_bookNow at h
  show At G X 0 0 0 [(0, .ref (gB G + 0)), (1, vI x1), (2, vI x2), (3, vI x3)] [] V
  refine r_iload_n C d5_bookNow_0 rfl ?_
  refine r_aload_n C d5_bookNow_1 rfl ?_
  refine r_iload_n C d5_bookNow_2 rfl ?_
  obtain ⟨r2, h1, h⟩ := bd_of h
  refine cV1_i C M d5_bookNow_3 l5_139 w5_transitOf (rc_main hN) (ev5_transitOf C.lt hN h1) rfl (Nat.le_of_ble_eq_true rfl) (Nat.le_of_ble_eq_true rfl) ?_
  refine r_iadd C d5_bookNow_6 ?_
  refine x_istore hx C d5_bookNow_7 rfl ?_
  refine r_aload_n C d5_bookNow_9 rfl ?_
  refine g_main_4 C d5_bookNow_10 f5_36 hN ?_
  refine r_iload_n C d5_bookNow_13 rfl ?_
  refine r_iload_n C d5_bookNow_14 rfl ?_
  refine r_iload_n C d5_bookNow_15 rfl ?_
  refine r_iload C d5_bookNow_16 rfl ?_
  obtain ⟨W4, h3, h⟩ := bd_of h
  refine cV4_v C M d5_bookNow_18 l5_366 w1_insertBooking (rc_plan hN p0) (ev1_insertBooking C.lt hN h3) rfl (Nat.le_of_ble_eq_true rfl) (Nat.le_of_ble_eq_true rfl) ?_
  refine r_aload_n C d5_bookNow_21 rfl ?_
  refine g_main_4 C d5_bookNow_22 f5_36 hN ?_
  refine r_dup C d5_bookNow_25 rfl ?_
  refine g_plan_2 C d5_bookNow_26 f5_268 hN p0 ?_
  refine r_iconst C d5_bookNow_29 ?_
  refine r_iadd C d5_bookNow_30 ?_
  refine p_plan_2 C d5_bookNow_31 f5_268 hN p0 ?_
  refine r_iload C d5_bookNow_34 rfl ?_
  exact e_iv C M d5_bookNow_36 (Nat.le_of_ble_eq_true rfl) (Nat.le_of_ble_eq_true rfl) h
def f5_serveWaiting_L12 : Nat → Int → Int → Int → VV → Option (Int × VV)
  | 0, _, _, _, _ => none
  | n + 1, x1, x2, x3, V => (if nrm x3 ≤ 0 then some (x1, V) else ck ((0:Int) ≤ x2 ∧ x2 < 8) (bd (f5_startToServe V (V (aP 0 + 5) (Int.toNat x2)) (V (aP 0 + 6) (Int.toNat x2)) (V (aP 0 + 7) (Int.toNat x2)) (V (aP 0 + 8) (Int.toNat x2))) (fun r4 => (if nrm r4 = nrm (-1) then f5_serveWaiting_L12 n x1 (x2 + 1) (x3 + (-1)) V else bd (f1_removeRequest V 0 x2) (fun W7 => bd2 (f5_bookNow W7 (V (aP 0 + 5) (Int.toNat x2)) (V (aP 0 + 6) (Int.toNat x2)) r4) (fun r9 W10 => f5_serveWaiting_L12 n (x1 + 1) x2 (x3 + (-1)) W10))))))
theorem lp5_serveWaiting_12 {G : GT} {X : CT} {cells slots : Nat} (hN : 148 ≤ gN G) (hx : xN X = 7) (C : Cx G X "ChannelSchedule" b5_serveWaiting) {o0 : Except String (Option Value)} {V9 : VV} (M : MX G X 3 0 0 (some .int) o0 V9) (hc : cells ≤ 0) (hs : slots ≤ 0) : ∀ (n : Nat) {x1 : Int} {x2 : Int} {x3 : Int} {V : VV} {e1 : Int} {W0 : VV}, f5_serveWaiting_L12 n x1 x2 x3 V = some (e1, W0) → At G X cells slots 106 [(0, .ref (gB G + 0)), (1, vI e1)] [] W0 → At G X cells slots 12 [(0, .ref (gB G + 0)), (1, vI x1), (2, vI x2), (3, vI x3)] [] V := by
  intro n
  induction n with
  | zero => intro x1 x2 x3 V e1 W0 h _; exact nomatch h
  | succ n ih =>
    intro x1 x2 x3 V e1 W0 h K
    rw [f5_serveWaiting_L12] at h
    refine r_iload_n C d5_serveWaiting_12 rfl ?_
    refine x_ifle (tgt := 106) C d5_serveWaiting_13 rfl (fun c1 => ?_) (fun c1 => ?_)
    · replace h := ite_p c1 h
      cases h
      exact AtH.sw K ⟨rfl, rfl, trivial⟩
    · replace h := ite_m c1 h
      refine r_aload_n C d5_serveWaiting_16 rfl ?_
      refine g_main_4 C d5_serveWaiting_17 f5_36 hN ?_
      refine g_plan_11 C d5_serveWaiting_20 f5_237 hN p0 ?_
      refine r_iload_n C d5_serveWaiting_23 rfl ?_
      obtain ⟨c2, h⟩ := ck_of h
      refine x_iald C d5_serveWaiting_24 (ra_plan5 hN p0) c2 ?_
      refine x_istore hx C d5_serveWaiting_25 rfl ?_
      refine r_aload_n C d5_serveWaiting_27 rfl ?_
      refine g_main_4 C d5_serveWaiting_28 f5_36 hN ?_
      refine g_plan_12 C d5_serveWaiting_31 f5_240 hN p0 ?_
      refine r_iload_n C d5_serveWaiting_34 rfl ?_
      refine x_zald C d5_serveWaiting_35 (ra_plan6 hN p0) c2 ?_
      refine x_istore hx C d5_serveWaiting_36 rfl ?_
      refine r_aload_n C d5_serveWaiting_38 rfl ?_
      refine r_iload C d5_serveWaiting_39 rfl ?_
      refine r_iload C d5_serveWaiting_41 rfl ?_
      refine r_aload_n C d5_serveWaiting_43 rfl ?_
      refine g_main_4 C d5_serveWaiting_44 f5_36 hN ?_
      refine g_plan_13 C d5_serveWaiting_47 f5_243 hN p0 ?_
      refine r_iload_n C d5_serveWaiting_50 rfl ?_
      refine x_iald C d5_serveWaiting_51 (ra_plan7 hN p0) c2 ?_
      refine r_aload_n C d5_serveWaiting_52 rfl ?_
      refine g_main_4 C d5_serveWaiting_53 f5_36 hN ?_
      refine g_plan_14 C d5_serveWaiting_56 f5_246 hN p0 ?_
      refine r_iload_n C d5_serveWaiting_59 rfl ?_
      refine x_iald C d5_serveWaiting_60 (ra_plan8 hN p0) c2 ?_
      obtain ⟨r4, h3, h⟩ := bd_of h
      refine cV4_i C M d5_serveWaiting_61 l5_354 w5_startToServe (rc_main hN) (ev5_startToServe C.lt hN h3) rfl hc hs ?_
      refine x_istore hx C d5_serveWaiting_64 rfl ?_
      refine r_iload C d5_serveWaiting_66 rfl ?_
      refine r_iconst C d5_serveWaiting_68 ?_
      refine x_icmpne (tgt := 78) C d5_serveWaiting_69 rfl (fun c5 => ?_) (fun c5 => ?_)
      · replace h := ite_p c5 h
        refine x_iinc hx C d5_serveWaiting_72 rfl rfl ?_
        refine r_goto (tgt := 100) C d5_serveWaiting_75 rfl ?_
        refine x_iinc hx C d5_serveWaiting_100 rfl rfl ?_
        refine r_goto (tgt := 12) C d5_serveWaiting_103 rfl ?_
        exact AtH.sw (ih h K) ⟨rfl, rfl, rfl, rfl, trivial⟩
      · replace h := ite_m c5 h
        refine r_aload_n C d5_serveWaiting_78 rfl ?_
        refine g_main_4 C d5_serveWaiting_79 f5_36 hN ?_
        refine r_iload_n C d5_serveWaiting_82 rfl ?_
        obtain ⟨W7, h6, h⟩ := bd_of h
        refine cV1_v C M d5_serveWaiting_83 l5_306 w1_removeRequest (rc_plan hN p0) (ev1_removeRequest C.lt hN h6) rfl hc hs ?_
        refine r_aload_n C d5_serveWaiting_86 rfl ?_
        refine r_iload C d5_serveWaiting_87 rfl ?_
        refine r_iload C d5_serveWaiting_89 rfl ?_
        refine r_iload C d5_serveWaiting_91 rfl ?_
        obtain ⟨r9, W10, h8, h⟩ := bd2_of h
        refine cV3_i C M d5_serveWaiting_93 l5_287 w5_bookNow (rc_main hN) (ev5_bookNow C.lt hN h8) rfl hc hs ?_
        refine r_pop C d5_serveWaiting_96 rfl ?_
        refine x_iinc hx C d5_serveWaiting_97 rfl rfl ?_
        refine x_iinc hx C d5_serveWaiting_100 rfl rfl ?_
        refine r_goto (tgt := 12) C d5_serveWaiting_103 rfl ?_
        exact AtH.sw (ih h K) ⟨rfl, rfl, rfl, rfl, trivial⟩
def f5_serveWaiting (V : VV) : Option (Int × VV) := bd2 (f5_serveWaiting_L12 FU 0 0 (V (aP 0) 10) V) (fun y11 W12 => some (y11, up2 W12 (aP 0) 4 ((W12 (aP 0) 4) + y11)))
theorem ev5_serveWaiting {G : GT} {l : Launch} {V : VV} {r : Int} {V1 : VV} (hlt : l.stackTraces = false) (hN : 148 ≤ gN G) (h : f5_serveWaiting V = some (r, V1)) : EvX G l y5_serveWaiting b5_serveWaiting 7 (some .int) 3 0 0 [.ref (gB G + 0)] V (.ok (some (vI r))) V1 := by
  refine ev_w hlt (by decide +kernel) rfl rfl (fun X hl hx C M => ?_)
  subst hl
  replace C : Cx G X "ChannelSchedule" b5_serveWaiting := C
  unfold f5_serveWaiting at h
  show At G X 0 0 0 [(0, .ref (gB G + 0))] [] V
  refine r_iconst C d5_serveWaiting_0 ?_
  refine x_istore_n hx C d5_serveWaiting_1 rfl ?_
  refine r_iconst C d5_serveWaiting_2 ?_
  refine x_istore_n hx C d5_serveWaiting_3 rfl ?_
  refine r_aload_n C d5_serveWaiting_4 rfl ?_
  refine g_main_4 C d5_serveWaiting_5 f5_36 hN ?_
  refine g_plan_10 C d5_serveWaiting_8 f5_231 hN p0 ?_
  refine x_istore_n hx C d5_serveWaiting_11 rfl ?_
  obtain ⟨y11, W12, h13, h⟩ := bd2_of h
  refine AtH.sw (lp5_serveWaiting_12 hN hx C M (Nat.le_of_ble_eq_true rfl) (Nat.le_of_ble_eq_true rfl) FU h13 ?_) ⟨rfl, rfl, rfl, rfl, trivial⟩
  refine r_aload_n C d5_serveWaiting_106 rfl ?_
  refine g_main_4 C d5_serveWaiting_107 f5_36 hN ?_
  refine r_dup C d5_serveWaiting_110 rfl ?_
  refine g_plan_4 C d5_serveWaiting_111 f5_274 hN p0 ?_
  refine r_iload_n C d5_serveWaiting_114 rfl ?_
  refine r_iadd C d5_serveWaiting_115 ?_
  refine p_plan_4 C d5_serveWaiting_116 f5_274 hN p0 ?_
  refine r_iload_n C d5_serveWaiting_119 rfl ?_
  exact e_iv C M d5_serveWaiting_120 (Nat.le_of_ble_eq_true rfl) (Nat.le_of_ble_eq_true rfl) h
def f5_cancelNow (V : VV) (x1 : Int) : Option (Int × VV) := bd (f1_removeBooking V 0 x1) (fun W2 => bd2 (f5_serveWaiting (up2 W2 (aP 0) 3 ((W2 (aP 0) 3) + 1))) (fun r4 W5 => some (r4, W5)))
theorem ev5_cancelNow {G : GT} {l : Launch} {V : VV} {x1 : Int} {r : Int} {V1 : VV} (hlt : l.stackTraces = false) (hN : 148 ≤ gN G) (h : f5_cancelNow V x1 = some (r, V1)) : EvX G l y5_cancelNow b5_cancelNow 2 (some .int) 4 0 0 [.ref (gB G + 0), vI x1] V (.ok (some (vI r))) V1 := by
  refine ev_w hlt (by decide +kernel) rfl rfl (fun X hl hx C M => ?_)
  subst hl
  replace C : Cx G X "ChannelSchedule" b5_cancelNow := C
  unfold f5_cancelNow at h
  show At G X 0 0 0 [(0, .ref (gB G + 0)), (1, vI x1)] [] V
  refine r_aload_n C d5_cancelNow_0 rfl ?_
  refine g_main_4 C d5_cancelNow_1 f5_36 hN ?_
  refine r_iload_n C d5_cancelNow_4 rfl ?_
  obtain ⟨W2, h1, h⟩ := bd_of h
  refine cV1_v C M d5_cancelNow_5 l5_373 w1_removeBooking (rc_plan hN p0) (ev1_removeBooking C.lt hN h1) rfl (Nat.le_of_ble_eq_true rfl) (Nat.le_of_ble_eq_true rfl) ?_
  refine r_aload_n C d5_cancelNow_8 rfl ?_
  refine g_main_4 C d5_cancelNow_9 f5_36 hN ?_
  refine r_dup C d5_cancelNow_12 rfl ?_
  refine g_plan_3 C d5_cancelNow_13 f5_271 hN p0 ?_
  refine r_iconst C d5_cancelNow_16 ?_
  refine r_iadd C d5_cancelNow_17 ?_
  refine p_plan_3 C d5_cancelNow_18 f5_271 hN p0 ?_
  refine r_aload_n C d5_cancelNow_21 rfl ?_
  obtain ⟨r4, W5, h3, h⟩ := bd2_of h
  refine cV0_i C M d5_cancelNow_22 l5_376 w5_serveWaiting (rc_main hN) (ev5_serveWaiting C.lt hN h3) rfl (Nat.le_of_ble_eq_true rfl) (Nat.le_of_ble_eq_true rfl) ?_
  exact e_iv C M d5_cancelNow_25 (Nat.le_of_ble_eq_true rfl) (Nat.le_of_ble_eq_true rfl) h
def f5_servedWithout (V : VV) (x1 : Int) : Option (Except String Int × VV) := bd (f5_isBooking V x1) (fun r2 => if nrm r2 = 0 then some (.error "java/lang/IndexOutOfBoundsException", V) else bd (f1_copyFrom V 1 0) (fun W5 => bd2 (f5_cancelNow W5 x1) (fun r7 W8 => bd (f1_copyFrom W8 0 1) (fun W10 => some (.ok r7, W10)))))
theorem ev5_servedWithout {G : GT} {l : Launch} {V : VV} {x1 : Int} {e : Except String Int} {V1 : VV} (hlt : l.stackTraces = false) (hN : 148 ≤ gN G) (hX : gX G = false) (h : f5_servedWithout V x1 = some (e, V1)) : EvX G l y5_servedWithout b5_servedWithout 3 (some .int) 7 1 6 [.ref (gB G + 0), vI x1] V (oX e) V1 := by
  refine ev_w hlt (by decide +kernel) rfl rfl (fun X hl hx C M => ?_)
  subst hl
  replace C : Cx G X "ChannelSchedule" b5_servedWithout := C
  unfold f5_servedWithout at h
  show At G X 0 0 0 [(0, .ref (gB G + 0)), (1, vI x1)] [] V
  refine r_aload_n C d5_servedWithout_0 rfl ?_
  refine r_iload_n C d5_servedWithout_1 rfl ?_
  obtain ⟨r2, h1, h⟩ := bd_of h
  refine cV1_i C M d5_servedWithout_2 l5_178 w5_isBooking (rc_main hN) (ev5_isBooking C.lt hN h1) rfl (Nat.le_of_ble_eq_true rfl) (Nat.le_of_ble_eq_true rfl) ?_
  refine c_req C M d5_servedWithout_5 l5_136 w5_requireIndex (ev5_requireIndex C.lt hX) rfl (Nat.le_of_ble_eq_true rfl) (Nat.le_of_ble_eq_true rfl) (fun c3 => e_thr (ite_p c3 h)) (fun c3 => ?_)
  replace h := ite_m c3 h
  refine r_aload_n C d5_servedWithout_8 rfl ?_
  refine g_main_5 C d5_servedWithout_9 f5_40 hN ?_
  refine r_aload_n C d5_servedWithout_12 rfl ?_
  refine g_main_4 C d5_servedWithout_13 f5_36 hN ?_
  obtain ⟨W5, h4, h⟩ := bd_of h
  refine cV1_v C M d5_servedWithout_16 l5_261 w1_copyFrom (rc_plan hN p1) (ev1_copyFrom C.lt hN h4) rfl (Nat.le_of_ble_eq_true rfl) (Nat.le_of_ble_eq_true rfl) ?_
  refine r_aload_n C d5_servedWithout_19 rfl ?_
  refine r_iload_n C d5_servedWithout_20 rfl ?_
  obtain ⟨r7, W8, h6, h⟩ := bd2_of h
  refine cV1_i C M d5_servedWithout_21 l5_265 w5_cancelNow (rc_main hN) (ev5_cancelNow C.lt hN h6) rfl (Nat.le_of_ble_eq_true rfl) (Nat.le_of_ble_eq_true rfl) ?_
  refine x_istore_n hx C d5_servedWithout_24 rfl ?_
  refine r_aload_n C d5_servedWithout_25 rfl ?_
  refine g_main_4 C d5_servedWithout_26 f5_36 hN ?_
  refine r_aload_n C d5_servedWithout_29 rfl ?_
  refine g_main_5 C d5_servedWithout_30 f5_40 hN ?_
  obtain ⟨W10, h9, h⟩ := bd_of h
  refine cV1_v C M d5_servedWithout_33 l5_261 w1_copyFrom (rc_plan hN p0) (ev1_copyFrom C.lt hN h9) rfl (Nat.le_of_ble_eq_true rfl) (Nat.le_of_ble_eq_true rfl) ?_
  refine r_iload_n C d5_servedWithout_36 rfl ?_
  exact e_it C M d5_servedWithout_37 (Nat.le_of_ble_eq_true rfl) (Nat.le_of_ble_eq_true rfl) h
def f5_feasibleStart (V : VV) (x1 : Int) : Option (Except String Int × VV) := bd (f5_isRequest V x1) (fun r2 => if nrm r2 = 0 then some (.error "java/lang/IndexOutOfBoundsException", V) else bd (f5_servingStart V x1) (fun r5 => some (.ok r5, V)))
theorem ev5_feasibleStart {G : GT} {l : Launch} {V : VV} {x1 : Int} {e : Except String Int} {V1 : VV} (hlt : l.stackTraces = false) (hN : 148 ≤ gN G) (hX : gX G = false) (h : f5_feasibleStart V x1 = some (e, V1)) : EvX G l y5_feasibleStart b5_feasibleStart 2 (some .int) 7 1 6 [.ref (gB G + 0), vI x1] V (oX e) V1 := by
  refine ev_w hlt (by decide +kernel) rfl rfl (fun X hl hx C M => ?_)
  subst hl
  replace C : Cx G X "ChannelSchedule" b5_feasibleStart := C
  unfold f5_feasibleStart at h
  show At G X 0 0 0 [(0, .ref (gB G + 0)), (1, vI x1)] [] V
  refine r_aload_n C d5_feasibleStart_0 rfl ?_
  refine r_iload_n C d5_feasibleStart_1 rfl ?_
  obtain ⟨r2, h1, h⟩ := bd_of h
  refine cV1_i C M d5_feasibleStart_2 l5_234 w5_isRequest (rc_main hN) (ev5_isRequest C.lt hN h1) rfl (Nat.le_of_ble_eq_true rfl) (Nat.le_of_ble_eq_true rfl) ?_
  refine c_req C M d5_feasibleStart_5 l5_136 w5_requireIndex (ev5_requireIndex C.lt hX) rfl (Nat.le_of_ble_eq_true rfl) (Nat.le_of_ble_eq_true rfl) (fun c3 => e_thr (ite_p c3 h)) (fun c3 => ?_)
  replace h := ite_m c3 h
  refine r_aload_n C d5_feasibleStart_8 rfl ?_
  refine r_iload_n C d5_feasibleStart_9 rfl ?_
  obtain ⟨r5, h4, h⟩ := bd_of h
  refine cV1_i C M d5_feasibleStart_10 l5_249 w5_servingStart (rc_main hN) (ev5_servingStart C.lt hN h4) rfl (Nat.le_of_ble_eq_true rfl) (Nat.le_of_ble_eq_true rfl) ?_
  exact e_it C M d5_feasibleStart_13 (Nat.le_of_ble_eq_true rfl) (Nat.le_of_ble_eq_true rfl) h
def f5_waitingWeight_L4 (V : VV) : Nat → Int → Int → Option (Int)
  | 0, _, _ => none
  | n + 1, x1, x2 => (if nrm (V (aP 0) 10) ≤ nrm x2 then some x1 else ck ((V 0 2).toNat < 2) (ck ((0:Int) ≤ x2 ∧ x2 < 8) (ck ((0:Int) ≤ (V (aP 0 + 5) (Int.toNat x2)) ∧ (V (aP 0 + 5) (Int.toNat x2)) < 10) (f5_waitingWeight_L4 V n (x1 + (V (aS ((V 0 2).toNat) + (2 + 2 * (Int.toNat (V (aP 0 + 5) (Int.toNat x2))))) 4)) (x2 + 1)))))
theorem lp5_waitingWeight_4 {G : GT} {X : CT} {cells slots : Nat} {V : VV} (hN : 148 ≤ gN G) (hx : xN X = 3) (C : Cx G X "ChannelSchedule" b5_waitingWeight) {o0 : Except String (Option Value)} {V9 : VV} (M : MX G X 0 0 0 (some .int) o0 V9) (hc : cells ≤ 0) (hs : slots ≤ 0) : ∀ (n : Nat) {x1 : Int} {x2 : Int} {e1 : Int}, f5_waitingWeight_L4 V n x1 x2 = some (e1) → At G X cells slots 44 [(1, vI e1)] [] V → At G X cells slots 4 [(0, .ref (gB G + 0)), (1, vI x1), (2, vI x2)] [] V := by
  intro n
  induction n with
  | zero => intro x1 x2 e1 h _; exact nomatch h
  | succ n ih =>
    intro x1 x2 e1 h K
    rw [f5_waitingWeight_L4] at h
    refine r_iload_n C d5_waitingWeight_4 rfl ?_
    refine r_aload_n C d5_waitingWeight_5 rfl ?_
    refine g_main_4 C d5_waitingWeight_6 f5_36 hN ?_
    refine g_plan_10 C d5_waitingWeight_9 f5_231 hN p0 ?_
    refine x_icmpge (tgt := 44) C d5_waitingWeight_12 rfl (fun c1 => ?_) (fun c1 => ?_)
    · replace h := ite_p c1 h
      cases h
      exact AtH.sw K ⟨rfl, trivial⟩
    · replace h := ite_m c1 h
      refine r_iload_n C d5_waitingWeight_15 rfl ?_
      refine r_aload_n C d5_waitingWeight_16 rfl ?_
      refine g_main_2 C d5_waitingWeight_17 f5_26 hN ?_
      obtain ⟨c2, h⟩ := ck_of h
      refine g_setup_4 C d5_waitingWeight_20 f5_143 hN c2 ?_
      refine r_aload_n C d5_waitingWeight_23 rfl ?_
      refine g_main_4 C d5_waitingWeight_24 f5_36 hN ?_
      refine g_plan_11 C d5_waitingWeight_27 f5_237 hN p0 ?_
      refine r_iload_n C d5_waitingWeight_30 rfl ?_
      obtain ⟨c3, h⟩ := ck_of h
      refine x_iald C d5_waitingWeight_31 (ra_plan5 hN p0) c3 ?_
      obtain ⟨c4, h⟩ := ck_of h
      refine x_ships C d5_waitingWeight_32 hN c2 c4 ?_
      refine g_ship_4 C d5_waitingWeight_33 f5_152 hN c2 (by omega : Int.toNat (V (aP 0 + 5) (Int.toNat x2)) < 10) ?_
      refine r_iadd C d5_waitingWeight_36 ?_
      refine x_istore_n hx C d5_waitingWeight_37 rfl ?_
      refine x_iinc hx C d5_waitingWeight_38 rfl rfl ?_
      refine r_goto (tgt := 4) C d5_waitingWeight_41 rfl ?_
      exact AtH.sw (ih h K) ⟨rfl, rfl, rfl, trivial⟩
def f5_waitingWeight (V : VV) : Option Int := bd (f5_waitingWeight_L4 V FU 0 0) (fun y5 => some y5)
theorem ev5_waitingWeight {G : GT} {l : Launch} {V : VV} {r : Int} (hlt : l.stackTraces = false) (hN : 148 ≤ gN G) (h : f5_waitingWeight V = some r) : EvX G l y5_waitingWeight b5_waitingWeight 3 (some .int) 0 0 0 [.ref (gB G + 0)] V (.ok (some (vI r))) V := by
  refine ev_w hlt (by decide +kernel) rfl rfl (fun X hl hx C M => ?_)
  subst hl
  replace C : Cx G X "ChannelSchedule" b5_waitingWeight := C
  unfold f5_waitingWeight at h
  show At G X 0 0 0 [(0, .ref (gB G + 0))] [] V
  refine r_iconst C d5_waitingWeight_0 ?_
  refine x_istore_n hx C d5_waitingWeight_1 rfl ?_
  refine r_iconst C d5_waitingWeight_2 ?_
  refine x_istore_n hx C d5_waitingWeight_3 rfl ?_
  obtain ⟨y5, h6, h⟩ := bd_of h
  refine AtH.sw (lp5_waitingWeight_4 hN hx C M (Nat.le_of_ble_eq_true rfl) (Nat.le_of_ble_eq_true rfl) FU h6 ?_) ⟨rfl, rfl, rfl, trivial⟩
  refine r_iload_n C d5_waitingWeight_44 rfl ?_
  exact e_i C M d5_waitingWeight_45 (Nat.le_of_ble_eq_true rfl) (Nat.le_of_ble_eq_true rfl) h
def f5_bookingsMade (V : VV) : Option Int := some (V (aP 0) 2)
theorem ev5_bookingsMade {G : GT} {l : Launch} {V : VV} {r : Int} (hlt : l.stackTraces = false) (hN : 148 ≤ gN G) (h : f5_bookingsMade V = some r) : EvX G l y5_bookingsMade b5_bookingsMade 1 (some .int) 0 0 0 [.ref (gB G + 0)] V (.ok (some (vI r))) V := by
  refine ev_w hlt (by decide +kernel) rfl rfl (fun X hl hx C M => ?_)
  subst hl
  replace C : Cx G X "ChannelSchedule" b5_bookingsMade := C
  unfold f5_bookingsMade at h
  show At G X 0 0 0 [(0, .ref (gB G + 0))] [] V
  refine r_aload_n C d5_bookingsMade_0 rfl ?_
  refine g_main_4 C d5_bookingsMade_1 f5_36 hN ?_
  refine g_plan_2 C d5_bookingsMade_4 f5_268 hN p0 ?_
  exact e_i C M d5_bookingsMade_7 (Nat.le_of_ble_eq_true rfl) (Nat.le_of_ble_eq_true rfl) h
def f5_bookingsCancelled (V : VV) : Option Int := some (V (aP 0) 3)
theorem ev5_bookingsCancelled {G : GT} {l : Launch} {V : VV} {r : Int} (hlt : l.stackTraces = false) (hN : 148 ≤ gN G) (h : f5_bookingsCancelled V = some r) : EvX G l y5_bookingsCancelled b5_bookingsCancelled 1 (some .int) 0 0 0 [.ref (gB G + 0)] V (.ok (some (vI r))) V := by
  refine ev_w hlt (by decide +kernel) rfl rfl (fun X hl hx C M => ?_)
  subst hl
  replace C : Cx G X "ChannelSchedule" b5_bookingsCancelled := C
  unfold f5_bookingsCancelled at h
  show At G X 0 0 0 [(0, .ref (gB G + 0))] [] V
  refine r_aload_n C d5_bookingsCancelled_0 rfl ?_
  refine g_main_4 C d5_bookingsCancelled_1 f5_36 hN ?_
  refine g_plan_3 C d5_bookingsCancelled_4 f5_271 hN p0 ?_
  exact e_i C M d5_bookingsCancelled_7 (Nat.le_of_ble_eq_true rfl) (Nat.le_of_ble_eq_true rfl) h
def f5_requestsServed (V : VV) : Option Int := some (V (aP 0) 4)
theorem ev5_requestsServed {G : GT} {l : Launch} {V : VV} {r : Int} (hlt : l.stackTraces = false) (hN : 148 ≤ gN G) (h : f5_requestsServed V = some r) : EvX G l y5_requestsServed b5_requestsServed 1 (some .int) 0 0 0 [.ref (gB G + 0)] V (.ok (some (vI r))) V := by
  refine ev_w hlt (by decide +kernel) rfl rfl (fun X hl hx C M => ?_)
  subst hl
  replace C : Cx G X "ChannelSchedule" b5_requestsServed := C
  unfold f5_requestsServed at h
  show At G X 0 0 0 [(0, .ref (gB G + 0))] [] V
  refine r_aload_n C d5_requestsServed_0 rfl ?_
  refine g_main_4 C d5_requestsServed_1 f5_36 hN ?_
  refine g_plan_4 C d5_requestsServed_4 f5_274 hN p0 ?_
  exact e_i C M d5_requestsServed_7 (Nat.le_of_ble_eq_true rfl) (Nat.le_of_ble_eq_true rfl) h
def f5_inconsistencies_L60 (V : VV) (x2 : Int) (x3 : Int) : Nat → Int → Int → Option (Int)
  | 0, _, _ => none
  | n + 1, x1, x4 => (if nrm x2 ≤ nrm x4 then some x1 else ck ((0:Int) ≤ x2 ∧ x2 < 20) (bd (f5_clashes V x4 (V (aP 0 + 2) (Int.toNat x2)) (V (aP 0 + 3) (Int.toNat x2)) x3) (fun r6 => (if nrm r6 = 0 then f5_inconsistencies_L60 V x2 x3 n x1 (x4 + 1) else f5_inconsistencies_L60 V x2 x3 n (x1 + 1) (x4 + 1)))))
theorem lp5_inconsistencies_60 {G : GT} {X : CT} {cells slots : Nat} {V : VV} (hN : 148 ≤ gN G) (hx : xN X = 5) (C : Cx G X "ChannelSchedule" b5_inconsistencies) {x2 : Int} {x3 : Int} {o0 : Except String (Option Value)} {V9 : VV} (M : MX G X 2 0 0 (some .int) o0 V9) (hc : cells ≤ 0) (hs : slots ≤ 0) : ∀ (n : Nat) {x1 : Int} {x4 : Int} {e1 : Int}, f5_inconsistencies_L60 V x2 x3 n x1 x4 = some (e1) → At G X cells slots 103 [(0, .ref (gB G + 0)), (1, vI e1), (2, vI x2)] [] V → At G X cells slots 60 [(0, .ref (gB G + 0)), (1, vI x1), (2, vI x2), (3, vI x3), (4, vI x4)] [] V := by
  intro n
  induction n with
  | zero => intro x1 x4 e1 h _; exact nomatch h
  | succ n ih =>
    intro x1 x4 e1 h K
    rw [f5_inconsistencies_L60] at h
    refine r_iload C d5_inconsistencies_60 rfl ?_
    refine r_iload_n C d5_inconsistencies_62 rfl ?_
    refine x_icmpge (tgt := 103) C d5_inconsistencies_63 rfl (fun c3 => ?_) (fun c3 => ?_)
    · replace h := ite_p c3 h
      cases h
      exact AtH.sw K ⟨rfl, rfl, rfl, trivial⟩
    · replace h := ite_m c3 h
      refine r_aload_n C d5_inconsistencies_66 rfl ?_
      refine r_iload C d5_inconsistencies_67 rfl ?_
      refine r_aload_n C d5_inconsistencies_69 rfl ?_
      refine g_main_4 C d5_inconsistencies_70 f5_36 hN ?_
      refine g_plan_7 C d5_inconsistencies_73 f5_189 hN p0 ?_
      refine r_iload_n C d5_inconsistencies_76 rfl ?_
      obtain ⟨c4, h⟩ := ck_of h
      refine x_zald C d5_inconsistencies_77 (ra_plan2 hN p0) c4 ?_
      refine r_aload_n C d5_inconsistencies_78 rfl ?_
      refine g_main_4 C d5_inconsistencies_79 f5_36 hN ?_
      refine g_plan_8 C d5_inconsistencies_82 f5_183 hN p0 ?_
      refine r_iload_n C d5_inconsistencies_85 rfl ?_
      refine x_iald C d5_inconsistencies_86 (ra_plan3 hN p0) c4 ?_
      refine r_iload_n C d5_inconsistencies_87 rfl ?_
      obtain ⟨r6, h5, h⟩ := bd_of h
      refine cV4_i C M d5_inconsistencies_88 l5_205 w5_clashes (rc_main hN) (ev5_clashes C.lt hN h5) rfl hc hs ?_
      refine x_ifeq (tgt := 97) C d5_inconsistencies_91 rfl (fun c7 => ?_) (fun c7 => ?_)
      · replace h := ite_p c7 h
        refine x_iinc hx C d5_inconsistencies_97 rfl rfl ?_
        refine r_goto (tgt := 60) C d5_inconsistencies_100 rfl ?_
        exact AtH.sw (ih h K) ⟨rfl, rfl, rfl, rfl, rfl, trivial⟩
      · replace h := ite_m c7 h
        refine x_iinc hx C d5_inconsistencies_94 rfl rfl ?_
        refine x_iinc hx C d5_inconsistencies_97 rfl rfl ?_
        refine r_goto (tgt := 60) C d5_inconsistencies_100 rfl ?_
        exact AtH.sw (ih h K) ⟨rfl, rfl, rfl, rfl, rfl, trivial⟩
def f5_inconsistencies_L26 (V : VV) : Nat → Int → Int → Option (Int)
  | 0, _, _ => none
  | n + 1, x1, x2 => (if nrm (V (aP 0) 5) ≤ nrm x2 then some x1 else ck ((0:Int) ≤ x2 ∧ x2 < 20) (bd (f5_inconsistencies_L60 V x2 ((V (aP 0 + 4) (Int.toNat x2)) - (V (aP 0 + 3) (Int.toNat x2))) FU x1 0) (fun y8 => f5_inconsistencies_L26 V n y8 (x2 + 1))))
theorem lp5_inconsistencies_26 {G : GT} {X : CT} {cells slots : Nat} {V : VV} (hN : 148 ≤ gN G) (hx : xN X = 5) (C : Cx G X "ChannelSchedule" b5_inconsistencies) {o0 : Except String (Option Value)} {V9 : VV} (M : MX G X 2 0 0 (some .int) o0 V9) (hc : cells ≤ 0) (hs : slots ≤ 0) : ∀ (n : Nat) {x1 : Int} {x2 : Int} {e1 : Int}, f5_inconsistencies_L26 V n x1 x2 = some (e1) → At G X cells slots 109 [(1, vI e1)] [] V → At G X cells slots 26 [(0, .ref (gB G + 0)), (1, vI x1), (2, vI x2)] [] V := by
  intro n
  induction n with
  | zero => intro x1 x2 e1 h _; exact nomatch h
  | succ n ih =>
    intro x1 x2 e1 h K
    rw [f5_inconsistencies_L26] at h
    refine r_iload_n C d5_inconsistencies_26 rfl ?_
    refine r_aload_n C d5_inconsistencies_27 rfl ?_
    refine g_main_4 C d5_inconsistencies_28 f5_36 hN ?_
    refine g_plan_5 C d5_inconsistencies_31 f5_175 hN p0 ?_
    refine x_icmpge (tgt := 109) C d5_inconsistencies_34 rfl (fun c1 => ?_) (fun c1 => ?_)
    · replace h := ite_p c1 h
      cases h
      exact AtH.sw K ⟨rfl, trivial⟩
    · replace h := ite_m c1 h
      refine r_aload_n C d5_inconsistencies_37 rfl ?_
      refine g_main_4 C d5_inconsistencies_38 f5_36 hN ?_
      refine g_plan_9 C d5_inconsistencies_41 f5_186 hN p0 ?_
      refine r_iload_n C d5_inconsistencies_44 rfl ?_
      obtain ⟨c2, h⟩ := ck_of h
      refine x_iald C d5_inconsistencies_45 (ra_plan4 hN p0) c2 ?_
      refine r_aload_n C d5_inconsistencies_46 rfl ?_
      refine g_main_4 C d5_inconsistencies_47 f5_36 hN ?_
      refine g_plan_8 C d5_inconsistencies_50 f5_183 hN p0 ?_
      refine r_iload_n C d5_inconsistencies_53 rfl ?_
      refine x_iald C d5_inconsistencies_54 (ra_plan3 hN p0) c2 ?_
      refine r_isub C d5_inconsistencies_55 ?_
      refine x_istore_n hx C d5_inconsistencies_56 rfl ?_
      refine r_iconst C d5_inconsistencies_57 ?_
      refine x_istore hx C d5_inconsistencies_58 rfl ?_
      obtain ⟨y8, h9, h⟩ := bd_of h
      refine AtH.sw (lp5_inconsistencies_60 hN hx C M hc hs FU h9 ?_) ⟨rfl, rfl, rfl, rfl, rfl, trivial⟩
      refine x_iinc hx C d5_inconsistencies_103 rfl rfl ?_
      refine r_goto (tgt := 26) C d5_inconsistencies_106 rfl ?_
      exact AtH.sw (ih h K) ⟨rfl, rfl, rfl, trivial⟩
def f5_inconsistencies (V : VV) : Option Int := bd (f5_inconsistencies_L26 V FU (((V (aP 0) 2) - (V (aP 0) 3)) - (V (aP 0) 5)) 0) (fun y10 => some y10)
theorem ev5_inconsistencies {G : GT} {l : Launch} {V : VV} {r : Int} (hlt : l.stackTraces = false) (hN : 148 ≤ gN G) (h : f5_inconsistencies V = some r) : EvX G l y5_inconsistencies b5_inconsistencies 5 (some .int) 2 0 0 [.ref (gB G + 0)] V (.ok (some (vI r))) V := by
  refine ev_w hlt (by decide +kernel) rfl rfl (fun X hl hx C M => ?_)
  subst hl
  replace C : Cx G X "ChannelSchedule" b5_inconsistencies := C
  unfold f5_inconsistencies at h
  show At G X 0 0 0 [(0, .ref (gB G + 0))] [] V
  refine r_aload_n C d5_inconsistencies_0 rfl ?_
  refine g_main_4 C d5_inconsistencies_1 f5_36 hN ?_
  refine g_plan_2 C d5_inconsistencies_4 f5_268 hN p0 ?_
  refine r_aload_n C d5_inconsistencies_7 rfl ?_
  refine g_main_4 C d5_inconsistencies_8 f5_36 hN ?_
  refine g_plan_3 C d5_inconsistencies_11 f5_271 hN p0 ?_
  refine r_isub C d5_inconsistencies_14 ?_
  refine r_aload_n C d5_inconsistencies_15 rfl ?_
  refine g_main_4 C d5_inconsistencies_16 f5_36 hN ?_
  refine g_plan_5 C d5_inconsistencies_19 f5_175 hN p0 ?_
  refine r_isub C d5_inconsistencies_22 ?_
  refine x_istore_n hx C d5_inconsistencies_23 rfl ?_
  refine r_iconst C d5_inconsistencies_24 ?_
  refine x_istore_n hx C d5_inconsistencies_25 rfl ?_
  obtain ⟨y10, h11, h⟩ := bd_of h
  refine AtH.sw (lp5_inconsistencies_26 hN hx C M (Nat.le_of_ble_eq_true rfl) (Nat.le_of_ble_eq_true rfl) FU h11 ?_) ⟨rfl, rfl, rfl, trivial⟩
  refine r_iload_n C d5_inconsistencies_109 rfl ?_
  exact e_i C M d5_inconsistencies_110 (Nat.le_of_ble_eq_true rfl) (Nat.le_of_ble_eq_true rfl) h
def f5_bookFault (V : VV) (x1 : Int) (x2 : Int) (x3 : Int) : Option Int := bd (f5_isShip V x1) (fun r2 => (if nrm r2 = 0 then some 1 else bd (f5_isWithin V x3 0 999) (fun r5 => (if nrm r5 = 0 then some 2 else bd ((if nrm x3 < nrm (V (aP 0) 1) then some (0) else (if nrm 20 ≤ nrm (V (aP 0) 5) then some (0) else bd (f5_transitOf V x1) (fun r10 => bd (f5_firstClash V x2 x3 r10 (-1)) (fun r12 => (if nrm r12 = nrm (-1) then some (1) else some (0))))))) (fun y14 => (if nrm y14 = 0 then some 3 else some 0))))))
theorem ev5_bookFault {G : GT} {l : Launch} {V : VV} {x1 : Int} {x2 : Int} {x3 : Int} {r : Int} (hlt : l.stackTraces = false) (hN : 148 ≤ gN G) (h : f5_bookFault V x1 x2 x3 = some r) : EvX G l y5_bookFault b5_bookFault 5 (some .int) 3 0 0 [.ref (gB G + 0), vI x1, vI x2, vI x3] V (.ok (some (vI r))) V := by
  refine ev_w hlt (by decide +kernel) rfl rfl (fun X hl hx C M => ?_)
  subst hl
  replace C : Cx G X "ChannelSchedule" b5_bookFault := C
  unfold f5_bookFault at h
  show At G X 0 0 0 [(0, .ref (gB G + 0)), (1, vI x1), (2, vI x2), (3, vI x3)] [] V
  refine r_aload_n C d5_bookFault_0 rfl ?_
  refine r_iload_n C d5_bookFault_1 rfl ?_
  obtain ⟨r2, h1, h⟩ := bd_of h
  refine cV1_i C M d5_bookFault_2 l5_132 w5_isShip (rc_main hN) (ev5_isShip C.lt hN h1) rfl (Nat.le_of_ble_eq_true rfl) (Nat.le_of_ble_eq_true rfl) ?_
  refine x_ifne (tgt := 10) C d5_bookFault_5 rfl (fun c3 => ?_) (fun c3 => ?_)
  · replace h := ite_p c3 h
    refine r_iconst C d5_bookFault_8 ?_
    exact e_i C M d5_bookFault_9 (Nat.le_of_ble_eq_true rfl) (Nat.le_of_ble_eq_true rfl) h
  · replace h := ite_m c3 h
    refine r_iload_n C d5_bookFault_10 rfl ?_
    refine r_iconst C d5_bookFault_11 ?_
    refine r_sipush C d5_bookFault_12 (by decide +kernel) ?_
    obtain ⟨r5, h4, h⟩ := bd_of h
    refine cS3_i C M d5_bookFault_15 l5_104 w5_isWithin (ev5_isWithin C.lt hN h4) rfl (Nat.le_of_ble_eq_true rfl) (Nat.le_of_ble_eq_true rfl) ?_
    refine x_ifne (tgt := 23) C d5_bookFault_18 rfl (fun c6 => ?_) (fun c6 => ?_)
    · replace h := ite_p c6 h
      refine r_iconst C d5_bookFault_21 ?_
      exact e_i C M d5_bookFault_22 (Nat.le_of_ble_eq_true rfl) (Nat.le_of_ble_eq_true rfl) h
    · replace h := ite_m c6 h
      refine r_iload_n C d5_bookFault_23 rfl ?_
      refine r_aload_n C d5_bookFault_24 rfl ?_
      refine g_main_4 C d5_bookFault_25 f5_36 hN ?_
      refine g_plan_1 C d5_bookFault_28 f5_129 hN p0 ?_
      obtain ⟨y14, h15, h⟩ := bd_of h
      suffices J16 : At G X 0 0 67 [] [vI y14] V by
        replace h := h15
        refine x_icmplt (tgt := 66) C d5_bookFault_31 rfl (fun c7 => ?_) (fun c7 => ?_)
        · replace h := ite_p c7 h
          refine r_iconst C d5_bookFault_66 ?_
          cases h
          exact AtH.sw J16 trivial
        · replace h := ite_m c7 h
          refine r_aload_n C d5_bookFault_34 rfl ?_
          refine g_main_4 C d5_bookFault_35 f5_36 hN ?_
          refine g_plan_5 C d5_bookFault_38 f5_175 hN p0 ?_
          refine r_bipush C d5_bookFault_41 (by decide +kernel) ?_
          refine x_icmpge (tgt := 66) C d5_bookFault_43 rfl (fun c8 => ?_) (fun c8 => ?_)
          · replace h := ite_p c8 h
            refine r_iconst C d5_bookFault_66 ?_
            cases h
            exact AtH.sw J16 trivial
          · replace h := ite_m c8 h
            refine r_aload_n C d5_bookFault_46 rfl ?_
            refine r_iload_n C d5_bookFault_47 rfl ?_
            refine r_iload_n C d5_bookFault_48 rfl ?_
            refine r_aload_n C d5_bookFault_49 rfl ?_
            refine r_iload_n C d5_bookFault_50 rfl ?_
            obtain ⟨r10, h9, h⟩ := bd_of h
            refine cV1_i C M d5_bookFault_51 l5_139 w5_transitOf (rc_main hN) (ev5_transitOf C.lt hN h9) rfl (Nat.le_of_ble_eq_true rfl) (Nat.le_of_ble_eq_true rfl) ?_
            refine r_iconst C d5_bookFault_54 ?_
            obtain ⟨r12, h11, h⟩ := bd_of h
            refine cV4_i C M d5_bookFault_55 l5_209 w5_firstClash (rc_main hN) (ev5_firstClash C.lt hN h11) rfl (Nat.le_of_ble_eq_true rfl) (Nat.le_of_ble_eq_true rfl) ?_
            refine r_iconst C d5_bookFault_58 ?_
            refine x_icmpne (tgt := 66) C d5_bookFault_59 rfl (fun c13 => ?_) (fun c13 => ?_)
            · replace h := ite_p c13 h
              refine r_iconst C d5_bookFault_62 ?_
              refine r_goto (tgt := 67) C d5_bookFault_63 rfl ?_
              cases h
              exact AtH.sw J16 trivial
            · replace h := ite_m c13 h
              refine r_iconst C d5_bookFault_66 ?_
              cases h
              exact AtH.sw J16 trivial
      refine x_istore hx C d5_bookFault_67 rfl ?_
      refine r_iload C d5_bookFault_69 rfl ?_
      refine x_ifeq (tgt := 78) C d5_bookFault_71 rfl (fun c17 => ?_) (fun c17 => ?_)
      · replace h := ite_p c17 h
        refine r_iconst C d5_bookFault_78 ?_
        exact e_i C M d5_bookFault_79 (Nat.le_of_ble_eq_true rfl) (Nat.le_of_ble_eq_true rfl) h
      · replace h := ite_m c17 h
        refine r_iconst C d5_bookFault_74 ?_
        refine r_goto (tgt := 79) C d5_bookFault_75 rfl ?_
        exact e_i C M d5_bookFault_79 (Nat.le_of_ble_eq_true rfl) (Nat.le_of_ble_eq_true rfl) h
def f5_remember (V : VV) : Option VV := bd ((if nrm (V 0 7) = nrm 5 then some (0) else some ((V 0 7) + 1))) (fun y2 => ck ((0:Int) ≤ ((up2 V 0 7 y2) 0 7) ∧ ((up2 V 0 7 y2) 0 7) < 6) (bd (f1_copyFrom (up2 V 0 7 y2) ((Int.toNat ((up2 V 0 7 y2) 0 7)) + 2) 0) (fun W7 => (if nrm 6 ≤ nrm (W7 0 8) then some W7 else some (up2 W7 0 8 ((W7 0 8) + 1))))))
theorem ev5_remember {G : GT} {l : Launch} {V : VV} {V1 : VV} (hlt : l.stackTraces = false) (hN : 148 ≤ gN G) (h : f5_remember V = some V1) : EvX G l y5_remember b5_remember 1 none 2 0 0 [.ref (gB G + 0)] V (.ok none) V1 := by
  refine ev_w hlt (by decide +kernel) rfl rfl (fun X hl hx C M => ?_)
  subst hl
  replace C : Cx G X "ChannelSchedule" b5_remember := C
  unfold f5_remember at h
  show At G X 0 0 0 [(0, .ref (gB G + 0))] [] V
  refine r_aload_n C d5_remember_0 rfl ?_
  refine r_aload_n C d5_remember_1 rfl ?_
  refine g_main_7 C d5_remember_2 f5_47 hN ?_
  refine r_iconst C d5_remember_5 ?_
  obtain ⟨y2, h3, h⟩ := bd_of h
  suffices J4 : At G X 0 0 19 [(0, .ref (gB G + 0))] [vI y2, .ref (gB G + 0)] V by
    replace h := h3
    refine x_icmpne (tgt := 13) C d5_remember_6 rfl (fun c1 => ?_) (fun c1 => ?_)
    · replace h := ite_p c1 h
      refine r_iconst C d5_remember_9 ?_
      refine r_goto (tgt := 19) C d5_remember_10 rfl ?_
      cases h
      exact AtH.sw J4 ⟨rfl, trivial⟩
    · replace h := ite_m c1 h
      refine r_aload_n C d5_remember_13 rfl ?_
      refine g_main_7 C d5_remember_14 f5_47 hN ?_
      refine r_iconst C d5_remember_17 ?_
      refine r_iadd C d5_remember_18 ?_
      cases h
      exact AtH.sw J4 ⟨rfl, trivial⟩
  refine p_main_7 C d5_remember_19 f5_47 hN ?_
  refine r_aload_n C d5_remember_22 rfl ?_
  refine g_main_6 C d5_remember_23 f5_43 hN ?_
  refine r_aload_n C d5_remember_26 rfl ?_
  refine g_main_7 C d5_remember_27 f5_47 hN ?_
  obtain ⟨c5, h⟩ := ck_of h
  refine x_past C d5_remember_30 hN c5 ?_
  refine r_aload_n C d5_remember_31 rfl ?_
  refine g_main_4 C d5_remember_32 f5_36 hN ?_
  obtain ⟨W7, h6, h⟩ := bd_of h
  refine cV1_v C M d5_remember_35 l5_261 w1_copyFrom (rc_plan hN (by omega : (Int.toNat ((up2 V 0 7 y2) 0 7)) + 2 < 10)) (ev1_copyFrom C.lt hN h6) rfl (Nat.le_of_ble_eq_true rfl) (Nat.le_of_ble_eq_true rfl) ?_
  refine r_aload_n C d5_remember_38 rfl ?_
  refine g_main_8 C d5_remember_39 f5_51 hN ?_
  refine r_bipush C d5_remember_42 (by decide +kernel) ?_
  refine x_icmpge (tgt := 57) C d5_remember_44 rfl (fun c8 => ?_) (fun c8 => ?_)
  · replace h := ite_p c8 h
    exact e_v C M d5_remember_57 (Nat.le_of_ble_eq_true rfl) (Nat.le_of_ble_eq_true rfl) h
  · replace h := ite_m c8 h
    refine r_aload_n C d5_remember_47 rfl ?_
    refine r_dup C d5_remember_48 rfl ?_
    refine g_main_8 C d5_remember_49 f5_51 hN ?_
    refine r_iconst C d5_remember_52 ?_
    refine r_iadd C d5_remember_53 ?_
    refine p_main_8 C d5_remember_54 f5_51 hN ?_
    exact e_v C M d5_remember_57 (Nat.le_of_ble_eq_true rfl) (Nat.le_of_ble_eq_true rfl) h
def f5_book (V : VV) (x1 : Int) (x2 : Int) (x3 : Int) : Option (Except String Int × VV) := bd (f5_bookFault V x1 x2 x3) (fun r2 => if nrm r2 = 1 then some (.error "java/lang/IndexOutOfBoundsException", V) else if nrm r2 = 2 then some (.error "java/lang/IllegalArgumentException", V) else if nrm r2 = 3 then some (.error "java/lang/IllegalStateException", V) else bd (f5_remember V) (fun W7 => bd2 (f5_bookNow W7 x1 x2 x3) (fun r9 W10 => some (.ok r9, W10))))
theorem ev5_book {G : GT} {l : Launch} {V : VV} {x1 : Int} {x2 : Int} {x3 : Int} {e : Except String Int} {V1 : VV} (hlt : l.stackTraces = false) (hN : 148 ≤ gN G) (hX : gX G = false) (h : f5_book V x1 x2 x3 = some (e, V1)) : EvX G l y5_book b5_book 4 (some .int) 8 3 18 [.ref (gB G + 0), vI x1, vI x2, vI x3] V (oX e) V1 := by
  refine ev_w hlt (by decide +kernel) rfl rfl (fun X hl hx C M => ?_)
  subst hl
  replace C : Cx G X "ChannelSchedule" b5_book := C
  unfold f5_book at h
  show At G X 0 0 0 [(0, .ref (gB G + 0)), (1, vI x1), (2, vI x2), (3, vI x3)] [] V
  refine r_aload_n C d5_book_0 rfl ?_
  refine r_iload_n C d5_book_1 rfl ?_
  refine r_iload_n C d5_book_2 rfl ?_
  refine r_iload_n C d5_book_3 rfl ?_
  obtain ⟨r2, h1, h⟩ := bd_of h
  refine cV3_i C M d5_book_4 l5_277 w5_bookFault (rc_main hN) (ev5_bookFault C.lt hN h1) rfl (Nat.le_of_ble_eq_true rfl) (Nat.le_of_ble_eq_true rfl) ?_
  refine c_ref C M d5_book_7 l5_281 w5_refuse (ev5_refuse C.lt hX) rfl (Nat.le_of_ble_eq_true rfl) (Nat.le_of_ble_eq_true rfl) (fun c => e_thr (ite_p c h)) (fun b c => e_thr (ite_p c (ite_m b h))) (fun a b c => e_thr (ite_p c (ite_m b (ite_m a h)))) (fun c3 c4 c5 => ?_)
  replace h := ite_m c5 (ite_m c4 (ite_m c3 h))
  refine r_aload_n C d5_book_10 rfl ?_
  obtain ⟨W7, h6, h⟩ := bd_of h
  refine cV0_v C M d5_book_11 l5_284 w5_remember (rc_main hN) (ev5_remember C.lt hN h6) rfl (Nat.le_of_ble_eq_true rfl) (Nat.le_of_ble_eq_true rfl) ?_
  refine r_aload_n C d5_book_14 rfl ?_
  refine r_iload_n C d5_book_15 rfl ?_
  refine r_iload_n C d5_book_16 rfl ?_
  refine r_iload_n C d5_book_17 rfl ?_
  obtain ⟨r9, W10, h8, h⟩ := bd2_of h
  refine cV3_i C M d5_book_18 l5_287 w5_bookNow (rc_main hN) (ev5_bookNow C.lt hN h8) rfl (Nat.le_of_ble_eq_true rfl) (Nat.le_of_ble_eq_true rfl) ?_
  exact e_it C M d5_book_21 (Nat.le_of_ble_eq_true rfl) (Nat.le_of_ble_eq_true rfl) h
def f5_requestFault (V : VV) (x1 : Int) (x2 : Int) (x3 : Int) (x4 : Int) : Option Int := bd (f5_isShip V x1) (fun r2 => (if nrm r2 = 0 then some 1 else bd (f5_isWithin V x3 0 999) (fun r5 => (if nrm r5 = 0 then some 2 else bd (f5_isWithin V x4 x3 999) (fun r8 => (if nrm r8 = 0 then some 2 else bd ((if nrm (V (aP 0) 10) < nrm 8 then some (1) else bd (f5_startToServe V x1 x2 x3 x4) (fun r12 => (if nrm r12 = nrm (-1) then some (0) else some (1))))) (fun y14 => (if nrm y14 = 0 then some 3 else some 0))))))))
theorem ev5_requestFault {G : GT} {l : Launch} {V : VV} {x1 : Int} {x2 : Int} {x3 : Int} {x4 : Int} {r : Int} (hlt : l.stackTraces = false) (hN : 148 ≤ gN G) (h : f5_requestFault V x1 x2 x3 x4 = some r) : EvX G l y5_requestFault b5_requestFault 6 (some .int) 3 0 0 [.ref (gB G + 0), vI x1, vI x2, vI x3, vI x4] V (.ok (some (vI r))) V := by
  refine ev_w hlt (by decide +kernel) rfl rfl (fun X hl hx C M => ?_)
  subst hl
  replace C : Cx G X "ChannelSchedule" b5_requestFault := C
  unfold f5_requestFault at h
  show At G X 0 0 0 [(0, .ref (gB G + 0)), (1, vI x1), (2, vI x2), (3, vI x3), (4, vI x4)] [] V
  refine r_aload_n C d5_requestFault_0 rfl ?_
  refine r_iload_n C d5_requestFault_1 rfl ?_
  obtain ⟨r2, h1, h⟩ := bd_of h
  refine cV1_i C M d5_requestFault_2 l5_132 w5_isShip (rc_main hN) (ev5_isShip C.lt hN h1) rfl (Nat.le_of_ble_eq_true rfl) (Nat.le_of_ble_eq_true rfl) ?_
  refine x_ifne (tgt := 10) C d5_requestFault_5 rfl (fun c3 => ?_) (fun c3 => ?_)
  · replace h := ite_p c3 h
    refine r_iconst C d5_requestFault_8 ?_
    exact e_i C M d5_requestFault_9 (Nat.le_of_ble_eq_true rfl) (Nat.le_of_ble_eq_true rfl) h
  · replace h := ite_m c3 h
    refine r_iload_n C d5_requestFault_10 rfl ?_
    refine r_iconst C d5_requestFault_11 ?_
    refine r_sipush C d5_requestFault_12 (by decide +kernel) ?_
    obtain ⟨r5, h4, h⟩ := bd_of h
    refine cS3_i C M d5_requestFault_15 l5_104 w5_isWithin (ev5_isWithin C.lt hN h4) rfl (Nat.le_of_ble_eq_true rfl) (Nat.le_of_ble_eq_true rfl) ?_
    refine x_ifeq (tgt := 33) C d5_requestFault_18 rfl (fun c6 => ?_) (fun c6 => ?_)
    · replace h := ite_p c6 h
      refine r_iconst C d5_requestFault_33 ?_
      exact e_i C M d5_requestFault_34 (Nat.le_of_ble_eq_true rfl) (Nat.le_of_ble_eq_true rfl) h
    · replace h := ite_m c6 h
      refine r_iload C d5_requestFault_21 rfl ?_
      refine r_iload_n C d5_requestFault_23 rfl ?_
      refine r_sipush C d5_requestFault_24 (by decide +kernel) ?_
      obtain ⟨r8, h7, h⟩ := bd_of h
      refine cS3_i C M d5_requestFault_27 l5_104 w5_isWithin (ev5_isWithin C.lt hN h7) rfl (Nat.le_of_ble_eq_true rfl) (Nat.le_of_ble_eq_true rfl) ?_
      refine x_ifne (tgt := 35) C d5_requestFault_30 rfl (fun c9 => ?_) (fun c9 => ?_)
      · replace h := ite_p c9 h
        refine r_iconst C d5_requestFault_33 ?_
        exact e_i C M d5_requestFault_34 (Nat.le_of_ble_eq_true rfl) (Nat.le_of_ble_eq_true rfl) h
      · replace h := ite_m c9 h
        refine r_aload_n C d5_requestFault_35 rfl ?_
        refine g_main_4 C d5_requestFault_36 f5_36 hN ?_
        refine g_plan_10 C d5_requestFault_39 f5_231 hN p0 ?_
        refine r_bipush C d5_requestFault_42 (by decide +kernel) ?_
        obtain ⟨y14, h15, h⟩ := bd_of h
        suffices J16 : At G X 0 0 65 [] [vI y14] V by
          replace h := h15
          refine x_icmplt (tgt := 60) C d5_requestFault_44 rfl (fun c10 => ?_) (fun c10 => ?_)
          · replace h := ite_p c10 h
            refine r_iconst C d5_requestFault_60 ?_
            refine r_goto (tgt := 65) C d5_requestFault_61 rfl ?_
            cases h
            exact AtH.sw J16 trivial
          · replace h := ite_m c10 h
            refine r_aload_n C d5_requestFault_47 rfl ?_
            refine r_iload_n C d5_requestFault_48 rfl ?_
            refine r_iload_n C d5_requestFault_49 rfl ?_
            refine r_iload_n C d5_requestFault_50 rfl ?_
            refine r_iload C d5_requestFault_51 rfl ?_
            obtain ⟨r12, h11, h⟩ := bd_of h
            refine cV4_i C M d5_requestFault_53 l5_354 w5_startToServe (rc_main hN) (ev5_startToServe C.lt hN h11) rfl (Nat.le_of_ble_eq_true rfl) (Nat.le_of_ble_eq_true rfl) ?_
            refine r_iconst C d5_requestFault_56 ?_
            refine x_icmpeq (tgt := 64) C d5_requestFault_57 rfl (fun c13 => ?_) (fun c13 => ?_)
            · replace h := ite_p c13 h
              refine r_iconst C d5_requestFault_64 ?_
              cases h
              exact AtH.sw J16 trivial
            · replace h := ite_m c13 h
              refine r_iconst C d5_requestFault_60 ?_
              refine r_goto (tgt := 65) C d5_requestFault_61 rfl ?_
              cases h
              exact AtH.sw J16 trivial
        refine x_istore hx C d5_requestFault_65 rfl ?_
        refine r_iload C d5_requestFault_67 rfl ?_
        refine x_ifeq (tgt := 76) C d5_requestFault_69 rfl (fun c17 => ?_) (fun c17 => ?_)
        · replace h := ite_p c17 h
          refine r_iconst C d5_requestFault_76 ?_
          exact e_i C M d5_requestFault_77 (Nat.le_of_ble_eq_true rfl) (Nat.le_of_ble_eq_true rfl) h
        · replace h := ite_m c17 h
          refine r_iconst C d5_requestFault_72 ?_
          refine r_goto (tgt := 77) C d5_requestFault_73 rfl ?_
          exact e_i C M d5_requestFault_77 (Nat.le_of_ble_eq_true rfl) (Nat.le_of_ble_eq_true rfl) h
