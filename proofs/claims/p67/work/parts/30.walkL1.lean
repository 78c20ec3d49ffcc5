/-! walks of the law and its own class, 1 (printed by walk.py) -/
def fL_conflict (V : VV) (x1 : Int) (x2 : Int) (x3 : Int) (x4 : Int) (x5 : Int) (x6 : Int) : Option Int := bd ((if nrm x5 ≤ nrm x2 then some (0) else some (1))) (fun y2 => bd ((if nrm y2 = 0 then some (x2 - x5) else some (x5 - x2))) (fun y6 => (if nrm y6 = 0 then some 1 else (if nrm x1 = nrm x4 then bd ((if nrm y2 = 0 then some (x3 - x6) else some (x6 - x3))) (fun y12 => bd (f5_headway V) (fun r16 => (if nrm y6 < nrm r16 then some 1 else bd (f5_headway V) (fun r19 => (if nrm r19 ≤ nrm y12 then some 0 else some 1))))) else bd ((if nrm y2 = 0 then some (x2 - x6) else some (x5 - x3))) (fun y22 => bd (f5_clearance V) (fun r26 => (if nrm r26 ≤ nrm y22 then some 0 else some 1)))))))
theorem evL_conflict {G : GT} {l : Launch} {V : VV} {x1 : Int} {x2 : Int} {x3 : Int} {x4 : Int} {x5 : Int} {x6 : Int} {r : Int} (hlt : l.stackTraces = false) (hN : 148 ≤ gN G) (h : fL_conflict V x1 x2 x3 x4 x5 x6 = some r) : EvX G l yL_conflict bL_conflict 10 (some .boolean) 1 0 0 [.ref (gB G + 0), vI x1, vI x2, vI x3, vI x4, vI x5, vI x6] V (.ok (some (vI r))) V := by
  refine ev_w hlt (by decide +kernel) rfl rfl (fun X hl hx C M => ?_)
  subst hl
  replace C : Cx G X "ChannelScheduleLaw" bL_conflict := C
  unfold fL_conflict at h
  show At G X 0 0 0 [(0, .ref (gB G + 0)), (1, vI x1), (2, vI x2), (3, vI x3), (4, vI x4), (5, vI x5), (6, vI x6)] [] V
  refine r_iload_n C dL_conflict_0 rfl ?_
  refine r_iload C dL_conflict_1 rfl ?_
  obtain ⟨y2, h3, h⟩ := bd_of h
  suffices J4 : At G X 0 0 11 [(0, .ref (gB G + 0)), (1, vI x1), (2, vI x2), (3, vI x3), (4, vI x4), (5, vI x5), (6, vI x6)] [vI y2] V by
    replace h := h3
    refine x_icmpge (tgt := 10) C dL_conflict_3 rfl (fun c1 => ?_) (fun c1 => ?_)
    · replace h := ite_p c1 h
      refine r_iconst C dL_conflict_10 ?_
      cases h
      exact AtH.sw J4 ⟨rfl, rfl, rfl, rfl, rfl, rfl, rfl, trivial⟩
    · replace h := ite_m c1 h
      refine r_iconst C dL_conflict_6 ?_
      refine r_goto (tgt := 11) C dL_conflict_7 rfl ?_
      cases h
      exact AtH.sw J4 ⟨rfl, rfl, rfl, rfl, rfl, rfl, rfl, trivial⟩
  refine x_istore hx C dL_conflict_11 rfl ?_
  refine r_iload C dL_conflict_13 rfl ?_
  obtain ⟨y6, h7, h⟩ := bd_of h
  suffices J8 : At G X 0 0 29 [(0, .ref (gB G + 0)), (1, vI x1), (2, vI x2), (3, vI x3), (4, vI x4), (5, vI x5), (6, vI x6), (7, vI y2)] [vI y6] V by
    replace h := h7
    refine x_ifeq (tgt := 25) C dL_conflict_15 rfl (fun c5 => ?_) (fun c5 => ?_)
    · replace h := ite_p c5 h
      refine r_iload_n C dL_conflict_25 rfl ?_
      refine r_iload C dL_conflict_26 rfl ?_
      refine r_isub C dL_conflict_28 ?_
      cases h
      exact AtH.sw J8 ⟨rfl, rfl, rfl, rfl, rfl, rfl, rfl, rfl, trivial⟩
    · replace h := ite_m c5 h
      refine r_iload C dL_conflict_18 rfl ?_
      refine r_iload_n C dL_conflict_20 rfl ?_
      refine r_isub C dL_conflict_21 ?_
      refine r_goto (tgt := 29) C dL_conflict_22 rfl ?_
      cases h
      exact AtH.sw J8 ⟨rfl, rfl, rfl, rfl, rfl, rfl, rfl, rfl, trivial⟩
  refine x_istore hx C dL_conflict_29 rfl ?_
  refine r_iload C dL_conflict_31 rfl ?_
  refine x_ifne (tgt := 38) C dL_conflict_33 rfl (fun c9 => ?_) (fun c9 => ?_)
  · replace h := ite_p c9 h
    refine r_iconst C dL_conflict_36 ?_
    exact e_z C M dL_conflict_37 (Nat.le_of_ble_eq_true rfl) (Nat.le_of_ble_eq_true rfl) (Or.inr rfl) h
  · replace h := ite_m c9 h
    refine r_iload_n C dL_conflict_38 rfl ?_
    refine r_iload C dL_conflict_39 rfl ?_
    refine x_icmpne (tgt := 86) C dL_conflict_41 rfl (fun c10 => ?_) (fun c10 => ?_)
    · replace h := ite_p c10 h
      refine r_iload C dL_conflict_44 rfl ?_
      obtain ⟨y12, h13, h⟩ := bd_of h
      suffices J14 : At G X 0 0 60 [(0, .ref (gB G + 0)), (8, vI y6)] [vI y12] V by
        replace h := h13
        refine x_ifeq (tgt := 56) C dL_conflict_46 rfl (fun c11 => ?_) (fun c11 => ?_)
        · replace h := ite_p c11 h
          refine r_iload_n C dL_conflict_56 rfl ?_
          refine r_iload C dL_conflict_57 rfl ?_
          refine r_isub C dL_conflict_59 ?_
          cases h
          exact AtH.sw J14 ⟨rfl, rfl, trivial⟩
        · replace h := ite_m c11 h
          refine r_iload C dL_conflict_49 rfl ?_
          refine r_iload_n C dL_conflict_51 rfl ?_
          refine r_isub C dL_conflict_52 ?_
          refine r_goto (tgt := 60) C dL_conflict_53 rfl ?_
          cases h
          exact AtH.sw J14 ⟨rfl, rfl, trivial⟩
      refine x_istore hx C dL_conflict_60 rfl ?_
      refine r_iload C dL_conflict_62 rfl ?_
      refine r_aload_n C dL_conflict_64 rfl ?_
      obtain ⟨r16, h15, h⟩ := bd_of h
      refine cV0_i C M dL_conflict_65 lL_61 w5_headway (rc_main hN) (ev5_headway C.lt hN h15) rfl (Nat.le_of_ble_eq_true rfl) (Nat.le_of_ble_eq_true rfl) ?_
      refine x_icmplt (tgt := 80) C dL_conflict_68 rfl (fun c17 => ?_) (fun c17 => ?_)
      · replace h := ite_p c17 h
        refine r_iconst C dL_conflict_80 ?_
        refine r_goto (tgt := 85) C dL_conflict_81 rfl ?_
        exact e_z C M dL_conflict_85 (Nat.le_of_ble_eq_true rfl) (Nat.le_of_ble_eq_true rfl) (Or.inr rfl) h
      · replace h := ite_m c17 h
        refine r_iload C dL_conflict_71 rfl ?_
        refine r_aload_n C dL_conflict_73 rfl ?_
        obtain ⟨r19, h18, h⟩ := bd_of h
        refine cV0_i C M dL_conflict_74 lL_61 w5_headway (rc_main hN) (ev5_headway C.lt hN h18) rfl (Nat.le_of_ble_eq_true rfl) (Nat.le_of_ble_eq_true rfl) ?_
        refine x_icmpge (tgt := 84) C dL_conflict_77 rfl (fun c20 => ?_) (fun c20 => ?_)
        · replace h := ite_p c20 h
          refine r_iconst C dL_conflict_84 ?_
          exact e_z C M dL_conflict_85 (Nat.le_of_ble_eq_true rfl) (Nat.le_of_ble_eq_true rfl) (Or.inl rfl) h
        · replace h := ite_m c20 h
          refine r_iconst C dL_conflict_80 ?_
          refine r_goto (tgt := 85) C dL_conflict_81 rfl ?_
          exact e_z C M dL_conflict_85 (Nat.le_of_ble_eq_true rfl) (Nat.le_of_ble_eq_true rfl) (Or.inr rfl) h
    · replace h := ite_m c10 h
      refine r_iload C dL_conflict_86 rfl ?_
      obtain ⟨y22, h23, h⟩ := bd_of h
      suffices J24 : At G X 0 0 102 [(0, .ref (gB G + 0))] [vI y22] V by
        replace h := h23
        refine x_ifeq (tgt := 98) C dL_conflict_88 rfl (fun c21 => ?_) (fun c21 => ?_)
        · replace h := ite_p c21 h
          refine r_iload_n C dL_conflict_98 rfl ?_
          refine r_iload C dL_conflict_99 rfl ?_
          refine r_isub C dL_conflict_101 ?_
          cases h
          exact AtH.sw J24 ⟨rfl, trivial⟩
        · replace h := ite_m c21 h
          refine r_iload C dL_conflict_91 rfl ?_
          refine r_iload_n C dL_conflict_93 rfl ?_
          refine r_isub C dL_conflict_94 ?_
          refine r_goto (tgt := 102) C dL_conflict_95 rfl ?_
          cases h
          exact AtH.sw J24 ⟨rfl, trivial⟩
      refine r_aload_n C dL_conflict_102 rfl ?_
      obtain ⟨r26, h25, h⟩ := bd_of h
      refine cV0_i C M dL_conflict_103 lL_64 w5_clearance (rc_main hN) (ev5_clearance C.lt hN h25) rfl (Nat.le_of_ble_eq_true rfl) (Nat.le_of_ble_eq_true rfl) ?_
      refine x_icmpge (tgt := 113) C dL_conflict_106 rfl (fun c27 => ?_) (fun c27 => ?_)
      · replace h := ite_p c27 h
        refine r_iconst C dL_conflict_113 ?_
        exact e_z C M dL_conflict_114 (Nat.le_of_ble_eq_true rfl) (Nat.le_of_ble_eq_true rfl) (Or.inl rfl) h
      · replace h := ite_m c27 h
        refine r_iconst C dL_conflict_109 ?_
        refine r_goto (tgt := 114) C dL_conflict_110 rfl ?_
        exact e_z C M dL_conflict_114 (Nat.le_of_ble_eq_true rfl) (Nat.le_of_ble_eq_true rfl) (Or.inr rfl) h
def f6_read_L24 : Nat → Int → VV → Option (VV)
  | 0, _, _ => none
  | n + 1, x1, V => (if nrm (V 148 5) ≤ nrm x1 then some V else bd (f5_bookedShip V x1) (fun r7 => ck ((0:Int) ≤ x1 ∧ x1 < 20) (bd (f5_isInbound (up2 V 149 (Int.toNat x1) r7) x1) (fun r10 => ck (r10 = 0 ∨ r10 = 1) (bd (f5_startMinute (up2 (up2 V 149 (Int.toNat x1) r7) 150 (Int.toNat x1) r10) x1) (fun r13 => bd (f5_endMinute (up2 (up2 (up2 V 149 (Int.toNat x1) r7) 150 (Int.toNat x1) r10) 151 (Int.toNat x1) r13) x1) (fun r15 => f6_read_L24 n (x1 + 1) (up2 (up2 (up2 (up2 V 149 (Int.toNat x1) r7) 150 (Int.toNat x1) r10) 151 (Int.toNat x1) r13) 152 (Int.toNat x1) r15))))))))
theorem lp6_read_24 {G : GT} {X : CT} {cells slots : Nat} (hN : 157 ≤ gN G) (hx : xN X = 2) (C : Cx G X "ChannelScheduleLaw$Own" b6_read) {o0 : Except String (Option Value)} {V9 : VV} (M : MX G X 3 0 0 none o0 V9) (hc : cells ≤ 0) (hs : slots ≤ 0) : ∀ (n : Nat) {x1 : Int} {V : VV} {W0 : VV}, f6_read_L24 n x1 V = some (W0) → At G X cells slots 94 [(0, .ref (gC G + 148))] [] W0 → At G X cells slots 24 [(0, .ref (gC G + 148)), (1, vI x1)] [] V := by
  intro n
  induction n with
  | zero => intro x1 V W0 h _; exact nomatch h
  | succ n ih =>
    intro x1 V W0 h K
    rw [f6_read_L24] at h
    refine r_iload_n C d6_read_24 rfl ?_
    refine r_aload_n C d6_read_25 rfl ?_
    refine g_own_5 C d6_read_26 f6_45 hN ?_
    refine x_icmpge (tgt := 94) C d6_read_29 rfl (fun c5 => ?_) (fun c5 => ?_)
    · replace h := ite_p c5 h
      cases h
      exact AtH.sw K ⟨rfl, trivial⟩
    · replace h := ite_m c5 h
      refine r_aload_n C d6_read_32 rfl ?_
      refine g_own_1 C d6_read_33 f6_7 hN ?_
      refine r_iload_n C d6_read_36 rfl ?_
      refine r_aload_n C d6_read_37 rfl ?_
      refine g_own_0 C d6_read_38 f6_35 hN ?_
      refine r_iload_n C d6_read_41 rfl ?_
      obtain ⟨r7, h6, h⟩ := bd_of h
      refine cV1_i C M d6_read_42 l6_55 w5_bookedShip (rc_main (hN8 hN)) (ev5_bookedShip C.lt (hN8 hN) h6) rfl hc hs ?_
      obtain ⟨c8, h⟩ := ck_of h
      refine x_iast C d6_read_45 (ra_own149 hN) c8 ?_
      refine r_aload_n C d6_read_46 rfl ?_
      refine g_own_2 C d6_read_47 f6_13 hN ?_
      refine r_iload_n C d6_read_50 rfl ?_
      refine r_aload_n C d6_read_51 rfl ?_
      refine g_own_0 C d6_read_52 f6_35 hN ?_
      refine r_iload_n C d6_read_55 rfl ?_
      obtain ⟨r10, h9, h⟩ := bd_of h
      refine cV1_i C M d6_read_56 l6_59 w5_isInbound (rc_main (hN8 hN)) (ev5_isInbound C.lt (hN8 hN) h9) rfl hc hs ?_
      obtain ⟨c11, h⟩ := ck_of h
      refine x_zast C d6_read_59 (ra_own150 hN) c8 c11 ?_
      refine r_aload_n C d6_read_60 rfl ?_
      refine g_own_3 C d6_read_61 f6_17 hN ?_
      refine r_iload_n C d6_read_64 rfl ?_
      refine r_aload_n C d6_read_65 rfl ?_
      refine g_own_0 C d6_read_66 f6_35 hN ?_
      refine r_iload_n C d6_read_69 rfl ?_
      obtain ⟨r13, h12, h⟩ := bd_of h
      refine cV1_i C M d6_read_70 l6_63 w5_startMinute (rc_main (hN8 hN)) (ev5_startMinute C.lt (hN8 hN) h12) rfl hc hs ?_
      refine x_iast C d6_read_73 (ra_own151 hN) c8 ?_
      refine r_aload_n C d6_read_74 rfl ?_
      refine g_own_4 C d6_read_75 f6_20 hN ?_
      refine r_iload_n C d6_read_78 rfl ?_
      refine r_aload_n C d6_read_79 rfl ?_
      refine g_own_0 C d6_read_80 f6_35 hN ?_
      refine r_iload_n C d6_read_83 rfl ?_
      obtain ⟨r15, h14, h⟩ := bd_of h
      refine cV1_i C M d6_read_84 l6_66 w5_endMinute (rc_main (hN8 hN)) (ev5_endMinute C.lt (hN8 hN) h14) rfl hc hs ?_
      refine x_iast C d6_read_87 (ra_own152 hN) c8 ?_
      refine x_iinc hx C d6_read_88 rfl rfl ?_
      refine r_goto (tgt := 24) C d6_read_91 rfl ?_
      exact AtH.sw (ih h K) ⟨rfl, rfl, trivial⟩
def f6_read_L107 : Nat → Int → VV → Option (VV)
  | 0, _, _ => none
  | n + 1, x1, V => (if nrm (V 148 10) ≤ nrm x1 then some V else bd (f5_requestedShip V x1) (fun r22 => ck ((0:Int) ≤ x1 ∧ x1 < 8) (bd (f5_isRequestInbound (up2 V 153 (Int.toNat x1) r22) x1) (fun r25 => ck (r25 = 0 ∨ r25 = 1) (bd (f5_earliestRequested (up2 (up2 V 153 (Int.toNat x1) r22) 154 (Int.toNat x1) r25) x1) (fun r28 => bd (f5_latestRequested (up2 (up2 (up2 V 153 (Int.toNat x1) r22) 154 (Int.toNat x1) r25) 155 (Int.toNat x1) r28) x1) (fun r30 => f6_read_L107 n (x1 + 1) (up2 (up2 (up2 (up2 V 153 (Int.toNat x1) r22) 154 (Int.toNat x1) r25) 155 (Int.toNat x1) r28) 156 (Int.toNat x1) r30))))))))
theorem lp6_read_107 {G : GT} {X : CT} {cells slots : Nat} (hN : 157 ≤ gN G) (hx : xN X = 2) (C : Cx G X "ChannelScheduleLaw$Own" b6_read) {o0 : Except String (Option Value)} {V9 : VV} (M : MX G X 3 0 0 none o0 V9) (hc : cells ≤ 0) (hs : slots ≤ 0) : ∀ (n : Nat) {x1 : Int} {V : VV} {W0 : VV}, f6_read_L107 n x1 V = some (W0) → At G X cells slots 177 [] [] W0 → At G X cells slots 107 [(0, .ref (gC G + 148)), (1, vI x1)] [] V := by
  intro n
  induction n with
  | zero => intro x1 V W0 h _; exact nomatch h
  | succ n ih =>
    intro x1 V W0 h K
    rw [f6_read_L107] at h
    refine r_iload_n C d6_read_107 rfl ?_
    refine r_aload_n C d6_read_108 rfl ?_
    refine g_own_10 C d6_read_109 f6_72 hN ?_
    refine x_icmpge (tgt := 177) C d6_read_112 rfl (fun c20 => ?_) (fun c20 => ?_)
    · replace h := ite_p c20 h
      cases h
      exact AtH.sw K trivial
    · replace h := ite_m c20 h
      refine r_aload_n C d6_read_115 rfl ?_
      refine g_own_6 C d6_read_116 f6_23 hN ?_
      refine r_iload_n C d6_read_119 rfl ?_
      refine r_aload_n C d6_read_120 rfl ?_
      refine g_own_0 C d6_read_121 f6_35 hN ?_
      refine r_iload_n C d6_read_124 rfl ?_
      obtain ⟨r22, h21, h⟩ := bd_of h
      refine cV1_i C M d6_read_125 l6_75 w5_requestedShip (rc_main (hN8 hN)) (ev5_requestedShip C.lt (hN8 hN) h21) rfl hc hs ?_
      obtain ⟨c23, h⟩ := ck_of h
      refine x_iast C d6_read_128 (ra_own153 hN) c23 ?_
      refine r_aload_n C d6_read_129 rfl ?_
      refine g_own_7 C d6_read_130 f6_26 hN ?_
      refine r_iload_n C d6_read_133 rfl ?_
      refine r_aload_n C d6_read_134 rfl ?_
      refine g_own_0 C d6_read_135 f6_35 hN ?_
      refine r_iload_n C d6_read_138 rfl ?_
      obtain ⟨r25, h24, h⟩ := bd_of h
      refine cV1_i C M d6_read_139 l6_78 w5_isRequestInbound (rc_main (hN8 hN)) (ev5_isRequestInbound C.lt (hN8 hN) h24) rfl hc hs ?_
      obtain ⟨c26, h⟩ := ck_of h
      refine x_zast C d6_read_142 (ra_own154 hN) c23 c26 ?_
      refine r_aload_n C d6_read_143 rfl ?_
      refine g_own_8 C d6_read_144 f6_29 hN ?_
      refine r_iload_n C d6_read_147 rfl ?_
      refine r_aload_n C d6_read_148 rfl ?_
      refine g_own_0 C d6_read_149 f6_35 hN ?_
      refine r_iload_n C d6_read_152 rfl ?_
      obtain ⟨r28, h27, h⟩ := bd_of h
      refine cV1_i C M d6_read_153 l6_81 w5_earliestRequested (rc_main (hN8 hN)) (ev5_earliestRequested C.lt (hN8 hN) h27) rfl hc hs ?_
      refine x_iast C d6_read_156 (ra_own155 hN) c23 ?_
      refine r_aload_n C d6_read_157 rfl ?_
      refine g_own_9 C d6_read_158 f6_32 hN ?_
      refine r_iload_n C d6_read_161 rfl ?_
      refine r_aload_n C d6_read_162 rfl ?_
      refine g_own_0 C d6_read_163 f6_35 hN ?_
      refine r_iload_n C d6_read_166 rfl ?_
      obtain ⟨r30, h29, h⟩ := bd_of h
      refine cV1_i C M d6_read_167 l6_84 w5_latestRequested (rc_main (hN8 hN)) (ev5_latestRequested C.lt (hN8 hN) h29) rfl hc hs ?_
      refine x_iast C d6_read_170 (ra_own156 hN) c23 ?_
      refine x_iinc hx C d6_read_171 rfl rfl ?_
      refine r_goto (tgt := 107) C d6_read_174 rfl ?_
      exact AtH.sw (ih h K) ⟨rfl, rfl, trivial⟩
def f6_read (V : VV) : Option VV := bd (f5_bookingCount V) (fun r2 => bd (f5_requestsServed (up2 V 148 5 r2)) (fun r4 => bd (f6_read_L24 FU 0 (up2 (up2 V 148 5 r2) 148 11 r4)) (fun W16 => bd (f5_requestCount W16) (fun r19 => bd (f6_read_L107 FU 0 (up2 W16 148 10 r19)) (fun W31 => some W31)))))
theorem ev6_read {G : GT} {l : Launch} {V : VV} {V1 : VV} (hlt : l.stackTraces = false) (hN : 157 ≤ gN G) (h : f6_read V = some V1) : EvX G l y6_read b6_read 2 none 3 0 0 [.ref (gC G + 148)] V (.ok none) V1 := by
  refine ev_w hlt (by decide +kernel) rfl rfl (fun X hl hx C M => ?_)
  subst hl
  replace C : Cx G X "ChannelScheduleLaw$Own" b6_read := C
  unfold f6_read at h
  show At G X 0 0 0 [(0, .ref (gC G + 148))] [] V
  refine r_aload_n C d6_read_0 rfl ?_
  refine r_aload_n C d6_read_1 rfl ?_
  refine g_own_0 C d6_read_2 f6_35 hN ?_
  obtain ⟨r2, h1, h⟩ := bd_of h
  refine cV0_i C M d6_read_5 l6_39 w5_bookingCount (rc_main (hN8 hN)) (ev5_bookingCount C.lt (hN8 hN) h1) rfl (Nat.le_of_ble_eq_true rfl) (Nat.le_of_ble_eq_true rfl) ?_
  refine p_own_5 C d6_read_8 f6_45 hN ?_
  refine r_aload_n C d6_read_11 rfl ?_
  refine r_aload_n C d6_read_12 rfl ?_
  refine g_own_0 C d6_read_13 f6_35 hN ?_
  obtain ⟨r4, h3, h⟩ := bd_of h
  refine cV0_i C M d6_read_16 l6_49 w5_requestsServed (rc_main (hN8 hN)) (ev5_requestsServed C.lt (hN8 hN) h3) rfl (Nat.le_of_ble_eq_true rfl) (Nat.le_of_ble_eq_true rfl) ?_
  refine p_own_11 C d6_read_19 f6_52 hN ?_
  refine r_iconst C d6_read_22 ?_
  refine x_istore_n hx C d6_read_23 rfl ?_
  obtain ⟨W16, h17, h⟩ := bd_of h
  refine AtH.sw (lp6_read_24 hN hx C M (Nat.le_of_ble_eq_true rfl) (Nat.le_of_ble_eq_true rfl) FU h17 ?_) ⟨rfl, rfl, trivial⟩
  refine r_aload_n C d6_read_94 rfl ?_
  refine r_aload_n C d6_read_95 rfl ?_
  refine g_own_0 C d6_read_96 f6_35 hN ?_
  obtain ⟨r19, h18, h⟩ := bd_of h
  refine cV0_i C M d6_read_99 l6_69 w5_requestCount (rc_main (hN8 hN)) (ev5_requestCount C.lt (hN8 hN) h18) rfl (Nat.le_of_ble_eq_true rfl) (Nat.le_of_ble_eq_true rfl) ?_
  refine p_own_10 C d6_read_102 f6_72 hN ?_
  refine r_iconst C d6_read_105 ?_
  refine x_istore_n hx C d6_read_106 rfl ?_
  obtain ⟨W31, h32, h⟩ := bd_of h
  refine AtH.sw (lp6_read_107 hN hx C M (Nat.le_of_ble_eq_true rfl) (Nat.le_of_ble_eq_true rfl) FU h32 ?_) ⟨rfl, rfl, trivial⟩
  exact e_v C M d6_read_177 (Nat.le_of_ble_eq_true rfl) (Nat.le_of_ble_eq_true rfl) h
def f6_isFree_L3 (V : VV) (x1 : Int) (x2 : Int) (x3 : Int) : Nat → Int → Option Int
  | 0, _ => none
  | n + 1, x4 => (if nrm (V 148 5) ≤ nrm x4 then some 1 else ck ((0:Int) ≤ x4 ∧ x4 < 20) (bd (fL_conflict V (V 150 (Int.toNat x4)) (V 151 (Int.toNat x4)) (V 152 (Int.toNat x4)) x1 x2 x3) (fun r4 => (if nrm r4 = 0 then f6_isFree_L3 V x1 x2 x3 n (x4 + 1) else some 0))))
theorem lp6_isFree_3 {G : GT} {X : CT} {cells slots : Nat} {V : VV} (hN : 157 ≤ gN G) (hx : xN X = 5) (C : Cx G X "ChannelScheduleLaw$Own" b6_isFree) {x1 : Int} {x2 : Int} {x3 : Int} : ∀ (n : Nat) {x4 : Int} {r : Int}, MX G X 2 0 0 (some .boolean) (.ok (some (vI r))) V → cells ≤ 0 → slots ≤ 0 → f6_isFree_L3 V x1 x2 x3 n x4 = some r → At G X cells slots 3 [(0, .ref (gC G + 148)), (1, vI x1), (2, vI x2), (3, vI x3), (4, vI x4)] [] V := by
  intro n
  induction n with
  | zero => intro x4 r _ _ _ h; exact nomatch h
  | succ n ih =>
    intro x4 r M hc hs h
    rw [f6_isFree_L3] at h
    refine r_iload C d6_isFree_3 rfl ?_
    refine r_aload_n C d6_isFree_5 rfl ?_
    refine g_own_5 C d6_isFree_6 f6_45 hN ?_
    refine x_icmpge (tgt := 54) C d6_isFree_9 rfl (fun c1 => ?_) (fun c1 => ?_)
    · replace h := ite_p c1 h
      refine r_iconst C d6_isFree_54 ?_
      exact e_z C M d6_isFree_55 hc hs (Or.inr rfl) h
    · replace h := ite_m c1 h
      refine r_aload_n C d6_isFree_12 rfl ?_
      refine g_own_0 C d6_isFree_13 f6_35 hN ?_
      refine r_aload_n C d6_isFree_16 rfl ?_
      refine g_own_2 C d6_isFree_17 f6_13 hN ?_
      refine r_iload C d6_isFree_20 rfl ?_
      obtain ⟨c2, h⟩ := ck_of h
      refine x_zald C d6_isFree_22 (ra_own150 hN) c2 ?_
      refine r_aload_n C d6_isFree_23 rfl ?_
      refine g_own_3 C d6_isFree_24 f6_17 hN ?_
      refine r_iload C d6_isFree_27 rfl ?_
      refine x_iald C d6_isFree_29 (ra_own151 hN) c2 ?_
      refine r_aload_n C d6_isFree_30 rfl ?_
      refine g_own_4 C d6_isFree_31 f6_20 hN ?_
      refine r_iload C d6_isFree_34 rfl ?_
      refine x_iald C d6_isFree_36 (ra_own152 hN) c2 ?_
      refine r_iload_n C d6_isFree_37 rfl ?_
      refine r_iload_n C d6_isFree_38 rfl ?_
      refine r_iload_n C d6_isFree_39 rfl ?_
      obtain ⟨r4, h3, h⟩ := bd_of h
      refine cN7_i C M d6_isFree_40 rfl wL_conflict (evL_conflict C.lt (hN8 hN) h3) rfl hc hs ?_
      refine x_ifeq (tgt := 48) C d6_isFree_43 rfl (fun c5 => ?_) (fun c5 => ?_)
      · replace h := ite_p c5 h
        refine x_iinc hx C d6_isFree_48 rfl rfl ?_
        refine r_goto (tgt := 3) C d6_isFree_51 rfl ?_
        exact AtH.sw (ih M hc hs h) ⟨rfl, rfl, rfl, rfl, rfl, trivial⟩
      · replace h := ite_m c5 h
        refine r_iconst C d6_isFree_46 ?_
        exact e_z C M d6_isFree_47 hc hs (Or.inl rfl) h
def f6_isFree (V : VV) (x1 : Int) (x2 : Int) (x3 : Int) : Option Int := f6_isFree_L3 V x1 x2 x3 FU 0
theorem ev6_isFree {G : GT} {l : Launch} {V : VV} {x1 : Int} {x2 : Int} {x3 : Int} {r : Int} (hlt : l.stackTraces = false) (hN : 157 ≤ gN G) (h : f6_isFree V x1 x2 x3 = some r) : EvX G l y6_isFree b6_isFree 5 (some .boolean) 2 0 0 [.ref (gC G + 148), vI x1, vI x2, vI x3] V (.ok (some (vI r))) V := by
  refine ev_w hlt (by decide +kernel) rfl rfl (fun X hl hx C M => ?_)
  subst hl
  replace C : Cx G X "ChannelScheduleLaw$Own" b6_isFree := C
  unfold f6_isFree at h
  show At G X 0 0 0 [(0, .ref (gC G + 148)), (1, vI x1), (2, vI x2), (3, vI x3)] [] V
  refine r_iconst C d6_isFree_0 ?_
  refine x_istore hx C d6_isFree_1 rfl ?_
  exact AtH.sw (lp6_isFree_3 hN hx C FU M (Nat.le_of_ble_eq_true rfl) (Nat.le_of_ble_eq_true rfl) h) ⟨rfl, rfl, rfl, rfl, rfl, trivial⟩
def f6_find_L3 (V : VV) (x1 : Int) (x2 : Int) (x4 : Int) : Nat → Int → Option Int
  | 0, _ => none
  | n + 1, x5 => (if nrm x4 < nrm x5 then some (-1) else (if nrm 20 ≤ nrm (V 148 5) then some (-1) else bd (f5_minute V) (fun r4 => (if nrm x5 < nrm r4 then f6_find_L3 V x1 x2 x4 n (x5 + 1) else bd (f5_transitTime V x1) (fun r7 => bd (f6_isFree V x2 x5 (x5 + r7)) (fun r9 => (if nrm r9 = 0 then f6_find_L3 V x1 x2 x4 n (x5 + 1) else some x5)))))))
theorem lp6_find_3 {G : GT} {X : CT} {cells slots : Nat} {V : VV} (hN : 157 ≤ gN G) (hx : xN X = 6) (C : Cx G X "ChannelScheduleLaw$Own" b6_find) {x1 : Int} {x2 : Int} {x4 : Int} : ∀ (n : Nat) {x5 : Int} {r : Int}, MX G X 3 0 0 (some .int) (.ok (some (vI r))) V → cells ≤ 0 → slots ≤ 0 → f6_find_L3 V x1 x2 x4 n x5 = some r → At G X cells slots 3 [(0, .ref (gC G + 148)), (1, vI x1), (2, vI x2), (4, vI x4), (5, vI x5)] [] V := by
  intro n
  induction n with
  | zero => intro x5 r _ _ _ h; exact nomatch h
  | succ n ih =>
    intro x5 r M hc hs h
    rw [f6_find_L3] at h
    refine r_iload C d6_find_3 rfl ?_
    refine r_iload C d6_find_5 rfl ?_
    refine x_icmpgt (tgt := 61) C d6_find_7 rfl (fun c1 => ?_) (fun c1 => ?_)
    · replace h := ite_p c1 h
      refine r_iconst C d6_find_61 ?_
      exact e_i C M d6_find_62 hc hs h
    · replace h := ite_m c1 h
      refine r_aload_n C d6_find_10 rfl ?_
      refine g_own_5 C d6_find_11 f6_45 hN ?_
      refine r_bipush C d6_find_14 (by decide +kernel) ?_
      refine x_icmpge (tgt := 61) C d6_find_16 rfl (fun c2 => ?_) (fun c2 => ?_)
      · replace h := ite_p c2 h
        refine r_iconst C d6_find_61 ?_
        exact e_i C M d6_find_62 hc hs h
      · replace h := ite_m c2 h
        refine r_iload C d6_find_19 rfl ?_
        refine r_aload_n C d6_find_21 rfl ?_
        refine g_own_0 C d6_find_22 f6_35 hN ?_
        obtain ⟨r4, h3, h⟩ := bd_of h
        refine cV0_i C M d6_find_25 l6_93 w5_minute (rc_main (hN8 hN)) (ev5_minute C.lt (hN8 hN) h3) rfl hc hs ?_
        refine x_icmplt (tgt := 55) C d6_find_28 rfl (fun c5 => ?_) (fun c5 => ?_)
        · replace h := ite_p c5 h
          refine x_iinc hx C d6_find_55 rfl rfl ?_
          refine r_goto (tgt := 3) C d6_find_58 rfl ?_
          exact AtH.sw (ih M hc hs h) ⟨rfl, rfl, rfl, rfl, rfl, trivial⟩
        · replace h := ite_m c5 h
          refine r_aload_n C d6_find_31 rfl ?_
          refine r_iload_n C d6_find_32 rfl ?_
          refine r_iload C d6_find_33 rfl ?_
          refine r_iload C d6_find_35 rfl ?_
          refine r_aload_n C d6_find_37 rfl ?_
          refine g_own_0 C d6_find_38 f6_35 hN ?_
          refine r_iload_n C d6_find_41 rfl ?_
          obtain ⟨r7, h6, h⟩ := bd_of h
          refine cV1_i C M d6_find_42 l6_96 w5_transitTime (rc_main (hN8 hN)) (ev5_transitTime C.lt (hN8 hN) h6) rfl hc hs ?_
          refine r_iadd C d6_find_45 ?_
          obtain ⟨r9, h8, h⟩ := bd_of h
          refine cV3_i C M d6_find_46 l6_99 w6_isFree (rc_own hN) (ev6_isFree C.lt hN h8) rfl hc hs ?_
          refine x_ifeq (tgt := 55) C d6_find_49 rfl (fun c10 => ?_) (fun c10 => ?_)
          · replace h := ite_p c10 h
            refine x_iinc hx C d6_find_55 rfl rfl ?_
            refine r_goto (tgt := 3) C d6_find_58 rfl ?_
            exact AtH.sw (ih M hc hs h) ⟨rfl, rfl, rfl, rfl, rfl, trivial⟩
          · replace h := ite_m c10 h
            refine r_iload C d6_find_52 rfl ?_
            exact e_i C M d6_find_54 hc hs h
def f6_find (V : VV) (x1 : Int) (x2 : Int) (x3 : Int) (x4 : Int) : Option Int := f6_find_L3 V x1 x2 x4 FU x3
theorem ev6_find {G : GT} {l : Launch} {V : VV} {x1 : Int} {x2 : Int} {x3 : Int} {x4 : Int} {r : Int} (hlt : l.stackTraces = false) (hN : 157 ≤ gN G) (h : f6_find V x1 x2 x3 x4 = some r) : EvX G l y6_find b6_find 6 (some .int) 3 0 0 [.ref (gC G + 148), vI x1, vI x2, vI x3, vI x4] V (.ok (some (vI r))) V := by
  refine ev_w hlt (by decide +kernel) rfl rfl (fun X hl hx C M => ?_)
  subst hl
  replace C : Cx G X "ChannelScheduleLaw$Own" b6_find := C
  unfold f6_find at h
  show At G X 0 0 0 [(0, .ref (gC G + 148)), (1, vI x1), (2, vI x2), (3, vI x3), (4, vI x4)] [] V
  refine r_iload_n C d6_find_0 rfl ?_
  refine x_istore hx C d6_find_1 rfl ?_
  exact AtH.sw (lp6_find_3 hN hx C FU M (Nat.le_of_ble_eq_true rfl) (Nat.le_of_ble_eq_true rfl) h) ⟨rfl, rfl, rfl, rfl, rfl, trivial⟩
def f6_add (V : VV) (x1 : Int) (x2 : Int) (x3 : Int) : Option VV := ck ((0:Int) ≤ (V 148 5) ∧ (V 148 5) < 20) (ck ((0:Int) ≤ ((up2 V 149 (Int.toNat (V 148 5)) x1) 148 5) ∧ ((up2 V 149 (Int.toNat (V 148 5)) x1) 148 5) < 20) (ck (x2 = 0 ∨ x2 = 1) (ck ((0:Int) ≤ ((up2 (up2 V 149 (Int.toNat (V 148 5)) x1) 150 (Int.toNat ((up2 V 149 (Int.toNat (V 148 5)) x1) 148 5)) x2) 148 5) ∧ ((up2 (up2 V 149 (Int.toNat (V 148 5)) x1) 150 (Int.toNat ((up2 V 149 (Int.toNat (V 148 5)) x1) 148 5)) x2) 148 5) < 20) (bd (f5_transitTime (up2 (up2 (up2 V 149 (Int.toNat (V 148 5)) x1) 150 (Int.toNat ((up2 V 149 (Int.toNat (V 148 5)) x1) 148 5)) x2) 151 (Int.toNat ((up2 (up2 V 149 (Int.toNat (V 148 5)) x1) 150 (Int.toNat ((up2 V 149 (Int.toNat (V 148 5)) x1) 148 5)) x2) 148 5)) x3) x1) (fun r6 => ck ((0:Int) ≤ ((up2 (up2 (up2 V 149 (Int.toNat (V 148 5)) x1) 150 (Int.toNat ((up2 V 149 (Int.toNat (V 148 5)) x1) 148 5)) x2) 151 (Int.toNat ((up2 (up2 V 149 (Int.toNat (V 148 5)) x1) 150 (Int.toNat ((up2 V 149 (Int.toNat (V 148 5)) x1) 148 5)) x2) 148 5)) x3) 148 5) ∧ ((up2 (up2 (up2 V 149 (Int.toNat (V 148 5)) x1) 150 (Int.toNat ((up2 V 149 (Int.toNat (V 148 5)) x1) 148 5)) x2) 151 (Int.toNat ((up2 (up2 V 149 (Int.toNat (V 148 5)) x1) 150 (Int.toNat ((up2 V 149 (Int.toNat (V 148 5)) x1) 148 5)) x2) 148 5)) x3) 148 5) < 20) (some (up2 (up2 (up2 (up2 (up2 V 149 (Int.toNat (V 148 5)) x1) 150 (Int.toNat ((up2 V 149 (Int.toNat (V 148 5)) x1) 148 5)) x2) 151 (Int.toNat ((up2 (up2 V 149 (Int.toNat (V 148 5)) x1) 150 (Int.toNat ((up2 V 149 (Int.toNat (V 148 5)) x1) 148 5)) x2) 148 5)) x3) 152 (Int.toNat ((up2 (up2 (up2 V 149 (Int.toNat (V 148 5)) x1) 150 (Int.toNat ((up2 V 149 (Int.toNat (V 148 5)) x1) 148 5)) x2) 151 (Int.toNat ((up2 (up2 V 149 (Int.toNat (V 148 5)) x1) 150 (Int.toNat ((up2 V 149 (Int.toNat (V 148 5)) x1) 148 5)) x2) 148 5)) x3) 148 5)) (x3 + r6)) 148 5 (((up2 (up2 (up2 (up2 V 149 (Int.toNat (V 148 5)) x1) 150 (Int.toNat ((up2 V 149 (Int.toNat (V 148 5)) x1) 148 5)) x2) 151 (Int.toNat ((up2 (up2 V 149 (Int.toNat (V 148 5)) x1) 150 (Int.toNat ((up2 V 149 (Int.toNat (V 148 5)) x1) 148 5)) x2) 148 5)) x3) 152 (Int.toNat ((up2 (up2 (up2 V 149 (Int.toNat (V 148 5)) x1) 150 (Int.toNat ((up2 V 149 (Int.toNat (V 148 5)) x1) 148 5)) x2) 151 (Int.toNat ((up2 (up2 V 149 (Int.toNat (V 148 5)) x1) 150 (Int.toNat ((up2 V 149 (Int.toNat (V 148 5)) x1) 148 5)) x2) 148 5)) x3) 148 5)) (x3 + r6)) 148 5) + 1))))))))
theorem ev6_add {G : GT} {l : Launch} {V : VV} {x1 : Int} {x2 : Int} {x3 : Int} {V1 : VV} (hlt : l.stackTraces = false) (hN : 157 ≤ gN G) (h : f6_add V x1 x2 x3 = some V1) : EvX G l y6_add b6_add 4 none 3 0 0 [.ref (gC G + 148), vI x1, vI x2, vI x3] V (.ok none) V1 := by
  refine ev_w hlt (by decide +kernel) rfl rfl (fun X hl hx C M => ?_)
  subst hl
  replace C : Cx G X "ChannelScheduleLaw$Own" b6_add := C
  unfold f6_add at h
  show At G X 0 0 0 [(0, .ref (gC G + 148)), (1, vI x1), (2, vI x2), (3, vI x3)] [] V
  refine r_aload_n C d6_add_0 rfl ?_
  refine g_own_1 C d6_add_1 f6_7 hN ?_
  refine r_aload_n C d6_add_4 rfl ?_
  refine g_own_5 C d6_add_5 f6_45 hN ?_
  refine r_iload_n C d6_add_8 rfl ?_
  obtain ⟨c1, h⟩ := ck_of h
  refine x_iast C d6_add_9 (ra_own149 hN) c1 ?_
  refine r_aload_n C d6_add_10 rfl ?_
  refine g_own_2 C d6_add_11 f6_13 hN ?_
  refine r_aload_n C d6_add_14 rfl ?_
  refine g_own_5 C d6_add_15 f6_45 hN ?_
  refine r_iload_n C d6_add_18 rfl ?_
  obtain ⟨c2, h⟩ := ck_of h
  obtain ⟨c3, h⟩ := ck_of h
  refine x_zast C d6_add_19 (ra_own150 hN) c2 c3 ?_
  refine r_aload_n C d6_add_20 rfl ?_
  refine g_own_3 C d6_add_21 f6_17 hN ?_
  refine r_aload_n C d6_add_24 rfl ?_
  refine g_own_5 C d6_add_25 f6_45 hN ?_
  refine r_iload_n C d6_add_28 rfl ?_
  obtain ⟨c4, h⟩ := ck_of h
  refine x_iast C d6_add_29 (ra_own151 hN) c4 ?_
  refine r_aload_n C d6_add_30 rfl ?_
  refine g_own_4 C d6_add_31 f6_20 hN ?_
  refine r_aload_n C d6_add_34 rfl ?_
  refine g_own_5 C d6_add_35 f6_45 hN ?_
  refine r_iload_n C d6_add_38 rfl ?_
  refine r_aload_n C d6_add_39 rfl ?_
  refine g_own_0 C d6_add_40 f6_35 hN ?_
  refine r_iload_n C d6_add_43 rfl ?_
  obtain ⟨r6, h5, h⟩ := bd_of h
  refine cV1_i C M d6_add_44 l6_96 w5_transitTime (rc_main (hN8 hN)) (ev5_transitTime C.lt (hN8 hN) h5) rfl (Nat.le_of_ble_eq_true rfl) (Nat.le_of_ble_eq_true rfl) ?_
  refine r_iadd C d6_add_47 ?_
  obtain ⟨c7, h⟩ := ck_of h
  refine x_iast C d6_add_48 (ra_own152 hN) c7 ?_
  refine r_aload_n C d6_add_49 rfl ?_
  refine r_dup C d6_add_50 rfl ?_
  refine g_own_5 C d6_add_51 f6_45 hN ?_
  refine r_iconst C d6_add_54 ?_
  refine r_iadd C d6_add_55 ?_
  refine p_own_5 C d6_add_56 f6_45 hN ?_
  exact e_v C M d6_add_59 (Nat.le_of_ble_eq_true rfl) (Nat.le_of_ble_eq_true rfl) h
def f6_process_L6 : Nat → Int → Int → Int → VV → Option (Int × Int × VV)
  | 0, _, _, _, _ => none
  | n + 1, x1, x2, x3, V => (if nrm (V 148 10) ≤ nrm x3 then some (x1, x2, V) else ck ((0:Int) ≤ x3 ∧ x3 < 8) (bd (f6_find V (V 153 (Int.toNat x3)) (V 154 (Int.toNat x3)) (V 155 (Int.toNat x3)) (V 156 (Int.toNat x3))) (fun r4 => (if nrm r4 < 0 then ck ((0:Int) ≤ x2 ∧ x2 < 8) (ck (((up2 V 153 (Int.toNat x2) (V 153 (Int.toNat x3))) 154 (Int.toNat x3)) = 0 ∨ ((up2 V 153 (Int.toNat x2) (V 153 (Int.toNat x3))) 154 (Int.toNat x3)) = 1) (f6_process_L6 n x1 (x2 + 1) (x3 + 1) (up2 (up2 (up2 (up2 V 153 (Int.toNat x2) (V 153 (Int.toNat x3))) 154 (Int.toNat x2) ((up2 V 153 (Int.toNat x2) (V 153 (Int.toNat x3))) 154 (Int.toNat x3))) 155 (Int.toNat x2) ((up2 (up2 V 153 (Int.toNat x2) (V 153 (Int.toNat x3))) 154 (Int.toNat x2) ((up2 V 153 (Int.toNat x2) (V 153 (Int.toNat x3))) 154 (Int.toNat x3))) 155 (Int.toNat x3))) 156 (Int.toNat x2) ((up2 (up2 (up2 V 153 (Int.toNat x2) (V 153 (Int.toNat x3))) 154 (Int.toNat x2) ((up2 V 153 (Int.toNat x2) (V 153 (Int.toNat x3))) 154 (Int.toNat x3))) 155 (Int.toNat x2) ((up2 (up2 V 153 (Int.toNat x2) (V 153 (Int.toNat x3))) 154 (Int.toNat x2) ((up2 V 153 (Int.toNat x2) (V 153 (Int.toNat x3))) 154 (Int.toNat x3))) 155 (Int.toNat x3))) 156 (Int.toNat x3))))) else bd (f6_add V (V 153 (Int.toNat x3)) (V 154 (Int.toNat x3)) r4) (fun W9 => f6_process_L6 n (x1 + 1) x2 (x3 + 1) W9)))))
theorem lp6_process_6 {G : GT} {X : CT} {cells slots : Nat} (hN : 157 ≤ gN G) (hx : xN X = 5) (C : Cx G X "ChannelScheduleLaw$Own" b6_process) {o0 : Except String (Option Value)} {V9 : VV} (M : MX G X 4 0 0 (some .int) o0 V9) (hc : cells ≤ 0) (hs : slots ≤ 0) : ∀ (n : Nat) {x1 : Int} {x2 : Int} {x3 : Int} {V : VV} {e1 : Int} {e2 : Int} {W0 : VV}, f6_process_L6 n x1 x2 x3 V = some (e1, e2, W0) → At G X cells slots 130 [(0, .ref (gC G + 148)), (1, vI e1), (2, vI e2)] [] W0 → At G X cells slots 6 [(0, .ref (gC G + 148)), (1, vI x1), (2, vI x2), (3, vI x3)] [] V := by
  intro n
  induction n with
  | zero => intro x1 x2 x3 V e1 e2 W0 h _; exact nomatch h
  | succ n ih =>
    intro x1 x2 x3 V e1 e2 W0 h K
    rw [f6_process_L6] at h
    refine r_iload_n C d6_process_6 rfl ?_
    refine r_aload_n C d6_process_7 rfl ?_
    refine g_own_10 C d6_process_8 f6_72 hN ?_
    refine x_icmpge (tgt := 130) C d6_process_11 rfl (fun c1 => ?_) (fun c1 => ?_)
    · replace h := ite_p c1 h
      cases h
      exact AtH.sw K ⟨rfl, rfl, rfl, trivial⟩
    · replace h := ite_m c1 h
      refine r_aload_n C d6_process_14 rfl ?_
      refine r_aload_n C d6_process_15 rfl ?_
      refine g_own_6 C d6_process_16 f6_23 hN ?_
      refine r_iload_n C d6_process_19 rfl ?_
      obtain ⟨c2, h⟩ := ck_of h
      refine x_iald C d6_process_20 (ra_own153 hN) c2 ?_
      refine r_aload_n C d6_process_21 rfl ?_
      refine g_own_7 C d6_process_22 f6_26 hN ?_
      refine r_iload_n C d6_process_25 rfl ?_
      refine x_zald C d6_process_26 (ra_own154 hN) c2 ?_
      refine r_aload_n C d6_process_27 rfl ?_
      refine g_own_8 C d6_process_28 f6_29 hN ?_
      refine r_iload_n C d6_process_31 rfl ?_
      refine x_iald C d6_process_32 (ra_own155 hN) c2 ?_
      refine r_aload_n C d6_process_33 rfl ?_
      refine g_own_9 C d6_process_34 f6_32 hN ?_
      refine r_iload_n C d6_process_37 rfl ?_
      refine x_iald C d6_process_38 (ra_own156 hN) c2 ?_
      obtain ⟨r4, h3, h⟩ := bd_of h
      refine cV4_i C M d6_process_39 l6_103 w6_find (rc_own hN) (ev6_find C.lt hN h3) rfl hc hs ?_
      refine x_istore hx C d6_process_42 rfl ?_
      refine r_iload C d6_process_44 rfl ?_
      refine x_iflt (tgt := 73) C d6_process_46 rfl (fun c5 => ?_) (fun c5 => ?_)
      · replace h := ite_p c5 h
        refine r_aload_n C d6_process_73 rfl ?_
        refine g_own_6 C d6_process_74 f6_23 hN ?_
        refine r_iload_n C d6_process_77 rfl ?_
        refine r_aload_n C d6_process_78 rfl ?_
        refine g_own_6 C d6_process_79 f6_23 hN ?_
        refine r_iload_n C d6_process_82 rfl ?_
        refine x_iald C d6_process_83 (ra_own153 hN) c2 ?_
        obtain ⟨c6, h⟩ := ck_of h
        refine x_iast C d6_process_84 (ra_own153 hN) c6 ?_
        refine r_aload_n C d6_process_85 rfl ?_
        refine g_own_7 C d6_process_86 f6_26 hN ?_
        refine r_iload_n C d6_process_89 rfl ?_
        refine r_aload_n C d6_process_90 rfl ?_
        refine g_own_7 C d6_process_91 f6_26 hN ?_
        refine r_iload_n C d6_process_94 rfl ?_
        refine x_zald C d6_process_95 (ra_own154 hN) c2 ?_
        obtain ⟨c7, h⟩ := ck_of h
        refine x_zast C d6_process_96 (ra_own154 hN) c6 c7 ?_
        refine r_aload_n C d6_process_97 rfl ?_
        refine g_own_8 C d6_process_98 f6_29 hN ?_
        refine r_iload_n C d6_process_101 rfl ?_
        refine r_aload_n C d6_process_102 rfl ?_
        refine g_own_8 C d6_process_103 f6_29 hN ?_
        refine r_iload_n C d6_process_106 rfl ?_
        refine x_iald C d6_process_107 (ra_own155 hN) c2 ?_
        refine x_iast C d6_process_108 (ra_own155 hN) c6 ?_
        refine r_aload_n C d6_process_109 rfl ?_
        refine g_own_9 C d6_process_110 f6_32 hN ?_
        refine r_iload_n C d6_process_113 rfl ?_
        refine r_aload_n C d6_process_114 rfl ?_
        refine g_own_9 C d6_process_115 f6_32 hN ?_
        refine r_iload_n C d6_process_118 rfl ?_
        refine x_iald C d6_process_119 (ra_own156 hN) c2 ?_
        refine x_iast C d6_process_120 (ra_own156 hN) c6 ?_
        refine x_iinc hx C d6_process_121 rfl rfl ?_
        refine x_iinc hx C d6_process_124 rfl rfl ?_
        refine r_goto (tgt := 6) C d6_process_127 rfl ?_
        exact AtH.sw (ih h K) ⟨rfl, rfl, rfl, rfl, trivial⟩
      · replace h := ite_m c5 h
        refine r_aload_n C d6_process_49 rfl ?_
        refine r_aload_n C d6_process_50 rfl ?_
        refine g_own_6 C d6_process_51 f6_23 hN ?_
        refine r_iload_n C d6_process_54 rfl ?_
        refine x_iald C d6_process_55 (ra_own153 hN) c2 ?_
        refine r_aload_n C d6_process_56 rfl ?_
        refine g_own_7 C d6_process_57 f6_26 hN ?_
        refine r_iload_n C d6_process_60 rfl ?_
        refine x_zald C d6_process_61 (ra_own154 hN) c2 ?_
        refine r_iload C d6_process_62 rfl ?_
        obtain ⟨W9, h8, h⟩ := bd_of h
        refine cV3_v C M d6_process_64 l6_107 w6_add (rc_own hN) (ev6_add C.lt hN h8) rfl hc hs ?_
        refine x_iinc hx C d6_process_67 rfl rfl ?_
        refine r_goto (tgt := 124) C d6_process_70 rfl ?_
        refine x_iinc hx C d6_process_124 rfl rfl ?_
        refine r_goto (tgt := 6) C d6_process_127 rfl ?_
        exact AtH.sw (ih h K) ⟨rfl, rfl, rfl, rfl, trivial⟩
def f6_process (V : VV) : Option (Int × VV) := bd3 (f6_process_L6 FU 0 0 0 V) (fun y10 y11 W12 => some (y10, up2 (up2 W12 148 10 y11) 148 11 (((up2 W12 148 10 y11) 148 11) + y10)))
theorem ev6_process {G : GT} {l : Launch} {V : VV} {r : Int} {V1 : VV} (hlt : l.stackTraces = false) (hN : 157 ≤ gN G) (h : f6_process V = some (r, V1)) : EvX G l y6_process b6_process 5 (some .int) 4 0 0 [.ref (gC G + 148)] V (.ok (some (vI r))) V1 := by
  refine ev_w hlt (by decide +kernel) rfl rfl (fun X hl hx C M => ?_)
  subst hl
  replace C : Cx G X "ChannelScheduleLaw$Own" b6_process := C
  unfold f6_process at h
  show At G X 0 0 0 [(0, .ref (gC G + 148))] [] V
  refine r_iconst C d6_process_0 ?_
  refine x_istore_n hx C d6_process_1 rfl ?_
  refine r_iconst C d6_process_2 ?_
  refine x_istore_n hx C d6_process_3 rfl ?_
  refine r_iconst C d6_process_4 ?_
  refine x_istore_n hx C d6_process_5 rfl ?_
  obtain ⟨y10, y11, W12, h13, h⟩ := bd3_of h
  refine AtH.sw (lp6_process_6 hN hx C M (Nat.le_of_ble_eq_true rfl) (Nat.le_of_ble_eq_true rfl) FU h13 ?_) ⟨rfl, rfl, rfl, rfl, trivial⟩
  refine r_aload_n C d6_process_130 rfl ?_
  refine r_iload_n C d6_process_131 rfl ?_
  refine p_own_10 C d6_process_132 f6_72 hN ?_
  refine r_aload_n C d6_process_135 rfl ?_
  refine r_dup C d6_process_136 rfl ?_
  refine g_own_11 C d6_process_137 f6_52 hN ?_
  refine r_iload_n C d6_process_140 rfl ?_
  refine r_iadd C d6_process_141 ?_
  refine p_own_11 C d6_process_142 f6_52 hN ?_
  refine r_iload_n C d6_process_145 rfl ?_
  exact e_iv C M d6_process_146 (Nat.le_of_ble_eq_true rfl) (Nat.le_of_ble_eq_true rfl) h
def f6_remove_L12 : Nat → Int → VV → Option (VV)
  | 0, _, _ => none
  | n + 1, x2, V => (if nrm (V 148 5) ≤ nrm x2 then some V else ck ((0:Int) ≤ (x2 + 1) ∧ (x2 + 1) < 20) (ck ((0:Int) ≤ x2 ∧ x2 < 20) (ck (((up2 V 149 (Int.toNat x2) (V 149 (Int.toNat (x2 + 1)))) 150 (Int.toNat (x2 + 1))) = 0 ∨ ((up2 V 149 (Int.toNat x2) (V 149 (Int.toNat (x2 + 1)))) 150 (Int.toNat (x2 + 1))) = 1) (f6_remove_L12 n (x2 + 1) (up2 (up2 (up2 (up2 V 149 (Int.toNat x2) (V 149 (Int.toNat (x2 + 1)))) 150 (Int.toNat x2) ((up2 V 149 (Int.toNat x2) (V 149 (Int.toNat (x2 + 1)))) 150 (Int.toNat (x2 + 1)))) 151 (Int.toNat x2) ((up2 (up2 V 149 (Int.toNat x2) (V 149 (Int.toNat (x2 + 1)))) 150 (Int.toNat x2) ((up2 V 149 (Int.toNat x2) (V 149 (Int.toNat (x2 + 1)))) 150 (Int.toNat (x2 + 1)))) 151 (Int.toNat (x2 + 1)))) 152 (Int.toNat x2) ((up2 (up2 (up2 V 149 (Int.toNat x2) (V 149 (Int.toNat (x2 + 1)))) 150 (Int.toNat x2) ((up2 V 149 (Int.toNat x2) (V 149 (Int.toNat (x2 + 1)))) 150 (Int.toNat (x2 + 1)))) 151 (Int.toNat x2) ((up2 (up2 V 149 (Int.toNat x2) (V 149 (Int.toNat (x2 + 1)))) 150 (Int.toNat x2) ((up2 V 149 (Int.toNat x2) (V 149 (Int.toNat (x2 + 1)))) 150 (Int.toNat (x2 + 1)))) 151 (Int.toNat (x2 + 1)))) 152 (Int.toNat (x2 + 1))))))))
theorem lp6_remove_12 {G : GT} {X : CT} {cells slots : Nat} (hN : 157 ≤ gN G) (hx : xN X = 3) (C : Cx G X "ChannelScheduleLaw$Own" b6_remove) {o0 : Except String (Option Value)} {V9 : VV} (M : MX G X 0 0 0 none o0 V9) (hc : cells ≤ 0) (hs : slots ≤ 0) : ∀ (n : Nat) {x2 : Int} {V : VV} {W0 : VV}, f6_remove_L12 n x2 V = some (W0) → At G X cells slots 82 [] [] W0 → At G X cells slots 12 [(0, .ref (gC G + 148)), (2, vI x2)] [] V := by
  intro n
  induction n with
  | zero => intro x2 V W0 h _; exact nomatch h
  | succ n ih =>
    intro x2 V W0 h K
    rw [f6_remove_L12] at h
    refine r_iload_n C d6_remove_12 rfl ?_
    refine r_aload_n C d6_remove_13 rfl ?_
    refine g_own_5 C d6_remove_14 f6_45 hN ?_
    refine x_icmpge (tgt := 82) C d6_remove_17 rfl (fun c1 => ?_) (fun c1 => ?_)
    · replace h := ite_p c1 h
      cases h
      exact AtH.sw K trivial
    · replace h := ite_m c1 h
      refine r_aload_n C d6_remove_20 rfl ?_
      refine g_own_1 C d6_remove_21 f6_7 hN ?_
      refine r_iload_n C d6_remove_24 rfl ?_
      refine r_aload_n C d6_remove_25 rfl ?_
      refine g_own_1 C d6_remove_26 f6_7 hN ?_
      refine r_iload_n C d6_remove_29 rfl ?_
      refine r_iconst C d6_remove_30 ?_
      refine r_iadd C d6_remove_31 ?_
      obtain ⟨c2, h⟩ := ck_of h
      refine x_iald C d6_remove_32 (ra_own149 hN) c2 ?_
      obtain ⟨c3, h⟩ := ck_of h
      refine x_iast C d6_remove_33 (ra_own149 hN) c3 ?_
      refine r_aload_n C d6_remove_34 rfl ?_
      refine g_own_2 C d6_remove_35 f6_13 hN ?_
      refine r_iload_n C d6_remove_38 rfl ?_
      refine r_aload_n C d6_remove_39 rfl ?_
      refine g_own_2 C d6_remove_40 f6_13 hN ?_
      refine r_iload_n C d6_remove_43 rfl ?_
      refine r_iconst C d6_remove_44 ?_
      refine r_iadd C d6_remove_45 ?_
      refine x_zald C d6_remove_46 (ra_own150 hN) c2 ?_
      obtain ⟨c4, h⟩ := ck_of h
      refine x_zast C d6_remove_47 (ra_own150 hN) c3 c4 ?_
      refine r_aload_n C d6_remove_48 rfl ?_
      refine g_own_3 C d6_remove_49 f6_17 hN ?_
      refine r_iload_n C d6_remove_52 rfl ?_
      refine r_aload_n C d6_remove_53 rfl ?_
      refine g_own_3 C d6_remove_54 f6_17 hN ?_
      refine r_iload_n C d6_remove_57 rfl ?_
      refine r_iconst C d6_remove_58 ?_
      refine r_iadd C d6_remove_59 ?_
      refine x_iald C d6_remove_60 (ra_own151 hN) c2 ?_
      refine x_iast C d6_remove_61 (ra_own151 hN) c3 ?_
      refine r_aload_n C d6_remove_62 rfl ?_
      refine g_own_4 C d6_remove_63 f6_20 hN ?_
      refine r_iload_n C d6_remove_66 rfl ?_
      refine r_aload_n C d6_remove_67 rfl ?_
      refine g_own_4 C d6_remove_68 f6_20 hN ?_
      refine r_iload_n C d6_remove_71 rfl ?_
      refine r_iconst C d6_remove_72 ?_
      refine r_iadd C d6_remove_73 ?_
      refine x_iald C d6_remove_74 (ra_own152 hN) c2 ?_
      refine x_iast C d6_remove_75 (ra_own152 hN) c3 ?_
      refine x_iinc hx C d6_remove_76 rfl rfl ?_
      refine r_goto (tgt := 12) C d6_remove_79 rfl ?_
      exact AtH.sw (ih h K) ⟨rfl, rfl, trivial⟩
def f6_remove (V : VV) (x1 : Int) : Option VV := bd (f6_remove_L12 FU x1 (up2 V 148 5 ((V 148 5) - 1))) (fun W5 => some W5)
theorem ev6_remove {G : GT} {l : Launch} {V : VV} {x1 : Int} {V1 : VV} (hlt : l.stackTraces = false) (hN : 157 ≤ gN G) (h : f6_remove V x1 = some V1) : EvX G l y6_remove b6_remove 3 none 0 0 0 [.ref (gC G + 148), vI x1] V (.ok none) V1 := by
  refine ev_w hlt (by decide +kernel) rfl rfl (fun X hl hx C M => ?_)
  subst hl
  replace C : Cx G X "ChannelScheduleLaw$Own" b6_remove := C
  unfold f6_remove at h
  show At G X 0 0 0 [(0, .ref (gC G + 148)), (1, vI x1)] [] V
  refine r_aload_n C d6_remove_0 rfl ?_
  refine r_dup C d6_remove_1 rfl ?_
  refine g_own_5 C d6_remove_2 f6_45 hN ?_
  refine r_iconst C d6_remove_5 ?_
  refine r_isub C d6_remove_6 ?_
  refine p_own_5 C d6_remove_7 f6_45 hN ?_
  refine r_iload_n C d6_remove_10 rfl ?_
  refine x_istore_n hx C d6_remove_11 rfl ?_
  obtain ⟨W5, h6, h⟩ := bd_of h
  refine AtH.sw (lp6_remove_12 hN hx C M (Nat.le_of_ble_eq_true rfl) (Nat.le_of_ble_eq_true rfl) FU h6 ?_) ⟨rfl, rfl, trivial⟩
  exact e_v C M d6_remove_82 (Nat.le_of_ble_eq_true rfl) (Nat.le_of_ble_eq_true rfl) h
def f6_agrees_L58 (V : VV) (x1 : Int) : Nat → Int → Int → Option (Sum Int (Int))
  | 0, _, _ => none
  | n + 1, x2, x3 => (if nrm (V 148 5) ≤ nrm x3 then some (.inr x2) else ck ((0:Int) ≤ x3 ∧ x3 < 20) (ck ((0:Int) ≤ x1 ∧ x1 < 20) (bd ((if nrm (V 151 (Int.toNat x1)) ≤ nrm (V 151 (Int.toNat x3)) then some (0) else some (1))) (fun y15 => (if nrm x3 = nrm x1 then (if nrm x3 = nrm x1 then (if nrm (V 150 (Int.toNat x3)) = nrm (V 150 (Int.toNat x1)) then (if nrm (V 151 (Int.toNat x1)) ≤ nrm (V 151 (Int.toNat x3)) then f6_agrees_L58 V x1 n (x2 + y15) (x3 + 1) else (if nrm (V 152 (Int.toNat x3)) ≤ nrm (V 152 (Int.toNat x1)) then f6_agrees_L58 V x1 n (x2 + y15) (x3 + 1) else some (.inl 0))) else f6_agrees_L58 V x1 n (x2 + y15) (x3 + 1)) else (if nrm (V 150 (Int.toNat x3)) = nrm (V 150 (Int.toNat x1)) then (if nrm (V 150 (Int.toNat x3)) = nrm (V 150 (Int.toNat x1)) then (if nrm (V 151 (Int.toNat x1)) ≤ nrm (V 151 (Int.toNat x3)) then f6_agrees_L58 V x1 n (x2 + y15) (x3 + 1) else (if nrm (V 152 (Int.toNat x3)) ≤ nrm (V 152 (Int.toNat x1)) then f6_agrees_L58 V x1 n (x2 + y15) (x3 + 1) else some (.inl 0))) else f6_agrees_L58 V x1 n (x2 + y15) (x3 + 1)) else (if nrm (V 152 (Int.toNat x1)) ≤ nrm (V 151 (Int.toNat x3)) then (if nrm (V 150 (Int.toNat x3)) = nrm (V 150 (Int.toNat x1)) then (if nrm (V 151 (Int.toNat x1)) ≤ nrm (V 151 (Int.toNat x3)) then f6_agrees_L58 V x1 n (x2 + y15) (x3 + 1) else (if nrm (V 152 (Int.toNat x3)) ≤ nrm (V 152 (Int.toNat x1)) then f6_agrees_L58 V x1 n (x2 + y15) (x3 + 1) else some (.inl 0))) else f6_agrees_L58 V x1 n (x2 + y15) (x3 + 1)) else (if nrm (V 152 (Int.toNat x3)) ≤ nrm (V 151 (Int.toNat x1)) then (if nrm (V 150 (Int.toNat x3)) = nrm (V 150 (Int.toNat x1)) then (if nrm (V 151 (Int.toNat x1)) ≤ nrm (V 151 (Int.toNat x3)) then f6_agrees_L58 V x1 n (x2 + y15) (x3 + 1) else (if nrm (V 152 (Int.toNat x3)) ≤ nrm (V 152 (Int.toNat x1)) then f6_agrees_L58 V x1 n (x2 + y15) (x3 + 1) else some (.inl 0))) else f6_agrees_L58 V x1 n (x2 + y15) (x3 + 1)) else some (.inl 0))))) else bd (fL_conflict V (V 150 (Int.toNat x3)) (V 151 (Int.toNat x3)) (V 152 (Int.toNat x3)) (V 150 (Int.toNat x1)) (V 151 (Int.toNat x1)) (V 152 (Int.toNat x1))) (fun r36 => (if nrm r36 = 0 then (if nrm x3 = nrm x1 then (if nrm (V 150 (Int.toNat x3)) = nrm (V 150 (Int.toNat x1)) then (if nrm (V 151 (Int.toNat x1)) ≤ nrm (V 151 (Int.toNat x3)) then f6_agrees_L58 V x1 n (x2 + y15) (x3 + 1) else (if nrm (V 152 (Int.toNat x3)) ≤ nrm (V 152 (Int.toNat x1)) then f6_agrees_L58 V x1 n (x2 + y15) (x3 + 1) else some (.inl 0))) else f6_agrees_L58 V x1 n (x2 + y15) (x3 + 1)) else (if nrm (V 150 (Int.toNat x3)) = nrm (V 150 (Int.toNat x1)) then (if nrm (V 150 (Int.toNat x3)) = nrm (V 150 (Int.toNat x1)) then (if nrm (V 151 (Int.toNat x1)) ≤ nrm (V 151 (Int.toNat x3)) then f6_agrees_L58 V x1 n (x2 + y15) (x3 + 1) else (if nrm (V 152 (Int.toNat x3)) ≤ nrm (V 152 (Int.toNat x1)) then f6_agrees_L58 V x1 n (x2 + y15) (x3 + 1) else some (.inl 0))) else f6_agrees_L58 V x1 n (x2 + y15) (x3 + 1)) else (if nrm (V 152 (Int.toNat x1)) ≤ nrm (V 151 (Int.toNat x3)) then (if nrm (V 150 (Int.toNat x3)) = nrm (V 150 (Int.toNat x1)) then (if nrm (V 151 (Int.toNat x1)) ≤ nrm (V 151 (Int.toNat x3)) then f6_agrees_L58 V x1 n (x2 + y15) (x3 + 1) else (if nrm (V 152 (Int.toNat x3)) ≤ nrm (V 152 (Int.toNat x1)) then f6_agrees_L58 V x1 n (x2 + y15) (x3 + 1) else some (.inl 0))) else f6_agrees_L58 V x1 n (x2 + y15) (x3 + 1)) else (if nrm (V 152 (Int.toNat x3)) ≤ nrm (V 151 (Int.toNat x1)) then (if nrm (V 150 (Int.toNat x3)) = nrm (V 150 (Int.toNat x1)) then (if nrm (V 151 (Int.toNat x1)) ≤ nrm (V 151 (Int.toNat x3)) then f6_agrees_L58 V x1 n (x2 + y15) (x3 + 1) else (if nrm (V 152 (Int.toNat x3)) ≤ nrm (V 152 (Int.toNat x1)) then f6_agrees_L58 V x1 n (x2 + y15) (x3 + 1) else some (.inl 0))) else f6_agrees_L58 V x1 n (x2 + y15) (x3 + 1)) else some (.inl 0))))) else some (.inl 0))))))))
theorem lp6_agrees_58 {G : GT} {X : CT} {cells slots : Nat} {V : VV} (hN : 157 ≤ gN G) (hx : xN X = 4) (C : Cx G X "ChannelScheduleLaw$Own" b6_agrees) {x1 : Int} {r : Int} (M : MX G X 3 0 0 (some .boolean) (.ok (some (vI r))) V) (hc : cells ≤ 0) (hs : slots ≤ 0) : ∀ (n : Nat) {x2 : Int} {x3 : Int} {s : (Sum Int (Int))}, f6_agrees_L58 V x1 n x2 x3 = some s → (∀ q, s = .inl q → some q = some r) → (∀ (e2 : Int), s = .inr (e2) → At G X cells slots 247 [(0, .ref (gC G + 148)), (1, vI x1), (2, vI e2)] [] V) → At G X cells slots 58 [(0, .ref (gC G + 148)), (1, vI x1), (2, vI x2), (3, vI x3)] [] V := by
  intro n
  induction n with
  | zero => intro x2 x3 s h _ _; exact nomatch h
  | succ n ih =>
    intro x2 x3 s h hl K
    rw [f6_agrees_L58] at h
    refine r_iload_n C d6_agrees_58 rfl ?_
    refine r_aload_n C d6_agrees_59 rfl ?_
    refine g_own_5 C d6_agrees_60 f6_45 hN ?_
    refine x_icmpge (tgt := 247) C d6_agrees_63 rfl (fun c11 => ?_) (fun c11 => ?_)
    · replace h := ite_p c11 h
      exact AtH.sw (K _ (Option.some.inj h).symm) ⟨rfl, rfl, rfl, trivial⟩
    · replace h := ite_m c11 h
      refine r_iload_n C d6_agrees_66 rfl ?_
      refine r_aload_n C d6_agrees_67 rfl ?_
      refine g_own_3 C d6_agrees_68 f6_17 hN ?_
      refine r_iload_n C d6_agrees_71 rfl ?_
      obtain ⟨c12, h⟩ := ck_of h
      refine x_iald C d6_agrees_72 (ra_own151 hN) c12 ?_
      refine r_aload_n C d6_agrees_73 rfl ?_
      refine g_own_3 C d6_agrees_74 f6_17 hN ?_
      refine r_iload_n C d6_agrees_77 rfl ?_
      obtain ⟨c13, h⟩ := ck_of h
      refine x_iald C d6_agrees_78 (ra_own151 hN) c13 ?_
      obtain ⟨y15, h16, h⟩ := bd_of h
      suffices J17 : At G X cells slots 87 [(0, .ref (gC G + 148)), (1, vI x1), (3, vI x3)] [vI y15, vI x2] V by
        replace h := h16
        refine x_icmpge (tgt := 86) C d6_agrees_79 rfl (fun c14 => ?_) (fun c14 => ?_)
        · replace h := ite_p c14 h
          refine r_iconst C d6_agrees_86 ?_
          cases h
          exact AtH.sw J17 ⟨rfl, rfl, rfl, trivial⟩
        · replace h := ite_m c14 h
          refine r_iconst C d6_agrees_82 ?_
          refine r_goto (tgt := 87) C d6_agrees_83 rfl ?_
          cases h
          exact AtH.sw J17 ⟨rfl, rfl, rfl, trivial⟩
      refine r_iadd C d6_agrees_87 ?_
      refine x_istore_n hx C d6_agrees_88 rfl ?_
      refine r_iload_n C d6_agrees_89 rfl ?_
      refine r_iload_n C d6_agrees_90 rfl ?_
      refine x_icmpeq (tgt := 142) C d6_agrees_91 rfl (fun c18 => ?_) (fun c18 => ?_)
      · replace h := ite_p c18 h
        refine r_iload_n C d6_agrees_142 rfl ?_
        refine r_iload_n C d6_agrees_143 rfl ?_
        refine x_icmpeq (tgt := 194) C d6_agrees_144 rfl (fun c19 => ?_) (fun c19 => ?_)
        · replace h := ite_p c19 h
          refine r_aload_n C d6_agrees_194 rfl ?_
          refine g_own_2 C d6_agrees_195 f6_13 hN ?_
          refine r_iload_n C d6_agrees_198 rfl ?_
          refine x_zald C d6_agrees_199 (ra_own150 hN) c12 ?_
          refine r_aload_n C d6_agrees_200 rfl ?_
          refine g_own_2 C d6_agrees_201 f6_13 hN ?_
          refine r_iload_n C d6_agrees_204 rfl ?_
          refine x_zald C d6_agrees_205 (ra_own150 hN) c13 ?_
          refine x_icmpne (tgt := 241) C d6_agrees_206 rfl (fun c20 => ?_) (fun c20 => ?_)
          · replace h := ite_p c20 h
            refine r_aload_n C d6_agrees_209 rfl ?_
            refine g_own_3 C d6_agrees_210 f6_17 hN ?_
            refine r_iload_n C d6_agrees_213 rfl ?_
            refine x_iald C d6_agrees_214 (ra_own151 hN) c12 ?_
            refine r_aload_n C d6_agrees_215 rfl ?_
            refine g_own_3 C d6_agrees_216 f6_17 hN ?_
            refine r_iload_n C d6_agrees_219 rfl ?_
            refine x_iald C d6_agrees_220 (ra_own151 hN) c13 ?_
            refine x_icmpge (tgt := 241) C d6_agrees_221 rfl (fun c21 => ?_) (fun c21 => ?_)
            · replace h := ite_p c21 h
              refine x_iinc hx C d6_agrees_241 rfl rfl ?_
              refine r_goto (tgt := 58) C d6_agrees_244 rfl ?_
              exact AtH.sw (ih h hl K) ⟨rfl, rfl, rfl, rfl, trivial⟩
            · replace h := ite_m c21 h
              refine r_aload_n C d6_agrees_224 rfl ?_
              refine g_own_4 C d6_agrees_225 f6_20 hN ?_
              refine r_iload_n C d6_agrees_228 rfl ?_
              refine x_iald C d6_agrees_229 (ra_own152 hN) c12 ?_
              refine r_aload_n C d6_agrees_230 rfl ?_
              refine g_own_4 C d6_agrees_231 f6_20 hN ?_
              refine r_iload_n C d6_agrees_234 rfl ?_
              refine x_iald C d6_agrees_235 (ra_own152 hN) c13 ?_
              refine x_icmple (tgt := 241) C d6_agrees_236 rfl (fun c22 => ?_) (fun c22 => ?_)
              · replace h := ite_p c22 h
                refine x_iinc hx C d6_agrees_241 rfl rfl ?_
                refine r_goto (tgt := 58) C d6_agrees_244 rfl ?_
                exact AtH.sw (ih h hl K) ⟨rfl, rfl, rfl, rfl, trivial⟩
              · replace h := ite_m c22 h
                refine r_iconst C d6_agrees_239 ?_
                exact e_z C M d6_agrees_240 hc hs (Or.inl rfl) (hl _ (Option.some.inj h).symm)
          · replace h := ite_m c20 h
            refine x_iinc hx C d6_agrees_241 rfl rfl ?_
            refine r_goto (tgt := 58) C d6_agrees_244 rfl ?_
            exact AtH.sw (ih h hl K) ⟨rfl, rfl, rfl, rfl, trivial⟩
        · replace h := ite_m c19 h
          refine r_aload_n C d6_agrees_147 rfl ?_
          refine g_own_2 C d6_agrees_148 f6_13 hN ?_
          refine r_iload_n C d6_agrees_151 rfl ?_
          refine x_zald C d6_agrees_152 (ra_own150 hN) c12 ?_
          refine r_aload_n C d6_agrees_153 rfl ?_
          refine g_own_2 C d6_agrees_154 f6_13 hN ?_
          refine r_iload_n C d6_agrees_157 rfl ?_
          refine x_zald C d6_agrees_158 (ra_own150 hN) c13 ?_
          refine x_icmpeq (tgt := 194) C d6_agrees_159 rfl (fun c23 => ?_) (fun c23 => ?_)
          · replace h := ite_p c23 h
            refine r_aload_n C d6_agrees_194 rfl ?_
            refine g_own_2 C d6_agrees_195 f6_13 hN ?_
            refine r_iload_n C d6_agrees_198 rfl ?_
            refine x_zald C d6_agrees_199 (ra_own150 hN) c12 ?_
            refine r_aload_n C d6_agrees_200 rfl ?_
            refine g_own_2 C d6_agrees_201 f6_13 hN ?_
            refine r_iload_n C d6_agrees_204 rfl ?_
            refine x_zald C d6_agrees_205 (ra_own150 hN) c13 ?_
            refine x_icmpne (tgt := 241) C d6_agrees_206 rfl (fun c24 => ?_) (fun c24 => ?_)
            · replace h := ite_p c24 h
              refine r_aload_n C d6_agrees_209 rfl ?_
              refine g_own_3 C d6_agrees_210 f6_17 hN ?_
              refine r_iload_n C d6_agrees_213 rfl ?_
              refine x_iald C d6_agrees_214 (ra_own151 hN) c12 ?_
              refine r_aload_n C d6_agrees_215 rfl ?_
              refine g_own_3 C d6_agrees_216 f6_17 hN ?_
              refine r_iload_n C d6_agrees_219 rfl ?_
              refine x_iald C d6_agrees_220 (ra_own151 hN) c13 ?_
              refine x_icmpge (tgt := 241) C d6_agrees_221 rfl (fun c25 => ?_) (fun c25 => ?_)
              · replace h := ite_p c25 h
                refine x_iinc hx C d6_agrees_241 rfl rfl ?_
                refine r_goto (tgt := 58) C d6_agrees_244 rfl ?_
                exact AtH.sw (ih h hl K) ⟨rfl, rfl, rfl, rfl, trivial⟩
              · replace h := ite_m c25 h
                refine r_aload_n C d6_agrees_224 rfl ?_
                refine g_own_4 C d6_agrees_225 f6_20 hN ?_
                refine r_iload_n C d6_agrees_228 rfl ?_
                refine x_iald C d6_agrees_229 (ra_own152 hN) c12 ?_
                refine r_aload_n C d6_agrees_230 rfl ?_
                refine g_own_4 C d6_agrees_231 f6_20 hN ?_
                refine r_iload_n C d6_agrees_234 rfl ?_
                refine x_iald C d6_agrees_235 (ra_own152 hN) c13 ?_
                refine x_icmple (tgt := 241) C d6_agrees_236 rfl (fun c26 => ?_) (fun c26 => ?_)
                · replace h := ite_p c26 h
                  refine x_iinc hx C d6_agrees_241 rfl rfl ?_
                  refine r_goto (tgt := 58) C d6_agrees_244 rfl ?_
                  exact AtH.sw (ih h hl K) ⟨rfl, rfl, rfl, rfl, trivial⟩
                · replace h := ite_m c26 h
                  refine r_iconst C d6_agrees_239 ?_
                  exact e_z C M d6_agrees_240 hc hs (Or.inl rfl) (hl _ (Option.some.inj h).symm)
            · replace h := ite_m c24 h
              refine x_iinc hx C d6_agrees_241 rfl rfl ?_
              refine r_goto (tgt := 58) C d6_agrees_244 rfl ?_
              exact AtH.sw (ih h hl K) ⟨rfl, rfl, rfl, rfl, trivial⟩
          · replace h := ite_m c23 h
            refine r_aload_n C d6_agrees_162 rfl ?_
            refine g_own_3 C d6_agrees_163 f6_17 hN ?_
            refine r_iload_n C d6_agrees_166 rfl ?_
            refine x_iald C d6_agrees_167 (ra_own151 hN) c12 ?_
            refine r_aload_n C d6_agrees_168 rfl ?_
            refine g_own_4 C d6_agrees_169 f6_20 hN ?_
            refine r_iload_n C d6_agrees_172 rfl ?_
            refine x_iald C d6_agrees_173 (ra_own152 hN) c13 ?_
            refine x_icmpge (tgt := 194) C d6_agrees_174 rfl (fun c27 => ?_) (fun c27 => ?_)
            · replace h := ite_p c27 h
              refine r_aload_n C d6_agrees_194 rfl ?_
              refine g_own_2 C d6_agrees_195 f6_13 hN ?_
              refine r_iload_n C d6_agrees_198 rfl ?_
              refine x_zald C d6_agrees_199 (ra_own150 hN) c12 ?_
              refine r_aload_n C d6_agrees_200 rfl ?_
              refine g_own_2 C d6_agrees_201 f6_13 hN ?_
              refine r_iload_n C d6_agrees_204 rfl ?_
              refine x_zald C d6_agrees_205 (ra_own150 hN) c13 ?_
              refine x_icmpne (tgt := 241) C d6_agrees_206 rfl (fun c28 => ?_) (fun c28 => ?_)
              · replace h := ite_p c28 h
                refine r_aload_n C d6_agrees_209 rfl ?_
                refine g_own_3 C d6_agrees_210 f6_17 hN ?_
                refine r_iload_n C d6_agrees_213 rfl ?_
                refine x_iald C d6_agrees_214 (ra_own151 hN) c12 ?_
                refine r_aload_n C d6_agrees_215 rfl ?_
                refine g_own_3 C d6_agrees_216 f6_17 hN ?_
                refine r_iload_n C d6_agrees_219 rfl ?_
                refine x_iald C d6_agrees_220 (ra_own151 hN) c13 ?_
                refine x_icmpge (tgt := 241) C d6_agrees_221 rfl (fun c29 => ?_) (fun c29 => ?_)
                · replace h := ite_p c29 h
                  refine x_iinc hx C d6_agrees_241 rfl rfl ?_
                  refine r_goto (tgt := 58) C d6_agrees_244 rfl ?_
                  exact AtH.sw (ih h hl K) ⟨rfl, rfl, rfl, rfl, trivial⟩
                · replace h := ite_m c29 h
                  refine r_aload_n C d6_agrees_224 rfl ?_
                  refine g_own_4 C d6_agrees_225 f6_20 hN ?_
                  refine r_iload_n C d6_agrees_228 rfl ?_
                  refine x_iald C d6_agrees_229 (ra_own152 hN) c12 ?_
                  refine r_aload_n C d6_agrees_230 rfl ?_
                  refine g_own_4 C d6_agrees_231 f6_20 hN ?_
                  refine r_iload_n C d6_agrees_234 rfl ?_
                  refine x_iald C d6_agrees_235 (ra_own152 hN) c13 ?_
                  refine x_icmple (tgt := 241) C d6_agrees_236 rfl (fun c30 => ?_) (fun c30 => ?_)
                  · replace h := ite_p c30 h
                    refine x_iinc hx C d6_agrees_241 rfl rfl ?_
                    refine r_goto (tgt := 58) C d6_agrees_244 rfl ?_
                    exact AtH.sw (ih h hl K) ⟨rfl, rfl, rfl, rfl, trivial⟩
                  · replace h := ite_m c30 h
                    refine r_iconst C d6_agrees_239 ?_
                    exact e_z C M d6_agrees_240 hc hs (Or.inl rfl) (hl _ (Option.some.inj h).symm)
              · replace h := ite_m c28 h
                refine x_iinc hx C d6_agrees_241 rfl rfl ?_
                refine r_goto (tgt := 58) C d6_agrees_244 rfl ?_
                exact AtH.sw (ih h hl K) ⟨rfl, rfl, rfl, rfl, trivial⟩
            · replace h := ite_m c27 h
              refine r_aload_n C d6_agrees_177 rfl ?_
              refine g_own_3 C d6_agrees_178 f6_17 hN ?_
              refine r_iload_n C d6_agrees_181 rfl ?_
              refine x_iald C d6_agrees_182 (ra_own151 hN) c13 ?_
              refine r_aload_n C d6_agrees_183 rfl ?_
              refine g_own_4 C d6_agrees_184 f6_20 hN ?_
              refine r_iload_n C d6_agrees_187 rfl ?_
              refine x_iald C d6_agrees_188 (ra_own152 hN) c12 ?_
              refine x_icmpge (tgt := 194) C d6_agrees_189 rfl (fun c31 => ?_) (fun c31 => ?_)
              · replace h := ite_p c31 h
                refine r_aload_n C d6_agrees_194 rfl ?_
                refine g_own_2 C d6_agrees_195 f6_13 hN ?_
                refine r_iload_n C d6_agrees_198 rfl ?_
                refine x_zald C d6_agrees_199 (ra_own150 hN) c12 ?_
                refine r_aload_n C d6_agrees_200 rfl ?_
                refine g_own_2 C d6_agrees_201 f6_13 hN ?_
                refine r_iload_n C d6_agrees_204 rfl ?_
                refine x_zald C d6_agrees_205 (ra_own150 hN) c13 ?_
                refine x_icmpne (tgt := 241) C d6_agrees_206 rfl (fun c32 => ?_) (fun c32 => ?_)
                · replace h := ite_p c32 h
                  refine r_aload_n C d6_agrees_209 rfl ?_
                  refine g_own_3 C d6_agrees_210 f6_17 hN ?_
                  refine r_iload_n C d6_agrees_213 rfl ?_
                  refine x_iald C d6_agrees_214 (ra_own151 hN) c12 ?_
                  refine r_aload_n C d6_agrees_215 rfl ?_
                  refine g_own_3 C d6_agrees_216 f6_17 hN ?_
                  refine r_iload_n C d6_agrees_219 rfl ?_
                  refine x_iald C d6_agrees_220 (ra_own151 hN) c13 ?_
                  refine x_icmpge (tgt := 241) C d6_agrees_221 rfl (fun c33 => ?_) (fun c33 => ?_)
                  · replace h := ite_p c33 h
                    refine x_iinc hx C d6_agrees_241 rfl rfl ?_
                    refine r_goto (tgt := 58) C d6_agrees_244 rfl ?_
                    exact AtH.sw (ih h hl K) ⟨rfl, rfl, rfl, rfl, trivial⟩
                  · replace h := ite_m c33 h
                    refine r_aload_n C d6_agrees_224 rfl ?_
                    refine g_own_4 C d6_agrees_225 f6_20 hN ?_
                    refine r_iload_n C d6_agrees_228 rfl ?_
                    refine x_iald C d6_agrees_229 (ra_own152 hN) c12 ?_
                    refine r_aload_n C d6_agrees_230 rfl ?_
                    refine g_own_4 C d6_agrees_231 f6_20 hN ?_
                    refine r_iload_n C d6_agrees_234 rfl ?_
                    refine x_iald C d6_agrees_235 (ra_own152 hN) c13 ?_
                    refine x_icmple (tgt := 241) C d6_agrees_236 rfl (fun c34 => ?_) (fun c34 => ?_)
                    · replace h := ite_p c34 h
                      refine x_iinc hx C d6_agrees_241 rfl rfl ?_
                      refine r_goto (tgt := 58) C d6_agrees_244 rfl ?_
                      exact AtH.sw (ih h hl K) ⟨rfl, rfl, rfl, rfl, trivial⟩
                    · replace h := ite_m c34 h
                      refine r_iconst C d6_agrees_239 ?_
                      exact e_z C M d6_agrees_240 hc hs (Or.inl rfl) (hl _ (Option.some.inj h).symm)
                · replace h := ite_m c32 h
                  refine x_iinc hx C d6_agrees_241 rfl rfl ?_
                  refine r_goto (tgt := 58) C d6_agrees_244 rfl ?_
                  exact AtH.sw (ih h hl K) ⟨rfl, rfl, rfl, rfl, trivial⟩
              · replace h := ite_m c31 h
                refine r_iconst C d6_agrees_192 ?_
                exact e_z C M d6_agrees_193 hc hs (Or.inl rfl) (hl _ (Option.some.inj h).symm)
      · replace h := ite_m c18 h
        refine r_aload_n C d6_agrees_94 rfl ?_
        refine g_own_0 C d6_agrees_95 f6_35 hN ?_
        refine r_aload_n C d6_agrees_98 rfl ?_
        refine g_own_2 C d6_agrees_99 f6_13 hN ?_
        refine r_iload_n C d6_agrees_102 rfl ?_
        refine x_zald C d6_agrees_103 (ra_own150 hN) c12 ?_
        refine r_aload_n C d6_agrees_104 rfl ?_
        refine g_own_3 C d6_agrees_105 f6_17 hN ?_
        refine r_iload_n C d6_agrees_108 rfl ?_
        refine x_iald C d6_agrees_109 (ra_own151 hN) c12 ?_
        refine r_aload_n C d6_agrees_110 rfl ?_
        refine g_own_4 C d6_agrees_111 f6_20 hN ?_
        refine r_iload_n C d6_agrees_114 rfl ?_
        refine x_iald C d6_agrees_115 (ra_own152 hN) c12 ?_
        refine r_aload_n C d6_agrees_116 rfl ?_
        refine g_own_2 C d6_agrees_117 f6_13 hN ?_
        refine r_iload_n C d6_agrees_120 rfl ?_
        refine x_zald C d6_agrees_121 (ra_own150 hN) c13 ?_
        refine r_aload_n C d6_agrees_122 rfl ?_
        refine g_own_3 C d6_agrees_123 f6_17 hN ?_
        refine r_iload_n C d6_agrees_126 rfl ?_
        refine x_iald C d6_agrees_127 (ra_own151 hN) c13 ?_
        refine r_aload_n C d6_agrees_128 rfl ?_
        refine g_own_4 C d6_agrees_129 f6_20 hN ?_
        refine r_iload_n C d6_agrees_132 rfl ?_
        refine x_iald C d6_agrees_133 (ra_own152 hN) c13 ?_
        obtain ⟨r36, h35, h⟩ := bd_of h
        refine cN7_i C M d6_agrees_134 rfl wL_conflict (evL_conflict C.lt (hN8 hN) h35) rfl hc hs ?_
        refine x_ifeq (tgt := 142) C d6_agrees_137 rfl (fun c37 => ?_) (fun c37 => ?_)
        · replace h := ite_p c37 h
          refine r_iload_n C d6_agrees_142 rfl ?_
          refine r_iload_n C d6_agrees_143 rfl ?_
          refine x_icmpeq (tgt := 194) C d6_agrees_144 rfl (fun c38 => ?_) (fun c38 => ?_)
          · replace h := ite_p c38 h
            refine r_aload_n C d6_agrees_194 rfl ?_
            refine g_own_2 C d6_agrees_195 f6_13 hN ?_
            refine r_iload_n C d6_agrees_198 rfl ?_
            refine x_zald C d6_agrees_199 (ra_own150 hN) c12 ?_
            refine r_aload_n C d6_agrees_200 rfl ?_
            refine g_own_2 C d6_agrees_201 f6_13 hN ?_
            refine r_iload_n C d6_agrees_204 rfl ?_
            refine x_zald C d6_agrees_205 (ra_own150 hN) c13 ?_
            refine x_icmpne (tgt := 241) C d6_agrees_206 rfl (fun c39 => ?_) (fun c39 => ?_)
            · replace h := ite_p c39 h
              refine r_aload_n C d6_agrees_209 rfl ?_
              refine g_own_3 C d6_agrees_210 f6_17 hN ?_
              refine r_iload_n C d6_agrees_213 rfl ?_
              refine x_iald C d6_agrees_214 (ra_own151 hN) c12 ?_
              refine r_aload_n C d6_agrees_215 rfl ?_
              refine g_own_3 C d6_agrees_216 f6_17 hN ?_
              refine r_iload_n C d6_agrees_219 rfl ?_
              refine x_iald C d6_agrees_220 (ra_own151 hN) c13 ?_
              refine x_icmpge (tgt := 241) C d6_agrees_221 rfl (fun c40 => ?_) (fun c40 => ?_)
              · replace h := ite_p c40 h
                refine x_iinc hx C d6_agrees_241 rfl rfl ?_
                refine r_goto (tgt := 58) C d6_agrees_244 rfl ?_
                exact AtH.sw (ih h hl K) ⟨rfl, rfl, rfl, rfl, trivial⟩
              · replace h := ite_m c40 h
                refine r_aload_n C d6_agrees_224 rfl ?_
                refine g_own_4 C d6_agrees_225 f6_20 hN ?_
                refine r_iload_n C d6_agrees_228 rfl ?_
                refine x_iald C d6_agrees_229 (ra_own152 hN) c12 ?_
                refine r_aload_n C d6_agrees_230 rfl ?_
                refine g_own_4 C d6_agrees_231 f6_20 hN ?_
                refine r_iload_n C d6_agrees_234 rfl ?_
                refine x_iald C d6_agrees_235 (ra_own152 hN) c13 ?_
                refine x_icmple (tgt := 241) C d6_agrees_236 rfl (fun c41 => ?_) (fun c41 => ?_)
                · replace h := ite_p c41 h
                  refine x_iinc hx C d6_agrees_241 rfl rfl ?_
                  refine r_goto (tgt := 58) C d6_agrees_244 rfl ?_
                  exact AtH.sw (ih h hl K) ⟨rfl, rfl, rfl, rfl, trivial⟩
                · replace h := ite_m c41 h
                  refine r_iconst C d6_agrees_239 ?_
                  exact e_z C M d6_agrees_240 hc hs (Or.inl rfl) (hl _ (Option.some.inj h).symm)
            · replace h := ite_m c39 h
              refine x_iinc hx C d6_agrees_241 rfl rfl ?_
              refine r_goto (tgt := 58) C d6_agrees_244 rfl ?_
              exact AtH.sw (ih h hl K) ⟨rfl, rfl, rfl, rfl, trivial⟩
          · replace h := ite_m c38 h
            refine r_aload_n C d6_agrees_147 rfl ?_
            refine g_own_2 C d6_agrees_148 f6_13 hN ?_
            refine r_iload_n C d6_agrees_151 rfl ?_
            refine x_zald C d6_agrees_152 (ra_own150 hN) c12 ?_
            refine r_aload_n C d6_agrees_153 rfl ?_
            refine g_own_2 C d6_agrees_154 f6_13 hN ?_
            refine r_iload_n C d6_agrees_157 rfl ?_
            refine x_zald C d6_agrees_158 (ra_own150 hN) c13 ?_
            refine x_icmpeq (tgt := 194) C d6_agrees_159 rfl (fun c42 => ?_) (fun c42 => ?_)
            · replace h := ite_p c42 h
              refine r_aload_n C d6_agrees_194 rfl ?_
              refine g_own_2 C d6_agrees_195 f6_13 hN ?_
              refine r_iload_n C d6_agrees_198 rfl ?_
              refine x_zald C d6_agrees_199 (ra_own150 hN) c12 ?_
              refine r_aload_n C d6_agrees_200 rfl ?_
              refine g_own_2 C d6_agrees_201 f6_13 hN ?_
              refine r_iload_n C d6_agrees_204 rfl ?_
              refine x_zald C d6_agrees_205 (ra_own150 hN) c13 ?_
              refine x_icmpne (tgt := 241) C d6_agrees_206 rfl (fun c43 => ?_) (fun c43 => ?_)
              · replace h := ite_p c43 h
                refine r_aload_n C d6_agrees_209 rfl ?_
                refine g_own_3 C d6_agrees_210 f6_17 hN ?_
                refine r_iload_n C d6_agrees_213 rfl ?_
                refine x_iald C d6_agrees_214 (ra_own151 hN) c12 ?_
                refine r_aload_n C d6_agrees_215 rfl ?_
                refine g_own_3 C d6_agrees_216 f6_17 hN ?_
                refine r_iload_n C d6_agrees_219 rfl ?_
                refine x_iald C d6_agrees_220 (ra_own151 hN) c13 ?_
                refine x_icmpge (tgt := 241) C d6_agrees_221 rfl (fun c44 => ?_) (fun c44 => ?_)
                · replace h := ite_p c44 h
                  refine x_iinc hx C d6_agrees_241 rfl rfl ?_
                  refine r_goto (tgt := 58) C d6_agrees_244 rfl ?_
                  exact AtH.sw (ih h hl K) ⟨rfl, rfl, rfl, rfl, trivial⟩
                · replace h := ite_m c44 h
                  refine r_aload_n C d6_agrees_224 rfl ?_
                  refine g_own_4 C d6_agrees_225 f6_20 hN ?_
                  refine r_iload_n C d6_agrees_228 rfl ?_
                  refine x_iald C d6_agrees_229 (ra_own152 hN) c12 ?_
                  refine r_aload_n C d6_agrees_230 rfl ?_
                  refine g_own_4 C d6_agrees_231 f6_20 hN ?_
                  refine r_iload_n C d6_agrees_234 rfl ?_
                  refine x_iald C d6_agrees_235 (ra_own152 hN) c13 ?_
                  refine x_icmple (tgt := 241) C d6_agrees_236 rfl (fun c45 => ?_) (fun c45 => ?_)
                  · replace h := ite_p c45 h
                    refine x_iinc hx C d6_agrees_241 rfl rfl ?_
                    refine r_goto (tgt := 58) C d6_agrees_244 rfl ?_
                    exact AtH.sw (ih h hl K) ⟨rfl, rfl, rfl, rfl, trivial⟩
                  · replace h := ite_m c45 h
                    refine r_iconst C d6_agrees_239 ?_
                    exact e_z C M d6_agrees_240 hc hs (Or.inl rfl) (hl _ (Option.some.inj h).symm)
              · replace h := ite_m c43 h
                refine x_iinc hx C d6_agrees_241 rfl rfl ?_
                refine r_goto (tgt := 58) C d6_agrees_244 rfl ?_
                exact AtH.sw (ih h hl K) ⟨rfl, rfl, rfl, rfl, trivial⟩
            · replace h := ite_m c42 h
              refine r_aload_n C d6_agrees_162 rfl ?_
              refine g_own_3 C d6_agrees_163 f6_17 hN ?_
              refine r_iload_n C d6_agrees_166 rfl ?_
              refine x_iald C d6_agrees_167 (ra_own151 hN) c12 ?_
              refine r_aload_n C d6_agrees_168 rfl ?_
              refine g_own_4 C d6_agrees_169 f6_20 hN ?_
              refine r_iload_n C d6_agrees_172 rfl ?_
              refine x_iald C d6_agrees_173 (ra_own152 hN) c13 ?_
              refine x_icmpge (tgt := 194) C d6_agrees_174 rfl (fun c46 => ?_) (fun c46 => ?_)
              · replace h := ite_p c46 h
                refine r_aload_n C d6_agrees_194 rfl ?_
                refine g_own_2 C d6_agrees_195 f6_13 hN ?_
                refine r_iload_n C d6_agrees_198 rfl ?_
                refine x_zald C d6_agrees_199 (ra_own150 hN) c12 ?_
                refine r_aload_n C d6_agrees_200 rfl ?_
                refine g_own_2 C d6_agrees_201 f6_13 hN ?_
                refine r_iload_n C d6_agrees_204 rfl ?_
                refine x_zald C d6_agrees_205 (ra_own150 hN) c13 ?_
                refine x_icmpne (tgt := 241) C d6_agrees_206 rfl (fun c47 => ?_) (fun c47 => ?_)
                · replace h := ite_p c47 h
                  refine r_aload_n C d6_agrees_209 rfl ?_
                  refine g_own_3 C d6_agrees_210 f6_17 hN ?_
                  refine r_iload_n C d6_agrees_213 rfl ?_
                  refine x_iald C d6_agrees_214 (ra_own151 hN) c12 ?_
                  refine r_aload_n C d6_agrees_215 rfl ?_
                  refine g_own_3 C d6_agrees_216 f6_17 hN ?_
                  refine r_iload_n C d6_agrees_219 rfl ?_
                  refine x_iald C d6_agrees_220 (ra_own151 hN) c13 ?_
                  refine x_icmpge (tgt := 241) C d6_agrees_221 rfl (fun c48 => ?_) (fun c48 => ?_)
                  · replace h := ite_p c48 h
                    refine x_iinc hx C d6_agrees_241 rfl rfl ?_
                    refine r_goto (tgt := 58) C d6_agrees_244 rfl ?_
                    exact AtH.sw (ih h hl K) ⟨rfl, rfl, rfl, rfl, trivial⟩
                  · replace h := ite_m c48 h
                    refine r_aload_n C d6_agrees_224 rfl ?_
                    refine g_own_4 C d6_agrees_225 f6_20 hN ?_
                    refine r_iload_n C d6_agrees_228 rfl ?_
                    refine x_iald C d6_agrees_229 (ra_own152 hN) c12 ?_
                    refine r_aload_n C d6_agrees_230 rfl ?_
                    refine g_own_4 C d6_agrees_231 f6_20 hN ?_
                    refine r_iload_n C d6_agrees_234 rfl ?_
                    refine x_iald C d6_agrees_235 (ra_own152 hN) c13 ?_
                    refine x_icmple (tgt := 241) C d6_agrees_236 rfl (fun c49 => ?_) (fun c49 => ?_)
                    · replace h := ite_p c49 h
                      refine x_iinc hx C d6_agrees_241 rfl rfl ?_
                      refine r_goto (tgt := 58) C d6_agrees_244 rfl ?_
                      exact AtH.sw (ih h hl K) ⟨rfl, rfl, rfl, rfl, trivial⟩
                    · replace h := ite_m c49 h
                      refine r_iconst C d6_agrees_239 ?_
                      exact e_z C M d6_agrees_240 hc hs (Or.inl rfl) (hl _ (Option.some.inj h).symm)
                · replace h := ite_m c47 h
                  refine x_iinc hx C d6_agrees_241 rfl rfl ?_
                  refine r_goto (tgt := 58) C d6_agrees_244 rfl ?_
                  exact AtH.sw (ih h hl K) ⟨rfl, rfl, rfl, rfl, trivial⟩
              · replace h := ite_m c46 h
                refine r_aload_n C d6_agrees_177 rfl ?_
                refine g_own_3 C d6_agrees_178 f6_17 hN ?_
                refine r_iload_n C d6_agrees_181 rfl ?_
                refine x_iald C d6_agrees_182 (ra_own151 hN) c13 ?_
                refine r_aload_n C d6_agrees_183 rfl ?_
                refine g_own_4 C d6_agrees_184 f6_20 hN ?_
                refine r_iload_n C d6_agrees_187 rfl ?_
                refine x_iald C d6_agrees_188 (ra_own152 hN) c12 ?_
                refine x_icmpge (tgt := 194) C d6_agrees_189 rfl (fun c50 => ?_) (fun c50 => ?_)
                · replace h := ite_p c50 h
                  refine r_aload_n C d6_agrees_194 rfl ?_
                  refine g_own_2 C d6_agrees_195 f6_13 hN ?_
                  refine r_iload_n C d6_agrees_198 rfl ?_
                  refine x_zald C d6_agrees_199 (ra_own150 hN) c12 ?_
                  refine r_aload_n C d6_agrees_200 rfl ?_
                  refine g_own_2 C d6_agrees_201 f6_13 hN ?_
                  refine r_iload_n C d6_agrees_204 rfl ?_
                  refine x_zald C d6_agrees_205 (ra_own150 hN) c13 ?_
                  refine x_icmpne (tgt := 241) C d6_agrees_206 rfl (fun c51 => ?_) (fun c51 => ?_)
                  · replace h := ite_p c51 h
                    refine r_aload_n C d6_agrees_209 rfl ?_
                    refine g_own_3 C d6_agrees_210 f6_17 hN ?_
                    refine r_iload_n C d6_agrees_213 rfl ?_
                    refine x_iald C d6_agrees_214 (ra_own151 hN) c12 ?_
                    refine r_aload_n C d6_agrees_215 rfl ?_
                    refine g_own_3 C d6_agrees_216 f6_17 hN ?_
                    refine r_iload_n C d6_agrees_219 rfl ?_
                    refine x_iald C d6_agrees_220 (ra_own151 hN) c13 ?_
                    refine x_icmpge (tgt := 241) C d6_agrees_221 rfl (fun c52 => ?_) (fun c52 => ?_)
                    · replace h := ite_p c52 h
                      refine x_iinc hx C d6_agrees_241 rfl rfl ?_
                      refine r_goto (tgt := 58) C d6_agrees_244 rfl ?_
                      exact AtH.sw (ih h hl K) ⟨rfl, rfl, rfl, rfl, trivial⟩
                    · replace h := ite_m c52 h
                      refine r_aload_n C d6_agrees_224 rfl ?_
                      refine g_own_4 C d6_agrees_225 f6_20 hN ?_
                      refine r_iload_n C d6_agrees_228 rfl ?_
                      refine x_iald C d6_agrees_229 (ra_own152 hN) c12 ?_
                      refine r_aload_n C d6_agrees_230 rfl ?_
                      refine g_own_4 C d6_agrees_231 f6_20 hN ?_
                      refine r_iload_n C d6_agrees_234 rfl ?_
                      refine x_iald C d6_agrees_235 (ra_own152 hN) c13 ?_
                      refine x_icmple (tgt := 241) C d6_agrees_236 rfl (fun c53 => ?_) (fun c53 => ?_)
                      · replace h := ite_p c53 h
                        refine x_iinc hx C d6_agrees_241 rfl rfl ?_
                        refine r_goto (tgt := 58) C d6_agrees_244 rfl ?_
                        exact AtH.sw (ih h hl K) ⟨rfl, rfl, rfl, rfl, trivial⟩
                      · replace h := ite_m c53 h
                        refine r_iconst C d6_agrees_239 ?_
                        exact e_z C M d6_agrees_240 hc hs (Or.inl rfl) (hl _ (Option.some.inj h).symm)
                  · replace h := ite_m c51 h
                    refine x_iinc hx C d6_agrees_241 rfl rfl ?_
                    refine r_goto (tgt := 58) C d6_agrees_244 rfl ?_
                    exact AtH.sw (ih h hl K) ⟨rfl, rfl, rfl, rfl, trivial⟩
                · replace h := ite_m c50 h
                  refine r_iconst C d6_agrees_192 ?_
                  exact e_z C M d6_agrees_193 hc hs (Or.inl rfl) (hl _ (Option.some.inj h).symm)
        · replace h := ite_m c37 h
          refine r_iconst C d6_agrees_140 ?_
          exact e_z C M d6_agrees_141 hc hs (Or.inl rfl) (hl _ (Option.some.inj h).symm)
def f6_agrees_L46 (V : VV) : Nat → Int → Option (Sum Int (Unit))
  | 0, _ => none
  | n + 1, x1 => (if nrm (V 148 5) ≤ nrm x1 then some (.inr ()) else bdl2 (f6_agrees_L58 V x1 FU 0 0) (fun y54 => bd (f5_bookedShip V y54) (fun r59 => ck ((0:Int) ≤ x1 ∧ x1 < 20) ((if nrm r59 = nrm (V 149 (Int.toNat x1)) then bd (f5_isInbound V y54) (fun r63 => (if nrm r63 = nrm (V 150 (Int.toNat x1)) then bd (f5_startMinute V y54) (fun r66 => (if nrm r66 = nrm (V 151 (Int.toNat x1)) then bd (f5_endMinute V y54) (fun r69 => (if nrm r69 = nrm (V 152 (Int.toNat x1)) then f6_agrees_L46 V n (x1 + 1) else some (.inl 0))) else some (.inl 0))) else some (.inl 0))) else some (.inl 0))))))
theorem lp6_agrees_46 {G : GT} {X : CT} {cells slots : Nat} {V : VV} (hN : 157 ≤ gN G) (hx : xN X = 4) (C : Cx G X "ChannelScheduleLaw$Own" b6_agrees) {r : Int} (M : MX G X 3 0 0 (some .boolean) (.ok (some (vI r))) V) (hc : cells ≤ 0) (hs : slots ≤ 0) : ∀ (n : Nat) {x1 : Int} {s : (Sum Int (Unit))}, f6_agrees_L46 V n x1 = some s → (∀ q, s = .inl q → some q = some r) → (∀ (_u : Unit), s = .inr _u → At G X cells slots 323 [(0, .ref (gC G + 148))] [] V) → At G X cells slots 46 [(0, .ref (gC G + 148)), (1, vI x1)] [] V := by
  intro n
  induction n with
  | zero => intro x1 s h _ _; exact nomatch h
  | succ n ih =>
    intro x1 s h hl K
    rw [f6_agrees_L46] at h
    refine r_iload_n C d6_agrees_46 rfl ?_
    refine r_aload_n C d6_agrees_47 rfl ?_
    refine g_own_5 C d6_agrees_48 f6_45 hN ?_
    refine x_icmpge (tgt := 323) C d6_agrees_51 rfl (fun c10 => ?_) (fun c10 => ?_)
    · replace h := ite_p c10 h
      exact AtH.sw (K _ (Option.some.inj h).symm) ⟨rfl, trivial⟩
    · replace h := ite_m c10 h
      refine r_iconst C d6_agrees_54 ?_
      refine x_istore_n hx C d6_agrees_55 rfl ?_
      refine r_iconst C d6_agrees_56 ?_
      refine x_istore_n hx C d6_agrees_57 rfl ?_
      obtain ⟨s57, h55, l56, h⟩ := bdl2_of h
      refine AtH.sw (lp6_agrees_58 hN hx C M hc hs FU h55 (fun q e => hl q (Option.some.inj (l56 q e)).symm) (fun y54 e9 => ?_)) ⟨rfl, rfl, rfl, rfl, trivial⟩
      replace h := h y54 e9
      refine r_aload_n C d6_agrees_247 rfl ?_
      refine g_own_0 C d6_agrees_248 f6_35 hN ?_
      refine r_iload_n C d6_agrees_251 rfl ?_
      obtain ⟨r59, h58, h⟩ := bd_of h
      refine cV1_i C M d6_agrees_252 l6_55 w5_bookedShip (rc_main (hN8 hN)) (ev5_bookedShip C.lt (hN8 hN) h58) rfl hc hs ?_
      refine r_aload_n C d6_agrees_255 rfl ?_
      refine g_own_1 C d6_agrees_256 f6_7 hN ?_
      refine r_iload_n C d6_agrees_259 rfl ?_
      obtain ⟨c60, h⟩ := ck_of h
      refine x_iald C d6_agrees_260 (ra_own149 hN) c60 ?_
      refine x_icmpne (tgt := 315) C d6_agrees_261 rfl (fun c61 => ?_) (fun c61 => ?_)
      · replace h := ite_p c61 h
        refine r_aload_n C d6_agrees_264 rfl ?_
        refine g_own_0 C d6_agrees_265 f6_35 hN ?_
        refine r_iload_n C d6_agrees_268 rfl ?_
        obtain ⟨r63, h62, h⟩ := bd_of h
        refine cV1_i C M d6_agrees_269 l6_59 w5_isInbound (rc_main (hN8 hN)) (ev5_isInbound C.lt (hN8 hN) h62) rfl hc hs ?_
        refine r_aload_n C d6_agrees_272 rfl ?_
        refine g_own_2 C d6_agrees_273 f6_13 hN ?_
        refine r_iload_n C d6_agrees_276 rfl ?_
        refine x_zald C d6_agrees_277 (ra_own150 hN) c60 ?_
        refine x_icmpne (tgt := 315) C d6_agrees_278 rfl (fun c64 => ?_) (fun c64 => ?_)
        · replace h := ite_p c64 h
          refine r_aload_n C d6_agrees_281 rfl ?_
          refine g_own_0 C d6_agrees_282 f6_35 hN ?_
          refine r_iload_n C d6_agrees_285 rfl ?_
          obtain ⟨r66, h65, h⟩ := bd_of h
          refine cV1_i C M d6_agrees_286 l6_63 w5_startMinute (rc_main (hN8 hN)) (ev5_startMinute C.lt (hN8 hN) h65) rfl hc hs ?_
          refine r_aload_n C d6_agrees_289 rfl ?_
          refine g_own_3 C d6_agrees_290 f6_17 hN ?_
          refine r_iload_n C d6_agrees_293 rfl ?_
          refine x_iald C d6_agrees_294 (ra_own151 hN) c60 ?_
          refine x_icmpne (tgt := 315) C d6_agrees_295 rfl (fun c67 => ?_) (fun c67 => ?_)
          · replace h := ite_p c67 h
            refine r_aload_n C d6_agrees_298 rfl ?_
            refine g_own_0 C d6_agrees_299 f6_35 hN ?_
            refine r_iload_n C d6_agrees_302 rfl ?_
            obtain ⟨r69, h68, h⟩ := bd_of h
            refine cV1_i C M d6_agrees_303 l6_66 w5_endMinute (rc_main (hN8 hN)) (ev5_endMinute C.lt (hN8 hN) h68) rfl hc hs ?_
            refine r_aload_n C d6_agrees_306 rfl ?_
            refine g_own_4 C d6_agrees_307 f6_20 hN ?_
            refine r_iload_n C d6_agrees_310 rfl ?_
            refine x_iald C d6_agrees_311 (ra_own152 hN) c60 ?_
            refine x_icmpeq (tgt := 317) C d6_agrees_312 rfl (fun c70 => ?_) (fun c70 => ?_)
            · replace h := ite_p c70 h
              refine x_iinc hx C d6_agrees_317 rfl rfl ?_
              refine r_goto (tgt := 46) C d6_agrees_320 rfl ?_
              exact AtH.sw (ih h hl K) ⟨rfl, rfl, trivial⟩
            · replace h := ite_m c70 h
              refine r_iconst C d6_agrees_315 ?_
              exact e_z C M d6_agrees_316 hc hs (Or.inl rfl) (hl _ (Option.some.inj h).symm)
          · replace h := ite_m c67 h
            refine r_iconst C d6_agrees_315 ?_
            exact e_z C M d6_agrees_316 hc hs (Or.inl rfl) (hl _ (Option.some.inj h).symm)
        · replace h := ite_m c64 h
          refine r_iconst C d6_agrees_315 ?_
          exact e_z C M d6_agrees_316 hc hs (Or.inl rfl) (hl _ (Option.some.inj h).symm)
      · replace h := ite_m c61 h
        refine r_iconst C d6_agrees_315 ?_
        exact e_z C M d6_agrees_316 hc hs (Or.inl rfl) (hl _ (Option.some.inj h).symm)
def f6_agrees_L325 (V : VV) : Nat → Int → Option Int
  | 0, _ => none
  | n + 1, x1 => (if nrm (V 148 10) ≤ nrm x1 then bd (f5_inconsistencies V) (fun r76 => (if nrm r76 = 0 then some 1 else some 0)) else bd (f5_requestedShip V x1) (fun r79 => ck ((0:Int) ≤ x1 ∧ x1 < 8) ((if nrm r79 = nrm (V 153 (Int.toNat x1)) then bd (f5_isRequestInbound V x1) (fun r83 => (if nrm r83 = nrm (V 154 (Int.toNat x1)) then bd (f5_earliestRequested V x1) (fun r86 => (if nrm r86 = nrm (V 155 (Int.toNat x1)) then bd (f5_latestRequested V x1) (fun r89 => (if nrm r89 = nrm (V 156 (Int.toNat x1)) then f6_agrees_L325 V n (x1 + 1) else some 0)) else some 0)) else some 0)) else some 0))))
theorem lp6_agrees_325 {G : GT} {X : CT} {cells slots : Nat} {V : VV} (hN : 157 ≤ gN G) (hx : xN X = 4) (C : Cx G X "ChannelScheduleLaw$Own" b6_agrees) : ∀ (n : Nat) {x1 : Int} {r : Int}, MX G X 3 0 0 (some .boolean) (.ok (some (vI r))) V → cells ≤ 0 → slots ≤ 0 → f6_agrees_L325 V n x1 = some r → At G X cells slots 325 [(0, .ref (gC G + 148)), (1, vI x1)] [] V := by
  intro n
  induction n with
  | zero => intro x1 r _ _ _ h; exact nomatch h
  | succ n ih =>
    intro x1 r M hc hs h
    rw [f6_agrees_L325] at h
    refine r_iload_n C d6_agrees_325 rfl ?_
    refine r_aload_n C d6_agrees_326 rfl ?_
    refine g_own_10 C d6_agrees_327 f6_72 hN ?_
    refine x_icmpge (tgt := 409) C d6_agrees_330 rfl (fun c74 => ?_) (fun c74 => ?_)
    · replace h := ite_p c74 h
      refine r_aload_n C d6_agrees_409 rfl ?_
      refine g_own_0 C d6_agrees_410 f6_35 hN ?_
      obtain ⟨r76, h75, h⟩ := bd_of h
      refine cV0_i C M d6_agrees_413 l6_111 w5_inconsistencies (rc_main (hN8 hN)) (ev5_inconsistencies C.lt (hN8 hN) h75) rfl hc hs ?_
      refine x_ifne (tgt := 423) C d6_agrees_416 rfl (fun c77 => ?_) (fun c77 => ?_)
      · replace h := ite_p c77 h
        refine r_iconst C d6_agrees_419 ?_
        refine r_goto (tgt := 424) C d6_agrees_420 rfl ?_
        exact e_z C M d6_agrees_424 hc hs (Or.inr rfl) h
      · replace h := ite_m c77 h
        refine r_iconst C d6_agrees_423 ?_
        exact e_z C M d6_agrees_424 hc hs (Or.inl rfl) h
    · replace h := ite_m c74 h
      refine r_aload_n C d6_agrees_333 rfl ?_
      refine g_own_0 C d6_agrees_334 f6_35 hN ?_
      refine r_iload_n C d6_agrees_337 rfl ?_
      obtain ⟨r79, h78, h⟩ := bd_of h
      refine cV1_i C M d6_agrees_338 l6_75 w5_requestedShip (rc_main (hN8 hN)) (ev5_requestedShip C.lt (hN8 hN) h78) rfl hc hs ?_
      refine r_aload_n C d6_agrees_341 rfl ?_
      refine g_own_6 C d6_agrees_342 f6_23 hN ?_
      refine r_iload_n C d6_agrees_345 rfl ?_
      obtain ⟨c80, h⟩ := ck_of h
      refine x_iald C d6_agrees_346 (ra_own153 hN) c80 ?_
      refine x_icmpne (tgt := 401) C d6_agrees_347 rfl (fun c81 => ?_) (fun c81 => ?_)
      · replace h := ite_p c81 h
        refine r_aload_n C d6_agrees_350 rfl ?_
        refine g_own_0 C d6_agrees_351 f6_35 hN ?_
        refine r_iload_n C d6_agrees_354 rfl ?_
        obtain ⟨r83, h82, h⟩ := bd_of h
        refine cV1_i C M d6_agrees_355 l6_78 w5_isRequestInbound (rc_main (hN8 hN)) (ev5_isRequestInbound C.lt (hN8 hN) h82) rfl hc hs ?_
        refine r_aload_n C d6_agrees_358 rfl ?_
        refine g_own_7 C d6_agrees_359 f6_26 hN ?_
        refine r_iload_n C d6_agrees_362 rfl ?_
        refine x_zald C d6_agrees_363 (ra_own154 hN) c80 ?_
        refine x_icmpne (tgt := 401) C d6_agrees_364 rfl (fun c84 => ?_) (fun c84 => ?_)
        · replace h := ite_p c84 h
          refine r_aload_n C d6_agrees_367 rfl ?_
          refine g_own_0 C d6_agrees_368 f6_35 hN ?_
          refine r_iload_n C d6_agrees_371 rfl ?_
          obtain ⟨r86, h85, h⟩ := bd_of h
          refine cV1_i C M d6_agrees_372 l6_81 w5_earliestRequested (rc_main (hN8 hN)) (ev5_earliestRequested C.lt (hN8 hN) h85) rfl hc hs ?_
          refine r_aload_n C d6_agrees_375 rfl ?_
          refine g_own_8 C d6_agrees_376 f6_29 hN ?_
          refine r_iload_n C d6_agrees_379 rfl ?_
          refine x_iald C d6_agrees_380 (ra_own155 hN) c80 ?_
          refine x_icmpne (tgt := 401) C d6_agrees_381 rfl (fun c87 => ?_) (fun c87 => ?_)
          · replace h := ite_p c87 h
            refine r_aload_n C d6_agrees_384 rfl ?_
            refine g_own_0 C d6_agrees_385 f6_35 hN ?_
            refine r_iload_n C d6_agrees_388 rfl ?_
            obtain ⟨r89, h88, h⟩ := bd_of h
            refine cV1_i C M d6_agrees_389 l6_84 w5_latestRequested (rc_main (hN8 hN)) (ev5_latestRequested C.lt (hN8 hN) h88) rfl hc hs ?_
            refine r_aload_n C d6_agrees_392 rfl ?_
            refine g_own_9 C d6_agrees_393 f6_32 hN ?_
            refine r_iload_n C d6_agrees_396 rfl ?_
            refine x_iald C d6_agrees_397 (ra_own156 hN) c80 ?_
            refine x_icmpeq (tgt := 403) C d6_agrees_398 rfl (fun c90 => ?_) (fun c90 => ?_)
            · replace h := ite_p c90 h
              refine x_iinc hx C d6_agrees_403 rfl rfl ?_
              refine r_goto (tgt := 325) C d6_agrees_406 rfl ?_
              exact AtH.sw (ih M hc hs h) ⟨rfl, rfl, trivial⟩
            · replace h := ite_m c90 h
              refine r_iconst C d6_agrees_401 ?_
              exact e_z C M d6_agrees_402 hc hs (Or.inl rfl) h
          · replace h := ite_m c87 h
            refine r_iconst C d6_agrees_401 ?_
            exact e_z C M d6_agrees_402 hc hs (Or.inl rfl) h
        · replace h := ite_m c84 h
          refine r_iconst C d6_agrees_401 ?_
          exact e_z C M d6_agrees_402 hc hs (Or.inl rfl) h
      · replace h := ite_m c81 h
        refine r_iconst C d6_agrees_401 ?_
        exact e_z C M d6_agrees_402 hc hs (Or.inl rfl) h
def f6_agrees (V : VV) : Option Int := bd (f5_bookingCount V) (fun r2 => (if nrm r2 = nrm (V 148 5) then bd (f5_requestCount V) (fun r5 => (if nrm r5 = nrm (V 148 10) then bd (f5_requestsServed V) (fun r8 => (if nrm r8 = nrm (V 148 11) then bdl (f6_agrees_L46 V FU 0) (fun _u => f6_agrees_L325 V FU 0) else some 0)) else some 0)) else some 0))
theorem ev6_agrees {G : GT} {l : Launch} {V : VV} {r : Int} (hlt : l.stackTraces = false) (hN : 157 ≤ gN G) (h : f6_agrees V = some r) : EvX G l y6_agrees b6_agrees 4 (some .boolean) 3 0 0 [.ref (gC G + 148)] V (.ok (some (vI r))) V := by
  refine ev_w hlt (by decide +kernel) rfl rfl (fun X hl hx C M => ?_)
  subst hl
  replace C : Cx G X "ChannelScheduleLaw$Own" b6_agrees := C
  unfold f6_agrees at h
  show At G X 0 0 0 [(0, .ref (gC G + 148))] [] V
  refine r_aload_n C d6_agrees_0 rfl ?_
  refine g_own_0 C d6_agrees_1 f6_35 hN ?_
  obtain ⟨r2, h1, h⟩ := bd_of h
  refine cV0_i C M d6_agrees_4 l6_39 w5_bookingCount (rc_main (hN8 hN)) (ev5_bookingCount C.lt (hN8 hN) h1) rfl (Nat.le_of_ble_eq_true rfl) (Nat.le_of_ble_eq_true rfl) ?_
  refine r_aload_n C d6_agrees_7 rfl ?_
  refine g_own_5 C d6_agrees_8 f6_45 hN ?_
  refine x_icmpne (tgt := 42) C d6_agrees_11 rfl (fun c3 => ?_) (fun c3 => ?_)
  · replace h := ite_p c3 h
    refine r_aload_n C d6_agrees_14 rfl ?_
    refine g_own_0 C d6_agrees_15 f6_35 hN ?_
    obtain ⟨r5, h4, h⟩ := bd_of h
    refine cV0_i C M d6_agrees_18 l6_69 w5_requestCount (rc_main (hN8 hN)) (ev5_requestCount C.lt (hN8 hN) h4) rfl (Nat.le_of_ble_eq_true rfl) (Nat.le_of_ble_eq_true rfl) ?_
    refine r_aload_n C d6_agrees_21 rfl ?_
    refine g_own_10 C d6_agrees_22 f6_72 hN ?_
    refine x_icmpne (tgt := 42) C d6_agrees_25 rfl (fun c6 => ?_) (fun c6 => ?_)
    · replace h := ite_p c6 h
      refine r_aload_n C d6_agrees_28 rfl ?_
      refine g_own_0 C d6_agrees_29 f6_35 hN ?_
      obtain ⟨r8, h7, h⟩ := bd_of h
      refine cV0_i C M d6_agrees_32 l6_49 w5_requestsServed (rc_main (hN8 hN)) (ev5_requestsServed C.lt (hN8 hN) h7) rfl (Nat.le_of_ble_eq_true rfl) (Nat.le_of_ble_eq_true rfl) ?_
      refine r_aload_n C d6_agrees_35 rfl ?_
      refine g_own_11 C d6_agrees_36 f6_52 hN ?_
      refine x_icmpeq (tgt := 44) C d6_agrees_39 rfl (fun c9 => ?_) (fun c9 => ?_)
      · replace h := ite_p c9 h
        refine r_iconst C d6_agrees_44 ?_
        refine x_istore_n hx C d6_agrees_45 rfl ?_
        obtain ⟨s73, h71, l72, h⟩ := bdl_of h
        refine AtH.sw (lp6_agrees_46 hN hx C M (Nat.le_of_ble_eq_true rfl) (Nat.le_of_ble_eq_true rfl) FU h71 l72 (fun _u e9 => ?_)) ⟨rfl, rfl, trivial⟩
        replace h := h _u e9
        refine r_iconst C d6_agrees_323 ?_
        refine x_istore_n hx C d6_agrees_324 rfl ?_
        exact AtH.sw (lp6_agrees_325 hN hx C FU M (Nat.le_of_ble_eq_true rfl) (Nat.le_of_ble_eq_true rfl) h) ⟨rfl, rfl, trivial⟩
      · replace h := ite_m c9 h
        refine r_iconst C d6_agrees_42 ?_
        exact e_z C M d6_agrees_43 (Nat.le_of_ble_eq_true rfl) (Nat.le_of_ble_eq_true rfl) (Or.inl rfl) h
    · replace h := ite_m c6 h
      refine r_iconst C d6_agrees_42 ?_
      exact e_z C M d6_agrees_43 (Nat.le_of_ble_eq_true rfl) (Nat.le_of_ble_eq_true rfl) (Or.inl rfl) h
  · replace h := ite_m c3 h
    refine r_iconst C d6_agrees_42 ?_
    exact e_z C M d6_agrees_43 (Nat.le_of_ble_eq_true rfl) (Nat.le_of_ble_eq_true rfl) (Or.inl rfl) h
def fL_act (V : VV) (x1 : Int) : Option VV := ck (0 < nrm 16) (bd (f5_shipCount V) (fun r3 => ck (0 < nrm r3) (ck (0 < nrm 256) (ck (0 < nrm 2) (bd ((if nrm ((nrm ((nrm x1).tdiv (nrm 256))).tmod (nrm 2)) = 0 then some (1) else some (0))) (fun y8 => ck (0 < nrm 512) (ck (0 < nrm 160) (ck (0 < nrm 12) ((if nrm ((nrm x1).tmod (nrm 12)) = 0 then bd (f5_minute V) (fun r22 => (if nrm ((nrm ((nrm x1).tdiv (nrm 512))).tmod (nrm 160)) < nrm r22 then some V else bd (f5_bookingCount V) (fun r25 => (if nrm 20 ≤ nrm r25 then some V else bd (f5_conflictCount V ((nrm ((nrm x1).tdiv (nrm 16))).tmod (nrm r3)) y8 ((nrm ((nrm x1).tdiv (nrm 512))).tmod (nrm 160))) (fun r28 => (if nrm r28 = 0 then bd2 (f5_book V ((nrm ((nrm x1).tdiv (nrm 16))).tmod (nrm r3)) y8 ((nrm ((nrm x1).tdiv (nrm 512))).tmod (nrm 160))) (fun r31 W32 => some W32) else some V)))))) else if nrm ((nrm x1).tmod (nrm 12)) = 1 then bd (f5_minute V) (fun r34 => (if nrm ((nrm ((nrm x1).tdiv (nrm 512))).tmod (nrm 160)) < nrm r34 then some V else bd (f5_bookingCount V) (fun r37 => (if nrm 20 ≤ nrm r37 then some V else bd (f5_conflictCount V ((nrm ((nrm x1).tdiv (nrm 16))).tmod (nrm r3)) y8 ((nrm ((nrm x1).tdiv (nrm 512))).tmod (nrm 160))) (fun r40 => (if nrm r40 = 0 then bd2 (f5_book V ((nrm ((nrm x1).tdiv (nrm 16))).tmod (nrm r3)) y8 ((nrm ((nrm x1).tdiv (nrm 512))).tmod (nrm 160))) (fun r43 W44 => some W44) else some V)))))) else if nrm ((nrm x1).tmod (nrm 12)) = 2 then bd (f5_minute V) (fun r46 => (if nrm ((nrm ((nrm x1).tdiv (nrm 512))).tmod (nrm 160)) < nrm r46 then some V else bd (f5_bookingCount V) (fun r49 => (if nrm 20 ≤ nrm r49 then some V else bd (f5_conflictCount V ((nrm ((nrm x1).tdiv (nrm 16))).tmod (nrm r3)) y8 ((nrm ((nrm x1).tdiv (nrm 512))).tmod (nrm 160))) (fun r52 => (if nrm r52 = 0 then bd2 (f5_book V ((nrm ((nrm x1).tdiv (nrm 16))).tmod (nrm r3)) y8 ((nrm ((nrm x1).tdiv (nrm 512))).tmod (nrm 160))) (fun r55 W56 => some W56) else some V)))))) else if nrm ((nrm x1).tmod (nrm 12)) = 3 then bd (f5_bookingCount V) (fun r58 => (if nrm r58 ≤ 0 then some V else ck (0 < nrm 131072) (bd (f5_bookingCount V) (fun r62 => ck (0 < nrm r62) (bd (f5_startMinute V ((nrm ((nrm x1).tdiv (nrm 131072))).tmod (nrm r62))) (fun r65 => bd (f5_minute V) (fun r67 => (if nrm r65 ≤ nrm r67 then some V else bd2 (f5_cancel V ((nrm ((nrm x1).tdiv (nrm 131072))).tmod (nrm r62))) (fun r70 W71 => some W71))))))))) else if nrm ((nrm x1).tmod (nrm 12)) = 4 then bd (f5_requestCount V) (fun r73 => (if nrm r73 ≤ 0 then some V else ck (0 < nrm 131072) (bd (f5_requestCount V) (fun r77 => ck (0 < nrm r77) (bd2 (f5_withdraw V ((nrm ((nrm x1).tdiv (nrm 131072))).tmod (nrm r77))) (fun r80 W81 => some W81)))))) else if nrm ((nrm x1).tmod (nrm 12)) = 5 then ck (0 < nrm 131072) (ck (0 < nrm 10) (bd2 (f5_setThickness V ((nrm ((nrm x1).tdiv (nrm 131072))).tmod (nrm 10))) (fun r85 W86 => some W86))) else if nrm ((nrm x1).tmod (nrm 12)) = 6 then ck (0 < nrm 131072) (bd2 (f5_advance V (1 + ((nrm ((nrm x1).tdiv (nrm 131072))).tmod (nrm 12)))) (fun r89 W90 => some W90)) else bd (f5_requestCount V) (fun r92 => (if nrm 8 ≤ nrm r92 then some V else ck (0 < nrm 131072) (ck (0 < nrm 25) (bd2 (f5_request V ((nrm ((nrm x1).tdiv (nrm 16))).tmod (nrm r3)) y8 ((nrm ((nrm x1).tdiv (nrm 512))).tmod (nrm 160)) (((nrm ((nrm x1).tdiv (nrm 512))).tmod (nrm 160)) + ((nrm ((nrm x1).tdiv (nrm 131072))).tmod (nrm 25)))) (fun r97 W98 => some W98)))))))))))))))
theorem evL_act {G : GT} {l : Launch} {V : VV} {x1 : Int} {V1 : VV} (hlt : l.stackTraces = false) (hN : 148 ≤ gN G) (h : fL_act V x1 = some V1) : EvX G l yL_act bL_act 6 none 6 0 0 [.ref (gB G + 0), vI x1] V (.ok none) V1 := by
  refine ev_w hlt (by decide +kernel) rfl rfl (fun X hl hx C M => ?_)
  subst hl
  replace C : Cx G X "ChannelScheduleLaw" bL_act := C
  unfold fL_act at h
  show At G X 0 0 0 [(0, .ref (gB G + 0)), (1, vI x1)] [] V
  refine r_iload_n C dL_act_0 rfl ?_
  refine r_bipush C dL_act_1 (by decide +kernel) ?_
  obtain ⟨c1, h⟩ := ck_of h
  refine x_idiv C dL_act_3 c1 ?_
  refine r_aload_n C dL_act_4 rfl ?_
  obtain ⟨r3, h2, h⟩ := bd_of h
  refine cV0_i C M dL_act_5 lL_67 w5_shipCount (rc_main hN) (ev5_shipCount C.lt hN h2) rfl (Nat.le_of_ble_eq_true rfl) (Nat.le_of_ble_eq_true rfl) ?_
  obtain ⟨c4, h⟩ := ck_of h
  refine x_irem C dL_act_8 c4 ?_
  refine x_istore_n hx C dL_act_9 rfl ?_
  refine r_iload_n C dL_act_10 rfl ?_
  refine r_sipush C dL_act_11 (by decide +kernel) ?_
  obtain ⟨c5, h⟩ := ck_of h
  refine x_idiv C dL_act_14 c5 ?_
  refine r_iconst C dL_act_15 ?_
  obtain ⟨c6, h⟩ := ck_of h
  refine x_irem C dL_act_16 c6 ?_
  obtain ⟨y8, h9, h⟩ := bd_of h
  suffices J10 : At G X 0 0 25 [(0, .ref (gB G + 0)), (1, vI x1), (2, vI ((nrm ((nrm x1).tdiv (nrm 16))).tmod (nrm r3)))] [vI y8] V by
    replace h := h9
    refine x_ifne (tgt := 24) C dL_act_17 rfl (fun c7 => ?_) (fun c7 => ?_)
    · replace h := ite_p c7 h
      refine r_iconst C dL_act_20 ?_
      refine r_goto (tgt := 25) C dL_act_21 rfl ?_
      cases h
      exact AtH.sw J10 ⟨rfl, rfl, rfl, trivial⟩
    · replace h := ite_m c7 h
      refine r_iconst C dL_act_24 ?_
      cases h
      exact AtH.sw J10 ⟨rfl, rfl, rfl, trivial⟩
  refine x_istore_n hx C dL_act_25 rfl ?_
  refine r_iload_n C dL_act_26 rfl ?_
  refine r_sipush C dL_act_27 (by decide +kernel) ?_
  obtain ⟨c11, h⟩ := ck_of h
  refine x_idiv C dL_act_30 c11 ?_
  refine r_sipush C dL_act_31 (by decide +kernel) ?_
  obtain ⟨c12, h⟩ := ck_of h
  refine x_irem C dL_act_34 c12 ?_
  refine x_istore hx C dL_act_35 rfl ?_
  refine r_iload_n C dL_act_37 rfl ?_
  refine r_bipush C dL_act_38 (by decide +kernel) ?_
  obtain ⟨c13, h⟩ := ck_of h
  refine x_irem C dL_act_40 c13 ?_
  refine x_tsw7 (t0 := 84) (t1 := 84) (t2 := 84) (t3 := 125) (t4 := 166) (t5 := 190) (t6 := 205) (td := 222) C dL_act_41 rfl rfl rfl rfl rfl rfl rfl rfl (fun c14 => ?_) (fun c15 => ?_) (fun c16 => ?_) (fun c17 => ?_) (fun c18 => ?_) (fun c19 => ?_) (fun c20 => ?_) (fun c14 c15 c16 c17 c18 c19 c20 => ?_)
  · replace h := ite_p c14 h
    refine r_iload C dL_act_84 rfl ?_
    refine r_aload_n C dL_act_86 rfl ?_
    obtain ⟨r22, h21, h⟩ := bd_of h
    refine cV0_i C M dL_act_87 lL_70 w5_minute (rc_main hN) (ev5_minute C.lt hN h21) rfl (Nat.le_of_ble_eq_true rfl) (Nat.le_of_ble_eq_true rfl) ?_
    refine x_icmplt (tgt := 250) C dL_act_90 rfl (fun c23 => ?_) (fun c23 => ?_)
    · replace h := ite_p c23 h
      exact e_v C M dL_act_250 (Nat.le_of_ble_eq_true rfl) (Nat.le_of_ble_eq_true rfl) h
    · replace h := ite_m c23 h
      refine r_aload_n C dL_act_93 rfl ?_
      obtain ⟨r25, h24, h⟩ := bd_of h
      refine cV0_i C M dL_act_94 lL_73 w5_bookingCount (rc_main hN) (ev5_bookingCount C.lt hN h24) rfl (Nat.le_of_ble_eq_true rfl) (Nat.le_of_ble_eq_true rfl) ?_
      refine r_bipush C dL_act_97 (by decide +kernel) ?_
      refine x_icmpge (tgt := 250) C dL_act_99 rfl (fun c26 => ?_) (fun c26 => ?_)
      · replace h := ite_p c26 h
        exact e_v C M dL_act_250 (Nat.le_of_ble_eq_true rfl) (Nat.le_of_ble_eq_true rfl) h
      · replace h := ite_m c26 h
        refine r_aload_n C dL_act_102 rfl ?_
        refine r_iload_n C dL_act_103 rfl ?_
        refine r_iload_n C dL_act_104 rfl ?_
        refine r_iload C dL_act_105 rfl ?_
        obtain ⟨r28, h27, h⟩ := bd_of h
        refine cV3_i C M dL_act_107 lL_76 w5_conflictCount (rc_main hN) (ev5_conflictCount C.lt hN h27) rfl (Nat.le_of_ble_eq_true rfl) (Nat.le_of_ble_eq_true rfl) ?_
        refine x_ifne (tgt := 250) C dL_act_110 rfl (fun c29 => ?_) (fun c29 => ?_)
        · replace h := ite_p c29 h
          refine r_aload_n C dL_act_113 rfl ?_
          refine r_iload_n C dL_act_114 rfl ?_
          refine r_iload_n C dL_act_115 rfl ?_
          refine r_iload C dL_act_116 rfl ?_
          obtain ⟨r31, W32, h30, h⟩ := bd2_of h
          refine cV3_i C M dL_act_118 lL_80 w5_book (rc_main hN) (ev5_book C.lt hN h30) rfl (Nat.le_of_ble_eq_true rfl) (Nat.le_of_ble_eq_true rfl) ?_
          refine r_pop C dL_act_121 rfl ?_
          refine r_goto (tgt := 250) C dL_act_122 rfl ?_
          exact e_v C M dL_act_250 (Nat.le_of_ble_eq_true rfl) (Nat.le_of_ble_eq_true rfl) h
        · replace h := ite_m c29 h
          exact e_v C M dL_act_250 (Nat.le_of_ble_eq_true rfl) (Nat.le_of_ble_eq_true rfl) h
  · replace h := ite_p c15 (ite_m (by omega : ¬ nrm ((nrm x1).tmod (nrm 12)) = 0) h)
    refine r_iload C dL_act_84 rfl ?_
    refine r_aload_n C dL_act_86 rfl ?_
    obtain ⟨r34, h33, h⟩ := bd_of h
    refine cV0_i C M dL_act_87 lL_70 w5_minute (rc_main hN) (ev5_minute C.lt hN h33) rfl (Nat.le_of_ble_eq_true rfl) (Nat.le_of_ble_eq_true rfl) ?_
    refine x_icmplt (tgt := 250) C dL_act_90 rfl (fun c35 => ?_) (fun c35 => ?_)
    · replace h := ite_p c35 h
      exact e_v C M dL_act_250 (Nat.le_of_ble_eq_true rfl) (Nat.le_of_ble_eq_true rfl) h
    · replace h := ite_m c35 h
      refine r_aload_n C dL_act_93 rfl ?_
      obtain ⟨r37, h36, h⟩ := bd_of h
      refine cV0_i C M dL_act_94 lL_73 w5_bookingCount (rc_main hN) (ev5_bookingCount C.lt hN h36) rfl (Nat.le_of_ble_eq_true rfl) (Nat.le_of_ble_eq_true rfl) ?_
      refine r_bipush C dL_act_97 (by decide +kernel) ?_
      refine x_icmpge (tgt := 250) C dL_act_99 rfl (fun c38 => ?_) (fun c38 => ?_)
      · replace h := ite_p c38 h
        exact e_v C M dL_act_250 (Nat.le_of_ble_eq_true rfl) (Nat.le_of_ble_eq_true rfl) h
      · replace h := ite_m c38 h
        refine r_aload_n C dL_act_102 rfl ?_
        refine r_iload_n C dL_act_103 rfl ?_
        refine r_iload_n C dL_act_104 rfl ?_
        refine r_iload C dL_act_105 rfl ?_
        obtain ⟨r40, h39, h⟩ := bd_of h
        refine cV3_i C M dL_act_107 lL_76 w5_conflictCount (rc_main hN) (ev5_conflictCount C.lt hN h39) rfl (Nat.le_of_ble_eq_true rfl) (Nat.le_of_ble_eq_true rfl) ?_
        refine x_ifne (tgt := 250) C dL_act_110 rfl (fun c41 => ?_) (fun c41 => ?_)
        · replace h := ite_p c41 h
          refine r_aload_n C dL_act_113 rfl ?_
          refine r_iload_n C dL_act_114 rfl ?_
          refine r_iload_n C dL_act_115 rfl ?_
          refine r_iload C dL_act_116 rfl ?_
          obtain ⟨r43, W44, h42, h⟩ := bd2_of h
          refine cV3_i C M dL_act_118 lL_80 w5_book (rc_main hN) (ev5_book C.lt hN h42) rfl (Nat.le_of_ble_eq_true rfl) (Nat.le_of_ble_eq_true rfl) ?_
          refine r_pop C dL_act_121 rfl ?_
          refine r_goto (tgt := 250) C dL_act_122 rfl ?_
          exact e_v C M dL_act_250 (Nat.le_of_ble_eq_true rfl) (Nat.le_of_ble_eq_true rfl) h
        · replace h := ite_m c41 h
          exact e_v C M dL_act_250 (Nat.le_of_ble_eq_true rfl) (Nat.le_of_ble_eq_true rfl) h
  · replace h := ite_p c16 (ite_m (by omega : ¬ nrm ((nrm x1).tmod (nrm 12)) = 1) (ite_m (by omega : ¬ nrm ((nrm x1).tmod (nrm 12)) = 0) h))
    refine r_iload C dL_act_84 rfl ?_
    refine r_aload_n C dL_act_86 rfl ?_
    obtain ⟨r46, h45, h⟩ := bd_of h
    refine cV0_i C M dL_act_87 lL_70 w5_minute (rc_main hN) (ev5_minute C.lt hN h45) rfl (Nat.le_of_ble_eq_true rfl) (Nat.le_of_ble_eq_true rfl) ?_
    refine x_icmplt (tgt := 250) C dL_act_90 rfl (fun c47 => ?_) (fun c47 => ?_)
    · replace h := ite_p c47 h
      exact e_v C M dL_act_250 (Nat.le_of_ble_eq_true rfl) (Nat.le_of_ble_eq_true rfl) h
    · replace h := ite_m c47 h
      refine r_aload_n C dL_act_93 rfl ?_
      obtain ⟨r49, h48, h⟩ := bd_of h
      refine cV0_i C M dL_act_94 lL_73 w5_bookingCount (rc_main hN) (ev5_bookingCount C.lt hN h48) rfl (Nat.le_of_ble_eq_true rfl) (Nat.le_of_ble_eq_true rfl) ?_
      refine r_bipush C dL_act_97 (by decide +kernel) ?_
      refine x_icmpge (tgt := 250) C dL_act_99 rfl (fun c50 => ?_) (fun c50 => ?_)
      · replace h := ite_p c50 h
        exact e_v C M dL_act_250 (Nat.le_of_ble_eq_true rfl) (Nat.le_of_ble_eq_true rfl) h
      · replace h := ite_m c50 h
        refine r_aload_n C dL_act_102 rfl ?_
        refine r_iload_n C dL_act_103 rfl ?_
        refine r_iload_n C dL_act_104 rfl ?_
        refine r_iload C dL_act_105 rfl ?_
        obtain ⟨r52, h51, h⟩ := bd_of h
        refine cV3_i C M dL_act_107 lL_76 w5_conflictCount (rc_main hN) (ev5_conflictCount C.lt hN h51) rfl (Nat.le_of_ble_eq_true rfl) (Nat.le_of_ble_eq_true rfl) ?_
        refine x_ifne (tgt := 250) C dL_act_110 rfl (fun c53 => ?_) (fun c53 => ?_)
        · replace h := ite_p c53 h
          refine r_aload_n C dL_act_113 rfl ?_
          refine r_iload_n C dL_act_114 rfl ?_
          refine r_iload_n C dL_act_115 rfl ?_
          refine r_iload C dL_act_116 rfl ?_
          obtain ⟨r55, W56, h54, h⟩ := bd2_of h
          refine cV3_i C M dL_act_118 lL_80 w5_book (rc_main hN) (ev5_book C.lt hN h54) rfl (Nat.le_of_ble_eq_true rfl) (Nat.le_of_ble_eq_true rfl) ?_
          refine r_pop C dL_act_121 rfl ?_
          refine r_goto (tgt := 250) C dL_act_122 rfl ?_
          exact e_v C M dL_act_250 (Nat.le_of_ble_eq_true rfl) (Nat.le_of_ble_eq_true rfl) h
        · replace h := ite_m c53 h
          exact e_v C M dL_act_250 (Nat.le_of_ble_eq_true rfl) (Nat.le_of_ble_eq_true rfl) h
  · replace h := ite_p c17 (ite_m (by omega : ¬ nrm ((nrm x1).tmod (nrm 12)) = 2) (ite_m (by omega : ¬ nrm ((nrm x1).tmod (nrm 12)) = 1) (ite_m (by omega : ¬ nrm ((nrm x1).tmod (nrm 12)) = 0) h)))
    refine r_aload_n C dL_act_125 rfl ?_
    obtain ⟨r58, h57, h⟩ := bd_of h
    refine cV0_i C M dL_act_126 lL_73 w5_bookingCount (rc_main hN) (ev5_bookingCount C.lt hN h57) rfl (Nat.le_of_ble_eq_true rfl) (Nat.le_of_ble_eq_true rfl) ?_
    refine x_ifle (tgt := 250) C dL_act_129 rfl (fun c59 => ?_) (fun c59 => ?_)
    · replace h := ite_p c59 h
      exact e_v C M dL_act_250 (Nat.le_of_ble_eq_true rfl) (Nat.le_of_ble_eq_true rfl) h
    · replace h := ite_m c59 h
      refine r_iload_n C dL_act_132 rfl ?_
      refine r_ldci (z := 131072) C dL_act_133 kkL_83 (by decide +kernel) ?_
      obtain ⟨c60, h⟩ := ck_of h
      refine x_idiv C dL_act_135 c60 ?_
      refine r_aload_n C dL_act_136 rfl ?_
      obtain ⟨r62, h61, h⟩ := bd_of h
      refine cV0_i C M dL_act_137 lL_73 w5_bookingCount (rc_main hN) (ev5_bookingCount C.lt hN h61) rfl (Nat.le_of_ble_eq_true rfl) (Nat.le_of_ble_eq_true rfl) ?_
      obtain ⟨c63, h⟩ := ck_of h
      refine x_irem C dL_act_140 c63 ?_
      refine x_istore hx C dL_act_141 rfl ?_
      refine r_aload_n C dL_act_143 rfl ?_
      refine r_iload C dL_act_144 rfl ?_
      obtain ⟨r65, h64, h⟩ := bd_of h
      refine cV1_i C M dL_act_146 lL_84 w5_startMinute (rc_main hN) (ev5_startMinute C.lt hN h64) rfl (Nat.le_of_ble_eq_true rfl) (Nat.le_of_ble_eq_true rfl) ?_
      refine r_aload_n C dL_act_149 rfl ?_
      obtain ⟨r67, h66, h⟩ := bd_of h
      refine cV0_i C M dL_act_150 lL_70 w5_minute (rc_main hN) (ev5_minute C.lt hN h66) rfl (Nat.le_of_ble_eq_true rfl) (Nat.le_of_ble_eq_true rfl) ?_
      refine x_icmple (tgt := 163) C dL_act_153 rfl (fun c68 => ?_) (fun c68 => ?_)
      · replace h := ite_p c68 h
        refine r_goto (tgt := 250) C dL_act_163 rfl ?_
        exact e_v C M dL_act_250 (Nat.le_of_ble_eq_true rfl) (Nat.le_of_ble_eq_true rfl) h
      · replace h := ite_m c68 h
        refine r_aload_n C dL_act_156 rfl ?_
        refine r_iload C dL_act_157 rfl ?_
        obtain ⟨r70, W71, h69, h⟩ := bd2_of h
        refine cV1_i C M dL_act_159 lL_87 w5_cancel (rc_main hN) (ev5_cancel C.lt hN h69) rfl (Nat.le_of_ble_eq_true rfl) (Nat.le_of_ble_eq_true rfl) ?_
        refine r_pop C dL_act_162 rfl ?_
        refine r_goto (tgt := 250) C dL_act_163 rfl ?_
        exact e_v C M dL_act_250 (Nat.le_of_ble_eq_true rfl) (Nat.le_of_ble_eq_true rfl) h
  · replace h := ite_p c18 (ite_m (by omega : ¬ nrm ((nrm x1).tmod (nrm 12)) = 3) (ite_m (by omega : ¬ nrm ((nrm x1).tmod (nrm 12)) = 2) (ite_m (by omega : ¬ nrm ((nrm x1).tmod (nrm 12)) = 1) (ite_m (by omega : ¬ nrm ((nrm x1).tmod (nrm 12)) = 0) h))))
    refine r_aload_n C dL_act_166 rfl ?_
    obtain ⟨r73, h72, h⟩ := bd_of h
    refine cV0_i C M dL_act_167 lL_90 w5_requestCount (rc_main hN) (ev5_requestCount C.lt hN h72) rfl (Nat.le_of_ble_eq_true rfl) (Nat.le_of_ble_eq_true rfl) ?_
    refine x_ifle (tgt := 250) C dL_act_170 rfl (fun c74 => ?_) (fun c74 => ?_)
    · replace h := ite_p c74 h
      exact e_v C M dL_act_250 (Nat.le_of_ble_eq_true rfl) (Nat.le_of_ble_eq_true rfl) h
    · replace h := ite_m c74 h
      refine r_aload_n C dL_act_173 rfl ?_
      refine r_iload_n C dL_act_174 rfl ?_
      refine r_ldci (z := 131072) C dL_act_175 kkL_83 (by decide +kernel) ?_
      obtain ⟨c75, h⟩ := ck_of h
      refine x_idiv C dL_act_177 c75 ?_
      refine r_aload_n C dL_act_178 rfl ?_
      obtain ⟨r77, h76, h⟩ := bd_of h
      refine cV0_i C M dL_act_179 lL_90 w5_requestCount (rc_main hN) (ev5_requestCount C.lt hN h76) rfl (Nat.le_of_ble_eq_true rfl) (Nat.le_of_ble_eq_true rfl) ?_
      obtain ⟨c78, h⟩ := ck_of h
      refine x_irem C dL_act_182 c78 ?_
      obtain ⟨r80, W81, h79, h⟩ := bd2_of h
      refine cV1_i C M dL_act_183 lL_93 w5_withdraw (rc_main hN) (ev5_withdraw C.lt hN h79) rfl (Nat.le_of_ble_eq_true rfl) (Nat.le_of_ble_eq_true rfl) ?_
      refine r_pop C dL_act_186 rfl ?_
      refine r_goto (tgt := 250) C dL_act_187 rfl ?_
      exact e_v C M dL_act_250 (Nat.le_of_ble_eq_true rfl) (Nat.le_of_ble_eq_true rfl) h
  · replace h := ite_p c19 (ite_m (by omega : ¬ nrm ((nrm x1).tmod (nrm 12)) = 4) (ite_m (by omega : ¬ nrm ((nrm x1).tmod (nrm 12)) = 3) (ite_m (by omega : ¬ nrm ((nrm x1).tmod (nrm 12)) = 2) (ite_m (by omega : ¬ nrm ((nrm x1).tmod (nrm 12)) = 1) (ite_m (by omega : ¬ nrm ((nrm x1).tmod (nrm 12)) = 0) h)))))
    refine r_aload_n C dL_act_190 rfl ?_
    refine r_iload_n C dL_act_191 rfl ?_
    refine r_ldci (z := 131072) C dL_act_192 kkL_83 (by decide +kernel) ?_
    obtain ⟨c82, h⟩ := ck_of h
    refine x_idiv C dL_act_194 c82 ?_
    refine r_bipush C dL_act_195 (by decide +kernel) ?_
    obtain ⟨c83, h⟩ := ck_of h
    refine x_irem C dL_act_197 c83 ?_
    obtain ⟨r85, W86, h84, h⟩ := bd2_of h
    refine cV1_i C M dL_act_198 lL_96 w5_setThickness (rc_main hN) (ev5_setThickness C.lt hN h84) rfl (Nat.le_of_ble_eq_true rfl) (Nat.le_of_ble_eq_true rfl) ?_
    refine r_pop C dL_act_201 rfl ?_
    refine r_goto (tgt := 250) C dL_act_202 rfl ?_
    exact e_v C M dL_act_250 (Nat.le_of_ble_eq_true rfl) (Nat.le_of_ble_eq_true rfl) h
  · replace h := ite_p c20 (ite_m (by omega : ¬ nrm ((nrm x1).tmod (nrm 12)) = 5) (ite_m (by omega : ¬ nrm ((nrm x1).tmod (nrm 12)) = 4) (ite_m (by omega : ¬ nrm ((nrm x1).tmod (nrm 12)) = 3) (ite_m (by omega : ¬ nrm ((nrm x1).tmod (nrm 12)) = 2) (ite_m (by omega : ¬ nrm ((nrm x1).tmod (nrm 12)) = 1) (ite_m (by omega : ¬ nrm ((nrm x1).tmod (nrm 12)) = 0) h))))))
    refine r_aload_n C dL_act_205 rfl ?_
    refine r_iconst C dL_act_206 ?_
    refine r_iload_n C dL_act_207 rfl ?_
    refine r_ldci (z := 131072) C dL_act_208 kkL_83 (by decide +kernel) ?_
    obtain ⟨c87, h⟩ := ck_of h
    refine x_idiv C dL_act_210 c87 ?_
    refine r_bipush C dL_act_211 (by decide +kernel) ?_
    refine x_irem C dL_act_213 c13 ?_
    refine r_iadd C dL_act_214 ?_
    obtain ⟨r89, W90, h88, h⟩ := bd2_of h
    refine cV1_i C M dL_act_215 lL_99 w5_advance (rc_main hN) (ev5_advance C.lt hN h88) rfl (Nat.le_of_ble_eq_true rfl) (Nat.le_of_ble_eq_true rfl) ?_
    refine r_pop C dL_act_218 rfl ?_
    refine r_goto (tgt := 250) C dL_act_219 rfl ?_
    exact e_v C M dL_act_250 (Nat.le_of_ble_eq_true rfl) (Nat.le_of_ble_eq_true rfl) h
  · replace h := (ite_m c20 (ite_m c19 (ite_m c18 (ite_m c17 (ite_m c16 (ite_m c15 (ite_m c14 h)))))))
    refine r_aload_n C dL_act_222 rfl ?_
    obtain ⟨r92, h91, h⟩ := bd_of h
    refine cV0_i C M dL_act_223 lL_90 w5_requestCount (rc_main hN) (ev5_requestCount C.lt hN h91) rfl (Nat.le_of_ble_eq_true rfl) (Nat.le_of_ble_eq_true rfl) ?_
    refine r_bipush C dL_act_226 (by decide +kernel) ?_
    refine x_icmpge (tgt := 250) C dL_act_228 rfl (fun c93 => ?_) (fun c93 => ?_)
    · replace h := ite_p c93 h
      exact e_v C M dL_act_250 (Nat.le_of_ble_eq_true rfl) (Nat.le_of_ble_eq_true rfl) h
    · replace h := ite_m c93 h
      refine r_aload_n C dL_act_231 rfl ?_
      refine r_iload_n C dL_act_232 rfl ?_
      refine r_iload_n C dL_act_233 rfl ?_
      refine r_iload C dL_act_234 rfl ?_
      refine r_iload C dL_act_236 rfl ?_
      refine r_iload_n C dL_act_238 rfl ?_
      refine r_ldci (z := 131072) C dL_act_239 kkL_83 (by decide +kernel) ?_
      obtain ⟨c94, h⟩ := ck_of h
      refine x_idiv C dL_act_241 c94 ?_
      refine r_bipush C dL_act_242 (by decide +kernel) ?_
      obtain ⟨c95, h⟩ := ck_of h
      refine x_irem C dL_act_244 c95 ?_
      refine r_iadd C dL_act_245 ?_
      obtain ⟨r97, W98, h96, h⟩ := bd2_of h
      refine cV4_i C M dL_act_246 lL_102 w5_request (rc_main hN) (ev5_request C.lt hN h96) rfl (Nat.le_of_ble_eq_true rfl) (Nat.le_of_ble_eq_true rfl) ?_
      refine r_pop C dL_act_249 rfl ?_
      exact e_v C M dL_act_250 (Nat.le_of_ble_eq_true rfl) (Nat.le_of_ble_eq_true rfl) h
