/-! walks of the reference, 2 (printed by walk.py) -/
def f6_truncate (V : VV) (x1 : Int) : Option (Int × VV) := bd (f6_in V x1 0 (V 148 4)) (fun r2 => bd ((if nrm r2 = 0 then some (1) else some (0))) (fun y4 => bd2 (f6_fails V y4 0 0) (fun r8 W9 => (if nrm r8 = 0 then some (x1, up2 W9 148 4 x1) else some (0, W9)))))
theorem ev6_truncate {G : GT} {l : Launch} {V : VV} {x1 : Int} {r : Int} {V1 : VV} (hlt : l.stackTraces = false) (hN : 154 ≤ gN G) (h : f6_truncate V x1 = some (r, V1)) : EvX G l y6_truncate b6_truncate 2 (some .int) 1 0 0 [.ref (gB G + 148), vI x1] V (.ok (some (vI r))) V1 := by
  refine ev_w hlt (by decide +kernel) rfl rfl (fun X hl hx C M => ?_)
  subst hl
  replace C : Cx G X "ChannelScheduleModel" b6_truncate := C
  unfold f6_truncate at h
  show At G X 0 0 0 [(0, .ref (gB G + 148)), (1, vI x1)] [] V
  refine r_aload_n C d6_truncate_0 rfl ?_
  refine r_iload_n C d6_truncate_1 rfl ?_
  refine r_iconst C d6_truncate_2 ?_
  refine r_aload_n C d6_truncate_3 rfl ?_
  refine g_model_4 C d6_truncate_4 f6_27 hN ?_
  obtain ⟨r2, h1, h⟩ := bd_of h
  refine cS3_i C M d6_truncate_7 l6_75 w6_in (ev6_in C.lt hN h1) rfl (Nat.le_of_ble_eq_true rfl) (Nat.le_of_ble_eq_true rfl) ?_
  obtain ⟨y4, h5, h⟩ := bd_of h
  suffices J6 : At G X 0 0 18 [(0, .ref (gB G + 148)), (1, vI x1)] [vI y4, .ref (gB G + 148)] V by
    replace h := h5
    refine x_ifne (tgt := 17) C d6_truncate_10 rfl (fun c3 => ?_) (fun c3 => ?_)
    · replace h := ite_p c3 h
      refine r_iconst C d6_truncate_13 ?_
      refine r_goto (tgt := 18) C d6_truncate_14 rfl ?_
      cases h
      exact AtH.sw J6 ⟨rfl, rfl, trivial⟩
    · replace h := ite_m c3 h
      refine r_iconst C d6_truncate_17 ?_
      cases h
      exact AtH.sw J6 ⟨rfl, rfl, trivial⟩
  refine r_iconst C d6_truncate_18 ?_
  refine r_iconst C d6_truncate_19 ?_
  obtain ⟨r8, W9, h7, h⟩ := bd2_of h
  refine cV3_i C M d6_truncate_20 l6_148 w6_fails (rc_model hN) (ev6_fails C.lt hN h7) rfl (Nat.le_of_ble_eq_true rfl) (Nat.le_of_ble_eq_true rfl) ?_
  refine x_ifeq (tgt := 28) C d6_truncate_23 rfl (fun c10 => ?_) (fun c10 => ?_)
  · replace h := ite_p c10 h
    refine r_aload_n C d6_truncate_28 rfl ?_
    refine r_iload_n C d6_truncate_29 rfl ?_
    refine p_model_4 C d6_truncate_30 f6_27 hN ?_
    refine r_iload_n C d6_truncate_33 rfl ?_
    exact e_iv C M d6_truncate_34 (Nat.le_of_ble_eq_true rfl) (Nat.le_of_ble_eq_true rfl) h
  · replace h := ite_m c10 h
    refine r_iconst C d6_truncate_26 ?_
    exact e_iv C M d6_truncate_27 (Nat.le_of_ble_eq_true rfl) (Nat.le_of_ble_eq_true rfl) h
def f6_isSmall (V : VV) (x0 : Int) : Option Int := (if nrm x0 < nrm 97 then some 0 else (if nrm 122 < nrm x0 then some 0 else some 1))
theorem ev6_isSmall {G : GT} {l : Launch} {V : VV} {x0 : Int} {r : Int} (hlt : l.stackTraces = false) (hN : 154 ≤ gN G) (h : f6_isSmall V x0 = some r) : EvX G l y6_isSmall b6_isSmall 1 (some .boolean) 0 0 0 [vI x0] V (.ok (some (vI r))) V := by
  refine ev_w hlt (by decide +kernel) rfl rfl (fun X hl hx C M => ?_)
  subst hl
  replace C : Cx G X "ChannelScheduleModel" b6_isSmall := C
  unfold f6_isSmall at h
  show At G X 0 0 0 [(0, vI x0)] [] V
  refine r_iload_n C d6_isSmall_0 rfl ?_
  refine r_bipush C d6_isSmall_1 (by decide +kernel) ?_
  refine x_icmplt (tgt := 16) C d6_isSmall_3 rfl (fun c1 => ?_) (fun c1 => ?_)
  · replace h := ite_p c1 h
    refine r_iconst C d6_isSmall_16 ?_
    exact e_z C M d6_isSmall_17 (Nat.le_of_ble_eq_true rfl) (Nat.le_of_ble_eq_true rfl) (Or.inl rfl) h
  · replace h := ite_m c1 h
    refine r_iload_n C d6_isSmall_6 rfl ?_
    refine r_bipush C d6_isSmall_7 (by decide +kernel) ?_
    refine x_icmpgt (tgt := 16) C d6_isSmall_9 rfl (fun c2 => ?_) (fun c2 => ?_)
    · replace h := ite_p c2 h
      refine r_iconst C d6_isSmall_16 ?_
      exact e_z C M d6_isSmall_17 (Nat.le_of_ble_eq_true rfl) (Nat.le_of_ble_eq_true rfl) (Or.inl rfl) h
    · replace h := ite_m c2 h
      refine r_iconst C d6_isSmall_12 ?_
      refine r_goto (tgt := 17) C d6_isSmall_13 rfl ?_
      exact e_z C M d6_isSmall_17 (Nat.le_of_ble_eq_true rfl) (Nat.le_of_ble_eq_true rfl) (Or.inr rfl) h
def f6_isDigit (V : VV) (x0 : Int) : Option Int := (if nrm x0 < nrm 48 then some 0 else (if nrm 57 < nrm x0 then some 0 else some 1))
theorem ev6_isDigit {G : GT} {l : Launch} {V : VV} {x0 : Int} {r : Int} (hlt : l.stackTraces = false) (hN : 154 ≤ gN G) (h : f6_isDigit V x0 = some r) : EvX G l y6_isDigit b6_isDigit 1 (some .boolean) 0 0 0 [vI x0] V (.ok (some (vI r))) V := by
  refine ev_w hlt (by decide +kernel) rfl rfl (fun X hl hx C M => ?_)
  subst hl
  replace C : Cx G X "ChannelScheduleModel" b6_isDigit := C
  unfold f6_isDigit at h
  show At G X 0 0 0 [(0, vI x0)] [] V
  refine r_iload_n C d6_isDigit_0 rfl ?_
  refine r_bipush C d6_isDigit_1 (by decide +kernel) ?_
  refine x_icmplt (tgt := 16) C d6_isDigit_3 rfl (fun c1 => ?_) (fun c1 => ?_)
  · replace h := ite_p c1 h
    refine r_iconst C d6_isDigit_16 ?_
    exact e_z C M d6_isDigit_17 (Nat.le_of_ble_eq_true rfl) (Nat.le_of_ble_eq_true rfl) (Or.inl rfl) h
  · replace h := ite_m c1 h
    refine r_iload_n C d6_isDigit_6 rfl ?_
    refine r_bipush C d6_isDigit_7 (by decide +kernel) ?_
    refine x_icmpgt (tgt := 16) C d6_isDigit_9 rfl (fun c2 => ?_) (fun c2 => ?_)
    · replace h := ite_p c2 h
      refine r_iconst C d6_isDigit_16 ?_
      exact e_z C M d6_isDigit_17 (Nat.le_of_ble_eq_true rfl) (Nat.le_of_ble_eq_true rfl) (Or.inl rfl) h
    · replace h := ite_m c2 h
      refine r_iconst C d6_isDigit_12 ?_
      refine r_goto (tgt := 17) C d6_isDigit_13 rfl ?_
      exact e_z C M d6_isDigit_17 (Nat.le_of_ble_eq_true rfl) (Nat.le_of_ble_eq_true rfl) (Or.inr rfl) h
def f6_token_L0 : Nat → VV → Option (VV)
  | 0, _ => none
  | n + 1, V => (if nrm (V 148 4) ≤ nrm (V 148 10) then some V else ck ((0:Int) ≤ (V 148 10) ∧ (V 148 10) < 600) ((if nrm (V 151 (Int.toNat (V 148 10))) = nrm 32 then f6_token_L0 n (up2 V 148 10 ((V 148 10) + 1)) else (if nrm (V 151 (Int.toNat (V 148 10))) = nrm 10 then f6_token_L0 n (up2 V 148 10 ((V 148 10) + 1)) else some V))))
theorem lp6_token_0 {G : GT} {X : CT} {cells slots : Nat} (hN : 154 ≤ gN G) (hx : xN X = 1) (C : Cx G X "ChannelScheduleModel" b6_token) {o0 : Except String (Option Value)} {V9 : VV} (M : MX G X 1 0 0 none o0 V9) (hc : cells ≤ 0) (hs : slots ≤ 0) : ∀ (n : Nat) {V : VV} {W0 : VV}, f6_token_L0 n V = some (W0) → At G X cells slots 52 [(0, .ref (gB G + 148))] [] W0 → At G X cells slots 0 [(0, .ref (gB G + 148))] [] V := by
  intro n
  induction n with
  | zero => intro V W0 h _; exact nomatch h
  | succ n ih =>
    intro V W0 h K
    rw [f6_token_L0] at h
    refine r_aload_n C d6_token_0 rfl ?_
    refine g_model_10 C d6_token_1 f6_42 hN ?_
    refine r_aload_n C d6_token_4 rfl ?_
    refine g_model_4 C d6_token_5 f6_27 hN ?_
    refine x_icmpge (tgt := 52) C d6_token_8 rfl (fun c1 => ?_) (fun c1 => ?_)
    · replace h := ite_p c1 h
      cases h
      exact AtH.sw K ⟨rfl, trivial⟩
    · replace h := ite_m c1 h
      refine r_aload_n C d6_token_11 rfl ?_
      refine g_model_3 C d6_token_12 f6_24 hN ?_
      refine r_aload_n C d6_token_15 rfl ?_
      refine g_model_10 C d6_token_16 f6_42 hN ?_
      obtain ⟨c2, h⟩ := ck_of h
      refine x_iald C d6_token_19 (ra_buffer hN) c2 ?_
      refine r_bipush C d6_token_20 (by decide +kernel) ?_
      refine x_icmpeq (tgt := 39) C d6_token_22 rfl (fun c3 => ?_) (fun c3 => ?_)
      · replace h := ite_p c3 h
        refine r_aload_n C d6_token_39 rfl ?_
        refine r_dup C d6_token_40 rfl ?_
        refine g_model_10 C d6_token_41 f6_42 hN ?_
        refine r_iconst C d6_token_44 ?_
        refine r_iadd C d6_token_45 ?_
        refine p_model_10 C d6_token_46 f6_42 hN ?_
        refine r_goto (tgt := 0) C d6_token_49 rfl ?_
        exact AtH.sw (ih h K) ⟨rfl, trivial⟩
      · replace h := ite_m c3 h
        refine r_aload_n C d6_token_25 rfl ?_
        refine g_model_3 C d6_token_26 f6_24 hN ?_
        refine r_aload_n C d6_token_29 rfl ?_
        refine g_model_10 C d6_token_30 f6_42 hN ?_
        refine x_iald C d6_token_33 (ra_buffer hN) c2 ?_
        refine r_bipush C d6_token_34 (by decide +kernel) ?_
        refine x_icmpne (tgt := 52) C d6_token_36 rfl (fun c4 => ?_) (fun c4 => ?_)
        · replace h := ite_p c4 h
          refine r_aload_n C d6_token_39 rfl ?_
          refine r_dup C d6_token_40 rfl ?_
          refine g_model_10 C d6_token_41 f6_42 hN ?_
          refine r_iconst C d6_token_44 ?_
          refine r_iadd C d6_token_45 ?_
          refine p_model_10 C d6_token_46 f6_42 hN ?_
          refine r_goto (tgt := 0) C d6_token_49 rfl ?_
          exact AtH.sw (ih h K) ⟨rfl, trivial⟩
        · replace h := ite_m c4 h
          cases h
          exact AtH.sw K ⟨rfl, trivial⟩
def f6_token_L175 : Nat → VV → Option (VV)
  | 0, _ => none
  | n + 1, V => (if nrm (V 148 4) ≤ nrm (V 148 10) then some V else ck ((0:Int) ≤ (V 148 10) ∧ (V 148 10) < 600) (bd (f6_isDigit V (V 151 (Int.toNat (V 148 10)))) (fun r22 => (if nrm r22 = 0 then some V else bd ((if nrm 4 ≤ nrm ((V 148 10) - (V 148 12)) then some (V) else some (up2 V 148 13 ((((V 148 13) * 10) + (V 151 (Int.toNat (V 148 10)))) - 48)))) (fun W25 => f6_token_L175 n (up2 W25 148 10 ((W25 148 10) + 1)))))))
theorem lp6_token_175 {G : GT} {X : CT} {cells slots : Nat} (hN : 154 ≤ gN G) (hx : xN X = 1) (C : Cx G X "ChannelScheduleModel" b6_token) {o0 : Except String (Option Value)} {V9 : VV} (M : MX G X 1 0 0 none o0 V9) (hc : cells ≤ 0) (hs : slots ≤ 0) : ∀ (n : Nat) {V : VV} {W0 : VV}, f6_token_L175 n V = some (W0) → At G X cells slots 251 [(0, .ref (gB G + 148))] [] W0 → At G X cells slots 175 [(0, .ref (gB G + 148))] [] V := by
  intro n
  induction n with
  | zero => intro V W0 h _; exact nomatch h
  | succ n ih =>
    intro V W0 h K
    rw [f6_token_L175] at h
    refine r_aload_n C d6_token_175 rfl ?_
    refine g_model_10 C d6_token_176 f6_42 hN ?_
    refine r_aload_n C d6_token_179 rfl ?_
    refine g_model_4 C d6_token_180 f6_27 hN ?_
    refine x_icmpge (tgt := 251) C d6_token_183 rfl (fun c19 => ?_) (fun c19 => ?_)
    · replace h := ite_p c19 h
      cases h
      exact AtH.sw K ⟨rfl, trivial⟩
    · replace h := ite_m c19 h
      refine r_aload_n C d6_token_186 rfl ?_
      refine g_model_3 C d6_token_187 f6_24 hN ?_
      refine r_aload_n C d6_token_190 rfl ?_
      refine g_model_10 C d6_token_191 f6_42 hN ?_
      obtain ⟨c20, h⟩ := ck_of h
      refine x_iald C d6_token_194 (ra_buffer hN) c20 ?_
      obtain ⟨r22, h21, h⟩ := bd_of h
      refine cS1_i C M d6_token_195 l6_158 w6_isDigit (ev6_isDigit C.lt hN h21) rfl hc hs ?_
      refine x_ifeq (tgt := 251) C d6_token_198 rfl (fun c23 => ?_) (fun c23 => ?_)
      · replace h := ite_p c23 h
        cases h
        exact AtH.sw K ⟨rfl, trivial⟩
      · replace h := ite_m c23 h
        refine r_aload_n C d6_token_201 rfl ?_
        refine g_model_10 C d6_token_202 f6_42 hN ?_
        refine r_aload_n C d6_token_205 rfl ?_
        refine g_model_12 C d6_token_206 f6_48 hN ?_
        refine r_isub C d6_token_209 ?_
        refine r_iconst C d6_token_210 ?_
        obtain ⟨W25, h26, h⟩ := bd_of h
        suffices J27 : At G X cells slots 238 [(0, .ref (gB G + 148))] [] W25 by
          replace h := h26
          refine x_icmpge (tgt := 238) C d6_token_211 rfl (fun c24 => ?_) (fun c24 => ?_)
          · replace h := ite_p c24 h
            cases h
            exact AtH.sw J27 ⟨rfl, trivial⟩
          · replace h := ite_m c24 h
            refine r_aload_n C d6_token_214 rfl ?_
            refine r_aload_n C d6_token_215 rfl ?_
            refine g_model_13 C d6_token_216 f6_51 hN ?_
            refine r_bipush C d6_token_219 (by decide +kernel) ?_
            refine r_imul C d6_token_221 ?_
            refine r_aload_n C d6_token_222 rfl ?_
            refine g_model_3 C d6_token_223 f6_24 hN ?_
            refine r_aload_n C d6_token_226 rfl ?_
            refine g_model_10 C d6_token_227 f6_42 hN ?_
            refine x_iald C d6_token_230 (ra_buffer hN) c20 ?_
            refine r_iadd C d6_token_231 ?_
            refine r_bipush C d6_token_232 (by decide +kernel) ?_
            refine r_isub C d6_token_234 ?_
            refine p_model_13 C d6_token_235 f6_51 hN ?_
            cases h
            exact AtH.sw J27 ⟨rfl, trivial⟩
        refine r_aload_n C d6_token_238 rfl ?_
        refine r_dup C d6_token_239 rfl ?_
        refine g_model_10 C d6_token_240 f6_42 hN ?_
        refine r_iconst C d6_token_243 ?_
        refine r_iadd C d6_token_244 ?_
        refine p_model_10 C d6_token_245 f6_42 hN ?_
        refine r_goto (tgt := 175) C d6_token_248 rfl ?_
        exact AtH.sw (ih h K) ⟨rfl, trivial⟩
def f6_token_L92 : Nat → VV → Option (VV)
  | 0, _ => none
  | n + 1, V => (if nrm (V 148 4) ≤ nrm (V 148 10) then some V else ck ((0:Int) ≤ (V 148 10) ∧ (V 148 10) < 600) (bd (f6_isSmall V (V 151 (Int.toNat (V 148 10)))) (fun r34 => (if nrm r34 = 0 then some V else f6_token_L92 n (up2 V 148 10 ((V 148 10) + 1))))))
theorem lp6_token_92 {G : GT} {X : CT} {cells slots : Nat} (hN : 154 ≤ gN G) (hx : xN X = 1) (C : Cx G X "ChannelScheduleModel" b6_token) {o0 : Except String (Option Value)} {V9 : VV} (M : MX G X 1 0 0 none o0 V9) (hc : cells ≤ 0) (hs : slots ≤ 0) : ∀ (n : Nat) {V : VV} {W0 : VV}, f6_token_L92 n V = some (W0) → At G X cells slots 131 [(0, .ref (gB G + 148))] [] W0 → At G X cells slots 92 [(0, .ref (gB G + 148))] [] V := by
  intro n
  induction n with
  | zero => intro V W0 h _; exact nomatch h
  | succ n ih =>
    intro V W0 h K
    rw [f6_token_L92] at h
    refine r_aload_n C d6_token_92 rfl ?_
    refine g_model_10 C d6_token_93 f6_42 hN ?_
    refine r_aload_n C d6_token_96 rfl ?_
    refine g_model_4 C d6_token_97 f6_27 hN ?_
    refine x_icmpge (tgt := 131) C d6_token_100 rfl (fun c31 => ?_) (fun c31 => ?_)
    · replace h := ite_p c31 h
      cases h
      exact AtH.sw K ⟨rfl, trivial⟩
    · replace h := ite_m c31 h
      refine r_aload_n C d6_token_103 rfl ?_
      refine g_model_3 C d6_token_104 f6_24 hN ?_
      refine r_aload_n C d6_token_107 rfl ?_
      refine g_model_10 C d6_token_108 f6_42 hN ?_
      obtain ⟨c32, h⟩ := ck_of h
      refine x_iald C d6_token_111 (ra_buffer hN) c32 ?_
      obtain ⟨r34, h33, h⟩ := bd_of h
      refine cS1_i C M d6_token_112 l6_155 w6_isSmall (ev6_isSmall C.lt hN h33) rfl hc hs ?_
      refine x_ifeq (tgt := 131) C d6_token_115 rfl (fun c35 => ?_) (fun c35 => ?_)
      · replace h := ite_p c35 h
        cases h
        exact AtH.sw K ⟨rfl, trivial⟩
      · replace h := ite_m c35 h
        refine r_aload_n C d6_token_118 rfl ?_
        refine r_dup C d6_token_119 rfl ?_
        refine g_model_10 C d6_token_120 f6_42 hN ?_
        refine r_iconst C d6_token_123 ?_
        refine r_iadd C d6_token_124 ?_
        refine p_model_10 C d6_token_125 f6_42 hN ?_
        refine r_goto (tgt := 92) C d6_token_128 rfl ?_
        exact AtH.sw (ih h K) ⟨rfl, trivial⟩
def f6_token (V : VV) : Option VV := bd (f6_token_L0 FU V) (fun W5 => (if nrm ((up2 W5 148 12 (W5 148 10)) 148 10) = nrm ((up2 W5 148 12 (W5 148 10)) 148 4) then some (up2 (up2 W5 148 12 (W5 148 10)) 148 11 0) else ck ((0:Int) ≤ ((up2 W5 148 12 (W5 148 10)) 148 10) ∧ ((up2 W5 148 12 (W5 148 10)) 148 10) < 600) (bd (f6_isSmall (up2 W5 148 12 (W5 148 10)) ((up2 W5 148 12 (W5 148 10)) 151 (Int.toNat ((up2 W5 148 12 (W5 148 10)) 148 10)))) (fun r10 => (if nrm r10 = 0 then bd (f6_isDigit (up2 W5 148 12 (W5 148 10)) ((up2 W5 148 12 (W5 148 10)) 151 (Int.toNat ((up2 W5 148 12 (W5 148 10)) 148 10)))) (fun r13 => (if nrm r13 = 0 then bd ((if nrm ((up2 W5 148 12 (W5 148 10)) 151 (Int.toNat ((up2 W5 148 12 (W5 148 10)) 148 10))) = nrm 59 then some (3) else some (4))) (fun y16 => some (up2 (up2 (up2 W5 148 12 (W5 148 10)) 148 11 y16) 148 10 (((up2 (up2 W5 148 12 (W5 148 10)) 148 11 y16) 148 10) + 1))) else bd (f6_token_L175 FU (up2 (up2 W5 148 12 (W5 148 10)) 148 13 0)) (fun W28 => (if nrm ((W28 148 10) - (W28 148 12)) ≤ nrm 4 then some (up2 W28 148 11 2) else some (up2 W28 148 11 4))))) else bd (f6_token_L92 FU (up2 W5 148 12 (W5 148 10))) (fun W36 => (if nrm ((W36 148 10) - (W36 148 12)) ≤ nrm 8 then some (up2 W36 148 11 1) else some (up2 W36 148 11 4))))))))
theorem ev6_token {G : GT} {l : Launch} {V : VV} {V1 : VV} (hlt : l.stackTraces = false) (hN : 154 ≤ gN G) (h : f6_token V = some V1) : EvX G l y6_token b6_token 1 none 1 0 0 [.ref (gB G + 148)] V (.ok none) V1 := by
  refine ev_w hlt (by decide +kernel) rfl rfl (fun X hl hx C M => ?_)
  subst hl
  replace C : Cx G X "ChannelScheduleModel" b6_token := C
  unfold f6_token at h
  show At G X 0 0 0 [(0, .ref (gB G + 148))] [] V
  obtain ⟨W5, h6, h⟩ := bd_of h
  refine AtH.sw (lp6_token_0 hN hx C M (Nat.le_of_ble_eq_true rfl) (Nat.le_of_ble_eq_true rfl) FU h6 ?_) ⟨rfl, trivial⟩
  refine r_aload_n C d6_token_52 rfl ?_
  refine r_aload_n C d6_token_53 rfl ?_
  refine g_model_10 C d6_token_54 f6_42 hN ?_
  refine p_model_12 C d6_token_57 f6_48 hN ?_
  refine r_aload_n C d6_token_60 rfl ?_
  refine g_model_10 C d6_token_61 f6_42 hN ?_
  refine r_aload_n C d6_token_64 rfl ?_
  refine g_model_4 C d6_token_65 f6_27 hN ?_
  refine x_icmpne (tgt := 77) C d6_token_68 rfl (fun c7 => ?_) (fun c7 => ?_)
  · replace h := ite_p c7 h
    refine r_aload_n C d6_token_71 rfl ?_
    refine r_iconst C d6_token_72 ?_
    refine p_model_11 C d6_token_73 f6_45 hN ?_
    exact e_v C M d6_token_76 (Nat.le_of_ble_eq_true rfl) (Nat.le_of_ble_eq_true rfl) h
  · replace h := ite_m c7 h
    refine r_aload_n C d6_token_77 rfl ?_
    refine g_model_3 C d6_token_78 f6_24 hN ?_
    refine r_aload_n C d6_token_81 rfl ?_
    refine g_model_10 C d6_token_82 f6_42 hN ?_
    obtain ⟨c8, h⟩ := ck_of h
    refine x_iald C d6_token_85 (ra_buffer hN) c8 ?_
    obtain ⟨r10, h9, h⟩ := bd_of h
    refine cS1_i C M d6_token_86 l6_155 w6_isSmall (ev6_isSmall C.lt hN h9) rfl (Nat.le_of_ble_eq_true rfl) (Nat.le_of_ble_eq_true rfl) ?_
    refine x_ifeq (tgt := 155) C d6_token_89 rfl (fun c11 => ?_) (fun c11 => ?_)
    · replace h := ite_p c11 h
      refine r_aload_n C d6_token_155 rfl ?_
      refine g_model_3 C d6_token_156 f6_24 hN ?_
      refine r_aload_n C d6_token_159 rfl ?_
      refine g_model_10 C d6_token_160 f6_42 hN ?_
      refine x_iald C d6_token_163 (ra_buffer hN) c8 ?_
      obtain ⟨r13, h12, h⟩ := bd_of h
      refine cS1_i C M d6_token_164 l6_158 w6_isDigit (ev6_isDigit C.lt hN h12) rfl (Nat.le_of_ble_eq_true rfl) (Nat.le_of_ble_eq_true rfl) ?_
      refine x_ifeq (tgt := 274) C d6_token_167 rfl (fun c14 => ?_) (fun c14 => ?_)
      · replace h := ite_p c14 h
        refine r_aload_n C d6_token_274 rfl ?_
        refine r_aload_n C d6_token_275 rfl ?_
        refine g_model_3 C d6_token_276 f6_24 hN ?_
        refine r_aload_n C d6_token_279 rfl ?_
        refine g_model_10 C d6_token_280 f6_42 hN ?_
        refine x_iald C d6_token_283 (ra_buffer hN) c8 ?_
        refine r_bipush C d6_token_284 (by decide +kernel) ?_
        obtain ⟨y16, h17, h⟩ := bd_of h
        suffices J18 : At G X 0 0 294 [(0, .ref (gB G + 148))] [vI y16, .ref (gB G + 148)] (up2 W5 148 12 (W5 148 10)) by
          replace h := h17
          refine x_icmpne (tgt := 293) C d6_token_286 rfl (fun c15 => ?_) (fun c15 => ?_)
          · replace h := ite_p c15 h
            refine r_iconst C d6_token_289 ?_
            refine r_goto (tgt := 294) C d6_token_290 rfl ?_
            cases h
            exact AtH.sw J18 ⟨rfl, trivial⟩
          · replace h := ite_m c15 h
            refine r_iconst C d6_token_293 ?_
            cases h
            exact AtH.sw J18 ⟨rfl, trivial⟩
        refine p_model_11 C d6_token_294 f6_45 hN ?_
        refine r_aload_n C d6_token_297 rfl ?_
        refine r_dup C d6_token_298 rfl ?_
        refine g_model_10 C d6_token_299 f6_42 hN ?_
        refine r_iconst C d6_token_302 ?_
        refine r_iadd C d6_token_303 ?_
        refine p_model_10 C d6_token_304 f6_42 hN ?_
        exact e_v C M d6_token_307 (Nat.le_of_ble_eq_true rfl) (Nat.le_of_ble_eq_true rfl) h
      · replace h := ite_m c14 h
        refine r_aload_n C d6_token_170 rfl ?_
        refine r_iconst C d6_token_171 ?_
        refine p_model_13 C d6_token_172 f6_51 hN ?_
        obtain ⟨W28, h29, h⟩ := bd_of h
        refine AtH.sw (lp6_token_175 hN hx C M (Nat.le_of_ble_eq_true rfl) (Nat.le_of_ble_eq_true rfl) FU h29 ?_) ⟨rfl, trivial⟩
        refine r_aload_n C d6_token_251 rfl ?_
        refine r_aload_n C d6_token_252 rfl ?_
        refine g_model_10 C d6_token_253 f6_42 hN ?_
        refine r_aload_n C d6_token_256 rfl ?_
        refine g_model_12 C d6_token_257 f6_48 hN ?_
        refine r_isub C d6_token_260 ?_
        refine r_iconst C d6_token_261 ?_
        refine x_icmple (tgt := 269) C d6_token_262 rfl (fun c30 => ?_) (fun c30 => ?_)
        · replace h := ite_p c30 h
          refine r_iconst C d6_token_269 ?_
          refine p_model_11 C d6_token_270 f6_45 hN ?_
          exact e_v C M d6_token_273 (Nat.le_of_ble_eq_true rfl) (Nat.le_of_ble_eq_true rfl) h
        · replace h := ite_m c30 h
          refine r_iconst C d6_token_265 ?_
          refine r_goto (tgt := 270) C d6_token_266 rfl ?_
          refine p_model_11 C d6_token_270 f6_45 hN ?_
          exact e_v C M d6_token_273 (Nat.le_of_ble_eq_true rfl) (Nat.le_of_ble_eq_true rfl) h
    · replace h := ite_m c11 h
      obtain ⟨W36, h37, h⟩ := bd_of h
      refine AtH.sw (lp6_token_92 hN hx C M (Nat.le_of_ble_eq_true rfl) (Nat.le_of_ble_eq_true rfl) FU h37 ?_) ⟨rfl, trivial⟩
      refine r_aload_n C d6_token_131 rfl ?_
      refine r_aload_n C d6_token_132 rfl ?_
      refine g_model_10 C d6_token_133 f6_42 hN ?_
      refine r_aload_n C d6_token_136 rfl ?_
      refine g_model_12 C d6_token_137 f6_48 hN ?_
      refine r_isub C d6_token_140 ?_
      refine r_bipush C d6_token_141 (by decide +kernel) ?_
      refine x_icmple (tgt := 150) C d6_token_143 rfl (fun c38 => ?_) (fun c38 => ?_)
      · replace h := ite_p c38 h
        refine r_iconst C d6_token_150 ?_
        refine p_model_11 C d6_token_151 f6_45 hN ?_
        exact e_v C M d6_token_154 (Nat.le_of_ble_eq_true rfl) (Nat.le_of_ble_eq_true rfl) h
      · replace h := ite_m c38 h
        refine r_iconst C d6_token_146 ?_
        refine r_goto (tgt := 151) C d6_token_147 rfl ?_
        refine p_model_11 C d6_token_151 f6_45 hN ?_
        exact e_v C M d6_token_154 (Nat.le_of_ble_eq_true rfl) (Nat.le_of_ble_eq_true rfl) h
def f6_begin (V : VV) : Option VV := bd (f6_token (up2 (up2 (up2 V 148 5 0) 148 6 (-1)) 148 10 0)) (fun W2 => some W2)
theorem ev6_begin {G : GT} {l : Launch} {V : VV} {V1 : VV} (hlt : l.stackTraces = false) (hN : 154 ≤ gN G) (h : f6_begin V = some V1) : EvX G l y6_begin b6_begin 1 none 2 0 0 [.ref (gB G + 148)] V (.ok none) V1 := by
  refine ev_w hlt (by decide +kernel) rfl rfl (fun X hl hx C M => ?_)
  subst hl
  replace C : Cx G X "ChannelScheduleModel" b6_begin := C
  unfold f6_begin at h
  show At G X 0 0 0 [(0, .ref (gB G + 148))] [] V
  refine r_aload_n C d6_begin_0 rfl ?_
  refine r_iconst C d6_begin_1 ?_
  refine p_model_5 C d6_begin_2 f6_30 hN ?_
  refine r_aload_n C d6_begin_5 rfl ?_
  refine r_iconst C d6_begin_6 ?_
  refine p_model_6 C d6_begin_7 f6_33 hN ?_
  refine r_aload_n C d6_begin_10 rfl ?_
  refine r_iconst C d6_begin_11 ?_
  refine p_model_10 C d6_begin_12 f6_42 hN ?_
  refine r_aload_n C d6_begin_15 rfl ?_
  obtain ⟨W2, h1, h⟩ := bd_of h
  refine cV0_v C M d6_begin_16 l6_161 w6_token (rc_model hN) (ev6_token C.lt hN h1) rfl (Nat.le_of_ble_eq_true rfl) (Nat.le_of_ble_eq_true rfl) ?_
  exact e_v C M d6_begin_19 (Nat.le_of_ble_eq_true rfl) (Nat.le_of_ble_eq_true rfl) h
def f6_wrong (V : VV) (x1 : Int) : Option (Int × VV) := some (0, up2 (up2 V 148 5 x1) 148 6 ((up2 V 148 5 x1) 148 12))
theorem ev6_wrong {G : GT} {l : Launch} {V : VV} {x1 : Int} {r : Int} {V1 : VV} (hlt : l.stackTraces = false) (hN : 154 ≤ gN G) (h : f6_wrong V x1 = some (r, V1)) : EvX G l y6_wrong b6_wrong 2 (some .boolean) 0 0 0 [.ref (gB G + 148), vI x1] V (.ok (some (vI r))) V1 := by
  refine ev_w hlt (by decide +kernel) rfl rfl (fun X hl hx C M => ?_)
  subst hl
  replace C : Cx G X "ChannelScheduleModel" b6_wrong := C
  unfold f6_wrong at h
  show At G X 0 0 0 [(0, .ref (gB G + 148)), (1, vI x1)] [] V
  refine r_aload_n C d6_wrong_0 rfl ?_
  refine r_iload_n C d6_wrong_1 rfl ?_
  refine p_model_5 C d6_wrong_2 f6_30 hN ?_
  refine r_aload_n C d6_wrong_5 rfl ?_
  refine r_aload_n C d6_wrong_6 rfl ?_
  refine g_model_12 C d6_wrong_7 f6_48 hN ?_
  refine p_model_6 C d6_wrong_10 f6_33 hN ?_
  refine r_iconst C d6_wrong_13 ?_
  exact e_zv C M d6_wrong_14 (Nat.le_of_ble_eq_true rfl) (Nat.le_of_ble_eq_true rfl) (Or.inl rfl) h
def f6_isWord_L28 (V : VV) (k1 : Nat) : Nat → Int → Option Int
  | 0, _ => none
  | n + 1, x2 => (if nrm (slI k1) ≤ nrm x2 then some 1 else ck ((0:Int) ≤ ((V 148 12) + x2) ∧ ((V 148 12) + x2) < 600) (ck ((0:Int) ≤ x2 ∧ x2 < slI k1) ((if nrm (V 151 (Int.toNat ((V 148 12) + x2))) = nrm (scI k1 (Int.toNat x2)) then f6_isWord_L28 V k1 n (x2 + 1) else some 0))))
theorem lp6_isWord_28 {G : GT} {X : CT} {cells slots : Nat} {V : VV} (hN : 154 ≤ gN G) (hx : xN X = 3) (C : Cx G X "ChannelScheduleModel" b6_isWord) {k1 : Nat} (hk1 : k1 < 12) : ∀ (n : Nat) {x2 : Int} {r : Int}, MX G X 4 0 0 (some .boolean) (.ok (some (vI r))) V → cells ≤ 0 → slots ≤ 0 → f6_isWord_L28 V k1 n x2 = some r → At G X cells slots 28 [(0, .ref (gB G + 148)), (1, .ref (gK G k1)), (2, vI x2)] [] V := by
  intro n
  induction n with
  | zero => intro x2 r _ _ _ h; exact nomatch h
  | succ n ih =>
    intro x2 r M hc hs h
    rw [f6_isWord_L28] at h
    refine r_iload_n C d6_isWord_28 rfl ?_
    refine r_aload_n C d6_isWord_29 rfl ?_
    refine x_slen C M d6_isWord_30 l6_59 hk1 rfl hc hs ?_
    refine x_icmpge (tgt := 63) C d6_isWord_33 rfl (fun c3 => ?_) (fun c3 => ?_)
    · replace h := ite_p c3 h
      refine r_iconst C d6_isWord_63 ?_
      exact e_z C M d6_isWord_64 hc hs (Or.inr rfl) h
    · replace h := ite_m c3 h
      refine r_aload_n C d6_isWord_36 rfl ?_
      refine g_model_3 C d6_isWord_37 f6_24 hN ?_
      refine r_aload_n C d6_isWord_40 rfl ?_
      refine g_model_12 C d6_isWord_41 f6_48 hN ?_
      refine r_iload_n C d6_isWord_44 rfl ?_
      refine r_iadd C d6_isWord_45 ?_
      obtain ⟨c4, h⟩ := ck_of h
      refine x_iald C d6_isWord_46 (ra_buffer hN) c4 ?_
      refine r_aload_n C d6_isWord_47 rfl ?_
      refine r_iload_n C d6_isWord_48 rfl ?_
      obtain ⟨c5, h⟩ := ck_of h
      refine x_schar C M d6_isWord_49 l6_64 hk1 c5 rfl hc hs ?_
      refine x_icmpeq (tgt := 57) C d6_isWord_52 rfl (fun c6 => ?_) (fun c6 => ?_)
      · replace h := ite_p c6 h
        refine x_iinc hx C d6_isWord_57 rfl rfl ?_
        refine r_goto (tgt := 28) C d6_isWord_60 rfl ?_
        exact AtH.sw (ih M hc hs h) ⟨rfl, rfl, rfl, trivial⟩
      · replace h := ite_m c6 h
        refine r_iconst C d6_isWord_55 ?_
        exact e_z C M d6_isWord_56 hc hs (Or.inl rfl) h
def f6_isWord (V : VV) (k1 : Nat) : Option Int := ck (k1 < 12) ((if nrm (V 148 11) = nrm 1 then (if nrm ((V 148 10) - (V 148 12)) = nrm (slI k1) then f6_isWord_L28 V k1 FU 0 else some 0) else some 0))
theorem ev6_isWord {G : GT} {l : Launch} {V : VV} {k1 : Nat} {r : Int} (hlt : l.stackTraces = false) (hN : 154 ≤ gN G) (h : f6_isWord V k1 = some r) : EvX G l y6_isWord b6_isWord 3 (some .boolean) 4 0 0 [.ref (gB G + 148), .ref (gK G k1)] V (.ok (some (vI r))) V := by
  refine ev_w hlt (by decide +kernel) rfl rfl (fun X hl hx C M => ?_)
  subst hl
  replace C : Cx G X "ChannelScheduleModel" b6_isWord := C
  unfold f6_isWord at h
  show At G X 0 0 0 [(0, .ref (gB G + 148)), (1, .ref (gK G k1))] [] V
  obtain ⟨hk1, h⟩ := ck_of h
  refine r_aload_n C d6_isWord_0 rfl ?_
  refine g_model_11 C d6_isWord_1 f6_45 hN ?_
  refine r_iconst C d6_isWord_4 ?_
  refine x_icmpne (tgt := 24) C d6_isWord_5 rfl (fun c1 => ?_) (fun c1 => ?_)
  · replace h := ite_p c1 h
    refine r_aload_n C d6_isWord_8 rfl ?_
    refine g_model_10 C d6_isWord_9 f6_42 hN ?_
    refine r_aload_n C d6_isWord_12 rfl ?_
    refine g_model_12 C d6_isWord_13 f6_48 hN ?_
    refine r_isub C d6_isWord_16 ?_
    refine r_aload_n C d6_isWord_17 rfl ?_
    refine x_slen C M d6_isWord_18 l6_59 hk1 rfl (Nat.le_of_ble_eq_true rfl) (Nat.le_of_ble_eq_true rfl) ?_
    refine x_icmpeq (tgt := 26) C d6_isWord_21 rfl (fun c2 => ?_) (fun c2 => ?_)
    · replace h := ite_p c2 h
      refine r_iconst C d6_isWord_26 ?_
      refine x_istore_n hx C d6_isWord_27 rfl ?_
      exact AtH.sw (lp6_isWord_28 hN hx C hk1 FU M (Nat.le_of_ble_eq_true rfl) (Nat.le_of_ble_eq_true rfl) h) ⟨rfl, rfl, rfl, trivial⟩
    · replace h := ite_m c2 h
      refine r_iconst C d6_isWord_24 ?_
      exact e_z C M d6_isWord_25 (Nat.le_of_ble_eq_true rfl) (Nat.le_of_ble_eq_true rfl) (Or.inl rfl) h
  · replace h := ite_m c1 h
    refine r_iconst C d6_isWord_24 ?_
    exact e_z C M d6_isWord_25 (Nat.le_of_ble_eq_true rfl) (Nat.le_of_ble_eq_true rfl) (Or.inl rfl) h
def f6_semicolon (V : VV) : Option (Int × VV) := (if nrm (V 148 11) = nrm 3 then bd (f6_token V) (fun W3 => some (1, W3)) else bd2 (f6_wrong V 1) (fun r5 W6 => ck (r5 = 0 ∨ r5 = 1) (some (r5, W6))))
theorem ev6_semicolon {G : GT} {l : Launch} {V : VV} {r : Int} {V1 : VV} (hlt : l.stackTraces = false) (hN : 154 ≤ gN G) (h : f6_semicolon V = some (r, V1)) : EvX G l y6_semicolon b6_semicolon 1 (some .boolean) 2 0 0 [.ref (gB G + 148)] V (.ok (some (vI r))) V1 := by
  refine ev_w hlt (by decide +kernel) rfl rfl (fun X hl hx C M => ?_)
  subst hl
  replace C : Cx G X "ChannelScheduleModel" b6_semicolon := C
  unfold f6_semicolon at h
  show At G X 0 0 0 [(0, .ref (gB G + 148))] [] V
  refine r_aload_n C d6_semicolon_0 rfl ?_
  refine g_model_11 C d6_semicolon_1 f6_45 hN ?_
  refine r_iconst C d6_semicolon_4 ?_
  refine x_icmpeq (tgt := 14) C d6_semicolon_5 rfl (fun c1 => ?_) (fun c1 => ?_)
  · replace h := ite_p c1 h
    refine r_aload_n C d6_semicolon_14 rfl ?_
    obtain ⟨W3, h2, h⟩ := bd_of h
    refine cV0_v C M d6_semicolon_15 l6_161 w6_token (rc_model hN) (ev6_token C.lt hN h2) rfl (Nat.le_of_ble_eq_true rfl) (Nat.le_of_ble_eq_true rfl) ?_
    refine r_iconst C d6_semicolon_18 ?_
    exact e_zv C M d6_semicolon_19 (Nat.le_of_ble_eq_true rfl) (Nat.le_of_ble_eq_true rfl) (Or.inr rfl) h
  · replace h := ite_m c1 h
    refine r_aload_n C d6_semicolon_8 rfl ?_
    refine r_iconst C d6_semicolon_9 ?_
    obtain ⟨r5, W6, h4, h⟩ := bd2_of h
    refine cV1_i C M d6_semicolon_10 l6_164 w6_wrong (rc_model hN) (ev6_wrong C.lt hN h4) rfl (Nat.le_of_ble_eq_true rfl) (Nat.le_of_ble_eq_true rfl) ?_
    obtain ⟨c7, h⟩ := ck_of h
    exact e_zv C M d6_semicolon_13 (Nat.le_of_ble_eq_true rfl) (Nat.le_of_ble_eq_true rfl) c7 h
def f6_shipNamed_L32 (V : VV) (x1 : Int) (x2 : Int) (x3 : Int) : Nat → Int → Int → Option (Int)
  | 0, _, _ => none
  | n + 1, x4, x5 => (if nrm x4 = 0 then some x4 else (if nrm x2 ≤ nrm x5 then some x4 else bd (f6_ofShip V x3 (1 + x5)) (fun r11 => ck ((0:Int) ≤ (x1 + x5) ∧ (x1 + x5) < 600) ((if nrm r11 = nrm (V 151 (Int.toNat (x1 + x5))) then f6_shipNamed_L32 V x1 x2 x3 n 1 (x5 + 1) else f6_shipNamed_L32 V x1 x2 x3 n 0 (x5 + 1))))))
theorem lp6_shipNamed_32 {G : GT} {X : CT} {cells slots : Nat} {V : VV} (hN : 154 ≤ gN G) (hx : xN X = 6) (C : Cx G X "ChannelScheduleModel" b6_shipNamed) {x1 : Int} {x2 : Int} {x3 : Int} {o0 : Except String (Option Value)} {V9 : VV} (M : MX G X 1 0 0 (some .int) o0 V9) (hc : cells ≤ 0) (hs : slots ≤ 0) : ∀ (n : Nat) {x4 : Int} {x5 : Int} {e4 : Int}, f6_shipNamed_L32 V x1 x2 x3 n x4 x5 = some (e4) → At G X cells slots 77 [(0, .ref (gB G + 148)), (1, vI x1), (2, vI x2), (3, vI x3), (4, vI e4)] [] V → At G X cells slots 32 [(0, .ref (gB G + 148)), (1, vI x1), (2, vI x2), (3, vI x3), (4, vI x4), (5, vI x5)] [] V := by
  intro n
  induction n with
  | zero => intro x4 x5 e4 h _; exact nomatch h
  | succ n ih =>
    intro x4 x5 e4 h K
    rw [f6_shipNamed_L32] at h
    refine r_iload C d6_shipNamed_32 rfl ?_
    refine x_ifeq (tgt := 77) C d6_shipNamed_34 rfl (fun c8 => ?_) (fun c8 => ?_)
    · replace h := ite_p c8 h
      cases h
      exact AtH.sw K ⟨rfl, rfl, rfl, rfl, rfl, trivial⟩
    · replace h := ite_m c8 h
      refine r_iload C d6_shipNamed_37 rfl ?_
      refine r_iload_n C d6_shipNamed_39 rfl ?_
      refine x_icmpge (tgt := 77) C d6_shipNamed_40 rfl (fun c9 => ?_) (fun c9 => ?_)
      · replace h := ite_p c9 h
        cases h
        exact AtH.sw K ⟨rfl, rfl, rfl, rfl, rfl, trivial⟩
      · replace h := ite_m c9 h
        refine r_aload_n C d6_shipNamed_43 rfl ?_
        refine r_iload_n C d6_shipNamed_44 rfl ?_
        refine r_iconst C d6_shipNamed_45 ?_
        refine r_iload C d6_shipNamed_46 rfl ?_
        refine r_iadd C d6_shipNamed_48 ?_
        obtain ⟨r11, h10, h⟩ := bd_of h
        refine cV2_i C M d6_shipNamed_49 l6_83 w6_ofShip (rc_model hN) (ev6_ofShip C.lt hN h10) rfl hc hs ?_
        refine r_aload_n C d6_shipNamed_52 rfl ?_
        refine g_model_3 C d6_shipNamed_53 f6_24 hN ?_
        refine r_iload_n C d6_shipNamed_56 rfl ?_
        refine r_iload C d6_shipNamed_57 rfl ?_
        refine r_iadd C d6_shipNamed_59 ?_
        obtain ⟨c12, h⟩ := ck_of h
        refine x_iald C d6_shipNamed_60 (ra_buffer hN) c12 ?_
        refine x_icmpne (tgt := 68) C d6_shipNamed_61 rfl (fun c13 => ?_) (fun c13 => ?_)
        · replace h := ite_p c13 h
          refine r_iconst C d6_shipNamed_64 ?_
          refine r_goto (tgt := 69) C d6_shipNamed_65 rfl ?_
          refine x_istore hx C d6_shipNamed_69 rfl ?_
          refine x_iinc hx C d6_shipNamed_71 rfl rfl ?_
          refine r_goto (tgt := 32) C d6_shipNamed_74 rfl ?_
          exact AtH.sw (ih h K) ⟨rfl, rfl, rfl, rfl, rfl, rfl, trivial⟩
        · replace h := ite_m c13 h
          refine r_iconst C d6_shipNamed_68 ?_
          refine x_istore hx C d6_shipNamed_69 rfl ?_
          refine x_iinc hx C d6_shipNamed_71 rfl rfl ?_
          refine r_goto (tgt := 32) C d6_shipNamed_74 rfl ?_
          exact AtH.sw (ih h K) ⟨rfl, rfl, rfl, rfl, rfl, rfl, trivial⟩
def f6_shipNamed_L2 (V : VV) (x1 : Int) (x2 : Int) : Nat → Int → Option Int
  | 0, _ => none
  | n + 1, x3 => (if nrm (V 149 4) ≤ nrm x3 then some (-1) else bd (f6_ofShip V x3 0) (fun r3 => bd ((if nrm r3 = nrm x2 then some (1) else some (0))) (fun y5 => bd (f6_shipNamed_L32 V x1 x2 x3 FU y5 0) (fun y14 => (if nrm y14 = 0 then f6_shipNamed_L2 V x1 x2 n (x3 + 1) else some x3)))))
theorem lp6_shipNamed_2 {G : GT} {X : CT} {cells slots : Nat} {V : VV} (hN : 154 ≤ gN G) (hx : xN X = 6) (C : Cx G X "ChannelScheduleModel" b6_shipNamed) {x1 : Int} {x2 : Int} : ∀ (n : Nat) {x3 : Int} {r : Int}, MX G X 1 0 0 (some .int) (.ok (some (vI r))) V → cells ≤ 0 → slots ≤ 0 → f6_shipNamed_L2 V x1 x2 n x3 = some r → At G X cells slots 2 [(0, .ref (gB G + 148)), (1, vI x1), (2, vI x2), (3, vI x3)] [] V := by
  intro n
  induction n with
  | zero => intro x3 r _ _ _ h; exact nomatch h
  | succ n ih =>
    intro x3 r M hc hs h
    rw [f6_shipNamed_L2] at h
    refine r_iload_n C d6_shipNamed_2 rfl ?_
    refine r_aload_n C d6_shipNamed_3 rfl ?_
    refine g_model_0 C d6_shipNamed_4 f6_13 hN ?_
    refine r_iconst C d6_shipNamed_7 ?_
    refine x_iald C d6_shipNamed_8 (ra_m hN) (by omega) ?_
    refine x_icmpge (tgt := 90) C d6_shipNamed_9 rfl (fun c1 => ?_) (fun c1 => ?_)
    · replace h := ite_p c1 h
      refine r_iconst C d6_shipNamed_90 ?_
      exact e_i C M d6_shipNamed_91 hc hs h
    · replace h := ite_m c1 h
      refine r_aload_n C d6_shipNamed_12 rfl ?_
      refine r_iload_n C d6_shipNamed_13 rfl ?_
      refine r_iconst C d6_shipNamed_14 ?_
      obtain ⟨r3, h2, h⟩ := bd_of h
      refine cV2_i C M d6_shipNamed_15 l6_83 w6_ofShip (rc_model hN) (ev6_ofShip C.lt hN h2) rfl hc hs ?_
      refine r_iload_n C d6_shipNamed_18 rfl ?_
      obtain ⟨y5, h6, h⟩ := bd_of h
      suffices J7 : At G X cells slots 27 [(0, .ref (gB G + 148)), (1, vI x1), (2, vI x2), (3, vI x3)] [vI y5] V by
        replace h := h6
        refine x_icmpne (tgt := 26) C d6_shipNamed_19 rfl (fun c4 => ?_) (fun c4 => ?_)
        · replace h := ite_p c4 h
          refine r_iconst C d6_shipNamed_22 ?_
          refine r_goto (tgt := 27) C d6_shipNamed_23 rfl ?_
          cases h
          exact AtH.sw J7 ⟨rfl, rfl, rfl, rfl, trivial⟩
        · replace h := ite_m c4 h
          refine r_iconst C d6_shipNamed_26 ?_
          cases h
          exact AtH.sw J7 ⟨rfl, rfl, rfl, rfl, trivial⟩
      refine x_istore hx C d6_shipNamed_27 rfl ?_
      refine r_iconst C d6_shipNamed_29 ?_
      refine x_istore hx C d6_shipNamed_30 rfl ?_
      obtain ⟨y14, h15, h⟩ := bd_of h
      refine AtH.sw (lp6_shipNamed_32 hN hx C M hc hs FU h15 ?_) ⟨rfl, rfl, rfl, rfl, rfl, rfl, trivial⟩
      refine r_iload C d6_shipNamed_77 rfl ?_
      refine x_ifeq (tgt := 84) C d6_shipNamed_79 rfl (fun c16 => ?_) (fun c16 => ?_)
      · replace h := ite_p c16 h
        refine x_iinc hx C d6_shipNamed_84 rfl rfl ?_
        refine r_goto (tgt := 2) C d6_shipNamed_87 rfl ?_
        exact AtH.sw (ih M hc hs h) ⟨rfl, rfl, rfl, rfl, trivial⟩
      · replace h := ite_m c16 h
        refine r_iload_n C d6_shipNamed_82 rfl ?_
        exact e_i C M d6_shipNamed_83 hc hs h
def f6_shipNamed (V : VV) (x1 : Int) (x2 : Int) : Option Int := f6_shipNamed_L2 V x1 x2 FU 0
theorem ev6_shipNamed {G : GT} {l : Launch} {V : VV} {x1 : Int} {x2 : Int} {r : Int} (hlt : l.stackTraces = false) (hN : 154 ≤ gN G) (h : f6_shipNamed V x1 x2 = some r) : EvX G l y6_shipNamed b6_shipNamed 6 (some .int) 1 0 0 [.ref (gB G + 148), vI x1, vI x2] V (.ok (some (vI r))) V := by
  refine ev_w hlt (by decide +kernel) rfl rfl (fun X hl hx C M => ?_)
  subst hl
  replace C : Cx G X "ChannelScheduleModel" b6_shipNamed := C
  unfold f6_shipNamed at h
  show At G X 0 0 0 [(0, .ref (gB G + 148)), (1, vI x1), (2, vI x2)] [] V
  refine r_iconst C d6_shipNamed_0 ?_
  refine x_istore_n hx C d6_shipNamed_1 rfl ?_
  exact AtH.sw (lp6_shipNamed_2 hN hx C FU M (Nat.le_of_ble_eq_true rfl) (Nat.le_of_ble_eq_true rfl) h) ⟨rfl, rfl, rfl, rfl, trivial⟩
def f6_isShortWord (V : VV) : Option (Int × VV) := (if nrm (V 148 11) = nrm 1 then (if nrm ((V 148 10) - (V 148 12)) ≤ nrm 6 then some (1, V) else bd2 (f6_wrong V 3) (fun r4 W5 => (if nrm r4 = 0 then some (0, W5) else some (1, W5)))) else bd2 (f6_wrong V 1) (fun r8 W9 => ck (r8 = 0 ∨ r8 = 1) (some (r8, W9))))
theorem ev6_isShortWord {G : GT} {l : Launch} {V : VV} {r : Int} {V1 : VV} (hlt : l.stackTraces = false) (hN : 154 ≤ gN G) (h : f6_isShortWord V = some (r, V1)) : EvX G l y6_isShortWord b6_isShortWord 1 (some .boolean) 1 0 0 [.ref (gB G + 148)] V (.ok (some (vI r))) V1 := by
  refine ev_w hlt (by decide +kernel) rfl rfl (fun X hl hx C M => ?_)
  subst hl
  replace C : Cx G X "ChannelScheduleModel" b6_isShortWord := C
  unfold f6_isShortWord at h
  show At G X 0 0 0 [(0, .ref (gB G + 148))] [] V
  refine r_aload_n C d6_isShortWord_0 rfl ?_
  refine g_model_11 C d6_isShortWord_1 f6_45 hN ?_
  refine r_iconst C d6_isShortWord_4 ?_
  refine x_icmpeq (tgt := 14) C d6_isShortWord_5 rfl (fun c1 => ?_) (fun c1 => ?_)
  · replace h := ite_p c1 h
    refine r_aload_n C d6_isShortWord_14 rfl ?_
    refine g_model_10 C d6_isShortWord_15 f6_42 hN ?_
    refine r_aload_n C d6_isShortWord_18 rfl ?_
    refine g_model_12 C d6_isShortWord_19 f6_48 hN ?_
    refine r_isub C d6_isShortWord_22 ?_
    refine r_bipush C d6_isShortWord_23 (by decide +kernel) ?_
    refine x_icmple (tgt := 36) C d6_isShortWord_25 rfl (fun c2 => ?_) (fun c2 => ?_)
    · replace h := ite_p c2 h
      refine r_iconst C d6_isShortWord_36 ?_
      refine r_goto (tgt := 41) C d6_isShortWord_37 rfl ?_
      exact e_zv C M d6_isShortWord_41 (Nat.le_of_ble_eq_true rfl) (Nat.le_of_ble_eq_true rfl) (Or.inr rfl) h
    · replace h := ite_m c2 h
      refine r_aload_n C d6_isShortWord_28 rfl ?_
      refine r_iconst C d6_isShortWord_29 ?_
      obtain ⟨r4, W5, h3, h⟩ := bd2_of h
      refine cV1_i C M d6_isShortWord_30 l6_164 w6_wrong (rc_model hN) (ev6_wrong C.lt hN h3) rfl (Nat.le_of_ble_eq_true rfl) (Nat.le_of_ble_eq_true rfl) ?_
      refine x_ifeq (tgt := 40) C d6_isShortWord_33 rfl (fun c6 => ?_) (fun c6 => ?_)
      · replace h := ite_p c6 h
        refine r_iconst C d6_isShortWord_40 ?_
        exact e_zv C M d6_isShortWord_41 (Nat.le_of_ble_eq_true rfl) (Nat.le_of_ble_eq_true rfl) (Or.inl rfl) h
      · replace h := ite_m c6 h
        refine r_iconst C d6_isShortWord_36 ?_
        refine r_goto (tgt := 41) C d6_isShortWord_37 rfl ?_
        exact e_zv C M d6_isShortWord_41 (Nat.le_of_ble_eq_true rfl) (Nat.le_of_ble_eq_true rfl) (Or.inr rfl) h
  · replace h := ite_m c1 h
    refine r_aload_n C d6_isShortWord_8 rfl ?_
    refine r_iconst C d6_isShortWord_9 ?_
    obtain ⟨r8, W9, h7, h⟩ := bd2_of h
    refine cV1_i C M d6_isShortWord_10 l6_164 w6_wrong (rc_model hN) (ev6_wrong C.lt hN h7) rfl (Nat.le_of_ble_eq_true rfl) (Nat.le_of_ble_eq_true rfl) ?_
    obtain ⟨c10, h⟩ := ck_of h
    exact e_zv C M d6_isShortWord_13 (Nat.le_of_ble_eq_true rfl) (Nat.le_of_ble_eq_true rfl) c10 h
def f6_parseRanged (V : VV) (x1 : Int) (x2 : Int) (x3 : Int) : Option (Int × VV) := (if nrm (V 148 11) = nrm 2 then bd (f6_in V (V 148 13) x2 x3) (fun r3 => (if nrm r3 = 0 then bd2 (f6_wrong V 2) (fun r6 W7 => ck (r6 = 0 ∨ r6 = 1) (some (r6, W7))) else ck ((0:Int) ≤ x1 ∧ x1 < 2300) (bd (f6_token (up2 V 149 (Int.toNat x1) (V 148 13))) (fun W11 => some (1, W11))))) else bd2 (f6_wrong V 1) (fun r13 W14 => ck (r13 = 0 ∨ r13 = 1) (some (r13, W14))))
theorem ev6_parseRanged {G : GT} {l : Launch} {V : VV} {x1 : Int} {x2 : Int} {x3 : Int} {r : Int} {V1 : VV} (hlt : l.stackTraces = false) (hN : 154 ≤ gN G) (h : f6_parseRanged V x1 x2 x3 = some (r, V1)) : EvX G l y6_parseRanged b6_parseRanged 4 (some .boolean) 2 0 0 [.ref (gB G + 148), vI x1, vI x2, vI x3] V (.ok (some (vI r))) V1 := by
  refine ev_w hlt (by decide +kernel) rfl rfl (fun X hl hx C M => ?_)
  subst hl
  replace C : Cx G X "ChannelScheduleModel" b6_parseRanged := C
  unfold f6_parseRanged at h
  show At G X 0 0 0 [(0, .ref (gB G + 148)), (1, vI x1), (2, vI x2), (3, vI x3)] [] V
  refine r_aload_n C d6_parseRanged_0 rfl ?_
  refine g_model_11 C d6_parseRanged_1 f6_45 hN ?_
  refine r_iconst C d6_parseRanged_4 ?_
  refine x_icmpeq (tgt := 14) C d6_parseRanged_5 rfl (fun c1 => ?_) (fun c1 => ?_)
  · replace h := ite_p c1 h
    refine r_aload_n C d6_parseRanged_14 rfl ?_
    refine g_model_13 C d6_parseRanged_15 f6_51 hN ?_
    refine r_iload_n C d6_parseRanged_18 rfl ?_
    refine r_iload_n C d6_parseRanged_19 rfl ?_
    obtain ⟨r3, h2, h⟩ := bd_of h
    refine cS3_i C M d6_parseRanged_20 l6_75 w6_in (ev6_in C.lt hN h2) rfl (Nat.le_of_ble_eq_true rfl) (Nat.le_of_ble_eq_true rfl) ?_
    refine x_ifne (tgt := 32) C d6_parseRanged_23 rfl (fun c4 => ?_) (fun c4 => ?_)
    · replace h := ite_p c4 h
      refine r_aload_n C d6_parseRanged_26 rfl ?_
      refine r_iconst C d6_parseRanged_27 ?_
      obtain ⟨r6, W7, h5, h⟩ := bd2_of h
      refine cV1_i C M d6_parseRanged_28 l6_164 w6_wrong (rc_model hN) (ev6_wrong C.lt hN h5) rfl (Nat.le_of_ble_eq_true rfl) (Nat.le_of_ble_eq_true rfl) ?_
      obtain ⟨c8, h⟩ := ck_of h
      exact e_zv C M d6_parseRanged_31 (Nat.le_of_ble_eq_true rfl) (Nat.le_of_ble_eq_true rfl) c8 h
    · replace h := ite_m c4 h
      refine r_aload_n C d6_parseRanged_32 rfl ?_
      refine g_model_0 C d6_parseRanged_33 f6_13 hN ?_
      refine r_iload_n C d6_parseRanged_36 rfl ?_
      refine r_aload_n C d6_parseRanged_37 rfl ?_
      refine g_model_13 C d6_parseRanged_38 f6_51 hN ?_
      obtain ⟨c9, h⟩ := ck_of h
      refine x_iast C d6_parseRanged_41 (ra_m hN) c9 ?_
      refine r_aload_n C d6_parseRanged_42 rfl ?_
      obtain ⟨W11, h10, h⟩ := bd_of h
      refine cV0_v C M d6_parseRanged_43 l6_161 w6_token (rc_model hN) (ev6_token C.lt hN h10) rfl (Nat.le_of_ble_eq_true rfl) (Nat.le_of_ble_eq_true rfl) ?_
      refine r_iconst C d6_parseRanged_46 ?_
      exact e_zv C M d6_parseRanged_47 (Nat.le_of_ble_eq_true rfl) (Nat.le_of_ble_eq_true rfl) (Or.inr rfl) h
  · replace h := ite_m c1 h
    refine r_aload_n C d6_parseRanged_8 rfl ?_
    refine r_iconst C d6_parseRanged_9 ?_
    obtain ⟨r13, W14, h12, h⟩ := bd2_of h
    refine cV1_i C M d6_parseRanged_10 l6_164 w6_wrong (rc_model hN) (ev6_wrong C.lt hN h12) rfl (Nat.le_of_ble_eq_true rfl) (Nat.le_of_ble_eq_true rfl) ?_
    obtain ⟨c15, h⟩ := ck_of h
    exact e_zv C M d6_parseRanged_13 (Nat.le_of_ble_eq_true rfl) (Nat.le_of_ble_eq_true rfl) c15 h
def f6_parseShip_L90 (x1 : Int) : Nat → Int → VV → Option (VV)
  | 0, _, _ => none
  | n + 1, x2, V => (if nrm (V 148 10) ≤ nrm x2 then some V else ck ((0:Int) ≤ x2 ∧ x2 < 600) (ck ((0:Int) ≤ (((x1 + 1) + x2) - (V 148 12)) ∧ (((x1 + 1) + x2) - (V 148 12)) < 2300) (f6_parseShip_L90 x1 n (x2 + 1) (up2 V 149 (Int.toNat (((x1 + 1) + x2) - (V 148 12))) (V 151 (Int.toNat x2))))))
theorem lp6_parseShip_90 {G : GT} {X : CT} {cells slots : Nat} (hN : 154 ≤ gN G) (hx : xN X = 3) (C : Cx G X "ChannelScheduleModel" b6_parseShip) {x1 : Int} {o0 : Except String (Option Value)} {V9 : VV} (M : MX G X 3 0 0 (some .boolean) o0 V9) (hc : cells ≤ 0) (hs : slots ≤ 0) : ∀ (n : Nat) {x2 : Int} {V : VV} {W0 : VV}, f6_parseShip_L90 x1 n x2 V = some (W0) → At G X cells slots 125 [(0, .ref (gB G + 148)), (1, vI x1)] [] W0 → At G X cells slots 90 [(0, .ref (gB G + 148)), (1, vI x1), (2, vI x2)] [] V := by
  intro n
  induction n with
  | zero => intro x2 V W0 h _; exact nomatch h
  | succ n ih =>
    intro x2 V W0 h K
    rw [f6_parseShip_L90] at h
    refine r_iload_n C d6_parseShip_90 rfl ?_
    refine r_aload_n C d6_parseShip_91 rfl ?_
    refine g_model_10 C d6_parseShip_92 f6_42 hN ?_
    refine x_icmpge (tgt := 125) C d6_parseShip_95 rfl (fun c16 => ?_) (fun c16 => ?_)
    · replace h := ite_p c16 h
      cases h
      exact AtH.sw K ⟨rfl, rfl, trivial⟩
    · replace h := ite_m c16 h
      refine r_aload_n C d6_parseShip_98 rfl ?_
      refine g_model_0 C d6_parseShip_99 f6_13 hN ?_
      refine r_iload_n C d6_parseShip_102 rfl ?_
      refine r_iconst C d6_parseShip_103 ?_
      refine r_iadd C d6_parseShip_104 ?_
      refine r_iload_n C d6_parseShip_105 rfl ?_
      refine r_iadd C d6_parseShip_106 ?_
      refine r_aload_n C d6_parseShip_107 rfl ?_
      refine g_model_12 C d6_parseShip_108 f6_48 hN ?_
      refine r_isub C d6_parseShip_111 ?_
      refine r_aload_n C d6_parseShip_112 rfl ?_
      refine g_model_3 C d6_parseShip_113 f6_24 hN ?_
      refine r_iload_n C d6_parseShip_116 rfl ?_
      obtain ⟨c17, h⟩ := ck_of h
      refine x_iald C d6_parseShip_117 (ra_buffer hN) c17 ?_
      obtain ⟨c18, h⟩ := ck_of h
      refine x_iast C d6_parseShip_118 (ra_m hN) c18 ?_
      refine x_iinc hx C d6_parseShip_119 rfl rfl ?_
      refine r_goto (tgt := 90) C d6_parseShip_122 rfl ?_
      exact AtH.sw (ih h K) ⟨rfl, rfl, rfl, trivial⟩
def f6_parseShip (V : VV) : Option (Int × VV) := (if nrm (V 149 4) = nrm 10 then bd2 (f6_wrong V 4) (fun r3 W4 => ck (r3 = 0 ∨ r3 = 1) (some (r3, W4))) else bd (f6_token V) (fun W7 => bd2 (f6_isShortWord W7) (fun r9 W10 => (if nrm r9 = 0 then some (0, W10) else bd (f6_shipNamed W10 (W10 148 12) ((W10 148 10) - (W10 148 12))) (fun r13 => (if nrm r13 = nrm (-1) then ck ((0:Int) ≤ (10 + ((W10 149 4) * 10)) ∧ (10 + ((W10 149 4) * 10)) < 2300) (bd (f6_parseShip_L90 (10 + ((W10 149 4) * 10)) FU ((up2 W10 149 (Int.toNat (10 + ((W10 149 4) * 10))) ((W10 148 10) - (W10 148 12))) 148 12) (up2 W10 149 (Int.toNat (10 + ((W10 149 4) * 10))) ((W10 148 10) - (W10 148 12)))) (fun W19 => bd (f6_token W19) (fun W22 => bd2 (f6_parseRanged W22 ((10 + ((W10 149 4) * 10)) + 7) 1 60) (fun r24 W25 => (if nrm r24 = 0 then some (0, W25) else bd2 (f6_parseRanged W25 ((10 + ((W10 149 4) * 10)) + 8) 0 9) (fun r28 W29 => (if nrm r28 = 0 then some (0, W29) else bd2 (f6_parseRanged W29 ((10 + ((W10 149 4) * 10)) + 9) 1 99) (fun r32 W33 => (if nrm r32 = 0 then some (0, W33) else bd2 (f6_semicolon W33) (fun r36 W37 => (if nrm r36 = 0 then some (0, W37) else some (1, up2 W37 149 4 ((W37 149 4) + 1))))))))))))) else bd2 (f6_wrong W10 3) (fun r40 W41 => ck (r40 = 0 ∨ r40 = 1) (some (r40, W41)))))))))
theorem ev6_parseShip {G : GT} {l : Launch} {V : VV} {r : Int} {V1 : VV} (hlt : l.stackTraces = false) (hN : 154 ≤ gN G) (h : f6_parseShip V = some (r, V1)) : EvX G l y6_parseShip b6_parseShip 3 (some .boolean) 3 0 0 [.ref (gB G + 148)] V (.ok (some (vI r))) V1 := by
  refine ev_w hlt (by decide +kernel) rfl rfl (fun X hl hx C M => ?_)
  subst hl
  replace C : Cx G X "ChannelScheduleModel" b6_parseShip := C
  unfold f6_parseShip at h
  show At G X 0 0 0 [(0, .ref (gB G + 148))] [] V
  refine r_aload_n C d6_parseShip_0 rfl ?_
  refine g_model_0 C d6_parseShip_1 f6_13 hN ?_
  refine r_iconst C d6_parseShip_4 ?_
  refine x_iald C d6_parseShip_5 (ra_m hN) (by omega) ?_
  refine r_bipush C d6_parseShip_6 (by decide +kernel) ?_
  refine x_icmpne (tgt := 17) C d6_parseShip_8 rfl (fun c1 => ?_) (fun c1 => ?_)
  · replace h := ite_p c1 h
    refine r_aload_n C d6_parseShip_11 rfl ?_
    refine r_iconst C d6_parseShip_12 ?_
    obtain ⟨r3, W4, h2, h⟩ := bd2_of h
    refine cV1_i C M d6_parseShip_13 l6_164 w6_wrong (rc_model hN) (ev6_wrong C.lt hN h2) rfl (Nat.le_of_ble_eq_true rfl) (Nat.le_of_ble_eq_true rfl) ?_
    obtain ⟨c5, h⟩ := ck_of h
    exact e_zv C M d6_parseShip_16 (Nat.le_of_ble_eq_true rfl) (Nat.le_of_ble_eq_true rfl) c5 h
  · replace h := ite_m c1 h
    refine r_aload_n C d6_parseShip_17 rfl ?_
    obtain ⟨W7, h6, h⟩ := bd_of h
    refine cV0_v C M d6_parseShip_18 l6_161 w6_token (rc_model hN) (ev6_token C.lt hN h6) rfl (Nat.le_of_ble_eq_true rfl) (Nat.le_of_ble_eq_true rfl) ?_
    refine r_aload_n C d6_parseShip_21 rfl ?_
    obtain ⟨r9, W10, h8, h⟩ := bd2_of h
    refine cV0_i C M d6_parseShip_22 l6_167 w6_isShortWord (rc_model hN) (ev6_isShortWord C.lt hN h8) rfl (Nat.le_of_ble_eq_true rfl) (Nat.le_of_ble_eq_true rfl) ?_
    refine x_ifne (tgt := 30) C d6_parseShip_25 rfl (fun c11 => ?_) (fun c11 => ?_)
    · replace h := ite_p c11 h
      refine r_iconst C d6_parseShip_28 ?_
      exact e_zv C M d6_parseShip_29 (Nat.le_of_ble_eq_true rfl) (Nat.le_of_ble_eq_true rfl) (Or.inl rfl) h
    · replace h := ite_m c11 h
      refine r_aload_n C d6_parseShip_30 rfl ?_
      refine r_aload_n C d6_parseShip_31 rfl ?_
      refine g_model_12 C d6_parseShip_32 f6_48 hN ?_
      refine r_aload_n C d6_parseShip_35 rfl ?_
      refine g_model_10 C d6_parseShip_36 f6_42 hN ?_
      refine r_aload_n C d6_parseShip_39 rfl ?_
      refine g_model_12 C d6_parseShip_40 f6_48 hN ?_
      refine r_isub C d6_parseShip_43 ?_
      obtain ⟨r13, h12, h⟩ := bd_of h
      refine cV2_i C M d6_parseShip_44 l6_170 w6_shipNamed (rc_model hN) (ev6_shipNamed C.lt hN h12) rfl (Nat.le_of_ble_eq_true rfl) (Nat.le_of_ble_eq_true rfl) ?_
      refine r_iconst C d6_parseShip_47 ?_
      refine x_icmpeq (tgt := 57) C d6_parseShip_48 rfl (fun c14 => ?_) (fun c14 => ?_)
      · replace h := ite_p c14 h
        refine r_bipush C d6_parseShip_57 (by decide +kernel) ?_
        refine r_aload_n C d6_parseShip_59 rfl ?_
        refine g_model_0 C d6_parseShip_60 f6_13 hN ?_
        refine r_iconst C d6_parseShip_63 ?_
        refine x_iald C d6_parseShip_64 (ra_m hN) (by omega) ?_
        refine r_bipush C d6_parseShip_65 (by decide +kernel) ?_
        refine r_imul C d6_parseShip_67 ?_
        refine r_iadd C d6_parseShip_68 ?_
        refine x_istore_n hx C d6_parseShip_69 rfl ?_
        refine r_aload_n C d6_parseShip_70 rfl ?_
        refine g_model_0 C d6_parseShip_71 f6_13 hN ?_
        refine r_iload_n C d6_parseShip_74 rfl ?_
        refine r_aload_n C d6_parseShip_75 rfl ?_
        refine g_model_10 C d6_parseShip_76 f6_42 hN ?_
        refine r_aload_n C d6_parseShip_79 rfl ?_
        refine g_model_12 C d6_parseShip_80 f6_48 hN ?_
        refine r_isub C d6_parseShip_83 ?_
        obtain ⟨c15, h⟩ := ck_of h
        refine x_iast C d6_parseShip_84 (ra_m hN) c15 ?_
        refine r_aload_n C d6_parseShip_85 rfl ?_
        refine g_model_12 C d6_parseShip_86 f6_48 hN ?_
        refine x_istore_n hx C d6_parseShip_89 rfl ?_
        obtain ⟨W19, h20, h⟩ := bd_of h
        refine AtH.sw (lp6_parseShip_90 hN hx C M (Nat.le_of_ble_eq_true rfl) (Nat.le_of_ble_eq_true rfl) FU h20 ?_) ⟨rfl, rfl, rfl, trivial⟩
        refine r_aload_n C d6_parseShip_125 rfl ?_
        obtain ⟨W22, h21, h⟩ := bd_of h
        refine cV0_v C M d6_parseShip_126 l6_161 w6_token (rc_model hN) (ev6_token C.lt hN h21) rfl (Nat.le_of_ble_eq_true rfl) (Nat.le_of_ble_eq_true rfl) ?_
        refine r_aload_n C d6_parseShip_129 rfl ?_
        refine r_iload_n C d6_parseShip_130 rfl ?_
        refine r_bipush C d6_parseShip_131 (by decide +kernel) ?_
        refine r_iadd C d6_parseShip_133 ?_
        refine r_iconst C d6_parseShip_134 ?_
        refine r_bipush C d6_parseShip_135 (by decide +kernel) ?_
        obtain ⟨r24, W25, h23, h⟩ := bd2_of h
        refine cV3_i C M d6_parseShip_137 l6_173 w6_parseRanged (rc_model hN) (ev6_parseRanged C.lt hN h23) rfl (Nat.le_of_ble_eq_true rfl) (Nat.le_of_ble_eq_true rfl) ?_
        refine x_ifeq (tgt := 178) C d6_parseShip_140 rfl (fun c26 => ?_) (fun c26 => ?_)
        · replace h := ite_p c26 h
          refine r_iconst C d6_parseShip_178 ?_
          exact e_zv C M d6_parseShip_179 (Nat.le_of_ble_eq_true rfl) (Nat.le_of_ble_eq_true rfl) (Or.inl rfl) h
        · replace h := ite_m c26 h
          refine r_aload_n C d6_parseShip_143 rfl ?_
          refine r_iload_n C d6_parseShip_144 rfl ?_
          refine r_bipush C d6_parseShip_145 (by decide +kernel) ?_
          refine r_iadd C d6_parseShip_147 ?_
          refine r_iconst C d6_parseShip_148 ?_
          refine r_bipush C d6_parseShip_149 (by decide +kernel) ?_
          obtain ⟨r28, W29, h27, h⟩ := bd2_of h
          refine cV3_i C M d6_parseShip_151 l6_173 w6_parseRanged (rc_model hN) (ev6_parseRanged C.lt hN h27) rfl (Nat.le_of_ble_eq_true rfl) (Nat.le_of_ble_eq_true rfl) ?_
          refine x_ifeq (tgt := 178) C d6_parseShip_154 rfl (fun c30 => ?_) (fun c30 => ?_)
          · replace h := ite_p c30 h
            refine r_iconst C d6_parseShip_178 ?_
            exact e_zv C M d6_parseShip_179 (Nat.le_of_ble_eq_true rfl) (Nat.le_of_ble_eq_true rfl) (Or.inl rfl) h
          · replace h := ite_m c30 h
            refine r_aload_n C d6_parseShip_157 rfl ?_
            refine r_iload_n C d6_parseShip_158 rfl ?_
            refine r_bipush C d6_parseShip_159 (by decide +kernel) ?_
            refine r_iadd C d6_parseShip_161 ?_
            refine r_iconst C d6_parseShip_162 ?_
            refine r_bipush C d6_parseShip_163 (by decide +kernel) ?_
            obtain ⟨r32, W33, h31, h⟩ := bd2_of h
            refine cV3_i C M d6_parseShip_165 l6_173 w6_parseRanged (rc_model hN) (ev6_parseRanged C.lt hN h31) rfl (Nat.le_of_ble_eq_true rfl) (Nat.le_of_ble_eq_true rfl) ?_
            refine x_ifeq (tgt := 178) C d6_parseShip_168 rfl (fun c34 => ?_) (fun c34 => ?_)
            · replace h := ite_p c34 h
              refine r_iconst C d6_parseShip_178 ?_
              exact e_zv C M d6_parseShip_179 (Nat.le_of_ble_eq_true rfl) (Nat.le_of_ble_eq_true rfl) (Or.inl rfl) h
            · replace h := ite_m c34 h
              refine r_aload_n C d6_parseShip_171 rfl ?_
              obtain ⟨r36, W37, h35, h⟩ := bd2_of h
              refine cV0_i C M d6_parseShip_172 l6_176 w6_semicolon (rc_model hN) (ev6_semicolon C.lt hN h35) rfl (Nat.le_of_ble_eq_true rfl) (Nat.le_of_ble_eq_true rfl) ?_
              refine x_ifne (tgt := 180) C d6_parseShip_175 rfl (fun c38 => ?_) (fun c38 => ?_)
              · replace h := ite_p c38 h
                refine r_iconst C d6_parseShip_178 ?_
                exact e_zv C M d6_parseShip_179 (Nat.le_of_ble_eq_true rfl) (Nat.le_of_ble_eq_true rfl) (Or.inl rfl) h
              · replace h := ite_m c38 h
                refine r_aload_n C d6_parseShip_180 rfl ?_
                refine g_model_0 C d6_parseShip_181 f6_13 hN ?_
                refine r_iconst C d6_parseShip_184 ?_
                refine r_dup2 C d6_parseShip_185 rfl rfl ?_
                refine x_iald C d6_parseShip_186 (ra_m hN) (by omega) ?_
                refine r_iconst C d6_parseShip_187 ?_
                refine r_iadd C d6_parseShip_188 ?_
                refine x_iast C d6_parseShip_189 (ra_m hN) (by omega) ?_
                refine r_iconst C d6_parseShip_190 ?_
                exact e_zv C M d6_parseShip_191 (Nat.le_of_ble_eq_true rfl) (Nat.le_of_ble_eq_true rfl) (Or.inr rfl) h
      · replace h := ite_m c14 h
        refine r_aload_n C d6_parseShip_51 rfl ?_
        refine r_iconst C d6_parseShip_52 ?_
        obtain ⟨r40, W41, h39, h⟩ := bd2_of h
        refine cV1_i C M d6_parseShip_53 l6_164 w6_wrong (rc_model hN) (ev6_wrong C.lt hN h39) rfl (Nat.le_of_ble_eq_true rfl) (Nat.le_of_ble_eq_true rfl) ?_
        obtain ⟨c42, h⟩ := ck_of h
        exact e_zv C M d6_parseShip_56 (Nat.le_of_ble_eq_true rfl) (Nat.le_of_ble_eq_true rfl) c42 h
def f6_parseSetup_L2 : Nat → Int → VV → Option (VV)
  | 0, _, _ => none
  | n + 1, x1, V => (if nrm 230 ≤ nrm x1 then some V else ck ((0:Int) ≤ x1 ∧ x1 < 2300) (f6_parseSetup_L2 n (x1 + 1) (up2 V 149 (Int.toNat x1) 0)))
theorem lp6_parseSetup_2 {G : GT} {X : CT} {cells slots : Nat} (hN : 154 ≤ gN G) (hx : xN X = 2) (C : Cx G X "ChannelScheduleModel" b6_parseSetup) {o0 : Except String (Option Value)} {V9 : VV} (M : MX G X 5 0 0 (some .boolean) o0 V9) (hc : cells ≤ 0) (hs : slots ≤ 0) : ∀ (n : Nat) {x1 : Int} {V : VV} {W0 : VV}, f6_parseSetup_L2 n x1 V = some (W0) → At G X cells slots 22 [(0, .ref (gB G + 148))] [] W0 → At G X cells slots 2 [(0, .ref (gB G + 148)), (1, vI x1)] [] V := by
  intro n
  induction n with
  | zero => intro x1 V W0 h _; exact nomatch h
  | succ n ih =>
    intro x1 V W0 h K
    rw [f6_parseSetup_L2] at h
    refine r_iload_n C d6_parseSetup_2 rfl ?_
    refine r_sipush C d6_parseSetup_3 (by decide +kernel) ?_
    refine x_icmpge (tgt := 22) C d6_parseSetup_6 rfl (fun c1 => ?_) (fun c1 => ?_)
    · replace h := ite_p c1 h
      cases h
      exact AtH.sw K ⟨rfl, trivial⟩
    · replace h := ite_m c1 h
      refine r_aload_n C d6_parseSetup_9 rfl ?_
      refine g_model_0 C d6_parseSetup_10 f6_13 hN ?_
      refine r_iload_n C d6_parseSetup_13 rfl ?_
      refine r_iconst C d6_parseSetup_14 ?_
      obtain ⟨c2, h⟩ := ck_of h
      refine x_iast C d6_parseSetup_15 (ra_m hN) c2 ?_
      refine x_iinc hx C d6_parseSetup_16 rfl rfl ?_
      refine r_goto (tgt := 2) C d6_parseSetup_19 rfl ?_
      exact AtH.sw (ih h K) ⟨rfl, rfl, trivial⟩
def f6_parseSetup_L98 : Nat → VV → Option (Int × VV)
  | 0, _ => none
  | n + 1, V => bd (f6_isWord V 2) (fun r38 => (if nrm r38 = 0 then (if nrm (V 148 11) = 0 then some (1, V) else bd2 (f6_wrong V 1) (fun r42 W43 => (if nrm r42 = 0 then some (0, W43) else some (1, W43)))) else bd2 (f6_parseShip V) (fun r46 W47 => (if nrm r46 = 0 then some (0, W47) else f6_parseSetup_L98 n W47))))
theorem lp6_parseSetup_98 {G : GT} {X : CT} {cells slots : Nat} (hN : 154 ≤ gN G) (hx : xN X = 2) (C : Cx G X "ChannelScheduleModel" b6_parseSetup) : ∀ (n : Nat) {V : VV} {r : Int} {V1 : VV}, MX G X 5 0 0 (some .boolean) (.ok (some (vI r))) V1 → cells ≤ 0 → slots ≤ 0 → f6_parseSetup_L98 n V = some (r, V1) → At G X cells slots 98 [(0, .ref (gB G + 148))] [] V := by
  intro n
  induction n with
  | zero => intro V r V1 _ _ _ h; exact nomatch h
  | succ n ih =>
    intro V r V1 M hc hs h
    rw [f6_parseSetup_L98] at h
    refine r_aload_n C d6_parseSetup_98 rfl ?_
    refine x_ldcM C d6_parseSetup_99 (k := 2) (by decide) ?_
    obtain ⟨r38, h37, h⟩ := bd_of h
    refine cV1_i C M d6_parseSetup_101 l6_181 w6_isWord (rc_model hN) (ev6_isWord C.lt hN h37) rfl hc hs ?_
    refine x_ifeq (tgt := 116) C d6_parseSetup_104 rfl (fun c39 => ?_) (fun c39 => ?_)
    · replace h := ite_p c39 h
      refine r_aload_n C d6_parseSetup_116 rfl ?_
      refine g_model_11 C d6_parseSetup_117 f6_45 hN ?_
      refine x_ifeq (tgt := 131) C d6_parseSetup_120 rfl (fun c40 => ?_) (fun c40 => ?_)
      · replace h := ite_p c40 h
        refine r_iconst C d6_parseSetup_131 ?_
        refine r_goto (tgt := 136) C d6_parseSetup_132 rfl ?_
        exact e_zv C M d6_parseSetup_136 hc hs (Or.inr rfl) h
      · replace h := ite_m c40 h
        refine r_aload_n C d6_parseSetup_123 rfl ?_
        refine r_iconst C d6_parseSetup_124 ?_
        obtain ⟨r42, W43, h41, h⟩ := bd2_of h
        refine cV1_i C M d6_parseSetup_125 l6_164 w6_wrong (rc_model hN) (ev6_wrong C.lt hN h41) rfl hc hs ?_
        refine x_ifeq (tgt := 135) C d6_parseSetup_128 rfl (fun c44 => ?_) (fun c44 => ?_)
        · replace h := ite_p c44 h
          refine r_iconst C d6_parseSetup_135 ?_
          exact e_zv C M d6_parseSetup_136 hc hs (Or.inl rfl) h
        · replace h := ite_m c44 h
          refine r_iconst C d6_parseSetup_131 ?_
          refine r_goto (tgt := 136) C d6_parseSetup_132 rfl ?_
          exact e_zv C M d6_parseSetup_136 hc hs (Or.inr rfl) h
    · replace h := ite_m c39 h
      refine r_aload_n C d6_parseSetup_107 rfl ?_
      obtain ⟨r46, W47, h45, h⟩ := bd2_of h
      refine cV0_i C M d6_parseSetup_108 l6_187 w6_parseShip (rc_model hN) (ev6_parseShip C.lt hN h45) rfl hc hs ?_
      refine x_ifne (tgt := 98) C d6_parseSetup_111 rfl (fun c48 => ?_) (fun c48 => ?_)
      · replace h := ite_p c48 h
        refine r_iconst C d6_parseSetup_114 ?_
        exact e_zv C M d6_parseSetup_115 hc hs (Or.inl rfl) h
      · replace h := ite_m c48 h
        exact AtH.sw (ih M hc hs h) ⟨rfl, trivial⟩
def f6_parseSetup (V : VV) : Option (Int × VV) := bd (f6_parseSetup_L2 FU 0 V) (fun W3 => bd (f6_isWord W3 1) (fun r6 => (if nrm r6 = 0 then bd2 (f6_wrong W3 1) (fun r9 W10 => ck (r9 = 0 ∨ r9 = 1) (some (r9, W10))) else bd (f6_token W3) (fun W13 => bd2 (f6_parseRanged W13 0 0 30) (fun r15 W16 => (if nrm r15 = 0 then some (0, W16) else bd2 (f6_parseRanged W16 1 0 30) (fun r19 W20 => (if nrm r19 = 0 then some (0, W20) else bd2 (f6_parseRanged W20 2 0 9) (fun r23 W24 => (if nrm r23 = 0 then some (0, W24) else bd2 (f6_semicolon W24) (fun r27 W28 => (if nrm r27 = 0 then some (0, W28) else bd (f6_isWord W28 2) (fun r31 => (if nrm r31 = 0 then bd2 (f6_wrong W28 1) (fun r34 W35 => ck (r34 = 0 ∨ r34 = 1) (some (r34, W35))) else f6_parseSetup_L98 FU W28))))))))))))))
theorem ev6_parseSetup {G : GT} {l : Launch} {V : VV} {r : Int} {V1 : VV} (hlt : l.stackTraces = false) (hN : 154 ≤ gN G) (h : f6_parseSetup V = some (r, V1)) : EvX G l y6_parseSetup b6_parseSetup 2 (some .boolean) 5 0 0 [.ref (gB G + 148)] V (.ok (some (vI r))) V1 := by
  refine ev_w hlt (by decide +kernel) rfl rfl (fun X hl hx C M => ?_)
  subst hl
  replace C : Cx G X "ChannelScheduleModel" b6_parseSetup := C
  unfold f6_parseSetup at h
  show At G X 0 0 0 [(0, .ref (gB G + 148))] [] V
  refine r_iconst C d6_parseSetup_0 ?_
  refine x_istore_n hx C d6_parseSetup_1 rfl ?_
  obtain ⟨W3, h4, h⟩ := bd_of h
  refine AtH.sw (lp6_parseSetup_2 hN hx C M (Nat.le_of_ble_eq_true rfl) (Nat.le_of_ble_eq_true rfl) FU h4 ?_) ⟨rfl, rfl, trivial⟩
  refine r_aload_n C d6_parseSetup_22 rfl ?_
  refine x_ldcM C d6_parseSetup_23 (k := 1) (by decide) ?_
  obtain ⟨r6, h5, h⟩ := bd_of h
  refine cV1_i C M d6_parseSetup_25 l6_181 w6_isWord (rc_model hN) (ev6_isWord C.lt hN h5) rfl (Nat.le_of_ble_eq_true rfl) (Nat.le_of_ble_eq_true rfl) ?_
  refine x_ifne (tgt := 37) C d6_parseSetup_28 rfl (fun c7 => ?_) (fun c7 => ?_)
  · replace h := ite_p c7 h
    refine r_aload_n C d6_parseSetup_31 rfl ?_
    refine r_iconst C d6_parseSetup_32 ?_
    obtain ⟨r9, W10, h8, h⟩ := bd2_of h
    refine cV1_i C M d6_parseSetup_33 l6_164 w6_wrong (rc_model hN) (ev6_wrong C.lt hN h8) rfl (Nat.le_of_ble_eq_true rfl) (Nat.le_of_ble_eq_true rfl) ?_
    obtain ⟨c11, h⟩ := ck_of h
    exact e_zv C M d6_parseSetup_36 (Nat.le_of_ble_eq_true rfl) (Nat.le_of_ble_eq_true rfl) c11 h
  · replace h := ite_m c7 h
    refine r_aload_n C d6_parseSetup_37 rfl ?_
    obtain ⟨W13, h12, h⟩ := bd_of h
    refine cV0_v C M d6_parseSetup_38 l6_161 w6_token (rc_model hN) (ev6_token C.lt hN h12) rfl (Nat.le_of_ble_eq_true rfl) (Nat.le_of_ble_eq_true rfl) ?_
    refine r_aload_n C d6_parseSetup_41 rfl ?_
    refine r_iconst C d6_parseSetup_42 ?_
    refine r_iconst C d6_parseSetup_43 ?_
    refine r_bipush C d6_parseSetup_44 (by decide +kernel) ?_
    obtain ⟨r15, W16, h14, h⟩ := bd2_of h
    refine cV3_i C M d6_parseSetup_46 l6_173 w6_parseRanged (rc_model hN) (ev6_parseRanged C.lt hN h14) rfl (Nat.le_of_ble_eq_true rfl) (Nat.le_of_ble_eq_true rfl) ?_
    refine x_ifeq (tgt := 81) C d6_parseSetup_49 rfl (fun c17 => ?_) (fun c17 => ?_)
    · replace h := ite_p c17 h
      refine r_iconst C d6_parseSetup_81 ?_
      exact e_zv C M d6_parseSetup_82 (Nat.le_of_ble_eq_true rfl) (Nat.le_of_ble_eq_true rfl) (Or.inl rfl) h
    · replace h := ite_m c17 h
      refine r_aload_n C d6_parseSetup_52 rfl ?_
      refine r_iconst C d6_parseSetup_53 ?_
      refine r_iconst C d6_parseSetup_54 ?_
      refine r_bipush C d6_parseSetup_55 (by decide +kernel) ?_
      obtain ⟨r19, W20, h18, h⟩ := bd2_of h
      refine cV3_i C M d6_parseSetup_57 l6_173 w6_parseRanged (rc_model hN) (ev6_parseRanged C.lt hN h18) rfl (Nat.le_of_ble_eq_true rfl) (Nat.le_of_ble_eq_true rfl) ?_
      refine x_ifeq (tgt := 81) C d6_parseSetup_60 rfl (fun c21 => ?_) (fun c21 => ?_)
      · replace h := ite_p c21 h
        refine r_iconst C d6_parseSetup_81 ?_
        exact e_zv C M d6_parseSetup_82 (Nat.le_of_ble_eq_true rfl) (Nat.le_of_ble_eq_true rfl) (Or.inl rfl) h
      · replace h := ite_m c21 h
        refine r_aload_n C d6_parseSetup_63 rfl ?_
        refine r_iconst C d6_parseSetup_64 ?_
        refine r_iconst C d6_parseSetup_65 ?_
        refine r_bipush C d6_parseSetup_66 (by decide +kernel) ?_
        obtain ⟨r23, W24, h22, h⟩ := bd2_of h
        refine cV3_i C M d6_parseSetup_68 l6_173 w6_parseRanged (rc_model hN) (ev6_parseRanged C.lt hN h22) rfl (Nat.le_of_ble_eq_true rfl) (Nat.le_of_ble_eq_true rfl) ?_
        refine x_ifeq (tgt := 81) C d6_parseSetup_71 rfl (fun c25 => ?_) (fun c25 => ?_)
        · replace h := ite_p c25 h
          refine r_iconst C d6_parseSetup_81 ?_
          exact e_zv C M d6_parseSetup_82 (Nat.le_of_ble_eq_true rfl) (Nat.le_of_ble_eq_true rfl) (Or.inl rfl) h
        · replace h := ite_m c25 h
          refine r_aload_n C d6_parseSetup_74 rfl ?_
          obtain ⟨r27, W28, h26, h⟩ := bd2_of h
          refine cV0_i C M d6_parseSetup_75 l6_176 w6_semicolon (rc_model hN) (ev6_semicolon C.lt hN h26) rfl (Nat.le_of_ble_eq_true rfl) (Nat.le_of_ble_eq_true rfl) ?_
          refine x_ifne (tgt := 83) C d6_parseSetup_78 rfl (fun c29 => ?_) (fun c29 => ?_)
          · replace h := ite_p c29 h
            refine r_iconst C d6_parseSetup_81 ?_
            exact e_zv C M d6_parseSetup_82 (Nat.le_of_ble_eq_true rfl) (Nat.le_of_ble_eq_true rfl) (Or.inl rfl) h
          · replace h := ite_m c29 h
            refine r_aload_n C d6_parseSetup_83 rfl ?_
            refine x_ldcM C d6_parseSetup_84 (k := 2) (by decide) ?_
            obtain ⟨r31, h30, h⟩ := bd_of h
            refine cV1_i C M d6_parseSetup_86 l6_181 w6_isWord (rc_model hN) (ev6_isWord C.lt hN h30) rfl (Nat.le_of_ble_eq_true rfl) (Nat.le_of_ble_eq_true rfl) ?_
            refine x_ifne (tgt := 98) C d6_parseSetup_89 rfl (fun c32 => ?_) (fun c32 => ?_)
            · replace h := ite_p c32 h
              refine r_aload_n C d6_parseSetup_92 rfl ?_
              refine r_iconst C d6_parseSetup_93 ?_
              obtain ⟨r34, W35, h33, h⟩ := bd2_of h
              refine cV1_i C M d6_parseSetup_94 l6_164 w6_wrong (rc_model hN) (ev6_wrong C.lt hN h33) rfl (Nat.le_of_ble_eq_true rfl) (Nat.le_of_ble_eq_true rfl) ?_
              obtain ⟨c36, h⟩ := ck_of h
              exact e_zv C M d6_parseSetup_97 (Nat.le_of_ble_eq_true rfl) (Nat.le_of_ble_eq_true rfl) c36 h
            · replace h := ite_m c32 h
              exact AtH.sw (lp6_parseSetup_98 hN hx C FU M (Nat.le_of_ble_eq_true rfl) (Nat.le_of_ble_eq_true rfl) h) ⟨rfl, trivial⟩
def f6_load (V : VV) : Option (Int × VV) := bd (f6_copyBlock V 0 9) (fun W2 => bd (f6_begin W2) (fun W4 => bd2 (f6_parseSetup W4) (fun r6 W7 => bd ((if nrm r6 = 0 then bd (f6_copyBlock (up2 W7 148 4 0) 9 0) (fun W10 => some (W10)) else some (up2 W7 148 4 0))) (fun W11 => bd ((if nrm r6 = 0 then some (1) else some (0))) (fun y15 => bd2 (f6_fails W11 y15 0 0) (fun r19 W20 => (if nrm r19 = 0 then some ((up2 (up2 (up2 W20 148 2 0) 150 0 0) 150 1 0) 149 4, up2 (up2 (up2 W20 148 2 0) 150 0 0) 150 1 0) else some (0, W20))))))))
theorem ev6_load {G : GT} {l : Launch} {V : VV} {r : Int} {V1 : VV} (hlt : l.stackTraces = false) (hN : 154 ≤ gN G) (h : f6_load V = some (r, V1)) : EvX G l y6_load b6_load 2 (some .int) 6 0 0 [.ref (gB G + 148)] V (.ok (some (vI r))) V1 := by
  refine ev_w hlt (by decide +kernel) rfl rfl (fun X hl hx C M => ?_)
  subst hl
  replace C : Cx G X "ChannelScheduleModel" b6_load := C
  unfold f6_load at h
  show At G X 0 0 0 [(0, .ref (gB G + 148))] [] V
  refine r_aload_n C d6_load_0 rfl ?_
  refine r_iconst C d6_load_1 ?_
  refine r_bipush C d6_load_2 (by decide +kernel) ?_
  obtain ⟨W2, h1, h⟩ := bd_of h
  refine cV2_v C M d6_load_4 l6_79 w6_copyBlock (rc_model hN) (ev6_copyBlock C.lt hN h1) rfl (Nat.le_of_ble_eq_true rfl) (Nat.le_of_ble_eq_true rfl) ?_
  refine r_aload_n C d6_load_7 rfl ?_
  obtain ⟨W4, h3, h⟩ := bd_of h
  refine cV0_v C M d6_load_8 l6_68 w6_begin (rc_model hN) (ev6_begin C.lt hN h3) rfl (Nat.le_of_ble_eq_true rfl) (Nat.le_of_ble_eq_true rfl) ?_
  refine r_aload_n C d6_load_11 rfl ?_
  obtain ⟨r6, W7, h5, h⟩ := bd2_of h
  refine cV0_i C M d6_load_12 l6_71 w6_parseSetup (rc_model hN) (ev6_parseSetup C.lt hN h5) rfl (Nat.le_of_ble_eq_true rfl) (Nat.le_of_ble_eq_true rfl) ?_
  refine x_istore_n hx C d6_load_15 rfl ?_
  refine r_aload_n C d6_load_16 rfl ?_
  refine r_iconst C d6_load_17 ?_
  refine p_model_4 C d6_load_18 f6_27 hN ?_
  refine r_iload_n C d6_load_21 rfl ?_
  obtain ⟨W11, h12, h⟩ := bd_of h
  suffices J13 : At G X 0 0 32 [(0, .ref (gB G + 148)), (1, vI r6)] [] W11 by
    replace h := h12
    refine x_ifne (tgt := 32) C d6_load_22 rfl (fun c8 => ?_) (fun c8 => ?_)
    · replace h := ite_p c8 h
      refine r_aload_n C d6_load_25 rfl ?_
      refine r_bipush C d6_load_26 (by decide +kernel) ?_
      refine r_iconst C d6_load_28 ?_
      obtain ⟨W10, h9, h⟩ := bd_of h
      refine cV2_v C M d6_load_29 l6_79 w6_copyBlock (rc_model hN) (ev6_copyBlock C.lt hN h9) rfl (Nat.le_of_ble_eq_true rfl) (Nat.le_of_ble_eq_true rfl) ?_
      cases h
      exact AtH.sw J13 ⟨rfl, rfl, trivial⟩
    · replace h := ite_m c8 h
      cases h
      exact AtH.sw J13 ⟨rfl, rfl, trivial⟩
  refine r_aload_n C d6_load_32 rfl ?_
  refine r_iload_n C d6_load_33 rfl ?_
  obtain ⟨y15, h16, h⟩ := bd_of h
  suffices J17 : At G X 0 0 42 [(0, .ref (gB G + 148))] [vI y15, .ref (gB G + 148)] W11 by
    replace h := h16
    refine x_ifne (tgt := 41) C d6_load_34 rfl (fun c14 => ?_) (fun c14 => ?_)
    · replace h := ite_p c14 h
      refine r_iconst C d6_load_37 ?_
      refine r_goto (tgt := 42) C d6_load_38 rfl ?_
      cases h
      exact AtH.sw J17 ⟨rfl, trivial⟩
    · replace h := ite_m c14 h
      refine r_iconst C d6_load_41 ?_
      cases h
      exact AtH.sw J17 ⟨rfl, trivial⟩
  refine r_iconst C d6_load_42 ?_
  refine r_iconst C d6_load_43 ?_
  obtain ⟨r19, W20, h18, h⟩ := bd2_of h
  refine cV3_i C M d6_load_44 l6_148 w6_fails (rc_model hN) (ev6_fails C.lt hN h18) rfl (Nat.le_of_ble_eq_true rfl) (Nat.le_of_ble_eq_true rfl) ?_
  refine x_ifeq (tgt := 52) C d6_load_47 rfl (fun c21 => ?_) (fun c21 => ?_)
  · replace h := ite_p c21 h
    refine r_aload_n C d6_load_52 rfl ?_
    refine r_iconst C d6_load_53 ?_
    refine p_model_2 C d6_load_54 f6_21 hN ?_
    refine r_aload_n C d6_load_57 rfl ?_
    refine g_model_1 C d6_load_58 f6_17 hN ?_
    refine r_iconst C d6_load_61 ?_
    refine r_iconst C d6_load_62 ?_
    refine x_zast C d6_load_63 (ra_msaved hN) (by omega) (Or.inl rfl) ?_
    refine r_aload_n C d6_load_64 rfl ?_
    refine g_model_1 C d6_load_65 f6_17 hN ?_
    refine r_iconst C d6_load_68 ?_
    refine r_iconst C d6_load_69 ?_
    refine x_zast C d6_load_70 (ra_msaved hN) (by omega) (Or.inl rfl) ?_
    refine r_aload_n C d6_load_71 rfl ?_
    refine g_model_0 C d6_load_72 f6_13 hN ?_
    refine r_iconst C d6_load_75 ?_
    refine x_iald C d6_load_76 (ra_m hN) (by omega) ?_
    exact e_iv C M d6_load_77 (Nat.le_of_ble_eq_true rfl) (Nat.le_of_ble_eq_true rfl) h
  · replace h := ite_m c21 h
    refine r_iconst C d6_load_50 ?_
    exact e_iv C M d6_load_51 (Nat.le_of_ble_eq_true rfl) (Nat.le_of_ble_eq_true rfl) h
def f6_nameOf (V : VV) (x0 : Int) : Option Nat := (if nrm x0 = 0 then some 3 else if nrm x0 = 1 then some 4 else if nrm x0 = 2 then some 5 else if nrm x0 = 3 then some 6 else if nrm x0 = 4 then some 7 else if nrm x0 = 5 then some 8 else some 9)
theorem ev6_nameOf {G : GT} {l : Launch} {V : VV} {x0 : Int} {r : Nat} (hlt : l.stackTraces = false) (hN : 154 ≤ gN G) (h : f6_nameOf V x0 = some r) : EvX G l y6_nameOf b6_nameOf 1 (some (.object "java/lang/String")) 0 0 0 [vI x0] V (.ok (some (.ref (gK G r)))) V := by
  refine ev_w hlt (by decide +kernel) rfl rfl (fun X hl hx C M => ?_)
  subst hl
  replace C : Cx G X "ChannelScheduleModel" b6_nameOf := C
  unfold f6_nameOf at h
  show At G X 0 0 0 [(0, vI x0)] [] V
  refine r_iload_n C d6_nameOf_0 rfl ?_
  refine x_tsw6 (t0 := 40) (t1 := 43) (t2 := 46) (t3 := 49) (t4 := 52) (t5 := 55) (td := 58) C d6_nameOf_1 rfl rfl rfl rfl rfl rfl rfl (fun c1 => ?_) (fun c2 => ?_) (fun c3 => ?_) (fun c4 => ?_) (fun c5 => ?_) (fun c6 => ?_) (fun c1 c2 c3 c4 c5 c6 => ?_)
  · replace h := ite_p c1 h
    refine x_ldcM C d6_nameOf_40 (k := 3) (by decide) ?_
    exact e_s C M d6_nameOf_42 (Nat.le_of_ble_eq_true rfl) (Nat.le_of_ble_eq_true rfl) h
  · replace h := ite_p c2 (ite_m (by omega : ¬ nrm x0 = 0) h)
    refine x_ldcM C d6_nameOf_43 (k := 4) (by decide) ?_
    exact e_s C M d6_nameOf_45 (Nat.le_of_ble_eq_true rfl) (Nat.le_of_ble_eq_true rfl) h
  · replace h := ite_p c3 (ite_m (by omega : ¬ nrm x0 = 1) (ite_m (by omega : ¬ nrm x0 = 0) h))
    refine x_ldcM C d6_nameOf_46 (k := 5) (by decide) ?_
    exact e_s C M d6_nameOf_48 (Nat.le_of_ble_eq_true rfl) (Nat.le_of_ble_eq_true rfl) h
  · replace h := ite_p c4 (ite_m (by omega : ¬ nrm x0 = 2) (ite_m (by omega : ¬ nrm x0 = 1) (ite_m (by omega : ¬ nrm x0 = 0) h)))
    refine x_ldcM C d6_nameOf_49 (k := 6) (by decide) ?_
    exact e_s C M d6_nameOf_51 (Nat.le_of_ble_eq_true rfl) (Nat.le_of_ble_eq_true rfl) h
  · replace h := ite_p c5 (ite_m (by omega : ¬ nrm x0 = 3) (ite_m (by omega : ¬ nrm x0 = 2) (ite_m (by omega : ¬ nrm x0 = 1) (ite_m (by omega : ¬ nrm x0 = 0) h))))
    refine x_ldcM C d6_nameOf_52 (k := 7) (by decide) ?_
    exact e_s C M d6_nameOf_54 (Nat.le_of_ble_eq_true rfl) (Nat.le_of_ble_eq_true rfl) h
  · replace h := ite_p c6 (ite_m (by omega : ¬ nrm x0 = 4) (ite_m (by omega : ¬ nrm x0 = 3) (ite_m (by omega : ¬ nrm x0 = 2) (ite_m (by omega : ¬ nrm x0 = 1) (ite_m (by omega : ¬ nrm x0 = 0) h)))))
    refine x_ldcM C d6_nameOf_55 (k := 8) (by decide) ?_
    exact e_s C M d6_nameOf_57 (Nat.le_of_ble_eq_true rfl) (Nat.le_of_ble_eq_true rfl) h
  · replace h := (ite_m c6 (ite_m c5 (ite_m c4 (ite_m c3 (ite_m c2 (ite_m c1 h))))))
    refine x_ldcM C d6_nameOf_58 (k := 9) (by decide) ?_
    exact e_s C M d6_nameOf_60 (Nat.le_of_ble_eq_true rfl) (Nat.le_of_ble_eq_true rfl) h
def f6_commandHere_L2 (V : VV) : Nat → Int → Option Int
  | 0, _ => none
  | n + 1, x1 => (if nrm 6 < nrm x1 then some (-1) else bd (f6_nameOf V x1) (fun r3 => ck (r3 < 12) (bd (f6_isWord V r3) (fun r6 => (if nrm r6 = 0 then f6_commandHere_L2 V n (x1 + 1) else some x1)))))
theorem lp6_commandHere_2 {G : GT} {X : CT} {cells slots : Nat} {V : VV} (hN : 154 ≤ gN G) (hx : xN X = 2) (C : Cx G X "ChannelScheduleModel" b6_commandHere) : ∀ (n : Nat) {x1 : Int} {r : Int}, MX G X 5 0 0 (some .int) (.ok (some (vI r))) V → cells ≤ 0 → slots ≤ 0 → f6_commandHere_L2 V n x1 = some r → At G X cells slots 2 [(0, .ref (gB G + 148)), (1, vI x1)] [] V := by
  intro n
  induction n with
  | zero => intro x1 r _ _ _ h; exact nomatch h
  | succ n ih =>
    intro x1 r M hc hs h
    rw [f6_commandHere_L2] at h
    refine r_iload_n C d6_commandHere_2 rfl ?_
    refine r_bipush C d6_commandHere_3 (by decide +kernel) ?_
    refine x_icmpgt (tgt := 27) C d6_commandHere_5 rfl (fun c1 => ?_) (fun c1 => ?_)
    · replace h := ite_p c1 h
      refine r_iconst C d6_commandHere_27 ?_
      exact e_i C M d6_commandHere_28 hc hs h
    · replace h := ite_m c1 h
      refine r_aload_n C d6_commandHere_8 rfl ?_
      refine r_iload_n C d6_commandHere_9 rfl ?_
      obtain ⟨r3, h2, h⟩ := bd_of h
      refine cS1_a C M d6_commandHere_10 l6_204 w6_nameOf (ev6_nameOf C.lt hN h2) rfl hc hs ?_
      obtain ⟨c4, h⟩ := ck_of h
      obtain ⟨r6, h5, h⟩ := bd_of h
      refine cV1_i C M d6_commandHere_13 l6_181 w6_isWord (rc_model hN) (ev6_isWord C.lt hN h5) rfl hc hs ?_
      refine x_ifeq (tgt := 21) C d6_commandHere_16 rfl (fun c7 => ?_) (fun c7 => ?_)
      · replace h := ite_p c7 h
        refine x_iinc hx C d6_commandHere_21 rfl rfl ?_
        refine r_goto (tgt := 2) C d6_commandHere_24 rfl ?_
        exact AtH.sw (ih M hc hs h) ⟨rfl, rfl, trivial⟩
      · replace h := ite_m c7 h
        refine r_iload_n C d6_commandHere_19 rfl ?_
        exact e_i C M d6_commandHere_20 hc hs h
def f6_commandHere (V : VV) : Option Int := f6_commandHere_L2 V FU 0
theorem ev6_commandHere {G : GT} {l : Launch} {V : VV} {r : Int} (hlt : l.stackTraces = false) (hN : 154 ≤ gN G) (h : f6_commandHere V = some r) : EvX G l y6_commandHere b6_commandHere 2 (some .int) 5 0 0 [.ref (gB G + 148)] V (.ok (some (vI r))) V := by
  refine ev_w hlt (by decide +kernel) rfl rfl (fun X hl hx C M => ?_)
  subst hl
  replace C : Cx G X "ChannelScheduleModel" b6_commandHere := C
  unfold f6_commandHere at h
  show At G X 0 0 0 [(0, .ref (gB G + 148))] [] V
  refine r_iconst C d6_commandHere_0 ?_
  refine x_istore_n hx C d6_commandHere_1 rfl ?_
  exact AtH.sw (lp6_commandHere_2 hN hx C FU M (Nat.le_of_ble_eq_true rfl) (Nat.le_of_ble_eq_true rfl) h) ⟨rfl, rfl, trivial⟩
def f6_parseNumber (V : VV) (x1 : Int) : Option (Int × VV) := (if nrm (V 148 11) = nrm 2 then ck ((0:Int) ≤ x1 ∧ x1 < 150) (bd (f6_token (up2 V 153 (Int.toNat x1) (V 148 13))) (fun W4 => some (1, W4))) else bd2 (f6_wrong V 1) (fun r6 W7 => ck (r6 = 0 ∨ r6 = 1) (some (r6, W7))))
theorem ev6_parseNumber {G : GT} {l : Launch} {V : VV} {x1 : Int} {r : Int} {V1 : VV} (hlt : l.stackTraces = false) (hN : 154 ≤ gN G) (h : f6_parseNumber V x1 = some (r, V1)) : EvX G l y6_parseNumber b6_parseNumber 2 (some .boolean) 2 0 0 [.ref (gB G + 148), vI x1] V (.ok (some (vI r))) V1 := by
  refine ev_w hlt (by decide +kernel) rfl rfl (fun X hl hx C M => ?_)
  subst hl
  replace C : Cx G X "ChannelScheduleModel" b6_parseNumber := C
  unfold f6_parseNumber at h
  show At G X 0 0 0 [(0, .ref (gB G + 148)), (1, vI x1)] [] V
  refine r_aload_n C d6_parseNumber_0 rfl ?_
  refine g_model_11 C d6_parseNumber_1 f6_45 hN ?_
  refine r_iconst C d6_parseNumber_4 ?_
  refine x_icmpeq (tgt := 14) C d6_parseNumber_5 rfl (fun c1 => ?_) (fun c1 => ?_)
  · replace h := ite_p c1 h
    refine r_aload_n C d6_parseNumber_14 rfl ?_
    refine g_model_14 C d6_parseNumber_15 f6_54 hN ?_
    refine r_iload_n C d6_parseNumber_18 rfl ?_
    refine r_aload_n C d6_parseNumber_19 rfl ?_
    refine g_model_13 C d6_parseNumber_20 f6_51 hN ?_
    obtain ⟨c2, h⟩ := ck_of h
    refine x_iast C d6_parseNumber_23 (ra_commands hN) c2 ?_
    refine r_aload_n C d6_parseNumber_24 rfl ?_
    obtain ⟨W4, h3, h⟩ := bd_of h
    refine cV0_v C M d6_parseNumber_25 l6_161 w6_token (rc_model hN) (ev6_token C.lt hN h3) rfl (Nat.le_of_ble_eq_true rfl) (Nat.le_of_ble_eq_true rfl) ?_
    refine r_iconst C d6_parseNumber_28 ?_
    exact e_zv C M d6_parseNumber_29 (Nat.le_of_ble_eq_true rfl) (Nat.le_of_ble_eq_true rfl) (Or.inr rfl) h
  · replace h := ite_m c1 h
    refine r_aload_n C d6_parseNumber_8 rfl ?_
    refine r_iconst C d6_parseNumber_9 ?_
    obtain ⟨r6, W7, h5, h⟩ := bd2_of h
    refine cV1_i C M d6_parseNumber_10 l6_164 w6_wrong (rc_model hN) (ev6_wrong C.lt hN h5) rfl (Nat.le_of_ble_eq_true rfl) (Nat.le_of_ble_eq_true rfl) ?_
    obtain ⟨c8, h⟩ := ck_of h
    exact e_zv C M d6_parseNumber_13 (Nat.le_of_ble_eq_true rfl) (Nat.le_of_ble_eq_true rfl) c8 h
def f6_parseShipName (V : VV) (x1 : Int) : Option (Int × VV) := bd2 (f6_isShortWord V) (fun r2 W3 => (if nrm r2 = 0 then some (0, W3) else bd (f6_shipNamed W3 (W3 148 12) ((W3 148 10) - (W3 148 12))) (fun r6 => ck ((0:Int) ≤ x1 ∧ x1 < 150) ((if nrm ((up2 W3 153 (Int.toNat x1) r6) 153 (Int.toNat x1)) = nrm (-1) then bd2 (f6_wrong (up2 W3 153 (Int.toNat x1) r6) 3) (fun r10 W11 => ck (r10 = 0 ∨ r10 = 1) (some (r10, W11))) else bd (f6_token (up2 W3 153 (Int.toNat x1) r6)) (fun W14 => some (1, W14)))))))
theorem ev6_parseShipName {G : GT} {l : Launch} {V : VV} {x1 : Int} {r : Int} {V1 : VV} (hlt : l.stackTraces = false) (hN : 154 ≤ gN G) (h : f6_parseShipName V x1 = some (r, V1)) : EvX G l y6_parseShipName b6_parseShipName 2 (some .boolean) 2 0 0 [.ref (gB G + 148), vI x1] V (.ok (some (vI r))) V1 := by
  refine ev_w hlt (by decide +kernel) rfl rfl (fun X hl hx C M => ?_)
  subst hl
  replace C : Cx G X "ChannelScheduleModel" b6_parseShipName := C
  unfold f6_parseShipName at h
  show At G X 0 0 0 [(0, .ref (gB G + 148)), (1, vI x1)] [] V
  refine r_aload_n C d6_parseShipName_0 rfl ?_
  obtain ⟨r2, W3, h1, h⟩ := bd2_of h
  refine cV0_i C M d6_parseShipName_1 l6_167 w6_isShortWord (rc_model hN) (ev6_isShortWord C.lt hN h1) rfl (Nat.le_of_ble_eq_true rfl) (Nat.le_of_ble_eq_true rfl) ?_
  refine x_ifne (tgt := 9) C d6_parseShipName_4 rfl (fun c4 => ?_) (fun c4 => ?_)
  · replace h := ite_p c4 h
    refine r_iconst C d6_parseShipName_7 ?_
    exact e_zv C M d6_parseShipName_8 (Nat.le_of_ble_eq_true rfl) (Nat.le_of_ble_eq_true rfl) (Or.inl rfl) h
  · replace h := ite_m c4 h
    refine r_aload_n C d6_parseShipName_9 rfl ?_
    refine g_model_14 C d6_parseShipName_10 f6_54 hN ?_
    refine r_iload_n C d6_parseShipName_13 rfl ?_
    refine r_aload_n C d6_parseShipName_14 rfl ?_
    refine r_aload_n C d6_parseShipName_15 rfl ?_
    refine g_model_12 C d6_parseShipName_16 f6_48 hN ?_
    refine r_aload_n C d6_parseShipName_19 rfl ?_
    refine g_model_10 C d6_parseShipName_20 f6_42 hN ?_
    refine r_aload_n C d6_parseShipName_23 rfl ?_
    refine g_model_12 C d6_parseShipName_24 f6_48 hN ?_
    refine r_isub C d6_parseShipName_27 ?_
    obtain ⟨r6, h5, h⟩ := bd_of h
    refine cV2_i C M d6_parseShipName_28 l6_170 w6_shipNamed (rc_model hN) (ev6_shipNamed C.lt hN h5) rfl (Nat.le_of_ble_eq_true rfl) (Nat.le_of_ble_eq_true rfl) ?_
    obtain ⟨c7, h⟩ := ck_of h
    refine x_iast C d6_parseShipName_31 (ra_commands hN) c7 ?_
    refine r_aload_n C d6_parseShipName_32 rfl ?_
    refine g_model_14 C d6_parseShipName_33 f6_54 hN ?_
    refine r_iload_n C d6_parseShipName_36 rfl ?_
    refine x_iald C d6_parseShipName_37 (ra_commands hN) c7 ?_
    refine r_iconst C d6_parseShipName_38 ?_
    refine x_icmpne (tgt := 48) C d6_parseShipName_39 rfl (fun c8 => ?_) (fun c8 => ?_)
    · replace h := ite_p c8 h
      refine r_aload_n C d6_parseShipName_42 rfl ?_
      refine r_iconst C d6_parseShipName_43 ?_
      obtain ⟨r10, W11, h9, h⟩ := bd2_of h
      refine cV1_i C M d6_parseShipName_44 l6_164 w6_wrong (rc_model hN) (ev6_wrong C.lt hN h9) rfl (Nat.le_of_ble_eq_true rfl) (Nat.le_of_ble_eq_true rfl) ?_
      obtain ⟨c12, h⟩ := ck_of h
      exact e_zv C M d6_parseShipName_47 (Nat.le_of_ble_eq_true rfl) (Nat.le_of_ble_eq_true rfl) c12 h
    · replace h := ite_m c8 h
      refine r_aload_n C d6_parseShipName_48 rfl ?_
      obtain ⟨W14, h13, h⟩ := bd_of h
      refine cV0_v C M d6_parseShipName_49 l6_161 w6_token (rc_model hN) (ev6_token C.lt hN h13) rfl (Nat.le_of_ble_eq_true rfl) (Nat.le_of_ble_eq_true rfl) ?_
      refine r_iconst C d6_parseShipName_52 ?_
      exact e_zv C M d6_parseShipName_53 (Nat.le_of_ble_eq_true rfl) (Nat.le_of_ble_eq_true rfl) (Or.inr rfl) h
def f6_parseDirection (V : VV) (x1 : Int) : Option (Int × VV) := bd (f6_isWord V 10) (fun r2 => (if nrm r2 = 0 then bd (f6_isWord V 11) (fun r5 => (if nrm r5 = 0 then bd2 (f6_wrong V 1) (fun r8 W9 => ck (r8 = 0 ∨ r8 = 1) (some (r8, W9))) else bd (f6_isWord V 10) (fun r12 => bd ((if nrm r12 = 0 then some (0) else some (1))) (fun y14 => ck ((0:Int) ≤ x1 ∧ x1 < 150) (bd (f6_token (up2 V 153 (Int.toNat x1) y14)) (fun W19 => some (1, W19))))))) else bd (f6_isWord V 10) (fun r21 => bd ((if nrm r21 = 0 then some (0) else some (1))) (fun y23 => ck ((0:Int) ≤ x1 ∧ x1 < 150) (bd (f6_token (up2 V 153 (Int.toNat x1) y23)) (fun W28 => some (1, W28)))))))
theorem ev6_parseDirection {G : GT} {l : Launch} {V : VV} {x1 : Int} {r : Int} {V1 : VV} (hlt : l.stackTraces = false) (hN : 154 ≤ gN G) (h : f6_parseDirection V x1 = some (r, V1)) : EvX G l y6_parseDirection b6_parseDirection 2 (some .boolean) 5 0 0 [.ref (gB G + 148), vI x1] V (.ok (some (vI r))) V1 := by
  refine ev_w hlt (by decide +kernel) rfl rfl (fun X hl hx C M => ?_)
  subst hl
  replace C : Cx G X "ChannelScheduleModel" b6_parseDirection := C
  unfold f6_parseDirection at h
  show At G X 0 0 0 [(0, .ref (gB G + 148)), (1, vI x1)] [] V
  refine r_aload_n C d6_parseDirection_0 rfl ?_
  refine x_ldcM C d6_parseDirection_1 (k := 10) (by decide) ?_
  obtain ⟨r2, h1, h⟩ := bd_of h
  refine cV1_i C M d6_parseDirection_3 l6_181 w6_isWord (rc_model hN) (ev6_isWord C.lt hN h1) rfl (Nat.le_of_ble_eq_true rfl) (Nat.le_of_ble_eq_true rfl) ?_
  refine x_ifne (tgt := 24) C d6_parseDirection_6 rfl (fun c3 => ?_) (fun c3 => ?_)
  · replace h := ite_p c3 h
    refine r_aload_n C d6_parseDirection_9 rfl ?_
    refine x_ldcM C d6_parseDirection_10 (k := 11) (by decide) ?_
    obtain ⟨r5, h4, h⟩ := bd_of h
    refine cV1_i C M d6_parseDirection_12 l6_181 w6_isWord (rc_model hN) (ev6_isWord C.lt hN h4) rfl (Nat.le_of_ble_eq_true rfl) (Nat.le_of_ble_eq_true rfl) ?_
    refine x_ifne (tgt := 24) C d6_parseDirection_15 rfl (fun c6 => ?_) (fun c6 => ?_)
    · replace h := ite_p c6 h
      refine r_aload_n C d6_parseDirection_18 rfl ?_
      refine r_iconst C d6_parseDirection_19 ?_
      obtain ⟨r8, W9, h7, h⟩ := bd2_of h
      refine cV1_i C M d6_parseDirection_20 l6_164 w6_wrong (rc_model hN) (ev6_wrong C.lt hN h7) rfl (Nat.le_of_ble_eq_true rfl) (Nat.le_of_ble_eq_true rfl) ?_
      obtain ⟨c10, h⟩ := ck_of h
      exact e_zv C M d6_parseDirection_23 (Nat.le_of_ble_eq_true rfl) (Nat.le_of_ble_eq_true rfl) c10 h
    · replace h := ite_m c6 h
      refine r_aload_n C d6_parseDirection_24 rfl ?_
      refine g_model_14 C d6_parseDirection_25 f6_54 hN ?_
      refine r_iload_n C d6_parseDirection_28 rfl ?_
      refine r_aload_n C d6_parseDirection_29 rfl ?_
      refine x_ldcM C d6_parseDirection_30 (k := 10) (by decide) ?_
      obtain ⟨r12, h11, h⟩ := bd_of h
      refine cV1_i C M d6_parseDirection_32 l6_181 w6_isWord (rc_model hN) (ev6_isWord C.lt hN h11) rfl (Nat.le_of_ble_eq_true rfl) (Nat.le_of_ble_eq_true rfl) ?_
      obtain ⟨y14, h15, h⟩ := bd_of h
      suffices J16 : At G X 0 0 43 [(0, .ref (gB G + 148))] [vI y14, vI x1, .ref (gB G + 153)] V by
        replace h := h15
        refine x_ifeq (tgt := 42) C d6_parseDirection_35 rfl (fun c13 => ?_) (fun c13 => ?_)
        · replace h := ite_p c13 h
          refine r_iconst C d6_parseDirection_42 ?_
          cases h
          exact AtH.sw J16 ⟨rfl, trivial⟩
        · replace h := ite_m c13 h
          refine r_iconst C d6_parseDirection_38 ?_
          refine r_goto (tgt := 43) C d6_parseDirection_39 rfl ?_
          cases h
          exact AtH.sw J16 ⟨rfl, trivial⟩
      obtain ⟨c17, h⟩ := ck_of h
      refine x_iast C d6_parseDirection_43 (ra_commands hN) c17 ?_
      refine r_aload_n C d6_parseDirection_44 rfl ?_
      obtain ⟨W19, h18, h⟩ := bd_of h
      refine cV0_v C M d6_parseDirection_45 l6_161 w6_token (rc_model hN) (ev6_token C.lt hN h18) rfl (Nat.le_of_ble_eq_true rfl) (Nat.le_of_ble_eq_true rfl) ?_
      refine r_iconst C d6_parseDirection_48 ?_
      exact e_zv C M d6_parseDirection_49 (Nat.le_of_ble_eq_true rfl) (Nat.le_of_ble_eq_true rfl) (Or.inr rfl) h
  · replace h := ite_m c3 h
    refine r_aload_n C d6_parseDirection_24 rfl ?_
    refine g_model_14 C d6_parseDirection_25 f6_54 hN ?_
    refine r_iload_n C d6_parseDirection_28 rfl ?_
    refine r_aload_n C d6_parseDirection_29 rfl ?_
    refine x_ldcM C d6_parseDirection_30 (k := 10) (by decide) ?_
    obtain ⟨r21, h20, h⟩ := bd_of h
    refine cV1_i C M d6_parseDirection_32 l6_181 w6_isWord (rc_model hN) (ev6_isWord C.lt hN h20) rfl (Nat.le_of_ble_eq_true rfl) (Nat.le_of_ble_eq_true rfl) ?_
    obtain ⟨y23, h24, h⟩ := bd_of h
    suffices J25 : At G X 0 0 43 [(0, .ref (gB G + 148))] [vI y23, vI x1, .ref (gB G + 153)] V by
      replace h := h24
      refine x_ifeq (tgt := 42) C d6_parseDirection_35 rfl (fun c22 => ?_) (fun c22 => ?_)
      · replace h := ite_p c22 h
        refine r_iconst C d6_parseDirection_42 ?_
        cases h
        exact AtH.sw J25 ⟨rfl, trivial⟩
      · replace h := ite_m c22 h
        refine r_iconst C d6_parseDirection_38 ?_
        refine r_goto (tgt := 43) C d6_parseDirection_39 rfl ?_
        cases h
        exact AtH.sw J25 ⟨rfl, trivial⟩
    obtain ⟨c26, h⟩ := ck_of h
    refine x_iast C d6_parseDirection_43 (ra_commands hN) c26 ?_
    refine r_aload_n C d6_parseDirection_44 rfl ?_
    obtain ⟨W28, h27, h⟩ := bd_of h
    refine cV0_v C M d6_parseDirection_45 l6_161 w6_token (rc_model hN) (ev6_token C.lt hN h27) rfl (Nat.le_of_ble_eq_true rfl) (Nat.le_of_ble_eq_true rfl) ?_
    refine r_iconst C d6_parseDirection_48 ?_
    exact e_zv C M d6_parseDirection_49 (Nat.le_of_ble_eq_true rfl) (Nat.le_of_ble_eq_true rfl) (Or.inr rfl) h
def f6_parseArguments (V : VV) (x1 : Int) (x2 : Int) : Option (Int × VV) := (if nrm x1 = nrm 3 then bd2 (f6_parseNumber V x2) (fun r3 W4 => (if nrm r3 = 0 then some (0, W4) else bd2 (f6_parseNumber W4 (x2 + 1)) (fun r7 W8 => (if nrm r7 = 0 then some (0, W8) else some (1, W8))))) else (if nrm x1 ≤ nrm 1 then bd2 (f6_parseShipName V x2) (fun r12 W13 => (if nrm r12 = 0 then some (0, W13) else bd2 (f6_parseDirection W13 (x2 + 1)) (fun r16 W17 => (if nrm r16 = 0 then some (0, W17) else bd2 (f6_parseNumber W17 (x2 + 2)) (fun r20 W21 => (if nrm r20 = 0 then some (0, W21) else (if nrm x1 = 0 then some (1, W21) else bd2 (f6_parseNumber W21 (x2 + 3)) (fun r25 W26 => (if nrm r25 = 0 then some (0, W26) else some (1, W26)))))))))) else bd2 (f6_parseNumber V x2) (fun r29 W30 => ck (r29 = 0 ∨ r29 = 1) (some (r29, W30)))))
theorem ev6_parseArguments {G : GT} {l : Launch} {V : VV} {x1 : Int} {x2 : Int} {r : Int} {V1 : VV} (hlt : l.stackTraces = false) (hN : 154 ≤ gN G) (h : f6_parseArguments V x1 x2 = some (r, V1)) : EvX G l y6_parseArguments b6_parseArguments 3 (some .boolean) 6 0 0 [.ref (gB G + 148), vI x1, vI x2] V (.ok (some (vI r))) V1 := by
  refine ev_w hlt (by decide +kernel) rfl rfl (fun X hl hx C M => ?_)
  subst hl
  replace C : Cx G X "ChannelScheduleModel" b6_parseArguments := C
  unfold f6_parseArguments at h
  show At G X 0 0 0 [(0, .ref (gB G + 148)), (1, vI x1), (2, vI x2)] [] V
  refine r_iload_n C d6_parseArguments_0 rfl ?_
  refine r_iconst C d6_parseArguments_1 ?_
  refine x_icmpne (tgt := 29) C d6_parseArguments_2 rfl (fun c1 => ?_) (fun c1 => ?_)
  · replace h := ite_p c1 h
    refine r_aload_n C d6_parseArguments_5 rfl ?_
    refine r_iload_n C d6_parseArguments_6 rfl ?_
    obtain ⟨r3, W4, h2, h⟩ := bd2_of h
    refine cV1_i C M d6_parseArguments_7 l6_211 w6_parseNumber (rc_model hN) (ev6_parseNumber C.lt hN h2) rfl (Nat.le_of_ble_eq_true rfl) (Nat.le_of_ble_eq_true rfl) ?_
    refine x_ifeq (tgt := 27) C d6_parseArguments_10 rfl (fun c5 => ?_) (fun c5 => ?_)
    · replace h := ite_p c5 h
      refine r_iconst C d6_parseArguments_27 ?_
      exact e_zv C M d6_parseArguments_28 (Nat.le_of_ble_eq_true rfl) (Nat.le_of_ble_eq_true rfl) (Or.inl rfl) h
    · replace h := ite_m c5 h
      refine r_aload_n C d6_parseArguments_13 rfl ?_
      refine r_iload_n C d6_parseArguments_14 rfl ?_
      refine r_iconst C d6_parseArguments_15 ?_
      refine r_iadd C d6_parseArguments_16 ?_
      obtain ⟨r7, W8, h6, h⟩ := bd2_of h
      refine cV1_i C M d6_parseArguments_17 l6_211 w6_parseNumber (rc_model hN) (ev6_parseNumber C.lt hN h6) rfl (Nat.le_of_ble_eq_true rfl) (Nat.le_of_ble_eq_true rfl) ?_
      refine x_ifeq (tgt := 27) C d6_parseArguments_20 rfl (fun c9 => ?_) (fun c9 => ?_)
      · replace h := ite_p c9 h
        refine r_iconst C d6_parseArguments_27 ?_
        exact e_zv C M d6_parseArguments_28 (Nat.le_of_ble_eq_true rfl) (Nat.le_of_ble_eq_true rfl) (Or.inl rfl) h
      · replace h := ite_m c9 h
        refine r_iconst C d6_parseArguments_23 ?_
        refine r_goto (tgt := 28) C d6_parseArguments_24 rfl ?_
        exact e_zv C M d6_parseArguments_28 (Nat.le_of_ble_eq_true rfl) (Nat.le_of_ble_eq_true rfl) (Or.inr rfl) h
  · replace h := ite_m c1 h
    refine r_iload_n C d6_parseArguments_29 rfl ?_
    refine r_iconst C d6_parseArguments_30 ?_
    refine x_icmple (tgt := 40) C d6_parseArguments_31 rfl (fun c10 => ?_) (fun c10 => ?_)
    · replace h := ite_p c10 h
      refine r_aload_n C d6_parseArguments_40 rfl ?_
      refine r_iload_n C d6_parseArguments_41 rfl ?_
      obtain ⟨r12, W13, h11, h⟩ := bd2_of h
      refine cV1_i C M d6_parseArguments_42 l6_214 w6_parseShipName (rc_model hN) (ev6_parseShipName C.lt hN h11) rfl (Nat.le_of_ble_eq_true rfl) (Nat.le_of_ble_eq_true rfl) ?_
      refine x_ifeq (tgt := 68) C d6_parseArguments_45 rfl (fun c14 => ?_) (fun c14 => ?_)
      · replace h := ite_p c14 h
        refine r_iconst C d6_parseArguments_68 ?_
        exact e_zv C M d6_parseArguments_69 (Nat.le_of_ble_eq_true rfl) (Nat.le_of_ble_eq_true rfl) (Or.inl rfl) h
      · replace h := ite_m c14 h
        refine r_aload_n C d6_parseArguments_48 rfl ?_
        refine r_iload_n C d6_parseArguments_49 rfl ?_
        refine r_iconst C d6_parseArguments_50 ?_
        refine r_iadd C d6_parseArguments_51 ?_
        obtain ⟨r16, W17, h15, h⟩ := bd2_of h
        refine cV1_i C M d6_parseArguments_52 l6_217 w6_parseDirection (rc_model hN) (ev6_parseDirection C.lt hN h15) rfl (Nat.le_of_ble_eq_true rfl) (Nat.le_of_ble_eq_true rfl) ?_
        refine x_ifeq (tgt := 68) C d6_parseArguments_55 rfl (fun c18 => ?_) (fun c18 => ?_)
        · replace h := ite_p c18 h
          refine r_iconst C d6_parseArguments_68 ?_
          exact e_zv C M d6_parseArguments_69 (Nat.le_of_ble_eq_true rfl) (Nat.le_of_ble_eq_true rfl) (Or.inl rfl) h
        · replace h := ite_m c18 h
          refine r_aload_n C d6_parseArguments_58 rfl ?_
          refine r_iload_n C d6_parseArguments_59 rfl ?_
          refine r_iconst C d6_parseArguments_60 ?_
          refine r_iadd C d6_parseArguments_61 ?_
          obtain ⟨r20, W21, h19, h⟩ := bd2_of h
          refine cV1_i C M d6_parseArguments_62 l6_211 w6_parseNumber (rc_model hN) (ev6_parseNumber C.lt hN h19) rfl (Nat.le_of_ble_eq_true rfl) (Nat.le_of_ble_eq_true rfl) ?_
          refine x_ifne (tgt := 70) C d6_parseArguments_65 rfl (fun c22 => ?_) (fun c22 => ?_)
          · replace h := ite_p c22 h
            refine r_iconst C d6_parseArguments_68 ?_
            exact e_zv C M d6_parseArguments_69 (Nat.le_of_ble_eq_true rfl) (Nat.le_of_ble_eq_true rfl) (Or.inl rfl) h
          · replace h := ite_m c22 h
            refine r_iload_n C d6_parseArguments_70 rfl ?_
            refine x_ifeq (tgt := 84) C d6_parseArguments_71 rfl (fun c23 => ?_) (fun c23 => ?_)
            · replace h := ite_p c23 h
              refine r_iconst C d6_parseArguments_84 ?_
              refine r_goto (tgt := 89) C d6_parseArguments_85 rfl ?_
              exact e_zv C M d6_parseArguments_89 (Nat.le_of_ble_eq_true rfl) (Nat.le_of_ble_eq_true rfl) (Or.inr rfl) h
            · replace h := ite_m c23 h
              refine r_aload_n C d6_parseArguments_74 rfl ?_
              refine r_iload_n C d6_parseArguments_75 rfl ?_
              refine r_iconst C d6_parseArguments_76 ?_
              refine r_iadd C d6_parseArguments_77 ?_
              obtain ⟨r25, W26, h24, h⟩ := bd2_of h
              refine cV1_i C M d6_parseArguments_78 l6_211 w6_parseNumber (rc_model hN) (ev6_parseNumber C.lt hN h24) rfl (Nat.le_of_ble_eq_true rfl) (Nat.le_of_ble_eq_true rfl) ?_
              refine x_ifeq (tgt := 88) C d6_parseArguments_81 rfl (fun c27 => ?_) (fun c27 => ?_)
              · replace h := ite_p c27 h
                refine r_iconst C d6_parseArguments_88 ?_
                exact e_zv C M d6_parseArguments_89 (Nat.le_of_ble_eq_true rfl) (Nat.le_of_ble_eq_true rfl) (Or.inl rfl) h
              · replace h := ite_m c27 h
                refine r_iconst C d6_parseArguments_84 ?_
                refine r_goto (tgt := 89) C d6_parseArguments_85 rfl ?_
                exact e_zv C M d6_parseArguments_89 (Nat.le_of_ble_eq_true rfl) (Nat.le_of_ble_eq_true rfl) (Or.inr rfl) h
    · replace h := ite_m c10 h
      refine r_aload_n C d6_parseArguments_34 rfl ?_
      refine r_iload_n C d6_parseArguments_35 rfl ?_
      obtain ⟨r29, W30, h28, h⟩ := bd2_of h
      refine cV1_i C M d6_parseArguments_36 l6_211 w6_parseNumber (rc_model hN) (ev6_parseNumber C.lt hN h28) rfl (Nat.le_of_ble_eq_true rfl) (Nat.le_of_ble_eq_true rfl) ?_
      obtain ⟨c31, h⟩ := ck_of h
      exact e_zv C M d6_parseArguments_39 (Nat.le_of_ble_eq_true rfl) (Nat.le_of_ble_eq_true rfl) c31 h
def f6_parseScript_L2 : Nat → Int → VV → Option (Int × VV)
  | 0, _, _ => none
  | n + 1, x1, V => (if nrm (V 148 11) = 0 then some (x1, V) else bd (f6_commandHere V) (fun r3 => bd2 ((if nrm r3 = nrm (-1) then bd2 (f6_wrong V 1) (fun r6 W7 => some (r6, W7)) else (if nrm x1 < nrm 30 then some (1, V) else bd2 (f6_wrong V 4) (fun r10 W11 => (if nrm r10 = 0 then some (0, W11) else some (1, W11)))))) (fun y13 W14 => (if nrm y13 = 0 then some ((-1), W14) else bd (f6_token W14) (fun W19 => ck ((0:Int) ≤ (x1 * 5) ∧ (x1 * 5) < 150) (bd2 (f6_parseArguments (up2 W19 153 (Int.toNat (x1 * 5)) r3) r3 ((x1 * 5) + 1)) (fun r22 W23 => (if nrm r22 = 0 then some ((-1), W23) else bd2 (f6_semicolon W23) (fun r26 W27 => (if nrm r26 = 0 then some ((-1), W27) else f6_parseScript_L2 n (x1 + 1) W27))))))))))
theorem lp6_parseScript_2 {G : GT} {X : CT} {cells slots : Nat} (hN : 154 ≤ gN G) (hx : xN X = 4) (C : Cx G X "ChannelScheduleModel" b6_parseScript) : ∀ (n : Nat) {x1 : Int} {V : VV} {r : Int} {V1 : VV}, MX G X 7 0 0 (some .int) (.ok (some (vI r))) V1 → cells ≤ 0 → slots ≤ 0 → f6_parseScript_L2 n x1 V = some (r, V1) → At G X cells slots 2 [(0, .ref (gB G + 148)), (1, vI x1)] [] V := by
  intro n
  induction n with
  | zero => intro x1 V r V1 _ _ _ h; exact nomatch h
  | succ n ih =>
    intro x1 V r V1 M hc hs h
    rw [f6_parseScript_L2] at h
    refine r_aload_n C d6_parseScript_2 rfl ?_
    refine g_model_11 C d6_parseScript_3 f6_45 hN ?_
    refine x_ifeq (tgt := 94) C d6_parseScript_6 rfl (fun c1 => ?_) (fun c1 => ?_)
    · replace h := ite_p c1 h
      refine r_iload_n C d6_parseScript_94 rfl ?_
      exact e_iv C M d6_parseScript_95 hc hs h
    · replace h := ite_m c1 h
      refine r_aload_n C d6_parseScript_9 rfl ?_
      obtain ⟨r3, h2, h⟩ := bd_of h
      refine cV0_i C M d6_parseScript_10 l6_220 w6_commandHere (rc_model hN) (ev6_commandHere C.lt hN h2) rfl hc hs ?_
      refine x_istore_n hx C d6_parseScript_13 rfl ?_
      refine r_iload_n C d6_parseScript_14 rfl ?_
      refine r_iconst C d6_parseScript_15 ?_
      obtain ⟨y13, W14, h15, h⟩ := bd2_of h
      suffices J16 : At G X cells slots 46 [(0, .ref (gB G + 148)), (1, vI x1), (2, vI r3)] [vI y13] W14 by
        replace h := h15
        refine x_icmpeq (tgt := 41) C d6_parseScript_16 rfl (fun c4 => ?_) (fun c4 => ?_)
        · replace h := ite_p c4 h
          refine r_aload_n C d6_parseScript_41 rfl ?_
          refine r_iconst C d6_parseScript_42 ?_
          obtain ⟨r6, W7, h5, h⟩ := bd2_of h
          refine cV1_i C M d6_parseScript_43 l6_164 w6_wrong (rc_model hN) (ev6_wrong C.lt hN h5) rfl hc hs ?_
          cases h
          exact AtH.sw J16 ⟨rfl, rfl, rfl, trivial⟩
        · replace h := ite_m c4 h
          refine r_iload_n C d6_parseScript_19 rfl ?_
          refine r_bipush C d6_parseScript_20 (by decide +kernel) ?_
          refine x_icmplt (tgt := 33) C d6_parseScript_22 rfl (fun c8 => ?_) (fun c8 => ?_)
          · replace h := ite_p c8 h
            refine r_iconst C d6_parseScript_33 ?_
            refine r_goto (tgt := 46) C d6_parseScript_34 rfl ?_
            cases h
            exact AtH.sw J16 ⟨rfl, rfl, rfl, trivial⟩
          · replace h := ite_m c8 h
            refine r_aload_n C d6_parseScript_25 rfl ?_
            refine r_iconst C d6_parseScript_26 ?_
            obtain ⟨r10, W11, h9, h⟩ := bd2_of h
            refine cV1_i C M d6_parseScript_27 l6_164 w6_wrong (rc_model hN) (ev6_wrong C.lt hN h9) rfl hc hs ?_
            refine x_ifeq (tgt := 37) C d6_parseScript_30 rfl (fun c12 => ?_) (fun c12 => ?_)
            · replace h := ite_p c12 h
              refine r_iconst C d6_parseScript_37 ?_
              refine r_goto (tgt := 46) C d6_parseScript_38 rfl ?_
              cases h
              exact AtH.sw J16 ⟨rfl, rfl, rfl, trivial⟩
            · replace h := ite_m c12 h
              refine r_iconst C d6_parseScript_33 ?_
              refine r_goto (tgt := 46) C d6_parseScript_34 rfl ?_
              cases h
              exact AtH.sw J16 ⟨rfl, rfl, rfl, trivial⟩
      refine x_istore_n hx C d6_parseScript_46 rfl ?_
      refine r_iload_n C d6_parseScript_47 rfl ?_
      refine x_ifne (tgt := 53) C d6_parseScript_48 rfl (fun c17 => ?_) (fun c17 => ?_)
      · replace h := ite_p c17 h
        refine r_iconst C d6_parseScript_51 ?_
        exact e_iv C M d6_parseScript_52 hc hs h
      · replace h := ite_m c17 h
        refine r_aload_n C d6_parseScript_53 rfl ?_
        obtain ⟨W19, h18, h⟩ := bd_of h
        refine cV0_v C M d6_parseScript_54 l6_161 w6_token (rc_model hN) (ev6_token C.lt hN h18) rfl hc hs ?_
        refine r_aload_n C d6_parseScript_57 rfl ?_
        refine g_model_14 C d6_parseScript_58 f6_54 hN ?_
        refine r_iload_n C d6_parseScript_61 rfl ?_
        refine r_iconst C d6_parseScript_62 ?_
        refine r_imul C d6_parseScript_63 ?_
        refine r_iload_n C d6_parseScript_64 rfl ?_
        obtain ⟨c20, h⟩ := ck_of h
        refine x_iast C d6_parseScript_65 (ra_commands hN) c20 ?_
        refine r_aload_n C d6_parseScript_66 rfl ?_
        refine r_iload_n C d6_parseScript_67 rfl ?_
        refine r_iload_n C d6_parseScript_68 rfl ?_
        refine r_iconst C d6_parseScript_69 ?_
        refine r_imul C d6_parseScript_70 ?_
        refine r_iconst C d6_parseScript_71 ?_
        refine r_iadd C d6_parseScript_72 ?_
        obtain ⟨r22, W23, h21, h⟩ := bd2_of h
        refine cV2_i C M d6_parseScript_73 l6_223 w6_parseArguments (rc_model hN) (ev6_parseArguments C.lt hN h21) rfl hc hs ?_
        refine x_ifeq (tgt := 86) C d6_parseScript_76 rfl (fun c24 => ?_) (fun c24 => ?_)
        · replace h := ite_p c24 h
          refine r_iconst C d6_parseScript_86 ?_
          exact e_iv C M d6_parseScript_87 hc hs h
        · replace h := ite_m c24 h
          refine r_aload_n C d6_parseScript_79 rfl ?_
          obtain ⟨r26, W27, h25, h⟩ := bd2_of h
          refine cV0_i C M d6_parseScript_80 l6_176 w6_semicolon (rc_model hN) (ev6_semicolon C.lt hN h25) rfl hc hs ?_
          refine x_ifne (tgt := 88) C d6_parseScript_83 rfl (fun c28 => ?_) (fun c28 => ?_)
          · replace h := ite_p c28 h
            refine r_iconst C d6_parseScript_86 ?_
            exact e_iv C M d6_parseScript_87 hc hs h
          · replace h := ite_m c28 h
            refine x_iinc hx C d6_parseScript_88 rfl rfl ?_
            refine r_goto (tgt := 2) C d6_parseScript_91 rfl ?_
            exact AtH.sw (ih M hc hs h) ⟨rfl, rfl, trivial⟩
def f6_parseScript (V : VV) : Option (Int × VV) := f6_parseScript_L2 FU 0 V
theorem ev6_parseScript {G : GT} {l : Launch} {V : VV} {r : Int} {V1 : VV} (hlt : l.stackTraces = false) (hN : 154 ≤ gN G) (h : f6_parseScript V = some (r, V1)) : EvX G l y6_parseScript b6_parseScript 4 (some .int) 7 0 0 [.ref (gB G + 148)] V (.ok (some (vI r))) V1 := by
  refine ev_w hlt (by decide +kernel) rfl rfl (fun X hl hx C M => ?_)
  subst hl
  replace C : Cx G X "ChannelScheduleModel" b6_parseScript := C
  unfold f6_parseScript at h
  show At G X 0 0 0 [(0, .ref (gB G + 148))] [] V
  refine r_iconst C d6_parseScript_0 ?_
  refine x_istore_n hx C d6_parseScript_1 rfl ?_
  exact AtH.sw (lp6_parseScript_2 hN hx C FU M (Nat.le_of_ble_eq_true rfl) (Nat.le_of_ble_eq_true rfl) h) ⟨rfl, rfl, trivial⟩
def f6_carryOut (V : VV) (x1 : Int) : Option (Int × VV) := ck ((0:Int) ≤ ((x1 * 5) + 1) ∧ ((x1 * 5) + 1) < 150) (ck ((0:Int) ≤ ((x1 * 5) + 2) ∧ ((x1 * 5) + 2) < 150) (ck ((0:Int) ≤ ((x1 * 5) + 3) ∧ ((x1 * 5) + 3) < 150) (ck ((0:Int) ≤ ((x1 * 5) + 4) ∧ ((x1 * 5) + 4) < 150) (ck ((0:Int) ≤ (x1 * 5) ∧ (x1 * 5) < 150) ((if nrm (V 153 (Int.toNat (x1 * 5))) = 0 then (if nrm 999 < nrm (V 153 (Int.toNat ((x1 * 5) + 3))) then some (0, V) else bd (f6_canBook V (V 153 (Int.toNat ((x1 * 5) + 1))) (V 153 (Int.toNat ((x1 * 5) + 2))) (V 153 (Int.toNat ((x1 * 5) + 3)))) (fun r14 => (if nrm r14 = 0 then some (0, V) else bd (f6_addBooking V (V 153 (Int.toNat ((x1 * 5) + 1))) (V 153 (Int.toNat ((x1 * 5) + 2))) (V 153 (Int.toNat ((x1 * 5) + 3)))) (fun W17 => some (1, W17))))) else if nrm (V 153 (Int.toNat (x1 * 5))) = 1 then (if nrm 999 < nrm (V 153 (Int.toNat ((x1 * 5) + 3))) then some (0, V) else bd (f6_in V (V 153 (Int.toNat ((x1 * 5) + 4))) (V 153 (Int.toNat ((x1 * 5) + 3))) 999) (fun r20 => (if nrm r20 = 0 then some (0, V) else bd (f6_canRequest V (V 153 (Int.toNat ((x1 * 5) + 1))) (V 153 (Int.toNat ((x1 * 5) + 2))) (V 153 (Int.toNat ((x1 * 5) + 3))) (V 153 (Int.toNat ((x1 * 5) + 4)))) (fun r23 => (if nrm r23 = 0 then some (0, V) else bd2 (f6_requestIt V (V 153 (Int.toNat ((x1 * 5) + 1))) (V 153 (Int.toNat ((x1 * 5) + 2))) (V 153 (Int.toNat ((x1 * 5) + 3))) (V 153 (Int.toNat ((x1 * 5) + 4)))) (fun r26 W27 => some (1, W27))))))) else if nrm (V 153 (Int.toNat (x1 * 5))) = 2 then bd (f6_isBooking V (V 153 (Int.toNat ((x1 * 5) + 1)))) (fun r29 => (if nrm r29 = 0 then some (0, V) else bd (f6_canCancel V (V 153 (Int.toNat ((x1 * 5) + 1)))) (fun r32 => (if nrm r32 = 0 then some (0, V) else bd2 (f6_cancelIt V (V 153 (Int.toNat ((x1 * 5) + 1)))) (fun r35 W36 => some (1, W36)))))) else if nrm (V 153 (Int.toNat (x1 * 5))) = 3 then bd (f6_isBooking V (V 153 (Int.toNat ((x1 * 5) + 1)))) (fun r38 => (if nrm r38 = 0 then some (0, V) else (if nrm 999 < nrm (V 153 (Int.toNat ((x1 * 5) + 2))) then some (0, V) else bd (f6_movingReason V (V 153 (Int.toNat ((x1 * 5) + 1))) (V 153 (Int.toNat ((x1 * 5) + 2)))) (fun r42 => (if nrm r42 = 0 then bd2 (f6_moveIt V (V 153 (Int.toNat ((x1 * 5) + 1))) (V 153 (Int.toNat ((x1 * 5) + 2)))) (fun r45 W46 => some (1, W46)) else some (0, V)))))) else if nrm (V 153 (Int.toNat (x1 * 5))) = 4 then bd (f6_isRequest V (V 153 (Int.toNat ((x1 * 5) + 1)))) (fun r48 => (if nrm r48 = 0 then some (0, V) else bd (f6_removeRequest V (V 153 (Int.toNat ((x1 * 5) + 1)))) (fun W51 => some (1, W51)))) else if nrm (V 153 (Int.toNat (x1 * 5))) = 5 then (if nrm (V 153 (Int.toNat ((x1 * 5) + 1))) ≤ nrm 9 then bd2 (f6_iceIt V (V 153 (Int.toNat ((x1 * 5) + 1)))) (fun r54 W55 => some (1, W55)) else some (0, V)) else bd (f6_in V (V 153 (Int.toNat ((x1 * 5) + 1))) 1 500) (fun r57 => (if nrm r57 = 0 then some (0, V) else (if nrm ((V 149 3) + (V 153 (Int.toNat ((x1 * 5) + 1)))) ≤ nrm 1200 then bd2 (f6_advanceIt V (V 153 (Int.toNat ((x1 * 5) + 1)))) (fun r61 W62 => some (1, W62)) else some (0, V))))))))))
theorem ev6_carryOut {G : GT} {l : Launch} {V : VV} {x1 : Int} {r : Int} {V1 : VV} (hlt : l.stackTraces = false) (hN : 154 ≤ gN G) (h : f6_carryOut V x1 = some (r, V1)) : EvX G l y6_carryOut b6_carryOut 6 (some .boolean) 8 0 0 [.ref (gB G + 148), vI x1] V (.ok (some (vI r))) V1 := by
  refine ev_w hlt (by decide +kernel) rfl rfl (fun X hl hx C M => ?_)
  subst hl
  replace C : Cx G X "ChannelScheduleModel" b6_carryOut := C
  unfold f6_carryOut at h
  show At G X 0 0 0 [(0, .ref (gB G + 148)), (1, vI x1)] [] V
  refine r_aload_n C d6_carryOut_0 rfl ?_
  refine g_model_14 C d6_carryOut_1 f6_54 hN ?_
  refine r_iload_n C d6_carryOut_4 rfl ?_
  refine r_iconst C d6_carryOut_5 ?_
  refine r_imul C d6_carryOut_6 ?_
  refine r_iconst C d6_carryOut_7 ?_
  refine r_iadd C d6_carryOut_8 ?_
  obtain ⟨c1, h⟩ := ck_of h
  refine x_iald C d6_carryOut_9 (ra_commands hN) c1 ?_
  refine x_istore_n hx C d6_carryOut_10 rfl ?_
  refine r_aload_n C d6_carryOut_11 rfl ?_
  refine g_model_14 C d6_carryOut_12 f6_54 hN ?_
  refine r_iload_n C d6_carryOut_15 rfl ?_
  refine r_iconst C d6_carryOut_16 ?_
  refine r_imul C d6_carryOut_17 ?_
  refine r_iconst C d6_carryOut_18 ?_
  refine r_iadd C d6_carryOut_19 ?_
  obtain ⟨c2, h⟩ := ck_of h
  refine x_iald C d6_carryOut_20 (ra_commands hN) c2 ?_
  refine x_istore_n hx C d6_carryOut_21 rfl ?_
  refine r_aload_n C d6_carryOut_22 rfl ?_
  refine g_model_14 C d6_carryOut_23 f6_54 hN ?_
  refine r_iload_n C d6_carryOut_26 rfl ?_
  refine r_iconst C d6_carryOut_27 ?_
  refine r_imul C d6_carryOut_28 ?_
  refine r_iconst C d6_carryOut_29 ?_
  refine r_iadd C d6_carryOut_30 ?_
  obtain ⟨c3, h⟩ := ck_of h
  refine x_iald C d6_carryOut_31 (ra_commands hN) c3 ?_
  refine x_istore hx C d6_carryOut_32 rfl ?_
  refine r_aload_n C d6_carryOut_34 rfl ?_
  refine g_model_14 C d6_carryOut_35 f6_54 hN ?_
  refine r_iload_n C d6_carryOut_38 rfl ?_
  refine r_iconst C d6_carryOut_39 ?_
  refine r_imul C d6_carryOut_40 ?_
  refine r_iconst C d6_carryOut_41 ?_
  refine r_iadd C d6_carryOut_42 ?_
  obtain ⟨c4, h⟩ := ck_of h
  refine x_iald C d6_carryOut_43 (ra_commands hN) c4 ?_
  refine x_istore hx C d6_carryOut_44 rfl ?_
  refine r_aload_n C d6_carryOut_46 rfl ?_
  refine g_model_14 C d6_carryOut_47 f6_54 hN ?_
  refine r_iload_n C d6_carryOut_50 rfl ?_
  refine r_iconst C d6_carryOut_51 ?_
  refine r_imul C d6_carryOut_52 ?_
  obtain ⟨c5, h⟩ := ck_of h
  refine x_iald C d6_carryOut_53 (ra_commands hN) c5 ?_
  refine x_tsw6 (t0 := 92) (t1 := 123) (t2 := 172) (t3 := 198) (t4 := 233) (t5 := 250) (td := 266) C d6_carryOut_54 rfl rfl rfl rfl rfl rfl rfl (fun c6 => ?_) (fun c7 => ?_) (fun c8 => ?_) (fun c9 => ?_) (fun c10 => ?_) (fun c11 => ?_) (fun c6 c7 c8 c9 c10 c11 => ?_)
  · replace h := ite_p c6 h
    refine r_iload C d6_carryOut_92 rfl ?_
    refine r_sipush C d6_carryOut_94 (by decide +kernel) ?_
    refine x_icmpgt (tgt := 111) C d6_carryOut_97 rfl (fun c12 => ?_) (fun c12 => ?_)
    · replace h := ite_p c12 h
      refine r_iconst C d6_carryOut_111 ?_
      exact e_zv C M d6_carryOut_112 (Nat.le_of_ble_eq_true rfl) (Nat.le_of_ble_eq_true rfl) (Or.inl rfl) h
    · replace h := ite_m c12 h
      refine r_aload_n C d6_carryOut_100 rfl ?_
      refine r_iload_n C d6_carryOut_101 rfl ?_
      refine r_iload_n C d6_carryOut_102 rfl ?_
      refine r_iload C d6_carryOut_103 rfl ?_
      obtain ⟨r14, h13, h⟩ := bd_of h
      refine cV3_i C M d6_carryOut_105 l6_226 w6_canBook (rc_model hN) (ev6_canBook C.lt hN h13) rfl (Nat.le_of_ble_eq_true rfl) (Nat.le_of_ble_eq_true rfl) ?_
      refine x_ifne (tgt := 113) C d6_carryOut_108 rfl (fun c15 => ?_) (fun c15 => ?_)
      · replace h := ite_p c15 h
        refine r_iconst C d6_carryOut_111 ?_
        exact e_zv C M d6_carryOut_112 (Nat.le_of_ble_eq_true rfl) (Nat.le_of_ble_eq_true rfl) (Or.inl rfl) h
      · replace h := ite_m c15 h
        refine r_aload_n C d6_carryOut_113 rfl ?_
        refine r_iload_n C d6_carryOut_114 rfl ?_
        refine r_iload_n C d6_carryOut_115 rfl ?_
        refine r_iload C d6_carryOut_116 rfl ?_
        obtain ⟨W17, h16, h⟩ := bd_of h
        refine cV3_v C M d6_carryOut_118 l6_120 w6_addBooking (rc_model hN) (ev6_addBooking C.lt hN h16) rfl (Nat.le_of_ble_eq_true rfl) (Nat.le_of_ble_eq_true rfl) ?_
        refine r_iconst C d6_carryOut_121 ?_
        exact e_zv C M d6_carryOut_122 (Nat.le_of_ble_eq_true rfl) (Nat.le_of_ble_eq_true rfl) (Or.inr rfl) h
  · replace h := ite_p c7 (ite_m (by omega : ¬ nrm (V 153 (Int.toNat (x1 * 5))) = 0) h)
    refine r_iload C d6_carryOut_123 rfl ?_
    refine r_sipush C d6_carryOut_125 (by decide +kernel) ?_
    refine x_icmpgt (tgt := 157) C d6_carryOut_128 rfl (fun c18 => ?_) (fun c18 => ?_)
    · replace h := ite_p c18 h
      refine r_iconst C d6_carryOut_157 ?_
      exact e_zv C M d6_carryOut_158 (Nat.le_of_ble_eq_true rfl) (Nat.le_of_ble_eq_true rfl) (Or.inl rfl) h
    · replace h := ite_m c18 h
      refine r_iload C d6_carryOut_131 rfl ?_
      refine r_iload C d6_carryOut_133 rfl ?_
      refine r_sipush C d6_carryOut_135 (by decide +kernel) ?_
      obtain ⟨r20, h19, h⟩ := bd_of h
      refine cS3_i C M d6_carryOut_138 l6_75 w6_in (ev6_in C.lt hN h19) rfl (Nat.le_of_ble_eq_true rfl) (Nat.le_of_ble_eq_true rfl) ?_
      refine x_ifeq (tgt := 157) C d6_carryOut_141 rfl (fun c21 => ?_) (fun c21 => ?_)
      · replace h := ite_p c21 h
        refine r_iconst C d6_carryOut_157 ?_
        exact e_zv C M d6_carryOut_158 (Nat.le_of_ble_eq_true rfl) (Nat.le_of_ble_eq_true rfl) (Or.inl rfl) h
      · replace h := ite_m c21 h
        refine r_aload_n C d6_carryOut_144 rfl ?_
        refine r_iload_n C d6_carryOut_145 rfl ?_
        refine r_iload_n C d6_carryOut_146 rfl ?_
        refine r_iload C d6_carryOut_147 rfl ?_
        refine r_iload C d6_carryOut_149 rfl ?_
        obtain ⟨r23, h22, h⟩ := bd_of h
        refine cV4_i C M d6_carryOut_151 l6_229 w6_canRequest (rc_model hN) (ev6_canRequest C.lt hN h22) rfl (Nat.le_of_ble_eq_true rfl) (Nat.le_of_ble_eq_true rfl) ?_
        refine x_ifne (tgt := 159) C d6_carryOut_154 rfl (fun c24 => ?_) (fun c24 => ?_)
        · replace h := ite_p c24 h
          refine r_iconst C d6_carryOut_157 ?_
          exact e_zv C M d6_carryOut_158 (Nat.le_of_ble_eq_true rfl) (Nat.le_of_ble_eq_true rfl) (Or.inl rfl) h
        · replace h := ite_m c24 h
          refine r_aload_n C d6_carryOut_159 rfl ?_
          refine r_iload_n C d6_carryOut_160 rfl ?_
          refine r_iload_n C d6_carryOut_161 rfl ?_
          refine r_iload C d6_carryOut_162 rfl ?_
          refine r_iload C d6_carryOut_164 rfl ?_
          obtain ⟨r26, W27, h25, h⟩ := bd2_of h
          refine cV4_i C M d6_carryOut_166 l6_232 w6_requestIt (rc_model hN) (ev6_requestIt C.lt hN h25) rfl (Nat.le_of_ble_eq_true rfl) (Nat.le_of_ble_eq_true rfl) ?_
          refine r_pop C d6_carryOut_169 rfl ?_
          refine r_iconst C d6_carryOut_170 ?_
          exact e_zv C M d6_carryOut_171 (Nat.le_of_ble_eq_true rfl) (Nat.le_of_ble_eq_true rfl) (Or.inr rfl) h
  · replace h := ite_p c8 (ite_m (by omega : ¬ nrm (V 153 (Int.toNat (x1 * 5))) = 1) (ite_m (by omega : ¬ nrm (V 153 (Int.toNat (x1 * 5))) = 0) h))
    refine r_aload_n C d6_carryOut_172 rfl ?_
    refine r_iload_n C d6_carryOut_173 rfl ?_
    obtain ⟨r29, h28, h⟩ := bd_of h
    refine cV1_i C M d6_carryOut_174 l6_235 w6_isBooking (rc_model hN) (ev6_isBooking C.lt hN h28) rfl (Nat.le_of_ble_eq_true rfl) (Nat.le_of_ble_eq_true rfl) ?_
    refine x_ifeq (tgt := 188) C d6_carryOut_177 rfl (fun c30 => ?_) (fun c30 => ?_)
    · replace h := ite_p c30 h
      refine r_iconst C d6_carryOut_188 ?_
      exact e_zv C M d6_carryOut_189 (Nat.le_of_ble_eq_true rfl) (Nat.le_of_ble_eq_true rfl) (Or.inl rfl) h
    · replace h := ite_m c30 h
      refine r_aload_n C d6_carryOut_180 rfl ?_
      refine r_iload_n C d6_carryOut_181 rfl ?_
      obtain ⟨r32, h31, h⟩ := bd_of h
      refine cV1_i C M d6_carryOut_182 l6_137 w6_canCancel (rc_model hN) (ev6_canCancel C.lt hN h31) rfl (Nat.le_of_ble_eq_true rfl) (Nat.le_of_ble_eq_true rfl) ?_
      refine x_ifne (tgt := 190) C d6_carryOut_185 rfl (fun c33 => ?_) (fun c33 => ?_)
      · replace h := ite_p c33 h
        refine r_iconst C d6_carryOut_188 ?_
        exact e_zv C M d6_carryOut_189 (Nat.le_of_ble_eq_true rfl) (Nat.le_of_ble_eq_true rfl) (Or.inl rfl) h
      · replace h := ite_m c33 h
        refine r_aload_n C d6_carryOut_190 rfl ?_
        refine r_iload_n C d6_carryOut_191 rfl ?_
        obtain ⟨r35, W36, h34, h⟩ := bd2_of h
        refine cV1_i C M d6_carryOut_192 l6_238 w6_cancelIt (rc_model hN) (ev6_cancelIt C.lt hN h34) rfl (Nat.le_of_ble_eq_true rfl) (Nat.le_of_ble_eq_true rfl) ?_
        refine r_pop C d6_carryOut_195 rfl ?_
        refine r_iconst C d6_carryOut_196 ?_
        exact e_zv C M d6_carryOut_197 (Nat.le_of_ble_eq_true rfl) (Nat.le_of_ble_eq_true rfl) (Or.inr rfl) h
  · replace h := ite_p c9 (ite_m (by omega : ¬ nrm (V 153 (Int.toNat (x1 * 5))) = 2) (ite_m (by omega : ¬ nrm (V 153 (Int.toNat (x1 * 5))) = 1) (ite_m (by omega : ¬ nrm (V 153 (Int.toNat (x1 * 5))) = 0) h)))
    refine r_aload_n C d6_carryOut_198 rfl ?_
    refine r_iload_n C d6_carryOut_199 rfl ?_
    obtain ⟨r38, h37, h⟩ := bd_of h
    refine cV1_i C M d6_carryOut_200 l6_235 w6_isBooking (rc_model hN) (ev6_isBooking C.lt hN h37) rfl (Nat.le_of_ble_eq_true rfl) (Nat.le_of_ble_eq_true rfl) ?_
    refine x_ifeq (tgt := 222) C d6_carryOut_203 rfl (fun c39 => ?_) (fun c39 => ?_)
    · replace h := ite_p c39 h
      refine r_iconst C d6_carryOut_222 ?_
      exact e_zv C M d6_carryOut_223 (Nat.le_of_ble_eq_true rfl) (Nat.le_of_ble_eq_true rfl) (Or.inl rfl) h
    · replace h := ite_m c39 h
      refine r_iload_n C d6_carryOut_206 rfl ?_
      refine r_sipush C d6_carryOut_207 (by decide +kernel) ?_
      refine x_icmpgt (tgt := 222) C d6_carryOut_210 rfl (fun c40 => ?_) (fun c40 => ?_)
      · replace h := ite_p c40 h
        refine r_iconst C d6_carryOut_222 ?_
        exact e_zv C M d6_carryOut_223 (Nat.le_of_ble_eq_true rfl) (Nat.le_of_ble_eq_true rfl) (Or.inl rfl) h
      · replace h := ite_m c40 h
        refine r_aload_n C d6_carryOut_213 rfl ?_
        refine r_iload_n C d6_carryOut_214 rfl ?_
        refine r_iload_n C d6_carryOut_215 rfl ?_
        obtain ⟨r42, h41, h⟩ := bd_of h
        refine cV2_i C M d6_carryOut_216 l6_241 w6_movingReason (rc_model hN) (ev6_movingReason C.lt hN h41) rfl (Nat.le_of_ble_eq_true rfl) (Nat.le_of_ble_eq_true rfl) ?_
        refine x_ifeq (tgt := 224) C d6_carryOut_219 rfl (fun c43 => ?_) (fun c43 => ?_)
        · replace h := ite_p c43 h
          refine r_aload_n C d6_carryOut_224 rfl ?_
          refine r_iload_n C d6_carryOut_225 rfl ?_
          refine r_iload_n C d6_carryOut_226 rfl ?_
          obtain ⟨r45, W46, h44, h⟩ := bd2_of h
          refine cV2_i C M d6_carryOut_227 l6_244 w6_moveIt (rc_model hN) (ev6_moveIt C.lt hN h44) rfl (Nat.le_of_ble_eq_true rfl) (Nat.le_of_ble_eq_true rfl) ?_
          refine r_pop C d6_carryOut_230 rfl ?_
          refine r_iconst C d6_carryOut_231 ?_
          exact e_zv C M d6_carryOut_232 (Nat.le_of_ble_eq_true rfl) (Nat.le_of_ble_eq_true rfl) (Or.inr rfl) h
        · replace h := ite_m c43 h
          refine r_iconst C d6_carryOut_222 ?_
          exact e_zv C M d6_carryOut_223 (Nat.le_of_ble_eq_true rfl) (Nat.le_of_ble_eq_true rfl) (Or.inl rfl) h
  · replace h := ite_p c10 (ite_m (by omega : ¬ nrm (V 153 (Int.toNat (x1 * 5))) = 3) (ite_m (by omega : ¬ nrm (V 153 (Int.toNat (x1 * 5))) = 2) (ite_m (by omega : ¬ nrm (V 153 (Int.toNat (x1 * 5))) = 1) (ite_m (by omega : ¬ nrm (V 153 (Int.toNat (x1 * 5))) = 0) h))))
    refine r_aload_n C d6_carryOut_233 rfl ?_
    refine r_iload_n C d6_carryOut_234 rfl ?_
    obtain ⟨r48, h47, h⟩ := bd_of h
    refine cV1_i C M d6_carryOut_235 l6_247 w6_isRequest (rc_model hN) (ev6_isRequest C.lt hN h47) rfl (Nat.le_of_ble_eq_true rfl) (Nat.le_of_ble_eq_true rfl) ?_
    refine x_ifne (tgt := 243) C d6_carryOut_238 rfl (fun c49 => ?_) (fun c49 => ?_)
    · replace h := ite_p c49 h
      refine r_iconst C d6_carryOut_241 ?_
      exact e_zv C M d6_carryOut_242 (Nat.le_of_ble_eq_true rfl) (Nat.le_of_ble_eq_true rfl) (Or.inl rfl) h
    · replace h := ite_m c49 h
      refine r_aload_n C d6_carryOut_243 rfl ?_
      refine r_iload_n C d6_carryOut_244 rfl ?_
      obtain ⟨W51, h50, h⟩ := bd_of h
      refine cV1_v C M d6_carryOut_245 l6_124 w6_removeRequest (rc_model hN) (ev6_removeRequest C.lt hN h50) rfl (Nat.le_of_ble_eq_true rfl) (Nat.le_of_ble_eq_true rfl) ?_
      refine r_iconst C d6_carryOut_248 ?_
      exact e_zv C M d6_carryOut_249 (Nat.le_of_ble_eq_true rfl) (Nat.le_of_ble_eq_true rfl) (Or.inr rfl) h
  · replace h := ite_p c11 (ite_m (by omega : ¬ nrm (V 153 (Int.toNat (x1 * 5))) = 4) (ite_m (by omega : ¬ nrm (V 153 (Int.toNat (x1 * 5))) = 3) (ite_m (by omega : ¬ nrm (V 153 (Int.toNat (x1 * 5))) = 2) (ite_m (by omega : ¬ nrm (V 153 (Int.toNat (x1 * 5))) = 1) (ite_m (by omega : ¬ nrm (V 153 (Int.toNat (x1 * 5))) = 0) h)))))
    refine r_iload_n C d6_carryOut_250 rfl ?_
    refine r_bipush C d6_carryOut_251 (by decide +kernel) ?_
    refine x_icmple (tgt := 258) C d6_carryOut_253 rfl (fun c52 => ?_) (fun c52 => ?_)
    · replace h := ite_p c52 h
      refine r_aload_n C d6_carryOut_258 rfl ?_
      refine r_iload_n C d6_carryOut_259 rfl ?_
      obtain ⟨r54, W55, h53, h⟩ := bd2_of h
      refine cV1_i C M d6_carryOut_260 l6_250 w6_iceIt (rc_model hN) (ev6_iceIt C.lt hN h53) rfl (Nat.le_of_ble_eq_true rfl) (Nat.le_of_ble_eq_true rfl) ?_
      refine r_pop C d6_carryOut_263 rfl ?_
      refine r_iconst C d6_carryOut_264 ?_
      exact e_zv C M d6_carryOut_265 (Nat.le_of_ble_eq_true rfl) (Nat.le_of_ble_eq_true rfl) (Or.inr rfl) h
    · replace h := ite_m c52 h
      refine r_iconst C d6_carryOut_256 ?_
      exact e_zv C M d6_carryOut_257 (Nat.le_of_ble_eq_true rfl) (Nat.le_of_ble_eq_true rfl) (Or.inl rfl) h
  · replace h := (ite_m c11 (ite_m c10 (ite_m c9 (ite_m c8 (ite_m c7 (ite_m c6 h))))))
    refine r_iload_n C d6_carryOut_266 rfl ?_
    refine r_iconst C d6_carryOut_267 ?_
    refine r_sipush C d6_carryOut_268 (by decide +kernel) ?_
    obtain ⟨r57, h56, h⟩ := bd_of h
    refine cS3_i C M d6_carryOut_271 l6_75 w6_in (ev6_in C.lt hN h56) rfl (Nat.le_of_ble_eq_true rfl) (Nat.le_of_ble_eq_true rfl) ?_
    refine x_ifeq (tgt := 291) C d6_carryOut_274 rfl (fun c58 => ?_) (fun c58 => ?_)
    · replace h := ite_p c58 h
      refine r_iconst C d6_carryOut_291 ?_
      exact e_zv C M d6_carryOut_292 (Nat.le_of_ble_eq_true rfl) (Nat.le_of_ble_eq_true rfl) (Or.inl rfl) h
    · replace h := ite_m c58 h
      refine r_aload_n C d6_carryOut_277 rfl ?_
      refine g_model_0 C d6_carryOut_278 f6_13 hN ?_
      refine r_iconst C d6_carryOut_281 ?_
      refine x_iald C d6_carryOut_282 (ra_m hN) (by omega) ?_
      refine r_iload_n C d6_carryOut_283 rfl ?_
      refine r_iadd C d6_carryOut_284 ?_
      refine r_sipush C d6_carryOut_285 (by decide +kernel) ?_
      refine x_icmple (tgt := 293) C d6_carryOut_288 rfl (fun c59 => ?_) (fun c59 => ?_)
      · replace h := ite_p c59 h
        refine r_aload_n C d6_carryOut_293 rfl ?_
        refine r_iload_n C d6_carryOut_294 rfl ?_
        obtain ⟨r61, W62, h60, h⟩ := bd2_of h
        refine cV1_i C M d6_carryOut_295 l6_253 w6_advanceIt (rc_model hN) (ev6_advanceIt C.lt hN h60) rfl (Nat.le_of_ble_eq_true rfl) (Nat.le_of_ble_eq_true rfl) ?_
        refine r_pop C d6_carryOut_298 rfl ?_
        refine r_iconst C d6_carryOut_299 ?_
        exact e_zv C M d6_carryOut_300 (Nat.le_of_ble_eq_true rfl) (Nat.le_of_ble_eq_true rfl) (Or.inr rfl) h
      · replace h := ite_m c59 h
        refine r_iconst C d6_carryOut_291 ?_
        exact e_zv C M d6_carryOut_292 (Nat.le_of_ble_eq_true rfl) (Nat.le_of_ble_eq_true rfl) (Or.inl rfl) h
