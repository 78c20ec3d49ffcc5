/-! methods that answer floats: rows, walks (printed by g79.py) -/
/-- the quotient of two numbers, 0 where the second one is 0 -/
def fQ (a b : Int) : UInt32 := if nrm b = 0 then FP.fconst0 else FP.fdiv (FP.i2f (iI a)) (FP.i2f (iI b))
def dQ (a b : Int) : UInt64 := if nrm b = 0 then FP.dconst0 else FP.ddiv (FP.i2d (iI a)) (FP.i2d (iI b))
theorem nn32 {r : UInt32} (h : FP.Core.fIsNaN r = false) : vf_n32 r := by
  have h1 := (not_congr (FP.Core.isNaN_bits32 r)).mp (by rw [h]; decide)
  show r &&& 0x7fffffff ≤ 0x7f800000
  rw [UInt32.le_iff_toNat_le, UInt32.toNat_and]
  show r.toNat &&& (2 ^ 31 - 1) ≤ 2139095040
  rw [Nat.and_two_pow_sub_one_eq_mod]
  omega
theorem nn64 {r : UInt64} (h : FP.Core.dIsNaN r = false) : vf_n64 r := by
  have h1 := (not_congr (FP.Core.isNaN_bits r)).mp (by rw [h]; decide)
  show r &&& 0x7fffffffffffffff ≤ 0x7ff0000000000000
  rw [UInt64.le_iff_toNat_le, UInt64.toNat_and]
  show r.toNat &&& (2 ^ 63 - 1) ≤ 9218868437227405312
  rw [Nat.and_two_pow_sub_one_eq_mod]
  omega
theorem iI_ne0 {b : Int} (h : ¬ nrm b = 0) : iI b ≠ 0 := fun e => h (by unfold nrm; rw [e]; rfl)
theorem i2f_no (x : Int32) : FP.Core.fIsNaN (FP.i2f x) = false := by
  have h1 := FP.Core.i2f_mag x
  have h2 := not_congr (FP.Core.isNaN_bits32 (FP.Core.i2f x))
  rw [FP.i2f_core, ← Bool.not_eq_true, h2]
  omega
theorem i2d_no (x : Int32) : FP.Core.dIsNaN (FP.i2d x) = false := by
  have h1 := FP.Core.i2d_mag x
  have h2 := not_congr (FP.Core.isNaN_bits (FP.Core.i2d x))
  rw [FP.i2d_core, ← Bool.not_eq_true, h2]
  omega
theorem fdiv_no {a b : Int32} (h : b ≠ 0) : FP.Core.fIsNaN (FP.fdiv (FP.i2f a) (FP.i2f b)) = false := by
  rw [FP.fdiv_core, FP.i2f_core]
  refine FP.Core.fdiv_out ?_ (FP.Core.i2f_fin b) (fun z => FP.Core.i2f_ne_zero h ((FP.Core.zero_bits232 _).mp z))
  rw [← FP.i2f_core]
  exact i2f_no a
theorem ddiv_no {a b : Int32} (h : b ≠ 0) : FP.Core.dIsNaN (FP.ddiv (FP.i2d a) (FP.i2d b)) = false := by
  rw [FP.ddiv_core, FP.i2d_core]
  refine FP.Core.ddiv_out ?_ (FP.Core.i2d_fin b) (fun z => FP.Core.i2d_ne_zero h ((FP.Core.zero_bits2 _).mp z))
  rw [← FP.i2d_core]
  exact i2d_no a
theorem fQ_no (a b : Int) : FP.Core.fIsNaN (fQ a b) = false := by
  unfold fQ
  split
  · decide +kernel
  · exact fdiv_no (iI_ne0 (by assumption))
theorem dQ_no (a b : Int) : FP.Core.dIsNaN (dQ a b) = false := by
  unfold dQ
  split
  · decide +kernel
  · exact ddiv_no (iI_ne0 (by assumption))
theorem f2d_no {a : UInt32} (h : FP.Core.fIsNaN a = false) : FP.Core.dIsNaN (FP.f2d a) = false := by
  rw [FP.f2d_core h]
  exact FP.Core.f2d_out h
/-- a number that is none of the NaN equals itself -/
theorem dcmp_se {a : UInt64} (h : FP.Core.dIsNaN a = false) : FP.dcmp a a = some .eq := by
  rw [FP.dcmp_core]
  refine FP.Core.dcmp_self (fun z => ?_)
  have := (FP.Core.dIsNaN_iff a).mpr z
  rw [h] at this
  cases this
section
variable {G : GT} {X : CT} {cells slots pc N : Nat} {lv : List (Nat × Value)} {st : List Value} {h : HT} {own : String} {cc : ByteArray} {V : VV}
theorem r_i2f {z : Int} (C : Cx G X own cc) (d : decode cc pc = .ok (.i2f, 1)) (k : AtH G X cells slots (pc + 1) lv (.float (FP.i2f (iI z)) :: st) N h) : AtH G X cells slots pc lv (vI z :: st) N h := by
  obtain ⟨p, l, e, R, s, m, args, below, meth, c, Q, nL⟩ := X
  intro H locs ls hW hS hls
  exact lv_i2f C.1 C.2.1 d (k H locs ls hW hS hls)
theorem r_i2d {z : Int} (C : Cx G X own cc) (d : decode cc pc = .ok (.i2d, 1)) (k : AtH G X cells slots (pc + 1) lv (.double (FP.i2d (iI z)) :: st) N h) : AtH G X cells slots pc lv (vI z :: st) N h := by
  obtain ⟨p, l, e, R, s, m, args, below, meth, c, Q, nL⟩ := X
  intro H locs ls hW hS hls
  exact lv_i2d C.1 C.2.1 d (k H locs ls hW hS hls)
theorem x_fconst (C : Cx G X own cc) (d : decode cc pc = .ok (.fconst 0, 1)) (k : AtH G X cells slots (pc + 1) lv (.float (fQ 0 0) :: st) N h) : AtH G X cells slots pc lv st N h := by
  obtain ⟨p, l, e, R, s, m, args, below, meth, c, Q, nL⟩ := X
  intro H locs ls hW hS hls
  exact lv_fconst0 C.1 C.2.1 d (k H locs ls hW hS hls)
theorem x_dconst (C : Cx G X own cc) (d : decode cc pc = .ok (.dconst 0, 1)) (k : AtH G X cells slots (pc + 1) lv (.double (dQ 0 0) :: st) N h) : AtH G X cells slots pc lv st N h := by
  obtain ⟨p, l, e, R, s, m, args, below, meth, c, Q, nL⟩ := X
  intro H locs ls hW hS hls
  exact lv_dconst0 C.1 C.2.1 d (k H locs ls hW hS hls)
theorem x_fdiv {a b : Int} (C : Cx G X own cc) (d : decode cc pc = .ok (.fdiv, 1)) (hb : ¬ nrm b = 0) (k : AtH G X cells slots (pc + 1) lv (.float (fQ a b) :: st) N h) : AtH G X cells slots pc lv (.float (FP.i2f (iI b)) :: .float (FP.i2f (iI a)) :: st) N h := by
  obtain ⟨p, l, e, R, s, m, args, below, meth, c, Q, nL⟩ := X
  intro H locs ls hW hS hls
  have e9 : fQ a b = FP.fdiv (FP.i2f (iI a)) (FP.i2f (iI b)) := if_neg hb
  rw [e9] at k
  exact lv_fdiv C.1 C.2.1 d (nn32 (fdiv_no (iI_ne0 hb))) (k H locs ls hW hS hls)
theorem x_ddiv {a b : Int} (C : Cx G X own cc) (d : decode cc pc = .ok (.ddiv, 1)) (hb : ¬ nrm b = 0) (k : AtH G X cells slots (pc + 1) lv (.double (dQ a b) :: st) N h) : AtH G X cells slots pc lv (.double (FP.i2d (iI b)) :: .double (FP.i2d (iI a)) :: st) N h := by
  obtain ⟨p, l, e, R, s, m, args, below, meth, c, Q, nL⟩ := X
  intro H locs ls hW hS hls
  have e9 : dQ a b = FP.ddiv (FP.i2d (iI a)) (FP.i2d (iI b)) := if_neg hb
  rw [e9] at k
  exact lv_ddiv C.1 C.2.1 d (nn64 (ddiv_no (iI_ne0 hb))) (k H locs ls hW hS hls)
theorem r_fret {d0 mc0 ms0 : Nat} {post : Option Value → Nat → HT → Prop} {postX : String → Nat → HT → Prop} {z : UInt32} (C : Cx G X own cc) (M : Mx G X d0 mc0 ms0 (some .float) post postX) (d : decode cc pc = .ok (.freturn, 1)) (hmc : cells ≤ mc0) (hms : slots ≤ ms0) (hp : post (some (.float z)) N h) : AtH G X cells slots pc lv [.float z] N h := by
  obtain ⟨p, l, e, R, s, m, args, below, meth, c, Q, nL⟩ := X
  intro H locs ls hW hS hls
  obtain ⟨hR, hQ, hr, -⟩ := M
  have hlocks : meth.locks = false := C.2.2.2.2.2.2.2.1
  subst hQ
  refine W.widen hmc hms (vx_ret ?_)
  exact W.fret C.1 C.2.1 hr (fun t ht hW9 => ⟨_, N, h, rfl, hp, by rw [ht]; exact hW, hS.F ht⟩) hS.2.2 d hlocks
theorem r_dret {d0 mc0 ms0 : Nat} {post : Option Value → Nat → HT → Prop} {postX : String → Nat → HT → Prop} {z : UInt64} (C : Cx G X own cc) (M : Mx G X d0 mc0 ms0 (some .double) post postX) (d : decode cc pc = .ok (.dreturn, 1)) (hmc : cells ≤ mc0) (hms : slots ≤ ms0) (hp : post (some (.double z)) N h) : AtH G X cells slots pc lv [.double z] N h := by
  obtain ⟨p, l, e, R, s, m, args, below, meth, c, Q, nL⟩ := X
  intro H locs ls hW hS hls
  obtain ⟨hR, hQ, hr, -⟩ := M
  have hlocks : meth.locks = false := C.2.2.2.2.2.2.2.1
  subst hQ
  refine W.widen hmc hms (vx_ret ?_)
  exact W.dret C.1 C.2.1 hr (fun t ht hW9 => ⟨_, N, h, rfl, hp, by rw [ht]; exact hW, hS.F ht⟩) hS.2.2 d hlocks
theorem e_f {d0 mc0 ms0 : Nat} {a b r1 r2 : Int} {V1 : VV} (C : Cx G X own cc) (M : MX G X d0 mc0 ms0 (some .float) (.ok (some (.float (fQ r1 r2)))) V1) (d : decode cc pc = .ok (.freturn, 1)) (hc : cells ≤ mc0) (hs : slots ≤ ms0) (h : some (a, b, V) = some (r1, r2, V1)) : At G X cells slots pc lv [.float (fQ a b)] V := by
  cases h; exact r_fret C M d hc hs ⟨rfl, V, rfl, rfl, rfl⟩
theorem e_d {d0 mc0 ms0 : Nat} {a b r1 r2 : Int} {V1 : VV} (C : Cx G X own cc) (M : MX G X d0 mc0 ms0 (some .double) (.ok (some (.double (dQ r1 r2)))) V1) (d : decode cc pc = .ok (.dreturn, 1)) (hc : cells ≤ mc0) (hs : slots ≤ ms0) (h : some (a, b, V) = some (r1, r2, V1)) : At G X cells slots pc lv [.double (dQ a b)] V := by
  cases h; exact r_dret C M d hc hs ⟨rfl, V, rfl, rfl, rfl⟩
end
def f5_utilization_L4 (V : VV) : Nat → Int → Int → Option (Int)
  | 0, _, _ => none
  | n + 1, x1, x2 => (if nrm (V (aP 0) 5) ≤ nrm x2 then some x1 else ck ((0:Int) ≤ x2 ∧ x2 < 20) (f5_utilization_L4 V n (mxI x1 (V (aP 0 + 4) (Int.toNat x2))) (x2 + 1)))
theorem lp5_utilization_4 {G : GT} {X : CT} {cells slots : Nat} {V : VV} (hN : 148 ≤ gN G) (hx : xN X = 3) (C : Cx G X "ChannelSchedule" b5_utilization) {o0 : Except String (Option Value)} {V9 : VV} (M : MX G X 3 0 0 (some .float) o0 V9) (hc : cells ≤ 0) (hs : slots ≤ 0) : ∀ (n : Nat) {x1 : Int} {x2 : Int} {e1 : Int}, f5_utilization_L4 V n x1 x2 = some (e1) → At G X cells slots 35 [(0, .ref (gB G + 0)), (1, vI e1)] [] V → At G X cells slots 4 [(0, .ref (gB G + 0)), (1, vI x1), (2, vI x2)] [] V := by
  intro n
  induction n with
  | zero => intro x1 x2 e1 h _; exact nomatch h
  | succ n ih =>
    intro x1 x2 e1 h K
    rw [f5_utilization_L4] at h
    refine r_iload_n C d5_utilization_4 rfl ?_
    refine r_aload_n C d5_utilization_5 rfl ?_
    refine g_main_4 C d5_utilization_6 f5_36 hN ?_
    refine g_plan_5 C d5_utilization_9 f5_175 hN p0 ?_
    refine x_icmpge (tgt := 35) C d5_utilization_12 rfl (fun c1 => ?_) (fun c1 => ?_)
    · replace h := ite_p c1 h
      cases h
      exact AtH.sw K ⟨rfl, rfl, trivial⟩
    · replace h := ite_m c1 h
      refine r_iload_n C d5_utilization_15 rfl ?_
      refine r_aload_n C d5_utilization_16 rfl ?_
      refine g_main_4 C d5_utilization_17 f5_36 hN ?_
      refine g_plan_9 C d5_utilization_20 f5_186 hN p0 ?_
      refine r_iload_n C d5_utilization_23 rfl ?_
      obtain ⟨c2, h⟩ := ck_of h
      refine x_iald C d5_utilization_24 (ra_plan4 hN p0) c2 ?_
      refine x_mmax C M d5_utilization_25 l5_200 rfl hc hs ?_
      refine x_istore_n hx C d5_utilization_28 rfl ?_
      refine x_iinc hx C d5_utilization_29 rfl rfl ?_
      refine r_goto (tgt := 4) C d5_utilization_32 rfl ?_
      exact AtH.sw (ih h K) ⟨rfl, rfl, rfl, trivial⟩
def f5_utilization (V : VV) : Option (Int × Int × VV) := bd (f5_utilization_L4 V FU 0 0) (fun y3 => (if nrm y3 = 0 then some (0, 0, V) else bd (f5_countEmpty V 0 (y3 - 1)) (fun r7 => ck (¬ nrm y3 = 0) (some (y3 - r7, y3, V)))))
theorem ev5_utilization {G : GT} {l : Launch} {V : VV} {r1 r2 : Int} {V1 : VV} (hlt : l.stackTraces = false) (hN : 148 ≤ gN G) (h : f5_utilization V = some (r1, r2, V1)) : EvX G l y5_utilization b5_utilization 3 (some .float) 3 0 0 [.ref (gB G + 0)] V (.ok (some (.float (fQ r1 r2)))) V1 := by
  refine ev_w hlt (by decide +kernel) rfl rfl (fun X hl hx C M => ?_)
  subst hl
  replace C : Cx G X "ChannelSchedule" b5_utilization := C
  unfold f5_utilization at h
  show At G X 0 0 0 [(0, .ref (gB G + 0))] [] V
  refine r_iconst C d5_utilization_0 ?_
  refine x_istore_n hx C d5_utilization_1 rfl ?_
  refine r_iconst C d5_utilization_2 ?_
  refine x_istore_n hx C d5_utilization_3 rfl ?_
  obtain ⟨y3, h4, h⟩ := bd_of h
  refine AtH.sw (lp5_utilization_4 hN hx C M (Nat.le_of_ble_eq_true rfl) (Nat.le_of_ble_eq_true rfl) FU h4 ?_) ⟨rfl, rfl, rfl, trivial⟩
  refine r_iload_n C d5_utilization_35 rfl ?_
  refine x_ifne (tgt := 41) C d5_utilization_36 rfl (fun c5 => ?_) (fun c5 => ?_)
  · replace h := ite_p c5 h
    refine x_fconst C d5_utilization_39 ?_
    exact e_f C M d5_utilization_40 (Nat.le_of_ble_eq_true rfl) (Nat.le_of_ble_eq_true rfl) h
  · replace h := ite_m c5 h
    refine r_iload_n C d5_utilization_41 rfl ?_
    refine r_aload_n C d5_utilization_42 rfl ?_
    refine r_iconst C d5_utilization_43 ?_
    refine r_iload_n C d5_utilization_44 rfl ?_
    refine r_iconst C d5_utilization_45 ?_
    refine r_isub C d5_utilization_46 ?_
    obtain ⟨r7, h6, h⟩ := bd_of h
    refine cV2_i C M d5_utilization_47 l5_192 w5_countEmpty (rc_main hN) (ev5_countEmpty C.lt hN h6) rfl (Nat.le_of_ble_eq_true rfl) (Nat.le_of_ble_eq_true rfl) ?_
    refine r_isub C d5_utilization_50 ?_
    refine x_istore_n hx C d5_utilization_51 rfl ?_
    refine r_iload_n C d5_utilization_52 rfl ?_
    refine r_i2f C d5_utilization_53 ?_
    refine r_iload_n C d5_utilization_54 rfl ?_
    refine r_i2f C d5_utilization_55 ?_
    obtain ⟨c8, h⟩ := ck_of h
    refine x_fdiv C d5_utilization_56 c8 ?_
    exact e_f C M d5_utilization_57 (Nat.le_of_ble_eq_true rfl) (Nat.le_of_ble_eq_true rfl) h
def f5_meanTransit_L16 (V : VV) : Nat → Int → Int → Option (Int)
  | 0, _, _ => none
  | n + 1, x1, x2 => (if nrm (V (aP 0) 5) ≤ nrm x2 then some x1 else ck ((0:Int) ≤ x2 ∧ x2 < 20) (f5_meanTransit_L16 V n (x1 + ((V (aP 0 + 4) (Int.toNat x2)) - (V (aP 0 + 3) (Int.toNat x2)))) (x2 + 1)))
theorem lp5_meanTransit_16 {G : GT} {X : CT} {cells slots : Nat} {V : VV} (hN : 148 ≤ gN G) (hx : xN X = 3) (C : Cx G X "ChannelSchedule" b5_meanTransit) {o0 : Except String (Option Value)} {V9 : VV} (M : MX G X 0 0 0 (some .double) o0 V9) (hc : cells ≤ 0) (hs : slots ≤ 0) : ∀ (n : Nat) {x1 : Int} {x2 : Int} {e1 : Int}, f5_meanTransit_L16 V n x1 x2 = some (e1) → At G X cells slots 55 [(0, .ref (gB G + 0)), (1, vI e1)] [] V → At G X cells slots 16 [(0, .ref (gB G + 0)), (1, vI x1), (2, vI x2)] [] V := by
  intro n
  induction n with
  | zero => intro x1 x2 e1 h _; exact nomatch h
  | succ n ih =>
    intro x1 x2 e1 h K
    rw [f5_meanTransit_L16] at h
    refine r_iload_n C d5_meanTransit_16 rfl ?_
    refine r_aload_n C d5_meanTransit_17 rfl ?_
    refine g_main_4 C d5_meanTransit_18 f5_36 hN ?_
    refine g_plan_5 C d5_meanTransit_21 f5_175 hN p0 ?_
    refine x_icmpge (tgt := 55) C d5_meanTransit_24 rfl (fun c2 => ?_) (fun c2 => ?_)
    · replace h := ite_p c2 h
      cases h
      exact AtH.sw K ⟨rfl, rfl, trivial⟩
    · replace h := ite_m c2 h
      refine r_iload_n C d5_meanTransit_27 rfl ?_
      refine r_aload_n C d5_meanTransit_28 rfl ?_
      refine g_main_4 C d5_meanTransit_29 f5_36 hN ?_
      refine g_plan_9 C d5_meanTransit_32 f5_186 hN p0 ?_
      refine r_iload_n C d5_meanTransit_35 rfl ?_
      obtain ⟨c3, h⟩ := ck_of h
      refine x_iald C d5_meanTransit_36 (ra_plan4 hN p0) c3 ?_
      refine r_aload_n C d5_meanTransit_37 rfl ?_
      refine g_main_4 C d5_meanTransit_38 f5_36 hN ?_
      refine g_plan_8 C d5_meanTransit_41 f5_183 hN p0 ?_
      refine r_iload_n C d5_meanTransit_44 rfl ?_
      refine x_iald C d5_meanTransit_45 (ra_plan3 hN p0) c3 ?_
      refine r_isub C d5_meanTransit_46 ?_
      refine r_iadd C d5_meanTransit_47 ?_
      refine x_istore_n hx C d5_meanTransit_48 rfl ?_
      refine x_iinc hx C d5_meanTransit_49 rfl rfl ?_
      refine r_goto (tgt := 16) C d5_meanTransit_52 rfl ?_
      exact AtH.sw (ih h K) ⟨rfl, rfl, rfl, trivial⟩
def f5_meanTransit (V : VV) : Option (Int × Int × VV) := (if nrm (V (aP 0) 5) = 0 then some (0, 0, V) else bd (f5_meanTransit_L16 V FU 0 0) (fun y4 => ck (¬ nrm (V (aP 0) 5) = 0) (some (y4, V (aP 0) 5, V))))
theorem ev5_meanTransit {G : GT} {l : Launch} {V : VV} {r1 r2 : Int} {V1 : VV} (hlt : l.stackTraces = false) (hN : 148 ≤ gN G) (h : f5_meanTransit V = some (r1, r2, V1)) : EvX G l y5_meanTransit b5_meanTransit 3 (some .double) 0 0 0 [.ref (gB G + 0)] V (.ok (some (.double (dQ r1 r2)))) V1 := by
  refine ev_w hlt (by decide +kernel) rfl rfl (fun X hl hx C M => ?_)
  subst hl
  replace C : Cx G X "ChannelSchedule" b5_meanTransit := C
  unfold f5_meanTransit at h
  show At G X 0 0 0 [(0, .ref (gB G + 0))] [] V
  refine r_aload_n C d5_meanTransit_0 rfl ?_
  refine g_main_4 C d5_meanTransit_1 f5_36 hN ?_
  refine g_plan_5 C d5_meanTransit_4 f5_175 hN p0 ?_
  refine x_ifne (tgt := 12) C d5_meanTransit_7 rfl (fun c1 => ?_) (fun c1 => ?_)
  · replace h := ite_p c1 h
    refine x_dconst C d5_meanTransit_10 ?_
    exact e_d C M d5_meanTransit_11 (Nat.le_of_ble_eq_true rfl) (Nat.le_of_ble_eq_true rfl) h
  · replace h := ite_m c1 h
    refine r_iconst C d5_meanTransit_12 ?_
    refine x_istore_n hx C d5_meanTransit_13 rfl ?_
    refine r_iconst C d5_meanTransit_14 ?_
    refine x_istore_n hx C d5_meanTransit_15 rfl ?_
    obtain ⟨y4, h5, h⟩ := bd_of h
    refine AtH.sw (lp5_meanTransit_16 hN hx C M (Nat.le_of_ble_eq_true rfl) (Nat.le_of_ble_eq_true rfl) FU h5 ?_) ⟨rfl, rfl, rfl, trivial⟩
    refine r_iload_n C d5_meanTransit_55 rfl ?_
    refine r_i2d C d5_meanTransit_56 ?_
    refine r_aload_n C d5_meanTransit_57 rfl ?_
    refine g_main_4 C d5_meanTransit_58 f5_36 hN ?_
    refine g_plan_5 C d5_meanTransit_61 f5_175 hN p0 ?_
    refine r_i2d C d5_meanTransit_64 ?_
    obtain ⟨c6, h⟩ := ck_of h
    refine x_ddiv C d5_meanTransit_65 c6 ?_
    exact e_d C M d5_meanTransit_66 (Nat.le_of_ble_eq_true rfl) (Nat.le_of_ble_eq_true rfl) h
def f6_utilization_L9 (V : VV) : Nat → Int → Int → Option (Int)
  | 0, _, _ => none
  | n + 1, x1, x2 => (if nrm (V 149 5) ≤ nrm x2 then some x1 else bd (f6_ofBooking V x2 3) (fun r3 => (if nrm r3 ≤ nrm x1 then f6_utilization_L9 V n x1 (x2 + 1) else bd (f6_ofBooking V x2 3) (fun r6 => f6_utilization_L9 V n r6 (x2 + 1)))))
theorem lp6_utilization_9 {G : GT} {X : CT} {cells slots : Nat} {V : VV} (hN : 154 ≤ gN G) (hx : xN X = 4) (C : Cx G X "ChannelScheduleModel" b6_utilization) {o0 : Except String (Option Value)} {V9 : VV} (M : MX G X 2 0 0 (some .float) o0 V9) (hc : cells ≤ 0) (hs : slots ≤ 0) : ∀ (n : Nat) {x1 : Int} {x2 : Int} {e1 : Int}, f6_utilization_L9 V n x1 x2 = some (e1) → At G X cells slots 46 [(0, .ref (gB G + 148)), (1, vI e1)] [] V → At G X cells slots 9 [(0, .ref (gB G + 148)), (1, vI x1), (2, vI x2)] [] V := by
  intro n
  induction n with
  | zero => intro x1 x2 e1 h _; exact nomatch h
  | succ n ih =>
    intro x1 x2 e1 h K
    rw [f6_utilization_L9] at h
    refine r_iload_n C d6_utilization_9 rfl ?_
    refine r_aload_n C d6_utilization_10 rfl ?_
    refine g_model_0 C d6_utilization_11 f6_13 hN ?_
    refine r_iconst C d6_utilization_14 ?_
    refine x_iald C d6_utilization_15 (ra_m hN) (by omega) ?_
    refine x_icmpge (tgt := 46) C d6_utilization_16 rfl (fun c1 => ?_) (fun c1 => ?_)
    · replace h := ite_p c1 h
      cases h
      exact AtH.sw K ⟨rfl, rfl, trivial⟩
    · replace h := ite_m c1 h
      refine r_aload_n C d6_utilization_19 rfl ?_
      refine r_iload_n C d6_utilization_20 rfl ?_
      refine r_iconst C d6_utilization_21 ?_
      obtain ⟨r3, h2, h⟩ := bd_of h
      refine cV2_i C M d6_utilization_22 l6_91 w6_ofBooking (rc_model hN) (ev6_ofBooking C.lt hN h2) rfl hc hs ?_
      refine r_iload_n C d6_utilization_25 rfl ?_
      refine x_icmple (tgt := 38) C d6_utilization_26 rfl (fun c4 => ?_) (fun c4 => ?_)
      · replace h := ite_p c4 h
        refine r_iload_n C d6_utilization_38 rfl ?_
        refine x_istore_n hx C d6_utilization_39 rfl ?_
        refine x_iinc hx C d6_utilization_40 rfl rfl ?_
        refine r_goto (tgt := 9) C d6_utilization_43 rfl ?_
        exact AtH.sw (ih h K) ⟨rfl, rfl, rfl, trivial⟩
      · replace h := ite_m c4 h
        refine r_aload_n C d6_utilization_29 rfl ?_
        refine r_iload_n C d6_utilization_30 rfl ?_
        refine r_iconst C d6_utilization_31 ?_
        obtain ⟨r6, h5, h⟩ := bd_of h
        refine cV2_i C M d6_utilization_32 l6_91 w6_ofBooking (rc_model hN) (ev6_ofBooking C.lt hN h5) rfl hc hs ?_
        refine r_goto (tgt := 39) C d6_utilization_35 rfl ?_
        refine x_istore_n hx C d6_utilization_39 rfl ?_
        refine x_iinc hx C d6_utilization_40 rfl rfl ?_
        refine r_goto (tgt := 9) C d6_utilization_43 rfl ?_
        exact AtH.sw (ih h K) ⟨rfl, rfl, rfl, trivial⟩
def f6_utilization_L50 (V : VV) (x1 : Int) : Nat → Int → Int → Option (Int)
  | 0, _, _ => none
  | n + 1, x2, x3 => (if nrm x1 ≤ nrm x3 then some x2 else bd (f6_shipsIn V x3) (fun r11 => (if nrm r11 ≤ 0 then f6_utilization_L50 V x1 n (x2 + 0) (x3 + 1) else f6_utilization_L50 V x1 n (x2 + 1) (x3 + 1))))
theorem lp6_utilization_50 {G : GT} {X : CT} {cells slots : Nat} {V : VV} (hN : 154 ≤ gN G) (hx : xN X = 4) (C : Cx G X "ChannelScheduleModel" b6_utilization) {x1 : Int} {o0 : Except String (Option Value)} {V9 : VV} (M : MX G X 2 0 0 (some .float) o0 V9) (hc : cells ≤ 0) (hs : slots ≤ 0) : ∀ (n : Nat) {x2 : Int} {x3 : Int} {e2 : Int}, f6_utilization_L50 V x1 n x2 x3 = some (e2) → At G X cells slots 77 [(0, .ref (gB G + 148)), (1, vI x1), (2, vI e2)] [] V → At G X cells slots 50 [(0, .ref (gB G + 148)), (1, vI x1), (2, vI x2), (3, vI x3)] [] V := by
  intro n
  induction n with
  | zero => intro x2 x3 e2 h _; exact nomatch h
  | succ n ih =>
    intro x2 x3 e2 h K
    rw [f6_utilization_L50] at h
    refine r_iload_n C d6_utilization_50 rfl ?_
    refine r_iload_n C d6_utilization_51 rfl ?_
    refine x_icmpge (tgt := 77) C d6_utilization_52 rfl (fun c9 => ?_) (fun c9 => ?_)
    · replace h := ite_p c9 h
      cases h
      exact AtH.sw K ⟨rfl, rfl, rfl, trivial⟩
    · replace h := ite_m c9 h
      refine r_iload_n C d6_utilization_55 rfl ?_
      refine r_aload_n C d6_utilization_56 rfl ?_
      refine r_iload_n C d6_utilization_57 rfl ?_
      obtain ⟨r11, h10, h⟩ := bd_of h
      refine cV1_i C M d6_utilization_58 l6_274 w6_shipsIn (rc_model hN) (ev6_shipsIn C.lt hN h10) rfl hc hs ?_
      refine x_ifle (tgt := 68) C d6_utilization_61 rfl (fun c12 => ?_) (fun c12 => ?_)
      · replace h := ite_p c12 h
        refine r_iconst C d6_utilization_68 ?_
        refine r_iadd C d6_utilization_69 ?_
        refine x_istore_n hx C d6_utilization_70 rfl ?_
        refine x_iinc hx C d6_utilization_71 rfl rfl ?_
        refine r_goto (tgt := 50) C d6_utilization_74 rfl ?_
        exact AtH.sw (ih h K) ⟨rfl, rfl, rfl, rfl, trivial⟩
      · replace h := ite_m c12 h
        refine r_iconst C d6_utilization_64 ?_
        refine r_goto (tgt := 69) C d6_utilization_65 rfl ?_
        refine r_iadd C d6_utilization_69 ?_
        refine x_istore_n hx C d6_utilization_70 rfl ?_
        refine x_iinc hx C d6_utilization_71 rfl rfl ?_
        refine r_goto (tgt := 50) C d6_utilization_74 rfl ?_
        exact AtH.sw (ih h K) ⟨rfl, rfl, rfl, rfl, trivial⟩
def f6_utilization (V : VV) : Option (Int × Int × VV) := bd (f6_utilization_L9 (up2 V 148 9 0) FU 0 0) (fun y7 => bd (f6_utilization_L50 (up2 V 148 9 0) y7 FU 0 0) (fun y13 => (if nrm ((up2 V 148 9 0) 149 5) = 0 then some (0, 0, up2 V 148 9 0) else ck (¬ nrm y7 = 0) (some (y13, y7, up2 V 148 9 0)))))
theorem ev6_utilization {G : GT} {l : Launch} {V : VV} {r1 r2 : Int} {V1 : VV} (hlt : l.stackTraces = false) (hN : 154 ≤ gN G) (h : f6_utilization V = some (r1, r2, V1)) : EvX G l y6_utilization b6_utilization 4 (some .float) 2 0 0 [.ref (gB G + 148)] V (.ok (some (.float (fQ r1 r2)))) V1 := by
  refine ev_w hlt (by decide +kernel) rfl rfl (fun X hl hx C M => ?_)
  subst hl
  replace C : Cx G X "ChannelScheduleModel" b6_utilization := C
  unfold f6_utilization at h
  show At G X 0 0 0 [(0, .ref (gB G + 148))] [] V
  refine r_aload_n C d6_utilization_0 rfl ?_
  refine r_iconst C d6_utilization_1 ?_
  refine p_model_9 C d6_utilization_2 f6_1 hN ?_
  refine r_iconst C d6_utilization_5 ?_
  refine x_istore_n hx C d6_utilization_6 rfl ?_
  refine r_iconst C d6_utilization_7 ?_
  refine x_istore_n hx C d6_utilization_8 rfl ?_
  obtain ⟨y7, h8, h⟩ := bd_of h
  refine AtH.sw (lp6_utilization_9 hN hx C M (Nat.le_of_ble_eq_true rfl) (Nat.le_of_ble_eq_true rfl) FU h8 ?_) ⟨rfl, rfl, rfl, trivial⟩
  refine r_iconst C d6_utilization_46 ?_
  refine x_istore_n hx C d6_utilization_47 rfl ?_
  refine r_iconst C d6_utilization_48 ?_
  refine x_istore_n hx C d6_utilization_49 rfl ?_
  obtain ⟨y13, h14, h⟩ := bd_of h
  refine AtH.sw (lp6_utilization_50 hN hx C M (Nat.le_of_ble_eq_true rfl) (Nat.le_of_ble_eq_true rfl) FU h14 ?_) ⟨rfl, rfl, rfl, rfl, trivial⟩
  refine r_aload_n C d6_utilization_77 rfl ?_
  refine g_model_0 C d6_utilization_78 f6_13 hN ?_
  refine r_iconst C d6_utilization_81 ?_
  refine x_iald C d6_utilization_82 (ra_m hN) (by omega) ?_
  refine x_ifne (tgt := 90) C d6_utilization_83 rfl (fun c15 => ?_) (fun c15 => ?_)
  · replace h := ite_p c15 h
    refine x_fconst C d6_utilization_86 ?_
    refine r_goto (tgt := 95) C d6_utilization_87 rfl ?_
    exact e_f C M d6_utilization_95 (Nat.le_of_ble_eq_true rfl) (Nat.le_of_ble_eq_true rfl) h
  · replace h := ite_m c15 h
    refine r_iload_n C d6_utilization_90 rfl ?_
    refine r_i2f C d6_utilization_91 ?_
    refine r_iload_n C d6_utilization_92 rfl ?_
    refine r_i2f C d6_utilization_93 ?_
    obtain ⟨c16, h⟩ := ck_of h
    refine x_fdiv C d6_utilization_94 c16 ?_
    exact e_f C M d6_utilization_95 (Nat.le_of_ble_eq_true rfl) (Nat.le_of_ble_eq_true rfl) h
def f6_meanTransit_L9 (V : VV) : Nat → Int → Int → Option (Int)
  | 0, _, _ => none
  | n + 1, x1, x2 => (if nrm (V 149 5) ≤ nrm x2 then some x1 else bd (f6_ofBooking V x2 3) (fun r3 => bd (f6_ofBooking V x2 2) (fun r5 => f6_meanTransit_L9 V n (x1 + (r3 - r5)) (x2 + 1))))
theorem lp6_meanTransit_9 {G : GT} {X : CT} {cells slots : Nat} {V : VV} (hN : 154 ≤ gN G) (hx : xN X = 3) (C : Cx G X "ChannelScheduleModel" b6_meanTransit) {o0 : Except String (Option Value)} {V9 : VV} (M : MX G X 1 0 0 (some .double) o0 V9) (hc : cells ≤ 0) (hs : slots ≤ 0) : ∀ (n : Nat) {x1 : Int} {x2 : Int} {e1 : Int}, f6_meanTransit_L9 V n x1 x2 = some (e1) → At G X cells slots 41 [(0, .ref (gB G + 148)), (1, vI e1)] [] V → At G X cells slots 9 [(0, .ref (gB G + 148)), (1, vI x1), (2, vI x2)] [] V := by
  intro n
  induction n with
  | zero => intro x1 x2 e1 h _; exact nomatch h
  | succ n ih =>
    intro x1 x2 e1 h K
    rw [f6_meanTransit_L9] at h
    refine r_iload_n C d6_meanTransit_9 rfl ?_
    refine r_aload_n C d6_meanTransit_10 rfl ?_
    refine g_model_0 C d6_meanTransit_11 f6_13 hN ?_
    refine r_iconst C d6_meanTransit_14 ?_
    refine x_iald C d6_meanTransit_15 (ra_m hN) (by omega) ?_
    refine x_icmpge (tgt := 41) C d6_meanTransit_16 rfl (fun c1 => ?_) (fun c1 => ?_)
    · replace h := ite_p c1 h
      cases h
      exact AtH.sw K ⟨rfl, rfl, trivial⟩
    · replace h := ite_m c1 h
      refine r_iload_n C d6_meanTransit_19 rfl ?_
      refine r_aload_n C d6_meanTransit_20 rfl ?_
      refine r_iload_n C d6_meanTransit_21 rfl ?_
      refine r_iconst C d6_meanTransit_22 ?_
      obtain ⟨r3, h2, h⟩ := bd_of h
      refine cV2_i C M d6_meanTransit_23 l6_91 w6_ofBooking (rc_model hN) (ev6_ofBooking C.lt hN h2) rfl hc hs ?_
      refine r_aload_n C d6_meanTransit_26 rfl ?_
      refine r_iload_n C d6_meanTransit_27 rfl ?_
      refine r_iconst C d6_meanTransit_28 ?_
      obtain ⟨r5, h4, h⟩ := bd_of h
      refine cV2_i C M d6_meanTransit_29 l6_91 w6_ofBooking (rc_model hN) (ev6_ofBooking C.lt hN h4) rfl hc hs ?_
      refine r_isub C d6_meanTransit_32 ?_
      refine r_iadd C d6_meanTransit_33 ?_
      refine x_istore_n hx C d6_meanTransit_34 rfl ?_
      refine x_iinc hx C d6_meanTransit_35 rfl rfl ?_
      refine r_goto (tgt := 9) C d6_meanTransit_38 rfl ?_
      exact AtH.sw (ih h K) ⟨rfl, rfl, rfl, trivial⟩
def f6_meanTransit (V : VV) : Option (Int × Int × VV) := bd (f6_meanTransit_L9 (up2 V 148 9 0) FU 0 0) (fun y6 => (if nrm ((up2 V 148 9 0) 149 5) = 0 then some (0, 0, up2 V 148 9 0) else ck (¬ nrm ((up2 V 148 9 0) 149 5) = 0) (some (y6, (up2 V 148 9 0) 149 5, up2 V 148 9 0))))
theorem ev6_meanTransit {G : GT} {l : Launch} {V : VV} {r1 r2 : Int} {V1 : VV} (hlt : l.stackTraces = false) (hN : 154 ≤ gN G) (h : f6_meanTransit V = some (r1, r2, V1)) : EvX G l y6_meanTransit b6_meanTransit 3 (some .double) 1 0 0 [.ref (gB G + 148)] V (.ok (some (.double (dQ r1 r2)))) V1 := by
  refine ev_w hlt (by decide +kernel) rfl rfl (fun X hl hx C M => ?_)
  subst hl
  replace C : Cx G X "ChannelScheduleModel" b6_meanTransit := C
  unfold f6_meanTransit at h
  show At G X 0 0 0 [(0, .ref (gB G + 148))] [] V
  refine r_aload_n C d6_meanTransit_0 rfl ?_
  refine r_iconst C d6_meanTransit_1 ?_
  refine p_model_9 C d6_meanTransit_2 f6_1 hN ?_
  refine r_iconst C d6_meanTransit_5 ?_
  refine x_istore_n hx C d6_meanTransit_6 rfl ?_
  refine r_iconst C d6_meanTransit_7 ?_
  refine x_istore_n hx C d6_meanTransit_8 rfl ?_
  obtain ⟨y6, h7, h⟩ := bd_of h
  refine AtH.sw (lp6_meanTransit_9 hN hx C M (Nat.le_of_ble_eq_true rfl) (Nat.le_of_ble_eq_true rfl) FU h7 ?_) ⟨rfl, rfl, rfl, trivial⟩
  refine r_aload_n C d6_meanTransit_41 rfl ?_
  refine g_model_0 C d6_meanTransit_42 f6_13 hN ?_
  refine r_iconst C d6_meanTransit_45 ?_
  refine x_iald C d6_meanTransit_46 (ra_m hN) (by omega) ?_
  refine x_ifne (tgt := 54) C d6_meanTransit_47 rfl (fun c8 => ?_) (fun c8 => ?_)
  · replace h := ite_p c8 h
    refine x_dconst C d6_meanTransit_50 ?_
    refine r_goto (tgt := 64) C d6_meanTransit_51 rfl ?_
    exact e_d C M d6_meanTransit_64 (Nat.le_of_ble_eq_true rfl) (Nat.le_of_ble_eq_true rfl) h
  · replace h := ite_m c8 h
    refine r_iload_n C d6_meanTransit_54 rfl ?_
    refine r_i2d C d6_meanTransit_55 ?_
    refine r_aload_n C d6_meanTransit_56 rfl ?_
    refine g_model_0 C d6_meanTransit_57 f6_13 hN ?_
    refine r_iconst C d6_meanTransit_60 ?_
    refine x_iald C d6_meanTransit_61 (ra_m hN) (by omega) ?_
    refine r_i2d C d6_meanTransit_62 ?_
    obtain ⟨c9, h⟩ := ck_of h
    refine x_ddiv C d6_meanTransit_63 c9 ?_
    exact e_d C M d6_meanTransit_64 (Nat.le_of_ble_eq_true rfl) (Nat.le_of_ble_eq_true rfl) h
