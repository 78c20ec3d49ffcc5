/-! the law's helpers: a number out of the script; the text of a channel -/
def pkN (G : GT) (k n : Nat) : Nat := if k < gSl G then (aI (gSx G k).toInt 2147483647).toNat % n else 0
theorem aI_max (z : Int) : 0 ≤ aI z 2147483647 ∧ aI z 2147483647 ≤ 2147483647 := by
  unfold aI
  rw [show iI 2147483647 = (2147483647 : Int32) from rfl, pk_and (iI z) 31 (by decide +kernel)]
  have h2 := Nat.mod_lt (iI z).toBitVec.toNat (show 0 < 2 ^ 31 by decide)
  rw [iI_nI, iI_toInt ⟨by omega, by omega⟩]
  omega
theorem pkN_lt {G : GT} {k n : Nat} (h : 0 < n) : pkN G k n < n := by
  unfold pkN
  split
  · exact Nat.mod_lt _ h
  · exact h
section
variable {G : GT} {X : CT} {cells slots pc N : Nat} {lv : List (Nat × Value)} {st : List Value} {h : HT} {own : String} {cc : ByteArray} {R0 : Room}
theorem r_sld {j : Int} (C : Cx G X own cc) (d : decode cc pc = .ok (.iaload, 1)) (h0 : 0 ≤ j) (h1 : j < gSl G) (k : AtH G X cells slots (pc + 1) lv (vI (gSx G j.toNat).toInt :: st) N h) : AtH G X cells slots pc lv (vI j :: .ref (gSa G) :: st) N h := by
  obtain ⟨p, l, e, R, s, m, args, below, meth, c, Q, nL⟩ := X
  intro H locs ls hW hS hls
  obtain ⟨hx, hn, hl⟩ := C.2.2.2.2.2.2.1.2.2.2.2.2.2.1
  refine va_sld (A := gR G) (H0 := s.heap) C.1 C.2.1 hx hx.lt hn hS (iI_in h0 h1 (by omega)) d ?_
  have hk := k H locs ls hW hS hls
  have e9 : Value.int (gSx G (iI j).toNatClampNeg) = vI (gSx G j.toNat).toInt := by
    rw [iI_clamp h0 ⟨by omega, by omega⟩]
    exact congrArg Value.int (iI_of _)
  rw [e9]
  exact hk
theorem r_slen (C : Cx G X own cc) (d : decode cc pc = .ok (.arraylength, 1)) (k : AtH G X cells slots (pc + 1) lv (vI (gSl G : Int) :: st) N h) : AtH G X cells slots pc lv (.ref (gSa G) :: st) N h := by
  obtain ⟨p, l, e, R, s, m, args, below, meth, c, Q, nL⟩ := X
  intro H locs ls hW hS hls
  obtain ⟨hx, hn, hl⟩ := C.2.2.2.2.2.2.1.2.2.2.2.2.2.1
  refine va_slen (A := gR G) (H0 := s.heap) C.1 C.2.1 hx hx.lt hn hS d ?_
  have hk := k H locs ls hW hS hls
  have e9 : Value.int (Int32.ofNat (gSl G)) = vI (gSl G : Int) := congrArg Value.int (iI_nI (gSl G))
  rw [e9]
  exact hk
theorem gSl_le (C : Cx G X own cc) : gSl G ≤ 260 := by
  obtain ⟨p, l, e, R, s, m, args, below, meth, c, Q, nL⟩ := X
  exact C.2.2.2.2.2.2.1.2.2.2.2.2.2.1.2.2
end
theorem hv_pick {l : Launch} (hlt : l.stackTraces = false) {G : GT} {N : Nat} {h : HT} {k n : Nat} (hk : k ≤ 300) (hn : 0 < n ∧ n ≤ 268435456) : EvH G l yL_pick bL_pick 3 (some .int) 0 0 0 [.ref (gSa G), vI (k : Int), vI (n : Int)] (N) h (Pu (some (vI (pkN G k n : Int))) N h) noH := by
  refine ev_of hlt (by decide +kernel) (Nat.le_of_ble_eq_true rfl) (av1 rfl) (Or.inr trivial) (fun X hl hx C M => ?_)
  subst hl
  replace C : Cx G X "ChannelScheduleLaw" bL_pick := C
  have hR := M.room
  show AtH G X 0 0 0 [(0, .ref (gSa G)), (1, vI (k : Int)), (2, vI (n : Int))] [] (N) h
  have hsl := gSl_le C
  have hk9 : (iI (gSx G ((k : Int)).toNat).toInt &&& iI 2147483647).toInt = aI (gSx G k).toInt 2147483647 := by rw [Int.toNat_natCast]; rfl
  refine r_iload_n C dL_pick_0 rfl ?_
  refine r_aload_n C dL_pick_1 rfl ?_
  refine r_slen C dL_pick_2 ?_
  refine r_icmpge (tgt := 17) C dL_pick_3 rfl ⟨by omega, by omega⟩ ⟨by omega, by omega⟩ (fun c => ?_) (fun c => ?_)
  · refine r_iconst C dL_pick_17 ?_
    exact r_iret C M dL_pick_18 rfl (Nat.le_of_ble_eq_true rfl) (Nat.le_of_ble_eq_true rfl) ⟨by unfold pkN; rw [if_neg (by omega)]; rfl, rfl, rfl⟩
  · refine r_aload_n C dL_pick_6 rfl ?_
    refine r_iload_n C dL_pick_7 rfl ?_
    refine r_sld C dL_pick_8 (by omega) (by omega) ?_
    refine r_ldci (z := 2147483647) C dL_pick_9 kkL_7 rfl ?_
    refine r_iand C dL_pick_11 (iI_of _) ?_
    refine r_iload_n C dL_pick_12 rfl ?_
    refine r_irem C dL_pick_13 ⟨by have := aI_max (gSx G k).toInt; rw [← hk9] at this; omega, by have := aI_max (gSx G k).toInt; rw [← hk9] at this; omega⟩ ⟨by omega, by omega⟩ (by omega) ?_
    refine r_goto (tgt := 18) C dL_pick_14 rfl ?_
    refine r_iret C M dL_pick_18 rfl (Nat.le_of_ble_eq_true rfl) (Nat.le_of_ble_eq_true rfl) ⟨?_, rfl, rfl⟩
    have h9 := (aI_max (gSx G k).toInt).1
    rw [← hk9] at h9
    have e : ((iI (gSx G ((k : Int)).toNat).toInt &&& iI 2147483647).toInt).tmod (n : Int) = ((pkN G k n : Nat) : Int) := by
      unfold pkN
      rw [if_pos (by omega), Int.tmod_eq_emod_of_nonneg h9, ← hk9, Int.natCast_emod, Int.toNat_of_nonneg h9]
    rw [e]
/-- the builder's append is called -/
theorem r_app {G : GT} {X : CT} {cells slots pc N : Nat} {lv : List (Nat × Value)} {h : HT} {own : String} {cc : ByteArray} {idx nLy d0 mc0 ms0 : Nat} {y : MethodName} {ccy : ByteArray} {ret ret0 : Option FieldType} {rest : List Value} {v : Value} {L L' : List Int} {p0 : Option Value → Nat → HT → Prop} {pX0 : String → Nat → HT → Prop} (hX : gZ G)
    (C : Cx G X own cc) (M : Mx G X d0 mc0 ms0 ret0 p0 pX0) (d : decode cc pc = .ok (.invokevirtual idx, 3)) (wl : .methodLink own idx y ∈ LW) (wy : YV y ccy nLy ret 1) (hy : y.cls = "java/lang/StringBuilder") (S : Sb G N h L) (hE : EvH G (xl X) y ccy nLy ret 6 1 400 [.ref (gB G + 0), v] N h (PB G (some (.ref (gB G + 0))) N L') noH) (hb : (Nat.ble 7 d0 && Nat.ble nLy 21 && Nat.ble (rest.map fun v => v.category).sum 8) = true) (hc : cells + 1 ≤ mc0) (hs : slots + 400 ≤ ms0)
    (kk : ∀ N' h', Sb G N' h' L' → AtH G X (cells + 1) (slots + 400) (pc + 3) lv (.ref (gB G + 0) :: rest) N' h') : AtH G X cells slots pc lv (v :: .ref (gB G + 0) :: rest) N h := by
  obtain ⟨j, m, f, ⟨s1, s2⟩, s3, -⟩ := S
  simp only [Bool.and_eq_true] at hb
  refine r_callV (kk0 := 0) (As := [v]) C M d wl wy hE rfl rfl hX.ad (by omega) (oSB s3) (by rw [hy]; rfl) (Nat.le_of_ble_eq_true hb.2) (Nat.le_of_ble_eq_true hb.1.1) (Nat.le_of_ble_eq_true hb.1.2) hc hs (fun E N9 h9 q => q.elim) (fun v N9 h9 q => ?_)
  obtain ⟨rfl, -, S1⟩ := q
  exact kk N9 h9 S1
theorem i2c_s : ∀ k : Nat, k < 6 → ((iI ((97 : Int) + (k : Int))).toUInt32 % 65536).toInt32 = iI ((97 + k : Nat) : Int) := by decide +kernel
theorem k4_len : (kL 4).length = 6 := by decide +kernel
theorem k3_len : (kL 3).length = 8 := by decide +kernel
/-- the text: its beginning, a ship, all -/
def hdT (G : GT) : List Int := kL 3 ++ dgL (pkN G 1 8) ++ [32] ++ dgL (pkN G 2 8) ++ [32] ++ dgL (pkN G 3 6) ++ [59]
def zSh (G : GT) (k : Nat) : Nat := pkN G (4 + k) 16777216
theorem zSh_eq {G : GT} {k : Nat} : ((pkN G (4 + k) 16777216 : Nat) : Int) = ((zSh G k : Nat) : Int) := rfl
theorem zSh_lt {G : GT} {k : Nat} : zSh G k < 16777216 := pkN_lt (by omega)
def shT (G : GT) (k : Nat) (L : List Int) : List Int := L ++ kL 4 ++ [((97 + k : Nat) : Int)] ++ [32] ++ dgL (1 + zSh G k % 25) ++ [32] ++ dgL (zSh G k / 32 % 6) ++ [32] ++ dgL (1 + zSh G k / 256 % 12) ++ [59]
def txt (G : GT) : Nat → List Int
  | 0 => hdT G
  | k + 1 => shT G k (txt G k)
theorem hdT_len (G : GT) : (hdT G).length ≤ 17 := by
  have h1 := dn_le (pkN G 1 8)
  have h2 := dn_le (pkN G 2 8)
  have h3 := dn_le (pkN G 3 6)
  unfold hdT
  simp only [List.length_append, List.length_cons, List.length_nil, dgL_len, k3_len]
  omega
theorem shT_len (G : GT) (k : Nat) (L : List Int) : (shT G k L).length ≤ L.length + 17 := by
  have h1 := dn_le (1 + zSh G k % 25)
  have h2 := dn_le (zSh G k / 32 % 6)
  have h3 := dn_le (1 + zSh G k / 256 % 12)
  unfold shT
  simp only [List.length_append, List.length_cons, List.length_nil, dgL_len, k4_len]
  omega
theorem txt_len (G : GT) : ∀ k, (txt G k).length ≤ 17 + 17 * k
  | 0 => hdT_len G
  | k + 1 => by
    have h1 := shT_len G k (txt G k)
    have h2 := txt_len G k
    show (shT G k (txt G k)).length ≤ _
    omega
set_option maxRecDepth 100000
theorem lp_setup {G : GT} {X : CT} {ships : Nat} (hs6 : ships ≤ 6) (hX : gZ G) (hx : xN X = 5) (C : Cx G X "ChannelScheduleLaw" bL_setup) (M : Mx G X 10 100 40000 (some (.object "java/lang/String")) (fun v N1 h1 => ∃ k : Nat, some (.ref (gB G + k)) = v ∧ k + 1 < N1 ∧ h1 k = .inr (8, [.ref (gB G + (k + 1)), vI 0, vI 0, vI 0]) ∧ ∃ g : Nat → Int, (∀ i, i < (txt G ships).length → g i = (txt G ships).getD i 0) ∧ h1 (k + 1) = arI (gA G 2) (txt G ships).length g) noH) : ∀ (d i : Nat), i + d = ships → ∀ (cells slots N : Nat) (h : HT), Sb G N h (txt G i) → cells + 9 * d + 2 ≤ 100 → slots + 3600 * d + 404 ≤ 40000 → AtH G X cells slots 57 [(0, .ref (gSa G)), (1, vI (ships : Int)), (2, .ref (gB G + 0)), (3, vI (i : Int))] [] N h := by
  intro d
  induction d with
  | zero =>
    intro i hi cells slots N h S hc hs
    refine r_iload_n C dL_setup_57 rfl ?_
    refine r_iload_n C dL_setup_58 rfl ?_
    refine r_icmpge (tgt := 149) C dL_setup_59 rfl ⟨by omega, by omega⟩ ⟨by omega, by omega⟩ (fun c => ?_) (fun c => False.elim (by omega))
    clear c
    refine r_aload_n C dL_setup_149 rfl ?_
    obtain ⟨j, m, f, ⟨s1, s2⟩, s3, s4⟩ := S
    obtain rfl : i = ships := by omega
    refine r_callV (kk0 := 0) (As := []) C M dL_setup_150 lL_57 wJ4_toString_0e30d (sb_toString C.lt hX ⟨j, m, f, ⟨s1, s2⟩, s3, s4⟩) rfl rfl hX.ad (by omega) (oSB s3) rfl (Nat.le_of_ble_eq_true rfl) (Nat.le_of_ble_eq_true rfl) (Nat.le_of_ble_eq_true rfl) (by omega) (by omega) (fun E N9 h9 q => q.elim) (fun v N9 h9 q => ?_)
    obtain ⟨k, rfl, q⟩ := q
    exact r_aret C M dL_setup_153 (Or.inl ⟨_, rfl⟩) (by omega) (by omega) ⟨k, rfl, q⟩
  | succ d ih =>
    intro i hi cells slots N h S hc hs
    have hl := txt_len G i
    have d1 := dn_le (1 + zSh G i % 25)
    have d2 := dn_le (zSh G i / 32 % 6)
    have d3 := dn_le (1 + zSh G i / 256 % 12)
    have hz := zSh_lt (G := G) (k := i)
    obtain ⟨z, hzz⟩ : ∃ z : Nat, z = zSh G i := ⟨_, rfl⟩
    have hz5 : ((pkN G (4 + i) 16777216 : Nat) : Int) = (z : Int) := by rw [hzz]; exact zSh_eq
    rw [← hzz] at hz d1 d2 d3
    refine r_iload_n C dL_setup_57 rfl ?_
    refine r_iload_n C dL_setup_58 rfl ?_
    refine r_icmpge (tgt := 149) C dL_setup_59 rfl ⟨by omega, by omega⟩ ⟨by omega, by omega⟩ (fun c => False.elim (by omega)) (fun c => ?_)
    clear c
    refine r_aload_n C dL_setup_62 rfl ?_
    refine r_iconst C dL_setup_63 ?_
    refine r_iload_n C dL_setup_64 rfl ?_
    refine r_iadd C dL_setup_65 ?_
    refine r_top (show (4 : Int) + (i : Int) = ((4 + i : Nat) : Int) by omega) ?_
    refine r_ldci (z := 16777216) C dL_setup_66 kkL_51 rfl ?_
    refine r_callS (As := [.ref (gSa G), vI ((4 + i : Nat) : Int), vI ((16777216 : Nat) : Int)]) C M dL_setup_68 lL_41 wL_pick (hv_pick C.lt (by omega) (by omega)) rfl rfl (Nat.le_of_ble_eq_true rfl) (Nat.le_of_ble_eq_true rfl) (Nat.le_of_ble_eq_true rfl) (by omega) (by omega) (fun E N9 h9 q => q.elim) (fun v N9 h9 q => ?_)
    obtain ⟨rfl, rfl, rfl⟩ := q
    refine r_top hz5 ?_
    refine r_istore C dL_setup_71 (by rw [hx]; decide) ?_
    refine r_aload_n C dL_setup_73 rfl ?_
    refine x_ldcL (k := 1) C dL_setup_74 (by omega) ?_
    refine r_app hX C M dL_setup_76 lL_54 wJ4_append_15ec4 rfl S (sb_appendS C.lt hX S (i := 4) (by decide) (by rw [show leS.getD 4 0 = 6 from rfl]; omega)) rfl (by omega) (by omega) (fun N h S => ?_)
    refine r_bipush C dL_setup_79 (by decide +kernel) ?_
    refine r_iload_n C dL_setup_81 rfl ?_
    refine r_iadd C dL_setup_82 ?_
    refine r_i2c C dL_setup_83 (i2c_s i (by omega)) ?_
    refine r_app hX C M dL_setup_84 lL_48 wJ4_append_cf468 rfl S (sb_appendC C.lt hX S (z := ((97 + i : Nat) : Int)) (by omega) (by simp only [List.length_append, List.length_cons, List.length_nil, dgL_len, k4_len, k3_len]; omega)) rfl (by omega) (by omega) (fun N h S => ?_)
    refine r_bipush C dL_setup_87 (by decide +kernel) ?_
    refine r_app hX C M dL_setup_89 lL_48 wJ4_append_cf468 rfl S (sb_appendC C.lt hX S (z := 32) (by omega) (by simp only [List.length_append, List.length_cons, List.length_nil, dgL_len, k4_len, k3_len]; omega)) rfl (by omega) (by omega) (fun N h S => ?_)
    refine r_iconst C dL_setup_92 ?_
    refine r_iload C dL_setup_93 rfl ?_
    refine r_bipush C dL_setup_95 (by decide +kernel) ?_
    refine r_irem C dL_setup_97 ⟨by omega, by omega⟩ ⟨by omega, by omega⟩ (by omega) ?_
    refine r_iadd C dL_setup_98 ?_
    refine r_top (show (1 : Int) + ((z : Int)).tmod 25 = ((1 + z % 25 : Nat) : Int) by rw [Int.natCast_add]; rfl) ?_
    refine r_app hX C M dL_setup_99 lL_45 wJ4_append_bf812 rfl S (sb_appendI C.lt hX S (z := (1 + z % 25)) (by omega) (by simp only [List.length_append, List.length_cons, List.length_nil, dgL_len, k4_len, k3_len]; omega)) rfl (by omega) (by omega) (fun N h S => ?_)
    refine r_bipush C dL_setup_102 (by decide +kernel) ?_
    refine r_app hX C M dL_setup_104 lL_48 wJ4_append_cf468 rfl S (sb_appendC C.lt hX S (z := 32) (by omega) (by simp only [List.length_append, List.length_cons, List.length_nil, dgL_len, k4_len, k3_len]; omega)) rfl (by omega) (by omega) (fun N h S => ?_)
    refine r_iload C dL_setup_107 rfl ?_
    refine r_bipush C dL_setup_109 (by decide +kernel) ?_
    refine r_idiv C dL_setup_111 ⟨by omega, by omega⟩ ⟨by omega, by omega⟩ (by omega) ?_
    refine r_top (show ((z : Int)).tdiv 32 = ((z / 32 : Nat) : Int) from rfl) ?_
    refine r_bipush C dL_setup_112 (by decide +kernel) ?_
    refine r_irem C dL_setup_114 ⟨by omega, by omega⟩ ⟨by omega, by omega⟩ (by omega) ?_
    refine r_top (show ((z / 32 : Nat) : Int).tmod 6 = ((z / 32 % 6 : Nat) : Int) from rfl) ?_
    refine r_app hX C M dL_setup_115 lL_45 wJ4_append_bf812 rfl S (sb_appendI C.lt hX S (z := (z / 32 % 6)) (by omega) (by simp only [List.length_append, List.length_cons, List.length_nil, dgL_len, k4_len, k3_len]; omega)) rfl (by omega) (by omega) (fun N h S => ?_)
    refine r_bipush C dL_setup_118 (by decide +kernel) ?_
    refine r_app hX C M dL_setup_120 lL_48 wJ4_append_cf468 rfl S (sb_appendC C.lt hX S (z := 32) (by omega) (by simp only [List.length_append, List.length_cons, List.length_nil, dgL_len, k4_len, k3_len]; omega)) rfl (by omega) (by omega) (fun N h S => ?_)
    refine r_iconst C dL_setup_123 ?_
    refine r_iload C dL_setup_124 rfl ?_
    refine r_sipush C dL_setup_126 (by decide +kernel) ?_
    refine r_idiv C dL_setup_129 ⟨by omega, by omega⟩ ⟨by omega, by omega⟩ (by omega) ?_
    refine r_top (show ((z : Int)).tdiv 256 = ((z / 256 : Nat) : Int) from rfl) ?_
    refine r_bipush C dL_setup_130 (by decide +kernel) ?_
    refine r_irem C dL_setup_132 ⟨by omega, by omega⟩ ⟨by omega, by omega⟩ (by omega) ?_
    refine r_iadd C dL_setup_133 ?_
    refine r_top (show (1 : Int) + ((z / 256 : Nat) : Int).tmod 12 = ((1 + z / 256 % 12 : Nat) : Int) by rw [Int.natCast_add]; rfl) ?_
    refine r_app hX C M dL_setup_134 lL_45 wJ4_append_bf812 rfl S (sb_appendI C.lt hX S (z := (1 + z / 256 % 12)) (by omega) (by simp only [List.length_append, List.length_cons, List.length_nil, dgL_len, k4_len, k3_len]; omega)) rfl (by omega) (by omega) (fun N h S => ?_)
    refine r_bipush C dL_setup_137 (by decide +kernel) ?_
    refine r_app hX C M dL_setup_139 lL_48 wJ4_append_cf468 rfl S (sb_appendC C.lt hX S (z := 59) (by omega) (by simp only [List.length_append, List.length_cons, List.length_nil, dgL_len, k4_len, k3_len]; omega)) rfl (by omega) (by omega) (fun N h S => ?_)
    refine r_pop C dL_setup_142 rfl ?_
    refine r_iinc C dL_setup_143 rfl (by rw [hx]; decide) ?_
    refine r_goto (tgt := 57) C dL_setup_146 rfl ?_
    subst hzz
    refine AtH.sw (ih (i + 1) (by omega) _ _ _ _ S (by omega) (by omega)) ⟨rfl, rfl, rfl, rfl, trivial⟩
theorem hv_setup {l : Launch} (hlt : l.stackTraces = false) {G : GT} {h : HT} {ships : Nat} (hs6 : ships ≤ 6) (hX : gZ G) : EvH G l yL_setup bL_setup 5 (some (.object "java/lang/String")) 10 100 40000 [.ref (gSa G), vI (ships : Int)] (0) h (fun v N1 h1 => ∃ k : Nat, some (.ref (gB G + k)) = v ∧ k + 1 < N1 ∧ h1 k = .inr (8, [.ref (gB G + (k + 1)), vI 0, vI 0, vI 0]) ∧ ∃ g : Nat → Int, (∀ i, i < (txt G ships).length → g i = (txt G ships).getD i 0) ∧ h1 (k + 1) = arI (gA G 2) (txt G ships).length g) noH := by
  refine ev_of hlt (by decide +kernel) (Nat.le_of_ble_eq_true rfl) (av1 rfl) (Or.inr trivial) (fun X hl hx C M => ?_)
  subst hl
  replace C : Cx G X "ChannelScheduleLaw" bL_setup := C
  have hR := M.room
  show AtH G X 0 0 0 [(0, .ref (gSa G)), (1, vI (ships : Int))] [] (0) h
  have p1 := pkN_lt (G := G) (k := 1) (n := 8) (by omega)
  have p2 := pkN_lt (G := G) (k := 2) (n := 8) (by omega)
  have p3 := pkN_lt (G := G) (k := 3) (n := 6) (by omega)
  have d1 := dn_le (pkN G 1 8)
  have d2 := dn_le (pkN G 2 8)
  have d3 := dn_le (pkN G 3 6)
  refine r_new (ci := 7) hX C hR dL_setup_0 oi7 wcL_34 wn7 wi_StringBuilder df7 (Nat.le_of_ble_eq_true rfl) (Nat.le_of_ble_eq_true rfl) ?_
  refine r_dup C dL_setup_3 rfl ?_
  refine x_ldcL (k := 0) C dL_setup_4 (by omega) ?_
  refine q_callI (As := [.ref (gK G 3)]) C hR dL_setup_6 lL_38 wJ4_init_a7421 (sb_init4 C.lt hX (upH_e rfl) (i := 3) (by decide) (by decide)) rfl rfl (Nat.le_of_ble_eq_true rfl) (Nat.le_of_ble_eq_true rfl) (Nat.le_of_ble_eq_true rfl) (by show 0 + 1 + 2 ≤ 100; omega) (by show 0 + 4 + 500 ≤ 40000; omega) (fun E N9 h9 q => q.elim) (fun v N9 h9 q => ?_)
  obtain ⟨rfl, -, S⟩ := q
  refine r_aload_n C dL_setup_9 rfl ?_
  refine r_iconst C dL_setup_10 ?_
  refine r_bipush C dL_setup_11 (by decide +kernel) ?_
  refine r_callS (As := [.ref (gSa G), vI ((1 : Nat) : Int), vI ((8 : Nat) : Int)]) C M dL_setup_13 lL_41 wL_pick (hv_pick C.lt (by omega) (by omega)) rfl rfl (Nat.le_of_ble_eq_true rfl) (Nat.le_of_ble_eq_true rfl) (Nat.le_of_ble_eq_true rfl) (by omega) (by omega) (fun E N9 h9 q => q.elim) (fun v N9 h9 q => ?_)
  obtain ⟨rfl, rfl, rfl⟩ := q
  refine r_app hX C M dL_setup_16 lL_45 wJ4_append_bf812 rfl S (sb_appendI C.lt hX S (z := (pkN G 1 8)) (by omega) (by simp only [List.length_append, List.length_cons, List.length_nil, dgL_len, k4_len, k3_len]; omega)) rfl (by omega) (by omega) (fun N h S => ?_)
  refine r_bipush C dL_setup_19 (by decide +kernel) ?_
  refine r_app hX C M dL_setup_21 lL_48 wJ4_append_cf468 rfl S (sb_appendC C.lt hX S (z := 32) (by omega) (by simp only [List.length_append, List.length_cons, List.length_nil, dgL_len, k4_len, k3_len]; omega)) rfl (by omega) (by omega) (fun N h S => ?_)
  refine r_aload_n C dL_setup_24 rfl ?_
  refine r_iconst C dL_setup_25 ?_
  refine r_bipush C dL_setup_26 (by decide +kernel) ?_
  refine r_callS (As := [.ref (gSa G), vI ((2 : Nat) : Int), vI ((8 : Nat) : Int)]) C M dL_setup_28 lL_41 wL_pick (hv_pick C.lt (by omega) (by omega)) rfl rfl (Nat.le_of_ble_eq_true rfl) (Nat.le_of_ble_eq_true rfl) (Nat.le_of_ble_eq_true rfl) (by omega) (by omega) (fun E N9 h9 q => q.elim) (fun v N9 h9 q => ?_)
  obtain ⟨rfl, rfl, rfl⟩ := q
  refine r_app hX C M dL_setup_31 lL_45 wJ4_append_bf812 rfl S (sb_appendI C.lt hX S (z := (pkN G 2 8)) (by omega) (by simp only [List.length_append, List.length_cons, List.length_nil, dgL_len, k4_len, k3_len]; omega)) rfl (by omega) (by omega) (fun N h S => ?_)
  refine r_bipush C dL_setup_34 (by decide +kernel) ?_
  refine r_app hX C M dL_setup_36 lL_48 wJ4_append_cf468 rfl S (sb_appendC C.lt hX S (z := 32) (by omega) (by simp only [List.length_append, List.length_cons, List.length_nil, dgL_len, k4_len, k3_len]; omega)) rfl (by omega) (by omega) (fun N h S => ?_)
  refine r_aload_n C dL_setup_39 rfl ?_
  refine r_iconst C dL_setup_40 ?_
  refine r_bipush C dL_setup_41 (by decide +kernel) ?_
  refine r_callS (As := [.ref (gSa G), vI ((3 : Nat) : Int), vI ((6 : Nat) : Int)]) C M dL_setup_43 lL_41 wL_pick (hv_pick C.lt (by omega) (by omega)) rfl rfl (Nat.le_of_ble_eq_true rfl) (Nat.le_of_ble_eq_true rfl) (Nat.le_of_ble_eq_true rfl) (by omega) (by omega) (fun E N9 h9 q => q.elim) (fun v N9 h9 q => ?_)
  obtain ⟨rfl, rfl, rfl⟩ := q
  refine r_app hX C M dL_setup_46 lL_45 wJ4_append_bf812 rfl S (sb_appendI C.lt hX S (z := (pkN G 3 6)) (by omega) (by simp only [List.length_append, List.length_cons, List.length_nil, dgL_len, k4_len, k3_len]; omega)) rfl (by omega) (by omega) (fun N h S => ?_)
  refine r_bipush C dL_setup_49 (by decide +kernel) ?_
  refine r_app hX C M dL_setup_51 lL_48 wJ4_append_cf468 rfl S (sb_appendC C.lt hX S (z := 59) (by omega) (by simp only [List.length_append, List.length_cons, List.length_nil, dgL_len, k4_len, k3_len]; omega)) rfl (by omega) (by omega) (fun N h S => ?_)
  refine r_astore_n C dL_setup_54 (by rw [hx]; decide) ?_
  refine r_iconst C dL_setup_55 ?_
  refine r_istore_n C dL_setup_56 (by rw [hx]; decide) ?_
  exact AtH.sw (lp_setup hs6 hX hx C M ships 0 (by omega) _ _ _ _ S (by omega) (by omega)) ⟨rfl, rfl, rfl, rfl, trivial⟩
