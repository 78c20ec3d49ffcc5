/-! the string phase: what a builder is; calls -/
theorem shr0 (x : Int32) : x >>> (iI 0 &&& 31) = x := by
  have e : (iI 0 &&& 31 : Int32) = 0 := by decide +kernel
  rw [e]
  exact Int32.toBitVec_inj.mp (by simp)
theorem shl0 (x : Int32) : x <<< (iI 0 &&& 31) = x := by
  have e : (iI 0 &&& 31 : Int32) = 0 := by decide +kernel
  rw [e]
  exact Int32.toBitVec_inj.mp (by simp)
theorem nn_neg {n : Nat} (h : n ≤ 100000) : ¬ iI (n : Int) < 0 := fun z => by
  rw [← iI_zero, iI_lt ⟨by omega, by omega⟩ ⟨by omega, by omega⟩] at z
  omega
theorem nn_clamp {n : Nat} (h : n ≤ 100000) : (iI (n : Int)).toNatClampNeg = n := by rw [iI_clamp (by omega) ⟨by omega, by omega⟩, Int.toNat_natCast]
theorem sc_fit : ∀ i, i < 5 → ∀ j, j < leS.getD i 0 → 0 ≤ scI i j ∧ scI i j ≤ 127 := by decide +kernel
theorem td_B : parseFieldDescriptor "B" = some .byte := by decide +kernel
def kL (i : Nat) : List Int := (bySn.getD i []).map (fun n : Nat => (n : Int))
theorem kL_len : ∀ i, i < 5 → (kL i).length = leS.getD i 0 := by decide +kernel
theorem kL_at : ∀ i, i < 5 → ∀ j, j < leS.getD i 0 → (kL i).getD j 0 = scI i j := by decide +kernel
theorem leS_le : ∀ i, i < 5 → leS.getD i 0 ≤ 100 := by decide +kernel
theorem upH_upH {h : HT} {k : Nat} {e e' : va_E} : upH (upH h k e) k e' = upH h k e' := by
  funext j
  unfold upH
  split <;> rfl
/-- a builder over its row of bytes -/
def sbF (G : GT) (j : Nat) (c : Int) : List Value := [.ref (gB G + j), vI 0, vI 0, vI c]
def obSB (G : GT) (j : Nat) (c : Int) : va_E := .inr (7, sbF G j c)
def SbC (G : GT) (N : Nat) (h : HT) (L : List Int) (j m : Nat) (f : Nat → Int) : Prop :=
  (0 < j ∧ j < N) ∧ h 0 = obSB G j (L.length : Int) ∧ h j = arI (gA G 2) m f ∧ L.length ≤ m ∧ m ≤ 400 ∧ (∀ i, 0 ≤ f i ∧ f i ≤ 127) ∧ ∀ i, i < L.length → f i = L.getD i 0
def Sb (G : GT) (N : Nat) (h : HT) (L : List Int) : Prop := ∃ j m f, SbC G N h L j m f
/-- what a call gives: nothing unforeseen -/
def Pu (r : Option Value) (N1 : Nat) (h1 : HT) : Option Value → Nat → HT → Prop := fun v N' h' => r = v ∧ N1 = N' ∧ h1 = h'
/-- a builder is given back, with the text L -/
def PB (G : GT) (r : Option Value) (N : Nat) (L : List Int) : Option Value → Nat → HT → Prop := fun v N' h' => r = v ∧ N ≤ N' ∧ Sb G N' h' L
theorem getD_app {L M : List Int} {i : Nat} : (L ++ M).getD i 0 = if i < L.length then L.getD i 0 else M.getD (i - L.length) 0 := by
  simp only [List.getD_eq_getElem?_getD, List.getElem?_append]
  split <;> rfl
/-- how many digits, and which -/
def dn (z : Nat) : Nat := if z < 10 then 1 else 2
def dgL (z : Nat) : List Int := if z < 10 then [((48 + z : Nat) : Int)] else [((48 + z / 10 : Nat) : Int), ((48 + z % 10 : Nat) : Int)]
theorem dgL_len (z : Nat) : (dgL z).length = dn z := by
  unfold dgL dn
  split <;> rfl
theorem dn_le (z : Nat) : 1 ≤ dn z ∧ dn z ≤ 2 := by
  unfold dn
  split <;> omega
theorem wB_id {z : Int} (h : 0 ≤ z ∧ z ≤ 127) : wB z = z := by
  unfold wB
  omega
/-- the cells behind a write behind the text -/
def dgF (z e : Nat) (f : Nat → Int) : Nat → Int := if z < 10 then updI f (e - 1) ((48 + z % 10 : Nat) : Int) else updI (updI f (e - 1) ((48 + z % 10 : Nat) : Int)) (e - 2) ((48 + z / 10 : Nat) : Int)
section
variable {G : GT} {X : CT} {cells slots pc N : Nat} {lv : List (Nat × Value)} {st : List Value} {h : HT} {own : String} {cc : ByteArray} {R0 : Room}
theorem oSB {j : Nat} {c : Int} (h0 : h 0 = obSB G j c) : h 0 = .inr (7, [.ref (gB G + j), vI 0, vI 0, vI c]) := h0
end
theorem hv_coder {l : Launch} (hlt : l.stackTraces = false) {G : GT} {N : Nat} {h : HT} {i : Nat} (hi : i < 5) : EvH G l yJ0_coder_7d493 bJ0_coder_7d493 1 (some .byte) 0 0 0 [.ref (gK G i)] (N) h (Pu (some (vI 0)) N h) noH := by
  refine ev_of hlt (by decide +kernel) (Nat.le_of_ble_eq_true rfl) (av1 rfl) (Or.inr trivial) (fun X hl hx C M => ?_)
  subst hl
  replace C : Cx G X "java/lang/String" bJ0_coder_7d493 := C
  have hR := M.room
  show AtH G X 0 0 0 [(0, .ref (gK G i))] [] (N) h
  refine r_getsC C dJ0_coder_7d493_0 fJ0_38 ?_
  refine r_ifeq (tgt := 13) C dJ0_coder_7d493_3 rfl ⟨by omega, by omega⟩ (fun c => False.elim (by omega)) (fun c => ?_)
  clear c
  refine r_aload_n C dJ0_coder_7d493_6 rfl ?_
  refine r_kcoder C dJ0_coder_7d493_7 fJ0_15 hi ?_
  refine r_goto (tgt := 14) C dJ0_coder_7d493_10 rfl ?_
  exact r_iret C M dJ0_coder_7d493_14 rfl (Nat.le_of_ble_eq_true rfl) (Nat.le_of_ble_eq_true rfl) ⟨rfl, rfl, rfl⟩
theorem hv_length {l : Launch} (hlt : l.stackTraces = false) {G : GT} {N : Nat} {h : HT} {i : Nat} (hi : i < 5) : EvH G l yJ0_length_8abf5 bJ0_length_8abf5 1 (some .int) 1 0 0 [.ref (gK G i)] (N) h (Pu (some (vI (slI i))) N h) noH := by
  refine ev_of hlt (by decide +kernel) (Nat.le_of_ble_eq_true rfl) (av1 rfl) (Or.inr trivial) (fun X hl hx C M => ?_)
  subst hl
  replace C : Cx G X "java/lang/String" bJ0_length_8abf5 := C
  have hR := M.room
  show AtH G X 0 0 0 [(0, .ref (gK G i))] [] (N) h
  refine r_aload_n C dJ0_length_8abf5_0 rfl ?_
  refine r_kvalue C dJ0_length_8abf5_1 fJ0_9 hi ?_
  refine r_klen C dJ0_length_8abf5_4 hi ?_
  refine r_aload_n C dJ0_length_8abf5_5 rfl ?_
  refine r_callK (As := []) C M dJ0_length_8abf5_6 lJ0_335 wJ0_coder_7d493 (hv_coder C.lt hi) rfl rfl hi rfl (Nat.le_of_ble_eq_true rfl) (Nat.le_of_ble_eq_true rfl) (Nat.le_of_ble_eq_true rfl) (Nat.le_of_ble_eq_true rfl) (Nat.le_of_ble_eq_true rfl) (fun E N9 h9 q => q.elim) (fun v N9 h9 q => ?_)
  obtain ⟨rfl, rfl, rfl⟩ := q
  refine r_ishr C dJ0_length_8abf5_9 (shr0 _) ?_
  exact r_iret C M dJ0_length_8abf5_10 rfl (Nat.le_of_ble_eq_true rfl) (Nat.le_of_ble_eq_true rfl) ⟨rfl, rfl, rfl⟩
theorem sb_isLatin1 {l : Launch} (hlt : l.stackTraces = false) {G : GT} {N : Nat} {h : HT} {L : List Int} {j m : Nat} {f : Nat → Int} (hX : gZ G) (S : SbC G N h L j m f) : EvH G l yJ5_isLatin1_aae02 bJ5_isLatin1_aae02 1 (some .boolean) 0 0 0 [.ref (gB G + 0)] (N) h (Pu (some (vI 1)) N h) noH := by
  refine ev_of hlt (by decide +kernel) (Nat.le_of_ble_eq_true rfl) (av1 rfl) (Or.inr trivial) (fun X hl hx C M => ?_)
  subst hl
  replace C : Cx G X "java/lang/AbstractStringBuilder" bJ5_isLatin1_aae02 := C
  have hR := M.room
  show AtH G X 0 0 0 [(0, .ref (gB G + 0))] [] (N) h
  obtain ⟨⟨s1, s2⟩, s3, s4, s5, s6, s7, s8⟩ := S
  refine r_getsC C dJ5_isLatin1_aae02_0 fJ5_18 ?_
  refine r_ifeq (tgt := 17) C dJ5_isLatin1_aae02_3 rfl ⟨by omega, by omega⟩ (fun c => False.elim (by omega)) (fun c => ?_)
  clear c
  refine r_aload_n C dJ5_isLatin1_aae02_6 rfl ?_
  refine r_gf (k := 0) (sl := 1) (fs := sbF G (j) ((L.length : Int))) C dJ5_isLatin1_aae02_7 hX.ad (by omega) (oSB (s3)) oi7 (by omega) fJ5_22 rfl ?_
  refine r_ifne (tgt := 17) C dJ5_isLatin1_aae02_10 rfl ⟨by omega, by omega⟩ (fun c => False.elim (by omega)) (fun c => ?_)
  clear c
  refine r_iconst C dJ5_isLatin1_aae02_13 ?_
  refine r_goto (tgt := 18) C dJ5_isLatin1_aae02_14 rfl ?_
  exact r_iret C M dJ5_isLatin1_aae02_18 rfl (Nat.le_of_ble_eq_true rfl) (Nat.le_of_ble_eq_true rfl) ⟨rfl, rfl, rfl⟩
theorem sb_canEncode {l : Launch} (hlt : l.stackTraces = false) {G : GT} {N : Nat} {h : HT} {z : Int} (hz : 0 ≤ z ∧ z ≤ 127) : EvH G l yJ1_canEncode_fc78d bJ1_canEncode_fc78d 1 (some .boolean) 0 0 0 [vI z] (N) h (Pu (some (vI 1)) N h) noH := by
  refine ev_of hlt (by decide +kernel) (Nat.le_of_ble_eq_true rfl) (av1 rfl) (Or.inr trivial) (fun X hl hx C M => ?_)
  subst hl
  replace C : Cx G X "java/lang/StringLatin1" bJ1_canEncode_fc78d := C
  have hR := M.room
  show AtH G X 0 0 0 [(0, vI z)] [] (N) h
  refine r_iload_n C dJ1_canEncode_fc78d_0 rfl ?_
  refine r_sipush C dJ1_canEncode_fc78d_1 (by decide +kernel) ?_
  refine r_icmpgt (tgt := 11) C dJ1_canEncode_fc78d_4 rfl ⟨by omega, by omega⟩ ⟨by omega, by omega⟩ (fun c => False.elim (by omega)) (fun c => ?_)
  clear c
  refine r_iconst C dJ1_canEncode_fc78d_7 ?_
  refine r_goto (tgt := 12) C dJ1_canEncode_fc78d_8 rfl ?_
  exact r_iret C M dJ1_canEncode_fc78d_12 rfl (Nat.le_of_ble_eq_true rfl) (Nat.le_of_ble_eq_true rfl) ⟨rfl, rfl, rfl⟩
theorem sb_infl {l : Launch} (hlt : l.stackTraces = false) {G : GT} {N : Nat} {h : HT} {L : List Int} {j m : Nat} {f : Nat → Int} (hX : gZ G) (S : SbC G N h L j m f) {i : Nat} (hi : i < 5) : EvH G l yJ5_inflateIfNeededFor_a7421 bJ5_inflateIfNeededFor_a7421 2 none 1 0 0 [.ref (gB G + 0), .ref (gK G i)] (N) h (Pu none N h) noH := by
  refine ev_of hlt (by decide +kernel) (Nat.le_of_ble_eq_true rfl) (av1 rfl) (Or.inr trivial) (fun X hl hx C M => ?_)
  subst hl
  replace C : Cx G X "java/lang/AbstractStringBuilder" bJ5_inflateIfNeededFor_a7421 := C
  have hR := M.room
  show AtH G X 0 0 0 [(0, .ref (gB G + 0)), (1, .ref (gK G i))] [] (N) h
  obtain ⟨⟨s1, s2⟩, s3, s4, s5, s6, s7, s8⟩ := S
  refine r_getsC C dJ5_inflateIfNeededFor_a7421_0 fJ5_18 ?_
  refine r_ifeq (tgt := 21) C dJ5_inflateIfNeededFor_a7421_3 rfl ⟨by omega, by omega⟩ (fun c => False.elim (by omega)) (fun c => ?_)
  clear c
  refine r_aload_n C dJ5_inflateIfNeededFor_a7421_6 rfl ?_
  refine r_gf (k := 0) (sl := 1) (fs := sbF G (j) ((L.length : Int))) C dJ5_inflateIfNeededFor_a7421_7 hX.ad (by omega) (oSB (s3)) oi7 (by omega) fJ5_22 rfl ?_
  refine r_aload_n C dJ5_inflateIfNeededFor_a7421_10 rfl ?_
  refine r_callK (As := []) C M dJ5_inflateIfNeededFor_a7421_11 lJ5_40 wJ0_coder_7d493 (hv_coder C.lt hi) rfl rfl hi rfl (Nat.le_of_ble_eq_true rfl) (Nat.le_of_ble_eq_true rfl) (Nat.le_of_ble_eq_true rfl) (Nat.le_of_ble_eq_true rfl) (Nat.le_of_ble_eq_true rfl) (fun E N9 h9 q => q.elim) (fun v N9 h9 q => ?_)
  obtain ⟨rfl, rfl, rfl⟩ := q
  refine r_icmpeq (tgt := 21) C dJ5_inflateIfNeededFor_a7421_14 rfl ⟨by omega, by omega⟩ ⟨by omega, by omega⟩ (fun c => ?_) (fun c => False.elim (by omega))
  clear c
  exact r_vret C M dJ5_inflateIfNeededFor_a7421_21 (Nat.le_of_ble_eq_true rfl) (Nat.le_of_ble_eq_true rfl) ⟨rfl, rfl, rfl⟩
theorem sb_newLength {l : Launch} (hlt : l.stackTraces = false) {G : GT} {N : Nat} {h : HT} {a b c : Int} (ha : 0 ≤ a ∧ a ≤ 1000) (hb : 0 < b ∧ b ≤ 1000) (hc : 0 ≤ c ∧ c ≤ 1000) : EvH G l yJ8_newLength_cabcc bJ8_newLength_cabcc 4 (some .int) 2 0 0 [vI a, vI b, vI c] (N) h (Pu (some (vI (a + max b c))) N h) noH := by
  refine ev_of hlt (by decide +kernel) (Nat.le_of_ble_eq_true rfl) (av1 rfl) (Or.inr trivial) (fun X hl hx C M => ?_)
  subst hl
  replace C : Cx G X "jdk/internal/util/ArraysSupport" bJ8_newLength_cabcc := C
  have hR := M.room
  show AtH G X 0 0 0 [(0, vI a), (1, vI b), (2, vI c)] [] (N) h
  refine r_iload_n C dJ8_newLength_cabcc_0 rfl ?_
  refine r_iload_n C dJ8_newLength_cabcc_1 rfl ?_
  refine r_iload_n C dJ8_newLength_cabcc_2 rfl ?_
  refine r_mmax C hR dJ8_newLength_cabcc_3 lJ8_194 ⟨by omega, by omega⟩ ⟨by omega, by omega⟩ (Nat.le_of_ble_eq_true rfl) (Nat.le_of_ble_eq_true rfl) (Nat.le_of_ble_eq_true rfl) (Nat.le_of_ble_eq_true rfl) (Nat.le_of_ble_eq_true rfl) ?_
  refine r_iadd C dJ8_newLength_cabcc_6 ?_
  refine r_istore_n C dJ8_newLength_cabcc_7 (by rw [hx]; decide) ?_
  refine r_iconst C dJ8_newLength_cabcc_8 ?_
  refine r_iload_n C dJ8_newLength_cabcc_9 rfl ?_
  refine r_icmpge (tgt := 21) C dJ8_newLength_cabcc_10 rfl ⟨by omega, by omega⟩ ⟨by omega, by omega⟩ (fun c => False.elim (by omega)) (fun c => ?_)
  clear c
  refine r_iload_n C dJ8_newLength_cabcc_13 rfl ?_
  refine r_ldci (z := 2147483639) C dJ8_newLength_cabcc_14 kkJ8_200 rfl ?_
  refine r_icmpgt (tgt := 21) C dJ8_newLength_cabcc_16 rfl ⟨by omega, by omega⟩ ⟨by omega, by omega⟩ (fun c => False.elim (by omega)) (fun c => ?_)
  clear c
  refine r_iload_n C dJ8_newLength_cabcc_19 rfl ?_
  exact r_iret C M dJ8_newLength_cabcc_20 rfl (Nat.le_of_ble_eq_true rfl) (Nat.le_of_ble_eq_true rfl) ⟨rfl, rfl, rfl⟩
theorem sb_newCap {l : Launch} (hlt : l.stackTraces = false) {G : GT} {N : Nat} {h : HT} {L : List Int} {j m : Nat} {f : Nat → Int} (hX : gZ G) (S : SbC G N h L j m f) {q : Int} (hq : (m : Int) < q ∧ q ≤ 300) : EvH G l yJ5_newCapacity_0f7a4 bJ5_newCapacity_0f7a4 6 (some .int) 3 0 0 [.ref (gB G + 0), vI q] (N) h (Pu (some (vI ((m : Int) + max (q - m) (m + 2)))) N h) noH := by
  refine ev_of hlt (by decide +kernel) (Nat.le_of_ble_eq_true rfl) (av1 rfl) (Or.inr trivial) (fun X hl hx C M => ?_)
  subst hl
  replace C : Cx G X "java/lang/AbstractStringBuilder" bJ5_newCapacity_0f7a4 := C
  have hR := M.room
  show AtH G X 0 0 0 [(0, .ref (gB G + 0)), (1, vI q)] [] (N) h
  obtain ⟨⟨s1, s2⟩, s3, s4, s5, s6, s7, s8⟩ := S
  refine r_aload_n C dJ5_newCapacity_0f7a4_0 rfl ?_
  refine r_gf (k := 0) (sl := 0) (fs := sbF G (j) ((L.length : Int))) C dJ5_newCapacity_0f7a4_1 hX.ad (by omega) (oSB (s3)) oi7 (by omega) fJ5_15 rfl ?_
  refine r_alen2 (k := j) C dJ5_newCapacity_0f7a4_4 hX.ad (by omega) s4 ?_
  refine r_istore_n C dJ5_newCapacity_0f7a4_5 (by rw [hx]; decide) ?_
  refine r_iload_n C dJ5_newCapacity_0f7a4_6 rfl ?_
  refine r_aload_n C dJ5_newCapacity_0f7a4_7 rfl ?_
  refine r_gf (k := 0) (sl := 1) (fs := sbF G (j) ((L.length : Int))) C dJ5_newCapacity_0f7a4_8 hX.ad (by omega) (oSB (s3)) oi7 (by omega) fJ5_22 rfl ?_
  refine r_ishl C dJ5_newCapacity_0f7a4_11 (shl0 _) ?_
  refine r_istore_n C dJ5_newCapacity_0f7a4_12 (by rw [hx]; decide) ?_
  refine r_iload_n C dJ5_newCapacity_0f7a4_13 rfl ?_
  refine r_iload_n C dJ5_newCapacity_0f7a4_14 rfl ?_
  refine r_isub C dJ5_newCapacity_0f7a4_15 ?_
  refine r_istore C dJ5_newCapacity_0f7a4_16 (by rw [hx]; decide) ?_
  refine r_iload_n C dJ5_newCapacity_0f7a4_18 rfl ?_
  refine r_iload C dJ5_newCapacity_0f7a4_19 rfl ?_
  refine r_iload_n C dJ5_newCapacity_0f7a4_21 rfl ?_
  refine r_iconst C dJ5_newCapacity_0f7a4_22 ?_
  refine r_aload_n C dJ5_newCapacity_0f7a4_23 rfl ?_
  refine r_gf (k := 0) (sl := 1) (fs := sbF G (j) ((L.length : Int))) C dJ5_newCapacity_0f7a4_24 hX.ad (by omega) (oSB (s3)) oi7 (by omega) fJ5_22 rfl ?_
  refine r_ishl C dJ5_newCapacity_0f7a4_27 (shl0 _) ?_
  refine r_iadd C dJ5_newCapacity_0f7a4_28 ?_
  refine r_callS C M dJ5_newCapacity_0f7a4_29 lJ5_114 wJ8_newLength_cabcc (sb_newLength C.lt (a := (m : Int)) (b := q - m) (c := m + 2) (by omega) (by omega) (by omega)) rfl rfl (Nat.le_of_ble_eq_true rfl) (Nat.le_of_ble_eq_true rfl) (Nat.le_of_ble_eq_true rfl) (Nat.le_of_ble_eq_true rfl) (Nat.le_of_ble_eq_true rfl) (fun E N9 h9 q => q.elim) (fun v N9 h9 q => ?_)
  obtain ⟨rfl, rfl, rfl⟩ := q
  refine r_istore C dJ5_newCapacity_0f7a4_32 (by rw [hx]; decide) ?_
  refine r_iload C dJ5_newCapacity_0f7a4_34 rfl ?_
  refine r_ldci (z := 2147483647) C dJ5_newCapacity_0f7a4_36 kkJ5_39 rfl ?_
  refine r_icmpne (tgt := 51) C dJ5_newCapacity_0f7a4_38 rfl ⟨by omega, by omega⟩ ⟨by omega, by omega⟩ (fun c => ?_) (fun c => False.elim (by omega))
  clear c
  refine r_iload C dJ5_newCapacity_0f7a4_51 rfl ?_
  refine r_aload_n C dJ5_newCapacity_0f7a4_53 rfl ?_
  refine r_gf (k := 0) (sl := 1) (fs := sbF G (j) ((L.length : Int))) C dJ5_newCapacity_0f7a4_54 hX.ad (by omega) (oSB (s3)) oi7 (by omega) fJ5_22 rfl ?_
  refine r_ishr C dJ5_newCapacity_0f7a4_57 (shr0 _) ?_
  exact r_iret C M dJ5_newCapacity_0f7a4_58 rfl (Nat.le_of_ble_eq_true rfl) (Nat.le_of_ble_eq_true rfl) ⟨rfl, rfl, rfl⟩
theorem sb_copyOf {l : Launch} (hlt : l.stackTraces = false) {G : GT} {N : Nat} {h : HT} {j m n : Nat} {f : Nat → Int} (hX : gZ G) (hj : j < N) (hh : h j = arI (gA G 2) m f) (hf : ∀ i, 0 ≤ f i ∧ f i ≤ 127) (hn : m < n ∧ n ≤ 400) : EvH G l yJ7_copyOf_9075b bJ7_copyOf_9075b 3 (some (.array .byte)) 2 1 400 [.ref (gB G + j), vI (n : Int)] (N) h (Pu (some (.ref (gB G + N))) (N + 1) (upH h N (arI (gA G 2) n (cpI f (fun _ => 0) 0 m)))) noH := by
  refine ev_of hlt (by decide +kernel) (Nat.le_of_ble_eq_true rfl) (av1 rfl) (Or.inr trivial) (fun X hl hx C M => ?_)
  subst hl
  replace C : Cx G X "java/util/Arrays" bJ7_copyOf_9075b := C
  have hR := M.room
  show AtH G X 0 0 0 [(0, .ref (gB G + j)), (1, vI (n : Int))] [] (N) h
  refine r_iload_n C dJ7_copyOf_9075b_0 rfl ?_
  refine r_aload_n C dJ7_copyOf_9075b_1 rfl ?_
  refine r_alen2 (k := j) C dJ7_copyOf_9075b_2 hX.ad (by omega) hh ?_
  refine r_icmpne (tgt := 14) C dJ7_copyOf_9075b_3 rfl ⟨by omega, by omega⟩ ⟨by omega, by omega⟩ (fun c => ?_) (fun c => False.elim (by omega))
  clear c
  refine r_iload_n C dJ7_copyOf_9075b_14 rfl ?_
  refine r_newB (n := n) hX C hR dJ7_copyOf_9075b_15 (nn_neg (by omega)) (nn_clamp (by omega)) (by omega) (Nat.le_of_ble_eq_true rfl) (by show 0 + n ≤ 400; omega) ?_
  refine r_astore_n C dJ7_copyOf_9075b_17 (by rw [hx]; decide) ?_
  refine r_aload_n C dJ7_copyOf_9075b_18 rfl ?_
  refine r_iconst C dJ7_copyOf_9075b_19 ?_
  refine r_aload_n C dJ7_copyOf_9075b_20 rfl ?_
  refine r_iconst C dJ7_copyOf_9075b_21 ?_
  refine r_aload_n C dJ7_copyOf_9075b_22 rfl ?_
  refine r_alen2 (k := j) C dJ7_copyOf_9075b_23 hX.ad (by omega) ((upH_n (by omega)).trans hh) ?_
  refine r_iload_n C dJ7_copyOf_9075b_24 rfl ?_
  refine r_mmin C hR dJ7_copyOf_9075b_25 lJ7_304 ⟨by omega, by omega⟩ ⟨by omega, by omega⟩ (Nat.le_of_ble_eq_true rfl) (Nat.le_of_ble_eq_true rfl) (Nat.le_of_ble_eq_true rfl) (Nat.le_of_ble_eq_true rfl) (by show 0 + _ ≤ 400; omega) ?_
  refine r_top (show min (m : Int) (n : Int) = (m : Int) by omega) ?_
  refine r_copy (k1 := N) (nS := m) (n1 := n) (n := m) (dp := 0) (f := f) (g := fun _ => 0) C hR dJ7_copyOf_9075b_28 lJ7_150 (hX.ad (k := j) ▸ SrcB.world C (by omega) ((upH_n (by omega)).trans hh)) hX.ad (by omega) (upH_e rfl) (by omega) (by omega) (by omega) (fun i _ => ⟨by have := hf i; omega, by have := hf i; omega⟩) (Nat.le_of_ble_eq_true rfl) (Nat.le_of_ble_eq_true rfl) (Nat.le_of_ble_eq_true rfl) ?_
  refine r_aload_n C dJ7_copyOf_9075b_31 rfl ?_
  exact r_aret C M dJ7_copyOf_9075b_32 (Or.inr ⟨_, rfl⟩) (Nat.le_of_ble_eq_true rfl) (by show 0 + n ≤ 400; omega) ⟨rfl, rfl, upH_upH.symm⟩
theorem sb_ensure {l : Launch} (hlt : l.stackTraces = false) {G : GT} {N : Nat} {h : HT} {L : List Int} {j m : Nat} {f : Nat → Int} (hX : gZ G) (S : SbC G N h L j m f) {q : Int} (hq : 0 ≤ q ∧ q ≤ 160) : EvH G l yJ5_ensureCapacityInternal_d00df bJ5_ensureCapacityInternal_d00df 3 none 4 1 400 [.ref (gB G + 0), vI q] (N) h (fun v N1 h1 => none = v ∧ N ≤ N1 ∧ ∃ j1 m1 f1, SbC G N1 h1 L j1 m1 f1 ∧ q ≤ (m1 : Int)) noH := by
  refine ev_of hlt (by decide +kernel) (Nat.le_of_ble_eq_true rfl) (av1 rfl) (Or.inr trivial) (fun X hl hx C M => ?_)
  subst hl
  replace C : Cx G X "java/lang/AbstractStringBuilder" bJ5_ensureCapacityInternal_d00df := C
  have hR := M.room
  show AtH G X 0 0 0 [(0, .ref (gB G + 0)), (1, vI q)] [] (N) h
  obtain ⟨⟨s1, s2⟩, s3, s4, s5, s6, s7, s8⟩ := S
  refine r_aload_n C dJ5_ensureCapacityInternal_d00df_0 rfl ?_
  refine r_gf (k := 0) (sl := 0) (fs := sbF G (j) ((L.length : Int))) C dJ5_ensureCapacityInternal_d00df_1 hX.ad (by omega) (oSB (s3)) oi7 (by omega) fJ5_15 rfl ?_
  refine r_alen2 (k := j) C dJ5_ensureCapacityInternal_d00df_4 hX.ad (by omega) s4 ?_
  refine r_aload_n C dJ5_ensureCapacityInternal_d00df_5 rfl ?_
  refine r_gf (k := 0) (sl := 1) (fs := sbF G (j) ((L.length : Int))) C dJ5_ensureCapacityInternal_d00df_6 hX.ad (by omega) (oSB (s3)) oi7 (by omega) fJ5_22 rfl ?_
  refine r_ishr C dJ5_ensureCapacityInternal_d00df_9 (shr0 _) ?_
  refine r_istore_n C dJ5_ensureCapacityInternal_d00df_10 (by rw [hx]; decide) ?_
  refine r_iload_n C dJ5_ensureCapacityInternal_d00df_11 rfl ?_
  refine r_iload_n C dJ5_ensureCapacityInternal_d00df_12 rfl ?_
  refine r_isub C dJ5_ensureCapacityInternal_d00df_13 ?_
  refine r_ifle (tgt := 38) C dJ5_ensureCapacityInternal_d00df_14 rfl ⟨by omega, by omega⟩ (fun c => ?_) (fun c => ?_)
  · exact r_vret C M dJ5_ensureCapacityInternal_d00df_38 (Nat.le_of_ble_eq_true rfl) (Nat.le_of_ble_eq_true rfl) ⟨rfl, Nat.le_refl _, j, m, f, ⟨⟨s1, s2⟩, s3, s4, s5, s6, s7, s8⟩, by omega⟩
  · refine r_aload_n C dJ5_ensureCapacityInternal_d00df_17 rfl ?_
    refine r_aload_n C dJ5_ensureCapacityInternal_d00df_18 rfl ?_
    refine r_gf (k := 0) (sl := 0) (fs := sbF G (j) ((L.length : Int))) C dJ5_ensureCapacityInternal_d00df_19 hX.ad (by omega) (oSB (s3)) oi7 (by omega) fJ5_15 rfl ?_
    refine r_aload_n C dJ5_ensureCapacityInternal_d00df_22 rfl ?_
    refine r_iload_n C dJ5_ensureCapacityInternal_d00df_23 rfl ?_
    refine r_callU (kk0 := 0) (As := [vI q]) C hR dJ5_ensureCapacityInternal_d00df_24 lJ5_104 uJ5_newCapacity_0f7a4 (sb_newCap C.lt hX ⟨⟨s1, s2⟩, s3, s4, s5, s6, s7, s8⟩ (q := q) (by omega)) hX.ad (by omega) (oSB (s3)) rfl rfl rfl (Nat.le_of_ble_eq_true rfl) (Nat.le_of_ble_eq_true rfl) (Nat.le_of_ble_eq_true rfl) (Nat.le_of_ble_eq_true rfl) (Nat.le_of_ble_eq_true rfl) (fun v N9 h9 q => ?_)
    obtain ⟨rfl, rfl, rfl⟩ := q
    refine r_aload_n C dJ5_ensureCapacityInternal_d00df_27 rfl ?_
    refine r_gf (k := 0) (sl := 1) (fs := sbF G (j) ((L.length : Int))) C dJ5_ensureCapacityInternal_d00df_28 hX.ad (by omega) (oSB (s3)) oi7 (by omega) fJ5_22 rfl ?_
    refine r_ishl C dJ5_ensureCapacityInternal_d00df_31 (shl0 _) ?_
    obtain ⟨n, hn⟩ : ∃ n : Nat, (n : Int) = (m : Int) + max (q - m) (m + 2) := ⟨(m + max (q.toNat - m) (m + 2)), by omega⟩
    refine r_top hn.symm ?_
    refine r_callS C M dJ5_ensureCapacityInternal_d00df_32 lJ5_108 wJ7_copyOf_9075b (sb_copyOf C.lt hX s2 s4 s7 (n := n) (by omega)) rfl rfl (Nat.le_of_ble_eq_true rfl) (Nat.le_of_ble_eq_true rfl) (Nat.le_of_ble_eq_true rfl) (Nat.le_of_ble_eq_true rfl) (Nat.le_of_ble_eq_true rfl) (fun E N9 h9 q => q.elim) (fun v N9 h9 q => ?_)
    obtain ⟨rfl, rfl, rfl⟩ := q
    refine r_pf (k := 0) (sl := 0) (fs := sbF G (j) ((L.length : Int))) (ty := (.array .byte)) C dJ5_ensureCapacityInternal_d00df_35 hX.ad (by omega) (oSB ((upH_n (by omega)).trans s3)) oi7 (by omega) fJ5_15 rfl td_aB rfl rfl (Nat.le_of_ble_eq_true rfl) ?_
    refine r_vret C M dJ5_ensureCapacityInternal_d00df_38 (Nat.le_of_ble_eq_true rfl) (Nat.le_of_ble_eq_true rfl) ⟨rfl, by omega, N, n, cpI f (fun _ => 0) 0 m, ⟨⟨by omega, by omega⟩, upH_e rfl, (upH_n (by omega)).trans (upH_e rfl), by omega, by omega, fun i => ?_, fun i hi => ?_⟩, by omega⟩
    · unfold cpI
      split
      · exact s7 _
      · exact ⟨Int.le_refl 0, (by decide : (0 : Int) ≤ 127)⟩
    · rw [cpI_in (by omega), Nat.sub_zero]
      exact s8 i hi
theorem sb_getBytes {l : Launch} (hlt : l.stackTraces = false) {G : GT} {N : Nat} {h : HT} {j m c : Nat} {f : Nat → Int} {i : Nat} (hi : i < 5) (hX : gZ G) (hj : j < N) (hh : h j = arI (gA G 2) m f) (hm : c + leS.getD i 0 ≤ m ∧ m ≤ 400) : EvH G l yJ0_getBytes_840e7 bJ0_getBytes_840e7 4 none 2 0 0 [.ref (gK G i), .ref (gB G + j), vI (c : Int), vI 0] (N) h (Pu none N (upH h j (arI (gA G 2) m (cpI (fun k => scI i k) f c (leS.getD i 0))))) noH := by
  refine ev_of hlt (by decide +kernel) (Nat.le_of_ble_eq_true rfl) (av1 rfl) (Or.inr trivial) (fun X hl hx C M => ?_)
  subst hl
  replace C : Cx G X "java/lang/String" bJ0_getBytes_840e7 := C
  have hR := M.room
  show AtH G X 0 0 0 [(0, .ref (gK G i)), (1, .ref (gB G + j)), (2, vI (c : Int)), (3, vI 0)] [] (N) h
  refine r_aload_n C dJ0_getBytes_840e7_0 rfl ?_
  refine r_callK (As := []) C M dJ0_getBytes_840e7_1 lJ0_335 wJ0_coder_7d493 (hv_coder C.lt hi) rfl rfl hi rfl (Nat.le_of_ble_eq_true rfl) (Nat.le_of_ble_eq_true rfl) (Nat.le_of_ble_eq_true rfl) (Nat.le_of_ble_eq_true rfl) (Nat.le_of_ble_eq_true rfl) (fun E N9 h9 q => q.elim) (fun v N9 h9 q => ?_)
  obtain ⟨rfl, rfl, rfl⟩ := q
  refine r_iload_n C dJ0_getBytes_840e7_4 rfl ?_
  refine r_icmpne (tgt := 28) C dJ0_getBytes_840e7_5 rfl ⟨by omega, by omega⟩ ⟨by omega, by omega⟩ (fun c => False.elim (by omega)) (fun c => ?_)
  clear c
  refine r_aload_n C dJ0_getBytes_840e7_8 rfl ?_
  refine r_kvalue C dJ0_getBytes_840e7_9 fJ0_9 hi ?_
  refine r_iconst C dJ0_getBytes_840e7_12 ?_
  refine r_aload_n C dJ0_getBytes_840e7_13 rfl ?_
  refine r_iload_n C dJ0_getBytes_840e7_14 rfl ?_
  refine r_iload_n C dJ0_getBytes_840e7_15 rfl ?_
  refine r_ishl C dJ0_getBytes_840e7_16 (shl0 _) ?_
  refine r_aload_n C dJ0_getBytes_840e7_17 rfl ?_
  refine r_kvalue C dJ0_getBytes_840e7_18 fJ0_9 hi ?_
  refine r_klen C dJ0_getBytes_840e7_21 hi ?_
  refine r_copy (k1 := j) (nS := leS.getD i 0) (n1 := m) (n := leS.getD i 0) (dp := c) (f := fun k => scI i k) (g := f) C hR dJ0_getBytes_840e7_22 lJ0_212 (SrcB.const C hi) hX.ad hj hh (Nat.le_refl _) (by omega) (by omega) (fun k hk => ⟨by have := sc_fit i hi k hk; omega, by have := sc_fit i hi k hk; omega⟩) (Nat.le_of_ble_eq_true rfl) (Nat.le_of_ble_eq_true rfl) (Nat.le_of_ble_eq_true rfl) ?_
  refine r_goto (tgt := 43) C dJ0_getBytes_840e7_25 rfl ?_
  exact r_vret C M dJ0_getBytes_840e7_43 (Nat.le_of_ble_eq_true rfl) (Nat.le_of_ble_eq_true rfl) ⟨rfl, rfl, rfl⟩
theorem sb_putStr {l : Launch} (hlt : l.stackTraces = false) {G : GT} {N : Nat} {h : HT} {L : List Int} {j m : Nat} {f : Nat → Int} (hX : gZ G) (S : SbC G N h L j m f) {i : Nat} (hi : i < 5) (hm : L.length + leS.getD i 0 ≤ m) : EvH G l yJ5_putStringAt_47b60 bJ5_putStringAt_47b60 3 none 3 0 0 [.ref (gB G + 0), vI (L.length : Int), .ref (gK G i)] (N) h (Pu none N (upH h j (arI (gA G 2) m (cpI (fun k => scI i k) f L.length (leS.getD i 0))))) noH := by
  refine ev_of hlt (by decide +kernel) (Nat.le_of_ble_eq_true rfl) (av1 rfl) (Or.inr trivial) (fun X hl hx C M => ?_)
  subst hl
  replace C : Cx G X "java/lang/AbstractStringBuilder" bJ5_putStringAt_47b60 := C
  have hR := M.room
  show AtH G X 0 0 0 [(0, .ref (gB G + 0)), (1, vI (L.length : Int)), (2, .ref (gK G i))] [] (N) h
  obtain ⟨⟨s1, s2⟩, s3, s4, s5, s6, s7, s8⟩ := S
  refine r_aload_n C dJ5_putStringAt_47b60_0 rfl ?_
  refine r_aload_n C dJ5_putStringAt_47b60_1 rfl ?_
  refine r_callU (kk0 := 0) (As := [.ref (gK G i)]) C hR dJ5_putStringAt_47b60_2 lJ5_397 uJ5_inflateIfNeededFor_a7421 (sb_infl C.lt hX ⟨⟨s1, s2⟩, s3, s4, s5, s6, s7, s8⟩ hi) hX.ad (by omega) (oSB (s3)) rfl rfl rfl (Nat.le_of_ble_eq_true rfl) (Nat.le_of_ble_eq_true rfl) (Nat.le_of_ble_eq_true rfl) (Nat.le_of_ble_eq_true rfl) (Nat.le_of_ble_eq_true rfl) (fun v N9 h9 q => ?_)
  obtain ⟨rfl, rfl, rfl⟩ := q
  refine r_aload_n C dJ5_putStringAt_47b60_5 rfl ?_
  refine r_aload_n C dJ5_putStringAt_47b60_6 rfl ?_
  refine r_gf (k := 0) (sl := 0) (fs := sbF G (j) ((L.length : Int))) C dJ5_putStringAt_47b60_7 hX.ad (by omega) (oSB (s3)) oi7 (by omega) fJ5_15 rfl ?_
  refine r_iload_n C dJ5_putStringAt_47b60_10 rfl ?_
  refine r_aload_n C dJ5_putStringAt_47b60_11 rfl ?_
  refine r_gf (k := 0) (sl := 1) (fs := sbF G (j) ((L.length : Int))) C dJ5_putStringAt_47b60_12 hX.ad (by omega) (oSB (s3)) oi7 (by omega) fJ5_22 rfl ?_
  refine r_callK (As := [.ref (gB G + j), vI (L.length : Int), vI 0]) C M dJ5_putStringAt_47b60_15 lJ5_399 wJ0_getBytes_840e7 (sb_getBytes C.lt hi hX s2 s4 ⟨hm, s6⟩) rfl rfl hi rfl (Nat.le_of_ble_eq_true rfl) (Nat.le_of_ble_eq_true rfl) (Nat.le_of_ble_eq_true rfl) (Nat.le_of_ble_eq_true rfl) (Nat.le_of_ble_eq_true rfl) (fun E N9 h9 q => q.elim) (fun v N9 h9 q => ?_)
  obtain ⟨rfl, rfl, rfl⟩ := q
  exact r_vret C M dJ5_putStringAt_47b60_18 (Nat.le_of_ble_eq_true rfl) (Nat.le_of_ble_eq_true rfl) ⟨rfl, rfl, rfl⟩
theorem sb_appS {l : Launch} (hlt : l.stackTraces = false) {G : GT} {N : Nat} {h : HT} {L : List Int} (hX : gZ G) (S : Sb G N h L) {i : Nat} (hi : i < 5) (hL : L.length ≤ 155 - leS.getD i 0 ∧ leS.getD i 0 ≤ 100) : EvH G l yJ5_append_cf1ce bJ5_append_cf1ce 3 (some (.object "java/lang/AbstractStringBuilder")) 5 1 400 [.ref (gB G + 0), .ref (gK G i)] (N) h (PB G (some (.ref (gB G + 0))) N (L ++ kL i)) noH := by
  refine ev_of hlt (by decide +kernel) (Nat.le_of_ble_eq_true rfl) (av1 rfl) (Or.inr trivial) (fun X hl hx C M => ?_)
  subst hl
  replace C : Cx G X "java/lang/AbstractStringBuilder" bJ5_append_cf1ce := C
  have hR := M.room
  show AtH G X 0 0 0 [(0, .ref (gB G + 0)), (1, .ref (gK G i))] [] (N) h
  obtain ⟨j, m, f, ⟨s1, s2⟩, s3, s4, s5, s6, s7, s8⟩ := S
  have hsl : slI i = ((leS.getD i 0 : Nat) : Int) := rfl
  refine r_aload_n C dJ5_append_cf1ce_0 rfl ?_
  refine r_ifnonnull (tgt := 9) C dJ5_append_cf1ce_1 rfl ?_
  refine r_aload_n C dJ5_append_cf1ce_9 rfl ?_
  refine r_callK (As := []) C M dJ5_append_cf1ce_10 lJ5_32 wJ0_length_8abf5 (hv_length C.lt hi) rfl rfl hi rfl (Nat.le_of_ble_eq_true rfl) (Nat.le_of_ble_eq_true rfl) (Nat.le_of_ble_eq_true rfl) (Nat.le_of_ble_eq_true rfl) (Nat.le_of_ble_eq_true rfl) (fun E N9 h9 q => q.elim) (fun v N9 h9 q => ?_)
  obtain ⟨rfl, rfl, rfl⟩ := q
  refine r_istore_n C dJ5_append_cf1ce_13 (by rw [hx]; decide) ?_
  refine r_aload_n C dJ5_append_cf1ce_14 rfl ?_
  refine r_aload_n C dJ5_append_cf1ce_15 rfl ?_
  refine r_gf (k := 0) (sl := 3) (fs := sbF G (j) ((L.length : Int))) C dJ5_append_cf1ce_16 hX.ad (by omega) (oSB (s3)) oi7 (by omega) fJ5_79 rfl ?_
  refine r_iload_n C dJ5_append_cf1ce_19 rfl ?_
  refine r_iadd C dJ5_append_cf1ce_20 ?_
  refine r_callU (kk0 := 0) (As := [vI ((L.length : Int) + slI i)]) C hR dJ5_append_cf1ce_21 lJ5_100 uJ5_ensureCapacityInternal_d00df (sb_ensure C.lt hX ⟨⟨s1, s2⟩, s3, s4, s5, s6, s7, s8⟩ (q := (L.length : Int) + slI i) (by have := hsl; omega)) hX.ad (by omega) (oSB (s3)) rfl rfl rfl (Nat.le_of_ble_eq_true rfl) (Nat.le_of_ble_eq_true rfl) (Nat.le_of_ble_eq_true rfl) (Nat.le_of_ble_eq_true rfl) (Nat.le_of_ble_eq_true rfl) (fun v N9 h9 q => ?_)
  obtain ⟨rfl, hN1, j1, m1, f1, ⟨⟨t1, t2⟩, t3, t4, t5, t6, t7, t8⟩, t9⟩ := q
  refine r_aload_n C dJ5_append_cf1ce_24 rfl ?_
  refine r_aload_n C dJ5_append_cf1ce_25 rfl ?_
  refine r_gf (k := 0) (sl := 3) (fs := sbF G (j1) ((L.length : Int))) C dJ5_append_cf1ce_26 hX.ad (by omega) (oSB (t3)) oi7 (by omega) fJ5_79 rfl ?_
  refine r_aload_n C dJ5_append_cf1ce_29 rfl ?_
  refine r_callU (kk0 := 0) (As := [vI (L.length : Int), .ref (gK G i)]) C hR dJ5_append_cf1ce_30 lJ5_208 uJ5_putStringAt_47b60 (sb_putStr C.lt hX ⟨⟨t1, t2⟩, t3, t4, t5, t6, t7, t8⟩ hi (by have := hsl; omega)) hX.ad (by omega) (oSB (t3)) rfl rfl rfl (Nat.le_of_ble_eq_true rfl) (Nat.le_of_ble_eq_true rfl) (Nat.le_of_ble_eq_true rfl) (Nat.le_of_ble_eq_true rfl) (Nat.le_of_ble_eq_true rfl) (fun v N9 h9 q => ?_)
  obtain ⟨rfl, rfl, rfl⟩ := q
  refine r_aload_n C dJ5_append_cf1ce_33 rfl ?_
  refine r_dup C dJ5_append_cf1ce_34 rfl ?_
  refine r_gf (k := 0) (sl := 3) (fs := sbF G (j1) ((L.length : Int))) C dJ5_append_cf1ce_35 hX.ad (by omega) (oSB ((upH_n (by omega)).trans t3)) oi7 (by omega) fJ5_79 rfl ?_
  refine r_iload_n C dJ5_append_cf1ce_38 rfl ?_
  refine r_iadd C dJ5_append_cf1ce_39 ?_
  refine r_pf (k := 0) (sl := 3) (fs := sbF G (j1) ((L.length : Int))) (ty := .int) C dJ5_append_cf1ce_40 hX.ad (by omega) (oSB ((upH_n (by omega)).trans t3)) oi7 (by omega) fJ5_79 rfl td_I rfl rfl (Nat.le_of_ble_eq_true rfl) ?_
  refine r_aload_n C dJ5_append_cf1ce_43 rfl ?_
  refine r_aret C M dJ5_append_cf1ce_44 (Or.inl ⟨_, rfl⟩) (Nat.le_of_ble_eq_true rfl) (Nat.le_of_ble_eq_true rfl) ⟨rfl, hN1, j1, m1, cpI (fun k => scI i k) f1 L.length (leS.getD i 0), ⟨t1, t2⟩, ?_, (upH_n (by omega)).trans (upH_e rfl), by rw [List.length_append, kL_len i hi]; have := hsl; omega, t6, fun k => ?_, fun k hk => ?_⟩
  · rw [upH_e rfl, List.length_append, kL_len i hi, Int.natCast_add]
    rfl
  · unfold cpI
    split
    · rename_i e
      exact sc_fit i hi _ (by omega)
    · exact t7 k
  · rw [List.length_append, kL_len i hi] at hk
    rw [getD_app]
    split
    · rename_i e
      rw [cpI_out (by omega)]
      exact t8 k e
    · rename_i e
      rw [cpI_in (by omega)]
      exact (kL_at i hi _ (by omega)).symm
theorem sb_appendS {l : Launch} (hlt : l.stackTraces = false) {G : GT} {N : Nat} {h : HT} {L : List Int} (hX : gZ G) (S : Sb G N h L) {i : Nat} (hi : i < 5) (hL : L.length ≤ 155 - leS.getD i 0 ∧ leS.getD i 0 ≤ 100) : EvH G l yJ4_append_15ec4 bJ4_append_15ec4 2 (some (.object "java/lang/StringBuilder")) 6 1 400 [.ref (gB G + 0), .ref (gK G i)] (N) h (PB G (some (.ref (gB G + 0))) N (L ++ kL i)) noH := by
  refine ev_of hlt (by decide +kernel) (Nat.le_of_ble_eq_true rfl) (av1 rfl) (Or.inr trivial) (fun X hl hx C M => ?_)
  subst hl
  replace C : Cx G X "java/lang/StringBuilder" bJ4_append_15ec4 := C
  have hR := M.room
  show AtH G X 0 0 0 [(0, .ref (gB G + 0)), (1, .ref (gK G i))] [] (N) h
  have S0 := S
  obtain ⟨j, m, f, ⟨s1, s2⟩, s3, s4, s5, s6, s7, s8⟩ := S
  refine r_aload_n C dJ4_append_15ec4_0 rfl ?_
  refine r_aload_n C dJ4_append_15ec4_1 rfl ?_
  refine r_callSU (kk0 := 0) (As := [.ref (gK G i)]) C hR dJ4_append_15ec4_2 lJ4_29 pJ5_append_cf1ce (sb_appS C.lt hX S0 hi hL) hX.ad (by omega) (oSB (s3)) rfl rfl rfl (Nat.le_of_ble_eq_true rfl) (Nat.le_of_ble_eq_true rfl) (Nat.le_of_ble_eq_true rfl) (Nat.le_of_ble_eq_true rfl) (Nat.le_of_ble_eq_true rfl) (fun v N9 h9 q => ?_)
  obtain ⟨rfl, hN1, S1⟩ := q
  refine r_pop C dJ4_append_15ec4_5 rfl ?_
  refine r_aload_n C dJ4_append_15ec4_6 rfl ?_
  exact r_aret C M dJ4_append_15ec4_7 (Or.inl ⟨_, rfl⟩) (Nat.le_of_ble_eq_true rfl) (Nat.le_of_ble_eq_true rfl) ⟨rfl, hN1, S1⟩
theorem sb_bridge {l : Launch} (hlt : l.stackTraces = false) {G : GT} {N : Nat} {h : HT} {L : List Int} (hX : gZ G) (S : Sb G N h L) {i : Nat} (hi : i < 5) (hL : L.length ≤ 155 - leS.getD i 0 ∧ leS.getD i 0 ≤ 100) : EvH G l yJ4_append_cf1ce bJ4_append_cf1ce 2 (some (.object "java/lang/AbstractStringBuilder")) 7 1 400 [.ref (gB G + 0), .ref (gK G i)] (N) h (PB G (some (.ref (gB G + 0))) N (L ++ kL i)) noH := by
  refine ev_of hlt (by decide +kernel) (Nat.le_of_ble_eq_true rfl) (av1 rfl) (Or.inr trivial) (fun X hl hx C M => ?_)
  subst hl
  replace C : Cx G X "java/lang/StringBuilder" bJ4_append_cf1ce := C
  have hR := M.room
  show AtH G X 0 0 0 [(0, .ref (gB G + 0)), (1, .ref (gK G i))] [] (N) h
  have S0 := S
  obtain ⟨j, m, f, ⟨s1, s2⟩, s3, s4, s5, s6, s7, s8⟩ := S
  refine r_aload_n C dJ4_append_cf1ce_0 rfl ?_
  refine r_aload_n C dJ4_append_cf1ce_1 rfl ?_
  refine r_callV (kk0 := 0) (As := [.ref (gK G i)]) C M dJ4_append_cf1ce_2 lJ4_23 wJ4_append_15ec4 (sb_appendS C.lt hX S0 hi hL) rfl rfl hX.ad (by omega) (oSB (s3)) rfl (Nat.le_of_ble_eq_true rfl) (Nat.le_of_ble_eq_true rfl) (Nat.le_of_ble_eq_true rfl) (Nat.le_of_ble_eq_true rfl) (Nat.le_of_ble_eq_true rfl) (fun E N9 h9 q => q.elim) (fun v N9 h9 q => ?_)
  obtain ⟨rfl, hN1, S1⟩ := q
  exact r_aret C M dJ4_append_cf1ce_5 (Or.inl ⟨_, rfl⟩) (Nat.le_of_ble_eq_true rfl) (Nat.le_of_ble_eq_true rfl) ⟨rfl, hN1, S1⟩
theorem sb_init5 {l : Launch} (hlt : l.stackTraces = false) {G : GT} {h : HT} (hX : gZ G) (h0 : h 0 = .inr (7, [.null, vI 0, vI 0, vI 0])) {i : Nat} (hi : i < 5) (hL : leS.getD i 0 ≤ 70) : EvC G l yJ5_init_a7421 bJ5_init_a7421 5 8 2 500 [.ref (gB G + 0), .ref (gK G i)] (1) h (PB G none 1 (kL i)) noH := by
  refine evc_of hlt (by decide +kernel) rfl (Nat.le_of_ble_eq_true rfl) (av1 rfl) (fun X hl hx C M hnm => ?_)
  subst hl
  replace C : Cx G X "java/lang/AbstractStringBuilder" bJ5_init_a7421 := C
  have hR := M.room
  show AtH G X 0 0 0 [(0, .ref (gB G + 0)), (1, .ref (gK G i))] [] (1) h
  have hsl : slI i = ((leS.getD i 0 : Nat) : Int) := rfl
  refine r_aload_n C dJ5_init_a7421_0 rfl ?_
  refine r_objInit C hR dJ5_init_a7421_1 lJ5_3 (Nat.le_of_ble_eq_true rfl) (Nat.le_of_ble_eq_true rfl) (Nat.le_of_ble_eq_true rfl) ?_
  refine r_aload_n C dJ5_init_a7421_4 rfl ?_
  refine r_callK (As := []) C M dJ5_init_a7421_5 lJ5_32 wJ0_length_8abf5 (hv_length C.lt hi) rfl rfl hi rfl (Nat.le_of_ble_eq_true rfl) (Nat.le_of_ble_eq_true rfl) (Nat.le_of_ble_eq_true rfl) (Nat.le_of_ble_eq_true rfl) (Nat.le_of_ble_eq_true rfl) (fun E N9 h9 q => q.elim) (fun v N9 h9 q => ?_)
  obtain ⟨rfl, rfl, rfl⟩ := q
  refine r_istore_n C dJ5_init_a7421_8 (by rw [hx]; decide) ?_
  refine r_iload_n C dJ5_init_a7421_9 rfl ?_
  refine r_ldci (z := 2147483631) C dJ5_init_a7421_10 kkJ5_38 rfl ?_
  refine r_icmpge (tgt := 22) C dJ5_init_a7421_12 rfl ⟨by have := hsl; omega, by have := hsl; omega⟩ ⟨by omega, by omega⟩ (fun c => False.elim (by omega)) (fun c => ?_)
  clear c
  refine r_iload_n C dJ5_init_a7421_15 rfl ?_
  refine r_bipush C dJ5_init_a7421_16 (by decide +kernel) ?_
  refine r_iadd C dJ5_init_a7421_18 ?_
  refine r_goto (tgt := 24) C dJ5_init_a7421_19 rfl ?_
  refine r_top (show slI i + 16 = ((leS.getD i 0 + 16 : Nat) : Int) by have := hsl; omega) ?_
  refine r_istore_n C dJ5_init_a7421_24 (by rw [hx]; decide) ?_
  refine r_aload_n C dJ5_init_a7421_25 rfl ?_
  refine r_callK (As := []) C M dJ5_init_a7421_26 lJ5_40 wJ0_coder_7d493 (hv_coder C.lt hi) rfl rfl hi rfl (Nat.le_of_ble_eq_true rfl) (Nat.le_of_ble_eq_true rfl) (Nat.le_of_ble_eq_true rfl) (Nat.le_of_ble_eq_true rfl) (Nat.le_of_ble_eq_true rfl) (fun E N9 h9 q => q.elim) (fun v N9 h9 q => ?_)
  obtain ⟨rfl, rfl, rfl⟩ := q
  refine r_istore C dJ5_init_a7421_29 (by rw [hx]; decide) ?_
  refine r_aload_n C dJ5_init_a7421_31 rfl ?_
  refine r_iload C dJ5_init_a7421_32 rfl ?_
  refine r_pf (k := 0) (sl := 1) (fs := [.null, vI 0, vI 0, vI 0]) (ty := .byte) C dJ5_init_a7421_34 hX.ad (by omega) h0 oi7 (by omega) fJ5_22 rfl td_B rfl rfl (Nat.le_of_ble_eq_true rfl) ?_
  refine r_aload_n C dJ5_init_a7421_37 rfl ?_
  refine r_iload C dJ5_init_a7421_38 rfl ?_
  refine r_ifne (tgt := 49) C dJ5_init_a7421_40 rfl ⟨by omega, by omega⟩ (fun c => False.elim (by omega)) (fun c => ?_)
  clear c
  refine r_iload_n C dJ5_init_a7421_43 rfl ?_
  refine r_newB (n := leS.getD i 0 + 16) hX C hR dJ5_init_a7421_44 (nn_neg (by omega)) (nn_clamp (by omega)) (by omega) (Nat.le_of_ble_eq_true rfl) (by show 0 + _ ≤ 500; omega) ?_
  refine r_goto (tgt := 53) C dJ5_init_a7421_46 rfl ?_
  refine r_pf (k := 0) (sl := 0) (fs := [.null, vI 0, vI 0, vI 0]) (ty := (.array .byte)) C dJ5_init_a7421_53 hX.ad (by omega) ((upH_n (by omega)).trans (upH_e rfl)) oi7 (by omega) fJ5_15 rfl td_aB rfl rfl (Nat.le_of_ble_eq_true rfl) ?_
  refine r_aload_n C dJ5_init_a7421_56 rfl ?_
  refine r_aload_n C dJ5_init_a7421_57 rfl ?_
  have S1 : Sb G 2 (upH (upH (upH h 0 (.inr (7, [.null, vI 0, vI 0, vI 0].set 1 (vI 0)))) 1 (arI (gA G 2) (leS.getD i 0 + 16) (fun _ => 0))) 0 (.inr (7, [.null, vI 0, vI 0, vI 0].set 0 (.ref (gB G + 1))))) [] := ⟨1, leS.getD i 0 + 16, fun _ => 0, ⟨by omega, by omega⟩, upH_e rfl, (upH_n (by omega)).trans (upH_e rfl), by show 0 ≤ _; omega, by omega, fun _ => ⟨Int.le_refl 0, (by decide : (0 : Int) ≤ 127)⟩, fun k hk => absurd hk (Nat.not_lt_zero k)⟩
  have S2 := S1
  obtain ⟨j, m, f, ⟨s1, s2⟩, s3, s4, s5, s6, s7, s8⟩ := S1
  refine r_callU (kk0 := 0) (As := [.ref (gK G i)]) C hR dJ5_init_a7421_58 lJ5_43 uJ4_append_cf1ce (sb_bridge C.lt hX S2 hi ⟨by show 0 ≤ _; omega, by omega⟩) hX.ad (by omega) s3 rfl rfl rfl (Nat.le_of_ble_eq_true rfl) (Nat.le_of_ble_eq_true rfl) (Nat.le_of_ble_eq_true rfl) (Nat.le_of_ble_eq_true rfl) (by show 0 + (leS.getD i 0 + 16) + 400 ≤ 500; omega) (fun v N9 h9 q => ?_)
  obtain ⟨rfl, hN1, S3⟩ := q
  refine r_pop C dJ5_init_a7421_61 rfl ?_
  exact r_vret C M dJ5_init_a7421_62 (Nat.le_of_ble_eq_true rfl) (by show 0 + (leS.getD i 0 + 16) + 400 ≤ 500; omega) ⟨rfl, by omega, S3⟩
theorem sb_init4 {l : Launch} (hlt : l.stackTraces = false) {G : GT} {h : HT} (hX : gZ G) (h0 : h 0 = .inr (7, [.null, vI 0, vI 0, vI 0])) {i : Nat} (hi : i < 5) (hL : leS.getD i 0 ≤ 70) : EvC G l yJ4_init_a7421 bJ4_init_a7421 2 9 2 500 [.ref (gB G + 0), .ref (gK G i)] (1) h (PB G none 1 (kL i)) noH := by
  refine evc_of hlt (by decide +kernel) rfl (Nat.le_of_ble_eq_true rfl) (av1 rfl) (fun X hl hx C M hnm => ?_)
  subst hl
  replace C : Cx G X "java/lang/StringBuilder" bJ4_init_a7421 := C
  have hR := M.room
  show AtH G X 0 0 0 [(0, .ref (gB G + 0)), (1, .ref (gK G i))] [] (1) h
  refine r_aload_n C dJ4_init_a7421_0 rfl ?_
  refine r_aload_n C dJ4_init_a7421_1 rfl ?_
  refine q_callI (As := [.ref (gK G i)]) C hR dJ4_init_a7421_2 lJ4_7 wJ5_init_a7421 (sb_init5 C.lt hX h0 hi hL) rfl rfl (Nat.le_of_ble_eq_true rfl) (Nat.le_of_ble_eq_true rfl) (Nat.le_of_ble_eq_true rfl) (Nat.le_of_ble_eq_true rfl) (Nat.le_of_ble_eq_true rfl) (fun E N9 h9 q => q.elim) (fun v N9 h9 q => ?_)
  obtain ⟨rfl, hN1, S3⟩ := q
  exact r_vret C M dJ4_init_a7421_5 (Nat.le_of_ble_eq_true rfl) (Nat.le_of_ble_eq_true rfl) ⟨rfl, hN1, S3⟩
theorem sb_appC {l : Launch} (hlt : l.stackTraces = false) {G : GT} {N : Nat} {h : HT} {L : List Int} (hX : gZ G) (S : Sb G N h L) {z : Int} (hz : 0 ≤ z ∧ z ≤ 127) (hL : L.length ≤ 154) : EvH G l yJ5_append_3fe6f bJ5_append_3fe6f 2 (some (.object "java/lang/AbstractStringBuilder")) 5 1 400 [.ref (gB G + 0), vI z] (N) h (PB G (some (.ref (gB G + 0))) N (L ++ [z])) noH := by
  refine ev_of hlt (by decide +kernel) (Nat.le_of_ble_eq_true rfl) (av1 rfl) (Or.inr trivial) (fun X hl hx C M => ?_)
  subst hl
  replace C : Cx G X "java/lang/AbstractStringBuilder" bJ5_append_3fe6f := C
  have hR := M.room
  show AtH G X 0 0 0 [(0, .ref (gB G + 0)), (1, vI z)] [] (N) h
  obtain ⟨j, m, f, ⟨s1, s2⟩, s3, s4, s5, s6, s7, s8⟩ := S
  refine r_aload_n C dJ5_append_3fe6f_0 rfl ?_
  refine r_aload_n C dJ5_append_3fe6f_1 rfl ?_
  refine r_gf (k := 0) (sl := 3) (fs := sbF G (j) ((L.length : Int))) C dJ5_append_3fe6f_2 hX.ad (by omega) (oSB (s3)) oi7 (by omega) fJ5_79 rfl ?_
  refine r_iconst C dJ5_append_3fe6f_5 ?_
  refine r_iadd C dJ5_append_3fe6f_6 ?_
  refine r_callU (kk0 := 0) (As := [vI ((L.length : Int) + 1)]) C hR dJ5_append_3fe6f_7 lJ5_100 uJ5_ensureCapacityInternal_d00df (sb_ensure C.lt hX ⟨⟨s1, s2⟩, s3, s4, s5, s6, s7, s8⟩ (q := (L.length : Int) + 1) (by omega)) hX.ad (by omega) (oSB (s3)) rfl rfl rfl (Nat.le_of_ble_eq_true rfl) (Nat.le_of_ble_eq_true rfl) (Nat.le_of_ble_eq_true rfl) (Nat.le_of_ble_eq_true rfl) (Nat.le_of_ble_eq_true rfl) (fun v N9 h9 q => ?_)
  obtain ⟨rfl, hN1, j1, m1, f1, ⟨⟨t1, t2⟩, t3, t4, t5, t6, t7, t8⟩, t9⟩ := q
  refine r_aload_n C dJ5_append_3fe6f_10 rfl ?_
  refine r_callU (kk0 := 0) (As := []) C hR dJ5_append_3fe6f_11 lJ5_83 uJ5_isLatin1_aae02 (sb_isLatin1 C.lt hX ⟨⟨t1, t2⟩, t3, t4, t5, t6, t7, t8⟩) hX.ad (by omega) (oSB (t3)) rfl rfl rfl (Nat.le_of_ble_eq_true rfl) (Nat.le_of_ble_eq_true rfl) (Nat.le_of_ble_eq_true rfl) (Nat.le_of_ble_eq_true rfl) (Nat.le_of_ble_eq_true rfl) (fun v N9 h9 q => ?_)
  obtain ⟨rfl, rfl, rfl⟩ := q
  refine r_ifeq (tgt := 45) C dJ5_append_3fe6f_14 rfl ⟨by omega, by omega⟩ (fun c => False.elim (by omega)) (fun c => ?_)
  clear c
  refine r_iload_n C dJ5_append_3fe6f_17 rfl ?_
  refine r_callS C M dJ5_append_3fe6f_18 lJ5_191 wJ1_canEncode_fc78d (sb_canEncode C.lt hz) rfl rfl (Nat.le_of_ble_eq_true rfl) (Nat.le_of_ble_eq_true rfl) (Nat.le_of_ble_eq_true rfl) (Nat.le_of_ble_eq_true rfl) (Nat.le_of_ble_eq_true rfl) (fun E N9 h9 q => q.elim) (fun v N9 h9 q => ?_)
  obtain ⟨rfl, rfl, rfl⟩ := q
  refine r_ifeq (tgt := 45) C dJ5_append_3fe6f_21 rfl ⟨by omega, by omega⟩ (fun c => False.elim (by omega)) (fun c => ?_)
  clear c
  refine r_aload_n C dJ5_append_3fe6f_24 rfl ?_
  refine r_gf (k := 0) (sl := 0) (fs := sbF G (j1) ((L.length : Int))) C dJ5_append_3fe6f_25 hX.ad (by omega) (oSB (t3)) oi7 (by omega) fJ5_15 rfl ?_
  refine r_aload_n C dJ5_append_3fe6f_28 rfl ?_
  refine r_dup C dJ5_append_3fe6f_29 rfl ?_
  refine r_gf (k := 0) (sl := 3) (fs := sbF G (j1) ((L.length : Int))) C dJ5_append_3fe6f_30 hX.ad (by omega) (oSB (t3)) oi7 (by omega) fJ5_79 rfl ?_
  refine r_dupx1 C dJ5_append_3fe6f_33 rfl rfl ?_
  refine r_iconst C dJ5_append_3fe6f_34 ?_
  refine r_iadd C dJ5_append_3fe6f_35 ?_
  refine r_pf (k := 0) (sl := 3) (fs := sbF G (j1) ((L.length : Int))) (ty := .int) C dJ5_append_3fe6f_36 hX.ad (by omega) (oSB (t3)) oi7 (by omega) fJ5_79 rfl td_I rfl rfl (Nat.le_of_ble_eq_true rfl) ?_
  refine r_iload_n C dJ5_append_3fe6f_39 rfl ?_
  refine r_i2b C dJ5_append_3fe6f_40 ?_
  refine r_bast (k := j1) (n := m1) (row := f1) C dJ5_append_3fe6f_41 hX.ad (by omega) ((upH_n (by omega)).trans t4) (by omega) (by omega) (by omega) ?_
  refine r_goto (tgt := 75) C dJ5_append_3fe6f_42 rfl ?_
  refine r_aload_n C dJ5_append_3fe6f_75 rfl ?_
  refine r_aret C M dJ5_append_3fe6f_76 (Or.inl ⟨_, rfl⟩) (Nat.le_of_ble_eq_true rfl) (Nat.le_of_ble_eq_true rfl) ⟨rfl, hN1, j1, m1, updI f1 ((L.length : Int)).toNat (wB (wB z)), ⟨t1, t2⟩, (upH_n (by omega)).trans ((upH_e rfl).trans (by rw [List.length_append, Int.natCast_add]; rfl)), upH_e rfl, by rw [List.length_append]; show L.length + 1 ≤ m1; omega, t6, fun k => ?_, fun k hk => ?_⟩
  · rw [wB_id hz, wB_id hz]
    unfold updI
    split
    · exact hz
    · exact t7 k
  · rw [List.length_append] at hk
    replace hk : k < L.length + 1 := hk
    rw [wB_id hz, wB_id hz, getD_app, Int.toNat_natCast]
    split
    · rename_i e
      rw [updI_n (by omega)]
      exact t8 k e
    · rename_i e
      obtain rfl : k = L.length := by omega
      rw [updI_s, Nat.sub_self]
      rfl
theorem sb_appendC {l : Launch} (hlt : l.stackTraces = false) {G : GT} {N : Nat} {h : HT} {L : List Int} (hX : gZ G) (S : Sb G N h L) {z : Int} (hz : 0 ≤ z ∧ z ≤ 127) (hL : L.length ≤ 154) : EvH G l yJ4_append_cf468 bJ4_append_cf468 2 (some (.object "java/lang/StringBuilder")) 6 1 400 [.ref (gB G + 0), vI z] (N) h (PB G (some (.ref (gB G + 0))) N (L ++ [z])) noH := by
  refine ev_of hlt (by decide +kernel) (Nat.le_of_ble_eq_true rfl) (av1 rfl) (Or.inr trivial) (fun X hl hx C M => ?_)
  subst hl
  replace C : Cx G X "java/lang/StringBuilder" bJ4_append_cf468 := C
  have hR := M.room
  show AtH G X 0 0 0 [(0, .ref (gB G + 0)), (1, vI z)] [] (N) h
  have S0 := S
  obtain ⟨j, m, f, ⟨s1, s2⟩, s3, s4, s5, s6, s7, s8⟩ := S
  refine r_aload_n C dJ4_append_cf468_0 rfl ?_
  refine r_iload_n C dJ4_append_cf468_1 rfl ?_
  refine r_callSU (kk0 := 0) (As := [vI z]) C hR dJ4_append_cf468_2 lJ4_50 pJ5_append_3fe6f (sb_appC C.lt hX S0 hz hL) hX.ad (by omega) (oSB (s3)) rfl rfl rfl (Nat.le_of_ble_eq_true rfl) (Nat.le_of_ble_eq_true rfl) (Nat.le_of_ble_eq_true rfl) (Nat.le_of_ble_eq_true rfl) (Nat.le_of_ble_eq_true rfl) (fun v N9 h9 q => ?_)
  obtain ⟨rfl, hN1, S1⟩ := q
  refine r_pop C dJ4_append_cf468_5 rfl ?_
  refine r_aload_n C dJ4_append_cf468_6 rfl ?_
  exact r_aret C M dJ4_append_cf468_7 (Or.inl ⟨_, rfl⟩) (Nat.le_of_ble_eq_true rfl) (Nat.le_of_ble_eq_true rfl) ⟨rfl, hN1, S1⟩
