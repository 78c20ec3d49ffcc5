/-! the text that setup gave: read as it stands outside; word and say -/
/-- where the text lies -/
def TXh (G : GT) (ta tv tl : Nat) (tf : Nat → Int) : Prop := gE G = [(ta, .inr (8, [.ref tv, vI 0, vI 0, vI 0])), (tv, arI (gA G 2) tl tf)]
theorem or_add {n c : Nat} (hc : c < 256) : nI (n * 256) ||| nI c = nI (n * 256 + c) := by
  apply Int32.toBitVec_inj.mp
  rw [Int32.toBitVec_or]
  show BitVec.ofNat 32 (n * 256) ||| BitVec.ofNat 32 c = BitVec.ofNat 32 (n * 256 + c)
  rw [← BitVec.ofNat_or]
  congr 1
  have h := Nat.two_pow_add_eq_or_of_lt (i := 8) (b := c) hc n
  rw [show 2 ^ 8 * n = n * 256 by omega] at h
  exact h.symm
theorem shl8 {n : Nat} (h : n * 256 < 4294967296) : iI (n : Int) <<< (iI 8 &&& 31) = iI ((n * 256 : Nat) : Int) := by
  rw [← iI_nI, ← iI_nI]
  exact pk_shlN (iI 8 &&& 31) 8 (by decide +kernel) (by omega)
theorem or8 {n c : Nat} (hc : c < 256) : iI ((n * 256 : Nat) : Int) ||| iI (c : Int) = iI ((n * 256 + c : Nat) : Int) := by
  rw [← iI_nI, ← iI_nI, ← iI_nI]
  exact or_add hc
def ch (tl : Nat) (tf : Nat → Int) (k : Nat) : Nat := if k < tl then (tf k).toNat else 32
def wdL (tl : Nat) (tf : Nat → Int) : Nat → Nat → Nat → Nat
  | 0, _, v => v
  | d + 1, k, v => wdL tl tf d (k + 1) (v * 256 + ch tl tf k)
def wdV (tl : Nat) (tf : Nat → Int) (k : Nat) : Int := (wdL tl tf 4 k 0 : Nat)
def bdW : Nat → Nat
  | 0 => 2147483648
  | 1 => 8388608
  | 2 => 32768
  | 3 => 128
  | _ => 1
def sayL (tl : Nat) (tf : Nat → Int) : Nat → Nat → VV → Option VV
  | 0, _, _ => none
  | n + 1, k, V => if k < tl then bd2 (f5_append V (wdV tl tf k) (wdV tl tf (k + 4)) (wdV tl tf (k + 8)) (wdV tl tf (k + 12)) (wdV tl tf (k + 16))) (fun _ W => sayL tl tf n (k + 20) W) else some V
def TF (tl : Nat) (tf : Nat → Int) : Prop := tl ≤ 400 ∧ ∀ i, i < tl → 0 ≤ tf i ∧ tf i ≤ 127
theorem ch_lt {tl : Nat} {tf : Nat → Int} (h : TF tl tf) (k : Nat) : ch tl tf k < 128 := by
  unfold ch
  split
  · rename_i q
    have := h.2 k q
    omega
  · omega
section
variable {G : GT} {X : CT} {cells slots pc N : Nat} {lv : List (Nat × Value)} {st : List Value} {h : HT} {V : VV} {own : String} {cc : ByteArray} {R0 : Room} {ta tv tl : Nat} {tf : Nat → Int}
theorem r_tval {idx : Nat} (hT : TXh G ta tv tl tf) (C : Cx G X own cc) (d : decode cc pc = .ok (.getfield idx, 3)) (hl : .fieldLink own idx "java/lang/String" "value" "[B" ∈ LW) (kk : AtH G X cells slots (pc + 3) lv (.ref tv :: st) N h) : AtH G X cells slots pc lv (.ref ta :: st) N h := by
  obtain ⟨p, l, e, R, s, m, args, below, meth, c, Q, nL⟩ := X
  intro H locs ls hW hS hls
  obtain ⟨hx, hb, hml, hown, hts, hK, -⟩ := C
  exact va_get (D := gD G) (ci := 8) (v := .ref tv) (C := R8) (T := T8) (N := 4) (fs := [.ref tv, vI 0, vI 0, vI 0]) hx hb hts oi8.2.1 hown hK hW.1.2.1 0 (by rw [hT]; rfl) oi8.1 0 (by omega) (hts _ hl) (fun _ h9 => h9) rfl d (kk H locs ls hW hS hls)
theorem r_tcoder {idx : Nat} (hT : TXh G ta tv tl tf) (C : Cx G X own cc) (d : decode cc pc = .ok (.getfield idx, 3)) (hl : .fieldLink own idx "java/lang/String" "coder" "B" ∈ LW) (kk : AtH G X cells slots (pc + 3) lv (vI 0 :: st) N h) : AtH G X cells slots pc lv (.ref ta :: st) N h := by
  obtain ⟨p, l, e, R, s, m, args, below, meth, c, Q, nL⟩ := X
  intro H locs ls hW hS hls
  obtain ⟨hx, hb, hml, hown, hts, hK, -⟩ := C
  exact va_get (D := gD G) (ci := 8) (v := vI 0) (C := R8) (T := T8) (N := 4) (fs := [.ref tv, vI 0, vI 0, vI 0]) hx hb hts oi8.2.1 hown hK hW.1.2.1 0 (by rw [hT]; rfl) oi8.1 1 (by omega) (hts _ hl) (fun _ h9 => h9) rfl d (kk H locs ls hW hS hls)
theorem r_tlen (hT : TXh G ta tv tl tf) (C : Cx G X own cc) (d : decode cc pc = .ok (.arraylength, 1)) (kk : AtH G X cells slots (pc + 1) lv (vI (tl : Int) :: st) N h) : AtH G X cells slots pc lv (.ref tv :: st) N h := by
  obtain ⟨p, l, e, R, s, m, args, below, meth, c, Q, nL⟩ := X
  intro H locs ls hW hS hls
  exact va_alen (D := gD G) (x := (tl, .inl (fun i => iI (tf i)))) (v := iI (tl : Int)) (cA := gA G 2) C.1 C.2.1 C.2.2.2.2.2.1 hW.1.2.1 1 2 (by rw [hT]; rfl) rfl (iI_nI tl) d (kk H locs ls hW hS hls)
theorem r_tbyte {j : Nat} (hT : TXh G ta tv tl tf) (hf : TF tl tf) (C : Cx G X own cc) (d : decode cc pc = .ok (.baload, 1)) (h1 : j < tl) (kk : AtH G X cells slots (pc + 1) lv (vI (tf j) :: st) N h) : AtH G X cells slots pc lv (vI (j : Int) :: .ref tv :: st) N h := by
  obtain ⟨p, l, e, R, s, m, args, below, meth, c, Q, nL⟩ := X
  intro H locs ls hW hS hls
  have h9 := hf.1
  refine va_bald (D := gD G) C.1 C.2.1 C.2.2.2.2.2.1 hW.1.2.1 1 2 (n := tl) (f := fun i => iI (tf i)) (by rw [hT]; rfl) rfl (iI_in (by omega) (by omega) (by omega)) d ?_
  rw [iI_clamp (by omega) ⟨by omega, by omega⟩, Int.toNat_natCast]
  exact kk H locs ls hW hS hls
/-- a call of the text's method -/
theorem cT {idx nLy n dy d0 mc0 ms0 : Nat} {y : MethodName} {ccy : ByteArray} {ret ret0 : Option FieldType} {As rest st0 : List Value} {z : Int} {o0 : Except String (Option Value)} {V0 : VV} (hT : TXh G ta tv tl tf) (C : Cx G X own cc) (M : MX G X d0 mc0 ms0 ret0 o0 V0) (d : decode cc pc = .ok (.invokevirtual idx, 3)) (wl : .methodLink own idx y ∈ LW) (wy : YV y ccy nLy ret n) (hci : y.cls = "java/lang/String") (hE : EvX G (xl X) y ccy nLy ret dy 0 0 (.ref ta :: As) V (.ok (some (vI z))) V) (hst : st0 = As.reverse ++ .ref ta :: rest) (hn : As.length = n) (hb : (Nat.ble (dy + 1) d0 && Nat.ble nLy 21 && Nat.ble (rest.map fun v => v.category).sum 8) = true) (hc : cells ≤ mc0) (hs : slots ≤ ms0)
    (kk : At G X cells slots (pc + 3) lv (vI z :: rest) V) : At G X cells slots pc lv st0 V := by
  simp only [Bool.and_eq_true] at hb
  have hcat := Nat.le_of_ble_eq_true hb.2
  have hd := Nat.le_of_ble_eq_true hb.1.1
  have hnl := Nat.le_of_ble_eq_true hb.1.2
  obtain ⟨p, l, e, R, s, m, args, below, meth, c, Q, nL⟩ := X
  intro H locs ls hW hS hls
  obtain ⟨hR, hQ, -, htab⟩ := M
  subst hR
  obtain ⟨hexec, hb, hml, hown, hts, hK, hF, hlocks, -, hbs⟩ := C
  obtain ⟨w1, w2, w3, w4, w5, w6⟩ := wy
  have hcb : CallB (rmD d0 mc0 ms0) s args own idx y ccy nLy ret (.code y ccy nLy ret :: LW) (rmD dy 0 0) 0 0 n := LW_callB hts wl w3 w4 w5 w6 (by show dy + 1 ≤ d0; exact hd) (by show 8 + (nLy + 11) + 40 * dy ≤ 40 * d0; omega)
  have hwat : va_at (gD G) cls7 (ta, .inr (8, [.ref tv, vI 0, vI 0, vI 0])) H := hW.1.2.1 0 _ (by rw [hT]; rfl)
  obtain ⟨r9, hr9, cell9, q1, q2, q3, -⟩ := hwat
  have hr : r9 = (R8, T8, 4) := Option.some.inj (hr9.symm.trans oi8.1)
  have hcls : s.vm.findClass y.cls = some cell9.cls := by
    have h1 := (hK.1 8 r9 hr9).2.1
    rw [hr] at h1
    rw [hci, q2]
    exact h1
  have hpre : PreV s H y.cls ta (PH G (.ref ta :: As) (gN G) (hV G V)) As := by
    refine ⟨PH_blind, ⟨cell9, q1, by rw [q3]; rfl, hcls⟩, fun U hU hWm => ⟨rfl, by rw [hU]; exact hW, va_K.moved hWm.alike hK, ?_⟩⟩
    rw [hU]
    exact (hF.kept (fun a h1 h2 => hS.2.1 a h1 h2)).moved hWm
  have hrun := vx_runV (H := H) (locs := locs) (cells := cells) (slots := slots) (p := p) (e := e) (below := below) (meth := meth) (rest := rest) (As := As) (b := ta) (g := F0 m pc ls st0) ⟨hexec, hb, hml, hown, hts⟩ hE ⟨hcb, hts _ w1, hts _ w2⟩ hpre rfl hn hls.1 hst (lv_room hcat) d ⟨hc, hs⟩
  refine run_on hrun hS (fun E N' h' hp => by obtain ⟨-, V', -, q, -⟩ := hp; cases q) (fun v N' h' H1 locs1 hp hWd hS1 => ?_)
  obtain ⟨p1, V', p2, p3, p4⟩ := hp
  subst p1; subst p2; cases p3; subst p4
  exact kk H1 locs1 ls hWd hS1 hls
end
theorem tcat {z : Int} (h : 0 ≤ z ∧ z ≤ 127) : aI z 255 = z ∧ ((iI z).toUInt32 % 65536).toInt32 = iI z ∧ narrow .char (.int (iI z)) = .int (iI z) := by
  have key : ∀ n : Nat, n < 128 → aI (n : Int) 255 = (n : Int) ∧ ((iI (n : Int)).toUInt32 % 65536).toInt32 = iI (n : Int) ∧ narrow .char (.int (iI (n : Int))) = .int (iI (n : Int)) := by decide +kernel
  have h1 := key z.toNat (by omega)
  rwa [Int.toNat_of_nonneg h.1] at h1
theorem et_coder {G : GT} {l : Launch} {V : VV} (hlt : l.stackTraces = false) {ta tv tl : Nat} {tf : Nat → Int} (hT : TXh G ta tv tl tf) : EvX G l yJ0_coder_7d493 bJ0_coder_7d493 1 (some .byte) 0 0 0 [.ref ta] V (.ok (some (vI 0))) V := by
  refine ev_w hlt (by decide +kernel) rfl rfl (fun X hl hx C M => ?_)
  subst hl
  replace C : Cx G X "java/lang/String" bJ0_coder_7d493 := C
  show At G X 0 0 0 [(0, .ref ta)] [] V
  refine r_getsC C dJ0_coder_7d493_0 fJ0_38 ?_
  refine r_ifeq (tgt := 13) C dJ0_coder_7d493_3 rfl ⟨by omega, by omega⟩ (fun c => False.elim (by omega)) (fun c => ?_)
  clear c
  refine r_aload_n C dJ0_coder_7d493_6 rfl ?_
  refine r_tcoder hT C dJ0_coder_7d493_7 fJ0_15 ?_
  refine r_goto (tgt := 14) C dJ0_coder_7d493_10 rfl ?_
  exact r_iret C M dJ0_coder_7d493_14 rfl (Nat.le_refl _) (Nat.le_refl _) ⟨rfl, V, rfl, rfl, rfl⟩
theorem et_isLatin1 {G : GT} {l : Launch} {V : VV} (hlt : l.stackTraces = false) {ta tv tl : Nat} {tf : Nat → Int} (hT : TXh G ta tv tl tf) : EvX G l yJ0_isLatin1_aae02 bJ0_isLatin1_aae02 1 (some .boolean) 0 0 0 [.ref ta] V (.ok (some (vI 1))) V := by
  refine ev_w hlt (by decide +kernel) rfl rfl (fun X hl hx C M => ?_)
  subst hl
  replace C : Cx G X "java/lang/String" bJ0_isLatin1_aae02 := C
  show At G X 0 0 0 [(0, .ref ta)] [] V
  refine r_getsC C dJ0_isLatin1_aae02_0 fJ0_38 ?_
  refine r_ifeq (tgt := 17) C dJ0_isLatin1_aae02_3 rfl ⟨by omega, by omega⟩ (fun c => False.elim (by omega)) (fun c => ?_)
  clear c
  refine r_aload_n C dJ0_isLatin1_aae02_6 rfl ?_
  refine r_tcoder hT C dJ0_isLatin1_aae02_7 fJ0_15 ?_
  refine r_ifne (tgt := 17) C dJ0_isLatin1_aae02_10 rfl ⟨by omega, by omega⟩ (fun c => False.elim (by omega)) (fun c => ?_)
  clear c
  refine r_iconst C dJ0_isLatin1_aae02_13 ?_
  refine r_goto (tgt := 18) C dJ0_isLatin1_aae02_14 rfl ?_
  exact r_iret C M dJ0_isLatin1_aae02_18 rfl (Nat.le_refl _) (Nat.le_refl _) ⟨rfl, V, rfl, rfl, rfl⟩
theorem et_length {G : GT} {l : Launch} {V : VV} (hlt : l.stackTraces = false) {ta tv tl : Nat} {tf : Nat → Int} (hT : TXh G ta tv tl tf) : EvX G l yJ0_length_8abf5 bJ0_length_8abf5 1 (some .int) 1 0 0 [.ref ta] V (.ok (some (vI (tl : Int)))) V := by
  refine ev_w hlt (by decide +kernel) rfl rfl (fun X hl hx C M => ?_)
  subst hl
  replace C : Cx G X "java/lang/String" bJ0_length_8abf5 := C
  show At G X 0 0 0 [(0, .ref ta)] [] V
  refine r_aload_n C dJ0_length_8abf5_0 rfl ?_
  refine r_tval hT C dJ0_length_8abf5_1 fJ0_9 ?_
  refine r_tlen hT C dJ0_length_8abf5_4 ?_
  refine r_aload_n C dJ0_length_8abf5_5 rfl ?_
  refine cT (As := []) hT C M dJ0_length_8abf5_6 lJ0_335 wJ0_coder_7d493 rfl (et_coder C.lt hT) rfl rfl rfl (Nat.le_refl _) (Nat.le_refl _) ?_
  refine r_ishr C dJ0_length_8abf5_9 (shr0 _) ?_
  exact r_iret C M dJ0_length_8abf5_10 rfl (Nat.le_refl _) (Nat.le_refl _) ⟨rfl, V, rfl, rfl, rfl⟩
theorem et_charAt1 {G : GT} {l : Launch} {V : VV} (hlt : l.stackTraces = false) {ta tv tl : Nat} {tf : Nat → Int} (hT : TXh G ta tv tl tf) (hf : TF tl tf) {j : Nat} (hj : j < tl) : EvX G l yJ1_charAt_3b067 bJ1_charAt_3b067 2 (some .char) 2 0 0 [.ref tv, vI (j : Int)] V (.ok (some (vI (tf j)))) V := by
  refine ev_w hlt (by decide +kernel) rfl rfl (fun X hl hx C M => ?_)
  subst hl
  replace C : Cx G X "java/lang/StringLatin1" bJ1_charAt_3b067 := C
  show At G X 0 0 0 [(0, .ref tv), (1, vI (j : Int))] [] V
  refine r_iload_n C dJ1_charAt_3b067_0 rfl ?_
  refine r_aload_n C dJ1_charAt_3b067_1 rfl ?_
  refine r_tlen hT C dJ1_charAt_3b067_2 ?_
  have h9 := hf.1
  refine cS2_v C M dJ1_charAt_3b067_3 lJ1_9 wJ0_checkIndex_df160 (ev_chk0 C.lt ⟨by omega, by omega⟩ (by omega)) rfl (Nat.le_refl _) (Nat.le_refl _) ?_
  refine r_aload_n C dJ1_charAt_3b067_6 rfl ?_
  refine r_iload_n C dJ1_charAt_3b067_7 rfl ?_
  refine r_tbyte hT hf C dJ1_charAt_3b067_8 hj ?_
  refine r_sipush C dJ1_charAt_3b067_9 (by decide +kernel) ?_
  refine r_iand C dJ1_charAt_3b067_12 (iI_of _) ?_
  refine r_top (tcat (hf.2 j hj)).1 ?_
  refine r_i2c C dJ1_charAt_3b067_13 (tcat (hf.2 j hj)).2.1 ?_
  exact r_iret C M dJ1_charAt_3b067_14 (tcat (hf.2 j hj)).2.2 (Nat.le_refl _) (Nat.le_refl _) ⟨rfl, V, rfl, rfl, rfl⟩
theorem et_charAt {G : GT} {l : Launch} {V : VV} (hlt : l.stackTraces = false) {ta tv tl : Nat} {tf : Nat → Int} (hT : TXh G ta tv tl tf) (hf : TF tl tf) {j : Nat} (hj : j < tl) : EvX G l yJ0_charAt_5068e bJ0_charAt_5068e 2 (some .char) 3 0 0 [.ref ta, vI (j : Int)] V (.ok (some (vI (tf j)))) V := by
  refine ev_w hlt (by decide +kernel) rfl rfl (fun X hl hx C M => ?_)
  subst hl
  replace C : Cx G X "java/lang/String" bJ0_charAt_5068e := C
  show At G X 0 0 0 [(0, .ref ta), (1, vI (j : Int))] [] V
  refine r_aload_n C dJ0_charAt_5068e_0 rfl ?_
  refine cT (As := []) hT C M dJ0_charAt_5068e_1 lJ0_492 wJ0_isLatin1_aae02 rfl (et_isLatin1 C.lt hT) rfl rfl rfl (Nat.le_refl _) (Nat.le_refl _) ?_
  refine r_ifeq (tgt := 16) C dJ0_charAt_5068e_4 rfl ⟨by omega, by omega⟩ (fun c => False.elim (by omega)) (fun c => ?_)
  clear c
  refine r_aload_n C dJ0_charAt_5068e_7 rfl ?_
  refine r_tval hT C dJ0_charAt_5068e_8 fJ0_9 ?_
  refine r_iload_n C dJ0_charAt_5068e_11 rfl ?_
  refine cS2_i C M dJ0_charAt_5068e_12 lJ0_495 wJ1_charAt_3b067 (et_charAt1 C.lt hT hf hj) rfl (Nat.le_refl _) (Nat.le_refl _) ?_
  exact r_iret C M dJ0_charAt_5068e_15 (tcat (hf.2 j hj)).2.2 (Nat.le_refl _) (Nat.le_refl _) ⟨rfl, V, rfl, rfl, rfl⟩
theorem lp_word {G : GT} {X : CT} {V : VV} {ta tv tl at0 : Nat} {tf : Nat → Int} {r : Int} (hT : TXh G ta tv tl tf) (hf : TF tl tf) (ha : at0 ≤ 500) (hx : xN X = 4) (C : Cx G X "ChannelScheduleLaw" bL_word) (M : MX G X 4 0 0 (some .int) (.ok (some (vI r))) V) : ∀ (d k v : Nat), d ≤ 4 → k + d = at0 + 4 → v < bdW d → r = ((wdL tl tf d k v : Nat) : Int) → At G X 0 0 4 [(0, .ref ta), (1, vI (at0 : Int)), (2, vI (v : Int)), (3, vI (k : Int))] [] V := by
  have h9 := hf.1
  intro d
  induction d with
  | zero =>
    intro k v _ hk hv hr
    refine r_iload_n C dL_word_4 rfl ?_
    refine r_iload_n C dL_word_5 rfl ?_
    refine r_iconst C dL_word_6 ?_
    refine r_iadd C dL_word_7 ?_
    refine r_icmpge (tgt := 41) C dL_word_8 rfl ⟨by omega, by omega⟩ ⟨by omega, by omega⟩ (fun c => ?_) (fun c => False.elim (by omega))
    clear c
    refine r_iload_n C dL_word_41 rfl ?_
    exact r_iret C M dL_word_42 rfl (Nat.le_refl _) (Nat.le_refl _) ⟨rfl, V, rfl, by rw [hr]; rfl, rfl⟩
  | succ d ih =>
    intro k v hd hk hv hr
    have hc9 := ch_lt hf k
    have hv2 : v * 256 + ch tl tf k < bdW d := by
      rcases (show d = 0 ∨ d = 1 ∨ d = 2 ∨ d = 3 by omega) with e | e | e | e <;> subst e
      · replace hv : v < 8388608 := hv
        show _ < 2147483648
        omega
      · replace hv : v < 32768 := hv
        show _ < 8388608
        omega
      · replace hv : v < 128 := hv
        show _ < 32768
        omega
      · replace hv : v < 1 := hv
        show _ < 128
        omega
    have hv3 : bdW d ≤ 2147483648 := by
      rcases (show d = 0 ∨ d = 1 ∨ d = 2 ∨ d = 3 by omega) with e | e | e | e <;> subst e <;> decide
    refine r_iload_n C dL_word_4 rfl ?_
    refine r_iload_n C dL_word_5 rfl ?_
    refine r_iconst C dL_word_6 ?_
    refine r_iadd C dL_word_7 ?_
    refine r_icmpge (tgt := 41) C dL_word_8 rfl ⟨by omega, by omega⟩ ⟨by omega, by omega⟩ (fun c => False.elim (by omega)) (fun c => ?_)
    clear c
    refine r_iload_n C dL_word_11 rfl ?_
    refine r_bipush C dL_word_12 (by decide +kernel) ?_
    refine r_ishl C dL_word_14 (shl8 (Nat.lt_of_le_of_lt (Nat.le_add_right _ _) (Nat.lt_of_lt_of_le hv2 (Nat.le_trans hv3 (by decide))))) ?_
    refine r_iload_n C dL_word_15 rfl ?_
    refine r_aload_n C dL_word_16 rfl ?_
    refine cT (As := []) hT C M dL_word_17 lL_8 wJ0_length_8abf5 rfl (et_length C.lt hT) rfl rfl rfl (Nat.le_refl _) (Nat.le_refl _) ?_
    suffices J : At G X 0 0 33 [(0, .ref ta), (1, vI (at0 : Int)), (2, vI (v : Int)), (3, vI (k : Int))] [vI (ch tl tf k : Int), vI ((v * 256 : Nat) : Int)] V by
      refine r_icmpge (tgt := 31) C dL_word_20 rfl ⟨by omega, by omega⟩ ⟨by omega, by omega⟩ (fun c => ?_) (fun c => ?_)
      · refine r_bipush C dL_word_31 (by decide +kernel) ?_
        have e : ch tl tf k = 32 := if_neg (by omega)
        rw [e] at J
        exact J
      · refine r_aload_n C dL_word_23 rfl ?_
        refine r_iload_n C dL_word_24 rfl ?_
        refine cT (As := [vI (k : Int)]) hT C M dL_word_25 lL_14 wJ0_charAt_5068e rfl (et_charAt C.lt hT hf (j := k) (by omega)) rfl rfl rfl (Nat.le_refl _) (Nat.le_refl _) ?_
        refine r_goto (tgt := 33) C dL_word_28 rfl ?_
        have e : ((ch tl tf k : Nat) : Int) = tf k := by
          unfold ch
          rw [if_pos (by omega), Int.toNat_of_nonneg (hf.2 k (by omega)).1]
        rw [e] at J
        exact J
    refine r_ior C dL_word_33 (or8 (by omega)) ?_
    refine r_istore_n C dL_word_34 (by rw [hx]; decide) ?_
    refine r_iinc C dL_word_35 rfl (by rw [hx]; decide) ?_
    refine r_goto (tgt := 4) C dL_word_38 rfl ?_
    refine AtH.sw (ih (k + 1) _ (by omega) (by omega) hv2 hr) ⟨rfl, rfl, rfl, rfl, trivial⟩
theorem et_word {G : GT} {l : Launch} {V : VV} (hlt : l.stackTraces = false) {ta tv tl : Nat} {tf : Nat → Int} (hT : TXh G ta tv tl tf) (hf : TF tl tf) {at0 : Nat} (ha : at0 ≤ 500) : EvX G l yL_word bL_word 4 (some .int) 4 0 0 [.ref ta, vI (at0 : Int)] V (.ok (some (vI (wdV tl tf at0)))) V := by
  refine ev_w hlt (by decide +kernel) rfl rfl (fun X hl hx C M => ?_)
  subst hl
  replace C : Cx G X "ChannelScheduleLaw" bL_word := C
  show At G X 0 0 0 [(0, .ref ta), (1, vI (at0 : Int))] [] V
  refine r_iconst C dL_word_0 ?_
  refine r_istore_n C dL_word_1 (by rw [hx]; decide) ?_
  refine r_iload_n C dL_word_2 rfl ?_
  refine r_istore_n C dL_word_3 (by rw [hx]; decide) ?_
  exact AtH.sw (lp_word hT hf ha hx C M 4 at0 0 (by omega) rfl (by decide) rfl) ⟨rfl, rfl, rfl, rfl, trivial⟩
theorem lp_say {G : GT} {X : CT} {V2 V3 : VV} {ta tv tl : Nat} {tf : Nat → Int} (hN : 148 ≤ gN G) (hT : TXh G ta tv tl tf) (hf : TF tl tf) (hx : xN X = 3) (C : Cx G X "ChannelScheduleLaw" bL_say) (M : MX G X 6 0 0 (some .boolean) (.ok (some (vI 1))) V3) (h3 : f5_truncate V2 (tl : Int) = some ((tl : Int), V3)) : ∀ (n k : Nat) (V : VV), k ≤ tl + 20 → sayL tl tf n k V = some V2 → At G X 0 0 8 [(0, .ref (gB G + 0)), (1, .ref ta), (2, vI (k : Int))] [] V := by
  have h9 := hf.1
  intro n
  induction n with
  | zero =>
    intro k V hk h
    exact nomatch h
  | succ n ih =>
    intro k V hk h
    rw [sayL] at h
    refine r_iload_n C dL_say_8 rfl ?_
    refine r_aload_n C dL_say_9 rfl ?_
    refine cT (As := []) hT C M dL_say_10 lL_8 wJ0_length_8abf5 rfl (et_length C.lt hT) rfl rfl rfl (Nat.le_refl _) (Nat.le_refl _) ?_
    refine r_icmpge (tgt := 63) C dL_say_13 rfl ⟨by omega, by omega⟩ ⟨by omega, by omega⟩ (fun c => ?_) (fun c => ?_)
    · rw [if_neg (by omega)] at h
      cases h
      refine r_aload_n C dL_say_63 rfl ?_
      refine r_aload_n C dL_say_64 rfl ?_
      refine cT (As := []) hT C M dL_say_65 lL_8 wJ0_length_8abf5 rfl (et_length C.lt hT) rfl rfl rfl (Nat.le_refl _) (Nat.le_refl _) ?_
      refine cV1_i C M dL_say_68 lL_18 w5_truncate (rc_main hN) (ev5_truncate C.lt hN h3) rfl (Nat.le_refl _) (Nat.le_refl _) ?_
      refine r_aload_n C dL_say_71 rfl ?_
      refine cT (As := []) hT C M dL_say_72 lL_8 wJ0_length_8abf5 rfl (et_length C.lt hT) rfl rfl rfl (Nat.le_refl _) (Nat.le_refl _) ?_
      refine r_icmpne (tgt := 82) C dL_say_75 rfl ⟨by omega, by omega⟩ ⟨by omega, by omega⟩ (fun c => False.elim (absurd rfl c)) (fun c => ?_)
      clear c
      refine r_iconst C dL_say_78 ?_
      refine r_goto (tgt := 83) C dL_say_79 rfl ?_
      exact r_iret C M dL_say_83 rfl (Nat.le_refl _) (Nat.le_refl _) ⟨rfl, V3, rfl, rfl, rfl⟩
    · rw [if_pos (by omega)] at h
      obtain ⟨r, W, h1, h⟩ := bd2_of h
      refine r_aload_n C dL_say_16 rfl ?_
      refine r_aload_n C dL_say_17 rfl ?_
      refine r_iload_n C dL_say_18 rfl ?_
      refine cS2_i C M dL_say_19 lL_24 wL_word (et_word C.lt hT hf (by omega)) rfl (Nat.le_refl _) (Nat.le_refl _) ?_
      refine r_aload_n C dL_say_22 rfl ?_
      refine r_iload_n C dL_say_23 rfl ?_
      refine r_iconst C dL_say_24 ?_
      refine r_iadd C dL_say_25 ?_
      refine r_top (show (k : Int) + 4 = ((k + 4 : Nat) : Int) by omega) ?_
      refine cS2_i C M dL_say_26 lL_24 wL_word (et_word C.lt hT hf (by omega)) rfl (Nat.le_refl _) (Nat.le_refl _) ?_
      refine r_aload_n C dL_say_29 rfl ?_
      refine r_iload_n C dL_say_30 rfl ?_
      refine r_bipush C dL_say_31 (by decide +kernel) ?_
      refine r_iadd C dL_say_33 ?_
      refine r_top (show (k : Int) + 8 = ((k + 8 : Nat) : Int) by omega) ?_
      refine cS2_i C M dL_say_34 lL_24 wL_word (et_word C.lt hT hf (by omega)) rfl (Nat.le_refl _) (Nat.le_refl _) ?_
      refine r_aload_n C dL_say_37 rfl ?_
      refine r_iload_n C dL_say_38 rfl ?_
      refine r_bipush C dL_say_39 (by decide +kernel) ?_
      refine r_iadd C dL_say_41 ?_
      refine r_top (show (k : Int) + 12 = ((k + 12 : Nat) : Int) by omega) ?_
      refine cS2_i C M dL_say_42 lL_24 wL_word (et_word C.lt hT hf (by omega)) rfl (Nat.le_refl _) (Nat.le_refl _) ?_
      refine r_aload_n C dL_say_45 rfl ?_
      refine r_iload_n C dL_say_46 rfl ?_
      refine r_bipush C dL_say_47 (by decide +kernel) ?_
      refine r_iadd C dL_say_49 ?_
      refine r_top (show (k : Int) + 16 = ((k + 16 : Nat) : Int) by omega) ?_
      refine cS2_i C M dL_say_50 lL_24 wL_word (et_word C.lt hT hf (by omega)) rfl (Nat.le_refl _) (Nat.le_refl _) ?_
      refine cV5_i C M dL_say_53 lL_30 w5_append (rc_main hN) (ev5_append C.lt hN h1) rfl (Nat.le_refl _) (Nat.le_refl _) ?_
      refine r_pop C dL_say_56 rfl ?_
      refine r_iinc C dL_say_57 rfl (by rw [hx]; decide) ?_
      refine r_goto (tgt := 8) C dL_say_60 rfl ?_
      refine AtH.sw (ih (k + 20) W (by omega) h) ⟨rfl, rfl, rfl, trivial⟩
theorem et_say {G : GT} {l : Launch} {V : VV} (hlt : l.stackTraces = false) {ta tv tl : Nat} {tf : Nat → Int} (hT : TXh G ta tv tl tf) (hf : TF tl tf) {V1 V2 V3 : VV} {r0 : Int} {n : Nat} (hN : 148 ≤ gN G) (h1 : f5_truncate V 0 = some (r0, V1)) (h2 : sayL tl tf n 0 V1 = some V2) (h3 : f5_truncate V2 (tl : Int) = some ((tl : Int), V3)) : EvX G l yL_say bL_say 3 (some .boolean) 6 0 0 [.ref (gB G + 0), .ref ta] V (.ok (some (vI 1))) V3 := by
  refine ev_w hlt (by decide +kernel) rfl rfl (fun X hl hx C M => ?_)
  subst hl
  replace C : Cx G X "ChannelScheduleLaw" bL_say := C
  show At G X 0 0 0 [(0, .ref (gB G + 0)), (1, .ref ta)] [] V
  refine r_aload_n C dL_say_0 rfl ?_
  refine r_iconst C dL_say_1 ?_
  refine cV1_i C M dL_say_2 lL_18 w5_truncate (rc_main hN) (ev5_truncate C.lt hN h1) rfl (Nat.le_refl _) (Nat.le_refl _) ?_
  refine r_pop C dL_say_5 rfl ?_
  refine r_iconst C dL_say_6 ?_
  refine r_istore_n C dL_say_7 (by rw [hx]; decide) ?_
  exact AtH.sw (lp_say hN hT hf hx C M h3 n 0 V1 (by omega) h2) ⟨rfl, rfl, rfl, trivial⟩
