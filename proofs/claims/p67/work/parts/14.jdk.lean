/-! contracts of the JDK's String members over the constants, of the helpers that throw; what walk.py's prints need besides -/
theorem av1 {av : List Value} : ∀ {i : Nat}, (av.all fun v => v.category == 1) = true → ∀ q ∈ lv_args i av, q.2.category = 1 := by
  induction av with
  | nil => intro i _ q hq; exact absurd hq List.not_mem_nil
  | cons a l ih =>
    intro i h q hq
    rw [List.all_cons, Bool.and_eq_true] at h
    rw [lv_args] at hq
    rcases List.mem_cons.mp hq with e | e
    · rw [e]; simpa using h.1
    · exact ih h.2 q e
theorem ev_w {G : GT} {l : Launch} {y : MethodName} {cc : ByteArray} {nL : Nat} {ret : Option FieldType} {d mc ms : Nat} {av : List Value} {V : VV} {o : Except String (Option Value)} {V1 : VV} (hlt : l.stackTraces = false) (hy : plainName y.cls = true) (hlen : Nat.ble (lg_sl av).length nL = true) (hav : (av.all fun v => v.category == 1) = true)
    (body : ∀ X : CT, xl X = l → xN X = nL → Cx G X y.cls cc → MX G X d mc ms ret o V1 → At G X 0 0 0 (lv_args 0 av) [] V) : EvX G l y cc nL ret d mc ms av V o V1 :=
  ev_of hlt hy (Nat.le_of_ble_eq_true hlen) (av1 hav) (Or.inr trivial) body
theorem bdl_of {α β : Type} {o : Option (Sum β α)} {f : α → Option β} {r : β} (h : bdl o f = some r) : ∃ s, o = some s ∧ (∀ q, s = .inl q → some q = some r) ∧ ∀ a, s = .inr a → f a = some r := by
  obtain ⟨s, h1, h2⟩ := Option.bind_eq_some_iff.mp h
  refine ⟨s, h1, fun q e => ?_, fun a e => ?_⟩
  · subst e; exact h2
  · subst e; exact h2
theorem p0 : (0 : Nat) < 10 := by decide
theorem p1 : (1 : Nat) < 10 := by decide
def slI (k : Nat) : Int := ((leS.getD k 0 : Nat) : Int)
def scI (k j : Nat) : Int := (((bySn.getD k []).getD j 0 : Nat) : Int)
theorem slI_rg : ∀ i, i < 5 → 0 < slI i ∧ slI i ≤ 100 ∧ sI (slI i) 0 = slI i := by decide +kernel
section
variable {G : GT} {X : CT} {cells slots pc N : Nat} {lv : List (Nat × Value)} {st : List Value} {h : HT} {own : String} {cc : ByteArray}
theorem r_getsC {idx : Nat} (C : Cx G X own cc) (d : decode cc pc = .ok (.getstatic idx, 3)) (hl : .fieldLink own idx "java/lang/String" "COMPACT_STRINGS" "Z" ∈ LW) (k : AtH G X cells slots (pc + 3) lv (vI 1 :: st) N h) : AtH G X cells slots pc lv st N h := by
  obtain ⟨p, l, e, R, s, m, args, below, meth, c, Q, nL⟩ := X
  intro H locs ls hW hS hls
  exact va_gets C.1 C.2.1 C.2.2.2.2.2.2.1.1 hS C.2.2.2.1 (C.2.2.2.2.1 _ hl) (fun _ h => h) d (k H locs ls hW hS hls)
theorem r_getsF {idx : Nat} (C : Cx G X own cc) (d : decode cc pc = .ok (.getstatic idx, 3)) (hl : .fieldLink own idx "jdk/internal/util/Preconditions" "SIOOBE_FORMATTER" "Ljava/util/function/BiFunction;" ∈ LW) (k : ∀ v : Value, (v = .null ∨ ∃ t : Nat, v = .ref t) → AtH G X cells slots (pc + 3) lv (v :: st) N h) : AtH G X cells slots pc lv st N h := by
  obtain ⟨p, l, e, R, s, m, args, below, meth, c, Q, nL⟩ := X
  intro H locs ls hW hS hls
  rcases C.2.2.2.2.2.2.1.2.1 with hz | ⟨t, hz⟩
  · exact va_gets C.1 C.2.1 hz hS C.2.2.2.1 (C.2.2.2.2.1 _ hl) (fun _ h => h) d (k .null (Or.inl rfl) H locs ls hW hS hls)
  · exact va_gets C.1 C.2.1 hz hS C.2.2.2.1 (C.2.2.2.2.1 _ hl) (fun _ h => h) d (k (.ref t) (Or.inr ⟨t, rfl⟩) H locs ls hW hS hls)
theorem r_kcoder {idx i : Nat} (C : Cx G X own cc) (d : decode cc pc = .ok (.getfield idx, 3)) (hl : .fieldLink own idx "java/lang/String" "coder" "B" ∈ LW) (hi : i < 5) (k : AtH G X cells slots (pc + 3) lv (vI 0 :: st) N h) : AtH G X cells slots pc lv (.ref (gK G i) :: st) N h := by
  obtain ⟨p, l, e, R, s, m, args, below, meth, c, Q, nL⟩ := X
  intro H locs ls hW hS hls
  exact vk_getf C.1 C.2.1 (C.2.2.2.2.2.2.1.2.2.2.1.1 i hi).2.1 hS C.2.2.2.1 (C.2.2.2.2.1 _ hl) (fun _ h => h) d (k H locs ls hW hS hls)
theorem r_kvalue {idx i : Nat} (C : Cx G X own cc) (d : decode cc pc = .ok (.getfield idx, 3)) (hl : .fieldLink own idx "java/lang/String" "value" "[B" ∈ LW) (hi : i < 5) (k : AtH G X cells slots (pc + 3) lv (.ref (gV G i) :: st) N h) : AtH G X cells slots pc lv (.ref (gK G i) :: st) N h := by
  obtain ⟨p, l, e, R, s, m, args, below, meth, c, Q, nL⟩ := X
  intro H locs ls hW hS hls
  exact vk_getf C.1 C.2.1 (C.2.2.2.2.2.2.1.2.2.2.1.1 i hi).2.2.1 hS C.2.2.2.1 (C.2.2.2.2.1 _ hl) (fun _ h => h) d (k H locs ls hW hS hls)
theorem r_klen {i : Nat} (C : Cx G X own cc) (d : decode cc pc = .ok (.arraylength, 1)) (hi : i < 5) (k : AtH G X cells slots (pc + 1) lv (vI (slI i) :: st) N h) : AtH G X cells slots pc lv (.ref (gV G i) :: st) N h := by
  obtain ⟨p, l, e, R, s, m, args, below, meth, c, Q, nL⟩ := X
  intro H locs ls hW hS hls
  exact va_tlen C.1 C.2.1 (C.2.2.2.2.2.2.1.2.2.2.1.1 i hi).2.2.2 hS (v := iI (slI i)) (iI_nI _) d (k H locs ls hW hS hls)
theorem kb_all : ∀ i, i < 5 → ∀ j, j < leS.getD i 0 → (byS.getD i []).getD j 0 = iI (scI i j) ∧ aI (scI i j) 255 = scI i j ∧ ((iI (scI i j)).toUInt32 % 65536).toInt32 = iI (scI i j) ∧ narrow .char (.int (iI (scI i j))) = .int (iI (scI i j)) := by decide +kernel
theorem r_kbyte {i : Nat} {j : Int} (C : Cx G X own cc) (d : decode cc pc = .ok (.baload, 1)) (hi : i < 5) (hj : 0 ≤ j ∧ j < slI i) (k : AtH G X cells slots (pc + 1) lv (vI (scI i j.toNat) :: st) N h) : AtH G X cells slots pc lv (vI j :: .ref (gV G i) :: st) N h := by
  obtain ⟨p, l, e, R, s, m, args, below, meth, c, Q, nL⟩ := X
  intro H locs ls hW hS hls
  have hr := slI_rg i hi
  have h9 : j < ((leS.getD i 0 : Nat) : Int) := hj.2
  have h8 : ((leS.getD i 0 : Nat) : Int) ≤ 100 := hr.2.1
  refine va_tb C.1 C.2.1 (C.2.2.2.2.2.2.1.2.2.2.1.1 i hi).2.2.2 hS (i := iI j) (iI_in hj.1 h9 (by omega)) (v := vI (scI i j.toNat)) ?_ d (k H locs ls hW hS hls)
  rw [iI_clamp hj.1 ⟨by omega, by omega⟩, (kb_all i hi j.toNat (by omega)).1]
theorem r_i2cK {i j : Nat} (C : Cx G X own cc) (d : decode cc pc = .ok (.i2c, 1)) (hi : i < 5) (hj : j < leS.getD i 0) (k : AtH G X cells slots (pc + 1) lv (vI (scI i j) :: st) N h) : AtH G X cells slots pc lv (vI (aI (scI i j) 255) :: st) N h := by
  obtain ⟨p, l, e, R, s, m, args, below, meth, c, Q, nL⟩ := X
  intro H locs ls hW hS hls
  rw [(kb_all i hi j hj).2.1]
  exact lv_i2c C.1 C.2.1 d (kb_all i hi j hj).2.2.1 (k H locs ls hW hS hls)
theorem r_ldcK {idx i : Nat} {tx : String} (C : Cx G X own cc) (hk : ∀ s : State, SF G s s.heap → vk_R own idx tx (gK G i) s) (d : decode cc pc = .ok (.ldc idx, 2)) (k : AtH G X cells slots (pc + 2) lv (.ref (gK G i) :: st) N h) : AtH G X cells slots pc lv st N h := by
  obtain ⟨p, l, e, R, s, m, args, below, meth, c, Q, nL⟩ := X
  intro H locs ls hW hS hls
  exact va_ldcS C.1 C.2.1 C.2.2.2.1 (hk s C.2.2.2.2.2.2.1) d (k H locs ls hW hS hls)
theorem r_ldcwK {idx i : Nat} {tx : String} (C : Cx G X own cc) (hk : ∀ s : State, SF G s s.heap → vk_R own idx tx (gK G i) s) (d : decode cc pc = .ok (.ldc_w idx, 3)) (k : AtH G X cells slots (pc + 3) lv (.ref (gK G i) :: st) N h) : AtH G X cells slots pc lv st N h := by
  obtain ⟨p, l, e, R, s, m, args, below, meth, c, Q, nL⟩ := X
  intro H locs ls hW hS hls
  have hZ := hk s C.2.2.2.2.2.2.1
  intro T hT X0
  obtain ⟨t, a1, b1⟩ := k H locs ls hW hS hls T hT X0
  exact ⟨t, X0.ldcStringW C.1 C.2.2.2.1 (text := tx) (a := gK G i) hZ.1 hZ.2 (g := F0 m pc ls st) rfl (by rw [C.2.1]; exact d) t a1, b1⟩
theorem x_ldcX {k : Nat} (C : Cx G X "ChannelSchedule" cc) (d : decode cc pc = .ok (.ldc (ixX.getD k 0), 2)) (hk : k < 3) (kk : AtH G X cells slots (pc + 2) lv (.ref (gK G k) :: st) N h) : AtH G X cells slots pc lv st N h := r_ldcK C (fun _ q => q.2.2.2.2.1 k hk) d kk
theorem x_ldc_wX {k : Nat} (C : Cx G X "ChannelSchedule" cc) (d : decode cc pc = .ok (.ldc_w (ixX.getD k 0), 3)) (hk : k < 3) (kk : AtH G X cells slots (pc + 3) lv (.ref (gK G k) :: st) N h) : AtH G X cells slots pc lv st N h := r_ldcwK C (fun _ q => q.2.2.2.2.1 k hk) d kk
theorem x_ldcL {k : Nat} (C : Cx G X "ChannelScheduleLaw" cc) (d : decode cc pc = .ok (.ldc (ixL.getD k 0), 2)) (hk : k < 2) (kk : AtH G X cells slots (pc + 2) lv (.ref (gK G (3 + k)) :: st) N h) : AtH G X cells slots pc lv st N h := r_ldcK C (fun _ q => q.2.2.2.2.2.1 k hk) d kk
/-- a call of a constant's method -/
theorem r_callK {idx i nLy n dy mc ms d0 mc0 ms0 : Nat} {y : MethodName} {ccy : ByteArray} {ret ret0 : Option FieldType} {As rest st0 : List Value} {post : Option Value → Nat → HT → Prop} {postX : String → Nat → HT → Prop} {p0 : Option Value → Nat → HT → Prop} {pX0 : String → Nat → HT → Prop}
    (C : Cx G X own cc) (M : Mx G X d0 mc0 ms0 ret0 p0 pX0) (d : decode cc pc = .ok (.invokevirtual idx, 3)) (wl : .methodLink own idx y ∈ LW) (wy : YV y ccy nLy ret n) (hE : EvH G (xl X) y ccy nLy ret dy mc ms (.ref (gK G i) :: As) N h post postX) (hst : st0 = As.reverse ++ .ref (gK G i) :: rest) (hn : As.length = n) (hi : i < 5) (hci : y.cls = "java/lang/String")
    (hcat : (rest.map fun v => v.category).sum ≤ 8) (hd : dy + 1 ≤ d0) (hnl : nLy ≤ 21) (hmc : cells + mc ≤ mc0) (hms : slots + ms ≤ ms0)
    (hx : ∀ (E : String) (N' : Nat) (h' : HT), postX E N' h' → pX0 E N' h')
    (kk : ∀ (v : Option Value) (N' : Nat) (h' : HT), post v N' h' → AtH G X (cells + mc) (slots + ms) (pc + 3) lv (v.toList ++ rest) N' h') : AtH G X cells slots pc lv st0 N h := by
  obtain ⟨p, l, e, R, s, m, args, below, meth, c, Q, nL⟩ := X
  intro H locs ls hW hS hls
  obtain ⟨hR, hQ, -, htab⟩ := M
  subst hR
  obtain ⟨hexec, hb, hml, hown, hts, hK, hF, hlocks, -, hbs⟩ := C
  obtain ⟨w1, w2, w3, w4, w5, w6⟩ := wy
  have hcb : CallB (rmD d0 mc0 ms0) s args own idx y ccy nLy ret (.code y ccy nLy ret :: LW) (rmD dy mc ms) mc ms n := LW_callB hts wl w3 w4 w5 w6 (by show dy + 1 ≤ d0; exact hd) (by show 8 + (nLy + 11) + 40 * dy ≤ 40 * d0; omega)
  have hA : ∀ q, q < H.size → gR G q → gR G q := fun _ _ q => q
  have hpre : PreV s H y.cls (gK G i) (PH G (.ref (gK G i) :: As) N h) As := by
    refine ⟨PH_blind, by rw [hci]; exact vk_recv hF.2.2.2.1 hi hS, fun U hU hWm => ⟨rfl, by rw [hU]; exact hW, va_K.moved hWm.alike hK, ?_⟩⟩
    rw [hU]
    exact (hF.kept (fun a h1 h2 => hS.2.1 a h1 h2)).moved hWm
  have hrun := vx_runV (H := H) (locs := locs) (cells := cells) (slots := slots) (p := p) (e := e) (below := below) (meth := meth) (rest := rest) (As := As) (b := gK G i) (g := F0 m pc ls st0) ⟨hexec, hb, hml, hown, hts⟩ hE ⟨hcb, hts _ w1, hts _ w2⟩ hpre rfl hn hls.1 hst (lv_room hcat) d ⟨hmc, hms⟩
  intro T hT X0
  rcases hrun T hT X0 with ⟨v, st₀, t, T', L, h0, X', hL, e1, e2, ⟨v', N', h', hv, hp, hWd, hFr⟩, stp⟩ | ⟨q, st₀, t, T', L, E, ce, h0, X', hL, e1, e2, ⟨N', h', hp, hWd, hFr⟩, hce, hcv, hcl, stp⟩
  · cases hv
    obtain ⟨k1, k2, k3⟩ := vx_keep h0 e1 hS hA (fun _ q => q) hL hFr
    obtain ⟨t2, a1, b1⟩ := kk v N' h' hp T'.heap (locs ++ L) ls (by rw [e1]; exact hWd) k3 hls T' rfl X'
    exact ⟨t2, stp t2 a1, b1⟩
  · obtain ⟨k1, k2, k3⟩ := vx_keep h0 e1 hS hA (fun _ q => q) hL hFr
    subst hQ
    have hout := vx_out (p := p) (l := l) (e := e) (R := rmD d0 mc0 ms0) (args := args) (below := below) (Qc := QH G p0) (XC := XH G pX0) (meth := meth) (c := c) (pc := pc) (ls := ls) (rest := rest) (free := gR G) (m := m) (H := T'.heap) (locs := locs ++ L) (fun x hx9 => (htab x hx9).elim) hlocks (by rw [e1]; exact hce) hcv hcl (fun t9 ht9 hal9 => ⟨N', h', hx E N' h' hp, by rw [ht9, e1]; exact hWd, k3.F ht9⟩) k3.2.2 hmc hms
    obtain ⟨t2, a1, b1⟩ := hout T' rfl X'
    exact ⟨t2, stp.trans a1, b1⟩
/-- a call of a static method of the nest's host -/
theorem r_callSN {nLy n dy mc ms d0 mc0 ms0 : Nat} {y : MethodName} {ccy : ByteArray} {ret ret0 : Option FieldType} {As rest st0 : List Value} {post : Option Value → Nat → HT → Prop} {postX : String → Nat → HT → Prop} {p0 : Option Value → Nat → HT → Prop} {pX0 : String → Nat → HT → Prop}
    (C : Cx G X "ChannelScheduleLaw$Own" cc) (M : Mx G X d0 mc0 ms0 ret0 p0 pX0) (d : decode cc pc = .ok (.invokestatic 87, 3)) (hy : y = ⟨"ChannelScheduleLaw", "conflict", "(LChannelSchedule;ZIIZII)Z"⟩) (wy : YS y ccy nLy ret n) (hE : EvH G (xl X) y ccy nLy ret dy mc ms As N h post postX) (hst : st0 = As.reverse ++ rest) (hn : As.length = n)
    (hcat : (rest.map fun v => v.category).sum ≤ 8) (hd : dy + 1 ≤ d0) (hnl : nLy ≤ 21) (hmc : cells + mc ≤ mc0) (hms : slots + ms ≤ ms0)
    (hx : ∀ (E : String) (N' : Nat) (h' : HT), postX E N' h' → pX0 E N' h')
    (kk : ∀ (v : Option Value) (N' : Nat) (h' : HT), post v N' h' → AtH G X (cells + mc) (slots + ms) (pc + 3) lv (v.toList ++ rest) N' h') : AtH G X cells slots pc lv st0 N h := by
  obtain ⟨p, l, e, R, s, m, args, below, meth, c, Q, nL⟩ := X
  intro H locs ls hW hS hls
  obtain ⟨hR, hQ, -, htab⟩ := M
  subst hR
  obtain ⟨hexec, hb, hml, hown, hts, hK, hF, hlocks, -, hbs⟩ := C
  obtain ⟨w2, w3, w4, w5, w6⟩ := wy
  have hN9 := hF.2.2.2.2.2.2.2.1
  rw [← hy] at hN9
  have hcb : va_CN (rmD d0 mc0 ms0) s args "ChannelScheduleLaw$Own" 87 y "ChannelScheduleLaw" ccy nLy ret (.code y ccy nLy ret :: LW) (rmD dy mc ms) mc ms n := by
    refine ⟨⟨rfl, rfl, hd, by show 8 + (nLy + 11) + 40 * dy ≤ 40 * d0; omega, ?_, List.mem_cons_self⟩, hts _ w4, hts _ w3, w5, fun sig h => ?_, va_Nw.use rfl hN9⟩
    · intro w hw a' U hW
      have hm : w ∈ LW := by
        rcases List.mem_cons.mp hw with e | e
        · rw [e]; exact w4
        · exact e
      exact word_at hW (LW_good hm) (hts w hm)
    · rw [h] at w6
      exact (Option.some.inj w6).symm
  have hA : ∀ q, q < H.size → gR G q → gR G q := fun _ _ q => q
  have hpre : PreS s H (PH G As N h) As := by
    refine ⟨PH_blind, fun U hU hWm => ⟨rfl, by rw [hU]; exact hW, va_K.moved hWm.alike hK, ?_⟩⟩
    rw [hU]
    exact (hF.kept (fun a h1 h2 => hS.2.1 a h1 h2)).moved hWm
  have hrun := vx_runSN (H := H) (locs := locs) (cells := cells) (slots := slots) (p := p) (e := e) (below := below) (meth := meth) (rest := rest) (As := As) (g := F0 m pc ls st0) ⟨hexec, hb, hml, hown, hts⟩ hE ⟨hcb, hts _ w2, trivial⟩ hpre rfl hn hls.1 hst (lv_room hcat) d ⟨hmc, hms⟩
  intro T hT X0
  rcases hrun T hT X0 with ⟨v, st₀, t, T', L, h0, X', hL, e1, e2, ⟨v', N', h', hv, hp, hWd, hFr⟩, stp⟩ | ⟨q, st₀, t, T', L, E, ce, h0, X', hL, e1, e2, ⟨N', h', hp, hWd, hFr⟩, hce, hcv, hcl, stp⟩
  · cases hv
    obtain ⟨k1, k2, k3⟩ := vx_keep h0 e1 hS hA (fun _ q => q) hL hFr
    obtain ⟨t2, a1, b1⟩ := kk v N' h' hp T'.heap (locs ++ L) ls (by rw [e1]; exact hWd) k3 hls T' rfl X'
    exact ⟨t2, stp t2 a1, b1⟩
  · obtain ⟨k1, k2, k3⟩ := vx_keep h0 e1 hS hA (fun _ q => q) hL hFr
    subst hQ
    have hout := vx_out (p := p) (l := l) (e := e) (R := rmD d0 mc0 ms0) (args := args) (below := below) (Qc := QH G p0) (XC := XH G pX0) (meth := meth) (c := c) (pc := pc) (ls := ls) (rest := rest) (free := gR G) (m := m) (H := T'.heap) (locs := locs ++ L) (fun x hx9 => (htab x hx9).elim) hlocks (by rw [e1]; exact hce) hcv hcl (fun t9 ht9 hal9 => ⟨N', h', hx E N' h' hp, by rw [ht9, e1]; exact hWd, k3.F ht9⟩) k3.2.2 hmc hms
    obtain ⟨t2, a1, b1⟩ := hout T' rfl X'
    exact ⟨t2, stp.trans a1, b1⟩
theorem cN7_i {V V0 : VV} {nLy dy d0 mc0 ms0 : Nat} {y : MethodName} {ccy : ByteArray} {ret ret0 : Option FieldType} {rest : List Value} {a1 a2 a3 a4 a5 a6 a7 : Value} {z : Int} {o0 : Except String (Option Value)} (C : Cx G X "ChannelScheduleLaw$Own" cc) (M : MX G X d0 mc0 ms0 ret0 o0 V0) (d : decode cc pc = .ok (.invokestatic 87, 3)) (hy : y = ⟨"ChannelScheduleLaw", "conflict", "(LChannelSchedule;ZIIZII)Z"⟩) (wy : YS y ccy nLy ret 7) (hE : EvX G (xl X) y ccy nLy ret dy 0 0 [a1, a2, a3, a4, a5, a6, a7] V (.ok (some (vI z))) V) (hb : (Nat.ble (dy + 1) d0 && Nat.ble nLy 21 && Nat.ble (rest.map fun v => v.category).sum 8) = true) (hc : cells ≤ mc0) (hs : slots ≤ ms0)
    (kk : At G X cells slots (pc + 3) lv (vI z :: rest) V) : At G X cells slots pc lv (a7 :: a6 :: a5 :: a4 :: a3 :: a2 :: a1 :: rest) V := by
  simp only [Bool.and_eq_true] at hb
  refine r_callSN C M d hy wy hE rfl rfl (Nat.le_of_ble_eq_true hb.2) (Nat.le_of_ble_eq_true hb.1.1) (Nat.le_of_ble_eq_true hb.1.2) hc hs (fun E N' h' q => ?_) (fun v N' h' q => ?_)
  · obtain ⟨q1, V', q2, q3, q4⟩ := q; cases q3
  · obtain ⟨q1, V', q2, q3, q4⟩ := q; subst q1; subst q2; cases q3; subst q4; exact kk
end
section
variable {G : GT} {X : CT} {cells slots pc : Nat} {lv : List (Nat × Value)} {st : List Value} {V : VV} {own : String} {cc : ByteArray}
theorem cK {idx i nLy n dy d0 mc0 ms0 : Nat} {y : MethodName} {ccy : ByteArray} {ret ret0 : Option FieldType} {As rest st0 : List Value} {z : Int} {o0 : Except String (Option Value)} {V0 : VV} (C : Cx G X own cc) (M : MX G X d0 mc0 ms0 ret0 o0 V0) (d : decode cc pc = .ok (.invokevirtual idx, 3)) (wl : .methodLink own idx y ∈ LW) (wy : YV y ccy nLy ret n) (hi : i < 5) (hci : y.cls = "java/lang/String") (hE : EvX G (xl X) y ccy nLy ret dy 0 0 (.ref (gK G i) :: As) V (.ok (some (vI z))) V) (hst : st0 = As.reverse ++ .ref (gK G i) :: rest) (hn : As.length = n) (hb : (Nat.ble (dy + 1) d0 && Nat.ble nLy 21 && Nat.ble (rest.map fun v => v.category).sum 8) = true) (hc : cells ≤ mc0) (hs : slots ≤ ms0)
    (kk : At G X cells slots (pc + 3) lv (vI z :: rest) V) : At G X cells slots pc lv st0 V := by
  simp only [Bool.and_eq_true] at hb
  refine r_callK C M d wl wy hE hst hn hi hci (Nat.le_of_ble_eq_true hb.2) (Nat.le_of_ble_eq_true hb.1.1) (Nat.le_of_ble_eq_true hb.1.2) hc hs (fun E N' h' q => ?_) (fun v N' h' q => ?_)
  · obtain ⟨q1, V', q2, q3, q4⟩ := q; cases q3
  · obtain ⟨q1, V', q2, q3, q4⟩ := q; subst q1; subst q2; cases q3; subst q4; exact kk
theorem ev_coder {l : Launch} (hlt : l.stackTraces = false) {i : Nat} (hi : i < 5) : EvX G l yJ0_coder_7d493 bJ0_coder_7d493 1 (some .byte) 0 0 0 [.ref (gK G i)] V (.ok (some (vI 0))) V := by
  refine ev_w hlt (by decide +kernel) rfl rfl (fun X hl hx C M => ?_)
  subst hl
  replace C : Cx G X "java/lang/String" bJ0_coder_7d493 := C
  show At G X 0 0 0 [(0, .ref (gK G i))] [] V
  refine r_getsC C dJ0_coder_7d493_0 fJ0_38 ?_
  refine x_ifeq (tgt := 13) C dJ0_coder_7d493_3 rfl (fun c => absurd c (by decide +kernel)) (fun c => ?_)
  refine r_aload_n C dJ0_coder_7d493_6 rfl ?_
  refine r_kcoder C dJ0_coder_7d493_7 fJ0_15 hi ?_
  refine r_goto (tgt := 14) C dJ0_coder_7d493_10 rfl ?_
  exact r_iret C M dJ0_coder_7d493_14 rfl (Nat.le_refl _) (Nat.le_refl _) ⟨rfl, V, rfl, rfl, rfl⟩
theorem ev_isLatin1 {l : Launch} (hlt : l.stackTraces = false) {i : Nat} (hi : i < 5) : EvX G l yJ0_isLatin1_aae02 bJ0_isLatin1_aae02 1 (some .boolean) 0 0 0 [.ref (gK G i)] V (.ok (some (vI 1))) V := by
  refine ev_w hlt (by decide +kernel) rfl rfl (fun X hl hx C M => ?_)
  subst hl
  replace C : Cx G X "java/lang/String" bJ0_isLatin1_aae02 := C
  show At G X 0 0 0 [(0, .ref (gK G i))] [] V
  refine r_getsC C dJ0_isLatin1_aae02_0 fJ0_38 ?_
  refine x_ifeq (tgt := 17) C dJ0_isLatin1_aae02_3 rfl (fun c => absurd c (by decide +kernel)) (fun c => ?_)
  refine r_aload_n C dJ0_isLatin1_aae02_6 rfl ?_
  refine r_kcoder C dJ0_isLatin1_aae02_7 fJ0_15 hi ?_
  refine x_ifne (tgt := 17) C dJ0_isLatin1_aae02_10 rfl (fun c => ?_) (fun c => absurd (by decide +kernel) c)
  refine r_iconst C dJ0_isLatin1_aae02_13 ?_
  refine r_goto (tgt := 18) C dJ0_isLatin1_aae02_14 rfl ?_
  exact r_iret C M dJ0_isLatin1_aae02_18 rfl (Nat.le_refl _) (Nat.le_refl _) ⟨rfl, V, rfl, rfl, rfl⟩
theorem ev_length {l : Launch} (hlt : l.stackTraces = false) {i : Nat} (hi : i < 5) : EvX G l yJ0_length_8abf5 bJ0_length_8abf5 1 (some .int) 1 0 0 [.ref (gK G i)] V (.ok (some (vI (slI i)))) V := by
  refine ev_w hlt (by decide +kernel) rfl rfl (fun X hl hx C M => ?_)
  subst hl
  replace C : Cx G X "java/lang/String" bJ0_length_8abf5 := C
  show At G X 0 0 0 [(0, .ref (gK G i))] [] V
  refine r_aload_n C dJ0_length_8abf5_0 rfl ?_
  refine r_kvalue C dJ0_length_8abf5_1 fJ0_9 hi ?_
  refine r_klen C dJ0_length_8abf5_4 hi ?_
  refine r_aload_n C dJ0_length_8abf5_5 rfl ?_
  refine cK (As := []) C M dJ0_length_8abf5_6 lJ0_335 wJ0_coder_7d493 hi rfl (ev_coder C.lt hi) rfl rfl rfl (Nat.le_refl _) (Nat.le_refl _) ?_
  refine x_ishr C dJ0_length_8abf5_9 ?_
  refine r_top (slI_rg i hi).2.2 ?_
  exact r_iret C M dJ0_length_8abf5_10 rfl (Nat.le_refl _) (Nat.le_refl _) ⟨rfl, V, rfl, rfl, rfl⟩
theorem ev_chk3 {l : Launch} (hlt : l.stackTraces = false) {j n : Int} {v : Value} (hv : v = .null ∨ ∃ t : Nat, v = .ref t) (hj : 0 ≤ j ∧ j < n) (hn : n ≤ 2147483647) : EvX G l yJ3_checkIndex_8e157 bJ3_checkIndex_8e157 3 (some .int) 0 0 0 [vI j, vI n, v] V (.ok (some (vI j))) V := by
  have e1 : nrm j = j := nrm_of (by omega) (by omega)
  have e2 : nrm n = n := nrm_of (by omega) (by omega)
  have key : ∀ v : Value, Nat.ble (lg_sl [vI j, vI n, v]).length 3 = true → ([vI j, vI n, v].all fun v => v.category == 1) = true → lv_args 0 [vI j, vI n, v] = [(0, vI j), (1, vI n), (2, v)] → EvX G l yJ3_checkIndex_8e157 bJ3_checkIndex_8e157 3 (some .int) 0 0 0 [vI j, vI n, v] V (.ok (some (vI j))) V := by
    intro v h1 h2 h3
    refine ev_w hlt (by decide +kernel) h1 h2 (fun X hl hx C M => ?_)
    subst hl
    replace C : Cx G X "jdk/internal/util/Preconditions" bJ3_checkIndex_8e157 := C
    rw [h3]
    refine r_iload_n C dJ3_checkIndex_8e157_0 rfl ?_
    refine x_iflt (tgt := 9) C dJ3_checkIndex_8e157_1 rfl (fun c => by omega) (fun c => ?_)
    refine r_iload_n C dJ3_checkIndex_8e157_4 rfl ?_
    refine r_iload_n C dJ3_checkIndex_8e157_5 rfl ?_
    refine x_icmplt (tgt := 16) C dJ3_checkIndex_8e157_6 rfl (fun c => ?_) (fun c => by omega)
    refine r_iload_n C dJ3_checkIndex_8e157_16 rfl ?_
    exact r_iret C M dJ3_checkIndex_8e157_17 rfl (Nat.le_refl _) (Nat.le_refl _) ⟨rfl, V, rfl, rfl, rfl⟩
  rcases hv with e | ⟨t, e⟩
  · subst e; exact key _ rfl rfl rfl
  · subst e; exact key _ rfl rfl rfl
theorem ev_chk0 {l : Launch} (hlt : l.stackTraces = false) {j n : Int} (hj : 0 ≤ j ∧ j < n) (hn : n ≤ 2147483647) : EvX G l yJ0_checkIndex_df160 bJ0_checkIndex_df160 2 none 1 0 0 [vI j, vI n] V (.ok none) V := by
  refine ev_w hlt (by decide +kernel) rfl rfl (fun X hl hx C M => ?_)
  subst hl
  replace C : Cx G X "java/lang/String" bJ0_checkIndex_df160 := C
  show At G X 0 0 0 [(0, vI j), (1, vI n)] [] V
  refine r_iload_n C dJ0_checkIndex_df160_0 rfl ?_
  refine r_iload_n C dJ0_checkIndex_df160_1 rfl ?_
  refine r_getsF C dJ0_checkIndex_df160_2 fJ0_1053 (fun v hv => ?_)
  refine cS3_i C M dJ0_checkIndex_df160_5 lJ0_1059 wJ3_checkIndex_8e157 (ev_chk3 C.lt hv hj hn) rfl (Nat.le_refl _) (Nat.le_refl _) ?_
  refine r_pop C dJ0_checkIndex_df160_8 rfl ?_
  exact e_v C M dJ0_checkIndex_df160_9 (Nat.le_refl _) (Nat.le_refl _) rfl
theorem ev_charAt1 {l : Launch} (hlt : l.stackTraces = false) {i : Nat} {j : Int} (hi : i < 5) (hj : 0 ≤ j ∧ j < slI i) : EvX G l yJ1_charAt_3b067 bJ1_charAt_3b067 2 (some .char) 2 0 0 [.ref (gV G i), vI j] V (.ok (some (vI (scI i j.toNat)))) V := by
  have hr := slI_rg i hi
  have h9 : j < ((leS.getD i 0 : Nat) : Int) := hj.2
  refine ev_w hlt (by decide +kernel) rfl rfl (fun X hl hx C M => ?_)
  subst hl
  replace C : Cx G X "java/lang/StringLatin1" bJ1_charAt_3b067 := C
  show At G X 0 0 0 [(0, .ref (gV G i)), (1, vI j)] [] V
  refine r_iload_n C dJ1_charAt_3b067_0 rfl ?_
  refine r_aload_n C dJ1_charAt_3b067_1 rfl ?_
  refine r_klen C dJ1_charAt_3b067_2 hi ?_
  refine cS2_v C M dJ1_charAt_3b067_3 lJ1_9 wJ0_checkIndex_df160 (ev_chk0 C.lt hj (by omega)) rfl (Nat.le_refl _) (Nat.le_refl _) ?_
  refine r_aload_n C dJ1_charAt_3b067_6 rfl ?_
  refine r_iload_n C dJ1_charAt_3b067_7 rfl ?_
  refine r_kbyte C dJ1_charAt_3b067_8 hi hj ?_
  refine r_sipush C dJ1_charAt_3b067_9 (by decide +kernel) ?_
  refine x_iand C dJ1_charAt_3b067_12 ?_
  refine r_i2cK C dJ1_charAt_3b067_13 hi (by omega) ?_
  exact r_iret C M dJ1_charAt_3b067_14 (kb_all i hi j.toNat (by omega)).2.2.2 (Nat.le_refl _) (Nat.le_refl _) ⟨rfl, V, rfl, rfl, rfl⟩
theorem ev_charAt {l : Launch} (hlt : l.stackTraces = false) {i : Nat} {j : Int} (hi : i < 5) (hj : 0 ≤ j ∧ j < slI i) : EvX G l yJ0_charAt_5068e bJ0_charAt_5068e 2 (some .char) 3 0 0 [.ref (gK G i), vI j] V (.ok (some (vI (scI i j.toNat)))) V := by
  have h9 : j < ((leS.getD i 0 : Nat) : Int) := hj.2
  refine ev_w hlt (by decide +kernel) rfl rfl (fun X hl hx C M => ?_)
  subst hl
  replace C : Cx G X "java/lang/String" bJ0_charAt_5068e := C
  show At G X 0 0 0 [(0, .ref (gK G i)), (1, vI j)] [] V
  refine r_aload_n C dJ0_charAt_5068e_0 rfl ?_
  refine cK (As := []) C M dJ0_charAt_5068e_1 lJ0_492 wJ0_isLatin1_aae02 hi rfl (ev_isLatin1 C.lt hi) rfl rfl rfl (Nat.le_refl _) (Nat.le_refl _) ?_
  refine x_ifeq (tgt := 16) C dJ0_charAt_5068e_4 rfl (fun c => absurd c (by decide +kernel)) (fun c => ?_)
  refine r_aload_n C dJ0_charAt_5068e_7 rfl ?_
  refine r_kvalue C dJ0_charAt_5068e_8 fJ0_9 hi ?_
  refine r_iload_n C dJ0_charAt_5068e_11 rfl ?_
  refine cS2_i C M dJ0_charAt_5068e_12 lJ0_495 wJ1_charAt_3b067 (ev_charAt1 C.lt hi hj) rfl (Nat.le_refl _) (Nat.le_refl _) ?_
  exact r_iret C M dJ0_charAt_5068e_15 (kb_all i hi j.toNat (by omega)).2.2.2 (Nat.le_refl _) (Nat.le_refl _) ⟨rfl, V, rfl, rfl, rfl⟩
theorem x_slen {idx i d0 mc0 ms0 : Nat} {ret0 : Option FieldType} {rest : List Value} {o0 : Except String (Option Value)} {V0 : VV} (C : Cx G X own cc) (M : MX G X d0 mc0 ms0 ret0 o0 V0) (d : decode cc pc = .ok (.invokevirtual idx, 3)) (wl : .methodLink own idx ⟨"java/lang/String", "length", "()I"⟩ ∈ LW) (hi : i < 5) (hb : (Nat.ble 2 d0 && Nat.ble 1 21 && Nat.ble (rest.map fun v => v.category).sum 8) = true) (hc : cells ≤ mc0) (hs : slots ≤ ms0)
    (kk : At G X cells slots (pc + 3) lv (vI (slI i) :: rest) V) : At G X cells slots pc lv (.ref (gK G i) :: rest) V :=
  cK (As := []) C M d wl wJ0_length_8abf5 hi rfl (ev_length C.lt hi) rfl rfl hb hc hs kk
theorem x_schar {idx i d0 mc0 ms0 : Nat} {j : Int} {ret0 : Option FieldType} {rest : List Value} {o0 : Except String (Option Value)} {V0 : VV} (C : Cx G X own cc) (M : MX G X d0 mc0 ms0 ret0 o0 V0) (d : decode cc pc = .ok (.invokevirtual idx, 3)) (wl : .methodLink own idx ⟨"java/lang/String", "charAt", "(I)C"⟩ ∈ LW) (hi : i < 5) (hj : 0 ≤ j ∧ j < slI i) (hb : (Nat.ble 4 d0 && Nat.ble 2 21 && Nat.ble (rest.map fun v => v.category).sum 8) = true) (hc : cells ≤ mc0) (hs : slots ≤ ms0)
    (kk : At G X cells slots (pc + 3) lv (vI (scI i j.toNat) :: rest) V) : At G X cells slots pc lv (vI j :: .ref (gK G i) :: rest) V :=
  cK (As := [vI j]) C M d wl wJ0_charAt_5068e hi rfl (ev_charAt C.lt hi hj) rfl rfl hb hc hs kk
theorem e_s {d0 mc0 ms0 z r : Nat} (C : Cx G X own cc) (M : MX G X d0 mc0 ms0 (some (.object "java/lang/String")) (.ok (some (.ref (gK G r)))) V) (d : decode cc pc = .ok (.areturn, 1)) (hc : cells ≤ mc0) (hs : slots ≤ ms0) (h : some z = some r) : At G X cells slots pc lv [.ref (gK G z)] V := by
  cases h
  obtain ⟨p, l, e, R, s, m, args, below, meth, c, Q, nL⟩ := X
  intro H locs ls hW hS hls
  obtain ⟨hR, hQ, hr, -⟩ := M
  have hlocks : meth.locks = false := C.2.2.2.2.2.2.2.1
  subst hQ
  refine W.widen hc hs (vx_ret ?_)
  exact W.aret C.1 C.2.1 hr (Or.inl ⟨_, rfl⟩) (Or.inr ⟨_, rfl⟩) (fun t ht hW9 => ⟨_, gN G, hV G V, rfl, ⟨rfl, V, rfl, rfl, rfl⟩, by rw [ht]; exact hW, hS.F ht⟩) hS.2.2 d hlocks
end
/-! the helpers that ask: where they do not throw -/
theorem ev5_requireIndex {G : GT} {V : VV} {l : Launch} {z : Int} (hlt : l.stackTraces = false) (hz : ¬ nrm z = 0) : EvX G l y5_requireIndex b5_requireIndex 1 none 0 0 0 [vI z] V (.ok none) V := by
  refine ev_w hlt (by decide +kernel) rfl rfl (fun X hl hx C M => ?_)
  subst hl
  replace C : Cx G X "ChannelSchedule" b5_requireIndex := C
  show At G X 0 0 0 [(0, vI z)] [] V
  refine r_iload_n C d5_requireIndex_0 rfl ?_
  refine x_ifne (tgt := 12) C d5_requireIndex_1 rfl (fun c => absurd c hz) (fun c => ?_)
  exact v_vret C M d5_requireIndex_12 (Nat.le_refl _) (Nat.le_refl _) ⟨rfl, rfl⟩
theorem ev5_requireArgument {G : GT} {V : VV} {l : Launch} {z : Int} (hlt : l.stackTraces = false) (hz : ¬ nrm z = 0) : EvX G l y5_requireArgument b5_requireArgument 1 none 0 0 0 [vI z] V (.ok none) V := by
  refine ev_w hlt (by decide +kernel) rfl rfl (fun X hl hx C M => ?_)
  subst hl
  replace C : Cx G X "ChannelSchedule" b5_requireArgument := C
  show At G X 0 0 0 [(0, vI z)] [] V
  refine r_iload_n C d5_requireArgument_0 rfl ?_
  refine x_ifne (tgt := 12) C d5_requireArgument_1 rfl (fun c => absurd c hz) (fun c => ?_)
  exact v_vret C M d5_requireArgument_12 (Nat.le_refl _) (Nat.le_refl _) ⟨rfl, rfl⟩
theorem ev5_requireState {G : GT} {V : VV} {l : Launch} {z : Int} (hlt : l.stackTraces = false) (hz : ¬ nrm z = 0) : EvX G l y5_requireState b5_requireState 1 none 0 0 0 [vI z] V (.ok none) V := by
  refine ev_w hlt (by decide +kernel) rfl rfl (fun X hl hx C M => ?_)
  subst hl
  replace C : Cx G X "ChannelSchedule" b5_requireState := C
  show At G X 0 0 0 [(0, vI z)] [] V
  refine r_iload_n C d5_requireState_0 rfl ?_
  refine x_ifne (tgt := 12) C d5_requireState_1 rfl (fun c => absurd c hz) (fun c => ?_)
  exact v_vret C M d5_requireState_12 (Nat.le_refl _) (Nat.le_refl _) ⟨rfl, rfl⟩
theorem ev5_refuse {G : GT} {V : VV} {l : Launch} {z : Int} (hlt : l.stackTraces = false) (hz : ¬ nrm z = 1 ∧ ¬ nrm z = 2 ∧ ¬ nrm z = 3) : EvX G l y5_refuse b5_refuse 1 none 1 0 0 [vI z] V (.ok none) V := by
  refine ev_w hlt (by decide +kernel) rfl rfl (fun X hl hx C M => ?_)
  subst hl
  replace C : Cx G X "ChannelSchedule" b5_refuse := C
  show At G X 0 0 0 [(0, vI z)] [] V
  have n1 : nrm 1 = 1 := rfl
  have n2 : nrm 2 = 2 := rfl
  have n3 : nrm 3 = 3 := rfl
  refine r_iload_n C d5_refuse_0 rfl ?_
  refine r_iconst C d5_refuse_1 ?_
  suffices J1 : ∀ w : Int, (nrm z = 1 → w = 0) → (¬ nrm z = 1 → w = 1) → At G X 0 0 10 [(0, vI z)] [vI w] V by
    refine x_icmpeq (tgt := 9) C d5_refuse_2 rfl (fun c => ?_) (fun c => ?_)
    · refine r_iconst C d5_refuse_9 (J1 0 (fun _ => rfl) (fun q => absurd c q))
    · refine r_iconst C d5_refuse_5 ?_
      exact r_goto (tgt := 10) C d5_refuse_6 rfl (J1 1 (fun q => absurd q c) (fun _ => rfl))
  intro w w1 w2
  have g1 : ¬ nrm z = 1 := hz.1
  refine cS1_v C M d5_refuse_10 l5_136 w5_requireIndex (ev5_requireIndex C.lt (by rw [w2 g1]; decide +kernel)) rfl (Nat.le_refl _) (Nat.le_refl _) ?_
  clear w1 w2
  refine r_iload_n C d5_refuse_13 rfl ?_
  refine r_iconst C d5_refuse_14 ?_
  suffices J1 : ∀ w : Int, (nrm z = 2 → w = 0) → (¬ nrm z = 2 → w = 1) → At G X 0 0 23 [(0, vI z)] [vI w] V by
    refine x_icmpeq (tgt := 22) C d5_refuse_15 rfl (fun c => ?_) (fun c => ?_)
    · refine r_iconst C d5_refuse_22 (J1 0 (fun _ => rfl) (fun q => absurd c q))
    · refine r_iconst C d5_refuse_18 ?_
      exact r_goto (tgt := 23) C d5_refuse_19 rfl (J1 1 (fun q => absurd q c) (fun _ => rfl))
  clear w
  intro w w1 w2
  have g2 : ¬ nrm z = 2 := hz.2.1
  refine cS1_v C M d5_refuse_23 l5_108 w5_requireArgument (ev5_requireArgument C.lt (by rw [w2 g2]; decide +kernel)) rfl (Nat.le_refl _) (Nat.le_refl _) ?_
  clear w1 w2
  refine r_iload_n C d5_refuse_26 rfl ?_
  refine r_iconst C d5_refuse_27 ?_
  suffices J1 : ∀ w : Int, (nrm z = 3 → w = 0) → (¬ nrm z = 3 → w = 1) → At G X 0 0 36 [(0, vI z)] [vI w] V by
    refine x_icmpeq (tgt := 35) C d5_refuse_28 rfl (fun c => ?_) (fun c => ?_)
    · refine r_iconst C d5_refuse_35 (J1 0 (fun _ => rfl) (fun q => absurd c q))
    · refine r_iconst C d5_refuse_31 ?_
      exact r_goto (tgt := 36) C d5_refuse_32 rfl (J1 1 (fun q => absurd q c) (fun _ => rfl))
  clear w
  intro w w1 w2
  have g3 : ¬ nrm z = 3 := hz.2.2
  refine cS1_v C M d5_refuse_36 l5_97 w5_requireState (ev5_requireState C.lt (by rw [w2 g3]; decide +kernel)) rfl (Nat.le_refl _) (Nat.le_refl _) ?_
  exact v_vret C M d5_refuse_39 (Nat.le_refl _) (Nat.le_refl _) ⟨rfl, rfl⟩
