/-! THE ENGINE, its heap: fields, arrays, calls, ends -/
/-- a class of the system: its place, its fields -/
def OI (ci : Nat) (C : String) (T : u_T) (n : Nat) : Prop := cls7[ci]? = some (C, T, n) ∧ (∀ w ∈ u_ws C T n, w ∈ LW) ∧ (∀ k, k < n → parseFieldDescriptor (T k).2.2.1 = some (tyO (T k).2.2.1)) ∧ ∀ a, a < n → ∀ b, b < n → a ≠ b → (T a).2.1 ≠ (T b).2.1
theorem oi0 : OI 0 R0 T0 8 := ⟨rfl, ws0_in, ty0_ok, nm0_ok⟩
theorem oi1 : OI 1 R1 T1 15 := ⟨rfl, ws1_in, ty1_ok, nm1_ok⟩
theorem oi2 : OI 2 R2 T2 6 := ⟨rfl, ws2_in, ty2_ok, nm2_ok⟩
theorem oi3 : OI 3 R3 T3 5 := ⟨rfl, ws3_in, ty3_ok, nm3_ok⟩
theorem oi4 : OI 4 R4 T4 5 := ⟨rfl, ws4_in, ty4_ok, nm4_ok⟩
theorem oi5 : OI 5 R5 T5 14 := ⟨rfl, ws5_in, ty5_ok, nm5_ok⟩
theorem oi6 : OI 6 R6 T6 12 := ⟨rfl, ws6_in, ty6_ok, nm6_ok⟩
theorem oi7 : OI 7 R7 T7 4 := ⟨rfl, ws7_in, ty7_ok, nm7_ok⟩
theorem oi8 : OI 8 R8 T8 4 := ⟨rfl, ws8_in, ty8_ok, nm8_ok⟩
theorem Wd.put {G : GT} {N k : Nat} {h : HT} {e : va_E} {H H1 : Heap} (hW : Wd G N h H) (hk : k < N) (z : H1.size = H.size) (he : va_at (gD G) cls7 (ad G k, e) H1) (oq : ∀ q : Nat, q ≠ ad G k → H1[q]? = H[q]?) : Wd G N (upH h k e) H1 := by
  refine ⟨⟨by rw [z]; exact hW.1.1, hW.1.2.1.kept (fun j x hx => oq x.1 (fun e9 => hW.1.2.2 x (List.mem_of_getElem? hx) (by rw [e9]; exact gR_ad hW.1.1.1))), hW.1.2.2⟩, fun q => by rw [z]; exact hW.2.1 q, ?_⟩
  have h1 := va_P.set hW.2.2 (wsO_D hW.1.1.1) (wsO_get hk) he oq
  rw [wsO_set e hk] at h1
  exact h1
theorem Wd.at {G : GT} {N k : Nat} {h : HT} {H : Heap} (hW : Wd G N h H) (hk : k < N) : va_at (gD G) cls7 (ad G k, h k) H := hW.2.2 k _ (wsO_get hk)
section
variable {G : GT} {X : CT} {cells slots pc N : Nat} {lv : List (Nat × Value)} {st : List Value} {h : HT} {own : String} {cc : ByteArray}
/-- getfield -/
theorem r_gf {a0 : Nat} {idx k ci n sl : Nat} {T : u_T} {K : String} {fs : List Value} {v : Value} (C : Cx G X own cc) (d : decode cc pc = .ok (.getfield idx, 3)) (ha : ad G k = a0) (hk : k < N) (he : h k = .inr (ci, fs)) (o : OI ci K T n) (hsl : sl < n) (hl : .fieldLink own idx (T sl).1 (T sl).2.1 (T sl).2.2.1 ∈ LW) (hv : fs[sl]? = some v) (kk : AtH G X cells slots (pc + 3) lv (v :: st) N h) : AtH G X cells slots pc lv (.ref a0 :: st) N h := by
  obtain ⟨p, l, e, R, s, m, args, below, meth, c, Q, nL⟩ := X
  intro H locs ls hW hS hls
  subst ha
  obtain ⟨hx, hb, hml, hown, hts, hK, -⟩ := C
  exact va_get (D := gD G) (ci := ci) (v := v) (C := K) (T := T) (N := n) (fs := fs) hx hb hts o.2.1 hown hK hW.2.2 k (by rw [wsO_get hk, he]) o.1 sl hsl (hts _ hl) (fun _ h9 => h9) hv d (kk H locs ls hW hS hls)
/-- putfield of a field that isn't final -/
theorem r_pf {a0 : Nat} {idx k ci n sl : Nat} {T : u_T} {K : String} {fs : List Value} {v : Value} {ty : FieldType} (C : Cx G X own cc) (d : decode cc pc = .ok (.putfield idx, 3)) (ha : ad G k = a0) (hk : k < N) (he : h k = .inr (ci, fs)) (o : OI ci K T n) (hsl : sl < n) (hl : .fieldLink own idx (T sl).1 (T sl).2.1 (T sl).2.2.1 ∈ LW) (hfin : (T sl).2.2.2 = false) (hd : parseFieldDescriptor (T sl).2.2.1 = some ty) (hn : narrow ty v = v) (hfit : fits ty v = true) (hlen : sl < fs.length)
    (kk : AtH G X cells slots (pc + 3) lv st N (upH h k (.inr (ci, fs.set sl v)))) : AtH G X cells slots pc lv (v :: .ref a0 :: st) N h := by
  obtain ⟨p, l, e, R, s, m, args, below, meth, c, Q, nL⟩ := X
  intro H locs ls hW hS hls
  subst ha
  obtain ⟨hx, hb, hml, hown, hts, hK, -⟩ := C
  have hap := va_apart (own := own) hts o.2.1 (fun k => tyO (T k).2.2.1) o.2.2.1 o.2.2.2 hK o.1
  have h9 := hW.at hk
  rw [he] at h9
  obtain ⟨r, h1, cell, q1, q2, q3, q4⟩ := h9
  have hr : r = (K, T, n) := Option.some.inj (h1.symm.trans o.1)
  subst hr
  obtain ⟨hSl, hfc, kC, hkC, hkind⟩ := hK.1 ci _ o.1
  obtain ⟨cf, kf, fi, f, hi, hsl2⟩ := hSl sl hsl
  have hlay := hts _ (o.2.1 _ (u_in_lay hsl))
  unfold u_lay at hlay
  rw [if_neg (by rw [hfin]; decide)] at hlay
  have hst := (u_facts hfc hkC (u_lays hts o.2.1 hsl) hi).1
  have h6 := u_store hfc hkC hkind hlay hi hd hn hfit
  refine W.putK hx hb (f := f) ⟨hown, hts _ hl, ⟨_, _, _, hi⟩, hst⟩ (by rw [q2]; exact h6) q1 q3 (by rw [hsl2]; exact k2_hasslot (q4 sl hsl)) rfl rfl d fun H' e1 e2 e3 => ?_
  rw [hsl2] at e1 ⊢
  exact kk H' _ ls (hW.put hk e2 ⟨_, o.1, t_OB.to (V := updV (vp_V fs) sl v) ⟨_, e1, q2, q3, t_set q4 hap hsl v⟩ (fun j _ => vp_updV_set hlen v j)⟩ e3) (hS.put e2 e3 (gR_ad hW.1.1.1)) hls
/-- array reads -/
theorem r_iald {a0 : Nat} {k n : Nat} {row : Nat → Int} {j : Int} (C : Cx G X own cc) (d : decode cc pc = .ok (.iaload, 1)) (ha : ad G k = a0) (hk : k < N) (he : h k = arI (gA G 0) n row) (h0 : 0 ≤ j) (h1 : j < n) (hn : (n : Int) ≤ 2147483647) (kk : AtH G X cells slots (pc + 1) lv (vI (row j.toNat) :: st) N h) : AtH G X cells slots pc lv (vI j :: .ref a0 :: st) N h := by
  obtain ⟨p, l, e, R, s, m, args, below, meth, c, Q, nL⟩ := X
  intro H locs ls hW hS hls
  subst ha
  refine va_iald (D := gD G) C.1 C.2.1 C.2.2.2.2.2.1 hW.2.2 k 0 (n := n) (f := fun i => iI (row i)) (by rw [wsO_get hk, he]; rfl) rfl (iI_in h0 h1 hn) d ?_
  rw [iI_clamp h0 ⟨by omega, by omega⟩]
  exact kk H locs ls hW hS hls
theorem r_zald {a0 : Nat} {k n : Nat} {row : Nat → Int} {j : Int} (C : Cx G X own cc) (d : decode cc pc = .ok (.baload, 1)) (ha : ad G k = a0) (hk : k < N) (he : h k = arI (gA G 1) n row) (h0 : 0 ≤ j) (h1 : j < n) (hn : (n : Int) ≤ 2147483647) (kk : AtH G X cells slots (pc + 1) lv (vI (row j.toNat) :: st) N h) : AtH G X cells slots pc lv (vI j :: .ref a0 :: st) N h := by
  obtain ⟨p, l, e, R, s, m, args, below, meth, c, Q, nL⟩ := X
  intro H locs ls hW hS hls
  subst ha
  refine va_zald (D := gD G) C.1 C.2.1 C.2.2.2.2.2.1 hW.2.2 k 1 (n := n) (f := fun i => iI (row i)) (by rw [wsO_get hk, he]; rfl) rfl (iI_in h0 h1 hn) d ?_
  rw [iI_clamp h0 ⟨by omega, by omega⟩]
  exact kk H locs ls hW hS hls
theorem r_bald {a0 : Nat} {k n : Nat} {row : Nat → Int} {j : Int} (C : Cx G X own cc) (d : decode cc pc = .ok (.baload, 1)) (ha : ad G k = a0) (hk : k < N) (he : h k = arI (gA G 2) n row) (h0 : 0 ≤ j) (h1 : j < n) (hn : (n : Int) ≤ 2147483647) (kk : AtH G X cells slots (pc + 1) lv (vI (row j.toNat) :: st) N h) : AtH G X cells slots pc lv (vI j :: .ref a0 :: st) N h := by
  obtain ⟨p, l, e, R, s, m, args, below, meth, c, Q, nL⟩ := X
  intro H locs ls hW hS hls
  subst ha
  refine va_bald (D := gD G) C.1 C.2.1 C.2.2.2.2.2.1 hW.2.2 k 2 (n := n) (f := fun i => iI (row i)) (by rw [wsO_get hk, he]; rfl) rfl (iI_in h0 h1 hn) d ?_
  rw [iI_clamp h0 ⟨by omega, by omega⟩]
  exact kk H locs ls hW hS hls
theorem r_aald4 {a0 : Nat} {k n a : Nat} {f : Nat → Option Nat} {j : Int} (C : Cx G X own cc) (d : decode cc pc = .ok (.aaload, 1)) (ha : ad G k = a0) (hk : k < N) (he : h k = arR (gA G 4) n f) (h0 : 0 ≤ j) (h1 : j < n) (hn : (n : Int) ≤ 2147483647) (hf : f j.toNat = some a) (kk : AtH G X cells slots (pc + 1) lv (.ref a :: st) N h) : AtH G X cells slots pc lv (vI j :: .ref a0 :: st) N h := by
  obtain ⟨p, l, e, R, s, m, args, below, meth, c, Q, nL⟩ := X
  intro H locs ls hW hS hls
  subst ha
  refine va_aldq (D := gD G) C.1 C.2.1 C.2.2.2.2.2.1 hW.2.2 k 4 (n := n) (f := f) (C := R4) (by rw [wsO_get hk, he]; rfl) rfl (iI_in h0 h1 hn) d ?_
  rw [iI_clamp h0 ⟨by omega, by omega⟩, hf]
  exact kk H locs ls hW hS hls
theorem r_aald5 {a0 : Nat} {k n a : Nat} {f : Nat → Option Nat} {j : Int} (C : Cx G X own cc) (d : decode cc pc = .ok (.aaload, 1)) (ha : ad G k = a0) (hk : k < N) (he : h k = arR (gA G 5) n f) (h0 : 0 ≤ j) (h1 : j < n) (hn : (n : Int) ≤ 2147483647) (hf : f j.toNat = some a) (kk : AtH G X cells slots (pc + 1) lv (.ref a :: st) N h) : AtH G X cells slots pc lv (vI j :: .ref a0 :: st) N h := by
  obtain ⟨p, l, e, R, s, m, args, below, meth, c, Q, nL⟩ := X
  intro H locs ls hW hS hls
  subst ha
  refine va_aldq (D := gD G) C.1 C.2.1 C.2.2.2.2.2.1 hW.2.2 k 5 (n := n) (f := f) (C := R1) (by rw [wsO_get hk, he]; rfl) rfl (iI_in h0 h1 hn) d ?_
  rw [iI_clamp h0 ⟨by omega, by omega⟩, hf]
  exact kk H locs ls hW hS hls
theorem r_alen2 {a0 : Nat} {k n : Nat} {row : Nat → Int} (C : Cx G X own cc) (d : decode cc pc = .ok (.arraylength, 1)) (ha : ad G k = a0) (hk : k < N) (he : h k = arI (gA G 2) n row) (kk : AtH G X cells slots (pc + 1) lv (vI (n : Int) :: st) N h) : AtH G X cells slots pc lv (.ref a0 :: st) N h := by
  obtain ⟨p, l, e, R, s, m, args, below, meth, c, Q, nL⟩ := X
  intro H locs ls hW hS hls
  subst ha
  exact va_alen (D := gD G) (x := (n, .inl (fun i => iI (row i)))) (v := iI (n : Int)) (cA := gA G 2) C.1 C.2.1 C.2.2.2.2.2.1 hW.2.2 k 2 (by rw [wsO_get hk, he]; rfl) rfl (iI_nI n) d (kk H locs ls hW hS hls)
theorem arI_up {cA : ClassId} {n : Nat} {row : Nat → Int} {j z : Int} (h0 : 0 ≤ j) (hj : rg j) : ((Sum.inl (cA, n, .inl (upd (fun i => iI (row i)) (iI j).toNatClampNeg (iI z)))) : va_E) = arI cA n (updI row j.toNat z) := by
  unfold arI
  congr 4
  funext q
  rw [iI_clamp h0 hj]
  unfold upd updI
  split <;> rfl
/-- array writes -/
theorem r_iast {a0 : Nat} {k n : Nat} {row : Nat → Int} {j z : Int} (C : Cx G X own cc) (d : decode cc pc = .ok (.iastore, 1)) (ha : ad G k = a0) (hk : k < N) (he : h k = arI (gA G 0) n row) (h0 : 0 ≤ j) (h1 : j < n) (hn : (n : Int) ≤ 2147483647) (kk : AtH G X cells slots (pc + 1) lv st N (upH h k (arI (gA G 0) n (updI row j.toNat z)))) : AtH G X cells slots pc lv (vI z :: vI j :: .ref a0 :: st) N h := by
  obtain ⟨p, l, e, R, s, m, args, below, meth, c, Q, nL⟩ := X
  intro H locs ls hW hS hls
  subst ha
  have h9 := hW.at hk
  rw [he] at h9
  have hin := iI_in h0 h1 hn
  refine W.iast (cell := arrV (gA G 0) n (fun i => .int (iI (row i)))) C.1 C.2.1 h9 ((C.2.2.2.2.2.1.2 0 _ rfl).1 n (fun j => .int (iI (row j)))) (fun q => by cases q) (by rw [arrV_size]; exact hin) rfl rfl d fun H1 e z1 oq => ?_
  refine kk H1 _ ls (hW.put hk z1 ?_ oq) (hS.put z1 oq (gR_ad hW.1.1.1)) hls
  show H1[ad G k]? = some (vp_cell _ _)
  rw [e, vp_cell_i, arrV_store]
  congr 2
  funext q
  rw [iI_clamp h0 ⟨by omega, by omega⟩]
  by_cases hq : q = j.toNat
  · simp [updV, updI, hq]
  · simp [updV, updI, hq]
theorem r_bast {a0 : Nat} {k n : Nat} {row : Nat → Int} {j z : Int} (C : Cx G X own cc) (d : decode cc pc = .ok (.bastore, 1)) (ha : ad G k = a0) (hk : k < N) (he : h k = arI (gA G 2) n row) (h0 : 0 ≤ j) (h1 : j < n) (hn : (n : Int) ≤ 2147483647) (kk : AtH G X cells slots (pc + 1) lv st N (upH h k (arI (gA G 2) n (updI row j.toNat (wB z))))) : AtH G X cells slots pc lv (vI z :: vI j :: .ref a0 :: st) N h := by
  obtain ⟨p, l, e, R, s, m, args, below, meth, c, Q, nL⟩ := X
  intro H locs ls hW hS hls
  subst ha
  have h9 := hW.at hk
  rw [he] at h9
  have hin := iI_in h0 h1 hn
  refine W.bast (cell := arrV (gA G 2) n (fun i => .int (iI (row i)))) C.1 C.2.1 h9 ((C.2.2.2.2.2.1.2 2 _ rfl).1 n (fun j => .int (iI (row j)))) (fun q => by cases q) (by rw [arrV_size]; exact hin) rfl rfl d fun H1 e z1 oq => ?_
  refine kk H1 _ ls (hW.put hk z1 ?_ oq) (hS.put z1 oq (gR_ad hW.1.1.1)) hls
  show H1[ad G k]? = some (vp_cell _ _)
  rw [e, vp_cell_i, arrV_store]
  congr 2
  funext q
  rw [iI_clamp h0 ⟨by omega, by omega⟩]
  have e8 : narrow .byte (.int (iI z)) = .int (iI (wB z)) := by rw [narrow_byte, iI_i2b]
  by_cases hq : q = j.toNat
  · simp only [updV, updI, hq, if_true]
    first | exact e8 | (rw [← iI_i2b])
  · simp [updV, updI, hq]
theorem r_zast {a0 : Nat} {k n : Nat} {row : Nat → Int} {j z : Int} (C : Cx G X own cc) (d : decode cc pc = .ok (.bastore, 1)) (ha : ad G k = a0) (hk : k < N) (he : h k = arI (gA G 1) n row) (h0 : 0 ≤ j) (h1 : j < n) (hn : (n : Int) ≤ 2147483647) (hz : z = 0 ∨ z = 1) (kk : AtH G X cells slots (pc + 1) lv st N (upH h k (arI (gA G 1) n (updI row j.toNat z)))) : AtH G X cells slots pc lv (vI z :: vI j :: .ref a0 :: st) N h := by
  obtain ⟨p, l, e, R, s, m, args, below, meth, c, Q, nL⟩ := X
  intro H locs ls hW hS hls
  subst ha
  have h9 := hW.at hk
  rw [he] at h9
  have hin := iI_in h0 h1 hn
  refine W.zast (cell := arrV (gA G 1) n (fun i => .int (iI (row i)))) C.1 C.2.1 h9 ((C.2.2.2.2.2.1.2 1 _ rfl).1 n (fun j => .int (iI (row j)))) (fun q => by cases q) (by rw [arrV_size]; exact hin) rfl rfl d fun H1 e z1 oq => ?_
  refine kk H1 _ ls (hW.put hk z1 ?_ oq) (hS.put z1 oq (gR_ad hW.1.1.1)) hls
  show H1[ad G k]? = some (vp_cell _ _)
  rw [e, vp_cell_i, arrV_store]
  congr 2
  funext q
  rw [iI_clamp h0 ⟨by omega, by omega⟩]
  have e8 : narrow .boolean (.int (iI z)) = .int (iI z) := by rcases hz with e | e <;> subst e <;> rfl
  by_cases hq : q = j.toNat
  · simp only [updV, updI, hq, if_true]
    first | exact e8 | rfl
  · simp [updV, updI, hq]
/-- a call by the receiver's class; it may throw what this method hands on -/
theorem r_callV {a0 : Nat} {idx kk0 nLy n dy mc ms d0 mc0 ms0 : Nat} {y : MethodName} {ccy : ByteArray} {ret ret0 : Option FieldType} {As rest st0 : List Value} {post : Option Value → Nat → HT → Prop} {postX : String → Nat → HT → Prop} {p0 : Option Value → Nat → HT → Prop} {pX0 : String → Nat → HT → Prop} {ci : Nat} {fs : List Value}
    (C : Cx G X own cc) (M : Mx G X d0 mc0 ms0 ret0 p0 pX0) (d : decode cc pc = .ok (.invokevirtual idx, 3)) (wl : .methodLink own idx y ∈ LW) (wy : YV y ccy nLy ret n) (hE : EvH G (xl X) y ccy nLy ret dy mc ms (.ref a0 :: As) N h post postX) (hst : st0 = As.reverse ++ .ref a0 :: rest) (hn : As.length = n) (ha : ad G kk0 = a0) (hk : kk0 < N) (he : h kk0 = .inr (ci, fs)) (hci : (cls7[ci]?).map (fun q => q.1) = some y.cls)
    (hcat : (rest.map fun v => v.category).sum ≤ 8) (hd : dy + 1 ≤ d0) (hnl : nLy ≤ 21) (hmc : cells + mc ≤ mc0) (hms : slots + ms ≤ ms0)
    (hx : ∀ (E : String) (N' : Nat) (h' : HT), postX E N' h' → pX0 E N' h')
    (kk : ∀ (v : Option Value) (N' : Nat) (h' : HT), post v N' h' → AtH G X (cells + mc) (slots + ms) (pc + 3) lv (v.toList ++ rest) N' h') : AtH G X cells slots pc lv st0 N h := by
  obtain ⟨p, l, e, R, s, m, args, below, meth, c, Q, nL⟩ := X
  intro H locs ls hW hS hls
  subst ha
  obtain ⟨hR, hQ, -, htab⟩ := M
  subst hR
  obtain ⟨hexec, hb, hml, hown, hts, hK, hF, hlocks, -, hbs⟩ := C
  obtain ⟨w1, w2, w3, w4, w5, w6⟩ := wy
  have hcb : CallB (rmD d0 mc0 ms0) s args own idx y ccy nLy ret (.code y ccy nLy ret :: LW) (rmD dy mc ms) mc ms n := LW_callB hts wl w3 w4 w5 w6 (by show dy + 1 ≤ d0; exact hd) (by show 8 + (nLy + 11) + 40 * dy ≤ 40 * d0; omega)
  have hA : ∀ q, q < H.size → gR G q → gR G q := fun _ _ q => q
  have hwat := hW.at hk
  rw [he] at hwat
  obtain ⟨r9, hr9, cell9, q1, q2, q3, -⟩ := hwat
  have hcls : s.vm.findClass y.cls = some cell9.cls := by
    have h1 := (hK.1 ci r9 hr9).2.1
    rw [hr9] at hci
    have h2 : r9.1 = y.cls := Option.some.inj hci
    rw [← h2, q2]
    exact h1
  have hpre : PreV s H y.cls (ad G kk0) (PH G (.ref (ad G kk0) :: As) N h) As := by
    refine ⟨PH_blind, ⟨cell9, q1, by rw [q3]; rfl, hcls⟩, fun U hU hWm => ⟨rfl, by rw [hU]; exact hW, va_K.moved hWm.alike hK, ?_⟩⟩
    rw [hU]
    exact (hF.kept (fun a h1 h2 => hS.2.1 a h1 h2)).moved hWm
  have hrun := vx_runV (H := H) (locs := locs) (cells := cells) (slots := slots) (p := p) (e := e) (below := below) (meth := meth) (rest := rest) (As := As) (b := ad G kk0) (g := F0 m pc ls st0) ⟨hexec, hb, hml, hown, hts⟩ hE ⟨hcb, hts _ w1, hts _ w2⟩ hpre rfl hn hls.1 hst (lv_room hcat) d ⟨hmc, hms⟩
  intro T hT X0
  rcases hrun T hT X0 with ⟨v, st₀, t, T', L, h0, X', hL, e1, e2, ⟨v', N', h', hv, hp, hWd, hFr⟩, stp⟩ | ⟨q, st₀, t, T', L, E, ce, h0, X', hL, e1, e2, ⟨N', h', hp, hWd, hFr⟩, hce, hcv, hcl, stp⟩
  · cases hv
    obtain ⟨k1, k2, k3⟩ := vx_keep h0 e1 hS hA (fun _ q => q) hL hFr
    obtain ⟨t2, a1, b1⟩ := kk v N' h' hp T'.heap (locs ++ L) ls (by rw [e1]; exact hWd) k3 hls T' rfl X'
    exact ⟨t2, stp t2 a1, b1⟩
  · obtain ⟨k1, k2, k3⟩ := vx_keep h0 e1 hS hA (fun _ q => q) hL hFr
    subst hQ
    have hout := vx_out (p := p) (l := l) (e := e) (R := rmD d0 mc0 ms0) (args := args) (below := below) (Qc := QH G p0) (XC := XH G pX0) (meth := meth) (c := c) (pc := pc) (ls := ls) (rest := rest) (free := gR G) (m := m) (H := T'.heap) (locs := locs ++ L) (fun x hx9 => (htab x hx9).elim) hlocks (by rw [e1]; exact hce) hcv hcl (fun t9 ht9 hal9 => ⟨N', h', hx E N' h' hp, by rw [ht9, e1]; exact hWd, k3.F ht9⟩) k3.2.2 hmc hms
    obtain ⟨t2, a1, b1⟩ := hout T' rfl X'
    exact ⟨t2, stp.trans a1, b1⟩
/-- a call of a static method -/
theorem r_callS {idx nLy n dy mc ms d0 mc0 ms0 : Nat} {y : MethodName} {ccy : ByteArray} {ret ret0 : Option FieldType} {As rest st0 : List Value} {post : Option Value → Nat → HT → Prop} {postX : String → Nat → HT → Prop} {p0 : Option Value → Nat → HT → Prop} {pX0 : String → Nat → HT → Prop}
    (C : Cx G X own cc) (M : Mx G X d0 mc0 ms0 ret0 p0 pX0) (d : decode cc pc = .ok (.invokestatic idx, 3)) (wl : .methodLink own idx y ∈ LW) (wy : YS y ccy nLy ret n) (hE : EvH G (xl X) y ccy nLy ret dy mc ms As N h post postX) (hst : st0 = As.reverse ++ rest) (hn : As.length = n)
    (hcat : (rest.map fun v => v.category).sum ≤ 8) (hd : dy + 1 ≤ d0) (hnl : nLy ≤ 21) (hmc : cells + mc ≤ mc0) (hms : slots + ms ≤ ms0)
    (hx : ∀ (E : String) (N' : Nat) (h' : HT), postX E N' h' → pX0 E N' h')
    (kk : ∀ (v : Option Value) (N' : Nat) (h' : HT), post v N' h' → AtH G X (cells + mc) (slots + ms) (pc + 3) lv (v.toList ++ rest) N' h') : AtH G X cells slots pc lv st0 N h := by
  obtain ⟨p, l, e, R, s, m, args, below, meth, c, Q, nL⟩ := X
  intro H locs ls hW hS hls
  obtain ⟨hR, hQ, -, htab⟩ := M
  subst hR
  obtain ⟨hexec, hb, hml, hown, hts, hK, hF, hlocks, -, hbs⟩ := C
  obtain ⟨w2, w3, w4, w5, w6⟩ := wy
  have hcb : CallB (rmD d0 mc0 ms0) s args own idx y ccy nLy ret (.code y ccy nLy ret :: LW) (rmD dy mc ms) mc ms n := LW_callB hts wl w3 w4 w5 w6 (by show dy + 1 ≤ d0; exact hd) (by show 8 + (nLy + 11) + 40 * dy ≤ 40 * d0; omega)
  have hA : ∀ q, q < H.size → gR G q → gR G q := fun _ _ q => q
  have hpre : PreS s H (PH G As N h) As := by
    refine ⟨PH_blind, fun U hU hWm => ⟨rfl, by rw [hU]; exact hW, va_K.moved hWm.alike hK, ?_⟩⟩
    rw [hU]
    exact (hF.kept (fun a h1 h2 => hS.2.1 a h1 h2)).moved hWm
  have hrun := vx_runS (H := H) (locs := locs) (cells := cells) (slots := slots) (p := p) (e := e) (below := below) (meth := meth) (rest := rest) (As := As) (g := F0 m pc ls st0) ⟨hexec, hb, hml, hown, hts⟩ hE ⟨hcb, hts _ w2⟩ hpre rfl hn hls.1 hst (lv_room hcat) d ⟨hmc, hms⟩
  intro T hT X0
  rcases hrun T hT X0 with ⟨v, st₀, t, T', L, h0, X', hL, e1, e2, ⟨v', N', h', hv, hp, hWd, hFr⟩, stp⟩ | ⟨q, st₀, t, T', L, E, ce, h0, X', hL, e1, e2, ⟨N', h', hp, hWd, hFr⟩, hce, hcv, hcl, stp⟩
  · cases hv
    obtain ⟨k1, k2, k3⟩ := vx_keep h0 e1 hS hA (fun _ q => q) hL hFr
    obtain ⟨t2, a1, b1⟩ := kk v N' h' hp T'.heap (locs ++ L) ls (by rw [e1]; exact hWd) k3 hls T' rfl X'
    exact ⟨t2, stp t2 a1, b1⟩
  · obtain ⟨k1, k2, k3⟩ := vx_keep h0 e1 hS hA (fun _ q => q) hL hFr
    subst hQ
    have hout := vx_out (p := p) (l := l) (e := e) (R := rmD d0 mc0 ms0) (args := args) (below := below) (Qc := QH G p0) (XC := XH G pX0) (meth := meth) (c := c) (pc := pc) (ls := ls) (rest := rest) (free := gR G) (m := m) (H := T'.heap) (locs := locs ++ L) (fun x hx9 => (htab x hx9).elim) hlocks (by rw [e1]; exact hce) hcv hcl (fun t9 ht9 hal9 => ⟨N', h', hx E N' h' hp, by rw [ht9, e1]; exact hWd, k3.F ht9⟩) k3.2.2 hmc hms
    obtain ⟨t2, a1, b1⟩ := hout T' rfl X'
    exact ⟨t2, stp.trans a1, b1⟩
/-- the ends -/
theorem r_iret {d0 mc0 ms0 : Nat} {ty : FieldType} {post : Option Value → Nat → HT → Prop} {postX : String → Nat → HT → Prop} {z : Int} (C : Cx G X own cc) (M : Mx G X d0 mc0 ms0 (some ty) post postX) (d : decode cc pc = .ok (.ireturn, 1)) (hn : narrow ty (vI z) = vI z) (hmc : cells ≤ mc0) (hms : slots ≤ ms0) (hp : post (some (vI z)) N h) : AtH G X cells slots pc lv [vI z] N h := by
  obtain ⟨p, l, e, R, s, m, args, below, meth, c, Q, nL⟩ := X
  intro H locs ls hW hS hls
  obtain ⟨hR, hQ, hr, -⟩ := M
  have hlocks : meth.locks = false := C.2.2.2.2.2.2.2.1
  subst hQ
  refine W.widen hmc hms (vx_ret ?_)
  exact W.zret C.1 C.2.1 hr hn (fun t ht hW9 => ⟨_, N, h, rfl, hp, by rw [ht]; exact hW, hS.F ht⟩) hS.2.2 d hlocks
theorem r_vret {d0 mc0 ms0 : Nat} {post : Option Value → Nat → HT → Prop} {postX : String → Nat → HT → Prop} (C : Cx G X own cc) (M : Mx G X d0 mc0 ms0 none post postX) (d : decode cc pc = .ok (.return_, 1)) (hmc : cells ≤ mc0) (hms : slots ≤ ms0) (hp : post none N h) : AtH G X cells slots pc lv [] N h := by
  obtain ⟨p, l, e, R, s, m, args, below, meth, c, Q, nL⟩ := X
  intro H locs ls hW hS hls
  obtain ⟨hR, hQ, hr, -⟩ := M
  have hlocks : meth.locks = false := C.2.2.2.2.2.2.2.1
  subst hQ
  refine W.widen hmc hms (vx_ret ?_)
  exact W.vret C.1 C.2.1 hr (fun t ht hW9 => ⟨none, N, h, rfl, hp, by rw [ht]; exact hW, hS.F ht⟩) hS.2.2 d hlocks
end
/-- a contract out of a body's walk -/
theorem ev_of {G : GT} {l : Launch} {y : MethodName} {cc : ByteArray} {nL : Nat} {ret : Option FieldType} {d mc ms : Nat} {av : List Value} {N : Nat} {h : HT} {post : Option Value → Nat → HT → Prop} {postX : String → Nat → HT → Prop} (hlt : l.stackTraces = false) (hy : plainName y.cls = true) (hlen : (lg_sl av).length ≤ nL) (hav : ∀ q ∈ lv_args 0 av, q.2.category = 1) (hnd : (lv_args 0 av).all (fun q => decide ((lv_args 0 av).lookup q.1 = some q.2)) = true ∨ True)
    (body : ∀ X : CT, xl X = l → xN X = nL → Cx G X y.cls cc → Mx G X d mc ms ret post postX → AtH G X 0 0 0 (lv_args 0 av) [] N h) : EvH G l y cc nL ret d mc ms av N h post postX := by
  refine vx_ofW hy rfl ?_
  intro p e s m args below meth c s₁ B hml ht hv
  obtain ⟨rfl, hW, hK, hF⟩ := hv
  have hts := atoms_spec (ws := .code y cc nL ret :: LW) B.pre
  have hl := lv_entry av hlen
  rw [lg_entry_eq]
  generalize (lg_sl av ++ List.replicate (nL - (lg_sl av).length) Slot.unset).toArray = ls at hl ⊢
  have hb9 : gB G ≤ s.heap.size := by have := hW.1; omega
  refine body (p, l, e, rmD d mc ms, s, m, av.toArray, below, meth, c, vx_MQ below (QH G post) (XH G postX) av.toArray s mc ms (gR G), nL) rfl rfl
    ⟨B.exec, B.bytes, hml, findClass_of_methodNamed B.named, fun w hw => hts w (List.mem_cons_of_mem _ hw), hK, hF, B.notSynchronized, hlt, hb9⟩ ⟨rfl, rfl, B.returns, ht⟩ s.heap [] ls hW va_S.rf ⟨hl.1, hl.2.1, fun i v hi => ?_⟩
  have hm : (i, v) ∈ lv_args 0 av := by
    clear hl hnd hav
    revert hi
    generalize lv_args 0 av = lw
    intro hi
    induction lw with
    | nil => simp at hi
    | cons a l9 ih =>
      rw [List.lookup_cons] at hi
      by_cases e9 : i = a.1
      · subst e9
        simp at hi
        subst hi
        exact List.mem_cons_self
      · have hb : (i == a.1) = false := by simp [e9]
        rw [hb] at hi
        exact List.mem_cons_of_mem _ (ih hi)
  exact ⟨hl.2.2 _ hm, hav _ hm⟩
