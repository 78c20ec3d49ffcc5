/-! new objects and arrays: the rows of constructors; calls over any room -/
abbrev xMe (X : CT) : Method := X.2.2.2.2.2.2.2.2.1
/-- cells lie one behind the other, and so do new ones -/
def gZ (G : GT) : Prop := gX G = true ∧ gC G = gB G
theorem gZ.ad {G : GT} (h : gZ G) {k : Nat} : ad G k = gB G + k := ad_z h.2
/-- a constructor's contract -/
abbrev EvC (G : GT) (l : Launch) (y : MethodName) (cc : ByteArray) (nL d mc ms : Nat) (av : List Value) (N : Nat) (h : HT) (post : Option Value → Nat → HT → Prop) (postX : String → Nat → HT → Prop) : Prop := EvH G l y cc nL none d mc ms av N h post postX
theorem evc_of {G : GT} {l : Launch} {y : MethodName} {cc : ByteArray} {nL d mc ms : Nat} {av : List Value} {N : Nat} {h : HT} {post : Option Value → Nat → HT → Prop} {postX : String → Nat → HT → Prop} (hlt : l.stackTraces = false) (hy : plainName y.cls = true) (hnm : y.name = "<init>") (hlen : (lg_sl av).length ≤ nL) (hav : ∀ q ∈ lv_args 0 av, q.2.category = 1)
    (body : ∀ X : CT, xl X = l → xN X = nL → Cx G X y.cls cc → Mx G X d mc ms none post postX → (xMe X).name = "<init>" → AtH G X 0 0 0 (lv_args 0 av) [] N h) : EvC G l y cc nL d mc ms av N h post postX := by
  refine vx_ofW hy rfl ?_
  intro p e s m args below meth c s₁ B hml ht hv
  obtain ⟨rfl, hW, hK, hF⟩ := hv
  have hts := atoms_spec (ws := .code y cc nL none :: LW) B.pre
  have hl := lv_entry av hlen
  rw [lg_entry_eq]
  generalize (lg_sl av ++ List.replicate (nL - (lg_sl av).length) Slot.unset).toArray = ls at hl ⊢
  have hb9 : gB G ≤ s.heap.size := hW.1.1.2
  have hin : meth.name = "<init>" := (name_of_methodNamed B.named B.method).1.trans hnm
  refine body (p, l, e, rmD d mc ms, s, m, av.toArray, below, meth, c, vx_MQ below (QH G post) (XH G postX) av.toArray s mc ms (gR G), nL) rfl rfl
    ⟨B.exec, B.bytes, hml, findClass_of_methodNamed B.named, fun w hw => hts w (List.mem_cons_of_mem _ hw), hK, hF, B.notSynchronized, hlt, hb9⟩ ⟨rfl, rfl, B.returns, ht⟩ hin s.heap [] ls hW va_S.rf ⟨hl.1, hl.2.1, fun i v hi => ?_⟩
  have hm : (i, v) ∈ lv_args 0 av := by
    clear hl hav
    revert hi
    generalize lv_args 0 av = lw
    intro hi
    induction lw with
    | nil => simp at hi
    | cons a l9 ih =>
      rw [List.lookup_cons] at hi
      by_cases e9 : i = a.1
      · subst e9
        simp at hi
        subst hi
        exact List.mem_cons_self
      · have hb : (i == a.1) = false := by simp [e9]
        rw [hb] at hi
        exact List.mem_cons_of_mem _ (ih hi)
  exact ⟨hl.2.2 _ hm, hav _ hm⟩
theorem upH_s (h : HT) (k : Nat) (e : va_E) : upH h k e k = e := if_pos rfl
theorem upH_n {h : HT} {k j : Nat} {e : va_E} (hn : j ≠ k) : upH h k e j = h j := if_neg hn
theorem Mx.room {G : GT} {X : CT} {d mc ms : Nat} {ret : Option FieldType} {post : Option Value → Nat → HT → Prop} {postX : String → Nat → HT → Prop} (M : Mx G X d mc ms ret post postX) : xR X = rmD d mc ms := by
  obtain ⟨p, l, e, R, s, m, args, below, meth, c, Q, nL⟩ := X
  exact M.1
theorem Wd.push {G : GT} {N : Nat} {h : HT} {e : va_E} {H H1 : Heap} (hX : gX G = true) (hq : gC G = gB G ∨ 148 ≤ N) (hW : Wd G N h H) (z : H1.size = H.size + 1) (o : ∀ q : Nat, q < H.size → H1[q]? = H[q]?) (he : va_at (gD G) cls7 (ad G N, e) H1) : Wd G (N + 1) (upH h N e) H1 := by
  have hs := hW.2.1 hX
  have hz : ad G (N + 1) = ad G N + 1 := by
    rcases hq with q | q
    · rw [ad_z q, ad_z q]; omega
    · rw [ad_hi (by omega), ad_hi q]; omega
  refine ⟨⟨⟨hW.1.1.1, by have := hW.1.1.2; omega⟩, hW.1.2.1.kept (fun k x hx => o x.1 ((hW.1.2.1 k x hx).lt)), hW.1.2.2⟩, fun _ => by omega, ?_⟩
  rw [← wsO_push]
  refine (hW.2.2.kept (fun k x hx => o x.1 ((hW.2.2 k x hx).lt))).app (fun k x hx => ?_)
  have hz : k < 1 := (List.getElem?_eq_some_iff.mp hx).1
  rw [show k = 0 by omega] at hx
  cases hx
  exact he
theorem hS_push {A : Nat → Prop} {H0 H H1 : Heap} {locs : List Loc} (hS : va_S A H0 H locs) (z : H1.size = H.size + 1) (o : ∀ q : Nat, q < H.size → H1[q]? = H[q]?) : va_S A H0 H1 locs := ⟨Nat.le_trans hS.1 (by omega), fun x h1 h2 => (o x (Nat.lt_of_lt_of_le h1 hS.1)).trans (hS.2.1 x h1 h2), hS.2.2⟩
theorem wOI : .instanceMethod objectInit ∈ LW ∧ .code objectInit ⟨#[0xb1]⟩ 1 none ∈ LW := ⟨LW_i 59 (by decide +kernel) (by decide +kernel), LW_i 60 (by decide +kernel) (by decide +kernel)⟩
theorem wA_int : .arrayClass .int ∈ LW := LW_i 124 (by decide +kernel) (by decide +kernel)
theorem wA_boolean : .arrayClass .boolean ∈ LW := LW_i 125 (by decide +kernel) (by decide +kernel)
theorem wA_byte : .arrayClass .byte ∈ LW := LW_i 98 (by decide +kernel) (by decide +kernel)
section
variable {G : GT} {X : CT} {cells slots pc N : Nat} {lv : List (Nat × Value)} {st : List Value} {h : HT} {own : String} {cc : ByteArray} {R0 : Room}
theorem AtH.wd {k n : Nat} (h1 : cells ≤ k) (h2 : slots ≤ n) (kk : AtH G X k n pc lv st N h) : AtH G X cells slots pc lv st N h := by
  obtain ⟨p, l, e, R, s, m, args, below, meth, c, Q, nL⟩ := X
  intro H locs ls hW hS hls
  exact W.widen h1 h2 (kk H locs ls hW hS hls)
theorem r_objInit {idx a : Nat} (C : Cx G X own cc) (hR : xR X = R0) (d : decode cc pc = .ok (.invokespecial idx, 3)) (hl : .methodLink own idx objectInit ∈ LW) (hcat : (st.map fun v => v.category).sum ≤ 8) (hf : 1 ≤ R0.frames) (hlo : 20 ≤ R0.locals) (kk : AtH G X cells slots (pc + 3) lv st N h) : AtH G X cells slots pc lv (.ref a :: st) N h := by
  obtain ⟨p, l, e, R, s, m, args, below, meth, c, Q, nL⟩ := X
  intro H locs ls hW hS hls
  subst hR
  have hr := lv_room (m := m) (pc := pc) (ls := ls) (rest := .ref a :: st) (st := st) hcat
  have hlo : 20 ≤ R.locals := hlo
  exact W.objInit C.1 C.2.1 C.2.2.2.1 (C.2.2.2.2.1 _ hl) (C.2.2.2.2.1 _ wOI.1) (C.2.2.2.2.1 _ wOI.2) rfl (hls.1.trans C.2.2.1.symm) rfl d hf (by omega) (kk H locs ls hW hS hls)
theorem r_newG {ik ci n : Nat} {K : String} {T : u_T} {fs : List Value} (hX : gX G = true) (hq : gC G = gB G ∨ 148 ≤ N) (C : Cx G X own cc) (hR : xR X = R0) (d : decode cc pc = .ok (.new ik, 3)) (o : OI ci K T n) (wl : .classLink own ik K ∈ LW) (wi : .instantiable K n ∈ LW) (wn : .initialized K ∈ LW) (hfs : ∀ j, j < n → defaultValue (tyO (T j).2.2.1) = vp_V fs j) (hc : cells + 1 ≤ R0.cells) (hs : slots + n ≤ R0.slots)
    (kk : AtH G X (cells + 1) (slots + n) (pc + 3) lv (.ref (ad G N) :: st) (N + 1) (upH h N (.inr (ci, fs)))) : AtH G X cells slots pc lv st N h := by
  obtain ⟨p, l, e, R, s, m, args, below, meth, c, Q, nL⟩ := X
  intro H locs ls hW hS hls
  subst hR
  have hKn := C.2.2.2.2.2.1.1 ci _ o.1
  have z := hW.2.1 hX
  refine W.newcK C.1 C.2.1 C.2.2.2.1 (C.2.2.2.2.1 _ wl) (C.2.2.2.2.1 _ wi) (C.2.2.2.2.1 _ wn) rfl d hc hs hKn.2.1 z fun H1 kC hkC e1 z1 o1 => ?_
  exact kk H1 locs ls (hW.push hX hq (by omega) (fun q hq => o1 q (by omega)) ⟨_, o.1, (u_born (fun k => tyO (T k).2.2.1) C.2.2.2.2.1 o.2.1 hKn hkC e1 o.2.2.1).to hfs⟩) (hS_push hS (by omega) (fun q hq => o1 q (by omega))) hls
theorem r_new {ik ci n : Nat} {K : String} {T : u_T} {fs : List Value} (hX : gZ G) (C : Cx G X own cc) (hR : xR X = R0) (d : decode cc pc = .ok (.new ik, 3)) (o : OI ci K T n) (wl : .classLink own ik K ∈ LW) (wi : .instantiable K n ∈ LW) (wn : .initialized K ∈ LW) (hfs : ∀ j, j < n → defaultValue (tyO (T j).2.2.1) = vp_V fs j) (hc : cells + 1 ≤ R0.cells) (hs : slots + n ≤ R0.slots)
    (kk : AtH G X (cells + 1) (slots + n) (pc + 3) lv (.ref (gB G + N) :: st) (N + 1) (upH h N (.inr (ci, fs)))) : AtH G X cells slots pc lv st N h :=
  r_newG hX.1 (Or.inl hX.2) C hR d o wl wi wn hfs hc hs (hX.ad.symm ▸ kk)
theorem r_newaG {atype : ArrayType} {ty : FieldType} {a n : Nat} {z : Int} {a0 : vp_A} (hX : gX G = true) (hq : gC G = gB G ∨ 148 ≤ N) (C : Cx G X own cc) (hR : xR X = R0) (d : decode cc pc = .ok (.newarray atype, 2)) (hty : newarray.typeOf atype = ty) (harr : .arrayClass ty ∈ LW) (ht : (tysG G)[a]? = some (gA G a, ty)) (hra : ∀ (U : State) (cA : ClassId), va_RA U cA ty → U.vm.findClass ("[" ++ ty.toString) = some cA) (he : ∀ cA : ClassId, vp_cell cA a0 = arrV cA n (fun _ => defaultValue ty))
    (hn : ¬ iI z < 0) (hN : (iI z).toNatClampNeg = n) (hby : n * componentBytes ty ≤ 536870912) (hc : cells + 1 ≤ R0.cells) (hs : slots + n ≤ R0.slots)
    (kk : AtH G X (cells + 1) (slots + n) (pc + 2) lv (.ref (ad G N) :: st) (N + 1) (upH h N (.inl (gA G a, a0)))) : AtH G X cells slots pc lv (vI z :: st) N h := by
  obtain ⟨p, l, e, R, s, m, args, below, meth, c, Q, nL⟩ := X
  intro H locs ls hW hS hls
  subst hR
  subst hty
  have z0 := hW.2.1 hX
  refine va_newaK C.1 C.2.1 (C.2.2.2.2.1 _ harr) rfl d rfl hn hN hby hc hs z0 fun H1 cA e1 z1 o1 hAr hNm => ?_
  have hcA : cA = gA G a := Option.some.inj (hNm.symm.trans (hra _ _ (C.2.2.2.2.2.1.2 a _ ht).2))
  subst hcA
  exact kk H1 locs ls (hW.push hX hq (by omega) (fun q hq => o1 q (by omega)) (by show H1[_]? = some (vp_cell _ _); rw [he]; exact e1)) (hS_push hS (by omega) (fun q hq => o1 q (by omega))) hls
theorem r_newa {atype : ArrayType} {ty : FieldType} {a n : Nat} {z : Int} {a0 : vp_A} (hX : gZ G) (C : Cx G X own cc) (hR : xR X = R0) (d : decode cc pc = .ok (.newarray atype, 2)) (hty : newarray.typeOf atype = ty) (harr : .arrayClass ty ∈ LW) (ht : (tysG G)[a]? = some (gA G a, ty)) (hra : ∀ (U : State) (cA : ClassId), va_RA U cA ty → U.vm.findClass ("[" ++ ty.toString) = some cA) (he : ∀ cA : ClassId, vp_cell cA a0 = arrV cA n (fun _ => defaultValue ty))
    (hn : ¬ iI z < 0) (hN : (iI z).toNatClampNeg = n) (hby : n * componentBytes ty ≤ 536870912) (hc : cells + 1 ≤ R0.cells) (hs : slots + n ≤ R0.slots)
    (kk : AtH G X (cells + 1) (slots + n) (pc + 2) lv (.ref (gB G + N) :: st) (N + 1) (upH h N (.inl (gA G a, a0)))) : AtH G X cells slots pc lv (vI z :: st) N h :=
  r_newaG hX.1 (Or.inl hX.2) C hR d hty harr ht hra he hn hN hby hc hs (hX.ad.symm ▸ kk)
theorem r_newI {n : Nat} {z : Int} (hX : gZ G) (C : Cx G X own cc) (hR : xR X = R0) (d : decode cc pc = .ok (.newarray .int, 2)) (hn : ¬ iI z < 0) (hN : (iI z).toNatClampNeg = n) (hby : n * 4 ≤ 536870912) (hc : cells + 1 ≤ R0.cells) (hs : slots + n ≤ R0.slots)
    (kk : AtH G X (cells + 1) (slots + n) (pc + 2) lv (.ref (gB G + N) :: st) (N + 1) (upH h N (arI (gA G 0) n (fun _ => 0)))) : AtH G X cells slots pc lv (vI z :: st) N h :=
  r_newa (a := 0) (ty := .int) hX C hR d rfl wA_int rfl (fun _ _ q => q) (fun _ => rfl) hn hN hby hc hs kk
theorem r_newZ {n : Nat} {z : Int} (hX : gZ G) (C : Cx G X own cc) (hR : xR X = R0) (d : decode cc pc = .ok (.newarray .boolean, 2)) (hn : ¬ iI z < 0) (hN : (iI z).toNatClampNeg = n) (hby : n * 1 ≤ 536870912) (hc : cells + 1 ≤ R0.cells) (hs : slots + n ≤ R0.slots)
    (kk : AtH G X (cells + 1) (slots + n) (pc + 2) lv (.ref (gB G + N) :: st) (N + 1) (upH h N (arI (gA G 1) n (fun _ => 0)))) : AtH G X cells slots pc lv (vI z :: st) N h :=
  r_newa (a := 1) (ty := .boolean) hX C hR d rfl wA_boolean rfl (fun _ _ q => q) (fun _ => rfl) hn hN hby hc hs kk
theorem r_newB {n : Nat} {z : Int} (hX : gZ G) (C : Cx G X own cc) (hR : xR X = R0) (d : decode cc pc = .ok (.newarray .byte, 2)) (hn : ¬ iI z < 0) (hN : (iI z).toNatClampNeg = n) (hby : n * 1 ≤ 536870912) (hc : cells + 1 ≤ R0.cells) (hs : slots + n ≤ R0.slots)
    (kk : AtH G X (cells + 1) (slots + n) (pc + 2) lv (.ref (gB G + N) :: st) (N + 1) (upH h N (arI (gA G 2) n (fun _ => 0)))) : AtH G X cells slots pc lv (vI z :: st) N h :=
  r_newa (a := 2) (ty := .byte) hX C hR d rfl wA_byte rfl (fun _ _ q => q) (fun _ => rfl) hn hN hby hc hs kk
theorem r_newOI {n : Nat} {z : Int} (hX : gX G = true) (hq : 148 ≤ N) (C : Cx G X own cc) (hR : xR X = R0) (d : decode cc pc = .ok (.newarray .int, 2)) (hn : ¬ iI z < 0) (hN : (iI z).toNatClampNeg = n) (hby : n * 4 ≤ 536870912) (hc : cells + 1 ≤ R0.cells) (hs : slots + n ≤ R0.slots)
    (kk : AtH G X (cells + 1) (slots + n) (pc + 2) lv (.ref (gC G + N) :: st) (N + 1) (upH h N (arI (gA G 0) n (fun _ => 0)))) : AtH G X cells slots pc lv (vI z :: st) N h :=
  r_newaG (a := 0) (ty := .int) hX (Or.inr hq) C hR d rfl wA_int rfl (fun _ _ q => q) (fun _ => rfl) hn hN hby hc hs (ad_hi hq ▸ kk)
theorem r_newOZ {n : Nat} {z : Int} (hX : gX G = true) (hq : 148 ≤ N) (C : Cx G X own cc) (hR : xR X = R0) (d : decode cc pc = .ok (.newarray .boolean, 2)) (hn : ¬ iI z < 0) (hN : (iI z).toNatClampNeg = n) (hby : n * 1 ≤ 536870912) (hc : cells + 1 ≤ R0.cells) (hs : slots + n ≤ R0.slots)
    (kk : AtH G X (cells + 1) (slots + n) (pc + 2) lv (.ref (gC G + N) :: st) (N + 1) (upH h N (arI (gA G 1) n (fun _ => 0)))) : AtH G X cells slots pc lv (vI z :: st) N h :=
  r_newaG (a := 1) (ty := .boolean) hX (Or.inr hq) C hR d rfl wA_boolean rfl (fun _ _ q => q) (fun _ => rfl) hn hN hby hc hs (ad_hi hq ▸ kk)
theorem arrV_ext {cA : ClassId} {n : Nat} {f g : Nat → Value} (h : ∀ j, j < n → f j = g j) : arrV cA n f = arrV cA n g := by
  unfold arrV
  congr 1
  apply Array.ext
  · simp
  · intro j h1 h2
    simp only [Array.getElem_ofFn]
    exact h j (by simpa using h1)
theorem r_anewa {ik a n : Nat} {K : String} {z : Int} {f : Nat → Option Nat} (hX : gZ G) (C : Cx G X own cc) (hR : xR X = R0) (hO : ∀ s : State, SF G s s.heap → va_AO K s) (d : decode cc pc = .ok (.anewarray ik, 3)) (wl : .classLink own ik K ∈ LW) (ht : (tysG G)[a]? = some (gA G a, .object K)) (hn : ¬ iI z < 0) (hN : (iI z).toNatClampNeg = n) (hby : n * 4 ≤ 536870912) (hc : cells + 1 ≤ R0.cells) (hs : slots + n ≤ R0.slots) (hf : ∀ j, j < n → f j = none)
    (kk : AtH G X (cells + 1) (slots + n) (pc + 3) lv (.ref (gB G + N) :: st) (N + 1) (upH h N (arR (gA G a) n f))) : AtH G X cells slots pc lv (vI z :: st) N h := by
  obtain ⟨p, l, e, R, s, m, args, below, meth, c, Q, nL⟩ := X
  intro H locs ls hW hS hls
  subst hR
  subst hN
  have z0 : H.size = gB G + N := (hW.2.1 hX.1).trans hX.ad
  refine W.anew C.1 C.2.1 C.2.2.2.1 (C.2.2.2.2.1 _ wl) (va_AO.use (hO s C.2.2.2.2.2.2.1)) rfl d rfl hn hby hc hs fun cA kA comp f1 f2 f3 f4 => ?_
  generalize hH1 : H.push ({ cls := cA, slots := Array.replicate (iI z).toNatClampNeg .null, vm := .none } : Cell) = H1
  have z1 : H1.size = H.size + 1 := by rw [← hH1, Array.size_push]
  have e1 : H1[H.size]? = some (arrV cA (iI z).toNatClampNeg (fun _ => .null)) := by rw [← hH1, Array.getElem?_push_size, ← arrV_new]
  have o1 : ∀ q : Nat, q < H.size → H1[q]? = H[q]? := fun q hq => by rw [← hH1, Array.getElem?_push, if_neg (Nat.ne_of_lt hq)]
  obtain ⟨kA9, comp9, g1, g2, g3, g4⟩ := (C.2.2.2.2.2.1.2 a _ ht).2
  have hcA : cA = gA G a := Option.some.inj (f1.symm.trans g4)
  subst hcA
  refine (z0 ▸ kk H1 locs ls (hW.push hX.1 (Or.inl hX.2) z1 o1 ?_) (hS_push hS z1 o1) hls)
  show H1[ad G N]? = some (vp_cell _ _)
  rw [vp_cell_q, hX.ad, ← z0, e1]
  congr 1
  exact arrV_ext (fun j hj => by rw [hf j hj]; rfl)
/-- putfield of a final field, in a constructor -/
theorem r_pfF {a0 : Nat} {idx k ci n sl : Nat} {T : u_T} {K : String} {fs : List Value} {v : Value} {ty : FieldType} (C : Cx G X own cc) (hin : (xMe X).name = "<init>") (d : decode cc pc = .ok (.putfield idx, 3)) (ha : ad G k = a0) (hk : k < N) (he : h k = .inr (ci, fs)) (o : OI ci K T n) (hsl : sl < n) (hl : .fieldLink own idx (T sl).1 (T sl).2.1 (T sl).2.2.1 ∈ LW) (hfin : (T sl).2.2.2 = true) (hdecl : (T sl).1 = own) (hd : parseFieldDescriptor (T sl).2.2.1 = some ty) (hn : narrow ty v = v) (hfit : fits ty v = true) (hlen : sl < fs.length)
    (kk : AtH G X cells slots (pc + 3) lv st N (upH h k (.inr (ci, fs.set sl v)))) : AtH G X cells slots pc lv (v :: .ref a0 :: st) N h := by
  obtain ⟨p, l, e, R, s, m, args, below, meth, c, Q, nL⟩ := X
  intro H locs ls hW hS hls
  subst ha
  obtain ⟨hx, hb, hml, hown, hts, hK, -⟩ := C
  have hap := va_apart (own := own) hts o.2.1 (fun k => tyO (T k).2.2.1) o.2.2.1 o.2.2.2 hK o.1
  have h9 := hW.at hk
  rw [he] at h9
  obtain ⟨r, h1, cell, q1, q2, q3, q4⟩ := h9
  have hr : r = (K, T, n) := Option.some.inj (h1.symm.trans o.1)
  subst hr
  obtain ⟨hSl, hfc, kC, hkC, hkind⟩ := hK.1 ci _ o.1
  obtain ⟨cf, kf, fi, f, hi, hsl2⟩ := hSl sl hsl
  have hlay := hts _ (o.2.1 _ (u_in_lay hsl))
  unfold u_lay at hlay
  rw [if_pos hfin] at hlay
  have hst := (u_facts hfc hkC (u_lays hts o.2.1 hsl) hi).1
  have hcf : m.cls = cf := by
    obtain ⟨_, _, c', _, _, _, -, -, hf', -, -, -, hown2, -⟩ := Cond.laysFinal_spec hlay
    have e1 : c' = cf := by have := hi.symm.trans hf'; simp at this; exact this.1.symm
    rw [hdecl] at hown2
    rw [← e1]; exact Option.some.inj (hown.symm.trans hown2)
  have h6 := u_fits hfc hkC hkind (Or.inr hlay) hi hd hn hfit
  refine W.putFinK hx hb hown (hts _ hl) hi hst hcf hin (by rw [q2]; exact h6) q1 q3 (by rw [hsl2]; exact k2_hasslot (q4 sl hsl)) rfl rfl d fun H' e1 e2 e3 => ?_
  rw [hsl2] at e1 ⊢
  exact kk H' _ ls (hW.put hk e2 ⟨_, o.1, t_OB.to (V := updV (vp_V fs) sl v) ⟨_, e1, q2, q3, t_set q4 hap hsl v⟩ (fun j _ => vp_updV_set hlen v j)⟩ e3) (hS.put e2 e3 (gR_ad hW.1.1.1)) hls
/-- a reference into a row of references -/
theorem r_aast {a1 a2 : Nat} {a k kv ci n nT : Nat} {K : String} {T : u_T} {f : Nat → Option Nat} {vs : List Value} {j : Int} (C : Cx G X own cc) (d : decode cc pc = .ok (.aastore, 1)) (ha : ad G k = a1) (hk : k < N) (he : h k = arR (gA G a) n f) (ht : (tysG G)[a]? = some (gA G a, .object K)) (hav : ad G kv = a2) (hkv : kv < N) (hev : h kv = .inr (ci, vs)) (o : OI ci K T nT) (h0 : 0 ≤ j) (h1 : j < n) (hn : (n : Int) ≤ 2147483647)
    (kk : AtH G X cells slots (pc + 1) lv st N (upH h k (arR (gA G a) n (va_up f j.toNat (some a2))))) : AtH G X cells slots pc lv (.ref a2 :: vI j :: .ref a1 :: st) N h := by
  obtain ⟨p, l, e, R, s, m, args, below, meth, c, Q, nL⟩ := X
  intro H locs ls hW hS hls
  subst ha
  subst hav
  have h9 := hW.at hk
  rw [he] at h9
  have hin := iI_in h0 h1 hn
  have hK := C.2.2.2.2.2.1
  have h8 := hW.at hkv
  rw [hev] at h8
  obtain ⟨r', hr', cellV, g1, g2, g3, -⟩ := h8
  have hcls := (hK.1 ci _ o.1).2
  obtain ⟨kA, comp, k1, k2, k3, -⟩ := (hK.2 a _ ht).2
  have hcomp : comp = (gD G).1 ci := Option.some.inj (k3.symm.trans hcls.1)
  subst hcomp
  obtain ⟨kC, hkC, -⟩ := hcls.2
  refine W.aast (cell := arrV (gA G a) n (fun i => va_rf (f i))) C.1 C.2.1 h9 (fun q z => by cases z) (fun z => by cases z) k1 k2 rfl hkC ⟨fun q => hin (Or.inl q), by rw [arrV_size]; exact Nat.not_le.mp fun q => hin (Or.inr q)⟩ g1 (fun q z => by rw [g3] at z; cases z) (by rw [g2]; exact hkC) (by rw [g2]; exact va_assign hcls) rfl rfl d fun H1 e z oq => ?_
  refine kk H1 _ ls (hW.put hk z ?_ oq) (hS.put z oq (gR_ad hW.1.1.1)) hls
  show H1[ad G k]? = some (vp_cell _ _)
  rw [e, vp_cell_q, arrV_store]
  congr 2
  funext q
  rw [iI_clamp h0 ⟨by omega, by omega⟩]
  by_cases hq : q = j.toNat
  · subst hq
    simp [updV, va_up, va_rf]
  · simp [updV, va_up, hq]
/-- a constructor is called -/
theorem q_callI {idx a0 nLy n dy mc ms : Nat} {y : MethodName} {ccy : ByteArray} {As rest st0 : List Value} {post : Option Value → Nat → HT → Prop} {postX : String → Nat → HT → Prop}
    (C : Cx G X own cc) (hR : xR X = R0) (d : decode cc pc = .ok (.invokespecial idx, 3)) (wl : .methodLink own idx y ∈ LW) (wy : YI y ccy nLy n) (hE : EvC G (xl X) y ccy nLy dy mc ms (.ref (a0) :: As) N h post postX) (hst : st0 = As.reverse ++ .ref (a0) :: rest) (hn : As.length = n)
    (hcat : (rest.map fun v => v.category).sum ≤ 8) (hd : dy + 1 ≤ R0.frames) (hlo : 8 + (nLy + 11) + 40 * dy ≤ R0.locals) (hmc : cells + mc ≤ R0.cells) (hms : slots + ms ≤ R0.slots)
    (hx : ∀ (E : String) (N' : Nat) (h' : HT), ¬ postX E N' h')
    (kk : ∀ (v : Option Value) (N' : Nat) (h' : HT), post v N' h' → AtH G X (cells + mc) (slots + ms) (pc + 3) lv (v.toList ++ rest) N' h') : AtH G X cells slots pc lv st0 N h := by
  obtain ⟨p, l, e, R, s, m, args, below, meth, c, Q, nL⟩ := X
  intro H locs ls hW hS hls
  subst hR
  obtain ⟨hexec, hb, hml, hown, hts, hK, hF, hlocks, -, hbs⟩ := C
  obtain ⟨w1, w3, w4, w5, w6, w7⟩ := wy
  have hcb : CallB R s args own idx y ccy nLy none (.code y ccy nLy none :: LW) (rmD dy mc ms) mc ms n := by
    refine ⟨rfl, rfl, hd, hlo, ?_, List.mem_cons_self, hts _ w4, hts _ w3, w5, fun sig h => ?_, hts _ wl⟩
    · intro w hw a' U hW
      have hm : w ∈ LW := by
        rcases List.mem_cons.mp hw with e | e
        · rw [e]; exact w4
        · exact e
      exact word_at hW (LW_good hm) (hts w hm)
    · rw [h] at w6
      exact (Option.some.inj w6).symm
  have hpre : PreS s H (PH G (.ref (a0) :: As) N h) (.ref (a0) :: As) := by
    refine ⟨PH_blind, fun U hU hWm => ⟨rfl, by rw [hU]; exact hW, va_K.moved hWm.alike hK, ?_⟩⟩
    rw [hU]
    exact (hF.kept (fun a h1 h2 => hS.2.1 a h1 h2)).moved hWm
  have hrun := vx_runI (H := H) (locs := locs) (cells := cells) (slots := slots) (p := p) (e := e) (below := below) (meth := meth) (rest := rest) (As := As) (b := a0) (g := F0 m pc ls st0) ⟨hexec, hb, hml, hown, hts⟩ hE ⟨hcb, w7, hts _ w1⟩ hpre rfl hn hls.1 hst (lv_room hcat) d ⟨hmc, hms⟩
  exact run_on hrun hS hx (fun v N' h' H1 locs1 hp hWd hS1 => kk v N' h' hp H1 locs1 ls hWd hS1 hls)
end
