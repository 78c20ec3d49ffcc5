/-! rows of the law's helpers: methods that catch -/
/-- the last cell's number, kept beside the array classes -/
def gO (G : GT) (z : Int) : GT := (gB G, gD G, (fun i => if i = 6 then (z + 2147483648).toNat else gA G i), gN G, gX G, gK G, gV G)
theorem cel_ext {b : Nat} {A A' : Nat → ClassId} {k : Nat} {r : Nat → Int} (hA : ∀ i, i < 6 → A' i = A i) (hk : k < 154) : celOf b A' k r = celOf b A k r := by
  have h0 := hA 0 (by omega)
  have h1 := hA 1 (by omega)
  have h2 := hA 2 (by omega)
  have h4 := hA 4 (by omega)
  have h5 := hA 5 (by omega)
  unfold celOf celSetup celPlan
  simp only [h0, h1, h2, h4, h5]
  by_cases c1 : k < 9
  · rw [if_pos c1, if_pos c1]
  · rw [if_neg c1, if_neg c1]
    by_cases c2 : k < 53
    · rw [if_pos c2, if_pos c2]
    · rw [if_neg c2, if_neg c2]
      by_cases c3 : k < 71
      · rw [if_pos c3, if_pos c3]
      · rw [if_neg c3, if_neg c3]
        by_cases c4 : k < 76
        · rw [if_pos c4, if_pos c4]
        · rw [if_neg c4, if_neg c4]
          by_cases c5 : k < 148
          · rw [if_pos c5, if_pos c5]
          · rw [if_neg c5, if_neg c5]
            by_cases d148 : k = 148
            · rw [if_pos d148, if_pos d148]
            · rw [if_neg d148, if_neg d148]
              by_cases d149 : k = 149
              · rw [if_pos d149, if_pos d149]
              · rw [if_neg d149, if_neg d149]
                by_cases d150 : k = 150
                · rw [if_pos d150, if_pos d150]
                · rw [if_neg d150, if_neg d150]
                  by_cases d151 : k = 151
                  · rw [if_pos d151, if_pos d151]
                  · rw [if_neg d151, if_neg d151]
                    by_cases d152 : k = 152
                    · rw [if_pos d152, if_pos d152]
                    · rw [if_neg d152, if_neg d152]
                      by_cases d153 : k = 153
                      · rw [if_pos d153, if_pos d153]
                      · rw [if_neg d153, if_neg d153]
                        exact absurd hk (by omega)
theorem hV_gO {G : GT} {z : Int} {V : VV} {k : Nat} (hk : k < 154) : hV (gO G z) V k = hV G V k := cel_ext (fun i hi => if_neg (by omega)) hk
theorem hV_gO_o {G : GT} {z : Int} {V : VV} (hz : -2147483648 ≤ z) : hV (gO G z) V 154 = arJ (gA G 3) 1 (updI (fun _ => 0) 0 z) := by
  show arJ (gA (gO G z) 3) 1 (updI (fun _ => 0) 0 (((gA (gO G z) 6 : Nat) : Int) - 2147483648)) = _
  have e3 : gA (gO G z) 3 = gA G 3 := by
    show (if (3 : Nat) = 6 then (z + 2147483648).toNat else gA G 3) = gA G 3
    exact if_neg (by omega)
  have e6 : gA (gO G z) 6 = (z + 2147483648).toNat := by
    show (if (6 : Nat) = 6 then (z + 2147483648).toNat else gA G 6) = _
    exact if_pos rfl
  rw [e3, e6, show (((z + 2147483648).toNat : Nat) : Int) - 2147483648 = z by omega]
theorem hV_last {G : GT} {V : VV} : hV G V 154 = arJ (gA G 3) 1 (updI (fun _ => 0) 0 (((gA G 6 : Nat) : Int) - 2147483648)) := rfl
theorem AtH.gO {G : GT} {X : CT} {cells slots pc N : Nat} {lv : List (Nat × Value)} {st : List Value} {h : HT} {z : Int} (k : AtH (gO G z) X cells slots pc lv st N h) : AtH G X cells slots pc lv st N h := by
  obtain ⟨p, l, e, R, s, m, args, below, meth, c, Q, nL⟩ := X
  exact k
theorem Cx.gO {G : GT} {X : CT} {own : String} {cc : ByteArray} {z : Int} (C : Cx G X own cc) : Cx (gO G z) X own cc := by
  obtain ⟨p, l, e, R, s, m, args, below, meth, c, Q, nL⟩ := X
  exact C
def Mw (G : GT) (X : CT) (d mc ms : Nat) (hh : List (Nat × Nat × Nat × Nat)) (post : Option Value → Nat → HT → Prop) : Prop :=
  match X with
  | (p, l, e, R, s, m, args, below, meth, c, Q, nL) => R = rmD d mc ms ∧ Q = vx_MQ below (QH G post) (XH G noH) args s mc ms (fun q => gB G ≤ q) ∧ meth.sig.returnType = some .int ∧ c.exceptionTable.toList = tableOf hh
/-- a helper's contract -/
def EvW (G : GT) (l : Launch) (y : MethodName) (cc : ByteArray) (nL : Nat) (hh : List (Nat × Nat × Nat × Nat)) (d mc ms : Nat) (av : List Value) (N : Nat) (h : HT) (post : Option Value → Nat → HT → Prop) : Prop :=
  vx_Met l y (.codeWith y cc nL (some .int) hh :: LW) (rmD d mc ms) (PHX G av N h) (QH G post) (XH G noH) mc ms (fun q => gB G ≤ q)
theorem evw_of {G : GT} {l : Launch} {y : MethodName} {cc : ByteArray} {nL d mc ms : Nat} {hh : List (Nat × Nat × Nat × Nat)} {av : List Value} {N : Nat} {h : HT} {post : Option Value → Nat → HT → Prop} (hlt : l.stackTraces = false) (hy : plainName y.cls = true) (hlen : (lg_sl av).length ≤ nL) (hav : ∀ q ∈ lv_args 0 av, q.2.category = 1)
    (body : ∀ X : CT, xl X = l → xN X = nL → Cx G X y.cls cc → Mw G X d mc ms hh post → XK (xS X) → AtH G X 0 0 0 (lv_args 0 av) [] N h) : EvW G l y cc nL hh d mc ms av N h post := by
  refine vx_ofWH hy rfl ?_
  intro p e s m args below meth c s₁ B hml hv
  obtain ⟨⟨rfl, hW, hK, hF⟩, hXK⟩ := hv
  have hts := atoms_spec (ws := .codeWith y cc nL (some .int) hh :: LW) B.pre
  have htab := vx_table (x := y) B (hts _ List.mem_cons_self)
  have hl := lv_entry av hlen
  rw [lg_entry_eq]
  generalize (lg_sl av ++ List.replicate (nL - (lg_sl av).length) Slot.unset).toArray = ls at hl ⊢
  have hb9 : gB G ≤ s.heap.size := by have := hW.1; omega
  refine body (p, l, e, rmD d mc ms, s, m, av.toArray, below, meth, c, vx_MQ below (QH G post) (XH G noH) av.toArray s mc ms (fun q => gB G ≤ q), nL) rfl rfl
    ⟨B.exec, B.bytes, hml, findClass_of_methodNamed B.named, fun w hw => hts w (List.mem_cons_of_mem _ hw), hK, hF, B.notSynchronized, hlt, hb9⟩ ⟨rfl, rfl, B.returns, htab⟩ hXK s.heap [] ls hW va_S.rf ⟨hl.1, hl.2.1, fun i v hi => ?_⟩
  have hm : (i, v) ∈ lv_args 0 av := by
    clear hl hav
    revert hi
    generalize lv_args 0 av = lw
    intro hi
    induction lw with
    | nil => simp at hi
    | cons a l9 ih =>
      rw [List.lookup_cons] at hi
      by_cases e9 : i = a.1
      · subst e9
        simp at hi
        subst hi
        exact List.mem_cons_self
      · have hb : (i == a.1) = false := by simp [e9]
        rw [hb] at hi
        exact List.mem_cons_of_mem _ (ih hi)
  exact ⟨hl.2.2 _ hm, hav _ hm⟩
theorem i2l_nrm (x : Int) : (iI x).toInt64 = Int64.ofInt (nrm x) := by
  have h := rg_nrm x
  apply Int64.toInt_inj.mp
  rw [Int32.toInt_toInt64, Int64.toInt_ofInt_of_le (by have := h.1; omega) (by have := h.2; omega)]
  rfl
/-- a handler that takes E: where it stands in the table -/
def HdL (own : String) (hh : List (Nat × Nat × Nat × Nat)) (pc : Nat) (E : String) (tgt : Nat) : Prop := ∃ (pre : List ExceptionTableEntry) (x : ExceptionTableEntry) (suf : List ExceptionTableEntry), tableOf hh = pre ++ x :: suf ∧ (∀ z ∈ pre, z.catchType ≠ 0 ∧ ∃ nm : String, .classLink own z.catchType nm ∈ LW ∧ (E, nm) ∈ NCs) ∧ covers x pc = true ∧ x.catchType ≠ 0 ∧ .classLink own x.catchType E ∈ LW ∧ E ∈ XWc ∧ x.handlerPc = tgt
section
variable {G : GT} {X : CT} {cells slots pc N : Nat} {lv : List (Nat × Value)} {st : List Value} {h : HT} {own : String} {cc : ByteArray} {V V1 : VV}
theorem r_i2l {x : Int} (C : Cx G X own cc) (d : decode cc pc = .ok (.i2l, 1)) (k : AtH G X cells slots (pc + 1) lv (.long (Int64.ofInt (nrm x)) :: st) N h) : AtH G X cells slots pc lv (vI x :: st) N h := by
  obtain ⟨p, l, e, R, s, m, args, below, meth, c, Q, nL⟩ := X
  intro H locs ls hW hS hls
  exact lv_i2l C.1 C.2.1 d (i2l_nrm x) (k H locs ls hW hS hls)
theorem r_lconst {n : Fin 2} {z : Int} (C : Cx G X own cc) (d : decode cc pc = .ok (.lconst n, 1)) (hz : Int64.ofNat (n : Nat) = Int64.ofInt z) (k : AtH G X cells slots (pc + 1) lv (.long (Int64.ofInt z) :: st) N h) : AtH G X cells slots pc lv st N h := by
  obtain ⟨p, l, e, R, s, m, args, below, meth, c, Q, nL⟩ := X
  intro H locs ls hW hS hls
  exact lv_lconst C.1 C.2.1 d hz (k H locs ls hW hS hls)
/-- the answer into the row of longs: kept in G -/
theorem v_last {z : Int} (hN : gN G = 155) (C : Cx G X own cc) (d : decode cc pc = .ok (.lastore, 1)) (hz : -2147483648 ≤ z) (kk : AtH G X cells slots (pc + 1) lv st (gN G) (hV (gO G z) V)) : At G X cells slots pc lv (.long (Int64.ofInt z) :: vI 0 :: .ref (gB G + 154) :: st) V := by
  refine r_last (k := 154) (n := 1) (row := updI (fun _ => 0) 0 (((gA G 6 : Nat) : Int) - 2147483648)) C d (by omega) rfl (by omega) (by omega) (by omega) (AtH.e (fun k hk => ?_) kk)
  by_cases e : k = 154
  · subst e
    have e9 : updI (updI (fun _ => 0) 0 (((gA G 6 : Nat) : Int) - 2147483648)) (0 : Int).toNat z = updI (fun _ => 0) 0 z := by
      funext i
      by_cases e : i = 0 <;> simp [updI, e]
    rw [upH_s, hV_gO_o hz, e9]
  · rw [upH_n e, hV_gO (by omega)]
theorem w_ret {d0 mc0 ms0 : Nat} {hh : List (Nat × Nat × Nat × Nat)} {post : Option Value → Nat → HT → Prop} {z : Int} (C : Cx G X own cc) (M : Mw G X d0 mc0 ms0 hh post) (d : decode cc pc = .ok (.ireturn, 1)) (hmc : cells ≤ mc0) (hms : slots ≤ ms0) (hp : post (some (vI z)) N h) : AtH G X cells slots pc lv [vI z] N h := by
  obtain ⟨p, l, e, R, s, m, args, below, meth, c, Q, nL⟩ := X
  intro H locs ls hW hS hls
  obtain ⟨hR, hQ, hr, -⟩ := M
  have hlocks : meth.locks = false := C.2.2.2.2.2.2.2.1
  subst hQ
  refine W.widen hmc hms (vx_ret ?_)
  exact W.zret C.1 C.2.1 hr rfl (fun t ht hW9 => ⟨_, N, h, rfl, hp, by rw [ht]; exact hW, hS.F ht⟩) hS.2.2 d hlocks
/-- the call that may throw -/
theorem w_callV {idx nLy n dy mc ms d0 mc0 ms0 : Nat} {y : MethodName} {ccy : ByteArray} {ret : Option FieldType} {As rest st0 : List Value} {e0 : Except String Int} {hh : List (Nat × Nat × Nat × Nat)} {post : Option Value → Nat → HT → Prop} {tg : String → Nat}
    (C : Cx G X own cc) (M : Mw G X d0 mc0 ms0 hh post) (hXK : XK (xS X)) (d : decode cc pc = .ok (.invokevirtual idx, 3)) (wl : .methodLink own idx y ∈ LW) (wy : YV y ccy nLy ret n) (rc : RC G 0 y.cls) (hE : EvX G (xl X) y ccy nLy ret dy mc ms (.ref (gB G + 0) :: As) V (oX e0) V1) (hst : st0 = As.reverse ++ .ref (gB G + 0) :: rest) (hn : As.length = n)
    (hcat : (rest.map fun v => v.category).sum ≤ 8) (hd : dy + 1 ≤ d0) (hnl : nLy ≤ 21) (hmc : cells + mc ≤ mc0) (hms : slots + ms ≤ ms0)
    (hx : ∀ E, e0 = .error E → HdL own hh pc E (tg E))
    (kx : ∀ (E : String) (a : Nat), e0 = .error E → At G X (cells + mc) (slots + ms) (tg E) lv [.ref a] V1)
    (kk : ∀ r, e0 = .ok r → At G X (cells + mc) (slots + ms) (pc + 3) lv (vI r :: rest) V1) : At G X cells slots pc lv st0 V := by
  obtain ⟨p, l, e, R, s, m, args, below, meth, c, Q, nL⟩ := X
  intro H locs ls hW hS hls
  obtain ⟨hR, hQ, -, htab⟩ := M
  subst hR
  obtain ⟨hexec, hb, hml, hown, hts, hK, hF, hlocks, -, hbs⟩ := C
  obtain ⟨w1, w2, w3, w4, w5, w6⟩ := wy
  obtain ⟨hk, ci, fs, cf, hci⟩ := rc
  have hcb : CallB (rmD d0 mc0 ms0) s args own idx y ccy nLy ret (.code y ccy nLy ret :: LW) (rmD dy mc ms) mc ms n := LW_callB hts wl w3 w4 w5 w6 (by show dy + 1 ≤ d0; exact hd) (by show 8 + (nLy + 11) + 40 * dy ≤ 40 * d0; omega)
  have hwat := hW.at hk
  rw [show hV G V 0 = .inr (ci, fs (V 0)) from cf _] at hwat
  obtain ⟨r9, hr9, cell9, q1, q2, q3, -⟩ := hwat
  have hcls : s.vm.findClass y.cls = some cell9.cls := by
    have h1 := (hK.1 ci r9 hr9).2.1
    rw [hr9] at hci
    have h2 : r9.1 = y.cls := Option.some.inj hci
    rw [← h2, q2]
    exact h1
  have hpre : PreV s H y.cls (gB G + 0) (PH G (.ref (gB G + 0) :: As) (gN G) (hV G V)) As := by
    refine ⟨PH_blind, ⟨cell9, q1, by rw [q3]; rfl, hcls⟩, fun U hU hWm => ⟨rfl, by rw [hU]; exact hW, va_K.moved hWm.alike hK, ?_⟩⟩
    rw [hU]
    exact (hF.kept (fun a h1 h2 => hS.2.1 a h1 h2)).moved hWm
  have hrun := vx_runV (H := H) (locs := locs) (cells := cells) (slots := slots) (p := p) (e := e) (below := below) (meth := meth) (rest := rest) (As := As) (b := gB G + 0) (g := F0 m pc ls st0) ⟨hexec, hb, hml, hown, hts⟩ hE ⟨hcb, hts _ w1, hts _ w2⟩ hpre rfl hn hls.1 hst (lv_room hcat) d ⟨hmc, hms⟩
  refine run_on hrun hS (fun E ce q9 N' h' H1 locs1 hp hWd hS1 hce hcv hcl => ?_) (fun v N' h' H1 locs1 hp hWd hS1 => ?_)
  · obtain ⟨p1, V', p2, p3, p4⟩ := hp
    subst p1; subst p2; subst p4
    have he : e0 = .error E := by
      cases e0 with
      | ok r => cases p3
      | error E2 => cases p3; rfl
    obtain ⟨pre, x, suf, g1, g2, g3, g4, g5, g6, g7⟩ := hx E he
    have hK9 := kx E q9 he H1 locs1 ls hWd hS1 hls
    rw [← g7] at hK9
    exact vx_catch hown pre x suf (htab.trans g1) (fun z hz => by
      obtain ⟨f1, nm, f2, f3⟩ := g2 z hz
      exact Or.inr ⟨f1, nm, hts _ f2, hXK.2.2 (E, nm) f3⟩) g3 g4 (hts _ g5) (va_any rfl (hF.2.2.2.2.2.2.2.2 E g6)) hce hcv hcl hK9
  · obtain ⟨p1, V', p2, p3, p4⟩ := hp
    subst p1; subst p2; subst p4
    cases e0 with
    | ok r =>
      cases p3
      exact kk r rfl H1 locs1 ls hWd hS1 hls
    | error E2 => cases p3
end
/-- what a helper leaves in the row of longs -/
def oGI (G : GT) (e : Except String Int) : GT := match e with | .ok r => gO G (nrm r) | .error _ => G
def oGZ (G : GT) (e : Except String Int) : GT := match e with | .ok r => gO G (if nrm r = 0 then 0 else 1) | .error _ => G
/-- a helper's end -/
abbrev QW (G G1 : GT) (z : Int) (V1 : VV) : Option Value → Nat → HT → Prop := fun v N' h' => v = some (vI z) ∧ N' = gN G ∧ h' = hV G1 V1
theorem hd1 {own : String} {a b t c : Nat} {hh : List (Nat × Nat × Nat × Nat)} {pc : Nat} {E : String} (h1 : a ≤ pc ∧ pc < b) (h2 : c ≠ 0) (h3 : .classLink own c E ∈ LW) (h4 : E ∈ XWc) : HdL own ((a, b, t, c) :: hh) pc E t := ⟨[], ⟨a, b, t, c⟩, tableOf hh, rfl, fun z hz => absurd hz List.not_mem_nil, by simp [covers, h1.1, h1.2], h2, h3, h4, rfl⟩
theorem hd2 {own E1 : String} {q1 : Nat × Nat × Nat × Nat} {a b t c : Nat} {hh : List (Nat × Nat × Nat × Nat)} {pc : Nat} {E : String} (h1 : a ≤ pc ∧ pc < b) (h2 : c ≠ 0) (h3 : .classLink own c E ∈ LW) (h4 : E ∈ XWc) (n1 : q1.2.2.2 ≠ 0) (m1 : .classLink own q1.2.2.2 E1 ∈ LW) (k1 : (E, E1) ∈ NCs) : HdL own (q1 :: (a, b, t, c) :: hh) pc E t := ⟨[⟨q1.1, q1.2.1, q1.2.2.1, q1.2.2.2⟩], ⟨a, b, t, c⟩, tableOf hh, rfl, fun z hz => by rw [List.mem_singleton.mp hz]; exact ⟨n1, E1, m1, k1⟩, by simp [covers, h1.1, h1.2], h2, h3, h4, rfl⟩
theorem hd3 {own E1 E2 : String} {q1 q2 : Nat × Nat × Nat × Nat} {a b t c : Nat} {hh : List (Nat × Nat × Nat × Nat)} {pc : Nat} {E : String} (h1 : a ≤ pc ∧ pc < b) (h2 : c ≠ 0) (h3 : .classLink own c E ∈ LW) (h4 : E ∈ XWc) (n1 : q1.2.2.2 ≠ 0) (m1 : .classLink own q1.2.2.2 E1 ∈ LW) (k1 : (E, E1) ∈ NCs) (n2 : q2.2.2.2 ≠ 0) (m2 : .classLink own q2.2.2.2 E2 ∈ LW) (k2 : (E, E2) ∈ NCs) : HdL own (q1 :: q2 :: (a, b, t, c) :: hh) pc E t := ⟨[⟨q1.1, q1.2.1, q1.2.2.1, q1.2.2.2⟩, ⟨q2.1, q2.2.1, q2.2.2.1, q2.2.2.2⟩], ⟨a, b, t, c⟩, tableOf hh, rfl, fun z hz => by
  rcases List.mem_cons.mp hz with q | q
  · rw [q]; exact ⟨n1, E1, m1, k1⟩
  · rw [List.mem_singleton.mp q]; exact ⟨n2, E2, m2, k2⟩, by simp [covers, h1.1, h1.2], h2, h3, h4, rfl⟩
/-- the handlers' places -/
def tgt1 (t : Nat) : String → Nat := fun _ => t
def tgt2 (E1 : String) (t1 t2 : Nat) : String → Nat := fun E => if E = E1 then t1 else t2
def tgt3 (E1 E2 : String) (t1 t2 t3 : Nat) : String → Nat := fun E => if E = E1 then t1 else if E = E2 then t2 else t3
theorem tgt2_1 {E1 : String} {t1 t2 : Nat} : tgt2 E1 t1 t2 E1 = t1 := if_pos rfl
theorem tgt2_2 {E E1 : String} {t1 t2 : Nat} (h : E ≠ E1) : tgt2 E1 t1 t2 E = t2 := if_neg h
theorem tgt3_1 {E1 E2 : String} {t1 t2 t3 : Nat} : tgt3 E1 E2 t1 t2 t3 E1 = t1 := if_pos rfl
theorem tgt3_2 {E1 E2 : String} {t1 t2 t3 : Nat} (h : E2 ≠ E1) : tgt3 E1 E2 t1 t2 t3 E2 = t2 := (if_neg h).trans (if_pos rfl)
theorem tgt3_3 {E E1 E2 : String} {t1 t2 t3 : Nat} (h : E ≠ E1) (h2 : E ≠ E2) : tgt3 E1 E2 t1 t2 t3 E = t3 := (if_neg h).trans (if_neg h2)
