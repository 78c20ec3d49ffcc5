/-! rows over numbered cells: the heap as numbers V k i -/
theorem celP_0 {b c : Nat} {A : Nat → ClassId} {p : Nat} (hp : p < 10) : ∀ r, celOf b c A (aP p) r = obPlan b (aP p) r := by
  intro r
  have : p = 0 ∨ p = 1 ∨ p = 2 ∨ p = 3 ∨ p = 4 ∨ p = 5 ∨ p = 6 ∨ p = 7 ∨ p = 8 ∨ p = 9 := by omega
  rcases this with h | h | h | h | h | h | h | h | h | h <;> subst h <;> rfl
theorem celP_I {b c : Nat} {A : Nat → ClassId} {p j : Nat} (hp : p < 10) (hj : j = 1 ∨ j = 3 ∨ j = 4) : ∀ r, celOf b c A (aP p + j) r = arI (A 0) 20 r := by
  intro r
  have : p = 0 ∨ p = 1 ∨ p = 2 ∨ p = 3 ∨ p = 4 ∨ p = 5 ∨ p = 6 ∨ p = 7 ∨ p = 8 ∨ p = 9 := by omega
  rcases hj with e | e | e <;> subst e <;> rcases this with h | h | h | h | h | h | h | h | h | h <;> subst h <;> rfl
theorem celP_Z {b c : Nat} {A : Nat → ClassId} {p : Nat} (hp : p < 10) : ∀ r, celOf b c A (aP p + 2) r = arI (A 1) 20 r := by
  intro r
  have : p = 0 ∨ p = 1 ∨ p = 2 ∨ p = 3 ∨ p = 4 ∨ p = 5 ∨ p = 6 ∨ p = 7 ∨ p = 8 ∨ p = 9 := by omega
  rcases this with h | h | h | h | h | h | h | h | h | h <;> subst h <;> rfl
theorem celP_J {b c : Nat} {A : Nat → ClassId} {p j : Nat} (hp : p < 10) (hj : j = 5 ∨ j = 7 ∨ j = 8) : ∀ r, celOf b c A (aP p + j) r = arI (A 0) 8 r := by
  intro r
  have : p = 0 ∨ p = 1 ∨ p = 2 ∨ p = 3 ∨ p = 4 ∨ p = 5 ∨ p = 6 ∨ p = 7 ∨ p = 8 ∨ p = 9 := by omega
  rcases hj with e | e | e <;> subst e <;> rcases this with h | h | h | h | h | h | h | h | h | h <;> subst h <;> rfl
theorem celP_Y {b c : Nat} {A : Nat → ClassId} {p : Nat} (hp : p < 10) : ∀ r, celOf b c A (aP p + 6) r = arI (A 1) 8 r := by
  intro r
  have : p = 0 ∨ p = 1 ∨ p = 2 ∨ p = 3 ∨ p = 4 ∨ p = 5 ∨ p = 6 ∨ p = 7 ∨ p = 8 ∨ p = 9 := by omega
  rcases this with h | h | h | h | h | h | h | h | h | h <;> subst h <;> rfl
theorem celS_0 {b c : Nat} {A : Nat → ClassId} {q : Nat} (hq : q < 2) : ∀ r, celOf b c A (aS q) r = obSetup b (aS q) r := by
  intro r
  have : q = 0 ∨ q = 1 := by omega
  rcases this with h | h <;> subst h <;> rfl
theorem celS_A {b c : Nat} {A : Nat → ClassId} {q : Nat} (hq : q < 2) : ∀ r, celOf b c A (aS q + 1) r = arR (A 4) 10 (fun i => some (b + (aS q + (2 + 2 * i)))) := by
  intro r
  have : q = 0 ∨ q = 1 := by omega
  rcases this with h | h <;> subst h <;> (show arR _ _ _ = arR _ _ _) <;> congr 1 <;> funext i <;> congr 2 <;> unfold aS <;> omega
theorem celS_H {b c : Nat} {A : Nat → ClassId} {q i : Nat} (hq : q < 2) (hi : i < 10) : ∀ r, celOf b c A (aS q + (2 + 2 * i)) r = obShip b (aS q + (2 + 2 * i)) r := by
  intro r
  have h1 : q = 0 ∨ q = 1 := by omega
  have : i = 0 ∨ i = 1 ∨ i = 2 ∨ i = 3 ∨ i = 4 ∨ i = 5 ∨ i = 6 ∨ i = 7 ∨ i = 8 ∨ i = 9 := by omega
  rcases h1 with e | e <;> subst e <;> rcases this with h | h | h | h | h | h | h | h | h | h <;> subst h <;> rfl
theorem celS_N {b c : Nat} {A : Nat → ClassId} {q i : Nat} (hq : q < 2) (hi : i < 10) : ∀ r, celOf b c A (aS q + (2 + 2 * i) + 1) r = arI (A 2) 6 r := by
  intro r
  have h1 : q = 0 ∨ q = 1 := by omega
  have : i = 0 ∨ i = 1 ∨ i = 2 ∨ i = 3 ∨ i = 4 ∨ i = 5 ∨ i = 6 ∨ i = 7 ∨ i = 8 ∨ i = 9 := by omega
  rcases h1 with e | e <;> subst e <;> rcases this with h | h | h | h | h | h | h | h | h | h <;> subst h <;> rfl
theorem aP_lt {p j : Nat} (hp : p < 10) (hj : j < 9) : aP p + j < 148 := by unfold aP; split <;> omega
theorem aP_lt0 {p : Nat} (hp : p < 10) : aP p < 148 := aP_lt (j := 0) hp (by omega)
theorem aS_lt {q j : Nat} (hq : q < 2) (hj : j < 22) : aS q + j < 148 := by unfold aS; omega
theorem aS_lt0 {q : Nat} (hq : q < 2) : aS q < 148 := aS_lt (j := 0) hq (by omega)
theorem hV_up {G : GT} {V : VV} {k i : Nat} {z : Int} {e : va_E} (he : celOf (gB G) (gC G) (gA G) k (updI (V k) i z) = e) : ∀ j, j < gN G → upH (hV G V) k e j = hV G (up2 V k i z) j := by
  intro j _
  unfold upH hV up2
  split
  · rename_i h; subst h; exact he.symm
  · rfl
section
variable {G : GT} {X : CT} {cells slots pc : Nat} {lv : List (Nat × Value)} {st : List Value} {V : VV} {own : String} {cc : ByteArray}
theorem v_gf {a0 : Nat} {idx k ci n sl : Nat} {T : u_T} {K : String} {fs : (Nat → Int) → List Value} {v : Value} (C : Cx G X own cc) (d : decode cc pc = .ok (.getfield idx, 3)) (hl : .fieldLink own idx (T sl).1 (T sl).2.1 (T sl).2.2.1 ∈ LW) (ha : ad G k = a0) (hk : k < gN G) (cf : ∀ r, celOf (gB G) (gC G) (gA G) k r = .inr (ci, fs r)) (o : OI ci K T n) (hsl : sl < n) (hv : (fs (V k))[sl]? = some v) (kk : At G X cells slots (pc + 3) lv (v :: st) V) : At G X cells slots pc lv (.ref a0 :: st) V :=
  r_gf C d ha hk (cf _) o hsl hl hv kk
theorem v_pf {a0 : Nat} {idx k ci n sl : Nat} {T : u_T} {K : String} {fs : (Nat → Int) → List Value} {z : Int} (C : Cx G X own cc) (d : decode cc pc = .ok (.putfield idx, 3)) (hl : .fieldLink own idx (T sl).1 (T sl).2.1 (T sl).2.2.1 ∈ LW) (ha : ad G k = a0) (hk : k < gN G) (cf : ∀ r, celOf (gB G) (gC G) (gA G) k r = .inr (ci, fs r)) (o : OI ci K T n) (hsl : sl < n) (hfin : (T sl).2.2.2 = false) (hd : parseFieldDescriptor (T sl).2.2.1 = some .int) (hlen : ∀ r, sl < (fs r).length) (hset : ∀ r, (fs r).set sl (vI z) = fs (updI r sl z))
    (kk : At G X cells slots (pc + 3) lv st (up2 V k sl z)) : At G X cells slots pc lv (vI z :: .ref a0 :: st) V := by
  refine r_pf C d ha hk (cf _) o hsl hl hfin hd rfl rfl (hlen _) (AtH.e (hV_up ?_) kk)
  rw [cf, hset]
theorem v_iald {a0 : Nat} {k n : Nat} {j : Int} (C : Cx G X own cc) (d : decode cc pc = .ok (.iaload, 1)) (ha : ad G k = a0) (hk : k < gN G) (ca : ∀ r, celOf (gB G) (gC G) (gA G) k r = arI (gA G 0) n r) (h0 : 0 ≤ j) (h1 : j < n) (hn : (n : Int) ≤ 2147483647) (kk : At G X cells slots (pc + 1) lv (vI (V k j.toNat) :: st) V) : At G X cells slots pc lv (vI j :: .ref a0 :: st) V :=
  r_iald C d ha hk (ca _) h0 h1 hn kk
theorem v_zald {a0 : Nat} {k n : Nat} {j : Int} (C : Cx G X own cc) (d : decode cc pc = .ok (.baload, 1)) (ha : ad G k = a0) (hk : k < gN G) (ca : ∀ r, celOf (gB G) (gC G) (gA G) k r = arI (gA G 1) n r) (h0 : 0 ≤ j) (h1 : j < n) (hn : (n : Int) ≤ 2147483647) (kk : At G X cells slots (pc + 1) lv (vI (V k j.toNat) :: st) V) : At G X cells slots pc lv (vI j :: .ref a0 :: st) V :=
  r_zald C d ha hk (ca _) h0 h1 hn kk
theorem v_bald {a0 : Nat} {k n : Nat} {j : Int} (C : Cx G X own cc) (d : decode cc pc = .ok (.baload, 1)) (ha : ad G k = a0) (hk : k < gN G) (ca : ∀ r, celOf (gB G) (gC G) (gA G) k r = arI (gA G 2) n r) (h0 : 0 ≤ j) (h1 : j < n) (hn : (n : Int) ≤ 2147483647) (kk : At G X cells slots (pc + 1) lv (vI (V k j.toNat) :: st) V) : At G X cells slots pc lv (vI j :: .ref a0 :: st) V :=
  r_bald C d ha hk (ca _) h0 h1 hn kk
theorem v_iast {a0 : Nat} {k n : Nat} {j z : Int} (C : Cx G X own cc) (d : decode cc pc = .ok (.iastore, 1)) (ha : ad G k = a0) (hk : k < gN G) (ca : ∀ r, celOf (gB G) (gC G) (gA G) k r = arI (gA G 0) n r) (h0 : 0 ≤ j) (h1 : j < n) (hn : (n : Int) ≤ 2147483647) (kk : At G X cells slots (pc + 1) lv st (up2 V k j.toNat z)) : At G X cells slots pc lv (vI z :: vI j :: .ref a0 :: st) V :=
  r_iast C d ha hk (ca _) h0 h1 hn (AtH.e (hV_up (ca _)) kk)
theorem v_zast {a0 : Nat} {k n : Nat} {j z : Int} (C : Cx G X own cc) (d : decode cc pc = .ok (.bastore, 1)) (ha : ad G k = a0) (hk : k < gN G) (ca : ∀ r, celOf (gB G) (gC G) (gA G) k r = arI (gA G 1) n r) (h0 : 0 ≤ j) (h1 : j < n) (hn : (n : Int) ≤ 2147483647) (hz : z = 0 ∨ z = 1) (kk : At G X cells slots (pc + 1) lv st (up2 V k j.toNat z)) : At G X cells slots pc lv (vI z :: vI j :: .ref a0 :: st) V :=
  r_zast C d ha hk (ca _) h0 h1 hn hz (AtH.e (hV_up (ca _)) kk)
theorem v_bast {a0 : Nat} {k n : Nat} {j z : Int} (C : Cx G X own cc) (d : decode cc pc = .ok (.bastore, 1)) (ha : ad G k = a0) (hk : k < gN G) (ca : ∀ r, celOf (gB G) (gC G) (gA G) k r = arI (gA G 2) n r) (h0 : 0 ≤ j) (h1 : j < n) (hn : (n : Int) ≤ 2147483647) (kk : At G X cells slots (pc + 1) lv st (up2 V k j.toNat (wB z))) : At G X cells slots pc lv (vI z :: vI j :: .ref a0 :: st) V :=
  r_bast C d ha hk (ca _) h0 h1 hn (AtH.e (hV_up (ca _)) kk)
/-- calls -/
theorem v_callV {a0 : Nat} {idx kk0 nLy n dy mc ms d0 mc0 ms0 : Nat} {y : MethodName} {ccy : ByteArray} {ret ret0 : Option FieldType} {As rest st0 : List Value} {post : Option Value → VV → Prop} {postX : String → VV → Prop} {p0 : Option Value → VV → Prop} {pX0 : String → VV → Prop} {ci : Nat} {fs : (Nat → Int) → List Value}
    (C : Cx G X own cc) (M : Mx G X d0 mc0 ms0 ret0 (vP G p0) (vX G pX0)) (d : decode cc pc = .ok (.invokevirtual idx, 3)) (wl : .methodLink own idx y ∈ LW) (wy : YV y ccy nLy ret n) (ha : ad G kk0 = a0) (hk : kk0 < gN G) (cf : ∀ r, celOf (gB G) (gC G) (gA G) kk0 r = .inr (ci, fs r)) (hci : (cls7[ci]?).map (fun q => q.1) = some y.cls) (hE : Ev G (xl X) y ccy nLy ret dy mc ms (.ref a0 :: As) V post postX) (hst : st0 = As.reverse ++ .ref a0 :: rest) (hn : As.length = n)
    (hcat : (rest.map fun v => v.category).sum ≤ 8) (hd : dy + 1 ≤ d0) (hnl : nLy ≤ 21) (hmc : cells + mc ≤ mc0) (hms : slots + ms ≤ ms0)
    (hx : ∀ (E : String) (V' : VV), postX E V' → pX0 E V')
    (kk : ∀ (v : Option Value) (V' : VV), post v V' → At G X (cells + mc) (slots + ms) (pc + 3) lv (v.toList ++ rest) V') : At G X cells slots pc lv st0 V :=
  r_callV C M d wl wy hE hst hn ha hk (cf _) hci hcat hd hnl hmc hms (fun E N' h' q => by obtain ⟨q1, V', q2, q3⟩ := q; exact ⟨q1, V', q2, hx E V' q3⟩) (fun v N' h' q => by obtain ⟨q1, V', q2, q3⟩ := q; subst q1; subst q2; exact kk v V' q3)
theorem v_callS {idx nLy n dy mc ms d0 mc0 ms0 : Nat} {y : MethodName} {ccy : ByteArray} {ret ret0 : Option FieldType} {As rest st0 : List Value} {post : Option Value → VV → Prop} {postX : String → VV → Prop} {p0 : Option Value → VV → Prop} {pX0 : String → VV → Prop}
    (C : Cx G X own cc) (M : Mx G X d0 mc0 ms0 ret0 (vP G p0) (vX G pX0)) (d : decode cc pc = .ok (.invokestatic idx, 3)) (wl : .methodLink own idx y ∈ LW) (wy : YS y ccy nLy ret n) (hE : Ev G (xl X) y ccy nLy ret dy mc ms As V post postX) (hst : st0 = As.reverse ++ rest) (hn : As.length = n)
    (hcat : (rest.map fun v => v.category).sum ≤ 8) (hd : dy + 1 ≤ d0) (hnl : nLy ≤ 21) (hmc : cells + mc ≤ mc0) (hms : slots + ms ≤ ms0)
    (hx : ∀ (E : String) (V' : VV), postX E V' → pX0 E V')
    (kk : ∀ (v : Option Value) (V' : VV), post v V' → At G X (cells + mc) (slots + ms) (pc + 3) lv (v.toList ++ rest) V') : At G X cells slots pc lv st0 V :=
  r_callS C M d wl wy hE hst hn hcat hd hnl hmc hms (fun E N' h' q => by obtain ⟨q1, V', q2, q3⟩ := q; exact ⟨q1, V', q2, hx E V' q3⟩) (fun v N' h' q => by obtain ⟨q1, V', q2, q3⟩ := q; subst q1; subst q2; exact kk v V' q3)
/-- a method that answers z and changes nothing -/
abbrev EvP (G : GT) (l : Launch) (y : MethodName) (cc : ByteArray) (nL : Nat) (ret : Option FieldType) (d : Nat) (av : List Value) (V : VV) (z : Int) : Prop := Ev G l y cc nL ret d 0 0 av V (fun v V' => v = some (vI z) ∧ V' = V) noX
theorem v_callVp {a0 : Nat} {idx kk0 nLy n dy d0 mc0 ms0 : Nat} {y : MethodName} {ccy : ByteArray} {ret ret0 : Option FieldType} {As rest st0 : List Value} {z : Int} {p0 : Option Value → VV → Prop} {pX0 : String → VV → Prop} {ci : Nat} {fs : (Nat → Int) → List Value}
    (C : Cx G X own cc) (M : Mx G X d0 mc0 ms0 ret0 (vP G p0) (vX G pX0)) (d : decode cc pc = .ok (.invokevirtual idx, 3)) (wl : .methodLink own idx y ∈ LW) (wy : YV y ccy nLy ret n) (ha : ad G kk0 = a0) (hk : kk0 < gN G) (cf : ∀ r, celOf (gB G) (gC G) (gA G) kk0 r = .inr (ci, fs r)) (hci : (cls7[ci]?).map (fun q => q.1) = some y.cls) (hE : EvP G (xl X) y ccy nLy ret dy (.ref a0 :: As) V z) (hst : st0 = As.reverse ++ .ref a0 :: rest) (hn : As.length = n)
    (hcat : (rest.map fun v => v.category).sum ≤ 8) (hd : dy + 1 ≤ d0) (hnl : nLy ≤ 21) (hmc : cells ≤ mc0) (hms : slots ≤ ms0)
    (kk : At G X cells slots (pc + 3) lv (vI z :: rest) V) : At G X cells slots pc lv st0 V :=
  v_callV C M d wl wy ha hk cf hci hE hst hn hcat hd hnl hmc hms (fun E V' q => q.elim) (fun v V' q => by obtain ⟨q1, q2⟩ := q; subst q1; subst q2; exact kk)
theorem v_callSp {idx nLy n dy d0 mc0 ms0 : Nat} {y : MethodName} {ccy : ByteArray} {ret ret0 : Option FieldType} {As rest st0 : List Value} {z : Int} {p0 : Option Value → VV → Prop} {pX0 : String → VV → Prop}
    (C : Cx G X own cc) (M : Mx G X d0 mc0 ms0 ret0 (vP G p0) (vX G pX0)) (d : decode cc pc = .ok (.invokestatic idx, 3)) (wl : .methodLink own idx y ∈ LW) (wy : YS y ccy nLy ret n) (hE : EvP G (xl X) y ccy nLy ret dy As V z) (hst : st0 = As.reverse ++ rest) (hn : As.length = n)
    (hcat : (rest.map fun v => v.category).sum ≤ 8) (hd : dy + 1 ≤ d0) (hnl : nLy ≤ 21) (hmc : cells ≤ mc0) (hms : slots ≤ ms0)
    (kk : At G X cells slots (pc + 3) lv (vI z :: rest) V) : At G X cells slots pc lv st0 V :=
  v_callS C M d wl wy hE hst hn hcat hd hnl hmc hms (fun E V' q => q.elim) (fun v V' q => by obtain ⟨q1, q2⟩ := q; subst q1; subst q2; exact kk)
/-- the ends -/
theorem v_iret {d0 mc0 ms0 : Nat} {post : Option Value → VV → Prop} {postX : String → VV → Prop} {z : Int} (C : Cx G X own cc) (M : Mx G X d0 mc0 ms0 (some .int) (vP G post) (vX G postX)) (d : decode cc pc = .ok (.ireturn, 1)) (hmc : cells ≤ mc0) (hms : slots ≤ ms0) (hp : post (some (vI z)) V) : At G X cells slots pc lv [vI z] V :=
  r_iret C M d rfl hmc hms ⟨rfl, V, rfl, hp⟩
theorem v_zret {d0 mc0 ms0 : Nat} {post : Option Value → VV → Prop} {postX : String → VV → Prop} {z : Int} (C : Cx G X own cc) (M : Mx G X d0 mc0 ms0 (some .boolean) (vP G post) (vX G postX)) (d : decode cc pc = .ok (.ireturn, 1)) (hmc : cells ≤ mc0) (hms : slots ≤ ms0) (hz : z = 0 ∨ z = 1) (hp : post (some (vI z)) V) : At G X cells slots pc lv [vI z] V :=
  r_iret C M d (by rcases hz with e | e <;> subst e <;> rfl) hmc hms ⟨rfl, V, rfl, hp⟩
theorem v_vret {d0 mc0 ms0 : Nat} {post : Option Value → VV → Prop} {postX : String → VV → Prop} (C : Cx G X own cc) (M : Mx G X d0 mc0 ms0 none (vP G post) (vX G postX)) (d : decode cc pc = .ok (.return_, 1)) (hmc : cells ≤ mc0) (hms : slots ≤ ms0) (hp : post none V) : At G X cells slots pc lv [] V :=
  r_vret C M d hmc hms ⟨rfl, V, rfl, hp⟩
end
