/-! more rows for the walks -/
def mxI (a b : Int) : Int := if nrm a < nrm b then b else a
def mnI (a b : Int) : Int := if nrm b < nrm a then b else a
section
variable {G : GT} {X : CT} {cells slots pc : Nat} {lv : List (Nat × Value)} {st : List Value} {V : VV} {own : String} {cc : ByteArray}
theorem AtH.sw {N : Nat} {h : HT} {lw : List (Nat × Value)} (k : AtH G X cells slots pc lw st N h) (hw : subL lw lv) : AtH G X cells slots pc lv st N h := AtH.w (subL_all hw) k
theorem nrm_iI (z : Int) : (iI z).toInt = nrm z := rfl
theorem x_mmax {idx d0 mc0 ms0 : Nat} {x y : Int} {ret0 : Option FieldType} {rest : List Value} {o0 : Except String (Option Value)} {V0 : VV} (C : Cx G X own cc) (M : MX G X d0 mc0 ms0 ret0 o0 V0) (d : decode cc pc = .ok (.invokestatic idx, 3)) (wl : .methodLink own idx ⟨"java/lang/Math", "max", "(II)I"⟩ ∈ LW) (hb : (Nat.ble 1 d0 && Nat.ble (rest.map fun v => v.category).sum 8) = true) (hc : cells ≤ mc0) (hs : slots ≤ ms0)
    (kk : At G X cells slots (pc + 3) lv (vI (mxI x y) :: rest) V) : At G X cells slots pc lv (vI y :: vI x :: rest) V := by
  obtain ⟨p, l, e, R, s, m, args, below, meth, c, Q, nL⟩ := X
  intro H locs ls hW hS hls
  obtain ⟨hR, -, -, -⟩ := M
  subst hR
  simp only [Bool.and_eq_true] at hb
  have hb1 := Nat.le_of_ble_eq_true hb.1
  have hb2 := Nat.le_of_ble_eq_true hb.2
  refine va_mmax C.1 C.2.1 (by rw [hls.1]; exact C.2.2.1) C.2.2.2.1 (C.2.2.2.2.1 _ wl) (C.2.2.2.2.1 _ wJ9_max_7cf53.1) (C.2.2.2.2.1 _ wJ9_max_7cf53.2.1) (C.2.2.2.2.1 _ wJ9_max_7cf53.2.2.1) hb1 (by show _ ≤ 40 * d0; omega) hc hs d ?_
  have e : (Value.int (if iI x < iI y then iI y else iI x)) = vI (mxI x y) := by
    unfold mxI
    by_cases q : nrm x < nrm y
    · rw [if_pos q, if_pos (Int32.lt_iff_toInt_lt.mpr q)]
    · rw [if_neg q, if_neg (fun z => q (Int32.lt_iff_toInt_lt.mp z))]
  rw [e]
  exact kk H locs ls hW hS hls
theorem x_mmin {idx d0 mc0 ms0 : Nat} {x y : Int} {ret0 : Option FieldType} {rest : List Value} {o0 : Except String (Option Value)} {V0 : VV} (C : Cx G X own cc) (M : MX G X d0 mc0 ms0 ret0 o0 V0) (d : decode cc pc = .ok (.invokestatic idx, 3)) (wl : .methodLink own idx ⟨"java/lang/Math", "min", "(II)I"⟩ ∈ LW) (hb : (Nat.ble 1 d0 && Nat.ble (rest.map fun v => v.category).sum 8) = true) (hc : cells ≤ mc0) (hs : slots ≤ ms0)
    (kk : At G X cells slots (pc + 3) lv (vI (mnI x y) :: rest) V) : At G X cells slots pc lv (vI y :: vI x :: rest) V := by
  obtain ⟨p, l, e, R, s, m, args, below, meth, c, Q, nL⟩ := X
  intro H locs ls hW hS hls
  obtain ⟨hR, -, -, -⟩ := M
  subst hR
  simp only [Bool.and_eq_true] at hb
  have hb1 := Nat.le_of_ble_eq_true hb.1
  have hb2 := Nat.le_of_ble_eq_true hb.2
  refine va_mmin C.1 C.2.1 (by rw [hls.1]; exact C.2.2.1) C.2.2.2.1 (C.2.2.2.2.1 _ wl) (C.2.2.2.2.1 _ wJ9_min_7cf53.1) (C.2.2.2.2.1 _ wJ9_min_7cf53.2.1) (C.2.2.2.2.1 _ wJ9_min_7cf53.2.2.1) hb1 (by show _ ≤ 40 * d0; omega) hc hs d ?_
  have e : (Value.int (if iI y < iI x then iI y else iI x)) = vI (mnI x y) := by
    unfold mnI
    by_cases q : nrm y < nrm x
    · rw [if_pos q, if_pos (Int32.lt_iff_toInt_lt.mpr q)]
    · rw [if_neg q, if_neg (fun z => q (Int32.lt_iff_toInt_lt.mp z))]
  rw [e]
  exact kk H locs ls hW hS hls
end
