/-! numbers: a Java int as a whole number -/
def iI (z : Int) : Int32 := Int32.ofInt z
def rg (z : Int) : Prop := -2147483648 ≤ z ∧ z ≤ 2147483647
theorem iI_toInt {z : Int} (h : rg z) : (iI z).toInt = z := Int32.toInt_ofInt_of_le (by have := h.1; omega) (by have := h.2; omega)
theorem iI_add (a b : Int) : iI a + iI b = iI (a + b) := (Int32.ofInt_add a b).symm
theorem iI_sub (a b : Int) : iI a - iI b = iI (a - b) := (Int32.ofInt_sub a b).symm
theorem iI_mul (a b : Int) : iI a * iI b = iI (a * b) := (Int32.ofInt_mul a b).symm
theorem iI_neg (a : Int) : - iI a = iI (-a) := (Int32.ofInt_neg a).symm
theorem iI_of (x : Int32) : x = iI x.toInt := (Int32.ofInt_toInt x).symm
theorem iI_nI (n : Nat) : nI n = iI (n : Int) := Int32.ofInt_eq_ofNat.symm
theorem rg_toInt (x : Int32) : rg x.toInt := ⟨by have := x.le_toInt; omega, by have := x.toInt_lt; omega⟩
theorem iI_lt {a b : Int} (ha : rg a) (hb : rg b) : iI a < iI b ↔ a < b := by rw [Int32.lt_iff_toInt_lt, iI_toInt ha, iI_toInt hb]
theorem iI_le {a b : Int} (ha : rg a) (hb : rg b) : iI a ≤ iI b ↔ a ≤ b := by rw [Int32.le_iff_toInt_le, iI_toInt ha, iI_toInt hb]
theorem iI_eq {a b : Int} (ha : rg a) (hb : rg b) : iI a = iI b ↔ a = b := by
  refine ⟨fun h => ?_, fun h => by rw [h]⟩
  have h2 := congrArg Int32.toInt h
  rwa [iI_toInt ha, iI_toInt hb] at h2
theorem iI_clamp {z : Int} (h0 : 0 ≤ z) (h : rg z) : (iI z).toNatClampNeg = z.toNat := by
  show (Int32.ofInt z).toNatClampNeg = z.toNat
  rw [Int32.toNatClampNeg_ofInt_of_le (by omega) (by have := h.2; omega)]
theorem iI_zero : iI 0 = 0 := rfl
theorem iI_in {z : Int} {n : Nat} (h0 : 0 ≤ z) (h1 : z < n) (hn : (n : Int) ≤ 2147483647) : vp_in (iI z) n := by
  have hr : rg z := ⟨by omega, by omega⟩
  intro h
  rcases h with h | h
  · rw [← iI_zero, iI_lt hr ⟨by omega, by omega⟩] at h
    omega
  · rw [iI_clamp h0 hr] at h
    omega
theorem iI_div {a b : Int} (ha : rg a) (hb : rg b) (h : b ≠ -1) : iI a / iI b = iI (a.tdiv b) := by
  apply Int32.toInt_inj.mp
  rw [Int32.toInt_div_of_ne_right _ _ (fun e => h ((iI_eq hb ⟨by omega, by omega⟩).mp e)), iI_toInt ha, iI_toInt hb]
  rw [iI_toInt]
  obtain ⟨a1, a2⟩ := ha
  have h1 : (a.tdiv b).natAbs ≤ a.natAbs := Int.natAbs_tdiv_le_natAbs a b
  have h3 : a.tdiv b ≠ 2147483648 := by
    intro e
    have h4 : a.natAbs = 2147483648 := by omega
    have h5 : a = -2147483648 := by omega
    by_cases hb0 : b = 0
    · subst hb0; simp at e
    · have h6 : b.natAbs = 1 := by
        have := Int.natAbs_tdiv a b
        rw [e, h4] at this
        have h7 : 2147483648 = 2147483648 / b.natAbs := this
        rcases Nat.lt_or_ge b.natAbs 2 with q | q
        · omega
        · exfalso
          have h8 : 2147483648 / b.natAbs ≤ 2147483648 / 2 := Nat.div_le_div_left q (by omega)
          rw [← h7] at h8
          omega
      rcases Int.natAbs_eq b with q | q
      · rw [h6] at q
        subst q
        simp at e
        omega
      · exact h (by omega)
  exact ⟨by omega, by omega⟩
theorem iI_rem {a b : Int} (ha : rg a) (hb : rg b) (h : b ≠ -1) : iI a - iI a / iI b * iI b = iI (a.tmod b) := by
  rw [iI_div ha hb h, iI_mul, iI_sub]
  congr 1
  rw [Int.tmod_def, Int.mul_comm b]
/-- a byte out of an int -/
def wB (z : Int) : Int := (z + 128) % 256 - 128
theorem wB_in (z : Int) : -128 ≤ wB z ∧ wB z ≤ 127 := by unfold wB; omega
theorem iI_i2b (z : Int) : (iI z).toInt8.toInt32 = iI (wB z) := by
  apply Int32.toInt_inj.mp
  rw [iI_toInt (by have := wB_in z; exact ⟨by omega, by omega⟩)]
  show (Int32.ofInt z).toInt8.toInt32.toInt = _
  simp [wB]
  have h8 : ((Int8.size : Nat) : Int) = 256 := rfl
  simp only [Int.bmod_def, h8]
  split <;> omega
def updI (F : Nat → Int) (i : Nat) (z : Int) : Nat → Int := fun j => if j = i then z else F j
def up2 (V : Nat → Nat → Int) (k i : Nat) (z : Int) : Nat → Nat → Int := fun k' => if k' = k then updI (V k) i z else V k'
theorem updI_s (F : Nat → Int) (i : Nat) (z : Int) : updI F i z i = z := if_pos rfl
theorem updI_n {F : Nat → Int} {i j : Nat} {z : Int} (h : j ≠ i) : updI F i z j = F j := if_neg h
theorem up2_s (V : Nat → Nat → Int) (k i : Nat) (z : Int) : up2 V k i z k i = z := by simp [up2, updI]
theorem up2_n {V : Nat → Nat → Int} {k i k' j : Nat} {z : Int} (h : k' ≠ k ∨ j ≠ i) : up2 V k i z k' j = V k' j := by
  unfold up2
  split
  · rename_i e
    rw [updI_n (by rcases h with h | h; exact absurd e h; exact h), e]
  · rfl
theorem up2_r {V : Nat → Nat → Int} {k i k' : Nat} {z : Int} (h : k' ≠ k) : up2 V k i z k' = V k' := if_neg h
/-- true is 1 -/
def bI (P : Prop) [Decidable P] : Int := if P then 1 else 0
theorem bI_in (P : Prop) [Decidable P] : 0 ≤ bI P ∧ bI P ≤ 1 := by unfold bI; split <;> omega
