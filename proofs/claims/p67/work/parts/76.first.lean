/-! the constructor of the reference; the start (printed by g77.py) -/
set_option maxRecDepth 100000
theorem wB_wB (z : Int) : wB (wB z) = wB z := by unfold wB; omega
theorem VL_b : ∀ (i j : Nat), j < i → VL i 2 j = wB (scI 0 j)
  | 0, j, h => absurd h (by omega)
  | i + 1, j, h => by
    show up2 (up2 (VL i) 2 i (wB (wB (scI 0 i)))) 1 1 ((i : Int) + 1) 2 j = _
    rw [up2_n (by omega)]
    by_cases e : j = i
    · rw [e, up2_s, wB_wB]
    · rw [up2_n (by omega), VL_b i j (by omega)]
theorem VL_r {k : Nat} (h1 : k ≠ 1) (h2 : k ≠ 2) : ∀ i : Nat, VL i k = V00 k
  | 0 => rfl
  | i + 1 => by
    show up2 (up2 (VL i) 2 i (wB (wB (scI 0 i)))) 1 1 ((i : Int) + 1) k = _
    rw [up2_r h1, up2_r h2, VL_r h1 h2 i]
def isRt {α : Type} (s : PE α) : Bool := match s with
  | .inl _ => false
  | .inr _ => true
theorem first_ok : isRt (sSetup (fun j => scI 0 j) 79) = true := by decide +kernel
theorem first_rg : ∀ j, j < 79 → 0 ≤ scI 0 j ∧ scI 0 j ≤ 255 := by decide +kernel
