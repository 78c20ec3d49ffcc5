/-! the constructors of Setup and of the class (printed by g76.py) -/
set_option maxRecDepth 100000
theorem df0 : ∀ j, j < 8 → defaultValue (tyO (T0 j).2.2.1) = vp_V [.null, vI 0, vI 0, vI 0, vI 0, vI 0, vI 0, vI 0] j := by decide +kernel
theorem wn0 : .instantiable R0 8 ∈ LW := LW_i 62 (by decide +kernel) (by decide +kernel)
theorem df1 : ∀ j, j < 15 → defaultValue (tyO (T1 j).2.2.1) = vp_V [vI 0, vI 0, vI 0, vI 0, vI 0, vI 0, .null, .null, .null, .null, vI 0, .null, .null, .null, .null] j := by decide +kernel
theorem wn1 : .instantiable R1 15 ∈ LW := LW_i 180 (by decide +kernel) (by decide +kernel)
theorem df2 : ∀ j, j < 6 → defaultValue (tyO (T2 j).2.2.1) = vp_V [vI 0, .null, .null, .null, .null, .null] j := by decide +kernel
theorem wn2 : .instantiable R2 6 ∈ LW := LW_i 100 (by decide +kernel) (by decide +kernel)
theorem df3 : ∀ j, j < 5 → defaultValue (tyO (T3 j).2.2.1) = vp_V [vI 0, vI 0, vI 0, vI 0, .null] j := by decide +kernel
theorem wn3 : .instantiable R3 5 ∈ LW := LW_i 127 (by decide +kernel) (by decide +kernel)
theorem df4 : ∀ j, j < 5 → defaultValue (tyO (T4 j).2.2.1) = vp_V [.null, vI 0, vI 0, vI 0, vI 0] j := by decide +kernel
theorem wn4 : .instantiable R4 5 ∈ LW := LW_i 134 (by decide +kernel) (by decide +kernel)
theorem df5 : ∀ j, j < 14 → defaultValue (tyO (T5 j).2.2.1) = vp_V [.null, .null, .null, .null, .null, .null, .null, vI 0, vI 0, .null, .null, .null, .null, vI 0] j := by decide +kernel
theorem wn5 : .instantiable R5 14 ∈ LW := LW_i 54 (by decide +kernel) (by decide +kernel)
theorem df6 : ∀ j, j < 12 → defaultValue (tyO (T6 j).2.2.1) = vp_V [.null, .null, .null, .null, .null, vI 0, .null, .null, .null, .null, vI 0, vI 0] j := by decide +kernel
theorem wn6 : .instantiable R6 12 ∈ LW := LW_i 669 (by decide +kernel) (by decide +kernel)
theorem df7 : ∀ j, j < 4 → defaultValue (tyO (T7 j).2.2.1) = vp_V [.null, vI 0, vI 0, vI 0] j := by decide +kernel
theorem wn7 : .instantiable R7 4 ∈ LW := LW_i 833 (by decide +kernel) (by decide +kernel)
theorem df8 : ∀ j, j < 4 → defaultValue (tyO (T8 j).2.2.1) = vp_V [.null, vI 0, vI 0, vI 0] j := by decide +kernel
theorem wn8 : .instantiable R8 4 ∈ LW := LW_i 1016 (by decide +kernel) (by decide +kernel)
theorem wcL_19 : .classLink "ChannelScheduleLaw" 19 "ChannelSchedule" ∈ LW := LW_i 53 (by decide +kernel) (by decide +kernel)
theorem wc5_7 : .classLink "ChannelSchedule" 7 "ChannelSchedule$Input" ∈ LW := LW_i 61 (by decide +kernel) (by decide +kernel)
theorem wc5_16 : .classLink "ChannelSchedule" 16 "ChannelSchedule$Script" ∈ LW := LW_i 99 (by decide +kernel) (by decide +kernel)
theorem wc5_23 : .classLink "ChannelSchedule" 23 "ChannelSchedule$Setup" ∈ LW := LW_i 126 (by decide +kernel) (by decide +kernel)
theorem wc3_24 : .classLink "ChannelSchedule$Setup" 24 "ChannelSchedule$Ship" ∈ LW := LW_i 132 (by decide +kernel) (by decide +kernel)
theorem wc5_33 : .classLink "ChannelSchedule" 33 "ChannelSchedule$Plan" ∈ LW := LW_i 179 (by decide +kernel) (by decide +kernel)
theorem wc5_339 : .classLink "ChannelSchedule" 339 "java/lang/IllegalArgumentException" ∈ LW := LW_i 428 (by decide +kernel) (by decide +kernel)
theorem wc5_336 : .classLink "ChannelSchedule" 336 "java/lang/IndexOutOfBoundsException" ∈ LW := LW_i 509 (by decide +kernel) (by decide +kernel)
theorem wc5_342 : .classLink "ChannelSchedule" 342 "java/lang/IllegalStateException" ∈ LW := LW_i 581 (by decide +kernel) (by decide +kernel)
theorem wcL_118 : .classLink "ChannelScheduleLaw" 118 "ChannelScheduleLaw$Own" ∈ LW := LW_i 668 (by decide +kernel) (by decide +kernel)
theorem wcL_34 : .classLink "ChannelScheduleLaw" 34 "java/lang/StringBuilder" ∈ LW := LW_i 832 (by decide +kernel) (by decide +kernel)
theorem wcJ7_311 : .classLink "java/util/Arrays" 311 "[B" ∈ LW := LW_i 897 (by decide +kernel) (by decide +kernel)
theorem wcJ4_18 : .classLink "java/lang/StringBuilder" 18 "java/lang/String" ∈ LW := LW_i 1015 (by decide +kernel) (by decide +kernel)
theorem wi_StringBuilder : .initialized "java/lang/StringBuilder" ∈ LW := LW_i 39 (by decide +kernel) (by decide +kernel)
theorem wi_String : .initialized "java/lang/String" ∈ LW := LW_i 34 (by decide +kernel) (by decide +kernel)
theorem wi_ChannelScheduleLaw_Own : .initialized "ChannelScheduleLaw$Own" ∈ LW := LW_i 51 (by decide +kernel) (by decide +kernel)
theorem wi_ChannelSchedule : .initialized "ChannelSchedule" ∈ LW := LW_i 28 (by decide +kernel) (by decide +kernel)
/-- a row of references, the first i filled -/
def pF (G : GT) (b s n i : Nat) : Nat → Option Nat := fun q => if q < i ∨ n ≤ q then some (gB G + (b + s * q)) else none
theorem pF_up {G : GT} {b s n i : Nat} : va_up (pF G b s n i) i (some (gB G + (b + s * i))) = pF G b s n (i + 1) := by
  funext q
  unfold va_up pF
  by_cases e : q = i
  · subst e
    rw [if_pos rfl, if_pos (by omega)]
  · rw [if_neg e]
    by_cases c : q < i ∨ n ≤ q
    · rw [if_pos c, if_pos (by omega)]
    · rw [if_neg c, if_neg (by omega)]
theorem pF_all {G : GT} {b s n : Nat} : pF G b s n n = fun q => some (gB G + (b + s * q)) := by
  funext q
  exact if_pos (by omega)
theorem pF_none {G : GT} {b s n : Nat} : ∀ j, j < n → pF G b s n 0 j = none := fun j hj => if_neg (by omega)
def cSeF (G : GT) (k n i : Nat) : va_E := if i = 1 then arR (gA G 4) 10 (pF G (k + 2) 2 10 n) else celSetup (gB G) (gA G) (k + i) i zr
def cSe (G : GT) (k i : Nat) : va_E := celSetup (gB G) (gA G) (k + i) i zr
theorem cSe_end {G : GT} {k i : Nat} : cSeF G k 10 i = cSe G k i := by
  unfold cSeF cSe
  by_cases e : i = 1
  · subst e
    rw [if_pos rfl, pF_all]
    show _ = arR (gA G 4) 10 _
    congr 1
  · rw [if_neg e]
theorem cSe_step {G : GT} {h : HT} {k i : Nat} {e0 : va_E} (hi : i < 10) : ∀ j, j < k + 2 + 2 * i + 2 → upH (hFrom (upH (hFrom h k (cSeF G k i)) (k + 2 + 2 * i) e0) (k + 2 + 2 * i) (cShp G (k + 2 + 2 * i))) (k + 1) (arR (gA G 4) 10 (pF G (k + 2) 2 10 (i + 1))) j = hFrom h k (cSeF G k (i + 1)) j := by
  intro j hj
  by_cases q1 : j = k + 1
  · rw [upH_e q1]
    subst q1
    rw [hFrom_at]
    rfl
  · rw [upH_n q1]
    by_cases q2 : j < k
    · rw [hFrom_lo (by omega), upH_n (by omega), hFrom_lo q2, hFrom_lo q2]
    · obtain ⟨t, e⟩ : ∃ t, j = k + t := ⟨j - k, by omega⟩
      subst e
      rw [hFrom_at (h := h)]
      have hr : cSeF G k (i + 1) t = celSetup (gB G) (gA G) (k + t) t zr := if_neg (by omega)
      rw [hr]
      by_cases q3 : t < 2 + 2 * i
      · rw [hFrom_lo (by omega), upH_n (by omega), hFrom_at]
        exact if_neg (by omega)
      · unfold celSetup
        rw [if_neg (by omega), if_neg (by omega)]
        by_cases q4 : t = 2 + 2 * i
        · subst q4
          rw [if_pos (by omega), show k + (2 + 2 * i) = k + 2 + 2 * i by omega, hFrom_0]
          rfl
        · rw [if_neg (by omega), show k + t = k + 2 + 2 * i + 1 by omega, hFrom_at]
          rfl
/-- a heap of the class, half made: the main object's fields, how many past and saved plans there are -/
def V00 : VV := up2 (up2 (fun _ _ => 0) 1 3 (-1)) 0 3 1
def hC (G : GT) (fs : List Value) (n6 n9 : Nat) : HT := fun j => if j = 0 then .inr (5, fs) else if j = 71 then arR (gA G 5) 6 (pF G 76 9 6 n6) else if j = 72 then arR (gA G 5) 2 (pF G 130 9 2 n9) else celOf (gB G) (gC G) (gA G) j (V00 j)
theorem V00_r {k : Nat} (h : 2 ≤ k) : V00 k = zr := by
  unfold V00
  rw [up2_r (by omega), up2_r (by omega)]
  rfl
section
variable {G : GT} {fs fs' : List Value} {n6 n9 : Nat}
theorem hC_put : ∀ (n j : Nat), j < n → upH (hC G fs n6 n9) 0 (.inr (5, fs')) j = hC G fs' n6 n9 j := by
  intro n j hj
  by_cases q0 : j = 0
  · rw [upH_e q0]
    exact (if_pos q0).symm
  · rw [upH_n q0]
    unfold hC
    rw [if_neg q0, if_neg q0]
theorem hC_one {n k : Nat} {e0 : va_E} (hk : 0 < k) (he : e0 = hC G fs n6 n9 k) : ∀ (j : Nat), j < n → upH (upH (hC G fs n6 n9) k e0) 0 (.inr (5, fs')) j = hC G fs' n6 n9 j := by
  intro j hj
  by_cases q0 : j = 0
  · rw [upH_e q0]
    exact (if_pos q0).symm
  · rw [upH_n q0]
    have e : hC G fs' n6 n9 j = hC G fs n6 n9 j := by
      unfold hC
      rw [if_neg q0, if_neg q0]
    rw [e]
    by_cases q : j = k
    · rw [upH_e q, he, q]
    · rw [upH_n q]
theorem hC_step {n k : Nat} {e0 : va_E} {c : Nat → va_E} (hk : 0 < k) (hc : ∀ i, k + i < n → c i = hC G fs n6 n9 (k + i)) : ∀ j, j < n → upH (hFrom (upH (hC G fs n6 n9) k e0) k c) 0 (.inr (5, fs')) j = hC G fs' n6 n9 j := by
  intro j hj
  by_cases q0 : j = 0
  · rw [upH_e q0]
    exact (if_pos q0).symm
  · rw [upH_n q0]
    have e : hC G fs' n6 n9 j = hC G fs n6 n9 j := by
      unfold hC
      rw [if_neg q0, if_neg q0]
    rw [e]
    by_cases q : j < k
    · rw [hFrom_lo q, upH_n (by omega)]
    · obtain ⟨i, e⟩ : ∃ i, j = k + i := ⟨j - k, by omega⟩
      subst e
      rw [hFrom_at]
      exact hc i hj
theorem hC_in (i : Nat) (h : 1 + i < 3) : cIn G 1 i = hC G fs n6 n9 (1 + i) := by
  rcases (show i = 0 ∨ i = 1 by omega) with e | e <;> subst e <;> rfl
theorem hC_sc (i : Nat) (h : 3 + i < 9) : cSc G 3 i = hC G fs n6 n9 (3 + i) := by
  rcases (show i = 0 ∨ i = 1 ∨ i = 2 ∨ i = 3 ∨ i = 4 ∨ i = 5 by omega) with e | e | e | e | e | e <;> subst e <;> rfl
theorem hC_cel {k : Nat} (h : 2 ≤ k) (h1 : k ≠ 71) (h2 : k ≠ 72) : hC G fs n6 n9 k = celOf (gB G) (gC G) (gA G) k zr := by
  unfold hC
  rw [if_neg (by omega), if_neg h1, if_neg h2, V00_r h]
theorem hC_se {q : Nat} (hq : q < 2) (i : Nat) (h : i < 22) : cSe G (9 + 22 * q) i = hC G fs n6 n9 (9 + 22 * q + i) := by
  rw [hC_cel (by omega) (by omega) (by omega)]
  unfold celOf cSe
  rw [if_neg (by omega), if_pos (by omega), show (9 + 22 * q + i - 9) % 22 = i by omega]
theorem hC_pl {q : Nat} (hq : q < 2) (i : Nat) (h : i < 9) : cPl G (53 + 9 * q) i = hC G fs n6 n9 (53 + 9 * q + i) := by
  rw [hC_cel (by omega) (by omega) (by omega)]
  unfold celOf cPl
  rw [if_neg (by omega), if_neg (by omega), if_pos (by omega), show (53 + 9 * q + i - 53) % 9 = i by omega]
theorem hC_pp {q : Nat} (hq : q < 8) (i : Nat) (h : i < 9) : cPl G (76 + 9 * q) i = hC G fs n6 n9 (76 + 9 * q + i) := by
  rw [hC_cel (by omega) (by omega) (by omega)]
  unfold celOf cPl
  rw [if_neg (by omega), if_neg (by omega), if_neg (by omega), if_neg (by omega), if_pos (by omega), show (76 + 9 * q + i - 76) % 9 = i by omega]
theorem hC_past {k i : Nat} {e0 : va_E} (hk : k = 76 + 9 * i) (hi : i < 6) : ∀ j, j < k + 9 → upH (hFrom (upH (hC G fs i n9) k e0) k (cPl G k)) 71 (arR (gA G 5) 6 (pF G 76 9 6 (i + 1))) j = hC G fs (i + 1) n9 j := by
  subst hk
  intro j hj
  by_cases q1 : j = 71
  · rw [upH_e q1, q1]
    rfl
  · rw [upH_n q1]
    have e : hC G fs (i + 1) n9 j = hC G fs i n9 j := by
      unfold hC
      rw [if_neg q1, if_neg q1]
    rw [e]
    by_cases q : j < 76 + 9 * i
    · rw [hFrom_lo q, upH_n (by omega)]
    · obtain ⟨t, e⟩ : ∃ t, j = 76 + 9 * i + t := ⟨j - (76 + 9 * i), by omega⟩
      subst e
      rw [hFrom_at]
      exact hC_pp (by omega) t (by omega)
theorem hC_saved {k i : Nat} {e0 : va_E} (hk : k = 130 + 9 * i) (hi : i < 2) : ∀ j, j < k + 9 → upH (hFrom (upH (hC G fs n6 i) k e0) k (cPl G k)) 72 (arR (gA G 5) 2 (pF G 130 9 2 (i + 1))) j = hC G fs n6 (i + 1) j := by
  subst hk
  intro j hj
  by_cases q1 : j = 72
  · rw [upH_e q1, q1]
    rfl
  · rw [upH_n q1]
    have e : hC G fs n6 (i + 1) j = hC G fs n6 i j := by
      unfold hC
      rw [if_neg q1, if_neg q1]
    rw [e]
    by_cases q : j < 130 + 9 * i
    · rw [hFrom_lo q, upH_n (by omega)]
    · obtain ⟨t, e⟩ : ∃ t, j = 76 + 9 * (6 + i) + t := ⟨j - (130 + 9 * i), by omega⟩
      subst e
      rw [show 130 + 9 * i = 76 + 9 * (6 + i) by omega, hFrom_at]
      exact hC_pp (by omega) t (by omega)
end
theorem ci3 {G : GT} {l : Launch} {h : HT} {k : Nat} (hlt : l.stackTraces = false) (hX : gZ G) (hk : h k = .inr (3, [vI 0, vI 0, vI 0, vI 0, .null])) : EvC G l y3_init b3_init 2 2 21 120 [.ref (gB G + k)] (k + 1) h (fun v N h1 => v = none ∧ N = k + 22 ∧ h1 = hFrom h k (cSe G k)) noH := by
  refine evc_of hlt (by decide +kernel) rfl (Nat.le_of_ble_eq_true rfl) (av1 rfl) (fun X hl hx C M hnm => ?_)
  subst hl
  replace C : Cx G X "ChannelSchedule$Setup" b3_init := C
  have hR := M.room
  show AtH G X 0 0 0 [(0, .ref (gB G + k))] [] (k + 1) h
  refine r_aload_n C d3_init_0 rfl ?_
  refine r_objInit C hR d3_init_1 l3_3 (Nat.le_of_ble_eq_true rfl) (Nat.le_of_ble_eq_true rfl) (Nat.le_of_ble_eq_true rfl) ?_
  refine r_aload_n C d3_init_4 rfl ?_
  refine r_iconst C d3_init_5 ?_
  refine r_pf (k := k) (sl := 0) (fs := [vI 0, vI 0, vI 0, vI 0, .null]) (ty := .int) C d3_init_6 hX.ad (by omega) hk oi3 (by omega) f3_9 rfl td_I rfl rfl (Nat.le_of_ble_eq_true rfl) ?_
  refine r_aload_n C d3_init_9 rfl ?_
  refine r_iconst C d3_init_10 ?_
  refine r_pf (k := k) (sl := 1) (fs := [vI 0, vI 0, vI 0, vI 0, .null]) (ty := .int) C d3_init_11 hX.ad (by omega) (upH_e (by omega)) oi3 (by omega) f3_15 rfl td_I rfl rfl (Nat.le_of_ble_eq_true rfl) ?_
  refine r_aload_n C d3_init_14 rfl ?_
  refine r_iconst C d3_init_15 ?_
  refine r_pf (k := k) (sl := 2) (fs := [vI 0, vI 0, vI 0, vI 0, .null]) (ty := .int) C d3_init_16 hX.ad (by omega) (upH_e (by omega)) oi3 (by omega) f3_18 rfl td_I rfl rfl (Nat.le_of_ble_eq_true rfl) ?_
  refine r_aload_n C d3_init_19 rfl ?_
  refine r_iconst C d3_init_20 ?_
  refine r_pf (k := k) (sl := 3) (fs := [vI 0, vI 0, vI 0, vI 0, .null]) (ty := .int) C d3_init_21 hX.ad (by omega) (upH_e (by omega)) oi3 (by omega) f3_21 rfl td_I rfl rfl (Nat.le_of_ble_eq_true rfl) ?_
  refine r_aload_n C d3_init_24 rfl ?_
  refine r_bipush C d3_init_25 (by decide +kernel) ?_
  refine r_anewa (a := 4) (n := 10) (f := pF G (k + 2) 2 10 0) hX C hR (fun _ q => q.2.2.2.2.2.2.2.2.1.1) d3_init_27 wc3_24 rfl (by decide +kernel) (by decide +kernel) (Nat.le_of_ble_eq_true rfl) (Nat.le_of_ble_eq_true rfl) (Nat.le_of_ble_eq_true rfl) pF_none ?_
  refine r_pfF (k := k) (sl := 4) (fs := [vI 0, vI 0, vI 0, vI 0, .null]) (ty := .array (.object "ChannelSchedule$Ship")) C hnm d3_init_30 hX.ad (by omega) ((upH_n (by omega)).trans (upH_e (by omega))) oi3 (by omega) f3_26 rfl rfl td_aShip rfl rfl (Nat.le_of_ble_eq_true rfl) ?_
  suffices loop : ∀ (n i : Nat), i + n = 10 → AtH G X (1 + 2 * i) (10 + 11 * i) 35 [(0, .ref (gB G + k)), (1, vI (i : Int))] [] (k + 2 + 2 * i) (hFrom h k (cSeF G k i)) by
    refine r_iconst C d3_init_33 ?_
    refine r_istore_n C d3_init_34 (by rw [hx]; decide) ?_
    refine AtH.e (h' := hFrom h k (cSeF G k 0)) (fun j hj => ?_) (AtH.wd (by decide) (by decide) (AtH.sw (loop 10 0 rfl) ⟨rfl, rfl, trivial⟩))
    rcases Nat.lt_or_ge j k with q | q
    · rw [hFrom_lo q]
      simp (disch := omega) only [upH_n]
    · obtain ⟨i, hi, e⟩ : ∃ i, i < 2 ∧ j = k + i := ⟨j - k, by omega, by omega⟩
      subst e
      rw [hFrom_at]
      rcases (show i = 0 ∨ i = 1 by omega) with e | e <;> subst e <;> simp (disch := omega) only [upH_e, upH_n] <;> rfl
  intro n
  induction n with
  | zero =>
    intro i hi
    obtain rfl : i = 10 := by omega
    refine r_iload_n C d3_init_35 rfl ?_
    refine r_bipush C d3_init_36 (by decide +kernel) ?_
    refine r_icmpge (tgt := 60) C d3_init_38 rfl ⟨by omega, by omega⟩ ⟨by omega, by omega⟩ (fun _ => ?_) (fun c => absurd (by omega) c)
    refine AtH.e (h' := hFrom h k (cSe G k)) (fun j hj => ?_) (r_vret C M d3_init_60 (Nat.le_of_ble_eq_true rfl) (Nat.le_of_ble_eq_true rfl) ⟨rfl, rfl, rfl⟩)
    rcases Nat.lt_or_ge j k with q | q
    · rw [hFrom_lo q, hFrom_lo q]
    · obtain ⟨i, e⟩ : ∃ i, j = k + i := ⟨j - k, by omega⟩
      subst e
      rw [hFrom_at, hFrom_at, cSe_end]
  | succ n ih =>
    intro i hi
    refine r_iload_n C d3_init_35 rfl ?_
    refine r_bipush C d3_init_36 (by decide +kernel) ?_
    refine r_icmpge (tgt := 60) C d3_init_38 rfl ⟨by omega, by omega⟩ ⟨by omega, by omega⟩ (fun c => absurd c (by omega)) (fun _ => ?_)
    refine r_aload_n C d3_init_41 rfl ?_
    refine r_gf (k := k) (sl := 4) (v := .ref (gB G + (k + 1))) C d3_init_42 hX.ad (by omega) (hFrom_0.trans (rfl : cSeF G k i 0 = .inr (3, [vI 0, vI 0, vI 0, vI 0, .ref (gB G + (k + 1))]))) oi3 (by omega) f3_26 rfl ?_
    refine r_iload_n C d3_init_45 rfl ?_
    refine r_new (n := 5) (fs := [.null, vI 0, vI 0, vI 0, vI 0]) hX C hR d3_init_46 oi4 wc3_24 wn4 w4_init.2.1 df4 (by show _ ≤ 21; omega) (by show _ ≤ 120; omega) ?_
    refine r_dup C d3_init_49 rfl ?_
    refine q_callI (As := []) (rest := [.ref (gB G + (k + 2 + 2 * i)), vI (i : Int), .ref (gB G + (k + 1))]) C hR d3_init_50 l3_30 w4_init (ci4 C.lt hX (upH_e rfl)) rfl rfl (Nat.le_of_ble_eq_true rfl) (Nat.le_of_ble_eq_true rfl) (Nat.le_of_ble_eq_true rfl) (by show _ ≤ 21; omega) (by show _ ≤ 120; omega) (fun _ _ _ q => q) (fun v N1 h1 q => ?_)
    obtain ⟨rfl, rfl, rfl⟩ := q
    show AtH G X _ _ 53 _ [.ref (gB G + (k + 2 + 2 * i)), vI (i : Int), .ref (gB G + (k + 1))] _ _
    refine r_aast (a := 4) (k := k + 1) (kv := k + 2 + 2 * i) (f := pF G (k + 2) 2 10 i) C d3_init_53 hX.ad (by omega) ((hFrom_lo (by omega)).trans ((upH_n (by omega)).trans (hFrom_at.trans (rfl : cSeF G k i 1 = arR (gA G 4) 10 (pF G (k + 2) 2 10 i))))) rfl hX.ad (by omega) (hFrom_0.trans (rfl : cShp G (k + 2 + 2 * i) 0 = .inr (4, [.ref (gB G + (k + 2 + 2 * i + 1)), vI 0, vI 0, vI 0, vI 0]))) oi4 (by omega) (by omega) (by decide) ?_
    rw [Int.toNat_natCast, pF_up]
    refine r_iinc C d3_init_54 rfl (by rw [hx]; decide) ?_
    refine r_goto (tgt := 35) C d3_init_57 rfl ?_
    rw [show (i : Int) + 1 = ((i + 1 : Nat) : Int) by omega]
    exact AtH.e (cSe_step (by omega)) (AtH.wd (by omega) (by omega) (AtH.sw (ih (i + 1) (by omega)) ⟨rfl, rfl, trivial⟩))
/-- the input, byte by byte -/
def VL : Nat → VV
  | 0 => V00
  | i + 1 => up2 (up2 (VL i) 2 i (wB (wB (scI 0 i)))) 1 1 ((i : Int) + 1)
theorem VL_1 : ∀ i, VL i 1 1 = (i : Int)
  | 0 => rfl
  | i + 1 => up2_s _ _ _ _
theorem VL_put {i : Nat} (hi : i < 600) : f0_putByte (VL i) (scI 0 i) = some (VL (i + 1)) := by
  unfold f0_putByte
  rw [up2_n (k' := 1) (j := 1) (by omega), VL_1, nrm_of (by omega) (by omega), nrm_of (by omega) (by omega), if_neg (by omega), ck_t (by omega), Int.toNat_natCast]
  rfl
theorem ci5 {G : GT} {l : Launch} {h : HT} {V1 V2 : VV} (hlt : l.stackTraces = false) (hX : gZ G) (hG : gN G = 148) (hk : h 0 = .inr (5, [.null, .null, .null, .null, .null, .null, .null, vI 0, vI 0, .null, .null, .null, .null, vI 0])) (h1 : f5_readSetup (VL 79) = some (1, V1)) (h2 : f5_startWithDraft V1 = some V2) : EvC G l y5_init b5_init 2 8 147 2622 [.ref (gB G + 0)] 1 h (vP G (QO (.ok none) (up2 V2 1 1 0))) (vX G (QE (.ok none) (up2 V2 1 1 0))) := by
  refine evc_of hlt (by decide +kernel) rfl (Nat.le_of_ble_eq_true rfl) (av1 rfl) (fun X hl hx C M hnm => ?_)
  subst hl
  replace C : Cx G X "ChannelSchedule" b5_init := C
  have hR := M.room
  show AtH G X 0 0 0 [(0, .ref (gB G + 0))] [] 1 h
  refine AtH.e (h' := hC G [.null, .null, .null, .null, .null, .null, .null, vI 0, vI 0, .null, .null, .null, .null, vI 0] 0 0) (fun j hj => ?_) ?_
  · obtain rfl : j = 0 := by omega
    exact hk
  refine r_aload_n C d5_init_0 rfl ?_
  refine r_objInit C hR d5_init_1 l5_1 (Nat.le_of_ble_eq_true rfl) (Nat.le_of_ble_eq_true rfl) (Nat.le_of_ble_eq_true rfl) ?_
  refine r_aload_n C d5_init_4 rfl ?_
  refine r_new (n := 8) (fs := [.null, vI 0, vI 0, vI 0, vI 0, vI 0, vI 0, vI 0]) hX C hR d5_init_5 oi0 wc5_7 wn0 w0_init.2.1 df0 (Nat.le_of_ble_eq_true rfl) (Nat.le_of_ble_eq_true rfl) ?_
  refine r_dup C d5_init_8 rfl ?_
  refine q_callI (As := []) (rest := [.ref (gB G + 1), .ref (gB G + 0)]) C hR d5_init_9 l5_9 w0_init (ci0 C.lt hX (upH_e rfl)) rfl rfl (Nat.le_of_ble_eq_true rfl) (Nat.le_of_ble_eq_true rfl) (Nat.le_of_ble_eq_true rfl) (Nat.le_of_ble_eq_true rfl) (Nat.le_of_ble_eq_true rfl) (fun _ _ _ q => q) (fun v N1 h1 q => ?_)
  obtain ⟨rfl, rfl, rfl⟩ := q
  show AtH G X 2 608 12 [(0, .ref (gB G + 0))] [.ref (gB G + 1), .ref (gB G + 0)] 3 _
  refine r_pfF (k := 0) (sl := 0) (fs := [.null, .null, .null, .null, .null, .null, .null, vI 0, vI 0, .null, .null, .null, .null, vI 0]) (ty := (.object "ChannelSchedule$Input")) C hnm d5_init_12 hX.ad (by omega) ((hFrom_lo (by omega)).trans ((upH_n (by omega)).trans (rfl : hC G [.null, .null, .null, .null, .null, .null, .null, vI 0, vI 0, .null, .null, .null, .null, vI 0] 0 0 0 = .inr (5, [.null, .null, .null, .null, .null, .null, .null, vI 0, vI 0, .null, .null, .null, .null, vI 0])))) oi5 (by omega) f5_10 rfl rfl td_oInput rfl rfl (Nat.le_of_ble_eq_true rfl) ?_
  refine AtH.e (h' := hC G [.ref (gB G + 1), .null, .null, .null, .null, .null, .null, vI 0, vI 0, .null, .null, .null, .null, vI 0] 0 0) (hC_step (by omega) hC_in) ?_
  refine r_aload_n C d5_init_15 rfl ?_
  refine r_new (n := 6) (fs := [vI 0, .null, .null, .null, .null, .null]) hX C hR d5_init_16 oi2 wc5_16 wn2 w2_init.2.1 df2 (Nat.le_of_ble_eq_true rfl) (Nat.le_of_ble_eq_true rfl) ?_
  refine r_dup C d5_init_19 rfl ?_
  refine q_callI (As := []) (rest := [.ref (gB G + 3), .ref (gB G + 0)]) C hR d5_init_20 l5_18 w2_init (ci2 C.lt hX (upH_e rfl)) rfl rfl (Nat.le_of_ble_eq_true rfl) (Nat.le_of_ble_eq_true rfl) (Nat.le_of_ble_eq_true rfl) (Nat.le_of_ble_eq_true rfl) (Nat.le_of_ble_eq_true rfl) (fun _ _ _ q => q) (fun v N1 h1 q => ?_)
  obtain ⟨rfl, rfl, rfl⟩ := q
  show AtH G X 8 764 23 [(0, .ref (gB G + 0))] [.ref (gB G + 3), .ref (gB G + 0)] 9 _
  refine r_pfF (k := 0) (sl := 1) (fs := [.ref (gB G + 1), .null, .null, .null, .null, .null, .null, vI 0, vI 0, .null, .null, .null, .null, vI 0]) (ty := (.object "ChannelSchedule$Script")) C hnm d5_init_23 hX.ad (by omega) ((hFrom_lo (by omega)).trans ((upH_n (by omega)).trans (rfl : hC G [.ref (gB G + 1), .null, .null, .null, .null, .null, .null, vI 0, vI 0, .null, .null, .null, .null, vI 0] 0 0 0 = .inr (5, [.ref (gB G + 1), .null, .null, .null, .null, .null, .null, vI 0, vI 0, .null, .null, .null, .null, vI 0])))) oi5 (by omega) f5_19 rfl rfl td_oScript rfl rfl (Nat.le_of_ble_eq_true rfl) ?_
  refine AtH.e (h' := hC G [.ref (gB G + 1), .ref (gB G + 3), .null, .null, .null, .null, .null, vI 0, vI 0, .null, .null, .null, .null, vI 0] 0 0) (hC_step (by omega) hC_sc) ?_
  refine r_aload_n C d5_init_26 rfl ?_
  refine r_new (n := 5) (fs := [vI 0, vI 0, vI 0, vI 0, .null]) hX C hR d5_init_27 oi3 wc5_23 wn3 w3_init.2.1 df3 (Nat.le_of_ble_eq_true rfl) (Nat.le_of_ble_eq_true rfl) ?_
  refine r_dup C d5_init_30 rfl ?_
  refine q_callI (As := []) (rest := [.ref (gB G + 9), .ref (gB G + 0)]) C hR d5_init_31 l5_25 w3_init (ci3 C.lt hX (upH_e rfl)) rfl rfl (Nat.le_of_ble_eq_true rfl) (Nat.le_of_ble_eq_true rfl) (Nat.le_of_ble_eq_true rfl) (Nat.le_of_ble_eq_true rfl) (Nat.le_of_ble_eq_true rfl) (fun _ _ _ q => q) (fun v N1 h1 q => ?_)
  obtain ⟨rfl, rfl, rfl⟩ := q
  show AtH G X 30 889 34 [(0, .ref (gB G + 0))] [.ref (gB G + 9), .ref (gB G + 0)] 31 _
  refine r_pf (k := 0) (sl := 2) (fs := [.ref (gB G + 1), .ref (gB G + 3), .null, .null, .null, .null, .null, vI 0, vI 0, .null, .null, .null, .null, vI 0]) (ty := (.object "ChannelSchedule$Setup")) C d5_init_34 hX.ad (by omega) ((hFrom_lo (by omega)).trans ((upH_n (by omega)).trans (rfl : hC G [.ref (gB G + 1), .ref (gB G + 3), .null, .null, .null, .null, .null, vI 0, vI 0, .null, .null, .null, .null, vI 0] 0 0 0 = .inr (5, [.ref (gB G + 1), .ref (gB G + 3), .null, .null, .null, .null, .null, vI 0, vI 0, .null, .null, .null, .null, vI 0])))) oi5 (by omega) f5_26 rfl td_oSetup rfl rfl (Nat.le_of_ble_eq_true rfl) ?_
  refine AtH.e (h' := hC G [.ref (gB G + 1), .ref (gB G + 3), .ref (gB G + 9), .null, .null, .null, .null, vI 0, vI 0, .null, .null, .null, .null, vI 0] 0 0) (hC_step (by omega) (fun i hi => hC_se (q := 0) (by omega) i (by omega))) ?_
  refine r_aload_n C d5_init_37 rfl ?_
  refine r_new (n := 5) (fs := [vI 0, vI 0, vI 0, vI 0, .null]) hX C hR d5_init_38 oi3 wc5_23 wn3 w3_init.2.1 df3 (Nat.le_of_ble_eq_true rfl) (Nat.le_of_ble_eq_true rfl) ?_
  refine r_dup C d5_init_41 rfl ?_
  refine q_callI (As := []) (rest := [.ref (gB G + 31), .ref (gB G + 0)]) C hR d5_init_42 l5_25 w3_init (ci3 C.lt hX (upH_e rfl)) rfl rfl (Nat.le_of_ble_eq_true rfl) (Nat.le_of_ble_eq_true rfl) (Nat.le_of_ble_eq_true rfl) (Nat.le_of_ble_eq_true rfl) (Nat.le_of_ble_eq_true rfl) (fun _ _ _ q => q) (fun v N1 h1 q => ?_)
  obtain ⟨rfl, rfl, rfl⟩ := q
  show AtH G X 52 1014 45 [(0, .ref (gB G + 0))] [.ref (gB G + 31), .ref (gB G + 0)] 53 _
  refine r_pf (k := 0) (sl := 3) (fs := [.ref (gB G + 1), .ref (gB G + 3), .ref (gB G + 9), .null, .null, .null, .null, vI 0, vI 0, .null, .null, .null, .null, vI 0]) (ty := (.object "ChannelSchedule$Setup")) C d5_init_45 hX.ad (by omega) ((hFrom_lo (by omega)).trans ((upH_n (by omega)).trans (rfl : hC G [.ref (gB G + 1), .ref (gB G + 3), .ref (gB G + 9), .null, .null, .null, .null, vI 0, vI 0, .null, .null, .null, .null, vI 0] 0 0 0 = .inr (5, [.ref (gB G + 1), .ref (gB G + 3), .ref (gB G + 9), .null, .null, .null, .null, vI 0, vI 0, .null, .null, .null, .null, vI 0])))) oi5 (by omega) f5_30 rfl td_oSetup rfl rfl (Nat.le_of_ble_eq_true rfl) ?_
  refine AtH.e (h' := hC G [.ref (gB G + 1), .ref (gB G + 3), .ref (gB G + 9), .ref (gB G + 31), .null, .null, .null, vI 0, vI 0, .null, .null, .null, .null, vI 0] 0 0) (hC_step (by omega) (fun i hi => hC_se (q := 1) (by omega) i (by omega))) ?_
  refine r_aload_n C d5_init_48 rfl ?_
  refine r_new (n := 15) (fs := [vI 0, vI 0, vI 0, vI 0, vI 0, vI 0, .null, .null, .null, .null, vI 0, .null, .null, .null, .null]) hX C hR d5_init_49 oi1 wc5_33 wn1 w1_init.2.1 df1 (Nat.le_of_ble_eq_true rfl) (Nat.le_of_ble_eq_true rfl) ?_
  refine r_dup C d5_init_52 rfl ?_
  refine q_callI (As := []) (rest := [.ref (gB G + 53), .ref (gB G + 0)]) C hR d5_init_53 l5_35 w1_init (ci1 C.lt hX (upH_e rfl)) rfl rfl (Nat.le_of_ble_eq_true rfl) (Nat.le_of_ble_eq_true rfl) (Nat.le_of_ble_eq_true rfl) (Nat.le_of_ble_eq_true rfl) (Nat.le_of_ble_eq_true rfl) (fun _ _ _ q => q) (fun v N1 h1 q => ?_)
  obtain ⟨rfl, rfl, rfl⟩ := q
  show AtH G X 61 1141 56 [(0, .ref (gB G + 0))] [.ref (gB G + 53), .ref (gB G + 0)] 62 _
  refine r_pfF (k := 0) (sl := 4) (fs := [.ref (gB G + 1), .ref (gB G + 3), .ref (gB G + 9), .ref (gB G + 31), .null, .null, .null, vI 0, vI 0, .null, .null, .null, .null, vI 0]) (ty := (.object "ChannelSchedule$Plan")) C hnm d5_init_56 hX.ad (by omega) ((hFrom_lo (by omega)).trans ((upH_n (by omega)).trans (rfl : hC G [.ref (gB G + 1), .ref (gB G + 3), .ref (gB G + 9), .ref (gB G + 31), .null, .null, .null, vI 0, vI 0, .null, .null, .null, .null, vI 0] 0 0 0 = .inr (5, [.ref (gB G + 1), .ref (gB G + 3), .ref (gB G + 9), .ref (gB G + 31), .null, .null, .null, vI 0, vI 0, .null, .null, .null, .null, vI 0])))) oi5 (by omega) f5_36 rfl rfl td_oPlan rfl rfl (Nat.le_of_ble_eq_true rfl) ?_
  refine AtH.e (h' := hC G [.ref (gB G + 1), .ref (gB G + 3), .ref (gB G + 9), .ref (gB G + 31), .ref (gB G + 53), .null, .null, vI 0, vI 0, .null, .null, .null, .null, vI 0] 0 0) (hC_step (by omega) (fun i hi => hC_pl (q := 0) (by omega) i (by omega))) ?_
  refine r_aload_n C d5_init_59 rfl ?_
  refine r_new (n := 15) (fs := [vI 0, vI 0, vI 0, vI 0, vI 0, vI 0, .null, .null, .null, .null, vI 0, .null, .null, .null, .null]) hX C hR d5_init_60 oi1 wc5_33 wn1 w1_init.2.1 df1 (Nat.le_of_ble_eq_true rfl) (Nat.le_of_ble_eq_true rfl) ?_
  refine r_dup C d5_init_63 rfl ?_
  refine q_callI (As := []) (rest := [.ref (gB G + 62), .ref (gB G + 0)]) C hR d5_init_64 l5_35 w1_init (ci1 C.lt hX (upH_e rfl)) rfl rfl (Nat.le_of_ble_eq_true rfl) (Nat.le_of_ble_eq_true rfl) (Nat.le_of_ble_eq_true rfl) (Nat.le_of_ble_eq_true rfl) (Nat.le_of_ble_eq_true rfl) (fun _ _ _ q => q) (fun v N1 h1 q => ?_)
  obtain ⟨rfl, rfl, rfl⟩ := q
  show AtH G X 70 1268 67 [(0, .ref (gB G + 0))] [.ref (gB G + 62), .ref (gB G + 0)] 71 _
  refine r_pfF (k := 0) (sl := 5) (fs := [.ref (gB G + 1), .ref (gB G + 3), .ref (gB G + 9), .ref (gB G + 31), .ref (gB G + 53), .null, .null, vI 0, vI 0, .null, .null, .null, .null, vI 0]) (ty := (.object "ChannelSchedule$Plan")) C hnm d5_init_67 hX.ad (by omega) ((hFrom_lo (by omega)).trans ((upH_n (by omega)).trans (rfl : hC G [.ref (gB G + 1), .ref (gB G + 3), .ref (gB G + 9), .ref (gB G + 31), .ref (gB G + 53), .null, .null, vI 0, vI 0, .null, .null, .null, .null, vI 0] 0 0 0 = .inr (5, [.ref (gB G + 1), .ref (gB G + 3), .ref (gB G + 9), .ref (gB G + 31), .ref (gB G + 53), .null, .null, vI 0, vI 0, .null, .null, .null, .null, vI 0])))) oi5 (by omega) f5_40 rfl rfl td_oPlan rfl rfl (Nat.le_of_ble_eq_true rfl) ?_
  refine AtH.e (h' := hC G [.ref (gB G + 1), .ref (gB G + 3), .ref (gB G + 9), .ref (gB G + 31), .ref (gB G + 53), .ref (gB G + 62), .null, vI 0, vI 0, .null, .null, .null, .null, vI 0] 0 0) (hC_step (by omega) (fun i hi => hC_pl (q := 1) (by omega) i (by omega))) ?_
  refine r_aload_n C d5_init_70 rfl ?_
  refine r_bipush C d5_init_71 (by decide +kernel) ?_
  refine r_anewa (a := 5) (n := 6) (f := pF G 76 9 6 0) hX C hR (fun _ q => q.2.2.2.2.2.2.2.2.1.2) d5_init_73 wc5_33 rfl (by decide +kernel) (by decide +kernel) (Nat.le_of_ble_eq_true rfl) (Nat.le_of_ble_eq_true rfl) (Nat.le_of_ble_eq_true rfl) pF_none ?_
  show AtH G X 71 1274 76 [(0, .ref (gB G + 0))] [.ref (gB G + 71), .ref (gB G + 0)] 72 _
  refine r_pfF (k := 0) (sl := 6) (fs := [.ref (gB G + 1), .ref (gB G + 3), .ref (gB G + 9), .ref (gB G + 31), .ref (gB G + 53), .ref (gB G + 62), .null, vI 0, vI 0, .null, .null, .null, .null, vI 0]) (ty := (.array (.object "ChannelSchedule$Plan"))) C hnm d5_init_76 hX.ad (by omega) ((upH_n (by omega)).trans (rfl : hC G [.ref (gB G + 1), .ref (gB G + 3), .ref (gB G + 9), .ref (gB G + 31), .ref (gB G + 53), .ref (gB G + 62), .null, vI 0, vI 0, .null, .null, .null, .null, vI 0] 0 0 0 = .inr (5, [.ref (gB G + 1), .ref (gB G + 3), .ref (gB G + 9), .ref (gB G + 31), .ref (gB G + 53), .ref (gB G + 62), .null, vI 0, vI 0, .null, .null, .null, .null, vI 0]))) oi5 (by omega) f5_43 rfl rfl td_aPlan rfl rfl (Nat.le_of_ble_eq_true rfl) ?_
  refine AtH.e (h' := hC G [.ref (gB G + 1), .ref (gB G + 3), .ref (gB G + 9), .ref (gB G + 31), .ref (gB G + 53), .ref (gB G + 62), .ref (gB G + 71), vI 0, vI 0, .null, .null, .null, .null, vI 0] 0 0) (hC_one (by omega) rfl) ?_
  refine r_aload_n C d5_init_79 rfl ?_
  refine r_iconst C d5_init_80 ?_
  refine r_pf (k := 0) (sl := 7) (fs := [.ref (gB G + 1), .ref (gB G + 3), .ref (gB G + 9), .ref (gB G + 31), .ref (gB G + 53), .ref (gB G + 62), .ref (gB G + 71), vI 0, vI 0, .null, .null, .null, .null, vI 0]) (ty := .int) C d5_init_81 hX.ad (by omega) (rfl : hC G [.ref (gB G + 1), .ref (gB G + 3), .ref (gB G + 9), .ref (gB G + 31), .ref (gB G + 53), .ref (gB G + 62), .ref (gB G + 71), vI 0, vI 0, .null, .null, .null, .null, vI 0] 0 0 0 = .inr (5, [.ref (gB G + 1), .ref (gB G + 3), .ref (gB G + 9), .ref (gB G + 31), .ref (gB G + 53), .ref (gB G + 62), .ref (gB G + 71), vI 0, vI 0, .null, .null, .null, .null, vI 0])) oi5 (by omega) f5_47 rfl td_I rfl rfl (Nat.le_of_ble_eq_true rfl) ?_
  refine AtH.e (h' := hC G [.ref (gB G + 1), .ref (gB G + 3), .ref (gB G + 9), .ref (gB G + 31), .ref (gB G + 53), .ref (gB G + 62), .ref (gB G + 71), vI 0, vI 0, .null, .null, .null, .null, vI 0] 0 0) (hC_put _) ?_
  refine r_aload_n C d5_init_84 rfl ?_
  refine r_iconst C d5_init_85 ?_
  refine r_pf (k := 0) (sl := 8) (fs := [.ref (gB G + 1), .ref (gB G + 3), .ref (gB G + 9), .ref (gB G + 31), .ref (gB G + 53), .ref (gB G + 62), .ref (gB G + 71), vI 0, vI 0, .null, .null, .null, .null, vI 0]) (ty := .int) C d5_init_86 hX.ad (by omega) (rfl : hC G [.ref (gB G + 1), .ref (gB G + 3), .ref (gB G + 9), .ref (gB G + 31), .ref (gB G + 53), .ref (gB G + 62), .ref (gB G + 71), vI 0, vI 0, .null, .null, .null, .null, vI 0] 0 0 0 = .inr (5, [.ref (gB G + 1), .ref (gB G + 3), .ref (gB G + 9), .ref (gB G + 31), .ref (gB G + 53), .ref (gB G + 62), .ref (gB G + 71), vI 0, vI 0, .null, .null, .null, .null, vI 0])) oi5 (by omega) f5_51 rfl td_I rfl rfl (Nat.le_of_ble_eq_true rfl) ?_
  refine AtH.e (h' := hC G [.ref (gB G + 1), .ref (gB G + 3), .ref (gB G + 9), .ref (gB G + 31), .ref (gB G + 53), .ref (gB G + 62), .ref (gB G + 71), vI 0, vI 0, .null, .null, .null, .null, vI 0] 0 0) (hC_put _) ?_
  refine r_aload_n C d5_init_89 rfl ?_
  refine r_iconst C d5_init_90 ?_
  refine r_anewa (a := 5) (n := 2) (f := pF G 130 9 2 0) hX C hR (fun _ q => q.2.2.2.2.2.2.2.2.1.2) d5_init_91 wc5_33 rfl (by decide +kernel) (by decide +kernel) (Nat.le_of_ble_eq_true rfl) (Nat.le_of_ble_eq_true rfl) (Nat.le_of_ble_eq_true rfl) pF_none ?_
  show AtH G X 72 1276 94 [(0, .ref (gB G + 0))] [.ref (gB G + 72), .ref (gB G + 0)] 73 _
  refine r_pfF (k := 0) (sl := 9) (fs := [.ref (gB G + 1), .ref (gB G + 3), .ref (gB G + 9), .ref (gB G + 31), .ref (gB G + 53), .ref (gB G + 62), .ref (gB G + 71), vI 0, vI 0, .null, .null, .null, .null, vI 0]) (ty := (.array (.object "ChannelSchedule$Plan"))) C hnm d5_init_94 hX.ad (by omega) ((upH_n (by omega)).trans (rfl : hC G [.ref (gB G + 1), .ref (gB G + 3), .ref (gB G + 9), .ref (gB G + 31), .ref (gB G + 53), .ref (gB G + 62), .ref (gB G + 71), vI 0, vI 0, .null, .null, .null, .null, vI 0] 0 0 0 = .inr (5, [.ref (gB G + 1), .ref (gB G + 3), .ref (gB G + 9), .ref (gB G + 31), .ref (gB G + 53), .ref (gB G + 62), .ref (gB G + 71), vI 0, vI 0, .null, .null, .null, .null, vI 0]))) oi5 (by omega) f5_54 rfl rfl td_aPlan rfl rfl (Nat.le_of_ble_eq_true rfl) ?_
  refine AtH.e (h' := hC G [.ref (gB G + 1), .ref (gB G + 3), .ref (gB G + 9), .ref (gB G + 31), .ref (gB G + 53), .ref (gB G + 62), .ref (gB G + 71), vI 0, vI 0, .ref (gB G + 72), .null, .null, .null, vI 0] 0 0) (hC_one (by omega) rfl) ?_
  refine r_aload_n C d5_init_97 rfl ?_
  refine r_iconst C d5_init_98 ?_
  refine r_newZ (n := 2) hX C hR d5_init_99 (by decide +kernel) (by decide +kernel) (Nat.le_of_ble_eq_true rfl) (Nat.le_of_ble_eq_true rfl) (Nat.le_of_ble_eq_true rfl) ?_
  show AtH G X 73 1278 101 [(0, .ref (gB G + 0))] [.ref (gB G + 73), .ref (gB G + 0)] 74 _
  refine r_pfF (k := 0) (sl := 10) (fs := [.ref (gB G + 1), .ref (gB G + 3), .ref (gB G + 9), .ref (gB G + 31), .ref (gB G + 53), .ref (gB G + 62), .ref (gB G + 71), vI 0, vI 0, .ref (gB G + 72), .null, .null, .null, vI 0]) (ty := (.array .boolean)) C hnm d5_init_101 hX.ad (by omega) ((upH_n (by omega)).trans (rfl : hC G [.ref (gB G + 1), .ref (gB G + 3), .ref (gB G + 9), .ref (gB G + 31), .ref (gB G + 53), .ref (gB G + 62), .ref (gB G + 71), vI 0, vI 0, .ref (gB G + 72), .null, .null, .null, vI 0] 0 0 0 = .inr (5, [.ref (gB G + 1), .ref (gB G + 3), .ref (gB G + 9), .ref (gB G + 31), .ref (gB G + 53), .ref (gB G + 62), .ref (gB G + 71), vI 0, vI 0, .ref (gB G + 72), .null, .null, .null, vI 0]))) oi5 (by omega) f5_57 rfl rfl td_aZ rfl rfl (Nat.le_of_ble_eq_true rfl) ?_
  refine AtH.e (h' := hC G [.ref (gB G + 1), .ref (gB G + 3), .ref (gB G + 9), .ref (gB G + 31), .ref (gB G + 53), .ref (gB G + 62), .ref (gB G + 71), vI 0, vI 0, .ref (gB G + 72), .ref (gB G + 73), .null, .null, vI 0] 0 0) (hC_one (by omega) rfl) ?_
  refine r_aload_n C d5_init_104 rfl ?_
  refine r_bipush C d5_init_105 (by decide +kernel) ?_
  refine r_newI (n := 8) hX C hR d5_init_107 (by decide +kernel) (by decide +kernel) (Nat.le_of_ble_eq_true rfl) (Nat.le_of_ble_eq_true rfl) (Nat.le_of_ble_eq_true rfl) ?_
  show AtH G X 74 1286 109 [(0, .ref (gB G + 0))] [.ref (gB G + 74), .ref (gB G + 0)] 75 _
  refine r_pfF (k := 0) (sl := 11) (fs := [.ref (gB G + 1), .ref (gB G + 3), .ref (gB G + 9), .ref (gB G + 31), .ref (gB G + 53), .ref (gB G + 62), .ref (gB G + 71), vI 0, vI 0, .ref (gB G + 72), .ref (gB G + 73), .null, .null, vI 0]) (ty := (.array .int)) C hnm d5_init_109 hX.ad (by omega) ((upH_n (by omega)).trans (rfl : hC G [.ref (gB G + 1), .ref (gB G + 3), .ref (gB G + 9), .ref (gB G + 31), .ref (gB G + 53), .ref (gB G + 62), .ref (gB G + 71), vI 0, vI 0, .ref (gB G + 72), .ref (gB G + 73), .null, .null, vI 0] 0 0 0 = .inr (5, [.ref (gB G + 1), .ref (gB G + 3), .ref (gB G + 9), .ref (gB G + 31), .ref (gB G + 53), .ref (gB G + 62), .ref (gB G + 71), vI 0, vI 0, .ref (gB G + 72), .ref (gB G + 73), .null, .null, vI 0]))) oi5 (by omega) f5_61 rfl rfl td_aI rfl rfl (Nat.le_of_ble_eq_true rfl) ?_
  refine AtH.e (h' := hC G [.ref (gB G + 1), .ref (gB G + 3), .ref (gB G + 9), .ref (gB G + 31), .ref (gB G + 53), .ref (gB G + 62), .ref (gB G + 71), vI 0, vI 0, .ref (gB G + 72), .ref (gB G + 73), .ref (gB G + 74), .null, vI 0] 0 0) (hC_one (by omega) rfl) ?_
  refine r_aload_n C d5_init_112 rfl ?_
  refine r_sipush C d5_init_113 (by decide +kernel) ?_
  refine r_newB (n := 320) hX C hR d5_init_116 (by decide +kernel) (by decide +kernel) (Nat.le_of_ble_eq_true rfl) (Nat.le_of_ble_eq_true rfl) (Nat.le_of_ble_eq_true rfl) ?_
  show AtH G X 75 1606 118 [(0, .ref (gB G + 0))] [.ref (gB G + 75), .ref (gB G + 0)] 76 _
  refine r_pfF (k := 0) (sl := 12) (fs := [.ref (gB G + 1), .ref (gB G + 3), .ref (gB G + 9), .ref (gB G + 31), .ref (gB G + 53), .ref (gB G + 62), .ref (gB G + 71), vI 0, vI 0, .ref (gB G + 72), .ref (gB G + 73), .ref (gB G + 74), .null, vI 0]) (ty := (.array .byte)) C hnm d5_init_118 hX.ad (by omega) ((upH_n (by omega)).trans (rfl : hC G [.ref (gB G + 1), .ref (gB G + 3), .ref (gB G + 9), .ref (gB G + 31), .ref (gB G + 53), .ref (gB G + 62), .ref (gB G + 71), vI 0, vI 0, .ref (gB G + 72), .ref (gB G + 73), .ref (gB G + 74), .null, vI 0] 0 0 0 = .inr (5, [.ref (gB G + 1), .ref (gB G + 3), .ref (gB G + 9), .ref (gB G + 31), .ref (gB G + 53), .ref (gB G + 62), .ref (gB G + 71), vI 0, vI 0, .ref (gB G + 72), .ref (gB G + 73), .ref (gB G + 74), .null, vI 0]))) oi5 (by omega) f5_65 rfl rfl td_aB rfl rfl (Nat.le_of_ble_eq_true rfl) ?_
  refine AtH.e (h' := hC G [.ref (gB G + 1), .ref (gB G + 3), .ref (gB G + 9), .ref (gB G + 31), .ref (gB G + 53), .ref (gB G + 62), .ref (gB G + 71), vI 0, vI 0, .ref (gB G + 72), .ref (gB G + 73), .ref (gB G + 74), .ref (gB G + 75), vI 0] 0 0) (hC_one (by omega) rfl) ?_
  refine r_aload_n C d5_init_121 rfl ?_
  refine r_iconst C d5_init_122 ?_
  refine r_pf (k := 0) (sl := 13) (fs := [.ref (gB G + 1), .ref (gB G + 3), .ref (gB G + 9), .ref (gB G + 31), .ref (gB G + 53), .ref (gB G + 62), .ref (gB G + 71), vI 0, vI 0, .ref (gB G + 72), .ref (gB G + 73), .ref (gB G + 74), .ref (gB G + 75), vI 0]) (ty := .int) C d5_init_123 hX.ad (by omega) (rfl : hC G [.ref (gB G + 1), .ref (gB G + 3), .ref (gB G + 9), .ref (gB G + 31), .ref (gB G + 53), .ref (gB G + 62), .ref (gB G + 71), vI 0, vI 0, .ref (gB G + 72), .ref (gB G + 73), .ref (gB G + 74), .ref (gB G + 75), vI 0] 0 0 0 = .inr (5, [.ref (gB G + 1), .ref (gB G + 3), .ref (gB G + 9), .ref (gB G + 31), .ref (gB G + 53), .ref (gB G + 62), .ref (gB G + 71), vI 0, vI 0, .ref (gB G + 72), .ref (gB G + 73), .ref (gB G + 74), .ref (gB G + 75), vI 0])) oi5 (by omega) f5_69 rfl td_I rfl rfl (Nat.le_of_ble_eq_true rfl) ?_
  refine AtH.e (h' := hC G [.ref (gB G + 1), .ref (gB G + 3), .ref (gB G + 9), .ref (gB G + 31), .ref (gB G + 53), .ref (gB G + 62), .ref (gB G + 71), vI 0, vI 0, .ref (gB G + 72), .ref (gB G + 73), .ref (gB G + 74), .ref (gB G + 75), vI 0] 0 0) (hC_put _) ?_
  generalize hFS : ([.ref (gB G + 1), .ref (gB G + 3), .ref (gB G + 9), .ref (gB G + 31), .ref (gB G + 53), .ref (gB G + 62), .ref (gB G + 71), vI 0, vI 0, .ref (gB G + 72), .ref (gB G + 73), .ref (gB G + 74), .ref (gB G + 75), vI 0] : List Value) = FS
  have hN : 148 ≤ gN G := by omega
  suffices past : ∀ (n i : Nat), i + n = 6 → AtH G X (75 + 9 * i) (1606 + 127 * i) 128 [(0, .ref (gB G + 0)), (1, vI (i : Int))] [] (76 + 9 * i) (hC G FS i 0) by
    refine r_iconst C d5_init_126 ?_
    refine r_istore_n C d5_init_127 (by rw [hx]; decide) ?_
    exact AtH.sw (past 6 0 rfl) ⟨rfl, rfl, trivial⟩
  suffices saved : ∀ (n i : Nat), i + n = 2 → AtH G X (129 + 9 * i) (2368 + 127 * i) 155 [(0, .ref (gB G + 0)), (1, vI (i : Int))] [] (130 + 9 * i) (hC G FS 6 i) by
    intro n
    induction n with
    | zero =>
      intro i hi
      obtain rfl : i = 6 := by omega
      refine r_iload_n C d5_init_128 rfl ?_
      refine r_bipush C d5_init_129 (by decide +kernel) ?_
      refine r_icmpge (tgt := 153) C d5_init_131 rfl ⟨by omega, by omega⟩ ⟨by omega, by omega⟩ (fun _ => ?_) (fun c => absurd (by omega) c)
      refine r_iconst C d5_init_153 ?_
      refine r_istore_n C d5_init_154 (by rw [hx]; decide) ?_
      exact AtH.sw (saved 2 0 rfl) ⟨rfl, rfl, trivial⟩
    | succ n ih =>
      intro i hi
      refine r_iload_n C d5_init_128 rfl ?_
      refine r_bipush C d5_init_129 (by decide +kernel) ?_
      refine r_icmpge (tgt := 153) C d5_init_131 rfl ⟨by omega, by omega⟩ ⟨by omega, by omega⟩ (fun c => absurd c (by omega)) (fun _ => ?_)
      refine r_aload_n C d5_init_134 rfl ?_
      refine r_gf (k := 0) (sl := 6) (v := .ref (gB G + 71)) C d5_init_135 hX.ad (by omega) (rfl : hC G FS i 0 0 = .inr (5, FS)) oi5 (by omega) f5_43 (by rw [← hFS]; rfl) ?_
      refine r_iload_n C d5_init_138 rfl ?_
      refine r_new (n := 15) (fs := [vI 0, vI 0, vI 0, vI 0, vI 0, vI 0, .null, .null, .null, .null, vI 0, .null, .null, .null, .null]) hX C hR d5_init_139 oi1 wc5_33 wn1 w1_init.2.1 df1 (by show _ ≤ 147; omega) (by show _ ≤ 2622; omega) ?_
      refine r_dup C d5_init_142 rfl ?_
      refine q_callI (As := []) (rest := [.ref (gB G + (76 + 9 * i)), vI (i : Int), .ref (gB G + 71)]) C hR d5_init_143 l5_35 w1_init (ci1 C.lt hX (upH_e rfl)) rfl rfl (Nat.le_of_ble_eq_true rfl) (Nat.le_of_ble_eq_true rfl) (Nat.le_of_ble_eq_true rfl) (by show _ ≤ 147; omega) (by show _ ≤ 2622; omega) (fun _ _ _ q => q) (fun v N1 h1 q => ?_)
      obtain ⟨rfl, rfl, rfl⟩ := q
      show AtH G X _ _ 146 _ [.ref (gB G + (76 + 9 * i)), vI (i : Int), .ref (gB G + 71)] _ _
      refine r_aast (a := 5) (k := 71) (kv := 76 + 9 * i) (f := pF G 76 9 6 i) C d5_init_146 hX.ad (by omega) ((hFrom_lo (by omega)).trans ((upH_n (by omega)).trans (rfl : hC G FS i 0 71 = arR (gA G 5) 6 (pF G 76 9 6 i)))) rfl hX.ad (by omega) (hFrom_0.trans (rfl : cPl G (76 + 9 * i) 0 = obPlan (gB G) (76 + 9 * i + 0) zr)) oi1 (by omega) (by omega) (by decide) ?_
      rw [Int.toNat_natCast, pF_up]
      refine r_iinc C d5_init_147 rfl (by rw [hx]; decide) ?_
      refine r_goto (tgt := 128) C d5_init_150 rfl ?_
      rw [show (i : Int) + 1 = ((i + 1 : Nat) : Int) by omega]
      exact AtH.e (hC_past rfl (by omega)) (AtH.wd (by omega) (by omega) (AtH.sw (ih (i + 1) (by omega)) ⟨rfl, rfl, trivial⟩))
  suffices rest : At G X 147 2622 179 [(0, .ref (gB G + 0))] [] V00 by
    intro n
    induction n with
    | zero =>
      intro i hi
      obtain rfl : i = 2 := by omega
      refine r_iload_n C d5_init_155 rfl ?_
      refine r_iconst C d5_init_156 ?_
      refine r_icmpge (tgt := 179) C d5_init_157 rfl ⟨by omega, by omega⟩ ⟨by omega, by omega⟩ (fun _ => ?_) (fun c => absurd (by omega) c)
      have rest2 : AtH G X 147 2622 179 [(0, .ref (gB G + 0))] [] (gN G) (hV G V00) := rest
      rw [hG] at rest2
      refine AtH.e (fun j hj => ?_) (AtH.sw rest2 ⟨rfl, trivial⟩)
      show hC G FS 6 2 j = celOf (gB G) (gC G) (gA G) j (V00 j)
      unfold hC
      by_cases q0 : j = 0
      · subst q0
        rw [if_pos rfl, ← hFS]
        rfl
      · rw [if_neg q0]
        by_cases q1 : j = 71
        · subst q1
          rw [if_pos rfl, pF_all]
          rfl
        · rw [if_neg q1]
          by_cases q2 : j = 72
          · subst q2
            rw [if_pos rfl, pF_all]
            rfl
          · rw [if_neg q2]
    | succ n ih =>
      intro i hi
      refine r_iload_n C d5_init_155 rfl ?_
      refine r_iconst C d5_init_156 ?_
      refine r_icmpge (tgt := 179) C d5_init_157 rfl ⟨by omega, by omega⟩ ⟨by omega, by omega⟩ (fun c => absurd c (by omega)) (fun _ => ?_)
      refine r_aload_n C d5_init_160 rfl ?_
      refine r_gf (k := 0) (sl := 9) (v := .ref (gB G + 72)) C d5_init_161 hX.ad (by omega) (rfl : hC G FS 6 i 0 = .inr (5, FS)) oi5 (by omega) f5_54 (by rw [← hFS]; rfl) ?_
      refine r_iload_n C d5_init_164 rfl ?_
      refine r_new (n := 15) (fs := [vI 0, vI 0, vI 0, vI 0, vI 0, vI 0, .null, .null, .null, .null, vI 0, .null, .null, .null, .null]) hX C hR d5_init_165 oi1 wc5_33 wn1 w1_init.2.1 df1 (by show _ ≤ 147; omega) (by show _ ≤ 2622; omega) ?_
      refine r_dup C d5_init_168 rfl ?_
      refine q_callI (As := []) (rest := [.ref (gB G + (130 + 9 * i)), vI (i : Int), .ref (gB G + 72)]) C hR d5_init_169 l5_35 w1_init (ci1 C.lt hX (upH_e rfl)) rfl rfl (Nat.le_of_ble_eq_true rfl) (Nat.le_of_ble_eq_true rfl) (Nat.le_of_ble_eq_true rfl) (by show _ ≤ 147; omega) (by show _ ≤ 2622; omega) (fun _ _ _ q => q) (fun v N1 h1 q => ?_)
      obtain ⟨rfl, rfl, rfl⟩ := q
      show AtH G X _ _ 172 _ [.ref (gB G + (130 + 9 * i)), vI (i : Int), .ref (gB G + 72)] _ _
      refine r_aast (a := 5) (k := 72) (kv := 130 + 9 * i) (f := pF G 130 9 2 i) C d5_init_172 hX.ad (by omega) ((hFrom_lo (by omega)).trans ((upH_n (by omega)).trans (rfl : hC G FS 6 i 72 = arR (gA G 5) 2 (pF G 130 9 2 i)))) rfl hX.ad (by omega) (hFrom_0.trans (rfl : cPl G (130 + 9 * i) 0 = obPlan (gB G) (130 + 9 * i + 0) zr)) oi1 (by omega) (by omega) (by decide) ?_
      rw [Int.toNat_natCast, pF_up]
      refine r_iinc C d5_init_173 rfl (by rw [hx]; decide) ?_
      refine r_goto (tgt := 155) C d5_init_176 rfl ?_
      rw [show (i : Int) + 1 = ((i + 1 : Nat) : Int) by omega]
      exact AtH.e (hC_saved rfl (by omega)) (AtH.wd (by omega) (by omega) (AtH.sw (ih (i + 1) (by omega)) ⟨rfl, rfl, trivial⟩))
  have e79 : slI 0 = 79 := by decide +kernel
  suffices loop : ∀ (n i : Nat), i + n = 79 → At G X 147 2622 181 [(0, .ref (gB G + 0)), (1, vI (i : Int))] [] (VL i) by
    refine r_iconst C d5_init_179 ?_
    refine x_istore_n hx C d5_init_180 rfl ?_
    exact AtH.sw (loop 79 0 rfl) ⟨rfl, rfl, trivial⟩
  intro n
  induction n with
  | zero =>
    intro i hi
    obtain rfl : i = 79 := by omega
    refine r_iload_n C d5_init_181 rfl ?_
    refine x_ldcX (k := 0) C d5_init_182 (by decide) ?_
    refine x_slen C M d5_init_184 l5_74 (by decide) rfl (Nat.le_of_ble_eq_true rfl) (Nat.le_of_ble_eq_true rfl) ?_
    rw [e79]
    refine r_icmpge (tgt := 209) C d5_init_187 rfl ⟨by omega, by omega⟩ ⟨by omega, by omega⟩ (fun _ => ?_) (fun c => absurd (by omega) c)
    refine r_aload_n C d5_init_209 rfl ?_
    refine cV0_i C M d5_init_210 l5_88 w5_readSetup (rc_main hN) (ev5_readSetup C.lt hN h1) rfl (Nat.le_of_ble_eq_true rfl) (Nat.le_of_ble_eq_true rfl) ?_
    refine x_ifeq (tgt := 220) C d5_init_213 rfl (fun c => absurd c (by decide +kernel)) (fun c => ?_)
    refine r_aload_n C d5_init_216 rfl ?_
    refine cV0_v C M d5_init_217 l5_92 w5_startWithDraft (rc_main hN) (ev5_startWithDraft C.lt hN h2) rfl (Nat.le_of_ble_eq_true rfl) (Nat.le_of_ble_eq_true rfl) ?_
    refine r_aload_n C d5_init_220 rfl ?_
    refine g_main_0 C d5_init_221 f5_10 hN ?_
    refine r_iconst C d5_init_224 ?_
    refine p_input_1 C d5_init_225 f5_95 hN ?_
    exact v_vret C M d5_init_228 (Nat.le_of_ble_eq_true rfl) (Nat.le_of_ble_eq_true rfl) ⟨rfl, rfl⟩
  | succ n ih =>
    intro i hi
    refine r_iload_n C d5_init_181 rfl ?_
    refine x_ldcX (k := 0) C d5_init_182 (by decide) ?_
    refine x_slen C M d5_init_184 l5_74 (by decide) rfl (Nat.le_of_ble_eq_true rfl) (Nat.le_of_ble_eq_true rfl) ?_
    rw [e79]
    refine r_icmpge (tgt := 209) C d5_init_187 rfl ⟨by omega, by omega⟩ ⟨by omega, by omega⟩ (fun c => absurd c (by omega)) (fun _ => ?_)
    refine r_aload_n C d5_init_190 rfl ?_
    refine g_main_0 C d5_init_191 f5_10 hN ?_
    refine x_ldcX (k := 0) C d5_init_194 (by decide) ?_
    refine r_iload_n C d5_init_196 rfl ?_
    refine x_schar C M d5_init_197 l5_80 (by decide) ⟨by omega, by omega⟩ rfl (Nat.le_of_ble_eq_true rfl) (Nat.le_of_ble_eq_true rfl) ?_
    rw [Int.toNat_natCast]
    refine cV1_v C M d5_init_200 l5_84 w0_putByte (rc_input hN) (ev0_putByte C.lt hN (VL_put (by omega))) rfl (Nat.le_of_ble_eq_true rfl) (Nat.le_of_ble_eq_true rfl) ?_
    refine r_iinc C d5_init_203 rfl (by rw [hx]; decide) ?_
    refine r_goto (tgt := 181) C d5_init_206 rfl ?_
    rw [show (i : Int) + 1 = ((i + 1 : Nat) : Int) by omega]
    exact AtH.sw (ih (i + 1) (by omega)) ⟨rfl, rfl, trivial⟩
