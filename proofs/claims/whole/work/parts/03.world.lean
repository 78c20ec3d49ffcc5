/-! the classes of the system, their fields in the order of the slots -/
def R0 : String := "ChannelSchedule$Input"
def T0 : u_T := fun k => match k with
  | 0 => ("ChannelSchedule$Input", "bytes", "[B", true)
  | 1 => ("ChannelSchedule$Input", "length", "I", false)
  | 2 => ("ChannelSchedule$Input", "errorCode", "I", false)
  | 3 => ("ChannelSchedule$Input", "errorPosition", "I", false)
  | 4 => ("ChannelSchedule$Input", "kind", "I", false)
  | 5 => ("ChannelSchedule$Input", "tokenStart", "I", false)
  | 6 => ("ChannelSchedule$Input", "at", "I", false)
  | _ => ("ChannelSchedule$Input", "number", "I", false)
def R1 : String := "ChannelSchedule$Plan"
def T1 : u_T := fun k => match k with
  | 0 => ("ChannelSchedule$Plan", "thickness", "I", false)
  | 1 => ("ChannelSchedule$Plan", "minute", "I", false)
  | 2 => ("ChannelSchedule$Plan", "made", "I", false)
  | 3 => ("ChannelSchedule$Plan", "cancelled", "I", false)
  | 4 => ("ChannelSchedule$Plan", "served", "I", false)
  | 5 => ("ChannelSchedule$Plan", "bookings", "I", false)
  | 6 => ("ChannelSchedule$Plan", "ships", "[I", true)
  | 7 => ("ChannelSchedule$Plan", "inbound", "[Z", true)
  | 8 => ("ChannelSchedule$Plan", "starts", "[I", true)
  | 9 => ("ChannelSchedule$Plan", "ends", "[I", true)
  | 10 => ("ChannelSchedule$Plan", "requests", "I", false)
  | 11 => ("ChannelSchedule$Plan", "waitingShips", "[I", true)
  | 12 => ("ChannelSchedule$Plan", "waitingInbound", "[Z", true)
  | 13 => ("ChannelSchedule$Plan", "earliest", "[I", true)
  | _ => ("ChannelSchedule$Plan", "latest", "[I", true)
def R2 : String := "ChannelSchedule$Script"
def T2 : u_T := fun k => match k with
  | 0 => ("ChannelSchedule$Script", "count", "I", false)
  | 1 => ("ChannelSchedule$Script", "verbs", "[I", true)
  | 2 => ("ChannelSchedule$Script", "ships", "[I", true)
  | 3 => ("ChannelSchedule$Script", "inbound", "[Z", true)
  | 4 => ("ChannelSchedule$Script", "firsts", "[I", true)
  | _ => ("ChannelSchedule$Script", "seconds", "[I", true)
def R3 : String := "ChannelSchedule$Setup"
def T3 : u_T := fun k => match k with
  | 0 => ("ChannelSchedule$Setup", "headway", "I", false)
  | 1 => ("ChannelSchedule$Setup", "clearance", "I", false)
  | 2 => ("ChannelSchedule$Setup", "thickness", "I", false)
  | 3 => ("ChannelSchedule$Setup", "shipCount", "I", false)
  | _ => ("ChannelSchedule$Setup", "ships", "[LChannelSchedule$Ship;", true)
def R4 : String := "ChannelSchedule$Ship"
def T4 : u_T := fun k => match k with
  | 0 => ("ChannelSchedule$Ship", "name", "[B", true)
  | 1 => ("ChannelSchedule$Ship", "nameLength", "I", false)
  | 2 => ("ChannelSchedule$Ship", "time", "I", false)
  | 3 => ("ChannelSchedule$Ship", "iceClass", "I", false)
  | _ => ("ChannelSchedule$Ship", "weight", "I", false)
def R5 : String := "ChannelSchedule"
def T5 : u_T := fun k => match k with
  | 0 => ("ChannelSchedule", "input", "LChannelSchedule$Input;", true)
  | 1 => ("ChannelSchedule", "script", "LChannelSchedule$Script;", true)
  | 2 => ("ChannelSchedule", "setup", "LChannelSchedule$Setup;", false)
  | 3 => ("ChannelSchedule", "draft", "LChannelSchedule$Setup;", false)
  | 4 => ("ChannelSchedule", "plan", "LChannelSchedule$Plan;", true)
  | 5 => ("ChannelSchedule", "kept", "LChannelSchedule$Plan;", true)
  | 6 => ("ChannelSchedule", "past", "[LChannelSchedule$Plan;", true)
  | 7 => ("ChannelSchedule", "latestPast", "I", false)
  | 8 => ("ChannelSchedule", "pastCount", "I", false)
  | 9 => ("ChannelSchedule", "saved", "[LChannelSchedule$Plan;", true)
  | 10 => ("ChannelSchedule", "isSaved", "[Z", true)
  | 11 => ("ChannelSchedule", "excluded", "[I", true)
  | 12 => ("ChannelSchedule", "output", "[B", true)
  | _ => ("ChannelSchedule", "outputLength", "I", false)
def R6 : String := "ChannelScheduleModel"
def T6 : u_T := fun k => match k with
  | 0 => ("ChannelScheduleModel", "m", "[I", true)
  | 1 => ("ChannelScheduleModel", "isSaved", "[Z", true)
  | 2 => ("ChannelScheduleModel", "undoable", "I", false)
  | 3 => ("ChannelScheduleModel", "buffer", "[I", true)
  | 4 => ("ChannelScheduleModel", "length", "I", false)
  | 5 => ("ChannelScheduleModel", "errorCode", "I", false)
  | 6 => ("ChannelScheduleModel", "errorPosition", "I", false)
  | 7 => ("ChannelScheduleModel", "written", "[I", true)
  | 8 => ("ChannelScheduleModel", "writtenLength", "I", false)
  | 9 => ("ChannelScheduleModel", "thrown", "I", false)
  | 10 => ("ChannelScheduleModel", "ahead", "I", false)
  | 11 => ("ChannelScheduleModel", "type", "I", false)
  | 12 => ("ChannelScheduleModel", "from", "I", false)
  | 13 => ("ChannelScheduleModel", "value", "I", false)
  | _ => ("ChannelScheduleModel", "commands", "[I", true)
abbrev cls7 : List vw_C := [(R0, T0, 8), (R1, T1, 15), (R2, T2, 6), (R3, T3, 5), (R4, T4, 5), (R5, T5, 14), (R6, T6, 15)]
def tyO (d : String) : FieldType := (parseFieldDescriptor d).getD .int
theorem ty0_ok : ∀ k, k < 8 → parseFieldDescriptor (T0 k).2.2.1 = some (tyO (T0 k).2.2.1) := by decide +kernel
theorem ty1_ok : ∀ k, k < 15 → parseFieldDescriptor (T1 k).2.2.1 = some (tyO (T1 k).2.2.1) := by decide +kernel
theorem ty2_ok : ∀ k, k < 6 → parseFieldDescriptor (T2 k).2.2.1 = some (tyO (T2 k).2.2.1) := by decide +kernel
theorem ty3_ok : ∀ k, k < 5 → parseFieldDescriptor (T3 k).2.2.1 = some (tyO (T3 k).2.2.1) := by decide +kernel
theorem ty4_ok : ∀ k, k < 5 → parseFieldDescriptor (T4 k).2.2.1 = some (tyO (T4 k).2.2.1) := by decide +kernel
theorem ty5_ok : ∀ k, k < 14 → parseFieldDescriptor (T5 k).2.2.1 = some (tyO (T5 k).2.2.1) := by decide +kernel
theorem ty6_ok : ∀ k, k < 15 → parseFieldDescriptor (T6 k).2.2.1 = some (tyO (T6 k).2.2.1) := by decide +kernel
theorem nm0_ok : ∀ a, a < 8 → ∀ b, b < 8 → a ≠ b → (T0 a).2.1 ≠ (T0 b).2.1 := by decide +kernel
theorem nm1_ok : ∀ a, a < 15 → ∀ b, b < 15 → a ≠ b → (T1 a).2.1 ≠ (T1 b).2.1 := by decide +kernel
theorem nm2_ok : ∀ a, a < 6 → ∀ b, b < 6 → a ≠ b → (T2 a).2.1 ≠ (T2 b).2.1 := by decide +kernel
theorem nm3_ok : ∀ a, a < 5 → ∀ b, b < 5 → a ≠ b → (T3 a).2.1 ≠ (T3 b).2.1 := by decide +kernel
theorem nm4_ok : ∀ a, a < 5 → ∀ b, b < 5 → a ≠ b → (T4 a).2.1 ≠ (T4 b).2.1 := by decide +kernel
theorem nm5_ok : ∀ a, a < 14 → ∀ b, b < 14 → a ≠ b → (T5 a).2.1 ≠ (T5 b).2.1 := by decide +kernel
theorem nm6_ok : ∀ a, a < 15 → ∀ b, b < 15 → a ≠ b → (T6 a).2.1 ≠ (T6 b).2.1 := by decide +kernel
/-- the words that stay: of a warmed machine too -/
def LW : List Cond := lw_tbl.filter goodWord
theorem LW_m {w : Cond} (h : w ∈ lw_tbl) (g : goodWord w = true) : w ∈ LW := List.mem_filter.mpr ⟨h, g⟩
theorem LW_i {w : Cond} (i : Nat) (h : lw_tbl[i]? = some w) (g : goodWord w = true) : w ∈ LW := LW_m (List.mem_of_getElem? h) g
theorem LW_good {w : Cond} (h : w ∈ LW) : (w.onTables && w.keeps) = true ∨ ∃ ty, w = .arrayClass ty := good_of_word (List.mem_filter.mp h).2
theorem LW_tbl {w : Cond} (h : w ∈ LW) : w ∈ lw_tbl := (List.mem_filter.mp h).1
set_option maxRecDepth 100000 in
theorem ws_in : ((u_ws R0 T0 8 ++ u_ws R1 T1 15 ++ u_ws R2 T2 6 ++ u_ws R3 T3 5 ++ u_ws R4 T4 5 ++ u_ws R5 T5 14 ++ u_ws R6 T6 15).all fun w => decide (w ∈ tables_1) && goodWord w) = true := by decide +kernel
theorem ws_in1 {w : Cond} (h : w ∈ u_ws R0 T0 8 ++ u_ws R1 T1 15 ++ u_ws R2 T2 6 ++ u_ws R3 T3 5 ++ u_ws R4 T4 5 ++ u_ws R5 T5 14 ++ u_ws R6 T6 15) : w ∈ LW := by
  have h1 := List.all_eq_true.mp ws_in w h
  simp only [Bool.and_eq_true, decide_eq_true_eq] at h1
  exact LW_m (List.mem_append_right _ h1.1) h1.2
theorem ws0_in : ∀ w ∈ u_ws R0 T0 8, w ∈ LW := fun w h => ws_in1 (by simp only [List.mem_append]; simp [h])
theorem ws1_in : ∀ w ∈ u_ws R1 T1 15, w ∈ LW := fun w h => ws_in1 (by simp only [List.mem_append]; simp [h])
theorem ws2_in : ∀ w ∈ u_ws R2 T2 6, w ∈ LW := fun w h => ws_in1 (by simp only [List.mem_append]; simp [h])
theorem ws3_in : ∀ w ∈ u_ws R3 T3 5, w ∈ LW := fun w h => ws_in1 (by simp only [List.mem_append]; simp [h])
theorem ws4_in : ∀ w ∈ u_ws R4 T4 5, w ∈ LW := fun w h => ws_in1 (by simp only [List.mem_append]; simp [h])
theorem ws5_in : ∀ w ∈ u_ws R5 T5 14, w ∈ LW := fun w h => ws_in1 (by simp only [List.mem_append]; simp [h])
theorem ws6_in : ∀ w ∈ u_ws R6 T6 15, w ∈ LW := fun w h => ws_in1 (by simp only [List.mem_append]; simp [h])
/-- what stays fixed: the base, the classes' numbers and slots, the classes of arrays (int, boolean, byte, long, Ship, Plan), how many cells, whether these are all from the base on, the String constants and their bytes -/
abbrev GT : Type := Nat × va_G × (Nat → ClassId) × Nat × Bool × (Nat → Nat) × (Nat → Nat)
abbrev gB (G : GT) : Nat := G.1
abbrev gD (G : GT) : va_G := G.2.1
abbrev gA (G : GT) : Nat → ClassId := G.2.2.1
abbrev gN (G : GT) : Nat := G.2.2.2.1
abbrev gX (G : GT) : Bool := G.2.2.2.2.1
abbrev gK (G : GT) : Nat → Nat := G.2.2.2.2.2.1
abbrev gV (G : GT) : Nat → Nat := G.2.2.2.2.2.2
abbrev tysG (G : GT) : List (ClassId × FieldType) := [(gA G 0, .int), (gA G 1, .boolean), (gA G 2, .byte), (gA G 3, .long), (gA G 4, .object R4), (gA G 5, .object R1)]
/-- where a plan (0 the present one, 1 the kept one, 2 to 7 the past ones, 8 and 9 the saved ones) and a setup lie -/
def aP (p : Nat) : Nat := if p < 2 then 53 + 9 * p else 58 + 9 * p
def aS (q : Nat) : Nat := 9 + 22 * q
def arI (cA : ClassId) (n : Nat) (row : Nat → Int) : va_E := .inl (cA, n, .inl (fun i => iI (row i)))
def arJ (cA : ClassId) (n : Nat) (row : Nat → Int) : va_E := .inl (cA, n, .inr (.inl (fun i => Int64.ofInt (row i))))
def arR (cA : ClassId) (n : Nat) (f : Nat → Option Nat) : va_E := .inl (cA, n, .inr (.inr (.inr (.inr f))))
abbrev vI (z : Int) : Value := .int (iI z)
def obPlan (b k : Nat) (r : Nat → Int) : va_E := .inr (1, [vI (r 0), vI (r 1), vI (r 2), vI (r 3), vI (r 4), vI (r 5), .ref (b + (k + 1)), .ref (b + (k + 2)), .ref (b + (k + 3)), .ref (b + (k + 4)), vI (r 10), .ref (b + (k + 5)), .ref (b + (k + 6)), .ref (b + (k + 7)), .ref (b + (k + 8))])
def obMain (b : Nat) (r : Nat → Int) : va_E := .inr (5, [.ref (b + 1), .ref (b + 3), .ref (b + aS (r 2).toNat), .ref (b + aS (r 3).toNat), .ref (b + aP 0), .ref (b + aP 1), .ref (b + 71), vI (r 7), vI (r 8), .ref (b + 72), .ref (b + 73), .ref (b + 74), .ref (b + 75), vI (r 13)])
def obInput (b : Nat) (r : Nat → Int) : va_E := .inr (0, [.ref (b + 2), vI (r 1), vI (r 2), vI (r 3), vI (r 4), vI (r 5), vI (r 6), vI (r 7)])
def obScript (b : Nat) (r : Nat → Int) : va_E := .inr (2, [vI (r 0), .ref (b + 4), .ref (b + 5), .ref (b + 6), .ref (b + 7), .ref (b + 8)])
def obSetup (b k : Nat) (r : Nat → Int) : va_E := .inr (3, [vI (r 0), vI (r 1), vI (r 2), vI (r 3), .ref (b + (k + 1))])
def obShip (b k : Nat) (r : Nat → Int) : va_E := .inr (4, [.ref (b + (k + 1)), vI (r 1), vI (r 2), vI (r 3), vI (r 4)])
def obModel (b : Nat) (r : Nat → Int) : va_E := .inr (6, [.ref (b + 149), .ref (b + 150), vI (r 2), .ref (b + 151), vI (r 4), vI (r 5), vI (r 6), .ref (b + 152), vI (r 8), vI (r 9), vI (r 10), vI (r 11), vI (r 12), vI (r 13), .ref (b + 153)])
def celPlan (b : Nat) (A : Nat → ClassId) (k j : Nat) (r : Nat → Int) : va_E :=
  if j = 0 then obPlan b k r else if j = 2 then arI (A 1) 20 r else if j < 5 then arI (A 0) 20 r else if j = 6 then arI (A 1) 8 r else arI (A 0) 8 r
def celSetup (b : Nat) (A : Nat → ClassId) (k j : Nat) (r : Nat → Int) : va_E :=
  if j = 0 then obSetup b k r else if j = 1 then arR (A 4) 10 (fun i => some (b + ((k - 1) + 2 + 2 * i))) else if j % 2 = 0 then obShip b k r else arI (A 2) 6 r
/-- the cell k out of its row of numbers; the last one's number is kept beside the array classes -/
def celOf (b : Nat) (A : Nat → ClassId) (k : Nat) (r : Nat → Int) : va_E :=
  if k < 9 then
    if k = 0 then obMain b r else if k = 1 then obInput b r else if k = 2 then arI (A 2) 600 r else if k = 3 then obScript b r else if k = 6 then arI (A 1) 30 r else arI (A 0) 30 r
  else if k < 53 then celSetup b A k ((k - 9) % 22) r
  else if k < 71 then celPlan b A k ((k - 53) % 9) r
  else if k < 76 then
    if k = 71 then arR (A 5) 6 (fun i => some (b + (76 + 9 * i))) else if k = 72 then arR (A 5) 2 (fun i => some (b + (130 + 9 * i))) else if k = 73 then arI (A 1) 2 r else if k = 74 then arI (A 0) 8 r else arI (A 2) 320 r
  else if k < 148 then celPlan b A k ((k - 76) % 9) r
  else if k = 148 then obModel b r else if k = 149 then arI (A 0) 2300 r else if k = 150 then arI (A 1) 2 r else if k = 151 then arI (A 0) 600 r else if k = 152 then arI (A 0) 360 r else if k = 153 then arI (A 0) 150 r else arJ (A 3) 1 (updI (fun _ => 0) 0 (((A 6 : Nat) : Int) - 2147483648))
abbrev HT : Type := Nat → va_E
abbrev VV : Type := Nat → Nat → Int
def hV (G : GT) (V : VV) : HT := fun k => celOf (gB G) (gA G) k (V k)
def upH (h : HT) (k : Nat) (e : va_E) : HT := fun j => if j = k then e else h j
/-- the cells of a world, by their places -/
def wsO (b N : Nat) (h : HT) : va_W := (List.range N).map (fun k => (b + k, h k))
theorem wsO_get {b N : Nat} {h : HT} {k : Nat} (hk : k < N) : (wsO b N h)[k]? = some (b + k, h k) := by
  unfold wsO
  rw [List.getElem?_map, List.getElem?_range hk]
  rfl
theorem wsO_len {b N : Nat} {h : HT} : (wsO b N h).length = N := by simp [wsO]
theorem wsO_set {b N : Nat} {h : HT} {k : Nat} (e : va_E) (hk : k < N) : (wsO b N h).set k (b + k, e) = wsO b N (upH h k e) := by
  apply List.ext_getElem?
  intro i
  by_cases hi : i < N
  · by_cases e1 : i = k
    · subst e1
      rw [List.getElem?_set_self (by rw [wsO_len]; exact hi), wsO_get hi]
      simp [upH]
    · rw [List.getElem?_set_ne (Ne.symm e1), wsO_get hi, wsO_get hi]
      simp [upH, e1]
  · rw [List.getElem?_eq_none (by rw [List.length_set, wsO_len]; omega), List.getElem?_eq_none (by rw [wsO_len]; omega)]
theorem wsO_push {b N : Nat} {h : HT} (e : va_E) : wsO b N h ++ [(b + N, e)] = wsO b (N + 1) (upH h N e) := by
  unfold wsO
  rw [List.range_succ, List.map_append]
  congr 1
  · apply List.map_congr_left
    intro k hk
    have h9 : k < N := List.mem_range.mp hk
    simp [upH, Nat.ne_of_lt h9]
  · simp [upH]
theorem wsO_D {b N : Nat} {h : HT} : va_D (fun q => b ≤ q) (wsO b N h) := by
  have key : ∀ (k : Nat) (q : Nat × va_E), (wsO b N h)[k]? = some q → q.1 = b + k := by
    intro k q hk
    have hl := (List.getElem?_eq_some_iff.mp hk).1
    rw [wsO_len] at hl
    rw [wsO_get hl] at hk
    cases hk
    rfl
  refine ⟨fun i j p q hi hj e => ?_, fun k q hk => ?_⟩
  · rw [key i p hi, key j q hj] at e
    omega
  · show b ≤ q.1
    rw [key k q hk]
    omega
theorem wsO_ext {b N : Nat} {h h' : HT} (e : ∀ k, k < N → h k = h' k) : wsO b N h = wsO b N h' := by
  unfold wsO
  apply List.map_congr_left
  intro k hk
  rw [e k (List.mem_range.mp hk)]
def Wd (G : GT) (N : Nat) (h : HT) (H : Heap) : Prop := gB G + N ≤ H.size ∧ (gX G = true → H.size = gB G + N) ∧ va_P (gD G) cls7 (wsO (gB G) N h) H
