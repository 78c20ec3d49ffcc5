/-! the classes of the system, their fields in the order of the slots -/
def R0 : String := "ChannelSchedule$Input"
def T0 : u_T := fun k => match k with
  | 0 => ("ChannelSchedule$Input", "bytes", "[B", true)
  | 1 => ("ChannelSchedule$Input", "length", "I", false)
  | 2 => ("ChannelSchedule$Input", "errorCode", "I", false)
  | 3 => ("ChannelSchedule$Input", "errorPosition", "I", false)
  | 4 => ("ChannelSchedule$Input", "kind", "I", false)
  | 5 => ("ChannelSchedule$Input", "tokenStart", "I", false)
  | 6 => ("ChannelSchedule$Input", "at", "I", false)
  | _ => ("ChannelSchedule$Input", "number", "I", false)
def R1 : String := "ChannelSchedule$Plan"
def T1 : u_T := fun k => match k with
  | 0 => ("ChannelSchedule$Plan", "thickness", "I", false)
  | 1 => ("ChannelSchedule$Plan", "minute", "I", false)
  | 2 => ("ChannelSchedule$Plan", "made", "I", false)
  | 3 => ("ChannelSchedule$Plan", "cancelled", "I", false)
  | 4 => ("ChannelSchedule$Plan", "served", "I", false)
  | 5 => ("ChannelSchedule$Plan", "bookings", "I", false)
  | 6 => ("ChannelSchedule$Plan", "ships", "[I", true)
  | 7 => ("ChannelSchedule$Plan", "inbound", "[Z", true)
  | 8 => ("ChannelSchedule$Plan", "starts", "[I", true)
  | 9 => ("ChannelSchedule$Plan", "ends", "[I", true)
  | 10 => ("ChannelSchedule$Plan", "requests", "I", false)
  | 11 => ("ChannelSchedule$Plan", "waitingShips", "[I", true)
  | 12 => ("ChannelSchedule$Plan", "waitingInbound", "[Z", true)
  | 13 => ("ChannelSchedule$Plan", "earliest", "[I", true)
  | _ => ("ChannelSchedule$Plan", "latest", "[I", true)
def R2 : String := "ChannelSchedule$Script"
def T2 : u_T := fun k => match k with
  | 0 => ("ChannelSchedule$Script", "count", "I", false)
  | 1 => ("ChannelSchedule$Script", "verbs", "[I", true)
  | 2 => ("ChannelSchedule$Script", "ships", "[I", true)
  | 3 => ("ChannelSchedule$Script", "inbound", "[Z", true)
  | 4 => ("ChannelSchedule$Script", "firsts", "[I", true)
  | _ => ("ChannelSchedule$Script", "seconds", "[I", true)
def R3 : String := "ChannelSchedule$Setup"
def T3 : u_T := fun k => match k with
  | 0 => ("ChannelSchedule$Setup", "headway", "I", false)
  | 1 => ("ChannelSchedule$Setup", "clearance", "I", false)
  | 2 => ("ChannelSchedule$Setup", "thickness", "I", false)
  | 3 => ("ChannelSchedule$Setup", "shipCount", "I", false)
  | _ => ("ChannelSchedule$Setup", "ships", "[LChannelSchedule$Ship;", true)
def R4 : String := "ChannelSchedule$Ship"
def T4 : u_T := fun k => match k with
  | 0 => ("ChannelSchedule$Ship", "name", "[B", true)
  | 1 => ("ChannelSchedule$Ship", "nameLength", "I", false)
  | 2 => ("ChannelSchedule$Ship", "time", "I", false)
  | 3 => ("ChannelSchedule$Ship", "iceClass", "I", false)
  | _ => ("ChannelSchedule$Ship", "weight", "I", false)
def R5 : String := "ChannelSchedule"
def T5 : u_T := fun k => match k with
  | 0 => ("ChannelSchedule", "input", "LChannelSchedule$Input;", true)
  | 1 => ("ChannelSchedule", "script", "LChannelSchedule$Script;", true)
  | 2 => ("ChannelSchedule", "setup", "LChannelSchedule$Setup;", false)
  | 3 => ("ChannelSchedule", "draft", "LChannelSchedule$Setup;", false)
  | 4 => ("ChannelSchedule", "plan", "LChannelSchedule$Plan;", true)
  | 5 => ("ChannelSchedule", "kept", "LChannelSchedule$Plan;", true)
  | 6 => ("ChannelSchedule", "past", "[LChannelSchedule$Plan;", true)
  | 7 => ("ChannelSchedule", "latestPast", "I", false)
  | 8 => ("ChannelSchedule", "pastCount", "I", false)
  | 9 => ("ChannelSchedule", "saved", "[LChannelSchedule$Plan;", true)
  | 10 => ("ChannelSchedule", "isSaved", "[Z", true)
  | 11 => ("ChannelSchedule", "excluded", "[I", true)
  | 12 => ("ChannelSchedule", "output", "[B", true)
  | _ => ("ChannelSchedule", "outputLength", "I", false)
def R6 : String := "ChannelScheduleLaw$Own"
def T6 : u_T := fun k => match k with
  | 0 => ("ChannelScheduleLaw$Own", "x", "LChannelSchedule;", true)
  | 1 => ("ChannelScheduleLaw$Own", "ship", "[I", true)
  | 2 => ("ChannelScheduleLaw$Own", "in", "[Z", true)
  | 3 => ("ChannelScheduleLaw$Own", "start", "[I", true)
  | 4 => ("ChannelScheduleLaw$Own", "end", "[I", true)
  | 5 => ("ChannelScheduleLaw$Own", "many", "I", false)
  | 6 => ("ChannelScheduleLaw$Own", "wantedShip", "[I", true)
  | 7 => ("ChannelScheduleLaw$Own", "wantedIn", "[Z", true)
  | 8 => ("ChannelScheduleLaw$Own", "first", "[I", true)
  | 9 => ("ChannelScheduleLaw$Own", "last", "[I", true)
  | 10 => ("ChannelScheduleLaw$Own", "waiting", "I", false)
  | _ => ("ChannelScheduleLaw$Own", "served", "I", false)
def R7 : String := "java/lang/StringBuilder"
def T7 : u_T := fun k => match k with
  | 0 => ("java/lang/AbstractStringBuilder", "value", "[B", false)
  | 1 => ("java/lang/AbstractStringBuilder", "coder", "B", false)
  | 2 => ("java/lang/AbstractStringBuilder", "maybeLatin1", "Z", false)
  | _ => ("java/lang/AbstractStringBuilder", "count", "I", false)
def R8 : String := "java/lang/String"
def T8 : u_T := fun k => match k with
  | 0 => ("java/lang/String", "value", "[B", true)
  | 1 => ("java/lang/String", "coder", "B", true)
  | 2 => ("java/lang/String", "hash", "I", false)
  | _ => ("java/lang/String", "hashIsZero", "Z", false)
abbrev cls7 : List vw_C := [(R0, T0, 8), (R1, T1, 15), (R2, T2, 6), (R3, T3, 5), (R4, T4, 5), (R5, T5, 14), (R6, T6, 12), (R7, T7, 4), (R8, T8, 4)]
def tyO (d : String) : FieldType := (parseFieldDescriptor d).getD .int
theorem ty0_ok : ∀ k, k < 8 → parseFieldDescriptor (T0 k).2.2.1 = some (tyO (T0 k).2.2.1) := by decide +kernel
theorem ty1_ok : ∀ k, k < 15 → parseFieldDescriptor (T1 k).2.2.1 = some (tyO (T1 k).2.2.1) := by decide +kernel
theorem ty2_ok : ∀ k, k < 6 → parseFieldDescriptor (T2 k).2.2.1 = some (tyO (T2 k).2.2.1) := by decide +kernel
theorem ty3_ok : ∀ k, k < 5 → parseFieldDescriptor (T3 k).2.2.1 = some (tyO (T3 k).2.2.1) := by decide +kernel
theorem ty4_ok : ∀ k, k < 5 → parseFieldDescriptor (T4 k).2.2.1 = some (tyO (T4 k).2.2.1) := by decide +kernel
theorem ty5_ok : ∀ k, k < 14 → parseFieldDescriptor (T5 k).2.2.1 = some (tyO (T5 k).2.2.1) := by decide +kernel
theorem ty6_ok : ∀ k, k < 12 → parseFieldDescriptor (T6 k).2.2.1 = some (tyO (T6 k).2.2.1) := by decide +kernel
theorem ty7_ok : ∀ k, k < 4 → parseFieldDescriptor (T7 k).2.2.1 = some (tyO (T7 k).2.2.1) := by decide +kernel
theorem ty8_ok : ∀ k, k < 4 → parseFieldDescriptor (T8 k).2.2.1 = some (tyO (T8 k).2.2.1) := by decide +kernel
theorem nm0_ok : ∀ a, a < 8 → ∀ b, b < 8 → a ≠ b → (T0 a).2.1 ≠ (T0 b).2.1 := by decide +kernel
theorem nm1_ok : ∀ a, a < 15 → ∀ b, b < 15 → a ≠ b → (T1 a).2.1 ≠ (T1 b).2.1 := by decide +kernel
theorem nm2_ok : ∀ a, a < 6 → ∀ b, b < 6 → a ≠ b → (T2 a).2.1 ≠ (T2 b).2.1 := by decide +kernel
theorem nm3_ok : ∀ a, a < 5 → ∀ b, b < 5 → a ≠ b → (T3 a).2.1 ≠ (T3 b).2.1 := by decide +kernel
theorem nm4_ok : ∀ a, a < 5 → ∀ b, b < 5 → a ≠ b → (T4 a).2.1 ≠ (T4 b).2.1 := by decide +kernel
theorem nm5_ok : ∀ a, a < 14 → ∀ b, b < 14 → a ≠ b → (T5 a).2.1 ≠ (T5 b).2.1 := by decide +kernel
theorem nm6_ok : ∀ a, a < 12 → ∀ b, b < 12 → a ≠ b → (T6 a).2.1 ≠ (T6 b).2.1 := by decide +kernel
theorem nm7_ok : ∀ a, a < 4 → ∀ b, b < 4 → a ≠ b → (T7 a).2.1 ≠ (T7 b).2.1 := by decide +kernel
theorem nm8_ok : ∀ a, a < 4 → ∀ b, b < 4 → a ≠ b → (T8 a).2.1 ≠ (T8 b).2.1 := by decide +kernel
/-- the words that stay: of a warmed machine too -/
def lwE : List Cond := [(⟨"java/lang/AbstractStringBuilder", "ensureCapacityInternal", "(I)V"⟩ : MethodName), ⟨"java/lang/AbstractStringBuilder", "newCapacity", "(I)I"⟩, ⟨"java/lang/AbstractStringBuilder", "putStringAt", "(ILjava/lang/String;)V"⟩, ⟨"java/lang/AbstractStringBuilder", "inflateIfNeededFor", "(Ljava/lang/String;)V"⟩].map (fun x => .selects "java/lang/StringBuilder" x x)
def LW : List Cond := (lw_tbl ++ lwE).filter goodWord
theorem LW_m {w : Cond} (h : w ∈ lw_tbl) (g : goodWord w = true) : w ∈ LW := List.mem_filter.mpr ⟨List.mem_append_left _ h, g⟩
theorem LW_x {w : Cond} (i : Nat) (h : lwE[i]? = some w) (g : goodWord w = true) : w ∈ LW := List.mem_filter.mpr ⟨List.mem_append_right _ (List.mem_of_getElem? h), g⟩
theorem LW_i {w : Cond} (i : Nat) (h : lw_tbl[i]? = some w) (g : goodWord w = true) : w ∈ LW := LW_m (List.mem_of_getElem? h) g
theorem LW_good {w : Cond} (h : w ∈ LW) : (w.onTables && w.keeps) = true ∨ ∃ ty, w = .arrayClass ty := good_of_word (List.mem_filter.mp h).2
theorem LW_tbl {w : Cond} (h : w ∈ LW) : w ∈ lw_tbl ++ lwE := (List.mem_filter.mp h).1
set_option maxRecDepth 100000 in
theorem ws_in : ((u_ws R0 T0 8 ++ u_ws R1 T1 15 ++ u_ws R2 T2 6 ++ u_ws R3 T3 5 ++ u_ws R4 T4 5 ++ u_ws R5 T5 14 ++ u_ws R6 T6 12 ++ u_ws R7 T7 4 ++ u_ws R8 T8 4).all fun w => decide (w ∈ tables_1) && goodWord w) = true := by decide +kernel
theorem ws_in1 {w : Cond} (h : w ∈ u_ws R0 T0 8 ++ u_ws R1 T1 15 ++ u_ws R2 T2 6 ++ u_ws R3 T3 5 ++ u_ws R4 T4 5 ++ u_ws R5 T5 14 ++ u_ws R6 T6 12 ++ u_ws R7 T7 4 ++ u_ws R8 T8 4) : w ∈ LW := by
  have h1 := List.all_eq_true.mp ws_in w h
  simp only [Bool.and_eq_true, decide_eq_true_eq] at h1
  exact LW_m (List.mem_append_right _ h1.1) h1.2
theorem ws0_in : ∀ w ∈ u_ws R0 T0 8, w ∈ LW := fun w h => ws_in1 (by simp only [List.mem_append]; simp [h])
theorem ws1_in : ∀ w ∈ u_ws R1 T1 15, w ∈ LW := fun w h => ws_in1 (by simp only [List.mem_append]; simp [h])
theorem ws2_in : ∀ w ∈ u_ws R2 T2 6, w ∈ LW := fun w h => ws_in1 (by simp only [List.mem_append]; simp [h])
theorem ws3_in : ∀ w ∈ u_ws R3 T3 5, w ∈ LW := fun w h => ws_in1 (by simp only [List.mem_append]; simp [h])
theorem ws4_in : ∀ w ∈ u_ws R4 T4 5, w ∈ LW := fun w h => ws_in1 (by simp only [List.mem_append]; simp [h])
theorem ws5_in : ∀ w ∈ u_ws R5 T5 14, w ∈ LW := fun w h => ws_in1 (by simp only [List.mem_append]; simp [h])
theorem ws6_in : ∀ w ∈ u_ws R6 T6 12, w ∈ LW := fun w h => ws_in1 (by simp only [List.mem_append]; simp [h])
theorem ws7_in : ∀ w ∈ u_ws R7 T7 4, w ∈ LW := fun w h => ws_in1 (by simp only [List.mem_append]; simp [h])
theorem ws8_in : ∀ w ∈ u_ws R8 T8 4, w ∈ LW := fun w h => ws_in1 (by simp only [List.mem_append]; simp [h])
/-- what stays fixed: the base, the classes' numbers and slots, the classes of arrays (int, boolean, byte, -, Ship, Plan), how many cells, whether these are all from the base on, the String constants and their bytes, the second base (of the cells from 148 on), cells that stay as they are, the script (its place, length, numbers), the rows of digits -/
abbrev GT : Type := Nat × va_G × (Nat → ClassId) × Nat × Bool × (Nat → Nat) × (Nat → Nat) × Nat × va_W × (Nat × Nat × (Nat → Int32)) × Nat × Nat
abbrev gB (G : GT) : Nat := G.1
abbrev gD (G : GT) : va_G := G.2.1
abbrev gA (G : GT) : Nat → ClassId := G.2.2.1
abbrev gN (G : GT) : Nat := G.2.2.2.1
abbrev gX (G : GT) : Bool := G.2.2.2.2.1
abbrev gK (G : GT) : Nat → Nat := G.2.2.2.2.2.1
abbrev gV (G : GT) : Nat → Nat := G.2.2.2.2.2.2.1
abbrev gC (G : GT) : Nat := G.2.2.2.2.2.2.2.1
abbrev gE (G : GT) : va_W := G.2.2.2.2.2.2.2.2.1
abbrev gSa (G : GT) : Nat := G.2.2.2.2.2.2.2.2.2.1.1
abbrev gSl (G : GT) : Nat := G.2.2.2.2.2.2.2.2.2.1.2.1
abbrev gSx (G : GT) : Nat → Int32 := G.2.2.2.2.2.2.2.2.2.1.2.2
abbrev gDo (G : GT) : Nat := G.2.2.2.2.2.2.2.2.2.2.1
abbrev gDt (G : GT) : Nat := G.2.2.2.2.2.2.2.2.2.2.2
abbrev tysG (G : GT) : List (ClassId × FieldType) := [(gA G 0, .int), (gA G 1, .boolean), (gA G 2, .byte), (gA G 3, .int), (gA G 4, .object R4), (gA G 5, .object R1)]
/-- where the cell k lies -/
def ad (G : GT) (k : Nat) : Nat := if k < 148 then gB G + k else gC G + k
theorem ad_lo {G : GT} {k : Nat} (h : k < 148) : ad G k = gB G + k := if_pos h
theorem ad_hi {G : GT} {k : Nat} (h : 148 ≤ k) : ad G k = gC G + k := if_neg (by omega)
theorem ad_z {G : GT} {k : Nat} (h : gC G = gB G) : ad G k = gB G + k := by
  unfold ad
  split
  · rfl
  · rw [h]
/-- where something may change -/
def gR (G : GT) (q : Nat) : Prop := gB G ≤ q ∧ (q < gB G + 148 ∨ gC G + 148 ≤ q)
theorem gR_ad {G : GT} {k : Nat} (h : gB G ≤ gC G) : gR G (ad G k) := by
  unfold gR ad
  split <;> omega
/-- where a plan (0 the present one, 1 the kept one, 2 to 7 the past ones, 8 and 9 the saved ones) and a setup lie -/
def aP (p : Nat) : Nat := if p < 2 then 53 + 9 * p else 58 + 9 * p
def aS (q : Nat) : Nat := 9 + 22 * q
def arI (cA : ClassId) (n : Nat) (row : Nat → Int) : va_E := .inl (cA, n, .inl (fun i => iI (row i)))
def arJ (cA : ClassId) (n : Nat) (row : Nat → Int) : va_E := .inl (cA, n, .inr (.inl (fun i => Int64.ofInt (row i))))
def arR (cA : ClassId) (n : Nat) (f : Nat → Option Nat) : va_E := .inl (cA, n, .inr (.inr (.inr (.inr f))))
abbrev vI (z : Int) : Value := .int (iI z)
def obPlan (b k : Nat) (r : Nat → Int) : va_E := .inr (1, [vI (r 0), vI (r 1), vI (r 2), vI (r 3), vI (r 4), vI (r 5), .ref (b + (k + 1)), .ref (b + (k + 2)), .ref (b + (k + 3)), .ref (b + (k + 4)), vI (r 10), .ref (b + (k + 5)), .ref (b + (k + 6)), .ref (b + (k + 7)), .ref (b + (k + 8))])
def obMain (b : Nat) (r : Nat → Int) : va_E := .inr (5, [.ref (b + 1), .ref (b + 3), .ref (b + aS (r 2).toNat), .ref (b + aS (r 3).toNat), .ref (b + aP 0), .ref (b + aP 1), .ref (b + 71), vI (r 7), vI (r 8), .ref (b + 72), .ref (b + 73), .ref (b + 74), .ref (b + 75), vI (r 13)])
def obInput (b : Nat) (r : Nat → Int) : va_E := .inr (0, [.ref (b + 2), vI (r 1), vI (r 2), vI (r 3), vI (r 4), vI (r 5), vI (r 6), vI (r 7)])
def obScript (b : Nat) (r : Nat → Int) : va_E := .inr (2, [vI (r 0), .ref (b + 4), .ref (b + 5), .ref (b + 6), .ref (b + 7), .ref (b + 8)])
def obSetup (b k : Nat) (r : Nat → Int) : va_E := .inr (3, [vI (r 0), vI (r 1), vI (r 2), vI (r 3), .ref (b + (k + 1))])
def obShip (b k : Nat) (r : Nat → Int) : va_E := .inr (4, [.ref (b + (k + 1)), vI (r 1), vI (r 2), vI (r 3), vI (r 4)])
def obOwn (b c : Nat) (r : Nat → Int) : va_E := .inr (6, [.ref (b + 0), .ref (c + 149), .ref (c + 150), .ref (c + 151), .ref (c + 152), vI (r 5), .ref (c + 153), .ref (c + 154), .ref (c + 155), .ref (c + 156), vI (r 10), vI (r 11)])
def celPlan (b : Nat) (A : Nat → ClassId) (k j : Nat) (r : Nat → Int) : va_E :=
  if j = 0 then obPlan b k r else if j = 2 then arI (A 1) 20 r else if j < 5 then arI (A 0) 20 r else if j = 6 then arI (A 1) 8 r else arI (A 0) 8 r
def celSetup (b : Nat) (A : Nat → ClassId) (k j : Nat) (r : Nat → Int) : va_E :=
  if j = 0 then obSetup b k r else if j = 1 then arR (A 4) 10 (fun i => some (b + ((k - 1) + 2 + 2 * i))) else if j % 2 = 0 then obShip b k r else arI (A 2) 6 r
/-- the cell k out of its row of numbers -/
def celOf (b c : Nat) (A : Nat → ClassId) (k : Nat) (r : Nat → Int) : va_E :=
  if k < 9 then
    if k = 0 then obMain b r else if k = 1 then obInput b r else if k = 2 then arI (A 2) 600 r else if k = 3 then obScript b r else if k = 6 then arI (A 1) 30 r else arI (A 0) 30 r
  else if k < 53 then celSetup b A k ((k - 9) % 22) r
  else if k < 71 then celPlan b A k ((k - 53) % 9) r
  else if k < 76 then
    if k = 71 then arR (A 5) 6 (fun i => some (b + (76 + 9 * i))) else if k = 72 then arR (A 5) 2 (fun i => some (b + (130 + 9 * i))) else if k = 73 then arI (A 1) 2 r else if k = 74 then arI (A 0) 8 r else arI (A 2) 320 r
  else if k < 148 then celPlan b A k ((k - 76) % 9) r
  else if k = 148 then obOwn b c r else if k = 150 then arI (A 1) 20 r else if k < 153 then arI (A 0) 20 r else if k = 154 then arI (A 1) 8 r else arI (A 0) 8 r
abbrev HT : Type := Nat → va_E
abbrev VV : Type := Nat → Nat → Int
def hV (G : GT) (V : VV) : HT := fun k => celOf (gB G) (gC G) (gA G) k (V k)
def upH (h : HT) (k : Nat) (e : va_E) : HT := fun j => if j = k then e else h j
/-- the cells of a world, by their places -/
def wsO (G : GT) (N : Nat) (h : HT) : va_W := (List.range N).map (fun k => (ad G k, h k))
theorem wsO_get {G : GT} {N : Nat} {h : HT} {k : Nat} (hk : k < N) : (wsO G N h)[k]? = some (ad G k, h k) := by
  unfold wsO
  rw [List.getElem?_map, List.getElem?_range hk]
  rfl
theorem wsO_geta {G : GT} {N a : Nat} {h : HT} {k : Nat} (hk : k < N) (ha : ad G k = a) : (wsO G N h)[k]? = some (a, h k) := by
  subst ha
  exact wsO_get hk
theorem wsO_len {G : GT} {N : Nat} {h : HT} : (wsO G N h).length = N := by simp [wsO]
theorem wsO_set {G : GT} {N : Nat} {h : HT} {k : Nat} (e : va_E) (hk : k < N) : (wsO G N h).set k (ad G k, e) = wsO G N (upH h k e) := by
  apply List.ext_getElem?
  intro i
  by_cases hi : i < N
  · by_cases e1 : i = k
    · subst e1
      rw [List.getElem?_set_self (by rw [wsO_len]; exact hi), wsO_get hi]
      simp [upH]
    · rw [List.getElem?_set_ne (Ne.symm e1), wsO_get hi, wsO_get hi]
      simp [upH, e1]
  · rw [List.getElem?_eq_none (by rw [List.length_set, wsO_len]; omega), List.getElem?_eq_none (by rw [wsO_len]; omega)]
theorem wsO_push {G : GT} {N : Nat} {h : HT} (e : va_E) : wsO G N h ++ [(ad G N, e)] = wsO G (N + 1) (upH h N e) := by
  unfold wsO
  rw [List.range_succ, List.map_append]
  congr 1
  · apply List.map_congr_left
    intro k hk
    have h9 : k < N := List.mem_range.mp hk
    simp [upH, Nat.ne_of_lt h9]
  · simp [upH]
theorem ad_inj {G : GT} {i j : Nat} (hC : gB G ≤ gC G) (e : ad G i = ad G j) : i = j := by
  unfold ad at e
  split at e <;> split at e <;> omega
theorem wsO_key {G : GT} {N : Nat} {h : HT} {k : Nat} {q : Nat × va_E} (hk : (wsO G N h)[k]? = some q) : q.1 = ad G k ∧ k < N := by
  have hl := (List.getElem?_eq_some_iff.mp hk).1
  rw [wsO_len] at hl
  rw [wsO_get hl] at hk
  cases hk
  exact ⟨rfl, hl⟩
theorem wsO_D {G : GT} {N : Nat} {h : HT} (hC : gB G ≤ gC G) : va_D (gR G) (wsO G N h) := by
  refine ⟨fun i j p q hi hj e => ?_, fun k q hk => ?_⟩
  · rw [(wsO_key hi).1, (wsO_key hj).1] at e
    exact ad_inj hC e
  · show gR G q.1
    rw [(wsO_key hk).1]
    exact gR_ad hC
theorem wsO_ext {G : GT} {N : Nat} {h h' : HT} (e : ∀ k, k < N → h k = h' k) : wsO G N h = wsO G N h' := by
  unfold wsO
  apply List.map_congr_left
  intro k hk
  rw [e k (List.mem_range.mp hk)]
def Wd (G : GT) (N : Nat) (h : HT) (H : Heap) : Prop := ((gB G ≤ gC G ∧ gB G ≤ H.size) ∧ va_P (gD G) cls7 (gE G) H ∧ ∀ q ∈ gE G, ¬ gR G q.1) ∧ (gX G = true → H.size = ad G N) ∧ va_P (gD G) cls7 (wsO G N h) H
