/-! MATHEMATICS: what the numbers say, as lists -/
/-- a booking (ship, inbound, start, end) or a request (ship, inbound, earliest, latest) -/
abbrev Bk : Type := Int × Int × Int × Int
def vw (F : Nat → Nat → Int) (n : Nat) : List Bk := (List.range n).map (fun i => (F 0 i, F 1 i, F 2 i, F 3 i))
theorem vw_len {F : Nat → Nat → Int} {n : Nat} : (vw F n).length = n := by simp [vw]
theorem vw_get {F : Nat → Nat → Int} {n i : Nat} (h : i < n) : (vw F n)[i]? = some (F 0 i, F 1 i, F 2 i, F 3 i) := by
  unfold vw
  rw [List.getElem?_map, List.getElem?_range h]
  rfl
theorem vw_mem {F : Nat → Nat → Int} {n i : Nat} (h : i < n) : (F 0 i, F 1 i, F 2 i, F 3 i) ∈ vw F n := List.mem_map.mpr ⟨i, List.mem_range.mpr h, rfl⟩
theorem vw_drop {F : Nat → Nat → Int} {n i : Nat} (h : i < n) : (vw F n).drop i = (F 0 i, F 1 i, F 2 i, F 3 i) :: (vw F n).drop (i + 1) := by
  have hl : i < (vw F n).length := by rw [vw_len]; exact h
  rw [List.drop_eq_getElem_cons hl]
  congr 1
  have := vw_get (F := F) h
  rw [List.getElem?_eq_getElem hl] at this
  exact Option.some.inj this
theorem vw_drop_end {F : Nat → Nat → Int} {n i : Nat} (h : n ≤ i) : (vw F n).drop i = [] := List.drop_eq_nil_of_le (by rw [vw_len]; exact h)
theorem vw_ext {F : Nat → Nat → Int} {n : Nat} {l : List Bk} (hl : l.length = n) (h : ∀ i, i < n → l[i]? = some (F 0 i, F 1 i, F 2 i, F 3 i)) : vw F n = l := by
  apply List.ext_getElem?
  intro i
  by_cases hi : i < n
  · rw [vw_get hi, h i hi]
  · rw [List.getElem?_eq_none (by rw [vw_len]; omega), List.getElem?_eq_none (by omega)]
theorem vw_congr {F F' : Nat → Nat → Int} {n : Nat} (h : ∀ i, i < n → F 0 i = F' 0 i ∧ F 1 i = F' 1 i ∧ F 2 i = F' 2 i ∧ F 3 i = F' 3 i) : vw F n = vw F' n := by
  refine vw_ext vw_len (fun i hi => ?_)
  obtain ⟨h0, h1, h2, h3⟩ := h i hi
  rw [vw_get hi, h0, h1, h2, h3]
theorem vw_inj {F F' : Nat → Nat → Int} {n n' : Nat} (h : vw F n = vw F' n') : n = n' ∧ ∀ i, i < n → F 0 i = F' 0 i ∧ F 1 i = F' 1 i ∧ F 2 i = F' 2 i ∧ F 3 i = F' 3 i := by
  have hn : n = n' := by have := congrArg List.length h; rwa [vw_len, vw_len] at this
  subst hn
  refine ⟨rfl, fun i hi => ?_⟩
  have h1 := vw_get (F := F) hi
  rw [h, vw_get hi] at h1
  simp only [Option.some.injEq, Prod.mk.injEq] at h1
  obtain ⟨a, b, c, d⟩ := h1
  exact ⟨a.symm, b.symm, c.symm, d.symm⟩
/-- put in at a place -/
def insAt (p : Nat) (b : Bk) (l : List Bk) : List Bk := l.take p ++ b :: l.drop p
theorem insAt_len {p : Nat} {b : Bk} {l : List Bk} (h : p ≤ l.length) : (insAt p b l).length = l.length + 1 := by
  simp [insAt]; omega
theorem insAt_get {p : Nat} {b : Bk} {l : List Bk} (h : p ≤ l.length) (i : Nat) : (insAt p b l)[i]? = if i < p then l[i]? else if i = p then some b else l[i - 1]? := by
  unfold insAt
  by_cases h1 : i < p
  · rw [if_pos h1, List.getElem?_append_left (by simp; omega), List.getElem?_take_of_lt h1]
  · rw [if_neg h1, List.getElem?_append_right (by simp; omega)]
    have hl : (l.take p).length = p := by simp; omega
    rw [hl]
    by_cases h2 : i = p
    · subst h2; simp
    · rw [if_neg h2]
      obtain ⟨k, hk⟩ : ∃ k, i - p = k + 1 := ⟨i - p - 1, by omega⟩
      rw [hk, List.getElem?_cons_succ, List.getElem?_drop]
      congr 1; omega
theorem vw_ins {F F' : Nat → Nat → Int} {n p : Nat} {b : Bk} (hp : p ≤ n) (h1 : ∀ i, i < p → F' 0 i = F 0 i ∧ F' 1 i = F 1 i ∧ F' 2 i = F 2 i ∧ F' 3 i = F 3 i) (h2 : F' 0 p = b.1 ∧ F' 1 p = b.2.1 ∧ F' 2 p = b.2.2.1 ∧ F' 3 p = b.2.2.2) (h3 : ∀ i, p ≤ i → i < n → F' 0 (i + 1) = F 0 i ∧ F' 1 (i + 1) = F 1 i ∧ F' 2 (i + 1) = F 2 i ∧ F' 3 (i + 1) = F 3 i) : vw F' (n + 1) = insAt p b (vw F n) := by
  refine vw_ext (by rw [insAt_len (by rw [vw_len]; exact hp), vw_len]) (fun i hi => ?_)
  rw [insAt_get (by rw [vw_len]; exact hp)]
  by_cases q1 : i < p
  · obtain ⟨a, b, c, d⟩ := h1 i q1
    rw [if_pos q1, vw_get (by omega), a, b, c, d]
  · rw [if_neg q1]
    by_cases q2 : i = p
    · subst q2
      obtain ⟨a, b, c, d⟩ := h2
      rw [if_pos rfl, a, b, c, d]
    · rw [if_neg q2, vw_get (by omega)]
      obtain ⟨a, b, c, d⟩ := h3 (i - 1) (by omega) (by omega)
      have e : i - 1 + 1 = i := by omega
      rw [e] at a b c d
      rw [a, b, c, d]
/-- taken out -/
theorem vw_rem {F F' : Nat → Nat → Int} {n p : Nat} (hp : p < n + 1) (h1 : ∀ i, i < p → F' 0 i = F 0 i ∧ F' 1 i = F 1 i ∧ F' 2 i = F 2 i ∧ F' 3 i = F 3 i) (h3 : ∀ i, p ≤ i → i < n → F' 0 i = F 0 (i + 1) ∧ F' 1 i = F 1 (i + 1) ∧ F' 2 i = F 2 (i + 1) ∧ F' 3 i = F 3 (i + 1)) : vw F' n = (vw F (n + 1)).eraseIdx p := by
  refine vw_ext (by rw [List.length_eraseIdx_of_lt (by rw [vw_len]; exact hp), vw_len]; omega) (fun i hi => ?_)
  rw [List.getElem?_eraseIdx]
  by_cases q1 : i < p
  · obtain ⟨a, b, c, d⟩ := h1 i q1
    rw [if_pos q1, vw_get (by omega), a, b, c, d]
  · obtain ⟨a, b, c, d⟩ := h3 i (by omega) hi
    rw [if_neg q1, vw_get (by omega), a, b, c, d]
/-- put at the end -/
theorem vw_add {F F' : Nat → Nat → Int} {n : Nat} {b : Bk} (h1 : ∀ i, i < n → F' 0 i = F 0 i ∧ F' 1 i = F 1 i ∧ F' 2 i = F 2 i ∧ F' 3 i = F 3 i) (h2 : F' 0 n = b.1 ∧ F' 1 n = b.2.1 ∧ F' 2 n = b.2.2.1 ∧ F' 3 n = b.2.2.2) : vw F' (n + 1) = vw F n ++ [b] := by
  rw [vw_ins (F := F) (p := n) (b := b) (Nat.le_refl _) h1 h2 (fun i hi hj => absurd hj (by omega))]
  unfold insAt
  rw [List.take_of_length_le (by rw [vw_len]; omega), List.drop_eq_nil_of_le (by rw [vw_len]; omega)]
/-- the place where a new booking goes: behind all whose start isn't greater, looked for from the end -/
def posF (st : Nat → Int) (s : Int) : Nat → Nat
  | 0 => 0
  | m + 1 => if st m ≤ s then m + 1 else posF st s m
theorem posF_le {st : Nat → Int} {s : Int} {m : Nat} : posF st s m ≤ m := by
  induction m with
  | zero => exact Nat.le_refl _
  | succ m ih => rw [posF]; split <;> omega
theorem posF_gt {st : Nat → Int} {s : Int} {m : Nat} : ∀ i, posF st s m ≤ i → i < m → s < st i := by
  induction m with
  | zero => intro i _ h; omega
  | succ m ih =>
    intro i h1 h2
    rw [posF] at h1
    split at h1
    · omega
    · rename_i q
      by_cases e : i = m
      · subst e; omega
      · exact ih i h1 (by omega)
theorem posF_at {st : Nat → Int} {s : Int} {m : Nat} : ∀ i, posF st s m = i + 1 → st i ≤ s := by
  induction m with
  | zero => intro i h; simp [posF] at h
  | succ m ih =>
    intro i h
    rw [posF] at h
    split at h
    · rename_i q
      have : m = i := by omega
      subst this; exact q
    · exact ih i h
theorem posF_congr {st st' : Nat → Int} {s : Int} {m : Nat} (h : ∀ i, i < m → st i = st' i) : posF st s m = posF st' s m := by
  induction m with
  | zero => rfl
  | succ m ih => rw [posF, posF, h m (by omega), ih (fun i hi => h i (by omega))]
def stL (l : List Bk) (i : Nat) : Int := (l.getD i (0, 0, 0, 0)).2.2.1
def insB (b : Bk) (l : List Bk) : List Bk := insAt (posF (stL l) b.2.2.1 l.length) b l
theorem stL_vw {F : Nat → Nat → Int} {n i : Nat} (h : i < n) : stL (vw F n) i = F 2 i := by
  unfold stL
  rw [List.getD_eq_getElem?_getD, vw_get h]
  rfl
theorem posF_vw {F : Nat → Nat → Int} {n : Nat} {s : Int} : posF (stL (vw F n)) s (vw F n).length = posF (F 2) s n := by
  rw [vw_len]
  exact posF_congr (fun i hi => stL_vw hi)
/-- a plan: ice, minute, made, cancelled, served, bookings, requests -/
abbrev Pl : Type := Int × Int × Int × Int × Int × List Bk × List Bk
def cP (V : VV) (c : Nat) : Pl := (V c 0, V c 1, V c 2, V c 3, V c 4, vw (fun j i => V (c + 1 + j) i) (V c 5).toNat, vw (fun j i => V (c + 5 + j) i) (V c 10).toNat)
/-- a ship: its name, time, ice class, weight; a setup: headway, clearance, ships -/
abbrev Sh : Type := List Int × Int × Int × Int
abbrev Su : Type := Int × Int × List Sh
def cSh (V : VV) (k : Nat) : Sh := ((List.range (V k 1).toNat).map (fun j => V (k + 1) j), V k 2, V k 3, V k 4)
def cS (V : VV) (a : Nat) : Su := (V a 0, V a 1, (List.range (V a 3).toNat).map (fun i => cSh V (a + (2 + 2 * i))))
/-- when two passages conflict -/
abbrev conf (hw cl : Int) (i1 s1 e1 i2 s2 e2 : Int) : Prop := s1 = s2 ∨ (s1 < s2 ∧ ((i1 ≠ i2 ∧ s2 < e1 + cl) ∨ (i1 = i2 ∧ (s2 < s1 + hw ∨ e2 < e1 + hw)))) ∨ (s2 < s1 ∧ ((i1 ≠ i2 ∧ s1 < e2 + cl) ∨ (i1 = i2 ∧ (s1 < s2 + hw ∨ e1 < e2 + hw))))
abbrev okB (ns : Int) (b : Bk) : Prop := 0 ≤ b.1 ∧ b.1 < ns ∧ (b.2.1 = 0 ∨ b.2.1 = 1) ∧ 0 ≤ b.2.2.1 ∧ b.2.2.1 ≤ 999 ∧ b.2.2.1 < b.2.2.2 ∧ b.2.2.2 ≤ b.2.2.1 + 78
abbrev okR (ns : Int) (b : Bk) : Prop := 0 ≤ b.1 ∧ b.1 < ns ∧ (b.2.1 = 0 ∨ b.2.1 = 1) ∧ 0 ≤ b.2.2.1 ∧ b.2.2.1 ≤ b.2.2.2 ∧ b.2.2.2 ≤ 999
/-- earlier, and without conflict -/
abbrev okO (hw cl : Int) (b1 b2 : Bk) : Prop := b1.2.2.1 < b2.2.2.1 ∧ ¬ conf hw cl b1.2.1 b1.2.2.1 b1.2.2.2 b2.2.1 b2.2.2.1 b2.2.2.2
def okP (S : Su) (P : Pl) : Prop := (0 ≤ P.1 ∧ P.1 ≤ 9) ∧ (0 ≤ P.2.1 ∧ P.2.1 ≤ 1200) ∧ (P.2.2.2.2.2.1.length ≤ 20 ∧ P.2.2.2.2.2.2.length ≤ 8) ∧ (∀ b ∈ P.2.2.2.2.2.1, okB S.2.2.length b) ∧ (∀ b ∈ P.2.2.2.2.2.2, okR S.2.2.length b) ∧ P.2.2.2.2.2.1.Pairwise (okO S.1 S.2.1)
def okSh (s : Sh) : Prop := (1 ≤ s.1.length ∧ s.1.length ≤ 6) ∧ (∀ c ∈ s.1, 97 ≤ c ∧ c ≤ 122) ∧ (1 ≤ s.2.1 ∧ s.2.1 ≤ 60) ∧ (0 ≤ s.2.2.1 ∧ s.2.2.1 ≤ 9) ∧ (1 ≤ s.2.2.2 ∧ s.2.2.2 ≤ 99)
def okS (S : Su) : Prop := (0 ≤ S.1 ∧ S.1 ≤ 30) ∧ (0 ≤ S.2.1 ∧ S.2.1 ≤ 30) ∧ (1 ≤ S.2.2.length ∧ S.2.2.length ≤ 10) ∧ ∀ s ∈ S.2.2, okSh s
/-- how long a ship takes under this ice -/
def tr (S : Su) (th : Int) (ship : Int) : Int := match S.2.2[ship.toNat]? with
  | some s => if th - s.2.2.1 ≤ 0 then s.2.1 else s.2.1 + 2 * (th - s.2.2.1)
  | none => 0
