/-! names in the input, and tokens -/
def nmB (F : Nat → Int) : List Int → Nat → Bool
  | [], _ => true
  | c :: t, i => decide (c = F i) && nmB F t (i + 1)
theorem nmB_eq {F F' : Nat → Int} : ∀ {t : List Int} {i : Nat}, (∀ c ∈ t, 97 ≤ c ∧ c ≤ 122) → (∀ j, j < t.length → F (i + j) = wB (F' (i + j)) ∧ 0 ≤ F' (i + j) ∧ F' (i + j) ≤ 255) → nmB F t i = nmB F' t i := by
  intro t
  induction t with
  | nil => intro i _ _; rfl
  | cons c t ih =>
    intro i hc hF
    have h0 := hF 0 (by simp)
    rw [Nat.add_zero] at h0
    have hc0 := hc c List.mem_cons_self
    rw [nmB, nmB, ih (fun d hd => hc d (List.mem_cons_of_mem _ hd)) (fun j hj => by
      have := hF (j + 1) (by simp; omega)
      rw [show i + (j + 1) = i + 1 + j by omega] at this
      exact this)]
    congr 1
    rw [decide_eq_decide, h0.1]
    unfold wB
    omega
def shB (F : Nat → Int) (fr len : Nat) (t : Sh) : Bool := decide (len = t.1.length) && nmB F t.1 fr
def shN (F : Nat → Int) (fr len : Nat) : List Sh → Nat → Int
  | [], _ => -1
  | t :: l, i => if shB F fr len t = true then (i : Int) else shN F fr len l (i + 1)
theorem shN_rg {F : Nat → Int} {fr len : Nat} : ∀ {l : List Sh} {i : Nat}, shN F fr len l i = -1 ∨ ((i : Int) ≤ shN F fr len l i ∧ shN F fr len l i < i + l.length) := by
  intro l
  induction l with
  | nil => intro i; left; rfl
  | cons t l ih =>
    intro i
    rw [shN, List.length_cons]
    split
    · right; omega
    · rcases ih (i := i + 1) with q | q
      · left; exact q
      · right; omega
theorem shN_eq {F F' : Nat → Int} {fr len : Nat} : ∀ {l : List Sh} {i : Nat}, (∀ s ∈ l, okSh s) → (∀ j, j < len → F (fr + j) = wB (F' (fr + j)) ∧ 0 ≤ F' (fr + j) ∧ F' (fr + j) ≤ 255) → shN F fr len l i = shN F' fr len l i := by
  intro l
  induction l with
  | nil => intro i _ _; rfl
  | cons t l ih =>
    intro i hs hF
    rw [shN, shN, ih (fun s h => hs s (List.mem_cons_of_mem _ h)) hF]
    have e : shB F fr len t = shB F' fr len t := by
      unfold shB
      by_cases c : len = t.1.length
      · rw [nmB_eq (hs t List.mem_cons_self).2.1 (fun j hj => hF j (by omega))]
      · rw [decide_eq_false c, Bool.false_and, Bool.false_and]
    rw [e]
theorem X_hasName {V : VV} {q i fr len : Nat} {s : Sh} (hq : q < 2) (hi : i < 10) (hs : okSh s) (h1 : V (aS q + (2 + 2 * i)) 1 = (s.1.length : Int)) (h2 : ∀ (j : Nat) (c : Int), s.1[j]? = some c → V (aS q + (2 + 2 * i) + 1) j = c) (hfr : fr + len ≤ 600) (hF : ∀ j, j < len → -128 ≤ V 2 (fr + j) ∧ V 2 (fr + j) ≤ 127) : f4_hasName V q i (fr : Int) (len : Int) = some (if shB (V 2) fr len s = true then 1 else 0) := by
  have hsl := hs.1
  have key : ∀ (k m j : Nat), k + 1 ≤ m → s.1.length = j + k → len = s.1.length → f4_hasName_L13 V q i (fr : Int) m (j : Int) = some (if nmB (V 2) (s.1.drop j) (fr + j) = true then 1 else 0) := by
    intro k
    induction k with
    | zero =>
      intro m j hm hl hlen
      obtain ⟨m, rfl⟩ : ∃ q, m = q + 1 := ⟨m - 1, by omega⟩
      rw [f4_hasName_L13, h1, nrm_of (by omega) (by omega), nrm_of (by omega) (by omega), if_pos (by omega), List.drop_eq_nil_of_le (by omega), nmB, if_pos rfl]
    | succ k ih =>
      intro m j hm hl hlen
      obtain ⟨m, rfl⟩ : ∃ q, m = q + 1 := ⟨m - 1, by omega⟩
      have hj : j < s.1.length := by omega
      have hg := List.getElem?_eq_getElem hj
      have hc := hs.2.1 _ (List.getElem_mem hj)
      have hFj := hF j (by omega)
      have hI := ih m (j + 1) (by omega) (by omega) hlen
      rw [Int.natCast_add, Int.natCast_one] at hI
      have e0 : Int.toNat ((fr : Int) + (j : Int)) = fr + j := by omega
      rw [f4_hasName_L13, h1, nrm_of (by omega) (by omega), nrm_of (by omega) (by omega), if_neg (by omega), ck_t (by omega), ck_t (by omega), Int.toNat_natCast, e0, h2 j _ hg, nrm_of (by omega) (by omega), nrm_of (by omega) (by omega), List.drop_eq_getElem_cons hj, nmB]
      by_cases c : s.1[j] = V 2 (fr + j)
      · rw [if_pos c, hI, decide_eq_true c, Bool.true_and, Nat.add_assoc]
      · rw [if_neg c, decide_eq_false c, Bool.false_and]
        rfl
  unfold f4_hasName shB
  rw [ck_t hq, ck_t hi, h1, nrm_of (by omega) (by omega), nrm_of (by omega) (by omega)]
  by_cases c : len = s.1.length
  · have h0 := key s.1.length FU 0 (by have := FU_ge; omega) (by omega) c
    rw [nc0, List.drop_zero, Nat.add_zero] at h0
    rw [if_pos (by omega), h0, decide_eq_true c, Bool.true_and]
  · rw [if_neg (by omega), decide_eq_false c, Bool.false_and]
    rfl
theorem X_shipNamed {V : VV} {S : Su} {q fr len : Nat} (hq : q < 2) (h : rpS V (aS q) S) (hl : S.2.2.length ≤ 10) (hok : ∀ s ∈ S.2.2, okSh s) (hfr : fr + len ≤ 600) (hF : ∀ j, j < len → -128 ≤ V 2 (fr + j) ∧ V 2 (fr + j) ≤ 127) : f3_shipNamed V q (fr : Int) (len : Int) = some (shN (V 2) fr len S.2.2 0) := by
  have key : ∀ (k m i : Nat), k + 1 ≤ m → S.2.2.length = i + k → f3_shipNamed_L3 V q (fr : Int) (len : Int) m (i : Int) = some (shN (V 2) fr len (S.2.2.drop i) i) := by
    intro k
    induction k with
    | zero =>
      intro m i hm hli
      obtain ⟨m, rfl⟩ : ∃ q, m = q + 1 := ⟨m - 1, by omega⟩
      rw [f3_shipNamed_L3, h.2.2.1, nrm_of (by omega) (by omega), nrm_of (by omega) (by omega), if_pos (by omega), List.drop_eq_nil_of_le (by omega), shN]
    | succ k ih =>
      intro m i hm hli
      obtain ⟨m, rfl⟩ : ∃ q, m = q + 1 := ⟨m - 1, by omega⟩
      have hi : i < S.2.2.length := by omega
      have hg := List.getElem?_eq_getElem hi
      obtain ⟨h1, -, -, -, h2⟩ := h.2.2.2 i _ hg
      have hI := ih m (i + 1) (by omega) (by omega)
      rw [Int.natCast_add, Int.natCast_one] at hI
      rw [f3_shipNamed_L3, h.2.2.1, nrm_of (by omega) (by omega), nrm_of (by omega) (by omega), if_neg (by omega), ck_t (by omega), Int.toNat_natCast, X_hasName hq (by omega) (hok _ (List.getElem_mem hi)) h1 h2 hfr hF, bd_s, List.drop_eq_getElem_cons hi, shN]
      by_cases c : shB (V 2) fr len S.2.2[i] = true
      · rw [if_pos c, if_pos c, if_neg (by decide +kernel)]
      · rw [if_neg c, if_neg c, if_pos (by decide +kernel), hI]
  have h0 := key S.2.2.length FU 0 (by have := FU_ge; omega) (by omega)
  rw [nc0, List.drop_zero] at h0
  unfold f3_shipNamed
  rw [ck_t hq, h0]
