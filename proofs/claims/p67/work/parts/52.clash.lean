/-! conflicts of a passage with bookings -/
def cf (S : Su) (b : Bk) (i s e : Int) : Bool := decide (conf S.1 S.2.1 b.2.1 b.2.2.1 b.2.2.2 i s e)
/-- the number of the first booking of which P holds -/
def ffi (P : Nat → Bk → Bool) : List Bk → Nat → Int
  | [], _ => -1
  | b :: l, i => if P i b = true then (i : Int) else ffi P l (i + 1)
theorem ffi_rg {P : Nat → Bk → Bool} {l : List Bk} : ∀ {i : Nat}, ffi P l i = -1 ∨ ((i : Int) ≤ ffi P l i ∧ ffi P l i < i + l.length) := by
  induction l with
  | nil => intro i; exact Or.inl rfl
  | cons b l ih =>
    intro i
    rw [ffi, List.length_cons]
    split
    · right; omega
    · rcases ih (i := i + 1) with h | h
      · exact Or.inl h
      · right; omega
theorem ffi_congr {P Q : Nat → Bk → Bool} {l : List Bk} : ∀ {i : Nat}, (∀ (j : Nat) (b : Bk), l[j]? = some b → P (i + j) b = Q (i + j) b) → ffi P l i = ffi Q l i := by
  induction l with
  | nil => intro i _; rfl
  | cons b l ih =>
    intro i h
    have h0 := h 0 b rfl
    rw [Nat.add_zero] at h0
    rw [ffi, ffi, h0, ih (fun j b hj => by have := h (j + 1) b (by simpa using hj); rwa [show i + (j + 1) = i + 1 + j by omega] at this)]
theorem ffi_none {P : Nat → Bk → Bool} {l : List Bk} : ∀ {i : Nat}, ffi P l i = -1 ↔ ∀ (j : Nat) (b : Bk), l[j]? = some b → P (i + j) b = false := by
  induction l with
  | nil => intro i; exact ⟨fun _ j b h => by simp at h, fun _ => rfl⟩
  | cons b l ih =>
    intro i
    rw [ffi]
    constructor
    · intro h j c hj
      split at h
      · omega
      · rename_i q
        cases j with
        | zero => simp at hj; subst hj; simpa using q
        | succ j => have := (ih (i := i + 1)).mp h j c (by simpa using hj); rwa [show i + 1 + j = i + (j + 1) by omega] at this
    · intro h
      have h0 := h 0 b rfl
      rw [Nat.add_zero] at h0
      rw [if_neg (by rw [h0]; decide)]
      exact ih.mpr (fun j c hj => by have := h (j + 1) c (by simpa using hj); rwa [show i + (j + 1) = i + 1 + j by omega] at this)
theorem ffi_at {P : Nat → Bk → Bool} {l : List Bk} : ∀ {i k : Nat}, ffi P l i = (k : Int) → ∃ b, l[k - i]? = some b ∧ P k b = true ∧ i ≤ k := by
  induction l with
  | nil => intro i k h; rw [ffi] at h; omega
  | cons b l ih =>
    intro i k h
    rw [ffi] at h
    split at h
    · rename_i q
      have : i = k := by omega
      subst this
      exact ⟨b, by simp, q, Nat.le_refl _⟩
    · obtain ⟨c, h1, h2, h3⟩ := ih h
      refine ⟨c, ?_, h2, by omega⟩
      rw [show k - i = (k - (i + 1)) + 1 by omega, List.getElem?_cons_succ]
      exact h1
def fbI (hw cl s e y d : Int) : Int := if y = 0 then s - cl - d else if e - hw - d ≤ (if hw ≤ 0 then s - 1 else s - hw) then e - hw - d else if hw ≤ 0 then s - 1 else s - hw
def faI (hw cl s e y d : Int) : Int := if y = 0 then e + cl else if (if hw ≤ 0 then s + 1 else s + hw) ≤ e + hw - d then e + hw - d else if hw ≤ 0 then s + 1 else s + hw
theorem X_freeBefore {V : VV} {S : Su} {P : Pl} (h : CK V S P) {s e y d : Int} (hs : -5000 ≤ s ∧ s ≤ 5000) (he : -5000 ≤ e ∧ e ≤ 5000) (hy : y = 0 ∨ y = 1) (hd : -5000 ≤ d ∧ d ≤ 5000) : f5_freeBefore V s e y d = some (fbI S.1 S.2.1 s e y d) := by
  have hsu := h.su
  have hq := h.2.2.1
  unfold f5_freeBefore fbI
  simp (disch := omega) only [ck_t, nrm_of, bd_s, bd2_s, bd3_s, bd4_s, Int.toNat_natCast, aP0, Nat.reduceAdd, Nat.zero_add, hsu.1, hsu.2.1]
  by_cases c : y = 0
  · simp only [c, if_true]
  · simp only [c, if_false]
    by_cases c2 : S.1 ≤ 0
    · simp (disch := omega) only [c2, if_true, bd_s, nrm_of]
      split <;> rfl
    · simp (disch := omega) only [c2, if_false, bd_s, nrm_of]
      split <;> rfl
theorem X_freeAfter {V : VV} {S : Su} {P : Pl} (h : CK V S P) {s e y d : Int} (hs : -5000 ≤ s ∧ s ≤ 5000) (he : -5000 ≤ e ∧ e ≤ 5000) (hy : y = 0 ∨ y = 1) (hd : -5000 ≤ d ∧ d ≤ 5000) : f5_freeAfter V s e y d = some (faI S.1 S.2.1 s e y d) := by
  have hsu := h.su
  have hq := h.2.2.1
  unfold f5_freeAfter faI
  simp (disch := omega) only [ck_t, nrm_of, bd_s, bd2_s, bd3_s, bd4_s, Int.toNat_natCast, aP0, Nat.reduceAdd, Nat.zero_add, hsu.1, hsu.2.1]
  by_cases c : y = 0
  · simp only [c, if_true]
  · simp only [c, if_false]
    by_cases c2 : S.1 ≤ 0
    · simp (disch := omega) only [c2, if_true, bd_s, nrm_of]
      split <;> rfl
    · simp (disch := omega) only [c2, if_false, bd_s, nrm_of]
      split <;> rfl
theorem fbI_rg {hw cl s e y d : Int} (h1 : 0 ≤ hw ∧ hw ≤ 30) (h2 : 0 ≤ cl ∧ cl ≤ 30) (h3 : s < e) (h4 : 1 ≤ d ∧ d ≤ 78) : s - 108 ≤ fbI hw cl s e y d ∧ fbI hw cl s e y d < s := by
  unfold fbI
  split
  · omega
  · split <;> split <;> omega
theorem faI_rg {hw cl s e y d : Int} (h1 : 0 ≤ hw ∧ hw ≤ 30) (h2 : 0 ≤ cl ∧ cl ≤ 30) (h3 : s < e) (h4 : 1 ≤ d ∧ d ≤ 78) : s < faI hw cl s e y d ∧ faI hw cl s e y d ≤ e + 30 := by
  unfold faI
  split
  · omega
  · split <;> split <;> omega
/-- a conflict is to start between the two -/
theorem conf_iff {hw cl i1 s1 e1 i2 s d : Int} (h1 : 0 ≤ hw ∧ hw ≤ 30) (h2 : 0 ≤ cl ∧ cl ≤ 30) (h3 : s1 < e1) (h4 : 1 ≤ d) : conf hw cl i1 s1 e1 i2 s (s + d) ↔ fbI hw cl s1 e1 (if i1 = i2 then 1 else 0) d < s ∧ s < faI hw cl s1 e1 (if i1 = i2 then 1 else 0) d := by
  have h10 : ¬ (1 : Int) = 0 := by decide
  unfold conf fbI faI
  by_cases c : i1 = i2
  · simp only [c, if_true, ne_eq, not_true_eq_false, false_and, true_and, false_or, h10, if_false]
    by_cases c2 : hw ≤ 0
    · simp only [c2, if_true]
      split <;> split <;> constructor <;> intro q <;> omega
    · simp only [c2, if_false]
      split <;> split <;> constructor <;> intro q <;> omega
  · simp only [c, if_false, if_true, ne_eq, not_false_eq_true, true_and, false_and, or_false]
    constructor <;> intro q <;> omega
theorem X_clashes {V : VV} {S : Su} {P : Pl} (h : CK V S P) {i : Nat} (hi : i < P.2.2.2.2.2.1.length) {y s d : Int} (hy : y = 0 ∨ y = 1) (hs : -5000 ≤ s ∧ s ≤ 5000) (hd : 1 ≤ d ∧ d ≤ 78) : f5_clashes V (i : Int) y s d = some (if cf S (V 54 i, V 55 i, V 56 i, V 57 i) y s (s + d) = true then 1 else 0) := by
  obtain ⟨-, -, hb⟩ := h.b hi
  have hsu := h.su
  have hr := h.ok.rg
  unfold okB at hb
  simp only at hb
  obtain ⟨b1, b2, b3, b4, b5, b6, b7⟩ := hb
  have hc := conf_iff (i1 := V 55 i) (i2 := y) (s := s) (d := d) hsu.2.2.2.1 hsu.2.2.2.2.1 b6 hd.1
  have g1 := fbI_rg (y := if V 55 i = y then 1 else 0) hsu.2.2.2.1 hsu.2.2.2.2.1 b6 hd
  have g2 := faI_rg (y := if V 55 i = y then 1 else 0) hsu.2.2.2.1 hsu.2.2.2.2.1 b6 hd
  have hy2 : (if V 55 i = y then (1 : Int) else 0) = 0 ∨ (if V 55 i = y then (1 : Int) else 0) = 1 := by split <;> simp
  have e1 : (if V 55 i = y then some (1 : Int) else some 0) = some (if V 55 i = y then 1 else 0) := by split <;> rfl
  generalize hf1 : fbI S.1 S.2.1 (V 56 i) (V 57 i) (if V 55 i = y then 1 else 0) d = fb at hc g1
  generalize hf2 : faI S.1 S.2.1 (V 56 i) (V 57 i) (if V 55 i = y then 1 else 0) d = fa at hc g2
  have k1 := X_freeBefore h (s := V 56 i) (e := V 57 i) (y := if V 55 i = y then 1 else 0) (d := d) (by omega) (by omega) hy2 (by omega)
  have k2 := X_freeAfter h (s := V 56 i) (e := V 57 i) (y := if V 55 i = y then 1 else 0) (d := d) (by omega) (by omega) hy2 (by omega)
  rw [hf1] at k1
  rw [hf2] at k2
  unfold f5_clashes cf
  simp (disch := omega) only [ck_t, nrm_of, bd_s, bd2_s, bd3_s, bd4_s, Int.toNat_natCast, aP0, Nat.reduceAdd, Nat.zero_add, e1, k1, k2]
  by_cases c : conf S.1 S.2.1 (V 55 i) (V 56 i) (V 57 i) y s (s + d)
  · have := hc.mp c
    rw [if_neg (show ¬ s ≤ fb by omega), if_neg (show ¬ fa ≤ s by omega), if_pos (decide_eq_true c)]
  · rw [if_neg (show ¬ decide (conf S.1 S.2.1 (V 55 i) (V 56 i) (V 57 i) y s (s + d)) = true from fun q => c (of_decide_eq_true q))]
    by_cases c2 : s ≤ fb
    · rw [if_pos c2]
    · rw [if_neg c2]
      by_cases c3 : fa ≤ s
      · rw [if_pos c3]
      · exact absurd (hc.mpr ⟨by omega, by omega⟩) c
/-- the first conflict with a booking other than one -/
def fcl (S : Su) (l : List Bk) (y s e but : Int) : Int := ffi (fun i b => decide ((i : Int) ≠ but) && cf S b y s e) l 0
theorem X_firstClash {V : VV} {S : Su} {P : Pl} (h : CK V S P) {y s d but : Int} (hy : y = 0 ∨ y = 1) (hs : -5000 ≤ s ∧ s ≤ 5000) (hd : 1 ≤ d ∧ d ≤ 78) (hb : -1 ≤ but ∧ but ≤ 5000) : f5_firstClash V y s d but = some (fcl S P.2.2.2.2.2.1 y s (s + d) but) := by
  have hr := h.ok.rg
  have hp := h.pl
  have key : ∀ (k n i : Nat), k + 1 ≤ n → P.2.2.2.2.2.1.length = i + k → f5_firstClash_L3 V y s d but n (i : Int) = some (ffi (fun i b => decide ((i : Int) ≠ but) && cf S b y s (s + d)) (P.2.2.2.2.2.1.drop i) i) := by
    intro k
    induction k with
    | zero =>
      intro n i hn hl
      obtain ⟨n, rfl⟩ : ∃ m, n = m + 1 := ⟨n - 1, by omega⟩
      rw [f5_firstClash_L3, List.drop_eq_nil_of_le (by omega)]
      simp (disch := omega) only [ck_t, nrm_of, bd_s, bd2_s, bd3_s, bd4_s, Int.toNat_natCast, aP0, Nat.reduceAdd, Nat.zero_add, hp.2.2.2.2.2.1]
      rw [if_pos (by omega)]
      rfl
    | succ k ih =>
      intro n i hn hl
      obtain ⟨n, rfl⟩ : ∃ m, n = m + 1 := ⟨n - 1, by omega⟩
      have hi : i < P.2.2.2.2.2.1.length := by omega
      have hI := ih n (i + 1) (by omega) (by omega)
      rw [Int.natCast_add, Int.natCast_one] at hI
      rw [f5_firstClash_L3, (h.b hi).1, ffi]
      simp (disch := omega) only [ck_t, nrm_of, bd_s, bd2_s, bd3_s, bd4_s, Int.toNat_natCast, aP0, Nat.reduceAdd, Nat.zero_add, hp.2.2.2.2.2.1, X_clashes h hi hy hs hd]
      rw [if_neg (by omega)]
      by_cases c : (i : Int) = but
      · rw [if_pos c, hI, if_neg (by simp [c])]
      · rw [if_neg c]
        by_cases c2 : cf S (V 54 i, V 55 i, V 56 i, V 57 i) y s (s + d) = true
        · simp (disch := omega) only [c2, if_true, nrm_of]
          rw [if_neg (by omega), if_pos (by simp [c])]
        · simp (disch := omega) only [c2, Bool.false_eq_true, if_false, nrm_of, if_true, eq_self]
          rw [hI, if_neg (by simp [c2])]
  have := key P.2.2.2.2.2.1.length FU 0 (by have := FU_ge; omega) (by omega)
  rw [List.drop_zero, nc0] at this
  exact this
