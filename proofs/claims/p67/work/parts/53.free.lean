/-! the least free start -/
def lfs (fr : Int → Bool) : Nat → Int → Int
  | 0, _ => -1
  | k + 1, s => if fr s = true then s else lfs fr k (s + 1)
theorem lfs_rg {fr : Int → Bool} : ∀ {k : Nat} {s : Int}, lfs fr k s = -1 ∨ (s ≤ lfs fr k s ∧ lfs fr k s < s + k ∧ fr (lfs fr k s) = true) := by
  intro k
  induction k with
  | zero => intro s; exact Or.inl rfl
  | succ k ih =>
    intro s
    rw [lfs]
    split
    · rename_i q; right; exact ⟨by omega, by omega, q⟩
    · rcases ih (s := s + 1) with h | ⟨h1, h2, h3⟩
      · exact Or.inl h
      · exact Or.inr ⟨by omega, by omega, h3⟩
theorem lfs_skip {fr : Int → Bool} {last : Int} : ∀ (m : Nat) (s : Int), (∀ t, s ≤ t → t < s + m → fr t = false) → lfs fr (last - s + 1).toNat s = lfs fr (last - (s + m) + 1).toNat (s + m) := by
  intro m
  induction m with
  | zero => intro s _; simp
  | succ m ih =>
    intro s h
    have h1 := ih (s + 1) (fun t a b => h t (by omega) (by omega))
    have e1 : s + 1 + (m : Int) = s + ((m + 1 : Nat) : Int) := by omega
    rw [e1] at h1
    rw [← h1]
    by_cases c : last < s
    · have a : (last - s + 1).toNat = 0 := by omega
      have b : (last - (s + 1) + 1).toNat = 0 := by omega
      rw [a, b]; rfl
    · have a : (last - s + 1).toNat = (last - (s + 1) + 1).toNat + 1 := by omega
      rw [a, lfs, if_neg (by rw [h s (by omega) (by omega)]; decide)]
def FBb (S : Su) (y d : Int) (b : Bk) : Int := fbI S.1 S.2.1 b.2.2.1 b.2.2.2 (if b.2.1 = y then 1 else 0) d
def FAb (S : Su) (y d : Int) (b : Bk) : Int := faI S.1 S.2.1 b.2.2.1 b.2.2.2 (if b.2.1 = y then 1 else 0) d
theorem cf_iff {S : Su} {ns : Int} {y d s : Int} {b : Bk} (hS : okS S) (hb : okB ns b) (hd : 1 ≤ d) : cf S b y s (s + d) = true ↔ FBb S y d b < s ∧ s < FAb S y d b := by
  unfold cf FBb FAb
  rw [decide_eq_true_eq]
  exact conf_iff hS.1 hS.2.1 hb.2.2.2.2.2.1 hd
theorem FB_rg {S : Su} {ns : Int} {y d : Int} {b : Bk} (hS : okS S) (hb : okB ns b) (hd : 1 ≤ d ∧ d ≤ 78) : b.2.2.1 - 108 ≤ FBb S y d b ∧ FBb S y d b < b.2.2.1 ∧ b.2.2.1 < FAb S y d b ∧ FAb S y d b ≤ b.2.2.2 + 30 := by
  have h1 := fbI_rg (y := if b.2.1 = y then 1 else 0) hS.1 hS.2.1 hb.2.2.2.2.2.1 hd
  have h2 := faI_rg (y := if b.2.1 = y then 1 else 0) hS.1 hS.2.1 hb.2.2.2.2.2.1 hd
  exact ⟨h1.1, h1.2, h2.1, h2.2⟩
/-- free of conflicts -/
def frB (S : Su) (l : List Bk) (y d but s : Int) : Bool := decide (fcl S l y s (s + d) but = -1)
theorem frB_iff {S : Su} {l : List Bk} {y d but s : Int} : frB S l y d but s = true ↔ ∀ (j : Nat) (b : Bk), l[j]? = some b → (j : Int) ≠ but → cf S b y s (s + d) = false := by
  unfold frB fcl
  rw [decide_eq_true_eq, ffi_none]
  constructor
  · intro h j b hj hne
    have := h j b hj
    rw [Nat.zero_add] at this
    simpa [hne] using this
  · intro h j b hj
    rw [Nat.zero_add]
    by_cases c : (j : Int) = but
    · simp [c]
    · simp [c, h j b hj c]
/-- one pass over the bookings: each that is in the way is jumped over -/
def psl (S : Su) (y d but : Int) : List Bk → Nat → Int → Int
  | [], _, x => x
  | b :: l, i, x => psl S y d but l (i + 1) (if (i : Int) ≠ but ∧ x < FAb S y d b ∧ FBb S y d b < x then FAb S y d b else x)
theorem psl_ge {S : Su} {y d but : Int} {l : List Bk} : ∀ {i : Nat} {x : Int}, x ≤ psl S y d but l i x := by
  induction l with
  | nil => intro i x; exact Int.le_refl _
  | cons b l ih =>
    intro i x
    rw [psl]
    have := ih (i := i + 1) (x := if (i : Int) ≠ but ∧ x < FAb S y d b ∧ FBb S y d b < x then FAb S y d b else x)
    split at this
    · rename_i q; rw [if_pos q]; omega
    · rename_i q; rw [if_neg q]; omega
theorem psl_le {S : Su} {y d but K : Int} {l : List Bk} : ∀ {i : Nat} {x : Int}, x ≤ K → (∀ b ∈ l, FAb S y d b ≤ K) → psl S y d but l i x ≤ K := by
  induction l with
  | nil => intro i x h _; exact h
  | cons b l ih =>
    intro i x h hb
    rw [psl]
    refine ih ?_ (fun c hc => hb c (List.mem_cons_of_mem _ hc))
    split
    · exact hb b List.mem_cons_self
    · exact h
theorem psl_cover {S : Su} {y d but : Int} {l : List Bk} : ∀ {i : Nat} {x t : Int}, x ≤ t → t < psl S y d but l i x → ∃ (j : Nat) (b : Bk), l[j]? = some b ∧ ((i + j : Nat) : Int) ≠ but ∧ FBb S y d b < t ∧ t < FAb S y d b := by
  induction l with
  | nil => intro i x t h1 h2; rw [psl] at h2; omega
  | cons b l ih =>
    intro i x t h1 h2
    rw [psl] at h2
    by_cases q : (i : Int) ≠ but ∧ x < FAb S y d b ∧ FBb S y d b < x
    · rw [if_pos q] at h2
      by_cases c : t < FAb S y d b
      · exact ⟨0, b, rfl, by simpa using q.1, by omega, c⟩
      · obtain ⟨j, c, e1, e2, e3, e4⟩ := ih (by omega) h2
        exact ⟨j + 1, c, by simpa using e1, by rwa [show i + (j + 1) = i + 1 + j by omega], e3, e4⟩
    · rw [if_neg q] at h2
      obtain ⟨j, c, e1, e2, e3, e4⟩ := ih h1 h2
      exact ⟨j + 1, c, by simpa using e1, by rwa [show i + (j + 1) = i + 1 + j by omega], e3, e4⟩
theorem psl_same {S : Su} {y d but : Int} {l : List Bk} : ∀ {i : Nat} {x : Int}, psl S y d but l i x = x → ∀ (j : Nat) (b : Bk), l[j]? = some b → ((i + j : Nat) : Int) ≠ but → ¬ (FBb S y d b < x ∧ x < FAb S y d b) := by
  induction l with
  | nil => intro i x _ j b h; simp at h
  | cons b l ih =>
    intro i x h j c hj hne
    rw [psl] at h
    by_cases q : (i : Int) ≠ but ∧ x < FAb S y d b ∧ FBb S y d b < x
    · rw [if_pos q] at h
      have := psl_ge (S := S) (y := y) (d := d) (but := but) (l := l) (i := i + 1) (x := FAb S y d b)
      omega
    · rw [if_neg q] at h
      cases j with
      | zero => simp at hj; subst hj; intro z; exact q ⟨by simpa using hne, z.2, z.1⟩
      | succ j => exact ih h j c (by simpa using hj) (by rwa [show i + 1 + j = i + (j + 1) by omega])
theorem psl_last {S : Su} {y d but : Int} {l : List Bk} : ∀ {i : Nat} {x : Int}, x < psl S y d but l i x → ∃ (j : Nat) (b : Bk), l[j]? = some b ∧ ((i + j : Nat) : Int) ≠ but ∧ x < FAb S y d b ∧ FAb S y d b ≤ psl S y d but l i x := by
  induction l with
  | nil => intro i x h; rw [psl] at h; omega
  | cons b l ih =>
    intro i x h
    rw [psl] at h ⊢
    by_cases q : (i : Int) ≠ but ∧ x < FAb S y d b ∧ FBb S y d b < x
    · rw [if_pos q] at h ⊢
      exact ⟨0, b, rfl, by simpa using q.1, q.2.1, psl_ge⟩
    · rw [if_neg q] at h ⊢
      obtain ⟨j, c, e1, e2, e3, e4⟩ := ih h
      exact ⟨j + 1, c, by simpa using e1, by rwa [show i + (j + 1) = i + 1 + j by omega], e3, e4⟩
/-- how many bookings end behind x -/
def cnA (S : Su) (y d but : Int) : List Bk → Nat → Int → Nat
  | [], _, _ => 0
  | b :: l, i, x => (if (i : Int) ≠ but ∧ x < FAb S y d b then 1 else 0) + cnA S y d but l (i + 1) x
theorem cnA_le {S : Su} {y d but : Int} {l : List Bk} : ∀ {i : Nat} {x : Int}, cnA S y d but l i x ≤ l.length := by
  induction l with
  | nil => intro i x; exact Nat.le_refl _
  | cons b l ih =>
    intro i x
    rw [cnA, List.length_cons]
    have := ih (i := i + 1) (x := x)
    split <;> omega
theorem cnA_mono {S : Su} {y d but : Int} {l : List Bk} : ∀ {i : Nat} {x x' : Int}, x ≤ x' → cnA S y d but l i x' ≤ cnA S y d but l i x := by
  induction l with
  | nil => intro i x x' _; exact Nat.le_refl _
  | cons b l ih =>
    intro i x x' h
    rw [cnA, cnA]
    have := ih (i := i + 1) h
    by_cases q : (i : Int) ≠ but ∧ x' < FAb S y d b
    · rw [if_pos q, if_pos ⟨q.1, by omega⟩]; omega
    · rw [if_neg q]; split <;> omega
theorem cnA_lt {S : Su} {y d but : Int} {l : List Bk} : ∀ {i : Nat} {x x' : Int}, x ≤ x' → (∃ (j : Nat) (b : Bk), l[j]? = some b ∧ ((i + j : Nat) : Int) ≠ but ∧ x < FAb S y d b ∧ FAb S y d b ≤ x') → cnA S y d but l i x' < cnA S y d but l i x := by
  induction l with
  | nil => intro i x x' _ h; obtain ⟨j, b, h, -⟩ := h; simp at h
  | cons b l ih =>
    intro i x x' h ⟨j, c, h1, h2, h3, h4⟩
    rw [cnA, cnA]
    cases j with
    | zero =>
      simp at h1
      subst h1
      have := cnA_mono (S := S) (y := y) (d := d) (but := but) (l := l) (i := i + 1) h
      rw [if_neg (fun z => by have := z.2; omega), if_pos ⟨by simpa using h2, h3⟩]
      omega
    | succ j =>
      have := ih (i := i + 1) h ⟨j, c, by simpa using h1, by rwa [show i + 1 + j = i + (j + 1) by omega], h3, h4⟩
      by_cases q : (i : Int) ≠ but ∧ x' < FAb S y d b
      · rw [if_pos q, if_pos ⟨q.1, by omega⟩]; omega
      · rw [if_neg q]; split <;> omega
theorem X_pass {V : VV} {S : Su} {P : Pl} (h : CK V S P) {y last d but a1 a2 : Int} (hy : y = 0 ∨ y = 1) (hd : 1 ≤ d ∧ d ≤ 78) (hb : -1 ≤ but ∧ but ≤ 5000) : ∀ (k n i : Nat) (x : Int), k + 1 ≤ n → P.2.2.2.2.2.1.length = i + k → -200 ≤ x → x ≤ 2000 → f5_leastFreeStart_L31 V y last d but a1 a2 n x (i : Int) = some (psl S y d but (P.2.2.2.2.2.1.drop i) i x) := by
  have hr := h.ok.rg
  have hp := h.pl
  intro k
  induction k with
  | zero =>
    intro n i x hn hl h1 h2
    obtain ⟨n, rfl⟩ : ∃ m, n = m + 1 := ⟨n - 1, by omega⟩
    rw [f5_leastFreeStart_L31, List.drop_eq_nil_of_le (by omega)]
    simp (disch := omega) only [ck_t, nrm_of, bd_s, bd2_s, bd3_s, bd4_s, Int.toNat_natCast, aP0, Nat.reduceAdd, Nat.zero_add, hp.2.2.2.2.2.1]
    rw [if_pos (by omega)]
    rfl
  | succ k ih =>
    intro n i x hn hl h1 h2
    obtain ⟨n, rfl⟩ : ∃ m, n = m + 1 := ⟨n - 1, by omega⟩
    have hi : i < P.2.2.2.2.2.1.length := by omega
    obtain ⟨b1, -, b3⟩ := h.b hi
    have hI := fun x => ih n (i + 1) x (by omega) (by omega)
    simp only [Int.natCast_add, Int.natCast_one] at hI
    have hfr := FB_rg (y := y) h.2.2.2.1 b3 hd
    have e1 : (if V 55 i = y then some (1 : Int) else some 0) = some (if V 55 i = y then 1 else 0) := by split <;> rfl
    have hy2 : (if V 55 i = y then (1 : Int) else 0) = 0 ∨ (if V 55 i = y then (1 : Int) else 0) = 1 := by split <;> simp
    unfold okB at b3
    simp only at b3 hfr
    obtain ⟨g1, g2, g3, g4, g5, g6, g7⟩ := b3
    have k1 := X_freeBefore h (s := V 56 i) (e := V 57 i) (y := if V 55 i = y then 1 else 0) (d := d) (by omega) (by omega) hy2 (by omega)
    have k2 := X_freeAfter h (s := V 56 i) (e := V 57 i) (y := if V 55 i = y then 1 else 0) (d := d) (by omega) (by omega) hy2 (by omega)
    rw [b1, psl]
    have q1 : FBb S y d (V 54 i, V 55 i, V 56 i, V 57 i) = fbI S.1 S.2.1 (V 56 i) (V 57 i) (if V 55 i = y then 1 else 0) d := rfl
    have q2 : FAb S y d (V 54 i, V 55 i, V 56 i, V 57 i) = faI S.1 S.2.1 (V 56 i) (V 57 i) (if V 55 i = y then 1 else 0) d := rfl
    rw [← q1] at k1
    rw [← q2] at k2
    generalize FBb S y d (V 54 i, V 55 i, V 56 i, V 57 i) = fb at *
    generalize FAb S y d (V 54 i, V 55 i, V 56 i, V 57 i) = fa at *
    rw [f5_leastFreeStart_L31]
    simp (disch := omega) only [ck_t, nrm_of, bd_s, bd2_s, bd3_s, bd4_s, Int.toNat_natCast, aP0, Nat.reduceAdd, Nat.zero_add, hp.2.2.2.2.2.1, e1, k1, k2]
    rw [if_neg (by omega)]
    by_cases c : (i : Int) = but
    · rw [if_pos c, hI x h1 h2, if_neg (fun z => z.1 c)]
    · rw [if_neg c]
      by_cases c2 : fa ≤ x
      · rw [if_pos c2, hI x h1 h2, if_neg (fun z => by have := z.2.1; omega)]
      · rw [if_neg c2]
        by_cases c3 : x ≤ fb
        · rw [if_pos c3, hI x h1 h2, if_neg (fun z => by have := z.2.2; omega)]
        · rw [if_neg c3, hI fa (by omega) (by omega), if_pos ⟨c, by omega, by omega⟩]
theorem X_leastFreeStart {V : VV} {S : Su} {P : Pl} (h : CK V S P) {y fr last d but : Int} (hy : y = 0 ∨ y = 1) (hf : 0 ≤ fr ∧ fr ≤ 1200) (hla : -1 ≤ last ∧ last ≤ 1200) (hd : 1 ≤ d ∧ d ≤ 78) (hb : -1 ≤ but ∧ but ≤ 5000) : f5_leastFreeStart V y fr last d but = some (lfs (frB S P.2.2.2.2.2.1 y d but) (last - fr + 1).toNat fr) := by
  have hr := h.ok.rg
  have hp := h.pl
  have hFA : ∀ b ∈ P.2.2.2.2.2.1, FAb S y d b ≤ 1200 := fun b hb => by
    have := (FB_rg (y := y) h.2.2.2.1 (h.ok.2.2.2.1 b hb) hd).2.2.2
    have h2 := h.ok.2.2.2.1 b hb
    obtain ⟨g1, g2, g3, g4, g5, g6, g7⟩ := h2
    omega
  have hfree : ∀ t : Int, (∃ (j : Nat) (b : Bk), P.2.2.2.2.2.1[j]? = some b ∧ (j : Int) ≠ but ∧ FBb S y d b < t ∧ t < FAb S y d b) → frB S P.2.2.2.2.2.1 y d but t = false := by
    intro t ⟨j, b, e1, e2, e3, e4⟩
    cases hc : frB S P.2.2.2.2.2.1 y d but t with
    | false => rfl
    | true =>
      have := frB_iff.mp hc j b e1 e2
      rw [(cf_iff h.2.2.2.1 (h.ok.2.2.2.1 b (List.mem_of_getElem? e1)) hd.1).mpr ⟨e3, e4⟩] at this
      exact absurd this (by decide)
  have key : ∀ (c n : Nat) (x : Int) (r : Nat), cnA S y d but P.2.2.2.2.2.1 0 x ≤ c → r + c ≤ P.2.2.2.2.2.1.length → c + 1 ≤ n → 0 ≤ x → x ≤ 1200 → f5_leastFreeStart_L6 V y last d but n x (r : Int) = some (lfs (frB S P.2.2.2.2.2.1 y d but) (last - x + 1).toNat x) := by
    intro c
    induction c with
    | zero =>
      intro n x r hc hrc hn h1 h2
      obtain ⟨n, rfl⟩ : ∃ m, n = m + 1 := ⟨n - 1, by omega⟩
      have hps := X_pass h (y := y) (last := last) (d := d) (but := but) (a1 := (r : Int)) (a2 := x) hy hd hb P.2.2.2.2.2.1.length FU 0 x (by have := FU_ge; omega) (by omega) (by omega) (by omega)
      rw [List.drop_zero, nc0] at hps
      rw [f5_leastFreeStart_L6, hps]
      have hsame : psl S y d but P.2.2.2.2.2.1 0 x = x := by
        have g := psl_ge (S := S) (y := y) (d := d) (but := but) (l := P.2.2.2.2.2.1) (i := 0) (x := x)
        by_cases e : psl S y d but P.2.2.2.2.2.1 0 x = x
        · exact e
        · have := cnA_lt g (psl_last (by omega))
          omega
      simp (disch := omega) only [ck_t, nrm_of, bd_s, bd2_s, bd3_s, bd4_s, Int.toNat_natCast, aP0, Nat.reduceAdd, Nat.zero_add, hp.2.2.2.2.2.1, hsame, if_true]
      rw [if_neg (by omega)]
      by_cases q : last < x
      · rw [if_pos q, show (last - x + 1).toNat = 0 by omega]; rfl
      · rw [if_neg q, show (last - x + 1).toNat = (last - x).toNat + 1 by omega, lfs, if_pos]
        exact frB_iff.mpr (fun j b e1 e2 => by
          have := psl_same hsame j b e1 (by simpa using e2)
          cases hcf : cf S b y x (x + d) with
          | false => rfl
          | true => exact absurd ((cf_iff h.2.2.2.1 (h.ok.2.2.2.1 b (List.mem_of_getElem? e1)) hd.1).mp hcf) this)
    | succ c ih =>
      intro n x r hc hrc hn h1 h2
      obtain ⟨n, rfl⟩ : ∃ m, n = m + 1 := ⟨n - 1, by omega⟩
      have hps := X_pass h (y := y) (last := last) (d := d) (but := but) (a1 := (r : Int)) (a2 := x) hy hd hb P.2.2.2.2.2.1.length FU 0 x (by have := FU_ge; omega) (by omega) (by omega) (by omega)
      rw [List.drop_zero, nc0] at hps
      have g := psl_ge (S := S) (y := y) (d := d) (but := but) (l := P.2.2.2.2.2.1) (i := 0) (x := x)
      have g2 := psl_le (S := S) (y := y) (d := d) (but := but) (l := P.2.2.2.2.2.1) (i := 0) (x := x) h2 hFA
      rw [f5_leastFreeStart_L6, hps]
      simp (disch := omega) only [ck_t, nrm_of, bd_s, bd2_s, bd3_s, bd4_s, Int.toNat_natCast, aP0, Nat.reduceAdd, Nat.zero_add, hp.2.2.2.2.2.1]
      rw [if_neg (by omega)]
      by_cases q : last < x
      · rw [if_pos q, show (last - x + 1).toNat = 0 by omega]; rfl
      · rw [if_neg q]
        by_cases e : psl S y d but P.2.2.2.2.2.1 0 x = x
        · rw [if_pos e, e, show (last - x + 1).toNat = (last - x).toNat + 1 by omega, lfs, if_pos]
          exact frB_iff.mpr (fun j b e1 e2 => by
            have := psl_same e j b e1 (by simpa using e2)
            cases hcf : cf S b y x (x + d) with
            | false => rfl
            | true => exact absurd ((cf_iff h.2.2.2.1 (h.ok.2.2.2.1 b (List.mem_of_getElem? e1)) hd.1).mp hcf) this)
        · rw [if_neg e]
          have hlt := cnA_lt g (psl_last (by omega))
          have hI := ih n (psl S y d but P.2.2.2.2.2.1 0 x) (r + 1) (by omega) (by omega) (by omega) (by omega) g2
          rw [Int.natCast_add, Int.natCast_one] at hI
          rw [hI]
          have hsk := lfs_skip (fr := frB S P.2.2.2.2.2.1 y d but) (last := last) (psl S y d but P.2.2.2.2.2.1 0 x - x).toNat x (fun t a b => hfree t (by
            obtain ⟨j, b, e1, e2, e3, e4⟩ := psl_cover (S := S) (y := y) (d := d) (but := but) (l := P.2.2.2.2.2.1) (i := 0) (x := x) (t := t) a (by omega)
            exact ⟨j, b, e1, by simpa using e2, e3, e4⟩))
          rw [show x + (((psl S y d but P.2.2.2.2.2.1 0 x - x).toNat : Nat) : Int) = psl S y d but P.2.2.2.2.2.1 0 x by omega] at hsk
          rw [hsk]
  have := key P.2.2.2.2.2.1.length FU fr 0 cnA_le (by omega) (by have := FU_ge; omega) hf.1 hf.2
  rw [nc0] at this
  exact this
