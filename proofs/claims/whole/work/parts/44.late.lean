/-! the greatest free start, the slack, the start that serves -/
def gfs (fr : Int → Bool) : Nat → Int → Int
  | 0, _ => -1
  | k + 1, s => if fr s = true then s else gfs fr k (s - 1)
theorem gfs_skip {fr : Int → Bool} : ∀ (m : Nat) (s : Int), (∀ t, s - m < t → t ≤ s → fr t = false) → gfs fr (s + 1).toNat s = gfs fr (s - m + 1).toNat (s - m) := by
  intro m
  induction m with
  | zero => intro s _; simp
  | succ m ih =>
    intro s h
    have h1 := ih (s - 1) (fun t a b => h t (by omega) (by omega))
    have e1 : s - 1 - (m : Int) = s - ((m + 1 : Nat) : Int) := by omega
    rw [e1] at h1
    rw [← h1]
    by_cases c : s < 0
    · have a : (s + 1).toNat = 0 := by omega
      have b : (s - 1 + 1).toNat = 0 := by omega
      rw [a, b]; rfl
    · have a : (s + 1).toNat = (s - 1 + 1).toNat + 1 := by omega
      rw [a, gfs, if_neg (by rw [h s (by omega) (by omega)]; decide)]
/-- how many bookings begin to forbid ahead of x -/
def cnB (S : Su) (y d : Int) : List Bk → Int → Nat
  | [], _ => 0
  | b :: l, x => (if FBb S y d b < x then 1 else 0) + cnB S y d l x
theorem cnB_le {S : Su} {y d : Int} {l : List Bk} {x : Int} : cnB S y d l x ≤ l.length := by
  induction l with
  | nil => exact Nat.le_refl _
  | cons b l ih => rw [cnB, List.length_cons]; split <;> omega
theorem cnB_mono {S : Su} {y d : Int} {l : List Bk} {x x' : Int} (h : x' ≤ x) : cnB S y d l x' ≤ cnB S y d l x := by
  induction l with
  | nil => exact Nat.le_refl _
  | cons b l ih =>
    rw [cnB, cnB]
    by_cases q : FBb S y d b < x'
    · rw [if_pos q, if_pos (by omega)]; omega
    · rw [if_neg q]; split <;> omega
theorem cnB_lt {S : Su} {y d : Int} {l : List Bk} {x x' : Int} (h : x' ≤ x) (hb : ∃ b ∈ l, FBb S y d b < x ∧ x' ≤ FBb S y d b) : cnB S y d l x' < cnB S y d l x := by
  induction l with
  | nil => obtain ⟨b, hb, -⟩ := hb; exact absurd hb List.not_mem_nil
  | cons c l ih =>
    rw [cnB, cnB]
    obtain ⟨b, hm, h1, h2⟩ := hb
    rcases List.mem_cons.mp hm with e | e
    · subst e
      have := cnB_mono (S := S) (y := y) (d := d) (l := l) h
      rw [if_neg (by omega), if_pos h1]; omega
    · have := ih ⟨b, e, h1, h2⟩
      by_cases q : FBb S y d c < x'
      · rw [if_pos q, if_pos (by omega)]; omega
      · rw [if_neg q]; split <;> omega
theorem X_greatestFreeStart {V : VV} {S : Su} {P : Pl} (h : CK V S P) {y la d : Int} (hy : y = 0 ∨ y = 1) (hla : -200 ≤ la ∧ la ≤ 1200) (hd : 1 ≤ d ∧ d ≤ 78) : f5_greatestFreeStart V y la d = some (gfs (frB S P.2.2.2.2.2.1 y d (-1)) (la + 1).toNat la) := by
  have hr := h.ok.rg
  have hp := h.pl
  have key : ∀ (c n : Nat) (x : Int) (r : Nat), cnB S y d P.2.2.2.2.2.1 x ≤ c → r + c ≤ P.2.2.2.2.2.1.length → c + 1 ≤ n → -200 ≤ x → x ≤ 1200 → f5_greatestFreeStart_L6 V y d n x (r : Int) = some (gfs (frB S P.2.2.2.2.2.1 y d (-1)) (x + 1).toNat x) := by
    intro c
    induction c with
    | zero =>
      intro n x r hc hrc hn h1 h2
      obtain ⟨n, rfl⟩ : ∃ m, n = m + 1 := ⟨n - 1, by omega⟩
      have hfc := X_firstClash h (y := y) (s := x) (d := d) (but := -1) hy (by omega) hd (by omega)
      rw [f5_greatestFreeStart_L6, hfc]
      have hnone : fcl S P.2.2.2.2.2.1 y x (x + d) (-1) = -1 := by
        have : frB S P.2.2.2.2.2.1 y d (-1) x = true := frB_iff.mpr (fun j b e1 e2 => by
          cases hcf : cf S b y x (x + d) with
          | false => rfl
          | true =>
            have hb := List.mem_of_getElem? e1
            have := (cf_iff h.2.2.2.1 (h.ok.2.2.2.1 b hb) hd.1).mp hcf
            have := cnB_lt (S := S) (y := y) (d := d) (l := P.2.2.2.2.2.1) (x := x) (x' := FBb S y d b) (by omega) ⟨b, hb, this.1, Int.le_refl _⟩
            omega)
        unfold frB at this
        exact of_decide_eq_true this
      simp (disch := omega) only [ck_t, nrm_of, bd_s, bd2_s, bd3_s, bd4_s, Int.toNat_natCast, aP0, Nat.reduceAdd, Nat.zero_add, hp.2.2.2.2.2.1, hnone, if_true]
      rw [if_neg (by omega)]
      by_cases q : x < 0
      · rw [if_pos q, show (x + 1).toNat = 0 by omega]; rfl
      · rw [if_neg q, show (x + 1).toNat = x.toNat + 1 by omega, gfs, if_pos]
        unfold frB
        exact decide_eq_true hnone
    | succ c ih =>
      intro n x r hc hrc hn h1 h2
      obtain ⟨n, rfl⟩ : ∃ m, n = m + 1 := ⟨n - 1, by omega⟩
      have hfc := X_firstClash h (y := y) (s := x) (d := d) (but := -1) hy (by omega) hd (by omega)
      rw [f5_greatestFreeStart_L6, hfc]
      have hrg := ffi_rg (P := fun i b => decide ((i : Int) ≠ -1) && cf S b y x (x + d)) (l := P.2.2.2.2.2.1) (i := 0)
      have hfd : fcl S P.2.2.2.2.2.1 y x (x + d) (-1) = ffi (fun i b => decide ((i : Int) ≠ -1) && cf S b y x (x + d)) P.2.2.2.2.2.1 0 := rfl
      rw [← hfd] at hrg
      simp (disch := omega) only [ck_t, nrm_of, bd_s, bd2_s, bd3_s, bd4_s, Int.toNat_natCast, aP0, Nat.reduceAdd, Nat.zero_add, hp.2.2.2.2.2.1]
      rw [if_neg (by omega)]
      by_cases q : x < 0
      · rw [if_pos q, show (x + 1).toNat = 0 by omega]; rfl
      · rw [if_neg q]
        by_cases e : fcl S P.2.2.2.2.2.1 y x (x + d) (-1) = -1
        · rw [if_pos e, show (x + 1).toNat = x.toNat + 1 by omega, gfs, if_pos]
          unfold frB
          exact decide_eq_true e
        · rw [if_neg e]
          obtain ⟨i, hi⟩ : ∃ i : Nat, fcl S P.2.2.2.2.2.1 y x (x + d) (-1) = (i : Int) := ⟨(fcl S P.2.2.2.2.2.1 y x (x + d) (-1)).toNat, by omega⟩
          rw [hi] at hrg ⊢
          have hil : i < P.2.2.2.2.2.1.length := by omega
          obtain ⟨b, e1, e2, -⟩ := ffi_at (hfd.symm.trans hi)
          rw [Nat.sub_zero] at e1
          obtain ⟨-, g2, b3⟩ := h.b hil
          have heq := Option.some.inj (e1.symm.trans g2)
          subst heq
          have hcf : cf S (V 54 i, V 55 i, V 56 i, V 57 i) y x (x + d) = true := by simp at e2; exact e2
          have hF := (cf_iff h.2.2.2.1 b3 hd.1).mp hcf
          have hfr := FB_rg (y := y) h.2.2.2.1 b3 hd
          have e3 : (if V 55 i = y then some (1 : Int) else some 0) = some (if V 55 i = y then 1 else 0) := by split <;> rfl
          have hy2 : (if V 55 i = y then (1 : Int) else 0) = 0 ∨ (if V 55 i = y then (1 : Int) else 0) = 1 := by split <;> simp
          have hm := List.mem_of_getElem? g2
          unfold okB at b3
          simp only at b3 hfr
          obtain ⟨u1, u2, u3, u4, u5, u6, u7⟩ := b3
          have k1 := X_freeBefore h (s := V 56 i) (e := V 57 i) (y := if V 55 i = y then 1 else 0) (d := d) (by omega) (by omega) hy2 (by omega)
          have q1 : FBb S y d (V 54 i, V 55 i, V 56 i, V 57 i) = fbI S.1 S.2.1 (V 56 i) (V 57 i) (if V 55 i = y then 1 else 0) d := rfl
          rw [← q1] at k1
          simp (disch := omega) only [ck_t, nrm_of, bd_s, bd2_s, bd3_s, bd4_s, Int.toNat_natCast, aP0, Nat.reduceAdd, Nat.zero_add, e3, k1]
          have hlt := cnB_lt (S := S) (y := y) (d := d) (l := P.2.2.2.2.2.1) (x := x) (x' := FBb S y d (V 54 i, V 55 i, V 56 i, V 57 i)) (by omega) ⟨_, hm, hF.1, Int.le_refl _⟩
          have hI := ih n (FBb S y d (V 54 i, V 55 i, V 56 i, V 57 i)) (r + 1) (by omega) (by omega) (by omega) (by omega) (by omega)
          rw [Int.natCast_add, Int.natCast_one] at hI
          rw [hI]
          have hsk := gfs_skip (fr := frB S P.2.2.2.2.2.1 y d (-1)) (x - FBb S y d (V 54 i, V 55 i, V 56 i, V 57 i)).toNat x (fun t a b => by
            cases hc2 : frB S P.2.2.2.2.2.1 y d (-1) t with
            | false => rfl
            | true =>
              have z := frB_iff.mp hc2 i _ g2 (by omega)
              rw [(cf_iff h.2.2.2.1 (h.ok.2.2.2.1 _ hm) hd.1).mpr ⟨by omega, by omega⟩] at z
              exact absurd z (by decide))
          rw [show x - (((x - FBb S y d (V 54 i, V 55 i, V 56 i, V 57 i)).toNat : Nat) : Int) = FBb S y d (V 54 i, V 55 i, V 56 i, V 57 i) by omega] at hsk
          rw [hsk]
  have := key P.2.2.2.2.2.1.length FU la 0 cnB_le (by omega) (by have := FU_ge; omega) hla.1 hla.2
  rw [nc0] at this
  exact this
theorem M_latest {V : VV} {S : Su} {P : Pl} (h : MK V S P) {x y : Int} (hx : 0 ≤ x ∧ x < (S.2.2.length : Int)) (hy : y = 0 ∨ y = 1) : ∀ (k n : Nat) (s : Int), k + 1 ≤ n → -200 ≤ s → s ≤ 1200 → (s + 1).toNat = k → f6_latestStart_L66 V x y n s = some (gfs (frB S P.2.2.2.2.2.1 y (tr S P.1 x) (-1)) k s, V) := by
  have e3 : (if nrm y = 0 then some (0 : Int) else some 1) = some y := by rcases hy with e | e <;> subst e <;> decide +kernel
  intro k
  induction k with
  | zero =>
    intro n s hn h1 h2 h3
    obtain ⟨n, rfl⟩ : ∃ m, n = m + 1 := ⟨n - 1, by omega⟩
    rw [f6_latestStart_L66]
    simp (disch := omega) only [ck_t, nrm_of, bd_s, bd2_s, bd3_s, bd4_s, Int.toNat_natCast, aP0, Nat.reduceAdd, Nat.zero_add]
    rw [if_pos (by omega)]
    rfl
  | succ k ih =>
    intro n s hn h1 h2 h3
    obtain ⟨n, rfl⟩ : ∃ m, n = m + 1 := ⟨n - 1, by omega⟩
    have hc := M_conflicting h (x := x) (y := y) (s := s) (but := -1) hx hy (by omega) (by omega)
    have hrg := ffi_rg (P := fun i b => decide ((i : Int) ≠ -1) && cf S b y s (s + tr S P.1 x)) (l := P.2.2.2.2.2.1) (i := 0)
    have hr := h.ok.rg
    have hI := ih n (s + -1) (by omega) (by omega) (by omega) (by omega)
    rw [f6_latestStart_L66, e3]
    simp only [bd_s]
    rw [hc]
    unfold fcl
    simp (disch := omega) only [ck_t, nrm_of, bd_s, bd2_s, bd3_s, bd4_s, Int.toNat_natCast, aP0, Nat.reduceAdd, Nat.zero_add]
    rw [if_neg (by omega), gfs]
    unfold frB fcl
    by_cases q : ffi (fun i b => decide ((i : Int) ≠ -1) && cf S b y s (s + tr S P.1 x)) P.2.2.2.2.2.1 0 = -1
    · rw [if_pos q, if_pos (decide_eq_true q)]
    · rw [if_neg q, if_neg (by simpa using q), hI]
      rfl
/-- the start that serves a request -/
def sts (S : Su) (P : Pl) (x y e la : Int) : Int := if P.2.2.2.2.2.1.length = 20 then -1 else lfs (frB S P.2.2.2.2.2.1 y (tr S P.1 x) (-1)) (la - (if e ≤ P.2.1 then P.2.1 else e) + 1).toNat (if e ≤ P.2.1 then P.2.1 else e)
theorem X_startToServe {V : VV} {S : Su} {P : Pl} (h : CK V S P) {x y e la : Int} (hx : 0 ≤ x ∧ x < (S.2.2.length : Int)) (hy : y = 0 ∨ y = 1) (he : 0 ≤ e ∧ e ≤ 999) (hla : -1 ≤ la ∧ la ≤ 1200) : f5_startToServe V x y e la = some (sts S P x y e la) := by
  have hr := h.ok.rg
  have hp := h.pl
  obtain ⟨t1, t2, t3⟩ := X_transitOf h hx
  unfold f5_startToServe sts
  have e1 : (if nrm e ≤ nrm (V (aP 0) 1) then some (V (aP 0) 1) else some e) = some (if e ≤ P.2.1 then P.2.1 else e) := by
    simp (disch := omega) only [ck_t, nrm_of, bd_s, bd2_s, bd3_s, bd4_s, Int.toNat_natCast, aP0, Nat.reduceAdd, Nat.zero_add, hp.2.1]
    split <;> rfl
  rw [e1, t1]
  simp only [bd_s]
  rw [X_leastFreeStart h hy (by split <;> omega) hla ⟨t2, t3⟩ (by omega)]
  simp (disch := omega) only [ck_t, nrm_of, bd_s, bd2_s, bd3_s, bd4_s, Int.toNat_natCast, aP0, Nat.reduceAdd, Nat.zero_add, hp.2.2.2.2.2.1]
  by_cases c : P.2.2.2.2.2.1.length = 20
  · rw [if_pos (by omega), if_pos c]
  · rw [if_neg (by omega), if_neg c]
theorem M_servingMinute {V : VV} {S : Su} {P : Pl} (h : MK V S P) {x y e la : Int} (hx : 0 ≤ x ∧ x < (S.2.2.length : Int)) (hy : y = 0 ∨ y = 1) (he : 0 ≤ e ∧ e ≤ 999) (hla : -1 ≤ la ∧ la ≤ 1200) : f6_servingMinute V x y e la = some (sts S P x y e la) := by
  have hr := h.ok.rg
  have hp := h.pl
  unfold f6_servingMinute sts
  have e1 : (if nrm e ≤ nrm (V 149 3) then some (V 149 3) else some e) = some (if e ≤ P.2.1 then P.2.1 else e) := by
    simp (disch := omega) only [ck_t, nrm_of, bd_s, bd2_s, bd3_s, bd4_s, Int.toNat_natCast, aP0, Nat.reduceAdd, Nat.zero_add, hp.2.1]
    split <;> rfl
  rw [e1]
  simp only [bd_s]
  rw [M_earliest h hx hy (by split <;> omega) hla (by omega)]
  simp (disch := omega) only [ck_t, nrm_of, bd_s, bd2_s, bd3_s, bd4_s, Int.toNat_natCast, aP0, Nat.reduceAdd, Nat.zero_add, hp.2.2.2.2.2.1]
  by_cases c : P.2.2.2.2.2.1.length = 20
  · rw [if_pos (by omega), if_pos c]
  · rw [if_neg (by omega), if_neg c]
theorem sts_rg {S : Su} {P : Pl} {x y e la : Int} (h : okP S P) (he : 0 ≤ e ∧ e ≤ 999) (hla : la ≤ 999) : sts S P x y e la = -1 ∨ (0 ≤ sts S P x y e la ∧ sts S P x y e la ≤ 999 ∧ P.2.2.2.2.2.1.length < 20 ∧ frB S P.2.2.2.2.2.1 y (tr S P.1 x) (-1) (sts S P x y e la) = true ∧ P.2.1 ≤ sts S P x y e la) := by
  have hr := h.rg
  unfold sts
  by_cases c : P.2.2.2.2.2.1.length = 20
  · rw [if_pos c]; exact Or.inl rfl
  · rw [if_neg c]
    have hm : 0 ≤ (if e ≤ P.2.1 then P.2.1 else e) ∧ P.2.1 ≤ (if e ≤ P.2.1 then P.2.1 else e) ∧ (if e ≤ P.2.1 then P.2.1 else e) ≤ 1200 := by split <;> omega
    generalize (if e ≤ P.2.1 then P.2.1 else e) = m at *
    rcases lfs_rg (fr := frB S P.2.2.2.2.2.1 y (tr S P.1 x) (-1)) (k := (la - m + 1).toNat) (s := m) with q | ⟨q1, q2, q3⟩
    · exact Or.inl q
    · exact Or.inr ⟨by omega, by omega, by omega, q3, by omega⟩
/-- whether a booking can begin at another minute -/
theorem M_fitsAt {V : VV} {S : Su} {P : Pl} (h : MK V S P) {i : Nat} (hi : i < P.2.2.2.2.2.1.length) {s : Int} (hs : -5000 ≤ s ∧ s ≤ 5000) : f6_fitsAt V (i : Int) s = some (if frB S P.2.2.2.2.2.1 (V 149 (110 + 4 * i + 1)) (V 149 (110 + 4 * i + 3) - V 149 (110 + 4 * i + 2)) (i : Int) s = true then 1 else 0) := by
  have hr := h.ok.rg
  have hp := h.pl
  obtain ⟨-, -, b3⟩ := h.b hi
  unfold okB at b3
  simp only at b3
  obtain ⟨u1, u2, u3, u4, u5, u6, u7⟩ := b3
  have hdu : f6_durationOf V (i : Int) = some (V 149 (110 + 4 * i + 3) - V 149 (110 + 4 * i + 2)) := by
    unfold f6_durationOf
    rw [M_ofBooking (i := i) (y := 3) (j := 3) rfl rfl (by omega) (by omega), M_ofBooking (i := i) (y := 2) (j := 2) rfl rfl (by omega) (by omega)]
    rfl
  have key : ∀ (k n j : Nat), k + 1 ≤ n → P.2.2.2.2.2.1.length = j + k → f6_fitsAt_L2 V (i : Int) s n (j : Int) = some (if ffi (fun j b => decide ((j : Int) ≠ (i : Int)) && cf S b (V 149 (110 + 4 * i + 1)) s (s + (V 149 (110 + 4 * i + 3) - V 149 (110 + 4 * i + 2)))) (P.2.2.2.2.2.1.drop j) j = -1 then 1 else 0) := by
    intro k
    induction k with
    | zero =>
      intro n j hn hl
      obtain ⟨n, rfl⟩ : ∃ m, n = m + 1 := ⟨n - 1, by omega⟩
      rw [f6_fitsAt_L2, List.drop_eq_nil_of_le (by omega)]
      simp (disch := omega) only [ck_t, nrm_of, bd_s, bd2_s, bd3_s, bd4_s, Int.toNat_natCast, aP0, Nat.reduceAdd, Nat.zero_add, hp.2.2.2.2.2.1]
      rw [if_pos (by omega)]
      rfl
    | succ k ih =>
      intro n j hn hl
      obtain ⟨n, rfl⟩ : ∃ m, n = m + 1 := ⟨n - 1, by omega⟩
      have hj : j < P.2.2.2.2.2.1.length := by omega
      have hI := ih n (j + 1) (by omega) (by omega)
      rw [Int.natCast_add, Int.natCast_one] at hI
      rw [f6_fitsAt_L2, (h.b hj).1, ffi, hdu, M_ofBooking (i := i) (y := 1) (j := 1) rfl rfl (by omega) (by omega)]
      simp (disch := omega) only [ck_t, nrm_of, bd_s, bd2_s, bd3_s, bd4_s, Int.toNat_natCast, aP0, Nat.reduceAdd, Nat.zero_add, hp.2.2.2.2.2.1, M_conflictsWith h hj u3 hs (show -5000 ≤ s + (V 149 (110 + 4 * i + 3) - V 149 (110 + 4 * i + 2)) ∧ s + (V 149 (110 + 4 * i + 3) - V 149 (110 + 4 * i + 2)) ≤ 6000 by omega)]
      rw [if_neg (by omega)]
      by_cases c : (j : Int) = (i : Int)
      · rw [if_pos c, hI]
        simp only [c, ne_eq, not_true_eq_false, decide_false, Bool.false_and, Bool.false_eq_true, if_false]
      · rw [if_neg c]
        by_cases c2 : cf S (V 149 (110 + 4 * j), V 149 (110 + 4 * j + 1), V 149 (110 + 4 * j + 2), V 149 (110 + 4 * j + 3)) (V 149 (110 + 4 * i + 1)) s (s + (V 149 (110 + 4 * i + 3) - V 149 (110 + 4 * i + 2))) = true
        · simp (disch := omega) only [c2, if_true, nrm_of, c, ne_eq, not_false_eq_true, decide_true, Bool.true_and]
          rw [if_neg (by omega), if_neg (by omega)]
        · simp (disch := omega) only [c2, Bool.false_eq_true, if_false, nrm_of, if_true, eq_self, Bool.and_false]
          rw [hI]
  have := key P.2.2.2.2.2.1.length FU 0 (by have := FU_ge; omega) (by omega)
  rw [List.drop_zero, nc0] at this
  unfold f6_fitsAt
  rw [this]
  unfold frB fcl
  simp only [decide_eq_true_eq]
/-- why a booking can't be moved -/
def hnd (S : Su) (P : Pl) (i : Nat) (b : Bk) (s : Int) : Int := if b.2.2.1 ≤ P.2.1 then 1 else if s < P.2.1 then 2 else if frB S P.2.2.2.2.2.1 b.2.1 (b.2.2.2 - b.2.2.1) (i : Int) s = true then 0 else 3
theorem X_hindranceToMove {V : VV} {S : Su} {P : Pl} (h : CK V S P) {i : Nat} (hi : i < P.2.2.2.2.2.1.length) {s : Int} (hs : 0 ≤ s ∧ s ≤ 999) : f5_hindranceToMove V (i : Int) s = some (hnd S P i (V 54 i, V 55 i, V 56 i, V 57 i) s) := by
  have hr := h.ok.rg
  have hp := h.pl
  obtain ⟨-, -, b3⟩ := h.b hi
  unfold okB at b3
  simp only at b3
  obtain ⟨u1, u2, u3, u4, u5, u6, u7⟩ := b3
  have hrg := ffi_rg (P := fun j b => decide ((j : Int) ≠ (i : Int)) && cf S b (V 55 i) s (s + (V 57 i - V 56 i))) (l := P.2.2.2.2.2.1) (i := 0)
  unfold f5_hindranceToMove hnd frB
  simp (disch := omega) only [ck_t, nrm_of, bd_s, bd2_s, bd3_s, bd4_s, Int.toNat_natCast, aP0, Nat.reduceAdd, Nat.zero_add, hp.2.1, X_firstClash h u3 (show -5000 ≤ s ∧ s ≤ 5000 by omega) (show 1 ≤ V 57 i - V 56 i ∧ V 57 i - V 56 i ≤ 78 by omega) (show -1 ≤ (i : Int) ∧ (i : Int) ≤ 5000 by omega)]
  unfold fcl
  generalize ffi (fun j b => decide ((j : Int) ≠ (i : Int)) && cf S b (V 55 i) s (s + (V 57 i - V 56 i))) P.2.2.2.2.2.1 0 = z at *
  simp (disch := omega) only [nrm_of]
  by_cases c : V 56 i ≤ P.2.1
  · rw [if_neg (by omega), if_pos c]
  · rw [if_pos (by omega), if_neg c]
    by_cases c2 : s < P.2.1
    · rw [if_neg (by omega), if_pos c2]
    · rw [if_pos (by omega), if_neg c2]
      by_cases c3 : z = -1
      · rw [if_pos c3, if_pos (decide_eq_true c3)]
      · rw [if_neg c3, if_neg (by simpa using c3)]
theorem M_canCancel {V : VV} {S : Su} {P : Pl} (h : MK V S P) {i : Nat} (hi : i < P.2.2.2.2.2.1.length) : f6_canCancel V (i : Int) = some (if V 149 (110 + 4 * i + 2) ≤ P.2.1 then 0 else 1) := by
  have hr := h.ok.rg
  have hp := h.pl
  obtain ⟨-, -, b3⟩ := h.b hi
  unfold okB at b3
  simp only at b3
  unfold f6_canCancel
  rw [M_ofBooking (i := i) (y := 2) (j := 2) rfl rfl (by omega) (by omega)]
  simp (disch := omega) only [ck_t, nrm_of, bd_s, bd2_s, bd3_s, bd4_s, Int.toNat_natCast, aP0, Nat.reduceAdd, Nat.zero_add, hp.2.1]
  split <;> rfl
theorem M_movingReason {V : VV} {S : Su} {P : Pl} (h : MK V S P) {i : Nat} (hi : i < P.2.2.2.2.2.1.length) {s : Int} (hs : 0 ≤ s ∧ s ≤ 999) : f6_movingReason V (i : Int) s = some (hnd S P i (V 149 (110 + 4 * i), V 149 (110 + 4 * i + 1), V 149 (110 + 4 * i + 2), V 149 (110 + 4 * i + 3)) s) := by
  have hr := h.ok.rg
  have hp := h.pl
  unfold f6_movingReason hnd
  rw [M_canCancel h hi]
  by_cases c : V 149 (110 + 4 * i + 2) ≤ P.2.1
  · simp (disch := omega) only [ck_t, nrm_of, bd_s, bd2_s, bd3_s, bd4_s, Int.toNat_natCast, aP0, Nat.reduceAdd, Nat.zero_add, c, if_true]
  · simp (disch := omega) only [ck_t, nrm_of, bd_s, bd2_s, bd3_s, bd4_s, Int.toNat_natCast, aP0, Nat.reduceAdd, Nat.zero_add, c, if_false, hp.2.1, M_fitsAt h hi (show -5000 ≤ s ∧ s ≤ 5000 by omega)]
    rw [if_neg (by omega)]
    by_cases c2 : s < P.2.1
    · rw [if_neg (by omega), if_pos c2]
    · rw [if_pos (by omega), if_neg c2]
      split
      · rfl
      · rfl
