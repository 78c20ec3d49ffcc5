/-! the greatest free start, the slack, the start that serves -/
def gfs (fr : Int → Bool) : Nat → Int → Int
  | 0, _ => -1
  | k + 1, s => if fr s = true then s else gfs fr k (s - 1)
theorem gfs_skip {fr : Int → Bool} : ∀ (m : Nat) (s : Int), (∀ t, s - m < t → t ≤ s → fr t = false) → gfs fr (s + 1).toNat s = gfs fr (s - m + 1).toNat (s - m) := by
  intro m
  induction m with
  | zero => intro s _; simp
  | succ m ih =>
    intro s h
    have h1 := ih (s - 1) (fun t a b => h t (by omega) (by omega))
    have e1 : s - 1 - (m : Int) = s - ((m + 1 : Nat) : Int) := by omega
    rw [e1] at h1
    rw [← h1]
    by_cases c : s < 0
    · have a : (s + 1).toNat = 0 := by omega
      have b : (s - 1 + 1).toNat = 0 := by omega
      rw [a, b]; rfl
    · have a : (s + 1).toNat = (s - 1 + 1).toNat + 1 := by omega
      rw [a, gfs, if_neg (by rw [h s (by omega) (by omega)]; decide)]
/-- how many bookings begin to forbid ahead of x -/
def cnB (S : Su) (y d : Int) : List Bk → Int → Nat
  | [], _ => 0
  | b :: l, x => (if FBb S y d b < x then 1 else 0) + cnB S y d l x
theorem cnB_le {S : Su} {y d : Int} {l : List Bk} {x : Int} : cnB S y d l x ≤ l.length := by
  induction l with
  | nil => exact Nat.le_refl _
  | cons b l ih => rw [cnB, List.length_cons]; split <;> omega
theorem cnB_mono {S : Su} {y d : Int} {l : List Bk} {x x' : Int} (h : x' ≤ x) : cnB S y d l x' ≤ cnB S y d l x := by
  induction l with
  | nil => exact Nat.le_refl _
  | cons b l ih =>
    rw [cnB, cnB]
    by_cases q : FBb S y d b < x'
    · rw [if_pos q, if_pos (by omega)]; omega
    · rw [if_neg q]; split <;> omega
theorem cnB_lt {S : Su} {y d : Int} {l : List Bk} {x x' : Int} (h : x' ≤ x) (hb : ∃ b ∈ l, FBb S y d b < x ∧ x' ≤ FBb S y d b) : cnB S y d l x' < cnB S y d l x := by
  induction l with
  | nil => obtain ⟨b, hb, -⟩ := hb; exact absurd hb List.not_mem_nil
  | cons c l ih =>
    rw [cnB, cnB]
    obtain ⟨b, hm, h1, h2⟩ := hb
    rcases List.mem_cons.mp hm with e | e
    · subst e
      have := cnB_mono (S := S) (y := y) (d := d) (l := l) h
      rw [if_neg (by omega), if_pos h1]; omega
    · have := ih ⟨b, e, h1, h2⟩
      by_cases q : FBb S y d c < x'
      · rw [if_pos q, if_pos (by omega)]; omega
      · rw [if_neg q]; split <;> omega
/-- the start that serves a request -/
def sts (S : Su) (P : Pl) (x y e la : Int) : Int := if P.2.2.2.2.2.1.length = 20 then -1 else lfs (frB S P.2.2.2.2.2.1 y (tr S P.1 x) (-1)) (la - (if e ≤ P.2.1 then P.2.1 else e) + 1).toNat (if e ≤ P.2.1 then P.2.1 else e)
theorem X_startToServe {V : VV} {S : Su} {P : Pl} (h : CK V S P) {x y e la : Int} (hx : 0 ≤ x ∧ x < (S.2.2.length : Int)) (hy : y = 0 ∨ y = 1) (he : 0 ≤ e ∧ e ≤ 999) (hla : -1 ≤ la ∧ la ≤ 1200) : f5_startToServe V x y e la = some (sts S P x y e la) := by
  have hr := h.ok.rg
  have hp := h.pl
  obtain ⟨t1, t2, t3⟩ := X_transitOf h hx
  unfold f5_startToServe sts
  have e1 : (if nrm e ≤ nrm (V (aP 0) 1) then some (V (aP 0) 1) else some e) = some (if e ≤ P.2.1 then P.2.1 else e) := by
    simp (disch := omega) only [ck_t, nrm_of, bd_s, bd2_s, bd3_s, bd4_s, Int.toNat_natCast, aP0, Nat.reduceAdd, Nat.zero_add, hp.2.1]
    split <;> rfl
  rw [e1, t1]
  simp only [bd_s]
  rw [X_leastFreeStart h hy (by split <;> omega) hla ⟨t2, t3⟩ (by omega)]
  simp (disch := omega) only [ck_t, nrm_of, bd_s, bd2_s, bd3_s, bd4_s, Int.toNat_natCast, aP0, Nat.reduceAdd, Nat.zero_add, hp.2.2.2.2.2.1]
  by_cases c : P.2.2.2.2.2.1.length = 20
  · rw [if_pos (by omega), if_pos c]
  · rw [if_neg (by omega), if_neg c]
theorem sts_rg {S : Su} {P : Pl} {x y e la : Int} (h : okP S P) (he : 0 ≤ e ∧ e ≤ 999) (hla : la ≤ 999) : sts S P x y e la = -1 ∨ (0 ≤ sts S P x y e la ∧ sts S P x y e la ≤ 999 ∧ P.2.2.2.2.2.1.length < 20 ∧ frB S P.2.2.2.2.2.1 y (tr S P.1 x) (-1) (sts S P x y e la) = true ∧ P.2.1 ≤ sts S P x y e la) := by
  have hr := h.rg
  unfold sts
  by_cases c : P.2.2.2.2.2.1.length = 20
  · rw [if_pos c]; exact Or.inl rfl
  · rw [if_neg c]
    have hm : 0 ≤ (if e ≤ P.2.1 then P.2.1 else e) ∧ P.2.1 ≤ (if e ≤ P.2.1 then P.2.1 else e) ∧ (if e ≤ P.2.1 then P.2.1 else e) ≤ 1200 := by split <;> omega
    generalize (if e ≤ P.2.1 then P.2.1 else e) = m at *
    rcases lfs_rg (fr := frB S P.2.2.2.2.2.1 y (tr S P.1 x) (-1)) (k := (la - m + 1).toNat) (s := m) with q | ⟨q1, q2, q3⟩
    · exact Or.inl q
    · exact Or.inr ⟨by omega, by omega, by omega, q3, by omega⟩
/-- why a booking can't be moved -/
def hnd (S : Su) (P : Pl) (i : Nat) (b : Bk) (s : Int) : Int := if b.2.2.1 ≤ P.2.1 then 1 else if s < P.2.1 then 2 else if frB S P.2.2.2.2.2.1 b.2.1 (b.2.2.2 - b.2.2.1) (i : Int) s = true then 0 else 3
