/-! copies of plans and blocks -/
theorem aP_ap {p q : Nat} (hp : p < 10) (hq : q < 10) (h : p ≠ q) : aP p + 9 ≤ aP q ∨ aP q + 9 ≤ aP p := by
  unfold aP
  split <;> split <;> omega
theorem X_L50 {p q : Nat} (hp : p < 10) (hap : aP p + 9 ≤ aP q ∨ aP q + 9 ≤ aP p) : ∀ (k n i : Nat) (V : VV), k + 1 ≤ n → V (aP p) 5 = ((i + k : Nat) : Int) → i + k ≤ 20 → (∀ t, t < i + k → (V (aP q + 2) t = 0 ∨ V (aP q + 2) t = 1)) →
    ∃ V' : VV, f1_copyFrom_L50 p q n (i : Int) V = some V' ∧ (∀ c, ¬ (aP p + 1 ≤ c ∧ c < aP p + 5) → V' c = V c) ∧ ∀ j, j < 4 → ∀ t, V' (aP p + 1 + j) t = if i ≤ t ∧ t < i + k then V (aP q + 1 + j) t else V (aP p + 1 + j) t := by
  intro k
  induction k with
  | zero =>
    intro n i V hn hc hl hz
    obtain ⟨n, rfl⟩ : ∃ m, n = m + 1 := ⟨n - 1, by omega⟩
    refine ⟨V, ?_, fun _ _ => rfl, fun j _ t => by rw [if_neg (by omega)]⟩
    rw [f1_copyFrom_L50]
    simp (disch := omega) only [ck_t, nrm_of, bd_s, bd2_s, bd3_s, bd4_s, Int.toNat_natCast, aP0, Nat.reduceAdd, Nat.zero_add, hc]
    rw [if_pos (by omega)]
  | succ k ih =>
    intro n i V hn hc hl hz
    obtain ⟨n, rfl⟩ : ∃ m, n = m + 1 := ⟨n - 1, by omega⟩
    rw [f1_copyFrom_L50]
    simp (disch := omega) only [ck_t, nrm_of, bd_s, bd2_s, bd3_s, bd4_s, Int.toNat_natCast, aP0, Nat.reduceAdd, Nat.zero_add, hc]
    rw [if_neg (by omega), X_putBooking hp (i := i) rfl (by omega) (hz i (by omega))]
    simp only [bd_s]
    obtain ⟨V', g1, g2, g3⟩ := ih n (i + 1) (pB V (aP p + 1) i (V (aP q + 1) i) (V (aP q + 2) i) (V (aP q + 3) i) (V (aP q + 4) i)) (by omega) (by rw [pB_k (by omega), hc]; omega) (by omega) (fun t ht => by
      rw [pB_k (by omega)]
      exact hz t (by omega))
    rw [Int.natCast_add, Int.natCast_one] at g1
    refine ⟨V', g1, fun c hc => by rw [g2 c hc, pB_k (by omega)], fun j hj t => ?_⟩
    rw [g3 j hj t]
    by_cases e : t = i
    · subst e
      rw [if_neg (by omega), if_pos (by omega)]
      have : j = 0 ∨ j = 1 ∨ j = 2 ∨ j = 3 := by omega
      rcases this with e | e | e | e <;> subst e
      · exact pB_0
      · exact pB_1
      · exact pB_2
      · exact pB_3
    · by_cases e2 : i + 1 ≤ t ∧ t < i + 1 + k
      · rw [if_pos e2, if_pos (by omega), pB_n e]
      · rw [if_neg e2, if_neg (by omega), pB_n e]
theorem X_L103 {p q : Nat} (hp : p < 10) (hap : aP p + 9 ≤ aP q ∨ aP q + 9 ≤ aP p) : ∀ (k n i : Nat) (V : VV), k + 1 ≤ n → V (aP p) 10 = ((i + k : Nat) : Int) → i + k ≤ 8 → (∀ t, t < i + k → (V (aP q + 6) t = 0 ∨ V (aP q + 6) t = 1)) →
    ∃ V' : VV, f1_copyFrom_L103 p q n (i : Int) V = some V' ∧ (∀ c, ¬ (aP p + 5 ≤ c ∧ c < aP p + 9) → V' c = V c) ∧ ∀ j, j < 4 → ∀ t, V' (aP p + 5 + j) t = if i ≤ t ∧ t < i + k then V (aP q + 5 + j) t else V (aP p + 5 + j) t := by
  intro k
  induction k with
  | zero =>
    intro n i V hn hc hl hz
    obtain ⟨n, rfl⟩ : ∃ m, n = m + 1 := ⟨n - 1, by omega⟩
    refine ⟨V, ?_, fun _ _ => rfl, fun j _ t => by rw [if_neg (by omega)]⟩
    rw [f1_copyFrom_L103]
    simp (disch := omega) only [ck_t, nrm_of, bd_s, bd2_s, bd3_s, bd4_s, Int.toNat_natCast, aP0, Nat.reduceAdd, Nat.zero_add, hc]
    rw [if_pos (by omega)]
  | succ k ih =>
    intro n i V hn hc hl hz
    obtain ⟨n, rfl⟩ : ∃ m, n = m + 1 := ⟨n - 1, by omega⟩
    rw [f1_copyFrom_L103]
    simp (disch := omega) only [ck_t, nrm_of, bd_s, bd2_s, bd3_s, bd4_s, Int.toNat_natCast, aP0, Nat.reduceAdd, Nat.zero_add, hc]
    rw [if_neg (by omega), X_putRequest hp (i := i) rfl (by omega) (hz i (by omega))]
    simp only [bd_s]
    obtain ⟨V', g1, g2, g3⟩ := ih n (i + 1) (pB V (aP p + 5) i (V (aP q + 5) i) (V (aP q + 6) i) (V (aP q + 7) i) (V (aP q + 8) i)) (by omega) (by rw [pB_k (by omega), hc]; omega) (by omega) (fun t ht => by
      rw [pB_k (by omega)]
      exact hz t (by omega))
    rw [Int.natCast_add, Int.natCast_one] at g1
    refine ⟨V', g1, fun c hc => by rw [g2 c hc, pB_k (by omega)], fun j hj t => ?_⟩
    rw [g3 j hj t]
    by_cases e : t = i
    · subst e
      rw [if_neg (by omega), if_pos (by omega)]
      have : j = 0 ∨ j = 1 ∨ j = 2 ∨ j = 3 := by omega
      rcases this with e | e | e | e <;> subst e
      · exact pB_0
      · exact pB_1
      · exact pB_2
      · exact pB_3
    · by_cases e2 : i + 1 ≤ t ∧ t < i + 1 + k
      · rw [if_pos e2, if_pos (by omega), pB_n e]
      · rw [if_neg e2, if_neg (by omega), pB_n e]
theorem X_copyFrom {V : VV} {P : Pl} {p q : Nat} (hp : p < 10) (hq : q < 10) (hne : p ≠ q) (h : rpC V (aP q) P) (hn : P.2.2.2.2.2.1.length ≤ 20) (hn2 : P.2.2.2.2.2.2.length ≤ 8) (hb : ∀ b ∈ P.2.2.2.2.2.1, (b.2.1 = 0 ∨ b.2.1 = 1)) (hb2 : ∀ b ∈ P.2.2.2.2.2.2, (b.2.1 = 0 ∨ b.2.1 = 1)) :
    ∃ V' : VV, f1_copyFrom V p q = some V' ∧ (∀ c, ¬ (aP p ≤ c ∧ c < aP p + 9) → V' c = V c) ∧ rpC V' (aP p) P := by
  have hap := aP_ap hp hq hne
  obtain ⟨s0, s1, s2, s3, s4, s5, s6⟩ := rpC_s h
  have hvb := rpC_b h
  have hvr := rpC_r h
  have zb : ∀ t, t < P.2.2.2.2.2.1.length → (V (aP q + 2) t = 0 ∨ V (aP q + 2) t = 1) := fun t ht => by
    have := vw_mem (F := fun j i => V (aP q + 1 + j) i) ht
    rw [← hvb] at this
    exact hb _ this
  have zr : ∀ t, t < P.2.2.2.2.2.2.length → (V (aP q + 6) t = 0 ∨ V (aP q + 6) t = 1) := fun t ht => by
    have := vw_mem (F := fun j i => V (aP q + 5 + j) i) ht
    rw [← hvr] at this
    exact hb2 _ this
  unfold f1_copyFrom
  rw [ck_t hp, ck_t hq]
  simp (disch := omega) only [up2_n]
  obtain ⟨V6, e6⟩ : ∃ W : VV, W = up2 (up2 (up2 (up2 (up2 (up2 V (aP p) 0 (V (aP q) 0)) (aP p) 1 (V (aP q) 1)) (aP p) 2 (V (aP q) 2)) (aP p) 3 (V (aP q) 3)) (aP p) 4 (V (aP q) 4)) (aP p) 5 (V (aP q) 5) := ⟨_, rfl⟩
  rw [← e6]
  have k6 : ∀ c, c ≠ aP p → V6 c = V c := fun c hc => by rw [e6, up2_r hc, up2_r hc, up2_r hc, up2_r hc, up2_r hc, up2_r hc]
  have f5 : V6 (aP p) 5 = V (aP q) 5 := by rw [e6, up2_s]
  have f4 : V6 (aP p) 4 = V (aP q) 4 := by rw [e6, up2_n (by omega), up2_s]
  have f3 : V6 (aP p) 3 = V (aP q) 3 := by rw [e6, up2_n (by omega), up2_n (by omega), up2_s]
  have f2 : V6 (aP p) 2 = V (aP q) 2 := by rw [e6, up2_n (by omega), up2_n (by omega), up2_n (by omega), up2_s]
  have f1 : V6 (aP p) 1 = V (aP q) 1 := by rw [e6, up2_n (by omega), up2_n (by omega), up2_n (by omega), up2_n (by omega), up2_s]
  have f0 : V6 (aP p) 0 = V (aP q) 0 := by rw [e6, up2_n (by omega), up2_n (by omega), up2_n (by omega), up2_n (by omega), up2_n (by omega), up2_s]
  obtain ⟨V7, g1, g2, g3⟩ := X_L50 (p := p) (q := q) hp hap P.2.2.2.2.2.1.length FU 0 V6 (by have := FU_ge; omega) (by rw [f5, s5]; omega) (by omega) (fun t ht => by rw [k6 _ (by omega)]; exact zb t (by omega))
  rw [nc0] at g1
  rw [g1]
  simp only [bd_s]
  have e10 : V7 (aP q) 10 = V (aP q) 10 := by rw [g2 _ (by omega), k6 _ (by omega)]
  rw [e10]
  obtain ⟨V8, q1, q2, q3⟩ := X_L103 (p := p) (q := q) hp hap P.2.2.2.2.2.2.length FU 0 (up2 V7 (aP p) 10 (V (aP q) 10)) (by have := FU_ge; omega) (by rw [up2_s, s6]; omega) (by omega) (fun t ht => by rw [up2_r (by omega), g2 _ (by omega), k6 _ (by omega)]; exact zr t (by omega))
  rw [nc0] at q1
  rw [q1]
  have hs : ∀ j, j ≠ 10 → V8 (aP p) j = V6 (aP p) j := fun j hj => by rw [q2 _ (by omega), up2_n (by omega), g2 _ (by omega)]
  refine ⟨V8, rfl, fun c hc => ?_, ?_⟩
  · rw [q2 c (by omega), up2_r (by omega), g2 c (by omega), k6 c (by omega)]
  · show rpC V8 (aP p) (P.1, P.2.1, P.2.2.1, P.2.2.2.1, P.2.2.2.2.1, P.2.2.2.2.2.1, P.2.2.2.2.2.2)
    refine rpC_mk ?_ ?_ ?_ ?_ ?_ ?_ ?_ ?_ ?_
    · rw [hs 0 (by omega), f0, s0]
    · rw [hs 1 (by omega), f1, s1]
    · rw [hs 2 (by omega), f2, s2]
    · rw [hs 3 (by omega), f3, s3]
    · rw [hs 4 (by omega), f4, s4]
    · rw [hs 5 (by omega), f5, s5]
    · rw [q2 _ (by omega), up2_s, s6]
    · refine (vw_congr (fun t ht => ?_)).trans hvb.symm
      have hz : ∀ j, j < 4 → V8 (aP p + 1 + j) t = V (aP q + 1 + j) t := fun j hj => by
        rw [q2 _ (by omega), up2_r (by omega), g3 j hj t, if_pos (by omega), k6 _ (by omega)]
      exact ⟨hz 0 (by omega), hz 1 (by omega), hz 2 (by omega), hz 3 (by omega)⟩
    · refine (vw_congr (fun t ht => ?_)).trans hvr.symm
      have hz : ∀ j, j < 4 → V8 (aP p + 5 + j) t = V (aP q + 5 + j) t := fun j hj => by
        rw [q3 j hj t, if_pos (by omega), up2_r (by omega), g2 _ (by omega), k6 _ (by omega)]
      exact ⟨hz 0 (by omega), hz 1 (by omega), hz 2 (by omega), hz 3 (by omega)⟩
theorem X_copyP {V : VV} {S : Su} {P : Pl} {p q : Nat} (hp : p < 10) (hq : q < 10) (hne : p ≠ q) (h : rpC V (aP q) P) (ho : okP S P) : ∃ V' : VV, f1_copyFrom V p q = some V' ∧ (∀ c, ¬ (aP p ≤ c ∧ c < aP p + 9) → V' c = V c) ∧ rpC V' (aP p) P :=
  X_copyFrom hp hq hne h ho.rg.2.2.1 ho.rg.2.2.2 (fun b hb => (ho.bz b hb).1) (fun b hb => (ho.2.2.2.2.1 b hb).2.2.1)
/-- a block's plan and setup, in another block -/
theorem cp_at {V V' : VV} {a b x y : Nat} (he : ∀ t, t < 230 → V' 149 (b + t) = V 149 (a + t)) (t : Nat) (ht : t < 230) (hx : x = b + t) (hy : y = a + t) : V' 149 x = V 149 y := by
  rw [hx, hy]; exact he t ht
