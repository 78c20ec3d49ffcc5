/-! the best selection -/
theorem X_w {V : VV} {S : Su} {P : Pl} (h : CK V S P) {x : Int} (hx : isSp S x) : V (aS (V 0 2).toNat + (2 + 2 * x.toNat)) 4 = wt S x := by
  obtain ⟨t, e1, e2, k1, k2, k3, k4, k5⟩ := h.s (i := x.toNat) (by have := hx.2; omega)
  unfold wt
  rw [k4, e1]
theorem M_w {V : VV} {S : Su} {P : Pl} (h : MK V S P) {x : Int} (hx : isSp S x) : f6_ofShip V x 9 = some (wt S x) := by
  have hs := h.su
  obtain ⟨t, e1, e2, k1, k2, k3, k4, k5⟩ := h.s (i := x.toNat) (by have := hx.2; omega)
  unfold wt
  rw [M_ofShip (i := x.toNat) (y := 9) (j := 9) (by have := hx.1; omega) rfl (by have := hx.2; omega) (by omega), k4, e1]
theorem X_bitOf {V : VV} {S : Su} {P : Pl} (h : CK V S P) {i : Nat} (hi : i < P.2.2.2.2.2.2.length) : f5_bitOf V (i : Int) = some (lI 1 ((P.2.2.2.2.2.2.length - 1 - i : Nat) : Int)) := by
  unfold f5_bitOf
  rw [aP0, h.pl.2.2.2.2.2.2]
  congr 2
  omega
theorem X_mem {V : VV} {S : Su} {P : Pl} (h : CK V S P) {i t : Nat} (hi : i < P.2.2.2.2.2.2.length) : (nrm (aI (t : Int) (lI 1 ((P.2.2.2.2.2.2.length - 1 - i : Nat) : Int))) = 0) ↔ mX P.2.2.2.2.2.2.length t i = false := bitX (by have := h.ok.rg.2.2.2; omega)
theorem X_valueOf {V : VV} {S : Su} {P : Pl} (h : CK V S P) {t : Nat} : f5_valueOf V (t : Int) = some (vlX S P t) := by
  have hr := h.ok.rg
  have hp := h.pl
  have hs := h.su
  have hq := h.2.2.1
  have key : ∀ (k n i : Nat) (a : Int), k + 1 ≤ n → P.2.2.2.2.2.2.length = i + k → f5_valueOf_L4 V (t : Int) n a (i : Int) = some (a + vlP S P (mX P.2.2.2.2.2.2.length t) k i) := by
    intro k
    induction k with
    | zero =>
      intro n i a hn hl
      obtain ⟨n, rfl⟩ : ∃ m, n = m + 1 := ⟨n - 1, by omega⟩
      rw [f5_valueOf_L4, aP0, hp.2.2.2.2.2.2, nrm_of (by omega) (by omega), nrm_of (by omega) (by omega), if_pos (by omega), vlP, Int.add_zero]
    | succ k ih =>
      intro n i a hn hl
      obtain ⟨n, rfl⟩ : ∃ m, n = m + 1 := ⟨n - 1, by omega⟩
      have hi : i < P.2.2.2.2.2.2.length := by omega
      have hI := fun a => ih n (i + 1) a (by omega) (by omega)
      simp only [Int.natCast_add, Int.natCast_one] at hI
      obtain ⟨-, -, b3⟩ := h.r hi
      obtain ⟨u1, u2, u3, u4, u5, u6⟩ := b3
      simp only at u1 u2
      have hw := X_w h (x := V 58 i) ⟨u1, u2⟩
      rw [f5_valueOf_L4, aP0, hp.2.2.2.2.2.2, nrm_of (by omega) (by omega), nrm_of (by omega) (by omega), if_neg (by omega), X_bitOf h hi, bd_s, vlP, rqq_x h hi]
      by_cases c : mX P.2.2.2.2.2.2.length t i = false
      · rw [if_pos ((X_mem h hi).mpr c), hI, c]
        simp
      · have c2 : mX P.2.2.2.2.2.2.length t i = true := by cases z : mX P.2.2.2.2.2.2.length t i <;> simp_all
        rw [if_neg (fun z => c ((X_mem h hi).mp z)), ck_t hq, Int.toNat_natCast, ck_t (by omega)]
        simp only [Nat.reduceAdd]
        rw [ck_t (by omega), hw, hI, if_pos c2, Int.add_assoc]
  have h0 := key P.2.2.2.2.2.2.length FU 0 0 (by have := FU_ge; omega) (by omega)
  rw [nc0, Int.zero_add] at h0
  unfold f5_valueOf
  rw [h0]
  rfl
abbrev vlM (S : Su) (P : Pl) (s : Nat) : Int := vlP S P (fun i => s.testBit i) P.2.2.2.2.2.2.length 0
abbrev seM (S : Su) (P : Pl) (s : Nat) : Prop := selB S P (fun i => s.testBit i)
theorem M_mem {s k : Nat} (hs : s < 256) (hk : k < 8) : (nrm (aI (sI (s : Int) (k : Int)) 1) = nrm 1 ↔ s.testBit k = true) ∧ (nrm (aI (sI (s : Int) (k : Int)) 1) = 0 ↔ s.testBit k = false) := by
  rw [bitM hs hk]
  cases s.testBit k
  · simp only [Bool.false_eq_true, if_false]; decide +kernel
  · simp only [if_true]; decide +kernel
theorem M_valueOf {V : VV} {S : Su} {P : Pl} (h : MK V S P) {s : Nat} (hs : s < 256) : f6_valueOf V (s : Int) = some (vlM S P s) := by
  have hr := h.ok.rg
  have hp := h.pl
  have hsu := h.su
  have key : ∀ (k n i : Nat) (a : Int), k + 1 ≤ n → P.2.2.2.2.2.2.length = i + k → f6_valueOf_L4 V (s : Int) n a (i : Int) = some (a + vlP S P (fun i => s.testBit i) k i) := by
    intro k
    induction k with
    | zero =>
      intro n i a hn hl
      obtain ⟨n, rfl⟩ : ∃ m, n = m + 1 := ⟨n - 1, by omega⟩
      rw [f6_valueOf_L4, hp.2.2.2.2.2.2, nrm_of (by omega) (by omega), nrm_of (by omega) (by omega), if_pos (by omega), vlP, Int.add_zero]
    | succ k ih =>
      intro n i a hn hl
      obtain ⟨n, rfl⟩ : ∃ m, n = m + 1 := ⟨n - 1, by omega⟩
      have hi : i < P.2.2.2.2.2.2.length := by omega
      have hI := fun a => ih n (i + 1) a (by omega) (by omega)
      simp only [Int.natCast_add, Int.natCast_one] at hI
      obtain ⟨-, -, b3⟩ := h.r hi
      obtain ⟨u1, u2, u3, u4, u5, u6⟩ := b3
      simp only at u1 u2
      have hw := M_w h (x := V 149 (194 + 4 * i)) ⟨u1, u2⟩
      have hb := (M_mem hs (show i < 8 by omega)).1
      rw [f6_valueOf_L4, hp.2.2.2.2.2.2, nrm_of (by omega) (by omega), nrm_of (by omega) (by omega), if_neg (by omega), vlP, rqq_m h hi]
      by_cases c : s.testBit i = true
      · rw [if_pos (hb.mpr c), M_ofRequest (i := i) (y := 0) (j := 0) rfl rfl (by omega) (by omega), bd_s, Nat.add_zero, hw, bd_s, hI, if_pos c, Int.add_assoc]
      · rw [if_neg (fun z => c (hb.mp z)), hI, if_neg c, Int.add_zero, Int.zero_add]
  have h0 := key P.2.2.2.2.2.2.length FU 0 0 (by have := FU_ge; omega) (by omega)
  rw [nc0, Int.zero_add] at h0
  unfold f6_valueOf
  rw [h0]
  rfl
/-- two requests: do they clash -/
theorem X_requestsClash {V : VV} {S : Su} {P : Pl} (h : CK V S P) {i j : Nat} (hi : i < P.2.2.2.2.2.2.length) (hj : j < P.2.2.2.2.2.2.length) : f5_requestsClash V (i : Int) (j : Int) = some (if rcf S P i j = true then 1 else 0) := by
  have hr := h.ok.rg
  have hs := h.su
  obtain ⟨-, -, b3⟩ := h.r hi
  obtain ⟨u1, u2, u3, u4, u5, u6⟩ := b3
  obtain ⟨-, -, c3⟩ := h.r hj
  obtain ⟨w1, w2, w3, w4, w5, w6⟩ := c3
  simp only at u1 u2 u3 u4 u5 u6 w1 w2 w3 w4 w5 w6
  obtain ⟨t1, t2, t3⟩ := X_transitOf h (x := V 58 i) ⟨u1, u2⟩
  obtain ⟨r1, r2, r3⟩ := X_transitOf h (x := V 58 j) ⟨w1, w2⟩
  have hc := conf_iff (hw := S.1) (cl := S.2.1) (i1 := V 59 i) (s1 := V 60 i) (e1 := V 60 i + tr S P.1 (V 58 i)) (i2 := V 59 j) (s := V 60 j) (d := tr S P.1 (V 58 j)) hs.2.2.2.1 hs.2.2.2.2.1 (by omega) r2
  have hrc : (rcf S P i j = true) ↔ (fbI S.1 S.2.1 (V 60 i) (V 60 i + tr S P.1 (V 58 i)) (if V 59 i = V 59 j then 1 else 0) (tr S P.1 (V 58 j)) < V 60 j ∧ V 60 j < faI S.1 S.2.1 (V 60 i) (V 60 i + tr S P.1 (V 58 i)) (if V 59 i = V 59 j then 1 else 0) (tr S P.1 (V 58 j))) := by
    unfold rcf
    rw [rqq_x h hi, rqq_x h hj, decide_eq_true_eq]
    exact hc
  unfold f5_requestsClash
  rw [ck_t (by omega), ck_t (by omega), Int.toNat_natCast, Int.toNat_natCast, aP0]
  simp only [Nat.reduceAdd]
  rw [t1, r1]
  have hy : (if V 59 i = V 59 j then (1 : Int) else 0) = 0 ∨ (if V 59 i = V 59 j then (1 : Int) else 0) = 1 := by split <;> simp
  have e4 : (if nrm (V 59 i) = nrm (V 59 j) then some (1 : Int) else some 0) = some (if V 59 i = V 59 j then 1 else 0) := by
    rw [nrm_of (by omega) (by omega), nrm_of (by omega) (by omega)]
    split <;> rfl
  rw [e4]
  simp only [bd_q]
  have b1 := fbI_rg (hw := S.1) (cl := S.2.1) (s := V 60 i) (e := V 60 i + tr S P.1 (V 58 i)) (y := if V 59 i = V 59 j then 1 else 0) (d := tr S P.1 (V 58 j)) hs.2.2.2.1 hs.2.2.2.2.1 (by omega) ⟨r2, r3⟩
  have b2 := faI_rg (hw := S.1) (cl := S.2.1) (s := V 60 i) (e := V 60 i + tr S P.1 (V 58 i)) (y := if V 59 i = V 59 j then 1 else 0) (d := tr S P.1 (V 58 j)) hs.2.2.2.1 hs.2.2.2.2.1 (by omega) ⟨r2, r3⟩
  rw [X_freeBefore h (by omega) (by omega) hy (by omega), X_freeAfter h (by omega) (by omega) hy (by omega)]
  generalize fbI S.1 S.2.1 (V 60 i) (V 60 i + tr S P.1 (V 58 i)) (if V 59 i = V 59 j then 1 else 0) (tr S P.1 (V 58 j)) = x at *
  generalize faI S.1 S.2.1 (V 60 i) (V 60 i + tr S P.1 (V 58 i)) (if V 59 i = V 59 j then 1 else 0) (tr S P.1 (V 58 j)) = y at *
  simp only [bd_q]
  rw [nrm_of (by omega) (by omega), nrm_of (by omega) (by omega), nrm_of (by omega) (by omega)]
  by_cases c1 : V 60 j ≤ x
  · rw [if_pos c1, if_neg (fun z => by have := hrc.mp z; omega)]
  · rw [if_neg c1]
    by_cases c2 : y ≤ V 60 j
    · rw [if_pos c2, if_neg (fun z => by have := hrc.mp z; omega)]
    · rw [if_neg c2, if_pos (hrc.mpr (by omega))]
theorem M_areCompatible {V : VV} {S : Su} {P : Pl} (h : MK V S P) {i j : Nat} (hi : i < P.2.2.2.2.2.2.length) (hj : j < P.2.2.2.2.2.2.length) : f6_areCompatible V (i : Int) (j : Int) = some (if rcf S P i j = true then 0 else 1) := by
  have hr := h.ok.rg
  obtain ⟨-, -, b3⟩ := h.r hi
  obtain ⟨u1, u2, u3, u4, u5, u6⟩ := b3
  obtain ⟨-, -, c3⟩ := h.r hj
  obtain ⟨w1, w2, w3, w4, w5, w6⟩ := c3
  simp only at u1 u2 u3 u4 u5 u6 w1 w2 w3 w4 w5 w6
  obtain ⟨t1, t2, t3⟩ := M_transit h (x := V 149 (194 + 4 * i)) ⟨u1, u2⟩
  obtain ⟨r1, r2, r3⟩ := M_transit h (x := V 149 (194 + 4 * j)) ⟨w1, w2⟩
  unfold f6_areCompatible
  rw [M_ofRequest (i := i) (y := 2) (j := 2) rfl rfl (by omega) (by omega), bd_s, M_ofRequest (i := j) (y := 2) (j := 2) rfl rfl (by omega) (by omega), bd_s, M_ofRequest (i := i) (y := 0) (j := 0) rfl rfl (by omega) (by omega), bd_s, Nat.add_zero, t1, bd_s, M_ofRequest (i := j) (y := 0) (j := 0) rfl rfl (by omega) (by omega), bd_s, Nat.add_zero, r1, bd_s, M_ofRequest (i := i) (y := 1) (j := 1) rfl rfl (by omega) (by omega), bd_s, M_ofRequest (i := j) (y := 1) (j := 1) rfl rfl (by omega) (by omega), bd_s, M_conflict h u3 w3 (by omega) (by omega) (by omega) (by omega), bd_s]
  unfold rcf
  rw [rqq_m h hi, rqq_m h hj]
  simp only [decide_eq_true_eq]
  rw [n_if]
  split <;> rfl
/-- the class's notes: what each request shuts out -/
def exP (V : VV) (S : Su) (P : Pl) (i : Nat) : Prop := ∃ E : Nat, V 74 i = (E : Int) ∧ E < 2 ^ P.2.2.2.2.2.2.length ∧ ∀ j, j < P.2.2.2.2.2.2.length → (E.testBit (P.2.2.2.2.2.2.length - 1 - j) = true ↔ (j = i ∧ scf S P i = true) ∨ (j ≠ i ∧ rcf S P i j = true))
theorem X_L75 {V : VV} {S : Su} {P : Pl} (h : CK V S P) {i : Nat} (hi : i < P.2.2.2.2.2.2.length) : ∀ (k n j : Nat) (W : VV) (E : Nat), k + 1 ≤ n → P.2.2.2.2.2.2.length = j + k → (∀ c, c ≠ 74 → W c = V c) → W 74 i = (E : Int) → E < 2 ^ P.2.2.2.2.2.2.length → (∀ j', j' < P.2.2.2.2.2.2.length → (E.testBit (P.2.2.2.2.2.2.length - 1 - j') = true ↔ (j' = i ∧ scf S P i = true) ∨ (j' ≠ i ∧ j' < j ∧ rcf S P i j' = true))) → ∃ W' : VV, f5_findExcluded_L75 (i : Int) n (j : Int) W = some W' ∧ (∀ c, c ≠ 74 → W' c = V c) ∧ (∀ i', i' ≠ i → W' 74 i' = W 74 i') ∧ exP W' S P i := by
  have hr := h.ok.rg
  have hp := h.pl
  intro k
  induction k with
  | zero =>
    intro n j W E hn hl hW hE hE2 hb
    obtain ⟨n, rfl⟩ : ∃ m, n = m + 1 := ⟨n - 1, by omega⟩
    refine ⟨W, ?_, hW, fun _ _ => rfl, E, hE, hE2, fun j' hj' => ?_⟩
    · rw [f5_findExcluded_L75, aP0, hW 53 (by omega), hp.2.2.2.2.2.2, nrm_of (by omega) (by omega), nrm_of (by omega) (by omega), if_pos (by omega)]
    · rw [hb j' hj']
      have : j' < j := by omega
      simp [this]
  | succ k ih =>
    intro n j W E hn hl hW hE hE2 hb
    obtain ⟨n, rfl⟩ : ∃ m, n = m + 1 := ⟨n - 1, by omega⟩
    have hj : j < P.2.2.2.2.2.2.length := by omega
    have hCW : CK W S P := h.of (by rw [hW 0 (by omega)]) (fun c c1 c2 => hW c (by omega))
    have hI := fun W E => ih n (j + 1) W E (by omega) (by omega)
    simp only [Int.natCast_add, Int.natCast_one] at hI
    rw [f5_findExcluded_L75, aP0, hW 53 (by omega), hp.2.2.2.2.2.2, nrm_of (by omega) (by omega), nrm_of (by omega) (by omega), nrm_of (by omega) (by omega), if_neg (by omega)]
    by_cases c : j = i
    · rw [if_pos (by omega)]
      exact hI W E hW hE hE2 (fun j' hj' => by
        rw [hb j' hj']
        by_cases z : j' = i
        · simp [z]
        · have : (j' < j + 1) ↔ (j' < j) := by omega
          simp [z, this])
    · rw [if_neg (by omega), X_requestsClash hCW hi hj, bd_s]
      by_cases c2 : rcf S P i j = true
      · rw [if_pos c2, if_neg (by decide +kernel), ck_t (by omega), X_bitOf hCW hj, bd_s, Int.toNat_natCast, hE, lI_n _ (by omega)]
        have h8 := pw_le8 (n := P.2.2.2.2.2.2.length) (by omega)
        have hp2 : 2 ^ (P.2.2.2.2.2.2.length - 1 - j) < 2 ^ P.2.2.2.2.2.2.length := Nat.pow_lt_pow_right (by decide) (by omega)
        rw [oI_n (by omega) (by omega)]
        have hlt := Nat.or_lt_two_pow hE2 hp2
        obtain ⟨W', g1, g2, g3, g4⟩ := hI (up2 W 74 i ((E ||| 2 ^ (P.2.2.2.2.2.2.length - 1 - j) : Nat) : Int)) (E ||| 2 ^ (P.2.2.2.2.2.2.length - 1 - j)) (fun c hc => by rw [up2_r hc, hW c hc]) (up2_s _ _ _ _) hlt (fun j' hj' => by
          rw [Nat.testBit_or, Bool.or_eq_true, hb j' hj', Nat.testBit_two_pow, decide_eq_true_eq]
          by_cases z : j' = j
          · subst z
            simp [c, c2]
          · have e1 : ¬ (P.2.2.2.2.2.2.length - 1 - j = P.2.2.2.2.2.2.length - 1 - j') := by omega
            have e2 : (j' < j + 1) ↔ (j' < j) := by omega
            simp [e1, e2])
        refine ⟨W', g1, g2, fun i' hi' => by rw [g3 i' hi', up2_n (by omega)], g4⟩
      · rw [if_neg c2, if_pos (by decide +kernel)]
        exact hI W E hW hE hE2 (fun j' hj' => by
          rw [hb j' hj']
          by_cases z : j' = j
          · subst z
            simp [c2]
          · have e2 : (j' < j + 1) ↔ (j' < j) := by omega
            simp [e2])
theorem X_exL {V : VV} {S : Su} {P : Pl} (h : CK V S P) : ∀ (k n i : Nat) (W : VV), k + 1 ≤ n → P.2.2.2.2.2.2.length = i + k → (∀ c, c ≠ 74 → W c = V c) → (∀ i', i' < i → exP W S P i') → ∃ W' : VV, f5_findExcluded_L2 n (i : Int) W = some W' ∧ (∀ c, c ≠ 74 → W' c = V c) ∧ ∀ i', i' < P.2.2.2.2.2.2.length → exP W' S P i' := by
  have hr := h.ok.rg
  have hp := h.pl
  intro k
  induction k with
  | zero =>
    intro n i W hn hl hW hE
    obtain ⟨n, rfl⟩ : ∃ m, n = m + 1 := ⟨n - 1, by omega⟩
    refine ⟨W, ?_, hW, fun i' hi' => hE i' (by omega)⟩
    rw [f5_findExcluded_L2, aP0, hW 53 (by omega), hp.2.2.2.2.2.2, nrm_of (by omega) (by omega), nrm_of (by omega) (by omega), if_pos (by omega)]
  | succ k ih =>
    intro n i W hn hl hW hE
    obtain ⟨n, rfl⟩ : ∃ m, n = m + 1 := ⟨n - 1, by omega⟩
    have hi : i < P.2.2.2.2.2.2.length := by omega
    have hCW : CK W S P := h.of (by rw [hW 0 (by omega)]) (fun c c1 c2 => hW c (by omega))
    obtain ⟨-, -, b3⟩ := hCW.r hi
    obtain ⟨u1, u2, u3, u4, u5, u6⟩ := b3
    simp only at u1 u2 u3 u4 u5 u6
    obtain ⟨t1, t2, t3⟩ := X_transitOf hCW (x := W 58 i) ⟨u1, u2⟩
    have hrg : -1 ≤ fcl S P.2.2.2.2.2.1 (W 59 i) (W 60 i) (W 60 i + tr S P.1 (W 58 i)) (-1) ∧ fcl S P.2.2.2.2.2.1 (W 59 i) (W 60 i) (W 60 i + tr S P.1 (W 58 i)) (-1) ≤ 20 := by
      unfold fcl
      rcases ffi_rg (P := fun j b => decide ((j : Int) ≠ -1) && cf S b (W 59 i) (W 60 i) (W 60 i + tr S P.1 (W 58 i))) (l := P.2.2.2.2.2.1) (i := 0) with q | q <;> omega
    have h8 := pw_le8 (n := P.2.2.2.2.2.2.length) (by omega)
    have hp2 : 2 ^ (P.2.2.2.2.2.2.length - 1 - i) < 2 ^ P.2.2.2.2.2.2.length := Nat.pow_lt_pow_right (by decide) (by omega)
    have hsc : (scf S P i = true) ↔ ¬ fcl S P.2.2.2.2.2.1 (W 59 i) (W 60 i) (W 60 i + tr S P.1 (W 58 i)) (-1) = -1 := by
      unfold scf
      rw [rqq_x hCW hi]
      simp
    rw [f5_findExcluded_L2, aP0, hW 53 (by omega), hp.2.2.2.2.2.2, nrm_of (by omega) (by omega), nrm_of (by omega) (by omega), if_neg (by omega), ck_t (by omega), Int.toNat_natCast]
    simp only [Nat.reduceAdd]
    rw [t1, bd_s, X_firstClash hCW u3 (by omega) ⟨t2, t3⟩ (by omega), bd_s, X_bitOf hCW hi, bd_s]
    obtain ⟨E, e1, e2, e3⟩ : ∃ E : Nat, (if nrm (fcl S P.2.2.2.2.2.1 (W 59 i) (W 60 i) (W 60 i + tr S P.1 (W 58 i)) (-1)) = nrm (-1) then some (0 : Int) else some (lI 1 ((P.2.2.2.2.2.2.length - 1 - i : Nat) : Int))) = some (E : Int) ∧ E < 2 ^ P.2.2.2.2.2.2.length ∧ ∀ j', j' < P.2.2.2.2.2.2.length → (E.testBit (P.2.2.2.2.2.2.length - 1 - j') = true ↔ (j' = i ∧ scf S P i = true) ∨ (j' ≠ i ∧ j' < 0 ∧ rcf S P i j' = true)) := by
      rw [nrm_of (by omega) (by omega), nrm_of (by omega) (by omega)]
      by_cases c : fcl S P.2.2.2.2.2.1 (W 59 i) (W 60 i) (W 60 i + tr S P.1 (W 58 i)) (-1) = -1
      · refine ⟨0, by rw [if_pos c]; rfl, Nat.two_pow_pos _, fun j' hj' => ?_⟩
        have : ¬ scf S P i = true := fun z => hsc.mp z c
        simp [this]
      · refine ⟨2 ^ (P.2.2.2.2.2.2.length - 1 - i), by rw [if_neg c, lI_n _ (by omega)], hp2, fun j' hj' => ?_⟩
        have := hsc.mpr c
        rw [Nat.testBit_two_pow, decide_eq_true_eq]
        have e2 : (P.2.2.2.2.2.2.length - 1 - i = P.2.2.2.2.2.2.length - 1 - j') ↔ j' = i := by omega
        simp [this, e2]
    rw [e1, bd_s]
    obtain ⟨W1, g1, g2, g3, g4⟩ := X_L75 h hi P.2.2.2.2.2.2.length FU 0 (up2 W 74 i (E : Int)) E (by have := FU_ge; omega) (by omega) (fun c hc => by rw [up2_r hc, hW c hc]) (up2_s _ _ _ _) e2 e3
    rw [nc0] at g1
    rw [g1, bd_s]
    have hI := ih n (i + 1) W1 (by omega) (by omega) g2 (fun i' hi' => by
      by_cases z : i' = i
      · subst z; exact g4
      · obtain ⟨E', q1, q2⟩ := hE i' (by omega)
        exact ⟨E', by rw [g3 i' z, up2_n (by omega), q1], q2⟩)
    rw [Int.natCast_add, Int.natCast_one] at hI
    exact hI
theorem X_findExcluded {V : VV} {S : Su} {P : Pl} (h : CK V S P) : ∃ W : VV, f5_findExcluded V = some W ∧ (∀ c, c ≠ 74 → W c = V c) ∧ ∀ i', i' < P.2.2.2.2.2.2.length → exP W S P i' := by
  obtain ⟨W, g1, g2, g3⟩ := X_exL h P.2.2.2.2.2.2.length FU 0 V (by have := FU_ge; have := h.ok.rg; omega) (by omega) (fun _ _ => rfl) (fun i' hi' => absurd hi' (by omega))
  rw [nc0] at g1
  refine ⟨W, ?_, g2, g3⟩
  unfold f5_findExcluded
  rw [g1]
  rfl
/-- is it a selection: the class -/
theorem X_isSelection {V : VV} {S : Su} {P : Pl} (h : CK V S P) (hE : ∀ i', i' < P.2.2.2.2.2.2.length → exP V S P i') {t : Nat} (ht : t < 2 ^ P.2.2.2.2.2.2.length) : ∃ r : Int, f5_isSelection V (t : Int) = some r ∧ (r = 0 ∨ r = 1) ∧ (r = 1 ↔ seX S P t) := by
  have hr := h.ok.rg
  have hp := h.pl
  have h8 := pw_le8 (n := P.2.2.2.2.2.2.length) (by omega)
  have key : ∀ (k n i : Nat), k + 1 ≤ n → P.2.2.2.2.2.2.length = i + k → ∃ r : Int, f5_isSelection_L2 V (t : Int) n (i : Int) = some r ∧ (r = 0 ∨ r = 1) ∧ (r = 1 ↔ ∀ i', i ≤ i' → i' < P.2.2.2.2.2.2.length → mX P.2.2.2.2.2.2.length t i' = true → scf S P i' = false ∧ ∀ j, j < P.2.2.2.2.2.2.length → j ≠ i' → mX P.2.2.2.2.2.2.length t j = true → rcf S P i' j = false) := by
    intro k
    induction k with
    | zero =>
      intro n i hn hl
      obtain ⟨n, rfl⟩ : ∃ m, n = m + 1 := ⟨n - 1, by omega⟩
      refine ⟨1, ?_, Or.inr rfl, iff_of_true rfl (fun i' h1 h2 => absurd h1 (by omega))⟩
      rw [f5_isSelection_L2, aP0, hp.2.2.2.2.2.2, nrm_of (by omega) (by omega), nrm_of (by omega) (by omega), if_pos (by omega)]
    | succ k ih =>
      intro n i hn hl
      obtain ⟨n, rfl⟩ : ∃ m, n = m + 1 := ⟨n - 1, by omega⟩
      have hi : i < P.2.2.2.2.2.2.length := by omega
      obtain ⟨r, g1, g2, g3⟩ := ih n (i + 1) (by omega) (by omega)
      rw [Int.natCast_add, Int.natCast_one] at g1
      rw [f5_isSelection_L2, aP0, hp.2.2.2.2.2.2, nrm_of (by omega) (by omega), nrm_of (by omega) (by omega), if_neg (by omega), X_bitOf h hi, bd_s]
      by_cases c : mX P.2.2.2.2.2.2.length t i = false
      · rw [if_pos ((X_mem h hi).mpr c)]
        refine ⟨r, g1, g2, g3.trans ⟨fun q i' h1 h2 hm => ?_, fun q i' h1 h2 hm => q i' (by omega) h2 hm⟩⟩
        by_cases z : i' = i
        · subst z; rw [c] at hm; exact absurd hm (by decide)
        · exact q i' (by omega) h2 hm
      · have c2 : mX P.2.2.2.2.2.2.length t i = true := by cases z : mX P.2.2.2.2.2.2.length t i <;> simp_all
        obtain ⟨E, e1, e2, e3⟩ := hE i hi
        have hz : (nrm (aI (t : Int) (V 74 i)) = 0) ↔ (scf S P i = false ∧ ∀ j, j < P.2.2.2.2.2.2.length → j ≠ i → mX P.2.2.2.2.2.2.length t j = true → rcf S P i j = false) := by
          rw [e1, aI_n (by omega)]
          have hlt := Nat.and_lt_two_pow t e2
          rw [nrm_of (by omega) (by omega), show (((t &&& E : Nat) : Int) = 0) ↔ (t &&& E = 0) by omega, tb_and0]
          constructor
          · intro q
            refine ⟨?_, fun j hj hne hm => ?_⟩
            · have h1 := q (P.2.2.2.2.2.2.length - 1 - i) c2
              cases z : scf S P i
              · rfl
              · rw [(e3 i hi).mpr (Or.inl ⟨rfl, z⟩)] at h1
                exact absurd h1 (by decide)
            · have h1 := q (P.2.2.2.2.2.2.length - 1 - j) hm
              cases z : rcf S P i j
              · rfl
              · rw [(e3 j hj).mpr (Or.inr ⟨hne, z⟩)] at h1
                exact absurd h1 (by decide)
          · intro ⟨q1, q2⟩ k hk
            have hkl : k < P.2.2.2.2.2.2.length := by
              apply Nat.lt_of_not_le
              intro q
              have hpk : 2 ^ P.2.2.2.2.2.2.length ≤ 2 ^ k := Nat.pow_le_pow_right (by decide) q
              rw [Nat.testBit_lt_two_pow (by omega)] at hk
              exact absurd hk (by decide)
            cases z : E.testBit k
            · rfl
            · exfalso
              have h1 := (e3 (P.2.2.2.2.2.2.length - 1 - k) (by omega)).mp (by rw [show P.2.2.2.2.2.2.length - 1 - (P.2.2.2.2.2.2.length - 1 - k) = k by omega]; exact z)
              rcases h1 with ⟨-, h1⟩ | ⟨h1, h2⟩
              · rw [q1] at h1; exact absurd h1 (by decide)
              · rw [q2 _ (by omega) h1 (by unfold mX; rw [show P.2.2.2.2.2.2.length - 1 - (P.2.2.2.2.2.2.length - 1 - k) = k by omega]; exact hk)] at h2
                exact absurd h2 (by decide)
        rw [if_neg (fun z => c ((X_mem h hi).mp z)), ck_t (by omega), Int.toNat_natCast]
        by_cases c3 : nrm (aI (t : Int) (V 74 i)) = 0
        · rw [if_pos c3]
          refine ⟨r, g1, g2, g3.trans ⟨fun q i' h1 h2 hm => ?_, fun q i' h1 h2 hm => q i' (by omega) h2 hm⟩⟩
          by_cases z : i' = i
          · subst z; exact hz.mp c3
          · exact q i' (by omega) h2 hm
        · rw [if_neg c3]
          exact ⟨0, rfl, Or.inl rfl, iff_of_false (by decide) (fun q => c3 (hz.mpr (q i (Nat.le_refl _) hi c2)))⟩
  obtain ⟨r, g1, g2, g3⟩ := key P.2.2.2.2.2.2.length FU 0 (by have := FU_ge; omega) (by omega)
  rw [nc0] at g1
  refine ⟨r, g1, g2, g3.trans ⟨fun q i hi hm => q i (Nat.zero_le _) hi hm, fun q i _ hi hm => q i hi hm⟩⟩
theorem M_isSelection {V : VV} {S : Su} {P : Pl} (h : MK V S P) {s : Nat} (hs : s < 256) : ∃ r : Int, f6_isSelection V (s : Int) = some r ∧ (r = 0 ∨ r = 1) ∧ (r = 1 ↔ seM S P s) := by
  have hr := h.ok.rg
  have hp := h.pl
  have inner : ∀ (k n j i : Nat), k + 1 ≤ n → P.2.2.2.2.2.2.length = j + k → i < P.2.2.2.2.2.2.length → (f6_isSelection_L57 V (s : Int) (i : Int) n (j : Int) = some (.inl 0) ∧ ∃ j', j ≤ j' ∧ j' < P.2.2.2.2.2.2.length ∧ s.testBit j' = true ∧ rcf S P i j' = true) ∨ (f6_isSelection_L57 V (s : Int) (i : Int) n (j : Int) = some (.inr ()) ∧ ∀ j', j ≤ j' → j' < P.2.2.2.2.2.2.length → s.testBit j' = true → rcf S P i j' = false) := by
    intro k
    induction k with
    | zero =>
      intro n j i hn hl hi
      obtain ⟨n, rfl⟩ : ∃ m, n = m + 1 := ⟨n - 1, by omega⟩
      right
      refine ⟨?_, fun j' h1 h2 => absurd h1 (by omega)⟩
      rw [f6_isSelection_L57, hp.2.2.2.2.2.2, nrm_of (by omega) (by omega), nrm_of (by omega) (by omega), if_pos (by omega)]
    | succ k ih =>
      intro n j i hn hl hi
      obtain ⟨n, rfl⟩ : ∃ m, n = m + 1 := ⟨n - 1, by omega⟩
      have hj : j < P.2.2.2.2.2.2.length := by omega
      have hI := ih n (j + 1) i (by omega) (by omega) hi
      rw [Int.natCast_add, Int.natCast_one] at hI
      have hb := (M_mem hs (show j < 8 by omega)).1
      rw [f6_isSelection_L57, hp.2.2.2.2.2.2, nrm_of (z := (P.2.2.2.2.2.2.length : Int)) (by omega) (by omega), nrm_of (z := (j : Int)) (by omega) (by omega), if_neg (by omega)]
      by_cases c : s.testBit j = true
      · rw [if_pos (hb.mpr c), M_areCompatible h hi hj, bd_s]
        by_cases c2 : rcf S P i j = true
        · left
          rw [if_pos c2, if_pos (by decide +kernel)]
          exact ⟨rfl, j, Nat.le_refl _, hj, c, c2⟩
        · rw [if_neg c2, if_neg (by decide +kernel)]
          rcases hI with ⟨q1, j', q2, q3, q4⟩ | ⟨q1, q2⟩
          · left; exact ⟨q1, j', by omega, q3, q4⟩
          · right
            refine ⟨q1, fun j' h1 h2 hm => ?_⟩
            by_cases z : j' = j
            · subst z; cases y : rcf S P i j' <;> simp_all
            · exact q2 j' (by omega) h2 hm
      · rw [if_neg (fun z => c (hb.mp z))]
        rcases hI with ⟨q1, j', q2, q3, q4⟩ | ⟨q1, q2⟩
        · left; exact ⟨q1, j', by omega, q3, q4⟩
        · right
          refine ⟨q1, fun j' h1 h2 hm => ?_⟩
          by_cases z : j' = j
          · subst z; exact absurd hm c
          · exact q2 j' (by omega) h2 hm
  have key : ∀ (k n i : Nat), k + 1 ≤ n → P.2.2.2.2.2.2.length = i + k → ∃ r : Int, f6_isSelection_L2 V (s : Int) n (i : Int) = some r ∧ (r = 0 ∨ r = 1) ∧ (r = 1 ↔ ∀ i', i ≤ i' → i' < P.2.2.2.2.2.2.length → s.testBit i' = true → scf S P i' = false ∧ ∀ j, i' + 1 ≤ j → j < P.2.2.2.2.2.2.length → s.testBit j = true → rcf S P i' j = false) := by
    intro k
    induction k with
    | zero =>
      intro n i hn hl
      obtain ⟨n, rfl⟩ : ∃ m, n = m + 1 := ⟨n - 1, by omega⟩
      refine ⟨1, ?_, Or.inr rfl, iff_of_true rfl (fun i' h1 h2 => absurd h1 (by omega))⟩
      rw [f6_isSelection_L2, hp.2.2.2.2.2.2, nrm_of (by omega) (by omega), nrm_of (by omega) (by omega), if_pos (by omega)]
    | succ k ih =>
      intro n i hn hl
      obtain ⟨n, rfl⟩ : ∃ m, n = m + 1 := ⟨n - 1, by omega⟩
      have hi : i < P.2.2.2.2.2.2.length := by omega
      obtain ⟨r, g1, g2, g3⟩ := ih n (i + 1) (by omega) (by omega)
      rw [Int.natCast_add, Int.natCast_one] at g1
      have hb := (M_mem hs (show i < 8 by omega)).2
      rw [f6_isSelection_L2, hp.2.2.2.2.2.2, nrm_of (z := (P.2.2.2.2.2.2.length : Int)) (by omega) (by omega), nrm_of (z := (i : Int)) (by omega) (by omega), if_neg (by omega)]
      by_cases c : s.testBit i = false
      · rw [if_pos (hb.mpr c)]
        refine ⟨r, g1, g2, g3.trans ⟨fun q i' h1 h2 hm => ?_, fun q i' h1 h2 hm => q i' (by omega) h2 hm⟩⟩
        by_cases z : i' = i
        · subst z; rw [c] at hm; exact absurd hm (by decide)
        · exact q i' (by omega) h2 hm
      · have c2 : s.testBit i = true := by cases z : s.testBit i <;> simp_all
        obtain ⟨-, -, b3⟩ := h.r hi
        obtain ⟨u1, u2, u3, u4, u5, u6⟩ := b3
        simp only at u1 u2 u3 u4 u5 u6
        have hsc : (scf S P i = true) ↔ ¬ fcl S P.2.2.2.2.2.1 (V 149 (194 + 4 * i + 1)) (V 149 (194 + 4 * i + 2)) (V 149 (194 + 4 * i + 2) + tr S P.1 (V 149 (194 + 4 * i))) (-1) = -1 := by
          unfold scf
          rw [rqq_m h hi]
          simp
        have hrg : -1 ≤ fcl S P.2.2.2.2.2.1 (V 149 (194 + 4 * i + 1)) (V 149 (194 + 4 * i + 2)) (V 149 (194 + 4 * i + 2) + tr S P.1 (V 149 (194 + 4 * i))) (-1) ∧ fcl S P.2.2.2.2.2.1 (V 149 (194 + 4 * i + 1)) (V 149 (194 + 4 * i + 2)) (V 149 (194 + 4 * i + 2) + tr S P.1 (V 149 (194 + 4 * i))) (-1) ≤ 20 := by
          unfold fcl
          rcases ffi_rg (P := fun j b => decide ((j : Int) ≠ -1) && cf S b (V 149 (194 + 4 * i + 1)) (V 149 (194 + 4 * i + 2)) (V 149 (194 + 4 * i + 2) + tr S P.1 (V 149 (194 + 4 * i)))) (l := P.2.2.2.2.2.1) (i := 0) with q | q <;> omega
        rw [if_neg (fun z => c (hb.mp z)), M_ofRequest (i := i) (y := 0) (j := 0) rfl rfl (by omega) (by omega), bd_s, M_ofRequest (i := i) (y := 1) (j := 1) rfl rfl (by omega) (by omega), bd_s, M_ofRequest (i := i) (y := 2) (j := 2) rfl rfl (by omega) (by omega), bd_s, Nat.add_zero, M_conflicting h ⟨u1, u2⟩ u3 (by omega) (by omega), bd_s]
        by_cases c3 : fcl S P.2.2.2.2.2.1 (V 149 (194 + 4 * i + 1)) (V 149 (194 + 4 * i + 2)) (V 149 (194 + 4 * i + 2) + tr S P.1 (V 149 (194 + 4 * i))) (-1) = -1
        · have hsf : scf S P i = false := by cases z : scf S P i <;> simp_all
          rw [if_pos (by rw [c3])]
          have hin := inner k FU (i + 1) i (by have := FU_ge; omega) (by omega) hi
          rw [Int.natCast_add, Int.natCast_one] at hin
          rcases hin with ⟨q1, j', q2, q3, q4, q5⟩ | ⟨q1, q2⟩
          · rw [q1]
            refine ⟨0, rfl, Or.inl rfl, iff_of_false (by decide) (fun q => ?_)⟩
            have := (q i (Nat.le_refl _) hi c2).2 j' q2 q3 q4
            rw [q5] at this
            exact absurd this (by decide)
          · rw [q1]
            refine ⟨r, g1, g2, g3.trans ⟨fun q i' h1 h2 hm => ?_, fun q i' h1 h2 hm => q i' (by omega) h2 hm⟩⟩
            by_cases z : i' = i
            · subst z; exact ⟨hsf, q2⟩
            · exact q i' (by omega) h2 hm
        · rw [if_neg (fun z => c3 (by rw [nrm_of (by omega) (by omega), nrm_of (by omega) (by omega)] at z; exact z))]
          refine ⟨0, rfl, Or.inl rfl, iff_of_false (by decide) (fun q => ?_)⟩
          have := (q i (Nat.le_refl _) hi c2).1
          rw [hsc.mpr c3] at this
          exact absurd this (by decide)
  obtain ⟨r, g1, g2, g3⟩ := key P.2.2.2.2.2.2.length FU 0 (by have := FU_ge; omega) (by omega)
  rw [nc0] at g1
  refine ⟨r, g1, g2, g3.trans ⟨fun q i hi hm => ⟨(q i (Nat.zero_le _) hi hm).1, fun j hj hne hmj => ?_⟩, fun q i _ hi hm => ⟨(q i hi hm).1, fun j h1 h2 hmj => (q i hi hm).2 j h2 (by omega) hmj⟩⟩⟩
  by_cases z : i < j
  · exact (q i (Nat.zero_le _) hi hm).2 j (by omega) hj hmj
  · rw [rcf_sym]
    exact (q j (Nat.zero_le _) hj hmj).2 i (by omega) hi hm
