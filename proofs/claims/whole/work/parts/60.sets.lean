/-! sets of requests as numbers -/
theorem nx_and (a b : Nat) : nI a &&& nI b = nI (a &&& b) := by
  apply Int32.toBitVec_inj.1
  show BitVec.ofNat 32 a &&& BitVec.ofNat 32 b = BitVec.ofNat 32 (a &&& b)
  apply BitVec.eq_of_getLsbD_eq
  intro i hi
  simp [hi]
theorem nx_xor (a b : Nat) : nI a ^^^ nI b = nI (a ^^^ b) := by
  apply Int32.toBitVec_inj.1
  show BitVec.ofNat 32 a ^^^ BitVec.ofNat 32 b = BitVec.ofNat 32 (a ^^^ b)
  apply BitVec.eq_of_getLsbD_eq
  intro i hi
  simp [hi]
theorem nx_or (a b : Nat) : nI a ||| nI b = nI (a ||| b) := by
  apply Int32.toBitVec_inj.1
  show BitVec.ofNat 32 a ||| BitVec.ofNat 32 b = BitVec.ofNat 32 (a ||| b)
  apply BitVec.eq_of_getLsbD_eq
  intro i hi
  simp [hi]
theorem aI_n {a b : Nat} (h : b < 256) : aI (a : Int) (b : Int) = ((a &&& b : Nat) : Int) := by
  unfold aI
  rw [← iI_nI, ← iI_nI, nx_and, nI_ti]
  have := Nat.and_lt_two_pow a (show b < 2 ^ 8 by omega)
  omega
theorem oI_n {a b : Nat} (h1 : a < 256) (h : b < 256) : oI (a : Int) (b : Int) = ((a ||| b : Nat) : Int) := by
  unfold oI
  rw [← iI_nI, ← iI_nI, nx_or, nI_ti]
  have := Nat.or_lt_two_pow (show a < 2 ^ 8 by omega) (show b < 2 ^ 8 by omega)
  omega
theorem xI_n {a b : Nat} (h1 : a < 256) (h : b < 256) : xI (a : Int) (b : Int) = ((a ^^^ b : Nat) : Int) := by
  unfold xI
  rw [← iI_nI, ← iI_nI, nx_xor, nI_ti]
  have := Nat.xor_lt_two_pow (show a < 2 ^ 8 by omega) (show b < 2 ^ 8 by omega)
  omega
theorem lI_n : ∀ k, k < 9 → lI 1 ((k : Nat) : Int) = ((2 ^ k : Nat) : Int) := by decide +kernel
theorem sI_n {a k : Nat} (ha : a < 256) (hk : k < 8) : sI (a : Int) (k : Int) = ((a / 2 ^ k : Nat) : Int) := by
  have hs : ∀ k, k < 8 → (((iI ((k : Nat) : Int)) &&& 31).toBitVec.smod 32).toNat = k := by decide +kernel
  unfold sI
  rw [← iI_nI a, pk_shrN (by omega) _ k (hs k hk), nI_ti]
  have := Nat.div_le_self a (2 ^ k)
  omega
theorem pw_lt {k : Nat} (h : k < 8) : 2 ^ k < 256 := Nat.pow_lt_pow_right (by decide) h
theorem tb_and {t k : Nat} : (t &&& 2 ^ k = 0) ↔ t.testBit k = false := by
  constructor
  · intro h
    have := congrArg (fun x => x.testBit k) h
    simpa [Nat.testBit_two_pow_self] using this
  · intro h
    apply Nat.eq_of_testBit_eq
    intro i
    rw [Nat.testBit_and, Nat.testBit_two_pow, Nat.zero_testBit]
    by_cases e : k = i
    · subst e; rw [h]; rfl
    · simp [e]
theorem tb_and0 {t E : Nat} : (t &&& E = 0) ↔ ∀ k, t.testBit k = true → E.testBit k = false := by
  constructor
  · intro h k hk
    have := congrArg (fun x => x.testBit k) h
    simpa [hk] using this
  · intro h
    apply Nat.eq_of_testBit_eq
    intro i
    rw [Nat.testBit_and, Nat.zero_testBit]
    cases c : t.testBit i
    · rfl
    · rw [h i c]; rfl
/-- bit tests as both write them -/
theorem bitX {t k : Nat} (hk : k < 8) : (nrm (aI (t : Int) (lI 1 (k : Int))) = 0) ↔ t.testBit k = false := by
  rw [lI_n k (by omega), aI_n (pw_lt hk), ← tb_and]
  have := Nat.and_lt_two_pow t (show 2 ^ k < 2 ^ 8 from pw_lt hk)
  rw [nrm_of (by omega) (by omega)]
  omega
theorem bitM {s k : Nat} (hs : s < 256) (hk : k < 8) : aI (sI (s : Int) (k : Int)) 1 = if s.testBit k = true then 1 else 0 := by
  rw [sI_n hs hk, show (1 : Int) = ((1 : Nat) : Int) from rfl, aI_n (by omega), Nat.testBit_eq_decide_div_mod_eq, Nat.and_one_is_mod]
  rcases Nat.mod_two_eq_zero_or_one (s / 2 ^ k) with q | q <;> simp [q]
theorem low_bit : ∀ d, d < 256 → d ≠ 0 → ∃ k, k < 8 ∧ aI ((d : Nat) : Int) (-((d : Nat) : Int)) = ((2 ^ k : Nat) : Int) ∧ d.testBit k = true ∧ ∀ j, j < k → d.testBit j = false := by decide +kernel
theorem aI_assoc (a b c : Int) : aI (aI a b) c = aI a (aI b c) := by
  unfold aI
  rw [← iI_of, ← iI_of, Int32.and_assoc]
/-- the lowest bit in which two sets differ -/
theorem ahead {s b : Nat} (hs : s < 256) (hb : b < 256) (hne : s ≠ b) : ∃ k, k < 8 ∧ s.testBit k ≠ b.testBit k ∧ (∀ j, j < k → s.testBit j = b.testBit j) ∧ ((nrm (aI (aI (s : Int) (xI (s : Int) (b : Int))) (-(xI (s : Int) (b : Int)))) = 0) ↔ s.testBit k = false) := by
  rw [xI_n hs hb]
  have hd : s ^^^ b < 256 := Nat.xor_lt_two_pow (n := 8) hs hb
  have hd0 : s ^^^ b ≠ 0 := by
    intro h
    apply hne
    apply Nat.eq_of_testBit_eq
    intro i
    have := congrArg (fun x => x.testBit i) h
    simpa using this
  obtain ⟨k, k1, k2, k3, k4⟩ := low_bit _ hd hd0
  refine ⟨k, k1, ?_, fun j hj => ?_, ?_⟩
  · intro h
    rw [Nat.testBit_xor, h] at k3
    simp at k3
  · have := k4 j hj
    rw [Nat.testBit_xor] at this
    simpa using this
  · rw [aI_assoc, k2, aI_n (pw_lt k1), ← tb_and]
    have := Nat.and_lt_two_pow s (show 2 ^ k < 2 ^ 8 from pw_lt k1)
    rw [nrm_of (by omega) (by omega)]
    omega
theorem lt_tb {a b i : Nat} (ha : a.testBit i = false) (hb : b.testBit i = true) (h : ∀ j, i < j → a.testBit j = b.testBit j) : a < b := by
  have h1 : a / 2 ^ (i + 1) = b / 2 ^ (i + 1) := by
    apply Nat.eq_of_testBit_eq
    intro j
    rw [Nat.testBit_div_two_pow, Nat.testBit_div_two_pow]
    exact h _ (by omega)
  rw [Nat.testBit_eq_decide_div_mod_eq] at ha hb
  simp only [decide_eq_false_iff_not, decide_eq_true_eq] at ha hb
  rw [Nat.pow_succ, ← Nat.div_div_eq_div_mul, ← Nat.div_div_eq_div_mul] at h1
  have h2 : a / 2 ^ i < b / 2 ^ i := by omega
  exact Nat.lt_of_not_le (fun q => by have := Nat.div_le_div_right (c := 2 ^ i) q; omega)
/-- the class's number of a set out of the reference's -/
def rvn (n s : Nat) : Nat := (List.range n).foldl (fun a i => if s.testBit i = true then a + 2 ^ (n - 1 - i) else a) 0
theorem rvn_ok : ∀ n, n < 9 → ∀ s, s < 2 ^ n → rvn n s < 2 ^ n ∧ (rvn n s = 0 ↔ s = 0) ∧ ∀ i, i < n → (rvn n s).testBit (n - 1 - i) = s.testBit i := by decide +kernel
theorem pw_le8 {n : Nat} (h : n < 9) : 2 ^ n ≤ 256 := Nat.pow_le_pow_right (n := 2) (by decide) (show n ≤ 8 by omega)
theorem rvn_lt {n s b : Nat} (hn : n < 9) (hs : s < 2 ^ n) (hb : b < 2 ^ n) (hne : s ≠ b) : (nrm (aI (aI (s : Int) (xI (s : Int) (b : Int))) (-(xI (s : Int) (b : Int)))) = 0 → rvn n s < rvn n b) ∧ (¬ nrm (aI (aI (s : Int) (xI (s : Int) (b : Int))) (-(xI (s : Int) (b : Int)))) = 0 → rvn n b < rvn n s) := by
  have h8 := pw_le8 hn
  obtain ⟨k, k1, k2, k3, k4⟩ := ahead (show s < 256 by omega) (show b < 256 by omega) hne
  obtain ⟨s1, -, s3⟩ := rvn_ok n hn s hs
  obtain ⟨b1, -, b3⟩ := rvn_ok n hn b hb
  have kn : k < n := by
    apply Nat.lt_of_not_le
    intro q
    apply k2
    have hp : 2 ^ n ≤ 2 ^ k := Nat.pow_le_pow_right (by decide) q
    rw [Nat.testBit_lt_two_pow (by omega), Nat.testBit_lt_two_pow (by omega)]
  have hj : ∀ j, n - 1 - k < j → (rvn n s).testBit j = (rvn n b).testBit j := by
    intro j hj
    by_cases c : j < n
    · have e1 := s3 (n - 1 - j) (by omega)
      have e2 := b3 (n - 1 - j) (by omega)
      rw [show n - 1 - (n - 1 - j) = j by omega] at e1 e2
      rw [e1, e2]
      exact k3 _ (by omega)
    · have hp : 2 ^ n ≤ 2 ^ j := Nat.pow_le_pow_right (by decide) (by omega)
      rw [Nat.testBit_lt_two_pow (by omega), Nat.testBit_lt_two_pow (by omega)]
  have es := s3 k kn
  have eb := b3 k kn
  constructor
  · intro h
    have h1 := k4.mp h
    have h2 : b.testBit k = true := by
      cases c : b.testBit k
      · exact absurd (h1.trans c.symm) k2
      · rfl
    exact lt_tb (es.trans h1) (eb.trans h2) hj
  · intro h
    have h1 : s.testBit k = true := by
      cases c : s.testBit k
      · exact absurd (k4.mpr c) h
      · rfl
    have h2 : b.testBit k = false := by
      cases c : b.testBit k
      · rfl
      · exact absurd (h1.trans c.symm) k2
    exact lt_tb (eb.trans h2) (es.trans h1) (fun j q => (hj j q).symm)
/-- the value of a set -/
def wt (S : Su) (x : Int) : Int := match S.2.2[x.toNat]? with
  | some s => s.2.2.2
  | none => 0
def vlP (S : Su) (P : Pl) (m : Nat → Bool) : Nat → Nat → Int
  | 0, _ => 0
  | k + 1, i => (if m i = true then wt S (rqq P (i : Int)).1 else 0) + vlP S P m k (i + 1)
theorem vlP_congr {S : Su} {P : Pl} {m m' : Nat → Bool} : ∀ {k i : Nat}, (∀ j, i ≤ j → j < i + k → m j = m' j) → vlP S P m k i = vlP S P m' k i := by
  intro k
  induction k with
  | zero => intro i _; rfl
  | succ k ih => intro i h; rw [vlP, vlP, h i (by omega) (by omega), ih (fun j h1 h2 => h j (by omega) (by omega))]
theorem wt_rg {S : Su} (hS : okS S) {x : Int} (hx : isSp S x) : 1 ≤ wt S x ∧ wt S x ≤ 99 := by
  obtain ⟨i, rfl⟩ : ∃ i : Nat, x = (i : Int) := ⟨x.toNat, by omega⟩
  have hi : i < S.2.2.length := by have := hx.2; omega
  unfold wt
  rw [Int.toNat_natCast, List.getElem?_eq_getElem hi]
  exact (hS.2.2.2 _ (List.getElem_mem hi)).2.2.2.2
theorem rqq_ok {S : Su} {P : Pl} (h : okP S P) {i : Nat} (hi : i < P.2.2.2.2.2.2.length) : okR S.2.2.length (rqq P (i : Int)) := by
  unfold rqq
  rw [Int.toNat_natCast, List.getD_eq_getElem?_getD, List.getElem?_eq_getElem hi]
  exact h.2.2.2.2.1 _ (List.getElem_mem hi)
theorem vlP_rg {S : Su} {P : Pl} (hS : okS S) (h : okP S P) {m : Nat → Bool} : ∀ {k i : Nat}, i + k ≤ P.2.2.2.2.2.2.length → 0 ≤ vlP S P m k i ∧ vlP S P m k i ≤ 99 * k := by
  intro k
  induction k with
  | zero => intro i _; exact ⟨Int.le_refl _, (by rw [vlP]; omega)⟩
  | succ k ih =>
    intro i hi
    have h1 := ih (i := i + 1) (by omega)
    have h2 := rqq_ok h (show i < P.2.2.2.2.2.2.length by omega)
    have h3 := wt_rg hS (x := (rqq P (i : Int)).1) ⟨h2.1, h2.2.1⟩
    rw [vlP]
    split <;> omega
theorem vlP_pos {S : Su} {P : Pl} (hS : okS S) (h : okP S P) {m : Nat → Bool} : ∀ {k i j : Nat}, i + k ≤ P.2.2.2.2.2.2.length → i ≤ j → j < i + k → m j = true → 0 < vlP S P m k i := by
  intro k
  induction k with
  | zero => intro i j _ h1 h2; omega
  | succ k ih =>
    intro i j hi h1 h2 hm
    have h4 := vlP_rg hS h (m := m) (k := k) (i := i + 1) (by omega)
    have h2' := rqq_ok h (show i < P.2.2.2.2.2.2.length by omega)
    have h3 := wt_rg hS (x := (rqq P (i : Int)).1) ⟨h2'.1, h2'.2.1⟩
    rw [vlP]
    by_cases e : i = j
    · subst e
      rw [if_pos hm]; omega
    · have := ih (i := i + 1) (j := j) (by omega) (by omega) (by omega) hm
      split <;> omega
/-- when requests can't be selected -/
def scf (S : Su) (P : Pl) (i : Nat) : Bool := decide (fcl S P.2.2.2.2.2.1 (rqq P (i : Int)).2.1 (rqq P (i : Int)).2.2.1 ((rqq P (i : Int)).2.2.1 + tr S P.1 (rqq P (i : Int)).1) (-1) ≠ -1)
def rcf (S : Su) (P : Pl) (i j : Nat) : Bool := decide (conf S.1 S.2.1 (rqq P (i : Int)).2.1 (rqq P (i : Int)).2.2.1 ((rqq P (i : Int)).2.2.1 + tr S P.1 (rqq P (i : Int)).1) (rqq P (j : Int)).2.1 (rqq P (j : Int)).2.2.1 ((rqq P (j : Int)).2.2.1 + tr S P.1 (rqq P (j : Int)).1))
theorem rcf_sym {S : Su} {P : Pl} {i j : Nat} : rcf S P i j = rcf S P j i := by
  unfold rcf
  rw [decide_eq_decide]
  exact conf_sym
def selB (S : Su) (P : Pl) (m : Nat → Bool) : Prop := ∀ i, i < P.2.2.2.2.2.2.length → m i = true → scf S P i = false ∧ ∀ j, j < P.2.2.2.2.2.2.length → j ≠ i → m j = true → rcf S P i j = false
theorem selB_congr {S : Su} {P : Pl} {m m' : Nat → Bool} (h : ∀ i, i < P.2.2.2.2.2.2.length → m i = m' i) : selB S P m ↔ selB S P m' := by
  constructor
  · intro q i hi hm
    obtain ⟨q1, q2⟩ := q i hi ((h i hi).trans hm)
    exact ⟨q1, fun j hj hne hmj => q2 j hj hne ((h j hj).trans hmj)⟩
  · intro q i hi hm
    obtain ⟨q1, q2⟩ := q i hi ((h i hi).symm.trans hm)
    exact ⟨q1, fun j hj hne hmj => q2 j hj hne ((h j hj).symm.trans hmj)⟩
/-- the members of the class's number -/
def mX (n t : Nat) (i : Nat) : Bool := t.testBit (n - 1 - i)
abbrev vlX (S : Su) (P : Pl) (t : Nat) : Int := vlP S P (mX P.2.2.2.2.2.2.length t) P.2.2.2.2.2.2.length 0
abbrev seX (S : Su) (P : Pl) (t : Nat) : Prop := selB S P (mX P.2.2.2.2.2.2.length t)
/-- the best set, by the class's number -/
def bestX (S : Su) (P : Pl) (t : Nat) : Prop := t < 2 ^ P.2.2.2.2.2.2.length ∧ (t = 0 ∨ seX S P t) ∧ ∀ t', t' < 2 ^ P.2.2.2.2.2.2.length → t' ≠ 0 → seX S P t' → vlX S P t' < vlX S P t ∨ (vlX S P t' = vlX S P t ∧ t' ≤ t)
theorem vlX_0 {S : Su} {P : Pl} : vlX S P 0 = 0 := by
  have : ∀ k i, vlP S P (mX P.2.2.2.2.2.2.length 0) k i = 0 := by
    intro k
    induction k with
    | zero => intro i; rfl
    | succ k ih => intro i; rw [vlP, ih]; unfold mX; simp
  exact this _ _
theorem vlX_pos {S : Su} {P : Pl} (hS : okS S) (h : okP S P) {t : Nat} (ht : t < 2 ^ P.2.2.2.2.2.2.length) (h0 : t ≠ 0) : 0 < vlX S P t := by
  obtain ⟨i, hi⟩ := Nat.exists_testBit_of_ne_zero h0
  have hn : i < P.2.2.2.2.2.2.length := by
    apply Nat.lt_of_not_le
    intro q
    have hp : 2 ^ P.2.2.2.2.2.2.length ≤ 2 ^ i := Nat.pow_le_pow_right (by decide) q
    rw [Nat.testBit_lt_two_pow (by omega)] at hi
    simp at hi
  refine vlP_pos hS h (j := P.2.2.2.2.2.2.length - 1 - i) (by omega) (by omega) (by omega) ?_
  unfold mX
  rw [show P.2.2.2.2.2.2.length - 1 - (P.2.2.2.2.2.2.length - 1 - i) = i by omega]
  exact hi
theorem bestX_u {S : Su} {P : Pl} (hS : okS S) (h : okP S P) {t u : Nat} (ht : bestX S P t) (hu : bestX S P u) : t = u := by
  obtain ⟨t1, t2, t3⟩ := ht
  obtain ⟨u1, u2, u3⟩ := hu
  by_cases c : t = 0
  · by_cases c2 : u = 0
    · omega
    · have := t3 u u1 c2 (u2.resolve_left c2)
      have hp := vlX_pos hS h u1 c2
      rw [c, vlX_0] at this
      omega
  · by_cases c2 : u = 0
    · have := u3 t t1 c (t2.resolve_left c)
      have hp := vlX_pos hS h t1 c
      rw [c2, vlX_0] at this
      omega
    · have a1 := t3 u u1 c2 (u2.resolve_left c2)
      have a2 := u3 t t1 c (t2.resolve_left c)
      omega
