/-! helpers of the calls: numbers below, ships, bookings, refusals, remembering; bytes of the input -/
theorem rpS_of {V V' : VV} {a : Nat} {S : Su} (hS : okS S) (h : rpS V a S) (he : ∀ k, a ≤ k → k < a + 22 → V' k = V k) : rpS V' a S := by
  obtain ⟨h1, h2, h3, h4⟩ := h
  have e0 := he a (by omega) (by omega)
  refine ⟨by rw [e0]; exact h1, by rw [e0]; exact h2, by rw [e0]; exact h3, fun i s hs => ?_⟩
  have hi : i < 10 := by
    have := (List.getElem?_eq_some_iff.mp hs).1
    have := hS.2.2.1
    omega
  obtain ⟨k1, k2, k3, k4, k5⟩ := h4 i s hs
  rw [he (a + (2 + 2 * i)) (by omega) (by omega), he (a + (2 + 2 * i) + 1) (by omega) (by omega)]
  exact ⟨k1, k2, k3, k4, k5⟩
abbrev rgI (x : Int) : Prop := -2147483648 ≤ x ∧ x ≤ 2147483647
theorem X_isWithin {V : VV} {x lo hi : Int} (hx : rgI x) (h1 : rgI lo) (h2 : rgI hi) : f5_isWithin V x lo hi = some (if lo ≤ x ∧ x ≤ hi then 1 else 0) := by
  unfold f5_isWithin
  simp (disch := omega) only [nrm_of]
  by_cases c : x < lo
  · rw [if_pos c, if_neg (by omega)]
  · rw [if_neg c]
    by_cases c2 : hi < x
    · rw [if_pos c2, if_neg (by omega)]
    · rw [if_neg c2, if_pos (by omega)]
theorem X_isNumberBelow {V : VV} {x n : Int} (hx : rgI x) (h1 : rgI n) : f5_isNumberBelow V x n = some (if 0 ≤ x ∧ x < n then 1 else 0) := by
  unfold f5_isNumberBelow
  simp (disch := omega) only [nrm_of]
  by_cases c : x < 0
  · rw [if_pos c, if_neg (by omega)]
  · rw [if_neg c]
    by_cases c2 : n ≤ x
    · rw [if_pos c2, if_neg (by omega)]
    · rw [if_neg c2, if_pos (by omega)]
theorem ck01 {p : Prop} [Decidable p] : ck ((if p then (1 : Int) else 0) = 0 ∨ (if p then (1 : Int) else 0) = 1) (some (if p then (1 : Int) else 0)) = some (if p then (1 : Int) else 0) := ck_t (by split <;> simp)
theorem X_isShip {V : VV} {S : Su} {P : Pl} (h : CK V S P) {x : Int} (hx : rgI x) : f5_isShip V x = some (if 0 ≤ x ∧ x < (S.2.2.length : Int) then 1 else 0) := by
  have hs := h.su
  have hq := h.2.2.1
  unfold f5_isShip
  rw [ck_t hq, hs.2.2.1, X_isNumberBelow hx (by constructor <;> omega)]
  exact ck01
theorem X_isBooking {V : VV} {S : Su} {P : Pl} (h : CK V S P) {x : Int} (hx : rgI x) : f5_isBooking V x = some (if 0 ≤ x ∧ x < (P.2.2.2.2.2.1.length : Int) then 1 else 0) := by
  have hp := h.pl
  have hr := h.ok.rg
  unfold f5_isBooking
  rw [aP0, hp.2.2.2.2.2.1, X_isNumberBelow hx (by constructor <;> omega)]
  exact ck01
theorem X_isRequest {V : VV} {S : Su} {P : Pl} (h : CK V S P) {x : Int} (hx : rgI x) : f5_isRequest V x = some (if 0 ≤ x ∧ x < (P.2.2.2.2.2.2.length : Int) then 1 else 0) := by
  have hp := h.pl
  have hr := h.ok.rg
  unfold f5_isRequest
  rw [aP0, hp.2.2.2.2.2.2, X_isNumberBelow hx (by constructor <;> omega)]
  exact ck01
/-- not, and its kin, in numbers -/
theorem n_not {p : Prop} [Decidable p] : (if nrm (if p then (1 : Int) else 0) = 0 then some (1 : Int) else some 0) = some (if p then 0 else 1) := by
  by_cases c : p
  · simp only [c, if_true]; rfl
  · simp only [c, if_false]; rfl
theorem n_if {α : Type} {p : Prop} [Decidable p] {a b : α} : (if nrm (if p then (1 : Int) else 0) = 0 then a else b) = if p then b else a := by
  by_cases c : p
  · simp only [c, if_true]; rfl
  · simp only [c, if_false]; rfl
theorem n_if2 {α : Type} {p : Prop} [Decidable p] {a b : α} : (if nrm (if p then (0 : Int) else 1) = 0 then a else b) = if p then a else b := by
  by_cases c : p
  · simp only [c, if_true]; rfl
  · simp only [c, if_false]; rfl
theorem p01 {p : Prop} [Decidable p] : (if p then (0 : Int) else 1) = 0 ∨ (if p then (0 : Int) else 1) = 1 := by split <;> simp
theorem p10 {p : Prop} [Decidable p] : (if p then (1 : Int) else 0) = 0 ∨ (if p then (1 : Int) else 0) = 1 := by split <;> simp
theorem i10 : ((1 : Int) = 0) = False := eq_false (by decide)
theorem i00 : ((0 : Int) = 0) = True := eq_true rfl
theorem n10 : (nrm 1 = 0) = False := eq_false (by decide +kernel)
theorem n00 : (nrm 0 = 0) = True := eq_true (by decide +kernel)
theorem n11 : (nrm 1 = nrm 1) = True := eq_true rfl
theorem n01 : (nrm 0 = nrm 1) = False := eq_false (by decide +kernel)
theorem y01 {y : Int} (hy : y = 0 ∨ y = 1) : (if nrm y = 0 then some (0 : Int) else some 1) = some y := by rcases hy with e | e <;> subst e <;> decide +kernel
def cnf (S : Su) (y s e : Int) : List Bk → Int
  | [] => 0
  | b :: l => (if cf S b y s e = true then 1 else 0) + cnf S y s e l
theorem X_cntL {V : VV} {S : Su} {P : Pl} (h : CK V S P) {y s d : Int} (hy : y = 0 ∨ y = 1) (hs : -5000 ≤ s ∧ s ≤ 5000) (hd : 1 ≤ d ∧ d ≤ 78) : ∀ (k n i : Nat) (a : Int), k + 1 ≤ n → P.2.2.2.2.2.1.length = i + k → f5_conflictCount_L32 V y s d n a (i : Int) = some (a + cnf S y s (s + d) (P.2.2.2.2.2.1.drop i)) := by
  have hr := h.ok.rg
  have hp := h.pl
  intro k
  induction k with
  | zero =>
    intro n i a hn hl
    obtain ⟨n, rfl⟩ : ∃ m, n = m + 1 := ⟨n - 1, by omega⟩
    rw [f5_conflictCount_L32, List.drop_eq_nil_of_le (by omega)]
    simp (disch := omega) only [ck_t, nrm_of, bd_s, bd2_s, bd3_s, bd4_s, Int.toNat_natCast, aP0, Nat.reduceAdd, Nat.zero_add, i10, i00, hp.2.2.2.2.2.1]
    rw [if_pos (by omega)]
    simp [cnf]
  | succ k ih =>
    intro n i a hn hl
    obtain ⟨n, rfl⟩ : ∃ m, n = m + 1 := ⟨n - 1, by omega⟩
    have hi : i < P.2.2.2.2.2.1.length := by omega
    have hI := fun a => ih n (i + 1) a (by omega) (by omega)
    simp only [Int.natCast_add, Int.natCast_one] at hI
    rw [f5_conflictCount_L32, (h.b hi).1, cnf, X_clashes h hi hy hs hd]
    simp (disch := omega) only [ck_t, nrm_of, bd_s, bd2_s, bd3_s, bd4_s, Int.toNat_natCast, aP0, Nat.reduceAdd, Nat.zero_add, i10, i00, hp.2.2.2.2.2.1]
    rw [if_neg (by omega)]
    by_cases c : cf S (V 54 i, V 55 i, V 56 i, V 57 i) y s (s + d) = true
    · simp only [c, if_true, n10, i10, if_false]
      rw [hI]
      congr 1; omega
    · simp only [c, Bool.false_eq_true, if_true, n00, i00, if_false]
      rw [hI]
      congr 1; omega
theorem okP.pw {S : Su} {P : Pl} (h : okP S P) {i j : Nat} {a b : Bk} (hij : i < j) (ha : P.2.2.2.2.2.1[i]? = some a) (hb : P.2.2.2.2.2.1[j]? = some b) : okO S.1 S.2.1 a b := by
  obtain ⟨hi, ei⟩ := List.getElem?_eq_some_iff.mp ha
  obtain ⟨hj, ej⟩ := List.getElem?_eq_some_iff.mp hb
  have := List.pairwise_iff_getElem.mp h.2.2.2.2.2 i j hi hj hij
  rwa [ei, ej] at this
theorem okP.cf {S : Su} {P : Pl} (h : okP S P) {i j : Nat} {a b : Bk} (hij : i < j) (ha : P.2.2.2.2.2.1[i]? = some a) (hb : P.2.2.2.2.2.1[j]? = some b) : cf S a b.2.1 b.2.2.1 b.2.2.2 = false := decide_eq_false (h.pw hij ha hb).2
theorem CK.of {V V' : VV} {S : Su} {P : Pl} (h : CK V S P) (e0 : V' 0 2 = V 0 2) (e : ∀ k, 9 ≤ k → k < 62 → V' k = V k) : CK V' S P := by
  have hq := h.2.2.1
  refine ⟨rpC_of h.1 (fun k k1 k2 => e k (by omega) (by omega)), ?_, by rw [e0]; exact hq, h.2.2.2⟩
  rw [e0]
  exact rpS_of h.2.2.2.1 h.2.1 (fun k k1 k2 => e k (by unfold aS at k1; omega) (by unfold aS at k2; omega))
theorem aPq {p : Nat} (h : 2 ≤ p) : aP p = 58 + 9 * p := if_neg (by omega)
def nx (z : Int) : Int := if z = 5 then 0 else z + 1
def nn (z : Int) : Int := if 6 ≤ z then z else z + 1
def xrem (V W : VV) (P : Pl) : Prop := (∀ k, k ≠ 0 → ¬ (76 ≤ k ∧ k < 130) → W k = V k) ∧ (∀ i, i ≠ 7 → i ≠ 8 → W 0 i = V 0 i) ∧ W 0 7 = nx (V 0 7) ∧ W 0 8 = nn (V 0 8) ∧ rpC W (aP ((W 0 7).toNat + 2)) P ∧ ∀ q, q < 6 → q ≠ (W 0 7).toNat → ∀ c, aP (q + 2) ≤ c → c < aP (q + 2) + 9 → W c = V c
theorem X_rem {V : VV} {S : Su} {P : Pl} (hck : CK V S P) (p12 : 0 ≤ V 0 7 ∧ V 0 7 ≤ 5) (p45 : 0 ≤ V 0 8 ∧ V 0 8 ≤ 6) : ∃ W : VV, f5_remember V = some W ∧ xrem V W P ∧ CK W S P := by
  obtain ⟨p1, p2⟩ := p12
  obtain ⟨p4, p5⟩ := p45
  have e1 : (if nrm (V 0 7) = nrm 5 then some (0 : Int) else some ((V 0 7) + 1)) = some (nx (V 0 7)) := by
    unfold nx
    simp (disch := omega) only [nrm_of]
    split <;> rfl
  have hL : 0 ≤ nx (V 0 7) ∧ nx (V 0 7) < 6 := by unfold nx; split <;> omega
  unfold f5_remember
  rw [e1]
  simp only [bd_s, up2_s]
  obtain ⟨L, hL1⟩ : ∃ L : Nat, nx (V 0 7) = (L : Int) := ⟨(nx (V 0 7)).toNat, by omega⟩
  rw [hL1] at hL ⊢
  rw [ck_t hL, Int.toNat_natCast]
  obtain ⟨W, g1, g2, g3⟩ := X_copyP (V := up2 V 0 7 (L : Int)) (p := L + 2) (q := 0) (by omega) (by omega) (by omega) (rpC_of hck.1 (fun k k1 k2 => up2_r (by rw [aP0] at k1; omega))) hck.ok
  have haL := aPq (p := L + 2) (by omega)
  rw [g1]
  simp only [bd_s]
  have w0 : W 0 = up2 V 0 7 (L : Int) 0 := g2 0 (by omega)
  have w8 : W 0 8 = V 0 8 := by rw [w0, up2_n (by omega)]
  have wk : ∀ k, k ≠ 0 → ¬ (76 ≤ k ∧ k < 130) → W k = V k := fun k k1 k2 => by rw [g2 k (by omega), up2_r k1]
  have wi : ∀ i, i ≠ 7 → W 0 i = V 0 i := fun i hi => by rw [w0, up2_n (by omega)]
  have w7 : W 0 7 = (L : Int) := by rw [w0, up2_s]
  have wq : ∀ q, q < 6 → q ≠ L → ∀ c, aP (q + 2) ≤ c → c < aP (q + 2) + 9 → W c = V c := fun q q1 q2 c c1 c2 => by
    rw [aPq (by omega)] at c1 c2
    rw [g2 c (by omega), up2_r (by omega)]
  have wc : CK W S P := hck.of (wi 2 (by omega)) (fun k k1 k2 => wk k (by omega) (by omega))
  simp (disch := omega) only [w8, nrm_of]
  by_cases c : 6 ≤ V 0 8
  · rw [if_pos c]
    refine ⟨W, rfl, ⟨wk, fun i hi _ => wi i hi, by rw [w7, hL1], by rw [w8]; exact (if_pos c).symm, by rw [w7, Int.toNat_natCast]; exact g3, by rw [w7, Int.toNat_natCast]; exact wq⟩, wc⟩
  · rw [if_neg c]
    have u : ∀ k, k ≠ 0 → up2 W 0 8 (V 0 8 + 1) k = W k := fun k hk => up2_r hk
    have u7 : up2 W 0 8 (V 0 8 + 1) 0 7 = (L : Int) := by rw [up2_n (by omega), w7]
    refine ⟨up2 W 0 8 (V 0 8 + 1), rfl, ⟨fun k k1 k2 => by rw [u k k1, wk k k1 k2], fun i hi hi2 => by rw [up2_n (by omega), wi i hi], by rw [u7, hL1], by rw [up2_s]; exact (if_neg c).symm, ?_, ?_⟩, wc.of (up2_n (by omega)) (fun k k1 k2 => u k (by omega))⟩
    · rw [u7, Int.toNat_natCast]
      exact rpC_of g3 (fun k k1 k2 => u k (by omega))
    · rw [u7, Int.toNat_natCast]
      intro q q1 q2 c c1 c2
      rw [u c (by rw [aPq (by omega)] at c1; omega)]
      exact wq q q1 q2 c c1 c2
def bk (P : Pl) (x : Int) : Bk := P.2.2.2.2.2.1.getD x.toNat (0, 0, 0, 0)
theorem bk_x {V : VV} {S : Su} {P : Pl} (h : CK V S P) {i : Nat} (hi : i < P.2.2.2.2.2.1.length) : bk P (i : Int) = (V 54 i, V 55 i, V 56 i, V 57 i) := by
  unfold bk
  rw [Int.toNat_natCast, List.getD_eq_getElem?_getD, (h.b hi).2.1]
  rfl
def rqq (P : Pl) (x : Int) : Bk := P.2.2.2.2.2.2.getD x.toNat (0, 0, 0, 0)
theorem rqq_x {V : VV} {S : Su} {P : Pl} (h : CK V S P) {i : Nat} (hi : i < P.2.2.2.2.2.2.length) : rqq P (i : Int) = (V 58 i, V 59 i, V 60 i, V 61 i) := by
  unfold rqq
  rw [Int.toNat_natCast, List.getD_eq_getElem?_getD, (h.r hi).2.1]
  rfl
abbrev isSp (S : Su) (x : Int) : Prop := 0 ≤ x ∧ x < (S.2.2.length : Int)
abbrev isBk (P : Pl) (x : Int) : Prop := 0 ≤ x ∧ x < (P.2.2.2.2.2.1.length : Int)
abbrev isRq (P : Pl) (x : Int) : Prop := 0 ≤ x ∧ x < (P.2.2.2.2.2.2.length : Int)
abbrev bkC (S : Su) (P : Pl) (x y s : Int) : Prop := P.2.1 ≤ s ∧ P.2.2.2.2.2.1.length < 20 ∧ frB S P.2.2.2.2.2.1 y (tr S P.1 x) (-1) s = true
def bkF (S : Su) (P : Pl) (x y s : Int) : Int := if isSp S x then (if 0 ≤ s ∧ s ≤ 999 then (if bkC S P x y s then 0 else 3) else 2) else 1
abbrev rqC (S : Su) (P : Pl) (x y e la : Int) : Prop := P.2.2.2.2.2.2.length < 8 ∨ sts S P x y e la ≠ -1
abbrev isWi (e la : Int) : Prop := (0 ≤ e ∧ e ≤ 999) ∧ (e ≤ la ∧ la ≤ 999)
def rqF (S : Su) (P : Pl) (x y e la : Int) : Int := if isSp S x then (if isWi e la then (if rqC S P x y e la then 0 else 3) else 2) else 1
def cnF (P : Pl) (x : Int) : Int := if isBk P x then (if (bk P x).2.2.1 ≤ P.2.1 then 3 else 0) else 1
def adF (P : Pl) (x : Int) : Int := if 1 ≤ x ∧ x ≤ 500 then (if P.2.1 + x ≤ 1200 then 0 else 3) else 2
theorem X_bookFault {V : VV} {S : Su} {P : Pl} (h : CK V S P) {x y s : Int} (hx : rgI x) (hy : y = 0 ∨ y = 1) (hs : rgI s) : f5_bookFault V x y s = some (bkF S P x y s) := by
  have hr := h.ok.rg
  have hp := h.pl
  unfold f5_bookFault bkF
  rw [X_isShip h hx]
  by_cases c : isSp S x
  · rw [if_pos c, if_pos c, X_isWithin hs (by constructor <;> omega) (by constructor <;> omega)]
    by_cases c2 : 0 ≤ s ∧ s ≤ 999
    · obtain ⟨t1, t2, t3⟩ := X_transitOf h c
      rw [if_pos c2, if_pos c2, t1]
      simp only [bd_s, n10, if_false]
      rw [X_firstClash h hy (by omega) ⟨t2, t3⟩ (by omega)]
      have hrg : -1 ≤ fcl S P.2.2.2.2.2.1 y s (s + tr S P.1 x) (-1) ∧ fcl S P.2.2.2.2.2.1 y s (s + tr S P.1 x) (-1) ≤ 20 := by
        unfold fcl
        rcases ffi_rg (P := fun i b => decide ((i : Int) ≠ -1) && cf S b y s (s + tr S P.1 x)) (l := P.2.2.2.2.2.1) (i := 0) with q | q <;> omega
      have hfr : (frB S P.2.2.2.2.2.1 y (tr S P.1 x) (-1) s = true) = (fcl S P.2.2.2.2.2.1 y s (s + tr S P.1 x) (-1) = -1) := by unfold frB; simp
      simp only [bkC, hfr]
      generalize fcl S P.2.2.2.2.2.1 y s (s + tr S P.1 x) (-1) = z at *
      simp (disch := omega) only [bd_s, aP0, hp.2.1, hp.2.2.2.2.2.1, nrm_of]
      by_cases c3 : s < P.2.1
      · rw [if_pos c3, if_neg (by omega)]
        simp only [bd_s, i00, n00, if_true]
      · rw [if_neg c3]
        by_cases c4 : 20 ≤ (P.2.2.2.2.2.1.length : Int)
        · rw [if_pos c4, if_neg (by omega)]
          simp only [bd_s, i00, n00, if_true]
        · rw [if_neg c4]
          by_cases c5 : z = -1
          · rw [if_pos c5, if_pos ⟨by omega, by omega, c5⟩]
            simp only [bd_s, i10, n10, if_false]
          · rw [if_neg c5, if_neg (fun q => c5 q.2.2)]
            simp only [bd_s, i00, n00, if_true]
    · rw [if_neg c2, if_neg c2]
      simp only [bd_s, n10, n00, if_false, if_true]
  · rw [if_neg c, if_neg c]
    simp only [bd_s, n00, if_true]
theorem X_requestFault {V : VV} {S : Su} {P : Pl} (h : CK V S P) {x y e la : Int} (hx : rgI x) (hy : y = 0 ∨ y = 1) (he : rgI e) (hl : rgI la) : f5_requestFault V x y e la = some (rqF S P x y e la) := by
  have hr := h.ok.rg
  have hp := h.pl
  unfold f5_requestFault rqF
  rw [X_isShip h hx]
  by_cases c : isSp S x
  · rw [if_pos c, if_pos c, X_isWithin he (by constructor <;> omega) (by constructor <;> omega)]
    by_cases c2 : 0 ≤ e ∧ e ≤ 999
    · rw [if_pos c2, X_isWithin hl he (by constructor <;> omega)]
      by_cases c3 : e ≤ la ∧ la ≤ 999
      · rw [if_pos c3, if_pos (show isWi e la from ⟨c2, c3⟩), X_startToServe h c hy c2 (by omega)]
        have hsr := sts_rg (x := x) (y := y) h.ok c2 c3.2
        simp only [rqC]
        generalize sts S P x y e la = z at *
        simp (disch := omega) only [bd_s, n10, i10, i00, if_false, aP0, hp.2.2.2.2.2.2, nrm_of]
        by_cases c4 : (P.2.2.2.2.2.2.length : Int) < 8
        · rw [if_pos c4, if_pos (Or.inl (by omega))]
          simp only [bd_s, i10, n10, if_false]
        · rw [if_neg c4]
          by_cases c5 : z = -1
          · rw [if_pos c5, if_neg (by omega)]
            simp only [bd_s, i00, n00, if_true]
          · rw [if_neg c5, if_pos (Or.inr c5)]
            simp only [bd_s, i10, n10, if_false]
      · rw [if_neg c3, if_neg (show ¬ isWi e la from fun q => c3 q.2)]
        simp only [bd_s, n10, n00, if_false, if_true]
    · rw [if_neg c2, if_neg (show ¬ isWi e la from fun q => c2 q.1)]
      simp only [bd_s, n10, n00, if_false, if_true]
  · rw [if_neg c, if_neg c]
    simp only [bd_s, n00, if_true]
theorem X_cancelFault {V : VV} {S : Su} {P : Pl} (h : CK V S P) {x : Int} (hx : rgI x) : f5_cancelFault V x = some (cnF P x) := by
  have hr := h.ok.rg
  have hp := h.pl
  unfold f5_cancelFault cnF
  rw [X_isBooking h hx]
  by_cases c : isBk P x
  · obtain ⟨i, rfl⟩ : ∃ i : Nat, x = (i : Int) := ⟨x.toNat, by omega⟩
    have hi : i < P.2.2.2.2.2.1.length := by omega
    obtain ⟨-, -, b3⟩ := h.b hi
    obtain ⟨u1, u2, u3, u4, u5, u6, u7⟩ := b3
    simp only at u1 u2 u3 u4 u5 u6 u7
    rw [if_pos c, if_pos c, bk_x h hi]
    simp (disch := omega) only [bd_s, n10, i10, i00, if_false, ck_t, aP0, Nat.reduceAdd, Int.toNat_natCast, hp.2.1, nrm_of]
    by_cases c2 : P.2.1 < V 56 i
    · rw [if_pos c2, if_neg (by omega)]
    · rw [if_neg c2, if_pos (by omega)]
  · rw [if_neg c, if_neg c]
    simp only [bd_s, n00, if_true]
theorem X_advanceFault {V : VV} {S : Su} {P : Pl} (h : CK V S P) {x : Int} (hx : rgI x) : f5_advanceFault V x = some (adF P x) := by
  have hr := h.ok.rg
  have hp := h.pl
  unfold f5_advanceFault adF
  rw [X_isWithin hx (by constructor <;> omega) (by constructor <;> omega)]
  by_cases c : 1 ≤ x ∧ x ≤ 500
  · rw [if_pos c, if_pos c]
    simp (disch := omega) only [bd_s, n10, i10, i00, if_false, aP0, hp.2.1, nrm_of]
    split <;> rfl
  · rw [if_neg c, if_neg c]
    simp only [bd_s, n00, if_true]
/-- a withdrawal -/
theorem X_withdraw {V : VV} {S : Su} {P : Pl} (h : CK V S P) {i : Nat} (hi : i < P.2.2.2.2.2.2.length) : ∃ V' : VV, f1_removeRequest V 0 (i : Int) = some V' ∧ fr0 V V' ∧ CK V' S (remRP P i) := by
  obtain ⟨V1, g1, g2, g3⟩ := X_removeRequest h.1 hi h.ok.rg.2.2.2 (fun b hb => (h.ok.2.2.2.2.1 b hb).2.2.1)
  exact ⟨V1, g1, g2, h.mut g2 g3 (okP_remR h.ok i)⟩
theorem frB_c {S : Su} {P : Pl} {x y s : Int} (h : bkC S P x y s) : P.2.2.2.2.2.1.length < 20 ∧ frB S P.2.2.2.2.2.1 y (tr S P.1 x) (-1) s = true := h.2
theorem bd_q {α β : Type} {x : α} {f : α → Option β} : bd (some x) f = f x := Eq.trans bd_s rfl
theorem tn_ti (x : Int32) : x.toInt = if 2 * x.toBitVec.toNat < 4294967296 then (x.toBitVec.toNat : Int) else (x.toBitVec.toNat : Int) - 4294967296 := BitVec.toInt_eq_toNat_cond _
theorem nI_ti {n : Nat} (h : n < 2147483648) : (nI n).toInt = (n : Int) := by rw [iI_nI, iI_toInt ⟨by omega, by omega⟩]
theorem aI_255 (z : Int) : aI z 255 = nrm z % 256 := by
  unfold aI nrm
  rw [show iI 255 = (255 : Int32) from rfl, pk_and (iI z) 8 (by decide +kernel)]
  have hl : (iI z).toBitVec.toNat < 4294967296 := (iI z).toBitVec.isLt
  have h1 := tn_ti (iI z)
  rw [nI_ti (by have := Nat.mod_lt (iI z).toBitVec.toNat (show 0 < 2 ^ 8 by decide); omega), h1]
  show (((iI z).toBitVec.toNat % 256 : Nat) : Int) = _
  split <;> omega
theorem sI_24 (z : Int) : sI z 24 = nrm z / 16777216 := by
  unfold sI nrm
  rw [pk_shr _ _ 24 (by decide +kernel), Int.shiftRight_eq_div_pow]; rfl
theorem sI_16 (z : Int) : sI z 16 = nrm z / 65536 := by
  unfold sI nrm
  rw [pk_shr _ _ 16 (by decide +kernel), Int.shiftRight_eq_div_pow]; rfl
theorem sI_8 (z : Int) : sI z 8 = nrm z / 256 := by
  unfold sI nrm
  rw [pk_shr _ _ 8 (by decide +kernel), Int.shiftRight_eq_div_pow]; rfl
theorem sI_0 (z : Int) : sI z 0 = nrm z := by
  unfold sI nrm
  rw [pk_shr _ _ 0 (by decide +kernel), Int.shiftRight_eq_div_pow]; simp
theorem nrm_sI (a b : Int) : nrm (sI a b) = sI a b := by
  unfold nrm sI; rw [← iI_of]
theorem uI_tn (z k : Int) (n : Nat) (h : (((iI k).toUInt32 &&& Int32.toUInt32 31).toBitVec % 32).toNat = n) (h8 : 256 ≤ 2 ^ n) : uI z k = (((iI z).toBitVec.toNat / 2 ^ n : Nat) : Int) := by
  unfold uI
  have h1 := pk_ushr (iI z) (iI k) n h
  have hl : (iI z).toBitVec.toNat < 4294967296 := (iI z).toBitVec.isLt
  have h2 : (iI z).toBitVec.toNat / 2 ^ n ≤ (iI z).toBitVec.toNat / 256 := Nat.div_le_div_left h8 (by omega)
  rw [tn_ti, h1, if_pos (by omega)]
theorem by24 (z : Int) : wB (wB (uI z 24)) = wB (aI (sI z 24) 255) := by
  rw [uI_tn z 24 24 (by decide +kernel) (by decide), aI_255, nrm_sI, sI_24]
  have h1 := tn_ti (iI z)
  have hl : (iI z).toBitVec.toNat < 4294967296 := (iI z).toBitVec.isLt
  unfold nrm wB
  show (((((iI z).toBitVec.toNat / 16777216 : Nat) : Int) + 128) % 256 - 128 + 128) % 256 - 128 = _
  rw [h1]
  split <;> omega
theorem by16 (z : Int) : wB (wB (uI z 16)) = wB (aI (sI z 16) 255) := by
  rw [uI_tn z 16 16 (by decide +kernel) (by decide), aI_255, nrm_sI, sI_16]
  have h1 := tn_ti (iI z)
  have hl : (iI z).toBitVec.toNat < 4294967296 := (iI z).toBitVec.isLt
  unfold nrm wB
  show (((((iI z).toBitVec.toNat / 65536 : Nat) : Int) + 128) % 256 - 128 + 128) % 256 - 128 = _
  rw [h1]
  split <;> omega
theorem by8 (z : Int) : wB (wB (uI z 8)) = wB (aI (sI z 8) 255) := by
  rw [uI_tn z 8 8 (by decide +kernel) (by decide), aI_255, nrm_sI, sI_8]
  have h1 := tn_ti (iI z)
  have hl : (iI z).toBitVec.toNat < 4294967296 := (iI z).toBitVec.isLt
  unfold nrm wB
  show (((((iI z).toBitVec.toNat / 256 : Nat) : Int) + 128) % 256 - 128 + 128) % 256 - 128 = _
  rw [h1]
  split <;> omega
theorem by0 {z : Int} (h : rgI z) : wB (wB z) = wB (aI (sI z 0) 255) := by
  rw [aI_255, nrm_sI, sI_0, nrm_of h.1 h.2]
  unfold wB; omega
def by4 (z : Int) : List Int := [aI (sI z 24) 255, aI (sI z 16) 255, aI (sI z 8) 255, aI (sI z 0) 255]
theorem by4_rg {z c : Int} (h : c ∈ by4 z) : 0 ≤ c ∧ c ≤ 255 := by
  unfold by4 at h
  simp only [List.mem_cons, List.not_mem_nil, or_false, aI_255] at h
  omega
def apX (V : VV) (n : Nat) : List Int → VV
  | [] => V
  | z :: l => apX (up2 (up2 V 2 n (wB z)) 1 1 ((n : Int) + 1)) (n + 1) l
theorem apX_app {V : VV} {l l2 : List Int} : ∀ {n : Nat}, apX (apX V n l) (n + l.length) l2 = apX V n (l ++ l2) := by
  induction l generalizing V with
  | nil => intro n; rfl
  | cons z l ih => intro n; show apX (apX _ (n + 1) l) (n + (l.length + 1)) l2 = apX _ (n + 1) (l ++ l2); rw [← ih]; congr 1; omega
theorem apX_k {l : List Int} : ∀ {V : VV} {n k : Nat}, k ≠ 1 → k ≠ 2 → apX V n l k = V k := by
  induction l with
  | nil => intro V n k _ _; rfl
  | cons z l ih => intro V n k h1 h2; show apX _ (n + 1) l k = V k; rw [ih h1 h2, up2_r h1, up2_r h2]
theorem apX_1 {l : List Int} : ∀ {V : VV} {n : Nat}, V 1 1 = (n : Int) → apX V n l 1 1 = ((n + l.length : Nat) : Int) ∧ ∀ i, i ≠ 1 → apX V n l 1 i = V 1 i := by
  induction l with
  | nil => intro V n h; exact ⟨h, fun _ _ => rfl⟩
  | cons z l ih =>
    intro V n h
    obtain ⟨h1, h2⟩ := ih (V := up2 (up2 V 2 n (wB z)) 1 1 ((n : Int) + 1)) (n := n + 1) (by rw [up2_s]; omega)
    refine ⟨?_, fun i hi => ?_⟩
    · show apX _ (n + 1) l 1 1 = _
      rw [h1, List.length_cons]; omega
    · show apX _ (n + 1) l 1 i = _
      rw [h2 i hi, up2_n (by omega), up2_n (by omega)]
theorem apX_2 {l : List Int} : ∀ {V : VV} {n j : Nat}, apX V n l 2 j = if n ≤ j ∧ j < n + l.length then wB (l.getD (j - n) 0) else V 2 j := by
  induction l with
  | nil => intro V n j; rw [if_neg (by simp)]; rfl
  | cons z l ih =>
    intro V n j
    show apX _ (n + 1) l 2 j = _
    rw [ih, List.length_cons]
    by_cases e : j = n
    · subst e
      rw [if_neg (by omega), if_pos (by omega), up2_n (by omega), up2_s, Nat.sub_self]
      rfl
    · by_cases e2 : n + 1 ≤ j ∧ j < n + 1 + l.length
      · rw [if_pos e2, if_pos (by omega)]
        obtain ⟨m, hm⟩ : ∃ m, j - n = m + 1 := ⟨j - n - 1, by omega⟩
        rw [hm, List.getD_cons_succ, show j - (n + 1) = m by omega]
      · rw [if_neg e2, if_neg (by omega), up2_n (by omega), up2_n (by omega)]
theorem X_putByte {V : VV} {n : Nat} {x z : Int} (h : V 1 1 = (n : Int)) (hn : n < 600) (hz : wB (wB x) = wB z) : f0_putByte V x = some (up2 (up2 V 2 n (wB z)) 1 1 ((n : Int) + 1)) := by
  unfold f0_putByte
  simp (disch := omega) only [h, nrm_of]
  rw [if_neg (by omega), ck_t (by omega), Int.toNat_natCast, hz, up2_n (show (1 : Nat) ≠ 2 ∨ 1 ≠ n by omega), h]
theorem X_putFour {V : VV} {n : Nat} {x : Int} (hx : rgI x) (h : V 1 1 = (n : Int)) (hn : n + 4 ≤ 600) : f0_putFour V x = some (apX V n (by4 x)) := by
  unfold f0_putFour
  rw [X_putByte (z := aI (sI x 24) 255) h (by omega) (by24 x), bd_s, X_putByte (n := n + 1) (z := aI (sI x 16) 255) (by rw [up2_s]; omega) (by omega) (by16 x), bd_s, X_putByte (n := n + 2) (z := aI (sI x 8) 255) (by rw [up2_s]; omega) (by omega) (by8 x), bd_s, X_putByte (n := n + 3) (z := aI (sI x 0) 255) (by rw [up2_s]; omega) (by omega) (by0 hx), bd_s]
  rfl
theorem by4_len (x : Int) : (by4 x).length = 4 := rfl
