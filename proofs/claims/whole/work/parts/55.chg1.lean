/-! the refusals of the changes, and the changes -/
def bk (P : Pl) (x : Int) : Bk := P.2.2.2.2.2.1.getD x.toNat (0, 0, 0, 0)
theorem bk_x {V : VV} {S : Su} {P : Pl} (h : CK V S P) {i : Nat} (hi : i < P.2.2.2.2.2.1.length) : bk P (i : Int) = (V 54 i, V 55 i, V 56 i, V 57 i) := by
  unfold bk
  rw [Int.toNat_natCast, List.getD_eq_getElem?_getD, (h.b hi).2.1]
  rfl
theorem bk_m {V : VV} {S : Su} {P : Pl} (h : MK V S P) {i : Nat} (hi : i < P.2.2.2.2.2.1.length) : bk P (i : Int) = (V 149 (110 + 4 * i), V 149 (110 + 4 * i + 1), V 149 (110 + 4 * i + 2), V 149 (110 + 4 * i + 3)) := by
  unfold bk
  rw [Int.toNat_natCast, List.getD_eq_getElem?_getD, (h.b hi).2.1]
  rfl
def rqq (P : Pl) (x : Int) : Bk := P.2.2.2.2.2.2.getD x.toNat (0, 0, 0, 0)
theorem rqq_x {V : VV} {S : Su} {P : Pl} (h : CK V S P) {i : Nat} (hi : i < P.2.2.2.2.2.2.length) : rqq P (i : Int) = (V 58 i, V 59 i, V 60 i, V 61 i) := by
  unfold rqq
  rw [Int.toNat_natCast, List.getD_eq_getElem?_getD, (h.r hi).2.1]
  rfl
theorem rqq_m {V : VV} {S : Su} {P : Pl} (h : MK V S P) {i : Nat} (hi : i < P.2.2.2.2.2.2.length) : rqq P (i : Int) = (V 149 (194 + 4 * i), V 149 (194 + 4 * i + 1), V 149 (194 + 4 * i + 2), V 149 (194 + 4 * i + 3)) := by
  unfold rqq
  rw [Int.toNat_natCast, List.getD_eq_getElem?_getD, (h.r hi).2.1]
  rfl
abbrev isSp (S : Su) (x : Int) : Prop := 0 ≤ x ∧ x < (S.2.2.length : Int)
abbrev isBk (P : Pl) (x : Int) : Prop := 0 ≤ x ∧ x < (P.2.2.2.2.2.1.length : Int)
abbrev isRq (P : Pl) (x : Int) : Prop := 0 ≤ x ∧ x < (P.2.2.2.2.2.2.length : Int)
abbrev bkC (S : Su) (P : Pl) (x y s : Int) : Prop := P.2.1 ≤ s ∧ P.2.2.2.2.2.1.length < 20 ∧ frB S P.2.2.2.2.2.1 y (tr S P.1 x) (-1) s = true
def bkF (S : Su) (P : Pl) (x y s : Int) : Int := if isSp S x then (if 0 ≤ s ∧ s ≤ 999 then (if bkC S P x y s then 0 else 3) else 2) else 1
abbrev rqC (S : Su) (P : Pl) (x y e la : Int) : Prop := P.2.2.2.2.2.2.length < 8 ∨ sts S P x y e la ≠ -1
abbrev isWi (e la : Int) : Prop := (0 ≤ e ∧ e ≤ 999) ∧ (e ≤ la ∧ la ≤ 999)
def rqF (S : Su) (P : Pl) (x y e la : Int) : Int := if isSp S x then (if isWi e la then (if rqC S P x y e la then 0 else 3) else 2) else 1
def cnF (P : Pl) (x : Int) : Int := if isBk P x then (if (bk P x).2.2.1 ≤ P.2.1 then 3 else 0) else 1
def mvF (S : Su) (P : Pl) (x s : Int) : Int := if isBk P x then (if 0 ≤ s ∧ s ≤ 999 then (if hnd S P x.toNat (bk P x) s = 0 then 0 else 3) else 2) else 1
def adF (P : Pl) (x : Int) : Int := if 1 ≤ x ∧ x ≤ 500 then (if P.2.1 + x ≤ 1200 then 0 else 3) else 2
theorem X_bookFault {V : VV} {S : Su} {P : Pl} (h : CK V S P) {x y s : Int} (hx : rgI x) (hy : y = 0 ∨ y = 1) (hs : rgI s) : f5_bookFault V x y s = some (bkF S P x y s) := by
  have hr := h.ok.rg
  have hp := h.pl
  unfold f5_bookFault bkF
  rw [X_isShip h hx]
  by_cases c : isSp S x
  · rw [if_pos c, if_pos c, X_isWithin hs (by constructor <;> omega) (by constructor <;> omega)]
    by_cases c2 : 0 ≤ s ∧ s ≤ 999
    · obtain ⟨t1, t2, t3⟩ := X_transitOf h c
      rw [if_pos c2, if_pos c2, t1]
      simp only [bd_s, n10, if_false]
      rw [X_firstClash h hy (by omega) ⟨t2, t3⟩ (by omega)]
      have hrg : -1 ≤ fcl S P.2.2.2.2.2.1 y s (s + tr S P.1 x) (-1) ∧ fcl S P.2.2.2.2.2.1 y s (s + tr S P.1 x) (-1) ≤ 20 := by
        unfold fcl
        rcases ffi_rg (P := fun i b => decide ((i : Int) ≠ -1) && cf S b y s (s + tr S P.1 x)) (l := P.2.2.2.2.2.1) (i := 0) with q | q <;> omega
      have hfr : (frB S P.2.2.2.2.2.1 y (tr S P.1 x) (-1) s = true) = (fcl S P.2.2.2.2.2.1 y s (s + tr S P.1 x) (-1) = -1) := by unfold frB; simp
      simp only [bkC, hfr]
      generalize fcl S P.2.2.2.2.2.1 y s (s + tr S P.1 x) (-1) = z at *
      simp (disch := omega) only [bd_s, aP0, hp.2.1, hp.2.2.2.2.2.1, nrm_of]
      by_cases c3 : s < P.2.1
      · rw [if_pos c3, if_neg (by omega)]
        simp only [bd_s, i00, n00, if_true]
      · rw [if_neg c3]
        by_cases c4 : 20 ≤ (P.2.2.2.2.2.1.length : Int)
        · rw [if_pos c4, if_neg (by omega)]
          simp only [bd_s, i00, n00, if_true]
        · rw [if_neg c4]
          by_cases c5 : z = -1
          · rw [if_pos c5, if_pos ⟨by omega, by omega, c5⟩]
            simp only [bd_s, i10, n10, if_false]
          · rw [if_neg c5, if_neg (fun q => c5 q.2.2)]
            simp only [bd_s, i00, n00, if_true]
    · rw [if_neg c2, if_neg c2]
      simp only [bd_s, n10, n00, if_false, if_true]
  · rw [if_neg c, if_neg c]
    simp only [bd_s, n00, if_true]
theorem M_canBook {V : VV} {S : Su} {P : Pl} (h : MK V S P) {x y s : Int} (hx : isSp S x) (hy : y = 0 ∨ y = 1) (hs : 0 ≤ s ∧ s ≤ 999) : f6_canBook V x y s = some (if bkC S P x y s then 1 else 0) := by
  have hr := h.ok.rg
  have hp := h.pl
  unfold f6_canBook
  rw [M_conflicting h hx hy (by omega) (by omega)]
  have hrg : -1 ≤ fcl S P.2.2.2.2.2.1 y s (s + tr S P.1 x) (-1) ∧ fcl S P.2.2.2.2.2.1 y s (s + tr S P.1 x) (-1) ≤ 20 := by
    unfold fcl
    rcases ffi_rg (P := fun i b => decide ((i : Int) ≠ -1) && cf S b y s (s + tr S P.1 x)) (l := P.2.2.2.2.2.1) (i := 0) with q | q <;> omega
  have hfr : (frB S P.2.2.2.2.2.1 y (tr S P.1 x) (-1) s = true) = (fcl S P.2.2.2.2.2.1 y s (s + tr S P.1 x) (-1) = -1) := by unfold frB; simp
  simp only [bkC, hfr]
  generalize fcl S P.2.2.2.2.2.1 y s (s + tr S P.1 x) (-1) = z at *
  simp (disch := omega) only [bd_s, hp.2.1, hp.2.2.2.2.2.1, nrm_of]
  by_cases c3 : s < P.2.1
  · rw [if_pos c3, if_neg (by omega)]
  · rw [if_neg c3]
    by_cases c4 : 20 ≤ (P.2.2.2.2.2.1.length : Int)
    · rw [if_pos c4, if_neg (by omega)]
    · rw [if_neg c4]
      by_cases c5 : z = -1
      · rw [if_pos c5, if_pos ⟨by omega, by omega, c5⟩]
      · rw [if_neg c5, if_neg (fun q => c5 q.2.2)]
theorem X_requestFault {V : VV} {S : Su} {P : Pl} (h : CK V S P) {x y e la : Int} (hx : rgI x) (hy : y = 0 ∨ y = 1) (he : rgI e) (hl : rgI la) : f5_requestFault V x y e la = some (rqF S P x y e la) := by
  have hr := h.ok.rg
  have hp := h.pl
  unfold f5_requestFault rqF
  rw [X_isShip h hx]
  by_cases c : isSp S x
  · rw [if_pos c, if_pos c, X_isWithin he (by constructor <;> omega) (by constructor <;> omega)]
    by_cases c2 : 0 ≤ e ∧ e ≤ 999
    · rw [if_pos c2, X_isWithin hl he (by constructor <;> omega)]
      by_cases c3 : e ≤ la ∧ la ≤ 999
      · rw [if_pos c3, if_pos (show isWi e la from ⟨c2, c3⟩), X_startToServe h c hy c2 (by omega)]
        have hsr := sts_rg (x := x) (y := y) h.ok c2 c3.2
        simp only [rqC]
        generalize sts S P x y e la = z at *
        simp (disch := omega) only [bd_s, n10, i10, i00, if_false, aP0, hp.2.2.2.2.2.2, nrm_of]
        by_cases c4 : (P.2.2.2.2.2.2.length : Int) < 8
        · rw [if_pos c4, if_pos (Or.inl (by omega))]
          simp only [bd_s, i10, n10, if_false]
        · rw [if_neg c4]
          by_cases c5 : z = -1
          · rw [if_pos c5, if_neg (by omega)]
            simp only [bd_s, i00, n00, if_true]
          · rw [if_neg c5, if_pos (Or.inr c5)]
            simp only [bd_s, i10, n10, if_false]
      · rw [if_neg c3, if_neg (show ¬ isWi e la from fun q => c3 q.2)]
        simp only [bd_s, n10, n00, if_false, if_true]
    · rw [if_neg c2, if_neg (show ¬ isWi e la from fun q => c2 q.1)]
      simp only [bd_s, n10, n00, if_false, if_true]
  · rw [if_neg c, if_neg c]
    simp only [bd_s, n00, if_true]
theorem M_canRequest {V : VV} {S : Su} {P : Pl} (h : MK V S P) {x y e la : Int} (hx : isSp S x) (hy : y = 0 ∨ y = 1) (hw : isWi e la) : f6_canRequest V x y e la = some (if rqC S P x y e la then 1 else 0) := by
  have hr := h.ok.rg
  have hp := h.pl
  unfold f6_canRequest
  rw [M_servingMinute h hx hy hw.1 (by omega)]
  have hsr := sts_rg (x := x) (y := y) h.ok hw.1 hw.2.2
  simp only [rqC]
  generalize sts S P x y e la = z at *
  simp (disch := omega) only [bd_s, hp.2.2.2.2.2.2, nrm_of]
  by_cases c4 : (P.2.2.2.2.2.2.length : Int) < 8
  · rw [if_pos c4, if_pos (Or.inl (by omega))]
  · rw [if_neg c4]
    by_cases c5 : z = -1
    · rw [if_pos c5, if_neg (by omega)]
    · rw [if_neg c5, if_pos (Or.inr c5)]
theorem X_cancelFault {V : VV} {S : Su} {P : Pl} (h : CK V S P) {x : Int} (hx : rgI x) : f5_cancelFault V x = some (cnF P x) := by
  have hr := h.ok.rg
  have hp := h.pl
  unfold f5_cancelFault cnF
  rw [X_isBooking h hx]
  by_cases c : isBk P x
  · obtain ⟨i, rfl⟩ : ∃ i : Nat, x = (i : Int) := ⟨x.toNat, by omega⟩
    have hi : i < P.2.2.2.2.2.1.length := by omega
    obtain ⟨-, -, b3⟩ := h.b hi
    obtain ⟨u1, u2, u3, u4, u5, u6, u7⟩ := b3
    simp only at u1 u2 u3 u4 u5 u6 u7
    rw [if_pos c, if_pos c, bk_x h hi]
    simp (disch := omega) only [bd_s, n10, i10, i00, if_false, ck_t, aP0, Nat.reduceAdd, Int.toNat_natCast, hp.2.1, nrm_of]
    by_cases c2 : P.2.1 < V 56 i
    · rw [if_pos c2, if_neg (by omega)]
    · rw [if_neg c2, if_pos (by omega)]
  · rw [if_neg c, if_neg c]
    simp only [bd_s, n00, if_true]
theorem hnd_rg {S : Su} {P : Pl} {i : Nat} {b : Bk} {s : Int} : 0 ≤ hnd S P i b s ∧ hnd S P i b s ≤ 3 := by
  unfold hnd
  split
  · omega
  · split
    · omega
    · split <;> omega
theorem X_moveFault {V : VV} {S : Su} {P : Pl} (h : CK V S P) {x s : Int} (hx : rgI x) (hs : rgI s) : f5_moveFault V x s = some (mvF S P x s) := by
  unfold f5_moveFault mvF
  rw [X_isBooking h hx]
  by_cases c : isBk P x
  · obtain ⟨i, rfl⟩ : ∃ i : Nat, x = (i : Int) := ⟨x.toNat, by omega⟩
    have hi : i < P.2.2.2.2.2.1.length := by omega
    rw [if_pos c, if_pos c, X_isWithin hs (by constructor <;> omega) (by constructor <;> omega)]
    by_cases c2 : 0 ≤ s ∧ s ≤ 999
    · rw [if_pos c2, if_pos c2, X_hindranceToMove h hi c2, bk_x h hi, Int.toNat_natCast]
      have := hnd_rg (S := S) (P := P) (i := i) (b := (V 54 i, V 55 i, V 56 i, V 57 i)) (s := s)
      generalize hnd S P i (V 54 i, V 55 i, V 56 i, V 57 i) s = z at *
      simp (disch := omega) only [bd_s, n10, i10, i00, if_false, nrm_of]
      split <;> rfl
    · rw [if_neg c2, if_neg c2]
      simp only [bd_s, n10, n00, if_false, if_true]
  · rw [if_neg c, if_neg c]
    simp only [bd_s, n00, if_true]
theorem X_advanceFault {V : VV} {S : Su} {P : Pl} (h : CK V S P) {x : Int} (hx : rgI x) : f5_advanceFault V x = some (adF P x) := by
  have hr := h.ok.rg
  have hp := h.pl
  unfold f5_advanceFault adF
  rw [X_isWithin hx (by constructor <;> omega) (by constructor <;> omega)]
  by_cases c : 1 ≤ x ∧ x ≤ 500
  · rw [if_pos c, if_pos c]
    simp (disch := omega) only [bd_s, n10, i10, i00, if_false, aP0, hp.2.1, nrm_of]
    split <;> rfl
  · rw [if_neg c, if_neg c]
    simp only [bd_s, n00, if_true]
/-- a withdrawal -/
theorem X_withdraw {V : VV} {S : Su} {P : Pl} (h : CK V S P) {i : Nat} (hi : i < P.2.2.2.2.2.2.length) : ∃ V' : VV, f1_removeRequest V 0 (i : Int) = some V' ∧ fr0 V V' ∧ CK V' S (remRP P i) := by
  obtain ⟨V1, g1, g2, g3⟩ := X_removeRequest h.1 hi h.ok.rg.2.2.2 (fun b hb => (h.ok.2.2.2.2.1 b hb).2.2.1)
  exact ⟨V1, g1, g2, h.mut g2 g3 (okP_remR h.ok i)⟩
theorem M_withdraw {V : VV} {S : Su} {P : Pl} (h : MK V S P) {i : Nat} (hi : i < P.2.2.2.2.2.2.length) : ∃ V' : VV, f6_removeRequest V (i : Int) = some V' ∧ frM V V' ∧ MK V' S (remRP P i) := by
  obtain ⟨V1, g1, g2, g3⟩ := M_removeRequest h.1 hi h.ok.rg.2.2.1 h.ok.rg.2.2.2
  exact ⟨V1, g1, g2, h.mut g2 g3 (okP_remR h.ok i)⟩
/-- a change that is made -/
theorem chg_ok {V : VV} {S : Su} {P P' : Pl} (h : RV V S P) {F5 F6 : VV → Option (Int × VV)} {r : Int} (hX : ∀ W, CK W S P → ∃ V' : VV, F5 W = some (r, V') ∧ fr0 W V' ∧ CK V' S P') (hM : ∀ W, MK W S P → ∃ V' : VV, F6 W = some (r, V') ∧ frM W V' ∧ MK V' S P') : ∃ V1 V2 : VV, bd (f5_remember V) (fun W => bd2 (F5 W) (fun r W' => some ((Except.ok r : Except String Int), W'))) = some (.ok r, V1) ∧ (V1 149 = V 149) ∧ bd (f6_remember (up2 V1 148 9 0) 0) F6 = some (r, V2) ∧ V2 148 9 = 0 ∧ RV V2 S P' := by
  obtain ⟨W, w1, w2, w3⟩ := X_remember h
  obtain ⟨V1, v1, v2, v3⟩ := hX W w3
  obtain ⟨q1, q2⟩ := h.mid (z := 0) w2 v2
  obtain ⟨W2, m1, m2, m3⟩ := M_remember q1 q2
  obtain ⟨V2, n1, n2, n3⟩ := hM W2 m3
  refine ⟨V1, V2, ?_, by rw [v2 149 (by omega), w2.1 149 (by omega) (by omega)], ?_, thr_of m2 n2, h.chg w2 v2 v3 m2 n2 n3⟩
  · rw [w1, bd_s, v1, bd2_s]
  · rw [m1, bd_s, n1]
theorem rf0 {α : Type} {a b c d : α} : (if nrm 0 = 1 then a else if nrm 0 = 2 then b else if nrm 0 = 3 then c else d) = d := by
  rw [if_neg (by decide +kernel), if_neg (by decide +kernel), if_neg (by decide +kernel)]
theorem rf1 {α : Type} {a b c d : α} : (if nrm 1 = 1 then a else if nrm 1 = 2 then b else if nrm 1 = 3 then c else d) = a := if_pos (by decide +kernel)
theorem rf2 {α : Type} {a b c d : α} : (if nrm 2 = 1 then a else if nrm 2 = 2 then b else if nrm 2 = 3 then c else d) = b := by
  rw [if_neg (by decide +kernel), if_pos (by decide +kernel)]
theorem rf3 {α : Type} {a b c d : α} : (if nrm 3 = 1 then a else if nrm 3 = 2 then b else if nrm 3 = 3 then c else d) = c := by
  rw [if_neg (by decide +kernel), if_neg (by decide +kernel), if_pos (by decide +kernel)]
theorem frB_c {S : Su} {P : Pl} {x y s : Int} (h : bkC S P x y s) : P.2.2.2.2.2.1.length < 20 ∧ frB S P.2.2.2.2.2.1 y (tr S P.1 x) (-1) s = true := h.2
theorem op_book {x y s : Int} (hx : rgI x) (hy : y = 0 ∨ y = 1) (hs : rgI s) : Op1 [eI, eA, eS] (fun V => f5_book V x y s) (fun V => f6_book V x y s) := by
  intro V S P h
  have hX := X_bookFault h.ck hx hy hs
  by_cases c : isSp S x
  · by_cases c2 : 0 ≤ s ∧ s ≤ 999
    · by_cases c3 : bkC S P x y s
      · obtain ⟨V1, V2, k1, k2, k3, k4, k5⟩ := chg_ok h (P' := bookP S P x y s) (r := s + tr S P.1 x) (F5 := fun W => f5_bookNow W x y s) (F6 := fun W38 => bd ((if nrm y = 0 then some (0) else some (1))) (fun y40 => bd (f6_addBooking W38 x y40 s) (fun W44 => bd (f6_transit W44 x) (fun r46 => some (s + r46, W44))))) (fun W hW => X_bookNow hW c3.2.1 c hy c2 c3.2.2) (fun W hW => by
          obtain ⟨V', g1, g2, g3⟩ := M_addBooking hW c3.2.1 c hy c2 c3.2.2
          refine ⟨V', ?_, g2, g3⟩
          show bd (if nrm y = 0 then some 0 else some 1) _ = _
          rw [y01 hy, bd_s, g1, bd_s, (M_transit g3 c).1]
          rfl)
        refine ⟨.ok (s + tr S P.1 x), V1, _, V2, ?_, ?_, k4, fun r hr => okr hr rfl, S, _, k5⟩
        · show f5_book V x y s = _
          unfold f5_book
          rw [hX]
          unfold bkF
          rw [if_pos c, if_pos c2, if_pos c3, bd_s, rf0]
          exact k1
        · show f6_book V1 x y s = _
          have hmk : MK V1 S P := h.mk.of k2
          unfold f6_book
          rw [M_isShip hmk hx, if_pos c, M_in hs (by constructor <;> omega) (by constructor <;> omega), if_pos c2, y01 hy]
          simp only [bd_s, n10, if_false]
          rw [M_canBook hmk c hy c2, if_pos c3]
          simp only [bd_s, n10, if_false]
          rw [M_fails0]
          simp only [bd2_s, n00, if_true]
          rw [y01 hy] at k3
          exact k3
      · refine ⟨.error eS, V, 0, up2 V 148 9 3, ?_, ?_, (up2_s _ _ _ _).trans (cod_3 eIS eAS).symm, fun r hr => ner hr, S, P, h.thr 3⟩
        · show f5_book V x y s = _
          unfold f5_book
          rw [hX]
          unfold bkF
          rw [if_pos c, if_pos c2, if_neg c3, bd_s, rf3]
        · show f6_book V x y s = _
          unfold f6_book
          rw [M_isShip h.mk hx, if_pos c, M_in hs (by constructor <;> omega) (by constructor <;> omega), if_pos c2, y01 hy]
          simp only [bd_s, n10, if_false]
          rw [M_canBook h.mk c hy c2, if_neg c3]
          simp only [bd_s, n00, if_true]
          rw [M_fails3]
          simp only [bd2_s, n10, if_false]
    · refine ⟨.error eA, V, 0, up2 V 148 9 2, ?_, ?_, (up2_s _ _ _ _).trans (cod_2 eIA).symm, fun r hr => ner hr, S, P, h.thr 2⟩
      · show f5_book V x y s = _
        unfold f5_book
        rw [hX]
        unfold bkF
        rw [if_pos c, if_neg c2, bd_s, rf2]
      · show f6_book V x y s = _
        unfold f6_book
        rw [M_isShip h.mk hx, if_pos c, M_in hs (by constructor <;> omega) (by constructor <;> omega), if_neg c2, y01 hy]
        simp only [bd_s, n10, n00, if_false, if_true]
        rw [M_fails2 (Or.inl rfl)]
        simp only [bd2_s, n10, if_false]
  · refine ⟨.error eI, V, 0, up2 V 148 9 1, ?_, ?_, (up2_s _ _ _ _).trans cod_1.symm, fun r hr => ner hr, S, P, h.thr 1⟩
    · show f5_book V x y s = _
      unfold f5_book
      rw [hX]
      unfold bkF
      rw [if_neg c, bd_s, rf1]
    · show f6_book V x y s = _
      unfold f6_book
      rw [M_isShip h.mk hx, if_neg c, M_in hs (by constructor <;> omega) (by constructor <;> omega)]
      simp only [bd_s, n00, if_true]
      rw [n_not]
      simp only [bd_s]
      rw [M_fails1 p01 (Or.inl rfl)]
      simp only [bd2_s, n10, if_false]
