/-! the class's calls in a good state: what they answer, what they leave -/
/-- the class's side of the invariant -/
def CI (V : VV) (S : Su) (P : Pl) : Prop := CK V S P ∧ (0 ≤ V 0 7 ∧ V 0 7 ≤ 5) ∧ (0 ≤ V 0 8 ∧ V 0 8 ≤ 6)
/-- the law's own cells are left alone -/
def frO (V V' : VV) : Prop := ∀ k, 148 ≤ k → V' k = V k
theorem frO.tr {V V' V2 : VV} (h : frO V V') (h2 : frO V' V2) : frO V V2 := fun k hk => (h2 k hk).trans (h k hk)
theorem Q_bk {V : VV} {S : Su} {P : Pl} (h : CK V S P) {i : Nat} (hi : i < P.2.2.2.2.2.1.length) : f5_bookedShip V (i : Int) = some (V 54 i) ∧ f5_isInbound V (i : Int) = some (V 55 i) ∧ f5_startMinute V (i : Int) = some (V 56 i) ∧ f5_endMinute V (i : Int) = some (V 57 i) := by
  have hr := h.ok.rg
  have hb := X_isBooking h (x := (i : Int)) ⟨by omega, by omega⟩
  rw [if_pos ⟨by omega, by omega⟩] at hb
  obtain ⟨-, -, b⟩ := h.b hi
  have n1 : ¬ nrm 1 = 0 := by decide +kernel
  refine ⟨?_, ?_, ?_, ?_⟩
  · unfold f5_bookedShip
    rw [hb, bd_q, ck_t n1, ck_t (by omega), Int.toNat_natCast]
    rfl
  · unfold f5_isInbound
    rw [hb, bd_q, ck_t n1, ck_t (by omega), Int.toNat_natCast]
    exact ck_t b.2.2.1
  · unfold f5_startMinute
    rw [hb, bd_q, ck_t n1, ck_t (by omega), Int.toNat_natCast]
    rfl
  · unfold f5_endMinute
    rw [hb, bd_q, ck_t n1, ck_t (by omega), Int.toNat_natCast]
    rfl
theorem Q_rq {V : VV} {S : Su} {P : Pl} (h : CK V S P) {i : Nat} (hi : i < P.2.2.2.2.2.2.length) : f5_requestedShip V (i : Int) = some (V 58 i) ∧ f5_isRequestInbound V (i : Int) = some (V 59 i) ∧ f5_earliestRequested V (i : Int) = some (V 60 i) ∧ f5_latestRequested V (i : Int) = some (V 61 i) := by
  have hr := h.ok.rg
  have hb := X_isRequest h (x := (i : Int)) ⟨by omega, by omega⟩
  rw [if_pos ⟨by omega, by omega⟩] at hb
  obtain ⟨-, -, b⟩ := h.r hi
  have n1 : ¬ nrm 1 = 0 := by decide +kernel
  refine ⟨?_, ?_, ?_, ?_⟩
  · unfold f5_requestedShip
    rw [hb, bd_q, ck_t n1, ck_t (by omega), Int.toNat_natCast]
    rfl
  · unfold f5_isRequestInbound
    rw [hb, bd_q, ck_t n1, ck_t (by omega), Int.toNat_natCast]
    exact ck_t b.2.2.1
  · unfold f5_earliestRequested
    rw [hb, bd_q, ck_t n1, ck_t (by omega), Int.toNat_natCast]
    rfl
  · unfold f5_latestRequested
    rw [hb, bd_q, ck_t n1, ck_t (by omega), Int.toNat_natCast]
    rfl
theorem Q_n {V : VV} {S : Su} {P : Pl} (h : CK V S P) : f5_bookingCount V = some (P.2.2.2.2.2.1.length : Int) ∧ f5_requestCount V = some (P.2.2.2.2.2.2.length : Int) ∧ f5_requestsServed V = some P.2.2.2.2.1 ∧ f5_minute V = some P.2.1 ∧ f5_headway V = some S.1 ∧ f5_clearance V = some S.2.1 ∧ f5_shipCount V = some (S.2.2.length : Int) := by
  have hp := h.pl
  have hs := h.su
  have hq := h.2.2.1
  refine ⟨congrArg some hp.2.2.2.2.2.1, congrArg some hp.2.2.2.2.2.2, congrArg some hp.2.2.2.2.1, congrArg some hp.2.1, ?_, ?_, ?_⟩
  · unfold f5_headway; rw [ck_t hq, hs.1]
  · unfold f5_clearance; rw [ck_t hq, hs.2.1]
  · unfold f5_shipCount; rw [ck_t hq, hs.2.2.1]
theorem Q_tt {V : VV} {S : Su} {P : Pl} (h : CK V S P) {x : Int} (hx : 0 ≤ x ∧ x < (S.2.2.length : Int)) : f5_transitTime V x = some (tr S P.1 x) := by
  have hs := h.su
  unfold f5_transitTime
  rw [X_isShip h ⟨by omega, by omega⟩, if_pos hx, bd_q, ck_t (by decide +kernel), (X_transitOf h hx).1, bd_q]
theorem cnf_0 {S : Su} {y s e : Int} : ∀ {l : List Bk}, 0 ≤ cnf S y s e l ∧ (cnf S y s e l ≤ l.length) ∧ (cnf S y s e l = 0 ↔ ∀ b ∈ l, cf S b y s e = false)
  | [] => ⟨Int.le_refl _, Int.le_refl _, fun _ b hb => absurd hb List.not_mem_nil, fun _ => rfl⟩
  | b :: l => by
    obtain ⟨h1, h2, h3⟩ := cnf_0 (S := S) (y := y) (s := s) (e := e) (l := l)
    rw [cnf, List.length_cons]
    by_cases c : cf S b y s e = true
    · rw [if_pos c]
      refine ⟨by omega, by omega, fun q => by omega, fun q => ?_⟩
      have := q b List.mem_cons_self
      rw [c] at this
      exact absurd this (by decide)
    · rw [if_neg c]
      refine ⟨by omega, by omega, fun q d hd => ?_, fun q => ?_⟩
      · rcases List.mem_cons.mp hd with e | e
        · rw [e]; simpa using c
        · exact h3.mp (by omega) d e
      · have := h3.mpr (fun d hd => q d (List.mem_cons_of_mem _ hd))
        omega
theorem frB_all {S : Su} {l : List Bk} {y d s : Int} : frB S l y d (-1) s = true ↔ ∀ b ∈ l, cf S b y s (s + d) = false :=
  ⟨frB_free, fun h => frB_iff.mpr (fun j b hj _ => h b (List.mem_of_getElem? hj))⟩
theorem Q_cc {V : VV} {S : Su} {P : Pl} (h : CK V S P) {x y s : Int} (hx : 0 ≤ x ∧ x < (S.2.2.length : Int)) (hy : y = 0 ∨ y = 1) (hs : 0 ≤ s ∧ s ≤ 999) : f5_conflictCount V x y s = some (cnf S y s (s + tr S P.1 x) P.2.2.2.2.2.1) := by
  have hsu := h.su
  have hr := h.ok.rg
  obtain ⟨t1, t2, t3⟩ := X_transitOf h hx
  unfold f5_conflictCount
  rw [X_isShip h ⟨by omega, by omega⟩, if_pos hx, bd_q, ck_t (by decide +kernel), X_isWithin ⟨by omega, by omega⟩ ⟨by omega, by omega⟩ ⟨by omega, by omega⟩, if_pos hs, bd_q, ck_t (by decide +kernel), t1, bd_q]
  have := X_cntL h hy (s := s) (d := tr S P.1 x) (by omega) ⟨t2, t3⟩ P.2.2.2.2.2.1.length FU 0 0 (by have := FU_ge; omega) (by omega)
  rw [nc0, List.drop_zero, Int.zero_add] at this
  rw [this, bd_q]
theorem remO {V : VV} {S : Su} {P : Pl} (h : CI V S P) : ∃ W : VV, f5_remember V = some W ∧ CI W S P ∧ frO V W := by
  obtain ⟨h1, h2, h3⟩ := h
  obtain ⟨W, g1, ⟨g2, g3, g4, g5, -⟩, g6⟩ := X_rem h1 h2 h3
  refine ⟨W, g1, ⟨g6, ?_, ?_⟩, fun k hk => g2 k (by omega) (by omega)⟩
  · rw [g4]; unfold nx; split <;> omega
  · rw [g5]; unfold nn; split <;> omega
theorem mutO {V V' : VV} {S : Su} {P P' : Pl} (h : CI V S P) (hf : fr0 V V') (hk : CK V' S P') : CI V' S P' ∧ frO V V' := by
  have e0 : V' 0 = V 0 := hf 0 (by omega)
  exact ⟨⟨hk, by rw [e0]; exact h.2.1, by rw [e0]; exact h.2.2⟩, fun k hk => hf k (by omega)⟩
theorem nr0 : ¬ nrm 0 = 1 ∧ ¬ nrm 0 = 2 ∧ ¬ nrm 0 = 3 := by decide +kernel
theorem O_book {V : VV} {S : Su} {P : Pl} (h : CI V S P) {x y s : Int} (hx : isSp S x) (hy : y = 0 ∨ y = 1) (hs : 0 ≤ s ∧ s ≤ 999) (hc : bkC S P x y s) : ∃ V' : VV, f5_book V x y s = some (s + tr S P.1 x, V') ∧ CI V' S (bookP S P x y s) ∧ frO V V' := by
  have hsu := h.1.su
  have hf : f5_bookFault V x y s = some 0 := by
    rw [X_bookFault h.1 ⟨by omega, by omega⟩ hy ⟨by omega, by omega⟩]
    unfold bkF
    rw [if_pos hx, if_pos hs, if_pos hc]
  obtain ⟨W, w1, w2, w3⟩ := remO h
  obtain ⟨V', v1, v2, v3⟩ := X_bookNow w2.1 hc.2.1 hx hy hs hc.2.2
  obtain ⟨k1, k2⟩ := mutO w2 v2 v3
  refine ⟨V', ?_, k1, w3.tr k2⟩
  unfold f5_book
  rw [hf, bd_q, ck_t nr0, w1, bd_q, v1]
  rfl
theorem O_request {V : VV} {S : Su} {P : Pl} (h : CI V S P) {x y e la : Int} (hx : isSp S x) (hy : y = 0 ∨ y = 1) (hw : isWi e la) (hc : rqC S P x y e la) : ∃ V' : VV, f5_request V x y e la = some ((reqP S P x y e la).1, V') ∧ CI V' S (reqP S P x y e la).2 ∧ frO V V' := by
  have hsu := h.1.su
  have hf : f5_requestFault V x y e la = some 0 := by
    rw [X_requestFault h.1 ⟨by omega, by omega⟩ hy ⟨by omega, by omega⟩ ⟨by omega, by omega⟩]
    unfold rqF
    rw [if_pos hx, if_pos hw, if_pos hc]
  obtain ⟨W, w1, w2, w3⟩ := remO h
  obtain ⟨V', v1, v2, v3⟩ := X_requestNow w2.1 hx hy ⟨hw.1.1, hw.2.1, hw.2.2⟩ hc
  obtain ⟨k1, k2⟩ := mutO w2 v2 v3
  refine ⟨V', ?_, k1, w3.tr k2⟩
  unfold f5_request
  rw [hf, bd_q, ck_t nr0, w1, bd_q, v1]
  rfl
theorem O_cancel {V : VV} {S : Su} {P : Pl} (h : CI V S P) {i : Nat} (hi : i < P.2.2.2.2.2.1.length) (hs : P.2.1 < V 56 i) : ∃ V' : VV, f5_cancel V (i : Int) = some ((cancelP S P i).1, V') ∧ CI V' S (cancelP S P i).2 ∧ frO V V' := by
  have hr := h.1.ok.rg
  have hf : f5_cancelFault V (i : Int) = some 0 := by
    rw [X_cancelFault h.1 ⟨by omega, by omega⟩]
    unfold cnF
    rw [if_pos ⟨by omega, by omega⟩, bk_x h.1 hi, if_neg (by show ¬ V 56 i ≤ P.2.1; omega)]
  obtain ⟨W, w1, w2, w3⟩ := remO h
  obtain ⟨V', v1, v2, v3⟩ := X_cancelNow w2.1 hi
  obtain ⟨k1, k2⟩ := mutO w2 v2 v3
  refine ⟨V', ?_, k1, w3.tr k2⟩
  unfold f5_cancel
  rw [hf, bd_q, ck_t nr0, w1, bd_q, v1]
  rfl
theorem O_withdraw {V : VV} {S : Su} {P : Pl} (h : CI V S P) {i : Nat} (hi : i < P.2.2.2.2.2.2.length) : ∃ (r : Int) (V' : VV), f5_withdraw V (i : Int) = some (r, V') ∧ CI V' S (remRP P i) ∧ frO V V' := by
  have hr := h.1.ok.rg
  have hb := X_isRequest h.1 (x := (i : Int)) ⟨by omega, by omega⟩
  rw [if_pos ⟨by omega, by omega⟩] at hb
  obtain ⟨W, w1, w2, w3⟩ := remO h
  obtain ⟨V', v1, v2, v3⟩ := X_withdraw w2.1 hi
  obtain ⟨k1, k2⟩ := mutO w2 v2 v3
  refine ⟨W (aP 0 + 5) (i : Int).toNat, V', ?_, k1, w3.tr k2⟩
  unfold f5_withdraw
  rw [hb, bd_q, ck_t (by decide +kernel), w1, bd_q, ck_t (by omega), v1]
  rfl
theorem O_setT {V : VV} {S : Su} {P : Pl} (h : CI V S P) {t : Int} (ht : 0 ≤ t ∧ t ≤ 9) : ∃ V' : VV, f5_setThickness V t = some ((serveP S (setT P t)).1, V') ∧ CI V' S (serveP S (setT P t)).2 ∧ frO V V' := by
  obtain ⟨W, w1, w2, w3⟩ := remO h
  obtain ⟨V', v1, v2, v3⟩ := X_freezeNow w2.1 ht
  obtain ⟨k1, k2⟩ := mutO w2 v2 v3
  refine ⟨V', ?_, k1, w3.tr k2⟩
  unfold f5_setThickness
  rw [X_isWithin ⟨by omega, by omega⟩ ⟨by omega, by omega⟩ ⟨by omega, by omega⟩, if_pos ht, bd_q, ck_t (by decide +kernel), w1, bd_q, v1]
  rfl
theorem O_advance {V : VV} {S : Su} {P : Pl} (h : CI V S P) {m : Int} (hm : 1 ≤ m ∧ m ≤ 500) (hm2 : P.2.1 + m ≤ 1200) : ∃ V' : VV, f5_advance V m = some ((advP P m).1, V') ∧ CI V' S (advP P m).2 ∧ frO V V' := by
  have hf : f5_advanceFault V m = some 0 := by
    rw [X_advanceFault h.1 ⟨by omega, by omega⟩]
    unfold adF
    rw [if_pos hm, if_pos hm2]
  obtain ⟨W, w1, w2, w3⟩ := remO h
  obtain ⟨V', v1, v2, v3⟩ := X_advanceNow w2.1 hm.1 hm2
  obtain ⟨k1, k2⟩ := mutO w2 v2 v3
  refine ⟨V', ?_, k1, w3.tr k2⟩
  unfold f5_advance
  rw [hf, bd_q, ck_t nr0, w1, bd_q, v1]
  rfl
/-- nothing is inconsistent -/
theorem Q_inc {V : VV} {S : Su} {P : Pl} (h : CK V S P) (hm : P.2.2.1 - P.2.2.2.1 = (P.2.2.2.2.2.1.length : Int)) : f5_inconsistencies V = some 0 := by
  have hr := h.ok.rg
  have hp := h.pl
  have in60 : ∀ (k n i j : Nat), k + 1 ≤ n → i < P.2.2.2.2.2.1.length → i = j + k → f5_inconsistencies_L60 V (i : Int) (V 57 i - V 56 i) n 0 (j : Int) = some 0 := by
    intro k
    induction k with
    | zero =>
      intro n i j hn hi hj
      obtain ⟨n, rfl⟩ : ∃ m, n = m + 1 := ⟨n - 1, by omega⟩
      rw [f5_inconsistencies_L60, nrm_of (by omega) (by omega), nrm_of (by omega) (by omega), if_pos (by omega)]
    | succ k ih =>
      intro n i j hn hi hj
      obtain ⟨n, rfl⟩ : ∃ m, n = m + 1 := ⟨n - 1, by omega⟩
      have hI := ih n i (j + 1) (by omega) hi (by omega)
      obtain ⟨-, bi, oi⟩ := h.b hi
      obtain ⟨-, bj, oj⟩ := h.b (show j < P.2.2.2.2.2.1.length by omega)
      obtain ⟨o1, o2, o3, o4, o5, o6, o7⟩ := oi
      simp only at o1 o2 o3 o4 o5 o6 o7
      have hcf := h.ok.cf (show j < i by omega) bj bi
      simp only at hcf
      have hcl := X_clashes h (show j < P.2.2.2.2.2.1.length by omega) o3 (s := V 56 i) (d := V 57 i - V 56 i) (by omega) (by omega)
      rw [show V 56 i + (V 57 i - V 56 i) = V 57 i by omega, hcf, if_neg (by decide)] at hcl
      rw [f5_inconsistencies_L60, nrm_of (by omega) (by omega), nrm_of (by omega) (by omega), if_neg (by omega), ck_t (by omega), Int.toNat_natCast]
      show bd (f5_clashes V (j : Int) (V 55 i) (V 56 i) (V 57 i - V 56 i)) _ = some 0
      rw [hcl, bd_q, if_pos (by decide +kernel), show (j : Int) + 1 = ((j + 1 : Nat) : Int) by omega]
      exact hI
  have in26 : ∀ (k n i : Nat), k + 1 ≤ n → P.2.2.2.2.2.1.length = i + k → f5_inconsistencies_L26 V n 0 (i : Int) = some 0 := by
    intro k
    induction k with
    | zero =>
      intro n i hn hi
      obtain ⟨n, rfl⟩ : ∃ m, n = m + 1 := ⟨n - 1, by omega⟩
      rw [f5_inconsistencies_L26, aP0, hp.2.2.2.2.2.1, nrm_of (by omega) (by omega), nrm_of (by omega) (by omega), if_pos (by omega)]
    | succ k ih =>
      intro n i hn hi
      obtain ⟨n, rfl⟩ : ∃ m, n = m + 1 := ⟨n - 1, by omega⟩
      have hI := ih n (i + 1) (by omega) (by omega)
      rw [f5_inconsistencies_L26, aP0, hp.2.2.2.2.2.1, nrm_of (by omega) (by omega), nrm_of (by omega) (by omega), if_neg (by omega), ck_t (by omega), Int.toNat_natCast]
      have h60 := in60 i FU i 0 (by have := FU_ge; omega) (by omega) (by omega)
      show bd (f5_inconsistencies_L60 V (i : Int) (V 57 i - V 56 i) FU 0 ((0 : Nat) : Int)) _ = some 0
      rw [h60, bd_q, show (i : Int) + 1 = ((i + 1 : Nat) : Int) by omega]
      exact hI
  unfold f5_inconsistencies
  rw [aP0, hp.2.2.1, hp.2.2.2.1, hp.2.2.2.2.2.1, show P.2.2.1 - P.2.2.2.1 - (P.2.2.2.2.2.1.length : Int) = 0 by omega]
  have := in26 P.2.2.2.2.2.1.length FU 0 (by have := FU_ge; omega) (by omega)
  rw [nc0] at this
  rw [this, bd_q]
