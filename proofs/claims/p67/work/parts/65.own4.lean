/-! the schedule of the law: agreement -/
theorem tRec {α : Type} {p q r : Prop} [Decidable p] [Decidable q] [Decidable r] {a x : α} (h : p → ¬ q → r) : (if p then (if q then a else if r then a else x) else a) = a := by
  by_cases c1 : p
  · rw [if_pos c1]
    by_cases c2 : q
    · rw [if_pos c2]
    · rw [if_neg c2, if_pos (h c1 c2)]
  · rw [if_neg c1]
theorem cnt_idx : ∀ {Q : List Bk} {j : Nat} {b : Bk}, Q.Pairwise (fun a b => a.2.2.1 < b.2.2.1) → Q[j]? = some b → Q.countP (fun c => decide (c.2.2.1 < b.2.2.1)) = j
  | [], j, b, _, h => by simp at h
  | a :: l, 0, b, hp, h => by
    simp at h
    subst h
    rw [List.countP_eq_zero]
    intro c hc
    rcases List.mem_cons.mp hc with e | e
    · rw [e]; simp
    · have := (List.pairwise_cons.mp hp).1 c e
      simp only [decide_eq_true_eq]
      omega
  | a :: l, j + 1, b, hp, h => by
    rw [List.getElem?_cons_succ] at h
    have h1 := cnt_idx (List.pairwise_cons.mp hp).2 h
    have h2 := (List.pairwise_cons.mp hp).1 b (List.mem_of_getElem? h)
    rw [List.countP_cons, h1, if_pos (by simpa using h2)]
/-- two passages that don't meet -/
def Rs2 (S : Su) (a b : Bk) : Prop := okO S.1 S.2.1 a b ∨ okO S.1 S.2.1 b a
theorem Rs2.facts {S : Su} (hS : okS S) {a b : Bk} (h : Rs2 S a b) : ¬ conf S.1 S.2.1 a.2.1 a.2.2.1 a.2.2.2 b.2.1 b.2.2.1 b.2.2.2 ∧ (a.2.1 ≠ b.2.1 → ¬ b.2.2.2 ≤ a.2.2.1 → a.2.2.2 ≤ b.2.2.1) ∧ (a.2.1 = b.2.1 → ¬ b.2.2.1 ≤ a.2.2.1 → a.2.2.2 ≤ b.2.2.2) := by
  have h1 := hS.1
  have h2 := hS.2.1
  unfold Rs2 okO at h
  rcases h with ⟨q1, q2⟩ | ⟨q1, q2⟩
  · refine ⟨q2, fun e c => ?_, fun e c => ?_⟩
    · unfold conf at q2
      omega
    · unfold conf at q2
      omega
  · refine ⟨fun q => q2 (conf_sym.mp q), fun e c => ?_, fun e c => ?_⟩
    · unfold conf at q2
      omega
    · omega
theorem O_agrees {V : VV} {S : Su} {P : Pl} {B : List Bk} (h : CK V S P) (hm : P.2.2.1 - P.2.2.2.1 = (P.2.2.2.2.2.1.length : Int)) (w : OW V B P.2.2.2.2.2.2 P.2.2.2.2.1) (hp : B.Perm P.2.2.2.2.2.1) : f6_agrees V = some 1 := by
  have hr := h.ok.rg
  have hS := h.2.2.2.1
  have hpl := h.pl
  have hB : B.length = P.2.2.2.2.2.1.length := hp.length_eq
  have hSl : (S.2.2.length : Int) ≤ 10 := by have := hS.2.2.1.2; omega
  have hbB : ∀ b ∈ B, rgB b := fun b hb => (h.ok.2.2.2.1 b (hp.mem_iff.mp hb)).rg hSl
  have hQ : P.2.2.2.2.2.1.Pairwise (fun a b => a.2.2.1 < b.2.2.1) := h.ok.2.2.2.2.2.imp (fun q => q.1)
  have hR2 : B.Pairwise (Rs2 S) := hp.symm.pairwise (h.ok.2.2.2.2.2.imp (fun q => Or.inl q)) (fun q => q.symm)
  have hw := w.1.2
  -- one passage against another
  have pair : ∀ i k, i < B.length → k < B.length → i ≠ k → Rs2 S (V 149 i, V 150 i, V 151 i, V 152 i) (V 149 k, V 150 k, V 151 k, V 152 k) := by
    intro i k hi hk hik
    have bi := w.b hi
    have bk := w.b hk
    obtain ⟨_, ei⟩ := List.getElem?_eq_some_iff.mp bi
    obtain ⟨_, ek⟩ := List.getElem?_eq_some_iff.mp bk
    rcases Nat.lt_or_gt_of_ne hik with q | q
    · have := List.pairwise_iff_getElem.mp hR2 i k hi hk q
      rwa [ei, ek] at this
    · have := List.pairwise_iff_getElem.mp hR2 k i hk hi q
      rw [ei, ek] at this
      exact this.symm
  have rg : ∀ i, i < B.length → rgB (V 149 i, V 150 i, V 151 i, V 152 i) := fun i hi => hbB _ (List.mem_of_getElem? (w.b hi))
  have L58 : ∀ (k j n i : Nat) (x : Int), k < B.length → j + 1 ≤ n → B.length = i + j → f6_agrees_L58 V (k : Int) n x (i : Int) = some (.inr (x + (((B.drop i).countP (fun c => decide (c.2.2.1 < V 151 k)) : Nat) : Int))) := by
    intro k j
    induction j with
    | zero =>
      intro n i x hk hn hl
      obtain ⟨n, rfl⟩ : ∃ m, n = m + 1 := ⟨n - 1, by omega⟩
      rw [f6_agrees_L58, hw, nrm_of (by omega) (by omega), nrm_of (by omega) (by omega), if_pos (by omega), List.drop_eq_nil_of_le (by omega)]
      simp
    | succ j ih =>
      intro n i x hk hn hl
      obtain ⟨n, rfl⟩ : ∃ m, n = m + 1 := ⟨n - 1, by omega⟩
      have hi : i < B.length := by omega
      have hI := fun x => ih n (i + 1) x hk (by omega) (by omega)
      obtain ⟨i1, i2, i3, i4⟩ := rg i hi
      obtain ⟨k1, k2, k3, k4⟩ := rg k hk
      simp only at i1 i2 i3 i4 k1 k2 k3 k4
      have hbi := w.b hi
      have hdr : B.drop i = (V 149 i, V 150 i, V 151 i, V 152 i) :: B.drop (i + 1) := by
        rw [List.drop_eq_getElem_cons hi]
        congr 1
        rw [List.getElem?_eq_getElem hi] at hbi
        exact Option.some.inj hbi
      have f3 : V 150 i = V 150 k → ¬ V 151 k ≤ V 151 i → V 152 i ≤ V 152 k := by
        intro a b
        by_cases e : i = k
        · subst e; omega
        · exact ((pair i k hi hk e).facts hS).2.2 a b
      have key : ∀ (y : Int), f6_agrees_L58 V (k : Int) n (x + y) ((i : Int) + 1) = f6_agrees_L58 V (k : Int) n (x + y) ((i + 1 : Nat) : Int) := fun y => by rw [show (i : Int) + 1 = ((i + 1 : Nat) : Int) by omega]
      have hstep : f6_agrees_L58 V (k : Int) (n + 1) x (i : Int) = f6_agrees_L58 V (k : Int) n (x + (if V 151 k ≤ V 151 i then 0 else 1)) ((i + 1 : Nat) : Int) := by
        rw [f6_agrees_L58, hw]
        simp only [Int.toNat_natCast]
        have z1 : nrm (i : Int) = (i : Int) := nrm_of (by omega) (by omega)
        have z2 : nrm (B.length : Int) = (B.length : Int) := nrm_of (by omega) (by omega)
        have z3 : nrm (k : Int) = (k : Int) := nrm_of (by omega) (by omega)
        have z4 : nrm (V 151 k) = V 151 k := nrm_of (by omega) (by omega)
        have z5 : nrm (V 151 i) = V 151 i := nrm_of (by omega) (by omega)
        have z6 : nrm (V 152 k) = V 152 k := nrm_of (by omega) (by omega)
        have z7 : nrm (V 152 i) = V 152 i := nrm_of (by omega) (by omega)
        have z8 : nrm (V 150 k) = V 150 k := nrm_of (by omega) (by omega)
        have z9 : nrm (V 150 i) = V 150 i := nrm_of (by omega) (by omega)
        simp (config := { maxSteps := 5000000 }) only [z1, z2, z3, z4, z5, z6, z7, z8, z9]
        rw [if_neg (by omega), ck_t (by omega), ck_t (by omega)]
        have ey : (if V 151 k ≤ V 151 i then some (0 : Int) else some 1) = some (if V 151 k ≤ V 151 i then 0 else 1) := by split <;> rfl
        rw [ey, bd_q]
        simp (config := { maxSteps := 5000000 }) only [tRec f3]
        rw [← key]
        by_cases e : i = k
        · have e1 : (i : Int) = (k : Int) := by omega
          simp only [e1, if_true]
        · have e1 : ¬ (i : Int) = (k : Int) := by omega
          obtain ⟨g1, g2, -⟩ := (pair i k hi hk e).facts hS
          simp only at g1 g2
          simp only [e1, if_false]
          rw [O_conflict h i1 k1 (by omega) (by omega) (by omega) (by omega), if_neg g1, bd_q, if_pos (by decide +kernel)]
          by_cases d : V 150 i = V 150 k
          · rw [if_pos d]
          · rw [if_neg d]
            by_cases c : V 152 k ≤ V 151 i
            · rw [if_pos c]
            · rw [if_neg c, if_pos (g2 d c)]
      rw [hstep, hI, hdr, List.countP_cons]
      congr 2
      by_cases c : V 151 k ≤ V 151 i
      · rw [if_pos c, if_neg (by simp only [decide_eq_true_eq]; omega)]
        omega
      · rw [if_neg c, if_pos (by simp only [decide_eq_true_eq]; omega)]
        omega
  have L46 : ∀ (j n k : Nat), j + 1 ≤ n → B.length = k + j → f6_agrees_L46 V n (k : Int) = some (.inr ()) := by
    intro j
    induction j with
    | zero =>
      intro n k hn hl
      obtain ⟨n, rfl⟩ : ∃ m, n = m + 1 := ⟨n - 1, by omega⟩
      rw [f6_agrees_L46, hw, nrm_of (by omega) (by omega), nrm_of (by omega) (by omega), if_pos (by omega)]
    | succ j ih =>
      intro n k hn hl
      obtain ⟨n, rfl⟩ : ∃ m, n = m + 1 := ⟨n - 1, by omega⟩
      have hk : k < B.length := by omega
      have hI := ih n (k + 1) (by omega) (by omega)
      have hbk := w.b hk
      have h58 := L58 k B.length FU 0 0 hk (by have := FU_ge; omega) (by omega)
      rw [List.drop_zero, nc0, Int.zero_add, hp.countP_eq] at h58
      obtain ⟨q, hq⟩ := List.mem_iff_getElem?.mp (hp.mem_iff.mp (List.mem_of_getElem? hbk))
      have hqi := cnt_idx hQ hq
      simp only at hqi
      rw [hqi] at h58
      have hql : q < P.2.2.2.2.2.1.length := (List.getElem?_eq_some_iff.mp hq).1
      obtain ⟨a1, a2, a3, a4⟩ := Q_bk h hql
      have hqb := (h.b hql).2.1
      rw [hq] at hqb
      simp only [Option.some.injEq, Prod.mk.injEq] at hqb
      obtain ⟨b1, b2, b3, b4⟩ := hqb
      rw [f6_agrees_L46, hw, nrm_of (by omega) (by omega), nrm_of (by omega) (by omega), if_neg (by omega), h58]
      show bd (f5_bookedShip V (q : Int)) _ = _
      rw [a1, bd_q, ck_t (by omega), Int.toNat_natCast, b1, if_pos rfl, a2, bd_q, b2, if_pos rfl, a3, bd_q, b3, if_pos rfl, a4, bd_q, b4, if_pos rfl, show (k : Int) + 1 = ((k + 1 : Nat) : Int) by omega]
      exact hI
  have L325 : ∀ (j n k : Nat), j + 1 ≤ n → P.2.2.2.2.2.2.length = k + j → f6_agrees_L325 V n (k : Int) = some 1 := by
    intro j
    induction j with
    | zero =>
      intro n k hn hl
      obtain ⟨n, rfl⟩ : ∃ m, n = m + 1 := ⟨n - 1, by omega⟩
      rw [f6_agrees_L325, w.2.1.2, nrm_of (by omega) (by omega), nrm_of (by omega) (by omega), if_pos (by omega), Q_inc h hm, bd_q, if_pos (by decide +kernel)]
    | succ j ih =>
      intro n k hn hl
      obtain ⟨n, rfl⟩ : ∃ m, n = m + 1 := ⟨n - 1, by omega⟩
      have hk : k < P.2.2.2.2.2.2.length := by omega
      have hI := ih n (k + 1) (by omega) (by omega)
      obtain ⟨a1, a2, a3, a4⟩ := Q_rq h hk
      have hq := w.r hk
      rw [(h.r hk).2.1] at hq
      simp only [Option.some.injEq, Prod.mk.injEq] at hq
      obtain ⟨b1, b2, b3, b4⟩ := hq
      rw [f6_agrees_L325, w.2.1.2, nrm_of (by omega) (by omega), nrm_of (by omega) (by omega), if_neg (by omega), a1, bd_q, ck_t (by omega), Int.toNat_natCast, b1, if_pos rfl, a2, bd_q, b2, if_pos rfl, a3, bd_q, b3, if_pos rfl, a4, bd_q, b4, if_pos rfl, show (k : Int) + 1 = ((k + 1 : Nat) : Int) by omega]
      exact hI
  obtain ⟨n1, n2, n3, -⟩ := Q_n h
  have h46 := L46 B.length FU 0 (by have := FU_ge; omega) (by omega)
  have h325 := L325 P.2.2.2.2.2.2.length FU 0 (by have := FU_ge; omega) (by omega)
  rw [nc0] at h46 h325
  unfold f6_agrees
  rw [n1, bd_q, hw, hB, if_pos rfl, n2, bd_q, w.2.1.2, if_pos rfl, n3, bd_q, w.2.2, if_pos rfl, h46]
  exact h325
