/-! a round of the law never ends without an answer -/
theorem td_n {z c : Nat} (hz : z < 2147483648) (hc : c < 2147483648) : (nrm (z : Int)).tdiv (nrm (c : Int)) = ((z / c : Nat) : Int) := by
  rw [nrm_of (by omega) (by omega), nrm_of (by omega) (by omega)]
  rfl
theorem tm_n {z c : Nat} (hz : z < 2147483648) (hc : c < 2147483648) : (nrm (z : Int)).tmod (nrm (c : Int)) = ((z % c : Nat) : Int) := by
  rw [nrm_of (by omega) (by omega), nrm_of (by omega) (by omega)]
  rfl
theorem nr_n {z : Nat} (hz : z < 2147483648) : nrm (z : Int) = (z : Int) := nrm_of (by omega) (by omega)
/-- as many passages as were made and not cancelled -/
def mc (P : Pl) : Prop := P.2.2.1 - P.2.2.2.1 = (P.2.2.2.2.2.1.length : Int)
theorem mc_proc {S : Su} : ∀ (k i : Nat) (sv : Int) (P : Pl), mc P → mc (proc S k i sv P).2
  | 0, _, _, _, h => h
  | k + 1, i, sv, P, h => by
    rw [proc]
    split
    · exact h
    · split
      · exact mc_proc k (i + 1) sv P h
      · refine mc_proc k i (sv + 1) _ ?_
        unfold mc at h ⊢
        show P.2.2.1 + 1 - P.2.2.2.1 = ((insB _ P.2.2.2.2.2.1).length : Int)
        rw [insB_len]
        omega
theorem mc_serve {S : Su} {P : Pl} (h : mc P) : mc (serveP S P).2 := mc_proc P.2.2.2.2.2.2.length 0 0 P h
theorem mc_book {S : Su} {P : Pl} {x y s : Int} (h : mc P) : mc (bookP S P x y s) := by
  unfold mc at h ⊢
  show P.2.2.1 + 1 - P.2.2.2.1 = ((insB _ P.2.2.2.2.2.1).length : Int)
  rw [insB_len]
  omega
theorem mc_cancel {S : Su} {P : Pl} {i : Nat} (hi : i < P.2.2.2.2.2.1.length) (h : mc P) : mc (cancelP S P i).2 := by
  refine mc_serve ?_
  unfold mc at h ⊢
  show P.2.2.1 - (P.2.2.2.1 + 1) = ((P.2.2.2.2.2.1.eraseIdx i).length : Int)
  rw [List.length_eraseIdx_of_lt hi]
  omega
theorem mi_serve {S : Su} {P : Pl} : (serveP S P).2.2.1 = P.2.1 ∧ (serveP S P).2.1 = P.1 := ⟨(proc_pl P.2.2.2.2.2.2.length 0 0 P).2.1, (proc_pl P.2.2.2.2.2.2.length 0 0 P).1⟩
theorem bkC_of {S : Su} {P : Pl} {x y s : Int} (h1 : P.2.1 ≤ s) (h2 : P.2.2.2.2.2.1.length < 20) (h3 : cnf S y s (s + tr S P.1 x) P.2.2.2.2.2.1 = 0) : bkC S P x y s := ⟨h1, h2, frB_all.mpr (cnf_0.2.2.mp h3)⟩
/-- how a round may end -/
def AO (S : Su) (P : Pl) (o : Option VV) : Prop := ∃ (V' : VV) (P' : Pl), o = some V' ∧ CI V' S P' ∧ mc P' ∧ P'.2.1 ≤ P.2.1 + 12
theorem O_act {V : VV} {S : Su} {P : Pl} (h : CI V S P) (hm : mc P) (hmin : P.2.1 ≤ 1000) {z : Nat} (hz : z < 268435456) : AO S P (fL_act V (z : Int)) := by
  obtain ⟨n1, n2, n3, n4, n5, n6, n7⟩ := Q_n h.1
  have hr := h.1.ok.rg
  have hs := h.1.su
  have hS10 := hs.2.2.2.2.2
  have hu : z / 16 % S.2.2.length < S.2.2.length := Nat.mod_lt _ (by omega)
  have self : AO S P (some V) := ⟨V, P, rfl, h, hm, by omega⟩
  have d16 : (nrm (z : Int)).tdiv (nrm 16) = ((z / 16 : Nat) : Int) := td_n (c := 16) (by omega) (by omega)
  have d256 : (nrm (z : Int)).tdiv (nrm 256) = ((z / 256 : Nat) : Int) := td_n (c := 256) (by omega) (by omega)
  have d512 : (nrm (z : Int)).tdiv (nrm 512) = ((z / 512 : Nat) : Int) := td_n (c := 512) (by omega) (by omega)
  have dq : (nrm (z : Int)).tdiv (nrm 131072) = ((z / 131072 : Nat) : Int) := td_n (c := 131072) (by omega) (by omega)
  have m12 : (nrm (z : Int)).tmod (nrm 12) = ((z % 12 : Nat) : Int) := tm_n (c := 12) (by omega) (by omega)
  have t2 : (nrm ((z / 256 : Nat) : Int)).tmod (nrm 2) = ((z / 256 % 2 : Nat) : Int) := tm_n (c := 2) (by omega) (by omega)
  have t160 : (nrm ((z / 512 : Nat) : Int)).tmod (nrm 160) = ((z / 512 % 160 : Nat) : Int) := tm_n (c := 160) (by omega) (by omega)
  have ts : (nrm ((z / 16 : Nat) : Int)).tmod (nrm (S.2.2.length : Int)) = ((z / 16 % S.2.2.length : Nat) : Int) := tm_n (by omega) (by omega)
  have t10 : (nrm ((z / 131072 : Nat) : Int)).tmod (nrm 10) = ((z / 131072 % 10 : Nat) : Int) := tm_n (c := 10) (by omega) (by omega)
  have t12 : (nrm ((z / 131072 : Nat) : Int)).tmod (nrm 12) = ((z / 131072 % 12 : Nat) : Int) := tm_n (c := 12) (by omega) (by omega)
  have t25 : (nrm ((z / 131072 : Nat) : Int)).tmod (nrm 25) = ((z / 131072 % 25 : Nat) : Int) := tm_n (c := 25) (by omega) (by omega)
  have u2 : nrm ((z / 256 % 2 : Nat) : Int) = ((z / 256 % 2 : Nat) : Int) := nr_n (by omega)
  have u160 : nrm ((z / 512 % 160 : Nat) : Int) = ((z / 512 % 160 : Nat) : Int) := nr_n (by omega)
  have u12 : nrm ((z % 12 : Nat) : Int) = ((z % 12 : Nat) : Int) := nr_n (by omega)
  have um : nrm P.2.1 = P.2.1 := nrm_of (by omega) (by omega)
  have ub : nrm (P.2.2.2.2.2.1.length : Int) = (P.2.2.2.2.2.1.length : Int) := nr_n (by omega)
  have ur : nrm (P.2.2.2.2.2.2.length : Int) = (P.2.2.2.2.2.2.length : Int) := nr_n (by omega)
  have tb : (nrm ((z / 131072 : Nat) : Int)).tmod (P.2.2.2.2.2.1.length : Int) = ((z / 131072 % P.2.2.2.2.2.1.length : Nat) : Int) := by
    have := tm_n (z := z / 131072) (c := P.2.2.2.2.2.1.length) (by omega) (by omega)
    rwa [ub] at this
  have tr0 : (nrm ((z / 131072 : Nat) : Int)).tmod (P.2.2.2.2.2.2.length : Int) = ((z / 131072 % P.2.2.2.2.2.2.length : Nat) : Int) := by
    have := tm_n (z := z / 131072) (c := P.2.2.2.2.2.2.length) (by omega) (by omega)
    rwa [ur] at this
  have k20 : nrm 20 = 20 := by decide +kernel
  have k8 : nrm 8 = 8 := by decide +kernel
  obtain ⟨y, hy, ey⟩ : ∃ y : Int, (y = 0 ∨ y = 1) ∧ (if ((z / 256 % 2 : Nat) : Int) = 0 then some (1 : Int) else some 0) = some y := by
    split
    · exact ⟨1, Or.inr rfl, rfl⟩
    · exact ⟨0, Or.inl rfl, rfl⟩
  have hx : isSp S ((z / 16 % S.2.2.length : Nat) : Int) := ⟨by omega, by omega⟩
  have hst : 0 ≤ ((z / 512 % 160 : Nat) : Int) ∧ ((z / 512 % 160 : Nat) : Int) ≤ 159 := ⟨by omega, by omega⟩
  obtain ⟨-, q2, q3⟩ := X_transitOf h.1 hx
  have hbook : AO S P (if ((z / 512 % 160 : Nat) : Int) < P.2.1 then some V else if 20 ≤ (P.2.2.2.2.2.1.length : Int) then some V else bd (f5_conflictCount V ((z / 16 % S.2.2.length : Nat) : Int) y ((z / 512 % 160 : Nat) : Int)) (fun r => (if nrm r = 0 then bd2 (f5_book V ((z / 16 % S.2.2.length : Nat) : Int) y ((z / 512 % 160 : Nat) : Int)) (fun _ W => some W) else some V))) := by
    by_cases c1 : ((z / 512 % 160 : Nat) : Int) < P.2.1
    · rw [if_pos c1]; exact self
    · rw [if_neg c1]
      by_cases c2 : 20 ≤ (P.2.2.2.2.2.1.length : Int)
      · rw [if_pos c2]; exact self
      · rw [if_neg c2, Q_cc h.1 hx hy (by omega), bd_q]
        have hc0 := cnf_0 (S := S) (y := y) (s := ((z / 512 % 160 : Nat) : Int)) (e := ((z / 512 % 160 : Nat) : Int) + tr S P.1 ((z / 16 % S.2.2.length : Nat) : Int)) (l := P.2.2.2.2.2.1)
        rw [nrm_of (by omega) (by omega)]
        by_cases c3 : cnf S y ((z / 512 % 160 : Nat) : Int) (((z / 512 % 160 : Nat) : Int) + tr S P.1 ((z / 16 % S.2.2.length : Nat) : Int)) P.2.2.2.2.2.1 = 0
        · rw [if_pos c3]
          obtain ⟨V', g1, g2, -⟩ := O_book h hx hy (s := ((z / 512 % 160 : Nat) : Int)) (by omega) (bkC_of (by omega) (by omega) c3)
          exact ⟨V', _, by rw [g1]; rfl, g2, mc_book hm, by show P.2.1 ≤ _; omega⟩
        · rw [if_neg c3]; exact self
  unfold fL_act
  rw [ck_t (by decide +kernel), n7, bd_q, ck_t (by rw [nr_n (by omega)]; omega), ck_t (by decide +kernel), ck_t (by decide +kernel)]
  simp (config := { maxSteps := 5000000 }) only [d16, d256, d512, dq, m12, t2, t160, ts, u2, u160, u12]
  rw [ey, bd_q, ck_t (by decide +kernel), ck_t (by decide +kernel), ck_t (by decide +kernel)]
  simp (config := { maxSteps := 5000000 }) only [n1, n2, n4, bd_q, um, ub, ur, k20, k8, tb, tr0, t10, t12, t25]
  by_cases c0 : ((z % 12 : Nat) : Int) = 0
  · rw [if_pos c0]; exact hbook
  rw [if_neg c0]
  by_cases c1 : ((z % 12 : Nat) : Int) = 1
  · rw [if_pos c1]; exact hbook
  rw [if_neg c1]
  by_cases c2 : ((z % 12 : Nat) : Int) = 2
  · rw [if_pos c2]; exact hbook
  rw [if_neg c2]
  by_cases c3 : ((z % 12 : Nat) : Int) = 3
  · rw [if_pos c3]
    by_cases e1 : (P.2.2.2.2.2.1.length : Int) ≤ 0
    · rw [if_pos e1]; exact self
    · have hi : z / 131072 % P.2.2.2.2.2.1.length < P.2.2.2.2.2.1.length := Nat.mod_lt _ (by omega)
      obtain ⟨-, -, b⟩ := h.1.b hi
      obtain ⟨o1, o2, o3, o4, o5, o6, o7⟩ := b
      simp only at o4 o5
      rw [if_neg e1, ck_t (by decide +kernel), ck_t (by omega), (Q_bk h.1 hi).2.2.1, bd_q, nrm_of (by omega) (by omega)]
      by_cases e2 : V 56 (z / 131072 % P.2.2.2.2.2.1.length) ≤ P.2.1
      · rw [if_pos e2]; exact self
      · rw [if_neg e2]
        obtain ⟨V', g1, g2, -⟩ := O_cancel h hi (by omega)
        refine ⟨V', _, by rw [g1]; rfl, g2, mc_cancel hi hm, ?_⟩
        have := (mi_serve (S := S) (P := setC (remBP P (z / 131072 % P.2.2.2.2.2.1.length)) (P.2.2.2.1 + 1))).1
        have e5 : (cancelP S P (z / 131072 % P.2.2.2.2.2.1.length)).2.2.1 = P.2.1 := this
        omega
  rw [if_neg c3]
  by_cases c4 : ((z % 12 : Nat) : Int) = 4
  · rw [if_pos c4]
    by_cases e1 : (P.2.2.2.2.2.2.length : Int) ≤ 0
    · rw [if_pos e1]; exact self
    · have hi : z / 131072 % P.2.2.2.2.2.2.length < P.2.2.2.2.2.2.length := Nat.mod_lt _ (by omega)
      rw [if_neg e1, ck_t (by decide +kernel), ck_t (by omega)]
      obtain ⟨r, V', g1, g2, -⟩ := O_withdraw h hi
      exact ⟨V', _, by rw [g1]; rfl, g2, hm, by show P.2.1 ≤ _; omega⟩
  rw [if_neg c4]
  by_cases c5 : ((z % 12 : Nat) : Int) = 5
  · rw [if_pos c5, ck_t (by decide +kernel), ck_t (by decide +kernel)]
    obtain ⟨V', g1, g2, -⟩ := O_setT h (t := ((z / 131072 % 10 : Nat) : Int)) ⟨by omega, by omega⟩
    refine ⟨V', _, by rw [g1]; rfl, g2, mc_serve hm, ?_⟩
    rw [mi_serve.1]
    show P.2.1 ≤ _
    omega
  rw [if_neg c5]
  by_cases c6 : ((z % 12 : Nat) : Int) = 6
  · rw [if_pos c6, ck_t (by decide +kernel)]
    obtain ⟨V', g1, g2, -⟩ := O_advance h (m := 1 + ((z / 131072 % 12 : Nat) : Int)) ⟨by omega, by omega⟩ (by omega)
    refine ⟨V', _, by rw [g1]; rfl, g2, hm, ?_⟩
    show P.2.1 + (1 + ((z / 131072 % 12 : Nat) : Int)) ≤ P.2.1 + 12
    omega
  rw [if_neg c6]
  by_cases e1 : 8 ≤ (P.2.2.2.2.2.2.length : Int)
  · rw [if_pos e1]; exact self
  · rw [if_neg e1, ck_t (by decide +kernel), ck_t (by decide +kernel)]
    obtain ⟨V', g1, g2, -⟩ := O_request h hx hy (e := ((z / 512 % 160 : Nat) : Int)) (la := ((z / 512 % 160 : Nat) : Int) + ((z / 131072 % 25 : Nat) : Int)) ⟨⟨by omega, by omega⟩, ⟨by omega, by omega⟩⟩ (Or.inl (by omega))
    refine ⟨V', _, by rw [g1]; rfl, g2, ?_, ?_⟩
    · unfold reqP
      split
      · exact hm
      · exact mc_book hm
    · unfold reqP
      split
      · show P.2.1 ≤ _; omega
      · show P.2.1 ≤ _; omega
