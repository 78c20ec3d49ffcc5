/-! the changes, as functions of plans -/
def remBP (P : Pl) (i : Nat) : Pl := (P.1, P.2.1, P.2.2.1, P.2.2.2.1, P.2.2.2.2.1, P.2.2.2.2.2.1.eraseIdx i, P.2.2.2.2.2.2)
theorem okP_remB {S : Su} {P : Pl} (hP : okP S P) (i : Nat) : okP S (remBP P i) := by
  refine ⟨hP.1, hP.2.1, ⟨?_, hP.2.2.1.2⟩, fun c hm => hP.2.2.2.1 c (List.mem_of_mem_eraseIdx hm), hP.2.2.2.2.1, hP.2.2.2.2.2.sublist (List.eraseIdx_sublist _ _)⟩
  have := List.length_eraseIdx_le (l := P.2.2.2.2.2.1) (i := i)
  have := hP.2.2.1.1
  show (P.2.2.2.2.2.1.eraseIdx i).length ≤ 20
  omega
def setC (P : Pl) (c : Int) : Pl := (P.1, P.2.1, P.2.2.1, c, P.2.2.2.2.1, P.2.2.2.2.2.1, P.2.2.2.2.2.2)
def setT (P : Pl) (t : Int) : Pl := (t, P.2.1, P.2.2.1, P.2.2.2.1, P.2.2.2.2.1, P.2.2.2.2.2.1, P.2.2.2.2.2.2)
def setMi (P : Pl) (t : Int) : Pl := (P.1, t, P.2.2.1, P.2.2.2.1, P.2.2.2.2.1, P.2.2.2.2.2.1, P.2.2.2.2.2.2)
def cancelP (S : Su) (P : Pl) (i : Nat) : Int × Pl := serveP S (setC (remBP P i) (P.2.2.2.1 + 1))
theorem X_cancelNow {V : VV} {S : Su} {P : Pl} (h : CK V S P) {i : Nat} (hi : i < P.2.2.2.2.2.1.length) : ∃ V' : VV, f5_cancelNow V (i : Int) = some ((cancelP S P i).1, V') ∧ fr0 V V' ∧ CK V' S (cancelP S P i).2 := by
  have hr := h.ok.rg
  obtain ⟨V1, g1, g2, g3⟩ := X_removeBooking h.1 hi hr.2.2.1 (fun b hb => (h.ok.bz b hb).1)
  have e3 := (rpC_s g3).2.2.2.1
  have hs := (X_setF g3 (V1 53 3 + 1)).2.2.2.1
  rw [e3] at hs
  have h1 : CK (up2 V1 53 3 (P.2.2.2.1 + 1)) S (setC (remBP P i) (P.2.2.2.1 + 1)) := h.mut (g2.tr fr0_up) hs (okP_sv (okP_remB h.ok i))
  obtain ⟨V2, k1, k2, k3⟩ := X_serveWaiting h1
  refine ⟨V2, ?_, (g2.tr fr0_up).tr k2, k3⟩
  unfold f5_cancelNow
  rw [g1]
  simp only [bd_s, aP0]
  rw [e3, k1]
  rfl
def moveP (S : Su) (P : Pl) (i : Nat) (b : Bk) (s : Int) : Int × Pl := serveP S (P.1, P.2.1, P.2.2.1, P.2.2.2.1, P.2.2.2.2.1, insB (b.1, b.2.1, s, s + (b.2.2.2 - b.2.2.1)) (P.2.2.2.2.2.1.eraseIdx i), P.2.2.2.2.2.2)
theorem okP_move {S : Su} {P : Pl} (hP : okP S P) {i : Nat} {b : Bk} {s : Int} (hi : P.2.2.2.2.2.1[i]? = some b) (hs : 0 ≤ s ∧ s ≤ 999) (hf : frB S P.2.2.2.2.2.1 b.2.1 (b.2.2.2 - b.2.2.1) (i : Int) s = true) : okP S (P.1, P.2.1, P.2.2.1, P.2.2.2.1, P.2.2.2.2.1, insB (b.1, b.2.1, s, s + (b.2.2.2 - b.2.2.1)) (P.2.2.2.2.2.1.eraseIdx i), P.2.2.2.2.2.2) := by
  have hb := hP.2.2.2.1 b (List.mem_of_getElem? hi)
  obtain ⟨u1, u2, u3, u4, u5, u6, u7⟩ := hb
  have hl := (List.getElem?_eq_some_iff.mp hi).1
  have h1 := okP_remB hP i
  refine okP_ins (P := remBP P i) (ma := P.2.2.1) h1 ?_ ⟨u1, u2, u3, hs.1, hs.2, by show s < s + _; omega, by show s + _ ≤ s + 78; omega⟩ (fun c hm => ?_)
  · show (P.2.2.2.2.2.1.eraseIdx i).length < 20
    have := hP.2.2.1.1
    rw [List.length_eraseIdx_of_lt hl]
    omega
  · obtain ⟨j, hj, hjc⟩ := List.mem_eraseIdx_iff_getElem?.mp hm
    exact frB_iff.mp hf j c hjc (by omega)
theorem okP_setT {S : Su} {P : Pl} (h : okP S P) {t : Int} (ht : 0 ≤ t ∧ t ≤ 9) : okP S (setT P t) := ⟨ht, h.2.1, h.2.2.1, h.2.2.2.1, h.2.2.2.2.1, h.2.2.2.2.2⟩
theorem okP_setMi {S : Su} {P : Pl} (h : okP S P) {t : Int} (ht : 0 ≤ t ∧ t ≤ 1200) : okP S (setMi P t) := ⟨h.1, ht, h.2.2.1, h.2.2.2.1, h.2.2.2.2.1, h.2.2.2.2.2⟩
theorem X_freezeNow {V : VV} {S : Su} {P : Pl} (h : CK V S P) {t : Int} (ht : 0 ≤ t ∧ t ≤ 9) : ∃ V' : VV, f5_freezeNow V t = some ((serveP S (setT P t)).1, V') ∧ fr0 V V' ∧ CK V' S (serveP S (setT P t)).2 := by
  have h1 : CK (up2 V 53 0 t) S (setT P t) := h.mut fr0_up (X_setF h.1 t).1 (okP_setT h.ok ht)
  obtain ⟨V2, k1, k2, k3⟩ := X_serveWaiting h1
  refine ⟨V2, ?_, fr0_up.tr k2, k3⟩
  unfold f5_freezeNow
  rw [aP0, k1]
  rfl
/-- how many bookings have ended by a minute -/
def fin : List Bk → Int → Int
  | [], _ => 0
  | b :: l, t => (if b.2.2.2 ≤ t then 1 else 0) + fin l t
def advP (P : Pl) (m : Int) : Int × Pl := (fin P.2.2.2.2.2.1 (P.2.1 + m) - fin P.2.2.2.2.2.1 P.2.1, setMi P (P.2.1 + m))
theorem X_advanceNow {V : VV} {S : Su} {P : Pl} (h : CK V S P) {m : Int} (hm : 1 ≤ m) (hm2 : P.2.1 + m ≤ 1200) : ∃ V' : VV, f5_advanceNow V m = some ((advP P m).1, V') ∧ fr0 V V' ∧ CK V' S (advP P m).2 := by
  have hr := h.ok.rg
  have hp := h.pl
  have hs := (X_setF h.1 (P.2.1 + m)).2.1
  have h1 : CK (up2 V 53 1 (P.2.1 + m)) S (setMi P (P.2.1 + m)) := h.mut fr0_up hs (okP_setMi h.ok (by omega))
  refine ⟨_, ?_, fr0_up, h1⟩
  have hp1 := h1.pl
  have key : ∀ (k n i : Nat) (a : Int), k + 1 ≤ n → P.2.2.2.2.2.1.length = i + k → f5_advanceNow_L26 (up2 V 53 1 (P.2.1 + m)) P.2.1 n a (i : Int) = some (a + (fin (P.2.2.2.2.2.1.drop i) (P.2.1 + m) - fin (P.2.2.2.2.2.1.drop i) P.2.1)) := by
    intro k
    induction k with
    | zero =>
      intro n i a hn hl
      obtain ⟨n, rfl⟩ : ∃ m, n = m + 1 := ⟨n - 1, by omega⟩
      rw [f5_advanceNow_L26, List.drop_eq_nil_of_le (by omega)]
      have e5 : (up2 V 53 1 (P.2.1 + m)) 53 5 = (P.2.2.2.2.2.1.length : Int) := hp1.2.2.2.2.2.1
      simp (disch := omega) only [ck_t, nrm_of, bd_s, bd2_s, bd3_s, bd4_s, Int.toNat_natCast, aP0, Nat.reduceAdd, Nat.zero_add, e5]
      rw [if_pos (by omega)]
      simp [fin]
    | succ k ih =>
      intro n i a hn hl
      obtain ⟨n, rfl⟩ : ∃ m, n = m + 1 := ⟨n - 1, by omega⟩
      have hi : i < P.2.2.2.2.2.1.length := by omega
      have hI := fun a => ih n (i + 1) a (by omega) (by omega)
      simp only [Int.natCast_add, Int.natCast_one] at hI
      obtain ⟨b1, -, b3⟩ := h.b hi
      unfold okB at b3
      simp only at b3
      obtain ⟨u1, u2, u3, u4, u5, u6, u7⟩ := b3
      have e5 : (up2 V 53 1 (P.2.1 + m)) 53 5 = (P.2.2.2.2.2.1.length : Int) := hp1.2.2.2.2.2.1
      have e1 : (up2 V 53 1 (P.2.1 + m)) 53 1 = P.2.1 + m := up2_s _ _ _ _
      have e57 : (up2 V 53 1 (P.2.1 + m)) 57 i = V 57 i := up2_n (by omega)
      rw [f5_advanceNow_L26, b1, fin, fin]
      simp (disch := omega) only [ck_t, nrm_of, bd_s, bd2_s, bd3_s, bd4_s, Int.toNat_natCast, aP0, Nat.reduceAdd, Nat.zero_add, e5, e1, e57]
      rw [if_neg (by omega)]
      by_cases c : V 57 i ≤ P.2.1
      · rw [if_pos c, hI, if_pos (by omega), if_pos c]
        congr 1; omega
      · rw [if_neg c, if_neg (show ¬ V 57 i ≤ P.2.1 from c)]
        by_cases c2 : V 57 i ≤ P.2.1 + m
        · rw [if_neg (by omega), hI, if_pos c2]
          congr 1; omega
        · rw [if_pos (by omega), hI, if_neg c2]
          congr 1; omega
  have hk := key P.2.2.2.2.2.1.length FU 0 0 (by have := FU_ge; omega) (by omega)
  rw [List.drop_zero, nc0, Int.zero_add] at hk
  unfold f5_advanceNow
  simp only [aP0, hp.2.1]
  rw [hk]
  rfl
def reqP (S : Su) (P : Pl) (x y e la : Int) : Int × Pl := (sts S P x y e la, if sts S P x y e la = -1 then (P.1, P.2.1, P.2.2.1, P.2.2.2.1, P.2.2.2.2.1, P.2.2.2.2.2.1, P.2.2.2.2.2.2 ++ [(x, y, e, la)]) else bookP S P x y (sts S P x y e la))
theorem okP_addR {S : Su} {P : Pl} (h : okP S P) {x y e la : Int} (hn : P.2.2.2.2.2.2.length < 8) (hx : 0 ≤ x ∧ x < (S.2.2.length : Int)) (hy : y = 0 ∨ y = 1) (he : 0 ≤ e ∧ e ≤ la ∧ la ≤ 999) : okP S (P.1, P.2.1, P.2.2.1, P.2.2.2.1, P.2.2.2.2.1, P.2.2.2.2.2.1, P.2.2.2.2.2.2 ++ [(x, y, e, la)]) := by
  refine ⟨h.1, h.2.1, ⟨h.2.2.1.1, by simp; omega⟩, h.2.2.2.1, fun c hm => ?_, h.2.2.2.2.2⟩
  rcases List.mem_append.mp hm with q | q
  · exact h.2.2.2.2.1 c q
  · rw [List.mem_singleton.mp q]
    exact ⟨hx.1, hx.2, hy, he.1, he.2.1, he.2.2⟩
theorem X_requestNow {V : VV} {S : Su} {P : Pl} (h : CK V S P) {x y e la : Int} (hx : 0 ≤ x ∧ x < (S.2.2.length : Int)) (hy : y = 0 ∨ y = 1) (he : 0 ≤ e ∧ e ≤ la ∧ la ≤ 999) (hn : P.2.2.2.2.2.2.length < 8 ∨ sts S P x y e la ≠ -1) : ∃ V' : VV, f5_requestNow V x y e la = some ((reqP S P x y e la).1, V') ∧ fr0 V V' ∧ CK V' S (reqP S P x y e la).2 := by
  have hst := X_startToServe h hx hy (e := e) (la := la) (by omega) (by omega)
  have hsr := sts_rg (x := x) (y := y) (e := e) (la := la) h.ok (by omega) he.2.2
  unfold f5_requestNow reqP
  rw [hst]
  simp (disch := omega) only [bd_s, nrm_of]
  by_cases c : sts S P x y e la = -1
  · obtain ⟨V1, g1, g2, g3⟩ := X_addRequest h.1 (sh := x) (y := y) (e := e) (la := la) (by omega) hy
    refine ⟨V1, ?_, g2, ?_⟩
    · rw [if_pos c, g1]; rfl
    · rw [if_pos c]
      exact h.mut g2 g3 (okP_addR h.ok (by omega) hx hy he)
  · rcases hsr with z | ⟨z1, z2, z3, z4, z5⟩
    · exact absurd z c
    · obtain ⟨V1, g1, g2, g3⟩ := X_bookNow h (x := x) (y := y) (s := sts S P x y e la) z3 hx hy ⟨z1, z2⟩ z4
      refine ⟨V1, ?_, g2, ?_⟩
      · rw [if_neg c, g1]; rfl
      · rw [if_neg c]; exact g3
