/-! booking, serving: on plans, and in the class -/
theorem insB_mem {b c : Bk} {l : List Bk} (h : c ∈ insB b l) : c = b ∨ c ∈ l := by
  unfold insB insAt at h
  rcases List.mem_append.mp h with q | q
  · exact Or.inr (List.mem_of_mem_take q)
  · rcases List.mem_cons.mp q with e | e
    · exact Or.inl e
    · exact Or.inr (List.mem_of_mem_drop e)
theorem insB_len {b : Bk} {l : List Bk} : (insB b l).length = l.length + 1 := insAt_len posF_le
theorem conf_sym {hw cl i1 s1 e1 i2 s2 e2 : Int} : conf hw cl i1 s1 e1 i2 s2 e2 ↔ conf hw cl i2 s2 e2 i1 s1 e1 := by
  unfold conf
  constructor <;> intro q <;> omega
theorem insB_pw {S : Su} {b : Bk} {l : List Bk} (h : l.Pairwise (okO S.1 S.2.1)) (hc : ∀ c ∈ l, cf S c b.2.1 b.2.2.1 b.2.2.2 = false) : (insB b l).Pairwise (okO S.1 S.2.1) := by
  have hp := posF_le (st := stL l) (s := b.2.2.1) (m := l.length)
  have hg := posF_gt (st := stL l) (s := b.2.2.1) (m := l.length)
  have ha := posF_at (st := stL l) (s := b.2.2.1) (m := l.length)
  unfold insB insAt
  generalize posF (stL l) b.2.2.1 l.length = p at *
  have hl : l.take p ++ l.drop p = l := List.take_append_drop p l
  have h2 := h
  rw [← hl] at h2
  obtain ⟨w1, w2, w3⟩ := List.pairwise_append.mp h2
  have hncf : ∀ c ∈ l, ¬ conf S.1 S.2.1 c.2.1 c.2.2.1 c.2.2.2 b.2.1 b.2.2.1 b.2.2.2 := fun c hm => by
    have := hc c hm
    unfold cf at this
    exact of_decide_eq_false this
  have hbef : ∀ c ∈ l.take p, okO S.1 S.2.1 c b := by
    intro c hm
    have hm2 := List.mem_of_mem_take hm
    obtain ⟨i, hi, hic⟩ := List.getElem_of_mem hm
    rw [List.length_take] at hi
    have hg1 : l[i]? = some c := by
      rw [List.getElem_take] at hic
      rw [← hic]
      exact List.getElem?_eq_getElem (by omega)
    refine ⟨?_, hncf c hm2⟩
    obtain ⟨k, hk⟩ : ∃ k, p = k + 1 := ⟨p - 1, by omega⟩
    have hst := ha k hk
    have hkl : k < l.length := by omega
    have e1 : stL l k = (l[k]).2.2.1 := by
      unfold stL
      rw [List.getD_eq_getElem?_getD, List.getElem?_eq_getElem hkl]
      rfl
    have hne : c.2.2.1 ≠ b.2.2.1 := fun e => hncf c hm2 (Or.inl e)
    by_cases q : i = k
    · have : c = l[k] := by
        rw [q, List.getElem?_eq_getElem hkl] at hg1
        exact (Option.some.inj hg1).symm
      rw [this] at hne ⊢
      omega
    · have hil : i < l.length := by omega
      have := List.pairwise_iff_getElem.mp h i k hil hkl (by omega)
      have hci : l[i] = c := by
        rw [List.getElem?_eq_getElem hil] at hg1
        exact Option.some.inj hg1
      rw [hci] at this
      have := this.1
      omega
  have haft : ∀ c ∈ l.drop p, okO S.1 S.2.1 b c := by
    intro c hm
    have hm2 := List.mem_of_mem_drop hm
    obtain ⟨i, hi, hic⟩ := List.getElem_of_mem hm
    rw [List.length_drop] at hi
    have := hg (p + i) (by omega) (by omega)
    have e1 : stL l (p + i) = c.2.2.1 := by
      unfold stL
      rw [List.getElem_drop] at hic
      rw [List.getD_eq_getElem?_getD, List.getElem?_eq_getElem (by omega), hic]
      rfl
    exact ⟨by omega, fun z => hncf c hm2 (conf_sym.mp z)⟩
  refine List.pairwise_append.mpr ⟨w1, List.pairwise_cons.mpr ⟨haft, w2⟩, fun a hma c hmc => ?_⟩
  rcases List.mem_cons.mp hmc with e | e
  · rw [e]; exact hbef a hma
  · exact w3 a hma c e
/-- a booking more -/
def bookP (S : Su) (P : Pl) (x y s : Int) : Pl := (P.1, P.2.1, P.2.2.1 + 1, P.2.2.2.1, P.2.2.2.2.1, insB (x, y, s, s + tr S P.1 x) P.2.2.2.2.2.1, P.2.2.2.2.2.2)
def remRP (P : Pl) (i : Nat) : Pl := (P.1, P.2.1, P.2.2.1, P.2.2.2.1, P.2.2.2.2.1, P.2.2.2.2.2.1, P.2.2.2.2.2.2.eraseIdx i)
theorem tr_rg {S : Su} {P : Pl} (hS : okS S) (hP : okP S P) {x : Int} (hx : 0 ≤ x ∧ x < (S.2.2.length : Int)) : 1 ≤ tr S P.1 x ∧ tr S P.1 x ≤ 78 := by
  have hr := hP.rg
  have hl : x.toNat < S.2.2.length := by omega
  obtain ⟨-, -, g1, g2, g3⟩ := hS.2.2.2 _ (List.getElem_mem hl)
  unfold tr
  rw [List.getElem?_eq_getElem hl]
  simp only
  split <;> omega
theorem frB_free {S : Su} {l : List Bk} {y d s : Int} (h : frB S l y d (-1) s = true) : ∀ c ∈ l, cf S c y s (s + d) = false := by
  intro c hm
  obtain ⟨i, hi, hic⟩ := List.getElem_of_mem hm
  exact frB_iff.mp h i c (by rw [← hic]; exact List.getElem?_eq_getElem hi) (by omega)
theorem okP_ins {S : Su} {P : Pl} (hP : okP S P) {b : Bk} {ma : Int} (hn : P.2.2.2.2.2.1.length < 20) (hb : okB S.2.2.length b) (hc : ∀ c ∈ P.2.2.2.2.2.1, cf S c b.2.1 b.2.2.1 b.2.2.2 = false) : okP S (P.1, P.2.1, ma, P.2.2.2.1, P.2.2.2.2.1, insB b P.2.2.2.2.2.1, P.2.2.2.2.2.2) := by
  refine ⟨hP.1, hP.2.1, ⟨by rw [insB_len]; omega, hP.2.2.1.2⟩, fun c hm => ?_, hP.2.2.2.2.1, insB_pw hP.2.2.2.2.2 hc⟩
  rcases insB_mem hm with e | e
  · rw [e]; exact hb
  · exact hP.2.2.2.1 c e
theorem okP_book {S : Su} {P : Pl} (hS : okS S) (hP : okP S P) {x y s : Int} (hn : P.2.2.2.2.2.1.length < 20) (hx : 0 ≤ x ∧ x < (S.2.2.length : Int)) (hy : y = 0 ∨ y = 1) (hs : 0 ≤ s ∧ s ≤ 999) (hf : frB S P.2.2.2.2.2.1 y (tr S P.1 x) (-1) s = true) : okP S (bookP S P x y s) := by
  have ht := tr_rg hS hP hx
  exact okP_ins hP hn ⟨hx.1, hx.2, hy, hs.1, hs.2, by show s < s + _; omega, by show s + _ ≤ s + 78; omega⟩ (frB_free hf)
theorem okP_remR {S : Su} {P : Pl} (hP : okP S P) (i : Nat) : okP S (remRP P i) := by
  refine ⟨hP.1, hP.2.1, ⟨hP.2.2.1.1, ?_⟩, hP.2.2.2.1, fun c hm => hP.2.2.2.2.1 c (List.mem_of_mem_eraseIdx hm), hP.2.2.2.2.2⟩
  have := List.length_eraseIdx_le (l := P.2.2.2.2.2.2) (i := i)
  have := hP.2.2.1.2
  show (P.2.2.2.2.2.2.eraseIdx i).length ≤ 8
  omega
/-- the waiting list once from its front to its back: k are still unvisited, i stay so far -/
def proc (S : Su) : Nat → Nat → Int → Pl → Int × Pl
  | 0, _, sv, P => (sv, P)
  | k + 1, i, sv, P => match P.2.2.2.2.2.2[i]? with
    | none => (sv, P)
    | some r => if sts S P r.1 r.2.1 r.2.2.1 r.2.2.2 = -1 then proc S k (i + 1) sv P else proc S k i (sv + 1) (bookP S (remRP P i) r.1 r.2.1 (sts S P r.1 r.2.1 r.2.2.1 r.2.2.2))
def addSv (r : Int × Pl) : Int × Pl := (r.1, (r.2.1, r.2.2.1, r.2.2.2.1, r.2.2.2.2.1, r.2.2.2.2.2.1 + r.1, r.2.2.2.2.2.2.1, r.2.2.2.2.2.2.2))
def serveP (S : Su) (P : Pl) : Int × Pl := addSv (proc S P.2.2.2.2.2.2.length 0 0 P)
theorem CK.mut {V V' : VV} {S : Su} {P P' : Pl} (h : CK V S P) (hf : fr0 V V') (hr : rpC V' 53 P') (ho : okP S P') : CK V' S P' := by
  have e0 : V' 0 = V 0 := hf 0 (by omega)
  have hq := h.2.2.1
  refine ⟨hr, ?_, by rw [e0]; exact hq, h.2.2.2.1, ho⟩
  have hc : ∀ j, j < 22 → V' (aS (V 0 2).toNat + j) = V (aS (V 0 2).toNat + j) := fun j hj => hf _ (by unfold aS; omega)
  obtain ⟨h1, h2, h3, h4⟩ := h.2.1
  rw [e0]
  refine ⟨by rw [show V' (aS (V 0 2).toNat) = _ from hc 0 (by omega)]; exact h1, by rw [show V' (aS (V 0 2).toNat) = _ from hc 0 (by omega)]; exact h2, by rw [show V' (aS (V 0 2).toNat) = _ from hc 0 (by omega)]; exact h3, fun i s hs => ?_⟩
  have hi : i < 10 := by
    have := (List.getElem?_eq_some_iff.mp hs).1
    have := h.su.2.2.2.2.2
    omega
  obtain ⟨k1, k2, k3, k4, k5⟩ := h4 i s hs
  rw [hc (2 + 2 * i) (by omega)]
  exact ⟨k1, k2, k3, k4, fun j c hj => by rw [Nat.add_assoc, hc (2 + 2 * i + 1) (by omega), ← Nat.add_assoc]; exact k5 j c hj⟩
theorem X_setF {V : VV} {P : Pl} (h : rpC V 53 P) (z : Int) : (rpC (up2 V 53 0 z) 53 (z, P.2.1, P.2.2.1, P.2.2.2.1, P.2.2.2.2.1, P.2.2.2.2.2.1, P.2.2.2.2.2.2)) ∧ (rpC (up2 V 53 1 z) 53 (P.1, z, P.2.2.1, P.2.2.2.1, P.2.2.2.2.1, P.2.2.2.2.2.1, P.2.2.2.2.2.2)) ∧ (rpC (up2 V 53 2 z) 53 (P.1, P.2.1, z, P.2.2.2.1, P.2.2.2.2.1, P.2.2.2.2.2.1, P.2.2.2.2.2.2)) ∧ (rpC (up2 V 53 3 z) 53 (P.1, P.2.1, P.2.2.1, z, P.2.2.2.2.1, P.2.2.2.2.2.1, P.2.2.2.2.2.2)) ∧ (rpC (up2 V 53 4 z) 53 (P.1, P.2.1, P.2.2.1, P.2.2.2.1, z, P.2.2.2.2.2.1, P.2.2.2.2.2.2)) := by
  obtain ⟨s0, s1, s2, s3, s4, s5, s6⟩ := rpC_s h
  have hvb := rpC_b h
  have hvr := rpC_r h
  have hb : ∀ i, vw (fun j t => up2 V 53 i z (53 + 1 + j) t) P.2.2.2.2.2.1.length = P.2.2.2.2.2.1 := fun i => by
    refine (vw_congr (fun t _ => ?_)).trans hvb.symm
    simp only [Nat.reduceAdd, Nat.add_zero]
    rw [up2_r (by omega), up2_r (by omega), up2_r (by omega), up2_r (by omega)]
    exact ⟨rfl, rfl, rfl, rfl⟩
  have hr : ∀ i, vw (fun j t => up2 V 53 i z (53 + 5 + j) t) P.2.2.2.2.2.2.length = P.2.2.2.2.2.2 := fun i => by
    refine (vw_congr (fun t _ => ?_)).trans hvr.symm
    simp only [Nat.reduceAdd, Nat.add_zero]
    rw [up2_r (by omega), up2_r (by omega), up2_r (by omega), up2_r (by omega)]
    exact ⟨rfl, rfl, rfl, rfl⟩
  refine ⟨rpC_mk ?_ ?_ ?_ ?_ ?_ ?_ ?_ (hb _) (hr _), rpC_mk ?_ ?_ ?_ ?_ ?_ ?_ ?_ (hb _) (hr _), rpC_mk ?_ ?_ ?_ ?_ ?_ ?_ ?_ (hb _) (hr _), rpC_mk ?_ ?_ ?_ ?_ ?_ ?_ ?_ (hb _) (hr _), rpC_mk ?_ ?_ ?_ ?_ ?_ ?_ ?_ (hb _) (hr _)⟩ <;> first | exact up2_s _ _ _ _ | (rw [up2_n (by omega)]; assumption)
theorem fr0_up {V : VV} {i : Nat} {z : Int} : fr0 V (up2 V 53 i z) := fun k hk => up2_r (by omega)
theorem okP.bz {S : Su} {P : Pl} (h : okP S P) : ∀ b ∈ P.2.2.2.2.2.1, (b.2.1 = 0 ∨ b.2.1 = 1) ∧ -5000 ≤ b.2.2.1 ∧ b.2.2.1 ≤ 5000 := fun b hb => by
  have := h.2.2.2.1 b hb
  obtain ⟨u1, u2, u3, u4, u5, u6, u7⟩ := this
  exact ⟨u3, by omega, by omega⟩
theorem X_bookNow {V : VV} {S : Su} {P : Pl} (h : CK V S P) {x y s : Int} (hn : P.2.2.2.2.2.1.length < 20) (hx : 0 ≤ x ∧ x < (S.2.2.length : Int)) (hy : y = 0 ∨ y = 1) (hs : 0 ≤ s ∧ s ≤ 999) (hf : frB S P.2.2.2.2.2.1 y (tr S P.1 x) (-1) s = true) : ∃ V' : VV, f5_bookNow V x y s = some (s + tr S P.1 x, V') ∧ fr0 V V' ∧ CK V' S (bookP S P x y s) := by
  obtain ⟨t1, t2, t3⟩ := X_transitOf h hx
  obtain ⟨V1, g1, g2, g3⟩ := X_insertBooking h.1 (sh := x) (y := y) (s := s) (e := s + tr S P.1 x) hn hy (by omega) h.ok.bz
  refine ⟨up2 V1 53 2 (V1 53 2 + 1), ?_, g2.tr fr0_up, ?_⟩
  · unfold f5_bookNow
    rw [t1]
    simp only [bd_s]
    rw [g1]
    rfl
  · have e2 := (rpC_s g3).2.2.1
    have h1 := (X_setF g3 (V1 53 2 + 1)).2.2.1
    rw [e2] at h1 ⊢
    exact h.mut (g2.tr fr0_up) h1 (okP_book h.2.2.2.1 h.ok hn hx hy hs hf)
theorem X_serveL {S : Su} : ∀ (k n i : Nat) (sv : Int) (V : VV) (P : Pl), k + 1 ≤ n → CK V S P → P.2.2.2.2.2.2.length = i + k → ∃ V' : VV, f5_serveWaiting_L12 n sv (i : Int) (k : Int) V = some ((proc S k i sv P).1, V') ∧ fr0 V V' ∧ CK V' S (proc S k i sv P).2 := by
  intro k
  induction k with
  | zero =>
    intro n i sv V P hn h hl
    obtain ⟨n, rfl⟩ : ∃ m, n = m + 1 := ⟨n - 1, by omega⟩
    refine ⟨V, ?_, fr0.rf, h⟩
    rw [f5_serveWaiting_L12]
    simp (disch := omega) only [ck_t, nrm_of, bd_s, bd2_s, bd3_s, bd4_s, Int.toNat_natCast, aP0, Nat.reduceAdd, Nat.zero_add, nc0]
    rw [if_pos (Int.le_refl _)]
    rfl
  | succ k ih =>
    intro n i sv V P hn h hl
    obtain ⟨n, rfl⟩ : ∃ m, n = m + 1 := ⟨n - 1, by omega⟩
    have hr := h.ok.rg
    have hi : i < P.2.2.2.2.2.2.length := by omega
    obtain ⟨-, r2, r3⟩ := h.r hi
    unfold okR at r3
    simp only at r3
    obtain ⟨u1, u2, u3, u4, u5, u6⟩ := r3
    have hst := X_startToServe h (x := V 58 i) (y := V 59 i) (e := V 60 i) (la := V 61 i) ⟨u1, u2⟩ u3 (by omega) (by omega)
    have hsr := sts_rg (x := V 58 i) (y := V 59 i) h.ok (show 0 ≤ V 60 i ∧ V 60 i ≤ 999 by omega) u6
    have ek : ((k + 1 : Nat) : Int) + -1 = (k : Int) := by omega
    rw [f5_serveWaiting_L12, proc, r2]
    simp (disch := omega) only [ck_t, nrm_of, bd_s, bd2_s, bd3_s, bd4_s, Int.toNat_natCast, aP0, Nat.reduceAdd, Nat.zero_add, hst, ek]
    rw [if_neg (by omega)]
    by_cases c : sts S P (V 58 i) (V 59 i) (V 60 i) (V 61 i) = -1
    · rw [if_pos c, if_pos c]
      obtain ⟨V', g1, g2, g3⟩ := ih n (i + 1) sv V P (by omega) h (by omega)
      rw [Int.natCast_add, Int.natCast_one] at g1
      exact ⟨V', g1, g2, g3⟩
    · rw [if_neg c, if_neg c]
      rcases hsr with z | ⟨z1, z2, z3, z4, z5⟩
      · exact absurd z c
      · obtain ⟨V1, g1, g2, g3⟩ := X_removeRequest h.1 hi hr.2.2.2 (fun b hb => (h.ok.2.2.2.2.1 b hb).2.2.1)
        have h1 : CK V1 S (remRP P i) := h.mut g2 g3 (okP_remR h.ok i)
        obtain ⟨V2, k1, k2, k3⟩ := X_bookNow h1 (x := V 58 i) (y := V 59 i) (s := sts S P (V 58 i) (V 59 i) (V 60 i) (V 61 i)) z3 ⟨u1, u2⟩ u3 ⟨z1, z2⟩ z4
        rw [g1]
        simp only [bd_s]
        rw [k1]
        simp only [bd2_s]
        obtain ⟨V', q1, q2, q3⟩ := ih n i (sv + 1) V2 _ (by omega) k3 (by
          show (P.2.2.2.2.2.2.eraseIdx i).length = i + k
          rw [List.length_eraseIdx_of_lt hi]
          omega)
        exact ⟨V', q1, (g2.tr k2).tr q2, q3⟩
theorem okP_sv {S : Su} {P : Pl} (h : okP S P) {a b c : Int} : okP S (P.1, P.2.1, a, b, c, P.2.2.2.2.2.1, P.2.2.2.2.2.2) := ⟨h.1, h.2.1, h.2.2.1, h.2.2.2.1, h.2.2.2.2.1, h.2.2.2.2.2⟩
theorem X_serveWaiting {V : VV} {S : Su} {P : Pl} (h : CK V S P) : ∃ V' : VV, f5_serveWaiting V = some ((serveP S P).1, V') ∧ fr0 V V' ∧ CK V' S (serveP S P).2 := by
  have hr := h.ok.rg
  have hp := h.pl
  obtain ⟨V1, g1, g2, g3⟩ := X_serveL P.2.2.2.2.2.2.length FU 0 0 V P (by have := FU_ge; omega) h (by omega)
  rw [nc0] at g1
  refine ⟨up2 V1 53 4 (V1 53 4 + (proc S P.2.2.2.2.2.2.length 0 0 P).1), ?_, g2.tr fr0_up, ?_⟩
  · unfold f5_serveWaiting
    rw [aP0, hp.2.2.2.2.2.2, g1]
    rfl
  · have h4 := g3.pl.2.2.2.2.1
    have hs := (X_setF g3.1 (V1 53 4 + (proc S P.2.2.2.2.2.2.length 0 0 P).1)).2.2.2.2
    rw [h4] at hs ⊢
    exact g3.mut fr0_up hs (okP_sv g3.ok)
