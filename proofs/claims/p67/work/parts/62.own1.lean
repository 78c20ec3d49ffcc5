/-! the schedule of the law: what its cells say; reading, conflicts, free windows -/
/-- the passages B, the waiting list R, how many were served -/
def OW (V : VV) (B R : List Bk) (sv : Int) : Prop := (vw (col V 149) B.length = B ∧ V 148 5 = (B.length : Int)) ∧ (vw (col V 153) R.length = R ∧ V 148 10 = (R.length : Int)) ∧ V 148 11 = sv
theorem OW.b {V : VV} {B R : List Bk} {sv : Int} (h : OW V B R sv) {i : Nat} (hi : i < B.length) : B[i]? = some (V 149 i, V 150 i, V 151 i, V 152 i) := by
  have := vw_get (F := col V 149) hi
  rwa [h.1.1] at this
theorem OW.r {V : VV} {B R : List Bk} {sv : Int} (h : OW V B R sv) {i : Nat} (hi : i < R.length) : R[i]? = some (V 153 i, V 154 i, V 155 i, V 156 i) := by
  have := vw_get (F := col V 153) hi
  rwa [h.2.1.1] at this
theorem OW.of {V V' : VV} {B R : List Bk} {sv : Int} (h : OW V B R sv) (e : ∀ k, 148 ≤ k → V' k = V k) : OW V' B R sv := by
  have e1 : ∀ k0, 148 ≤ k0 → ∀ n, vw (col V' k0) n = vw (col V k0) n := fun k0 hk n => vw_congr (fun i _ => by unfold col; rw [e _ (by omega), e _ (by omega), e _ (by omega), e _ (by omega)]; exact ⟨rfl, rfl, rfl, rfl⟩)
  unfold OW
  rw [e1 149 (by omega), e1 153 (by omega), e 148 (by omega)]
  exact h
theorem CK.up {V V' : VV} {S : Su} {P : Pl} (h : CK V S P) (e : ∀ k, k < 148 → V' k = V k) : CK V' S P := h.of (by rw [e 0 (by omega)]) (fun k _ _ => e k (by omega))
theorem CI.up {V V' : VV} {S : Su} {P : Pl} (h : CI V S P) (e : ∀ k, k < 148 → V' k = V k) : CI V' S P := ⟨h.1.up e, by rw [e 0 (by omega)]; exact h.2.1, by rw [e 0 (by omega)]; exact h.2.2⟩
/-- where the numbers of passages lie -/
def rgB (b : Bk) : Prop := (b.2.1 = 0 ∨ b.2.1 = 1) ∧ (0 ≤ b.2.2.1 ∧ b.2.2.1 ≤ 999) ∧ (b.2.2.1 < b.2.2.2 ∧ b.2.2.2 ≤ 1100) ∧ (0 ≤ b.1 ∧ b.1 ≤ 10)
theorem okB.rg {n : Int} (hn : n ≤ 10) {b : Bk} (h : okB n b) : rgB b := ⟨h.2.2.1, ⟨h.2.2.2.1, h.2.2.2.2.1⟩, ⟨h.2.2.2.2.2.1, by have := h.2.2.2.2.2.2; have := h.2.2.2.2.1; omega⟩, h.1, by have := h.2.1; omega⟩
theorem O_conflict {V : VV} {S : Su} {P : Pl} (h : CK V S P) {i1 s1 e1 i2 s2 e2 : Int} (h1 : i1 = 0 ∨ i1 = 1) (h2 : i2 = 0 ∨ i2 = 1) (h3 : -5000 ≤ s1 ∧ s1 ≤ 5000) (h4 : -5000 ≤ e1 ∧ e1 ≤ 6000) (h5 : -5000 ≤ s2 ∧ s2 ≤ 5000) (h6 : -5000 ≤ e2 ∧ e2 ≤ 6000) : fL_conflict V i1 s1 e1 i2 s2 e2 = some (if conf S.1 S.2.1 i1 s1 e1 i2 s2 e2 then 1 else 0) := by
  have hsu := h.su
  obtain ⟨-, -, -, -, q1, q2, -⟩ := Q_n h
  have n1 : nrm 1 = 1 := rfl
  have n0 : nrm 0 = 0 := rfl
  unfold fL_conflict
  simp (disch := omega) only [nrm_of, q1, q2]
  unfold conf
  by_cases c1 : s1 < s2
  · rw [if_neg (show ¬ s2 ≤ s1 by omega), bd_q, if_neg (by decide), bd_q]
    simp (disch := omega) only [nrm_of]
    rw [if_neg (by omega)]
    by_cases c3 : i1 = i2
    · rw [if_pos c3, if_neg (by decide), bd_q, bd_q]
      simp (disch := omega) only [nrm_of]
      by_cases c4 : s2 - s1 < S.1
      · rw [if_pos c4, if_pos (by omega)]
      · rw [if_neg c4, bd_q]
        simp (disch := omega) only [nrm_of]
        by_cases c5 : S.1 ≤ e2 - e1
        · rw [if_pos c5, if_neg (by omega)]
        · rw [if_neg c5, if_pos (by omega)]
    · rw [if_neg c3, if_neg (by decide), bd_q, bd_q]
      simp (disch := omega) only [nrm_of]
      by_cases c5 : S.2.1 ≤ s2 - e1
      · rw [if_pos c5, if_neg (by omega)]
      · rw [if_neg c5, if_pos (by omega)]
  · rw [if_pos (show s2 ≤ s1 by omega), bd_q, if_pos n0, bd_q]
    simp (disch := omega) only [nrm_of]
    by_cases c2 : s1 - s2 = 0
    · rw [if_pos c2, if_pos (by omega)]
    · rw [if_neg c2]
      by_cases c3 : i1 = i2
      · rw [if_pos c3, if_pos trivial, bd_q, bd_q]
        simp (disch := omega) only [nrm_of]
        by_cases c4 : s1 - s2 < S.1
        · rw [if_pos c4, if_pos (by omega)]
        · rw [if_neg c4, bd_q]
          simp (disch := omega) only [nrm_of]
          by_cases c5 : S.1 ≤ e1 - e2
          · rw [if_pos c5, if_neg (by omega)]
          · rw [if_neg c5, if_pos (by omega)]
      · rw [if_neg c3, if_pos trivial, bd_q, bd_q]
        simp (disch := omega) only [nrm_of]
        by_cases c5 : S.2.1 ≤ s1 - e2
        · rw [if_pos c5, if_neg (by omega)]
        · rw [if_neg c5, if_pos (by omega)]
theorem O_isFree {V : VV} {S : Su} {P : Pl} {B R : List Bk} {sv : Int} (h : CK V S P) (w : OW V B R sv) (hB : B.length ≤ 20) (hb : ∀ b ∈ B, rgB b) {y s e : Int} (hy : y = 0 ∨ y = 1) (hs : -100 ≤ s ∧ s ≤ 1200) (he : -100 ≤ e ∧ e ≤ 2000) : f6_isFree V y s e = some (if ∀ b ∈ B, cf S b y s e = false then 1 else 0) := by
  have hw := w.1.2
  have key : ∀ (k n i : Nat), k + 1 ≤ n → B.length = i + k → f6_isFree_L3 V y s e n (i : Int) = some (if ∀ b ∈ B.drop i, cf S b y s e = false then 1 else 0) := by
    intro k
    induction k with
    | zero =>
      intro n i hn hl
      obtain ⟨n, rfl⟩ : ∃ m, n = m + 1 := ⟨n - 1, by omega⟩
      rw [f6_isFree_L3, hw, nrm_of (by omega) (by omega), nrm_of (by omega) (by omega), if_pos (by omega), List.drop_eq_nil_of_le (by omega), if_pos (fun b hb => absurd hb List.not_mem_nil)]
    | succ k ih =>
      intro n i hn hl
      obtain ⟨n, rfl⟩ : ∃ m, n = m + 1 := ⟨n - 1, by omega⟩
      have hi : i < B.length := by omega
      have hI := ih n (i + 1) (by omega) (by omega)
      have hbi := w.b hi
      have hdr : B.drop i = (V 149 i, V 150 i, V 151 i, V 152 i) :: B.drop (i + 1) := by
        rw [List.drop_eq_getElem_cons hi]
        congr 1
        rw [List.getElem?_eq_getElem hi] at hbi
        exact Option.some.inj hbi
      obtain ⟨r1, r2, r3, r4⟩ := hb _ (List.mem_of_getElem? hbi)
      simp only at r1 r2 r3 r4
      rw [f6_isFree_L3, hw, nrm_of (by omega) (by omega), nrm_of (by omega) (by omega), if_neg (by omega), ck_t (by omega), Int.toNat_natCast, O_conflict h r1 hy (by omega) (by omega) (by omega) (by omega), bd_q, hdr]
      by_cases c : conf S.1 S.2.1 (V 150 i) (V 151 i) (V 152 i) y s e
      · rw [if_pos c, if_neg (by decide +kernel), if_neg (fun q => by
          have := q _ List.mem_cons_self
          rw [show cf S (V 149 i, V 150 i, V 151 i, V 152 i) y s e = true from decide_eq_true c] at this
          exact absurd this (by decide))]
      · rw [if_neg c, if_pos (by decide +kernel), show (i : Int) + 1 = ((i + 1 : Nat) : Int) by omega, hI]
        have hcf : cf S (V 149 i, V 150 i, V 151 i, V 152 i) y s e = false := decide_eq_false c
        by_cases c2 : ∀ b ∈ B.drop (i + 1), cf S b y s e = false
        · rw [if_pos c2, if_pos (fun b hb => by
            rcases List.mem_cons.mp hb with q | q
            · rw [q]; exact hcf
            · exact c2 b q)]
        · rw [if_neg c2, if_neg (fun q => c2 (fun b hb => q b (List.mem_cons_of_mem _ hb)))]
  have := key B.length FU 0 (by have := FU_ge; omega) (by omega)
  rw [nc0, List.drop_zero] at this
  exact this
/-- the start that serves, among passages B, at ice th and minute mi -/
def fnd (S : Su) (th mi : Int) (B : List Bk) (x y e la : Int) : Int := if B.length = 20 then -1 else lfs (frB S B y (tr S th x) (-1)) (la - (if e ≤ mi then mi else e) + 1).toNat (if e ≤ mi then mi else e)
theorem sts_fnd {S : Su} {P : Pl} {x y e la : Int} : sts S P x y e la = fnd S P.1 P.2.1 P.2.2.2.2.2.1 x y e la := rfl
theorem frB_perm {S : Su} {B Q : List Bk} (hp : B.Perm Q) {y d : Int} : frB S B y d (-1) = frB S Q y d (-1) := by
  funext s
  have h : frB S B y d (-1) s = true ↔ frB S Q y d (-1) s = true := by
    rw [frB_all, frB_all]
    exact ⟨fun h b hb => h b (hp.mem_iff.mpr hb), fun h b hb => h b (hp.mem_iff.mp hb)⟩
  cases h1 : frB S B y d (-1) s <;> cases h2 : frB S Q y d (-1) s <;> simp_all
theorem fnd_perm {S : Su} {th mi : Int} {B Q : List Bk} (hp : B.Perm Q) {x y e la : Int} : fnd S th mi B x y e la = fnd S th mi Q x y e la := by
  unfold fnd
  rw [hp.length_eq, frB_perm hp]
theorem fnd_rg {S : Su} {th mi : Int} {B : List Bk} {x y e la : Int} (hm : 0 ≤ mi) (he : 0 ≤ e) : fnd S th mi B x y e la = -1 ∨ ((0 ≤ fnd S th mi B x y e la ∧ mi ≤ fnd S th mi B x y e la ∧ e ≤ fnd S th mi B x y e la ∧ fnd S th mi B x y e la ≤ la) ∧ B.length ≠ 20 ∧ frB S B y (tr S th x) (-1) (fnd S th mi B x y e la) = true) := by
  have hm2 : mi ≤ (if e ≤ mi then mi else e) ∧ e ≤ (if e ≤ mi then mi else e) := by split <;> omega
  unfold fnd
  generalize (if e ≤ mi then mi else e) = m at hm2 ⊢
  by_cases hn : B.length = 20
  · rw [if_pos hn]
    exact Or.inl rfl
  · rw [if_neg hn]
    rcases lfs_rg (fr := frB S B y (tr S th x) (-1)) (k := (la - m + 1).toNat) (s := m) with q | ⟨q1, q2, q3⟩
    · exact Or.inl q
    · exact Or.inr ⟨⟨by omega, by omega, by omega, by omega⟩, hn, q3⟩
theorem O_find {V : VV} {S : Su} {P : Pl} {B R : List Bk} {sv : Int} (h : CK V S P) (w : OW V B R sv) (hB : B.length ≤ 20) (hb : ∀ b ∈ B, rgB b) {x y e la : Int} (hx : isSp S x) (hy : y = 0 ∨ y = 1) (he : 0 ≤ e ∧ e ≤ 999) (hl : -1 ≤ la ∧ la ≤ 999) : f6_find V x y e la = some (fnd S P.1 P.2.1 B x y e la) := by
  have hw := w.1.2
  have hr := h.ok.rg
  obtain ⟨-, -, -, qm, -, -, -⟩ := Q_n h
  have qt := Q_tt h hx
  obtain ⟨-, t2, t3⟩ := X_transitOf h hx
  have key : ∀ (k n : Nat) (m : Int), k + 1 ≤ n → 0 ≤ m → m ≤ 1000 → (la - m + 1).toNat ≤ k → f6_find_L3 V x y la n m = some (fnd S P.1 P.2.1 B x y m la) := by
    intro k
    induction k with
    | zero =>
      intro n m hn hm hm2 hk
      obtain ⟨n, rfl⟩ : ∃ q, n = q + 1 := ⟨n - 1, by omega⟩
      rw [f6_find_L3, nrm_of (by omega) (by omega), nrm_of (by omega) (by omega), if_pos (by omega)]
      unfold fnd
      split
      · rfl
      · have e0 : (la - (if m ≤ P.2.1 then P.2.1 else m) + 1).toNat = 0 := by split <;> omega
        rw [e0]; rfl
    | succ k ih =>
      intro n m hn hm hm2 hk
      obtain ⟨n, rfl⟩ : ∃ q, n = q + 1 := ⟨n - 1, by omega⟩
      rw [f6_find_L3, nrm_of (z := la) (by omega) (by omega), nrm_of (z := m) (by omega) (by omega), hw, nrm_of (z := 20) (by omega) (by omega), nrm_of (z := (B.length : Int)) (by omega) (by omega), qm]
      by_cases c1 : la < m
      · rw [if_pos c1]
        unfold fnd
        split
        · rfl
        · have e0 : (la - (if m ≤ P.2.1 then P.2.1 else m) + 1).toNat = 0 := by split <;> omega
          rw [e0]; rfl
      · rw [if_neg c1]
        by_cases c2 : B.length = 20
        · rw [if_pos (by omega)]
          unfold fnd
          rw [if_pos c2]
        · rw [if_neg (by omega), bd_q, nrm_of (z := P.2.1) (by omega) (by omega)]
          have hI := ih n (m + 1) (by omega) (by omega) (by omega) (by omega)
          by_cases c3 : m < P.2.1
          · rw [if_pos c3, hI]
            unfold fnd
            rw [if_neg c2, if_neg c2, if_pos (show m + 1 ≤ P.2.1 by omega), if_pos (show m ≤ P.2.1 by omega)]
          · rw [if_neg c3, qt, bd_q, O_isFree h w hB hb hy (by omega) (by omega), bd_q]
            have em : (if m ≤ P.2.1 then P.2.1 else m) = m := by split <;> omega
            have em1 : (if m + 1 ≤ P.2.1 then P.2.1 else m + 1) = m + 1 := if_neg (by omega)
            obtain ⟨j, hj⟩ : ∃ j, (la - m + 1).toNat = j + 1 := ⟨(la - m + 1).toNat - 1, by omega⟩
            have hj1 : (la - (m + 1) + 1).toNat = j := by omega
            have hf : frB S B y (tr S P.1 x) (-1) m = true ↔ ∀ b ∈ B, cf S b y m (m + tr S P.1 x) = false := frB_all
            have hfm : fnd S P.1 P.2.1 B x y m la = if frB S B y (tr S P.1 x) (-1) m = true then m else fnd S P.1 P.2.1 B x y (m + 1) la := by
              unfold fnd
              rw [if_neg c2, if_neg c2, em, em1, hj, hj1, lfs]
            rw [hfm]
            by_cases c4 : ∀ b ∈ B, cf S b y m (m + tr S P.1 x) = false
            · rw [if_pos c4, if_neg (by decide +kernel), if_pos (hf.mpr c4)]
            · rw [if_neg c4, if_pos (by decide +kernel), if_neg (fun q => c4 (hf.mp q)), hI]
  exact key (la - e + 1).toNat FU e (by have := FU_ge; omega) he.1 (by omega) (Nat.le_refl _)
theorem O_add {V : VV} {S : Su} {P : Pl} {B R : List Bk} {sv : Int} (h : CK V S P) (w : OW V B R sv) (hB : B.length < 20) {x y s : Int} (hx : isSp S x) (hy : y = 0 ∨ y = 1) : ∃ V' : VV, f6_add V x y s = some V' ∧ (∀ k, k < 148 → V' k = V k) ∧ (∀ k, 153 ≤ k → V' k = V k) ∧ (∀ i, i ≠ 5 → V' 148 i = V 148 i) ∧ OW V' (B ++ [(x, y, s, s + tr S P.1 x)]) R sv := by
  have hw := w.1.2
  refine ⟨up2 (pB V 149 B.length x y s (s + tr S P.1 x)) 148 5 ((B.length : Int) + 1), ?_, fun k hk => by rw [up2_r (by omega), pB_k (by omega)], fun k hk => by rw [up2_r (by omega), pB_k (by omega)], fun i hi => by rw [up2_n (by omega), pB_k (by omega)], ⟨?_, ?_⟩, ⟨?_, ?_⟩, ?_⟩
  · unfold f6_add
    have u1 : ∀ (W : VV) (i : Nat) (z : Int), up2 W 149 i z 148 5 = W 148 5 := fun _ _ _ => up2_n (by omega)
    have u2 : ∀ (W : VV) (i : Nat) (z : Int), up2 W 150 i z 148 5 = W 148 5 := fun _ _ _ => up2_n (by omega)
    have u3 : ∀ (W : VV) (i : Nat) (z : Int), up2 W 151 i z 148 5 = W 148 5 := fun _ _ _ => up2_n (by omega)
    have u4 : ∀ (W : VV) (i : Nat) (z : Int), up2 W 152 i z 148 5 = W 148 5 := fun _ _ _ => up2_n (by omega)
    simp only [u1, u2, u3, u4, hw, Int.toNat_natCast]
    have hq : f5_transitTime (up2 (up2 (up2 V 149 B.length x) 150 B.length y) 151 B.length s) x = some (tr S P.1 x) := Q_tt (h.up (fun k hk => by rw [up2_r (by omega), up2_r (by omega), up2_r (by omega)])) hx
    rw [ck_t (by omega), ck_t (by omega), ck_t hy, ck_t (by omega), hq, bd_q, ck_t (by omega)]
    rfl
  · rw [List.length_append]
    show vw (col _ 149) (B.length + 1) = _
    rw [vw_add (F := col V 149) (b := (x, y, s, s + tr S P.1 x)) (fun i hi => ?_) ?_, w.1.1]
    · unfold col
      refine ⟨?_, ?_, ?_, ?_⟩ <;> rw [up2_r (by omega)]
      · exact pB_0
      · exact pB_1
      · exact pB_2
      · exact pB_3
    · unfold col
      refine ⟨?_, ?_, ?_, ?_⟩ <;> rw [up2_r (by omega), pB_n (by omega)]
  · rw [up2_s, List.length_append]
    rfl
  · rw [← w.2.1.1]
    rw [vw_len]
    exact vw_congr (fun i _ => by
      unfold col
      refine ⟨?_, ?_, ?_, ?_⟩ <;> rw [up2_r (by omega), pB_k (by omega)])
  · rw [up2_n (by omega), pB_k (by omega)]
    exact w.2.1.2
  · rw [up2_n (by omega), pB_k (by omega)]
    exact w.2.2
