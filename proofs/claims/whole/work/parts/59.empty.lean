/-! empty minutes -/
def mx (a b : Int) : Int := if a < b then b else a
def mn (a b : Int) : Int := if b < a then b else a
def cntE (p : Int → Bool) : Nat → Int → Int
  | 0, _ => 0
  | n + 1, s => (if p s = true then 1 else 0) + cntE p n (s + 1)
theorem cntE_congr {p q : Int → Bool} : ∀ {n : Nat} {s : Int}, (∀ t, s ≤ t → t < s + n → p t = q t) → cntE p n s = cntE q n s := by
  intro n
  induction n with
  | zero => intro s _; rfl
  | succ n ih =>
    intro s h
    rw [cntE, cntE, h s (by omega) (by omega), ih (fun t h1 h2 => h t (by omega) (by omega))]
theorem cntE_add {p q r : Int → Bool} (h : ∀ t, p t = (q t || r t)) (h2 : ∀ t, q t = true → r t = false) : ∀ {n : Nat} {s : Int}, cntE p n s = cntE q n s + cntE r n s := by
  intro n
  induction n with
  | zero => intro s; rfl
  | succ n ih =>
    intro s
    rw [cntE, cntE, cntE, ih, h s]
    have hd : (if (q s || r s) = true then (1 : Int) else 0) = (if q s = true then 1 else 0) + (if r s = true then 1 else 0) := by
      by_cases c : q s = true
      · rw [c, h2 s c]; rfl
      · rw [Bool.not_eq_true] at c
        rw [c, Bool.false_or, if_neg (show ¬ (false = true) by decide)]
        omega
    rw [hd]
    omega
theorem cntE_rg {p : Int → Bool} : ∀ {n : Nat} {s : Int}, 0 ≤ cntE p n s ∧ cntE p n s ≤ n := by
  intro n
  induction n with
  | zero => intro s; exact ⟨Int.le_refl _, Int.le_refl _⟩
  | succ n ih =>
    intro s
    have := ih (s := s + 1)
    rw [cntE]
    split <;> omega
theorem cntE_iv {f g : Int} : ∀ {n : Nat} {s : Int}, cntE (fun m => decide (f ≤ m ∧ m < g)) n s = mx 0 (mn g (s + n) - mx f s) := by
  intro n
  induction n with
  | zero =>
    intro s
    rw [cntE]
    unfold mx mn
    (repeat' split) <;> omega
  | succ n ih =>
    intro s
    rw [cntE, ih]
    unfold mx mn
    by_cases c : f ≤ s ∧ s < g
    · rw [if_pos (by simp [c])]
      (repeat' split) <;> omega
    · rw [if_neg (by simp; omega)]
      (repeat' split) <;> omega
/-- a minute behind f in which no booking of the list is in the channel -/
def eB (f : Int) (l : List Bk) (m : Int) : Bool := decide (f ≤ m) && decide (inc m l = 0)
theorem inc_ge {m : Int} : ∀ {l : List Bk}, 0 ≤ inc m l ∧ inc m l ≤ l.length := by
  intro l
  induction l with
  | nil => exact ⟨Int.le_refl _, Int.le_refl _⟩
  | cons b l ih => rw [inc, List.length_cons]; split <;> omega
theorem inc_0 {m : Int} : ∀ {l : List Bk}, (∀ b ∈ l, m < b.2.2.1) → inc m l = 0 := by
  intro l
  induction l with
  | nil => intro _; rfl
  | cons b l ih =>
    intro h
    rw [inc, ih (fun c hc => h c (List.mem_cons_of_mem _ hc)), if_neg (by have := h b List.mem_cons_self; omega)]
    rfl
abbrev srt (l : List Bk) : Prop := l.Pairwise (fun a b => a.2.2.1 < b.2.2.1)
theorem eB_cons {f : Int} {b : Bk} {l : List Bk} (hs : srt (b :: l)) (hb : b.2.2.1 < b.2.2.2) (m : Int) : eB f (b :: l) m = (decide (f ≤ m ∧ m < b.2.2.1) || eB (mx f b.2.2.2) l m) ∧ (m < b.2.2.1 → eB (mx f b.2.2.2) l m = false) := by
  have h1 := (List.pairwise_cons.mp hs).1
  have hi := inc_ge (m := m) (l := l)
  unfold eB mx
  refine ⟨?_, fun c => ?_⟩
  · rw [inc]
    by_cases c : m < b.2.2.1
    · have h0 : inc m l = 0 := inc_0 (fun d hd => by have := h1 d hd; omega)
      rw [if_neg (by omega), h0]
      simp only [Int.add_zero, decide_true, Bool.and_true]
      rw [Bool.eq_iff_iff]
      simp only [Bool.or_eq_true, decide_eq_true_eq]
      split <;> omega
    · rw [Bool.eq_iff_iff]
      simp only [Bool.or_eq_true, Bool.and_eq_true, decide_eq_true_eq]
      (repeat' split) <;> omega
  · rw [Bool.and_eq_false_iff]
    left
    rw [decide_eq_false_iff_not]
    split <;> omega
/-- the gaps behind f, ahead of each booking and behind the last one -/
def gaps (to : Int) : List Bk → Int → Int
  | [], f => mx 0 (to + 1 - f)
  | b :: l, f => mx 0 (mn b.2.2.1 (to + 1) - f) + gaps to l (mx f b.2.2.2)
theorem cnt_gaps {to a : Int} (ha : a ≤ to + 1) : ∀ {l : List Bk} {f : Int}, srt l → (∀ b ∈ l, b.2.2.1 < b.2.2.2) → a ≤ f → cntE (eB f l) (to + 1 - a).toNat a = gaps to l f := by
  intro l
  induction l with
  | nil =>
    intro f _ _ hf
    rw [gaps, cntE_congr (q := fun m => decide (f ≤ m ∧ m < to + 1)) (fun t h1 h2 => by
      unfold eB inc
      rw [Bool.eq_iff_iff]
      simp only [decide_true, Bool.and_true, decide_eq_true_eq]
      omega), cntE_iv]
    unfold mx mn
    (repeat' split) <;> omega
  | cons b l ih =>
    intro f hs hb hf
    have hb1 := hb b List.mem_cons_self
    rw [gaps, cntE_add (q := fun m => decide (f ≤ m ∧ m < b.2.2.1)) (r := eB (mx f b.2.2.2) l) (fun t => (eB_cons hs hb1 t).1) (fun t ht => (eB_cons hs hb1 t).2 (by simp at ht; omega)), ih (List.pairwise_cons.mp hs).2 (fun c hc => hb c (List.mem_cons_of_mem _ hc)) (by unfold mx; split <;> omega), cntE_iv]
    congr 1
    unfold mx mn
    (repeat' split) <;> omega
/-- the longest run -/
def lrn (p : Int → Bool) : Nat → Int → Int → Int → Int
  | 0, _, L, _ => L
  | n + 1, s, L, R => lrn p n (s + 1) (if (if p s = true then R + 1 else 0) ≤ L then L else (if p s = true then R + 1 else 0)) (if p s = true then R + 1 else 0)
theorem lrn_congr {p q : Int → Bool} : ∀ {n : Nat} {s L R : Int}, (∀ t, s ≤ t → t < s + n → p t = q t) → lrn p n s L R = lrn q n s L R := by
  intro n
  induction n with
  | zero => intro s L R _; rfl
  | succ n ih =>
    intro s L R h
    rw [lrn, lrn, h s (by omega) (by omega), ih (fun t h1 h2 => h t (by omega) (by omega))]
theorem lrn_f {p : Int → Bool} : ∀ {m n : Nat} {s L : Int}, 0 ≤ L → (∀ t, s ≤ t → t < s + m → p t = false) → lrn p (m + n) s L 0 = lrn p n (s + m) L 0 := by
  intro m
  induction m with
  | zero => intro n s L _ _; rw [Nat.zero_add]; simp
  | succ m ih =>
    intro n s L hL h
    rw [show m + 1 + n = (m + n) + 1 by omega, lrn, h s (by omega) (by omega)]
    simp only [Bool.false_eq_true, if_false]
    rw [if_pos hL, ih hL (fun t h1 h2 => h t (by omega) (by omega))]
    congr 1; omega
theorem lrn_t {p : Int → Bool} : ∀ {m n : Nat} {s L R : Int}, (∀ t, s ≤ t → t < s + m → p t = true) → R ≤ L → lrn p (m + n) s L R = lrn p n (s + m) (mx L (R + m)) (R + m) := by
  intro m
  induction m with
  | zero =>
    intro n s L R _ hR
    rw [Nat.zero_add, show mx L (R + ((0 : Nat) : Int)) = L by unfold mx; rw [if_neg (by omega)]]
    simp
  | succ m ih =>
    intro n s L R h hR
    rw [show m + 1 + n = (m + n) + 1 by omega, lrn, h s (by omega) (by omega)]
    simp only [if_true]
    rw [ih (fun t h1 h2 => h t (by omega) (by omega)) (by split <;> omega)]
    have e1 : s + 1 + (m : Int) = s + ((m + 1 : Nat) : Int) := by omega
    have e2 : R + 1 + (m : Int) = R + ((m + 1 : Nat) : Int) := by omega
    rw [e1, e2]
    congr 1
    unfold mx
    (repeat' split) <;> omega
/-- a run ends at a minute that isn't empty -/
theorem lrn_z {p : Int → Bool} {n : Nat} {s L R : Int} (hL : 0 ≤ L) (h : n ≠ 0 → p s = false) : lrn p n s L R = lrn p n s L 0 := by
  cases n with
  | zero => rfl
  | succ n => rw [lrn, lrn, h (by omega)]; simp
def gmax (to : Int) : List Bk → Int → Int → Int
  | [], f, L => mx L (mx 0 (to + 1 - f))
  | b :: l, f, L => gmax to l (mx f b.2.2.2) (mx L (mx 0 (mn b.2.2.1 (to + 1) - f)))
theorem lrn_gaps {to : Int} : ∀ {l : List Bk} {f s L : Int}, srt l → (∀ b ∈ l, b.2.2.1 < b.2.2.2) → s ≤ f → s ≤ to + 1 → 0 ≤ L → lrn (eB f l) (to + 1 - s).toNat s L 0 = gmax to l f L := by
  have seg : ∀ {p : Int → Bool} {f g s L : Int}, s ≤ f → f ≤ g → g ≤ to + 1 → 0 ≤ L → (∀ t, s ≤ t → t < f → p t = false) → (∀ t, f ≤ t → t < g → p t = true) → lrn p (to + 1 - s).toNat s L 0 = lrn p (to + 1 - g).toNat g (mx L (g - f)) (g - f) := by
    intro p f g s L h1 h2 h3 h4 h5 h6
    rw [show (to + 1 - s).toNat = (f - s).toNat + ((g - f).toNat + (to + 1 - g).toNat) by omega, lrn_f h4 (fun t t1 t2 => h5 t t1 (by omega)), show s + ((f - s).toNat : Int) = f by omega, lrn_t (fun t t1 t2 => h6 t t1 (by omega)) h4, show f + ((g - f).toNat : Int) = g by omega, show 0 + ((g - f).toNat : Int) = g - f by omega]
  intro l
  induction l with
  | nil =>
    intro f s L _ _ h1 h2 h3
    rw [gmax]
    by_cases c : f ≤ to + 1
    · rw [seg h1 c (Int.le_refl _) h3 (fun t t1 t2 => by unfold eB; simp; omega) (fun t t1 t2 => by unfold eB inc; simp; omega)]
      rw [show (to + 1 - (to + 1)).toNat = 0 by omega, lrn]
      unfold mx
      (repeat' split) <;> omega
    · have h9 := lrn_f (p := eB f []) (m := (to + 1 - s).toNat) (n := 0) (s := s) (L := L) h3 (fun t t1 t2 => by unfold eB; simp; omega)
      rw [Nat.add_zero] at h9
      rw [h9, lrn]
      unfold mx
      (repeat' split) <;> omega
  | cons b l ih =>
    intro f s L hs hb h1 h2 h3
    have hb1 := hb b List.mem_cons_self
    have hs2 := (List.pairwise_cons.mp hs).2
    have hb2 : ∀ c ∈ l, c.2.2.1 < c.2.2.2 := fun c hc => hb c (List.mem_cons_of_mem _ hc)
    have hf' : f ≤ mx f b.2.2.2 ∧ b.2.2.2 ≤ mx f b.2.2.2 := by unfold mx; split <;> omega
    rw [gmax]
    by_cases c : f < mn b.2.2.1 (to + 1)
    · have hg : mn b.2.2.1 (to + 1) ≤ to + 1 ∧ mn b.2.2.1 (to + 1) ≤ b.2.2.1 ∧ (mn b.2.2.1 (to + 1) = to + 1 ∨ mn b.2.2.1 (to + 1) = b.2.2.1) := by unfold mn; split <;> omega
      rw [show mx 0 (mn b.2.2.1 (to + 1) - f) = mn b.2.2.1 (to + 1) - f by unfold mx; rw [if_pos (by omega)]]
      generalize mn b.2.2.1 (to + 1) = g at *
      rw [seg h1 (by omega) hg.1 h3 (fun t t1 t2 => by unfold eB; simp; omega) (fun t t1 t2 => by rw [(eB_cons hs hb1 t).1]; simp; omega)]
      have hL' : 0 ≤ mx L (g - f) := by unfold mx; split <;> omega
      rw [lrn_congr (q := eB (mx f b.2.2.2) l) (fun t t1 t2 => by
        rw [(eB_cons hs hb1 t).1, decide_eq_false (by omega), Bool.false_or])]
      rw [lrn_z hL' (fun hn => by
        unfold eB
        rw [decide_eq_false (by omega), Bool.false_and])]
      exact ih hs2 hb2 (by omega) hg.1 hL'
    · rw [show mx 0 (mn b.2.2.1 (to + 1) - f) = 0 by unfold mx; rw [if_neg (by omega)], show mx L 0 = L by unfold mx; rw [if_neg (by omega)]]
      rw [lrn_congr (q := eB (mx f b.2.2.2) l) (fun t t1 t2 => by
        rw [(eB_cons hs hb1 t).1, decide_eq_false (by unfold mn at c; split at c <;> omega), Bool.false_or])]
      exact ih hs2 hb2 (by omega) h2 h3
/-- the class's gaps -/
def fstE : List Bk → Nat → Int → Int
  | [], _, f => f
  | _ :: _, 0, f => f
  | b :: l, k + 1, f => fstE l k (mx f b.2.2.2)
theorem fstE_0 {l : List Bk} {f : Int} : fstE l 0 f = f := by cases l <;> rfl
theorem fstE_s {l : List Bk} : ∀ {k : Nat} {f : Int} {b : Bk}, l[k]? = some b → fstE l (k + 1) f = mx (fstE l k f) b.2.2.2 := by
  induction l with
  | nil => intro k f b h; simp at h
  | cons c l ih =>
    intro k f b h
    cases k with
    | zero => simp at h; subst h; exact fstE_0 (l := l)
    | succ k => rw [fstE, ih (by simpa using h)]; rfl
theorem fstE_rg {l : List Bk} (hl : ∀ b ∈ l, b.2.2.2 ≤ 1077) : ∀ {k : Nat} {f : Int}, f ≤ 1200 → f ≤ fstE l k f ∧ fstE l k f ≤ 1200 := by
  induction l with
  | nil => intro k f h; exact ⟨Int.le_refl _, h⟩
  | cons c l ih =>
    intro k f h
    have hc := hl c List.mem_cons_self
    cases k with
    | zero => exact ⟨Int.le_refl _, h⟩
    | succ k =>
      have hm : f ≤ mx f c.2.2.2 ∧ mx f c.2.2.2 ≤ 1200 := by unfold mx; split <;> omega
      have := ih (fun b hb => hl b (List.mem_cons_of_mem _ hb)) (k := k) (f := mx f c.2.2.2) hm.2
      rw [fstE]; omega
theorem okP.e {S : Su} {P : Pl} (h : okP S P) : ∀ b ∈ P.2.2.2.2.2.1, b.2.2.2 ≤ 1077 := fun b hb => by
  obtain ⟨u1, u2, u3, u4, u5, u6, u7⟩ := h.2.2.2.1 b hb
  omega
theorem okP.srt {S : Su} {P : Pl} (h : okP S P) : srt P.2.2.2.2.2.1 := h.2.2.2.2.2.imp (fun q => q.1)
theorem okP.lt {S : Su} {P : Pl} (h : okP S P) : ∀ b ∈ P.2.2.2.2.2.1, b.2.2.1 < b.2.2.2 := fun b hb => by
  obtain ⟨u1, u2, u3, u4, u5, u6, u7⟩ := h.2.2.2.1 b hb
  omega
def hgp (to : Int) (l : List Bk) (f : Int) : Int := match l with
  | [] => mx 0 (to + 1 - f)
  | b :: _ => mx 0 (mn b.2.2.1 (to + 1) - f)
theorem X_gap {V : VV} {S : Su} {P : Pl} (h : CK V S P) {k : Nat} (hk : k ≤ P.2.2.2.2.2.1.length) {f to : Int} (hf : 0 ≤ f ∧ f ≤ 1200) (ht : -1 ≤ to ∧ to ≤ 1200) : f5_gapBefore V (k : Int) f to = some (hgp to (P.2.2.2.2.2.1.drop k) (fstE P.2.2.2.2.2.1 k f)) := by
  have hr := h.ok.rg
  have hp := h.pl
  have key : ∀ (m n i : Nat), m + 1 ≤ n → k = i + m → f5_gapBefore_L6 V (k : Int) to n (fstE P.2.2.2.2.2.1 i f) (i : Int) = some (fstE P.2.2.2.2.2.1 k f) := by
    intro m
    induction m with
    | zero =>
      intro n i hn hi
      obtain ⟨n, rfl⟩ : ∃ m, n = m + 1 := ⟨n - 1, by omega⟩
      rw [f5_gapBefore_L6]
      simp (disch := omega) only [nrm_of]
      rw [if_pos (by omega)]
      congr 2; omega
    | succ m ih =>
      intro n i hn hi
      obtain ⟨n, rfl⟩ : ∃ m, n = m + 1 := ⟨n - 1, by omega⟩
      have hil : i < P.2.2.2.2.2.1.length := by omega
      obtain ⟨-, b2, b3⟩ := h.b hil
      obtain ⟨u1, u2, u3, u4, u5, u6, u7⟩ := b3
      simp only at u1 u2 u3 u4 u5 u6 u7
      rw [f5_gapBefore_L6]
      simp (disch := omega) only [nrm_of]
      rw [if_neg (by omega), ck_t (by omega), aP0, Int.toNat_natCast]
      simp only [Nat.reduceAdd]
      have hfe := fstE_rg h.ok.e (k := i) hf.2
      have hI := ih n (i + 1) (by omega) (by omega)
      rw [fstE_s b2, Int.natCast_add, Int.natCast_one] at hI
      rw [← hI]
      congr 1
      unfold mxI mx
      rw [nrm_of (by omega) (by omega), nrm_of (by omega) (by omega)]
  have hfe := fstE_rg h.ok.e (k := k) hf.2
  have h0 := key k FU 0 (by have := FU_ge; omega) (by omega)
  rw [fstE_0, nc0] at h0
  unfold f5_gapBefore
  rw [h0, bd_s, aP0]
  simp (disch := omega) only [hp.2.2.2.2.2.1, nrm_of]
  by_cases c : k = P.2.2.2.2.2.1.length
  · rw [if_pos (by omega), bd_s, List.drop_eq_nil_of_le (by omega), hgp]
    generalize fstE P.2.2.2.2.2.1 k f = z at *
    unfold mxI mx
    rw [nrm_of (by omega) (by omega), nrm_of (by omega) (by omega)]
  · have hil : k < P.2.2.2.2.2.1.length := by omega
    obtain ⟨b1, b2, b3⟩ := h.b hil
    obtain ⟨u1, u2, u3, u4, u5, u6, u7⟩ := b3
    simp only at u1 u2 u3 u4 u5 u6 u7
    rw [if_neg (by omega), ck_t (by omega), bd_s, b1, hgp, Int.toNat_natCast]
    generalize fstE P.2.2.2.2.2.1 k f = z at *
    have hmn : mnI (V 56 k) (to + 1) = mn (V 56 k) (to + 1) := by
      unfold mnI mn
      rw [nrm_of (by omega) (by omega), nrm_of (by omega) (by omega)]
    have hmr : -1 ≤ mn (V 56 k) (to + 1) ∧ mn (V 56 k) (to + 1) ≤ 2000 := by unfold mn; split <;> omega
    show some (mxI 0 (mnI (V 56 k) (to + 1) - z)) = _
    rw [hmn]
    generalize mn (V 56 k) (to + 1) = y at *
    unfold mxI mx
    rw [nrm_of (by omega) (by omega), nrm_of (by omega) (by omega)]
theorem X_countEmpty {V : VV} {S : Su} {P : Pl} (h : CK V S P) {f to : Int} (hf : 0 ≤ f ∧ f ≤ 1200) (ht : -1 ≤ to ∧ to ≤ 1200) : f5_countEmpty V f to = some (gaps to P.2.2.2.2.2.1 f) := by
  have hr := h.ok.rg
  have hp := h.pl
  have key : ∀ (m n i : Nat) (a : Int), m + 2 ≤ n → P.2.2.2.2.2.1.length = i + m → f5_countEmpty_L5 V f to n a (i : Int) = some (a + gaps to (P.2.2.2.2.2.1.drop i) (fstE P.2.2.2.2.2.1 i f)) := by
    intro m
    induction m with
    | zero =>
      intro n i a hn hi
      obtain ⟨n, rfl⟩ : ∃ m, n = m + 1 + 1 := ⟨n - 2, by omega⟩
      rw [f5_countEmpty_L5, aP0]
      simp (disch := omega) only [hp.2.2.2.2.2.1, nrm_of]
      rw [if_neg (by omega), X_gap h (by omega) hf ht, bd_s, f5_countEmpty_L5, aP0]
      simp (disch := omega) only [hp.2.2.2.2.2.1, nrm_of]
      rw [if_pos (by omega), List.drop_eq_nil_of_le (by omega)]
      rfl
    | succ m ih =>
      intro n i a hn hi
      obtain ⟨n, rfl⟩ : ∃ m, n = m + 1 := ⟨n - 1, by omega⟩
      have hil : i < P.2.2.2.2.2.1.length := by omega
      obtain ⟨b1, b2, -⟩ := h.b hil
      rw [f5_countEmpty_L5, aP0]
      simp (disch := omega) only [hp.2.2.2.2.2.1, nrm_of]
      rw [if_neg (by omega), X_gap h (by omega) hf ht, bd_s]
      have hI := fun a => ih n (i + 1) a (by omega) (by omega)
      simp only [Int.natCast_add, Int.natCast_one] at hI
      rw [hI, b1, fstE_s b2]
      rw [hgp, gaps, Int.add_assoc]
  unfold f5_countEmpty
  have h0 := key P.2.2.2.2.2.1.length FU 0 0 (by have := FU_ge; omega) (by omega)
  rw [fstE_0, nc0, List.drop_zero, Int.zero_add] at h0
  rw [h0]
  rfl
theorem X_longE {V : VV} {S : Su} {P : Pl} (h : CK V S P) {f to : Int} (hf : 0 ≤ f ∧ f ≤ 1200) (ht : -1 ≤ to ∧ to ≤ 1200) : f5_longestEmptyRun_L35 V f to FU 0 0 = some (gmax to P.2.2.2.2.2.1 f 0) := by
  have hr := h.ok.rg
  have hp := h.pl
  have hm : ∀ {a : Int} {k : Nat}, 0 ≤ a → a ≤ 2000 → mxI a (hgp to (P.2.2.2.2.2.1.drop k) (fstE P.2.2.2.2.2.1 k f)) = mx a (hgp to (P.2.2.2.2.2.1.drop k) (fstE P.2.2.2.2.2.1 k f)) ∧ 0 ≤ mx a (hgp to (P.2.2.2.2.2.1.drop k) (fstE P.2.2.2.2.2.1 k f)) ∧ mx a (hgp to (P.2.2.2.2.2.1.drop k) (fstE P.2.2.2.2.2.1 k f)) ≤ 2000 := by
    intro a k h0 h1
    have hfe := fstE_rg h.ok.e (k := k) hf.2
    have hg : 0 ≤ hgp to (P.2.2.2.2.2.1.drop k) (fstE P.2.2.2.2.2.1 k f) ∧ hgp to (P.2.2.2.2.2.1.drop k) (fstE P.2.2.2.2.2.1 k f) ≤ 2000 := by
      unfold hgp mx mn
      split
      · split <;> omega
      · split <;> split at * <;> omega
    generalize hgp to (P.2.2.2.2.2.1.drop k) (fstE P.2.2.2.2.2.1 k f) = z at *
    unfold mxI mx
    rw [nrm_of (by omega) (by omega), nrm_of (by omega) (by omega)]
    refine ⟨rfl, ?_⟩
    split <;> omega
  have key : ∀ (m n i : Nat) (a : Int), m + 2 ≤ n → P.2.2.2.2.2.1.length = i + m → 0 ≤ a → a ≤ 2000 → f5_longestEmptyRun_L35 V f to n a (i : Int) = some (gmax to (P.2.2.2.2.2.1.drop i) (fstE P.2.2.2.2.2.1 i f) a) := by
    intro m
    induction m with
    | zero =>
      intro n i a hn hi h0 h1
      obtain ⟨n, rfl⟩ : ∃ m, n = m + 1 + 1 := ⟨n - 2, by omega⟩
      rw [f5_longestEmptyRun_L35, aP0]
      simp (disch := omega) only [hp.2.2.2.2.2.1, nrm_of]
      rw [if_neg (by omega), X_gap h (by omega) hf ht, bd_s, (hm h0 h1).1, f5_longestEmptyRun_L35, aP0]
      simp (disch := omega) only [hp.2.2.2.2.2.1, nrm_of]
      rw [if_pos (by omega), List.drop_eq_nil_of_le (by omega)]
      rfl
    | succ m ih =>
      intro n i a hn hi h0 h1
      obtain ⟨n, rfl⟩ : ∃ m, n = m + 1 := ⟨n - 1, by omega⟩
      have hil : i < P.2.2.2.2.2.1.length := by omega
      obtain ⟨b1, b2, -⟩ := h.b hil
      rw [f5_longestEmptyRun_L35, aP0]
      simp (disch := omega) only [hp.2.2.2.2.2.1, nrm_of]
      have hmi := hm (a := a) (k := i) h0 h1
      rw [if_neg (by omega), X_gap h (by omega) hf ht, bd_s, hmi.1]
      have hI := ih n (i + 1) _ (by omega) (by omega) hmi.2.1 hmi.2.2
      simp only [Int.natCast_add, Int.natCast_one] at hI
      rw [hI, b1, fstE_s b2]
      rfl
  have h0 := key P.2.2.2.2.2.1.length FU 0 0 (by have := FU_ge; omega) (by omega) (by omega) (by omega)
  rw [fstE_0, nc0, List.drop_zero] at h0
  exact h0
/-- the reference counts minute by minute -/
def eM (l : List Bk) (m : Int) : Bool := decide (inc m l = 0)
theorem eM_eB {l : List Bk} {f : Int} : ∀ t, f ≤ t → eM l t = eB f l t := fun t h => by
  unfold eM eB
  rw [decide_eq_true h, Bool.true_and]
theorem M_emptyL {V : VV} {S : Su} {P : Pl} (h : MK V S P) {to : Int} (ht : -1 ≤ to ∧ to ≤ 1200) : ∀ (k n : Nat) (a t : Int), k + 1 ≤ n → 0 ≤ t → t ≤ 1201 → (to + 1 - t).toNat = k → f6_emptyMinutes_L29 V to n a t = some (a + cntE (eM P.2.2.2.2.2.1) k t) := by
  intro k
  induction k with
  | zero =>
    intro n a t hn t0 t1 hk
    obtain ⟨n, rfl⟩ : ∃ m, n = m + 1 := ⟨n - 1, by omega⟩
    rw [f6_emptyMinutes_L29]
    simp (disch := omega) only [nrm_of]
    rw [if_pos (by omega)]
    simp [cntE]
  | succ k ih =>
    intro n a t hn t0 t1 hk
    obtain ⟨n, rfl⟩ : ∃ m, n = m + 1 := ⟨n - 1, by omega⟩
    have hi := inc_ge (m := t) (l := P.2.2.2.2.2.1)
    have hr := h.ok.rg
    rw [f6_emptyMinutes_L29, M_shipsIn h (by constructor <;> omega), cntE]
    simp (disch := omega) only [nrm_of, bd_s]
    rw [if_neg (by omega)]
    unfold eM
    by_cases c : inc t P.2.2.2.2.2.1 = 0
    · rw [if_pos c, if_pos (by simp [c]), ih n _ (t + 1) (by omega) (by omega) (by omega) (by omega)]
      congr 1
      unfold eM
      omega
    · rw [if_neg c, if_neg (by simp [c]), ih n _ (t + 1) (by omega) (by omega) (by omega) (by omega)]
      congr 1
      unfold eM
      omega
theorem M_longL {V : VV} {S : Su} {P : Pl} (h : MK V S P) {to : Int} (ht : -1 ≤ to ∧ to ≤ 1200) : ∀ (k n : Nat) (L R t : Int), k + 1 ≤ n → 0 ≤ t → t ≤ 1201 → (to + 1 - t).toNat = k → 0 ≤ L → L ≤ t → 0 ≤ R → R ≤ t → f6_longestEmptyRun_L32 V to n L R t = some (lrn (eM P.2.2.2.2.2.1) k t L R) := by
  intro k
  induction k with
  | zero =>
    intro n L R t hn t0 t1 hk l0 l1 r0 r1
    obtain ⟨n, rfl⟩ : ∃ m, n = m + 1 := ⟨n - 1, by omega⟩
    rw [f6_longestEmptyRun_L32]
    simp (disch := omega) only [nrm_of]
    rw [if_pos (by omega), lrn]
  | succ k ih =>
    intro n L R t hn t0 t1 hk l0 l1 r0 r1
    obtain ⟨n, rfl⟩ : ∃ m, n = m + 1 := ⟨n - 1, by omega⟩
    have hi := inc_ge (m := t) (l := P.2.2.2.2.2.1)
    have hr := h.ok.rg
    rw [f6_longestEmptyRun_L32, M_shipsIn h (by constructor <;> omega), lrn]
    simp (disch := omega) only [nrm_of, bd_s]
    rw [if_neg (by omega)]
    have fin : ∀ y : Int, 0 ≤ y → y ≤ t + 1 → (if nrm y ≤ nrm L then f6_longestEmptyRun_L32 V to n L y (t + 1) else f6_longestEmptyRun_L32 V to n y y (t + 1)) = some (lrn (eM P.2.2.2.2.2.1) k (t + 1) (if y ≤ L then L else y) y) := by
      intro y y0 y1
      simp (disch := omega) only [nrm_of]
      by_cases c : y ≤ L
      · rw [if_pos c, if_pos c]
        exact ih n L y (t + 1) (by omega) (by omega) (by omega) (by omega) l0 (by omega) y0 y1
      · rw [if_neg c, if_neg c]
        exact ih n y y (t + 1) (by omega) (by omega) (by omega) (by omega) y0 y1 y0 y1
    by_cases c : inc t P.2.2.2.2.2.1 = 0
    · have e : eM P.2.2.2.2.2.1 t = true := by unfold eM; simp [c]
      rw [if_pos c, bd_s, e]
      simp only [if_true]
      have := fin (R + 1) (by omega) (by omega)
      simp (disch := omega) only [nrm_of] at this ⊢
      exact this
    · have e : eM P.2.2.2.2.2.1 t = false := by unfold eM; simp [c]
      rw [if_neg c, bd_s, e]
      simp only [Bool.false_eq_true, if_false]
      have := fin 0 (by omega) (by omega)
      simp (disch := omega) only [nrm_of] at this ⊢
      exact this
/-- both count alike -/
theorem cnt_eq {S : Su} {P : Pl} (h : okP S P) {f to : Int} (hf : f ≤ to + 1) : cntE (eM P.2.2.2.2.2.1) (to + 1 - f).toNat f = gaps to P.2.2.2.2.2.1 f := by
  rw [cntE_congr (q := eB f P.2.2.2.2.2.1) (fun t h1 _ => eM_eB t h1)]
  exact cnt_gaps hf h.srt h.lt (Int.le_refl _)
theorem lrn_eq {S : Su} {P : Pl} (h : okP S P) {f to : Int} (hf : f ≤ to + 1) : lrn (eM P.2.2.2.2.2.1) (to + 1 - f).toNat f 0 0 = gmax to P.2.2.2.2.2.1 f 0 := by
  rw [lrn_congr (q := eB f P.2.2.2.2.2.1) (fun t h1 _ => eM_eB t h1)]
  exact lrn_gaps h.srt h.lt (Int.le_refl _) hf (Int.le_refl _)
theorem X_win {V : VV} {x y : Int} (hx : rgI x) (hy : rgI y) : bd (f5_isWithin V x 0 1200) (fun r2 => (if nrm r2 = 0 then some (0 : Int) else bd (f5_isWithin V y x 1200) (fun r5 => (if nrm r5 = 0 then some (0) else some (1))))) = some (if (0 ≤ x ∧ x ≤ 1200) ∧ (x ≤ y ∧ y ≤ 1200) then 1 else 0) := by
  rw [X_isWithin hx (by constructor <;> omega) (by constructor <;> omega), X_isWithin hy hx (by constructor <;> omega)]
  by_cases c : 0 ≤ x ∧ x ≤ 1200
  · rw [if_pos c]
    simp only [bd_q, n10, if_false]
    by_cases c2 : x ≤ y ∧ y ≤ 1200
    · have c3 : (0 ≤ x ∧ x ≤ 1200) ∧ (x ≤ y ∧ y ≤ 1200) := ⟨c, c2⟩
      rw [if_pos c2, if_pos c3]
      simp only [n10, if_false]
    · have c3 : ¬ ((0 ≤ x ∧ x ≤ 1200) ∧ (x ≤ y ∧ y ≤ 1200)) := fun q => c2 q.2
      rw [if_neg c2, if_neg c3]
      simp only [n00, if_true]
  · have c3 : ¬ ((0 ≤ x ∧ x ≤ 1200) ∧ (x ≤ y ∧ y ≤ 1200)) := fun q => c q.1
    rw [if_neg c, if_neg c3]
    simp only [bd_q, n00, if_true]
theorem M_win {V : VV} {x y : Int} (hx : rgI x) (hy : rgI y) : f6_areMinutes V x y = some (if (0 ≤ x ∧ x ≤ 1200) ∧ (x ≤ y ∧ y ≤ 1200) then 1 else 0) := by
  unfold f6_areMinutes
  rw [M_in hx (by constructor <;> omega) (by constructor <;> omega), M_in hy hx (by constructor <;> omega)]
  by_cases c : 0 ≤ x ∧ x ≤ 1200
  · rw [if_pos c]
    simp only [bd_q, n10, if_false]
    by_cases c2 : x ≤ y ∧ y ≤ 1200
    · have c3 : (0 ≤ x ∧ x ≤ 1200) ∧ (x ≤ y ∧ y ≤ 1200) := ⟨c, c2⟩
      rw [if_pos c2, if_pos c3]
      simp only [n10, if_false]
    · have c3 : ¬ ((0 ≤ x ∧ x ≤ 1200) ∧ (x ≤ y ∧ y ≤ 1200)) := fun q => c2 q.2
      rw [if_neg c2, if_neg c3]
      simp only [n00, if_true]
  · have c3 : ¬ ((0 ≤ x ∧ x ≤ 1200) ∧ (x ≤ y ∧ y ≤ 1200)) := fun q => c q.1
    rw [if_neg c, if_neg c3]
    simp only [bd_q, n00, if_true]
theorem bd_bd {α β γ : Type} {o : Option α} {f : α → Option β} {g : β → Option γ} : bd o (fun x => bd (f x) g) = bd (bd o f) g := by cases o <;> rfl
theorem op_emptyMinutes {x y : Int} (hx : rgI x) (hy : rgI y) : Op1 [eA] (fun V => f5_emptyMinutes V x y) (fun V => f6_emptyMinutes V x y) := by
  intro V S P h
  by_cases c : (0 ≤ x ∧ x ≤ 1200) ∧ (x ≤ y ∧ y ≤ 1200)
  · refine ⟨.ok (gaps y P.2.2.2.2.2.1 x), V, gaps y P.2.2.2.2.2.1 x, up2 V 148 9 0, ?_, ?_, th0 (z := 0), fun r hr => okr hr rfl, S, P, h.thr 0⟩
    · show f5_emptyMinutes V x y = _
      unfold f5_emptyMinutes
      rw [bd_bd, X_win hx hy, if_pos c]
      simp only [bd_q, n10, if_false]
      rw [X_countEmpty h.ck c.1 (by omega), bd_s]
    · show f6_emptyMinutes V x y = _
      unfold f6_emptyMinutes
      rw [M_win hx hy, if_pos c]
      simp only [bd_q, n10, if_false]
      rw [M_fails0]
      simp only [bd2_s, n00, if_true]
      rw [M_emptyL (h.mk.thr 0) (by omega) (y + 1 - x).toNat FU 0 x (by have := FU_ge; omega) (by omega) (by omega) rfl, bd_s, cnt_eq h.ck.ok (by omega), Int.zero_add]
  · refine ⟨.error eA, V, 0, up2 V 148 9 1, ?_, ?_, (up2_s _ _ _ _).trans cod_1.symm, fun r hr => ner hr, S, P, h.thr 1⟩
    · show f5_emptyMinutes V x y = _
      unfold f5_emptyMinutes
      rw [bd_bd, X_win hx hy, if_neg c]
      simp only [bd_q, n00, if_true]
    · show f6_emptyMinutes V x y = _
      unfold f6_emptyMinutes
      rw [M_win hx hy, if_neg c]
      simp only [bd_q, n00, if_true]
      rw [M_fails1 (Or.inl rfl) (Or.inl rfl)]
      simp only [bd2_s, n10, if_false]
theorem op_longestEmptyRun {x y : Int} (hx : rgI x) (hy : rgI y) : Op1 [eA] (fun V => f5_longestEmptyRun V x y) (fun V => f6_longestEmptyRun V x y) := by
  intro V S P h
  by_cases c : (0 ≤ x ∧ x ≤ 1200) ∧ (x ≤ y ∧ y ≤ 1200)
  · refine ⟨.ok (gmax y P.2.2.2.2.2.1 x 0), V, gmax y P.2.2.2.2.2.1 x 0, up2 V 148 9 0, ?_, ?_, th0 (z := 0), fun r hr => okr hr rfl, S, P, h.thr 0⟩
    · show f5_longestEmptyRun V x y = _
      unfold f5_longestEmptyRun
      rw [bd_bd, X_win hx hy, if_pos c]
      simp only [bd_q, n10, if_false]
      rw [X_longE h.ck c.1 (by omega), bd_s]
    · show f6_longestEmptyRun V x y = _
      unfold f6_longestEmptyRun
      rw [M_win hx hy, if_pos c]
      simp only [bd_q, n10, if_false]
      rw [M_fails0]
      simp only [bd2_s, n00, if_true]
      rw [M_longL (h.mk.thr 0) (by omega) (y + 1 - x).toNat FU 0 0 x (by have := FU_ge; omega) (by omega) (by omega) rfl (by omega) (by omega) (by omega) (by omega), bd_s, lrn_eq h.ck.ok (by omega)]
  · refine ⟨.error eA, V, 0, up2 V 148 9 1, ?_, ?_, (up2_s _ _ _ _).trans cod_1.symm, fun r hr => ner hr, S, P, h.thr 1⟩
    · show f5_longestEmptyRun V x y = _
      unfold f5_longestEmptyRun
      rw [bd_bd, X_win hx hy, if_neg c]
      simp only [bd_q, n00, if_true]
    · show f6_longestEmptyRun V x y = _
      unfold f6_longestEmptyRun
      rw [M_win hx hy, if_neg c]
      simp only [bd_q, n00, if_true]
      rw [M_fails1 (Or.inl rfl) (Or.inl rfl)]
      simp only [bd2_s, n10, if_false]
