/-! tokens: what both read -/
abbrev Tk : Type := Nat × Nat × Nat
def isSc (c : Int) : Bool := decide (c = 32 ∨ c = 10)
def isSm (c : Int) : Bool := decide (97 ≤ c ∧ c ≤ 122)
def isDg (c : Int) : Bool := decide (48 ≤ c ∧ c ≤ 57)
def runW (p : Int → Bool) (F : Nat → Int) : Nat → Nat → Nat
  | 0, a => a
  | k + 1, a => if p (F a) = true then runW p F k (a + 1) else a
theorem runW_rg {p : Int → Bool} {F : Nat → Int} : ∀ {k a : Nat}, a ≤ runW p F k a ∧ runW p F k a ≤ a + k := by
  intro k
  induction k with
  | zero => intro a; exact ⟨Nat.le_refl _, Nat.le_refl _⟩
  | succ k ih =>
    intro a
    have := ih (a := a + 1)
    rw [runW]
    split <;> omega
theorem runW_all {p : Int → Bool} {F : Nat → Int} : ∀ {k a j : Nat}, a ≤ j → j < runW p F k a → p (F j) = true := by
  intro k
  induction k with
  | zero => intro a j h1 h2; rw [runW] at h2; omega
  | succ k ih =>
    intro a j h1 h2
    rw [runW] at h2
    by_cases c : p (F a) = true
    · rw [if_pos c] at h2
      by_cases e : j = a
      · subst e; exact c
      · exact ih (a := a + 1) (by omega) h2
    · rw [if_neg c] at h2; omega
theorem runW_stop {p : Int → Bool} {F : Nat → Int} : ∀ {k a : Nat}, runW p F k a < a + k → p (F (runW p F k a)) = false := by
  intro k
  induction k with
  | zero => intro a h; rw [runW] at h; omega
  | succ k ih =>
    intro a h
    rw [runW] at h ⊢
    by_cases c : p (F a) = true
    · rw [if_pos c] at h ⊢
      exact ih (by omega)
    · rw [if_neg c]
      simpa using c
def tok (F : Nat → Int) (N a : Nat) : Tk :=
  if N ≤ runW isSc F (N - a) a then (0, runW isSc F (N - a) a, runW isSc F (N - a) a)
  else if isSm (F (runW isSc F (N - a) a)) = true then (if 8 < runW isSm F (N - runW isSc F (N - a) a) (runW isSc F (N - a) a) - runW isSc F (N - a) a then 4 else 1, runW isSc F (N - a) a, runW isSm F (N - runW isSc F (N - a) a) (runW isSc F (N - a) a))
  else if isDg (F (runW isSc F (N - a) a)) = true then (if 4 < runW isDg F (N - runW isSc F (N - a) a) (runW isSc F (N - a) a) - runW isSc F (N - a) a then 4 else 2, runW isSc F (N - a) a, runW isDg F (N - runW isSc F (N - a) a) (runW isSc F (N - a) a))
  else (if F (runW isSc F (N - a) a) = 59 then 3 else 4, runW isSc F (N - a) a, runW isSc F (N - a) a + 1)
/-- the number in k digits from i on -/
def nmv (F : Nat → Int) (i : Nat) : Nat → Int
  | 0 => 0
  | k + 1 => nmv F i k * 10 + (F (i + k) - 48)
theorem nmv_rg {F : Nat → Int} {i : Nat} : ∀ {k : Nat}, (∀ j, j < k → 48 ≤ F (i + j) ∧ F (i + j) ≤ 57) → 0 ≤ nmv F i k ∧ nmv F i k < 10 ^ k := by
  intro k
  induction k with
  | zero => intro _; rw [nmv]; exact ⟨Int.le_refl _, by decide⟩
  | succ k ih =>
    intro h
    have h1 := ih (fun j hj => h j (by omega))
    have h2 := h k (by omega)
    rw [nmv, Int.pow_succ]
    omega
def okTk (F : Nat → Int) (N : Nat) (t : Tk) : Prop := t.2.1 ≤ t.2.2 ∧ t.2.2 ≤ N ∧ t.1 ≤ 4 ∧ (t.1 = 1 → 1 ≤ t.2.2 - t.2.1 ∧ t.2.2 - t.2.1 ≤ 8 ∧ ∀ j, j < t.2.2 - t.2.1 → 97 ≤ F (t.2.1 + j) ∧ F (t.2.1 + j) ≤ 122) ∧ (t.1 = 2 → t.2.2 - t.2.1 ≤ 4 ∧ ∀ j, j < t.2.2 - t.2.1 → 48 ≤ F (t.2.1 + j) ∧ F (t.2.1 + j) ≤ 57)
theorem runW_first {p : Int → Bool} {F : Nat → Int} {k a : Nat} (hk : 0 < k) (h : p (F a) = true) : runW p F k a = runW p F (k - 1) (a + 1) := by
  obtain ⟨k, rfl⟩ : ∃ q, k = q + 1 := ⟨k - 1, by omega⟩
  rw [runW, if_pos h]
  rfl
theorem tok_ok {F : Nat → Int} {N a : Nat} (ha : a ≤ N) : okTk F N (tok F N a) := by
  have h1 := runW_rg (p := isSc) (F := F) (k := N - a) (a := a)
  unfold tok
  generalize runW isSc F (N - a) a = f at *
  by_cases c1 : N ≤ f
  · rw [if_pos c1]
    exact ⟨Nat.le_refl _, by show f ≤ N; omega, Nat.zero_le _, fun q => absurd (show (0 : Nat) = 1 from q) (by decide), fun q => absurd (show (0 : Nat) = 2 from q) (by decide)⟩
  · rw [if_neg c1]
    by_cases c2 : isSm (F f) = true
    · rw [if_pos c2]
      have h2 := runW_rg (p := isSm) (F := F) (k := N - f) (a := f)
      have h3 := fun j => runW_all (p := isSm) (F := F) (k := N - f) (a := f) (j := j)
      have h4 := runW_first (p := isSm) (F := F) (k := N - f) (a := f) (by omega) c2
      have h5 := runW_rg (p := isSm) (F := F) (k := N - f - 1) (a := f + 1)
      rw [← h4] at h5
      generalize runW isSm F (N - f) f = e at *
      refine ⟨h2.1, by show e ≤ N; omega, by show (if 8 < e - f then 4 else 1) ≤ 4; split <;> omega, fun q => ⟨by show 1 ≤ e - f; omega, ?_, fun j hj => ?_⟩, fun q => ?_⟩
      · show e - f ≤ 8
        by_cases z : 8 < e - f
        · exact absurd (show (if 8 < e - f then 4 else 1) = 1 from q) (by rw [if_pos z]; decide)
        · omega
      · have := h3 (f + j) (by omega) (by show f + j < e; have : j < e - f := hj; omega)
        unfold isSm at this
        exact of_decide_eq_true this
      · have q2 : (if 8 < e - f then 4 else 1) = 2 := q
        split at q2 <;> omega
    · rw [if_neg c2]
      by_cases c3 : isDg (F f) = true
      · rw [if_pos c3]
        have h2 := runW_rg (p := isDg) (F := F) (k := N - f) (a := f)
        have h3 := fun j => runW_all (p := isDg) (F := F) (k := N - f) (a := f) (j := j)
        generalize runW isDg F (N - f) f = e at *
        refine ⟨h2.1, by show e ≤ N; omega, by show (if 4 < e - f then 4 else 2) ≤ 4; split <;> omega, fun q => ?_, fun q => ⟨?_, fun j hj => ?_⟩⟩
        · have q2 : (if 4 < e - f then 4 else 2) = 1 := q
          split at q2 <;> omega
        · show e - f ≤ 4
          by_cases z : 4 < e - f
          · exact absurd (show (if 4 < e - f then 4 else 2) = 2 from q) (by rw [if_pos z]; decide)
          · omega
        · have := h3 (f + j) (by omega) (by show f + j < e; have : j < e - f := hj; omega)
          unfold isDg at this
          exact of_decide_eq_true this
      · rw [if_neg c3]
        refine ⟨by show f ≤ f + 1; omega, by show f + 1 ≤ N; omega, by show (if F f = 59 then 3 else 4) ≤ 4; split <;> omega, fun q => ?_, fun q => ?_⟩
        · have q2 : (if F f = 59 then 3 else 4) = 1 := q
          split at q2 <;> omega
        · have q2 : (if F f = 59 then 3 else 4) = 2 := q
          split at q2 <;> omega
def okF (F : Nat → Int) (N : Nat) : Prop := N ≤ 600 ∧ ∀ j, j < N → 0 ≤ F j ∧ F j ≤ 255
def XT (V : VV) (F : Nat → Int) (N : Nat) (t : Tk) : Prop := V 1 1 = (N : Int) ∧ (∀ j, j < N → V 2 j = wB (F j)) ∧ V 1 4 = (t.1 : Int) ∧ V 1 5 = (t.2.1 : Int) ∧ V 1 6 = (t.2.2 : Int)
/-- the kinds of bytes -/
def kd (c : Int) : Int := if isSm c = true then 1 else if isDg c = true then 2 else if c = 59 then 3 else if isSc c = true then 5 else 4
theorem X_kindOf {V : VV} {c : Int} (hc : 0 ≤ c ∧ c ≤ 255) : f0_kindOf V (wB c) = some (kd c) := by
  have hw : wB c = if c < 128 then c else c - 256 := by unfold wB; split <;> omega
  unfold f0_kindOf kd isSm isDg isSc
  rw [nrm_of (z := wB c) (by unfold wB; omega) (by unfold wB; omega), nrm_of (z := 97) (by omega) (by omega), nrm_of (z := 48) (by omega) (by omega), nrm_of (z := 59) (by omega) (by omega), nrm_of (z := 32) (by omega) (by omega), nrm_of (z := 10) (by omega) (by omega), nrm_of (z := 57) (by omega) (by omega), nrm_of (z := 122) (by omega) (by omega), hw]
  simp only [decide_eq_true_eq]
  by_cases c0 : c < 128
  · simp only [c0, if_true]
    (repeat' split) <;> first | rfl | omega
  · simp only [c0, if_false]
    (repeat' split) <;> first | rfl | omega
theorem kd_1 {c : Int} : kd c = 1 ↔ isSm c = true := by
  unfold kd isSm isDg isSc
  simp only [decide_eq_true_eq]
  (repeat' split) <;> omega
theorem kd_2 {c : Int} : kd c = 2 ↔ isDg c = true := by
  unfold kd isSm isDg isSc
  simp only [decide_eq_true_eq]
  (repeat' split) <;> omega
theorem kd_5 {c : Int} : kd c = 5 ↔ isSc c = true := by
  unfold kd isSm isDg isSc
  simp only [decide_eq_true_eq]
  (repeat' split) <;> omega
theorem kd_rg {c : Int} : 1 ≤ kd c ∧ kd c ≤ 5 := by
  unfold kd
  (repeat' split) <;> omega
/-- what a token's reading leaves alone -/
def fX (V V' : VV) : Prop := (∀ k, k ≠ 1 → V' k = V k) ∧ ∀ i, i ≠ 4 → i ≠ 5 → i ≠ 6 → V' 1 i = V 1 i
theorem fX.rf {V : VV} : fX V V := ⟨fun _ _ => rfl, fun _ _ _ _ => rfl⟩
theorem fX.tr {V V' V'' : VV} (h : fX V V') (h2 : fX V' V'') : fX V V'' := ⟨fun k hk => (h2.1 k hk).trans (h.1 k hk), fun i a b c => (h2.2 i a b c).trans (h.2 i a b c)⟩
theorem X_skL {F : Nat → Int} {N : Nat} (hF : okF F N) : ∀ (k m a : Nat) (V : VV), k + 1 ≤ m → N = a + k → V 1 1 = (N : Int) → V 1 6 = (a : Int) → (∀ j, j < N → V 2 j = wB (F j)) → ∃ V' : VV, f0_readToken_L0 m V = some V' ∧ (∀ c, c ≠ 1 → V' c = V c) ∧ (∀ i, i ≠ 6 → V' 1 i = V 1 i) ∧ V' 1 6 = ((runW isSc F k a : Nat) : Int) := by
  intro k
  induction k with
  | zero =>
    intro m a V hm hN h1 h6 hb
    obtain ⟨m, rfl⟩ : ∃ q, m = q + 1 := ⟨m - 1, by omega⟩
    have := hF.1
    refine ⟨V, ?_, fun _ _ => rfl, fun _ _ => rfl, h6⟩
    rw [f0_readToken_L0, h1, h6, nrm_of (by omega) (by omega), nrm_of (by omega) (by omega), if_pos (by omega)]
  | succ k ih =>
    intro m a V hm hN h1 h6 hb
    obtain ⟨m, rfl⟩ : ∃ q, m = q + 1 := ⟨m - 1, by omega⟩
    have := hF.1
    have ha : a < N := by omega
    have hkr := kd_rg (c := F a)
    rw [f0_readToken_L0, h1, h6, nrm_of (by omega) (by omega), nrm_of (by omega) (by omega), if_neg (by omega), ck_t (by omega), Int.toNat_natCast, hb a ha, X_kindOf (hF.2 a ha), bd_s, nrm_of (by omega) (by omega), nrm_of (z := 5) (by omega) (by omega), runW]
    by_cases c : isSc (F a) = true
    · rw [if_pos (kd_5.mpr c), if_pos c]
      obtain ⟨V', g1, g2, g3, g4⟩ := ih m (a + 1) (up2 V 1 6 ((a : Int) + 1)) (by omega) (by omega) (by rw [up2_n (by omega), h1]) (by rw [up2_s]; omega) (fun j hj => by rw [up2_r (by omega), hb j hj])
      exact ⟨V', g1, fun c hc => by rw [g2 c hc, up2_r hc], fun i hi => by rw [g3 i hi, up2_n (by omega)], g4⟩
    · rw [if_neg (fun z => c (kd_5.mp z)), if_neg c]
      exact ⟨V, rfl, fun _ _ => rfl, fun _ _ => rfl, h6⟩
theorem X_runL {F : Nat → Int} {N : Nat} {p : Int → Bool} {z : Int} (hF : okF F N) (hp : ∀ c, kd c = z ↔ p c = true) (hz : 0 ≤ z ∧ z ≤ 5) : ∀ (k m a : Nat) (V : VV), k + 1 ≤ m → N = a + k → V 1 1 = (N : Int) → V 1 6 = (a : Int) → V 1 4 = z → (∀ j, j < N → V 2 j = wB (F j)) → ∃ V' : VV, f0_readRun_L0 m V = some V' ∧ (∀ c, c ≠ 1 → V' c = V c) ∧ (∀ i, i ≠ 6 → V' 1 i = V 1 i) ∧ V' 1 6 = ((runW p F k a : Nat) : Int) := by
  intro k
  induction k with
  | zero =>
    intro m a V hm hN h1 h6 h4 hb
    obtain ⟨m, rfl⟩ : ∃ q, m = q + 1 := ⟨m - 1, by omega⟩
    have := hF.1
    refine ⟨V, ?_, fun _ _ => rfl, fun _ _ => rfl, h6⟩
    rw [f0_readRun_L0, h1, h6, nrm_of (by omega) (by omega), nrm_of (by omega) (by omega), if_pos (by omega)]
  | succ k ih =>
    intro m a V hm hN h1 h6 h4 hb
    obtain ⟨m, rfl⟩ : ∃ q, m = q + 1 := ⟨m - 1, by omega⟩
    have := hF.1
    have ha : a < N := by omega
    have hkr := kd_rg (c := F a)
    rw [f0_readRun_L0, h1, h6, h4, nrm_of (by omega) (by omega), nrm_of (by omega) (by omega), if_neg (by omega), ck_t (by omega), Int.toNat_natCast, hb a ha, X_kindOf (hF.2 a ha), bd_s, nrm_of (by omega) (by omega), nrm_of (z := z) (by omega) (by omega), runW]
    by_cases c : p (F a) = true
    · rw [if_pos ((hp _).mpr c), if_pos c]
      obtain ⟨V', g1, g2, g3, g4⟩ := ih m (a + 1) (up2 V 1 6 ((a : Int) + 1)) (by omega) (by omega) (by rw [up2_n (by omega), h1]) (by rw [up2_s]; omega) (by rw [up2_n (by omega), h4]) (fun j hj => by rw [up2_r (by omega), hb j hj])
      exact ⟨V', g1, fun c hc => by rw [g2 c hc, up2_r hc], fun i hi => by rw [g3 i hi, up2_n (by omega)], g4⟩
    · rw [if_neg (fun q => c ((hp _).mp q)), if_neg c]
      exact ⟨V, rfl, fun _ _ => rfl, fun _ _ => rfl, h6⟩
theorem X_readRun {F : Nat → Int} {N : Nat} {p : Int → Bool} {z lim : Int} (hF : okF F N) (hp : ∀ c, kd c = z ↔ p c = true) (hz : (z = 1 ∧ lim = 8) ∨ (z = 2 ∧ lim = 4)) {V : VV} {f a : Nat} (hf : f ≤ a) (ha : a ≤ N) (h1 : V 1 1 = (N : Int)) (h5 : V 1 5 = (f : Int)) (h6 : V 1 6 = (a : Int)) (h4 : V 1 4 = z) (hb : ∀ j, j < N → V 2 j = wB (F j)) : ∃ V' : VV, f0_readRun V = some V' ∧ fX V V' ∧ V' 1 4 = (if lim < ((runW p F (N - a) a : Nat) : Int) - f then 4 else z) ∧ V' 1 5 = (f : Int) ∧ V' 1 6 = ((runW p F (N - a) a : Nat) : Int) := by
  have hN := hF.1
  obtain ⟨W, g1, g2, g3, g4⟩ := X_runL hF hp (by omega) (N - a) FU a V (by have := FU_ge; omega) (by omega) h1 h6 h4 hb
  have hr := runW_rg (p := p) (F := F) (k := N - a) (a := a)
  have w4 : W 1 4 = z := by rw [g3 4 (by omega), h4]
  have w5 : W 1 5 = (f : Int) := by rw [g3 5 (by omega), h5]
  have hl : (if nrm (W 1 4) = nrm 1 then some (8 : Int) else some 4) = some lim := by
    rw [w4]
    rcases hz with ⟨q1, q2⟩ | ⟨q1, q2⟩ <;> subst q1 <;> subst q2
    · rw [if_pos rfl]
    · rw [if_neg (by decide +kernel)]
  have hlr : 4 ≤ lim ∧ lim ≤ 8 := by omega
  unfold f0_readRun
  rw [g1, bd_s, hl, bd_s, g4, w5]
  generalize runW p F (N - a) a = e at *
  rw [nrm_of (by omega) (by omega), nrm_of (by omega) (by omega)]
  by_cases c : (e : Int) - (f : Int) ≤ lim
  · rw [if_pos c, if_neg (by omega)]
    exact ⟨W, rfl, ⟨g2, fun i a b c => g3 i c⟩, w4, w5, g4⟩
  · rw [if_neg c, if_pos (by omega)]
    exact ⟨_, rfl, ⟨fun k hk => by rw [up2_r hk, g2 k hk], fun i a b c => by rw [up2_n (by omega), g3 i c]⟩, up2_s _ _ _ _, by rw [up2_n (by omega), w5], by rw [up2_n (by omega), g4]⟩
theorem X_tok {V : VV} {F : Nat → Int} {N a : Nat} (hF : okF F N) (ha : a ≤ N) (h1 : V 1 1 = (N : Int)) (hb : ∀ j, j < N → V 2 j = wB (F j)) (h6 : V 1 6 = (a : Int)) : ∃ V' : VV, f0_readToken V = some V' ∧ fX V V' ∧ XT V' F N (tok F N a) := by
  have hN := hF.1
  obtain ⟨W, g1, g2, g3, g4⟩ := X_skL hF (N - a) FU a V (by have := FU_ge; omega) (by omega) h1 h6 hb
  have hr := runW_rg (p := isSc) (F := F) (k := N - a) (a := a)
  have hst := runW_stop (p := isSc) (F := F) (k := N - a) (a := a)
  unfold tok
  generalize runW isSc F (N - a) a = f at *
  have w1 : W 1 1 = (N : Int) := by rw [g3 1 (by omega), h1]
  have wb : ∀ j, j < N → W 2 j = wB (F j) := fun j hj => by rw [g2 2 (by omega), hb j hj]
  unfold f0_readToken
  rw [g1, bd_s]
  simp only [up2_n (show (1 : Nat) ≠ 1 ∨ (6 : Nat) ≠ 5 by omega), up2_n (show (1 : Nat) ≠ 1 ∨ (1 : Nat) ≠ 5 by omega), up2_r (show (2 : Nat) ≠ 1 by omega), up2_n (show (1 : Nat) ≠ 1 ∨ (6 : Nat) ≠ 4 by omega), up2_n (show (1 : Nat) ≠ 1 ∨ (4 : Nat) ≠ 6 by omega), up2_s]
  rw [g4, w1, nrm_of (by omega) (by omega), nrm_of (by omega) (by omega)]
  by_cases c1 : N ≤ f
  · rw [if_neg (by omega), if_pos c1]
    refine ⟨_, rfl, ⟨fun k hk => by rw [up2_r hk, up2_r hk, g2 k hk], fun i a b c => by rw [up2_n (by omega), up2_n (by omega), g3 i c]⟩, ?_, fun j hj => by rw [up2_r (by omega), up2_r (by omega), wb j hj], up2_s _ _ _ _, ?_, ?_⟩
    · rw [up2_n (by omega), up2_n (by omega), w1]
    · rw [up2_n (by omega), up2_s]
    · rw [up2_n (by omega), up2_n (by omega), g4]
  · have hf : f < N := by omega
    have hkr := kd_rg (c := F f)
    rw [if_pos (by omega), if_neg c1, ck_t (by omega), Int.toNat_natCast, wb f hf, X_kindOf (hF.2 f hf), bd_s, nrm_of (z := kd (F f)) (by omega) (by omega), nrm_of (z := 1) (by omega) (by omega), nrm_of (z := 2) (by omega) (by omega)]
    obtain ⟨U, eU⟩ : ∃ U : VV, U = up2 (up2 (up2 W 1 5 (f : Int)) 1 4 (kd (F f))) 1 6 ((f : Int) + 1) := ⟨_, rfl⟩
    rw [← eU]
    have u1 : U 1 1 = (N : Int) := by rw [eU, up2_n (by omega), up2_n (by omega), up2_n (by omega), w1]
    have u5 : U 1 5 = (f : Int) := by rw [eU, up2_n (by omega), up2_n (by omega), up2_s]
    have u4 : U 1 4 = kd (F f) := by rw [eU, up2_n (by omega), up2_s]
    have u6 : U 1 6 = ((f + 1 : Nat) : Int) := by rw [eU, up2_s]; omega
    have ub : ∀ j, j < N → U 2 j = wB (F j) := fun j hj => by rw [eU, up2_r (by omega), up2_r (by omega), up2_r (by omega), wb j hj]
    have uf : fX V U := ⟨fun k hk => by rw [eU, up2_r hk, up2_r hk, up2_r hk, g2 k hk], fun i a b c => by rw [eU, up2_n (by omega), up2_n (by omega), up2_n (by omega), g3 i c]⟩
    by_cases c2 : isSm (F f) = true
    · have k1 := kd_1.mpr c2
      rw [if_pos k1, if_pos c2]
      obtain ⟨V', q1, q2, q3, q4, q5⟩ := X_readRun (p := isSm) (z := 1) (lim := 8) hF (fun c => kd_1) (Or.inl ⟨rfl, rfl⟩) (f := f) (a := f + 1) (by omega) (by omega) u1 u5 u6 (by rw [u4, k1]) ub
      rw [q1, bd_s]
      rw [Nat.sub_add_eq, ← runW_first (by omega) c2] at q3 q5
      have hr2 := runW_rg (p := isSm) (F := F) (k := N - f) (a := f)
      generalize runW isSm F (N - f) f = e at *
      refine ⟨V', rfl, uf.tr q2, by rw [q2.2 1 (by omega) (by omega) (by omega), u1], fun j hj => by rw [q2.1 2 (by omega), ub j hj], ?_, q4, q5⟩
      rw [q3]
      by_cases z : 8 < e - f
      · rw [if_pos (by omega)]; show (4 : Int) = ((if 8 < e - f then 4 else 1 : Nat) : Int); rw [if_pos z]; rfl
      · rw [if_neg (by omega)]; show (1 : Int) = ((if 8 < e - f then 4 else 1 : Nat) : Int); rw [if_neg z]; rfl
    · rw [if_neg (fun z => c2 (kd_1.mp z)), if_neg c2]
      by_cases c3 : isDg (F f) = true
      · have k2 := kd_2.mpr c3
        rw [if_pos k2, if_pos c3]
        obtain ⟨V', q1, q2, q3, q4, q5⟩ := X_readRun (p := isDg) (z := 2) (lim := 4) hF (fun c => kd_2) (Or.inr ⟨rfl, rfl⟩) (f := f) (a := f + 1) (by omega) (by omega) u1 u5 u6 (by rw [u4, k2]) ub
        rw [q1, bd_s]
        rw [Nat.sub_add_eq, ← runW_first (by omega) c3] at q3 q5
        have hr2 := runW_rg (p := isDg) (F := F) (k := N - f) (a := f)
        generalize runW isDg F (N - f) f = e at *
        refine ⟨V', rfl, uf.tr q2, by rw [q2.2 1 (by omega) (by omega) (by omega), u1], fun j hj => by rw [q2.1 2 (by omega), ub j hj], ?_, q4, q5⟩
        rw [q3]
        by_cases z : 4 < e - f
        · rw [if_pos (by omega)]; show (4 : Int) = ((if 4 < e - f then 4 else 2 : Nat) : Int); rw [if_pos z]; rfl
        · rw [if_neg (by omega)]; show (2 : Int) = ((if 4 < e - f then 4 else 2 : Nat) : Int); rw [if_neg z]; rfl
      · rw [if_neg (fun z => c3 (kd_2.mp z)), if_neg c3]
        refine ⟨U, rfl, uf, u1, ub, ?_, u5, u6⟩
        have hsc := hst (by omega)
        rw [u4]
        unfold kd
        rw [if_neg c2, if_neg c3, hsc]
        show _ = ((if F f = 59 then 3 else 4 : Nat) : Int)
        by_cases z : F f = 59
        · rw [if_pos z, if_pos z]; rfl
        · rw [if_neg z, if_neg z, if_neg (by decide)]; rfl
