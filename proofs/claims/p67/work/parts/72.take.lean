/-! words, numbers, semicolons: what both take -/
def wl (k : Nat) : List Int := (bySn.getD k []).map (fun (n : Nat) => (n : Int))
def isW (F : Nat → Int) (k : Nat) (t : Tk) : Bool := decide (t.1 = 1) && (decide (t.2.2 - t.2.1 = (wl k).length) && nmB F (wl k) t.2.1)
theorem wl_ok : ∀ k, k < 3 → 1 ≤ k → slI k = ((wl k).length : Int) ∧ (wl k).length ≤ 8 ∧ (∀ c ∈ wl k, 97 ≤ c ∧ c ≤ 122) := by decide +kernel
theorem wl_at : ∀ k, k < 3 → ∀ j, j < (wl k).length → (wl k)[j]? = some (scI k j) := by decide +kernel
abbrev nxk (F : Nat → Int) (N : Nat) (t : Tk) : Tk := tok F N t.2.2
theorem nx_ok {F : Nat → Int} {N : Nat} {t : Tk} (h : okTk F N t) : okTk F N (tok F N t.2.2) := tok_ok h.2.1
theorem X_isWord {V : VV} {F : Nat → Int} {N k : Nat} {t : Tk} (hF : okF F N) (h : XT V F N t) (ht : okTk F N t) (hk : k < 3) (hk1 : 1 ≤ k) : f0_isWord V k = some (if isW F k t = true then 1 else 0) := by
  obtain ⟨h1, hb, h4, h5, h6⟩ := h
  obtain ⟨o1, o2, o3, o4, o5⟩ := ht
  obtain ⟨w1, w2, w3⟩ := wl_ok k hk hk1
  have hN := hF.1
  have key : ∀ (q m j : Nat), q + 1 ≤ m → (wl k).length = j + q → t.2.2 - t.2.1 = (wl k).length → f0_isWord_L28 V k m (j : Int) = some (if nmB (V 2) ((wl k).drop j) (t.2.1 + j) = true then 1 else 0) := by
    intro q
    induction q with
    | zero =>
      intro m j hm hl hlen
      obtain ⟨m, rfl⟩ : ∃ q, m = q + 1 := ⟨m - 1, by omega⟩
      rw [f0_isWord_L28, w1, nrm_of (by omega) (by omega), nrm_of (by omega) (by omega), if_pos (by omega), List.drop_eq_nil_of_le (by omega), nmB, if_pos rfl]
    | succ q ih =>
      intro m j hm hl hlen
      obtain ⟨m, rfl⟩ : ∃ q, m = q + 1 := ⟨m - 1, by omega⟩
      have hj : j < (wl k).length := by omega
      have hg := wl_at k hk j hj
      rw [List.getElem?_eq_getElem hj] at hg
      have hc := w3 _ (List.getElem_mem hj)
      have hsc := Option.some.inj hg
      have hI := ih m (j + 1) (by omega) (by omega) hlen
      rw [Int.natCast_add, Int.natCast_one] at hI
      have e0 : Int.toNat ((t.2.1 : Int) + (j : Int)) = t.2.1 + j := by omega
      have hbj := hb (t.2.1 + j) (by omega)
      have hbr := wB_in (F (t.2.1 + j))
      rw [f0_isWord_L28, w1, h5, nrm_of (z := ((wl k).length : Int)) (by omega) (by omega), nrm_of (z := (j : Int)) (by omega) (by omega), if_neg (by omega), ck_t (by omega), ck_t (by omega), Int.toNat_natCast, e0, ← hsc, List.drop_eq_getElem_cons hj, nmB, nrm_of (z := V 2 (t.2.1 + j)) (by omega) (by omega), nrm_of (z := (wl k)[j]) (by omega) (by omega)]
      by_cases c : V 2 (t.2.1 + j) = (wl k)[j]
      · rw [if_pos c, hI, decide_eq_true c.symm, Bool.true_and, Nat.add_assoc]
      · rw [if_neg c, decide_eq_false (fun z => c z.symm), Bool.false_and]
        rfl
  unfold f0_isWord isW
  rw [ck_t (show k < 5 by omega), h4, h5, h6, w1, nrm_of (z := (t.1 : Int)) (by omega) (by omega), nrm_of (z := 1) (by omega) (by omega), nrm_of (z := (t.2.2 : Int) - (t.2.1 : Int)) (by omega) (by omega), nrm_of (z := ((wl k).length : Int)) (by omega) (by omega)]
  by_cases c : t.1 = 1
  · rw [if_pos (by omega), decide_eq_true c, Bool.true_and]
    by_cases c2 : t.2.2 - t.2.1 = (wl k).length
    · have h0 := key (wl k).length FU 0 (by have := FU_ge; omega) (by omega) c2
      rw [nc0, List.drop_zero, Nat.add_zero] at h0
      rw [if_pos (by omega), decide_eq_true c2, Bool.true_and, h0, nmB_eq (F' := F) w3 (fun j hj => ⟨hb _ (by omega), hF.2 _ (by omega)⟩)]
    · rw [if_neg (by omega), decide_eq_false c2, Bool.false_and]
      rfl
  · rw [if_neg (by omega), decide_eq_false c, Bool.false_and]
    rfl
/-- a reader's two ends -/
abbrev PE (α : Type) : Type := Sum (Int × Int) α
def sb {α β : Type} (s : PE α) (f : α → PE β) : PE β := match s with
  | .inl e => .inl e
  | .inr a => f a
def sNum (F : Nat → Int) (lo hi : Int) (t : Tk) : PE Int := if t.1 = 2 then (if lo ≤ nmv F t.2.1 (t.2.2 - t.2.1) ∧ nmv F t.2.1 (t.2.2 - t.2.1) ≤ hi then .inr (nmv F t.2.1 (t.2.2 - t.2.1)) else .inl (2, t.2.1)) else .inl (1, t.2.1)
def sSem (F : Nat → Int) (N : Nat) (t : Tk) : PE Tk := if t.1 = 3 then .inr (nxk F N t) else .inl (1, t.2.1)
def sWord (F : Nat → Int) (N k : Nat) (t : Tk) : PE Tk := if isW F k t = true then .inr (nxk F N t) else .inl (1, t.2.1)
/-- the class's ends: error, or going on -/
def xE (V V' : VV) (e : Int × Int) : Prop := V' 1 2 = e.1 ∧ V' 1 3 = e.2 ∧ ∀ k, k ≠ 1 → V' k = V k
def xG (V V' : VV) (F : Nat → Int) (N : Nat) (t : Tk) : Prop := XT V' F N t ∧ (∀ k, k ≠ 1 → V' k = V k) ∧ V' 1 2 = V 1 2 ∧ V' 1 3 = V 1 3
theorem X_nx {V : VV} {F : Nat → Int} {N : Nat} {t : Tk} (hF : okF F N) (h : XT V F N t) (ht : okTk F N t) : ∃ V' : VV, f0_readToken V = some V' ∧ xG V V' F N (nxk F N t) ∧ V' 1 7 = V 1 7 := by
  obtain ⟨V', g1, g2, g3⟩ := X_tok hF ht.2.1 h.1 h.2.1 h.2.2.2.2
  exact ⟨V', g1, ⟨g3, g2.1, g2.2 2 (by omega) (by omega) (by omega), g2.2 3 (by omega) (by omega) (by omega)⟩, g2.2 7 (by omega) (by omega) (by omega)⟩
theorem X_fail {V : VV} {F : Nat → Int} {N : Nat} {t : Tk} {c : Int} (h : XT V F N t) : ∃ V' : VV, f0_fail V c = some (0, V') ∧ xE V V' (c, (t.2.1 : Int)) :=
  ⟨_, rfl, by rw [up2_n (by omega), up2_s], by rw [up2_s, up2_n (by omega)]; exact h.2.2.2.1, fun k hk => by rw [up2_r hk, up2_r hk]⟩
theorem X_fail2 {V : VV} {F : Nat → Int} {N : Nat} {t : Tk} {c : Int} (h : XT V F N t) : ∃ V' : VV, bd2 (f0_fail V c) (fun r W => ck (r = 0 ∨ r = 1) (some (r, W))) = some (0, V') ∧ xE V V' (c, (t.2.1 : Int)) := by
  obtain ⟨V', g1, g2⟩ := X_fail (c := c) h
  exact ⟨V', by rw [g1, bd2_s, ck_t (Or.inl rfl)], g2⟩
theorem X_takeWord {V : VV} {F : Nat → Int} {N k : Nat} {t : Tk} (hF : okF F N) (h : XT V F N t) (ht : okTk F N t) (hk : k < 3) (hk1 : 1 ≤ k) : (∃ (V' : VV) (t' : Tk), sWord F N k t = .inr t' ∧ okTk F N t' ∧ f0_takeWord V k = some (1, V') ∧ xG V V' F N t') ∨ ∃ (V' : VV) (e : Int × Int), sWord F N k t = .inl e ∧ f0_takeWord V k = some (0, V') ∧ xE V V' e := by
  unfold f0_takeWord sWord
  rw [ck_t (show k < 5 by omega), X_isWord hF h ht hk hk1, bd_s]
  by_cases c : isW F k t = true
  · left
    obtain ⟨V', g1, g2, -⟩ := X_nx hF h ht
    refine ⟨V', _, if_pos c, nx_ok ht, ?_, g2⟩
    rw [if_pos c, if_neg (by decide +kernel), g1, bd_s]
  · right
    obtain ⟨V', g1, g2⟩ := X_fail2 (c := 1) h
    refine ⟨V', _, if_neg c, ?_, g2⟩
    rw [if_neg c, if_pos (by decide +kernel), g1]
theorem X_takeSemicolon {V : VV} {F : Nat → Int} {N : Nat} {t : Tk} (hF : okF F N) (h : XT V F N t) (ht : okTk F N t) : (∃ (V' : VV) (t' : Tk), sSem F N t = .inr t' ∧ okTk F N t' ∧ f0_takeSemicolon V = some (1, V') ∧ xG V V' F N t') ∨ ∃ (V' : VV) (e : Int × Int), sSem F N t = .inl e ∧ f0_takeSemicolon V = some (0, V') ∧ xE V V' e := by
  have h3 := ht.2.2.1
  unfold f0_takeSemicolon sSem
  rw [h.2.2.1, nrm_of (by omega) (by omega), nrm_of (by omega) (by omega)]
  by_cases c : t.1 = 3
  · left
    obtain ⟨V', g1, g2, -⟩ := X_nx hF h ht
    refine ⟨V', _, if_pos c, nx_ok ht, ?_, g2⟩
    rw [if_pos (by omega), g1, bd_s]
  · right
    obtain ⟨V', g1, g2⟩ := X_fail2 (c := 1) h
    refine ⟨V', _, if_neg c, ?_, g2⟩
    rw [if_neg (by omega), g1]
theorem nmv_tk {F : Nat → Int} {N : Nat} {t : Tk} (ht : okTk F N t) (c : t.1 = 2) : 0 ≤ nmv F t.2.1 (t.2.2 - t.2.1) ∧ nmv F t.2.1 (t.2.2 - t.2.1) ≤ 9999 := by
  obtain ⟨h1, h2⟩ := ht.2.2.2.2 c
  have h3 := nmv_rg h2
  have h4 : (10 : Int) ^ (t.2.2 - t.2.1) ≤ 10000 := by
    have : t.2.2 - t.2.1 = 0 ∨ t.2.2 - t.2.1 = 1 ∨ t.2.2 - t.2.1 = 2 ∨ t.2.2 - t.2.1 = 3 ∨ t.2.2 - t.2.1 = 4 := by omega
    rcases this with e | e | e | e | e <;> rw [e] <;> decide
  omega
theorem X_takeNumber {V : VV} {F : Nat → Int} {N : Nat} {t : Tk} {lo hi : Int} (hF : okF F N) (h : XT V F N t) (ht : okTk F N t) (hr : rgI lo ∧ rgI hi) : (∃ (V' : VV) (v : Int), sNum F lo hi t = .inr v ∧ f0_takeNumber V lo hi = some (1, V') ∧ xG V V' F N (nxk F N t) ∧ V' 1 7 = v ∧ lo ≤ v ∧ v ≤ hi) ∨ ∃ (V' : VV) (e : Int × Int), sNum F lo hi t = .inl e ∧ f0_takeNumber V lo hi = some (0, V') ∧ xE V V' e := by
  have h3 := ht.2.2.1
  have hN := hF.1
  unfold f0_takeNumber sNum
  rw [h.2.2.1, nrm_of (z := (t.1 : Int)) (by omega) (by omega), nrm_of (z := 2) (by omega) (by omega)]
  by_cases c : t.1 = 2
  · have hv := nmv_tk ht c
    obtain ⟨d1, d2⟩ := ht.2.2.2.2 c
    have o1 := ht.1
    have o2 := ht.2.1
    have key : ∀ (q m j : Nat) (W : VV), q + 1 ≤ m → t.2.2 - t.2.1 = j + q → (∀ k, k ≠ 1 → W k = V k) → (∀ i, i ≠ 7 → W 1 i = V 1 i) → W 1 7 = nmv F t.2.1 j → ∃ W' : VV, f0_takeNumber_L24 lo hi m ((t.2.1 + j : Nat) : Int) W = some W' ∧ (∀ k, k ≠ 1 → W' k = V k) ∧ (∀ i, i ≠ 7 → W' 1 i = V 1 i) ∧ W' 1 7 = nmv F t.2.1 (t.2.2 - t.2.1) := by
      intro q
      induction q with
      | zero =>
        intro m j W hm hl hk hi7 h7
        obtain ⟨m, rfl⟩ : ∃ q, m = q + 1 := ⟨m - 1, by omega⟩
        refine ⟨W, ?_, hk, hi7, by rw [h7, hl, Nat.add_zero]⟩
        rw [f0_takeNumber_L24, hi7 6 (by omega), h.2.2.2.2, nrm_of (by omega) (by omega), nrm_of (by omega) (by omega), if_pos (by omega)]
      | succ q ih =>
        intro m j W hm hl hk hi7 h7
        obtain ⟨m, rfl⟩ : ∃ q, m = q + 1 := ⟨m - 1, by omega⟩
        have hdj := d2 j (by omega)
        have hwb : wB (F (t.2.1 + j)) = F (t.2.1 + j) := by unfold wB; omega
        rw [f0_takeNumber_L24, hi7 6 (by omega), h.2.2.2.2, nrm_of (by omega) (by omega), nrm_of (by omega) (by omega), if_neg (by omega), ck_t (by omega), Int.toNat_natCast, hk 2 (by omega), h.2.1 (t.2.1 + j) (by omega), hwb, h7]
        obtain ⟨W', g1, g2, g3, g4⟩ := ih m (j + 1) (up2 W 1 7 (nmv F t.2.1 j * 10 + (F (t.2.1 + j) - 48))) (by omega) (by omega) (fun k q => by rw [up2_r q, hk k q]) (fun i q => by rw [up2_n (by omega), hi7 i q]) (by rw [up2_s]; rfl)
        rw [show ((t.2.1 + (j + 1) : Nat) : Int) = ((t.2.1 + j : Nat) : Int) + 1 by omega] at g1
        exact ⟨W', g1, g2, g3, g4⟩
    obtain ⟨W, g1, g2, g3, g4⟩ := key (t.2.2 - t.2.1) FU 0 (up2 V 1 7 0) (by have := FU_ge; omega) (by omega) (fun k q => up2_r q) (fun i q => up2_n (by omega)) (by rw [up2_s]; rfl)
    rw [Nat.add_zero] at g1
    have hWT : XT W F N t := ⟨by rw [g3 1 (by omega)]; exact h.1, fun j hj => by rw [g2 2 (by omega)]; exact h.2.1 j hj, by rw [g3 4 (by omega)]; exact h.2.2.1, by rw [g3 5 (by omega)]; exact h.2.2.2.1, by rw [g3 6 (by omega)]; exact h.2.2.2.2⟩
    rw [if_pos c, if_pos (show (t.1 : Int) = 2 by omega), show (up2 V 1 7 0) 1 5 = (t.2.1 : Int) by rw [up2_n (by omega)]; exact h.2.2.2.1, g1, bd_s, g4]
    generalize nmv F t.2.1 (t.2.2 - t.2.1) = v at *
    rw [nrm_of (z := v) (by omega) (by omega), nrm_of (z := lo) (by omega) (by omega), nrm_of (z := hi) (by omega) (by omega)]
    by_cases c2 : lo ≤ v ∧ v ≤ hi
    · left
      obtain ⟨V', q1, q2, q3⟩ := X_nx hF hWT ht
      refine ⟨V', v, if_pos c2, ?_, ⟨q2.1, fun k q => by rw [q2.2.1 k q, g2 k q], by rw [q2.2.2.1, g3 2 (by omega)], by rw [q2.2.2.2, g3 3 (by omega)]⟩, by rw [q3, g4], c2⟩
      rw [if_neg (by omega), if_pos c2.2, q1, bd_s]
    · right
      obtain ⟨V', q1, q2⟩ := X_fail2 (c := 2) hWT
      refine ⟨V', _, if_neg c2, ?_, q2.1, q2.2.1, fun k q => by rw [q2.2.2 k q, g2 k q]⟩
      by_cases c3 : v < lo
      · rw [if_pos c3, q1]
      · rw [if_neg c3, if_neg (by omega), q1]
  · right
    obtain ⟨V', q1, q2⟩ := X_fail2 (c := 1) h
    refine ⟨V', _, if_neg c, ?_, q2⟩
    rw [if_neg (by omega), q1]
