/-! names in the input, and tokens -/
def nmB (F : Nat → Int) : List Int → Nat → Bool
  | [], _ => true
  | c :: t, i => decide (c = F i) && nmB F t (i + 1)
theorem nmB_eq {F F' : Nat → Int} : ∀ {t : List Int} {i : Nat}, (∀ c ∈ t, 97 ≤ c ∧ c ≤ 122) → (∀ j, j < t.length → F (i + j) = wB (F' (i + j)) ∧ 0 ≤ F' (i + j) ∧ F' (i + j) ≤ 255) → nmB F t i = nmB F' t i := by
  intro t
  induction t with
  | nil => intro i _ _; rfl
  | cons c t ih =>
    intro i hc hF
    have h0 := hF 0 (by simp)
    rw [Nat.add_zero] at h0
    have hc0 := hc c List.mem_cons_self
    rw [nmB, nmB, ih (fun d hd => hc d (List.mem_cons_of_mem _ hd)) (fun j hj => by
      have := hF (j + 1) (by simp; omega)
      rw [show i + (j + 1) = i + 1 + j by omega] at this
      exact this)]
    congr 1
    rw [decide_eq_decide, h0.1]
    unfold wB
    omega
def shB (F : Nat → Int) (fr len : Nat) (t : Sh) : Bool := decide (len = t.1.length) && nmB F t.1 fr
def shN (F : Nat → Int) (fr len : Nat) : List Sh → Nat → Int
  | [], _ => -1
  | t :: l, i => if shB F fr len t = true then (i : Int) else shN F fr len l (i + 1)
theorem shN_rg {F : Nat → Int} {fr len : Nat} : ∀ {l : List Sh} {i : Nat}, shN F fr len l i = -1 ∨ ((i : Int) ≤ shN F fr len l i ∧ shN F fr len l i < i + l.length) := by
  intro l
  induction l with
  | nil => intro i; left; rfl
  | cons t l ih =>
    intro i
    rw [shN, List.length_cons]
    split
    · right; omega
    · rcases ih (i := i + 1) with q | q
      · left; exact q
      · right; omega
theorem shN_eq {F F' : Nat → Int} {fr len : Nat} : ∀ {l : List Sh} {i : Nat}, (∀ s ∈ l, okSh s) → (∀ j, j < len → F (fr + j) = wB (F' (fr + j)) ∧ 0 ≤ F' (fr + j) ∧ F' (fr + j) ≤ 255) → shN F fr len l i = shN F' fr len l i := by
  intro l
  induction l with
  | nil => intro i _ _; rfl
  | cons t l ih =>
    intro i hs hF
    rw [shN, shN, ih (fun s h => hs s (List.mem_cons_of_mem _ h)) hF]
    have e : shB F fr len t = shB F' fr len t := by
      unfold shB
      by_cases c : len = t.1.length
      · rw [nmB_eq (hs t List.mem_cons_self).2.1 (fun j hj => hF j (by omega))]
      · rw [decide_eq_false c, Bool.false_and, Bool.false_and]
    rw [e]
theorem X_hasName {V : VV} {q i fr len : Nat} {s : Sh} (hq : q < 2) (hi : i < 10) (hs : okSh s) (h1 : V (aS q + (2 + 2 * i)) 1 = (s.1.length : Int)) (h2 : ∀ (j : Nat) (c : Int), s.1[j]? = some c → V (aS q + (2 + 2 * i) + 1) j = c) (hfr : fr + len ≤ 600) (hF : ∀ j, j < len → -128 ≤ V 2 (fr + j) ∧ V 2 (fr + j) ≤ 127) : f4_hasName V q i (fr : Int) (len : Int) = some (if shB (V 2) fr len s = true then 1 else 0) := by
  have hsl := hs.1
  have key : ∀ (k m j : Nat), k + 1 ≤ m → s.1.length = j + k → len = s.1.length → f4_hasName_L13 V q i (fr : Int) m (j : Int) = some (if nmB (V 2) (s.1.drop j) (fr + j) = true then 1 else 0) := by
    intro k
    induction k with
    | zero =>
      intro m j hm hl hlen
      obtain ⟨m, rfl⟩ : ∃ q, m = q + 1 := ⟨m - 1, by omega⟩
      rw [f4_hasName_L13, h1, nrm_of (by omega) (by omega), nrm_of (by omega) (by omega), if_pos (by omega), List.drop_eq_nil_of_le (by omega), nmB, if_pos rfl]
    | succ k ih =>
      intro m j hm hl hlen
      obtain ⟨m, rfl⟩ : ∃ q, m = q + 1 := ⟨m - 1, by omega⟩
      have hj : j < s.1.length := by omega
      have hg := List.getElem?_eq_getElem hj
      have hc := hs.2.1 _ (List.getElem_mem hj)
      have hFj := hF j (by omega)
      have hI := ih m (j + 1) (by omega) (by omega) hlen
      rw [Int.natCast_add, Int.natCast_one] at hI
      have e0 : Int.toNat ((fr : Int) + (j : Int)) = fr + j := by omega
      rw [f4_hasName_L13, h1, nrm_of (by omega) (by omega), nrm_of (by omega) (by omega), if_neg (by omega), ck_t (by omega), ck_t (by omega), Int.toNat_natCast, e0, h2 j _ hg, nrm_of (by omega) (by omega), nrm_of (by omega) (by omega), List.drop_eq_getElem_cons hj, nmB]
      by_cases c : s.1[j] = V 2 (fr + j)
      · rw [if_pos c, hI, decide_eq_true c, Bool.true_and, Nat.add_assoc]
      · rw [if_neg c, decide_eq_false c, Bool.false_and]
        rfl
  unfold f4_hasName shB
  rw [ck_t hq, ck_t hi, h1, nrm_of (by omega) (by omega), nrm_of (by omega) (by omega)]
  by_cases c : len = s.1.length
  · have h0 := key s.1.length FU 0 (by have := FU_ge; omega) (by omega) c
    rw [nc0, List.drop_zero, Nat.add_zero] at h0
    rw [if_pos (by omega), h0, decide_eq_true c, Bool.true_and]
  · rw [if_neg (by omega), decide_eq_false c, Bool.false_and]
    rfl
theorem X_shipNamed {V : VV} {S : Su} {q fr len : Nat} (hq : q < 2) (h : rpS V (aS q) S) (hl : S.2.2.length ≤ 10) (hok : ∀ s ∈ S.2.2, okSh s) (hfr : fr + len ≤ 600) (hF : ∀ j, j < len → -128 ≤ V 2 (fr + j) ∧ V 2 (fr + j) ≤ 127) : f3_shipNamed V q (fr : Int) (len : Int) = some (shN (V 2) fr len S.2.2 0) := by
  have key : ∀ (k m i : Nat), k + 1 ≤ m → S.2.2.length = i + k → f3_shipNamed_L3 V q (fr : Int) (len : Int) m (i : Int) = some (shN (V 2) fr len (S.2.2.drop i) i) := by
    intro k
    induction k with
    | zero =>
      intro m i hm hli
      obtain ⟨m, rfl⟩ : ∃ q, m = q + 1 := ⟨m - 1, by omega⟩
      rw [f3_shipNamed_L3, h.2.2.1, nrm_of (by omega) (by omega), nrm_of (by omega) (by omega), if_pos (by omega), List.drop_eq_nil_of_le (by omega), shN]
    | succ k ih =>
      intro m i hm hli
      obtain ⟨m, rfl⟩ : ∃ q, m = q + 1 := ⟨m - 1, by omega⟩
      have hi : i < S.2.2.length := by omega
      have hg := List.getElem?_eq_getElem hi
      obtain ⟨h1, -, -, -, h2⟩ := h.2.2.2 i _ hg
      have hI := ih m (i + 1) (by omega) (by omega)
      rw [Int.natCast_add, Int.natCast_one] at hI
      rw [f3_shipNamed_L3, h.2.2.1, nrm_of (by omega) (by omega), nrm_of (by omega) (by omega), if_neg (by omega), ck_t (by omega), Int.toNat_natCast, X_hasName hq (by omega) (hok _ (List.getElem_mem hi)) h1 h2 hfr hF, bd_s, List.drop_eq_getElem_cons hi, shN]
      by_cases c : shB (V 2) fr len S.2.2[i] = true
      · rw [if_pos c, if_pos c, if_neg (by decide +kernel)]
      · rw [if_neg c, if_neg c, if_pos (by decide +kernel), hI]
  have h0 := key S.2.2.length FU 0 (by have := FU_ge; omega) (by omega)
  rw [nc0, List.drop_zero] at h0
  unfold f3_shipNamed
  rw [ck_t hq, h0]
theorem M_shipNamed {V : VV} {S : Su} {fr len : Nat} (h : rpN V 0 S) (hl : S.2.2.length ≤ 10) (hok : ∀ s ∈ S.2.2, okSh s) (hfr : fr + len ≤ 600) (hF : ∀ j, j < len → 0 ≤ V 151 (fr + j) ∧ V 151 (fr + j) ≤ 255) : f6_shipNamed V (fr : Int) (len : Int) = some (shN (V 151) fr len S.2.2 0) := by
  have inner : ∀ (i : Nat) (s : Sh), S.2.2[i]? = some s → len = s.1.length → ∀ (k m j : Nat), k + 2 ≤ m → s.1.length = j + k → f6_shipNamed_L32 V (fr : Int) (len : Int) (i : Int) m 1 (j : Int) = some (if nmB (V 151) (s.1.drop j) (fr + j) = true then 1 else 0) := by
    intro i s hs hlen k
    have hil := (List.getElem?_eq_some_iff.mp hs).1
    have hso := hok s (List.mem_of_getElem? hs)
    have hsl := hso.1
    obtain ⟨-, -, -, -, h2⟩ := h.2.2.2 i s hs
    induction k with
    | zero =>
      intro m j hm hl2
      obtain ⟨m, rfl⟩ : ∃ q, m = q + 1 := ⟨m - 1, by omega⟩
      rw [f6_shipNamed_L32, if_neg (by decide +kernel), nrm_of (by omega) (by omega), nrm_of (by omega) (by omega), if_pos (by omega), List.drop_eq_nil_of_le (by omega), nmB, if_pos rfl]
    | succ k ih =>
      intro m j hm hl2
      obtain ⟨m, rfl⟩ : ∃ q, m = q + 1 := ⟨m - 1, by omega⟩
      have hj : j < s.1.length := by omega
      have hg := List.getElem?_eq_getElem hj
      have hc := hso.2.1 _ (List.getElem_mem hj)
      have hFj := hF j (by omega)
      have hI := ih m (j + 1) (by omega) (by omega)
      rw [Int.natCast_add, Int.natCast_one] at hI
      have e0 : Int.toNat ((fr : Int) + (j : Int)) = fr + j := by omega
      have h2j := h2 j _ hg
      rw [Nat.zero_add] at h2j
      rw [f6_shipNamed_L32, if_neg (by decide +kernel), nrm_of (by omega) (by omega), nrm_of (by omega) (by omega), if_neg (by omega), M_ofShip (i := i) (y := 1 + (j : Int)) (j := 1 + j) rfl (by omega) (by omega) (by omega), bd_s, ← Nat.add_assoc, h2j, ck_t (by omega), e0, nrm_of (by omega) (by omega), nrm_of (by omega) (by omega), List.drop_eq_getElem_cons hj, nmB]
      by_cases c : s.1[j] = V 151 (fr + j)
      · rw [if_pos c, hI, decide_eq_true c, Bool.true_and, Nat.add_assoc]
      · rw [if_neg c, decide_eq_false c, Bool.false_and]
        obtain ⟨m, rfl⟩ : ∃ q, m = q + 1 := ⟨m - 1, by omega⟩
        rw [f6_shipNamed_L32, if_pos (by decide +kernel)]
        rfl
  have key : ∀ (k m i : Nat), k + 1 ≤ m → S.2.2.length = i + k → f6_shipNamed_L2 V (fr : Int) (len : Int) m (i : Int) = some (shN (V 151) fr len (S.2.2.drop i) i) := by
    intro k
    induction k with
    | zero =>
      intro m i hm hli
      obtain ⟨m, rfl⟩ : ∃ q, m = q + 1 := ⟨m - 1, by omega⟩
      have h3 := h.2.2.1
      rw [Nat.zero_add] at h3
      rw [f6_shipNamed_L2, h3, nrm_of (by omega) (by omega), nrm_of (by omega) (by omega), if_pos (by omega), List.drop_eq_nil_of_le (by omega), shN]
    | succ k ih =>
      intro m i hm hli
      obtain ⟨m, rfl⟩ : ∃ q, m = q + 1 := ⟨m - 1, by omega⟩
      have hi : i < S.2.2.length := by omega
      have hg := List.getElem?_eq_getElem hi
      obtain ⟨h1, -, -, -, h2⟩ := h.2.2.2 i _ hg
      have hsl := (hok _ (List.getElem_mem hi)).1
      have hI := ih m (i + 1) (by omega) (by omega)
      rw [Int.natCast_add, Int.natCast_one] at hI
      have h3 := h.2.2.1
      rw [Nat.zero_add] at h3 h1
      rw [f6_shipNamed_L2, h3, nrm_of (by omega) (by omega), nrm_of (by omega) (by omega), if_neg (by omega), M_ofShip (i := i) (y := 0) (j := 0) rfl rfl (by omega) (by omega), bd_s, Nat.add_zero, h1, nrm_of (by omega) (by omega), nrm_of (by omega) (by omega), List.drop_eq_getElem_cons hi, shN]
      unfold shB
      by_cases c : len = (S.2.2[i]).1.length
      · have h0 := inner i _ hg c (S.2.2[i]).1.length FU 0 (by have := FU_ge; omega) (by omega)
        rw [nc0, List.drop_zero, Nat.add_zero] at h0
        rw [if_pos (by omega), bd_s, h0, bd_s, decide_eq_true c, Bool.true_and]
        by_cases c2 : nmB (V 151) (S.2.2[i]).1 fr = true
        · rw [if_pos c2, if_pos c2, if_neg (by decide +kernel)]
        · rw [if_neg c2, if_neg c2, if_pos (by decide +kernel), hI]
      · rw [if_neg (by omega), bd_s, decide_eq_false c, Bool.false_and, if_neg (by decide)]
        have e0 : f6_shipNamed_L32 V (fr : Int) (len : Int) (i : Int) FU 0 0 = some 0 := by
          rw [show FU = 4999 + 1 from rfl, f6_shipNamed_L32, if_pos (by decide +kernel)]
        rw [e0, bd_s, if_pos (by decide +kernel), hI]
  have h0 := key S.2.2.length FU 0 (by have := FU_ge; omega) (by omega)
  rw [nc0, List.drop_zero] at h0
  unfold f6_shipNamed
  exact h0
theorem op_findShip : Op1 [eN] (fun V => f5_findShip V) (fun V => f6_findShip V) := by
  intro V S P h
  obtain ⟨i1, ⟨i2, i3⟩, i4, i5, i6⟩ := h.2.2.2.2.2.1
  have hS := h.ck.2.2.2.1
  have hq := h.ck.2.2.1
  have hsl := hS.2.2.1
  obtain ⟨n, hn⟩ : ∃ n : Nat, V 1 1 = (n : Int) := ⟨(V 1 1).toNat, by omega⟩
  have hb : ∀ j, j < n → V 2 (0 + j) = wB (V 151 (0 + j)) ∧ 0 ≤ V 151 (0 + j) ∧ V 151 (0 + j) ≤ 255 := fun j hj => by rw [Nat.zero_add]; exact i4 j (by omega)
  have hX := X_shipNamed (V := V) (S := S) (fr := 0) (len := n) hq h.ck.2.1 hsl.2 hS.2.2.2 (by omega) (fun j hj => by rw [(hb j hj).1]; exact wB_in _)
  have hM := M_shipNamed (V := V) (S := S) (fr := 0) (len := n) h.mk.2.1 hsl.2 hS.2.2.2 (by omega) (fun j hj => (hb j hj).2)
  rw [shN_eq hS.2.2.2 hb] at hX
  have hrg := shN_rg (F := V 151) (fr := 0) (len := n) (l := S.2.2) (i := 0)
  rw [nc0] at hX hM
  rw [← hn] at hX
  rw [← hn, i1] at hM
  by_cases c : shN (V 151) 0 n S.2.2 0 = -1
  · refine ⟨.error eN, V, 0, up2 V 148 9 1, ?_, ?_, (up2_s _ _ _ _).trans cod_1.symm, fun r hr => ner hr, S, P, h.thr 1⟩
    · show f5_findShip V = _
      unfold f5_findShip
      rw [ck_t hq, hX, bd_s, if_pos (by rw [c]), if_pos (by decide +kernel)]
    · show f6_findShip V = _
      unfold f6_findShip
      rw [hM, bd_s, if_pos (by rw [c]), bd_s, M_fails1 (Or.inl rfl) (Or.inl rfl)]
      simp only [bd2_s, n10, if_false]
  · have c2 : ¬ nrm (shN (V 151) 0 n S.2.2 0) = nrm (-1) := by
      rw [nrm_of (by omega) (by omega), nrm_of (by omega) (by omega)]; exact c
    refine ⟨.ok (shN (V 151) 0 n S.2.2 0), V, _, up2 V 148 9 0, ?_, ?_, th0 (z := 0), fun r hr => okr hr rfl, S, P, h.thr 0⟩
    · show f5_findShip V = _
      unfold f5_findShip
      rw [ck_t hq, hX, bd_s, if_neg c2, if_neg (by decide +kernel)]
    · show f6_findShip V = _
      unfold f6_findShip
      rw [hM, bd_s, if_neg c2, bd_s, M_fails0]
      simp only [bd2_s, n00, if_true]
