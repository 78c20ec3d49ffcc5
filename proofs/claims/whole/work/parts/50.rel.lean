/-! the relation of class and reference; the helpers of the calls -/
def pix (l k : Nat) : Nat := if k ≤ l then l - k else l + 6 - k
/-- a kept plan: in the class's plan p, in the reference's block o -/
def kpt (V : VV) (S : Su) (p o : Nat) : Prop := ∃ Q : Pl, okP S Q ∧ rpC V (aP p) Q ∧ rpM V o Q ∧ rpN V o S
def RPast (V : VV) (S : Su) : Prop := (0 ≤ V 0 7 ∧ V 0 7 ≤ 5) ∧ V 0 8 = V 148 2 ∧ (0 ≤ V 0 8 ∧ V 0 8 ≤ 6) ∧ ∀ k : Nat, (k : Int) < V 0 8 → kpt V S (pix (V 0 7).toNat k + 2) (230 * ((V 0 8).toNat - k))
def RSav (V : VV) (S : Su) : Prop := ∀ s : Nat, s < 2 → V 73 s = V 150 s ∧ (V 73 s = 0 ∨ (V 73 s = 1 ∧ kpt V S (s + 8) (230 * (7 + s))))
def RIn (V : VV) : Prop := V 1 1 = V 148 4 ∧ (0 ≤ V 1 1 ∧ V 1 1 ≤ 600) ∧ (∀ j : Nat, (j : Int) < V 1 1 → V 2 j = wB (V 151 j) ∧ 0 ≤ V 151 j ∧ V 151 j ≤ 255) ∧ V 1 2 = V 148 5 ∧ V 1 3 = V 148 6
def ROut (V : VV) : Prop := V 0 13 = V 148 8 ∧ (0 ≤ V 0 13 ∧ V 0 13 ≤ 320) ∧ ∀ i : Nat, (i : Int) < V 0 13 → V 75 i = V 152 i
def RV (V : VV) (S : Su) (P : Pl) : Prop := CK V S P ∧ MK V S P ∧ ((V 0 2 = 0 ∨ V 0 2 = 1) ∧ V 0 3 = 1 - V 0 2) ∧ RPast V S ∧ RSav V S ∧ RIn V ∧ ROut V
theorem rpM_of {V V' : VV} {o : Nat} {P : Pl} (h : rpM V o P) (e : V' 149 = V 149) : rpM V' o P := by
  unfold rpM mP at *
  rw [e]; exact h
theorem rpN_of {V V' : VV} {o : Nat} {S : Su} (h : rpN V o S) (e : V' 149 = V 149) : rpN V' o S := by
  unfold rpN at *
  rw [e]; exact h
theorem MK.of {V V' : VV} {S : Su} {P : Pl} (h : MK V S P) (e : V' 149 = V 149) : MK V' S P := ⟨rpM_of h.1 e, rpN_of h.2.1 e, h.2.2⟩
theorem rpS_of {V V' : VV} {a : Nat} {S : Su} (hS : okS S) (h : rpS V a S) (he : ∀ k, a ≤ k → k < a + 22 → V' k = V k) : rpS V' a S := by
  obtain ⟨h1, h2, h3, h4⟩ := h
  have e0 := he a (by omega) (by omega)
  refine ⟨by rw [e0]; exact h1, by rw [e0]; exact h2, by rw [e0]; exact h3, fun i s hs => ?_⟩
  have hi : i < 10 := by
    have := (List.getElem?_eq_some_iff.mp hs).1
    have := hS.2.2.1
    omega
  obtain ⟨k1, k2, k3, k4, k5⟩ := h4 i s hs
  rw [he (a + (2 + 2 * i)) (by omega) (by omega), he (a + (2 + 2 * i) + 1) (by omega) (by omega)]
  exact ⟨k1, k2, k3, k4, k5⟩
/-- what counts is alike -/
def same (V V' : VV) : Prop := V' 0 = V 0 ∧ V' 1 1 = V 1 1 ∧ V' 1 2 = V 1 2 ∧ V' 1 3 = V 1 3 ∧ V' 2 = V 2 ∧ (∀ k, 9 ≤ k → k < 74 → V' k = V k) ∧ (∀ k, 75 ≤ k → k < 148 → V' k = V k) ∧ V' 148 2 = V 148 2 ∧ V' 148 4 = V 148 4 ∧ V' 148 5 = V 148 5 ∧ V' 148 6 = V 148 6 ∧ V' 148 8 = V 148 8 ∧ (∀ k, 149 ≤ k → k < 153 → V' k = V k)
theorem kpt_of {V V' : VV} {S : Su} {p o : Nat} (hp : p < 10) (h : kpt V S p o) (hc : ∀ k, 53 ≤ k → k < 71 → V' k = V k) (hc2 : ∀ k, 76 ≤ k → k < 148 → V' k = V k) (e : V' 149 = V 149) : kpt V' S p o := by
  obtain ⟨Q, h1, h2, h3, h4⟩ := h
  refine ⟨Q, h1, rpC_of h2 (fun k k1 k2 => ?_), rpM_of h3 e, rpN_of h4 e⟩
  by_cases q : p < 2
  · have : aP p = 53 + 9 * p := if_pos q
    exact hc k (by omega) (by omega)
  · have : aP p = 58 + 9 * p := if_neg q
    exact hc2 k (by omega) (by omega)
theorem RV.sm {V V' : VV} {S : Su} {P : Pl} (h : RV V S P) (hs : same V V') : RV V' S P := by
  obtain ⟨g1, g2, g3, g4, g5, g6, g7⟩ := h
  obtain ⟨e0, e11, e12, e13, e2, ea, eb, f2, f4, f5, f6, f8, ec⟩ := hs
  have hq := g1.2.2.1
  have e149 := ec 149 (by omega) (by omega)
  refine ⟨⟨rpC_of g1.1 (fun k k1 k2 => ea k (by omega) (by omega)), ?_, by rw [e0]; exact hq, g1.2.2.2⟩, g2.of e149, by rw [e0]; exact g3, ?_, ?_, ?_, ?_⟩
  · rw [e0]
    exact rpS_of g1.2.2.2.1 g1.2.1 (fun k k1 k2 => ea k (by unfold aS at k1; omega) (by unfold aS at k2; omega))
  · unfold RPast
    rw [e0, f2]
    refine ⟨g4.1, g4.2.1, g4.2.2.1, fun k hk => kpt_of ?_ (g4.2.2.2 k hk) (fun k a b => ea k (by omega) (by omega)) (fun k a b => eb k (by omega) (by omega)) e149⟩
    have := g4.1
    have := g4.2.2.1
    unfold pix
    split <;> omega
  · intro s hs
    rw [ea 73 (by omega) (by omega), ec 150 (by omega) (by omega)]
    refine ⟨(g5 s hs).1, ?_⟩
    rcases (g5 s hs).2 with q | ⟨q, q2⟩
    · exact Or.inl q
    · exact Or.inr ⟨q, kpt_of (by omega) q2 (fun k a b => ea k (by omega) (by omega)) (fun k a b => eb k (by omega) (by omega)) e149⟩
  · unfold RIn
    rw [e11, e12, e13, e2, f4, f5, f6, ec 151 (by omega) (by omega)]
    exact g6
  · unfold ROut
    rw [e0, f8, eb 75 (by omega) (by omega), ec 152 (by omega) (by omega)]
    exact g7
theorem same_thr {V : VV} {z : Int} : same V (up2 V 148 9 z) := ⟨up2_r (by omega), up2_n (by omega), up2_n (by omega), up2_n (by omega), up2_r (by omega), fun k _ _ => up2_r (by omega), fun k _ _ => up2_r (by omega), up2_n (by omega), up2_n (by omega), up2_n (by omega), up2_n (by omega), up2_n (by omega), fun k _ _ => up2_r (by omega)⟩
theorem RV.thr {V : VV} {S : Su} {P : Pl} (h : RV V S P) (z : Int) : RV (up2 V 148 9 z) S P := h.sm same_thr
theorem RV.ck {V : VV} {S : Su} {P : Pl} (h : RV V S P) : CK V S P := h.1
theorem RV.mk {V : VV} {S : Su} {P : Pl} (h : RV V S P) : MK V S P := h.2.1
theorem MK.thr {V : VV} {S : Su} {P : Pl} (h : MK V S P) (z : Int) : MK (up2 V 148 9 z) S P := h.of (up2_r (by omega))
theorem RV.bb {V : VV} {S : Su} {P : Pl} (h : RV V S P) {i : Nat} (hi : i < P.2.2.2.2.2.1.length) : V 149 (110 + 4 * i) = V 54 i ∧ V 149 (110 + 4 * i + 1) = V 55 i ∧ V 149 (110 + 4 * i + 2) = V 56 i ∧ V 149 (110 + 4 * i + 3) = V 57 i := by
  have h1 := (h.ck.b hi).2.1
  rw [(h.mk.b hi).2.1] at h1
  simpa using h1
theorem RV.rr {V : VV} {S : Su} {P : Pl} (h : RV V S P) {i : Nat} (hi : i < P.2.2.2.2.2.2.length) : V 149 (194 + 4 * i) = V 58 i ∧ V 149 (194 + 4 * i + 1) = V 59 i ∧ V 149 (194 + 4 * i + 2) = V 60 i ∧ V 149 (194 + 4 * i + 3) = V 61 i := by
  have h1 := (h.ck.r hi).2.1
  rw [(h.mk.r hi).2.1] at h1
  simpa using h1
/-- an exception's number in a call's list -/
def cod (l : List String) : Except String Int → Int
  | .ok _ => 0
  | .error E => if l[0]? = some E then 1 else if l[1]? = some E then 2 else if l[2]? = some E then 3 else 4
def Op1 (l : List String) (fx : VV → Option (Except String Int × VV)) (fm : VV → Option (Int × VV)) : Prop := ∀ (V : VV) (S : Su) (P : Pl), RV V S P → ∃ (e : Except String Int) (V1 : VV) (b : Int) (V2 : VV), fx V = some (e, V1) ∧ fm V1 = some (b, V2) ∧ V2 148 9 = cod l e ∧ (∀ r, e = .ok r → r = b) ∧ ∃ S' P', RV V2 S' P'
def Op0 (fx : VV → Option Int) (fm : VV → Option (Int × VV)) : Prop := ∀ (V : VV) (S : Su) (P : Pl), RV V S P → ∃ (r : Int) (V2 : VV), fx V = some r ∧ fm V = some (r, V2) ∧ ∃ S' P', RV V2 S' P'
def Op2 (fx : VV → Option (Int × VV)) (fm : VV → Option (Int × VV)) : Prop := ∀ (V : VV) (S : Su) (P : Pl), RV V S P → ∃ (r : Int) (V1 V2 : VV), fx V = some (r, V1) ∧ fm V1 = some (r, V2) ∧ ∃ S' P', RV V2 S' P'
abbrev rgI (x : Int) : Prop := -2147483648 ≤ x ∧ x ≤ 2147483647
abbrev eI : String := "java/lang/IndexOutOfBoundsException"
abbrev eA : String := "java/lang/IllegalArgumentException"
abbrev eS : String := "java/lang/IllegalStateException"
abbrev eN : String := "java/util/NoSuchElementException"
/-- the refusal's number -/
def fc (a b c : Int) : Int := if a = 1 then 1 else if b = 1 then 2 else if c = 1 then 3 else 0
theorem M_fails {V : VV} {a b c : Int} (ha : a = 0 ∨ a = 1) (hb : b = 0 ∨ b = 1) (hc : c = 0 ∨ c = 1) : f6_fails V a b c = some (if fc a b c = 0 then 0 else 1, up2 V 148 9 (fc a b c)) := by
  have n0 : nrm 0 = 0 := rfl
  have n1 : nrm 1 = 1 := rfl
  have n2 : nrm 2 = 2 := rfl
  have n3 : nrm 3 = 3 := rfl
  have d1 : ¬ (1 : Int) = 0 := by decide
  have d2 : ¬ (0 : Int) = 1 := by decide
  unfold f6_fails fc
  rcases ha with e | e <;> subst e <;> rcases hb with e | e <;> subst e <;> rcases hc with e | e <;> subst e <;> simp [bd_s, up2_s, n0, n1, n2, n3]
theorem X_isWithin {V : VV} {x lo hi : Int} (hx : rgI x) (h1 : rgI lo) (h2 : rgI hi) : f5_isWithin V x lo hi = some (if lo ≤ x ∧ x ≤ hi then 1 else 0) := by
  unfold f5_isWithin
  simp (disch := omega) only [nrm_of]
  by_cases c : x < lo
  · rw [if_pos c, if_neg (by omega)]
  · rw [if_neg c]
    by_cases c2 : hi < x
    · rw [if_pos c2, if_neg (by omega)]
    · rw [if_neg c2, if_pos (by omega)]
theorem X_isNumberBelow {V : VV} {x n : Int} (hx : rgI x) (h1 : rgI n) : f5_isNumberBelow V x n = some (if 0 ≤ x ∧ x < n then 1 else 0) := by
  unfold f5_isNumberBelow
  simp (disch := omega) only [nrm_of]
  by_cases c : x < 0
  · rw [if_pos c, if_neg (by omega)]
  · rw [if_neg c]
    by_cases c2 : n ≤ x
    · rw [if_pos c2, if_neg (by omega)]
    · rw [if_neg c2, if_pos (by omega)]
theorem M_in {V : VV} {x lo hi : Int} (hx : rgI x) (h1 : rgI lo) (h2 : rgI hi) : f6_in V x lo hi = some (if lo ≤ x ∧ x ≤ hi then 1 else 0) := by
  unfold f6_in
  simp (disch := omega) only [nrm_of]
  by_cases c : x < lo
  · rw [if_pos c, if_neg (by omega)]
  · rw [if_neg c]
    by_cases c2 : hi < x
    · rw [if_pos c2, if_neg (by omega)]
    · rw [if_neg c2, if_pos (by omega)]
theorem ck01 {p : Prop} [Decidable p] : ck ((if p then (1 : Int) else 0) = 0 ∨ (if p then (1 : Int) else 0) = 1) (some (if p then (1 : Int) else 0)) = some (if p then (1 : Int) else 0) := ck_t (by split <;> simp)
theorem X_isShip {V : VV} {S : Su} {P : Pl} (h : CK V S P) {x : Int} (hx : rgI x) : f5_isShip V x = some (if 0 ≤ x ∧ x < (S.2.2.length : Int) then 1 else 0) := by
  have hs := h.su
  have hq := h.2.2.1
  unfold f5_isShip
  rw [ck_t hq, hs.2.2.1, X_isNumberBelow hx (by constructor <;> omega)]
  exact ck01
theorem X_isBooking {V : VV} {S : Su} {P : Pl} (h : CK V S P) {x : Int} (hx : rgI x) : f5_isBooking V x = some (if 0 ≤ x ∧ x < (P.2.2.2.2.2.1.length : Int) then 1 else 0) := by
  have hp := h.pl
  have hr := h.ok.rg
  unfold f5_isBooking
  rw [aP0, hp.2.2.2.2.2.1, X_isNumberBelow hx (by constructor <;> omega)]
  exact ck01
theorem X_isRequest {V : VV} {S : Su} {P : Pl} (h : CK V S P) {x : Int} (hx : rgI x) : f5_isRequest V x = some (if 0 ≤ x ∧ x < (P.2.2.2.2.2.2.length : Int) then 1 else 0) := by
  have hp := h.pl
  have hr := h.ok.rg
  unfold f5_isRequest
  rw [aP0, hp.2.2.2.2.2.2, X_isNumberBelow hx (by constructor <;> omega)]
  exact ck01
theorem M_lt {x n : Int} : (if 0 ≤ x ∧ x ≤ n - 1 then (1 : Int) else 0) = if 0 ≤ x ∧ x < n then 1 else 0 := by
  by_cases c : 0 ≤ x ∧ x < n
  · rw [if_pos c, if_pos (by omega)]
  · rw [if_neg c, if_neg (by omega)]
theorem M_isShip {V : VV} {S : Su} {P : Pl} (h : MK V S P) {x : Int} (hx : rgI x) : f6_isShip V x = some (if 0 ≤ x ∧ x < (S.2.2.length : Int) then 1 else 0) := by
  have hs := h.su
  unfold f6_isShip
  rw [hs.2.2.1, M_in hx (by constructor <;> omega) (by constructor <;> omega), M_lt]
  exact ck01
theorem M_isBooking {V : VV} {S : Su} {P : Pl} (h : MK V S P) {x : Int} (hx : rgI x) : f6_isBooking V x = some (if 0 ≤ x ∧ x < (P.2.2.2.2.2.1.length : Int) then 1 else 0) := by
  have hp := h.pl
  have hr := h.ok.rg
  unfold f6_isBooking
  rw [hp.2.2.2.2.2.1, M_in hx (by constructor <;> omega) (by constructor <;> omega), M_lt]
  exact ck01
theorem M_isRequest {V : VV} {S : Su} {P : Pl} (h : MK V S P) {x : Int} (hx : rgI x) : f6_isRequest V x = some (if 0 ≤ x ∧ x < (P.2.2.2.2.2.2.length : Int) then 1 else 0) := by
  have hp := h.pl
  have hr := h.ok.rg
  unfold f6_isRequest
  rw [hp.2.2.2.2.2.2, M_in hx (by constructor <;> omega) (by constructor <;> omega), M_lt]
  exact ck01
/-- not, and its kin, in numbers -/
theorem n_not {p : Prop} [Decidable p] : (if nrm (if p then (1 : Int) else 0) = 0 then some (1 : Int) else some 0) = some (if p then 0 else 1) := by
  by_cases c : p
  · simp only [c, if_true]; rfl
  · simp only [c, if_false]; rfl
theorem n_if {α : Type} {p : Prop} [Decidable p] {a b : α} : (if nrm (if p then (1 : Int) else 0) = 0 then a else b) = if p then b else a := by
  by_cases c : p
  · simp only [c, if_true]; rfl
  · simp only [c, if_false]; rfl
theorem n_if2 {α : Type} {p : Prop} [Decidable p] {a b : α} : (if nrm (if p then (0 : Int) else 1) = 0 then a else b) = if p then a else b := by
  by_cases c : p
  · simp only [c, if_true]; rfl
  · simp only [c, if_false]; rfl
theorem p01 {p : Prop} [Decidable p] : (if p then (0 : Int) else 1) = 0 ∨ (if p then (0 : Int) else 1) = 1 := by split <;> simp
theorem p10 {p : Prop} [Decidable p] : (if p then (1 : Int) else 0) = 0 ∨ (if p then (1 : Int) else 0) = 1 := by split <;> simp
