/-! the plan and the setup in the class's cells, in the reference's -/
theorem aP0 : aP 0 = 53 := rfl
theorem nc0 : ((0 : Nat) : Int) = 0 := rfl
theorem FU_ge : 3000 ≤ FU := by decide
def rpC (V : VV) (c : Nat) (P : Pl) : Prop := cP V c = P ∧ V c 5 = (P.2.2.2.2.2.1.length : Int) ∧ V c 10 = (P.2.2.2.2.2.2.length : Int)
def rpS (V : VV) (a : Nat) (S : Su) : Prop := V a 0 = S.1 ∧ V a 1 = S.2.1 ∧ V a 3 = (S.2.2.length : Int) ∧ ∀ (i : Nat) (s : Sh), S.2.2[i]? = some s → V (a + (2 + 2 * i)) 1 = (s.1.length : Int) ∧ V (a + (2 + 2 * i)) 2 = s.2.1 ∧ V (a + (2 + 2 * i)) 3 = s.2.2.1 ∧ V (a + (2 + 2 * i)) 4 = s.2.2.2 ∧ ∀ (j : Nat) (c : Int), s.1[j]? = some c → V (a + (2 + 2 * i) + 1) j = c
/-- the class's present plan and setup -/
def CK (V : VV) (S : Su) (P : Pl) : Prop := rpC V 53 P ∧ rpS V (aS (V 0 2).toNat) S ∧ (V 0 2).toNat < 2 ∧ okS S ∧ okP S P
theorem CK.pl {V : VV} {S : Su} {P : Pl} (h : CK V S P) : V 53 0 = P.1 ∧ V 53 1 = P.2.1 ∧ V 53 2 = P.2.2.1 ∧ V 53 3 = P.2.2.2.1 ∧ V 53 4 = P.2.2.2.2.1 ∧ V 53 5 = (P.2.2.2.2.2.1.length : Int) ∧ V 53 10 = (P.2.2.2.2.2.2.length : Int) := by
  obtain ⟨⟨h1, h2, h3⟩, -⟩ := h
  refine ⟨?_, ?_, ?_, ?_, ?_, h2, h3⟩ <;> rw [← h1] <;> rfl
theorem CK.su {V : VV} {S : Su} {P : Pl} (h : CK V S P) : V (aS (V 0 2).toNat) 0 = S.1 ∧ V (aS (V 0 2).toNat) 1 = S.2.1 ∧ V (aS (V 0 2).toNat) 3 = (S.2.2.length : Int) ∧ (0 ≤ S.1 ∧ S.1 ≤ 30) ∧ (0 ≤ S.2.1 ∧ S.2.1 ≤ 30) ∧ (1 ≤ S.2.2.length ∧ S.2.2.length ≤ 10) := ⟨h.2.1.1, h.2.1.2.1, h.2.1.2.2.1, h.2.2.2.1.1, h.2.2.2.1.2.1, h.2.2.2.1.2.2.1⟩
theorem okP.rg {S : Su} {P : Pl} (h : okP S P) : (0 ≤ P.1 ∧ P.1 ≤ 9) ∧ (0 ≤ P.2.1 ∧ P.2.1 ≤ 1200) ∧ P.2.2.2.2.2.1.length ≤ 20 ∧ P.2.2.2.2.2.2.length ≤ 8 := ⟨h.1, h.2.1, h.2.2.1.1, h.2.2.1.2⟩
theorem CK.ok {V : VV} {S : Su} {P : Pl} (h : CK V S P) : okP S P := h.2.2.2.2
/-- a booking by its number -/
theorem CK.b {V : VV} {S : Su} {P : Pl} (h : CK V S P) {i : Nat} (hi : i < P.2.2.2.2.2.1.length) : P.2.2.2.2.2.1.drop i = (V 54 i, V 55 i, V 56 i, V 57 i) :: P.2.2.2.2.2.1.drop (i + 1) ∧ P.2.2.2.2.2.1[i]? = some (V 54 i, V 55 i, V 56 i, V 57 i) ∧ okB S.2.2.length (V 54 i, V 55 i, V 56 i, V 57 i) := by
  have e : P.2.2.2.2.2.1 = vw (fun j i => V (53 + 1 + j) i) (V 53 5).toNat := by rw [← h.1.1]; rfl
  have hi' : i < (V 53 5).toNat := by rw [h.1.2.1]; simpa using hi
  have hd := vw_drop (F := fun j i => V (53 + 1 + j) i) hi'
  have hg := vw_get (F := fun j i => V (53 + 1 + j) i) hi'
  rw [← e] at hd hg
  exact ⟨hd, hg, h.ok.2.2.2.1 _ (List.mem_of_getElem? hg)⟩
theorem CK.r {V : VV} {S : Su} {P : Pl} (h : CK V S P) {i : Nat} (hi : i < P.2.2.2.2.2.2.length) : P.2.2.2.2.2.2.drop i = (V 58 i, V 59 i, V 60 i, V 61 i) :: P.2.2.2.2.2.2.drop (i + 1) ∧ P.2.2.2.2.2.2[i]? = some (V 58 i, V 59 i, V 60 i, V 61 i) ∧ okR S.2.2.length (V 58 i, V 59 i, V 60 i, V 61 i) := by
  have e : P.2.2.2.2.2.2 = vw (fun j i => V (53 + 5 + j) i) (V 53 10).toNat := by rw [← h.1.1]; rfl
  have hi' : i < (V 53 10).toNat := by rw [h.1.2.2]; simpa using hi
  have hd := vw_drop (F := fun j i => V (53 + 5 + j) i) hi'
  have hg := vw_get (F := fun j i => V (53 + 5 + j) i) hi'
  rw [← e] at hd hg
  exact ⟨hd, hg, h.ok.2.2.2.2.1 _ (List.mem_of_getElem? hg)⟩
/-- a ship by its number -/
theorem CK.s {V : VV} {S : Su} {P : Pl} (h : CK V S P) {i : Nat} (hi : i < S.2.2.length) : ∃ s, S.2.2[i]? = some s ∧ okSh s ∧ V (aS (V 0 2).toNat + (2 + 2 * i)) 1 = (s.1.length : Int) ∧ V (aS (V 0 2).toNat + (2 + 2 * i)) 2 = s.2.1 ∧ V (aS (V 0 2).toNat + (2 + 2 * i)) 3 = s.2.2.1 ∧ V (aS (V 0 2).toNat + (2 + 2 * i)) 4 = s.2.2.2 ∧ ∀ (j : Nat) (c : Int), s.1[j]? = some c → V (aS (V 0 2).toNat + (2 + 2 * i) + 1) j = c := by
  have hg := List.getElem?_eq_getElem hi
  exact ⟨_, hg, h.2.2.2.1.2.2.2 _ (List.mem_of_getElem? hg), h.2.1.2.2.2 i _ hg⟩
theorem X_transitOf {V : VV} {S : Su} {P : Pl} (h : CK V S P) {x : Int} (hx : 0 ≤ x ∧ x < (S.2.2.length : Int)) : f5_transitOf V x = some (tr S P.1 x) ∧ 1 ≤ tr S P.1 x ∧ tr S P.1 x ≤ 78 := by
  obtain ⟨i, rfl⟩ : ∃ i : Nat, x = (i : Int) := ⟨x.toNat, by omega⟩
  obtain ⟨s, h1, h2, -, h4, h5, -, -⟩ := h.s (i := i) (by omega)
  obtain ⟨-, -, g1, g2, g3⟩ := h2
  have hp := h.pl
  have hs := h.su
  have hr := h.ok.rg
  have hq := h.2.2.1
  have et : tr S P.1 i = if P.1 - s.2.2.1 ≤ 0 then s.2.1 else s.2.1 + 2 * (P.1 - s.2.2.1) := by
    unfold tr
    rw [Int.toNat_natCast, h1]
  rw [et]
  refine ⟨?_, ?_, ?_⟩
  · unfold f5_transitOf
    simp (disch := omega) only [ck_t, nrm_of, bd_s, bd2_s, bd3_s, bd4_s, Int.toNat_natCast, aP0, Nat.reduceAdd, Nat.zero_add, h4, h5, hp.1]
    split <;> rfl
  · split <;> omega
  · split <;> omega
