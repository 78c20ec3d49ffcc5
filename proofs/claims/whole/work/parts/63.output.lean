/-! the output text -/
def apG (c s i : Nat) (V : VV) (n : Nat) : List Int → VV
  | [] => V
  | z :: l => apG c s i (up2 (up2 V c n z) s i ((n : Int) + 1)) (n + 1) l
theorem apG_app {c s i : Nat} {V : VV} {l l2 : List Int} : ∀ {n : Nat}, apG c s i (apG c s i V n l) (n + l.length) l2 = apG c s i V n (l ++ l2) := by
  induction l generalizing V with
  | nil => intro n; rfl
  | cons z l ih => intro n; show apG c s i (apG c s i _ (n + 1) l) (n + (l.length + 1)) l2 = apG c s i _ (n + 1) (l ++ l2); rw [← ih]; congr 1; omega
theorem apG_k {c s i : Nat} {l : List Int} : ∀ {V : VV} {n k : Nat}, k ≠ c → k ≠ s → apG c s i V n l k = V k := by
  induction l with
  | nil => intro V n k _ _; rfl
  | cons z l ih => intro V n k h1 h2; show apG c s i _ (n + 1) l k = V k; rw [ih h1 h2, up2_r h2, up2_r h1]
theorem apG_1 {c s i : Nat} (hc : c ≠ s) {l : List Int} : ∀ {V : VV} {n : Nat}, V s i = (n : Int) → apG c s i V n l s i = ((n + l.length : Nat) : Int) ∧ ∀ j, j ≠ i → apG c s i V n l s j = V s j := by
  induction l with
  | nil => intro V n h; exact ⟨h, fun _ _ => rfl⟩
  | cons z l ih =>
    intro V n h
    obtain ⟨h1, h2⟩ := ih (V := up2 (up2 V c n z) s i ((n : Int) + 1)) (n := n + 1) (by rw [up2_s]; omega)
    refine ⟨?_, fun j hj => ?_⟩
    · show apG c s i _ (n + 1) l s i = _
      rw [h1, List.length_cons]; omega
    · show apG c s i _ (n + 1) l s j = _
      rw [h2 j hj, up2_n (by omega), up2_n (by omega)]
theorem apG_2 {c s i : Nat} (hc : c ≠ s) {l : List Int} : ∀ {V : VV} {n j : Nat}, apG c s i V n l c j = if n ≤ j ∧ j < n + l.length then l.getD (j - n) 0 else V c j := by
  induction l with
  | nil => intro V n j; rw [if_neg (by simp)]; rfl
  | cons z l ih =>
    intro V n j
    show apG c s i _ (n + 1) l c j = _
    rw [ih, List.length_cons]
    by_cases e : j = n
    · subst e
      rw [if_neg (by omega), if_pos (by omega), up2_n (by omega), up2_s, Nat.sub_self]
      rfl
    · by_cases e2 : n + 1 ≤ j ∧ j < n + 1 + l.length
      · rw [if_pos e2, if_pos (by omega)]
        obtain ⟨m, hm⟩ : ∃ m, j - n = m + 1 := ⟨j - n - 1, by omega⟩
        rw [hm, List.getD_cons_succ, show j - (n + 1) = m by omega]
      · rw [if_neg e2, if_neg (by omega), up2_n (by omega), up2_n (by omega)]
/-- digits -/
def dgt (z u : Int) : Int := 48 + z / u % 10
def dg (z : Int) : List Int := if 1000 ≤ z then [dgt z 1000, dgt z 100, dgt z 10, dgt z 1] else if 100 ≤ z then [dgt z 100, dgt z 10, dgt z 1] else if 10 ≤ z then [dgt z 10, dgt z 1] else [dgt z 1]
theorem dgt_rg {z u : Int} : 48 ≤ dgt z u ∧ dgt z u ≤ 57 := by unfold dgt; omega
theorem dg_len {z : Int} : (dg z).length ≤ 4 ∧ (z ≤ 999 → (dg z).length ≤ 3) := by
  unfold dg
  split
  · exact ⟨by simp, by omega⟩
  · split
    · exact ⟨by simp, by simp⟩
    · split
      · exact ⟨by simp, by simp⟩
      · exact ⟨by simp, by simp⟩
theorem nrm_10 : nrm 10 = 10 := by decide +kernel
theorem dg_eq {z u : Int} (hz : 0 ≤ z ∧ z ≤ 9999) (hu : 1 ≤ u ∧ u ≤ 1000) : 48 + ((nrm ((nrm z).tdiv (nrm u))).tmod (nrm 10)) = dgt z u := by
  unfold dgt
  rw [nrm_of (z := z) (by omega) (by omega), nrm_of (z := u) (by omega) (by omega), nrm_10, Int.tdiv_eq_ediv_of_nonneg hz.1]
  have h1 : 0 ≤ z / u := Int.ediv_nonneg hz.1 (by omega)
  have h2 : z / u ≤ z := Int.ediv_le_self _ hz.1
  rw [nrm_of (by omega) (by omega), Int.tmod_eq_emod_of_nonneg h1]
theorem X_wB1 {W : VV} {n : Nat} {z : Int} (h : W 0 13 = (n : Int)) (hn : n < 320) (hz : 0 ≤ z ∧ z ≤ 127) : f5_writeByte W z = some (apG 75 0 13 W n [z]) := by
  have hb : wB (wB z) = z := by unfold wB; omega
  unfold f5_writeByte
  rw [h, nrm_of (by omega) (by omega), nrm_of (by omega) (by omega), if_neg (by omega), ck_t (by omega), Int.toNat_natCast, hb, up2_n (show (0 : Nat) ≠ 75 ∨ 13 ≠ n by omega), h]
  rfl
theorem X_wN {W : VV} {n : Nat} {z : Int} (h : W 0 13 = (n : Int)) (hn : n + (dg z).length ≤ 320) (hz : 0 ≤ z ∧ z ≤ 9999) : f5_writeNumber W z = some (apG 75 0 13 W n (dg z)) := by
  have stp : ∀ (m : Nat) (u : Int) (V : VV), 1 ≤ u → u ≤ 1000 → (u ≤ z ∨ u = 1) → f5_writeNumber_L4 z (m + 1) u V = bd (f5_writeByte V (dgt z u)) (fun W => f5_writeNumber_L4 z m (u / 10) W) := by
    intro m u V h1 h2 h3
    rw [f5_writeNumber_L4, dg_eq hz ⟨h1, h2⟩, nrm_10]
    rw [nrm_of (z := u) (by omega) (by omega), nrm_of (z := z) (by omega) (by omega), if_neg (by omega)]
    by_cases c : u ≤ z
    · rw [if_pos c, ck_t (show 0 < u by omega), ck_t (show (0 : Int) < 10 by omega), Int.tdiv_eq_ediv_of_nonneg (show 0 ≤ u by omega)]
    · rw [if_neg c, if_pos (by rw [nrm_of (by omega) (by omega)]; omega), ck_t (show 0 < u by omega), ck_t (show (0 : Int) < 10 by omega), Int.tdiv_eq_ediv_of_nonneg (show 0 ≤ u by omega)]
  have skp : ∀ (m : Nat) (u : Int) (V : VV), 2 ≤ u → u ≤ 1000 → ¬ u ≤ z → f5_writeNumber_L4 z (m + 1) u V = f5_writeNumber_L4 z m (u / 10) V := by
    intro m u V h1 h2 h3
    rw [f5_writeNumber_L4, nrm_10]
    rw [nrm_of (z := u) (by omega) (by omega), nrm_of (z := z) (by omega) (by omega), if_neg (by omega), if_neg h3, if_neg (by rw [nrm_of (by omega) (by omega)]; omega), ck_t (show (0 : Int) < 10 by omega), Int.tdiv_eq_ediv_of_nonneg (show 0 ≤ u by omega)]
  have nil : ∀ (m : Nat) (V : VV), f5_writeNumber_L4 z (m + 1) 0 V = some V := fun m V => by
    rw [f5_writeNumber_L4, if_pos (by decide +kernel)]
  have lw : ∀ (u : Int) (l : List Int), n + l.length < 320 → f5_writeByte (apG 75 0 13 W n l) (dgt z u) = some (apG 75 0 13 W n (l ++ [dgt z u])) := fun u l hl => by
    have := dgt_rg (z := z) (u := u)
    rw [X_wB1 (apG_1 (by decide) h).1 (by omega) (by omega), apG_app]
  have lw0 : ∀ (u : Int), n < 320 → f5_writeByte W (dgt z u) = some (apG 75 0 13 W n [dgt z u]) := fun u hl => lw u [] hl
  unfold f5_writeNumber
  rw [show FU = 4995 + 1 + 1 + 1 + 1 + 1 from rfl]
  unfold dg at hn ⊢
  by_cases c1 : 1000 ≤ z
  · rw [if_pos c1] at hn ⊢
    simp only [List.length_cons, List.length_nil] at hn
    rw [stp _ 1000 _ (by omega) (by omega) (by omega), lw0 _ (by omega), bd_s, show (1000 : Int) / 10 = 100 from rfl, stp _ 100 _ (by omega) (by omega) (by omega), lw _ _ (by simp only [List.length_cons, List.length_nil]; omega), bd_s, show (100 : Int) / 10 = 10 from rfl, stp _ 10 _ (by omega) (by omega) (by omega), lw _ _ (by simp only [List.length_append, List.length_cons, List.length_nil]; omega), bd_s, show (10 : Int) / 10 = 1 from rfl, stp _ 1 _ (by omega) (by omega) (by omega), lw _ _ (by simp only [List.length_append, List.length_cons, List.length_nil]; omega), bd_s, show (1 : Int) / 10 = 0 from rfl, nil]
    rfl
  · rw [if_neg c1] at hn ⊢
    rw [skp _ 1000 _ (by omega) (by omega) c1, show (1000 : Int) / 10 = 100 from rfl]
    by_cases c2 : 100 ≤ z
    · rw [if_pos c2] at hn ⊢
      simp only [List.length_cons, List.length_nil] at hn
      rw [stp _ 100 _ (by omega) (by omega) (by omega), lw0 _ (by omega), bd_s, show (100 : Int) / 10 = 10 from rfl, stp _ 10 _ (by omega) (by omega) (by omega), lw _ _ (by simp only [List.length_cons, List.length_nil]; omega), bd_s, show (10 : Int) / 10 = 1 from rfl, stp _ 1 _ (by omega) (by omega) (by omega), lw _ _ (by simp only [List.length_append, List.length_cons, List.length_nil]; omega), bd_s, show (1 : Int) / 10 = 0 from rfl, nil]
      rfl
    · rw [if_neg c2] at hn ⊢
      rw [skp _ 100 _ (by omega) (by omega) c2, show (100 : Int) / 10 = 10 from rfl]
      by_cases c3 : 10 ≤ z
      · rw [if_pos c3] at hn ⊢
        simp only [List.length_cons, List.length_nil] at hn
        rw [stp _ 10 _ (by omega) (by omega) (by omega), lw0 _ (by omega), bd_s, show (10 : Int) / 10 = 1 from rfl, stp _ 1 _ (by omega) (by omega) (by omega), lw _ _ (by simp only [List.length_cons, List.length_nil]; omega), bd_s, show (1 : Int) / 10 = 0 from rfl, nil]
        rfl
      · rw [if_neg c3] at hn ⊢
        simp only [List.length_cons, List.length_nil] at hn
        rw [skp _ 10 _ (by omega) (by omega) c3, show (10 : Int) / 10 = 1 from rfl, stp _ 1 _ (by omega) (by omega) (by omega), lw0 _ (by omega), bd_s, show (1 : Int) / 10 = 0 from rfl, nil]
        rfl
theorem M_put {W : VV} {n : Nat} {z : Int} (h : W 148 8 = (n : Int)) (hn : n < 360) : f6_put W z = some (apG 152 148 8 W n [z]) := by
  unfold f6_put
  rw [h, ck_t (by omega), Int.toNat_natCast, up2_n (show (148 : Nat) ≠ 152 ∨ 8 ≠ n by omega), h]
  rfl
theorem M_wN {W : VV} {n : Nat} {z : Int} (h : W 148 8 = (n : Int)) (hn : n + (dg z).length ≤ 320) (hz : 0 ≤ z ∧ z ≤ 9999) : f6_putNumber W z = some (apG 152 148 8 W n (dg z)) := by
  have stp : ∀ (m : Nat) (u : Int) (V : VV), 1 ≤ u → u ≤ 1000 → f6_putNumber_L18 z (m + 1) u V = bd (f6_put V (dgt z u)) (fun W => f6_putNumber_L18 z m (u / 10) W) := by
    intro m u V h1 h2
    rw [f6_putNumber_L18, dg_eq hz ⟨h1, h2⟩, nrm_10]
    rw [nrm_of (z := u) (by omega) (by omega), if_neg (by omega), ck_t (show 0 < u by omega), ck_t (show (0 : Int) < 10 by omega), Int.tdiv_eq_ediv_of_nonneg (show 0 ≤ u by omega)]
  have nil : ∀ (m : Nat) (V : VV), f6_putNumber_L18 z (m + 1) 0 V = some V := fun m V => by
    rw [f6_putNumber_L18, if_pos (by decide +kernel)]
  have up : ∀ (m : Nat) (u : Int), 1 ≤ u → u ≤ 1000 → f6_putNumber_L2 W z (m + 1) u = if z / u < 10 then some u else f6_putNumber_L2 W z m (u * 10) := by
    intro m u h1 h2
    rw [f6_putNumber_L2, nrm_10, nrm_of (z := u) (by omega) (by omega), nrm_of (z := z) (by omega) (by omega), ck_t (by omega), Int.tdiv_eq_ediv_of_nonneg hz.1]
    have h3 : 0 ≤ z / u := Int.ediv_nonneg hz.1 (by omega)
    have h4 : z / u ≤ z := Int.ediv_le_self _ hz.1
    rw [nrm_of (by omega) (by omega)]
  have lw : ∀ (u : Int) (l : List Int), n + l.length < 320 → f6_put (apG 152 148 8 W n l) (dgt z u) = some (apG 152 148 8 W n (l ++ [dgt z u])) := fun u l hl => by
    rw [M_put (apG_1 (by decide) h).1 (by omega), apG_app]
  have lw0 : ∀ (u : Int), n < 320 → f6_put W (dgt z u) = some (apG 152 148 8 W n [dgt z u]) := fun u hl => lw u [] hl
  unfold f6_putNumber
  rw [show FU = 4995 + 1 + 1 + 1 + 1 + 1 from rfl, up _ 1 (by omega) (by omega)]
  unfold dg at hn ⊢
  by_cases c3 : 10 ≤ z
  · rw [if_neg (by omega), show (1 : Int) * 10 = 10 from rfl, up _ 10 (by omega) (by omega)]
    by_cases c2 : 100 ≤ z
    · rw [if_neg (by omega), show (10 : Int) * 10 = 100 from rfl, up _ 100 (by omega) (by omega)]
      by_cases c1 : 1000 ≤ z
      · rw [if_neg (by omega), show (100 : Int) * 10 = 1000 from rfl, up _ 1000 (by omega) (by omega), if_pos (by omega), bd_s]
        rw [if_pos c1] at hn ⊢
        simp only [List.length_cons, List.length_nil] at hn
        rw [stp _ 1000 _ (by omega) (by omega), lw0 _ (by omega), bd_s, show (1000 : Int) / 10 = 100 from rfl, stp _ 100 _ (by omega) (by omega), lw _ _ (by simp only [List.length_cons, List.length_nil]; omega), bd_s, show (100 : Int) / 10 = 10 from rfl, stp _ 10 _ (by omega) (by omega), lw _ _ (by simp only [List.length_append, List.length_cons, List.length_nil]; omega), bd_s, show (10 : Int) / 10 = 1 from rfl, stp _ 1 _ (by omega) (by omega), lw _ _ (by simp only [List.length_append, List.length_cons, List.length_nil]; omega), bd_s, show (1 : Int) / 10 = 0 from rfl, nil]
        rfl
      · rw [if_pos (by omega), bd_s]
        rw [if_neg c1, if_pos c2] at hn ⊢
        simp only [List.length_cons, List.length_nil] at hn
        rw [stp _ 100 _ (by omega) (by omega), lw0 _ (by omega), bd_s, show (100 : Int) / 10 = 10 from rfl, stp _ 10 _ (by omega) (by omega), lw _ _ (by simp only [List.length_cons, List.length_nil]; omega), bd_s, show (10 : Int) / 10 = 1 from rfl, stp _ 1 _ (by omega) (by omega), lw _ _ (by simp only [List.length_append, List.length_cons, List.length_nil]; omega), bd_s, show (1 : Int) / 10 = 0 from rfl, nil]
        rfl
    · rw [if_pos (by omega), bd_s]
      rw [if_neg (by omega), if_neg c2, if_pos c3] at hn ⊢
      simp only [List.length_cons, List.length_nil] at hn
      rw [stp _ 10 _ (by omega) (by omega), lw0 _ (by omega), bd_s, show (10 : Int) / 10 = 1 from rfl, stp _ 1 _ (by omega) (by omega), lw _ _ (by simp only [List.length_cons, List.length_nil]; omega), bd_s, show (1 : Int) / 10 = 0 from rfl, nil]
      rfl
  · rw [if_pos (by omega), bd_s]
    rw [if_neg (by omega), if_neg (by omega), if_neg c3] at hn ⊢
    simp only [List.length_cons, List.length_nil] at hn
    rw [stp _ 1 _ (by omega) (by omega), lw0 _ (by omega), bd_s, show (1 : Int) / 10 = 0 from rfl, nil]
    rfl
/-- the schedule's text -/
def nm (S : Su) (x : Int) : List Int := match S.2.2[x.toNat]? with
  | some s => s.1
  | none => []
def pre (f : Bool) : List Int := if f = true then [] else [32]
def itm (S : Su) (f : Bool) (b : Bk) : List Int := pre f ++ nm S b.1 ++ [if b.2.1 = 0 then 60 else 62] ++ dg b.2.2.1 ++ [45] ++ dg b.2.2.2
def txt (S : Su) : Bool → List Bk → List Int
  | _, [] => []
  | f, b :: l => itm S f b ++ txt S false l
theorem X_name {V W : VV} {S : Su} {P : Pl} (h : CK V S P) {x : Nat} {z : Int} (hx : x < S.2.2.length) (hW : ∀ k, k ≠ 0 → k ≠ 75 → W k = V k) {n : Nat} (hn : W 0 13 = (n : Int)) (hn2 : n + 6 ≤ 320) : f5_writeSchedule_L48 z (V 0 2).toNat x FU 0 W = some (apG 75 0 13 W n (nm S (x : Int))) := by
  obtain ⟨s, e1, e2, k1, k2, k3, k4, k5⟩ := h.s hx
  have hq := h.2.2.1
  have hsu := h.su
  have ha : ∀ j, aS (V 0 2).toNat + j ≠ 0 := fun j => by unfold aS; omega
  have hsl := e2.1
  have key : ∀ (k m j : Nat), k + 1 ≤ m → s.1.length = j + k → f5_writeSchedule_L48 z (V 0 2).toNat x m (j : Int) (apG 75 0 13 W n (s.1.take j)) = some (apG 75 0 13 W n s.1) := by
    intro k
    induction k with
    | zero =>
      intro m j hm hl
      obtain ⟨m, rfl⟩ : ∃ q, m = q + 1 := ⟨m - 1, by omega⟩
      rw [f5_writeSchedule_L48, apG_k (by unfold aS; omega) (ha _), hW _ (ha _) (by unfold aS; omega), k1, nrm_of (by omega) (by omega), nrm_of (by omega) (by omega), if_pos (by omega), List.take_of_length_le (by omega)]
    | succ k ih =>
      intro m j hm hl
      obtain ⟨m, rfl⟩ : ∃ q, m = q + 1 := ⟨m - 1, by omega⟩
      have hj : j < s.1.length := by omega
      have hg := List.getElem?_eq_getElem hj
      have hI := ih m (j + 1) (by omega) (by omega)
      rw [Int.natCast_add, Int.natCast_one] at hI
      have hc := e2.2.1 _ (List.getElem_mem hj)
      rw [f5_writeSchedule_L48, apG_k (by unfold aS; omega) (ha _), hW _ (ha _) (by unfold aS; omega), k1, nrm_of (by omega) (by omega), nrm_of (by omega) (by omega), if_neg (by omega), ck_t (by omega), Int.toNat_natCast, apG_k (by unfold aS; omega) (by unfold aS; omega), hW _ (by unfold aS; omega) (by unfold aS; omega), k5 j _ hg, X_wB1 (apG_1 (by decide) hn).1 (by rw [List.length_take]; omega) (by omega), bd_s, apG_app, List.take_append_getElem, hI]
  have h0 := key s.1.length FU 0 (by have := FU_ge; omega) (by omega)
  rw [nc0, List.take_zero] at h0
  have hnm : nm S (x : Int) = s.1 := by unfold nm; rw [Int.toNat_natCast, e1]
  rw [hnm]
  exact h0
theorem M_name {W : VV} {S : Su} {P : Pl} (h : MK W S P) {x : Nat} {z : Int} (hx : x < S.2.2.length) {n : Nat} (hn : W 148 8 = (n : Int)) (hn2 : n + 6 ≤ 320) : f6_writeSchedule_L41 z (x : Int) FU 0 W = some (apG 152 148 8 W n (nm S (x : Int))) := by
  obtain ⟨s, e1, e2, k1, k2, k3, k4, k5⟩ := h.s hx
  have hsu := h.su
  have hsl := e2.1
  have key : ∀ (k m j : Nat), k + 1 ≤ m → s.1.length = j + k → f6_writeSchedule_L41 z (x : Int) m (j : Int) (apG 152 148 8 W n (s.1.take j)) = some (apG 152 148 8 W n s.1) := by
    intro k
    induction k with
    | zero =>
      intro m j hm hl
      obtain ⟨m, rfl⟩ : ∃ q, m = q + 1 := ⟨m - 1, by omega⟩
      rw [f6_writeSchedule_L41, M_ofShip (i := x) (y := 0) (j := 0) rfl rfl (by omega) (by omega), bd_s, apG_k (by omega) (by omega), Nat.add_zero, k1, nrm_of (by omega) (by omega), nrm_of (by omega) (by omega), if_pos (by omega), List.take_of_length_le (by omega)]
    | succ k ih =>
      intro m j hm hl
      obtain ⟨m, rfl⟩ : ∃ q, m = q + 1 := ⟨m - 1, by omega⟩
      have hj : j < s.1.length := by omega
      have hg := List.getElem?_eq_getElem hj
      have hI := ih m (j + 1) (by omega) (by omega)
      rw [Int.natCast_add, Int.natCast_one] at hI
      rw [f6_writeSchedule_L41, M_ofShip (i := x) (y := 0) (j := 0) rfl rfl (by omega) (by omega), bd_s, apG_k (by omega) (by omega), Nat.add_zero, k1, nrm_of (by omega) (by omega), nrm_of (by omega) (by omega), if_neg (by omega), M_ofShip (i := x) (y := 1 + (j : Int)) (j := 1 + j) rfl (by omega) (by omega) (by omega), bd_s, apG_k (by omega) (by omega), ← Nat.add_assoc, k5 j _ hg, M_put (apG_1 (by decide) hn).1 (by rw [List.length_take]; omega), bd_s, apG_app, List.take_append_getElem, hI]
  have h0 := key s.1.length FU 0 (by have := FU_ge; omega) (by omega)
  rw [nc0, List.take_zero] at h0
  have hnm : nm S (x : Int) = s.1 := by unfold nm; rw [Int.toNat_natCast, e1]
  rw [hnm]
  exact h0
theorem nm_len {S : Su} (hS : okS S) (x : Int) : (nm S x).length ≤ 6 := by
  unfold nm
  split
  · rename_i s hs
    exact (hS.2.2.2 s (List.mem_of_getElem? hs)).1.2
  · simp
theorem itm_len {S : Su} (hS : okS S) {f : Bool} {b : Bk} (hb : b.2.2.1 ≤ 999) : (itm S f b).length ≤ 16 := by
  have h1 := nm_len hS b.1
  have h2 := (dg_len (z := b.2.2.1)).2 hb
  have h3 := (dg_len (z := b.2.2.2)).1
  have h4 : (pre f).length ≤ 1 := by unfold pre; split <;> simp
  unfold itm
  simp only [List.length_append, List.length_cons, List.length_nil]
  omega
theorem X_wsL {V : VV} {S : Su} {P : Pl} (h : CK V S P) : ∀ (k m i : Nat) (W : VV) (n : Nat), k + 1 ≤ m → P.2.2.2.2.2.1.length = i + k → (∀ k, k ≠ 0 → k ≠ 75 → W k = V k) → (∀ j, j ≠ 13 → W 0 j = V 0 j) → W 0 13 = (n : Int) → n ≤ 16 * i → f5_writeSchedule_L7 m (i : Int) W = some (apG 75 0 13 W n (txt S (decide (i = 0)) (P.2.2.2.2.2.1.drop i))) ∧ n + (txt S (decide (i = 0)) (P.2.2.2.2.2.1.drop i)).length ≤ 320 := by
  have hr := h.ok.rg
  have hS := h.2.2.2.1
  have hq := h.2.2.1
  intro k
  induction k with
  | zero =>
    intro m i W n hm hl hW hW0 hn hn2
    obtain ⟨m, rfl⟩ : ∃ q, m = q + 1 := ⟨m - 1, by omega⟩
    rw [List.drop_eq_nil_of_le (by omega), txt]
    refine ⟨?_, by simp; omega⟩
    rw [f5_writeSchedule_L7, aP0, hW 53 (by omega) (by omega), h.pl.2.2.2.2.2.1, nrm_of (by omega) (by omega), nrm_of (by omega) (by omega), if_pos (by omega)]
    rfl
  | succ k ih =>
    intro m i W n hm hl hW hW0 hn hn2
    obtain ⟨m, rfl⟩ : ∃ q, m = q + 1 := ⟨m - 1, by omega⟩
    have hi : i < P.2.2.2.2.2.1.length := by omega
    obtain ⟨b1, b2, b3⟩ := h.b hi
    obtain ⟨u1, u2, u3, u4, u5, u6, u7⟩ := b3
    simp only at u1 u2 u3 u4 u5 u6 u7
    obtain ⟨x, hx⟩ : ∃ x : Nat, V 54 i = (x : Int) := ⟨(V 54 i).toNat, by omega⟩
    have hxl : x < S.2.2.length := by omega
    have hnm := nm_len hS (x : Int)
    have hsu := h.su
    have hil := itm_len hS (f := decide (i = 0)) (b := (V 54 i, V 55 i, V 56 i, V 57 i)) u5
    have hpl : (pre (decide (i = 0))).length ≤ 1 := by unfold pre; split <;> simp
    have hd1 := (dg_len (z := V 56 i)).2 u5
    have hd2 := (dg_len (z := V 57 i)).1
    obtain ⟨l0, e0⟩ : ∃ l, l = pre (decide (i = 0)) := ⟨_, rfl⟩
    obtain ⟨l1, e1⟩ : ∃ l, l = l0 ++ nm S (x : Int) := ⟨_, rfl⟩
    obtain ⟨l2, e2⟩ : ∃ l, l = l1 ++ [if V 55 i = 0 then (60 : Int) else 62] := ⟨_, rfl⟩
    obtain ⟨l3, e3⟩ : ∃ l, l = l2 ++ dg (V 56 i) := ⟨_, rfl⟩
    obtain ⟨l4, e4⟩ : ∃ l, l = l3 ++ [(45 : Int)] := ⟨_, rfl⟩
    obtain ⟨l5, e5⟩ : ∃ l, l = l4 ++ dg (V 57 i) := ⟨_, rfl⟩
    have hl0 : l0.length ≤ 1 := by rw [e0]; exact hpl
    have hl1 : l1.length = l0.length + (nm S (x : Int)).length := by rw [e1, List.length_append]
    have hl2 : l2.length = l1.length + 1 := by rw [e2, List.length_append]; rfl
    have hl3 : l3.length = l2.length + (dg (V 56 i)).length := by rw [e3, List.length_append]
    have hl4 : l4.length = l3.length + 1 := by rw [e4, List.length_append]; rfl
    have hl5 : l5.length = l4.length + (dg (V 57 i)).length := by rw [e5, List.length_append]
    have hitm : itm S (decide (i = 0)) (V 54 i, V 55 i, V 56 i, V 57 i) = l5 := by
      rw [e5, e4, e3, e2, e1, e0]; unfold itm; rw [hx]
    rw [hitm] at hil
    have ag : ∀ (l : List Int) (k : Nat), k ≠ 0 → k ≠ 75 → apG 75 0 13 W n l k = V k := fun l k k1 k2 => by rw [apG_k k2 k1, hW k k1 k2]
    have ag0 : ∀ (l : List Int) (j : Nat), j ≠ 13 → apG 75 0 13 W n l 0 j = V 0 j := fun l j hj => by rw [(apG_1 (by decide) hn).2 j hj, hW0 j hj]
    have ct : ∀ l : List Int, apG 75 0 13 W n l 0 13 = ((n + l.length : Nat) : Int) := fun l => (apG_1 (by decide) hn).1
    have s0 : (if nrm (i : Int) ≤ 0 then some W else bd (f5_writeByte W 32) (fun W4 => some W4)) = some (apG 75 0 13 W n l0) := by
      rw [nrm_of (by omega) (by omega), e0]
      unfold pre
      by_cases c : i = 0
      · rw [if_pos (by omega), if_pos (by simp [c])]; rfl
      · rw [if_neg (by omega), if_neg (by simp [c]), X_wB1 hn (by omega) (by omega)]; rfl
    have s1 : f5_writeSchedule_L48 (i : Int) (V 0 2).toNat x FU 0 (apG 75 0 13 W n l0) = some (apG 75 0 13 W n l1) := by
      rw [X_name h hxl (ag l0) (ct l0) (by omega), apG_app, e1]
    have hdir : (if nrm (apG 75 0 13 W n l1 55 i) = 0 then some (60 : Int) else some 62) = some (if V 55 i = 0 then 60 else 62) := by
      rw [ag l1 55 (by omega) (by omega), nrm_of (by omega) (by omega)]
      split <;> rfl
    have s2 : f5_writeByte (apG 75 0 13 W n l1) (if V 55 i = 0 then 60 else 62) = some (apG 75 0 13 W n l2) := by
      rw [X_wB1 (ct l1) (by omega) (by split <;> omega), apG_app, e2]
    have s3 : f5_writeNumber (apG 75 0 13 W n l2) (V 56 i) = some (apG 75 0 13 W n l3) := by
      rw [X_wN (ct l2) (by omega) (by omega), apG_app, e3]
    have s4 : f5_writeByte (apG 75 0 13 W n l3) 45 = some (apG 75 0 13 W n l4) := by
      rw [X_wB1 (ct l3) (by omega) (by omega), apG_app, e4]
    have s5 : f5_writeNumber (apG 75 0 13 W n l4) (V 57 i) = some (apG 75 0 13 W n l5) := by
      rw [X_wN (ct l4) (by omega) (by omega), apG_app, e5]
    have hI := ih m (i + 1) (apG 75 0 13 W n l5) (n + l5.length) (by omega) (by omega) (ag l5) (ag0 l5) (ct l5) (by omega)
    rw [Int.natCast_add, Int.natCast_one, apG_app, show decide (i + 1 = 0) = false by simp] at hI
    rw [b1, txt, hitm]
    refine ⟨?_, by rw [List.length_append]; omega⟩
    rw [f5_writeSchedule_L7, aP0, hW 53 (by omega) (by omega), h.pl.2.2.2.2.2.1, nrm_of (z := (P.2.2.2.2.2.1.length : Int)) (by omega) (by omega)]
    rw [if_neg (by rw [nrm_of (by omega) (by omega)]; omega), s0]
    simp only [bd_q, Nat.reduceAdd, Int.toNat_natCast]
    rw [ag0 l0 2 (by omega), ck_t hq, ck_t (by omega), ag l0 54 (by omega) (by omega), ck_t (show (0 : Int) ≤ V 54 i ∧ V 54 i < 10 by omega), hx, Int.toNat_natCast, s1]
    simp only [bd_q]
    rw [hdir]
    simp only [bd_q]
    rw [s2]
    simp only [bd_q]
    rw [ag l2 56 (by omega) (by omega), s3]
    simp only [bd_q]
    rw [s4]
    simp only [bd_q]
    rw [ag l4 57 (by omega) (by omega), s5]
    simp only [bd_q]
    exact hI.1
theorem M_wsL {V : VV} {S : Su} {P : Pl} (h : MK V S P) : ∀ (k m i : Nat) (W : VV) (n : Nat), k + 1 ≤ m → P.2.2.2.2.2.1.length = i + k → (∀ k, k ≠ 148 → k ≠ 152 → W k = V k) → W 148 8 = (n : Int) → n ≤ 16 * i → f6_writeSchedule_L12 m (i : Int) W = some (apG 152 148 8 W n (txt S (decide (i = 0)) (P.2.2.2.2.2.1.drop i))) := by
  have hr := h.ok.rg
  have hS := h.2.2.1
  intro k
  induction k with
  | zero =>
    intro m i W n hm hl hW hn hn2
    obtain ⟨m, rfl⟩ : ∃ q, m = q + 1 := ⟨m - 1, by omega⟩
    rw [List.drop_eq_nil_of_le (by omega), txt]
    rw [f6_writeSchedule_L12, hW 149 (by omega) (by omega), h.pl.2.2.2.2.2.1, nrm_of (by omega) (by omega), nrm_of (by omega) (by omega), if_pos (by omega)]
    rfl
  | succ k ih =>
    intro m i W n hm hl hW hn hn2
    obtain ⟨m, rfl⟩ : ∃ q, m = q + 1 := ⟨m - 1, by omega⟩
    have hi : i < P.2.2.2.2.2.1.length := by omega
    obtain ⟨b1, b2, b3⟩ := h.b hi
    obtain ⟨B0, f0⟩ : ∃ z, z = V 149 (110 + 4 * i) := ⟨_, rfl⟩
    obtain ⟨B1, f1⟩ : ∃ z, z = V 149 (110 + 4 * i + 1) := ⟨_, rfl⟩
    obtain ⟨B2, f2⟩ : ∃ z, z = V 149 (110 + 4 * i + 2) := ⟨_, rfl⟩
    obtain ⟨B3, f3⟩ : ∃ z, z = V 149 (110 + 4 * i + 3) := ⟨_, rfl⟩
    rw [← f0, ← f1, ← f2, ← f3] at b1 b3
    obtain ⟨u1, u2, u3, u4, u5, u6, u7⟩ := b3
    simp only at u1 u2 u3 u4 u5 u6 u7
    obtain ⟨x, hx⟩ : ∃ x : Nat, B0 = (x : Int) := ⟨B0.toNat, by omega⟩
    have hxl : x < S.2.2.length := by omega
    have hnm := nm_len hS (x : Int)
    have hsu := h.su
    have hil := itm_len hS (f := decide (i = 0)) (b := (B0, B1, B2, B3)) u5
    have hpl : (pre (decide (i = 0))).length ≤ 1 := by unfold pre; split <;> simp
    have hd1 := (dg_len (z := B2)).2 u5
    have hd2 := (dg_len (z := B3)).1
    obtain ⟨l0, e0⟩ : ∃ l, l = pre (decide (i = 0)) := ⟨_, rfl⟩
    obtain ⟨l1, e1⟩ : ∃ l, l = l0 ++ nm S (x : Int) := ⟨_, rfl⟩
    obtain ⟨l2, e2⟩ : ∃ l, l = l1 ++ [if B1 = 0 then (60 : Int) else 62] := ⟨_, rfl⟩
    obtain ⟨l3, e3⟩ : ∃ l, l = l2 ++ dg B2 := ⟨_, rfl⟩
    obtain ⟨l4, e4⟩ : ∃ l, l = l3 ++ [(45 : Int)] := ⟨_, rfl⟩
    obtain ⟨l5, e5⟩ : ∃ l, l = l4 ++ dg B3 := ⟨_, rfl⟩
    have hl0 : l0.length ≤ 1 := by rw [e0]; exact hpl
    have hl1 : l1.length = l0.length + (nm S (x : Int)).length := by rw [e1, List.length_append]
    have hl2 : l2.length = l1.length + 1 := by rw [e2, List.length_append]; rfl
    have hl3 : l3.length = l2.length + (dg B2).length := by rw [e3, List.length_append]
    have hl4 : l4.length = l3.length + 1 := by rw [e4, List.length_append]; rfl
    have hl5 : l5.length = l4.length + (dg B3).length := by rw [e5, List.length_append]
    have hitm : itm S (decide (i = 0)) (B0, B1, B2, B3) = l5 := by
      rw [e5, e4, e3, e2, e1, e0]; unfold itm; rw [hx]
    rw [hitm] at hil
    have ag : ∀ (l : List Int) (k : Nat), k ≠ 148 → k ≠ 152 → apG 152 148 8 W n l k = V k := fun l k k1 k2 => by rw [apG_k k2 k1, hW k k1 k2]
    have agm : ∀ l : List Int, MK (apG 152 148 8 W n l) S P := fun l => h.of (ag l 149 (by omega) (by omega))
    have ct : ∀ l : List Int, apG 152 148 8 W n l 148 8 = ((n + l.length : Nat) : Int) := fun l => (apG_1 (by decide) hn).1
    have rd : ∀ (l : List Int) (j : Nat) (y : Int), y = (j : Int) → j < 4 → f6_ofBooking (apG 152 148 8 W n l) (i : Int) y = some (V 149 (110 + 4 * i + j)) := fun l j y hy hj => by
      rw [M_ofBooking (i := i) (j := j) rfl hy (by omega) hj, ag l 149 (by omega) (by omega)]
    have s0 : (if nrm (i : Int) ≤ 0 then some W else bd (f6_put W 32) (fun W4 => some W4)) = some (apG 152 148 8 W n l0) := by
      rw [nrm_of (by omega) (by omega), e0]
      unfold pre
      by_cases c : i = 0
      · rw [if_pos (by omega), if_pos (by simp [c])]; rfl
      · rw [if_neg (by omega), if_neg (by simp [c]), M_put hn (by omega)]; rfl
    have s1 : f6_writeSchedule_L41 (i : Int) (x : Int) FU 0 (apG 152 148 8 W n l0) = some (apG 152 148 8 W n l1) := by
      rw [M_name (agm l0) hxl (ct l0) (by omega), apG_app, e1]
    have hdir : (if nrm B1 = nrm 1 then some (62 : Int) else some 60) = some (if B1 = 0 then 60 else 62) := by
      rcases u3 with q | q <;> rw [q] <;> decide +kernel
    have s2 : f6_put (apG 152 148 8 W n l1) (if B1 = 0 then 60 else 62) = some (apG 152 148 8 W n l2) := by
      rw [M_put (ct l1) (by omega), apG_app, e2]
    have s3 : f6_putNumber (apG 152 148 8 W n l2) B2 = some (apG 152 148 8 W n l3) := by
      rw [M_wN (ct l2) (by omega) (by omega), apG_app, e3]
    have s4 : f6_put (apG 152 148 8 W n l3) 45 = some (apG 152 148 8 W n l4) := by
      rw [M_put (ct l3) (by omega), apG_app, e4]
    have s5 : f6_putNumber (apG 152 148 8 W n l4) B3 = some (apG 152 148 8 W n l5) := by
      rw [M_wN (ct l4) (by omega) (by omega), apG_app, e5]
    have hI := ih m (i + 1) (apG 152 148 8 W n l5) (n + l5.length) (by omega) (by omega) (ag l5) (ct l5) (by omega)
    rw [Int.natCast_add, Int.natCast_one, apG_app, show decide (i + 1 = 0) = false by simp] at hI
    rw [b1, txt, hitm]
    rw [f6_writeSchedule_L12, hW 149 (by omega) (by omega), h.pl.2.2.2.2.2.1, nrm_of (z := (P.2.2.2.2.2.1.length : Int)) (by omega) (by omega)]
    rw [if_neg (by rw [nrm_of (by omega) (by omega)]; omega), s0]
    simp only [bd_q]
    rw [rd l0 0 0 rfl (by omega)]
    simp only [bd_q, Nat.add_zero]
    rw [← f0, hx, s1]
    simp only [bd_q]
    rw [rd l1 1 1 rfl (by omega)]
    simp only [bd_q]
    rw [← f1, hdir]
    simp only [bd_q]
    rw [s2]
    simp only [bd_q]
    rw [rd l2 2 2 rfl (by omega)]
    simp only [bd_q]
    rw [← f2, s3]
    simp only [bd_q]
    rw [s4]
    simp only [bd_q]
    rw [rd l4 3 3 rfl (by omega)]
    simp only [bd_q]
    rw [← f3, s5]
    simp only [bd_q]
    exact hI
theorem op_writeSchedule : Op2 (fun V => f5_writeSchedule V) (fun V => f6_writeSchedule V) := by
  intro V S P h
  have hr := h.ck.ok.rg
  obtain ⟨T, eT⟩ : ∃ T, T = txt S true P.2.2.2.2.2.1 := ⟨_, rfl⟩
  obtain ⟨x1, x2⟩ := X_wsL h.ck P.2.2.2.2.2.1.length FU 0 (up2 V 0 13 0) 0 (by have := FU_ge; omega) (by omega) (fun k k1 k2 => up2_r k1) (fun j hj => up2_n (by omega)) (by rw [up2_s]; rfl) (by omega)
  rw [nc0, List.drop_zero, show decide (0 = 0) = true from rfl, ← eT] at x1
  rw [List.drop_zero, show decide (0 = 0) = true from rfl, ← eT] at x2
  obtain ⟨V1, eV1⟩ : ∃ V1, V1 = apG 75 0 13 (up2 V 0 13 0) 0 T := ⟨_, rfl⟩
  rw [← eV1] at x1
  have a1 := apG_1 (c := 75) (s := 0) (i := 13) (by decide) (l := T) (V := up2 V 0 13 0) (n := 0) (by rw [up2_s]; rfl)
  rw [← eV1] at a1
  have ak : ∀ k, k ≠ 0 → k ≠ 75 → V1 k = V k := fun k k1 k2 => by rw [eV1, apG_k k2 k1, up2_r k1]
  have m1 := M_wsL (h.mk.of (ak 149 (by omega) (by omega))) P.2.2.2.2.2.1.length FU 0 (up2 (up2 V1 148 9 0) 148 8 0) 0 (by have := FU_ge; omega) (by omega) (fun k k1 k2 => by rw [up2_r k1, up2_r k1]) (by rw [up2_s]; rfl) (by omega)
  rw [nc0, List.drop_zero, show decide (0 = 0) = true from rfl, ← eT] at m1
  obtain ⟨V2, eV2⟩ : ∃ V2, V2 = apG 152 148 8 (up2 (up2 V1 148 9 0) 148 8 0) 0 T := ⟨_, rfl⟩
  rw [← eV2] at m1
  have b1 := apG_1 (c := 152) (s := 148) (i := 8) (by decide) (l := T) (V := up2 (up2 V1 148 9 0) 148 8 0) (n := 0) (by rw [up2_s]; rfl)
  rw [← eV2] at b1
  have bk : ∀ k, k ≠ 148 → k ≠ 152 → V2 k = V1 k := fun k k1 k2 => by rw [eV2, apG_k k2 k1, up2_r k1, up2_r k1]
  have b148 : ∀ i, i ≠ 8 → i ≠ 9 → V2 148 i = V 148 i := fun i i1 i2 => by rw [b1.2 i i1, up2_n (by omega), up2_n (by omega), ak 148 (by omega) (by omega)]
  have c0 : ∀ j, j ≠ 13 → V2 0 j = V 0 j := fun j hj => by rw [bk 0 (by omega) (by omega), a1.2 j hj, up2_n (by omega)]
  have cV : ∀ k, k ≠ 0 → k ≠ 75 → k ≠ 148 → k ≠ 152 → V2 k = V k := fun k k0 k1 k2 k3 => by rw [bk k k2 k3, ak k k0 k1]
  have hS := h.ck.2.2.2.1
  refine ⟨(T.length : Int), V1, V2, ?_, ?_, S, P, ?_⟩
  · show f5_writeSchedule V = _
    unfold f5_writeSchedule
    rw [x1, bd_s, a1.1, Nat.zero_add]
  · show f6_writeSchedule V1 = _
    unfold f6_writeSchedule
    rw [m1, bd_s, b1.1, Nat.zero_add]
  · refine ⟨h.ck.of (c0 2 (by omega)) (fun k k1 k2 => cV k (by omega) (by omega) (by omega) (by omega)), h.mk.of (cV 149 (by omega) (by omega) (by omega) (by omega)), by rw [c0 2 (by omega), c0 3 (by omega)]; exact h.2.2.1, ?_, ?_, ?_, ?_⟩
    · exact h.2.2.2.1.of hS (c0 7 (by omega)) (c0 8 (by omega)) (b148 2 (by omega) (by omega)) (fun c c1 c2 => cV c (by omega) (by omega) (by omega) (by omega)) (fun t t1 t2 => by rw [cV 149 (by omega) (by omega) (by omega) (by omega)])
    · exact h.2.2.2.2.1.of hS (cV 73 (by omega) (by omega) (by omega) (by omega)) (cV 150 (by omega) (by omega) (by omega) (by omega)) (fun c c1 c2 => cV c (by omega) (by omega) (by omega) (by omega)) (fun t t1 t2 => by rw [cV 149 (by omega) (by omega) (by omega) (by omega)])
    · exact h.2.2.2.2.2.1.of (cV 1 (by omega) (by omega) (by omega) (by omega)) (cV 2 (by omega) (by omega) (by omega) (by omega)) (b148 4 (by omega) (by omega)) (b148 5 (by omega) (by omega)) (b148 6 (by omega) (by omega)) (cV 151 (by omega) (by omega) (by omega) (by omega))
    · unfold ROut
      rw [bk 0 (by omega) (by omega), a1.1, b1.1, Nat.zero_add]
      refine ⟨rfl, by omega, fun i hi => ?_⟩
      rw [bk 75 (by omega) (by omega), eV1, apG_2 (by decide), eV2, apG_2 (by decide), if_pos (by omega), if_pos (by omega)]
