/-! the input: its bytes, names of ships in it, and the output's bytes -/
theorem RV.inp {V V2 : VV} {S : Su} {P : Pl} (h : RV V S P) (e0 : V2 0 = V 0) (es : ∀ k, aS (V 0 2).toNat ≤ k → k < aS (V 0 2).toNat + 22 → V2 k = V k) (ep : ∀ k, 53 ≤ k → k < 74 → V2 k = V k) (eq : ∀ k, 75 ≤ k → k < 148 → V2 k = V k) (f2 : V2 148 2 = V 148 2) (f8 : V2 148 8 = V 148 8) (et : ∀ t, t < 2070 → V2 149 t = V 149 t) (e150 : V2 150 = V 150) (e152 : V2 152 = V 152) (hi : RIn V2) : RV V2 S P := by
  have hS := h.ck.2.2.2.1
  have he : ∀ t, t < 230 → V2 149 (0 + t) = V 149 (0 + t) := fun t ht => et _ (by omega)
  refine ⟨⟨rpC_of h.ck.1 (fun k k1 k2 => ep k (by omega) (by omega)), ?_, by rw [e0]; exact h.ck.2.2.1, hS, h.ck.ok⟩, ⟨rpM_cp h.mk.1 h.ck.ok.rg.2.2.1 h.ck.ok.rg.2.2.2 he, rpN_cp h.mk.2.1 hS he, hS, h.ck.ok⟩, by rw [e0]; exact h.2.2.1, ?_, ?_, hi, ?_⟩
  · rw [e0]
    exact rpS_of hS h.ck.2.1 (fun k k1 k2 => es k k1 k2)
  · exact h.2.2.2.1.of hS (by rw [e0]) (by rw [e0]) f2 (fun c c1 c2 => eq c (by omega) (by omega)) (fun t t1 t2 => et t (by omega))
  · exact h.2.2.2.2.1.of hS (ep 73 (by omega) (by omega)) e150 (fun c c1 c2 => eq c (by omega) (by omega)) (fun t t1 t2 => et t (by omega))
  · exact h.2.2.2.2.2.2.of (by rw [e0]) (eq 75 (by omega) (by omega)) f8 e152
theorem tn_ti (x : Int32) : x.toInt = if 2 * x.toBitVec.toNat < 4294967296 then (x.toBitVec.toNat : Int) else (x.toBitVec.toNat : Int) - 4294967296 := BitVec.toInt_eq_toNat_cond _
theorem nI_ti {n : Nat} (h : n < 2147483648) : (nI n).toInt = (n : Int) := by rw [iI_nI, iI_toInt ⟨by omega, by omega⟩]
theorem aI_255 (z : Int) : aI z 255 = nrm z % 256 := by
  unfold aI nrm
  rw [show iI 255 = (255 : Int32) from rfl, pk_and (iI z) 8 (by decide +kernel)]
  have hl : (iI z).toBitVec.toNat < 4294967296 := (iI z).toBitVec.isLt
  have h1 := tn_ti (iI z)
  rw [nI_ti (by have := Nat.mod_lt (iI z).toBitVec.toNat (show 0 < 2 ^ 8 by decide); omega), h1]
  show (((iI z).toBitVec.toNat % 256 : Nat) : Int) = _
  split <;> omega
theorem sI_24 (z : Int) : sI z 24 = nrm z / 16777216 := by
  unfold sI nrm
  rw [pk_shr _ _ 24 (by decide +kernel), Int.shiftRight_eq_div_pow]; rfl
theorem sI_16 (z : Int) : sI z 16 = nrm z / 65536 := by
  unfold sI nrm
  rw [pk_shr _ _ 16 (by decide +kernel), Int.shiftRight_eq_div_pow]; rfl
theorem sI_8 (z : Int) : sI z 8 = nrm z / 256 := by
  unfold sI nrm
  rw [pk_shr _ _ 8 (by decide +kernel), Int.shiftRight_eq_div_pow]; rfl
theorem sI_0 (z : Int) : sI z 0 = nrm z := by
  unfold sI nrm
  rw [pk_shr _ _ 0 (by decide +kernel), Int.shiftRight_eq_div_pow]; simp
theorem nrm_sI (a b : Int) : nrm (sI a b) = sI a b := by
  unfold nrm sI; rw [← iI_of]
theorem uI_tn (z k : Int) (n : Nat) (h : (((iI k).toUInt32 &&& Int32.toUInt32 31).toBitVec % 32).toNat = n) (h8 : 256 ≤ 2 ^ n) : uI z k = (((iI z).toBitVec.toNat / 2 ^ n : Nat) : Int) := by
  unfold uI
  have h1 := pk_ushr (iI z) (iI k) n h
  have hl : (iI z).toBitVec.toNat < 4294967296 := (iI z).toBitVec.isLt
  have h2 : (iI z).toBitVec.toNat / 2 ^ n ≤ (iI z).toBitVec.toNat / 256 := Nat.div_le_div_left h8 (by omega)
  rw [tn_ti, h1, if_pos (by omega)]
theorem by24 (z : Int) : wB (wB (uI z 24)) = wB (aI (sI z 24) 255) := by
  rw [uI_tn z 24 24 (by decide +kernel) (by decide), aI_255, nrm_sI, sI_24]
  have h1 := tn_ti (iI z)
  have hl : (iI z).toBitVec.toNat < 4294967296 := (iI z).toBitVec.isLt
  unfold nrm wB
  show (((((iI z).toBitVec.toNat / 16777216 : Nat) : Int) + 128) % 256 - 128 + 128) % 256 - 128 = _
  rw [h1]
  split <;> omega
theorem by16 (z : Int) : wB (wB (uI z 16)) = wB (aI (sI z 16) 255) := by
  rw [uI_tn z 16 16 (by decide +kernel) (by decide), aI_255, nrm_sI, sI_16]
  have h1 := tn_ti (iI z)
  have hl : (iI z).toBitVec.toNat < 4294967296 := (iI z).toBitVec.isLt
  unfold nrm wB
  show (((((iI z).toBitVec.toNat / 65536 : Nat) : Int) + 128) % 256 - 128 + 128) % 256 - 128 = _
  rw [h1]
  split <;> omega
theorem by8 (z : Int) : wB (wB (uI z 8)) = wB (aI (sI z 8) 255) := by
  rw [uI_tn z 8 8 (by decide +kernel) (by decide), aI_255, nrm_sI, sI_8]
  have h1 := tn_ti (iI z)
  have hl : (iI z).toBitVec.toNat < 4294967296 := (iI z).toBitVec.isLt
  unfold nrm wB
  show (((((iI z).toBitVec.toNat / 256 : Nat) : Int) + 128) % 256 - 128 + 128) % 256 - 128 = _
  rw [h1]
  split <;> omega
theorem by0 {z : Int} (h : rgI z) : wB (wB z) = wB (aI (sI z 0) 255) := by
  rw [aI_255, nrm_sI, sI_0, nrm_of h.1 h.2]
  unfold wB; omega
def by4 (z : Int) : List Int := [aI (sI z 24) 255, aI (sI z 16) 255, aI (sI z 8) 255, aI (sI z 0) 255]
theorem by4_rg {z c : Int} (h : c ∈ by4 z) : 0 ≤ c ∧ c ≤ 255 := by
  unfold by4 at h
  simp only [List.mem_cons, List.not_mem_nil, or_false, aI_255] at h
  omega
def apX (V : VV) (n : Nat) : List Int → VV
  | [] => V
  | z :: l => apX (up2 (up2 V 2 n (wB z)) 1 1 ((n : Int) + 1)) (n + 1) l
def apM (V : VV) (n : Nat) : List Int → VV
  | [] => V
  | z :: l => apM (up2 (up2 V 151 n z) 148 4 ((n : Int) + 1)) (n + 1) l
theorem apX_app {V : VV} {l l2 : List Int} : ∀ {n : Nat}, apX (apX V n l) (n + l.length) l2 = apX V n (l ++ l2) := by
  induction l generalizing V with
  | nil => intro n; rfl
  | cons z l ih => intro n; show apX (apX _ (n + 1) l) (n + (l.length + 1)) l2 = apX _ (n + 1) (l ++ l2); rw [← ih]; congr 1; omega
theorem apM_app {V : VV} {l l2 : List Int} : ∀ {n : Nat}, apM (apM V n l) (n + l.length) l2 = apM V n (l ++ l2) := by
  induction l generalizing V with
  | nil => intro n; rfl
  | cons z l ih => intro n; show apM (apM _ (n + 1) l) (n + (l.length + 1)) l2 = apM _ (n + 1) (l ++ l2); rw [← ih]; congr 1; omega
theorem apX_k {l : List Int} : ∀ {V : VV} {n k : Nat}, k ≠ 1 → k ≠ 2 → apX V n l k = V k := by
  induction l with
  | nil => intro V n k _ _; rfl
  | cons z l ih => intro V n k h1 h2; show apX _ (n + 1) l k = V k; rw [ih h1 h2, up2_r h1, up2_r h2]
theorem apM_k {l : List Int} : ∀ {V : VV} {n k : Nat}, k ≠ 148 → k ≠ 151 → apM V n l k = V k := by
  induction l with
  | nil => intro V n k _ _; rfl
  | cons z l ih => intro V n k h1 h2; show apM _ (n + 1) l k = V k; rw [ih h1 h2, up2_r h1, up2_r h2]
theorem apX_1 {l : List Int} : ∀ {V : VV} {n : Nat}, V 1 1 = (n : Int) → apX V n l 1 1 = ((n + l.length : Nat) : Int) ∧ ∀ i, i ≠ 1 → apX V n l 1 i = V 1 i := by
  induction l with
  | nil => intro V n h; exact ⟨h, fun _ _ => rfl⟩
  | cons z l ih =>
    intro V n h
    obtain ⟨h1, h2⟩ := ih (V := up2 (up2 V 2 n (wB z)) 1 1 ((n : Int) + 1)) (n := n + 1) (by rw [up2_s]; omega)
    refine ⟨?_, fun i hi => ?_⟩
    · show apX _ (n + 1) l 1 1 = _
      rw [h1, List.length_cons]; omega
    · show apX _ (n + 1) l 1 i = _
      rw [h2 i hi, up2_n (by omega), up2_n (by omega)]
theorem apM_1 {l : List Int} : ∀ {V : VV} {n : Nat}, V 148 4 = (n : Int) → apM V n l 148 4 = ((n + l.length : Nat) : Int) ∧ ∀ i, i ≠ 4 → apM V n l 148 i = V 148 i := by
  induction l with
  | nil => intro V n h; exact ⟨h, fun _ _ => rfl⟩
  | cons z l ih =>
    intro V n h
    obtain ⟨h1, h2⟩ := ih (V := up2 (up2 V 151 n z) 148 4 ((n : Int) + 1)) (n := n + 1) (by rw [up2_s]; omega)
    refine ⟨?_, fun i hi => ?_⟩
    · show apM _ (n + 1) l 148 4 = _
      rw [h1, List.length_cons]; omega
    · show apM _ (n + 1) l 148 i = _
      rw [h2 i hi, up2_n (by omega), up2_n (by omega)]
theorem apX_2 {l : List Int} : ∀ {V : VV} {n j : Nat}, apX V n l 2 j = if n ≤ j ∧ j < n + l.length then wB (l.getD (j - n) 0) else V 2 j := by
  induction l with
  | nil => intro V n j; rw [if_neg (by simp)]; rfl
  | cons z l ih =>
    intro V n j
    show apX _ (n + 1) l 2 j = _
    rw [ih, List.length_cons]
    by_cases e : j = n
    · subst e
      rw [if_neg (by omega), if_pos (by omega), up2_n (by omega), up2_s, Nat.sub_self]
      rfl
    · by_cases e2 : n + 1 ≤ j ∧ j < n + 1 + l.length
      · rw [if_pos e2, if_pos (by omega)]
        obtain ⟨m, hm⟩ : ∃ m, j - n = m + 1 := ⟨j - n - 1, by omega⟩
        rw [hm, List.getD_cons_succ, show j - (n + 1) = m by omega]
      · rw [if_neg e2, if_neg (by omega), up2_n (by omega), up2_n (by omega)]
theorem apM_2 {l : List Int} : ∀ {V : VV} {n j : Nat}, apM V n l 151 j = if n ≤ j ∧ j < n + l.length then l.getD (j - n) 0 else V 151 j := by
  induction l with
  | nil => intro V n j; rw [if_neg (by simp)]; rfl
  | cons z l ih =>
    intro V n j
    show apM _ (n + 1) l 151 j = _
    rw [ih, List.length_cons]
    by_cases e : j = n
    · subst e
      rw [if_neg (by omega), if_pos (by omega), up2_n (by omega), up2_s, Nat.sub_self]
      rfl
    · by_cases e2 : n + 1 ≤ j ∧ j < n + 1 + l.length
      · rw [if_pos e2, if_pos (by omega)]
        obtain ⟨m, hm⟩ : ∃ m, j - n = m + 1 := ⟨j - n - 1, by omega⟩
        rw [hm, List.getD_cons_succ, show j - (n + 1) = m by omega]
      · rw [if_neg e2, if_neg (by omega), up2_n (by omega), up2_n (by omega)]
theorem X_putByte {V : VV} {n : Nat} {x z : Int} (h : V 1 1 = (n : Int)) (hn : n < 600) (hz : wB (wB x) = wB z) : f0_putByte V x = some (up2 (up2 V 2 n (wB z)) 1 1 ((n : Int) + 1)) := by
  unfold f0_putByte
  simp (disch := omega) only [h, nrm_of]
  rw [if_neg (by omega), ck_t (by omega), Int.toNat_natCast, hz, up2_n (show (1 : Nat) ≠ 2 ∨ 1 ≠ n by omega), h]
theorem X_putFour {V : VV} {n : Nat} {x : Int} (hx : rgI x) (h : V 1 1 = (n : Int)) (hn : n + 4 ≤ 600) : f0_putFour V x = some (apX V n (by4 x)) := by
  unfold f0_putFour
  rw [X_putByte (z := aI (sI x 24) 255) h (by omega) (by24 x), bd_s, X_putByte (n := n + 1) (z := aI (sI x 16) 255) (by rw [up2_s]; omega) (by omega) (by16 x), bd_s, X_putByte (n := n + 2) (z := aI (sI x 8) 255) (by rw [up2_s]; omega) (by omega) (by8 x), bd_s, X_putByte (n := n + 3) (z := aI (sI x 0) 255) (by rw [up2_s]; omega) (by omega) (by0 hx), bd_s]
  rfl
theorem M_appendWord {V : VV} {n : Nat} {x : Int} (h : V 148 4 = (n : Int)) (hn : n + 4 ≤ 600) : f6_appendWord V x = some (apM V n (by4 x)) := by
  have key : ∀ (m : Nat) (s : Int) (W : VV) (k : Nat), 0 ≤ s → s ≤ 24 → W 148 4 = (k : Int) → k < 600 → f6_appendWord_L3 x (m + 1) s W = f6_appendWord_L3 x m (s + (-8)) (up2 (up2 W 151 k (aI (sI x s) 255)) 148 4 ((k : Int) + 1)) := by
    intro m s W k h0 h1 h2 h3
    rw [f6_appendWord_L3]
    simp (disch := omega) only [nrm_of]
    rw [if_neg (by omega), h2, ck_t (by omega), Int.toNat_natCast, up2_n (show (148 : Nat) ≠ 151 ∨ 4 ≠ k by omega), h2]
  unfold f6_appendWord
  rw [show FU = 4995 + 1 + 1 + 1 + 1 + 1 from rfl, key _ 24 V n (by omega) (by omega) h (by omega), key _ (24 + -8) _ (n + 1) (by omega) (by omega) (by rw [up2_s]; omega) (by omega), key _ (24 + -8 + -8) _ (n + 2) (by omega) (by omega) (by rw [up2_s]; omega) (by omega), key _ (24 + -8 + -8 + -8) _ (n + 3) (by omega) (by omega) (by rw [up2_s]; omega) (by omega), f6_appendWord_L3]
  rw [if_pos (by decide +kernel)]
  rfl
theorem by4_len (x : Int) : (by4 x).length = 4 := rfl
theorem op_append {a b c d e : Int} (ha : rgI a) (hb : rgI b) (hc : rgI c) (hd : rgI d) (he : rgI e) : Op1 [eS] (fun V => f5_append V a b c d e) (fun V => f6_append V a b c d e) := by
  intro V S P h
  obtain ⟨i1, ⟨i2, i3⟩, i4, i5, i6⟩ := h.2.2.2.2.2.1
  obtain ⟨n, hn⟩ : ∃ n : Nat, V 1 1 = (n : Int) := ⟨(V 1 1).toNat, by omega⟩
  by_cases q : n + 20 ≤ 600
  · obtain ⟨l, hl⟩ : ∃ l : List Int, l = by4 a ++ (by4 b ++ (by4 c ++ (by4 d ++ by4 e))) := ⟨_, rfl⟩
    have hlen : l.length = 20 := by rw [hl]; rfl
    have hrg : ∀ z ∈ l, 0 ≤ z ∧ z ≤ 255 := by
      intro z hz
      rw [hl] at hz
      simp only [List.mem_append] at hz
      rcases hz with z | z | z | z | z <;> exact by4_rg z
    have hV1 : f5_append V a b c d e = some (.ok ((n : Int) + 20), apX V n l) := by
      have g1 := X_putFour (V := V) ha hn (by omega)
      have e1 := (apX_1 (l := by4 a) hn).1
      have g2 := X_putFour (V := apX V n (by4 a)) hb e1 (by rw [by4_len]; omega)
      rw [apX_app] at g2
      have e2 := (apX_1 (l := by4 a ++ by4 b) hn).1
      have g3 := X_putFour (V := apX V n (by4 a ++ by4 b)) hc e2 (by simp only [List.length_append, by4_len]; omega)
      rw [apX_app] at g3
      have e3 := (apX_1 (l := by4 a ++ by4 b ++ by4 c) hn).1
      have g4 := X_putFour (V := apX V n (by4 a ++ by4 b ++ by4 c)) hd e3 (by simp only [List.length_append, by4_len]; omega)
      rw [apX_app] at g4
      have e4 := (apX_1 (l := by4 a ++ by4 b ++ by4 c ++ by4 d) hn).1
      have g5 := X_putFour (V := apX V n (by4 a ++ by4 b ++ by4 c ++ by4 d)) he e4 (by simp only [List.length_append, by4_len]; omega)
      rw [apX_app] at g5
      have e5 : by4 a ++ by4 b ++ by4 c ++ by4 d ++ by4 e = l := by rw [hl]; simp only [List.append_assoc]
      rw [e5] at g5
      unfold f5_append
      simp (disch := omega) only [hn, nrm_of]
      rw [if_neg (by omega)]
      simp only [bd_q, n10, if_false]
      rw [g1, bd_s, g2, bd_s, g3, bd_s, g4, bd_s, g5, bd_s, (apX_1 (l := l) hn).1, hlen]
      simp
    have hz : (up2 (apX V n l) 148 9 0) 148 4 = (n : Int) := by rw [up2_n (by omega), apX_k (by omega) (by omega), ← i1, hn]
    obtain ⟨W, eW⟩ : ∃ W : VV, W = up2 (apX V n l) 148 9 0 := ⟨_, rfl⟩
    rw [← eW] at hz
    have hV2 : f6_append (apX V n l) a b c d e = some ((n : Int) + 20, apM W n l) := by
      have g1 := M_appendWord (V := W) (x := a) hz (by omega)
      have e1 := (apM_1 (l := by4 a) hz).1
      have g2 := M_appendWord (V := apM W n (by4 a)) (x := b) e1 (by rw [by4_len]; omega)
      rw [apM_app] at g2
      have e2 := (apM_1 (l := by4 a ++ by4 b) hz).1
      have g3 := M_appendWord (V := apM W n (by4 a ++ by4 b)) (x := c) e2 (by simp only [List.length_append, by4_len]; omega)
      rw [apM_app] at g3
      have e3 := (apM_1 (l := by4 a ++ by4 b ++ by4 c) hz).1
      have g4 := M_appendWord (V := apM W n (by4 a ++ by4 b ++ by4 c)) (x := d) e3 (by simp only [List.length_append, by4_len]; omega)
      rw [apM_app] at g4
      have e4 := (apM_1 (l := by4 a ++ by4 b ++ by4 c ++ by4 d) hz).1
      have g5 := M_appendWord (V := apM W n (by4 a ++ by4 b ++ by4 c ++ by4 d)) (x := e) e4 (by simp only [List.length_append, by4_len]; omega)
      rw [apM_app] at g5
      have e5 : by4 a ++ by4 b ++ by4 c ++ by4 d ++ by4 e = l := by rw [hl]; simp only [List.append_assoc]
      rw [e5] at g5
      unfold f6_append
      rw [show (apX V n l) 148 4 = (n : Int) by rw [apX_k (by omega) (by omega), ← i1, hn]]
      simp (disch := omega) only [nrm_of]
      rw [if_pos (by omega)]
      simp only [bd_q]
      rw [M_fails0]
      simp only [bd2_s, n00, if_true]
      rw [← eW, g1, bd_s, g2, bd_s, g3, bd_s, g4, bd_s, g5, bd_s, (apM_1 (l := l) hz).1, hlen]
      simp
    have ek : ∀ k, k ≠ 1 → k ≠ 2 → k ≠ 148 → k ≠ 151 → apM W n l k = V k := fun k k1 k2 k3 k4 => by rw [apM_k k3 k4, eW, up2_r k3, apX_k k1 k2]
    have e148 : ∀ i, i ≠ 4 → i ≠ 9 → apM W n l 148 i = V 148 i := fun i q1 q2 => by rw [(apM_1 (l := l) hz).2 i q1, eW, up2_n (by omega), apX_k (by omega) (by omega)]
    have e1 : apM W n l 1 = apX V n l 1 := by rw [apM_k (by omega) (by omega), eW, up2_r (by omega)]
    have e2 : apM W n l 2 = apX V n l 2 := by rw [apM_k (by omega) (by omega), eW, up2_r (by omega)]
    have hq := h.ck.2.2.1
    refine ⟨.ok ((n : Int) + 20), _, _, _, hV1, hV2, by rw [(apM_1 (l := l) hz).2 9 (by omega), eW, up2_s]; rfl, fun r hr => okr hr rfl, S, P, h.inp (ek 0 (by omega) (by omega) (by omega) (by omega)) (fun k k1 k2 => ek k (by unfold aS at k1; omega) (by unfold aS at k1; omega) (by unfold aS at k2; omega) (by unfold aS at k2; omega)) (fun k k1 k2 => ek k (by omega) (by omega) (by omega) (by omega)) (fun k k1 k2 => ek k (by omega) (by omega) (by omega) (by omega)) (e148 2 (by omega) (by omega)) (e148 8 (by omega) (by omega)) (fun t ht => by rw [ek 149 (by omega) (by omega) (by omega) (by omega)]) (ek 150 (by omega) (by omega) (by omega) (by omega)) (ek 152 (by omega) (by omega) (by omega) (by omega)) ?_⟩
    unfold RIn
    rw [e1, e2, (apX_1 (l := l) hn).1, (apX_1 (l := l) hn).2 2 (by omega), (apX_1 (l := l) hn).2 3 (by omega), (apM_1 (l := l) hz).1, e148 5 (by omega) (by omega), e148 6 (by omega) (by omega), hlen]
    refine ⟨rfl, by omega, fun j hj => ?_, i5, i6⟩
    rw [apX_2, apM_2, hlen]
    by_cases c2 : n ≤ j ∧ j < n + 20
    · rw [if_pos c2, if_pos c2]
      refine ⟨rfl, hrg _ ?_⟩
      rw [List.getD_eq_getElem?_getD, List.getElem?_eq_getElem (by omega)]
      exact List.getElem_mem _
    · rw [if_neg c2, if_neg c2, eW, up2_r (by omega), apX_k (by omega) (by omega)]
      exact i4 j (by omega)
  · refine ⟨.error eS, V, 0, up2 V 148 9 1, ?_, ?_, (up2_s _ _ _ _).trans cod_1.symm, fun r hr => ner hr, S, P, h.thr 1⟩
    · show f5_append V a b c d e = _
      unfold f5_append
      simp (disch := omega) only [hn, nrm_of]
      rw [if_pos (by omega)]
      simp only [bd_q, n00, if_true]
    · show f6_append V a b c d e = _
      unfold f6_append
      rw [← i1]
      simp (disch := omega) only [hn, nrm_of]
      rw [if_neg (by omega)]
      simp only [bd_q]
      rw [M_fails1 (Or.inl rfl) (Or.inl rfl)]
      simp only [bd2_s, n10, if_false]
theorem op_truncate {x : Int} (hx : rgI x) : Op1 [eA] (fun V => f5_truncate V x) (fun V => f6_truncate V x) := by
  intro V S P h
  obtain ⟨i1, ⟨i2, i3⟩, i4, i5, i6⟩ := h.2.2.2.2.2.1
  by_cases c : 0 ≤ x ∧ x ≤ V 1 1
  · have hq := h.ck.2.2.1
    have ek : ∀ k, k ≠ 1 → k ≠ 148 → up2 (up2 (up2 V 1 1 x) 148 9 0) 148 4 x k = V k := fun k k1 k2 => by rw [up2_r k2, up2_r k2, up2_r k1]
    have e148 : ∀ i, i ≠ 4 → i ≠ 9 → up2 (up2 (up2 V 1 1 x) 148 9 0) 148 4 x 148 i = V 148 i := fun i q1 q2 => by rw [up2_n (by omega), up2_n (by omega), up2_n (by omega)]
    have e1 : ∀ i, i ≠ 1 → up2 (up2 (up2 V 1 1 x) 148 9 0) 148 4 x 1 i = V 1 i := fun i q => by rw [up2_n (by omega), up2_n (by omega), up2_n (by omega)]
    refine ⟨.ok x, up2 V 1 1 x, x, up2 (up2 (up2 V 1 1 x) 148 9 0) 148 4 x, ?_, ?_, by rw [up2_n (by omega), up2_s]; rfl, fun r hr => okr hr rfl, S, P, h.inp (ek 0 (by omega) (by omega)) (fun k k1 k2 => ek k (by unfold aS at k1; omega) (by unfold aS at k2; omega)) (fun k k1 k2 => ek k (by omega) (by omega)) (fun k k1 k2 => ek k (by omega) (by omega)) (e148 2 (by omega) (by omega)) (e148 8 (by omega) (by omega)) (fun t ht => by rw [ek 149 (by omega) (by omega)]) (ek 150 (by omega) (by omega)) (ek 152 (by omega) (by omega)) ?_⟩
    · show f5_truncate V x = _
      unfold f5_truncate
      rw [X_isWithin hx (by constructor <;> omega) (by constructor <;> omega), if_pos c]
      simp only [bd_q, n10, if_false]
    · show f6_truncate (up2 V 1 1 x) x = _
      unfold f6_truncate
      rw [show (up2 V 1 1 x) 148 4 = V 1 1 by rw [up2_n (by omega), i1], M_in hx (by constructor <;> omega) (by constructor <;> omega), if_pos c]
      simp only [bd_q, n10, if_false]
      rw [M_fails0]
      simp only [bd2_s, n00, if_true]
    · unfold RIn
      rw [e1 2 (by omega), e1 3 (by omega), e148 5 (by omega) (by omega), e148 6 (by omega) (by omega), ek 2 (by omega) (by omega), ek 151 (by omega) (by omega), up2_s, show up2 (up2 (up2 V 1 1 x) 148 9 0) 148 4 x 1 1 = x by rw [up2_n (by omega), up2_n (by omega), up2_s]]
      exact ⟨rfl, by omega, fun j hj => i4 j (by omega), i5, i6⟩
  · refine ⟨.error eA, V, 0, up2 V 148 9 1, ?_, ?_, (up2_s _ _ _ _).trans cod_1.symm, fun r hr => ner hr, S, P, h.thr 1⟩
    · show f5_truncate V x = _
      unfold f5_truncate
      rw [X_isWithin hx (by constructor <;> omega) (by constructor <;> omega), if_neg c]
      simp only [bd_q, n00, if_true]
    · show f6_truncate V x = _
      unfold f6_truncate
      rw [← i1, M_in hx (by constructor <;> omega) (by constructor <;> omega), if_neg c]
      simp only [bd_q, n00, if_true]
      rw [M_fails1 (Or.inl rfl) (Or.inl rfl)]
      simp only [bd2_s, n10, if_false]
theorem op_outputByte {x : Int} (hx : rgI x) : Op1 [eI] (fun V => f5_outputByte V x) (fun V => f6_outputByte V x) := by
  intro V S P h
  obtain ⟨i1, ⟨i2, i3⟩, i4⟩ := h.2.2.2.2.2.2
  by_cases c : 0 ≤ x ∧ x < V 0 13
  · obtain ⟨i, rfl⟩ : ∃ i : Nat, x = (i : Int) := ⟨x.toNat, by omega⟩
    refine ⟨.ok (V 75 i), V, V 75 i, up2 V 148 9 0, ?_, ?_, th0 (z := 0), fun r hr => okr hr rfl, S, P, h.thr 0⟩
    · show f5_outputByte V (i : Int) = _
      unfold f5_outputByte
      rw [X_isNumberBelow hx (by constructor <;> omega), if_pos c]
      simp only [bd_q, n10, if_false]
      rw [ck_t (by omega), Int.toNat_natCast]
    · show f6_outputByte V (i : Int) = _
      unfold f6_outputByte
      rw [← i1, M_in hx (by constructor <;> omega) (by constructor <;> omega), M_lt, if_pos c]
      simp only [bd_q, n10, if_false]
      rw [M_fails0]
      simp only [bd2_s, n00, if_true]
      rw [ck_t (by omega), Int.toNat_natCast, up2_r (by omega), i4 i (by omega)]
  · refine ⟨.error eI, V, 0, up2 V 148 9 1, ?_, ?_, (up2_s _ _ _ _).trans cod_1.symm, fun r hr => ner hr, S, P, h.thr 1⟩
    · show f5_outputByte V x = _
      unfold f5_outputByte
      rw [X_isNumberBelow hx (by constructor <;> omega), if_neg c]
      simp only [bd_q, n00, if_true]
    · show f6_outputByte V x = _
      unfold f6_outputByte
      rw [← i1, M_in hx (by constructor <;> omega) (by constructor <;> omega), M_lt, if_neg c]
      simp only [bd_q, n00, if_true]
      rw [M_fails1 (Or.inl rfl) (Or.inl rfl)]
      simp only [bd2_s, n10, if_false]
