/-! the text is a setup with so many ships -/
/-- from a on the bytes are D, and no more -/
def Sees (F : Nat → Int) (N a : Nat) (D : List Int) : Prop := N = a + D.length ∧ ∀ j, j < D.length → F (a + j) = D.getD j 0
theorem Sees.drop {F : Nat → Int} {N a : Nat} {u D : List Int} (h : Sees F N a (u ++ D)) : Sees F N (a + u.length) D := by
  refine ⟨by rw [h.1, List.length_append]; omega, fun j hj => ?_⟩
  have := h.2 (u.length + j) (by rw [List.length_append]; omega)
  rw [getD_app, if_neg (by omega), show u.length + j - u.length = j by omega] at this
  rw [← this]
  congr 1
  omega
theorem Sees.head {F : Nat → Int} {N a : Nat} {u D : List Int} (h : Sees F N a (u ++ D)) : ∀ j, j < u.length → F (a + j) = u.getD j 0 := fun j hj => by
  rw [h.2 j (by rw [List.length_append]; omega), getD_app, if_pos hj]
theorem Sees.at0 {F : Nat → Int} {N a : Nat} {c : Int} {D : List Int} (h : Sees F N a (c :: D)) : F a = c := by
  have := h.2 0 (by simp)
  simpa using this
theorem runW_tw {p : Int → Bool} {F : Nat → Int} {N : Nat} : ∀ {D : List Int} {a : Nat}, Sees F N a D → runW p F (N - a) a = a + (D.takeWhile p).length
  | [], a, h => by
    have e : N - a = 0 := by have := h.1; simp at this; omega
    rw [e]
    rfl
  | c :: D, a, h => by
    have h1 := h.1
    rw [List.length_cons] at h1
    have e : N - a = (N - (a + 1)) + 1 := by omega
    have hd : Sees F N (a + 1) D := Sees.drop (u := [c]) h
    rw [e, runW, h.at0, List.takeWhile_cons]
    by_cases q : p c = true
    · rw [if_pos q, if_pos q, runW_tw hd, List.length_cons]
      omega
    · rw [if_neg q, if_neg q]
      rfl
theorem tw_all {p : Int → Bool} {c : Int} {E : List Int} (hc : p c = false) : ∀ {w : List Int}, (∀ x ∈ w, p x = true) → (w ++ c :: E).takeWhile p = w
  | [], _ => by
    show (c :: E).takeWhile p = []
    rw [List.takeWhile_cons, if_neg (by rw [hc]; decide)]
  | x :: w, h => by
    show (x :: (w ++ c :: E)).takeWhile p = x :: w
    rw [List.takeWhile_cons, if_pos (h x List.mem_cons_self), tw_all hc (fun y hy => h y (List.mem_cons_of_mem _ hy))]
/-- a word, behind a blank or none -/
theorem tok_w {F : Nat → Int} {N a : Nat} {s w E : List Int} {c : Int} (hs : s = [] ∨ s = [32]) (hw : 1 ≤ w.length ∧ w.length ≤ 8) (hl : ∀ x ∈ w, isSm x = true) (hc : isSm c = false) (h : Sees F N a (s ++ (w ++ c :: E))) : tok F N a = (1, a + s.length, a + s.length + w.length) := by
  obtain ⟨x, w', rfl⟩ : ∃ x w', w = x :: w' := by
    cases w with
    | nil => exact absurd hw.1 (by decide)
    | cons x w' => exact ⟨x, w', rfl⟩
  have hx := hl x List.mem_cons_self
  have hxs : isSc x = false := by
    unfold isSm at hx
    unfold isSc
    simp only [decide_eq_true_eq] at hx
    simp only [decide_eq_false_iff_not]
    omega
  have hsp : ∀ y ∈ s, isSc y = true := by
    rcases hs with e | e <;> subst e
    · intro y hy; exact absurd hy List.not_mem_nil
    · intro y hy
      rw [List.mem_singleton.mp hy]
      decide
  have hd := h.drop
  have h1 : runW isSc F (N - a) a = a + s.length := by
    rw [runW_tw h]
    show a + (List.takeWhile isSc (s ++ x :: (w' ++ c :: E))).length = _
    rw [tw_all hxs hsp]
  have h2 : runW isSm F (N - (a + s.length)) (a + s.length) = a + s.length + (x :: w').length := by
    rw [runW_tw hd, tw_all hc hl]
  have hN : ¬ N ≤ a + s.length := by
    have := hd.1
    rw [List.length_append, List.length_cons] at this
    omega
  have hF : F (a + s.length) = x := Sees.at0 hd
  unfold tok
  rw [h1, if_neg hN, hF, if_pos hx, h2, if_neg (by omega)]
/-- a number -/
theorem tok_d {F : Nat → Int} {N a : Nat} {s w E : List Int} {c : Int} (hs : s = [] ∨ s = [32]) (hw : 1 ≤ w.length ∧ w.length ≤ 4) (hl : ∀ x ∈ w, isDg x = true) (hc : isDg c = false) (h : Sees F N a (s ++ (w ++ c :: E))) : tok F N a = (2, a + s.length, a + s.length + w.length) := by
  obtain ⟨x, w', rfl⟩ : ∃ x w', w = x :: w' := by
    cases w with
    | nil => exact absurd hw.1 (by decide)
    | cons x w' => exact ⟨x, w', rfl⟩
  have hx := hl x List.mem_cons_self
  have hx2 : isSc x = false ∧ isSm x = false := by
    unfold isDg at hx
    unfold isSc isSm
    simp only [decide_eq_true_eq] at hx
    simp only [decide_eq_false_iff_not]
    omega
  have hsp : ∀ y ∈ s, isSc y = true := by
    rcases hs with e | e <;> subst e
    · intro y hy; exact absurd hy List.not_mem_nil
    · intro y hy
      rw [List.mem_singleton.mp hy]
      decide
  have hd := h.drop
  have h1 : runW isSc F (N - a) a = a + s.length := by
    rw [runW_tw h]
    show a + (List.takeWhile isSc (s ++ x :: (w' ++ c :: E))).length = _
    rw [tw_all hx2.1 hsp]
  have h2 : runW isDg F (N - (a + s.length)) (a + s.length) = a + s.length + (x :: w').length := by
    rw [runW_tw hd, tw_all hc hl]
  have hN : ¬ N ≤ a + s.length := by
    have := hd.1
    rw [List.length_append, List.length_cons] at this
    omega
  have hF : F (a + s.length) = x := Sees.at0 hd
  unfold tok
  rw [h1, if_neg hN, hF, if_neg (by rw [hx2.2]; decide), if_pos hx, h2, if_neg (by omega)]
theorem tok_s {F : Nat → Int} {N a : Nat} {E : List Int} (h : Sees F N a (59 :: E)) : tok F N a = (3, a, a + 1) := by
  have h1 : runW isSc F (N - a) a = a := by
    rw [runW_tw h, List.takeWhile_cons, if_neg (by decide)]
    rfl
  have hN : ¬ N ≤ a := by
    have := h.1
    rw [List.length_cons] at this
    omega
  unfold tok
  rw [h1, if_neg hN, h.at0, if_neg (by decide), if_neg (by decide), if_pos rfl]
theorem tok_e {F : Nat → Int} {N a : Nat} (h : Sees F N a []) : tok F N a = (0, a, a) := by
  have h1 : runW isSc F (N - a) a = a := by
    rw [runW_tw h]
    rfl
  have hN : N ≤ a := by have := h.1; simp at this; omega
  unfold tok
  rw [h1, if_pos hN]
theorem nmB_all {F : Nat → Int} : ∀ {t : List Int} {i : Nat}, (∀ j, j < t.length → F (i + j) = t.getD j 0) → nmB F t i = true
  | [], _, _ => rfl
  | c :: t, i, h => by
    have h0 := h 0 (by simp)
    rw [Nat.add_zero] at h0
    have h0' : F i = c := by simpa using h0
    rw [nmB, nmB_all (fun j hj => by
      have := h (j + 1) (by rw [List.length_cons]; omega)
      rw [List.getD_cons_succ] at this
      rw [← this]
      congr 1
      omega), h0']
    simp
theorem dgL_dg {z : Nat} (hz : z < 100) : (1 ≤ (dgL z).length ∧ (dgL z).length ≤ 4) ∧ ∀ x ∈ dgL z, isDg x = true := by
  refine ⟨by rw [dgL_len]; have := dn_le z; omega, fun x hx => ?_⟩
  unfold dgL at hx
  unfold isDg
  rw [decide_eq_true_eq]
  split at hx
  · rw [List.mem_singleton.mp hx]
    omega
  · rcases List.mem_cons.mp hx with e | hx
    · rw [e]; omega
    · rw [List.mem_singleton.mp hx]; omega
theorem nmv_dg {F : Nat → Int} {a z : Nat} (hz : z < 100) (h : ∀ j, j < (dgL z).length → F (a + j) = (dgL z).getD j 0) : nmv F a (dgL z).length = (z : Int) := by
  rw [dgL_len] at h ⊢
  by_cases q : z < 10
  · have e : dn z = 1 := if_pos q
    have el : dgL z = [((48 + z : Nat) : Int)] := if_pos q
    rw [e] at h ⊢
    have h0 := h 0 (by omega)
    rw [el] at h0
    show 0 * 10 + (F (a + 0) - 48) = (z : Int)
    rw [h0]
    show 0 * 10 + (((48 + z : Nat) : Int) - 48) = (z : Int)
    omega
  · have e : dn z = 2 := if_neg q
    have el : dgL z = [((48 + z / 10 : Nat) : Int), ((48 + z % 10 : Nat) : Int)] := if_neg q
    rw [e] at h ⊢
    have h0 := h 0 (by omega)
    have h1 := h 1 (by omega)
    rw [el] at h0 h1
    show (0 * 10 + (F (a + 0) - 48)) * 10 + (F (a + 1) - 48) = (z : Int)
    rw [h0, h1]
    show (0 * 10 + (((48 + z / 10 : Nat) : Int) - 48)) * 10 + (((48 + z % 10 : Nat) : Int) - 48) = (z : Int)
    omega
/-- a number behind a blank is read -/
theorem sNum_ok {F : Nat → Int} {N a z : Nat} {E : List Int} {c lo hi : Int} (hz : z < 100) (hc : isDg c = false) (hr : lo ≤ (z : Int) ∧ (z : Int) ≤ hi) (h : Sees F N a ([32] ++ (dgL z ++ c :: E))) : sNum F lo hi (tok F N a) = .inr (z : Int) ∧ (tok F N a).2.2 = a + 1 + (dgL z).length ∧ Sees F N (a + 1 + (dgL z).length) (c :: E) := by
  obtain ⟨h1, h2⟩ := dgL_dg hz
  have ht := tok_d (Or.inr rfl) h1 h2 hc h
  have hd : Sees F N (a + 1) (dgL z ++ c :: E) := h.drop
  rw [ht]
  have hn := nmv_dg hz hd.head
  refine ⟨?_, rfl, hd.drop⟩
  unfold sNum
  show (if (2 : Nat) = 2 then _ else _) = _
  rw [if_pos rfl]
  show (if lo ≤ nmv F (a + 1) (a + 1 + (dgL z).length - (a + 1)) ∧ nmv F (a + 1) (a + 1 + (dgL z).length - (a + 1)) ≤ hi then (Sum.inr (nmv F (a + 1) (a + 1 + (dgL z).length - (a + 1))) : PE Int) else _) = _
  rw [Nat.add_sub_cancel_left, hn, if_pos hr]
theorem sSem_ok {F : Nat → Int} {N a : Nat} {E : List Int} (h : Sees F N a (59 :: E)) : sSem F N (tok F N a) = .inr (tok F N (a + 1)) ∧ Sees F N (a + 1) E := by
  refine ⟨?_, Sees.drop (u := [59]) h⟩
  rw [tok_s h]
  rfl
/-- a word of the language is read -/
theorem sWord_ok {F : Nat → Int} {N a k : Nat} {s E : List Int} {c : Int} (hk : k < 3) (hk1 : 1 ≤ k) (hs : s = [] ∨ s = [32]) (hc : isSm c = false) (h : Sees F N a (s ++ (wl k ++ c :: E))) : sWord F N k (tok F N a) = .inr (tok F N (a + s.length + (wl k).length)) ∧ (tok F N a).1 = 1 ∧ isW F k (tok F N a) = true ∧ Sees F N (a + s.length + (wl k).length) (c :: E) := by
  have h1 := wl_ok k hk hk1
  have h2 : 1 ≤ (wl k).length := by have := (slI_rg k (by omega)).1; omega
  have ht := tok_w hs ⟨h2, h1.2.1⟩ (fun x hx => by unfold isSm; rw [decide_eq_true_eq]; exact h1.2.2 x hx) hc h
  have hd := h.drop
  have hw : isW F k (tok F N a) = true := by
    rw [ht]
    unfold isW
    show (decide ((1 : Nat) = 1) && (decide (a + s.length + (wl k).length - (a + s.length) = (wl k).length) && nmB F (wl k) (a + s.length))) = true
    rw [nmB_all hd.head, Nat.add_sub_cancel_left]
    simp
  refine ⟨?_, by rw [ht], hw, hd.drop⟩
  unfold sWord
  rw [if_pos hw, ht]
/-- a ship of the text -/
def shP (G : GT) (k : Nat) : List Int := kL 4 ++ [((97 + k : Nat) : Int)] ++ [32] ++ dgL (1 + zSh G k % 25) ++ [32] ++ dgL (zSh G k / 32 % 6) ++ [32] ++ dgL (1 + zSh G k / 256 % 12) ++ [59]
theorem shT_eq {G : GT} {k : Nat} {L : List Int} : shT G k L = L ++ shP G k := by
  unfold shT shP
  simp only [List.append_assoc]
def rsP (G : GT) : Nat → Nat → List Int
  | _, 0 => []
  | k, d + 1 => shP G k ++ rsP G (k + 1) d
theorem txt_rs {G : GT} : ∀ (d k : Nat), txt G (k + d) = txt G k ++ rsP G k d
  | 0, k => by
    show txt G k = txt G k ++ []
    rw [List.append_nil]
  | d + 1, k => by
    rw [show k + (d + 1) = (k + 1) + d by omega, txt_rs d (k + 1)]
    show shT G k (txt G k) ++ rsP G (k + 1) d = txt G k ++ (shP G k ++ rsP G (k + 1) d)
    rw [shT_eq, List.append_assoc]
theorem kL4 : kL 4 = wl 2 ++ [32] ++ [115] := by decide +kernel
theorem kL3 : kL 3 = wl 1 ++ [32] := by decide +kernel
theorem sShip_ok {G : GT} {F : Nat → Int} {N a k : Nat} {E : List Int} {L : List Sh} (hk : k < 6) (hL : L.length = k) (hn : ∀ (i : Nat) (s : Sh), L[i]? = some s → s.1 = [115, ((97 + i : Nat) : Int)]) (h : Sees F N a (shP G k ++ E)) : ∃ s : Sh, sShip F N L (tok F N a) = .inr (s, tok F N (a + (shP G k).length)) ∧ s.1 = [115, ((97 + k : Nat) : Int)] ∧ (tok F N a).1 = 1 ∧ Sees F N (a + (shP G k).length) E := by
  have hz := zSh_lt (G := G) (k := k)
  obtain ⟨z, hzz⟩ : ∃ z : Nat, z = zSh G k := ⟨_, rfl⟩
  have hP : shP G k = wl 2 ++ ([32] ++ ([115, ((97 + k : Nat) : Int)] ++ ([32] ++ (dgL (1 + z % 25) ++ ([32] ++ (dgL (z / 32 % 6) ++ ([32] ++ (dgL (1 + z / 256 % 12) ++ [59])))))))) := by
    unfold shP
    rw [kL4, hzz]
    simp only [List.append_assoc, List.cons_append, List.nil_append]
  have h0 := h
  rw [hP] at h
  simp only [List.append_assoc] at h
  obtain ⟨a1, a2, a3, a4⟩ := sWord_ok (s := []) (k := 2) (by decide) (by decide) (Or.inl rfl) (by decide) h
  have hc2 : ∀ x ∈ ([115, ((97 + k : Nat) : Int)] : List Int), isSm x = true := by
    intro x hx
    unfold isSm
    rw [decide_eq_true_eq]
    rcases List.mem_cons.mp hx with e | hx
    · rw [e]; decide
    · rw [List.mem_singleton.mp hx]; omega
  have t2 := tok_w (s := [32]) (w := [115, ((97 + k : Nat) : Int)]) (Or.inr rfl) ⟨by show (1 : Nat) ≤ 2; decide, by show (2 : Nat) ≤ 8; decide⟩ hc2 (by decide) a4
  have b4 : Sees F N (a + ([] : List Int).length + (wl 2).length + 1) _ := Sees.drop (u := [32]) a4
  have hF := Sees.head (u := [115, ((97 + k : Nat) : Int)]) b4
  have f0 : F (a + ([] : List Int).length + (wl 2).length + 1) = 115 := hF 0 (by show 0 < 2; decide)
  have f1 : F (a + ([] : List Int).length + (wl 2).length + 1 + 1) = ((97 + k : Nat) : Int) := hF 1 (by show 1 < 2; decide)
  have c4 : Sees F N (a + ([] : List Int).length + (wl 2).length + 1 + 2) _ := Sees.drop (u := [115, ((97 + k : Nat) : Int)]) b4
  obtain ⟨d1, d2, d3⟩ := sNum_ok (lo := 1) (hi := 60) (by omega) (by decide) (by omega) c4
  obtain ⟨e1, e2, e3⟩ := sNum_ok (lo := 0) (hi := 9) (by omega) (by decide) (by omega) d3
  obtain ⟨g1, g2, g3⟩ := sNum_ok (lo := 1) (hi := 99) (by omega) (by decide) (by omega) e3
  obtain ⟨i1, i2⟩ := sSem_ok g3
  have hname : sName F N L (tok F N (a + ([] : List Int).length + (wl 2).length)) = .inr ([115, ((97 + k : Nat) : Int)], tok F N (a + ([] : List Int).length + (wl 2).length + 1 + 2)) := by
    have hsh : ∀ (M : List Sh) (i : Nat), (∀ s ∈ M, shB F (a + ([] : List Int).length + (wl 2).length + 1) 2 s = false) → shN F (a + ([] : List Int).length + (wl 2).length + 1) 2 M i = -1 := by
      intro M
      induction M with
      | nil => intro i _; rfl
      | cons s M ih =>
        intro i hM
        rw [shN, if_neg (by rw [hM s List.mem_cons_self]; decide)]
        exact ih (i + 1) (fun s hs => hM s (List.mem_cons_of_mem _ hs))
    rw [t2]
    unfold sName
    show (if (1 : Nat) = 1 then (if 6 < a + ([] : List Int).length + (wl 2).length + 1 + 2 - (a + ([] : List Int).length + (wl 2).length + 1) then _ else if shN F (a + ([] : List Int).length + (wl 2).length + 1) (a + ([] : List Int).length + (wl 2).length + 1 + 2 - (a + ([] : List Int).length + (wl 2).length + 1)) L 0 = -1 then Sum.inr ((List.range (a + ([] : List Int).length + (wl 2).length + 1 + 2 - (a + ([] : List Int).length + (wl 2).length + 1))).map (fun j => F (a + ([] : List Int).length + (wl 2).length + 1 + j)), tok F N (a + ([] : List Int).length + (wl 2).length + 1 + 2)) else _) else _) = _
    rw [Nat.add_sub_cancel_left, if_pos rfl, if_neg (by decide), if_pos (hsh L 0 (fun s hs => by
      obtain ⟨i, hi⟩ := List.mem_iff_getElem?.mp hs
      have hil : i < k := by rw [← hL]; exact (List.getElem?_eq_some_iff.mp hi).1
      unfold shB
      rw [hn i s hi]
      show (decide ((2 : Nat) = 2) && (decide ((115 : Int) = F _) && (decide (((97 + i : Nat) : Int) = F (_ + 1)) && true))) = false
      rw [f1, decide_eq_false (show ¬ ((97 + i : Nat) : Int) = ((97 + k : Nat) : Int) by omega)]
      simp))]
    have em : (List.range 2).map (fun j => F (a + ([] : List Int).length + (wl 2).length + 1 + j)) = [F (a + ([] : List Int).length + (wl 2).length + 1 + 0), F (a + ([] : List Int).length + (wl 2).length + 1 + 1)] := rfl
    rw [em, Nat.add_zero, f0, f1]
  refine ⟨([115, ((97 + k : Nat) : Int)], (1 + z % 25 : Nat), (z / 32 % 6 : Nat), (1 + z / 256 % 12 : Nat)), ?_, rfl, a2, h0.drop⟩
  have hend : a + ([] : List Int).length + (wl 2).length + 1 + 2 + 1 + (dgL (1 + z % 25)).length + 1 + (dgL (z / 32 % 6)).length + 1 + (dgL (1 + z / 256 % 12)).length + 1 = a + (shP G k).length := by
    rw [hP]
    simp only [List.length_append, List.length_cons, List.length_nil]
    omega
  unfold sShip
  rw [if_neg (fun q => by have := q.1; omega), a1]
  show sb (sName F N L (tok F N (a + ([] : List Int).length + (wl 2).length))) _ = _
  rw [hname]
  show sb (sNum F 1 60 (tok F N (a + ([] : List Int).length + (wl 2).length + 1 + 2))) _ = _
  rw [d1]
  show sb (sNum F 0 9 (tok F N (tok F N (a + ([] : List Int).length + (wl 2).length + 1 + 2)).2.2)) _ = _
  rw [d2, e1]
  show sb (sNum F 1 99 (tok F N (tok F N (tok F N (a + ([] : List Int).length + (wl 2).length + 1 + 2)).2.2).2.2)) _ = _
  rw [d2, e2, g1]
  show sb (sSem F N (tok F N (tok F N (tok F N (tok F N (a + ([] : List Int).length + (wl 2).length + 1 + 2)).2.2).2.2).2.2)) _ = _
  rw [d2, e2, g2, i1, hend]
  rfl
theorem sShips_ok {G : GT} {F : Nat → Int} {N : Nat} : ∀ (d k n a : Nat) (L : List Sh), d + 1 ≤ n → k + d ≤ 6 → 1 ≤ k + d → L.length = k → (∀ (i : Nat) (s : Sh), L[i]? = some s → s.1 = [115, ((97 + i : Nat) : Int)]) → Sees F N a (rsP G k d) → ∃ L' : List Sh, sShips F N n L (tok F N a) = .inr L' ∧ L'.length = k + d
  | 0, k, n, a, L, hn, h6, h1, hL, hna, h => by
    obtain ⟨n, rfl⟩ : ∃ m, n = m + 1 := ⟨n - 1, by omega⟩
    refine ⟨L, ?_, by omega⟩
    rw [sShips, tok_e h, if_pos ⟨fun q => by rw [q] at hL; simp at hL; omega, rfl⟩]
  | d + 1, k, n, a, L, hn, h6, h1, hL, hna, h => by
    obtain ⟨n, rfl⟩ : ∃ m, n = m + 1 := ⟨n - 1, by omega⟩
    obtain ⟨s, s1, s2, s3, s4⟩ := sShip_ok (G := G) (k := k) (E := rsP G (k + 1) d) (by omega) hL hna h
    obtain ⟨L', l1, l2⟩ := sShips_ok d (k + 1) n (a + (shP G k).length) (L ++ [s]) (by omega) (by omega) (by omega) (by rw [List.length_append, hL]; rfl) (fun i t hi => by
      by_cases q : i < L.length
      · rw [List.getElem?_append_left q] at hi
        exact hna i t hi
      · rw [List.getElem?_append_right (by omega)] at hi
        have hi0 : i - L.length = 0 := by
          have := (List.getElem?_eq_some_iff.mp hi).1
          simp at this
          omega
        rw [hi0] at hi
        simp at hi
        rw [← hi, s2, show i = k by omega]) s4
    refine ⟨L', ?_, by omega⟩
    rw [sShips, if_neg (fun q => by rw [s3] at q; exact absurd q.2 (by decide)), s1]
    exact l1
theorem sSetup_ok {G : GT} {F : Nat → Int} {N ships : Nat} (h1 : 1 ≤ ships) (h6 : ships ≤ 6) (h : Sees F N 0 (txt G ships)) : ∃ r, sSetup F N = .inr r ∧ r.2.2.2.length = ships := by
  have hx : txt G ships = hdT G ++ rsP G 0 ships := by
    have := txt_rs (G := G) ships 0
    rwa [Nat.zero_add] at this
  have p1 := pkN_lt (G := G) (k := 1) (n := 8) (by omega)
  have p2 := pkN_lt (G := G) (k := 2) (n := 8) (by omega)
  have p3 := pkN_lt (G := G) (k := 3) (n := 6) (by omega)
  rw [hx] at h
  have h0 := h
  unfold hdT at h
  rw [kL3] at h
  simp only [List.append_assoc, List.cons_append, List.nil_append] at h
  obtain ⟨a1, a2, a3, a4⟩ := sWord_ok (s := []) (k := 1) (by decide) (by decide) (Or.inl rfl) (by decide) h
  obtain ⟨b1, b2, b3⟩ := sNum_ok (lo := 0) (hi := 30) (by omega) (by decide) (by omega) a4
  obtain ⟨c1, c2, c3⟩ := sNum_ok (lo := 0) (hi := 30) (by omega) (by decide) (by omega) b3
  obtain ⟨d1, d2, d3⟩ := sNum_ok (lo := 0) (hi := 9) (by omega) (by decide) (by omega) c3
  obtain ⟨e1, e2⟩ := sSem_ok d3
  obtain ⟨L', l1, l2⟩ := sShips_ok (G := G) ships 0 11 _ [] (by omega) (by omega) (by omega) rfl (fun i s hi => by simp at hi) e2
  refine ⟨(((pkN G 1 8 : Nat) : Int), ((pkN G 2 8 : Nat) : Int), ((pkN G 3 6 : Nat) : Int), L'), ?_, by rw [← Nat.zero_add ships]; exact l2⟩
  unfold sSetup sSet
  rw [a1]
  show sb (sb (sNum F 0 30 (tok F N (0 + ([] : List Int).length + (wl 1).length))) _) _ = _
  rw [b1]
  show sb (sb (sNum F 0 30 (tok F N (tok F N (0 + ([] : List Int).length + (wl 1).length)).2.2)) _) _ = _
  rw [b2, c1]
  show sb (sb (sNum F 0 9 (tok F N (tok F N (tok F N (0 + ([] : List Int).length + (wl 1).length)).2.2).2.2)) _) _ = _
  rw [b2, c2, d1]
  show sb (sb (sSem F N (tok F N (tok F N (tok F N (tok F N (0 + ([] : List Int).length + (wl 1).length)).2.2).2.2).2.2)) _) _ = _
  rw [b2, c2, d2, e1]
  show sb (sShips F N 11 [] (tok F N _)) _ = _
  rw [l1]
  rfl
theorem txt_rg {G : GT} : ∀ (n : Nat), n ≤ 6 → ∀ c ∈ txt G n, 0 ≤ c ∧ c ≤ 127 := by
  have hk : ∀ i, i < 5 → ∀ c ∈ kL i, 0 ≤ c ∧ c ≤ 127 := by decide +kernel
  have hd : ∀ z, z < 100 → ∀ c ∈ dgL z, 0 ≤ c ∧ c ≤ 127 := fun z hz c hc => by
    have := (dgL_dg hz).2 c hc
    unfold isDg at this
    rw [decide_eq_true_eq] at this
    omega
  intro n
  induction n with
  | zero =>
    intro _ c hc
    have p1 := pkN_lt (G := G) (k := 1) (n := 8) (by omega)
    have p2 := pkN_lt (G := G) (k := 2) (n := 8) (by omega)
    have p3 := pkN_lt (G := G) (k := 3) (n := 6) (by omega)
    replace hc : c ∈ hdT G := hc
    unfold hdT at hc
    simp only [List.mem_append, List.mem_singleton] at hc
    rcases hc with ((((((q | q) | q) | q) | q) | q) | q)
    · exact hk 3 (by omega) c q
    · exact hd _ (by omega) c q
    · omega
    · exact hd _ (by omega) c q
    · omega
    · exact hd _ (by omega) c q
    · omega
  | succ n ih =>
    intro hn c hc
    replace hc : c ∈ shT G n (txt G n) := hc
    unfold shT at hc
    simp only [List.mem_append, List.mem_singleton] at hc
    rcases hc with (((((((((q | q) | q) | q) | q) | q) | q) | q) | q) | q)
    · exact ih (by omega) c q
    · exact hk 4 (by omega) c q
    · omega
    · omega
    · exact hd _ (by omega) c q
    · omega
    · exact hd _ (by omega) c q
    · omega
    · exact hd _ (by omega) c q
    · omega
