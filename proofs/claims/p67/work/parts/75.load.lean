/-! load -/
/-- a plan that has just begun -/
def P0 (th : Int) : Pl := (th, 0, 0, 0, 0, [], [])
theorem P0_ok {S : Su} {th : Int} (h : 0 ≤ th ∧ th ≤ 9) : okP S (P0 th) := ⟨h, ⟨Int.le_refl _, by show (0 : Int) ≤ 1200; omega⟩, ⟨by show 0 ≤ 20; omega, by show 0 ≤ 8; omega⟩, fun b hb => absurd hb List.not_mem_nil, fun b hb => absurd hb List.not_mem_nil, List.Pairwise.nil⟩
theorem X_startWithDraft {V : VV} {q d : Nat} (hq : q < 2) (hd : d < 2) (h2 : V 0 2 = (q : Int)) (h3 : V 0 3 = (d : Int)) : ∃ V' : VV, f5_startWithDraft V = some V' ∧ V' 0 2 = (d : Int) ∧ V' 0 3 = (q : Int) ∧ V' 0 8 = 0 ∧ (∀ i, i ≠ 2 → i ≠ 3 → i ≠ 8 → V' 0 i = V 0 i) ∧ rpC V' 53 (P0 (V (aS d) 2)) ∧ (∀ s, s < 2 → V' 73 s = 0) ∧ ∀ k, k ≠ 0 → k ≠ 53 → k ≠ 73 → V' k = V k := by
  have hqd : (V 0 2).toNat = q := by rw [h2]; omega
  have hdd : (V 0 3).toNat = d := by rw [h3]; omega
  have had : aS d ≠ 0 := by unfold aS; omega
  unfold f5_startWithDraft
  rw [hqd, hdd, ck_t hq, ck_t hd]
  obtain ⟨U, hU⟩ : ∃ U, U = up2 (up2 V 0 2 ((d : Nat) : Int)) 0 3 ((q : Nat) : Int) := ⟨_, rfl⟩
  rw [← hU]
  have u2 : U 0 2 = (d : Int) := by rw [hU, up2_n (by omega), up2_s]
  have u2d : (U 0 2).toNat = d := by rw [u2]; omega
  have uk : ∀ k, k ≠ 0 → U k = V k := fun k hk => by rw [hU, up2_r hk, up2_r hk]
  rw [u2d, ck_t hd, uk _ had]
  unfold f1_startAnew
  rw [ck_t p0, aP0, bd_s]
  obtain ⟨A, hA⟩ : ∃ A, A = up2 (up2 (up2 (up2 (up2 (up2 (up2 U 53 0 (V (aS d) 2)) 53 1 0) 53 2 0) 53 3 0) 53 4 0) 53 5 0) 53 10 0 := ⟨_, rfl⟩
  rw [← hA]
  have ak : ∀ k, k ≠ 53 → A k = U k := fun k hk => by rw [hA, up2_r hk, up2_r hk, up2_r hk, up2_r hk, up2_r hk, up2_r hk, up2_r hk]
  have hL : f5_startWithDraft_L39 FU 0 (up2 A 0 8 0) = some (up2 (up2 (up2 A 0 8 0) 73 0 0) 73 1 0) := by
    rw [show FU = 4997 + 1 + 1 + 1 from rfl, f5_startWithDraft_L39, if_neg (by decide +kernel), ck_t (by decide), show (0 : Int) + 1 = 1 from rfl, f5_startWithDraft_L39, if_neg (by decide +kernel), ck_t (by decide), show (1 : Int) + 1 = 2 from rfl, f5_startWithDraft_L39, if_pos (by decide +kernel)]
    rfl
  rw [hL, bd_s]
  have w53 : ∀ i, up2 (up2 (up2 A 0 8 0) 73 0 0) 73 1 0 53 i = A 53 i := fun i => by rw [up2_r (by omega), up2_r (by omega), up2_r (by omega)]
  refine ⟨_, rfl, ?_, ?_, ?_, fun i i1 i2 i3 => ?_, rpC_mk ?_ ?_ ?_ ?_ ?_ ?_ ?_ rfl rfl, fun s hs => ?_, fun k k1 k2 k3 => ?_⟩
  · rw [up2_r (by omega), up2_r (by omega), up2_n (by omega), ak 0 (by omega), u2]
  · rw [up2_r (by omega), up2_r (by omega), up2_n (by omega), ak 0 (by omega), hU, up2_s]
  · rw [up2_r (by omega), up2_r (by omega), up2_s]
  · rw [up2_r (by omega), up2_r (by omega), up2_n (by omega), ak 0 (by omega), hU, up2_n (by omega), up2_n (by omega)]
  · rw [w53, hA, up2_n (by omega), up2_n (by omega), up2_n (by omega), up2_n (by omega), up2_n (by omega), up2_n (by omega), up2_s]
  · rw [w53, hA, up2_n (by omega), up2_n (by omega), up2_n (by omega), up2_n (by omega), up2_n (by omega), up2_s]
  · rw [w53, hA, up2_n (by omega), up2_n (by omega), up2_n (by omega), up2_n (by omega), up2_s]
  · rw [w53, hA, up2_n (by omega), up2_n (by omega), up2_n (by omega), up2_s]
  · rw [w53, hA, up2_n (by omega), up2_n (by omega), up2_s]
  · rw [w53, hA, up2_n (by omega), up2_s]; rfl
  · rw [w53, hA, up2_s]; rfl
  · by_cases z : s = 1
    · rw [z, up2_s]
    · rw [up2_n (by omega), show s = 0 by omega, up2_s]
  · rw [up2_r k3, up2_r k3, up2_r k1, ak k k2, uk k k1]
