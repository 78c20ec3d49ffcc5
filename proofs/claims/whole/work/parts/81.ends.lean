/-! which exceptions a call may end with (printed by g80.py) -/
theorem er_e {a E : String} {V V1 : VV} {l : List String} (h : (some (Except.error a, V) : Option (Except String Int × VV)) = some (.error E, V1)) (hm : a ∈ l) : E ∈ l := by cases h; exact hm
theorem er_o {r : Int} {E : String} {V V1 : VV} {l : List String} (h : (some (Except.ok r, V) : Option (Except String Int × VV)) = some (.error E, V1)) : E ∈ l := by cases h
theorem ite_c {α : Type} {c : Prop} [Decidable c] {a b r : α} {p : Prop} (h : (if c then a else b) = r) (h1 : c → a = r → p) (h2 : ¬ c → b = r → p) : p := by
  by_cases q : c
  · exact h1 q (ite_p q h)
  · exact h2 q (ite_m q h)
theorem cf_ne {V : VV} {x r : Int} (h : f5_cancelFault V x = some r) : ¬ nrm r = 2 := by
  unfold f5_cancelFault at h
  obtain ⟨_, _, h⟩ := bd_of h
  refine ite_c h (fun c9 h => ?_) (fun c9 h => ?_)
  · cases h; decide +kernel
  · obtain ⟨_, h⟩ := ck_of h
    refine ite_c h (fun c9 h => ?_) (fun c9 h => ?_)
    · cases h; decide +kernel
    · cases h; decide +kernel
theorem af_ne {V : VV} {x r : Int} (h : f5_advanceFault V x = some r) : ¬ nrm r = 1 := by
  unfold f5_advanceFault at h
  obtain ⟨_, _, h⟩ := bd_of h
  refine ite_c h (fun c9 h => ?_) (fun c9 h => ?_)
  · cases h; decide +kernel
  · refine ite_c h (fun c9 h => ?_) (fun c9 h => ?_)
    · cases h; decide +kernel
    · cases h; decide +kernel
theorem er_append {V V1 : VV} {x1 : Int} {x2 : Int} {x3 : Int} {x4 : Int} {x5 : Int} {E : String} (h : f5_append V x1 x2 x3 x4 x5 = some (.error E, V1)) : E ∈ [eS] := by
  unfold f5_append at h
  obtain ⟨_, _, h⟩ := bd_of h
  refine ite_c h (fun c9 h => ?_) (fun c9 h => ?_)
  · exact er_e h List.mem_cons_self
  · obtain ⟨_, _, h⟩ := bd_of h
    obtain ⟨_, _, h⟩ := bd_of h
    obtain ⟨_, _, h⟩ := bd_of h
    obtain ⟨_, _, h⟩ := bd_of h
    obtain ⟨_, _, h⟩ := bd_of h
    exact er_o h
theorem er_truncate {V V1 : VV} {x1 : Int} {E : String} (h : f5_truncate V x1 = some (.error E, V1)) : E ∈ [eA] := by
  unfold f5_truncate at h
  obtain ⟨_, _, h⟩ := bd_of h
  refine ite_c h (fun c9 h => ?_) (fun c9 h => ?_)
  · exact er_e h List.mem_cons_self
  · exact er_o h
theorem er_load {V V1 : VV} {E : String} (h : f5_load V = some (.error E, V1)) : E ∈ [eA] := by
  unfold f5_load at h
  obtain ⟨_, _, _, h⟩ := bd2_of h
  refine ite_c h (fun c9 h => ?_) (fun c9 h => ?_)
  · exact er_e h List.mem_cons_self
  · obtain ⟨_, _, h⟩ := bd_of h
    obtain ⟨_, h⟩ := ck_of h
    exact er_o h
theorem er_transitTime {V V1 : VV} {x1 : Int} {E : String} (h : f5_transitTime V x1 = some (.error E, V1)) : E ∈ [eI] := by
  unfold f5_transitTime at h
  obtain ⟨_, _, h⟩ := bd_of h
  refine ite_c h (fun c9 h => ?_) (fun c9 h => ?_)
  · exact er_e h List.mem_cons_self
  · obtain ⟨_, _, h⟩ := bd_of h
    exact er_o h
theorem er_iceClass {V V1 : VV} {x1 : Int} {E : String} (h : f5_iceClass V x1 = some (.error E, V1)) : E ∈ [eI] := by
  unfold f5_iceClass at h
  obtain ⟨_, _, h⟩ := bd_of h
  refine ite_c h (fun c9 h => ?_) (fun c9 h => ?_)
  · exact er_e h List.mem_cons_self
  · obtain ⟨_, h⟩ := ck_of h
    obtain ⟨_, h⟩ := ck_of h
    exact er_o h
theorem er_weight {V V1 : VV} {x1 : Int} {E : String} (h : f5_weight V x1 = some (.error E, V1)) : E ∈ [eI] := by
  unfold f5_weight at h
  obtain ⟨_, _, h⟩ := bd_of h
  refine ite_c h (fun c9 h => ?_) (fun c9 h => ?_)
  · exact er_e h List.mem_cons_self
  · obtain ⟨_, h⟩ := ck_of h
    obtain ⟨_, h⟩ := ck_of h
    exact er_o h
theorem er_shipNameByte {V V1 : VV} {x1 : Int} {x2 : Int} {E : String} (h : f5_shipNameByte V x1 x2 = some (.error E, V1)) : E ∈ [eI] := by
  unfold f5_shipNameByte at h
  obtain ⟨_, _, h⟩ := bd_of h
  refine ite_c h (fun c9 h => ?_) (fun c9 h => ?_)
  · exact er_e h List.mem_cons_self
  · obtain ⟨_, h⟩ := ck_of h
    obtain ⟨_, h⟩ := ck_of h
    obtain ⟨_, _, h⟩ := bd_of h
    refine ite_c h (fun c9 h => ?_) (fun c9 h => ?_)
    · exact er_e h List.mem_cons_self
    · obtain ⟨_, h⟩ := ck_of h
      exact er_o h
theorem er_findShip {V V1 : VV} {E : String} (h : f5_findShip V = some (.error E, V1)) : E ∈ [eN] := by
  unfold f5_findShip at h
  obtain ⟨_, h⟩ := ck_of h
  obtain ⟨_, _, h⟩ := bd_of h
  refine ite_c h (fun c9 h => ?_) (fun c9 h => ?_)
  · refine ite_c h (fun c9 h => ?_) (fun c9 h => ?_)
    · exact er_e h List.mem_cons_self
    · exact er_o h
  · refine ite_c h (fun c9 h => ?_) (fun c9 h => ?_)
    · exact er_e h List.mem_cons_self
    · exact er_o h
theorem er_bookedShip {V V1 : VV} {x1 : Int} {E : String} (h : f5_bookedShip V x1 = some (.error E, V1)) : E ∈ [eI] := by
  unfold f5_bookedShip at h
  obtain ⟨_, _, h⟩ := bd_of h
  refine ite_c h (fun c9 h => ?_) (fun c9 h => ?_)
  · exact er_e h List.mem_cons_self
  · obtain ⟨_, h⟩ := ck_of h
    exact er_o h
theorem er_startMinute {V V1 : VV} {x1 : Int} {E : String} (h : f5_startMinute V x1 = some (.error E, V1)) : E ∈ [eI] := by
  unfold f5_startMinute at h
  obtain ⟨_, _, h⟩ := bd_of h
  refine ite_c h (fun c9 h => ?_) (fun c9 h => ?_)
  · exact er_e h List.mem_cons_self
  · obtain ⟨_, h⟩ := ck_of h
    exact er_o h
theorem er_endMinute {V V1 : VV} {x1 : Int} {E : String} (h : f5_endMinute V x1 = some (.error E, V1)) : E ∈ [eI] := by
  unfold f5_endMinute at h
  obtain ⟨_, _, h⟩ := bd_of h
  refine ite_c h (fun c9 h => ?_) (fun c9 h => ?_)
  · exact er_e h List.mem_cons_self
  · obtain ⟨_, h⟩ := ck_of h
    exact er_o h
theorem er_isInbound {V V1 : VV} {x1 : Int} {E : String} (h : f5_isInbound V x1 = some (.error E, V1)) : E ∈ [eI] := by
  unfold f5_isInbound at h
  obtain ⟨_, _, h⟩ := bd_of h
  refine ite_c h (fun c9 h => ?_) (fun c9 h => ?_)
  · exact er_e h List.mem_cons_self
  · obtain ⟨_, h⟩ := ck_of h
    obtain ⟨_, h⟩ := ck_of h
    exact er_o h
theorem er_isFinished {V V1 : VV} {x1 : Int} {E : String} (h : f5_isFinished V x1 = some (.error E, V1)) : E ∈ [eI] := by
  unfold f5_isFinished at h
  obtain ⟨_, _, h⟩ := bd_of h
  refine ite_c h (fun c9 h => ?_) (fun c9 h => ?_)
  · exact er_e h List.mem_cons_self
  · obtain ⟨_, h⟩ := ck_of h
    refine ite_c h (fun c9 h => ?_) (fun c9 h => ?_)
    · exact er_o h
    · exact er_o h
theorem er_isUnderWay {V V1 : VV} {x1 : Int} {E : String} (h : f5_isUnderWay V x1 = some (.error E, V1)) : E ∈ [eI] := by
  unfold f5_isUnderWay at h
  obtain ⟨_, _, h⟩ := bd_of h
  refine ite_c h (fun c9 h => ?_) (fun c9 h => ?_)
  · exact er_e h List.mem_cons_self
  · obtain ⟨_, h⟩ := ck_of h
    refine ite_c h (fun c9 h => ?_) (fun c9 h => ?_)
    · exact er_o h
    · refine ite_c h (fun c9 h => ?_) (fun c9 h => ?_)
      · exact er_o h
      · exact er_o h
theorem er_occupancy {V V1 : VV} {x1 : Int} {E : String} (h : f5_occupancy V x1 = some (.error E, V1)) : E ∈ [eA] := by
  unfold f5_occupancy at h
  obtain ⟨_, _, h⟩ := bd_of h
  refine ite_c h (fun c9 h => ?_) (fun c9 h => ?_)
  · exact er_e h List.mem_cons_self
  · obtain ⟨_, _, h⟩ := bd_of h
    exact er_o h
theorem er_emptyMinutes {V V1 : VV} {x1 : Int} {x2 : Int} {E : String} (h : f5_emptyMinutes V x1 x2 = some (.error E, V1)) : E ∈ [eA] := by
  unfold f5_emptyMinutes at h
  obtain ⟨_, _, h⟩ := bd_of h
  obtain ⟨_, _, h⟩ := bd_of h
  refine ite_c h (fun c9 h => ?_) (fun c9 h => ?_)
  · exact er_e h List.mem_cons_self
  · obtain ⟨_, _, h⟩ := bd_of h
    exact er_o h
theorem er_longestEmptyRun {V V1 : VV} {x1 : Int} {x2 : Int} {E : String} (h : f5_longestEmptyRun V x1 x2 = some (.error E, V1)) : E ∈ [eA] := by
  unfold f5_longestEmptyRun at h
  obtain ⟨_, _, h⟩ := bd_of h
  obtain ⟨_, _, h⟩ := bd_of h
  refine ite_c h (fun c9 h => ?_) (fun c9 h => ?_)
  · exact er_e h List.mem_cons_self
  · obtain ⟨_, _, h⟩ := bd_of h
    exact er_o h
theorem er_conflictCount {V V1 : VV} {x1 : Int} {x2 : Int} {x3 : Int} {E : String} (h : f5_conflictCount V x1 x2 x3 = some (.error E, V1)) : E ∈ [eI, eA] := by
  unfold f5_conflictCount at h
  obtain ⟨_, _, h⟩ := bd_of h
  refine ite_c h (fun c9 h => ?_) (fun c9 h => ?_)
  · exact er_e h List.mem_cons_self
  · obtain ⟨_, _, h⟩ := bd_of h
    refine ite_c h (fun c9 h => ?_) (fun c9 h => ?_)
    · exact er_e h (List.mem_cons_of_mem _ List.mem_cons_self)
    · obtain ⟨_, _, h⟩ := bd_of h
      obtain ⟨_, _, h⟩ := bd_of h
      exact er_o h
theorem er_firstConflict {V V1 : VV} {x1 : Int} {x2 : Int} {x3 : Int} {E : String} (h : f5_firstConflict V x1 x2 x3 = some (.error E, V1)) : E ∈ [eI, eA] := by
  unfold f5_firstConflict at h
  obtain ⟨_, _, h⟩ := bd_of h
  refine ite_c h (fun c9 h => ?_) (fun c9 h => ?_)
  · exact er_e h List.mem_cons_self
  · obtain ⟨_, _, h⟩ := bd_of h
    refine ite_c h (fun c9 h => ?_) (fun c9 h => ?_)
    · exact er_e h (List.mem_cons_of_mem _ List.mem_cons_self)
    · obtain ⟨_, _, h⟩ := bd_of h
      obtain ⟨_, _, h⟩ := bd_of h
      exact er_o h
theorem er_earliestStart {V V1 : VV} {x1 : Int} {x2 : Int} {x3 : Int} {E : String} (h : f5_earliestStart V x1 x2 x3 = some (.error E, V1)) : E ∈ [eI, eA] := by
  unfold f5_earliestStart at h
  obtain ⟨_, _, h⟩ := bd_of h
  refine ite_c h (fun c9 h => ?_) (fun c9 h => ?_)
  · exact er_e h List.mem_cons_self
  · obtain ⟨_, _, h⟩ := bd_of h
    refine ite_c h (fun c9 h => ?_) (fun c9 h => ?_)
    · exact er_e h (List.mem_cons_of_mem _ List.mem_cons_self)
    · obtain ⟨_, _, h⟩ := bd_of h
      obtain ⟨_, _, h⟩ := bd_of h
      exact er_o h
theorem er_latestStart {V V1 : VV} {x1 : Int} {x2 : Int} {x3 : Int} {E : String} (h : f5_latestStart V x1 x2 x3 = some (.error E, V1)) : E ∈ [eI, eA] := by
  unfold f5_latestStart at h
  obtain ⟨_, _, h⟩ := bd_of h
  refine ite_c h (fun c9 h => ?_) (fun c9 h => ?_)
  · exact er_e h List.mem_cons_self
  · obtain ⟨_, _, h⟩ := bd_of h
    refine ite_c h (fun c9 h => ?_) (fun c9 h => ?_)
    · exact er_e h (List.mem_cons_of_mem _ List.mem_cons_self)
    · obtain ⟨_, _, h⟩ := bd_of h
      obtain ⟨_, _, h⟩ := bd_of h
      exact er_o h
theorem er_bestCancellation {V V1 : VV} {x1 : Int} {x2 : Int} {x3 : Int} {E : String} (h : f5_bestCancellation V x1 x2 x3 = some (.error E, V1)) : E ∈ [eI, eA, eN] := by
  unfold f5_bestCancellation at h
  obtain ⟨_, _, h⟩ := bd_of h
  refine ite_c h (fun c9 h => ?_) (fun c9 h => ?_)
  · exact er_e h List.mem_cons_self
  · obtain ⟨_, _, h⟩ := bd_of h
    refine ite_c h (fun c9 h => ?_) (fun c9 h => ?_)
    · exact er_e h (List.mem_cons_of_mem _ List.mem_cons_self)
    · obtain ⟨_, _, h⟩ := bd_of h
      refine ite_c h (fun c9 h => ?_) (fun c9 h => ?_)
      · exact er_e h (List.mem_cons_of_mem _ (List.mem_cons_of_mem _ List.mem_cons_self))
      · obtain ⟨_, _, h⟩ := bd_of h
        obtain ⟨_, _, h⟩ := bd_of h
        exact er_o h
theorem er_slack {V V1 : VV} {x1 : Int} {E : String} (h : f5_slack V x1 = some (.error E, V1)) : E ∈ [eI] := by
  unfold f5_slack at h
  obtain ⟨_, _, h⟩ := bd_of h
  refine ite_c h (fun c9 h => ?_) (fun c9 h => ?_)
  · exact er_e h List.mem_cons_self
  · obtain ⟨_, h⟩ := ck_of h
    obtain ⟨_, _, h⟩ := bd_of h
    exact er_o h
theorem er_whyNotMovable {V V1 : VV} {x1 : Int} {x2 : Int} {E : String} (h : f5_whyNotMovable V x1 x2 = some (.error E, V1)) : E ∈ [eI, eA] := by
  unfold f5_whyNotMovable at h
  obtain ⟨_, _, h⟩ := bd_of h
  refine ite_c h (fun c9 h => ?_) (fun c9 h => ?_)
  · exact er_e h List.mem_cons_self
  · obtain ⟨_, _, h⟩ := bd_of h
    refine ite_c h (fun c9 h => ?_) (fun c9 h => ?_)
    · exact er_e h (List.mem_cons_of_mem _ List.mem_cons_self)
    · obtain ⟨_, _, h⟩ := bd_of h
      exact er_o h
theorem er_requestedShip {V V1 : VV} {x1 : Int} {E : String} (h : f5_requestedShip V x1 = some (.error E, V1)) : E ∈ [eI] := by
  unfold f5_requestedShip at h
  obtain ⟨_, _, h⟩ := bd_of h
  refine ite_c h (fun c9 h => ?_) (fun c9 h => ?_)
  · exact er_e h List.mem_cons_self
  · obtain ⟨_, h⟩ := ck_of h
    exact er_o h
theorem er_isRequestInbound {V V1 : VV} {x1 : Int} {E : String} (h : f5_isRequestInbound V x1 = some (.error E, V1)) : E ∈ [eI] := by
  unfold f5_isRequestInbound at h
  obtain ⟨_, _, h⟩ := bd_of h
  refine ite_c h (fun c9 h => ?_) (fun c9 h => ?_)
  · exact er_e h List.mem_cons_self
  · obtain ⟨_, h⟩ := ck_of h
    obtain ⟨_, h⟩ := ck_of h
    exact er_o h
theorem er_earliestRequested {V V1 : VV} {x1 : Int} {E : String} (h : f5_earliestRequested V x1 = some (.error E, V1)) : E ∈ [eI] := by
  unfold f5_earliestRequested at h
  obtain ⟨_, _, h⟩ := bd_of h
  refine ite_c h (fun c9 h => ?_) (fun c9 h => ?_)
  · exact er_e h List.mem_cons_self
  · obtain ⟨_, h⟩ := ck_of h
    exact er_o h
theorem er_latestRequested {V V1 : VV} {x1 : Int} {E : String} (h : f5_latestRequested V x1 = some (.error E, V1)) : E ∈ [eI] := by
  unfold f5_latestRequested at h
  obtain ⟨_, _, h⟩ := bd_of h
  refine ite_c h (fun c9 h => ?_) (fun c9 h => ?_)
  · exact er_e h List.mem_cons_self
  · obtain ⟨_, h⟩ := ck_of h
    exact er_o h
theorem er_whyNotFeasible {V V1 : VV} {x1 : Int} {E : String} (h : f5_whyNotFeasible V x1 = some (.error E, V1)) : E ∈ [eI] := by
  unfold f5_whyNotFeasible at h
  obtain ⟨_, _, h⟩ := bd_of h
  refine ite_c h (fun c9 h => ?_) (fun c9 h => ?_)
  · exact er_e h List.mem_cons_self
  · obtain ⟨_, h⟩ := ck_of h
    refine ite_c h (fun c9 h => ?_) (fun c9 h => ?_)
    · refine ite_c h (fun c9 h => ?_) (fun c9 h => ?_)
      · exact er_o h
      · obtain ⟨_, _, h⟩ := bd_of h
        refine ite_c h (fun c9 h => ?_) (fun c9 h => ?_)
        · exact er_o h
        · exact er_o h
    · exact er_o h
theorem er_isSelected {V V1 : VV} {x1 : Int} {E : String} (h : f5_isSelected V x1 = some (.error E, V1)) : E ∈ [eI] := by
  unfold f5_isSelected at h
  obtain ⟨_, _, h⟩ := bd_of h
  refine ite_c h (fun c9 h => ?_) (fun c9 h => ?_)
  · exact er_e h List.mem_cons_self
  · obtain ⟨_, _, _, h⟩ := bd2_of h
    obtain ⟨_, _, h⟩ := bd_of h
    refine ite_c h (fun c9 h => ?_) (fun c9 h => ?_)
    · exact er_o h
    · exact er_o h
theorem er_servedWithout {V V1 : VV} {x1 : Int} {E : String} (h : f5_servedWithout V x1 = some (.error E, V1)) : E ∈ [eI] := by
  unfold f5_servedWithout at h
  obtain ⟨_, _, h⟩ := bd_of h
  refine ite_c h (fun c9 h => ?_) (fun c9 h => ?_)
  · exact er_e h List.mem_cons_self
  · obtain ⟨_, _, h⟩ := bd_of h
    obtain ⟨_, _, _, h⟩ := bd2_of h
    obtain ⟨_, _, h⟩ := bd_of h
    exact er_o h
theorem er_feasibleStart {V V1 : VV} {x1 : Int} {E : String} (h : f5_feasibleStart V x1 = some (.error E, V1)) : E ∈ [eI] := by
  unfold f5_feasibleStart at h
  obtain ⟨_, _, h⟩ := bd_of h
  refine ite_c h (fun c9 h => ?_) (fun c9 h => ?_)
  · exact er_e h List.mem_cons_self
  · obtain ⟨_, _, h⟩ := bd_of h
    exact er_o h
theorem er_book {V V1 : VV} {x1 : Int} {x2 : Int} {x3 : Int} {E : String} (h : f5_book V x1 x2 x3 = some (.error E, V1)) : E ∈ [eI, eA, eS] := by
  unfold f5_book at h
  obtain ⟨_, _, h⟩ := bd_of h
  refine ite_c h (fun c9 h => ?_) (fun c9 h => ?_)
  · exact er_e h List.mem_cons_self
  · refine ite_c h (fun c9 h => ?_) (fun c9 h => ?_)
    · exact er_e h (List.mem_cons_of_mem _ List.mem_cons_self)
    · refine ite_c h (fun c9 h => ?_) (fun c9 h => ?_)
      · exact er_e h (List.mem_cons_of_mem _ (List.mem_cons_of_mem _ List.mem_cons_self))
      · obtain ⟨_, _, h⟩ := bd_of h
        obtain ⟨_, _, _, h⟩ := bd2_of h
        exact er_o h
theorem er_request {V V1 : VV} {x1 : Int} {x2 : Int} {x3 : Int} {x4 : Int} {E : String} (h : f5_request V x1 x2 x3 x4 = some (.error E, V1)) : E ∈ [eI, eA, eS] := by
  unfold f5_request at h
  obtain ⟨_, _, h⟩ := bd_of h
  refine ite_c h (fun c9 h => ?_) (fun c9 h => ?_)
  · exact er_e h List.mem_cons_self
  · refine ite_c h (fun c9 h => ?_) (fun c9 h => ?_)
    · exact er_e h (List.mem_cons_of_mem _ List.mem_cons_self)
    · refine ite_c h (fun c9 h => ?_) (fun c9 h => ?_)
      · exact er_e h (List.mem_cons_of_mem _ (List.mem_cons_of_mem _ List.mem_cons_self))
      · obtain ⟨_, _, h⟩ := bd_of h
        obtain ⟨_, _, _, h⟩ := bd2_of h
        exact er_o h
theorem er_cancel {V V1 : VV} {x1 : Int} {E : String} (h : f5_cancel V x1 = some (.error E, V1)) : E ∈ [eI, eS] := by
  unfold f5_cancel at h
  obtain ⟨r, hr, h⟩ := bd_of h
  have h9 := cf_ne hr
  refine ite_c h (fun c9 h => ?_) (fun c9 h => ?_)
  · exact er_e h List.mem_cons_self
  · refine ite_c h (fun c9 h => ?_) (fun c9 h => ?_)
    · exact absurd c9 h9
    · refine ite_c h (fun c9 h => ?_) (fun c9 h => ?_)
      · exact er_e h (List.mem_cons_of_mem _ List.mem_cons_self)
      · obtain ⟨_, _, h⟩ := bd_of h
        obtain ⟨_, _, _, h⟩ := bd2_of h
        exact er_o h
theorem er_moveBooking {V V1 : VV} {x1 : Int} {x2 : Int} {E : String} (h : f5_moveBooking V x1 x2 = some (.error E, V1)) : E ∈ [eI, eA, eS] := by
  unfold f5_moveBooking at h
  obtain ⟨_, _, h⟩ := bd_of h
  refine ite_c h (fun c9 h => ?_) (fun c9 h => ?_)
  · exact er_e h List.mem_cons_self
  · refine ite_c h (fun c9 h => ?_) (fun c9 h => ?_)
    · exact er_e h (List.mem_cons_of_mem _ List.mem_cons_self)
    · refine ite_c h (fun c9 h => ?_) (fun c9 h => ?_)
      · exact er_e h (List.mem_cons_of_mem _ (List.mem_cons_of_mem _ List.mem_cons_self))
      · obtain ⟨_, _, h⟩ := bd_of h
        obtain ⟨_, _, _, h⟩ := bd2_of h
        exact er_o h
theorem er_withdraw {V V1 : VV} {x1 : Int} {E : String} (h : f5_withdraw V x1 = some (.error E, V1)) : E ∈ [eI] := by
  unfold f5_withdraw at h
  obtain ⟨_, _, h⟩ := bd_of h
  refine ite_c h (fun c9 h => ?_) (fun c9 h => ?_)
  · exact er_e h List.mem_cons_self
  · obtain ⟨_, _, h⟩ := bd_of h
    obtain ⟨_, h⟩ := ck_of h
    obtain ⟨_, _, h⟩ := bd_of h
    exact er_o h
theorem er_setThickness {V V1 : VV} {x1 : Int} {E : String} (h : f5_setThickness V x1 = some (.error E, V1)) : E ∈ [eA] := by
  unfold f5_setThickness at h
  obtain ⟨_, _, h⟩ := bd_of h
  refine ite_c h (fun c9 h => ?_) (fun c9 h => ?_)
  · exact er_e h List.mem_cons_self
  · obtain ⟨_, _, h⟩ := bd_of h
    obtain ⟨_, _, _, h⟩ := bd2_of h
    exact er_o h
theorem er_advance {V V1 : VV} {x1 : Int} {E : String} (h : f5_advance V x1 = some (.error E, V1)) : E ∈ [eA, eS] := by
  unfold f5_advance at h
  obtain ⟨r, hr, h⟩ := bd_of h
  have h9 := af_ne hr
  refine ite_c h (fun c9 h => ?_) (fun c9 h => ?_)
  · exact absurd c9 h9
  · refine ite_c h (fun c9 h => ?_) (fun c9 h => ?_)
    · exact er_e h List.mem_cons_self
    · refine ite_c h (fun c9 h => ?_) (fun c9 h => ?_)
      · exact er_e h (List.mem_cons_of_mem _ List.mem_cons_self)
      · obtain ⟨_, _, h⟩ := bd_of h
        obtain ⟨_, _, _, h⟩ := bd2_of h
        exact er_o h
theorem er_runScript {V V1 : VV} {E : String} (h : f5_runScript V = some (.error E, V1)) : E ∈ [eA] := by
  unfold f5_runScript at h
  obtain ⟨_, _, _, h⟩ := bd2_of h
  refine ite_c h (fun c9 h => ?_) (fun c9 h => ?_)
  · exact er_e h List.mem_cons_self
  · obtain ⟨_, _, h⟩ := bd_of h
    obtain ⟨_, _, _, h⟩ := bd2_of h
    exact er_o h
theorem er_undo {V V1 : VV} {E : String} (h : f5_undo V = some (.error E, V1)) : E ∈ [eS] := by
  unfold f5_undo at h
  obtain ⟨_, _, h⟩ := bd_of h
  refine ite_c h (fun c9 h => ?_) (fun c9 h => ?_)
  · exact er_e h List.mem_cons_self
  · obtain ⟨_, h⟩ := ck_of h
    obtain ⟨_, _, h⟩ := bd_of h
    obtain ⟨_, _, h⟩ := bd_of h
    exact er_o h
theorem er_save {V V1 : VV} {x1 : Int} {E : String} (h : f5_save V x1 = some (.error E, V1)) : E ∈ [eI] := by
  unfold f5_save at h
  obtain ⟨_, _, h⟩ := bd_of h
  refine ite_c h (fun c9 h => ?_) (fun c9 h => ?_)
  · exact er_e h List.mem_cons_self
  · obtain ⟨_, h⟩ := ck_of h
    obtain ⟨_, _, h⟩ := bd_of h
    exact er_o h
theorem er_restore {V V1 : VV} {x1 : Int} {E : String} (h : f5_restore V x1 = some (.error E, V1)) : E ∈ [eI, eS] := by
  unfold f5_restore at h
  obtain ⟨_, _, h⟩ := bd_of h
  refine ite_c h (fun c9 h => ?_) (fun c9 h => ?_)
  · exact er_e h List.mem_cons_self
  · obtain ⟨_, h⟩ := ck_of h
    refine ite_c h (fun c9 h => ?_) (fun c9 h => ?_)
    · exact er_e h (List.mem_cons_of_mem _ List.mem_cons_self)
    · obtain ⟨_, _, h⟩ := bd_of h
      exact er_o h
theorem er_outputByte {V V1 : VV} {x1 : Int} {E : String} (h : f5_outputByte V x1 = some (.error E, V1)) : E ∈ [eI] := by
  unfold f5_outputByte at h
  obtain ⟨_, _, h⟩ := bd_of h
  refine ite_c h (fun c9 h => ?_) (fun c9 h => ?_)
  · exact er_e h List.mem_cons_self
  · obtain ⟨_, h⟩ := ck_of h
    exact er_o h
