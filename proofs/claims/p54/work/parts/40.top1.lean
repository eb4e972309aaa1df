def rowI (l : List Row) (v : Int32) (f : Row → Int32) : Option Value ⊕ String := if v = -1 then .inr "java/util/NoSuchElementException" else .inl (some (.int (f (rAt l v.toNatClampNeg))))
theorem rowI_no {l : List Row} {v : Int32} {f : Row → Int32} (h : v = -1) : rowI l v f = .inr "java/util/NoSuchElementException" := if_pos h
theorem rowI_at {l : List Row} {v : Int32} {f : Row → Int32} {i : Nat} (h : v = nI i) (hi : i ≤ 20) : rowI l v f = .inl (some (.int (f (rAt l i)))) := by
  subst h
  rw [rowI, if_neg (nI_neg1 hi), nI_clamp (by omega)]
set_option maxRecDepth 100000 in
set_option maxHeartbeats 2000000 in
theorem t_time {d : Nat} {h : AHp} {F sl : Nat → Int32} {l : List Row} {E Jn : Int64} {sv : Bool} {ep ec : Int32} (e : h 0 = .inr (5, [.ref 1, .ref 11, .ref 21, .int (bI sv), .ref 31, .ref 113, .ref 115, .int ep, .int ec])) (hL : LnAt h 1 F sl l E Jn) : JM mi_X5_time d 0 0 [.ref 0] h (oj_is (.inl (some (.int (F 0)))) h) := by
  have e1 := hL.1
  have eS := hL.2.1
  have hC := hL.2.2
  have hC' := hC
  obtain ⟨R, ⟨f0, f1, f2, f3, f4, f5, f6, f7, hc⟩, hR⟩ := hC'
  refine JM_of gd_X5_time rfl (by decide +kernel) (Nat.le_of_ble_eq_true rfl) (oj_cats rfl) (by decide) ?_
  repeat (first | (refine J_step rfl rfl ?_) | (refine J_getf rfl rfl rfl (by assumption) rfl ?_))
  exact J_iret rfl rfl rfl rfl ⟨rfl, rfl⟩
set_option maxRecDepth 100000 in
set_option maxHeartbeats 2000000 in
theorem t_capacity {d : Nat} {h : AHp} {F sl : Nat → Int32} {l : List Row} {E Jn : Int64} {sv : Bool} {ep ec : Int32} (e : h 0 = .inr (5, [.ref 1, .ref 11, .ref 21, .int (bI sv), .ref 31, .ref 113, .ref 115, .int ep, .int ec])) (hL : LnAt h 1 F sl l E Jn) : JM mi_X5_capacity d 0 0 [.ref 0] h (oj_is (.inl (some (.int (F 1)))) h) := by
  have e1 := hL.1
  have eS := hL.2.1
  have hC := hL.2.2
  have hC' := hC
  obtain ⟨R, ⟨f0, f1, f2, f3, f4, f5, f6, f7, hc⟩, hR⟩ := hC'
  refine JM_of gd_X5_capacity rfl (by decide +kernel) (Nat.le_of_ble_eq_true rfl) (oj_cats rfl) (by decide) ?_
  repeat (first | (refine J_step rfl rfl ?_) | (refine J_getf rfl rfl rfl (by assumption) rfl ?_))
  exact J_iret rfl rfl rfl rfl ⟨rfl, rfl⟩
set_option maxRecDepth 100000 in
set_option maxHeartbeats 2000000 in
theorem t_heat {d : Nat} {h : AHp} {F sl : Nat → Int32} {l : List Row} {E Jn : Int64} {sv : Bool} {ep ec : Int32} (e : h 0 = .inr (5, [.ref 1, .ref 11, .ref 21, .int (bI sv), .ref 31, .ref 113, .ref 115, .int ep, .int ec])) (hL : LnAt h 1 F sl l E Jn) : JM mi_X5_heat d 0 0 [.ref 0] h (oj_is (.inl (some (.int (F 2)))) h) := by
  have e1 := hL.1
  have eS := hL.2.1
  have hC := hL.2.2
  have hC' := hC
  obtain ⟨R, ⟨f0, f1, f2, f3, f4, f5, f6, f7, hc⟩, hR⟩ := hC'
  refine JM_of gd_X5_heat rfl (by decide +kernel) (Nat.le_of_ble_eq_true rfl) (oj_cats rfl) (by decide) ?_
  repeat (first | (refine J_step rfl rfl ?_) | (refine J_getf rfl rfl rfl (by assumption) rfl ?_))
  exact J_iret rfl rfl rfl rfl ⟨rfl, rfl⟩
set_option maxRecDepth 100000 in
set_option maxHeartbeats 2000000 in
theorem t_came {d : Nat} {h : AHp} {F sl : Nat → Int32} {l : List Row} {E Jn : Int64} {sv : Bool} {ep ec : Int32} (e : h 0 = .inr (5, [.ref 1, .ref 11, .ref 21, .int (bI sv), .ref 31, .ref 113, .ref 115, .int ep, .int ec])) (hL : LnAt h 1 F sl l E Jn) : JM mi_X5_came d 0 0 [.ref 0] h (oj_is (.inl (some (.int (F 6)))) h) := by
  have e1 := hL.1
  have eS := hL.2.1
  have hC := hL.2.2
  have hC' := hC
  obtain ⟨R, ⟨f0, f1, f2, f3, f4, f5, f6, f7, hc⟩, hR⟩ := hC'
  refine JM_of gd_X5_came rfl (by decide +kernel) (Nat.le_of_ble_eq_true rfl) (oj_cats rfl) (by decide) ?_
  repeat (first | (refine J_step rfl rfl ?_) | (refine J_getf rfl rfl rfl (by assumption) rfl ?_))
  exact J_iret rfl rfl rfl rfl ⟨rfl, rfl⟩
set_option maxRecDepth 100000 in
set_option maxHeartbeats 2000000 in
theorem t_arrived {d : Nat} {h : AHp} {F sl : Nat → Int32} {l : List Row} {E Jn : Int64} {sv : Bool} {ep ec : Int32} (e : h 0 = .inr (5, [.ref 1, .ref 11, .ref 21, .int (bI sv), .ref 31, .ref 113, .ref 115, .int ep, .int ec])) (hL : LnAt h 1 F sl l E Jn) : JM mi_X5_arrived d 0 0 [.ref 0] h (oj_is (.inl (some (.int (F 7)))) h) := by
  have e1 := hL.1
  have eS := hL.2.1
  have hC := hL.2.2
  have hC' := hC
  obtain ⟨R, ⟨f0, f1, f2, f3, f4, f5, f6, f7, hc⟩, hR⟩ := hC'
  refine JM_of gd_X5_arrived rfl (by decide +kernel) (Nat.le_of_ble_eq_true rfl) (oj_cats rfl) (by decide) ?_
  repeat (first | (refine J_step rfl rfl ?_) | (refine J_getf rfl rfl rfl (by assumption) rfl ?_))
  exact J_iret rfl rfl rfl rfl ⟨rfl, rfl⟩
set_option maxRecDepth 100000 in
set_option maxHeartbeats 2000000 in
theorem t_meetings {d : Nat} {h : AHp} {F sl : Nat → Int32} {l : List Row} {E Jn : Int64} {sv : Bool} {ep ec : Int32} (e : h 0 = .inr (5, [.ref 1, .ref 11, .ref 21, .int (bI sv), .ref 31, .ref 113, .ref 115, .int ep, .int ec])) (hL : LnAt h 1 F sl l E Jn) : JM mi_X5_meetings d 0 0 [.ref 0] h (oj_is (.inl (some (.int (F 9)))) h) := by
  have e1 := hL.1
  have eS := hL.2.1
  have hC := hL.2.2
  have hC' := hC
  obtain ⟨R, ⟨f0, f1, f2, f3, f4, f5, f6, f7, hc⟩, hR⟩ := hC'
  refine JM_of gd_X5_meetings rfl (by decide +kernel) (Nat.le_of_ble_eq_true rfl) (oj_cats rfl) (by decide) ?_
  repeat (first | (refine J_step rfl rfl ?_) | (refine J_getf rfl rfl rfl (by assumption) rfl ?_))
  exact J_iret rfl rfl rfl rfl ⟨rfl, rfl⟩
set_option maxRecDepth 100000 in
set_option maxHeartbeats 2000000 in
theorem t_pickers {d : Nat} {h : AHp} {F sl : Nat → Int32} {l : List Row} {E Jn : Int64} {sv : Bool} {ep ec : Int32} (e : h 0 = .inr (5, [.ref 1, .ref 11, .ref 21, .int (bI sv), .ref 31, .ref 113, .ref 115, .int ep, .int ec])) (hL : LnAt h 1 F sl l E Jn) : JM mi_X5_pickers d 0 0 [.ref 0] h (oj_is (.inl (some (.int (nI l.length)))) h) := by
  have e1 := hL.1
  have eS := hL.2.1
  have hC := hL.2.2
  have hC' := hC
  obtain ⟨R, ⟨f0, f1, f2, f3, f4, f5, f6, f7, hc⟩, hR⟩ := hC'
  refine JM_of gd_X5_pickers rfl (by decide +kernel) (Nat.le_of_ble_eq_true rfl) (oj_cats rfl) (by decide) ?_
  repeat (first | (refine J_step rfl rfl ?_) | (refine J_getf rfl rfl rfl (by assumption) rfl ?_))
  exact J_iret rfl rfl rfl rfl ⟨rfl, rfl⟩
set_option maxRecDepth 100000 in
set_option maxHeartbeats 2000000 in
theorem t_isBlocked {d : Nat} {h : AHp} {F sl : Nat → Int32} {l : List Row} {E Jn : Int64} {sv : Bool} {ep ec : Int32} (e : h 0 = .inr (5, [.ref 1, .ref 11, .ref 21, .int (bI sv), .ref 31, .ref 113, .ref 115, .int ep, .int ec])) (hL : LnAt h 1 F sl l E Jn) {b : Bool} (hb : F 3 = bI b) : JM mi_X5_isBlocked d 0 0 [.ref 0] h (oj_is (.inl (some (.int (bI b)))) h) := by
  have e1 := hL.1
  have eS := hL.2.1
  have hC := hL.2.2
  have hC' := hC
  obtain ⟨R, ⟨f0, f1, f2, f3, f4, f5, f6, f7, hc⟩, hR⟩ := hC'
  refine JM_of gd_X5_isBlocked rfl (by decide +kernel) (Nat.le_of_ble_eq_true rfl) (oj_cats rfl) (by decide) ?_
  repeat (first | (refine J_step rfl rfl ?_) | (refine J_getf rfl rfl rfl (by assumption) rfl ?_))
  rw [hb]
  exact J_zret rfl rfl rfl rfl b rfl ⟨rfl, rfl⟩
set_option maxRecDepth 100000 in
set_option maxHeartbeats 2000000 in
theorem t_energy {d : Nat} {h : AHp} {F sl : Nat → Int32} {l : List Row} {E Jn : Int64} {sv : Bool} {ep ec : Int32} (e : h 0 = .inr (5, [.ref 1, .ref 11, .ref 21, .int (bI sv), .ref 31, .ref 113, .ref 115, .int ep, .int ec])) (hL : LnAt h 1 F sl l E Jn) : JM mi_X5_energy d 0 0 [.ref 0] h (oj_is (.inl (some (.long E))) h) := by
  have e1 := hL.1
  have eS := hL.2.1
  have hC := hL.2.2
  have hC' := hC
  obtain ⟨R, ⟨f0, f1, f2, f3, f4, f5, f6, f7, hc⟩, hR⟩ := hC'
  refine JM_of gd_X5_energy rfl (by decide +kernel) (Nat.le_of_ble_eq_true rfl) (oj_cats rfl) (by decide) ?_
  repeat (first | (refine J_step rfl rfl ?_) | (refine J_getf rfl rfl rfl (by assumption) rfl ?_))
  exact J_ret (v := some (.long E)) rfl (decide_eq_true (p := mR mi_X5_energy = some .long) rfl) (Nat.zero_le _) (Nat.zero_le _) ⟨rfl, rfl⟩ rfl
set_option maxRecDepth 100000 in
set_option maxHeartbeats 2000000 in
theorem t_imbalance {h : AHp} {F sl : Nat → Int32} {l : List Row} {E Jn : Int64} {sv : Bool} {ep ec : Int32} (e : h 0 = .inr (5, [.ref 1, .ref 11, .ref 21, .int (bI sv), .ref 31, .ref 113, .ref 115, .int ep, .int ec])) (hL : LnAt h 1 F sl l E Jn) (hu : gU F) : JM mi_X5_imbalance 3 0 0 [.ref 0] h (oj_is (.inl (some (.int (sImb F (uB F) sl l)))) h) := by
  have e1 := hL.1
  have eS := hL.2.1
  have hC := hL.2.2
  have hC' := hC
  obtain ⟨R, ⟨f0, f1, f2, f3, f4, f5, f6, f7, hc⟩, hR⟩ := hC'
  refine JM_of gd_X5_imbalance rfl (by decide +kernel) (Nat.le_of_ble_eq_true rfl) (oj_cats rfl) (by decide) ?_
  repeat (first | (refine J_step rfl rfl ?_) | (refine J_getf rfl rfl rfl (by assumption) rfl ?_))
  refine J_cV rfl rfl rfl rfl rfl (by assumption) rfl rfl rfl rfl rfl rfl (c_imbalanceNow hL hu) ?_
  exact J_iret rfl rfl rfl rfl ⟨rfl, rfl⟩
set_option maxRecDepth 100000 in
set_option maxHeartbeats 2000000 in
theorem t_cameByParts {h : AHp} {F sl : Nat → Int32} {l : List Row} {E Jn : Int64} {sv : Bool} {ep ec : Int32} (e : h 0 = .inr (5, [.ref 1, .ref 11, .ref 21, .int (bI sv), .ref 31, .ref 113, .ref 115, .int ep, .int ec])) (hL : LnAt h 1 F sl l E Jn) : JM mi_X5_cameByParts 3 0 0 [.ref 0] h (oj_is (.inl (some (.int (sParts F l)))) h) := by
  have e1 := hL.1
  have eS := hL.2.1
  have hC := hL.2.2
  have hC' := hC
  obtain ⟨R, ⟨f0, f1, f2, f3, f4, f5, f6, f7, hc⟩, hR⟩ := hC'
  refine JM_of gd_X5_cameByParts rfl (by decide +kernel) (Nat.le_of_ble_eq_true rfl) (oj_cats rfl) (by decide) ?_
  repeat (first | (refine J_step rfl rfl ?_) | (refine J_getf rfl rfl rfl (by assumption) rfl ?_))
  refine J_cV rfl rfl rfl rfl rfl (by assumption) rfl rfl rfl rfl rfl rfl (c_sumOfParts hL) ?_
  exact J_iret rfl rfl rfl rfl ⟨rfl, rfl⟩
set_option maxRecDepth 100000 in
set_option maxHeartbeats 2000000 in
theorem t_place {h : AHp} {F sl : Nat → Int32} {l : List Row} {E Jn : Int64} {sv : Bool} {ep ec : Int32} (e : h 0 = .inr (5, [.ref 1, .ref 11, .ref 21, .int (bI sv), .ref 31, .ref 113, .ref 115, .int ep, .int ec])) (hL : LnAt h 1 F sl l E Jn) {v : Int32} : JM mi_X5_place 7 1 6 [.ref 0, .int v] h (oj_is (if 0 ≤ v ∧ v < 2 then .inl (some (.int (sPl F v))) else .inr "java/lang/IndexOutOfBoundsException") h) := by
  have e1 := hL.1
  have eS := hL.2.1
  have hC := hL.2.2
  have hC' := hC
  obtain ⟨R, ⟨f0, f1, f2, f3, f4, f5, f6, f7, hc⟩, hR⟩ := hC'
  refine JM_of gd_X5_place rfl (by decide +kernel) (Nat.le_of_ble_eq_true rfl) (oj_cats rfl) (by decide) ?_
  repeat (first | (refine J_step rfl rfl ?_) | (refine J_getf rfl rfl rfl (by assumption) rfl ?_))
  by_cases hv : 0 ≤ v ∧ v < 2
  · rw [if_pos hv]
    refine J_cS rfl rfl rfl rfl rfl rfl rfl rfl rfl rfl rfl (c_reqCab (d := 0) hv) ?_
    repeat (first | (refine J_step rfl rfl ?_) | (refine J_getf rfl rfl rfl (by assumption) rfl ?_))
    refine J_cV rfl rfl rfl rfl rfl (by assumption) rfl rfl rfl rfl rfl rfl (c_placeOf (d := 0) hL) ?_
    exact J_iret rfl rfl rfl rfl ⟨rfl, rfl⟩
  · rw [if_neg hv]
    refine J_xS rfl rfl rfl rfl rfl rfl rfl rfl rfl rfl rfl rfl rfl (c_reqCabX hv) ?_
    exact ⟨rfl, rfl⟩
set_option maxRecDepth 100000 in
set_option maxHeartbeats 2000000 in
theorem t_goesUp {h : AHp} {F sl : Nat → Int32} {l : List Row} {E Jn : Int64} {sv : Bool} {ep ec : Int32} (e : h 0 = .inr (5, [.ref 1, .ref 11, .ref 21, .int (bI sv), .ref 31, .ref 113, .ref 115, .int ep, .int ec])) (hL : LnAt h 1 F sl l E Jn) {v : Int32} (hu : gU F) : JM mi_X5_goesUp 7 1 6 [.ref 0, .int v] h (oj_is (if 0 ≤ v ∧ v < 2 then .inl (some (.int (bI (sUp (uB F) v)))) else .inr "java/lang/IndexOutOfBoundsException") h) := by
  have e1 := hL.1
  have eS := hL.2.1
  have hC := hL.2.2
  have hC' := hC
  obtain ⟨R, ⟨f0, f1, f2, f3, f4, f5, f6, f7, hc⟩, hR⟩ := hC'
  refine JM_of gd_X5_goesUp rfl (by decide +kernel) (Nat.le_of_ble_eq_true rfl) (oj_cats rfl) (by decide) ?_
  repeat (first | (refine J_step rfl rfl ?_) | (refine J_getf rfl rfl rfl (by assumption) rfl ?_))
  by_cases hv : 0 ≤ v ∧ v < 2
  · rw [if_pos hv]
    refine J_cS rfl rfl rfl rfl rfl rfl rfl rfl rfl rfl rfl (c_reqCab (d := 0) hv) ?_
    repeat (first | (refine J_step rfl rfl ?_) | (refine J_getf rfl rfl rfl (by assumption) rfl ?_))
    refine J_cV rfl rfl rfl rfl rfl (by assumption) rfl rfl rfl rfl rfl rfl (c_isUp (d := 0) hL hu) ?_
    exact J_zret rfl rfl rfl rfl _ rfl ⟨rfl, rfl⟩
  · rw [if_neg hv]
    refine J_xS rfl rfl rfl rfl rfl rfl rfl rfl rfl rfl rfl rfl rfl (c_reqCabX hv) ?_
    exact ⟨rfl, rfl⟩
set_option maxRecDepth 100000 in
set_option maxHeartbeats 2000000 in
theorem t_nextSegment {h : AHp} {F sl : Nat → Int32} {l : List Row} {E Jn : Int64} {sv : Bool} {ep ec : Int32} (e : h 0 = .inr (5, [.ref 1, .ref 11, .ref 21, .int (bI sv), .ref 31, .ref 113, .ref 115, .int ep, .int ec])) (hL : LnAt h 1 F sl l E Jn) {v : Int32} (hu : gU F) : JM mi_X5_nextSegment 7 1 6 [.ref 0, .int v] h (oj_is (if 0 ≤ v ∧ v < 2 then .inl (some (.int (sAhead F (uB F) v))) else .inr "java/lang/IndexOutOfBoundsException") h) := by
  have e1 := hL.1
  have eS := hL.2.1
  have hC := hL.2.2
  have hC' := hC
  obtain ⟨R, ⟨f0, f1, f2, f3, f4, f5, f6, f7, hc⟩, hR⟩ := hC'
  refine JM_of gd_X5_nextSegment rfl (by decide +kernel) (Nat.le_of_ble_eq_true rfl) (oj_cats rfl) (by decide) ?_
  repeat (first | (refine J_step rfl rfl ?_) | (refine J_getf rfl rfl rfl (by assumption) rfl ?_))
  by_cases hv : 0 ≤ v ∧ v < 2
  · rw [if_pos hv]
    refine J_cS rfl rfl rfl rfl rfl rfl rfl rfl rfl rfl rfl (c_reqCab (d := 0) hv) ?_
    repeat (first | (refine J_step rfl rfl ?_) | (refine J_getf rfl rfl rfl (by assumption) rfl ?_))
    refine J_cV rfl rfl rfl rfl rfl (by assumption) rfl rfl rfl rfl rfl rfl (c_segmentAhead hL hu) ?_
    exact J_iret rfl rfl rfl rfl ⟨rfl, rfl⟩
  · rw [if_neg hv]
    refine J_xS rfl rfl rfl rfl rfl rfl rfl rfl rfl rfl rfl rfl rfl (c_reqCabX hv) ?_
    exact ⟨rfl, rfl⟩
set_option maxRecDepth 100000 in
set_option maxHeartbeats 2000000 in
theorem t_cabinWeight {h : AHp} {F sl : Nat → Int32} {l : List Row} {E Jn : Int64} {sv : Bool} {ep ec : Int32} (e : h 0 = .inr (5, [.ref 1, .ref 11, .ref 21, .int (bI sv), .ref 31, .ref 113, .ref 115, .int ep, .int ec])) (hL : LnAt h 1 F sl l E Jn) {v : Int32} : JM mi_X5_cabinWeight 7 1 6 [.ref 0, .int v] h (oj_is (if 0 ≤ v ∧ v < 2 then .inl (some (.int (crFull l v))) else .inr "java/lang/IndexOutOfBoundsException") h) := by
  have e1 := hL.1
  have eS := hL.2.1
  have hC := hL.2.2
  have hC' := hC
  obtain ⟨R, ⟨f0, f1, f2, f3, f4, f5, f6, f7, hc⟩, hR⟩ := hC'
  refine JM_of gd_X5_cabinWeight rfl (by decide +kernel) (Nat.le_of_ble_eq_true rfl) (oj_cats rfl) (by decide) ?_
  repeat (first | (refine J_step rfl rfl ?_) | (refine J_getf rfl rfl rfl (by assumption) rfl ?_))
  by_cases hv : 0 ≤ v ∧ v < 2
  · rw [if_pos hv]
    refine J_cS rfl rfl rfl rfl rfl rfl rfl rfl rfl rfl rfl (c_reqCab (d := 0) hv) ?_
    repeat (first | (refine J_step rfl rfl ?_) | (refine J_getf rfl rfl rfl (by assumption) rfl ?_))
    refine J_cV rfl rfl rfl rfl rfl (by assumption) rfl rfl rfl rfl rfl rfl (c_fullWeight (d := 0) hC) ?_
    exact J_iret rfl rfl rfl rfl ⟨rfl, rfl⟩
  · rw [if_neg hv]
    refine J_xS rfl rfl rfl rfl rfl rfl rfl rfl rfl rfl rfl rfl rfl (c_reqCabX hv) ?_
    exact ⟨rfl, rfl⟩
set_option maxRecDepth 100000 in
set_option maxHeartbeats 2000000 in
theorem t_riders {h : AHp} {F sl : Nat → Int32} {l : List Row} {E Jn : Int64} {sv : Bool} {ep ec : Int32} (e : h 0 = .inr (5, [.ref 1, .ref 11, .ref 21, .int (bI sv), .ref 31, .ref 113, .ref 115, .int ep, .int ec])) (hL : LnAt h 1 F sl l E Jn) {v : Int32} : JM mi_X5_riders 7 1 6 [.ref 0, .int v] h (oj_is (if 0 ≤ v ∧ v < 2 then .inl (some (.int (nI (crRid l v)))) else .inr "java/lang/IndexOutOfBoundsException") h) := by
  have e1 := hL.1
  have eS := hL.2.1
  have hC := hL.2.2
  have hC' := hC
  obtain ⟨R, ⟨f0, f1, f2, f3, f4, f5, f6, f7, hc⟩, hR⟩ := hC'
  refine JM_of gd_X5_riders rfl (by decide +kernel) (Nat.le_of_ble_eq_true rfl) (oj_cats rfl) (by decide) ?_
  repeat (first | (refine J_step rfl rfl ?_) | (refine J_getf rfl rfl rfl (by assumption) rfl ?_))
  by_cases hv : 0 ≤ v ∧ v < 2
  · rw [if_pos hv]
    refine J_cS rfl rfl rfl rfl rfl rfl rfl rfl rfl rfl rfl (c_reqCab (d := 0) hv) ?_
    repeat (first | (refine J_step rfl rfl ?_) | (refine J_getf rfl rfl rfl (by assumption) rfl ?_))
    refine J_cV rfl rfl rfl rfl rfl (by assumption) rfl rfl rfl rfl rfl rfl (c_countRiders (d := 0) hC) ?_
    exact J_iret rfl rfl rfl rfl ⟨rfl, rfl⟩
  · rw [if_neg hv]
    refine J_xS rfl rfl rfl rfl rfl rfl rfl rfl rfl rfl rfl rfl rfl (c_reqCabX hv) ?_
    exact ⟨rfl, rfl⟩
set_option maxRecDepth 100000 in
set_option maxHeartbeats 2000000 in
theorem t_station {h : AHp} {F sl : Nat → Int32} {l : List Row} {E Jn : Int64} {sv : Bool} {ep ec : Int32} (e : h 0 = .inr (5, [.ref 1, .ref 11, .ref 21, .int (bI sv), .ref 31, .ref 113, .ref 115, .int ep, .int ec])) (hL : LnAt h 1 F sl l E Jn) {v : Int32} : JM mi_X5_station 7 1 6 [.ref 0, .int v] h (oj_is (if 0 ≤ v ∧ v < 2 then (if sAtS F = true then .inl (some (.int (sPl F v / 4))) else .inr "java/util/NoSuchElementException") else .inr "java/lang/IndexOutOfBoundsException") h) := by
  have e1 := hL.1
  have eS := hL.2.1
  have hC := hL.2.2
  have hC' := hC
  obtain ⟨R, ⟨f0, f1, f2, f3, f4, f5, f6, f7, hc⟩, hR⟩ := hC'
  refine JM_of gd_X5_station rfl (by decide +kernel) (Nat.le_of_ble_eq_true rfl) (oj_cats rfl) (by decide) ?_
  repeat (first | (refine J_step rfl rfl ?_) | (refine J_getf rfl rfl rfl (by assumption) rfl ?_))
  by_cases hv : 0 ≤ v ∧ v < 2
  · rw [if_pos hv]
    refine J_cS rfl rfl rfl rfl rfl rfl rfl rfl rfl rfl rfl (c_reqCab (d := 0) hv) ?_
    repeat (first | (refine J_step rfl rfl ?_) | (refine J_getf rfl rfl rfl (by assumption) rfl ?_))
    refine J_cV rfl rfl rfl rfl rfl (by assumption) rfl rfl rfl rfl rfl rfl (c_isAtStations (d := 0) hL) ?_
    refine J_if (y := 0) rfl (fun hq => ?_) (fun hq => ?_)
    · rw [if_pos (bI_t hq)]
      repeat (first | (refine J_step rfl rfl ?_) | (refine J_getf rfl rfl rfl (by assumption) rfl ?_))
      refine J_cV rfl rfl rfl rfl rfl (by assumption) rfl rfl rfl rfl rfl rfl (c_placeOf (d := 0) hL) ?_
      repeat (first | (refine J_step rfl rfl ?_) | (refine J_getf rfl rfl rfl (by assumption) rfl ?_))
      refine J_idiv rfl (by decide) ?_
      exact J_iret rfl rfl rfl rfl ⟨rfl, rfl⟩
    · rw [if_neg (fun z => by rw [z] at hq; exact hq (show ¬ bI true = 0 by decide))]
      first | (refine J_throwN (text := "the cabin is not at a station") (sn := 7) rfl rfl rfl rfl rfl rfl (by decide +kernel) rfl rfl rfl rfl (Nat.le_of_ble_eq_true rfl) (Nat.le_of_ble_eq_true rfl) ?_)
      exact ⟨rfl, rfl⟩
  · rw [if_neg hv]
    refine J_xS rfl rfl rfl rfl rfl rfl rfl rfl rfl rfl rfl rfl rfl (c_reqCabX hv) ?_
    exact ⟨rfl, rfl⟩
set_option maxRecDepth 100000 in
set_option maxHeartbeats 2000000 in
theorem t_unitsUntil {h : AHp} {F sl : Nat → Int32} {l : List Row} {E Jn : Int64} {sv : Bool} {ep ec : Int32} (e : h 0 = .inr (5, [.ref 1, .ref 11, .ref 21, .int (bI sv), .ref 31, .ref 113, .ref 115, .int ep, .int ec])) (hL : LnAt h 1 F sl l E Jn) {v w : Int32} (hu : gU F) : JM mi_X5_unitsUntil 7 1 6 [.ref 0, .int v, .int w] h (oj_is (if (0 ≤ v ∧ v < 2) ∧ 0 ≤ w ∧ w < 7 then .inl (some (.int (uFm (sPl F v) (sUp (uB F) v) (w * 4)))) else .inr "java/lang/IndexOutOfBoundsException") h) := by
  have e1 := hL.1
  have eS := hL.2.1
  have hC := hL.2.2
  have hC' := hC
  obtain ⟨R, ⟨f0, f1, f2, f3, f4, f5, f6, f7, hc⟩, hR⟩ := hC'
  refine JM_of gd_X5_unitsUntil rfl (by decide +kernel) (Nat.le_of_ble_eq_true rfl) (oj_cats rfl) (by decide) ?_
  repeat (first | (refine J_step rfl rfl ?_) | (refine J_getf rfl rfl rfl (by assumption) rfl ?_))
  by_cases hv : 0 ≤ v ∧ v < 2
  · refine J_cS rfl rfl rfl rfl rfl rfl rfl rfl rfl rfl rfl (c_reqCab (d := 0) hv) ?_
    repeat (first | (refine J_step rfl rfl ?_) | (refine J_getf rfl rfl rfl (by assumption) rfl ?_))
    by_cases hw : 0 ≤ w ∧ w < 7
    · rw [if_pos ⟨hv, hw⟩]
      refine J_cS rfl rfl rfl rfl rfl rfl rfl rfl rfl rfl rfl (c_reqSt (d := 0) hw) ?_
      repeat (first | (refine J_step rfl rfl ?_) | (refine J_getf rfl rfl rfl (by assumption) rfl ?_))
      refine J_cV rfl rfl rfl rfl rfl (by assumption) rfl rfl rfl rfl rfl rfl (c_unitsByFormula hL hu) ?_
      exact J_iret rfl rfl rfl rfl ⟨rfl, rfl⟩
    · rw [if_neg (fun z => hw z.2)]
      refine J_xS rfl rfl rfl rfl rfl rfl rfl rfl rfl rfl rfl rfl rfl (c_reqStX hw) ?_
      exact ⟨rfl, rfl⟩
  · rw [if_neg (fun z => hv z.1)]
    refine J_xS rfl rfl rfl rfl rfl rfl rfl rfl rfl rfl rfl rfl rfl (c_reqCabX hv) ?_
    exact ⟨rfl, rfl⟩
set_option maxRecDepth 100000 in
set_option maxHeartbeats 2000000 in
theorem t_unitsUntilByMoving {h : AHp} {F sl : Nat → Int32} {l : List Row} {E Jn : Int64} {sv : Bool} {ep ec : Int32} (e : h 0 = .inr (5, [.ref 1, .ref 11, .ref 21, .int (bI sv), .ref 31, .ref 113, .ref 115, .int ep, .int ec])) (hL : LnAt h 1 F sl l E Jn) {v w : Int32} (hu : gU F) : JM mi_X5_unitsUntilByMoving 7 1 6 [.ref 0, .int v, .int w] h (oj_is (if (0 ≤ v ∧ v < 2) ∧ 0 ≤ w ∧ w < 7 then .inl (some (.int (nI (uMv (w * 4) 48 (sPl F v) (sUp (uB F) v))))) else .inr "java/lang/IndexOutOfBoundsException") h) := by
  have e1 := hL.1
  have eS := hL.2.1
  have hC := hL.2.2
  have hC' := hC
  obtain ⟨R, ⟨f0, f1, f2, f3, f4, f5, f6, f7, hc⟩, hR⟩ := hC'
  refine JM_of gd_X5_unitsUntilByMoving rfl (by decide +kernel) (Nat.le_of_ble_eq_true rfl) (oj_cats rfl) (by decide) ?_
  repeat (first | (refine J_step rfl rfl ?_) | (refine J_getf rfl rfl rfl (by assumption) rfl ?_))
  by_cases hv : 0 ≤ v ∧ v < 2
  · refine J_cS rfl rfl rfl rfl rfl rfl rfl rfl rfl rfl rfl (c_reqCab (d := 0) hv) ?_
    repeat (first | (refine J_step rfl rfl ?_) | (refine J_getf rfl rfl rfl (by assumption) rfl ?_))
    by_cases hw : 0 ≤ w ∧ w < 7
    · rw [if_pos ⟨hv, hw⟩]
      refine J_cS rfl rfl rfl rfl rfl rfl rfl rfl rfl rfl rfl (c_reqSt (d := 0) hw) ?_
      repeat (first | (refine J_step rfl rfl ?_) | (refine J_getf rfl rfl rfl (by assumption) rfl ?_))
      refine J_cV rfl rfl rfl rfl rfl (by assumption) rfl rfl rfl rfl rfl rfl (c_unitsByMoving hL hu) ?_
      exact J_iret rfl rfl rfl rfl ⟨rfl, rfl⟩
    · rw [if_neg (fun z => hw z.2)]
      refine J_xS rfl rfl rfl rfl rfl rfl rfl rfl rfl rfl rfl rfl rfl (c_reqStX hw) ?_
      exact ⟨rfl, rfl⟩
  · rw [if_neg (fun z => hv z.1)]
    refine J_xS rfl rfl rfl rfl rfl rfl rfl rfl rfl rfl rfl rfl rfl (c_reqCabX hv) ?_
    exact ⟨rfl, rfl⟩
set_option maxRecDepth 100000 in
set_option maxHeartbeats 2000000 in
theorem t_slope {h : AHp} {F sl : Nat → Int32} {l : List Row} {E Jn : Int64} {sv : Bool} {ep ec : Int32} (e : h 0 = .inr (5, [.ref 1, .ref 11, .ref 21, .int (bI sv), .ref 31, .ref 113, .ref 115, .int ep, .int ec])) (hL : LnAt h 1 F sl l E Jn) {v : Int32} : JM mi_X5_slope 7 1 6 [.ref 0, .int v] h (oj_is (if 0 ≤ v ∧ v < 6 then .inl (some (.int (sl v.toNatClampNeg))) else .inr "java/lang/IndexOutOfBoundsException") h) := by
  have e1 := hL.1
  have eS := hL.2.1
  have hC := hL.2.2
  have hC' := hC
  obtain ⟨R, ⟨f0, f1, f2, f3, f4, f5, f6, f7, hc⟩, hR⟩ := hC'
  refine JM_of gd_X5_slope rfl (by decide +kernel) (Nat.le_of_ble_eq_true rfl) (oj_cats rfl) (by decide) ?_
  repeat (first | (refine J_step rfl rfl ?_) | (refine J_getf rfl rfl rfl (by assumption) rfl ?_))
  refine J_cS rfl rfl rfl rfl rfl rfl rfl rfl rfl rfl rfl (c_isSegment (d := 0)) ?_
  refine J_if (y := 0) rfl (fun hq => ?_) (fun hq => ?_)
  · have hv : 0 ≤ v ∧ v < 6 := of_decide_eq_true (bI_t hq)
    rw [if_pos hv]
    repeat (first | (refine J_step rfl rfl ?_) | (refine J_getf rfl rfl rfl (by assumption) rfl ?_))
    refine J_iald rfl (by assumption) (vp_in_6 rfl hv) ?_
    exact J_iret rfl rfl rfl rfl ⟨rfl, rfl⟩
  · have hv : ¬ (0 ≤ v ∧ v < 6) := fun z => by rw [decide_eq_true z] at hq; exact hq (show ¬ bI true = 0 by decide)
    rw [if_neg hv]
    first | (refine J_throw (E := "java/lang/IndexOutOfBoundsException") (text := "there is no such segment") (sn := 5) rfl rfl rfl rfl rfl rfl (by decide +kernel) (by decide +kernel) rfl rfl rfl rfl (Nat.le_of_ble_eq_true rfl) (Nat.le_of_ble_eq_true rfl) ?_)
    exact ⟨rfl, rfl⟩
set_option maxRecDepth 100000 in
set_option maxHeartbeats 2000000 in
theorem t_waiting {h : AHp} {F sl : Nat → Int32} {l : List Row} {E Jn : Int64} {sv : Bool} {ep ec : Int32} (e : h 0 = .inr (5, [.ref 1, .ref 11, .ref 21, .int (bI sv), .ref 31, .ref 113, .ref 115, .int ep, .int ec])) (hL : LnAt h 1 F sl l E Jn) {v : Int32} : JM mi_X5_waiting 7 1 6 [.ref 0, .int v] h (oj_is (if 0 ≤ v ∧ v < 7 then .inl (some (.int (nI (crWtg l v)))) else .inr "java/lang/IndexOutOfBoundsException") h) := by
  have e1 := hL.1
  have eS := hL.2.1
  have hC := hL.2.2
  have hC' := hC
  obtain ⟨R, ⟨f0, f1, f2, f3, f4, f5, f6, f7, hc⟩, hR⟩ := hC'
  refine JM_of gd_X5_waiting rfl (by decide +kernel) (Nat.le_of_ble_eq_true rfl) (oj_cats rfl) (by decide) ?_
  repeat (first | (refine J_step rfl rfl ?_) | (refine J_getf rfl rfl rfl (by assumption) rfl ?_))
  by_cases hv : 0 ≤ v ∧ v < 7
  · rw [if_pos hv]
    refine J_cS rfl rfl rfl rfl rfl rfl rfl rfl rfl rfl rfl (c_reqSt (d := 0) hv) ?_
    repeat (first | (refine J_step rfl rfl ?_) | (refine J_getf rfl rfl rfl (by assumption) rfl ?_))
    refine J_cV rfl rfl rfl rfl rfl (by assumption) rfl rfl rfl rfl rfl rfl (c_countWaiting hC) ?_
    exact J_iret rfl rfl rfl rfl ⟨rfl, rfl⟩
  · rw [if_neg hv]
    refine J_xS rfl rfl rfl rfl rfl rfl rfl rfl rfl rfl rfl rfl rfl (c_reqStX hv) ?_
    exact ⟨rfl, rfl⟩
set_option maxRecDepth 100000 in
set_option maxHeartbeats 2000000 in
theorem t_isPresent {h : AHp} {F sl : Nat → Int32} {l : List Row} {E Jn : Int64} {sv : Bool} {ep ec : Int32} (e : h 0 = .inr (5, [.ref 1, .ref 11, .ref 21, .int (bI sv), .ref 31, .ref 113, .ref 115, .int ep, .int ec])) (hL : LnAt h 1 F sl l E Jn) {v : Int32} : JM mi_X5_isPresent 3 0 0 [.ref 0, .int v] h (oj_is (.inl (some (.int (bI (!(lnRow l v == -1)))))) h) := by
  have e1 := hL.1
  have eS := hL.2.1
  have hC := hL.2.2
  have hC' := hC
  obtain ⟨R, ⟨f0, f1, f2, f3, f4, f5, f6, f7, hc⟩, hR⟩ := hC'
  refine JM_of gd_X5_isPresent rfl (by decide +kernel) (Nat.le_of_ble_eq_true rfl) (oj_cats rfl) (by decide) ?_
  repeat (first | (refine J_step rfl rfl ?_) | (refine J_getf rfl rfl rfl (by assumption) rfl ?_))
  refine J_cV rfl rfl rfl rfl rfl (by assumption) rfl rfl rfl rfl rfl rfl (c_rowOf (d := 0) hC) ?_
  rcases fstI_cases (fun j => (rAt l j).1 == v) l.length with ⟨hv, -⟩ | ⟨i, hi, -, hv, -⟩
  · have hv2 : lnRow l v = -1 := hv
    rw [hv]
    repeat (first | (refine J_step rfl rfl ?_) | (refine J_getf rfl rfl rfl (by assumption) rfl ?_))
    refine J_ic rfl (fun _ => ?_) (fun hq => absurd (show (-1 : Int32) = -1 from rfl) hq)
    repeat (first | (refine J_step rfl rfl ?_) | (refine J_getf rfl rfl rfl (by assumption) rfl ?_))
    exact J_zret rfl rfl rfl rfl false rfl ⟨by rw [hv2]; rfl, rfl⟩
  · have hv2 : lnRow l v = nI i := hv
    have hn := nI_neg1 (i := i) (by omega)
    rw [hv]
    repeat (first | (refine J_step rfl rfl ?_) | (refine J_getf rfl rfl rfl (by assumption) rfl ?_))
    refine J_ic rfl (fun hq => absurd hq hn) (fun _ => ?_)
    repeat (first | (refine J_step rfl rfl ?_) | (refine J_getf rfl rfl rfl (by assumption) rfl ?_))
    exact J_zret rfl rfl rfl rfl true rfl ⟨by rw [hv2, show (nI i == -1) = false from beq_false_of_ne hn]; rfl, rfl⟩
set_option maxRecDepth 100000 in
set_option maxHeartbeats 2000000 in
theorem t_weight {h : AHp} {F sl : Nat → Int32} {l : List Row} {E Jn : Int64} {sv : Bool} {ep ec : Int32} (e : h 0 = .inr (5, [.ref 1, .ref 11, .ref 21, .int (bI sv), .ref 31, .ref 113, .ref 115, .int ep, .int ec])) (hL : LnAt h 1 F sl l E Jn) {v : Int32} : JM mi_X5_weight 7 1 6 [.ref 0, .int v] h (oj_is (rowI l (lnRow l v) rWt) h) := by
  have e1 := hL.1
  have eS := hL.2.1
  have hC := hL.2.2
  have hC' := hC
  obtain ⟨R, ⟨f0, f1, f2, f3, f4, f5, f6, f7, hc⟩, hR⟩ := hC'
  refine JM_of gd_X5_weight rfl (by decide +kernel) (Nat.le_of_ble_eq_true rfl) (oj_cats rfl) (by decide) ?_
  repeat (first | (refine J_step rfl rfl ?_) | (refine J_getf rfl rfl rfl (by assumption) rfl ?_))
  refine J_cV rfl rfl rfl rfl rfl (by assumption) rfl rfl rfl rfl rfl rfl (c_rowOf (d := 0) hC) ?_
  rcases fstI_cases (fun j => (rAt l j).1 == v) l.length with ⟨hv, -⟩ | ⟨i, hi, -, hv, -⟩
  · rw [rowI_no (show lnRow l v = -1 from hv), hv]
    refine J_xS rfl rfl rfl rfl rfl rfl rfl rfl rfl rfl rfl rfl rfl (c_reqRowX) ?_
    exact ⟨rfl, rfl⟩
  · rw [rowI_at (show lnRow l v = nI i from hv) (by omega), hv]
    refine J_cS rfl rfl rfl rfl rfl rfl rfl rfl rfl rfl rfl (c_reqRow (d := 0) (i := i) (by omega)) ?_
    repeat (first | (refine J_step rfl rfl ?_) | (refine J_getf rfl rfl rfl (by assumption) rfl ?_))
    refine J_iald rfl (by assumption) (vp_in_nI (by omega) (by omega)) ?_
    rw [nI_clamp (by omega), (rw_rAt hR hi).2.1]
    exact J_iret rfl rfl rfl rfl ⟨rfl, rfl⟩
set_option maxRecDepth 100000 in
set_option maxHeartbeats 2000000 in
theorem t_destination {h : AHp} {F sl : Nat → Int32} {l : List Row} {E Jn : Int64} {sv : Bool} {ep ec : Int32} (e : h 0 = .inr (5, [.ref 1, .ref 11, .ref 21, .int (bI sv), .ref 31, .ref 113, .ref 115, .int ep, .int ec])) (hL : LnAt h 1 F sl l E Jn) {v : Int32} : JM mi_X5_destination 7 1 6 [.ref 0, .int v] h (oj_is (rowI l (lnRow l v) rDst) h) := by
  have e1 := hL.1
  have eS := hL.2.1
  have hC := hL.2.2
  have hC' := hC
  obtain ⟨R, ⟨f0, f1, f2, f3, f4, f5, f6, f7, hc⟩, hR⟩ := hC'
  refine JM_of gd_X5_destination rfl (by decide +kernel) (Nat.le_of_ble_eq_true rfl) (oj_cats rfl) (by decide) ?_
  repeat (first | (refine J_step rfl rfl ?_) | (refine J_getf rfl rfl rfl (by assumption) rfl ?_))
  refine J_cV rfl rfl rfl rfl rfl (by assumption) rfl rfl rfl rfl rfl rfl (c_rowOf (d := 0) hC) ?_
  rcases fstI_cases (fun j => (rAt l j).1 == v) l.length with ⟨hv, -⟩ | ⟨i, hi, -, hv, -⟩
  · rw [rowI_no (show lnRow l v = -1 from hv), hv]
    refine J_xS rfl rfl rfl rfl rfl rfl rfl rfl rfl rfl rfl rfl rfl (c_reqRowX) ?_
    exact ⟨rfl, rfl⟩
  · rw [rowI_at (show lnRow l v = nI i from hv) (by omega), hv]
    refine J_cS rfl rfl rfl rfl rfl rfl rfl rfl rfl rfl rfl (c_reqRow (d := 0) (i := i) (by omega)) ?_
    repeat (first | (refine J_step rfl rfl ?_) | (refine J_getf rfl rfl rfl (by assumption) rfl ?_))
    refine J_iald rfl (by assumption) (vp_in_nI (by omega) (by omega)) ?_
    rw [nI_clamp (by omega), (rw_rAt hR hi).2.2.2.1]
    exact J_iret rfl rfl rfl rfl ⟨rfl, rfl⟩
set_option maxRecDepth 100000 in
set_option maxHeartbeats 2000000 in
theorem t_cabinOf {h : AHp} {F sl : Nat → Int32} {l : List Row} {E Jn : Int64} {sv : Bool} {ep ec : Int32} (e : h 0 = .inr (5, [.ref 1, .ref 11, .ref 21, .int (bI sv), .ref 31, .ref 113, .ref 115, .int ep, .int ec])) (hL : LnAt h 1 F sl l E Jn) {v : Int32} : JM mi_X5_cabinOf 7 1 6 [.ref 0, .int v] h (oj_is (if lnRow l v = -1 ∨ rCab (rAt l (lnRow l v).toNatClampNeg) = -1 then .inr "java/util/NoSuchElementException" else .inl (some (.int (rCab (rAt l (lnRow l v).toNatClampNeg))))) h) := by
  have e1 := hL.1
  have eS := hL.2.1
  have hC := hL.2.2
  have hC' := hC
  obtain ⟨R, ⟨f0, f1, f2, f3, f4, f5, f6, f7, hc⟩, hR⟩ := hC'
  refine JM_of gd_X5_cabinOf rfl (by decide +kernel) (Nat.le_of_ble_eq_true rfl) (oj_cats rfl) (by decide) ?_
  repeat (first | (refine J_step rfl rfl ?_) | (refine J_getf rfl rfl rfl (by assumption) rfl ?_))
  refine J_cV rfl rfl rfl rfl rfl (by assumption) rfl rfl rfl rfl rfl rfl (c_rowOf (d := 0) hC) ?_
  rcases fstI_cases (fun j => (rAt l j).1 == v) l.length with ⟨hv, -⟩ | ⟨i, hi, -, hv, -⟩
  · rw [if_pos (Or.inl (show lnRow l v = -1 from hv)), hv]
    refine J_xS rfl rfl rfl rfl rfl rfl rfl rfl rfl rfl rfl rfl rfl (c_reqRowX) ?_
    exact ⟨rfl, rfl⟩
  · have hv2 : lnRow l v = nI i := hv
    rw [hv2, nI_clamp (by omega), hv]
    refine J_cS rfl rfl rfl rfl rfl rfl rfl rfl rfl rfl rfl (c_reqRow (d := 0) (i := i) (by omega)) ?_
    repeat (first | (refine J_step rfl rfl ?_) | (refine J_getf rfl rfl rfl (by assumption) rfl ?_))
    refine J_iald rfl (by assumption) (vp_in_nI (by omega) (by omega)) ?_
    rw [nI_clamp (by omega), (rw_rAt hR hi).2.2.2.2.2.1]
    repeat (first | (refine J_step rfl rfl ?_) | (refine J_getf rfl rfl rfl (by assumption) rfl ?_))
    refine J_ic rfl (fun hq => ?_) (fun hq => ?_)
    · have hq : ¬ rCab (rAt l i) = -1 := hq
      rw [if_neg (fun z => z.elim (nI_neg1 (by omega)) hq)]
      repeat (first | (refine J_step rfl rfl ?_) | (refine J_getf rfl rfl rfl (by assumption) rfl ?_))
      exact J_iret rfl rfl rfl rfl ⟨rfl, rfl⟩
    · have hq : rCab (rAt l i) = -1 := by simpa [oj_cc] using hq
      rw [if_pos (Or.inr hq)]
      first | (refine J_throwN (text := "the picker waits") (sn := 9) rfl rfl rfl rfl rfl rfl (by decide +kernel) rfl rfl rfl rfl (Nat.le_of_ble_eq_true rfl) (Nat.le_of_ble_eq_true rfl) ?_)
      exact ⟨rfl, rfl⟩
set_option maxRecDepth 100000 in
set_option maxHeartbeats 2000000 in
theorem t_riderAt {h : AHp} {F sl : Nat → Int32} {l : List Row} {E Jn : Int64} {sv : Bool} {ep ec : Int32} (e : h 0 = .inr (5, [.ref 1, .ref 11, .ref 21, .int (bI sv), .ref 31, .ref 113, .ref 115, .int ep, .int ec])) (hL : LnAt h 1 F sl l E Jn) {v w : Int32} : JM mi_X5_riderAt 7 1 6 [.ref 0, .int v, .int w] h (oj_is (if 0 ≤ v ∧ v < 2 then rowI l (crRrow l v w) rNum else .inr "java/lang/IndexOutOfBoundsException") h) := by
  have e1 := hL.1
  have eS := hL.2.1
  have hC := hL.2.2
  have hC' := hC
  obtain ⟨R, ⟨f0, f1, f2, f3, f4, f5, f6, f7, hc⟩, hR⟩ := hC'
  refine JM_of gd_X5_riderAt rfl (by decide +kernel) (Nat.le_of_ble_eq_true rfl) (oj_cats rfl) (by decide) ?_
  repeat (first | (refine J_step rfl rfl ?_) | (refine J_getf rfl rfl rfl (by assumption) rfl ?_))
  by_cases hv0 : 0 ≤ v ∧ v < 2
  · rw [if_pos hv0]
    refine J_cS rfl rfl rfl rfl rfl rfl rfl rfl rfl rfl rfl (c_reqCab (d := 0) hv0) ?_
    repeat (first | (refine J_step rfl rfl ?_) | (refine J_getf rfl rfl rfl (by assumption) rfl ?_))
    refine J_cV rfl rfl rfl rfl rfl (by assumption) rfl rfl rfl rfl rfl rfl (c_riderRow hC) ?_
    rcases fstI_cases (fun j => (rAt l j).2.2.2.2.2.1 == v && nI (crBef l j) == w) l.length with ⟨hv, -⟩ | ⟨i, hi, -, hv, -⟩
    · rw [rowI_no (show crRrow l v w = -1 from hv), show crRrow l v w = -1 from hv]
      refine J_xS rfl rfl rfl rfl rfl rfl rfl rfl rfl rfl rfl rfl rfl (c_reqRowX) ?_
      exact ⟨rfl, rfl⟩
    · rw [rowI_at (show crRrow l v w = nI i from hv) (by omega), show crRrow l v w = nI i from hv]
      refine J_cS rfl rfl rfl rfl rfl rfl rfl rfl rfl rfl rfl (c_reqRow (d := 0) (i := i) (by omega)) ?_
      repeat (first | (refine J_step rfl rfl ?_) | (refine J_getf rfl rfl rfl (by assumption) rfl ?_))
      refine J_iald rfl (by assumption) (vp_in_nI (by omega) (by omega)) ?_
      rw [nI_clamp (by omega), (rw_rAt hR hi).1]
      exact J_iret rfl rfl rfl rfl ⟨rfl, rfl⟩
  · rw [if_neg hv0]
    refine J_xS rfl rfl rfl rfl rfl rfl rfl rfl rfl rfl rfl rfl rfl (c_reqCabX hv0) ?_
    exact ⟨rfl, rfl⟩
set_option maxRecDepth 100000 in
set_option maxHeartbeats 2000000 in
theorem t_waitingAt {h : AHp} {F sl : Nat → Int32} {l : List Row} {E Jn : Int64} {sv : Bool} {ep ec : Int32} (e : h 0 = .inr (5, [.ref 1, .ref 11, .ref 21, .int (bI sv), .ref 31, .ref 113, .ref 115, .int ep, .int ec])) (hL : LnAt h 1 F sl l E Jn) {v w : Int32} : JM mi_X5_waitingAt 7 1 6 [.ref 0, .int v, .int w] h (oj_is (if 0 ≤ v ∧ v < 7 then rowI l (crWrow l v w) rNum else .inr "java/lang/IndexOutOfBoundsException") h) := by
  have e1 := hL.1
  have eS := hL.2.1
  have hC := hL.2.2
  have hC' := hC
  obtain ⟨R, ⟨f0, f1, f2, f3, f4, f5, f6, f7, hc⟩, hR⟩ := hC'
  refine JM_of gd_X5_waitingAt rfl (by decide +kernel) (Nat.le_of_ble_eq_true rfl) (oj_cats rfl) (by decide) ?_
  repeat (first | (refine J_step rfl rfl ?_) | (refine J_getf rfl rfl rfl (by assumption) rfl ?_))
  by_cases hv0 : 0 ≤ v ∧ v < 7
  · rw [if_pos hv0]
    refine J_cS rfl rfl rfl rfl rfl rfl rfl rfl rfl rfl rfl (c_reqSt (d := 0) hv0) ?_
    repeat (first | (refine J_step rfl rfl ?_) | (refine J_getf rfl rfl rfl (by assumption) rfl ?_))
    refine J_cV rfl rfl rfl rfl rfl (by assumption) rfl rfl rfl rfl rfl rfl (c_waitingRow hC) ?_
    rcases fstI_cases (fun j => crW v (rAt l j) && nI ((l.take j).countP (crW v)) == w) l.length with ⟨hv, -⟩ | ⟨i, hi, -, hv, -⟩
    · rw [rowI_no (show crWrow l v w = -1 from hv), show crWrow l v w = -1 from hv]
      refine J_xS rfl rfl rfl rfl rfl rfl rfl rfl rfl rfl rfl rfl rfl (c_reqRowX) ?_
      exact ⟨rfl, rfl⟩
    · rw [rowI_at (show crWrow l v w = nI i from hv) (by omega), show crWrow l v w = nI i from hv]
      refine J_cS rfl rfl rfl rfl rfl rfl rfl rfl rfl rfl rfl (c_reqRow (d := 0) (i := i) (by omega)) ?_
      repeat (first | (refine J_step rfl rfl ?_) | (refine J_getf rfl rfl rfl (by assumption) rfl ?_))
      refine J_iald rfl (by assumption) (vp_in_nI (by omega) (by omega)) ?_
      rw [nI_clamp (by omega), (rw_rAt hR hi).1]
      exact J_iret rfl rfl rfl rfl ⟨rfl, rfl⟩
  · rw [if_neg hv0]
    refine J_xS rfl rfl rfl rfl rfl rfl rfl rfl rfl rfl rfl rfl rfl (c_reqStX hv0) ?_
    exact ⟨rfl, rfl⟩
set_option maxRecDepth 100000 in
set_option maxHeartbeats 2000000 in
theorem t_pickerByWeight {h : AHp} {F sl : Nat → Int32} {l : List Row} {E Jn : Int64} {sv : Bool} {ep ec : Int32} (e : h 0 = .inr (5, [.ref 1, .ref 11, .ref 21, .int (bI sv), .ref 31, .ref 113, .ref 115, .int ep, .int ec])) (hL : LnAt h 1 F sl l E Jn) {v : Int32} : JM mi_X5_pickerByWeight 7 1 6 [.ref 0, .int v] h (oj_is (rowI l (crByW l v) rNum) h) := by
  have e1 := hL.1
  have eS := hL.2.1
  have hC := hL.2.2
  have hC' := hC
  obtain ⟨R, ⟨f0, f1, f2, f3, f4, f5, f6, f7, hc⟩, hR⟩ := hC'
  refine JM_of gd_X5_pickerByWeight rfl (by decide +kernel) (Nat.le_of_ble_eq_true rfl) (oj_cats rfl) (by decide) ?_
  repeat (first | (refine J_step rfl rfl ?_) | (refine J_getf rfl rfl rfl (by assumption) rfl ?_))
  refine J_cV rfl rfl rfl rfl rfl (by assumption) rfl rfl rfl rfl rfl rfl (c_rowByWeight hC) ?_
  rcases fstI_cases (fun j => nI (crHv l j) == v) l.length with ⟨hv, -⟩ | ⟨i, hi, -, hv, -⟩
  · rw [rowI_no (show crByW l v = -1 from hv), show crByW l v = -1 from hv]
    refine J_xS rfl rfl rfl rfl rfl rfl rfl rfl rfl rfl rfl rfl rfl (c_reqRowX) ?_
    exact ⟨rfl, rfl⟩
  · rw [rowI_at (show crByW l v = nI i from hv) (by omega), show crByW l v = nI i from hv]
    refine J_cS rfl rfl rfl rfl rfl rfl rfl rfl rfl rfl rfl (c_reqRow (d := 0) (i := i) (by omega)) ?_
    repeat (first | (refine J_step rfl rfl ?_) | (refine J_getf rfl rfl rfl (by assumption) rfl ?_))
    refine J_iald rfl (by assumption) (vp_in_nI (by omega) (by omega)) ?_
    rw [nI_clamp (by omega), (rw_rAt hR hi).1]
    exact J_iret rfl rfl rfl rfl ⟨rfl, rfl⟩
