theorem ri {x y : Int32} (h : x = y) : (.inl (some (.int x)) : Option Value ⊕ String) = .inl (some (.int y)) := by rw [h]
theorem ne_bI0 {b : Bool} : (bI b = 0) = (b = false) := by cases b <;> simp [bI]
theorem ltn {x y : Int32} : (x < y) = ¬ y ≤ x := propext Int32.not_le.symm
def fAdd (l : List Row) (a b c : Int32) : Int32 := if ¬ (0 ≤ b ∧ b < 7) ∨ ¬ (0 ≤ c ∧ c < 7) then 1 else if a < 40 ∨ 120 < a ∨ b = c then 2 else if nI l.length < 20 then 0 else 3
def fRem (l : List Row) (v : Int32) : Int32 := if lnRow l v = -1 then 5 else if (rAt l (lnRow l v).toNatClampNeg).2.2.2.2.2.1 = -1 then 0 else 3
def fSlp (g v : Int32) : Int32 := if ¬ (0 ≤ g ∧ g < 6) then 1 else if v < 0 ∨ 9 < v then 2 else 0
def fTrn (F : Nat → Int32) : Int32 := if sAtS F = false then 3 else if sAtE F then 4 else 0
def fCap (l : List Row) (v : Int32) : Int32 := if v < 1 ∨ 6 < v then 2 else if v < nI (crRid l 0) ∨ v < nI (crRid l 1) then 3 else 0
def fWai (v : Int32) : Int32 := if v < 1 ∨ 240 < v then 2 else 0
set_option maxRecDepth 100000 in
set_option maxHeartbeats 2000000 in
theorem c_faultOfAdding {h : AHp} {a : Nat} {F sl : Nat → Int32} {l : List Row} {E Jn : Int64} {w v1 v2 : Int32} (hL : LnAt h a F sl l E Jn) : JM mi_X2_faultOfAdding 1 0 0 [.ref a, .int w, .int v1, .int v2] h (oj_is (.inl (some (.int (fAdd l w v1 v2)))) h) := by
  obtain ⟨e0, e1, R, ⟨f0, -⟩, -⟩ := hL
  refine JM_of gd_X2_faultOfAdding rfl (by decide +kernel) (Nat.le_of_ble_eq_true rfl) (oj_cats rfl) (by decide) ?_
  repeat' (first | (refine J_step rfl rfl ?_) | (refine J_getf rfl rfl rfl (by assumption) rfl ?_) | (refine J_cS rfl rfl rfl rfl rfl rfl rfl rfl rfl rfl rfl (c_isStation (d := 0)) ?_) | (refine J_if (y := 0) rfl (fun _ => ?_) (fun _ => ?_)) | (refine J_ic rfl (fun _ => ?_) (fun _ => ?_)))
  all_goals (refine J_iret rfl rfl rfl rfl ⟨ri ?_, rfl⟩)
  all_goals simp_all [oj_cz, oj_cc, ne_bI0, ltn, -Int32.not_le, -Int32.not_lt, -ne_eq, fAdd]
set_option maxRecDepth 100000 in
set_option maxHeartbeats 2000000 in
theorem c_faultOfSlope {h : AHp} {a : Nat} {w v : Int32} : JM mi_X2_faultOfSlope 1 0 0 [.ref a, .int w, .int v] h (oj_is (.inl (some (.int (fSlp w v)))) h) := by
  refine JM_of gd_X2_faultOfSlope rfl (by decide +kernel) (Nat.le_of_ble_eq_true rfl) (oj_cats rfl) (by decide) ?_
  repeat' (first | (refine J_step rfl rfl ?_) | (refine J_getf rfl rfl rfl (by assumption) rfl ?_) | (refine J_cS rfl rfl rfl rfl rfl rfl rfl rfl rfl rfl rfl (c_isSegment (d := 0)) ?_) | (refine J_if (y := 0) rfl (fun _ => ?_) (fun _ => ?_)) | (refine J_ic rfl (fun _ => ?_) (fun _ => ?_)))
  all_goals (refine J_iret rfl rfl rfl rfl ⟨ri ?_, rfl⟩)
  all_goals simp_all [oj_cz, oj_cc, ne_bI0, ltn, -Int32.not_le, -Int32.not_lt, -ne_eq, fSlp]
set_option maxRecDepth 100000 in
set_option maxHeartbeats 2000000 in
theorem c_faultOfTurning {h : AHp} {a : Nat} {F sl : Nat → Int32} {l : List Row} {E Jn : Int64} (hL : LnAt h a F sl l E Jn) : JM mi_X2_faultOfTurning 1 0 0 [.ref a] h (oj_is (.inl (some (.int (fTrn F)))) h) := by
  have e0 := hL.1
  refine JM_of gd_X2_faultOfTurning rfl (by decide +kernel) (Nat.le_of_ble_eq_true rfl) (oj_cats rfl) (by decide) ?_
  repeat' (first | (refine J_step rfl rfl ?_) | (refine J_getf rfl rfl rfl (by assumption) rfl ?_) | (refine J_cV rfl rfl rfl rfl rfl (by assumption) rfl rfl rfl rfl rfl rfl (c_isAtStations (d := 0) hL) ?_) | (refine J_cV rfl rfl rfl rfl rfl (by assumption) rfl rfl rfl rfl rfl rfl (c_isAtEnds (d := 0) hL) ?_) | (refine J_if (y := 0) rfl (fun _ => ?_) (fun _ => ?_)) | (refine J_ic rfl (fun _ => ?_) (fun _ => ?_)))
  all_goals (refine J_iret rfl rfl rfl rfl ⟨ri ?_, rfl⟩)
  all_goals simp_all [oj_cz, oj_cc, ne_bI0, ltn, -Int32.not_le, -Int32.not_lt, -ne_eq, fTrn]
set_option maxRecDepth 100000 in
set_option maxHeartbeats 2000000 in
theorem c_faultOfCapacity {h : AHp} {a : Nat} {F sl : Nat → Int32} {l : List Row} {E Jn : Int64} {v : Int32} (hL : LnAt h a F sl l E Jn) : JM mi_X2_faultOfCapacity 1 0 0 [.ref a, .int v] h (oj_is (.inl (some (.int (fCap l v)))) h) := by
  obtain ⟨e0, e1, hC⟩ := hL
  have hC' := hC
  obtain ⟨R, ⟨f0, -⟩, -⟩ := hC'
  refine JM_of gd_X2_faultOfCapacity rfl (by decide +kernel) (Nat.le_of_ble_eq_true rfl) (oj_cats rfl) (by decide) ?_
  repeat' (first | (refine J_step rfl rfl ?_) | (refine J_getf rfl rfl rfl (by assumption) rfl ?_) | (refine J_cV rfl rfl rfl rfl rfl (by assumption) rfl rfl rfl rfl rfl rfl (c_countRiders (d := 0) hC) ?_) | (refine J_if (y := 0) rfl (fun _ => ?_) (fun _ => ?_)) | (refine J_ic rfl (fun _ => ?_) (fun _ => ?_)))
  all_goals (refine J_iret rfl rfl rfl rfl ⟨ri ?_, rfl⟩)
  all_goals simp_all [oj_cz, oj_cc, ne_bI0, ltn, -Int32.not_le, -Int32.not_lt, -ne_eq, fCap]
set_option maxRecDepth 100000 in
set_option maxHeartbeats 2000000 in
theorem c_faultOfRemoving {h : AHp} {a : Nat} {F sl : Nat → Int32} {l : List Row} {E Jn : Int64} {v : Int32} (hL : LnAt h a F sl l E Jn) : JM mi_X2_faultOfRemoving 1 0 0 [.ref a, .int v] h (oj_is (.inl (some (.int (fRem l v)))) h) := by
  obtain ⟨e0, e1, hC⟩ := hL
  have hC' := hC
  obtain ⟨R, ⟨f0, f1, f2, f3, f4, f5, f6, f7, hc⟩, hR⟩ := hC'
  refine JM_of gd_X2_faultOfRemoving rfl (by decide +kernel) (Nat.le_of_ble_eq_true rfl) (oj_cats rfl) (by decide) ?_
  repeat (first | (refine J_step rfl rfl ?_) | (refine J_getf rfl rfl rfl (by assumption) rfl ?_))
  refine J_cV rfl rfl rfl rfl rfl (by assumption) rfl rfl rfl rfl rfl rfl (c_rowOf (d := 0) hC) ?_
  rcases fstI_cases (fun j => (rAt l j).1 == v) l.length with ⟨hv, -⟩ | ⟨i, hi, -, hv, -⟩
  · rw [hv]
    repeat (first | (refine J_step rfl rfl ?_) | (refine J_getf rfl rfl rfl (by assumption) rfl ?_))
    refine J_ic rfl (fun hq => absurd rfl hq) (fun hq => ?_)
    repeat (first | (refine J_step rfl rfl ?_) | (refine J_getf rfl rfl rfl (by assumption) rfl ?_))
    exact J_iret rfl rfl rfl rfl ⟨ri (by rw [fRem, lnRow, if_pos hv]), rfl⟩
  · rw [hv]
    repeat (first | (refine J_step rfl rfl ?_) | (refine J_getf rfl rfl rfl (by assumption) rfl ?_))
    have hne : ¬ nI i = -1 := fun z => absurd (congrArg Int32.toInt z) (by rw [nI_toInt (by omega)]; have : (-1 : Int32).toInt = -1 := rfl; omega)
    have h5 := (rw_rAt hR hi).2.2.2.2.2.1
    refine J_ic rfl (fun hq => ?_) (fun hq => absurd hne hq)
    repeat (first | (refine J_step rfl rfl ?_) | (refine J_getf rfl rfl rfl (by assumption) rfl ?_))
    refine J_iald rfl f6 (vp_in_nI (by omega) (by omega)) ?_
    rw [nI_clamp (by omega), h5]
    have hg : lnRow l v = nI i := hv
    repeat' (first | (refine J_step rfl rfl ?_) | (refine J_getf rfl rfl rfl (by assumption) rfl ?_) | (refine J_if (y := 0) rfl (fun _ => ?_) (fun _ => ?_)) | (refine J_ic rfl (fun _ => ?_) (fun _ => ?_)))
    all_goals (refine J_iret rfl rfl rfl rfl ⟨ri ?_, rfl⟩)
    all_goals (rw [fRem, hg, if_neg hne, nI_clamp (by omega)]; simp_all [oj_cz, oj_cc])
