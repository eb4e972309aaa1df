/-- a line at a: what it holds by number (0 time, 1 capacity, 2 heat, 3 blocked, 4 place, 5 up, 6 came, 7 arrived, 8 gone, 9 meetings, 12 next boarding), slopes, rows, energy, minutes of journeys -/
def lnObj (a : Nat) (F : Nat → Int32) (E Jn : Int64) : AC := .inr (2, [.ref (a + 1), .ref (a + 2), .int (F 0), .int (F 4), .int (F 5), .int (F 1), .int (F 2), .int (F 3), .int (F 6), .int (F 7), .int (F 8), .int (F 9), .long E, .long Jn])
def lnPut (h : AHp) (a : Nat) (F sl : Nat → Int32) (R : Nat → Nat → Int32) (c : Nat) (E Jn : Int64) : AHp := fun x => if x = a then lnObj a F E Jn else if x = a + 1 then .inl (0, 6, .inl sl) else crPut h (a + 2) R c (F 12) x
def LnAt (h : AHp) (a : Nat) (F sl : Nat → Int32) (l : List Row) (E Jn : Int64) : Prop := h a = lnObj a F E Jn ∧ h (a + 1) = .inl (0, 6, .inl sl) ∧ CrAt h (a + 2) l (F 12)
def sPl (F : Nat → Int32) (cab : Int32) : Int32 := if cab = 0 then F 4 else 24 - F 4
def sUp (u : Bool) (cab : Int32) : Bool := if cab = 0 then u else !u
def sAhead (F : Nat → Int32) (u : Bool) (cab : Int32) : Int32 := if sUp u cab then sPl F cab / 4 else (sPl F cab - 1) / 4
def sSl (sl : Nat → Int32) (g : Int32) : Int32 := if 0 ≤ g ∧ g < 6 then sl g.toNatClampNeg else 0
def sImb (F : Nat → Int32) (u : Bool) (sl : Nat → Int32) (l : List Row) : Int32 := if u then crFull l 0 * sSl sl (sAhead F u 0) - crFull l 1 * sSl sl (sAhead F u 1) else -(crFull l 0 * sSl sl (sAhead F u 0) - crFull l 1 * sSl sl (sAhead F u 1))
def sAtS (F : Nat → Int32) : Bool := F 4 - F 4 / 4 * 4 == 0
def sAtE (F : Nat → Int32) : Bool := F 4 == 0 || F 4 == 24
set_option maxRecDepth 100000 in
set_option maxHeartbeats 2000000 in
theorem c_isSegment {d : Nat} {h : AHp} {v : Int32} : JM mi_X5_isSegment d 0 0 [.int v] h (oj_is (.inl (some (.int (bI (decide (0 ≤ v ∧ v < 6)))))) h) := by
  refine JM_of gd_X5_isSegment rfl (by decide +kernel) (Nat.le_of_ble_eq_true rfl) (oj_cats rfl) (by decide) ?_
  repeat (first | (refine J_step rfl rfl ?_) | (refine J_getf rfl rfl rfl (by assumption) rfl ?_))
  refine J_if (y := 0) rfl (fun hq => ?_) (fun hq => ?_)
  · repeat (first | (refine J_step rfl rfl ?_) | (refine J_getf rfl rfl rfl (by assumption) rfl ?_))
    exact J_zret rfl rfl rfl rfl (decide (0 ≤ v ∧ v < 6)) (by simp only [oj_cz] at hq; simp [bI, Int32.not_le.mpr hq]) ⟨rfl, rfl⟩
  · repeat (first | (refine J_step rfl rfl ?_) | (refine J_getf rfl rfl rfl (by assumption) rfl ?_))
    simp only [oj_cz, Int32.not_lt] at hq
    refine J_ic rfl (fun hq2 => ?_) (fun hq2 => ?_)
    · repeat (first | (refine J_step rfl rfl ?_) | (refine J_getf rfl rfl rfl (by assumption) rfl ?_))
      exact J_zret rfl rfl rfl rfl (decide (0 ≤ v ∧ v < 6)) (by simp only [oj_cc] at hq2; simp [bI, Int32.not_lt.mpr hq2]) ⟨rfl, rfl⟩
    · repeat (first | (refine J_step rfl rfl ?_) | (refine J_getf rfl rfl rfl (by assumption) rfl ?_))
      exact J_zret rfl rfl rfl rfl (decide (0 ≤ v ∧ v < 6)) (by simp only [oj_cc, Int32.not_le] at hq2; simp [bI, hq, hq2]) ⟨rfl, rfl⟩
set_option maxRecDepth 100000 in
set_option maxHeartbeats 2000000 in
theorem c_isStation {d : Nat} {h : AHp} {v : Int32} : JM mi_X5_isStation d 0 0 [.int v] h (oj_is (.inl (some (.int (bI (decide (0 ≤ v ∧ v < 7)))))) h) := by
  refine JM_of gd_X5_isStation rfl (by decide +kernel) (Nat.le_of_ble_eq_true rfl) (oj_cats rfl) (by decide) ?_
  repeat (first | (refine J_step rfl rfl ?_) | (refine J_getf rfl rfl rfl (by assumption) rfl ?_))
  refine J_if (y := 0) rfl (fun hq => ?_) (fun hq => ?_)
  · repeat (first | (refine J_step rfl rfl ?_) | (refine J_getf rfl rfl rfl (by assumption) rfl ?_))
    exact J_zret rfl rfl rfl rfl (decide (0 ≤ v ∧ v < 7)) (by simp only [oj_cz] at hq; simp [bI, Int32.not_le.mpr hq]) ⟨rfl, rfl⟩
  · repeat (first | (refine J_step rfl rfl ?_) | (refine J_getf rfl rfl rfl (by assumption) rfl ?_))
    simp only [oj_cz, Int32.not_lt] at hq
    refine J_ic rfl (fun hq2 => ?_) (fun hq2 => ?_)
    · repeat (first | (refine J_step rfl rfl ?_) | (refine J_getf rfl rfl rfl (by assumption) rfl ?_))
      exact J_zret rfl rfl rfl rfl (decide (0 ≤ v ∧ v < 7)) (by simp only [oj_cc] at hq2; simp [bI, Int32.not_lt.mpr hq2]) ⟨rfl, rfl⟩
    · repeat (first | (refine J_step rfl rfl ?_) | (refine J_getf rfl rfl rfl (by assumption) rfl ?_))
      exact J_zret rfl rfl rfl rfl (decide (0 ≤ v ∧ v < 7)) (by simp only [oj_cc, Int32.not_le] at hq2; simp [bI, hq, hq2]) ⟨rfl, rfl⟩
set_option maxRecDepth 100000 in
set_option maxHeartbeats 2000000 in
theorem c_placeOf {d : Nat} {h : AHp} {a : Nat} {F sl : Nat → Int32} {l : List Row} {E Jn : Int64} {cab : Int32} (hL : LnAt h a F sl l E Jn) : JM mi_X2_placeOf d 0 0 [.ref a, .int cab] h (oj_is (.inl (some (.int (sPl F cab)))) h) := by
  obtain ⟨e0, e1, hC⟩ := hL
  refine JM_of gd_X2_placeOf rfl (by decide +kernel) (Nat.le_of_ble_eq_true rfl) (oj_cats rfl) (by decide) ?_
  repeat (first | (refine J_step rfl rfl ?_) | (refine J_getf rfl rfl rfl (by assumption) rfl ?_))
  refine J_if (y := 0) rfl (fun hq => ?_) (fun hq => ?_)
  · repeat (first | (refine J_step rfl rfl ?_) | (refine J_getf rfl rfl rfl (by assumption) rfl ?_))
    exact J_iret rfl rfl rfl rfl ⟨by simp only [oj_cz] at hq; rw [sPl, if_neg hq], rfl⟩
  · repeat (first | (refine J_step rfl rfl ?_) | (refine J_getf rfl rfl rfl (by assumption) rfl ?_))
    exact J_iret rfl rfl rfl rfl ⟨by simp only [oj_cz, Classical.not_not] at hq; rw [sPl, if_pos hq], rfl⟩
set_option maxRecDepth 100000 in
set_option maxHeartbeats 2000000 in
theorem c_isUp {d : Nat} {h : AHp} {a : Nat} {F sl : Nat → Int32} {l : List Row} {E Jn : Int64} {cab : Int32} {u : Bool} (hL : LnAt h a F sl l E Jn) (hu : F 5 = bI u) : JM mi_X2_isUp d 0 0 [.ref a, .int cab] h (oj_is (.inl (some (.int (bI (sUp u cab))))) h) := by
  obtain ⟨e0, e1, hC⟩ := hL
  refine JM_of gd_X2_isUp rfl (by decide +kernel) (Nat.le_of_ble_eq_true rfl) (oj_cats rfl) (by decide) ?_
  repeat (first | (refine J_step rfl rfl ?_) | (refine J_getf rfl rfl rfl (by assumption) rfl ?_))
  refine J_if (y := 0) rfl (fun hq => ?_) (fun hq => ?_)
  · simp only [oj_cz] at hq
    repeat (first | (refine J_step rfl rfl ?_) | (refine J_getf rfl rfl rfl (by assumption) rfl ?_))
    rw [hu]
    refine J_if (y := 0) rfl (fun hq2 => ?_) (fun hq2 => ?_)
    · repeat (first | (refine J_step rfl rfl ?_) | (refine J_getf rfl rfl rfl (by assumption) rfl ?_))
      exact J_zret rfl rfl rfl rfl (sUp u cab) (by cases u <;> simp_all [sUp, bI, oj_cz]) ⟨rfl, rfl⟩
    · repeat (first | (refine J_step rfl rfl ?_) | (refine J_getf rfl rfl rfl (by assumption) rfl ?_))
      exact J_zret rfl rfl rfl rfl (sUp u cab) (by cases u <;> simp_all [sUp, bI, oj_cz]) ⟨rfl, rfl⟩
  · simp only [oj_cz, Classical.not_not] at hq
    repeat (first | (refine J_step rfl rfl ?_) | (refine J_getf rfl rfl rfl (by assumption) rfl ?_))
    rw [hu]
    exact J_zret rfl rfl rfl rfl (sUp u cab) (by simp [sUp, hq]) ⟨rfl, rfl⟩
set_option maxRecDepth 100000 in
set_option maxHeartbeats 2000000 in
theorem c_isAtStations {d : Nat} {h : AHp} {a : Nat} {F sl : Nat → Int32} {l : List Row} {E Jn : Int64} (hL : LnAt h a F sl l E Jn) : JM mi_X2_isAtStations d 0 0 [.ref a] h (oj_is (.inl (some (.int (bI (sAtS F))))) h) := by
  obtain ⟨e0, e1, hC⟩ := hL
  refine JM_of gd_X2_isAtStations rfl (by decide +kernel) (Nat.le_of_ble_eq_true rfl) (oj_cats rfl) (by decide) ?_
  repeat (first | (refine J_step rfl rfl ?_) | (refine J_getf rfl rfl rfl (by assumption) rfl ?_))
  refine J_irem rfl (by decide) ?_
  refine J_if (y := 0) rfl (fun hq => ?_) (fun hq => ?_)
  · repeat (first | (refine J_step rfl rfl ?_) | (refine J_getf rfl rfl rfl (by assumption) rfl ?_))
    exact J_zret rfl rfl rfl rfl (sAtS F) (by simp only [oj_cz] at hq; simp [sAtS, bI, hq]) ⟨rfl, rfl⟩
  · repeat (first | (refine J_step rfl rfl ?_) | (refine J_getf rfl rfl rfl (by assumption) rfl ?_))
    exact J_zret rfl rfl rfl rfl (sAtS F) (by simp only [oj_cz, Classical.not_not] at hq; simp [sAtS, bI, hq]) ⟨rfl, rfl⟩
set_option maxRecDepth 100000 in
set_option maxHeartbeats 2000000 in
theorem c_isAtEnds {d : Nat} {h : AHp} {a : Nat} {F sl : Nat → Int32} {l : List Row} {E Jn : Int64} (hL : LnAt h a F sl l E Jn) : JM mi_X2_isAtEnds d 0 0 [.ref a] h (oj_is (.inl (some (.int (bI (sAtE F))))) h) := by
  obtain ⟨e0, e1, hC⟩ := hL
  refine JM_of gd_X2_isAtEnds rfl (by decide +kernel) (Nat.le_of_ble_eq_true rfl) (oj_cats rfl) (by decide) ?_
  repeat (first | (refine J_step rfl rfl ?_) | (refine J_getf rfl rfl rfl (by assumption) rfl ?_))
  refine J_if (y := 0) rfl (fun hq => ?_) (fun hq => ?_)
  · repeat (first | (refine J_step rfl rfl ?_) | (refine J_getf rfl rfl rfl (by assumption) rfl ?_))
    exact J_zret rfl rfl rfl rfl (sAtE F) (by simp only [oj_cz] at hq; simp [sAtE, bI, hq]) ⟨rfl, rfl⟩
  · repeat (first | (refine J_step rfl rfl ?_) | (refine J_getf rfl rfl rfl (by assumption) rfl ?_))
    simp only [oj_cz] at hq
    refine J_ic rfl (fun hq2 => ?_) (fun hq2 => ?_)
    · repeat (first | (refine J_step rfl rfl ?_) | (refine J_getf rfl rfl rfl (by assumption) rfl ?_))
      exact J_zret rfl rfl rfl rfl (sAtE F) (by simp only [oj_cc] at hq2; simp [sAtE, bI, hq, hq2]) ⟨rfl, rfl⟩
    · repeat (first | (refine J_step rfl rfl ?_) | (refine J_getf rfl rfl rfl (by assumption) rfl ?_))
      exact J_zret rfl rfl rfl rfl (sAtE F) (by simp only [oj_cc, Classical.not_not] at hq2; simp [sAtE, bI, hq2]) ⟨rfl, rfl⟩
set_option maxRecDepth 100000 in
set_option maxHeartbeats 2000000 in
theorem c_segmentAhead {h : AHp} {a : Nat} {F sl : Nat → Int32} {l : List Row} {E Jn : Int64} {cab : Int32} {u : Bool} (hL : LnAt h a F sl l E Jn) (hu : F 5 = bI u) : JM mi_X2_segmentAhead 1 0 0 [.ref a, .int cab] h (oj_is (.inl (some (.int (sAhead F u cab)))) h) := by
  have e0 := hL.1
  refine JM_of gd_X2_segmentAhead rfl (by decide +kernel) (Nat.le_of_ble_eq_true rfl) (oj_cats rfl) (by decide) ?_
  repeat (first | (refine J_step rfl rfl ?_) | (refine J_getf rfl rfl rfl (by assumption) rfl ?_))
  refine J_cV rfl rfl rfl rfl rfl (by assumption) rfl rfl rfl rfl rfl rfl (c_placeOf (d := 0) hL) ?_
  repeat (first | (refine J_step rfl rfl ?_) | (refine J_getf rfl rfl rfl (by assumption) rfl ?_))
  refine J_cV rfl rfl rfl rfl rfl (by assumption) rfl rfl rfl rfl rfl rfl (c_isUp (d := 0) hL hu) ?_
  refine J_if (y := 0) rfl (fun hq => ?_) (fun hq => ?_)
  · have hb : sUp u cab = false := by cases hb : sUp u cab <;> simp_all [oj_cz, bI]
    repeat (first | (refine J_step rfl rfl ?_) | (refine J_getf rfl rfl rfl (by assumption) rfl ?_))
    refine J_idiv rfl (by decide) ?_
    exact J_iret rfl rfl rfl rfl ⟨by rw [sAhead, hb]; rfl, rfl⟩
  · have hb : sUp u cab = true := by cases hb : sUp u cab <;> simp_all [oj_cz, bI]
    repeat (first | (refine J_step rfl rfl ?_) | (refine J_getf rfl rfl rfl (by assumption) rfl ?_))
    refine J_idiv rfl (by decide) ?_
    repeat (first | (refine J_step rfl rfl ?_) | (refine J_getf rfl rfl rfl (by assumption) rfl ?_))
    exact J_iret rfl rfl rfl rfl ⟨by rw [sAhead, hb]; rfl, rfl⟩
theorem vp_in_6 {v : Int32} {n : Nat} {N : Int32} (hN : N.toInt = n) (h : 0 ≤ v ∧ v < N) : vp_in v n := vp_in_iff.mpr ⟨by have := Int32.le_iff_toInt_le.mp h.1; simpa using this, by have := Int32.lt_iff_toInt_lt.mp h.2; rw [hN] at this; exact this⟩
set_option maxRecDepth 100000 in
set_option maxHeartbeats 2000000 in
theorem c_slopeOf {h : AHp} {a : Nat} {F sl : Nat → Int32} {l : List Row} {E Jn : Int64} {g : Int32} (hL : LnAt h a F sl l E Jn) : JM mi_X2_slopeOf 1 0 0 [.ref a, .int g] h (oj_is (.inl (some (.int (sSl sl g)))) h) := by
  obtain ⟨e0, e1, hC⟩ := hL
  refine JM_of gd_X2_slopeOf rfl (by decide +kernel) (Nat.le_of_ble_eq_true rfl) (oj_cats rfl) (by decide) ?_
  repeat (first | (refine J_step rfl rfl ?_) | (refine J_getf rfl rfl rfl (by assumption) rfl ?_))
  refine J_cS rfl rfl rfl rfl rfl rfl rfl rfl rfl rfl rfl (c_isSegment (d := 0)) ?_
  refine J_if (y := 0) rfl (fun hq => ?_) (fun hq => ?_)
  · have hb : ¬ (0 ≤ g ∧ g < 6) := by intro hb; simp [oj_cz, bI, hb] at hq
    repeat (first | (refine J_step rfl rfl ?_) | (refine J_getf rfl rfl rfl (by assumption) rfl ?_))
    exact J_iret rfl rfl rfl rfl ⟨by rw [sSl, if_neg hb], rfl⟩
  · have hb : 0 ≤ g ∧ g < 6 := by
      by_cases hb : 0 ≤ g ∧ g < 6
      · exact hb
      · exact absurd (by simp [oj_cz, bI, hb]) hq
    repeat (first | (refine J_step rfl rfl ?_) | (refine J_getf rfl rfl rfl (by assumption) rfl ?_))
    refine J_iald rfl (by assumption) (vp_in_6 rfl hb) ?_
    repeat (first | (refine J_step rfl rfl ?_) | (refine J_getf rfl rfl rfl (by assumption) rfl ?_))
    exact J_iret rfl rfl rfl rfl ⟨by rw [sSl, if_pos hb], rfl⟩
set_option maxRecDepth 100000 in
set_option maxHeartbeats 2000000 in
theorem c_imbalanceNow {h : AHp} {a : Nat} {F sl : Nat → Int32} {l : List Row} {E Jn : Int64} {u : Bool} (hL : LnAt h a F sl l E Jn) (hu : F 5 = bI u) : JM mi_X2_imbalanceNow 2 0 0 [.ref a] h (oj_is (.inl (some (.int (sImb F u sl l)))) h) := by
  have e0 := hL.1
  have hC := hL.2.2
  have hC' := hC
  obtain ⟨R, ⟨f0, -⟩, -⟩ := hC'
  refine JM_of gd_X2_imbalanceNow rfl (by decide +kernel) (Nat.le_of_ble_eq_true rfl) (oj_cats rfl) (by decide) ?_
  repeat (first | (refine J_step rfl rfl ?_) | (refine J_getf rfl rfl rfl (by assumption) rfl ?_))
  refine J_cV rfl rfl rfl rfl rfl (by assumption) rfl rfl rfl rfl rfl rfl (c_fullWeight (d := 0) hC) ?_
  repeat (first | (refine J_step rfl rfl ?_) | (refine J_getf rfl rfl rfl (by assumption) rfl ?_))
  refine J_cV rfl rfl rfl rfl rfl (by assumption) rfl rfl rfl rfl rfl rfl (c_segmentAhead hL hu) ?_
  repeat (first | (refine J_step rfl rfl ?_) | (refine J_getf rfl rfl rfl (by assumption) rfl ?_))
  refine J_cV rfl rfl rfl rfl rfl (by assumption) rfl rfl rfl rfl rfl rfl (c_slopeOf hL) ?_
  repeat (first | (refine J_step rfl rfl ?_) | (refine J_getf rfl rfl rfl (by assumption) rfl ?_))
  refine J_cV rfl rfl rfl rfl rfl (by assumption) rfl rfl rfl rfl rfl rfl (c_fullWeight (d := 0) hC) ?_
  repeat (first | (refine J_step rfl rfl ?_) | (refine J_getf rfl rfl rfl (by assumption) rfl ?_))
  refine J_cV rfl rfl rfl rfl rfl (by assumption) rfl rfl rfl rfl rfl rfl (c_segmentAhead hL hu) ?_
  repeat (first | (refine J_step rfl rfl ?_) | (refine J_getf rfl rfl rfl (by assumption) rfl ?_))
  refine J_cV rfl rfl rfl rfl rfl (by assumption) rfl rfl rfl rfl rfl rfl (c_slopeOf hL) ?_
  repeat (first | (refine J_step rfl rfl ?_) | (refine J_getf rfl rfl rfl (by assumption) rfl ?_))
  rw [hu]
  refine J_if (y := 0) rfl (fun hq => ?_) (fun hq => ?_)
  · have hb : u = false := by cases u <;> simp_all [oj_cz, bI]
    repeat (first | (refine J_step rfl rfl ?_) | (refine J_getf rfl rfl rfl (by assumption) rfl ?_))
    exact J_iret rfl rfl rfl rfl ⟨by rw [sImb, hb]; rfl, rfl⟩
  · have hb : u = true := by cases u <;> simp_all [oj_cz, bI]
    repeat (first | (refine J_step rfl rfl ?_) | (refine J_getf rfl rfl rfl (by assumption) rfl ?_))
    exact J_iret rfl rfl rfl rfl ⟨by rw [sImb, hb]; rfl, rfl⟩
