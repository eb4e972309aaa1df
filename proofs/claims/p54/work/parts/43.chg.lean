set_option maxRecDepth 100000 in
set_option maxHeartbeats 2000000 in
theorem t_addPicker {h : AHp} {A : AS} {x y z : Int32} (H : CRep h A) (hu : gU A.1.2.1) (hb : gB A.1.2.1) : JM mi_X5_addPicker 8 1 6 [.ref 0, .int x, .int y, .int z] h (fun r h' => r = (asChg A 0 x y z).1 ∧ CStep h (asChg A 0 x y z).2 h') := by
  have e := H.1
  refine JM_of gd_X5_addPicker rfl (by decide +kernel) (Nat.le_of_ble_eq_true rfl) (oj_cats rfl) (by decide) ?_
  repeat (first | (refine J_step rfl rfl ?_) | (refine J_getf rfl rfl rfl (by assumption) rfl ?_))
  refine J_callV rfl rfl rfl rfl rfl e rfl rfl rfl rfl (c_change (k := 0) H hu hb (by omega)) (Nat.le_refl _) (Nat.le_refl _) (fun E h9 q => Or.inl ⟨rfl, rfl, q⟩) (fun v h9 q => ?_)
  obtain ⟨q1, q2⟩ := q
  have hv : ∃ w, v = some (.int w) := by
    unfold asChg at q1
    split at q1
    · exact ⟨_, Sum.inl.inj q1⟩
    · cases q1
  obtain ⟨w, rfl⟩ := hv
  exact J_iret rfl rfl rfl rfl ⟨q1, q2⟩
set_option maxRecDepth 100000 in
set_option maxHeartbeats 2000000 in
theorem t_removePicker {h : AHp} {A : AS} {x : Int32} (H : CRep h A) (hu : gU A.1.2.1) (hb : gB A.1.2.1) : JM mi_X5_removePicker 8 1 6 [.ref 0, .int x] h (fun r h' => r = (asChg A 1 x 0 0).1 ∧ CStep h (asChg A 1 x 0 0).2 h') := by
  have e := H.1
  refine JM_of gd_X5_removePicker rfl (by decide +kernel) (Nat.le_of_ble_eq_true rfl) (oj_cats rfl) (by decide) ?_
  repeat (first | (refine J_step rfl rfl ?_) | (refine J_getf rfl rfl rfl (by assumption) rfl ?_))
  refine J_callV rfl rfl rfl rfl rfl e rfl rfl rfl rfl (c_change (k := 1) H hu hb (by omega)) (Nat.le_refl _) (Nat.le_refl _) (fun E h9 q => Or.inl ⟨rfl, rfl, q⟩) (fun v h9 q => ?_)
  obtain ⟨q1, q2⟩ := q
  have hv : ∃ w, v = some (.int w) := by
    unfold asChg at q1
    split at q1
    · exact ⟨_, Sum.inl.inj q1⟩
    · cases q1
  obtain ⟨w, rfl⟩ := hv
  exact J_iret rfl rfl rfl rfl ⟨q1, q2⟩
set_option maxRecDepth 100000 in
set_option maxHeartbeats 2000000 in
theorem t_setSlope {h : AHp} {A : AS} {x y : Int32} (H : CRep h A) (hu : gU A.1.2.1) (hb : gB A.1.2.1) : JM mi_X5_setSlope 8 1 6 [.ref 0, .int x, .int y] h (fun r h' => r = (asChg A 2 x y 0).1 ∧ CStep h (asChg A 2 x y 0).2 h') := by
  have e := H.1
  refine JM_of gd_X5_setSlope rfl (by decide +kernel) (Nat.le_of_ble_eq_true rfl) (oj_cats rfl) (by decide) ?_
  repeat (first | (refine J_step rfl rfl ?_) | (refine J_getf rfl rfl rfl (by assumption) rfl ?_))
  refine J_callV rfl rfl rfl rfl rfl e rfl rfl rfl rfl (c_change (k := 2) H hu hb (by omega)) (Nat.le_refl _) (Nat.le_refl _) (fun E h9 q => Or.inl ⟨rfl, rfl, q⟩) (fun v h9 q => ?_)
  obtain ⟨q1, q2⟩ := q
  have hv : ∃ w, v = some (.int w) := by
    unfold asChg at q1
    split at q1
    · exact ⟨_, Sum.inl.inj q1⟩
    · cases q1
  obtain ⟨w, rfl⟩ := hv
  exact J_iret rfl rfl rfl rfl ⟨q1, q2⟩
set_option maxRecDepth 100000 in
set_option maxHeartbeats 2000000 in
theorem t_setCapacity {h : AHp} {A : AS} {x : Int32} (H : CRep h A) (hu : gU A.1.2.1) (hb : gB A.1.2.1) : JM mi_X5_setCapacity 8 1 6 [.ref 0, .int x] h (fun r h' => r = (asChg A 4 x 0 0).1 ∧ CStep h (asChg A 4 x 0 0).2 h') := by
  have e := H.1
  refine JM_of gd_X5_setCapacity rfl (by decide +kernel) (Nat.le_of_ble_eq_true rfl) (oj_cats rfl) (by decide) ?_
  repeat (first | (refine J_step rfl rfl ?_) | (refine J_getf rfl rfl rfl (by assumption) rfl ?_))
  refine J_callV rfl rfl rfl rfl rfl e rfl rfl rfl rfl (c_change (k := 4) H hu hb (by omega)) (Nat.le_refl _) (Nat.le_refl _) (fun E h9 q => Or.inl ⟨rfl, rfl, q⟩) (fun v h9 q => ?_)
  obtain ⟨q1, q2⟩ := q
  have hv : ∃ w, v = some (.int w) := by
    unfold asChg at q1
    split at q1
    · exact ⟨_, Sum.inl.inj q1⟩
    · cases q1
  obtain ⟨w, rfl⟩ := hv
  exact J_iret rfl rfl rfl rfl ⟨q1, q2⟩
set_option maxRecDepth 100000 in
set_option maxHeartbeats 2000000 in
theorem t_pass {h : AHp} {A : AS} {x : Int32} (H : CRep h A) (hu : gU A.1.2.1) (hb : gB A.1.2.1) : JM mi_X5_pass 8 1 6 [.ref 0, .int x] h (fun r h' => r = (asChg A 5 x 0 0).1 ∧ CStep h (asChg A 5 x 0 0).2 h') := by
  have e := H.1
  refine JM_of gd_X5_pass rfl (by decide +kernel) (Nat.le_of_ble_eq_true rfl) (oj_cats rfl) (by decide) ?_
  repeat (first | (refine J_step rfl rfl ?_) | (refine J_getf rfl rfl rfl (by assumption) rfl ?_))
  refine J_callV rfl rfl rfl rfl rfl e rfl rfl rfl rfl (c_change (k := 5) H hu hb (by omega)) (Nat.le_refl _) (Nat.le_refl _) (fun E h9 q => Or.inl ⟨rfl, rfl, q⟩) (fun v h9 q => ?_)
  obtain ⟨q1, q2⟩ := q
  have hv : ∃ w, v = some (.int w) := by
    unfold asChg at q1
    split at q1
    · exact ⟨_, Sum.inl.inj q1⟩
    · cases q1
  obtain ⟨w, rfl⟩ := hv
  exact J_iret rfl rfl rfl rfl ⟨q1, q2⟩
theorem apD_turn {q : LQ} {x y z : Int32} : uB (apD q 3 x y z).2.2.1 = !uB q.2.1 := by
  show ((fset q.2.1 5 (bI (!uB q.2.1))) 5 == 1) = (!uB q.2.1)
  rw [fset_at]
  cases uB q.2.1 <;> rfl
/-- turn answers the new direction -/
def asTurn (A : AS) : (Option Value ⊕ String) × AS := if sFault A.1.2.1 A.1.2.2.1 3 0 0 0 = 0 then (.inl (some (.int (bI (!uB A.1.2.1)))), (asChg A 3 0 0 0).2) else asChg A 3 0 0 0
set_option maxRecDepth 100000 in
set_option maxHeartbeats 2000000 in
theorem t_turn {h : AHp} {A : AS} (H : CRep h A) (hu : gU A.1.2.1) (hb : gB A.1.2.1) : JM mi_X5_turn 8 1 6 [.ref 0] h (fun r h' => r = (asTurn A).1 ∧ CStep h (asTurn A).2 h') := by
  have e := H.1
  refine JM_of gd_X5_turn rfl (by decide +kernel) (Nat.le_of_ble_eq_true rfl) (oj_cats rfl) (by decide) ?_
  repeat (first | (refine J_step rfl rfl ?_) | (refine J_getf rfl rfl rfl (by assumption) rfl ?_))
  refine J_callV rfl rfl rfl rfl rfl e rfl rfl rfl rfl (c_change (k := 3) H hu hb (by omega)) (Nat.le_refl _) (Nat.le_refl _) (fun E h9 q => ?_) (fun v h9 q => ?_)
  · refine Or.inl ⟨rfl, rfl, ?_⟩
    obtain ⟨q1, q2⟩ := q
    unfold asTurn
    by_cases hf : sFault A.1.2.1 A.1.2.2.1 3 0 0 0 = 0
    · unfold asChg at q1
      rw [if_pos hf] at q1
      cases q1
    · rw [if_neg hf]
      exact ⟨q1, q2⟩
  · obtain ⟨q1, q2⟩ := q
    by_cases hf : sFault A.1.2.1 A.1.2.2.1 3 0 0 0 = 0
    · have q1' := q1
      unfold asChg at q1'
      rw [if_pos hf] at q1'
      cases q1'
      have hA : (asChg A 3 0 0 0).2.1 = (apD A.1 3 0 0 0).2 := by unfold asChg; rw [if_pos hf]
      have e9 := q2.1.1
      obtain ⟨sl, hsl, hLn⟩ := q2.1.2.1
      rw [hA] at hLn
      have e19 := hLn.1
      have hu9 : gU (apD A.1 3 0 0 0).2.2.1 := apD_gU hu
      repeat (first | (refine J_step rfl rfl ?_) | (refine J_getf rfl rfl rfl (by assumption) rfl ?_))
      refine J_cV rfl rfl rfl rfl rfl (by assumption) rfl rfl rfl rfl rfl rfl (c_isUp (d := 0) hLn hu9) ?_
      refine J_zret rfl rfl rfl rfl _ rfl ?_
      unfold asTurn
      rw [if_pos hf]
      exact ⟨by rw [apD_turn]; rfl, q2⟩
    · unfold asChg at q1
      rw [if_neg hf] at q1
      cases q1
