set_option maxRecDepth 100000 in
set_option maxHeartbeats 2000000 in
theorem w_addPicker {h : AHp} {P : AHp → Prop} {S : Option Value ⊕ String} {c : Int32} {fs : List Value} {D mc ms : Nat} {p0 p1 p2 : Int32} (hmc : mc ≤ 1) (hms : ms ≤ 6) (hC : JM mi_X5_addPicker D mc ms [.ref 0, .int p0, .int p1, .int p2] h (fun r h' => r = S ∧ P h')) (e0 : h 0 = .inr (5, fs)) (hS : (S = .inl (some (.int c))) ∨ (S = .inr "java/lang/IndexOutOfBoundsException" ∧ c = -900001) ∨ (S = .inr "java/lang/IllegalArgumentException" ∧ c = -900002) ∨ (S = .inr "java/lang/IllegalStateException" ∧ c = -900003)) : JM mi_L_addPicker (D + 1) 1 6 [.ref 0, .int p0, .int p1, .int p2] h (fun r h' => r = .inl (some (.int c)) ∧ P h') := by
  refine JM_of gd_L_addPicker rfl (by decide +kernel) (Nat.le_of_ble_eq_true rfl) (oj_cats rfl) (by decide) ?_
  repeat (first | (refine J_step rfl rfl ?_) | (refine J_getf rfl rfl rfl (by assumption) rfl ?_))
  refine J_callV rfl rfl rfl rfl rfl e0 rfl rfl (Nat.ble_eq.mpr (Nat.le_refl _)) rfl hC (by omega) (by omega) (fun E h9 q => ?_) (fun v9 h9 q => ?_)
  · obtain ⟨q1, q2⟩ := q
    rcases hS with s | ⟨s, hc⟩ | ⟨s, hc⟩ | ⟨s, hc⟩
    · rw [s] at q1; cases q1
    · rw [s] at q1; cases q1; subst hc
      refine Or.inr ⟨[], (0, 7, 8, 15), [(0, 7, 13, 18), (0, 7, 18, 21)], "java/lang/IndexOutOfBoundsException", rfl, rfl, by decide, by decide +kernel, by decide +kernel, (fun z hz => by cases hz), .astore 4, 2, 10, _, 4, rfl, rfl, (Nat.le_of_ble_eq_true rfl), ?_⟩
      refine J_ldcI (v := -900001) rfl (by decide +kernel) ?_
      exact J_ret (v := some (.int _)) rfl (rets_i rfl) (by omega) (by omega) ⟨rfl, q2⟩ rfl
    · rw [s] at q1; cases q1; subst hc
      refine Or.inr ⟨[(0, 7, 8, 15)], (0, 7, 13, 18), [(0, 7, 18, 21)], "java/lang/IllegalArgumentException", rfl, rfl, by decide, by decide +kernel, by decide +kernel, (fun z hz => by
        simp only [List.mem_cons, List.not_mem_nil, or_false] at hz
        rcases hz with hz
        · subst hz; exact ⟨by decide, "java/lang/IndexOutOfBoundsException", by decide +kernel, by decide +kernel⟩), .astore 4, 2, 15, _, 4, rfl, rfl, (Nat.le_of_ble_eq_true rfl), ?_⟩
      refine J_ldcI (v := -900002) rfl (by decide +kernel) ?_
      exact J_ret (v := some (.int _)) rfl (rets_i rfl) (by omega) (by omega) ⟨rfl, q2⟩ rfl
    · rw [s] at q1; cases q1; subst hc
      refine Or.inr ⟨[(0, 7, 8, 15), (0, 7, 13, 18)], (0, 7, 18, 21), [], "java/lang/IllegalStateException", rfl, rfl, by decide, by decide +kernel, by decide +kernel, (fun z hz => by
        simp only [List.mem_cons, List.not_mem_nil, or_false] at hz
        rcases hz with hz | hz
        · subst hz; exact ⟨by decide, "java/lang/IndexOutOfBoundsException", by decide +kernel, by decide +kernel⟩
        · subst hz; exact ⟨by decide, "java/lang/IllegalArgumentException", by decide +kernel, by decide +kernel⟩), .astore 4, 2, 20, _, 4, rfl, rfl, (Nat.le_of_ble_eq_true rfl), ?_⟩
      refine J_ldcI (v := -900003) rfl (by decide +kernel) ?_
      exact J_ret (v := some (.int _)) rfl (rets_i rfl) (by omega) (by omega) ⟨rfl, q2⟩ rfl
  · obtain ⟨q1, q2⟩ := q
    rcases hS with s | ⟨s, hc⟩ | ⟨s, hc⟩ | ⟨s, hc⟩
    · rw [s] at q1; cases q1
      exact J_ret (v := some (.int _)) rfl (rets_i rfl) (by omega) (by omega) ⟨rfl, q2⟩ rfl
    · rw [s] at q1; cases q1
    · rw [s] at q1; cases q1
    · rw [s] at q1; cases q1
set_option maxRecDepth 100000 in
set_option maxHeartbeats 2000000 in
theorem w_removePicker {h : AHp} {P : AHp → Prop} {S : Option Value ⊕ String} {c : Int32} {fs : List Value} {D mc ms : Nat} {p0 : Int32} (hmc : mc ≤ 1) (hms : ms ≤ 6) (hC : JM mi_X5_removePicker D mc ms [.ref 0, .int p0] h (fun r h' => r = S ∧ P h')) (e0 : h 0 = .inr (5, fs)) (hS : (S = .inl (some (.int c))) ∨ (S = .inr "java/util/NoSuchElementException" ∧ c = -900001) ∨ (S = .inr "java/lang/IllegalStateException" ∧ c = -900002)) : JM mi_L_removePicker (D + 1) 1 6 [.ref 0, .int p0] h (fun r h' => r = .inl (some (.int c)) ∧ P h') := by
  refine JM_of gd_L_removePicker rfl (by decide +kernel) (Nat.le_of_ble_eq_true rfl) (oj_cats rfl) (by decide) ?_
  repeat (first | (refine J_step rfl rfl ?_) | (refine J_getf rfl rfl rfl (by assumption) rfl ?_))
  refine J_callV rfl rfl rfl rfl rfl e0 rfl rfl (Nat.ble_eq.mpr (Nat.le_refl _)) rfl hC (by omega) (by omega) (fun E h9 q => ?_) (fun v9 h9 q => ?_)
  · obtain ⟨q1, q2⟩ := q
    rcases hS with s | ⟨s, hc⟩ | ⟨s, hc⟩
    · rw [s] at q1; cases q1
    · rw [s] at q1; cases q1; subst hc
      refine Or.inr ⟨[], (0, 5, 6, 28), [(0, 5, 10, 21)], "java/util/NoSuchElementException", rfl, rfl, by decide, by decide +kernel, by decide +kernel, (fun z hz => by cases hz), .astore_n 2, 1, 7, _, 2, rfl, rfl, (Nat.le_of_ble_eq_true rfl), ?_⟩
      refine J_ldcI (v := -900001) rfl (by decide +kernel) ?_
      exact J_ret (v := some (.int _)) rfl (rets_i rfl) (by omega) (by omega) ⟨rfl, q2⟩ rfl
    · rw [s] at q1; cases q1; subst hc
      refine Or.inr ⟨[(0, 5, 6, 28)], (0, 5, 10, 21), [], "java/lang/IllegalStateException", rfl, rfl, by decide, by decide +kernel, by decide +kernel, (fun z hz => by
        simp only [List.mem_cons, List.not_mem_nil, or_false] at hz
        rcases hz with hz
        · subst hz; exact ⟨by decide, "java/util/NoSuchElementException", by decide +kernel, by decide +kernel⟩), .astore_n 2, 1, 11, _, 2, rfl, rfl, (Nat.le_of_ble_eq_true rfl), ?_⟩
      refine J_ldcI (v := -900002) rfl (by decide +kernel) ?_
      exact J_ret (v := some (.int _)) rfl (rets_i rfl) (by omega) (by omega) ⟨rfl, q2⟩ rfl
  · obtain ⟨q1, q2⟩ := q
    rcases hS with s | ⟨s, hc⟩ | ⟨s, hc⟩
    · rw [s] at q1; cases q1
      exact J_ret (v := some (.int _)) rfl (rets_i rfl) (by omega) (by omega) ⟨rfl, q2⟩ rfl
    · rw [s] at q1; cases q1
    · rw [s] at q1; cases q1
set_option maxRecDepth 100000 in
set_option maxHeartbeats 2000000 in
theorem w_setSlope {h : AHp} {P : AHp → Prop} {S : Option Value ⊕ String} {c : Int32} {fs : List Value} {D mc ms : Nat} {p0 p1 : Int32} (hmc : mc ≤ 1) (hms : ms ≤ 6) (hC : JM mi_X5_setSlope D mc ms [.ref 0, .int p0, .int p1] h (fun r h' => r = S ∧ P h')) (e0 : h 0 = .inr (5, fs)) (hS : (S = .inl (some (.int c))) ∨ (S = .inr "java/lang/IndexOutOfBoundsException" ∧ c = -900001) ∨ (S = .inr "java/lang/IllegalArgumentException" ∧ c = -900002)) : JM mi_L_setSlope (D + 1) 1 6 [.ref 0, .int p0, .int p1] h (fun r h' => r = .inl (some (.int c)) ∧ P h') := by
  refine JM_of gd_L_setSlope rfl (by decide +kernel) (Nat.le_of_ble_eq_true rfl) (oj_cats rfl) (by decide) ?_
  repeat (first | (refine J_step rfl rfl ?_) | (refine J_getf rfl rfl rfl (by assumption) rfl ?_))
  refine J_callV rfl rfl rfl rfl rfl e0 rfl rfl (Nat.ble_eq.mpr (Nat.le_refl _)) rfl hC (by omega) (by omega) (fun E h9 q => ?_) (fun v9 h9 q => ?_)
  · obtain ⟨q1, q2⟩ := q
    rcases hS with s | ⟨s, hc⟩ | ⟨s, hc⟩
    · rw [s] at q1; cases q1
    · rw [s] at q1; cases q1; subst hc
      refine Or.inr ⟨[], (0, 6, 7, 15), [(0, 6, 11, 18)], "java/lang/IndexOutOfBoundsException", rfl, rfl, by decide, by decide +kernel, by decide +kernel, (fun z hz => by cases hz), .astore_n 3, 1, 8, _, 3, rfl, rfl, (Nat.le_of_ble_eq_true rfl), ?_⟩
      refine J_ldcI (v := -900001) rfl (by decide +kernel) ?_
      exact J_ret (v := some (.int _)) rfl (rets_i rfl) (by omega) (by omega) ⟨rfl, q2⟩ rfl
    · rw [s] at q1; cases q1; subst hc
      refine Or.inr ⟨[(0, 6, 7, 15)], (0, 6, 11, 18), [], "java/lang/IllegalArgumentException", rfl, rfl, by decide, by decide +kernel, by decide +kernel, (fun z hz => by
        simp only [List.mem_cons, List.not_mem_nil, or_false] at hz
        rcases hz with hz
        · subst hz; exact ⟨by decide, "java/lang/IndexOutOfBoundsException", by decide +kernel, by decide +kernel⟩), .astore_n 3, 1, 12, _, 3, rfl, rfl, (Nat.le_of_ble_eq_true rfl), ?_⟩
      refine J_ldcI (v := -900002) rfl (by decide +kernel) ?_
      exact J_ret (v := some (.int _)) rfl (rets_i rfl) (by omega) (by omega) ⟨rfl, q2⟩ rfl
  · obtain ⟨q1, q2⟩ := q
    rcases hS with s | ⟨s, hc⟩ | ⟨s, hc⟩
    · rw [s] at q1; cases q1
      exact J_ret (v := some (.int _)) rfl (rets_i rfl) (by omega) (by omega) ⟨rfl, q2⟩ rfl
    · rw [s] at q1; cases q1
    · rw [s] at q1; cases q1
set_option maxRecDepth 100000 in
set_option maxHeartbeats 2000000 in
theorem w_setCapacity {h : AHp} {P : AHp → Prop} {S : Option Value ⊕ String} {c : Int32} {fs : List Value} {D mc ms : Nat} {p0 : Int32} (hmc : mc ≤ 1) (hms : ms ≤ 6) (hC : JM mi_X5_setCapacity D mc ms [.ref 0, .int p0] h (fun r h' => r = S ∧ P h')) (e0 : h 0 = .inr (5, fs)) (hS : (S = .inl (some (.int c))) ∨ (S = .inr "java/lang/IllegalArgumentException" ∧ c = -900001) ∨ (S = .inr "java/lang/IllegalStateException" ∧ c = -900002)) : JM mi_L_setCapacity (D + 1) 1 6 [.ref 0, .int p0] h (fun r h' => r = .inl (some (.int c)) ∧ P h') := by
  refine JM_of gd_L_setCapacity rfl (by decide +kernel) (Nat.le_of_ble_eq_true rfl) (oj_cats rfl) (by decide) ?_
  repeat (first | (refine J_step rfl rfl ?_) | (refine J_getf rfl rfl rfl (by assumption) rfl ?_))
  refine J_callV rfl rfl rfl rfl rfl e0 rfl rfl (Nat.ble_eq.mpr (Nat.le_refl _)) rfl hC (by omega) (by omega) (fun E h9 q => ?_) (fun v9 h9 q => ?_)
  · obtain ⟨q1, q2⟩ := q
    rcases hS with s | ⟨s, hc⟩ | ⟨s, hc⟩
    · rw [s] at q1; cases q1
    · rw [s] at q1; cases q1; subst hc
      refine Or.inr ⟨[], (0, 5, 6, 18), [(0, 5, 10, 21)], "java/lang/IllegalArgumentException", rfl, rfl, by decide, by decide +kernel, by decide +kernel, (fun z hz => by cases hz), .astore_n 2, 1, 7, _, 2, rfl, rfl, (Nat.le_of_ble_eq_true rfl), ?_⟩
      refine J_ldcI (v := -900001) rfl (by decide +kernel) ?_
      exact J_ret (v := some (.int _)) rfl (rets_i rfl) (by omega) (by omega) ⟨rfl, q2⟩ rfl
    · rw [s] at q1; cases q1; subst hc
      refine Or.inr ⟨[(0, 5, 6, 18)], (0, 5, 10, 21), [], "java/lang/IllegalStateException", rfl, rfl, by decide, by decide +kernel, by decide +kernel, (fun z hz => by
        simp only [List.mem_cons, List.not_mem_nil, or_false] at hz
        rcases hz with hz
        · subst hz; exact ⟨by decide, "java/lang/IllegalArgumentException", by decide +kernel, by decide +kernel⟩), .astore_n 2, 1, 11, _, 2, rfl, rfl, (Nat.le_of_ble_eq_true rfl), ?_⟩
      refine J_ldcI (v := -900002) rfl (by decide +kernel) ?_
      exact J_ret (v := some (.int _)) rfl (rets_i rfl) (by omega) (by omega) ⟨rfl, q2⟩ rfl
  · obtain ⟨q1, q2⟩ := q
    rcases hS with s | ⟨s, hc⟩ | ⟨s, hc⟩
    · rw [s] at q1; cases q1
      exact J_ret (v := some (.int _)) rfl (rets_i rfl) (by omega) (by omega) ⟨rfl, q2⟩ rfl
    · rw [s] at q1; cases q1
    · rw [s] at q1; cases q1
set_option maxRecDepth 100000 in
set_option maxHeartbeats 2000000 in
theorem w_pass {h : AHp} {P : AHp → Prop} {S : Option Value ⊕ String} {c : Int32} {fs : List Value} {D mc ms : Nat} {p0 : Int32} (hmc : mc ≤ 1) (hms : ms ≤ 6) (hC : JM mi_X5_pass D mc ms [.ref 0, .int p0] h (fun r h' => r = S ∧ P h')) (e0 : h 0 = .inr (5, fs)) (hS : (S = .inl (some (.int c))) ∨ (S = .inr "java/lang/IllegalArgumentException" ∧ c = -900001)) : JM mi_L_pass (D + 1) 1 6 [.ref 0, .int p0] h (fun r h' => r = .inl (some (.int c)) ∧ P h') := by
  refine JM_of gd_L_pass rfl (by decide +kernel) (Nat.le_of_ble_eq_true rfl) (oj_cats rfl) (by decide) ?_
  repeat (first | (refine J_step rfl rfl ?_) | (refine J_getf rfl rfl rfl (by assumption) rfl ?_))
  refine J_callV rfl rfl rfl rfl rfl e0 rfl rfl (Nat.ble_eq.mpr (Nat.le_refl _)) rfl hC (by omega) (by omega) (fun E h9 q => ?_) (fun v9 h9 q => ?_)
  · obtain ⟨q1, q2⟩ := q
    rcases hS with s | ⟨s, hc⟩
    · rw [s] at q1; cases q1
    · rw [s] at q1; cases q1; subst hc
      refine Or.inr ⟨[], (0, 5, 6, 18), [], "java/lang/IllegalArgumentException", rfl, rfl, by decide, by decide +kernel, by decide +kernel, (fun z hz => by cases hz), .astore_n 2, 1, 7, _, 2, rfl, rfl, (Nat.le_of_ble_eq_true rfl), ?_⟩
      refine J_ldcI (v := -900001) rfl (by decide +kernel) ?_
      exact J_ret (v := some (.int _)) rfl (rets_i rfl) (by omega) (by omega) ⟨rfl, q2⟩ rfl
  · obtain ⟨q1, q2⟩ := q
    rcases hS with s | ⟨s, hc⟩
    · rw [s] at q1; cases q1
      exact J_ret (v := some (.int _)) rfl (rets_i rfl) (by omega) (by omega) ⟨rfl, q2⟩ rfl
    · rw [s] at q1; cases q1
set_option maxRecDepth 100000 in
set_option maxHeartbeats 2000000 in
theorem w_station {h : AHp} {P : AHp → Prop} {S : Option Value ⊕ String} {c : Int32} {fs : List Value} {D mc ms : Nat} {p0 : Int32} (hmc : mc ≤ 1) (hms : ms ≤ 6) (hC : JM mi_X5_station D mc ms [.ref 0, .int p0] h (fun r h' => r = S ∧ P h')) (e0 : h 0 = .inr (5, fs)) (hS : (S = .inl (some (.int c))) ∨ (S = .inr "java/lang/IndexOutOfBoundsException" ∧ c = -900001) ∨ (S = .inr "java/util/NoSuchElementException" ∧ c = -900002)) : JM mi_L_station (D + 1) 1 6 [.ref 0, .int p0] h (fun r h' => r = .inl (some (.int c)) ∧ P h') := by
  refine JM_of gd_L_station rfl (by decide +kernel) (Nat.le_of_ble_eq_true rfl) (oj_cats rfl) (by decide) ?_
  repeat (first | (refine J_step rfl rfl ?_) | (refine J_getf rfl rfl rfl (by assumption) rfl ?_))
  refine J_callV rfl rfl rfl rfl rfl e0 rfl rfl (Nat.ble_eq.mpr (Nat.le_refl _)) rfl hC (by omega) (by omega) (fun E h9 q => ?_) (fun v9 h9 q => ?_)
  · obtain ⟨q1, q2⟩ := q
    rcases hS with s | ⟨s, hc⟩ | ⟨s, hc⟩
    · rw [s] at q1; cases q1
    · rw [s] at q1; cases q1; subst hc
      refine Or.inr ⟨[], (0, 5, 6, 15), [(0, 5, 10, 28)], "java/lang/IndexOutOfBoundsException", rfl, rfl, by decide, by decide +kernel, by decide +kernel, (fun z hz => by cases hz), .astore_n 2, 1, 7, _, 2, rfl, rfl, (Nat.le_of_ble_eq_true rfl), ?_⟩
      refine J_ldcI (v := -900001) rfl (by decide +kernel) ?_
      exact J_ret (v := some (.int _)) rfl (rets_i rfl) (by omega) (by omega) ⟨rfl, q2⟩ rfl
    · rw [s] at q1; cases q1; subst hc
      refine Or.inr ⟨[(0, 5, 6, 15)], (0, 5, 10, 28), [], "java/util/NoSuchElementException", rfl, rfl, by decide, by decide +kernel, by decide +kernel, (fun z hz => by
        simp only [List.mem_cons, List.not_mem_nil, or_false] at hz
        rcases hz with hz
        · subst hz; exact ⟨by decide, "java/lang/IndexOutOfBoundsException", by decide +kernel, by decide +kernel⟩), .astore_n 2, 1, 11, _, 2, rfl, rfl, (Nat.le_of_ble_eq_true rfl), ?_⟩
      refine J_ldcI (v := -900002) rfl (by decide +kernel) ?_
      exact J_ret (v := some (.int _)) rfl (rets_i rfl) (by omega) (by omega) ⟨rfl, q2⟩ rfl
  · obtain ⟨q1, q2⟩ := q
    rcases hS with s | ⟨s, hc⟩ | ⟨s, hc⟩
    · rw [s] at q1; cases q1
      exact J_ret (v := some (.int _)) rfl (rets_i rfl) (by omega) (by omega) ⟨rfl, q2⟩ rfl
    · rw [s] at q1; cases q1
    · rw [s] at q1; cases q1
set_option maxRecDepth 100000 in
set_option maxHeartbeats 2000000 in
theorem w_riderAt {h : AHp} {P : AHp → Prop} {S : Option Value ⊕ String} {c : Int32} {fs : List Value} {D mc ms : Nat} {p0 p1 : Int32} (hmc : mc ≤ 1) (hms : ms ≤ 6) (hC : JM mi_X5_riderAt D mc ms [.ref 0, .int p0, .int p1] h (fun r h' => r = S ∧ P h')) (e0 : h 0 = .inr (5, fs)) (hS : (S = .inl (some (.int c))) ∨ (S = .inr "java/lang/IndexOutOfBoundsException" ∧ c = -900001) ∨ (S = .inr "java/util/NoSuchElementException" ∧ c = -900002)) : JM mi_L_riderAt (D + 1) 1 6 [.ref 0, .int p0, .int p1] h (fun r h' => r = .inl (some (.int c)) ∧ P h') := by
  refine JM_of gd_L_riderAt rfl (by decide +kernel) (Nat.le_of_ble_eq_true rfl) (oj_cats rfl) (by decide) ?_
  repeat (first | (refine J_step rfl rfl ?_) | (refine J_getf rfl rfl rfl (by assumption) rfl ?_))
  refine J_callV rfl rfl rfl rfl rfl e0 rfl rfl (Nat.ble_eq.mpr (Nat.le_refl _)) rfl hC (by omega) (by omega) (fun E h9 q => ?_) (fun v9 h9 q => ?_)
  · obtain ⟨q1, q2⟩ := q
    rcases hS with s | ⟨s, hc⟩ | ⟨s, hc⟩
    · rw [s] at q1; cases q1
    · rw [s] at q1; cases q1; subst hc
      refine Or.inr ⟨[], (0, 6, 7, 15), [(0, 6, 11, 28)], "java/lang/IndexOutOfBoundsException", rfl, rfl, by decide, by decide +kernel, by decide +kernel, (fun z hz => by cases hz), .astore_n 3, 1, 8, _, 3, rfl, rfl, (Nat.le_of_ble_eq_true rfl), ?_⟩
      refine J_ldcI (v := -900001) rfl (by decide +kernel) ?_
      exact J_ret (v := some (.int _)) rfl (rets_i rfl) (by omega) (by omega) ⟨rfl, q2⟩ rfl
    · rw [s] at q1; cases q1; subst hc
      refine Or.inr ⟨[(0, 6, 7, 15)], (0, 6, 11, 28), [], "java/util/NoSuchElementException", rfl, rfl, by decide, by decide +kernel, by decide +kernel, (fun z hz => by
        simp only [List.mem_cons, List.not_mem_nil, or_false] at hz
        rcases hz with hz
        · subst hz; exact ⟨by decide, "java/lang/IndexOutOfBoundsException", by decide +kernel, by decide +kernel⟩), .astore_n 3, 1, 12, _, 3, rfl, rfl, (Nat.le_of_ble_eq_true rfl), ?_⟩
      refine J_ldcI (v := -900002) rfl (by decide +kernel) ?_
      exact J_ret (v := some (.int _)) rfl (rets_i rfl) (by omega) (by omega) ⟨rfl, q2⟩ rfl
  · obtain ⟨q1, q2⟩ := q
    rcases hS with s | ⟨s, hc⟩ | ⟨s, hc⟩
    · rw [s] at q1; cases q1
      exact J_ret (v := some (.int _)) rfl (rets_i rfl) (by omega) (by omega) ⟨rfl, q2⟩ rfl
    · rw [s] at q1; cases q1
    · rw [s] at q1; cases q1
set_option maxRecDepth 100000 in
set_option maxHeartbeats 2000000 in
theorem w_cabinOf {h : AHp} {P : AHp → Prop} {S : Option Value ⊕ String} {c : Int32} {fs : List Value} {D mc ms : Nat} {p0 : Int32} (hmc : mc ≤ 1) (hms : ms ≤ 6) (hC : JM mi_X5_cabinOf D mc ms [.ref 0, .int p0] h (fun r h' => r = S ∧ P h')) (e0 : h 0 = .inr (5, fs)) (hS : (S = .inl (some (.int c))) ∨ (S = .inr "java/util/NoSuchElementException" ∧ c = -900001)) : JM mi_L_cabinOf (D + 1) 1 6 [.ref 0, .int p0] h (fun r h' => r = .inl (some (.int c)) ∧ P h') := by
  refine JM_of gd_L_cabinOf rfl (by decide +kernel) (Nat.le_of_ble_eq_true rfl) (oj_cats rfl) (by decide) ?_
  repeat (first | (refine J_step rfl rfl ?_) | (refine J_getf rfl rfl rfl (by assumption) rfl ?_))
  refine J_callV rfl rfl rfl rfl rfl e0 rfl rfl (Nat.ble_eq.mpr (Nat.le_refl _)) rfl hC (by omega) (by omega) (fun E h9 q => ?_) (fun v9 h9 q => ?_)
  · obtain ⟨q1, q2⟩ := q
    rcases hS with s | ⟨s, hc⟩
    · rw [s] at q1; cases q1
    · rw [s] at q1; cases q1; subst hc
      refine Or.inr ⟨[], (0, 5, 6, 28), [], "java/util/NoSuchElementException", rfl, rfl, by decide, by decide +kernel, by decide +kernel, (fun z hz => by cases hz), .astore_n 2, 1, 7, _, 2, rfl, rfl, (Nat.le_of_ble_eq_true rfl), ?_⟩
      refine J_ldcI (v := -900001) rfl (by decide +kernel) ?_
      exact J_ret (v := some (.int _)) rfl (rets_i rfl) (by omega) (by omega) ⟨rfl, q2⟩ rfl
  · obtain ⟨q1, q2⟩ := q
    rcases hS with s | ⟨s, hc⟩
    · rw [s] at q1; cases q1
      exact J_ret (v := some (.int _)) rfl (rets_i rfl) (by omega) (by omega) ⟨rfl, q2⟩ rfl
    · rw [s] at q1; cases q1
set_option maxRecDepth 100000 in
set_option maxHeartbeats 2000000 in
theorem w_waitingAt {h : AHp} {P : AHp → Prop} {S : Option Value ⊕ String} {c : Int32} {fs : List Value} {D mc ms : Nat} {p0 p1 : Int32} (hmc : mc ≤ 1) (hms : ms ≤ 6) (hC : JM mi_X5_waitingAt D mc ms [.ref 0, .int p0, .int p1] h (fun r h' => r = S ∧ P h')) (e0 : h 0 = .inr (5, fs)) (hS : (S = .inl (some (.int c))) ∨ (S = .inr "java/lang/IndexOutOfBoundsException" ∧ c = -900001) ∨ (S = .inr "java/util/NoSuchElementException" ∧ c = -900002)) : JM mi_L_waitingAt (D + 1) 1 6 [.ref 0, .int p0, .int p1] h (fun r h' => r = .inl (some (.int c)) ∧ P h') := by
  refine JM_of gd_L_waitingAt rfl (by decide +kernel) (Nat.le_of_ble_eq_true rfl) (oj_cats rfl) (by decide) ?_
  repeat (first | (refine J_step rfl rfl ?_) | (refine J_getf rfl rfl rfl (by assumption) rfl ?_))
  refine J_callV rfl rfl rfl rfl rfl e0 rfl rfl (Nat.ble_eq.mpr (Nat.le_refl _)) rfl hC (by omega) (by omega) (fun E h9 q => ?_) (fun v9 h9 q => ?_)
  · obtain ⟨q1, q2⟩ := q
    rcases hS with s | ⟨s, hc⟩ | ⟨s, hc⟩
    · rw [s] at q1; cases q1
    · rw [s] at q1; cases q1; subst hc
      refine Or.inr ⟨[], (0, 6, 7, 15), [(0, 6, 11, 28)], "java/lang/IndexOutOfBoundsException", rfl, rfl, by decide, by decide +kernel, by decide +kernel, (fun z hz => by cases hz), .astore_n 3, 1, 8, _, 3, rfl, rfl, (Nat.le_of_ble_eq_true rfl), ?_⟩
      refine J_ldcI (v := -900001) rfl (by decide +kernel) ?_
      exact J_ret (v := some (.int _)) rfl (rets_i rfl) (by omega) (by omega) ⟨rfl, q2⟩ rfl
    · rw [s] at q1; cases q1; subst hc
      refine Or.inr ⟨[(0, 6, 7, 15)], (0, 6, 11, 28), [], "java/util/NoSuchElementException", rfl, rfl, by decide, by decide +kernel, by decide +kernel, (fun z hz => by
        simp only [List.mem_cons, List.not_mem_nil, or_false] at hz
        rcases hz with hz
        · subst hz; exact ⟨by decide, "java/lang/IndexOutOfBoundsException", by decide +kernel, by decide +kernel⟩), .astore_n 3, 1, 12, _, 3, rfl, rfl, (Nat.le_of_ble_eq_true rfl), ?_⟩
      refine J_ldcI (v := -900002) rfl (by decide +kernel) ?_
      exact J_ret (v := some (.int _)) rfl (rets_i rfl) (by omega) (by omega) ⟨rfl, q2⟩ rfl
  · obtain ⟨q1, q2⟩ := q
    rcases hS with s | ⟨s, hc⟩ | ⟨s, hc⟩
    · rw [s] at q1; cases q1
      exact J_ret (v := some (.int _)) rfl (rets_i rfl) (by omega) (by omega) ⟨rfl, q2⟩ rfl
    · rw [s] at q1; cases q1
    · rw [s] at q1; cases q1
set_option maxRecDepth 100000 in
set_option maxHeartbeats 2000000 in
theorem w_busiestStation {h : AHp} {P : AHp → Prop} {S : Option Value ⊕ String} {c : Int32} {fs : List Value} {D mc ms : Nat} (hmc : mc ≤ 1) (hms : ms ≤ 6) (hC : JM mi_X5_busiestStation D mc ms [.ref 0] h (fun r h' => r = S ∧ P h')) (e0 : h 0 = .inr (5, fs)) (hS : (S = .inl (some (.int c))) ∨ (S = .inr "java/util/NoSuchElementException" ∧ c = -900001)) : JM mi_L_busiestStation (D + 1) 1 6 [.ref 0] h (fun r h' => r = .inl (some (.int c)) ∧ P h') := by
  refine JM_of gd_L_busiestStation rfl (by decide +kernel) (Nat.le_of_ble_eq_true rfl) (oj_cats rfl) (by decide) ?_
  repeat (first | (refine J_step rfl rfl ?_) | (refine J_getf rfl rfl rfl (by assumption) rfl ?_))
  refine J_callV rfl rfl rfl rfl rfl e0 rfl rfl (Nat.ble_eq.mpr (Nat.le_refl _)) rfl hC (by omega) (by omega) (fun E h9 q => ?_) (fun v9 h9 q => ?_)
  · obtain ⟨q1, q2⟩ := q
    rcases hS with s | ⟨s, hc⟩
    · rw [s] at q1; cases q1
    · rw [s] at q1; cases q1; subst hc
      refine Or.inr ⟨[], (0, 4, 5, 28), [], "java/util/NoSuchElementException", rfl, rfl, by decide, by decide +kernel, by decide +kernel, (fun z hz => by cases hz), .astore_n 1, 1, 6, _, 1, rfl, rfl, (Nat.le_of_ble_eq_true rfl), ?_⟩
      refine J_ldcI (v := -900001) rfl (by decide +kernel) ?_
      exact J_ret (v := some (.int _)) rfl (rets_i rfl) (by omega) (by omega) ⟨rfl, q2⟩ rfl
  · obtain ⟨q1, q2⟩ := q
    rcases hS with s | ⟨s, hc⟩
    · rw [s] at q1; cases q1
      exact J_ret (v := some (.int _)) rfl (rets_i rfl) (by omega) (by omega) ⟨rfl, q2⟩ rfl
    · rw [s] at q1; cases q1
set_option maxRecDepth 100000 in
set_option maxHeartbeats 2000000 in
theorem w_pickerByWeight {h : AHp} {P : AHp → Prop} {S : Option Value ⊕ String} {c : Int32} {fs : List Value} {D mc ms : Nat} {p0 : Int32} (hmc : mc ≤ 1) (hms : ms ≤ 6) (hC : JM mi_X5_pickerByWeight D mc ms [.ref 0, .int p0] h (fun r h' => r = S ∧ P h')) (e0 : h 0 = .inr (5, fs)) (hS : (S = .inl (some (.int c))) ∨ (S = .inr "java/util/NoSuchElementException" ∧ c = -900001)) : JM mi_L_pickerByWeight (D + 1) 1 6 [.ref 0, .int p0] h (fun r h' => r = .inl (some (.int c)) ∧ P h') := by
  refine JM_of gd_L_pickerByWeight rfl (by decide +kernel) (Nat.le_of_ble_eq_true rfl) (oj_cats rfl) (by decide) ?_
  repeat (first | (refine J_step rfl rfl ?_) | (refine J_getf rfl rfl rfl (by assumption) rfl ?_))
  refine J_callV rfl rfl rfl rfl rfl e0 rfl rfl (Nat.ble_eq.mpr (Nat.le_refl _)) rfl hC (by omega) (by omega) (fun E h9 q => ?_) (fun v9 h9 q => ?_)
  · obtain ⟨q1, q2⟩ := q
    rcases hS with s | ⟨s, hc⟩
    · rw [s] at q1; cases q1
    · rw [s] at q1; cases q1; subst hc
      refine Or.inr ⟨[], (0, 5, 6, 28), [], "java/util/NoSuchElementException", rfl, rfl, by decide, by decide +kernel, by decide +kernel, (fun z hz => by cases hz), .astore_n 2, 1, 7, _, 2, rfl, rfl, (Nat.le_of_ble_eq_true rfl), ?_⟩
      refine J_ldcI (v := -900001) rfl (by decide +kernel) ?_
      exact J_ret (v := some (.int _)) rfl (rets_i rfl) (by omega) (by omega) ⟨rfl, q2⟩ rfl
  · obtain ⟨q1, q2⟩ := q
    rcases hS with s | ⟨s, hc⟩
    · rw [s] at q1; cases q1
      exact J_ret (v := some (.int _)) rfl (rets_i rfl) (by omega) (by omega) ⟨rfl, q2⟩ rfl
    · rw [s] at q1; cases q1
set_option maxRecDepth 100000 in
set_option maxHeartbeats 2000000 in
theorem w_run {h : AHp} {P : AHp → Prop} {S : Option Value ⊕ String} {c : Int32} {fs : List Value} {D mc ms : Nat} (hmc : mc ≤ 1) (hms : ms ≤ 6) (hC : JM mi_X5_run D mc ms [.ref 0] h (fun r h' => r = S ∧ P h')) (e0 : h 0 = .inr (5, fs)) (hS : (S = .inl (some (.int c))) ∨ (S = .inr "java/lang/IllegalArgumentException" ∧ c = -900001) ∨ (S = .inr "java/lang/UnsupportedOperationException" ∧ c = -900002)) : JM mi_L_run (D + 1) 1 6 [.ref 0] h (fun r h' => r = .inl (some (.int c)) ∧ P h') := by
  refine JM_of gd_L_run rfl (by decide +kernel) (Nat.le_of_ble_eq_true rfl) (oj_cats rfl) (by decide) ?_
  repeat (first | (refine J_step rfl rfl ?_) | (refine J_getf rfl rfl rfl (by assumption) rfl ?_))
  refine J_callV rfl rfl rfl rfl rfl e0 rfl rfl (Nat.ble_eq.mpr (Nat.le_refl _)) rfl hC (by omega) (by omega) (fun E h9 q => ?_) (fun v9 h9 q => ?_)
  · obtain ⟨q1, q2⟩ := q
    rcases hS with s | ⟨s, hc⟩ | ⟨s, hc⟩
    · rw [s] at q1; cases q1
    · rw [s] at q1; cases q1; subst hc
      refine Or.inr ⟨[], (0, 4, 5, 18), [(0, 4, 9, 62)], "java/lang/IllegalArgumentException", rfl, rfl, by decide, by decide +kernel, by decide +kernel, (fun z hz => by cases hz), .astore_n 1, 1, 6, _, 1, rfl, rfl, (Nat.le_of_ble_eq_true rfl), ?_⟩
      refine J_ldcI (v := -900001) rfl (by decide +kernel) ?_
      exact J_ret (v := some (.int _)) rfl (rets_i rfl) (by omega) (by omega) ⟨rfl, q2⟩ rfl
    · rw [s] at q1; cases q1; subst hc
      refine Or.inr ⟨[(0, 4, 5, 18)], (0, 4, 9, 62), [], "java/lang/UnsupportedOperationException", rfl, rfl, by decide, by decide +kernel, by decide +kernel, (fun z hz => by
        simp only [List.mem_cons, List.not_mem_nil, or_false] at hz
        rcases hz with hz
        · subst hz; exact ⟨by decide, "java/lang/IllegalArgumentException", by decide +kernel, by decide +kernel⟩), .astore_n 1, 1, 10, _, 1, rfl, rfl, (Nat.le_of_ble_eq_true rfl), ?_⟩
      refine J_ldcI (v := -900002) rfl (by decide +kernel) ?_
      exact J_ret (v := some (.int _)) rfl (rets_i rfl) (by omega) (by omega) ⟨rfl, q2⟩ rfl
  · obtain ⟨q1, q2⟩ := q
    rcases hS with s | ⟨s, hc⟩ | ⟨s, hc⟩
    · rw [s] at q1; cases q1
      exact J_ret (v := some (.int _)) rfl (rets_i rfl) (by omega) (by omega) ⟨rfl, q2⟩ rfl
    · rw [s] at q1; cases q1
    · rw [s] at q1; cases q1
set_option maxRecDepth 100000 in
set_option maxHeartbeats 2000000 in
theorem w_undo {h : AHp} {P : AHp → Prop} {S : Option Value ⊕ String} {c : Int32} {fs : List Value} {D mc ms : Nat} (hmc : mc ≤ 1) (hms : ms ≤ 6) (hC : JM mi_X5_undo D mc ms [.ref 0] h (fun r h' => r = S ∧ P h')) (e0 : h 0 = .inr (5, fs)) (hS : (S = .inl (some (.int c))) ∨ (S = .inr "java/lang/IllegalStateException" ∧ c = -900001)) : JM mi_L_undo (D + 1) 1 6 [.ref 0] h (fun r h' => r = .inl (some (.int c)) ∧ P h') := by
  refine JM_of gd_L_undo rfl (by decide +kernel) (Nat.le_of_ble_eq_true rfl) (oj_cats rfl) (by decide) ?_
  repeat (first | (refine J_step rfl rfl ?_) | (refine J_getf rfl rfl rfl (by assumption) rfl ?_))
  refine J_callV rfl rfl rfl rfl rfl e0 rfl rfl (Nat.ble_eq.mpr (Nat.le_refl _)) rfl hC (by omega) (by omega) (fun E h9 q => ?_) (fun v9 h9 q => ?_)
  · obtain ⟨q1, q2⟩ := q
    rcases hS with s | ⟨s, hc⟩
    · rw [s] at q1; cases q1
    · rw [s] at q1; cases q1; subst hc
      refine Or.inr ⟨[], (0, 4, 5, 21), [], "java/lang/IllegalStateException", rfl, rfl, by decide, by decide +kernel, by decide +kernel, (fun z hz => by cases hz), .astore_n 1, 1, 6, _, 1, rfl, rfl, (Nat.le_of_ble_eq_true rfl), ?_⟩
      refine J_ldcI (v := -900001) rfl (by decide +kernel) ?_
      exact J_ret (v := some (.int _)) rfl (rets_i rfl) (by omega) (by omega) ⟨rfl, q2⟩ rfl
  · obtain ⟨q1, q2⟩ := q
    rcases hS with s | ⟨s, hc⟩
    · rw [s] at q1; cases q1
      exact J_ret (v := some (.int _)) rfl (rets_i rfl) (by omega) (by omega) ⟨rfl, q2⟩ rfl
    · rw [s] at q1; cases q1
set_option maxRecDepth 100000 in
set_option maxHeartbeats 2000000 in
theorem w_restore {h : AHp} {P : AHp → Prop} {S : Option Value ⊕ String} {c : Int32} {fs : List Value} {D mc ms : Nat} (hmc : mc ≤ 1) (hms : ms ≤ 6) (hC : JM mi_X5_restore D mc ms [.ref 0] h (fun r h' => r = S ∧ P h')) (e0 : h 0 = .inr (5, fs)) (hS : (S = .inl (some (.int c))) ∨ (S = .inr "java/lang/IllegalStateException" ∧ c = -900001)) : JM mi_L_restore (D + 1) 1 6 [.ref 0] h (fun r h' => r = .inl (some (.int c)) ∧ P h') := by
  refine JM_of gd_L_restore rfl (by decide +kernel) (Nat.le_of_ble_eq_true rfl) (oj_cats rfl) (by decide) ?_
  repeat (first | (refine J_step rfl rfl ?_) | (refine J_getf rfl rfl rfl (by assumption) rfl ?_))
  refine J_callV rfl rfl rfl rfl rfl e0 rfl rfl (Nat.ble_eq.mpr (Nat.le_refl _)) rfl hC (by omega) (by omega) (fun E h9 q => ?_) (fun v9 h9 q => ?_)
  · obtain ⟨q1, q2⟩ := q
    rcases hS with s | ⟨s, hc⟩
    · rw [s] at q1; cases q1
    · rw [s] at q1; cases q1; subst hc
      refine Or.inr ⟨[], (0, 4, 5, 21), [], "java/lang/IllegalStateException", rfl, rfl, by decide, by decide +kernel, by decide +kernel, (fun z hz => by cases hz), .astore_n 1, 1, 6, _, 1, rfl, rfl, (Nat.le_of_ble_eq_true rfl), ?_⟩
      refine J_ldcI (v := -900001) rfl (by decide +kernel) ?_
      exact J_ret (v := some (.int _)) rfl (rets_i rfl) (by omega) (by omega) ⟨rfl, q2⟩ rfl
  · obtain ⟨q1, q2⟩ := q
    rcases hS with s | ⟨s, hc⟩
    · rw [s] at q1; cases q1
      exact J_ret (v := some (.int _)) rfl (rets_i rfl) (by omega) (by omega) ⟨rfl, q2⟩ rfl
    · rw [s] at q1; cases q1
set_option maxRecDepth 100000 in
set_option maxHeartbeats 2000000 in
theorem w_turn {h : AHp} {P : AHp → Prop} {S : Option Value ⊕ String} {c : Int32} {fs : List Value} {D mc ms : Nat} (hmc : mc ≤ 1) (hms : ms ≤ 6) (hC : JM mi_X5_turn D mc ms [.ref 0] h (fun r h' => r = S ∧ P h')) (e0 : h 0 = .inr (5, fs)) (hS : (∃ b : Bool, S = .inl (some (.int (bI b))) ∧ c = bI b) ∨ (S = .inr "java/lang/IllegalStateException" ∧ c = -900001) ∨ (S = .inr "java/lang/UnsupportedOperationException" ∧ c = -900002)) : JM mi_L_turn (D + 1) 1 6 [.ref 0] h (fun r h' => r = .inl (some (.int c)) ∧ P h') := by
  refine JM_of gd_L_turn rfl (by decide +kernel) (Nat.le_of_ble_eq_true rfl) (oj_cats rfl) (by decide) ?_
  repeat (first | (refine J_step rfl rfl ?_) | (refine J_getf rfl rfl rfl (by assumption) rfl ?_))
  refine J_callV rfl rfl rfl rfl rfl e0 rfl rfl (Nat.ble_eq.mpr (Nat.le_refl _)) rfl hC (by omega) (by omega) (fun E h9 q => ?_) (fun v9 h9 q => ?_)
  · obtain ⟨q1, q2⟩ := q
    rcases hS with ⟨b, s, hc⟩ | ⟨s, hc⟩ | ⟨s, hc⟩
    · rw [s] at q1; cases q1
    · rw [s] at q1; cases q1; subst hc
      refine Or.inr ⟨[], (0, 12, 13, 21), [(0, 12, 17, 62)], "java/lang/IllegalStateException", rfl, rfl, by decide, by decide +kernel, by decide +kernel, (fun z hz => by cases hz), .astore_n 1, 1, 14, _, 1, rfl, rfl, (Nat.le_of_ble_eq_true rfl), ?_⟩
      refine J_ldcI (v := -900001) rfl (by decide +kernel) ?_
      exact J_ret (v := some (.int _)) rfl (rets_i rfl) (by omega) (by omega) ⟨rfl, q2⟩ rfl
    · rw [s] at q1; cases q1; subst hc
      refine Or.inr ⟨[(0, 12, 13, 21)], (0, 12, 17, 62), [], "java/lang/UnsupportedOperationException", rfl, rfl, by decide, by decide +kernel, by decide +kernel, (fun z hz => by
        simp only [List.mem_cons, List.not_mem_nil, or_false] at hz
        rcases hz with hz
        · subst hz; exact ⟨by decide, "java/lang/IllegalStateException", by decide +kernel, by decide +kernel⟩), .astore_n 1, 1, 18, _, 1, rfl, rfl, (Nat.le_of_ble_eq_true rfl), ?_⟩
      refine J_ldcI (v := -900002) rfl (by decide +kernel) ?_
      exact J_ret (v := some (.int _)) rfl (rets_i rfl) (by omega) (by omega) ⟨rfl, q2⟩ rfl
  · obtain ⟨q1, q2⟩ := q
    rcases hS with ⟨b, s, hc⟩ | ⟨s, hc⟩ | ⟨s, hc⟩
    · rw [s] at q1; cases q1; subst hc
      cases b with
      | false =>
        refine J_if (y := 0) rfl (fun _ => ?_) (fun z => absurd rfl z)
        repeat (first | (refine J_step rfl rfl ?_) | (refine J_getf rfl rfl rfl (by assumption) rfl ?_))
        exact J_ret (v := some (.int 0)) rfl (rets_i rfl) (by omega) (by omega) ⟨rfl, q2⟩ rfl
      | true =>
        refine J_if (y := 0) rfl (fun z => absurd z (by unfold oj_cz; decide)) (fun _ => ?_)
        repeat (first | (refine J_step rfl rfl ?_) | (refine J_getf rfl rfl rfl (by assumption) rfl ?_))
        exact J_ret (v := some (.int 1)) rfl (rets_i rfl) (by omega) (by omega) ⟨rfl, q2⟩ rfl
    · rw [s] at q1; cases q1
    · rw [s] at q1; cases q1
