/-- what a wrapper leaves: the class at B, the code c, the value in out -/
def WH (h : AHp) (B : AS) (c val : Int32) (h' : AHp) : Prop := CRep h' B ∧ (∀ x, 120 < x → x ≠ 129 → h' x = h x) ∧ ∃ f : Nat → Int64, h' 129 = .inl (2, 1, .inr (.inl f)) ∧ (c = 0 → f 0 = val.toInt64)
theorem CRep_mv {h h' : AHp} {A : AS} (hh : ∀ x, x ≤ 120 → h' x = h x) (H : CRep h A) : CRep h' A := by
  obtain ⟨e, hL, ⟨q1, w1⟩, ⟨q2, w2⟩, hsv2, hH, hO, T, p, m, hP⟩ := H
  exact ⟨(hh _ (by decide)).trans e, LnR_mv (fun x z1 z2 => hh x (by omega)) hL, ⟨q1, LnR_mv (fun x z1 z2 => hh x (by omega)) w1⟩, ⟨q2, LnR_mv (fun x z1 z2 => hh x (by omega)) w2⟩, fun q w => LnR_mv (fun x z1 z2 => hh x (by omega)) (hsv2 q w), HsAt_mv (fun x z1 z2 => hh x (by omega)) hH, OutAt_mv (fun x z1 z2 => hh x (by omega)) hO, T, p, m, PgAt_mv (fun x z1 z2 => hh x (by omega)) hP⟩
theorem WH_put {h h1 : AHp} {B : AS} {val : Int32} {f : Nat → Int64} (H : CStep h B h1) : WH h B 0 val (oj_up h1 129 (.inl (2, 1, .inr (.inl (vp_updL f 0 val.toInt64))))) := ⟨CRep_mv (fun x z => if_neg (by omega)) H.1, fun x z1 z2 => (if_neg z2).trans (H.2 x z1), _, if_pos rfl, fun _ => if_pos rfl⟩
theorem WH_thr {h h1 : AHp} {B : AS} {c val : Int32} {f : Nat → Int64} (H : CStep h B h1) (hf : h 129 = .inl (2, 1, .inr (.inl f))) (hc : ¬ c = 0) : WH h B c val h1 := ⟨H.1, fun x z1 z2 => H.2 x z1, f, (H.2 129 (by decide)).trans hf, fun z => absurd z hc⟩
theorem oj_ncE {E nm : String} (h : (E, nm) ∈ oj_ncasts) {μ : MI} {z : Nat × Nat × Nat × Nat} (hz : z.2.2.2 ≠ 0) (hl : Cond.classLink (oj_cls (mO μ)) z.2.2.2 nm ∈ lwG) : z.2.2.2 ≠ 0 ∧ ∃ nm', Cond.classLink (oj_cls (mO μ)) z.2.2.2 nm' ∈ lwG ∧ (E, nm') ∈ oj_ncasts := ⟨hz, nm, hl, h⟩
set_option maxRecDepth 100000 in
set_option maxHeartbeats 2000000 in
theorem w_addPicker {h : AHp} {B : AS} {S : Option Value ⊕ String} {c val : Int32} {f : Nat → Int64} {fs : List Value} {D mc ms : Nat} {p0 p1 p2 : Int32} (hmc : mc ≤ 1) (hms : ms ≤ 6) (hC : JM mi_X5_addPicker D mc ms [.ref 0, .int p0, .int p1, .int p2] h (fun r h' => r = S ∧ CStep h B h')) (e0 : h 0 = .inr (5, fs)) (hf : h 129 = .inl (2, 1, .inr (.inl f))) (hS : (S = .inl (some (.int val)) ∧ c = 0) ∨ (S = .inr "java/lang/IndexOutOfBoundsException" ∧ c = 1) ∨ (S = .inr "java/lang/IllegalArgumentException" ∧ c = 2) ∨ (S = .inr "java/lang/IllegalStateException" ∧ c = 3)) : JM mi_L_addPicker (D + 1) 1 6 [.ref 0, .int p0, .int p1, .int p2, .ref 129] h (fun r h' => r = .inl (some (.int c)) ∧ WH h B c val h') := by
  refine JM_of gd_L_addPicker rfl (by decide +kernel) (Nat.le_of_ble_eq_true rfl) (oj_cats rfl) (by decide) ?_
  repeat (first | (refine J_step rfl rfl ?_) | (refine J_getf rfl rfl rfl (by assumption) rfl ?_))
  refine J_callV rfl rfl rfl rfl rfl e0 rfl rfl (Nat.ble_eq.mpr (Nat.le_refl _)) rfl hC (by omega) (by omega) (fun E h9 q => ?_) (fun v9 h9 q => ?_)
  · obtain ⟨q1, q2⟩ := q
    rcases hS with ⟨s, hc⟩ | ⟨s, hc⟩ | ⟨s, hc⟩ | ⟨s, hc⟩
    · rw [s] at q1; cases q1
    · rw [s] at q1; cases q1; subst hc
      refine Or.inr ⟨[], (0, 12, 15, 13), [(0, 12, 19, 15), (0, 12, 23, 17)], "java/lang/IndexOutOfBoundsException", rfl, rfl, by decide, by decide +kernel, by decide +kernel, (fun z hz => by cases hz), .astore 5, 2, 17, _, 5, rfl, rfl, (Nat.le_of_ble_eq_true rfl), ?_⟩
      repeat (first | (refine J_step rfl rfl ?_) | (refine J_getf rfl rfl rfl (by assumption) rfl ?_))
      exact J_ret (v := some (.int _)) rfl (by decide) (by omega) (by omega) ⟨rfl, WH_thr q2 hf (by decide)⟩ rfl
    · rw [s] at q1; cases q1; subst hc
      refine Or.inr ⟨[(0, 12, 15, 13)], (0, 12, 19, 15), [(0, 12, 23, 17)], "java/lang/IllegalArgumentException", rfl, rfl, by decide, by decide +kernel, by decide +kernel, (fun z hz => by
        simp only [List.mem_cons, List.not_mem_nil, or_false] at hz
        rcases hz with hz
        · subst hz; exact ⟨by decide, "java/lang/IndexOutOfBoundsException", by decide +kernel, by decide +kernel⟩), .astore 5, 2, 21, _, 5, rfl, rfl, (Nat.le_of_ble_eq_true rfl), ?_⟩
      repeat (first | (refine J_step rfl rfl ?_) | (refine J_getf rfl rfl rfl (by assumption) rfl ?_))
      exact J_ret (v := some (.int _)) rfl (by decide) (by omega) (by omega) ⟨rfl, WH_thr q2 hf (by decide)⟩ rfl
    · rw [s] at q1; cases q1; subst hc
      refine Or.inr ⟨[(0, 12, 15, 13), (0, 12, 19, 15)], (0, 12, 23, 17), [], "java/lang/IllegalStateException", rfl, rfl, by decide, by decide +kernel, by decide +kernel, (fun z hz => by
        simp only [List.mem_cons, List.not_mem_nil, or_false] at hz
        rcases hz with hz | hz
        · subst hz; exact ⟨by decide, "java/lang/IndexOutOfBoundsException", by decide +kernel, by decide +kernel⟩
        · subst hz; exact ⟨by decide, "java/lang/IllegalArgumentException", by decide +kernel, by decide +kernel⟩), .astore 5, 2, 25, _, 5, rfl, rfl, (Nat.le_of_ble_eq_true rfl), ?_⟩
      repeat (first | (refine J_step rfl rfl ?_) | (refine J_getf rfl rfl rfl (by assumption) rfl ?_))
      exact J_ret (v := some (.int _)) rfl (by decide) (by omega) (by omega) ⟨rfl, WH_thr q2 hf (by decide)⟩ rfl
  · obtain ⟨q1, q2⟩ := q
    have e9 := (q2.2 129 (by decide)).trans hf
    rcases hS with ⟨s, hc⟩ | ⟨s, hc⟩ | ⟨s, hc⟩ | ⟨s, hc⟩
    · rw [s] at q1; cases q1; subst hc
      iterate 1 (refine J_step rfl rfl ?_)
      refine J_last rfl e9 (vp_in_nI (n := 0) (by decide) (by decide)) ?_
      repeat (first | (refine J_step rfl rfl ?_) | (refine J_getf rfl rfl rfl (by assumption) rfl ?_))
      exact J_ret (v := some (.int 0)) rfl (by decide) (by omega) (by omega) ⟨rfl, WH_put q2⟩ rfl
    · rw [s] at q1; cases q1
    · rw [s] at q1; cases q1
    · rw [s] at q1; cases q1
set_option maxRecDepth 100000 in
set_option maxHeartbeats 2000000 in
theorem w_removePicker {h : AHp} {B : AS} {S : Option Value ⊕ String} {c val : Int32} {f : Nat → Int64} {fs : List Value} {D mc ms : Nat} {p0 : Int32} (hmc : mc ≤ 1) (hms : ms ≤ 6) (hC : JM mi_X5_removePicker D mc ms [.ref 0, .int p0] h (fun r h' => r = S ∧ CStep h B h')) (e0 : h 0 = .inr (5, fs)) (hf : h 129 = .inl (2, 1, .inr (.inl f))) (hS : (S = .inl (some (.int val)) ∧ c = 0) ∨ (S = .inr "java/util/NoSuchElementException" ∧ c = 1) ∨ (S = .inr "java/lang/IllegalStateException" ∧ c = 2)) : JM mi_L_removePicker (D + 1) 1 6 [.ref 0, .int p0, .ref 129] h (fun r h' => r = .inl (some (.int c)) ∧ WH h B c val h') := by
  refine JM_of gd_L_removePicker rfl (by decide +kernel) (Nat.le_of_ble_eq_true rfl) (oj_cats rfl) (by decide) ?_
  repeat (first | (refine J_step rfl rfl ?_) | (refine J_getf rfl rfl rfl (by assumption) rfl ?_))
  refine J_callV rfl rfl rfl rfl rfl e0 rfl rfl (Nat.ble_eq.mpr (Nat.le_refl _)) rfl hC (by omega) (by omega) (fun E h9 q => ?_) (fun v9 h9 q => ?_)
  · obtain ⟨q1, q2⟩ := q
    rcases hS with ⟨s, hc⟩ | ⟨s, hc⟩ | ⟨s, hc⟩
    · rw [s] at q1; cases q1
    · rw [s] at q1; cases q1; subst hc
      refine Or.inr ⟨[], (0, 9, 12, 23), [(0, 9, 15, 17)], "java/util/NoSuchElementException", rfl, rfl, by decide, by decide +kernel, by decide +kernel, (fun z hz => by cases hz), .astore_n 3, 1, 13, _, 3, rfl, rfl, (Nat.le_of_ble_eq_true rfl), ?_⟩
      repeat (first | (refine J_step rfl rfl ?_) | (refine J_getf rfl rfl rfl (by assumption) rfl ?_))
      exact J_ret (v := some (.int _)) rfl (by decide) (by omega) (by omega) ⟨rfl, WH_thr q2 hf (by decide)⟩ rfl
    · rw [s] at q1; cases q1; subst hc
      refine Or.inr ⟨[(0, 9, 12, 23)], (0, 9, 15, 17), [], "java/lang/IllegalStateException", rfl, rfl, by decide, by decide +kernel, by decide +kernel, (fun z hz => by
        simp only [List.mem_cons, List.not_mem_nil, or_false] at hz
        rcases hz with hz
        · subst hz; exact ⟨by decide, "java/util/NoSuchElementException", by decide +kernel, by decide +kernel⟩), .astore_n 3, 1, 16, _, 3, rfl, rfl, (Nat.le_of_ble_eq_true rfl), ?_⟩
      repeat (first | (refine J_step rfl rfl ?_) | (refine J_getf rfl rfl rfl (by assumption) rfl ?_))
      exact J_ret (v := some (.int _)) rfl (by decide) (by omega) (by omega) ⟨rfl, WH_thr q2 hf (by decide)⟩ rfl
  · obtain ⟨q1, q2⟩ := q
    have e9 := (q2.2 129 (by decide)).trans hf
    rcases hS with ⟨s, hc⟩ | ⟨s, hc⟩ | ⟨s, hc⟩
    · rw [s] at q1; cases q1; subst hc
      iterate 1 (refine J_step rfl rfl ?_)
      refine J_last rfl e9 (vp_in_nI (n := 0) (by decide) (by decide)) ?_
      repeat (first | (refine J_step rfl rfl ?_) | (refine J_getf rfl rfl rfl (by assumption) rfl ?_))
      exact J_ret (v := some (.int 0)) rfl (by decide) (by omega) (by omega) ⟨rfl, WH_put q2⟩ rfl
    · rw [s] at q1; cases q1
    · rw [s] at q1; cases q1
set_option maxRecDepth 100000 in
set_option maxHeartbeats 2000000 in
theorem w_setSlope {h : AHp} {B : AS} {S : Option Value ⊕ String} {c val : Int32} {f : Nat → Int64} {fs : List Value} {D mc ms : Nat} {p0 p1 : Int32} (hmc : mc ≤ 1) (hms : ms ≤ 6) (hC : JM mi_X5_setSlope D mc ms [.ref 0, .int p0, .int p1] h (fun r h' => r = S ∧ CStep h B h')) (e0 : h 0 = .inr (5, fs)) (hf : h 129 = .inl (2, 1, .inr (.inl f))) (hS : (S = .inl (some (.int val)) ∧ c = 0) ∨ (S = .inr "java/lang/IndexOutOfBoundsException" ∧ c = 1) ∨ (S = .inr "java/lang/IllegalArgumentException" ∧ c = 2)) : JM mi_L_setSlope (D + 1) 1 6 [.ref 0, .int p0, .int p1, .ref 129] h (fun r h' => r = .inl (some (.int c)) ∧ WH h B c val h') := by
  refine JM_of gd_L_setSlope rfl (by decide +kernel) (Nat.le_of_ble_eq_true rfl) (oj_cats rfl) (by decide) ?_
  repeat (first | (refine J_step rfl rfl ?_) | (refine J_getf rfl rfl rfl (by assumption) rfl ?_))
  refine J_callV rfl rfl rfl rfl rfl e0 rfl rfl (Nat.ble_eq.mpr (Nat.le_refl _)) rfl hC (by omega) (by omega) (fun E h9 q => ?_) (fun v9 h9 q => ?_)
  · obtain ⟨q1, q2⟩ := q
    rcases hS with ⟨s, hc⟩ | ⟨s, hc⟩ | ⟨s, hc⟩
    · rw [s] at q1; cases q1
    · rw [s] at q1; cases q1; subst hc
      refine Or.inr ⟨[], (0, 10, 13, 13), [(0, 10, 17, 15)], "java/lang/IndexOutOfBoundsException", rfl, rfl, by decide, by decide +kernel, by decide +kernel, (fun z hz => by cases hz), .astore 4, 2, 15, _, 4, rfl, rfl, (Nat.le_of_ble_eq_true rfl), ?_⟩
      repeat (first | (refine J_step rfl rfl ?_) | (refine J_getf rfl rfl rfl (by assumption) rfl ?_))
      exact J_ret (v := some (.int _)) rfl (by decide) (by omega) (by omega) ⟨rfl, WH_thr q2 hf (by decide)⟩ rfl
    · rw [s] at q1; cases q1; subst hc
      refine Or.inr ⟨[(0, 10, 13, 13)], (0, 10, 17, 15), [], "java/lang/IllegalArgumentException", rfl, rfl, by decide, by decide +kernel, by decide +kernel, (fun z hz => by
        simp only [List.mem_cons, List.not_mem_nil, or_false] at hz
        rcases hz with hz
        · subst hz; exact ⟨by decide, "java/lang/IndexOutOfBoundsException", by decide +kernel, by decide +kernel⟩), .astore 4, 2, 19, _, 4, rfl, rfl, (Nat.le_of_ble_eq_true rfl), ?_⟩
      repeat (first | (refine J_step rfl rfl ?_) | (refine J_getf rfl rfl rfl (by assumption) rfl ?_))
      exact J_ret (v := some (.int _)) rfl (by decide) (by omega) (by omega) ⟨rfl, WH_thr q2 hf (by decide)⟩ rfl
  · obtain ⟨q1, q2⟩ := q
    have e9 := (q2.2 129 (by decide)).trans hf
    rcases hS with ⟨s, hc⟩ | ⟨s, hc⟩ | ⟨s, hc⟩
    · rw [s] at q1; cases q1; subst hc
      iterate 1 (refine J_step rfl rfl ?_)
      refine J_last rfl e9 (vp_in_nI (n := 0) (by decide) (by decide)) ?_
      repeat (first | (refine J_step rfl rfl ?_) | (refine J_getf rfl rfl rfl (by assumption) rfl ?_))
      exact J_ret (v := some (.int 0)) rfl (by decide) (by omega) (by omega) ⟨rfl, WH_put q2⟩ rfl
    · rw [s] at q1; cases q1
    · rw [s] at q1; cases q1
set_option maxRecDepth 100000 in
set_option maxHeartbeats 2000000 in
theorem w_turn {h : AHp} {B : AS} {S : Option Value ⊕ String} {c val : Int32} {f : Nat → Int64} {fs : List Value} {D mc ms : Nat} (hmc : mc ≤ 1) (hms : ms ≤ 6) (hC : JM mi_X5_turn D mc ms [.ref 0] h (fun r h' => r = S ∧ CStep h B h')) (e0 : h 0 = .inr (5, fs)) (hf : h 129 = .inl (2, 1, .inr (.inl f))) (hS : (S = .inl (some (.int val)) ∧ c = 0) ∨ (S = .inr "java/lang/IllegalStateException" ∧ c = 1) ∨ (S = .inr "java/lang/UnsupportedOperationException" ∧ c = 2)) (hb : val = 0 ∨ val = 1) : JM mi_L_turn (D + 1) 1 6 [.ref 0, .ref 129] h (fun r h' => r = .inl (some (.int c)) ∧ WH h B c val h') := by
  refine JM_of gd_L_turn rfl (by decide +kernel) (Nat.le_of_ble_eq_true rfl) (oj_cats rfl) (by decide) ?_
  repeat (first | (refine J_step rfl rfl ?_) | (refine J_getf rfl rfl rfl (by assumption) rfl ?_))
  refine J_callV rfl rfl rfl rfl rfl e0 rfl rfl (Nat.ble_eq.mpr (Nat.le_refl _)) rfl hC (by omega) (by omega) (fun E h9 q => ?_) (fun v9 h9 q => ?_)
  · obtain ⟨q1, q2⟩ := q
    rcases hS with ⟨s, hc⟩ | ⟨s, hc⟩ | ⟨s, hc⟩
    · rw [s] at q1; cases q1
    · rw [s] at q1; cases q1; subst hc
      refine Or.inr ⟨[], (0, 15, 18, 17), [(0, 15, 21, 33)], "java/lang/IllegalStateException", rfl, rfl, by decide, by decide +kernel, by decide +kernel, (fun z hz => by cases hz), .astore_n 2, 1, 19, _, 2, rfl, rfl, (Nat.le_of_ble_eq_true rfl), ?_⟩
      repeat (first | (refine J_step rfl rfl ?_) | (refine J_getf rfl rfl rfl (by assumption) rfl ?_))
      exact J_ret (v := some (.int _)) rfl (by decide) (by omega) (by omega) ⟨rfl, WH_thr q2 hf (by decide)⟩ rfl
    · rw [s] at q1; cases q1; subst hc
      refine Or.inr ⟨[(0, 15, 18, 17)], (0, 15, 21, 33), [], "java/lang/UnsupportedOperationException", rfl, rfl, by decide, by decide +kernel, by decide +kernel, (fun z hz => by
        simp only [List.mem_cons, List.not_mem_nil, or_false] at hz
        rcases hz with hz
        · subst hz; exact ⟨by decide, "java/lang/IllegalStateException", by decide +kernel, by decide +kernel⟩), .astore_n 2, 1, 22, _, 2, rfl, rfl, (Nat.le_of_ble_eq_true rfl), ?_⟩
      repeat (first | (refine J_step rfl rfl ?_) | (refine J_getf rfl rfl rfl (by assumption) rfl ?_))
      exact J_ret (v := some (.int _)) rfl (by decide) (by omega) (by omega) ⟨rfl, WH_thr q2 hf (by decide)⟩ rfl
  · obtain ⟨q1, q2⟩ := q
    have e9 := (q2.2 129 (by decide)).trans hf
    rcases hS with ⟨s, hc⟩ | ⟨s, hc⟩ | ⟨s, hc⟩
    · rw [s] at q1; cases q1; subst hc
      have W0 : ∀ x : Int64, x = val.toInt64 → WH h B 0 val (oj_up h9 129 (.inl (2, 1, .inr (.inl (vp_updL f 0 x))))) := fun x hx => by rw [hx]; exact WH_put q2
      refine J_if (y := 0) rfl (fun hq => ?_) (fun hq => ?_)
      · have hv : val = 0 := hq
        iterate 1 (refine J_step rfl rfl ?_)
        refine J_last rfl e9 (vp_in_nI (n := 0) (by decide) (by decide)) ?_
        repeat (first | (refine J_step rfl rfl ?_) | (refine J_getf rfl rfl rfl (by assumption) rfl ?_))
        exact J_ret (v := some (.int 0)) rfl (by decide) (by omega) (by omega) ⟨rfl, W0 _ (by rw [hv]; rfl)⟩ rfl
      · have hv : val = 1 := hb.resolve_left hq
        iterate 2 (refine J_step rfl rfl ?_)
        refine J_last rfl e9 (vp_in_nI (n := 0) (by decide) (by decide)) ?_
        repeat (first | (refine J_step rfl rfl ?_) | (refine J_getf rfl rfl rfl (by assumption) rfl ?_))
        exact J_ret (v := some (.int 0)) rfl (by decide) (by omega) (by omega) ⟨rfl, W0 _ (by rw [hv]; rfl)⟩ rfl
    · rw [s] at q1; cases q1
    · rw [s] at q1; cases q1
set_option maxRecDepth 100000 in
set_option maxHeartbeats 2000000 in
theorem w_setCapacity {h : AHp} {B : AS} {S : Option Value ⊕ String} {c val : Int32} {f : Nat → Int64} {fs : List Value} {D mc ms : Nat} {p0 : Int32} (hmc : mc ≤ 1) (hms : ms ≤ 6) (hC : JM mi_X5_setCapacity D mc ms [.ref 0, .int p0] h (fun r h' => r = S ∧ CStep h B h')) (e0 : h 0 = .inr (5, fs)) (hf : h 129 = .inl (2, 1, .inr (.inl f))) (hS : (S = .inl (some (.int val)) ∧ c = 0) ∨ (S = .inr "java/lang/IllegalArgumentException" ∧ c = 1) ∨ (S = .inr "java/lang/IllegalStateException" ∧ c = 2)) : JM mi_L_setCapacity (D + 1) 1 6 [.ref 0, .int p0, .ref 129] h (fun r h' => r = .inl (some (.int c)) ∧ WH h B c val h') := by
  refine JM_of gd_L_setCapacity rfl (by decide +kernel) (Nat.le_of_ble_eq_true rfl) (oj_cats rfl) (by decide) ?_
  repeat (first | (refine J_step rfl rfl ?_) | (refine J_getf rfl rfl rfl (by assumption) rfl ?_))
  refine J_callV rfl rfl rfl rfl rfl e0 rfl rfl (Nat.ble_eq.mpr (Nat.le_refl _)) rfl hC (by omega) (by omega) (fun E h9 q => ?_) (fun v9 h9 q => ?_)
  · obtain ⟨q1, q2⟩ := q
    rcases hS with ⟨s, hc⟩ | ⟨s, hc⟩ | ⟨s, hc⟩
    · rw [s] at q1; cases q1
    · rw [s] at q1; cases q1; subst hc
      refine Or.inr ⟨[], (0, 9, 12, 15), [(0, 9, 15, 17)], "java/lang/IllegalArgumentException", rfl, rfl, by decide, by decide +kernel, by decide +kernel, (fun z hz => by cases hz), .astore_n 3, 1, 13, _, 3, rfl, rfl, (Nat.le_of_ble_eq_true rfl), ?_⟩
      repeat (first | (refine J_step rfl rfl ?_) | (refine J_getf rfl rfl rfl (by assumption) rfl ?_))
      exact J_ret (v := some (.int _)) rfl (by decide) (by omega) (by omega) ⟨rfl, WH_thr q2 hf (by decide)⟩ rfl
    · rw [s] at q1; cases q1; subst hc
      refine Or.inr ⟨[(0, 9, 12, 15)], (0, 9, 15, 17), [], "java/lang/IllegalStateException", rfl, rfl, by decide, by decide +kernel, by decide +kernel, (fun z hz => by
        simp only [List.mem_cons, List.not_mem_nil, or_false] at hz
        rcases hz with hz
        · subst hz; exact ⟨by decide, "java/lang/IllegalArgumentException", by decide +kernel, by decide +kernel⟩), .astore_n 3, 1, 16, _, 3, rfl, rfl, (Nat.le_of_ble_eq_true rfl), ?_⟩
      repeat (first | (refine J_step rfl rfl ?_) | (refine J_getf rfl rfl rfl (by assumption) rfl ?_))
      exact J_ret (v := some (.int _)) rfl (by decide) (by omega) (by omega) ⟨rfl, WH_thr q2 hf (by decide)⟩ rfl
  · obtain ⟨q1, q2⟩ := q
    have e9 := (q2.2 129 (by decide)).trans hf
    rcases hS with ⟨s, hc⟩ | ⟨s, hc⟩ | ⟨s, hc⟩
    · rw [s] at q1; cases q1; subst hc
      iterate 1 (refine J_step rfl rfl ?_)
      refine J_last rfl e9 (vp_in_nI (n := 0) (by decide) (by decide)) ?_
      repeat (first | (refine J_step rfl rfl ?_) | (refine J_getf rfl rfl rfl (by assumption) rfl ?_))
      exact J_ret (v := some (.int 0)) rfl (by decide) (by omega) (by omega) ⟨rfl, WH_put q2⟩ rfl
    · rw [s] at q1; cases q1
    · rw [s] at q1; cases q1
set_option maxRecDepth 100000 in
set_option maxHeartbeats 2000000 in
theorem w_pass {h : AHp} {B : AS} {S : Option Value ⊕ String} {c val : Int32} {f : Nat → Int64} {fs : List Value} {D mc ms : Nat} {p0 : Int32} (hmc : mc ≤ 1) (hms : ms ≤ 6) (hC : JM mi_X5_pass D mc ms [.ref 0, .int p0] h (fun r h' => r = S ∧ CStep h B h')) (e0 : h 0 = .inr (5, fs)) (hf : h 129 = .inl (2, 1, .inr (.inl f))) (hS : (S = .inl (some (.int val)) ∧ c = 0) ∨ (S = .inr "java/lang/IllegalArgumentException" ∧ c = 1)) : JM mi_L_pass (D + 1) 1 6 [.ref 0, .int p0, .ref 129] h (fun r h' => r = .inl (some (.int c)) ∧ WH h B c val h') := by
  refine JM_of gd_L_pass rfl (by decide +kernel) (Nat.le_of_ble_eq_true rfl) (oj_cats rfl) (by decide) ?_
  repeat (first | (refine J_step rfl rfl ?_) | (refine J_getf rfl rfl rfl (by assumption) rfl ?_))
  refine J_callV rfl rfl rfl rfl rfl e0 rfl rfl (Nat.ble_eq.mpr (Nat.le_refl _)) rfl hC (by omega) (by omega) (fun E h9 q => ?_) (fun v9 h9 q => ?_)
  · obtain ⟨q1, q2⟩ := q
    rcases hS with ⟨s, hc⟩ | ⟨s, hc⟩
    · rw [s] at q1; cases q1
    · rw [s] at q1; cases q1; subst hc
      refine Or.inr ⟨[], (0, 9, 12, 15), [], "java/lang/IllegalArgumentException", rfl, rfl, by decide, by decide +kernel, by decide +kernel, (fun z hz => by cases hz), .astore_n 3, 1, 13, _, 3, rfl, rfl, (Nat.le_of_ble_eq_true rfl), ?_⟩
      repeat (first | (refine J_step rfl rfl ?_) | (refine J_getf rfl rfl rfl (by assumption) rfl ?_))
      exact J_ret (v := some (.int _)) rfl (by decide) (by omega) (by omega) ⟨rfl, WH_thr q2 hf (by decide)⟩ rfl
  · obtain ⟨q1, q2⟩ := q
    have e9 := (q2.2 129 (by decide)).trans hf
    rcases hS with ⟨s, hc⟩ | ⟨s, hc⟩
    · rw [s] at q1; cases q1; subst hc
      iterate 1 (refine J_step rfl rfl ?_)
      refine J_last rfl e9 (vp_in_nI (n := 0) (by decide) (by decide)) ?_
      repeat (first | (refine J_step rfl rfl ?_) | (refine J_getf rfl rfl rfl (by assumption) rfl ?_))
      exact J_ret (v := some (.int 0)) rfl (by decide) (by omega) (by omega) ⟨rfl, WH_put q2⟩ rfl
    · rw [s] at q1; cases q1
set_option maxRecDepth 100000 in
set_option maxHeartbeats 2000000 in
theorem w_slope {h : AHp} {B : AS} {S : Option Value ⊕ String} {c val : Int32} {f : Nat → Int64} {fs : List Value} {D mc ms : Nat} {p0 : Int32} (hmc : mc ≤ 1) (hms : ms ≤ 6) (hC : JM mi_X5_slope D mc ms [.ref 0, .int p0] h (fun r h' => r = S ∧ CStep h B h')) (e0 : h 0 = .inr (5, fs)) (hf : h 129 = .inl (2, 1, .inr (.inl f))) (hS : (S = .inl (some (.int val)) ∧ c = 0) ∨ (S = .inr "java/lang/IndexOutOfBoundsException" ∧ c = 1)) : JM mi_L_slope (D + 1) 1 6 [.ref 0, .int p0, .ref 129] h (fun r h' => r = .inl (some (.int c)) ∧ WH h B c val h') := by
  refine JM_of gd_L_slope rfl (by decide +kernel) (Nat.le_of_ble_eq_true rfl) (oj_cats rfl) (by decide) ?_
  repeat (first | (refine J_step rfl rfl ?_) | (refine J_getf rfl rfl rfl (by assumption) rfl ?_))
  refine J_callV rfl rfl rfl rfl rfl e0 rfl rfl (Nat.ble_eq.mpr (Nat.le_refl _)) rfl hC (by omega) (by omega) (fun E h9 q => ?_) (fun v9 h9 q => ?_)
  · obtain ⟨q1, q2⟩ := q
    rcases hS with ⟨s, hc⟩ | ⟨s, hc⟩
    · rw [s] at q1; cases q1
    · rw [s] at q1; cases q1; subst hc
      refine Or.inr ⟨[], (0, 9, 12, 13), [], "java/lang/IndexOutOfBoundsException", rfl, rfl, by decide, by decide +kernel, by decide +kernel, (fun z hz => by cases hz), .astore_n 3, 1, 13, _, 3, rfl, rfl, (Nat.le_of_ble_eq_true rfl), ?_⟩
      repeat (first | (refine J_step rfl rfl ?_) | (refine J_getf rfl rfl rfl (by assumption) rfl ?_))
      exact J_ret (v := some (.int _)) rfl (by decide) (by omega) (by omega) ⟨rfl, WH_thr q2 hf (by decide)⟩ rfl
  · obtain ⟨q1, q2⟩ := q
    have e9 := (q2.2 129 (by decide)).trans hf
    rcases hS with ⟨s, hc⟩ | ⟨s, hc⟩
    · rw [s] at q1; cases q1; subst hc
      iterate 1 (refine J_step rfl rfl ?_)
      refine J_last rfl e9 (vp_in_nI (n := 0) (by decide) (by decide)) ?_
      repeat (first | (refine J_step rfl rfl ?_) | (refine J_getf rfl rfl rfl (by assumption) rfl ?_))
      exact J_ret (v := some (.int 0)) rfl (by decide) (by omega) (by omega) ⟨rfl, WH_put q2⟩ rfl
    · rw [s] at q1; cases q1
set_option maxRecDepth 100000 in
set_option maxHeartbeats 2000000 in
theorem w_place {h : AHp} {B : AS} {S : Option Value ⊕ String} {c val : Int32} {f : Nat → Int64} {fs : List Value} {D mc ms : Nat} {p0 : Int32} (hmc : mc ≤ 1) (hms : ms ≤ 6) (hC : JM mi_X5_place D mc ms [.ref 0, .int p0] h (fun r h' => r = S ∧ CStep h B h')) (e0 : h 0 = .inr (5, fs)) (hf : h 129 = .inl (2, 1, .inr (.inl f))) (hS : (S = .inl (some (.int val)) ∧ c = 0) ∨ (S = .inr "java/lang/IndexOutOfBoundsException" ∧ c = 1)) : JM mi_L_place (D + 1) 1 6 [.ref 0, .int p0, .ref 129] h (fun r h' => r = .inl (some (.int c)) ∧ WH h B c val h') := by
  refine JM_of gd_L_place rfl (by decide +kernel) (Nat.le_of_ble_eq_true rfl) (oj_cats rfl) (by decide) ?_
  repeat (first | (refine J_step rfl rfl ?_) | (refine J_getf rfl rfl rfl (by assumption) rfl ?_))
  refine J_callV rfl rfl rfl rfl rfl e0 rfl rfl (Nat.ble_eq.mpr (Nat.le_refl _)) rfl hC (by omega) (by omega) (fun E h9 q => ?_) (fun v9 h9 q => ?_)
  · obtain ⟨q1, q2⟩ := q
    rcases hS with ⟨s, hc⟩ | ⟨s, hc⟩
    · rw [s] at q1; cases q1
    · rw [s] at q1; cases q1; subst hc
      refine Or.inr ⟨[], (0, 9, 12, 13), [], "java/lang/IndexOutOfBoundsException", rfl, rfl, by decide, by decide +kernel, by decide +kernel, (fun z hz => by cases hz), .astore_n 3, 1, 13, _, 3, rfl, rfl, (Nat.le_of_ble_eq_true rfl), ?_⟩
      repeat (first | (refine J_step rfl rfl ?_) | (refine J_getf rfl rfl rfl (by assumption) rfl ?_))
      exact J_ret (v := some (.int _)) rfl (by decide) (by omega) (by omega) ⟨rfl, WH_thr q2 hf (by decide)⟩ rfl
  · obtain ⟨q1, q2⟩ := q
    have e9 := (q2.2 129 (by decide)).trans hf
    rcases hS with ⟨s, hc⟩ | ⟨s, hc⟩
    · rw [s] at q1; cases q1; subst hc
      iterate 1 (refine J_step rfl rfl ?_)
      refine J_last rfl e9 (vp_in_nI (n := 0) (by decide) (by decide)) ?_
      repeat (first | (refine J_step rfl rfl ?_) | (refine J_getf rfl rfl rfl (by assumption) rfl ?_))
      exact J_ret (v := some (.int 0)) rfl (by decide) (by omega) (by omega) ⟨rfl, WH_put q2⟩ rfl
    · rw [s] at q1; cases q1
set_option maxRecDepth 100000 in
set_option maxHeartbeats 2000000 in
theorem w_goesUp {h : AHp} {B : AS} {S : Option Value ⊕ String} {c val : Int32} {f : Nat → Int64} {fs : List Value} {D mc ms : Nat} {p0 : Int32} (hmc : mc ≤ 1) (hms : ms ≤ 6) (hC : JM mi_X5_goesUp D mc ms [.ref 0, .int p0] h (fun r h' => r = S ∧ CStep h B h')) (e0 : h 0 = .inr (5, fs)) (hf : h 129 = .inl (2, 1, .inr (.inl f))) (hS : (S = .inl (some (.int val)) ∧ c = 0) ∨ (S = .inr "java/lang/IndexOutOfBoundsException" ∧ c = 1)) (hb : val = 0 ∨ val = 1) : JM mi_L_goesUp (D + 1) 1 6 [.ref 0, .int p0, .ref 129] h (fun r h' => r = .inl (some (.int c)) ∧ WH h B c val h') := by
  refine JM_of gd_L_goesUp rfl (by decide +kernel) (Nat.le_of_ble_eq_true rfl) (oj_cats rfl) (by decide) ?_
  repeat (first | (refine J_step rfl rfl ?_) | (refine J_getf rfl rfl rfl (by assumption) rfl ?_))
  refine J_callV rfl rfl rfl rfl rfl e0 rfl rfl (Nat.ble_eq.mpr (Nat.le_refl _)) rfl hC (by omega) (by omega) (fun E h9 q => ?_) (fun v9 h9 q => ?_)
  · obtain ⟨q1, q2⟩ := q
    rcases hS with ⟨s, hc⟩ | ⟨s, hc⟩
    · rw [s] at q1; cases q1
    · rw [s] at q1; cases q1; subst hc
      refine Or.inr ⟨[], (0, 16, 19, 13), [], "java/lang/IndexOutOfBoundsException", rfl, rfl, by decide, by decide +kernel, by decide +kernel, (fun z hz => by cases hz), .astore_n 3, 1, 20, _, 3, rfl, rfl, (Nat.le_of_ble_eq_true rfl), ?_⟩
      repeat (first | (refine J_step rfl rfl ?_) | (refine J_getf rfl rfl rfl (by assumption) rfl ?_))
      exact J_ret (v := some (.int _)) rfl (by decide) (by omega) (by omega) ⟨rfl, WH_thr q2 hf (by decide)⟩ rfl
  · obtain ⟨q1, q2⟩ := q
    have e9 := (q2.2 129 (by decide)).trans hf
    rcases hS with ⟨s, hc⟩ | ⟨s, hc⟩
    · rw [s] at q1; cases q1; subst hc
      have W0 : ∀ x : Int64, x = val.toInt64 → WH h B 0 val (oj_up h9 129 (.inl (2, 1, .inr (.inl (vp_updL f 0 x))))) := fun x hx => by rw [hx]; exact WH_put q2
      refine J_if (y := 0) rfl (fun hq => ?_) (fun hq => ?_)
      · have hv : val = 0 := hq
        iterate 1 (refine J_step rfl rfl ?_)
        refine J_last rfl e9 (vp_in_nI (n := 0) (by decide) (by decide)) ?_
        repeat (first | (refine J_step rfl rfl ?_) | (refine J_getf rfl rfl rfl (by assumption) rfl ?_))
        exact J_ret (v := some (.int 0)) rfl (by decide) (by omega) (by omega) ⟨rfl, W0 _ (by rw [hv]; rfl)⟩ rfl
      · have hv : val = 1 := hb.resolve_left hq
        iterate 2 (refine J_step rfl rfl ?_)
        refine J_last rfl e9 (vp_in_nI (n := 0) (by decide) (by decide)) ?_
        repeat (first | (refine J_step rfl rfl ?_) | (refine J_getf rfl rfl rfl (by assumption) rfl ?_))
        exact J_ret (v := some (.int 0)) rfl (by decide) (by omega) (by omega) ⟨rfl, W0 _ (by rw [hv]; rfl)⟩ rfl
    · rw [s] at q1; cases q1
set_option maxRecDepth 100000 in
set_option maxHeartbeats 2000000 in
theorem w_station {h : AHp} {B : AS} {S : Option Value ⊕ String} {c val : Int32} {f : Nat → Int64} {fs : List Value} {D mc ms : Nat} {p0 : Int32} (hmc : mc ≤ 1) (hms : ms ≤ 6) (hC : JM mi_X5_station D mc ms [.ref 0, .int p0] h (fun r h' => r = S ∧ CStep h B h')) (e0 : h 0 = .inr (5, fs)) (hf : h 129 = .inl (2, 1, .inr (.inl f))) (hS : (S = .inl (some (.int val)) ∧ c = 0) ∨ (S = .inr "java/lang/IndexOutOfBoundsException" ∧ c = 1) ∨ (S = .inr "java/util/NoSuchElementException" ∧ c = 2)) : JM mi_L_station (D + 1) 1 6 [.ref 0, .int p0, .ref 129] h (fun r h' => r = .inl (some (.int c)) ∧ WH h B c val h') := by
  refine JM_of gd_L_station rfl (by decide +kernel) (Nat.le_of_ble_eq_true rfl) (oj_cats rfl) (by decide) ?_
  repeat (first | (refine J_step rfl rfl ?_) | (refine J_getf rfl rfl rfl (by assumption) rfl ?_))
  refine J_callV rfl rfl rfl rfl rfl e0 rfl rfl (Nat.ble_eq.mpr (Nat.le_refl _)) rfl hC (by omega) (by omega) (fun E h9 q => ?_) (fun v9 h9 q => ?_)
  · obtain ⟨q1, q2⟩ := q
    rcases hS with ⟨s, hc⟩ | ⟨s, hc⟩ | ⟨s, hc⟩
    · rw [s] at q1; cases q1
    · rw [s] at q1; cases q1; subst hc
      refine Or.inr ⟨[], (0, 9, 12, 13), [(0, 9, 15, 23)], "java/lang/IndexOutOfBoundsException", rfl, rfl, by decide, by decide +kernel, by decide +kernel, (fun z hz => by cases hz), .astore_n 3, 1, 13, _, 3, rfl, rfl, (Nat.le_of_ble_eq_true rfl), ?_⟩
      repeat (first | (refine J_step rfl rfl ?_) | (refine J_getf rfl rfl rfl (by assumption) rfl ?_))
      exact J_ret (v := some (.int _)) rfl (by decide) (by omega) (by omega) ⟨rfl, WH_thr q2 hf (by decide)⟩ rfl
    · rw [s] at q1; cases q1; subst hc
      refine Or.inr ⟨[(0, 9, 12, 13)], (0, 9, 15, 23), [], "java/util/NoSuchElementException", rfl, rfl, by decide, by decide +kernel, by decide +kernel, (fun z hz => by
        simp only [List.mem_cons, List.not_mem_nil, or_false] at hz
        rcases hz with hz
        · subst hz; exact ⟨by decide, "java/lang/IndexOutOfBoundsException", by decide +kernel, by decide +kernel⟩), .astore_n 3, 1, 16, _, 3, rfl, rfl, (Nat.le_of_ble_eq_true rfl), ?_⟩
      repeat (first | (refine J_step rfl rfl ?_) | (refine J_getf rfl rfl rfl (by assumption) rfl ?_))
      exact J_ret (v := some (.int _)) rfl (by decide) (by omega) (by omega) ⟨rfl, WH_thr q2 hf (by decide)⟩ rfl
  · obtain ⟨q1, q2⟩ := q
    have e9 := (q2.2 129 (by decide)).trans hf
    rcases hS with ⟨s, hc⟩ | ⟨s, hc⟩ | ⟨s, hc⟩
    · rw [s] at q1; cases q1; subst hc
      iterate 1 (refine J_step rfl rfl ?_)
      refine J_last rfl e9 (vp_in_nI (n := 0) (by decide) (by decide)) ?_
      repeat (first | (refine J_step rfl rfl ?_) | (refine J_getf rfl rfl rfl (by assumption) rfl ?_))
      exact J_ret (v := some (.int 0)) rfl (by decide) (by omega) (by omega) ⟨rfl, WH_put q2⟩ rfl
    · rw [s] at q1; cases q1
    · rw [s] at q1; cases q1
set_option maxRecDepth 100000 in
set_option maxHeartbeats 2000000 in
theorem w_nextSegment {h : AHp} {B : AS} {S : Option Value ⊕ String} {c val : Int32} {f : Nat → Int64} {fs : List Value} {D mc ms : Nat} {p0 : Int32} (hmc : mc ≤ 1) (hms : ms ≤ 6) (hC : JM mi_X5_nextSegment D mc ms [.ref 0, .int p0] h (fun r h' => r = S ∧ CStep h B h')) (e0 : h 0 = .inr (5, fs)) (hf : h 129 = .inl (2, 1, .inr (.inl f))) (hS : (S = .inl (some (.int val)) ∧ c = 0) ∨ (S = .inr "java/lang/IndexOutOfBoundsException" ∧ c = 1)) : JM mi_L_nextSegment (D + 1) 1 6 [.ref 0, .int p0, .ref 129] h (fun r h' => r = .inl (some (.int c)) ∧ WH h B c val h') := by
  refine JM_of gd_L_nextSegment rfl (by decide +kernel) (Nat.le_of_ble_eq_true rfl) (oj_cats rfl) (by decide) ?_
  repeat (first | (refine J_step rfl rfl ?_) | (refine J_getf rfl rfl rfl (by assumption) rfl ?_))
  refine J_callV rfl rfl rfl rfl rfl e0 rfl rfl (Nat.ble_eq.mpr (Nat.le_refl _)) rfl hC (by omega) (by omega) (fun E h9 q => ?_) (fun v9 h9 q => ?_)
  · obtain ⟨q1, q2⟩ := q
    rcases hS with ⟨s, hc⟩ | ⟨s, hc⟩
    · rw [s] at q1; cases q1
    · rw [s] at q1; cases q1; subst hc
      refine Or.inr ⟨[], (0, 9, 12, 13), [], "java/lang/IndexOutOfBoundsException", rfl, rfl, by decide, by decide +kernel, by decide +kernel, (fun z hz => by cases hz), .astore_n 3, 1, 13, _, 3, rfl, rfl, (Nat.le_of_ble_eq_true rfl), ?_⟩
      repeat (first | (refine J_step rfl rfl ?_) | (refine J_getf rfl rfl rfl (by assumption) rfl ?_))
      exact J_ret (v := some (.int _)) rfl (by decide) (by omega) (by omega) ⟨rfl, WH_thr q2 hf (by decide)⟩ rfl
  · obtain ⟨q1, q2⟩ := q
    have e9 := (q2.2 129 (by decide)).trans hf
    rcases hS with ⟨s, hc⟩ | ⟨s, hc⟩
    · rw [s] at q1; cases q1; subst hc
      iterate 1 (refine J_step rfl rfl ?_)
      refine J_last rfl e9 (vp_in_nI (n := 0) (by decide) (by decide)) ?_
      repeat (first | (refine J_step rfl rfl ?_) | (refine J_getf rfl rfl rfl (by assumption) rfl ?_))
      exact J_ret (v := some (.int 0)) rfl (by decide) (by omega) (by omega) ⟨rfl, WH_put q2⟩ rfl
    · rw [s] at q1; cases q1
set_option maxRecDepth 100000 in
set_option maxHeartbeats 2000000 in
theorem w_cabinWeight {h : AHp} {B : AS} {S : Option Value ⊕ String} {c val : Int32} {f : Nat → Int64} {fs : List Value} {D mc ms : Nat} {p0 : Int32} (hmc : mc ≤ 1) (hms : ms ≤ 6) (hC : JM mi_X5_cabinWeight D mc ms [.ref 0, .int p0] h (fun r h' => r = S ∧ CStep h B h')) (e0 : h 0 = .inr (5, fs)) (hf : h 129 = .inl (2, 1, .inr (.inl f))) (hS : (S = .inl (some (.int val)) ∧ c = 0) ∨ (S = .inr "java/lang/IndexOutOfBoundsException" ∧ c = 1)) : JM mi_L_cabinWeight (D + 1) 1 6 [.ref 0, .int p0, .ref 129] h (fun r h' => r = .inl (some (.int c)) ∧ WH h B c val h') := by
  refine JM_of gd_L_cabinWeight rfl (by decide +kernel) (Nat.le_of_ble_eq_true rfl) (oj_cats rfl) (by decide) ?_
  repeat (first | (refine J_step rfl rfl ?_) | (refine J_getf rfl rfl rfl (by assumption) rfl ?_))
  refine J_callV rfl rfl rfl rfl rfl e0 rfl rfl (Nat.ble_eq.mpr (Nat.le_refl _)) rfl hC (by omega) (by omega) (fun E h9 q => ?_) (fun v9 h9 q => ?_)
  · obtain ⟨q1, q2⟩ := q
    rcases hS with ⟨s, hc⟩ | ⟨s, hc⟩
    · rw [s] at q1; cases q1
    · rw [s] at q1; cases q1; subst hc
      refine Or.inr ⟨[], (0, 9, 12, 13), [], "java/lang/IndexOutOfBoundsException", rfl, rfl, by decide, by decide +kernel, by decide +kernel, (fun z hz => by cases hz), .astore_n 3, 1, 13, _, 3, rfl, rfl, (Nat.le_of_ble_eq_true rfl), ?_⟩
      repeat (first | (refine J_step rfl rfl ?_) | (refine J_getf rfl rfl rfl (by assumption) rfl ?_))
      exact J_ret (v := some (.int _)) rfl (by decide) (by omega) (by omega) ⟨rfl, WH_thr q2 hf (by decide)⟩ rfl
  · obtain ⟨q1, q2⟩ := q
    have e9 := (q2.2 129 (by decide)).trans hf
    rcases hS with ⟨s, hc⟩ | ⟨s, hc⟩
    · rw [s] at q1; cases q1; subst hc
      iterate 1 (refine J_step rfl rfl ?_)
      refine J_last rfl e9 (vp_in_nI (n := 0) (by decide) (by decide)) ?_
      repeat (first | (refine J_step rfl rfl ?_) | (refine J_getf rfl rfl rfl (by assumption) rfl ?_))
      exact J_ret (v := some (.int 0)) rfl (by decide) (by omega) (by omega) ⟨rfl, WH_put q2⟩ rfl
    · rw [s] at q1; cases q1
set_option maxRecDepth 100000 in
set_option maxHeartbeats 2000000 in
theorem w_riders {h : AHp} {B : AS} {S : Option Value ⊕ String} {c val : Int32} {f : Nat → Int64} {fs : List Value} {D mc ms : Nat} {p0 : Int32} (hmc : mc ≤ 1) (hms : ms ≤ 6) (hC : JM mi_X5_riders D mc ms [.ref 0, .int p0] h (fun r h' => r = S ∧ CStep h B h')) (e0 : h 0 = .inr (5, fs)) (hf : h 129 = .inl (2, 1, .inr (.inl f))) (hS : (S = .inl (some (.int val)) ∧ c = 0) ∨ (S = .inr "java/lang/IndexOutOfBoundsException" ∧ c = 1)) : JM mi_L_riders (D + 1) 1 6 [.ref 0, .int p0, .ref 129] h (fun r h' => r = .inl (some (.int c)) ∧ WH h B c val h') := by
  refine JM_of gd_L_riders rfl (by decide +kernel) (Nat.le_of_ble_eq_true rfl) (oj_cats rfl) (by decide) ?_
  repeat (first | (refine J_step rfl rfl ?_) | (refine J_getf rfl rfl rfl (by assumption) rfl ?_))
  refine J_callV rfl rfl rfl rfl rfl e0 rfl rfl (Nat.ble_eq.mpr (Nat.le_refl _)) rfl hC (by omega) (by omega) (fun E h9 q => ?_) (fun v9 h9 q => ?_)
  · obtain ⟨q1, q2⟩ := q
    rcases hS with ⟨s, hc⟩ | ⟨s, hc⟩
    · rw [s] at q1; cases q1
    · rw [s] at q1; cases q1; subst hc
      refine Or.inr ⟨[], (0, 9, 12, 13), [], "java/lang/IndexOutOfBoundsException", rfl, rfl, by decide, by decide +kernel, by decide +kernel, (fun z hz => by cases hz), .astore_n 3, 1, 13, _, 3, rfl, rfl, (Nat.le_of_ble_eq_true rfl), ?_⟩
      repeat (first | (refine J_step rfl rfl ?_) | (refine J_getf rfl rfl rfl (by assumption) rfl ?_))
      exact J_ret (v := some (.int _)) rfl (by decide) (by omega) (by omega) ⟨rfl, WH_thr q2 hf (by decide)⟩ rfl
  · obtain ⟨q1, q2⟩ := q
    have e9 := (q2.2 129 (by decide)).trans hf
    rcases hS with ⟨s, hc⟩ | ⟨s, hc⟩
    · rw [s] at q1; cases q1; subst hc
      iterate 1 (refine J_step rfl rfl ?_)
      refine J_last rfl e9 (vp_in_nI (n := 0) (by decide) (by decide)) ?_
      repeat (first | (refine J_step rfl rfl ?_) | (refine J_getf rfl rfl rfl (by assumption) rfl ?_))
      exact J_ret (v := some (.int 0)) rfl (by decide) (by omega) (by omega) ⟨rfl, WH_put q2⟩ rfl
    · rw [s] at q1; cases q1
set_option maxRecDepth 100000 in
set_option maxHeartbeats 2000000 in
theorem w_riderAt {h : AHp} {B : AS} {S : Option Value ⊕ String} {c val : Int32} {f : Nat → Int64} {fs : List Value} {D mc ms : Nat} {p0 p1 : Int32} (hmc : mc ≤ 1) (hms : ms ≤ 6) (hC : JM mi_X5_riderAt D mc ms [.ref 0, .int p0, .int p1] h (fun r h' => r = S ∧ CStep h B h')) (e0 : h 0 = .inr (5, fs)) (hf : h 129 = .inl (2, 1, .inr (.inl f))) (hS : (S = .inl (some (.int val)) ∧ c = 0) ∨ (S = .inr "java/lang/IndexOutOfBoundsException" ∧ c = 1) ∨ (S = .inr "java/util/NoSuchElementException" ∧ c = 2)) : JM mi_L_riderAt (D + 1) 1 6 [.ref 0, .int p0, .int p1, .ref 129] h (fun r h' => r = .inl (some (.int c)) ∧ WH h B c val h') := by
  refine JM_of gd_L_riderAt rfl (by decide +kernel) (Nat.le_of_ble_eq_true rfl) (oj_cats rfl) (by decide) ?_
  repeat (first | (refine J_step rfl rfl ?_) | (refine J_getf rfl rfl rfl (by assumption) rfl ?_))
  refine J_callV rfl rfl rfl rfl rfl e0 rfl rfl (Nat.ble_eq.mpr (Nat.le_refl _)) rfl hC (by omega) (by omega) (fun E h9 q => ?_) (fun v9 h9 q => ?_)
  · obtain ⟨q1, q2⟩ := q
    rcases hS with ⟨s, hc⟩ | ⟨s, hc⟩ | ⟨s, hc⟩
    · rw [s] at q1; cases q1
    · rw [s] at q1; cases q1; subst hc
      refine Or.inr ⟨[], (0, 10, 13, 13), [(0, 10, 17, 23)], "java/lang/IndexOutOfBoundsException", rfl, rfl, by decide, by decide +kernel, by decide +kernel, (fun z hz => by cases hz), .astore 4, 2, 15, _, 4, rfl, rfl, (Nat.le_of_ble_eq_true rfl), ?_⟩
      repeat (first | (refine J_step rfl rfl ?_) | (refine J_getf rfl rfl rfl (by assumption) rfl ?_))
      exact J_ret (v := some (.int _)) rfl (by decide) (by omega) (by omega) ⟨rfl, WH_thr q2 hf (by decide)⟩ rfl
    · rw [s] at q1; cases q1; subst hc
      refine Or.inr ⟨[(0, 10, 13, 13)], (0, 10, 17, 23), [], "java/util/NoSuchElementException", rfl, rfl, by decide, by decide +kernel, by decide +kernel, (fun z hz => by
        simp only [List.mem_cons, List.not_mem_nil, or_false] at hz
        rcases hz with hz
        · subst hz; exact ⟨by decide, "java/lang/IndexOutOfBoundsException", by decide +kernel, by decide +kernel⟩), .astore 4, 2, 19, _, 4, rfl, rfl, (Nat.le_of_ble_eq_true rfl), ?_⟩
      repeat (first | (refine J_step rfl rfl ?_) | (refine J_getf rfl rfl rfl (by assumption) rfl ?_))
      exact J_ret (v := some (.int _)) rfl (by decide) (by omega) (by omega) ⟨rfl, WH_thr q2 hf (by decide)⟩ rfl
  · obtain ⟨q1, q2⟩ := q
    have e9 := (q2.2 129 (by decide)).trans hf
    rcases hS with ⟨s, hc⟩ | ⟨s, hc⟩ | ⟨s, hc⟩
    · rw [s] at q1; cases q1; subst hc
      iterate 1 (refine J_step rfl rfl ?_)
      refine J_last rfl e9 (vp_in_nI (n := 0) (by decide) (by decide)) ?_
      repeat (first | (refine J_step rfl rfl ?_) | (refine J_getf rfl rfl rfl (by assumption) rfl ?_))
      exact J_ret (v := some (.int 0)) rfl (by decide) (by omega) (by omega) ⟨rfl, WH_put q2⟩ rfl
    · rw [s] at q1; cases q1
    · rw [s] at q1; cases q1
set_option maxRecDepth 100000 in
set_option maxHeartbeats 2000000 in
theorem w_unitsUntil {h : AHp} {B : AS} {S : Option Value ⊕ String} {c val : Int32} {f : Nat → Int64} {fs : List Value} {D mc ms : Nat} {p0 p1 : Int32} (hmc : mc ≤ 1) (hms : ms ≤ 6) (hC : JM mi_X5_unitsUntil D mc ms [.ref 0, .int p0, .int p1] h (fun r h' => r = S ∧ CStep h B h')) (e0 : h 0 = .inr (5, fs)) (hf : h 129 = .inl (2, 1, .inr (.inl f))) (hS : (S = .inl (some (.int val)) ∧ c = 0) ∨ (S = .inr "java/lang/IndexOutOfBoundsException" ∧ c = 1)) : JM mi_L_unitsUntil (D + 1) 1 6 [.ref 0, .int p0, .int p1, .ref 129] h (fun r h' => r = .inl (some (.int c)) ∧ WH h B c val h') := by
  refine JM_of gd_L_unitsUntil rfl (by decide +kernel) (Nat.le_of_ble_eq_true rfl) (oj_cats rfl) (by decide) ?_
  repeat (first | (refine J_step rfl rfl ?_) | (refine J_getf rfl rfl rfl (by assumption) rfl ?_))
  refine J_callV rfl rfl rfl rfl rfl e0 rfl rfl (Nat.ble_eq.mpr (Nat.le_refl _)) rfl hC (by omega) (by omega) (fun E h9 q => ?_) (fun v9 h9 q => ?_)
  · obtain ⟨q1, q2⟩ := q
    rcases hS with ⟨s, hc⟩ | ⟨s, hc⟩
    · rw [s] at q1; cases q1
    · rw [s] at q1; cases q1; subst hc
      refine Or.inr ⟨[], (0, 10, 13, 13), [], "java/lang/IndexOutOfBoundsException", rfl, rfl, by decide, by decide +kernel, by decide +kernel, (fun z hz => by cases hz), .astore 4, 2, 15, _, 4, rfl, rfl, (Nat.le_of_ble_eq_true rfl), ?_⟩
      repeat (first | (refine J_step rfl rfl ?_) | (refine J_getf rfl rfl rfl (by assumption) rfl ?_))
      exact J_ret (v := some (.int _)) rfl (by decide) (by omega) (by omega) ⟨rfl, WH_thr q2 hf (by decide)⟩ rfl
  · obtain ⟨q1, q2⟩ := q
    have e9 := (q2.2 129 (by decide)).trans hf
    rcases hS with ⟨s, hc⟩ | ⟨s, hc⟩
    · rw [s] at q1; cases q1; subst hc
      iterate 1 (refine J_step rfl rfl ?_)
      refine J_last rfl e9 (vp_in_nI (n := 0) (by decide) (by decide)) ?_
      repeat (first | (refine J_step rfl rfl ?_) | (refine J_getf rfl rfl rfl (by assumption) rfl ?_))
      exact J_ret (v := some (.int 0)) rfl (by decide) (by omega) (by omega) ⟨rfl, WH_put q2⟩ rfl
    · rw [s] at q1; cases q1
set_option maxRecDepth 100000 in
set_option maxHeartbeats 2000000 in
theorem w_unitsUntilByMoving {h : AHp} {B : AS} {S : Option Value ⊕ String} {c val : Int32} {f : Nat → Int64} {fs : List Value} {D mc ms : Nat} {p0 p1 : Int32} (hmc : mc ≤ 1) (hms : ms ≤ 6) (hC : JM mi_X5_unitsUntilByMoving D mc ms [.ref 0, .int p0, .int p1] h (fun r h' => r = S ∧ CStep h B h')) (e0 : h 0 = .inr (5, fs)) (hf : h 129 = .inl (2, 1, .inr (.inl f))) (hS : (S = .inl (some (.int val)) ∧ c = 0) ∨ (S = .inr "java/lang/IndexOutOfBoundsException" ∧ c = 1)) : JM mi_L_unitsUntilByMoving (D + 1) 1 6 [.ref 0, .int p0, .int p1, .ref 129] h (fun r h' => r = .inl (some (.int c)) ∧ WH h B c val h') := by
  refine JM_of gd_L_unitsUntilByMoving rfl (by decide +kernel) (Nat.le_of_ble_eq_true rfl) (oj_cats rfl) (by decide) ?_
  repeat (first | (refine J_step rfl rfl ?_) | (refine J_getf rfl rfl rfl (by assumption) rfl ?_))
  refine J_callV rfl rfl rfl rfl rfl e0 rfl rfl (Nat.ble_eq.mpr (Nat.le_refl _)) rfl hC (by omega) (by omega) (fun E h9 q => ?_) (fun v9 h9 q => ?_)
  · obtain ⟨q1, q2⟩ := q
    rcases hS with ⟨s, hc⟩ | ⟨s, hc⟩
    · rw [s] at q1; cases q1
    · rw [s] at q1; cases q1; subst hc
      refine Or.inr ⟨[], (0, 10, 13, 13), [], "java/lang/IndexOutOfBoundsException", rfl, rfl, by decide, by decide +kernel, by decide +kernel, (fun z hz => by cases hz), .astore 4, 2, 15, _, 4, rfl, rfl, (Nat.le_of_ble_eq_true rfl), ?_⟩
      repeat (first | (refine J_step rfl rfl ?_) | (refine J_getf rfl rfl rfl (by assumption) rfl ?_))
      exact J_ret (v := some (.int _)) rfl (by decide) (by omega) (by omega) ⟨rfl, WH_thr q2 hf (by decide)⟩ rfl
  · obtain ⟨q1, q2⟩ := q
    have e9 := (q2.2 129 (by decide)).trans hf
    rcases hS with ⟨s, hc⟩ | ⟨s, hc⟩
    · rw [s] at q1; cases q1; subst hc
      iterate 1 (refine J_step rfl rfl ?_)
      refine J_last rfl e9 (vp_in_nI (n := 0) (by decide) (by decide)) ?_
      repeat (first | (refine J_step rfl rfl ?_) | (refine J_getf rfl rfl rfl (by assumption) rfl ?_))
      exact J_ret (v := some (.int 0)) rfl (by decide) (by omega) (by omega) ⟨rfl, WH_put q2⟩ rfl
    · rw [s] at q1; cases q1
set_option maxRecDepth 100000 in
set_option maxHeartbeats 2000000 in
theorem w_weight {h : AHp} {B : AS} {S : Option Value ⊕ String} {c val : Int32} {f : Nat → Int64} {fs : List Value} {D mc ms : Nat} {p0 : Int32} (hmc : mc ≤ 1) (hms : ms ≤ 6) (hC : JM mi_X5_weight D mc ms [.ref 0, .int p0] h (fun r h' => r = S ∧ CStep h B h')) (e0 : h 0 = .inr (5, fs)) (hf : h 129 = .inl (2, 1, .inr (.inl f))) (hS : (S = .inl (some (.int val)) ∧ c = 0) ∨ (S = .inr "java/util/NoSuchElementException" ∧ c = 1)) : JM mi_L_weight (D + 1) 1 6 [.ref 0, .int p0, .ref 129] h (fun r h' => r = .inl (some (.int c)) ∧ WH h B c val h') := by
  refine JM_of gd_L_weight rfl (by decide +kernel) (Nat.le_of_ble_eq_true rfl) (oj_cats rfl) (by decide) ?_
  repeat (first | (refine J_step rfl rfl ?_) | (refine J_getf rfl rfl rfl (by assumption) rfl ?_))
  refine J_callV rfl rfl rfl rfl rfl e0 rfl rfl (Nat.ble_eq.mpr (Nat.le_refl _)) rfl hC (by omega) (by omega) (fun E h9 q => ?_) (fun v9 h9 q => ?_)
  · obtain ⟨q1, q2⟩ := q
    rcases hS with ⟨s, hc⟩ | ⟨s, hc⟩
    · rw [s] at q1; cases q1
    · rw [s] at q1; cases q1; subst hc
      refine Or.inr ⟨[], (0, 9, 12, 23), [], "java/util/NoSuchElementException", rfl, rfl, by decide, by decide +kernel, by decide +kernel, (fun z hz => by cases hz), .astore_n 3, 1, 13, _, 3, rfl, rfl, (Nat.le_of_ble_eq_true rfl), ?_⟩
      repeat (first | (refine J_step rfl rfl ?_) | (refine J_getf rfl rfl rfl (by assumption) rfl ?_))
      exact J_ret (v := some (.int _)) rfl (by decide) (by omega) (by omega) ⟨rfl, WH_thr q2 hf (by decide)⟩ rfl
  · obtain ⟨q1, q2⟩ := q
    have e9 := (q2.2 129 (by decide)).trans hf
    rcases hS with ⟨s, hc⟩ | ⟨s, hc⟩
    · rw [s] at q1; cases q1; subst hc
      iterate 1 (refine J_step rfl rfl ?_)
      refine J_last rfl e9 (vp_in_nI (n := 0) (by decide) (by decide)) ?_
      repeat (first | (refine J_step rfl rfl ?_) | (refine J_getf rfl rfl rfl (by assumption) rfl ?_))
      exact J_ret (v := some (.int 0)) rfl (by decide) (by omega) (by omega) ⟨rfl, WH_put q2⟩ rfl
    · rw [s] at q1; cases q1
set_option maxRecDepth 100000 in
set_option maxHeartbeats 2000000 in
theorem w_destination {h : AHp} {B : AS} {S : Option Value ⊕ String} {c val : Int32} {f : Nat → Int64} {fs : List Value} {D mc ms : Nat} {p0 : Int32} (hmc : mc ≤ 1) (hms : ms ≤ 6) (hC : JM mi_X5_destination D mc ms [.ref 0, .int p0] h (fun r h' => r = S ∧ CStep h B h')) (e0 : h 0 = .inr (5, fs)) (hf : h 129 = .inl (2, 1, .inr (.inl f))) (hS : (S = .inl (some (.int val)) ∧ c = 0) ∨ (S = .inr "java/util/NoSuchElementException" ∧ c = 1)) : JM mi_L_destination (D + 1) 1 6 [.ref 0, .int p0, .ref 129] h (fun r h' => r = .inl (some (.int c)) ∧ WH h B c val h') := by
  refine JM_of gd_L_destination rfl (by decide +kernel) (Nat.le_of_ble_eq_true rfl) (oj_cats rfl) (by decide) ?_
  repeat (first | (refine J_step rfl rfl ?_) | (refine J_getf rfl rfl rfl (by assumption) rfl ?_))
  refine J_callV rfl rfl rfl rfl rfl e0 rfl rfl (Nat.ble_eq.mpr (Nat.le_refl _)) rfl hC (by omega) (by omega) (fun E h9 q => ?_) (fun v9 h9 q => ?_)
  · obtain ⟨q1, q2⟩ := q
    rcases hS with ⟨s, hc⟩ | ⟨s, hc⟩
    · rw [s] at q1; cases q1
    · rw [s] at q1; cases q1; subst hc
      refine Or.inr ⟨[], (0, 9, 12, 23), [], "java/util/NoSuchElementException", rfl, rfl, by decide, by decide +kernel, by decide +kernel, (fun z hz => by cases hz), .astore_n 3, 1, 13, _, 3, rfl, rfl, (Nat.le_of_ble_eq_true rfl), ?_⟩
      repeat (first | (refine J_step rfl rfl ?_) | (refine J_getf rfl rfl rfl (by assumption) rfl ?_))
      exact J_ret (v := some (.int _)) rfl (by decide) (by omega) (by omega) ⟨rfl, WH_thr q2 hf (by decide)⟩ rfl
  · obtain ⟨q1, q2⟩ := q
    have e9 := (q2.2 129 (by decide)).trans hf
    rcases hS with ⟨s, hc⟩ | ⟨s, hc⟩
    · rw [s] at q1; cases q1; subst hc
      iterate 1 (refine J_step rfl rfl ?_)
      refine J_last rfl e9 (vp_in_nI (n := 0) (by decide) (by decide)) ?_
      repeat (first | (refine J_step rfl rfl ?_) | (refine J_getf rfl rfl rfl (by assumption) rfl ?_))
      exact J_ret (v := some (.int 0)) rfl (by decide) (by omega) (by omega) ⟨rfl, WH_put q2⟩ rfl
    · rw [s] at q1; cases q1
set_option maxRecDepth 100000 in
set_option maxHeartbeats 2000000 in
theorem w_cabinOf {h : AHp} {B : AS} {S : Option Value ⊕ String} {c val : Int32} {f : Nat → Int64} {fs : List Value} {D mc ms : Nat} {p0 : Int32} (hmc : mc ≤ 1) (hms : ms ≤ 6) (hC : JM mi_X5_cabinOf D mc ms [.ref 0, .int p0] h (fun r h' => r = S ∧ CStep h B h')) (e0 : h 0 = .inr (5, fs)) (hf : h 129 = .inl (2, 1, .inr (.inl f))) (hS : (S = .inl (some (.int val)) ∧ c = 0) ∨ (S = .inr "java/util/NoSuchElementException" ∧ c = 1)) : JM mi_L_cabinOf (D + 1) 1 6 [.ref 0, .int p0, .ref 129] h (fun r h' => r = .inl (some (.int c)) ∧ WH h B c val h') := by
  refine JM_of gd_L_cabinOf rfl (by decide +kernel) (Nat.le_of_ble_eq_true rfl) (oj_cats rfl) (by decide) ?_
  repeat (first | (refine J_step rfl rfl ?_) | (refine J_getf rfl rfl rfl (by assumption) rfl ?_))
  refine J_callV rfl rfl rfl rfl rfl e0 rfl rfl (Nat.ble_eq.mpr (Nat.le_refl _)) rfl hC (by omega) (by omega) (fun E h9 q => ?_) (fun v9 h9 q => ?_)
  · obtain ⟨q1, q2⟩ := q
    rcases hS with ⟨s, hc⟩ | ⟨s, hc⟩
    · rw [s] at q1; cases q1
    · rw [s] at q1; cases q1; subst hc
      refine Or.inr ⟨[], (0, 9, 12, 23), [], "java/util/NoSuchElementException", rfl, rfl, by decide, by decide +kernel, by decide +kernel, (fun z hz => by cases hz), .astore_n 3, 1, 13, _, 3, rfl, rfl, (Nat.le_of_ble_eq_true rfl), ?_⟩
      repeat (first | (refine J_step rfl rfl ?_) | (refine J_getf rfl rfl rfl (by assumption) rfl ?_))
      exact J_ret (v := some (.int _)) rfl (by decide) (by omega) (by omega) ⟨rfl, WH_thr q2 hf (by decide)⟩ rfl
  · obtain ⟨q1, q2⟩ := q
    have e9 := (q2.2 129 (by decide)).trans hf
    rcases hS with ⟨s, hc⟩ | ⟨s, hc⟩
    · rw [s] at q1; cases q1; subst hc
      iterate 1 (refine J_step rfl rfl ?_)
      refine J_last rfl e9 (vp_in_nI (n := 0) (by decide) (by decide)) ?_
      repeat (first | (refine J_step rfl rfl ?_) | (refine J_getf rfl rfl rfl (by assumption) rfl ?_))
      exact J_ret (v := some (.int 0)) rfl (by decide) (by omega) (by omega) ⟨rfl, WH_put q2⟩ rfl
    · rw [s] at q1; cases q1
set_option maxRecDepth 100000 in
set_option maxHeartbeats 2000000 in
theorem w_waiting {h : AHp} {B : AS} {S : Option Value ⊕ String} {c val : Int32} {f : Nat → Int64} {fs : List Value} {D mc ms : Nat} {p0 : Int32} (hmc : mc ≤ 1) (hms : ms ≤ 6) (hC : JM mi_X5_waiting D mc ms [.ref 0, .int p0] h (fun r h' => r = S ∧ CStep h B h')) (e0 : h 0 = .inr (5, fs)) (hf : h 129 = .inl (2, 1, .inr (.inl f))) (hS : (S = .inl (some (.int val)) ∧ c = 0) ∨ (S = .inr "java/lang/IndexOutOfBoundsException" ∧ c = 1)) : JM mi_L_waiting (D + 1) 1 6 [.ref 0, .int p0, .ref 129] h (fun r h' => r = .inl (some (.int c)) ∧ WH h B c val h') := by
  refine JM_of gd_L_waiting rfl (by decide +kernel) (Nat.le_of_ble_eq_true rfl) (oj_cats rfl) (by decide) ?_
  repeat (first | (refine J_step rfl rfl ?_) | (refine J_getf rfl rfl rfl (by assumption) rfl ?_))
  refine J_callV rfl rfl rfl rfl rfl e0 rfl rfl (Nat.ble_eq.mpr (Nat.le_refl _)) rfl hC (by omega) (by omega) (fun E h9 q => ?_) (fun v9 h9 q => ?_)
  · obtain ⟨q1, q2⟩ := q
    rcases hS with ⟨s, hc⟩ | ⟨s, hc⟩
    · rw [s] at q1; cases q1
    · rw [s] at q1; cases q1; subst hc
      refine Or.inr ⟨[], (0, 9, 12, 13), [], "java/lang/IndexOutOfBoundsException", rfl, rfl, by decide, by decide +kernel, by decide +kernel, (fun z hz => by cases hz), .astore_n 3, 1, 13, _, 3, rfl, rfl, (Nat.le_of_ble_eq_true rfl), ?_⟩
      repeat (first | (refine J_step rfl rfl ?_) | (refine J_getf rfl rfl rfl (by assumption) rfl ?_))
      exact J_ret (v := some (.int _)) rfl (by decide) (by omega) (by omega) ⟨rfl, WH_thr q2 hf (by decide)⟩ rfl
  · obtain ⟨q1, q2⟩ := q
    have e9 := (q2.2 129 (by decide)).trans hf
    rcases hS with ⟨s, hc⟩ | ⟨s, hc⟩
    · rw [s] at q1; cases q1; subst hc
      iterate 1 (refine J_step rfl rfl ?_)
      refine J_last rfl e9 (vp_in_nI (n := 0) (by decide) (by decide)) ?_
      repeat (first | (refine J_step rfl rfl ?_) | (refine J_getf rfl rfl rfl (by assumption) rfl ?_))
      exact J_ret (v := some (.int 0)) rfl (by decide) (by omega) (by omega) ⟨rfl, WH_put q2⟩ rfl
    · rw [s] at q1; cases q1
set_option maxRecDepth 100000 in
set_option maxHeartbeats 2000000 in
theorem w_waitingAt {h : AHp} {B : AS} {S : Option Value ⊕ String} {c val : Int32} {f : Nat → Int64} {fs : List Value} {D mc ms : Nat} {p0 p1 : Int32} (hmc : mc ≤ 1) (hms : ms ≤ 6) (hC : JM mi_X5_waitingAt D mc ms [.ref 0, .int p0, .int p1] h (fun r h' => r = S ∧ CStep h B h')) (e0 : h 0 = .inr (5, fs)) (hf : h 129 = .inl (2, 1, .inr (.inl f))) (hS : (S = .inl (some (.int val)) ∧ c = 0) ∨ (S = .inr "java/lang/IndexOutOfBoundsException" ∧ c = 1) ∨ (S = .inr "java/util/NoSuchElementException" ∧ c = 2)) : JM mi_L_waitingAt (D + 1) 1 6 [.ref 0, .int p0, .int p1, .ref 129] h (fun r h' => r = .inl (some (.int c)) ∧ WH h B c val h') := by
  refine JM_of gd_L_waitingAt rfl (by decide +kernel) (Nat.le_of_ble_eq_true rfl) (oj_cats rfl) (by decide) ?_
  repeat (first | (refine J_step rfl rfl ?_) | (refine J_getf rfl rfl rfl (by assumption) rfl ?_))
  refine J_callV rfl rfl rfl rfl rfl e0 rfl rfl (Nat.ble_eq.mpr (Nat.le_refl _)) rfl hC (by omega) (by omega) (fun E h9 q => ?_) (fun v9 h9 q => ?_)
  · obtain ⟨q1, q2⟩ := q
    rcases hS with ⟨s, hc⟩ | ⟨s, hc⟩ | ⟨s, hc⟩
    · rw [s] at q1; cases q1
    · rw [s] at q1; cases q1; subst hc
      refine Or.inr ⟨[], (0, 10, 13, 13), [(0, 10, 17, 23)], "java/lang/IndexOutOfBoundsException", rfl, rfl, by decide, by decide +kernel, by decide +kernel, (fun z hz => by cases hz), .astore 4, 2, 15, _, 4, rfl, rfl, (Nat.le_of_ble_eq_true rfl), ?_⟩
      repeat (first | (refine J_step rfl rfl ?_) | (refine J_getf rfl rfl rfl (by assumption) rfl ?_))
      exact J_ret (v := some (.int _)) rfl (by decide) (by omega) (by omega) ⟨rfl, WH_thr q2 hf (by decide)⟩ rfl
    · rw [s] at q1; cases q1; subst hc
      refine Or.inr ⟨[(0, 10, 13, 13)], (0, 10, 17, 23), [], "java/util/NoSuchElementException", rfl, rfl, by decide, by decide +kernel, by decide +kernel, (fun z hz => by
        simp only [List.mem_cons, List.not_mem_nil, or_false] at hz
        rcases hz with hz
        · subst hz; exact ⟨by decide, "java/lang/IndexOutOfBoundsException", by decide +kernel, by decide +kernel⟩), .astore 4, 2, 19, _, 4, rfl, rfl, (Nat.le_of_ble_eq_true rfl), ?_⟩
      repeat (first | (refine J_step rfl rfl ?_) | (refine J_getf rfl rfl rfl (by assumption) rfl ?_))
      exact J_ret (v := some (.int _)) rfl (by decide) (by omega) (by omega) ⟨rfl, WH_thr q2 hf (by decide)⟩ rfl
  · obtain ⟨q1, q2⟩ := q
    have e9 := (q2.2 129 (by decide)).trans hf
    rcases hS with ⟨s, hc⟩ | ⟨s, hc⟩ | ⟨s, hc⟩
    · rw [s] at q1; cases q1; subst hc
      iterate 1 (refine J_step rfl rfl ?_)
      refine J_last rfl e9 (vp_in_nI (n := 0) (by decide) (by decide)) ?_
      repeat (first | (refine J_step rfl rfl ?_) | (refine J_getf rfl rfl rfl (by assumption) rfl ?_))
      exact J_ret (v := some (.int 0)) rfl (by decide) (by omega) (by omega) ⟨rfl, WH_put q2⟩ rfl
    · rw [s] at q1; cases q1
    · rw [s] at q1; cases q1
set_option maxRecDepth 100000 in
set_option maxHeartbeats 2000000 in
theorem w_busiestStation {h : AHp} {B : AS} {S : Option Value ⊕ String} {c val : Int32} {f : Nat → Int64} {fs : List Value} {D mc ms : Nat} (hmc : mc ≤ 1) (hms : ms ≤ 6) (hC : JM mi_X5_busiestStation D mc ms [.ref 0] h (fun r h' => r = S ∧ CStep h B h')) (e0 : h 0 = .inr (5, fs)) (hf : h 129 = .inl (2, 1, .inr (.inl f))) (hS : (S = .inl (some (.int val)) ∧ c = 0) ∨ (S = .inr "java/util/NoSuchElementException" ∧ c = 1)) : JM mi_L_busiestStation (D + 1) 1 6 [.ref 0, .ref 129] h (fun r h' => r = .inl (some (.int c)) ∧ WH h B c val h') := by
  refine JM_of gd_L_busiestStation rfl (by decide +kernel) (Nat.le_of_ble_eq_true rfl) (oj_cats rfl) (by decide) ?_
  repeat (first | (refine J_step rfl rfl ?_) | (refine J_getf rfl rfl rfl (by assumption) rfl ?_))
  refine J_callV rfl rfl rfl rfl rfl e0 rfl rfl (Nat.ble_eq.mpr (Nat.le_refl _)) rfl hC (by omega) (by omega) (fun E h9 q => ?_) (fun v9 h9 q => ?_)
  · obtain ⟨q1, q2⟩ := q
    rcases hS with ⟨s, hc⟩ | ⟨s, hc⟩
    · rw [s] at q1; cases q1
    · rw [s] at q1; cases q1; subst hc
      refine Or.inr ⟨[], (0, 8, 11, 23), [], "java/util/NoSuchElementException", rfl, rfl, by decide, by decide +kernel, by decide +kernel, (fun z hz => by cases hz), .astore_n 2, 1, 12, _, 2, rfl, rfl, (Nat.le_of_ble_eq_true rfl), ?_⟩
      repeat (first | (refine J_step rfl rfl ?_) | (refine J_getf rfl rfl rfl (by assumption) rfl ?_))
      exact J_ret (v := some (.int _)) rfl (by decide) (by omega) (by omega) ⟨rfl, WH_thr q2 hf (by decide)⟩ rfl
  · obtain ⟨q1, q2⟩ := q
    have e9 := (q2.2 129 (by decide)).trans hf
    rcases hS with ⟨s, hc⟩ | ⟨s, hc⟩
    · rw [s] at q1; cases q1; subst hc
      iterate 1 (refine J_step rfl rfl ?_)
      refine J_last rfl e9 (vp_in_nI (n := 0) (by decide) (by decide)) ?_
      repeat (first | (refine J_step rfl rfl ?_) | (refine J_getf rfl rfl rfl (by assumption) rfl ?_))
      exact J_ret (v := some (.int 0)) rfl (by decide) (by omega) (by omega) ⟨rfl, WH_put q2⟩ rfl
    · rw [s] at q1; cases q1
set_option maxRecDepth 100000 in
set_option maxHeartbeats 2000000 in
theorem w_pickerByWeight {h : AHp} {B : AS} {S : Option Value ⊕ String} {c val : Int32} {f : Nat → Int64} {fs : List Value} {D mc ms : Nat} {p0 : Int32} (hmc : mc ≤ 1) (hms : ms ≤ 6) (hC : JM mi_X5_pickerByWeight D mc ms [.ref 0, .int p0] h (fun r h' => r = S ∧ CStep h B h')) (e0 : h 0 = .inr (5, fs)) (hf : h 129 = .inl (2, 1, .inr (.inl f))) (hS : (S = .inl (some (.int val)) ∧ c = 0) ∨ (S = .inr "java/util/NoSuchElementException" ∧ c = 1)) : JM mi_L_pickerByWeight (D + 1) 1 6 [.ref 0, .int p0, .ref 129] h (fun r h' => r = .inl (some (.int c)) ∧ WH h B c val h') := by
  refine JM_of gd_L_pickerByWeight rfl (by decide +kernel) (Nat.le_of_ble_eq_true rfl) (oj_cats rfl) (by decide) ?_
  repeat (first | (refine J_step rfl rfl ?_) | (refine J_getf rfl rfl rfl (by assumption) rfl ?_))
  refine J_callV rfl rfl rfl rfl rfl e0 rfl rfl (Nat.ble_eq.mpr (Nat.le_refl _)) rfl hC (by omega) (by omega) (fun E h9 q => ?_) (fun v9 h9 q => ?_)
  · obtain ⟨q1, q2⟩ := q
    rcases hS with ⟨s, hc⟩ | ⟨s, hc⟩
    · rw [s] at q1; cases q1
    · rw [s] at q1; cases q1; subst hc
      refine Or.inr ⟨[], (0, 9, 12, 23), [], "java/util/NoSuchElementException", rfl, rfl, by decide, by decide +kernel, by decide +kernel, (fun z hz => by cases hz), .astore_n 3, 1, 13, _, 3, rfl, rfl, (Nat.le_of_ble_eq_true rfl), ?_⟩
      repeat (first | (refine J_step rfl rfl ?_) | (refine J_getf rfl rfl rfl (by assumption) rfl ?_))
      exact J_ret (v := some (.int _)) rfl (by decide) (by omega) (by omega) ⟨rfl, WH_thr q2 hf (by decide)⟩ rfl
  · obtain ⟨q1, q2⟩ := q
    have e9 := (q2.2 129 (by decide)).trans hf
    rcases hS with ⟨s, hc⟩ | ⟨s, hc⟩
    · rw [s] at q1; cases q1; subst hc
      iterate 1 (refine J_step rfl rfl ?_)
      refine J_last rfl e9 (vp_in_nI (n := 0) (by decide) (by decide)) ?_
      repeat (first | (refine J_step rfl rfl ?_) | (refine J_getf rfl rfl rfl (by assumption) rfl ?_))
      exact J_ret (v := some (.int 0)) rfl (by decide) (by omega) (by omega) ⟨rfl, WH_put q2⟩ rfl
    · rw [s] at q1; cases q1
set_option maxRecDepth 100000 in
set_option maxHeartbeats 2000000 in
theorem w_writeCabin {h : AHp} {B : AS} {S : Option Value ⊕ String} {c val : Int32} {f : Nat → Int64} {fs : List Value} {D mc ms : Nat} {p0 : Int32} (hmc : mc ≤ 1) (hms : ms ≤ 6) (hC : JM mi_X5_writeCabin D mc ms [.ref 0, .int p0] h (fun r h' => r = S ∧ CStep h B h')) (e0 : h 0 = .inr (5, fs)) (hf : h 129 = .inl (2, 1, .inr (.inl f))) (hS : (S = .inl (some (.int val)) ∧ c = 0) ∨ (S = .inr "java/lang/IndexOutOfBoundsException" ∧ c = 1)) : JM mi_L_writeCabin (D + 1) 1 6 [.ref 0, .int p0, .ref 129] h (fun r h' => r = .inl (some (.int c)) ∧ WH h B c val h') := by
  refine JM_of gd_L_writeCabin rfl (by decide +kernel) (Nat.le_of_ble_eq_true rfl) (oj_cats rfl) (by decide) ?_
  repeat (first | (refine J_step rfl rfl ?_) | (refine J_getf rfl rfl rfl (by assumption) rfl ?_))
  refine J_callV rfl rfl rfl rfl rfl e0 rfl rfl (Nat.ble_eq.mpr (Nat.le_refl _)) rfl hC (by omega) (by omega) (fun E h9 q => ?_) (fun v9 h9 q => ?_)
  · obtain ⟨q1, q2⟩ := q
    rcases hS with ⟨s, hc⟩ | ⟨s, hc⟩
    · rw [s] at q1; cases q1
    · rw [s] at q1; cases q1; subst hc
      refine Or.inr ⟨[], (0, 9, 12, 13), [], "java/lang/IndexOutOfBoundsException", rfl, rfl, by decide, by decide +kernel, by decide +kernel, (fun z hz => by cases hz), .astore_n 3, 1, 13, _, 3, rfl, rfl, (Nat.le_of_ble_eq_true rfl), ?_⟩
      repeat (first | (refine J_step rfl rfl ?_) | (refine J_getf rfl rfl rfl (by assumption) rfl ?_))
      exact J_ret (v := some (.int _)) rfl (by decide) (by omega) (by omega) ⟨rfl, WH_thr q2 hf (by decide)⟩ rfl
  · obtain ⟨q1, q2⟩ := q
    have e9 := (q2.2 129 (by decide)).trans hf
    rcases hS with ⟨s, hc⟩ | ⟨s, hc⟩
    · rw [s] at q1; cases q1; subst hc
      iterate 1 (refine J_step rfl rfl ?_)
      refine J_last rfl e9 (vp_in_nI (n := 0) (by decide) (by decide)) ?_
      repeat (first | (refine J_step rfl rfl ?_) | (refine J_getf rfl rfl rfl (by assumption) rfl ?_))
      exact J_ret (v := some (.int 0)) rfl (by decide) (by omega) (by omega) ⟨rfl, WH_put q2⟩ rfl
    · rw [s] at q1; cases q1
set_option maxRecDepth 100000 in
set_option maxHeartbeats 2000000 in
theorem w_charAt {h : AHp} {B : AS} {S : Option Value ⊕ String} {c val : Int32} {f : Nat → Int64} {fs : List Value} {D mc ms : Nat} {p0 : Int32} (hmc : mc ≤ 1) (hms : ms ≤ 6) (hC : JM mi_X5_charAt D mc ms [.ref 0, .int p0] h (fun r h' => r = S ∧ CStep h B h')) (e0 : h 0 = .inr (5, fs)) (hf : h 129 = .inl (2, 1, .inr (.inl f))) (hS : (S = .inl (some (.int val)) ∧ c = 0) ∨ (S = .inr "java/lang/IndexOutOfBoundsException" ∧ c = 1)) : JM mi_L_charAt (D + 1) 1 6 [.ref 0, .int p0, .ref 129] h (fun r h' => r = .inl (some (.int c)) ∧ WH h B c val h') := by
  refine JM_of gd_L_charAt rfl (by decide +kernel) (Nat.le_of_ble_eq_true rfl) (oj_cats rfl) (by decide) ?_
  repeat (first | (refine J_step rfl rfl ?_) | (refine J_getf rfl rfl rfl (by assumption) rfl ?_))
  refine J_callV rfl rfl rfl rfl rfl e0 rfl rfl (Nat.ble_eq.mpr (Nat.le_refl _)) rfl hC (by omega) (by omega) (fun E h9 q => ?_) (fun v9 h9 q => ?_)
  · obtain ⟨q1, q2⟩ := q
    rcases hS with ⟨s, hc⟩ | ⟨s, hc⟩
    · rw [s] at q1; cases q1
    · rw [s] at q1; cases q1; subst hc
      refine Or.inr ⟨[], (0, 9, 12, 13), [], "java/lang/IndexOutOfBoundsException", rfl, rfl, by decide, by decide +kernel, by decide +kernel, (fun z hz => by cases hz), .astore_n 3, 1, 13, _, 3, rfl, rfl, (Nat.le_of_ble_eq_true rfl), ?_⟩
      repeat (first | (refine J_step rfl rfl ?_) | (refine J_getf rfl rfl rfl (by assumption) rfl ?_))
      exact J_ret (v := some (.int _)) rfl (by decide) (by omega) (by omega) ⟨rfl, WH_thr q2 hf (by decide)⟩ rfl
  · obtain ⟨q1, q2⟩ := q
    have e9 := (q2.2 129 (by decide)).trans hf
    rcases hS with ⟨s, hc⟩ | ⟨s, hc⟩
    · rw [s] at q1; cases q1; subst hc
      iterate 1 (refine J_step rfl rfl ?_)
      refine J_last rfl e9 (vp_in_nI (n := 0) (by decide) (by decide)) ?_
      repeat (first | (refine J_step rfl rfl ?_) | (refine J_getf rfl rfl rfl (by assumption) rfl ?_))
      exact J_ret (v := some (.int 0)) rfl (by decide) (by omega) (by omega) ⟨rfl, WH_put q2⟩ rfl
    · rw [s] at q1; cases q1
set_option maxRecDepth 100000 in
set_option maxHeartbeats 2000000 in
theorem w_type {h : AHp} {B : AS} {S : Option Value ⊕ String} {c val : Int32} {f : Nat → Int64} {fs : List Value} {D mc ms : Nat} {p0 : Int32} (hmc : mc ≤ 1) (hms : ms ≤ 6) (hC : JM mi_X5_type D mc ms [.ref 0, .int p0] h (fun r h' => r = S ∧ CStep h B h')) (e0 : h 0 = .inr (5, fs)) (hf : h 129 = .inl (2, 1, .inr (.inl f))) (hS : (S = .inl (some (.int val)) ∧ c = 0) ∨ (S = .inr "java/lang/IllegalStateException" ∧ c = 1)) : JM mi_L_type (D + 1) 1 6 [.ref 0, .int p0, .ref 129] h (fun r h' => r = .inl (some (.int c)) ∧ WH h B c val h') := by
  refine JM_of gd_L_type rfl (by decide +kernel) (Nat.le_of_ble_eq_true rfl) (oj_cats rfl) (by decide) ?_
  repeat (first | (refine J_step rfl rfl ?_) | (refine J_getf rfl rfl rfl (by assumption) rfl ?_))
  refine J_callV rfl rfl rfl rfl rfl e0 rfl rfl (Nat.ble_eq.mpr (Nat.le_refl _)) rfl hC (by omega) (by omega) (fun E h9 q => ?_) (fun v9 h9 q => ?_)
  · obtain ⟨q1, q2⟩ := q
    rcases hS with ⟨s, hc⟩ | ⟨s, hc⟩
    · rw [s] at q1; cases q1
    · rw [s] at q1; cases q1; subst hc
      refine Or.inr ⟨[], (0, 9, 12, 17), [], "java/lang/IllegalStateException", rfl, rfl, by decide, by decide +kernel, by decide +kernel, (fun z hz => by cases hz), .astore_n 3, 1, 13, _, 3, rfl, rfl, (Nat.le_of_ble_eq_true rfl), ?_⟩
      repeat (first | (refine J_step rfl rfl ?_) | (refine J_getf rfl rfl rfl (by assumption) rfl ?_))
      exact J_ret (v := some (.int _)) rfl (by decide) (by omega) (by omega) ⟨rfl, WH_thr q2 hf (by decide)⟩ rfl
  · obtain ⟨q1, q2⟩ := q
    have e9 := (q2.2 129 (by decide)).trans hf
    rcases hS with ⟨s, hc⟩ | ⟨s, hc⟩
    · rw [s] at q1; cases q1; subst hc
      iterate 1 (refine J_step rfl rfl ?_)
      refine J_last rfl e9 (vp_in_nI (n := 0) (by decide) (by decide)) ?_
      repeat (first | (refine J_step rfl rfl ?_) | (refine J_getf rfl rfl rfl (by assumption) rfl ?_))
      exact J_ret (v := some (.int 0)) rfl (by decide) (by omega) (by omega) ⟨rfl, WH_put q2⟩ rfl
    · rw [s] at q1; cases q1
set_option maxRecDepth 100000 in
set_option maxHeartbeats 2000000 in
theorem w_run {h : AHp} {B : AS} {S : Option Value ⊕ String} {c val : Int32} {f : Nat → Int64} {fs : List Value} {D mc ms : Nat} (hmc : mc ≤ 1) (hms : ms ≤ 6) (hC : JM mi_X5_run D mc ms [.ref 0] h (fun r h' => r = S ∧ CStep h B h')) (e0 : h 0 = .inr (5, fs)) (hf : h 129 = .inl (2, 1, .inr (.inl f))) (hS : (S = .inl (some (.int val)) ∧ c = 0) ∨ (S = .inr "java/lang/IllegalArgumentException" ∧ c = 1) ∨ (S = .inr "java/lang/UnsupportedOperationException" ∧ c = 2)) : JM mi_L_run (D + 1) 1 6 [.ref 0, .ref 129] h (fun r h' => r = .inl (some (.int c)) ∧ WH h B c val h') := by
  refine JM_of gd_L_run rfl (by decide +kernel) (Nat.le_of_ble_eq_true rfl) (oj_cats rfl) (by decide) ?_
  repeat (first | (refine J_step rfl rfl ?_) | (refine J_getf rfl rfl rfl (by assumption) rfl ?_))
  refine J_callV rfl rfl rfl rfl rfl e0 rfl rfl (Nat.ble_eq.mpr (Nat.le_refl _)) rfl hC (by omega) (by omega) (fun E h9 q => ?_) (fun v9 h9 q => ?_)
  · obtain ⟨q1, q2⟩ := q
    rcases hS with ⟨s, hc⟩ | ⟨s, hc⟩ | ⟨s, hc⟩
    · rw [s] at q1; cases q1
    · rw [s] at q1; cases q1; subst hc
      refine Or.inr ⟨[], (0, 8, 11, 15), [(0, 8, 14, 33)], "java/lang/IllegalArgumentException", rfl, rfl, by decide, by decide +kernel, by decide +kernel, (fun z hz => by cases hz), .astore_n 2, 1, 12, _, 2, rfl, rfl, (Nat.le_of_ble_eq_true rfl), ?_⟩
      repeat (first | (refine J_step rfl rfl ?_) | (refine J_getf rfl rfl rfl (by assumption) rfl ?_))
      exact J_ret (v := some (.int _)) rfl (by decide) (by omega) (by omega) ⟨rfl, WH_thr q2 hf (by decide)⟩ rfl
    · rw [s] at q1; cases q1; subst hc
      refine Or.inr ⟨[(0, 8, 11, 15)], (0, 8, 14, 33), [], "java/lang/UnsupportedOperationException", rfl, rfl, by decide, by decide +kernel, by decide +kernel, (fun z hz => by
        simp only [List.mem_cons, List.not_mem_nil, or_false] at hz
        rcases hz with hz
        · subst hz; exact ⟨by decide, "java/lang/IllegalArgumentException", by decide +kernel, by decide +kernel⟩), .astore_n 2, 1, 15, _, 2, rfl, rfl, (Nat.le_of_ble_eq_true rfl), ?_⟩
      repeat (first | (refine J_step rfl rfl ?_) | (refine J_getf rfl rfl rfl (by assumption) rfl ?_))
      exact J_ret (v := some (.int _)) rfl (by decide) (by omega) (by omega) ⟨rfl, WH_thr q2 hf (by decide)⟩ rfl
  · obtain ⟨q1, q2⟩ := q
    have e9 := (q2.2 129 (by decide)).trans hf
    rcases hS with ⟨s, hc⟩ | ⟨s, hc⟩ | ⟨s, hc⟩
    · rw [s] at q1; cases q1; subst hc
      iterate 1 (refine J_step rfl rfl ?_)
      refine J_last rfl e9 (vp_in_nI (n := 0) (by decide) (by decide)) ?_
      repeat (first | (refine J_step rfl rfl ?_) | (refine J_getf rfl rfl rfl (by assumption) rfl ?_))
      exact J_ret (v := some (.int 0)) rfl (by decide) (by omega) (by omega) ⟨rfl, WH_put q2⟩ rfl
    · rw [s] at q1; cases q1
    · rw [s] at q1; cases q1
set_option maxRecDepth 100000 in
set_option maxHeartbeats 2000000 in
theorem w_errorPosition {h : AHp} {B : AS} {S : Option Value ⊕ String} {c val : Int32} {f : Nat → Int64} {fs : List Value} {D mc ms : Nat} (hmc : mc ≤ 1) (hms : ms ≤ 6) (hC : JM mi_X5_errorPosition D mc ms [.ref 0] h (fun r h' => r = S ∧ CStep h B h')) (e0 : h 0 = .inr (5, fs)) (hf : h 129 = .inl (2, 1, .inr (.inl f))) (hS : (S = .inl (some (.int val)) ∧ c = 0) ∨ (S = .inr "java/util/NoSuchElementException" ∧ c = 1)) : JM mi_L_errorPosition (D + 1) 1 6 [.ref 0, .ref 129] h (fun r h' => r = .inl (some (.int c)) ∧ WH h B c val h') := by
  refine JM_of gd_L_errorPosition rfl (by decide +kernel) (Nat.le_of_ble_eq_true rfl) (oj_cats rfl) (by decide) ?_
  repeat (first | (refine J_step rfl rfl ?_) | (refine J_getf rfl rfl rfl (by assumption) rfl ?_))
  refine J_callV rfl rfl rfl rfl rfl e0 rfl rfl (Nat.ble_eq.mpr (Nat.le_refl _)) rfl hC (by omega) (by omega) (fun E h9 q => ?_) (fun v9 h9 q => ?_)
  · obtain ⟨q1, q2⟩ := q
    rcases hS with ⟨s, hc⟩ | ⟨s, hc⟩
    · rw [s] at q1; cases q1
    · rw [s] at q1; cases q1; subst hc
      refine Or.inr ⟨[], (0, 8, 11, 23), [], "java/util/NoSuchElementException", rfl, rfl, by decide, by decide +kernel, by decide +kernel, (fun z hz => by cases hz), .astore_n 2, 1, 12, _, 2, rfl, rfl, (Nat.le_of_ble_eq_true rfl), ?_⟩
      repeat (first | (refine J_step rfl rfl ?_) | (refine J_getf rfl rfl rfl (by assumption) rfl ?_))
      exact J_ret (v := some (.int _)) rfl (by decide) (by omega) (by omega) ⟨rfl, WH_thr q2 hf (by decide)⟩ rfl
  · obtain ⟨q1, q2⟩ := q
    have e9 := (q2.2 129 (by decide)).trans hf
    rcases hS with ⟨s, hc⟩ | ⟨s, hc⟩
    · rw [s] at q1; cases q1; subst hc
      iterate 1 (refine J_step rfl rfl ?_)
      refine J_last rfl e9 (vp_in_nI (n := 0) (by decide) (by decide)) ?_
      repeat (first | (refine J_step rfl rfl ?_) | (refine J_getf rfl rfl rfl (by assumption) rfl ?_))
      exact J_ret (v := some (.int 0)) rfl (by decide) (by omega) (by omega) ⟨rfl, WH_put q2⟩ rfl
    · rw [s] at q1; cases q1
set_option maxRecDepth 100000 in
set_option maxHeartbeats 2000000 in
theorem w_failedCommand {h : AHp} {B : AS} {S : Option Value ⊕ String} {c val : Int32} {f : Nat → Int64} {fs : List Value} {D mc ms : Nat} (hmc : mc ≤ 1) (hms : ms ≤ 6) (hC : JM mi_X5_failedCommand D mc ms [.ref 0] h (fun r h' => r = S ∧ CStep h B h')) (e0 : h 0 = .inr (5, fs)) (hf : h 129 = .inl (2, 1, .inr (.inl f))) (hS : (S = .inl (some (.int val)) ∧ c = 0) ∨ (S = .inr "java/util/NoSuchElementException" ∧ c = 1)) : JM mi_L_failedCommand (D + 1) 1 6 [.ref 0, .ref 129] h (fun r h' => r = .inl (some (.int c)) ∧ WH h B c val h') := by
  refine JM_of gd_L_failedCommand rfl (by decide +kernel) (Nat.le_of_ble_eq_true rfl) (oj_cats rfl) (by decide) ?_
  repeat (first | (refine J_step rfl rfl ?_) | (refine J_getf rfl rfl rfl (by assumption) rfl ?_))
  refine J_callV rfl rfl rfl rfl rfl e0 rfl rfl (Nat.ble_eq.mpr (Nat.le_refl _)) rfl hC (by omega) (by omega) (fun E h9 q => ?_) (fun v9 h9 q => ?_)
  · obtain ⟨q1, q2⟩ := q
    rcases hS with ⟨s, hc⟩ | ⟨s, hc⟩
    · rw [s] at q1; cases q1
    · rw [s] at q1; cases q1; subst hc
      refine Or.inr ⟨[], (0, 8, 11, 23), [], "java/util/NoSuchElementException", rfl, rfl, by decide, by decide +kernel, by decide +kernel, (fun z hz => by cases hz), .astore_n 2, 1, 12, _, 2, rfl, rfl, (Nat.le_of_ble_eq_true rfl), ?_⟩
      repeat (first | (refine J_step rfl rfl ?_) | (refine J_getf rfl rfl rfl (by assumption) rfl ?_))
      exact J_ret (v := some (.int _)) rfl (by decide) (by omega) (by omega) ⟨rfl, WH_thr q2 hf (by decide)⟩ rfl
  · obtain ⟨q1, q2⟩ := q
    have e9 := (q2.2 129 (by decide)).trans hf
    rcases hS with ⟨s, hc⟩ | ⟨s, hc⟩
    · rw [s] at q1; cases q1; subst hc
      iterate 1 (refine J_step rfl rfl ?_)
      refine J_last rfl e9 (vp_in_nI (n := 0) (by decide) (by decide)) ?_
      repeat (first | (refine J_step rfl rfl ?_) | (refine J_getf rfl rfl rfl (by assumption) rfl ?_))
      exact J_ret (v := some (.int 0)) rfl (by decide) (by omega) (by omega) ⟨rfl, WH_put q2⟩ rfl
    · rw [s] at q1; cases q1
set_option maxRecDepth 100000 in
set_option maxHeartbeats 2000000 in
theorem w_undo {h : AHp} {B : AS} {S : Option Value ⊕ String} {c val : Int32} {f : Nat → Int64} {fs : List Value} {D mc ms : Nat} (hmc : mc ≤ 1) (hms : ms ≤ 6) (hC : JM mi_X5_undo D mc ms [.ref 0] h (fun r h' => r = S ∧ CStep h B h')) (e0 : h 0 = .inr (5, fs)) (hf : h 129 = .inl (2, 1, .inr (.inl f))) (hS : (S = .inl (some (.int val)) ∧ c = 0) ∨ (S = .inr "java/lang/IllegalStateException" ∧ c = 1)) : JM mi_L_undo (D + 1) 1 6 [.ref 0, .ref 129] h (fun r h' => r = .inl (some (.int c)) ∧ WH h B c val h') := by
  refine JM_of gd_L_undo rfl (by decide +kernel) (Nat.le_of_ble_eq_true rfl) (oj_cats rfl) (by decide) ?_
  repeat (first | (refine J_step rfl rfl ?_) | (refine J_getf rfl rfl rfl (by assumption) rfl ?_))
  refine J_callV rfl rfl rfl rfl rfl e0 rfl rfl (Nat.ble_eq.mpr (Nat.le_refl _)) rfl hC (by omega) (by omega) (fun E h9 q => ?_) (fun v9 h9 q => ?_)
  · obtain ⟨q1, q2⟩ := q
    rcases hS with ⟨s, hc⟩ | ⟨s, hc⟩
    · rw [s] at q1; cases q1
    · rw [s] at q1; cases q1; subst hc
      refine Or.inr ⟨[], (0, 8, 11, 17), [], "java/lang/IllegalStateException", rfl, rfl, by decide, by decide +kernel, by decide +kernel, (fun z hz => by cases hz), .astore_n 2, 1, 12, _, 2, rfl, rfl, (Nat.le_of_ble_eq_true rfl), ?_⟩
      repeat (first | (refine J_step rfl rfl ?_) | (refine J_getf rfl rfl rfl (by assumption) rfl ?_))
      exact J_ret (v := some (.int _)) rfl (by decide) (by omega) (by omega) ⟨rfl, WH_thr q2 hf (by decide)⟩ rfl
  · obtain ⟨q1, q2⟩ := q
    have e9 := (q2.2 129 (by decide)).trans hf
    rcases hS with ⟨s, hc⟩ | ⟨s, hc⟩
    · rw [s] at q1; cases q1; subst hc
      iterate 1 (refine J_step rfl rfl ?_)
      refine J_last rfl e9 (vp_in_nI (n := 0) (by decide) (by decide)) ?_
      repeat (first | (refine J_step rfl rfl ?_) | (refine J_getf rfl rfl rfl (by assumption) rfl ?_))
      exact J_ret (v := some (.int 0)) rfl (by decide) (by omega) (by omega) ⟨rfl, WH_put q2⟩ rfl
    · rw [s] at q1; cases q1
set_option maxRecDepth 100000 in
set_option maxHeartbeats 2000000 in
theorem w_restore {h : AHp} {B : AS} {S : Option Value ⊕ String} {c val : Int32} {f : Nat → Int64} {fs : List Value} {D mc ms : Nat} (hmc : mc ≤ 1) (hms : ms ≤ 6) (hC : JM mi_X5_restore D mc ms [.ref 0] h (fun r h' => r = S ∧ CStep h B h')) (e0 : h 0 = .inr (5, fs)) (hf : h 129 = .inl (2, 1, .inr (.inl f))) (hS : (S = .inl (some (.int val)) ∧ c = 0) ∨ (S = .inr "java/lang/IllegalStateException" ∧ c = 1)) : JM mi_L_restore (D + 1) 1 6 [.ref 0, .ref 129] h (fun r h' => r = .inl (some (.int c)) ∧ WH h B c val h') := by
  refine JM_of gd_L_restore rfl (by decide +kernel) (Nat.le_of_ble_eq_true rfl) (oj_cats rfl) (by decide) ?_
  repeat (first | (refine J_step rfl rfl ?_) | (refine J_getf rfl rfl rfl (by assumption) rfl ?_))
  refine J_callV rfl rfl rfl rfl rfl e0 rfl rfl (Nat.ble_eq.mpr (Nat.le_refl _)) rfl hC (by omega) (by omega) (fun E h9 q => ?_) (fun v9 h9 q => ?_)
  · obtain ⟨q1, q2⟩ := q
    rcases hS with ⟨s, hc⟩ | ⟨s, hc⟩
    · rw [s] at q1; cases q1
    · rw [s] at q1; cases q1; subst hc
      refine Or.inr ⟨[], (0, 8, 11, 17), [], "java/lang/IllegalStateException", rfl, rfl, by decide, by decide +kernel, by decide +kernel, (fun z hz => by cases hz), .astore_n 2, 1, 12, _, 2, rfl, rfl, (Nat.le_of_ble_eq_true rfl), ?_⟩
      repeat (first | (refine J_step rfl rfl ?_) | (refine J_getf rfl rfl rfl (by assumption) rfl ?_))
      exact J_ret (v := some (.int _)) rfl (by decide) (by omega) (by omega) ⟨rfl, WH_thr q2 hf (by decide)⟩ rfl
  · obtain ⟨q1, q2⟩ := q
    have e9 := (q2.2 129 (by decide)).trans hf
    rcases hS with ⟨s, hc⟩ | ⟨s, hc⟩
    · rw [s] at q1; cases q1; subst hc
      iterate 1 (refine J_step rfl rfl ?_)
      refine J_last rfl e9 (vp_in_nI (n := 0) (by decide) (by decide)) ?_
      repeat (first | (refine J_step rfl rfl ?_) | (refine J_getf rfl rfl rfl (by assumption) rfl ?_))
      exact J_ret (v := some (.int 0)) rfl (by decide) (by omega) (by omega) ⟨rfl, WH_put q2⟩ rfl
    · rw [s] at q1; cases q1
