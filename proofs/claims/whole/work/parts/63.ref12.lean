/-- the reference's numbers v and rows R hold the state A -/
def RS (v : Nat → Int32) (R : Nat → Nat → Int32) (A : AS) : Prop := SI (R 0) A.1 ∧ (v 0 = nI A.2.2.1.length ∧ A.2.2.1.length ≤ 8 ∧ PS (R 3) A.2.2.1) ∧ (v 5 = bI A.2.1.isSome ∧ ∀ q, A.2.1 = some q → SI (R 2) q) ∧ (v 6 = nI A.2.2.2.1.length ∧ A.2.2.2.1.length ≤ 80 ∧ ∀ j x, A.2.2.2.1[j]? = some x → R 4 j = x) ∧ (v 7 = nI A.2.2.2.2.1.length ∧ A.2.2.2.2.1.length ≤ 60 ∧ ∀ j x, A.2.2.2.2.1[j]? = some x → R 5 j = x) ∧ v 2 = A.2.2.2.2.2.1 ∧ v 3 = A.2.2.2.2.2.2
/-- what a call of the reference leaves: the state A, the code c -/
def RP (h : AHp) (A : AS) (c : Int32) (h' : AHp) : Prop := ∃ (v : Nat → Int32) (R : Nat → Nat → Int32), MdP h v R h' ∧ RS v R A ∧ v 1 = c
theorem RS_1 {v : Nat → Int32} {R : Nat → Nat → Int32} {A : AS} {c : Int32} (H : RS v R A) : RS (fset v 1 c) R A := H
theorem RP_q {h h' : AHp} {v : Nat → Int32} {R : Nat → Nat → Int32} {A : AS} {c : Int32} (H : RS v R A) (K : MdP h (fset v 1 c) R h') : RP h A c h' := ⟨_, R, K, RS_1 H, fset_at _ _ _⟩
theorem rCd_ne {k : Nat} {f : Int32} (_hk : k < 6) (h : ¬ f = 0) : ¬ rCd k f = 0 := by
  unfold rCd
  split
  · rw [if_neg h]; split <;> decide
  · rw [if_neg h]; split <;> decide
  · rw [if_neg h]; split <;> decide
  · rw [if_neg h]; decide
  · exact h
set_option maxRecDepth 100000 in
set_option maxHeartbeats 2000000 in
theorem m_addPicker {h : AHp} {v : Nat → Int32} {R : Nat → Nat → Int32} {A : AS} {x y z : Int32} (H : MdAt h v R) (HS : RS v R A) : JM mi_X6_addPicker 8 0 0 [.ref 121, .int x, .int y, .int z] h (fun r h' => r = .inl (some (.int (if sFault A.1.2.1 A.1.2.2.1 0 x y z = 0 then rVal A.1 0 x y z else 0))) ∧ RP h (asChg A 0 x y z).2 (rCd 0 (sFault A.1.2.1 A.1.2.2.1 0 x y z)) h') := by
  have e0 := H.1
  obtain ⟨S, ⟨hv0, h8, hP⟩, w5, w6, w7, w2, w3⟩ := id HS
  refine JM_of gd_X6_addPicker rfl (by decide +kernel) (Nat.le_of_ble_eq_true rfl) (oj_cats rfl) (by decide) ?_
  repeat (first | (refine J_step rfl rfl ?_) | (refine J_getf rfl rfl rfl (by assumption) rfl ?_))
  refine J_callV rfl rfl rfl rfl rfl e0 rfl rfl rfl rfl (m_keeps (MdP.rf H)) (Nat.zero_le _) (Nat.zero_le _) (fun E h9 q => by cases q.1) (fun v9 h1 q => ?_)
  obtain ⟨q1, H1⟩ := q
  cases q1
  clear e0
  have e0 := H1.1.1
  repeat (first | (refine J_step rfl rfl ?_) | (refine J_getf rfl rfl rfl (by assumption) rfl ?_))
  refine J_callV rfl rfl rfl rfl rfl e0 rfl rfl rfl rfl (m_adds (x := x) (y := y) (z := z) H1 (by rw [aset_ne (by decide)]; exact S)) (Nat.zero_le _) (Nat.zero_le _) (fun E h9 q => by obtain ⟨_, q, _⟩ := q; cases q) (fun v9 h4 q => ?_)
  obtain ⟨f', q1, H4, S4⟩ := q
  cases q1
  rw [fset2] at H4
  clear e0
  have e0 := H4.1.1
  have S1 : SI ((aset (aset R 1 (cpy (R 0) 0 (R 1) 0 160)) 0 f') 1) A.1 := by
    rw [aset_ne (by decide), aset_at]
    exact SI_cong (fun i hi => by have := cpy_at (f := R 0) (p := 0) (g := R 1) (r := 0) (n := 160) hi; rw [Nat.zero_add] at this; exact this) S
  have P3 : PS ((aset (aset R 1 (cpy (R 0) 0 (R 1) 0 160)) 0 f') 3) A.2.2.1 := by
    rw [aset_ne (by decide), aset_ne (by decide)]
    exact hP
  by_cases hf : sFault A.1.2.1 A.1.2.2.1 0 x y z = 0
  · rw [hf] at H4
    rw [if_pos hf] at S4
    refine J_callV rfl rfl rfl rfl rfl e0 rfl rfl rfl rfl (m_ends H4 rfl (show fset v 1 0 0 = nI A.2.2.1.length from hv0) h8 P3 S1) (Nat.zero_le _) (Nat.zero_le _) (fun E h9 q => by cases q.1) (fun v9 h5 q => ?_)
    obtain ⟨q1, g', H5, P5⟩ := q
    cases q1
    have hA : (asChg A 0 x y z).2 = ((apD A.1 0 x y z).2, A.2.1, (A.1 :: A.2.2.1).take 8, A.2.2.2) := by unfold asChg; rw [if_pos hf]
    have XX : RP h (asChg A 0 x y z).2 (rCd 0 (sFault A.1.2.1 A.1.2.2.1 0 x y z)) h5 := by
      rw [hA, hf]
      exact ⟨_, _, H5, ⟨S4, ⟨rfl, by rw [List.length_take]; exact Nat.min_le_left _ _, P5⟩, w5, w6, w7, w2, w3⟩, rfl⟩
    exact J_iret rfl rfl rfl rfl ⟨rfl, XX⟩
  · have hn : ¬ rCd 0 (sFault A.1.2.1 A.1.2.2.1 0 x y z) = 0 := rCd_ne (by decide) hf
    rw [if_neg hf] at S4
    refine J_cV rfl rfl rfl rfl rfl e0 rfl rfl rfl rfl rfl rfl (m_endsT H4 (by rw [fset_at]; exact hn)) ?_
    have hA : (asChg A 0 x y z).2 = A := by unfold asChg; rw [if_neg hf]
    have XX : RP h (asChg A 0 x y z).2 (rCd 0 (sFault A.1.2.1 A.1.2.2.1 0 x y z)) h4 := by
      rw [hA]
      exact ⟨_, _, H4, ⟨S4, ⟨hv0, h8, P3⟩, w5, w6, w7, w2, w3⟩, fset_at _ _ _⟩
    rw [if_neg hf]
    exact J_iret rfl rfl rfl rfl ⟨rfl, XX⟩
set_option maxRecDepth 100000 in
set_option maxHeartbeats 2000000 in
theorem m_removePicker {h : AHp} {v : Nat → Int32} {R : Nat → Nat → Int32} {A : AS} {x : Int32} (H : MdAt h v R) (HS : RS v R A) (hcab : ∀ j, j < A.1.2.2.1.length → (rAt A.1.2.2.1 j).2.2.2.2.2.1 = -1 ∨ (rAt A.1.2.2.1 j).2.2.2.2.2.1 = 0 ∨ (rAt A.1.2.2.1 j).2.2.2.2.2.1 = 1) : JM mi_X6_removePicker 8 0 0 [.ref 121, .int x] h (fun r h' => r = .inl (some (.int (if sFault A.1.2.1 A.1.2.2.1 1 x 0 0 = 0 then rVal A.1 1 x 0 0 else 0))) ∧ RP h (asChg A 1 x 0 0).2 (rCd 1 (sFault A.1.2.1 A.1.2.2.1 1 x 0 0)) h') := by
  have e0 := H.1
  obtain ⟨S, ⟨hv0, h8, hP⟩, w5, w6, w7, w2, w3⟩ := id HS
  refine JM_of gd_X6_removePicker rfl (by decide +kernel) (Nat.le_of_ble_eq_true rfl) (oj_cats rfl) (by decide) ?_
  repeat (first | (refine J_step rfl rfl ?_) | (refine J_getf rfl rfl rfl (by assumption) rfl ?_))
  refine J_callV rfl rfl rfl rfl rfl e0 rfl rfl rfl rfl (m_keeps (MdP.rf H)) (Nat.zero_le _) (Nat.zero_le _) (fun E h9 q => by cases q.1) (fun v9 h1 q => ?_)
  obtain ⟨q1, H1⟩ := q
  cases q1
  clear e0
  have e0 := H1.1.1
  repeat (first | (refine J_step rfl rfl ?_) | (refine J_getf rfl rfl rfl (by assumption) rfl ?_))
  refine J_callV rfl rfl rfl rfl rfl e0 rfl rfl rfl rfl (m_removes (x := x) (y := 0) (z := 0) H1 (by rw [aset_ne (by decide)]; exact S) hcab) (Nat.zero_le _) (Nat.zero_le _) (fun E h9 q => by obtain ⟨_, q, _⟩ := q; cases q) (fun v9 h4 q => ?_)
  obtain ⟨f', q1, H4, S4⟩ := q
  cases q1
  rw [fset2] at H4
  clear e0
  have e0 := H4.1.1
  have S1 : SI ((aset (aset R 1 (cpy (R 0) 0 (R 1) 0 160)) 0 f') 1) A.1 := by
    rw [aset_ne (by decide), aset_at]
    exact SI_cong (fun i hi => by have := cpy_at (f := R 0) (p := 0) (g := R 1) (r := 0) (n := 160) hi; rw [Nat.zero_add] at this; exact this) S
  have P3 : PS ((aset (aset R 1 (cpy (R 0) 0 (R 1) 0 160)) 0 f') 3) A.2.2.1 := by
    rw [aset_ne (by decide), aset_ne (by decide)]
    exact hP
  by_cases hf : sFault A.1.2.1 A.1.2.2.1 1 x 0 0 = 0
  · rw [hf] at H4
    rw [if_pos hf] at S4
    refine J_callV rfl rfl rfl rfl rfl e0 rfl rfl rfl rfl (m_ends H4 rfl (show fset v 1 0 0 = nI A.2.2.1.length from hv0) h8 P3 S1) (Nat.zero_le _) (Nat.zero_le _) (fun E h9 q => by cases q.1) (fun v9 h5 q => ?_)
    obtain ⟨q1, g', H5, P5⟩ := q
    cases q1
    have hA : (asChg A 1 x 0 0).2 = ((apD A.1 1 x 0 0).2, A.2.1, (A.1 :: A.2.2.1).take 8, A.2.2.2) := by unfold asChg; rw [if_pos hf]
    have XX : RP h (asChg A 1 x 0 0).2 (rCd 1 (sFault A.1.2.1 A.1.2.2.1 1 x 0 0)) h5 := by
      rw [hA, hf]
      exact ⟨_, _, H5, ⟨S4, ⟨rfl, by rw [List.length_take]; exact Nat.min_le_left _ _, P5⟩, w5, w6, w7, w2, w3⟩, rfl⟩
    exact J_iret rfl rfl rfl rfl ⟨rfl, XX⟩
  · have hn : ¬ rCd 1 (sFault A.1.2.1 A.1.2.2.1 1 x 0 0) = 0 := rCd_ne (by decide) hf
    rw [if_neg hf] at S4
    refine J_cV rfl rfl rfl rfl rfl e0 rfl rfl rfl rfl rfl rfl (m_endsT H4 (by rw [fset_at]; exact hn)) ?_
    have hA : (asChg A 1 x 0 0).2 = A := by unfold asChg; rw [if_neg hf]
    have XX : RP h (asChg A 1 x 0 0).2 (rCd 1 (sFault A.1.2.1 A.1.2.2.1 1 x 0 0)) h4 := by
      rw [hA]
      exact ⟨_, _, H4, ⟨S4, ⟨hv0, h8, P3⟩, w5, w6, w7, w2, w3⟩, fset_at _ _ _⟩
    rw [if_neg hf]
    exact J_iret rfl rfl rfl rfl ⟨rfl, XX⟩
set_option maxRecDepth 100000 in
set_option maxHeartbeats 2000000 in
theorem m_setSlope {h : AHp} {v : Nat → Int32} {R : Nat → Nat → Int32} {A : AS} {x y : Int32} (H : MdAt h v R) (HS : RS v R A) : JM mi_X6_setSlope 8 0 0 [.ref 121, .int x, .int y] h (fun r h' => r = .inl (some (.int (if sFault A.1.2.1 A.1.2.2.1 2 x y 0 = 0 then rVal A.1 2 x y 0 else 0))) ∧ RP h (asChg A 2 x y 0).2 (rCd 2 (sFault A.1.2.1 A.1.2.2.1 2 x y 0)) h') := by
  have e0 := H.1
  obtain ⟨S, ⟨hv0, h8, hP⟩, w5, w6, w7, w2, w3⟩ := id HS
  refine JM_of gd_X6_setSlope rfl (by decide +kernel) (Nat.le_of_ble_eq_true rfl) (oj_cats rfl) (by decide) ?_
  repeat (first | (refine J_step rfl rfl ?_) | (refine J_getf rfl rfl rfl (by assumption) rfl ?_))
  refine J_callV rfl rfl rfl rfl rfl e0 rfl rfl rfl rfl (m_keeps (MdP.rf H)) (Nat.zero_le _) (Nat.zero_le _) (fun E h9 q => by cases q.1) (fun v9 h1 q => ?_)
  obtain ⟨q1, H1⟩ := q
  cases q1
  clear e0
  have e0 := H1.1.1
  repeat (first | (refine J_step rfl rfl ?_) | (refine J_getf rfl rfl rfl (by assumption) rfl ?_))
  refine J_callV rfl rfl rfl rfl rfl e0 rfl rfl rfl rfl (m_slopes (x := x) (y := y) (z := 0) H1 (by rw [aset_ne (by decide)]; exact S)) (Nat.zero_le _) (Nat.zero_le _) (fun E h9 q => by obtain ⟨_, q, _⟩ := q; cases q) (fun v9 h4 q => ?_)
  obtain ⟨f', q1, H4, S4⟩ := q
  cases q1
  rw [fset2] at H4
  clear e0
  have e0 := H4.1.1
  have S1 : SI ((aset (aset R 1 (cpy (R 0) 0 (R 1) 0 160)) 0 f') 1) A.1 := by
    rw [aset_ne (by decide), aset_at]
    exact SI_cong (fun i hi => by have := cpy_at (f := R 0) (p := 0) (g := R 1) (r := 0) (n := 160) hi; rw [Nat.zero_add] at this; exact this) S
  have P3 : PS ((aset (aset R 1 (cpy (R 0) 0 (R 1) 0 160)) 0 f') 3) A.2.2.1 := by
    rw [aset_ne (by decide), aset_ne (by decide)]
    exact hP
  by_cases hf : sFault A.1.2.1 A.1.2.2.1 2 x y 0 = 0
  · rw [hf] at H4
    rw [if_pos hf] at S4
    refine J_callV rfl rfl rfl rfl rfl e0 rfl rfl rfl rfl (m_ends H4 rfl (show fset v 1 0 0 = nI A.2.2.1.length from hv0) h8 P3 S1) (Nat.zero_le _) (Nat.zero_le _) (fun E h9 q => by cases q.1) (fun v9 h5 q => ?_)
    obtain ⟨q1, g', H5, P5⟩ := q
    cases q1
    have hA : (asChg A 2 x y 0).2 = ((apD A.1 2 x y 0).2, A.2.1, (A.1 :: A.2.2.1).take 8, A.2.2.2) := by unfold asChg; rw [if_pos hf]
    have XX : RP h (asChg A 2 x y 0).2 (rCd 2 (sFault A.1.2.1 A.1.2.2.1 2 x y 0)) h5 := by
      rw [hA, hf]
      exact ⟨_, _, H5, ⟨S4, ⟨rfl, by rw [List.length_take]; exact Nat.min_le_left _ _, P5⟩, w5, w6, w7, w2, w3⟩, rfl⟩
    exact J_iret rfl rfl rfl rfl ⟨rfl, XX⟩
  · have hn : ¬ rCd 2 (sFault A.1.2.1 A.1.2.2.1 2 x y 0) = 0 := rCd_ne (by decide) hf
    rw [if_neg hf] at S4
    refine J_cV rfl rfl rfl rfl rfl e0 rfl rfl rfl rfl rfl rfl (m_endsT H4 (by rw [fset_at]; exact hn)) ?_
    have hA : (asChg A 2 x y 0).2 = A := by unfold asChg; rw [if_neg hf]
    have XX : RP h (asChg A 2 x y 0).2 (rCd 2 (sFault A.1.2.1 A.1.2.2.1 2 x y 0)) h4 := by
      rw [hA]
      exact ⟨_, _, H4, ⟨S4, ⟨hv0, h8, P3⟩, w5, w6, w7, w2, w3⟩, fset_at _ _ _⟩
    rw [if_neg hf]
    exact J_iret rfl rfl rfl rfl ⟨rfl, XX⟩
set_option maxRecDepth 100000 in
set_option maxHeartbeats 2000000 in
theorem m_turn {h : AHp} {v : Nat → Int32} {R : Nat → Nat → Int32} {A : AS} (H : MdAt h v R) (HS : RS v R A) (hu : gU A.1.2.1) : JM mi_X6_turn 8 0 0 [.ref 121] h (fun r h' => r = .inl (some (.int (bI (if sFault A.1.2.1 A.1.2.2.1 3 0 0 0 = 0 then !uB A.1.2.1 else false)))) ∧ RP h (asChg A 3 0 0 0).2 (rCd 3 (sFault A.1.2.1 A.1.2.2.1 3 0 0 0)) h') := by
  have e0 := H.1
  obtain ⟨S, ⟨hv0, h8, hP⟩, w5, w6, w7, w2, w3⟩ := id HS
  refine JM_of gd_X6_turn rfl (by decide +kernel) (Nat.le_of_ble_eq_true rfl) (oj_cats rfl) (by decide) ?_
  repeat (first | (refine J_step rfl rfl ?_) | (refine J_getf rfl rfl rfl (by assumption) rfl ?_))
  refine J_callV rfl rfl rfl rfl rfl e0 rfl rfl rfl rfl (m_keeps (MdP.rf H)) (Nat.zero_le _) (Nat.zero_le _) (fun E h9 q => by cases q.1) (fun v9 h1 q => ?_)
  obtain ⟨q1, H1⟩ := q
  cases q1
  clear e0
  have e0 := H1.1.1
  repeat (first | (refine J_step rfl rfl ?_) | (refine J_getf rfl rfl rfl (by assumption) rfl ?_))
  refine J_callV rfl rfl rfl rfl rfl e0 rfl rfl rfl rfl (m_turns (x := 0) (y := 0) (z := 0) H1 (by rw [aset_ne (by decide)]; exact S) hu) (Nat.zero_le _) (Nat.zero_le _) (fun E h9 q => by obtain ⟨_, q, _⟩ := q; cases q) (fun v9 h4 q => ?_)
  obtain ⟨f', q1, H4, S4⟩ := q
  cases q1
  rw [fset2] at H4
  clear e0
  have e0 := H4.1.1
  have S1 : SI ((aset (aset R 1 (cpy (R 0) 0 (R 1) 0 160)) 0 f') 1) A.1 := by
    rw [aset_ne (by decide), aset_at]
    exact SI_cong (fun i hi => by have := cpy_at (f := R 0) (p := 0) (g := R 1) (r := 0) (n := 160) hi; rw [Nat.zero_add] at this; exact this) S
  have P3 : PS ((aset (aset R 1 (cpy (R 0) 0 (R 1) 0 160)) 0 f') 3) A.2.2.1 := by
    rw [aset_ne (by decide), aset_ne (by decide)]
    exact hP
  by_cases hf : sFault A.1.2.1 A.1.2.2.1 3 0 0 0 = 0
  · rw [hf] at H4
    rw [if_pos hf] at S4
    refine J_callV rfl rfl rfl rfl rfl e0 rfl rfl rfl rfl (m_ends H4 rfl (show fset v 1 0 0 = nI A.2.2.1.length from hv0) h8 P3 S1) (Nat.zero_le _) (Nat.zero_le _) (fun E h9 q => by cases q.1) (fun v9 h5 q => ?_)
    obtain ⟨q1, g', H5, P5⟩ := q
    cases q1
    have hA : (asChg A 3 0 0 0).2 = ((apD A.1 3 0 0 0).2, A.2.1, (A.1 :: A.2.2.1).take 8, A.2.2.2) := by unfold asChg; rw [if_pos hf]
    have XX : RP h (asChg A 3 0 0 0).2 (rCd 3 (sFault A.1.2.1 A.1.2.2.1 3 0 0 0)) h5 := by
      rw [hA, hf]
      exact ⟨_, _, H5, ⟨S4, ⟨rfl, by rw [List.length_take]; exact Nat.min_le_left _ _, P5⟩, w5, w6, w7, w2, w3⟩, rfl⟩
    rw [if_pos hf, if_pos hf]
    show J mi_X6_turn 8 0 0 _ 0 0 12 _ [.int (bI (!uB A.1.2.1))] h5
    repeat (first | (refine J_step rfl rfl ?_) | (refine J_getf rfl rfl rfl (by assumption) rfl ?_))
    refine J_ic rfl (fun hq => ?_) (fun hq => ?_)
    · have hz : (!uB A.1.2.1) = false := by
        cases hz : (!uB A.1.2.1) with
        | false => rfl
        | true => rw [hz] at hq; exact absurd rfl hq
      repeat (first | (refine J_step rfl rfl ?_) | (refine J_getf rfl rfl rfl (by assumption) rfl ?_))
      exact J_zret rfl rfl rfl rfl false rfl ⟨by rw [hz], XX⟩
    · have hz : (!uB A.1.2.1) = true := by
        cases hz : (!uB A.1.2.1) with
        | true => rfl
        | false => rw [hz] at hq; exact absurd (show ¬ bI false = 1 by decide) hq
      repeat (first | (refine J_step rfl rfl ?_) | (refine J_getf rfl rfl rfl (by assumption) rfl ?_))
      exact J_zret rfl rfl rfl rfl true rfl ⟨by rw [hz], XX⟩
  · have hn : ¬ rCd 3 (sFault A.1.2.1 A.1.2.2.1 3 0 0 0) = 0 := rCd_ne (by decide) hf
    rw [if_neg hf] at S4
    refine J_cV rfl rfl rfl rfl rfl e0 rfl rfl rfl rfl rfl rfl (m_endsT H4 (by rw [fset_at]; exact hn)) ?_
    have hA : (asChg A 3 0 0 0).2 = A := by unfold asChg; rw [if_neg hf]
    have XX : RP h (asChg A 3 0 0 0).2 (rCd 3 (sFault A.1.2.1 A.1.2.2.1 3 0 0 0)) h4 := by
      rw [hA]
      exact ⟨_, _, H4, ⟨S4, ⟨hv0, h8, P3⟩, w5, w6, w7, w2, w3⟩, fset_at _ _ _⟩
    rw [if_neg hf]
    repeat (first | (refine J_step rfl rfl ?_) | (refine J_getf rfl rfl rfl (by assumption) rfl ?_))
    refine J_ic rfl (fun hq => ?_) (fun hq => absurd (show ¬ (0 : Int32) = 1 by decide) hq)
    repeat (first | (refine J_step rfl rfl ?_) | (refine J_getf rfl rfl rfl (by assumption) rfl ?_))
    exact J_zret rfl rfl rfl rfl false rfl ⟨rfl, XX⟩
set_option maxRecDepth 100000 in
set_option maxHeartbeats 2000000 in
theorem m_setCapacity {h : AHp} {v : Nat → Int32} {R : Nat → Nat → Int32} {A : AS} {x : Int32} (H : MdAt h v R) (HS : RS v R A) : JM mi_X6_setCapacity 8 0 0 [.ref 121, .int x] h (fun r h' => r = .inl (some (.int (if sFault A.1.2.1 A.1.2.2.1 4 x 0 0 = 0 then rVal A.1 4 x 0 0 else 0))) ∧ RP h (asChg A 4 x 0 0).2 (rCd 4 (sFault A.1.2.1 A.1.2.2.1 4 x 0 0)) h') := by
  have e0 := H.1
  obtain ⟨S, ⟨hv0, h8, hP⟩, w5, w6, w7, w2, w3⟩ := id HS
  refine JM_of gd_X6_setCapacity rfl (by decide +kernel) (Nat.le_of_ble_eq_true rfl) (oj_cats rfl) (by decide) ?_
  repeat (first | (refine J_step rfl rfl ?_) | (refine J_getf rfl rfl rfl (by assumption) rfl ?_))
  refine J_callV rfl rfl rfl rfl rfl e0 rfl rfl rfl rfl (m_keeps (MdP.rf H)) (Nat.zero_le _) (Nat.zero_le _) (fun E h9 q => by cases q.1) (fun v9 h1 q => ?_)
  obtain ⟨q1, H1⟩ := q
  cases q1
  clear e0
  have e0 := H1.1.1
  repeat (first | (refine J_step rfl rfl ?_) | (refine J_getf rfl rfl rfl (by assumption) rfl ?_))
  refine J_callV rfl rfl rfl rfl rfl e0 rfl rfl rfl rfl (m_holds (x := x) (y := 0) (z := 0) H1 (by rw [aset_ne (by decide)]; exact S)) (Nat.zero_le _) (Nat.zero_le _) (fun E h9 q => by obtain ⟨_, q, _⟩ := q; cases q) (fun v9 h4 q => ?_)
  obtain ⟨f', q1, H4, S4⟩ := q
  cases q1
  rw [fset2] at H4
  clear e0
  have e0 := H4.1.1
  have S1 : SI ((aset (aset R 1 (cpy (R 0) 0 (R 1) 0 160)) 0 f') 1) A.1 := by
    rw [aset_ne (by decide), aset_at]
    exact SI_cong (fun i hi => by have := cpy_at (f := R 0) (p := 0) (g := R 1) (r := 0) (n := 160) hi; rw [Nat.zero_add] at this; exact this) S
  have P3 : PS ((aset (aset R 1 (cpy (R 0) 0 (R 1) 0 160)) 0 f') 3) A.2.2.1 := by
    rw [aset_ne (by decide), aset_ne (by decide)]
    exact hP
  by_cases hf : sFault A.1.2.1 A.1.2.2.1 4 x 0 0 = 0
  · rw [hf] at H4
    rw [if_pos hf] at S4
    refine J_callV rfl rfl rfl rfl rfl e0 rfl rfl rfl rfl (m_ends H4 rfl (show fset v 1 0 0 = nI A.2.2.1.length from hv0) h8 P3 S1) (Nat.zero_le _) (Nat.zero_le _) (fun E h9 q => by cases q.1) (fun v9 h5 q => ?_)
    obtain ⟨q1, g', H5, P5⟩ := q
    cases q1
    have hA : (asChg A 4 x 0 0).2 = ((apD A.1 4 x 0 0).2, A.2.1, (A.1 :: A.2.2.1).take 8, A.2.2.2) := by unfold asChg; rw [if_pos hf]
    have XX : RP h (asChg A 4 x 0 0).2 (rCd 4 (sFault A.1.2.1 A.1.2.2.1 4 x 0 0)) h5 := by
      rw [hA, hf]
      exact ⟨_, _, H5, ⟨S4, ⟨rfl, by rw [List.length_take]; exact Nat.min_le_left _ _, P5⟩, w5, w6, w7, w2, w3⟩, rfl⟩
    exact J_iret rfl rfl rfl rfl ⟨rfl, XX⟩
  · have hn : ¬ rCd 4 (sFault A.1.2.1 A.1.2.2.1 4 x 0 0) = 0 := rCd_ne (by decide) hf
    rw [if_neg hf] at S4
    refine J_cV rfl rfl rfl rfl rfl e0 rfl rfl rfl rfl rfl rfl (m_endsT H4 (by rw [fset_at]; exact hn)) ?_
    have hA : (asChg A 4 x 0 0).2 = A := by unfold asChg; rw [if_neg hf]
    have XX : RP h (asChg A 4 x 0 0).2 (rCd 4 (sFault A.1.2.1 A.1.2.2.1 4 x 0 0)) h4 := by
      rw [hA]
      exact ⟨_, _, H4, ⟨S4, ⟨hv0, h8, P3⟩, w5, w6, w7, w2, w3⟩, fset_at _ _ _⟩
    rw [if_neg hf]
    exact J_iret rfl rfl rfl rfl ⟨rfl, XX⟩
set_option maxRecDepth 100000 in
set_option maxHeartbeats 2000000 in
theorem m_pass {h : AHp} {v : Nat → Int32} {R : Nat → Nat → Int32} {A : AS} {x : Int32} (H : MdAt h v R) (HS : RS v R A) {T κ : Nat} (hI : LI A.1 T κ) (hT : T + 240 ≤ 123000) : JM mi_X6_pass 8 0 0 [.ref 121, .int x] h (fun r h' => r = .inl (some (.int (if sFault A.1.2.1 A.1.2.2.1 5 x 0 0 = 0 then rVal A.1 5 x 0 0 else 0))) ∧ RP h (asChg A 5 x 0 0).2 (rCd 5 (sFault A.1.2.1 A.1.2.2.1 5 x 0 0)) h') := by
  have e0 := H.1
  obtain ⟨S, ⟨hv0, h8, hP⟩, w5, w6, w7, w2, w3⟩ := id HS
  refine JM_of gd_X6_pass rfl (by decide +kernel) (Nat.le_of_ble_eq_true rfl) (oj_cats rfl) (by decide) ?_
  repeat (first | (refine J_step rfl rfl ?_) | (refine J_getf rfl rfl rfl (by assumption) rfl ?_))
  refine J_callV rfl rfl rfl rfl rfl e0 rfl rfl rfl rfl (m_keeps (MdP.rf H)) (Nat.zero_le _) (Nat.zero_le _) (fun E h9 q => by cases q.1) (fun v9 h1 q => ?_)
  obtain ⟨q1, H1⟩ := q
  cases q1
  clear e0
  have e0 := H1.1.1
  repeat (first | (refine J_step rfl rfl ?_) | (refine J_getf rfl rfl rfl (by assumption) rfl ?_))
  refine J_callV rfl rfl rfl rfl rfl e0 rfl rfl rfl rfl (m_waits (x := x) (y := 0) (z := 0) H1 (by rw [aset_ne (by decide)]; exact S) hI hT) (Nat.zero_le _) (Nat.zero_le _) (fun E h9 q => by obtain ⟨_, q, _⟩ := q; cases q) (fun v9 h4 q => ?_)
  obtain ⟨f', q1, H4, S4⟩ := q
  cases q1
  rw [fset2] at H4
  clear e0
  have e0 := H4.1.1
  have S1 : SI ((aset (aset R 1 (cpy (R 0) 0 (R 1) 0 160)) 0 f') 1) A.1 := by
    rw [aset_ne (by decide), aset_at]
    exact SI_cong (fun i hi => by have := cpy_at (f := R 0) (p := 0) (g := R 1) (r := 0) (n := 160) hi; rw [Nat.zero_add] at this; exact this) S
  have P3 : PS ((aset (aset R 1 (cpy (R 0) 0 (R 1) 0 160)) 0 f') 3) A.2.2.1 := by
    rw [aset_ne (by decide), aset_ne (by decide)]
    exact hP
  by_cases hf : sFault A.1.2.1 A.1.2.2.1 5 x 0 0 = 0
  · rw [hf] at H4
    rw [if_pos hf] at S4
    refine J_callV rfl rfl rfl rfl rfl e0 rfl rfl rfl rfl (m_ends H4 rfl (show fset v 1 0 0 = nI A.2.2.1.length from hv0) h8 P3 S1) (Nat.zero_le _) (Nat.zero_le _) (fun E h9 q => by cases q.1) (fun v9 h5 q => ?_)
    obtain ⟨q1, g', H5, P5⟩ := q
    cases q1
    have hA : (asChg A 5 x 0 0).2 = ((apD A.1 5 x 0 0).2, A.2.1, (A.1 :: A.2.2.1).take 8, A.2.2.2) := by unfold asChg; rw [if_pos hf]
    have XX : RP h (asChg A 5 x 0 0).2 (rCd 5 (sFault A.1.2.1 A.1.2.2.1 5 x 0 0)) h5 := by
      rw [hA, hf]
      exact ⟨_, _, H5, ⟨S4, ⟨rfl, by rw [List.length_take]; exact Nat.min_le_left _ _, P5⟩, w5, w6, w7, w2, w3⟩, rfl⟩
    exact J_iret rfl rfl rfl rfl ⟨rfl, XX⟩
  · have hn : ¬ rCd 5 (sFault A.1.2.1 A.1.2.2.1 5 x 0 0) = 0 := rCd_ne (by decide) hf
    rw [if_neg hf] at S4
    refine J_cV rfl rfl rfl rfl rfl e0 rfl rfl rfl rfl rfl rfl (m_endsT H4 (by rw [fset_at]; exact hn)) ?_
    have hA : (asChg A 5 x 0 0).2 = A := by unfold asChg; rw [if_neg hf]
    have XX : RP h (asChg A 5 x 0 0).2 (rCd 5 (sFault A.1.2.1 A.1.2.2.1 5 x 0 0)) h4 := by
      rw [hA]
      exact ⟨_, _, H4, ⟨S4, ⟨hv0, h8, P3⟩, w5, w6, w7, w2, w3⟩, fset_at _ _ _⟩
    rw [if_neg hf]
    exact J_iret rfl rfl rfl rfl ⟨rfl, XX⟩
set_option maxRecDepth 100000 in
set_option maxHeartbeats 2000000 in
theorem m_undo {h : AHp} {v : Nat → Int32} {R : Nat → Nat → Int32} {A : AS} (H : MdAt h v R) (HS : RS v R A) : JM mi_X6_undo 2 0 0 [.ref 121] h (fun r h' => r = .inl (some (.int (match A.2.2.1 with | [] => 0 | _ :: t => nI t.length))) ∧ RP h (asUndo A).2 (match A.2.2.1 with | [] => 1 | _ :: _ => 0) h') := by
  have e0 := H.1
  obtain ⟨S, ⟨hv0, h8, hP⟩, w5, w6, w7, w2, w3⟩ := id HS
  refine JM_of gd_X6_undo rfl (by decide +kernel) (Nat.le_of_ble_eq_true rfl) (oj_cats rfl) (by decide) ?_
  repeat (first | (refine J_step rfl rfl ?_) | (refine J_getf rfl rfl rfl (by assumption) rfl ?_))
  rw [hv0]
  cases hs : A.2.2.1 with
  | nil =>
    have hA : (asUndo A).2 = A := by unfold asUndo; rw [hs]
    refine J_if (y := 0) rfl (fun hq => absurd rfl hq) (fun _ => ?_)
    repeat (first | (refine J_step rfl rfl ?_) | (refine J_getf rfl rfl rfl (by assumption) rfl ?_))
    refine J_callV rfl rfl rfl rfl rfl e0 rfl rfl rfl rfl (m_thrT (d := 0) (MdP.rf H)) (Nat.zero_le _) (Nat.zero_le _) (fun E h9 q => by cases q.1) (fun v9 h1 q => ?_)
    obtain ⟨q1, H1⟩ := q
    cases q1
    clear e0
    have e0 := H1.1.1
    refine J_if (y := 0) rfl (fun hq => absurd hq (show ¬ (1 : Int32) = 0 by decide)) (fun _ => ?_)
    repeat (first | (refine J_step rfl rfl ?_) | (refine J_getf rfl rfl rfl (by assumption) rfl ?_))
    exact J_iret rfl rfl rfl rfl ⟨rfl, by rw [hA]; exact RP_q HS H1⟩
  | cons q t =>
    rw [hs] at hv0 h8 hP
    have h8 : t.length + 1 ≤ 8 := h8
    have hA : (asUndo A).2 = (q, A.2.1, t, A.2.2.2) := by unfold asUndo; rw [hs]
    have hv0 : v 0 = nI (t.length + 1) := hv0
    have hv1 : fset v 1 0 0 = nI (t.length + 1) := hv0
    refine J_if (y := 0) rfl (fun _ => ?_) (fun hq => absurd (nI_ne0 (n := (q :: t).length) (Nat.succ_pos _) (by show t.length + 1 < _; omega)) hq)
    repeat (first | (refine J_step rfl rfl ?_) | (refine J_getf rfl rfl rfl (by assumption) rfl ?_))
    refine J_callV rfl rfl rfl rfl rfl e0 rfl rfl rfl rfl (m_thrF (d := 0) (MdP.rf H)) (Nat.zero_le _) (Nat.zero_le _) (fun E h9 q => by cases q.1) (fun v9 h1 q => ?_)
    obtain ⟨q1, H1⟩ := q
    cases q1
    clear e0
    have e0 := H1.1.1
    refine J_if (y := 0) rfl (fun _ => ?_) (fun hq => absurd rfl hq)
    repeat (first | (refine J_step rfl rfl ?_) | (refine J_getf rfl rfl rfl (by assumption) rfl ?_))
    rw [hv1, nI_pred]
    refine J_putf rfl rfl rfl e0 rfl rfl (fun _ => rfl) rfl rfl ?_
    have H2 := H1.trans (H1.1.fld (v' := fset (fset v 1 0) 0 (nI t.length)))
    refine J_heap (h2 := oj_up h1 121 (rO (fset (fset v 1 0) 0 (nI t.length)))) rfl ?_
    generalize oj_up h1 121 (rO (fset (fset v 1 0) 0 (nI t.length))) = h2 at H2 ⊢
    clear e0
    have e0 := H2.1.1
    have hv2 : fset (fset v 1 0) 0 (nI t.length) 0 = nI t.length := rfl
    repeat (first | (refine J_step rfl rfl ?_) | (refine J_getf rfl rfl rfl (by assumption) rfl ?_))
    rw [hv2, i160]
    refine J_cS rfl rfl rfl rfl rfl rfl rfl rfl rfl rfl rfl (m_copies (d := 0) (p := 160 * t.length) (r := 0) H2.1.2.2.2.2.1 H2.1.2.1 (by omega) (by decide) (by decide) (by decide) (Or.inl (by decide))) ?_
    have H3 := H2.trans (H2.1.arr (i := 0) (by decide) (f := cpy (R 3) (160 * t.length) (R 0) 0 160))
    refine J_heap (h2 := oj_up h2 (122 + 0) (.inl (0, aN 0, .inl (cpy (R 3) (160 * t.length) (R 0) 0 160)))) rfl ?_
    generalize oj_up h2 (122 + 0) (.inl (0, aN 0, .inl (cpy (R 3) (160 * t.length) (R 0) 0 160))) = h3 at H3 ⊢
    clear e0
    have e0 := H3.1.1
    repeat (first | (refine J_step rfl rfl ?_) | (refine J_getf rfl rfl rfl (by assumption) rfl ?_))
    rw [hv2]
    refine J_iret rfl rfl rfl rfl ⟨rfl, ?_⟩
    rw [hA]
    refine ⟨_, _, H3, ⟨?_, ⟨rfl, by show t.length ≤ 8; omega, fun i q' hi => ?_⟩, w5, w6, w7, w2, w3⟩, rfl⟩
    · rw [aset_at]
      have := hP 0 q rfl
      rw [List.length_cons, show t.length + 1 - 1 - 0 = t.length by omega] at this
      exact SI_cong (fun i hi => by have := cpy_at (f := R 3) (p := 160 * t.length) (g := R 0) (r := 0) (n := 160) hi; rw [Nat.zero_add] at this; exact this) this
    · rw [aset_ne (by decide)]
      have := hP (i + 1) q' (by rw [List.getElem?_cons_succ]; exact hi)
      rw [List.length_cons, show t.length + 1 - 1 - (i + 1) = t.length - 1 - i by omega] at this
      exact this
set_option maxRecDepth 100000 in
set_option maxHeartbeats 2000000 in
theorem m_save {h : AHp} {v : Nat → Int32} {R : Nat → Nat → Int32} {A : AS} (H : MdAt h v R) (HS : RS v R A) : JM mi_X6_save 2 0 0 [.ref 121] h (fun r h' => r = .inl (some (.int (nI A.1.2.2.1.length))) ∧ RP h (asSave A).2 0 h') := by
  have e0 := H.1
  obtain ⟨S, ⟨hv0, h8, hP⟩, w5, w6, w7, w2, w3⟩ := id HS
  refine JM_of gd_X6_save rfl (by decide +kernel) (Nat.le_of_ble_eq_true rfl) (oj_cats rfl) (by decide) ?_
  repeat (first | (refine J_step rfl rfl ?_) | (refine J_getf rfl rfl rfl (by assumption) rfl ?_))
  refine J_putf rfl rfl rfl e0 rfl rfl (fun _ => rfl) rfl rfl ?_
  have H1 := H.fld (v' := fset v 1 0)
  refine J_heap (h2 := oj_up h 121 (rO (fset v 1 0))) rfl ?_
  generalize oj_up h 121 (rO (fset v 1 0)) = h1 at H1 ⊢
  clear e0
  have e0 := H1.1.1
  repeat (first | (refine J_step rfl rfl ?_) | (refine J_getf rfl rfl rfl (by assumption) rfl ?_))
  refine J_cS rfl rfl rfl rfl rfl rfl rfl rfl rfl rfl rfl (m_copies (d := 0) (p := 0) (r := 0) H1.1.2.1 H1.1.2.2.2.1 (by decide) (by decide) (by decide) (by decide) (Or.inl (by decide))) ?_
  have H3 := H1.trans (H1.1.arr (i := 2) (by decide) (f := cpy (R 0) 0 (R 2) 0 160))
  refine J_heap (h2 := oj_up h1 (122 + 2) (.inl (0, aN 2, .inl (cpy (R 0) 0 (R 2) 0 160)))) rfl ?_
  generalize oj_up h1 (122 + 2) (.inl (0, aN 2, .inl (cpy (R 0) 0 (R 2) 0 160))) = h3 at H3 ⊢
  clear e0
  have e0 := H3.1.1
  repeat (first | (refine J_step rfl rfl ?_) | (refine J_getf rfl rfl rfl (by assumption) rfl ?_))
  refine J_putf rfl rfl rfl e0 rfl rfl (fun _ => rfl) rfl rfl ?_
  have H4 := H3.trans (H3.1.fld (v' := fset (fset v 1 0) 5 1))
  refine J_heap (h2 := oj_up h3 121 (rO (fset (fset v 1 0) 5 1))) rfl ?_
  generalize oj_up h3 121 (rO (fset (fset v 1 0) 5 1)) = h4 at H4 ⊢
  clear e0
  have e0 := H4.1.1
  have e1 := H4.1.2.1
  rw [aset_ne (by decide)] at e1
  repeat (first | (refine J_step rfl rfl ?_) | (refine J_getf rfl rfl rfl (by assumption) rfl ?_))
  refine J_rs 13 rfl e1 rfl (by decide) (by decide) S.2.1 ?_
  refine J_iret rfl rfl rfl rfl ⟨rfl, _, _, H4, ⟨?_, ⟨hv0, h8, ?_⟩, ⟨rfl, fun q hq => ?_⟩, w6, w7, w2, w3⟩, rfl⟩
  · rw [aset_ne (by decide)]
    exact S
  · rw [aset_ne (by decide)]
    exact hP
  · have hq : A.1 = q := Option.some.inj hq
    subst hq
    rw [aset_at]
    exact SI_cong (fun i hi => by have := cpy_at (f := R 0) (p := 0) (g := R 2) (r := 0) (n := 160) hi; rw [Nat.zero_add] at this; exact this) S
set_option maxRecDepth 100000 in
set_option maxHeartbeats 2000000 in
theorem m_restore {h : AHp} {v : Nat → Int32} {R : Nat → Nat → Int32} {A : AS} (H : MdAt h v R) (HS : RS v R A) : JM mi_X6_restore 2 0 0 [.ref 121] h (fun r h' => r = .inl (some (.int (match A.2.1 with | none => 0 | some q => nI q.2.2.1.length))) ∧ RP h (asRest A).2 (match A.2.1 with | none => 1 | some _ => 0) h') := by
  have e0 := H.1
  obtain ⟨S, ⟨hv0, h8, hP⟩, ⟨w5, w5s⟩, w6, w7, w2, w3⟩ := id HS
  refine JM_of gd_X6_restore rfl (by decide +kernel) (Nat.le_of_ble_eq_true rfl) (oj_cats rfl) (by decide) ?_
  repeat (first | (refine J_step rfl rfl ?_) | (refine J_getf rfl rfl rfl (by assumption) rfl ?_))
  rw [w5]
  cases hs : A.2.1 with
  | none =>
    have hA : (asRest A).2 = A := by unfold asRest; rw [hs]
    refine J_if (y := 0) rfl (fun hq => absurd rfl hq) (fun _ => ?_)
    repeat (first | (refine J_step rfl rfl ?_) | (refine J_getf rfl rfl rfl (by assumption) rfl ?_))
    refine J_callV rfl rfl rfl rfl rfl e0 rfl rfl rfl rfl (m_thrT (d := 0) (MdP.rf H)) (Nat.zero_le _) (Nat.zero_le _) (fun E h9 q => by cases q.1) (fun v9 h1 q => ?_)
    obtain ⟨q1, H1⟩ := q
    cases q1
    clear e0
    have e0 := H1.1.1
    refine J_if (y := 0) rfl (fun hq => absurd hq (show ¬ (1 : Int32) = 0 by decide)) (fun _ => ?_)
    repeat (first | (refine J_step rfl rfl ?_) | (refine J_getf rfl rfl rfl (by assumption) rfl ?_))
    exact J_iret rfl rfl rfl rfl ⟨rfl, by rw [hA]; exact RP_q HS H1⟩
  | some q =>
    have hA : (asRest A).2 = (q, A.2.1, [], A.2.2.2) := by unfold asRest; rw [hs]
    have Sq := w5s q hs
    refine J_if (y := 0) rfl (fun _ => ?_) (fun hq => absurd (show ¬ bI true = 0 by decide) hq)
    repeat (first | (refine J_step rfl rfl ?_) | (refine J_getf rfl rfl rfl (by assumption) rfl ?_))
    refine J_callV rfl rfl rfl rfl rfl e0 rfl rfl rfl rfl (m_thrF (d := 0) (MdP.rf H)) (Nat.zero_le _) (Nat.zero_le _) (fun E h9 q => by cases q.1) (fun v9 h1 q => ?_)
    obtain ⟨q1, H1⟩ := q
    cases q1
    clear e0
    have e0 := H1.1.1
    refine J_if (y := 0) rfl (fun _ => ?_) (fun hq => absurd rfl hq)
    repeat (first | (refine J_step rfl rfl ?_) | (refine J_getf rfl rfl rfl (by assumption) rfl ?_))
    refine J_cS rfl rfl rfl rfl rfl rfl rfl rfl rfl rfl rfl (m_copies (d := 0) (p := 0) (r := 0) H1.1.2.2.2.1 H1.1.2.1 (by decide) (by decide) (by decide) (by decide) (Or.inl (by decide))) ?_
    have H3 := H1.trans (H1.1.arr (i := 0) (by decide) (f := cpy (R 2) 0 (R 0) 0 160))
    refine J_heap (h2 := oj_up h1 (122 + 0) (.inl (0, aN 0, .inl (cpy (R 2) 0 (R 0) 0 160)))) rfl ?_
    generalize oj_up h1 (122 + 0) (.inl (0, aN 0, .inl (cpy (R 2) 0 (R 0) 0 160))) = h3 at H3 ⊢
    clear e0
    have e0 := H3.1.1
    have S3 : SI (cpy (R 2) 0 (R 0) 0 160) q := SI_cong (fun i hi => by have := cpy_at (f := R 2) (p := 0) (g := R 0) (r := 0) (n := 160) hi; rw [Nat.zero_add] at this; exact this) Sq
    repeat (first | (refine J_step rfl rfl ?_) | (refine J_getf rfl rfl rfl (by assumption) rfl ?_))
    refine J_putf rfl rfl rfl e0 rfl rfl (fun _ => rfl) rfl rfl ?_
    have H4 := H3.trans (H3.1.fld (v' := fset (fset v 1 0) 0 0))
    refine J_heap (h2 := oj_up h3 121 (rO (fset (fset v 1 0) 0 0))) rfl ?_
    generalize oj_up h3 121 (rO (fset (fset v 1 0) 0 0)) = h4 at H4 ⊢
    clear e0
    have e0 := H4.1.1
    have e1 := H4.1.2.1
    rw [aset_at] at e1
    repeat (first | (refine J_step rfl rfl ?_) | (refine J_getf rfl rfl rfl (by assumption) rfl ?_))
    refine J_rs 13 rfl e1 rfl (by decide) (by decide) S3.2.1 ?_
    refine J_iret rfl rfl rfl rfl ⟨rfl, ?_⟩
    rw [hA]
    refine ⟨_, _, H4, ⟨?_, ⟨rfl, Nat.zero_le _, fun i q' hi => by cases hi⟩, ⟨w5, fun q' hq' => ?_⟩, w6, w7, w2, w3⟩, rfl⟩
    · rw [aset_at]
      exact S3
    · rw [aset_ne (by decide)]
      exact w5s q' hq'
