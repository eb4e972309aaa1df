theorem i32_diff {x y : Int32} (hx : 0 ≤ x ∧ x ≤ 1000) (hy : 0 ≤ y ∧ y ≤ 1000) : (0 < x - y ↔ y < x) ∧ (x - y = 0 ↔ x = y) := by
  have hs : (x - y).toInt = x.toInt - y.toInt := by
    have a1 := Int32.le_iff_toInt_le.mp hx.1
    have a2 := Int32.le_iff_toInt_le.mp hx.2
    have a3 := Int32.le_iff_toInt_le.mp hy.1
    have a4 := Int32.le_iff_toInt_le.mp hy.2
    have a1 : 0 ≤ x.toInt := by simpa using a1
    have a2 : x.toInt ≤ 1000 := by simpa using a2
    have a3 : 0 ≤ y.toInt := by simpa using a3
    have a4 : y.toInt ≤ 1000 := by simpa using a4
    rw [Int32.toInt_sub]
    exact Int.bmod_eq_of_le (by omega) (by omega)
  constructor
  · rw [Int32.lt_iff_toInt_lt, Int32.lt_iff_toInt_lt, hs]
    have : (0 : Int32).toInt = 0 := rfl
    omega
  · rw [← Int32.toInt_inj, ← Int32.toInt_inj, hs]
    have : (0 : Int32).toInt = 0 := rfl
    omega
set_option maxRecDepth 100000 in
set_option maxHeartbeats 2000000 in
theorem m_waitingAt {h : AHp} {v : Nat → Int32} {A : Nat → Nat → Int32} {q : LQ} {x y : Int32} (H : MdAt h v A) (S : SI (A 0) q) : JM mi_X6_waitingAt 2 0 0 [.ref 121, .int x, .int y] h (fun r h' => r = .inl (some (.int (if 0 ≤ x ∧ x ≤ 6 then (if crWrow q.2.2.1 x y = -1 then 0 else (rAt q.2.2.1 (crWrow q.2.2.1 x y).toNatClampNeg).1) else 0))) ∧ MdP h (fset v 1 (if 0 ≤ x ∧ x ≤ 6 then (if crWrow q.2.2.1 x y = -1 then 2 else 0) else 1)) A h') := by
  have e0 := H.1
  have e1 := H.2.1
  have hl := S.2.2.2.2
  refine JM_of gd_X6_waitingAt rfl (by decide +kernel) (Nat.le_of_ble_eq_true rfl) (oj_cats rfl) (by decide) ?_
  repeat (first | (refine J_step rfl rfl ?_) | (refine J_getf rfl rfl rfl (by assumption) rfl ?_))
  refine J_cS rfl rfl rfl rfl rfl rfl rfl rfl rfl rfl rfl (m_isStation) ?_
  by_cases hv : 0 ≤ x ∧ x ≤ 6
  · simp only [if_pos hv]
    rw [decide_eq_true hv]
    refine J_if (y := 0) rfl (fun _ => ?_) (fun hq => absurd (show ¬ bI true = 0 by decide) hq)
    repeat (first | (refine J_step rfl rfl ?_) | (refine J_getf rfl rfl rfl (by assumption) rfl ?_))
    refine J_callV rfl rfl rfl rfl rfl (by assumption) rfl rfl rfl rfl (m_thrF (d := 0) (MdP.rf H)) (Nat.zero_le _) (Nat.zero_le _) (fun E h9 q => by cases q.1) (fun v9 h1 q => ?_)
    obtain ⟨q1, H1⟩ := q
    cases q1
    clear e0 e1
    have e0 := H1.1.1
    have e1 := H1.1.2.1
    refine J_if (y := 0) rfl (fun _ => ?_) (fun hq => absurd rfl hq)
    have loop : ∀ m j, m + j = q.2.2.1.length → ∀ w, fstF (fun j => crW x (rAt q.2.2.1 j) && nI ((q.2.2.1.take j).countP (crW x)) == y) m j = w → (w = -1 ∨ ∃ i, i < q.2.2.1.length ∧ w = nI i) → ∀ z5, J mi_X6_waitingAt 2 0 0 (fun r h' => r = .inl (some (.int (if w = -1 then 0 else (rAt q.2.2.1 w.toNatClampNeg).1))) ∧ MdP h (fset v 1 (if w = -1 then 2 else 0)) A h') 0 0 27 [some (.ref 121), some (.int x), some (.int y), some (.int (nI ((q.2.2.1.take j).countP (crW x)))), some (.int (nI j)), z5] [] h1 := by
      intro m
      induction m with
      | zero =>
        intro j hj w hw hw2 z5
        obtain rfl : j = q.2.2.1.length := by omega
        have hw : w = -1 := hw.symm
        simp only [hw, if_true]
        repeat (first | (refine J_step rfl rfl ?_) | (refine J_getf rfl rfl rfl (by assumption) rfl ?_))
        refine J_rs 13 rfl e1 rfl (by decide) (by decide) S.2.1 ?_
        refine J_ic rfl (fun hq => ?_) (fun hq => absurd (Int32.le_refl _) hq)
        repeat (first | (refine J_step rfl rfl ?_) | (refine J_getf rfl rfl rfl (by assumption) rfl ?_))
        refine J_putf rfl rfl rfl e0 rfl rfl (fun _ => rfl) rfl rfl ?_
        have H2 := H1.trans (H1.1.fld (v' := fset (fset v 1 0) 1 2))
        rw [fset2] at H2
        repeat (first | (refine J_step rfl rfl ?_) | (refine J_getf rfl rfl rfl (by assumption) rfl ?_))
        exact J_iret rfl rfl rfl rfl ⟨rfl, H2⟩
      | succ m ih =>
        intro j hj w hw hw2 z5
        have hlt : j < q.2.2.1.length := by omega
        have hs := fun w hw hw2 z5 => ih (j + 1) (by omega) w hw hw2 z5
        rw [ct_succ hlt, nI_succ, ← rAt_eq hlt] at hs
        rw [fstF] at hw
        repeat (first | (refine J_step rfl rfl ?_) | (refine J_getf rfl rfl rfl (by assumption) rfl ?_))
        refine J_rs 13 rfl e1 rfl (by decide) (by decide) S.2.1 ?_
        refine J_ic rfl (fun hq => absurd hq (nI_ge (by omega) (by omega))) (fun hq => ?_)
        repeat (first | (refine J_step rfl rfl ?_) | (refine J_getf rfl rfl rfl (by assumption) rfl ?_))
        refine J_cV rfl rfl rfl rfl rfl (by assumption) rfl rfl rfl rfl rfl rfl (m_waitsAt H1.1 S hlt) ?_
        repeat (first | (refine J_step rfl rfl ?_) | (refine J_getf rfl rfl rfl (by assumption) rfl ?_))
        refine J_if (y := 0) rfl (fun hq => ?_) (fun hq => ?_)
        · have hb := bI_f hq
          rw [hb] at hw hs ⊢
          rw [if_neg (by simp)] at hw
          repeat (first | (refine J_step rfl rfl ?_) | (refine J_getf rfl rfl rfl (by assumption) rfl ?_))
          refine J_if (y := 0) rfl (fun _ => ?_) (fun hq => absurd rfl hq)
          iterate 5 (first | (refine J_step rfl rfl ?_) | (refine J_getf rfl rfl rfl (by assumption) rfl ?_))
          rw [Int32.add_zero]
          exact hs w hw hw2 _
        · have hb := bI_t hq
          rw [hb] at hw hs ⊢
          repeat (first | (refine J_step rfl rfl ?_) | (refine J_getf rfl rfl rfl (by assumption) rfl ?_))
          refine J_ic rfl (fun hq2 => ?_) (fun hq2 => ?_)
          · have hq2 : ¬ nI ((q.2.2.1.take j).countP (crW x)) = y := hq2
            rw [if_neg (by simp [hq2])] at hw
            repeat (first | (refine J_step rfl rfl ?_) | (refine J_getf rfl rfl rfl (by assumption) rfl ?_))
            refine J_if (y := 0) rfl (fun hq => absurd hq (show ¬ bI true = 0 by decide)) (fun _ => ?_)
            have hs2 := hs w hw hw2
            rw [if_pos rfl, nI_succ] at hs2
            iterate 6 (first | (refine J_step rfl rfl ?_) | (refine J_getf rfl rfl rfl (by assumption) rfl ?_))
            exact hs2 _
          · have hq2 : nI ((q.2.2.1.take j).countP (crW x)) = y := Classical.not_not.mp hq2
            rw [if_pos (by simp [hq2])] at hw
            have hj20 : j ≤ 20 := by omega
            subst hw
            simp only [if_neg (nI_neg1 hj20), nI_clamp (show j < 2 ^ 31 by omega)]
            repeat (first | (refine J_step rfl rfl ?_) | (refine J_getf rfl rfl rfl (by assumption) rfl ?_))
            refine J_cV rfl rfl rfl rfl rfl (by assumption) rfl rfl rfl rfl rfl rfl (m_of (d := 0) (w := 0) H1.1 S hlt (by decide)) ?_
            exact J_iret rfl rfl rfl rfl ⟨rfl, H1⟩
    iterate 4 (first | (refine J_step rfl rfl ?_) | (refine J_getf rfl rfl rfl (by assumption) rfl ?_))
    refine loop q.2.2.1.length 0 rfl (crWrow q.2.2.1 x y) rfl ?_ _
    rcases fstI_cases (fun j => crW x (rAt q.2.2.1 j) && nI ((q.2.2.1.take j).countP (crW x)) == y) q.2.2.1.length with ⟨hv0, -⟩ | ⟨i, hi, -, hv0, -⟩
    · exact Or.inl hv0
    · exact Or.inr ⟨i, hi, hv0⟩
  · simp only [if_neg hv]
    rw [decide_eq_false hv]
    refine J_if (y := 0) rfl (fun hq => absurd rfl hq) (fun _ => ?_)
    repeat (first | (refine J_step rfl rfl ?_) | (refine J_getf rfl rfl rfl (by assumption) rfl ?_))
    refine J_callV rfl rfl rfl rfl rfl (by assumption) rfl rfl rfl rfl (m_thrT (d := 0) (MdP.rf H)) (Nat.zero_le _) (Nat.zero_le _) (fun E h9 q => by cases q.1) (fun v9 h1 q => ?_)
    obtain ⟨q1, H1⟩ := q
    cases q1
    clear e0 e1
    have e0 := H1.1.1
    have e1 := H1.1.2.1
    refine J_if (y := 0) rfl (fun hq => absurd hq (show ¬ (1 : Int32) = 0 by decide)) (fun _ => ?_)
    repeat (first | (refine J_step rfl rfl ?_) | (refine J_getf rfl rfl rfl (by assumption) rfl ?_))
    exact J_iret rfl rfl rfl rfl ⟨rfl, H1⟩
set_option maxRecDepth 100000 in
set_option maxHeartbeats 2000000 in
theorem m_pickerByWeight {h : AHp} {v : Nat → Int32} {A : Nat → Nat → Int32} {q : LQ} {x : Int32} (H : MdAt h v A) (S : SI (A 0) q) (hW : ∀ j, j < q.2.2.1.length → 0 ≤ (rAt q.2.2.1 j).2.1 ∧ (rAt q.2.2.1 j).2.1 ≤ 1000) : JM mi_X6_pickerByWeight 1 0 0 [.ref 121, .int x] h (fun r h' => r = .inl (some (.int (if crByW q.2.2.1 x = -1 then 0 else (rAt q.2.2.1 (crByW q.2.2.1 x).toNatClampNeg).1))) ∧ MdP h (fset v 1 (if crByW q.2.2.1 x = -1 then 1 else 0)) A h') := by
  have e0 := H.1
  have e1 := H.2.1
  have hl := S.2.2.2.2
  refine JM_of gd_X6_pickerByWeight rfl (by decide +kernel) (Nat.le_of_ble_eq_true rfl) (oj_cats rfl) (by decide) ?_
  have inner : ∀ k, k < q.2.2.1.length → ∀ PO : QT, (∀ z4 z5, J mi_X6_pickerByWeight 1 0 0 PO 0 0 76 [some (.ref 121), some (.int x), some (.int (nI k)), some (.int (nI (crHv q.2.2.1 k))), z4, z5] [] h) → ∀ m j, m + j = q.2.2.1.length → ∀ z5, J mi_X6_pickerByWeight 1 0 0 PO 0 0 18 [some (.ref 121), some (.int x), some (.int (nI k)), some (.int (nI (cntP (crHvp q.2.2.1 k) j))), some (.int (nI j)), z5] [] h := by
    intro k hk PO kk m
    induction m with
    | zero =>
      intro j hj z5
      obtain rfl : j = q.2.2.1.length := by omega
      repeat (first | (refine J_step rfl rfl ?_) | (refine J_getf rfl rfl rfl (by assumption) rfl ?_))
      refine J_rs 13 rfl e1 rfl (by decide) (by decide) S.2.1 ?_
      refine J_ic rfl (fun hq => ?_) (fun hq => absurd (Int32.le_refl _) hq)
      exact kk _ _
    | succ m ih =>
      intro j hj z5
      have hlt : j < q.2.2.1.length := by omega
      have hs := fun z5 => ih (j + 1) (by omega) z5
      have hw : cntP (crHvp q.2.2.1 k) (j + 1) = cntP (crHvp q.2.2.1 k) j + (if crHvp q.2.2.1 k j then 1 else 0) := rfl
      rw [hw, nI_succ] at hs
      have dg : ∀ b : Int32, (0 < (rAt q.2.2.1 j).2.1 - (rAt q.2.2.1 k).2.1 ↔ (rAt q.2.2.1 k).2.1 < (rAt q.2.2.1 j).2.1) ∧ ((rAt q.2.2.1 j).2.1 - (rAt q.2.2.1 k).2.1 = 0 ↔ (rAt q.2.2.1 j).2.1 = (rAt q.2.2.1 k).2.1) := fun b => i32_diff (hW j hlt) (hW k hk)
      obtain ⟨d1, d2⟩ := dg 0
      repeat (first | (refine J_step rfl rfl ?_) | (refine J_getf rfl rfl rfl (by assumption) rfl ?_))
      refine J_rs 13 rfl e1 rfl (by decide) (by decide) S.2.1 ?_
      refine J_ic rfl (fun hq => absurd hq (nI_ge (by omega) (by omega))) (fun hq => ?_)
      repeat (first | (refine J_step rfl rfl ?_) | (refine J_getf rfl rfl rfl (by assumption) rfl ?_))
      refine J_cV rfl rfl rfl rfl rfl (by assumption) rfl rfl rfl rfl rfl rfl (m_of (d := 0) (w := 1) H S hlt (by decide)) ?_
      repeat (first | (refine J_step rfl rfl ?_) | (refine J_getf rfl rfl rfl (by assumption) rfl ?_))
      refine J_cV rfl rfl rfl rfl rfl (by assumption) rfl rfl rfl rfl rfl rfl (m_of (d := 0) (w := 1) H S hk (by decide)) ?_
      have yes : crHvp q.2.2.1 k j = true → ∀ z5, J mi_X6_pickerByWeight 1 0 0 PO 0 0 63 [some (.ref 121), some (.int x), some (.int (nI k)), some (.int (nI (cntP (crHvp q.2.2.1 k) j))), some (.int (nI j)), z5] [.int (nI (cntP (crHvp q.2.2.1 k) j))] h := by
        intro hy z5
        simp only [if_pos hy, nI_succ] at hs
        iterate 6 (first | (refine J_step rfl rfl ?_) | (refine J_getf rfl rfl rfl (by assumption) rfl ?_))
        exact hs _
      have no : crHvp q.2.2.1 k j = false → ∀ z5, J mi_X6_pickerByWeight 1 0 0 PO 0 0 67 [some (.ref 121), some (.int x), some (.int (nI k)), some (.int (nI (cntP (crHvp q.2.2.1 k) j))), some (.int (nI j)), z5] [.int (nI (cntP (crHvp q.2.2.1 k) j))] h := by
        intro hy z5
        simp only [hy, Bool.false_eq_true, if_false, Nat.add_zero] at hs
        iterate 5 (first | (refine J_step rfl rfl ?_) | (refine J_getf rfl rfl rfl (by assumption) rfl ?_))
        rw [Int32.add_zero]
        exact hs _
      repeat (first | (refine J_step rfl rfl ?_) | (refine J_getf rfl rfl rfl (by assumption) rfl ?_))
      refine J_if (y := 0) rfl (fun hq => ?_) (fun hq => ?_)
      · exact yes (by simp [crHvp, d1.mp hq]) _
      · have hq : ¬ (rAt q.2.2.1 k).2.1 < (rAt q.2.2.1 j).2.1 := fun z => hq (d1.mpr z)
        repeat (first | (refine J_step rfl rfl ?_) | (refine J_getf rfl rfl rfl (by assumption) rfl ?_))
        refine J_if (y := 0) rfl (fun hq2 => ?_) (fun hq2 => ?_)
        · have hq2 : ¬ (rAt q.2.2.1 j).2.1 = (rAt q.2.2.1 k).2.1 := fun z => hq2 (d2.mpr z)
          exact no (by simp [crHvp, hq, hq2]) _
        · have hq2 : (rAt q.2.2.1 j).2.1 = (rAt q.2.2.1 k).2.1 := d2.mp (Classical.not_not.mp hq2)
          repeat (first | (refine J_step rfl rfl ?_) | (refine J_getf rfl rfl rfl (by assumption) rfl ?_))
          refine J_ic rfl (fun hq3 => ?_) (fun hq3 => ?_)
          · have hz : ¬ j < k := fun z => absurd (show nI k ≤ nI j from hq3) (nI_ge z (by omega))
            exact no (by simp [crHvp, hq, hq2, hz]) _
          · have hz : j < k := by
              rcases Nat.lt_or_ge j k with z | z
              · exact z
              · exact absurd (nI_le z (by omega)) hq3
            exact yes (by simp [crHvp, hq2, hz]) _
  have loop : ∀ m j, m + j = q.2.2.1.length → ∀ w, fstF (fun j => nI (crHv q.2.2.1 j) == x) m j = w → ∀ z3 z4 z5, J mi_X6_pickerByWeight 1 0 0 (fun r h' => r = .inl (some (.int (if w = -1 then 0 else (rAt q.2.2.1 w.toNatClampNeg).1))) ∧ MdP h (fset v 1 (if w = -1 then 1 else 0)) A h') 0 0 2 [some (.ref 121), some (.int x), some (.int (nI j)), z3, z4, z5] [] h := by
    intro m
    induction m with
    | zero =>
      intro j hj w hw z3 z4 z5
      obtain rfl : j = q.2.2.1.length := by omega
      have hw : w = -1 := hw.symm
      simp only [hw, if_true]
      repeat (first | (refine J_step rfl rfl ?_) | (refine J_getf rfl rfl rfl (by assumption) rfl ?_))
      refine J_rs 13 rfl e1 rfl (by decide) (by decide) S.2.1 ?_
      refine J_ic rfl (fun hq => ?_) (fun hq => absurd (Int32.le_refl _) hq)
      repeat (first | (refine J_step rfl rfl ?_) | (refine J_getf rfl rfl rfl (by assumption) rfl ?_))
      refine J_putf rfl rfl rfl e0 rfl rfl (fun _ => rfl) rfl rfl ?_
      repeat (first | (refine J_step rfl rfl ?_) | (refine J_getf rfl rfl rfl (by assumption) rfl ?_))
      exact J_iret rfl rfl rfl rfl ⟨rfl, H.fld (v' := fset v 1 1)⟩
    | succ m ih =>
      intro j hj w hw z3 z4 z5
      have hlt : j < q.2.2.1.length := by omega
      rw [fstF] at hw
      repeat (first | (refine J_step rfl rfl ?_) | (refine J_getf rfl rfl rfl (by assumption) rfl ?_))
      refine J_rs 13 rfl e1 rfl (by decide) (by decide) S.2.1 ?_
      refine J_ic rfl (fun hq => absurd hq (nI_ge (by omega) (by omega))) (fun hq => ?_)
      iterate 4 (first | (refine J_step rfl rfl ?_) | (refine J_getf rfl rfl rfl (by assumption) rfl ?_))
      refine inner j hlt _ (fun z4 z5 => ?_) q.2.2.1.length 0 rfl _
      repeat (first | (refine J_step rfl rfl ?_) | (refine J_getf rfl rfl rfl (by assumption) rfl ?_))
      refine J_ic rfl (fun hq => ?_) (fun hq => ?_)
      · have hq : ¬ nI (crHv q.2.2.1 j) = x := hq
        rw [if_neg (by simp [hq])] at hw
        have hs := fun z3 z4 z5 => ih (j + 1) (by omega) w hw z3 z4 z5
        rw [nI_succ] at hs
        iterate 2 (first | (refine J_step rfl rfl ?_) | (refine J_getf rfl rfl rfl (by assumption) rfl ?_))
        exact hs _ _ _
      · have hq : nI (crHv q.2.2.1 j) = x := Classical.not_not.mp hq
        rw [if_pos (by simp [hq])] at hw
        have hj20 : j ≤ 20 := by omega
        subst hw
        simp only [if_neg (nI_neg1 hj20), nI_clamp (show j < 2 ^ 31 by omega)]
        repeat (first | (refine J_step rfl rfl ?_) | (refine J_getf rfl rfl rfl (by assumption) rfl ?_))
        refine J_putf rfl rfl rfl e0 rfl rfl (fun _ => rfl) rfl rfl ?_
        have H1 := H.fld (v' := fset v 1 0)
        refine J_heap (h2 := oj_up h 121 (rO (fset v 1 0))) rfl ?_
        generalize oj_up h 121 (rO (fset v 1 0)) = h1 at H1 ⊢
        have g0 := H1.1.1
        repeat (first | (refine J_step rfl rfl ?_) | (refine J_getf rfl rfl rfl (by assumption) rfl ?_))
        refine J_cV rfl rfl rfl rfl rfl (by assumption) rfl rfl rfl rfl rfl rfl (m_of (d := 0) (w := 0) H1.1 S hlt (by decide)) ?_
        exact J_iret rfl rfl rfl rfl ⟨rfl, H1⟩
  iterate 2 (first | (refine J_step rfl rfl ?_) | (refine J_getf rfl rfl rfl (by assumption) rfl ?_))
  exact loop _ 0 rfl _ rfl _ _ _
set_option maxRecDepth 100000 in
set_option maxHeartbeats 2000000 in
theorem m_meanJourney {h : AHp} {v : Nat → Int32} {A : Nat → Nat → Int32} {q : LQ} (H : MdAt h v A) (S : SI (A 0) q) (hn : ¬ q.2.1 7 = 0 → vf_n64 (FP.ddiv (FP.i2d (q.2.1 11)) (FP.i2d (q.2.1 7)))) : JM mi_X6_meanJourney 1 0 0 [.ref 121] h (fun r h' => r = .inl (some (.double (if q.2.1 7 = 0 then 0 else FP.ddiv (FP.i2d (q.2.1 11)) (FP.i2d (q.2.1 7))))) ∧ MdP h (fset v 1 (if q.2.1 7 = 0 then 1 else 0)) A h') := by
  have e0 := H.1
  have e1 := H.2.1
  have hl := S.2.2.2.2
  refine JM_of gd_X6_meanJourney rfl (by decide +kernel) (Nat.le_of_ble_eq_true rfl) (oj_cats rfl) (by decide) ?_
  repeat (first | (refine J_step rfl rfl ?_) | (refine J_getf rfl rfl rfl (by assumption) rfl ?_))
  refine J_rs 7 rfl e1 rfl (by decide) (by decide) (S.1 7 (by decide)) ?_
  by_cases hz : q.2.1 7 = 0
  · simp only [if_pos hz]
    refine J_if (y := 0) rfl (fun hq => absurd hz hq) (fun _ => ?_)
    repeat (first | (refine J_step rfl rfl ?_) | (refine J_getf rfl rfl rfl (by assumption) rfl ?_))
    refine J_callV rfl rfl rfl rfl rfl (by assumption) rfl rfl rfl rfl (m_thrT (d := 0) (MdP.rf H)) (Nat.zero_le _) (Nat.zero_le _) (fun E h9 q => by cases q.1) (fun v9 h1 q => ?_)
    obtain ⟨q1, H1⟩ := q
    cases q1
    clear e0 e1
    have e0 := H1.1.1
    have e1 := H1.1.2.1
    refine J_if (y := 0) rfl (fun hq => absurd hq (show ¬ (1 : Int32) = 0 by decide)) (fun _ => ?_)
    refine J_dconst0 rfl ?_
    repeat (first | (refine J_step rfl rfl ?_) | (refine J_getf rfl rfl rfl (by assumption) rfl ?_))
    exact J_ret (v := some (.double _)) rfl (decide_eq_true (p := mR mi_X6_meanJourney = some .double) rfl) (Nat.zero_le _) (Nat.zero_le _) ⟨rfl, H1⟩ rfl
  · simp only [if_neg hz]
    refine J_if (y := 0) rfl (fun _ => ?_) (fun hq => absurd hz hq)
    repeat (first | (refine J_step rfl rfl ?_) | (refine J_getf rfl rfl rfl (by assumption) rfl ?_))
    refine J_callV rfl rfl rfl rfl rfl (by assumption) rfl rfl rfl rfl (m_thrF (d := 0) (MdP.rf H)) (Nat.zero_le _) (Nat.zero_le _) (fun E h9 q => by cases q.1) (fun v9 h1 q => ?_)
    obtain ⟨q1, H1⟩ := q
    cases q1
    clear e0 e1
    have e0 := H1.1.1
    have e1 := H1.1.2.1
    refine J_if (y := 0) rfl (fun _ => ?_) (fun hq => absurd rfl hq)
    repeat (first | (refine J_step rfl rfl ?_) | (refine J_getf rfl rfl rfl (by assumption) rfl ?_))
    refine J_rs 11 rfl e1 rfl (by decide) (by decide) (S.1 11 (by decide)) ?_
    repeat (first | (refine J_step rfl rfl ?_) | (refine J_getf rfl rfl rfl (by assumption) rfl ?_))
    refine J_rs 7 rfl e1 rfl (by decide) (by decide) (S.1 7 (by decide)) ?_
    repeat (first | (refine J_step rfl rfl ?_) | (refine J_getf rfl rfl rfl (by assumption) rfl ?_))
    refine J_ddiv rfl (hn hz) ?_
    exact J_ret (v := some (.double _)) rfl (decide_eq_true (p := mR mi_X6_meanJourney = some .double) rfl) (Nat.zero_le _) (Nat.zero_le _) ⟨rfl, H1⟩ rfl
set_option maxRecDepth 100000 in
set_option maxHeartbeats 2000000 in
theorem m_occupancy {h : AHp} {v : Nat → Int32} {A : Nat → Nat → Int32} {q : LQ} (H : MdAt h v A) (S : SI (A 0) q) (hn : vf_n32 (FP.fdiv (FP.i2f (nI (crRid q.2.2.1 0) + nI (crRid q.2.2.1 1))) (FP.i2f (2 * q.2.1 1)))) : JM mi_X6_occupancy 2 0 0 [.ref 121] h (fun r h' => r = .inl (some (.float (FP.fdiv (FP.i2f (nI (crRid q.2.2.1 0) + nI (crRid q.2.2.1 1))) (FP.i2f (2 * q.2.1 1))))) ∧ MdP h (fset v 1 (0)) A h') := by
  have e0 := H.1
  have e1 := H.2.1
  have hl := S.2.2.2.2
  refine JM_of gd_X6_occupancy rfl (by decide +kernel) (Nat.le_of_ble_eq_true rfl) (oj_cats rfl) (by decide) ?_
  repeat (first | (refine J_step rfl rfl ?_) | (refine J_getf rfl rfl rfl (by assumption) rfl ?_))
  refine J_putf rfl rfl rfl e0 rfl rfl (fun _ => rfl) rfl rfl ?_
  have H1 := H.fld (v' := fset v 1 0)
  refine J_heap (h2 := oj_up h 121 (rO (fset v 1 0))) rfl ?_
  generalize oj_up h 121 (rO (fset v 1 0)) = h1 at H1 ⊢
  clear e0 e1
  have e0 := H1.1.1
  have e1 := H1.1.2.1
  repeat (first | (refine J_step rfl rfl ?_) | (refine J_getf rfl rfl rfl (by assumption) rfl ?_))
  refine J_cV rfl rfl rfl rfl rfl (by assumption) rfl rfl rfl rfl rfl rfl (m_inCabin H1.1 S) ?_
  repeat (first | (refine J_step rfl rfl ?_) | (refine J_getf rfl rfl rfl (by assumption) rfl ?_))
  refine J_cV rfl rfl rfl rfl rfl (by assumption) rfl rfl rfl rfl rfl rfl (m_inCabin H1.1 S) ?_
  repeat (first | (refine J_step rfl rfl ?_) | (refine J_getf rfl rfl rfl (by assumption) rfl ?_))
  refine J_rs 1 rfl e1 rfl (by decide) (by decide) (S.1 1 (by decide)) ?_
  repeat (first | (refine J_step rfl rfl ?_) | (refine J_getf rfl rfl rfl (by assumption) rfl ?_))
  refine J_fdiv rfl hn ?_
  exact J_ret (v := some (.float _)) rfl (decide_eq_true (p := mR mi_X6_occupancy = some .float) rfl) (Nat.zero_le _) (Nat.zero_le _) ⟨rfl, H1⟩ rfl
set_option maxRecDepth 100000 in
set_option maxHeartbeats 2000000 in
theorem m_isConsistent {h : AHp} {v : Nat → Int32} {A : Nat → Nat → Int32} {q : LQ} (H : MdAt h v A) (S : SI (A 0) q) (hp : nI q.2.2.1.length + q.2.1 7 + q.2.1 8 = q.2.1 6) (r0 : nI (crRid q.2.2.1 0) ≤ q.2.1 1) (r1 : nI (crRid q.2.2.1 1) ≤ q.2.1 1) : JM mi_X6_isConsistent 2 0 0 [.ref 121] h (fun r h' => r = .inl (some (.int (bI true))) ∧ MdP h (fset v 1 (0)) A h') := by
  have e0 := H.1
  have e1 := H.2.1
  have hl := S.2.2.2.2
  refine JM_of gd_X6_isConsistent rfl (by decide +kernel) (Nat.le_of_ble_eq_true rfl) (oj_cats rfl) (by decide) ?_
  repeat (first | (refine J_step rfl rfl ?_) | (refine J_getf rfl rfl rfl (by assumption) rfl ?_))
  refine J_putf rfl rfl rfl e0 rfl rfl (fun _ => rfl) rfl rfl ?_
  have H1 := H.fld (v' := fset v 1 0)
  refine J_heap (h2 := oj_up h 121 (rO (fset v 1 0))) rfl ?_
  generalize oj_up h 121 (rO (fset v 1 0)) = h1 at H1 ⊢
  clear e0 e1
  have e0 := H1.1.1
  have e1 := H1.1.2.1
  repeat (first | (refine J_step rfl rfl ?_) | (refine J_getf rfl rfl rfl (by assumption) rfl ?_))
  refine J_rs 6 rfl e1 rfl (by decide) (by decide) (S.1 6 (by decide)) ?_
  repeat (first | (refine J_step rfl rfl ?_) | (refine J_getf rfl rfl rfl (by assumption) rfl ?_))
  refine J_rs 13 rfl e1 rfl (by decide) (by decide) S.2.1 ?_
  repeat (first | (refine J_step rfl rfl ?_) | (refine J_getf rfl rfl rfl (by assumption) rfl ?_))
  refine J_rs 7 rfl e1 rfl (by decide) (by decide) (S.1 7 (by decide)) ?_
  repeat (first | (refine J_step rfl rfl ?_) | (refine J_getf rfl rfl rfl (by assumption) rfl ?_))
  refine J_rs 8 rfl e1 rfl (by decide) (by decide) (S.1 8 (by decide)) ?_
  repeat (first | (refine J_step rfl rfl ?_) | (refine J_getf rfl rfl rfl (by assumption) rfl ?_))
  refine J_ic rfl (fun hq => absurd hp.symm hq) (fun _ => ?_)
  repeat (first | (refine J_step rfl rfl ?_) | (refine J_getf rfl rfl rfl (by assumption) rfl ?_))
  refine J_cV rfl rfl rfl rfl rfl (by assumption) rfl rfl rfl rfl rfl rfl (m_inCabin H1.1 S) ?_
  repeat (first | (refine J_step rfl rfl ?_) | (refine J_getf rfl rfl rfl (by assumption) rfl ?_))
  refine J_rs 1 rfl e1 rfl (by decide) (by decide) (S.1 1 (by decide)) ?_
  refine J_ic rfl (fun hq => absurd hq (Int32.not_lt.mpr r0)) (fun _ => ?_)
  repeat (first | (refine J_step rfl rfl ?_) | (refine J_getf rfl rfl rfl (by assumption) rfl ?_))
  refine J_cV rfl rfl rfl rfl rfl (by assumption) rfl rfl rfl rfl rfl rfl (m_inCabin H1.1 S) ?_
  repeat (first | (refine J_step rfl rfl ?_) | (refine J_getf rfl rfl rfl (by assumption) rfl ?_))
  refine J_rs 1 rfl e1 rfl (by decide) (by decide) (S.1 1 (by decide)) ?_
  refine J_ic rfl (fun hq => absurd hq (Int32.not_lt.mpr r1)) (fun _ => ?_)
  repeat (first | (refine J_step rfl rfl ?_) | (refine J_getf rfl rfl rfl (by assumption) rfl ?_))
  exact J_zret rfl rfl rfl rfl true rfl ⟨rfl, H1⟩
set_option maxRecDepth 100000 in
set_option maxHeartbeats 2000000 in
theorem m_blockedMinutes {h : AHp} {v : Nat → Int32} {A : Nat → Nat → Int32} {q : LQ} (H : MdAt h v A) (S : SI (A 0) q) {m : Nat} (hm : BS q.2 m) : JM mi_X6_blockedMinutes 0 0 0 [.ref 121] h (fun r h' => r = .inl (some (.int (nI m))) ∧ MdP h (fset v 1 (0)) A h') := by
  have e0 := H.1
  have e1 := H.2.1
  have hl := S.2.2.2.2
  refine JM_of gd_X6_blockedMinutes rfl (by decide +kernel) (Nat.le_of_ble_eq_true rfl) (oj_cats rfl) (by decide) ?_
  repeat (first | (refine J_step rfl rfl ?_) | (refine J_getf rfl rfl rfl (by assumption) rfl ?_))
  refine J_putf rfl rfl rfl e0 rfl rfl (fun _ => rfl) rfl rfl ?_
  have H1 := H.fld (v' := fset v 1 0)
  refine J_heap (h2 := oj_up h 121 (rO (fset v 1 0))) rfl ?_
  generalize oj_up h 121 (rO (fset v 1 0)) = h1 at H1 ⊢
  clear e0 e1
  have e0 := H1.1.1
  have e1 := H1.1.2.1
  have loop : ∀ m' n t, m' + n = m → t ≤ 200 → (q.2.1 3 = 1 → (if 50 < t then (t - 46) / 5 = m' else m' = 0)) → (q.2.1 3 = 0 → m' = 0) → (q.2.1 3 = 0 ∨ q.2.1 3 = 1) → ∀ x, (q.2.1 3 = 1 → x = nI t) → J mi_X6_blockedMinutes 0 0 0 (fun r h' => r = .inl (some (.int (nI m))) ∧ MdP h (fset v 1 0) A h') 0 0 14 [some (.ref 121), some (.int (nI n)), some (.int x)] [] h1 := by
    intro m'
    induction m' with
    | zero =>
      intro n t hn ht h1 h0 h01 x hx
      obtain rfl : n = m := by omega
      repeat (first | (refine J_step rfl rfl ?_) | (refine J_getf rfl rfl rfl (by assumption) rfl ?_))
      refine J_rs 3 rfl e1 rfl (by decide) (by decide) (S.1 3 (by decide)) ?_
      repeat (first | (refine J_step rfl rfl ?_) | (refine J_getf rfl rfl rfl (by assumption) rfl ?_))
      refine J_ic rfl (fun hq => ?_) (fun hq => ?_)
      · repeat (first | (refine J_step rfl rfl ?_) | (refine J_getf rfl rfl rfl (by assumption) rfl ?_))
        exact J_iret rfl rfl rfl rfl ⟨rfl, H1⟩
      · have hb : q.2.1 3 = 1 := Classical.not_not.mp hq
        have h1 := h1 hb
        have ht5 : ¬ 50 < t := fun z => by rw [if_pos z] at h1; omega
        rw [hx hb]
        repeat (first | (refine J_step rfl rfl ?_) | (refine J_getf rfl rfl rfl (by assumption) rfl ?_))
        refine J_ic rfl (fun hq => ?_) (fun hq => absurd (show nI t ≤ nI 50 from nI_le (by omega) (by omega)) hq)
        repeat (first | (refine J_step rfl rfl ?_) | (refine J_getf rfl rfl rfl (by assumption) rfl ?_))
        exact J_iret rfl rfl rfl rfl ⟨rfl, H1⟩
    | succ m' ih =>
      intro n t hn ht h1 h0 h01 x hx
      have hb : q.2.1 3 = 1 := h01.resolve_left fun z => by have := h0 z; omega
      have h1 := h1 hb
      have ht5 : 50 < t := by
        rcases Nat.lt_or_ge 50 t with z | z
        · exact z
        · rw [if_neg (by omega)] at h1; omega
      rw [if_pos ht5] at h1
      rw [hx hb]
      have h5 : nI t + -5 = nI (t - 5) := by
        have : ∀ t, t ≤ 200 → 50 < t → nI t + -5 = nI (t - 5) := by decide +kernel
        exact this t ht ht5
      repeat (first | (refine J_step rfl rfl ?_) | (refine J_getf rfl rfl rfl (by assumption) rfl ?_))
      refine J_rs 3 rfl e1 rfl (by decide) (by decide) (S.1 3 (by decide)) ?_
      repeat (first | (refine J_step rfl rfl ?_) | (refine J_getf rfl rfl rfl (by assumption) rfl ?_))
      refine J_ic rfl (fun hq => absurd hb hq) (fun _ => ?_)
      repeat (first | (refine J_step rfl rfl ?_) | (refine J_getf rfl rfl rfl (by assumption) rfl ?_))
      refine J_ic rfl (fun hq => absurd (show nI t ≤ nI 50 from hq) (nI_ge ht5 (by omega))) (fun _ => ?_)
      have hs := ih (n + 1) (t - 5) (by omega) (by omega) (fun _ => by
        split
        · omega
        · omega) (fun z => by rw [z] at hb; exact absurd hb (by decide)) h01 _ (fun _ => rfl)
      rw [nI_succ] at hs
      iterate 3 (first | (refine J_step rfl rfl ?_) | (refine J_getf rfl rfl rfl (by assumption) rfl ?_))
      rw [h5]
      exact hs
  repeat (first | (refine J_step rfl rfl ?_) | (refine J_getf rfl rfl rfl (by assumption) rfl ?_))
  refine J_rs 2 rfl e1 rfl (by decide) (by decide) (S.1 2 (by decide)) ?_
  iterate 1 (first | (refine J_step rfl rfl ?_) | (refine J_getf rfl rfl rfl (by assumption) rfl ?_))
  rcases hm with ⟨hz, hb⟩ | ⟨t, h3, h2, ht, ht2, hm⟩
  · exact loop m 0 0 rfl (by omega) (fun z => by rw [hb] at z; exact absurd z (by decide)) (fun _ => hz) (Or.inl hb) _ (fun z => by rw [hb] at z; exact absurd z (by decide))
  · exact loop m 0 t rfl ht2 (fun _ => by rw [if_pos ht]; exact hm) (fun z => by rw [h3] at z; exact absurd z (by decide)) (Or.inr h3) _ (fun _ => h2)
set_option maxRecDepth 100000 in
set_option maxHeartbeats 2000000 in
theorem m_blockedMinutesByPassing {h : AHp} {v : Nat → Int32} {A : Nat → Nat → Int32} {q : LQ} (H : MdAt h v A) (S : SI (A 0) q) {m : Nat} (hm : BS q.2 m) : JM mi_X6_blockedMinutesByPassing 1 0 0 [.ref 121] h (fun r h' => r = .inl (some (.int (nI m))) ∧ MdP h (fset v 1 (0)) A h') := by
  have e0 := H.1
  have e1 := H.2.1
  have hl := S.2.2.2.2
  refine JM_of gd_X6_blockedMinutesByPassing rfl (by decide +kernel) (Nat.le_of_ble_eq_true rfl) (oj_cats rfl) (by decide) ?_
  repeat (first | (refine J_step rfl rfl ?_) | (refine J_getf rfl rfl rfl (by assumption) rfl ?_))
  refine J_callV rfl rfl rfl rfl rfl e0 rfl rfl rfl rfl (m_blockedMinutes H S hm) (Nat.zero_le _) (Nat.zero_le _) (fun E h9 q => by cases q.1) (fun v9 h1 q => ?_)
  obtain ⟨q1, H1⟩ := q
  cases q1
  exact J_iret rfl rfl rfl rfl ⟨rfl, H1⟩
