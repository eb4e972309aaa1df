set_option maxRecDepth 100000 in
set_option maxHeartbeats 2000000 in
theorem m_thrF {d : Nat} {h h1 : AHp} {v : Nat → Int32} {A : Nat → Nat → Int32} {t : Int32} (H : MdP h v A h1) : JM mi_X6_isThrown d 0 0 [.ref 121, .int 0, .int t] h1 (fun r h' => r = .inl (some (.int 0)) ∧ MdP h (fset v 1 0) A h') := m_isThrown (b := false) H
set_option maxRecDepth 100000 in
set_option maxHeartbeats 2000000 in
theorem m_thrT {d : Nat} {h h1 : AHp} {v : Nat → Int32} {A : Nat → Nat → Int32} {t : Int32} (H : MdP h v A h1) : JM mi_X6_isThrown d 0 0 [.ref 121, .int 1, .int t] h1 (fun r h' => r = .inl (some (.int 1)) ∧ MdP h (fset v 1 t) A h') := m_isThrown (b := true) H
theorem sg_neg {x y : Int32} : 0 + x + -y = x - y := by rw [Int32.zero_add, Int32.sub_eq_add_neg]
theorem sg_neg2 {x y : Int32} : 0 + -x + y = -(x - y) := by rw [Int32.zero_add, Int32.sub_eq_add_neg, Int32.neg_add, Int32.sub_eq_add_neg, Int32.neg_neg]
theorem sSl_nI {sl : Nat → Int32} {g : Nat} (h : g < 6) : sSl sl (nI g) = sl g := by
  unfold sSl
  rw [if_pos ⟨nI_pos' (by omega), show nI g < nI 6 from nI_lt h (by decide)⟩, nI_clamp (by omega)]
set_option maxRecDepth 100000 in
set_option maxHeartbeats 2000000 in
theorem m_pull {h : AHp} {v : Nat → Int32} {A : Nat → Nat → Int32} {q : LQ} (H : MdAt h v A) (S : SI (A 0) q) (hu : gU q.2.1) (ha : ∀ x, x = 0 ∨ x = 1 → ∃ g, g < 6 ∧ sAhead q.2.1 (uB q.2.1) x = nI g) : JM mi_X6_pull 2 0 0 [.ref 121] h (oj_is (.inl (some (.int (sImb q.2.1 (uB q.2.1) q.1 q.2.2.1)))) h) := by
  have e0 := H.1
  have e1 := H.2.1
  obtain ⟨g0, h0, a0⟩ := ha 0 (Or.inl rfl)
  obtain ⟨g1, h1, a1⟩ := ha 1 (Or.inr rfl)
  have i0 : 14 + sAhead q.2.1 (uB q.2.1) 0 = nI (14 + g0) := by rw [a0]; exact nI_add 14 g0
  have i1 : 14 + sAhead q.2.1 (uB q.2.1) 1 = nI (14 + g1) := by rw [a1]; exact nI_add 14 g1
  refine JM_of gd_X6_pull rfl (by decide +kernel) (Nat.le_of_ble_eq_true rfl) (oj_cats rfl) (by decide) ?_
  have part2 : ∀ s, s = (if uB q.2.1 then 0 + crFull q.2.2.1 0 * q.1 g0 else 0 + -(crFull q.2.2.1 0 * q.1 g0)) → ∀ z, J mi_X6_pull 2 0 0 (oj_is (.inl (some (.int (sImb q.2.1 (uB q.2.1) q.1 q.2.2.1)))) h) 0 0 4 [some (.ref 121), some (.int s), some (.int 1), z] [] h := by
    intro s hs z
    have fin : ∀ y, y = (if uB q.2.1 then -(crFull q.2.2.1 1 * q.1 g1) else crFull q.2.2.1 1 * q.1 g1) → J mi_X6_pull 2 0 0 (oj_is (.inl (some (.int (sImb q.2.1 (uB q.2.1) q.1 q.2.2.1)))) h) 0 0 44 [some (.ref 121), some (.int s), some (.int 1), some (.int (crFull q.2.2.1 1 * q.1 g1))] [.int y, .int s] h := by
      intro y hy
      repeat (first | (refine J_step rfl rfl ?_) | (refine J_getf rfl rfl rfl (by assumption) rfl ?_))
      refine J_ic rfl (fun _ => ?_) (fun hz => absurd (show (2 : Int32) ≤ 1 + 1 by decide) hz)
      repeat (first | (refine J_step rfl rfl ?_) | (refine J_getf rfl rfl rfl (by assumption) rfl ?_))
      refine J_iret rfl rfl rfl rfl ⟨ri ?_, rfl⟩
      rw [hs, hy, sImb, a0, a1, sSl_nI h0, sSl_nI h1]
      cases uB q.2.1
      · exact sg_neg2
      · exact sg_neg
    repeat (first | (refine J_step rfl rfl ?_) | (refine J_getf rfl rfl rfl (by assumption) rfl ?_))
    refine J_ic rfl (fun hz => absurd hz (show ¬ (2 : Int32) ≤ 1 by decide)) (fun _ => ?_)
    repeat (first | (refine J_step rfl rfl ?_) | (refine J_getf rfl rfl rfl (by assumption) rfl ?_))
    refine J_cV rfl rfl rfl rfl rfl (by assumption) rfl rfl rfl rfl rfl rfl (m_heavy H S) ?_
    repeat (first | (refine J_step rfl rfl ?_) | (refine J_getf rfl rfl rfl (by assumption) rfl ?_))
    refine J_cV rfl rfl rfl rfl rfl (by assumption) rfl rfl rfl rfl rfl rfl (m_ahead H S hu) ?_
    repeat (first | (refine J_step rfl rfl ?_) | (refine J_getf rfl rfl rfl (by assumption) rfl ?_))
    refine J_rs (14 + g1) rfl e1 i1 (by omega) (by decide) (S.2.2.1 g1 h1) ?_
    repeat (first | (refine J_step rfl rfl ?_) | (refine J_getf rfl rfl rfl (by assumption) rfl ?_))
    refine J_cV rfl rfl rfl rfl rfl (by assumption) rfl rfl rfl rfl rfl rfl (m_up (d := 0) H S hu) ?_
    refine J_if (y := 0) rfl (fun hq => ?_) (fun hq => ?_)
    · have hb := bI_f hq
      have hb : uB q.2.1 = true := by have : (!uB q.2.1) = false := hb; simpa using this
      iterate 2 (first | (refine J_step rfl rfl ?_) | (refine J_getf rfl rfl rfl (by assumption) rfl ?_))
      exact fin _ (by rw [hb]; rfl)
    · have hb := bI_t hq
      have hb : uB q.2.1 = false := by have : (!uB q.2.1) = true := hb; simpa using this
      iterate 2 (first | (refine J_step rfl rfl ?_) | (refine J_getf rfl rfl rfl (by assumption) rfl ?_))
      exact fin _ (by rw [hb]; rfl)
  repeat (first | (refine J_step rfl rfl ?_) | (refine J_getf rfl rfl rfl (by assumption) rfl ?_))
  refine J_ic rfl (fun hz => absurd hz (show ¬ (2 : Int32) ≤ 0 by decide)) (fun _ => ?_)
  repeat (first | (refine J_step rfl rfl ?_) | (refine J_getf rfl rfl rfl (by assumption) rfl ?_))
  refine J_cV rfl rfl rfl rfl rfl (by assumption) rfl rfl rfl rfl rfl rfl (m_heavy H S) ?_
  repeat (first | (refine J_step rfl rfl ?_) | (refine J_getf rfl rfl rfl (by assumption) rfl ?_))
  refine J_cV rfl rfl rfl rfl rfl (by assumption) rfl rfl rfl rfl rfl rfl (m_ahead H S hu) ?_
  repeat (first | (refine J_step rfl rfl ?_) | (refine J_getf rfl rfl rfl (by assumption) rfl ?_))
  refine J_rs (14 + g0) rfl e1 i0 (by omega) (by decide) (S.2.2.1 g0 h0) ?_
  repeat (first | (refine J_step rfl rfl ?_) | (refine J_getf rfl rfl rfl (by assumption) rfl ?_))
  refine J_cV rfl rfl rfl rfl rfl (by assumption) rfl rfl rfl rfl rfl rfl (m_up (d := 0) H S hu) ?_
  refine J_if (y := 0) rfl (fun hq => ?_) (fun hq => ?_)
  · have hb : uB q.2.1 = false := bI_f hq
    iterate 6 (first | (refine J_step rfl rfl ?_) | (refine J_getf rfl rfl rfl (by assumption) rfl ?_))
    exact part2 _ (by rw [hb]; rfl) _
  · have hb : uB q.2.1 = true := bI_t hq
    iterate 6 (first | (refine J_step rfl rfl ?_) | (refine J_getf rfl rfl rfl (by assumption) rfl ?_))
    exact part2 _ (by rw [hb]; rfl) _
def rdB (l : List Row) (x : Int32) (k : Nat) : Nat := l.countP fun r => r.2.2.2.2.2.1 == x && decide (r.2.2.2.2.2.2 < (rAt l k).2.2.2.2.2.2)
set_option maxRecDepth 100000 in
set_option maxHeartbeats 2000000 in
theorem m_rider {h : AHp} {v : Nat → Int32} {A : Nat → Nat → Int32} {q : LQ} {x y : Int32} (H : MdAt h v A) (S : SI (A 0) q) : JM mi_X6_rider 1 0 0 [.ref 121, .int x, .int y] h (oj_is (.inl (some (.int (crRrow q.2.2.1 x y)))) h) := by
  have e0 := H.1
  have e1 := H.2.1
  have hl := S.2.2.2.2
  refine JM_of gd_X6_rider rfl (by decide +kernel) (Nat.le_of_ble_eq_true rfl) (oj_cats rfl) (by decide) ?_
  have inner : ∀ w k, k < q.2.2.1.length → (∀ z5, J mi_X6_rider 1 0 0 (oj_is (.inl (some (.int w))) h) 0 0 76 [some (.ref 121), some (.int x), some (.int y), some (.int (nI k)), some (.int (nI (rdB q.2.2.1 x k))), z5] [] h) → ∀ m j, m + j = q.2.2.1.length → J mi_X6_rider 1 0 0 (oj_is (.inl (some (.int w))) h) 0 0 19 [some (.ref 121), some (.int x), some (.int y), some (.int (nI k)), some (.int (nI ((q.2.2.1.take j).countP fun r => r.2.2.2.2.2.1 == x && decide (r.2.2.2.2.2.2 < (rAt q.2.2.1 k).2.2.2.2.2.2)))), some (.int (nI j))] [] h := by
    intro w k hk kk m
    induction m with
    | zero =>
      intro j hj
      obtain rfl : j = q.2.2.1.length := by omega
      repeat (first | (refine J_step rfl rfl ?_) | (refine J_getf rfl rfl rfl (by assumption) rfl ?_))
      refine J_rs 13 rfl e1 rfl (by decide) (by decide) S.2.1 ?_
      refine J_ic rfl (fun hq => ?_) (fun hq => absurd (Int32.le_refl _) hq)
      rw [ct_all]
      exact kk _
    | succ m ih =>
      intro j hj
      have hlt : j < q.2.2.1.length := by omega
      have hs := ih (j + 1) (by omega)
      rw [ct_succ hlt, nI_succ, ← rAt_eq hlt] at hs
      repeat (first | (refine J_step rfl rfl ?_) | (refine J_getf rfl rfl rfl (by assumption) rfl ?_))
      refine J_rs 13 rfl e1 rfl (by decide) (by decide) S.2.1 ?_
      refine J_ic rfl (fun hq => absurd hq (nI_ge (by omega) (by omega))) (fun hq => ?_)
      repeat (first | (refine J_step rfl rfl ?_) | (refine J_getf rfl rfl rfl (by assumption) rfl ?_))
      refine J_cV rfl rfl rfl rfl rfl (by assumption) rfl rfl rfl rfl rfl rfl (m_of (d := 0) (w := 4) H S hlt (by decide)) ?_
      repeat (first | (refine J_step rfl rfl ?_) | (refine J_getf rfl rfl rfl (by assumption) rfl ?_))
      refine J_ic rfl (fun hq => ?_) (fun hq => ?_)
      · have hq : ¬ (rAt q.2.2.1 j).2.2.2.2.2.1 = x := fun z => hq (add1_inj.mpr z)
        rw [if_neg (by simp [hq])] at hs
        iterate 5 (first | (refine J_step rfl rfl ?_) | (refine J_getf rfl rfl rfl (by assumption) rfl ?_))
        rw [Int32.add_zero]
        exact hs
      · have hq : (rAt q.2.2.1 j).2.2.2.2.2.1 = x := add1_inj.mp (Classical.not_not.mp hq)
        repeat (first | (refine J_step rfl rfl ?_) | (refine J_getf rfl rfl rfl (by assumption) rfl ?_))
        refine J_cV rfl rfl rfl rfl rfl (by assumption) rfl rfl rfl rfl rfl rfl (m_of (d := 0) (w := 5) H S hlt (by decide)) ?_
        repeat (first | (refine J_step rfl rfl ?_) | (refine J_getf rfl rfl rfl (by assumption) rfl ?_))
        refine J_cV rfl rfl rfl rfl rfl (by assumption) rfl rfl rfl rfl rfl rfl (m_of (d := 0) (w := 5) H S hk (by decide)) ?_
        refine J_ic rfl (fun hq2 => ?_) (fun hq2 => ?_)
        · have hq2 : ¬ (rAt q.2.2.1 j).2.2.2.2.2.2 < (rAt q.2.2.1 k).2.2.2.2.2.2 := Int32.not_lt.mpr hq2
          rw [if_neg (by simp [hq2])] at hs
          iterate 5 (first | (refine J_step rfl rfl ?_) | (refine J_getf rfl rfl rfl (by assumption) rfl ?_))
          rw [Int32.add_zero]
          exact hs
        · have hq2 : (rAt q.2.2.1 j).2.2.2.2.2.2 < (rAt q.2.2.1 k).2.2.2.2.2.2 := Int32.not_le.mp hq2
          rw [if_pos (by simp [hq, hq2]), nI_succ] at hs
          iterate 6 (first | (refine J_step rfl rfl ?_) | (refine J_getf rfl rfl rfl (by assumption) rfl ?_))
          exact hs
  have loop : ∀ m j, m + j = q.2.2.1.length → ∀ w, fstF (fun j => (rAt q.2.2.1 j).2.2.2.2.2.1 == x && nI (crBef q.2.2.1 j) == y) m j = w → ∀ z4 z5, J mi_X6_rider 1 0 0 (oj_is (.inl (some (.int w))) h) 0 0 2 [some (.ref 121), some (.int x), some (.int y), some (.int (nI j)), z4, z5] [] h := by
    intro m
    induction m with
    | zero =>
      intro j hj w hw z4 z5
      obtain rfl : j = q.2.2.1.length := by omega
      repeat (first | (refine J_step rfl rfl ?_) | (refine J_getf rfl rfl rfl (by assumption) rfl ?_))
      refine J_rs 13 rfl e1 rfl (by decide) (by decide) S.2.1 ?_
      refine J_ic rfl (fun hq => ?_) (fun hq => absurd (Int32.le_refl _) hq)
      repeat (first | (refine J_step rfl rfl ?_) | (refine J_getf rfl rfl rfl (by assumption) rfl ?_))
      exact J_iret rfl rfl rfl rfl ⟨by rw [← hw]; rfl, rfl⟩
    | succ m ih =>
      intro j hj w hw z4 z5
      have hlt : j < q.2.2.1.length := by omega
      rw [fstF] at hw
      repeat (first | (refine J_step rfl rfl ?_) | (refine J_getf rfl rfl rfl (by assumption) rfl ?_))
      refine J_rs 13 rfl e1 rfl (by decide) (by decide) S.2.1 ?_
      refine J_ic rfl (fun hq => absurd hq (nI_ge (by omega) (by omega))) (fun hq => ?_)
      iterate 4 (first | (refine J_step rfl rfl ?_) | (refine J_getf rfl rfl rfl (by assumption) rfl ?_))
      refine inner w j hlt (fun z5 => ?_) q.2.2.1.length 0 rfl
      repeat (first | (refine J_step rfl rfl ?_) | (refine J_getf rfl rfl rfl (by assumption) rfl ?_))
      refine J_cV rfl rfl rfl rfl rfl (by assumption) rfl rfl rfl rfl rfl rfl (m_of (d := 0) (w := 4) H S hlt (by decide)) ?_
      repeat (first | (refine J_step rfl rfl ?_) | (refine J_getf rfl rfl rfl (by assumption) rfl ?_))
      refine J_ic rfl (fun hq => ?_) (fun hq => ?_)
      · have hq : ¬ (rAt q.2.2.1 j).2.2.2.2.2.1 = x := fun z => hq (add1_inj.mpr z)
        rw [if_neg (by simp [hq])] at hw
        have hs := fun z4 z5 => ih (j + 1) (by omega) w hw z4 z5
        rw [nI_succ] at hs
        iterate 2 (first | (refine J_step rfl rfl ?_) | (refine J_getf rfl rfl rfl (by assumption) rfl ?_))
        exact hs _ _
      · have hq : (rAt q.2.2.1 j).2.2.2.2.2.1 = x := add1_inj.mp (Classical.not_not.mp hq)
        have hbe : rdB q.2.2.1 x j = crBef q.2.2.1 j := by unfold rdB crBef; rw [hq]
        rw [hbe]
        repeat (first | (refine J_step rfl rfl ?_) | (refine J_getf rfl rfl rfl (by assumption) rfl ?_))
        refine J_ic rfl (fun hq2 => ?_) (fun hq2 => ?_)
        · have hq2 : ¬ nI (crBef q.2.2.1 j) = y := hq2
          rw [if_neg (by simp [hq2])] at hw
          have hs := fun z4 z5 => ih (j + 1) (by omega) w hw z4 z5
          rw [nI_succ] at hs
          iterate 2 (first | (refine J_step rfl rfl ?_) | (refine J_getf rfl rfl rfl (by assumption) rfl ?_))
          exact hs _ _
        · have hq2 : nI (crBef q.2.2.1 j) = y := Classical.not_not.mp hq2
          rw [if_pos (by simp [hq, hq2])] at hw
          repeat (first | (refine J_step rfl rfl ?_) | (refine J_getf rfl rfl rfl (by assumption) rfl ?_))
          exact J_iret rfl rfl rfl rfl ⟨by rw [← hw], rfl⟩
  iterate 2 (first | (refine J_step rfl rfl ?_) | (refine J_getf rfl rfl rfl (by assumption) rfl ?_))
  exact loop _ 0 rfl _ rfl _ _
set_option maxRecDepth 100000 in
set_option maxHeartbeats 2000000 in
theorem m_time {h : AHp} {v : Nat → Int32} {A : Nat → Nat → Int32} {q : LQ} (H : MdAt h v A) (S : SI (A 0) q) : JM mi_X6_time 0 0 0 [.ref 121] h (fun r h' => r = .inl (some (.int (q.2.1 0))) ∧ MdP h (fset v 1 (0)) A h') := by
  have e0 := H.1
  have e1 := H.2.1
  have hl := S.2.2.2.2
  refine JM_of gd_X6_time rfl (by decide +kernel) (Nat.le_of_ble_eq_true rfl) (oj_cats rfl) (by decide) ?_
  repeat (first | (refine J_step rfl rfl ?_) | (refine J_getf rfl rfl rfl (by assumption) rfl ?_))
  refine J_putf rfl rfl rfl e0 rfl rfl (fun _ => rfl) rfl rfl ?_
  have H1 := H.fld (v' := fset v 1 0)
  refine J_heap (h2 := oj_up h 121 (rO (fset v 1 0))) rfl ?_
  generalize oj_up h 121 (rO (fset v 1 0)) = h1 at H1 ⊢
  clear e0 e1
  have e0 := H1.1.1
  have e1 := H1.1.2.1
  repeat (first | (refine J_step rfl rfl ?_) | (refine J_getf rfl rfl rfl (by assumption) rfl ?_))
  refine J_rs 0 rfl e1 rfl (by decide) (by decide) (S.1 0 (by decide)) ?_
  exact J_iret rfl rfl rfl rfl ⟨rfl, H1⟩
set_option maxRecDepth 100000 in
set_option maxHeartbeats 2000000 in
theorem m_capacity {h : AHp} {v : Nat → Int32} {A : Nat → Nat → Int32} {q : LQ} (H : MdAt h v A) (S : SI (A 0) q) : JM mi_X6_capacity 0 0 0 [.ref 121] h (fun r h' => r = .inl (some (.int (q.2.1 1))) ∧ MdP h (fset v 1 (0)) A h') := by
  have e0 := H.1
  have e1 := H.2.1
  have hl := S.2.2.2.2
  refine JM_of gd_X6_capacity rfl (by decide +kernel) (Nat.le_of_ble_eq_true rfl) (oj_cats rfl) (by decide) ?_
  repeat (first | (refine J_step rfl rfl ?_) | (refine J_getf rfl rfl rfl (by assumption) rfl ?_))
  refine J_putf rfl rfl rfl e0 rfl rfl (fun _ => rfl) rfl rfl ?_
  have H1 := H.fld (v' := fset v 1 0)
  refine J_heap (h2 := oj_up h 121 (rO (fset v 1 0))) rfl ?_
  generalize oj_up h 121 (rO (fset v 1 0)) = h1 at H1 ⊢
  clear e0 e1
  have e0 := H1.1.1
  have e1 := H1.1.2.1
  repeat (first | (refine J_step rfl rfl ?_) | (refine J_getf rfl rfl rfl (by assumption) rfl ?_))
  refine J_rs 1 rfl e1 rfl (by decide) (by decide) (S.1 1 (by decide)) ?_
  exact J_iret rfl rfl rfl rfl ⟨rfl, H1⟩
set_option maxRecDepth 100000 in
set_option maxHeartbeats 2000000 in
theorem m_heat {h : AHp} {v : Nat → Int32} {A : Nat → Nat → Int32} {q : LQ} (H : MdAt h v A) (S : SI (A 0) q) : JM mi_X6_heat 0 0 0 [.ref 121] h (fun r h' => r = .inl (some (.int (q.2.1 2))) ∧ MdP h (fset v 1 (0)) A h') := by
  have e0 := H.1
  have e1 := H.2.1
  have hl := S.2.2.2.2
  refine JM_of gd_X6_heat rfl (by decide +kernel) (Nat.le_of_ble_eq_true rfl) (oj_cats rfl) (by decide) ?_
  repeat (first | (refine J_step rfl rfl ?_) | (refine J_getf rfl rfl rfl (by assumption) rfl ?_))
  refine J_putf rfl rfl rfl e0 rfl rfl (fun _ => rfl) rfl rfl ?_
  have H1 := H.fld (v' := fset v 1 0)
  refine J_heap (h2 := oj_up h 121 (rO (fset v 1 0))) rfl ?_
  generalize oj_up h 121 (rO (fset v 1 0)) = h1 at H1 ⊢
  clear e0 e1
  have e0 := H1.1.1
  have e1 := H1.1.2.1
  repeat (first | (refine J_step rfl rfl ?_) | (refine J_getf rfl rfl rfl (by assumption) rfl ?_))
  refine J_rs 2 rfl e1 rfl (by decide) (by decide) (S.1 2 (by decide)) ?_
  exact J_iret rfl rfl rfl rfl ⟨rfl, H1⟩
set_option maxRecDepth 100000 in
set_option maxHeartbeats 2000000 in
theorem m_came {h : AHp} {v : Nat → Int32} {A : Nat → Nat → Int32} {q : LQ} (H : MdAt h v A) (S : SI (A 0) q) : JM mi_X6_came 0 0 0 [.ref 121] h (fun r h' => r = .inl (some (.int (q.2.1 6))) ∧ MdP h (fset v 1 (0)) A h') := by
  have e0 := H.1
  have e1 := H.2.1
  have hl := S.2.2.2.2
  refine JM_of gd_X6_came rfl (by decide +kernel) (Nat.le_of_ble_eq_true rfl) (oj_cats rfl) (by decide) ?_
  repeat (first | (refine J_step rfl rfl ?_) | (refine J_getf rfl rfl rfl (by assumption) rfl ?_))
  refine J_putf rfl rfl rfl e0 rfl rfl (fun _ => rfl) rfl rfl ?_
  have H1 := H.fld (v' := fset v 1 0)
  refine J_heap (h2 := oj_up h 121 (rO (fset v 1 0))) rfl ?_
  generalize oj_up h 121 (rO (fset v 1 0)) = h1 at H1 ⊢
  clear e0 e1
  have e0 := H1.1.1
  have e1 := H1.1.2.1
  repeat (first | (refine J_step rfl rfl ?_) | (refine J_getf rfl rfl rfl (by assumption) rfl ?_))
  refine J_rs 6 rfl e1 rfl (by decide) (by decide) (S.1 6 (by decide)) ?_
  exact J_iret rfl rfl rfl rfl ⟨rfl, H1⟩
set_option maxRecDepth 100000 in
set_option maxHeartbeats 2000000 in
theorem m_arrived {h : AHp} {v : Nat → Int32} {A : Nat → Nat → Int32} {q : LQ} (H : MdAt h v A) (S : SI (A 0) q) : JM mi_X6_arrived 0 0 0 [.ref 121] h (fun r h' => r = .inl (some (.int (q.2.1 7))) ∧ MdP h (fset v 1 (0)) A h') := by
  have e0 := H.1
  have e1 := H.2.1
  have hl := S.2.2.2.2
  refine JM_of gd_X6_arrived rfl (by decide +kernel) (Nat.le_of_ble_eq_true rfl) (oj_cats rfl) (by decide) ?_
  repeat (first | (refine J_step rfl rfl ?_) | (refine J_getf rfl rfl rfl (by assumption) rfl ?_))
  refine J_putf rfl rfl rfl e0 rfl rfl (fun _ => rfl) rfl rfl ?_
  have H1 := H.fld (v' := fset v 1 0)
  refine J_heap (h2 := oj_up h 121 (rO (fset v 1 0))) rfl ?_
  generalize oj_up h 121 (rO (fset v 1 0)) = h1 at H1 ⊢
  clear e0 e1
  have e0 := H1.1.1
  have e1 := H1.1.2.1
  repeat (first | (refine J_step rfl rfl ?_) | (refine J_getf rfl rfl rfl (by assumption) rfl ?_))
  refine J_rs 7 rfl e1 rfl (by decide) (by decide) (S.1 7 (by decide)) ?_
  exact J_iret rfl rfl rfl rfl ⟨rfl, H1⟩
set_option maxRecDepth 100000 in
set_option maxHeartbeats 2000000 in
theorem m_meetings {h : AHp} {v : Nat → Int32} {A : Nat → Nat → Int32} {q : LQ} (H : MdAt h v A) (S : SI (A 0) q) : JM mi_X6_meetings 0 0 0 [.ref 121] h (fun r h' => r = .inl (some (.int (q.2.1 9))) ∧ MdP h (fset v 1 (0)) A h') := by
  have e0 := H.1
  have e1 := H.2.1
  have hl := S.2.2.2.2
  refine JM_of gd_X6_meetings rfl (by decide +kernel) (Nat.le_of_ble_eq_true rfl) (oj_cats rfl) (by decide) ?_
  repeat (first | (refine J_step rfl rfl ?_) | (refine J_getf rfl rfl rfl (by assumption) rfl ?_))
  refine J_putf rfl rfl rfl e0 rfl rfl (fun _ => rfl) rfl rfl ?_
  have H1 := H.fld (v' := fset v 1 0)
  refine J_heap (h2 := oj_up h 121 (rO (fset v 1 0))) rfl ?_
  generalize oj_up h 121 (rO (fset v 1 0)) = h1 at H1 ⊢
  clear e0 e1
  have e0 := H1.1.1
  have e1 := H1.1.2.1
  repeat (first | (refine J_step rfl rfl ?_) | (refine J_getf rfl rfl rfl (by assumption) rfl ?_))
  refine J_rs 9 rfl e1 rfl (by decide) (by decide) (S.1 9 (by decide)) ?_
  exact J_iret rfl rfl rfl rfl ⟨rfl, H1⟩
set_option maxRecDepth 100000 in
set_option maxHeartbeats 2000000 in
theorem m_pickers {h : AHp} {v : Nat → Int32} {A : Nat → Nat → Int32} {q : LQ} (H : MdAt h v A) (S : SI (A 0) q) : JM mi_X6_pickers 0 0 0 [.ref 121] h (fun r h' => r = .inl (some (.int (nI q.2.2.1.length))) ∧ MdP h (fset v 1 (0)) A h') := by
  have e0 := H.1
  have e1 := H.2.1
  have hl := S.2.2.2.2
  refine JM_of gd_X6_pickers rfl (by decide +kernel) (Nat.le_of_ble_eq_true rfl) (oj_cats rfl) (by decide) ?_
  repeat (first | (refine J_step rfl rfl ?_) | (refine J_getf rfl rfl rfl (by assumption) rfl ?_))
  refine J_putf rfl rfl rfl e0 rfl rfl (fun _ => rfl) rfl rfl ?_
  have H1 := H.fld (v' := fset v 1 0)
  refine J_heap (h2 := oj_up h 121 (rO (fset v 1 0))) rfl ?_
  generalize oj_up h 121 (rO (fset v 1 0)) = h1 at H1 ⊢
  clear e0 e1
  have e0 := H1.1.1
  have e1 := H1.1.2.1
  repeat (first | (refine J_step rfl rfl ?_) | (refine J_getf rfl rfl rfl (by assumption) rfl ?_))
  refine J_rs 13 rfl e1 rfl (by decide) (by decide) S.2.1 ?_
  exact J_iret rfl rfl rfl rfl ⟨rfl, H1⟩
set_option maxRecDepth 100000 in
set_option maxHeartbeats 2000000 in
theorem m_energy {h : AHp} {v : Nat → Int32} {A : Nat → Nat → Int32} {q : LQ} (H : MdAt h v A) (S : SI (A 0) q) : JM mi_X6_energy 0 0 0 [.ref 121] h (fun r h' => r = .inl (some (.long ((q.2.1 10).toInt64))) ∧ MdP h (fset v 1 (0)) A h') := by
  have e0 := H.1
  have e1 := H.2.1
  have hl := S.2.2.2.2
  refine JM_of gd_X6_energy rfl (by decide +kernel) (Nat.le_of_ble_eq_true rfl) (oj_cats rfl) (by decide) ?_
  repeat (first | (refine J_step rfl rfl ?_) | (refine J_getf rfl rfl rfl (by assumption) rfl ?_))
  refine J_putf rfl rfl rfl e0 rfl rfl (fun _ => rfl) rfl rfl ?_
  have H1 := H.fld (v' := fset v 1 0)
  refine J_heap (h2 := oj_up h 121 (rO (fset v 1 0))) rfl ?_
  generalize oj_up h 121 (rO (fset v 1 0)) = h1 at H1 ⊢
  clear e0 e1
  have e0 := H1.1.1
  have e1 := H1.1.2.1
  repeat (first | (refine J_step rfl rfl ?_) | (refine J_getf rfl rfl rfl (by assumption) rfl ?_))
  refine J_rs 10 rfl e1 rfl (by decide) (by decide) (S.1 10 (by decide)) ?_
  repeat (first | (refine J_step rfl rfl ?_) | (refine J_getf rfl rfl rfl (by assumption) rfl ?_))
  exact J_ret (v := some (.long _)) rfl (decide_eq_true (p := mR mi_X6_energy = some .long) rfl) (Nat.zero_le _) (Nat.zero_le _) ⟨rfl, H1⟩ rfl
set_option maxRecDepth 100000 in
set_option maxHeartbeats 2000000 in
theorem m_isBlocked {h : AHp} {v : Nat → Int32} {A : Nat → Nat → Int32} {q : LQ} (H : MdAt h v A) (S : SI (A 0) q) (hb : gB q.2.1) : JM mi_X6_isBlocked 0 0 0 [.ref 121] h (fun r h' => r = .inl (some (.int (q.2.1 3))) ∧ MdP h (fset v 1 (0)) A h') := by
  have e0 := H.1
  have e1 := H.2.1
  have hl := S.2.2.2.2
  refine JM_of gd_X6_isBlocked rfl (by decide +kernel) (Nat.le_of_ble_eq_true rfl) (oj_cats rfl) (by decide) ?_
  obtain ⟨b, hb⟩ := hb
  repeat (first | (refine J_step rfl rfl ?_) | (refine J_getf rfl rfl rfl (by assumption) rfl ?_))
  refine J_putf rfl rfl rfl e0 rfl rfl (fun _ => rfl) rfl rfl ?_
  have H1 := H.fld (v' := fset v 1 0)
  refine J_heap (h2 := oj_up h 121 (rO (fset v 1 0))) rfl ?_
  generalize oj_up h 121 (rO (fset v 1 0)) = h1 at H1 ⊢
  clear e0 e1
  have e0 := H1.1.1
  have e1 := H1.1.2.1
  repeat (first | (refine J_step rfl rfl ?_) | (refine J_getf rfl rfl rfl (by assumption) rfl ?_))
  refine J_rs 3 rfl e1 rfl (by decide) (by decide) ((S.1 3 (by decide)).trans hb) ?_
  repeat (first | (refine J_step rfl rfl ?_) | (refine J_getf rfl rfl rfl (by assumption) rfl ?_))
  refine J_ic rfl (fun hq => ?_) (fun hq => ?_)
  · have hb2 : b = false := by cases b with
      | false => rfl
      | true => exact absurd rfl hq
    repeat (first | (refine J_step rfl rfl ?_) | (refine J_getf rfl rfl rfl (by assumption) rfl ?_))
    exact J_zret rfl rfl rfl rfl false rfl ⟨by rw [hb, hb2], H1⟩
  · have hb2 : b = true := by cases b with
      | true => rfl
      | false => exact absurd (show ¬ bI false = 1 by decide) hq
    repeat (first | (refine J_step rfl rfl ?_) | (refine J_getf rfl rfl rfl (by assumption) rfl ?_))
    exact J_zret rfl rfl rfl rfl true rfl ⟨by rw [hb, hb2], H1⟩
set_option maxRecDepth 100000 in
set_option maxHeartbeats 2000000 in
theorem m_imbalance {h : AHp} {v : Nat → Int32} {A : Nat → Nat → Int32} {q : LQ} (H : MdAt h v A) (S : SI (A 0) q) (hu : gU q.2.1) (ha : ∀ x, x = 0 ∨ x = 1 → ∃ g, g < 6 ∧ sAhead q.2.1 (uB q.2.1) x = nI g) : JM mi_X6_imbalance 3 0 0 [.ref 121] h (fun r h' => r = .inl (some (.int (sImb q.2.1 (uB q.2.1) q.1 q.2.2.1))) ∧ MdP h (fset v 1 (0)) A h') := by
  have e0 := H.1
  have e1 := H.2.1
  have hl := S.2.2.2.2
  refine JM_of gd_X6_imbalance rfl (by decide +kernel) (Nat.le_of_ble_eq_true rfl) (oj_cats rfl) (by decide) ?_
  repeat (first | (refine J_step rfl rfl ?_) | (refine J_getf rfl rfl rfl (by assumption) rfl ?_))
  refine J_putf rfl rfl rfl e0 rfl rfl (fun _ => rfl) rfl rfl ?_
  have H1 := H.fld (v' := fset v 1 0)
  refine J_heap (h2 := oj_up h 121 (rO (fset v 1 0))) rfl ?_
  generalize oj_up h 121 (rO (fset v 1 0)) = h1 at H1 ⊢
  clear e0 e1
  have e0 := H1.1.1
  have e1 := H1.1.2.1
  repeat (first | (refine J_step rfl rfl ?_) | (refine J_getf rfl rfl rfl (by assumption) rfl ?_))
  refine J_cV rfl rfl rfl rfl rfl (by assumption) rfl rfl rfl rfl rfl rfl (m_pull H1.1 S hu ha) ?_
  exact J_iret rfl rfl rfl rfl ⟨rfl, H1⟩
set_option maxRecDepth 100000 in
set_option maxHeartbeats 2000000 in
theorem m_cameByParts {h : AHp} {v : Nat → Int32} {A : Nat → Nat → Int32} {q : LQ} (H : MdAt h v A) (S : SI (A 0) q) : JM mi_X6_cameByParts 0 0 0 [.ref 121] h (fun r h' => r = .inl (some (.int (nI q.2.2.1.length + q.2.1 7 + q.2.1 8))) ∧ MdP h (fset v 1 (0)) A h') := by
  have e0 := H.1
  have e1 := H.2.1
  have hl := S.2.2.2.2
  refine JM_of gd_X6_cameByParts rfl (by decide +kernel) (Nat.le_of_ble_eq_true rfl) (oj_cats rfl) (by decide) ?_
  repeat (first | (refine J_step rfl rfl ?_) | (refine J_getf rfl rfl rfl (by assumption) rfl ?_))
  refine J_putf rfl rfl rfl e0 rfl rfl (fun _ => rfl) rfl rfl ?_
  have H1 := H.fld (v' := fset v 1 0)
  refine J_heap (h2 := oj_up h 121 (rO (fset v 1 0))) rfl ?_
  generalize oj_up h 121 (rO (fset v 1 0)) = h1 at H1 ⊢
  clear e0 e1
  have e0 := H1.1.1
  have e1 := H1.1.2.1
  repeat (first | (refine J_step rfl rfl ?_) | (refine J_getf rfl rfl rfl (by assumption) rfl ?_))
  refine J_rs 13 rfl e1 rfl (by decide) (by decide) S.2.1 ?_
  repeat (first | (refine J_step rfl rfl ?_) | (refine J_getf rfl rfl rfl (by assumption) rfl ?_))
  refine J_rs 7 rfl e1 rfl (by decide) (by decide) (S.1 7 (by decide)) ?_
  repeat (first | (refine J_step rfl rfl ?_) | (refine J_getf rfl rfl rfl (by assumption) rfl ?_))
  refine J_rs 8 rfl e1 rfl (by decide) (by decide) (S.1 8 (by decide)) ?_
  repeat (first | (refine J_step rfl rfl ?_) | (refine J_getf rfl rfl rfl (by assumption) rfl ?_))
  exact J_iret rfl rfl rfl rfl ⟨rfl, H1⟩
set_option maxRecDepth 100000 in
set_option maxHeartbeats 2000000 in
theorem m_place {h : AHp} {v : Nat → Int32} {A : Nat → Nat → Int32} {q : LQ} {x : Int32} (H : MdAt h v A) (S : SI (A 0) q) : JM mi_X6_place 2 0 0 [.ref 121, .int x] h (fun r h' => r = .inl (some (.int (if 0 ≤ x ∧ x ≤ 1 then sPl q.2.1 x else 0))) ∧ MdP h (fset v 1 (if 0 ≤ x ∧ x ≤ 1 then 0 else 1)) A h') := by
  have e0 := H.1
  have e1 := H.2.1
  have hl := S.2.2.2.2
  refine JM_of gd_X6_place rfl (by decide +kernel) (Nat.le_of_ble_eq_true rfl) (oj_cats rfl) (by decide) ?_
  repeat (first | (refine J_step rfl rfl ?_) | (refine J_getf rfl rfl rfl (by assumption) rfl ?_))
  refine J_cS rfl rfl rfl rfl rfl rfl rfl rfl rfl rfl rfl (m_isCabin) ?_
  by_cases hv : 0 ≤ x ∧ x ≤ 1
  · simp only [if_pos hv]
    rw [decide_eq_true hv]
    refine J_if (y := 0) rfl (fun _ => ?_) (fun hq => absurd (show ¬ bI true = 0 by decide) hq)
    repeat (first | (refine J_step rfl rfl ?_) | (refine J_getf rfl rfl rfl (by assumption) rfl ?_))
    refine J_callV rfl rfl rfl rfl rfl (by assumption) rfl rfl rfl rfl (m_thrF (d := 0) (MdP.rf H)) (Nat.zero_le _) (Nat.zero_le _) (fun E h9 q => by cases q.1) (fun v9 h1 q => ?_)
    obtain ⟨q1, H1⟩ := q
    cases q1
    clear e0 e1
    have e0 := H1.1.1
    have e1 := H1.1.2.1
    refine J_if (y := 0) rfl (fun _ => ?_) (fun hq => absurd rfl hq)
    repeat (first | (refine J_step rfl rfl ?_) | (refine J_getf rfl rfl rfl (by assumption) rfl ?_))
    refine J_cV rfl rfl rfl rfl rfl (by assumption) rfl rfl rfl rfl rfl rfl (m_placeOf (d := 0) H1.1 S) ?_
    exact J_iret rfl rfl rfl rfl ⟨rfl, H1⟩
  · simp only [if_neg hv]
    rw [decide_eq_false hv]
    refine J_if (y := 0) rfl (fun hq => absurd rfl hq) (fun _ => ?_)
    repeat (first | (refine J_step rfl rfl ?_) | (refine J_getf rfl rfl rfl (by assumption) rfl ?_))
    refine J_callV rfl rfl rfl rfl rfl (by assumption) rfl rfl rfl rfl (m_thrT (d := 0) (MdP.rf H)) (Nat.zero_le _) (Nat.zero_le _) (fun E h9 q => by cases q.1) (fun v9 h1 q => ?_)
    obtain ⟨q1, H1⟩ := q
    cases q1
    clear e0 e1
    have e0 := H1.1.1
    have e1 := H1.1.2.1
    refine J_if (y := 0) rfl (fun hq => absurd hq (show ¬ (1 : Int32) = 0 by decide)) (fun _ => ?_)
    repeat (first | (refine J_step rfl rfl ?_) | (refine J_getf rfl rfl rfl (by assumption) rfl ?_))
    exact J_iret rfl rfl rfl rfl ⟨rfl, H1⟩
set_option maxRecDepth 100000 in
set_option maxHeartbeats 2000000 in
theorem m_nextSegment {h : AHp} {v : Nat → Int32} {A : Nat → Nat → Int32} {q : LQ} {x : Int32} (H : MdAt h v A) (S : SI (A 0) q) (hu : gU q.2.1) : JM mi_X6_nextSegment 2 0 0 [.ref 121, .int x] h (fun r h' => r = .inl (some (.int (if 0 ≤ x ∧ x ≤ 1 then sAhead q.2.1 (uB q.2.1) x else 0))) ∧ MdP h (fset v 1 (if 0 ≤ x ∧ x ≤ 1 then 0 else 1)) A h') := by
  have e0 := H.1
  have e1 := H.2.1
  have hl := S.2.2.2.2
  refine JM_of gd_X6_nextSegment rfl (by decide +kernel) (Nat.le_of_ble_eq_true rfl) (oj_cats rfl) (by decide) ?_
  repeat (first | (refine J_step rfl rfl ?_) | (refine J_getf rfl rfl rfl (by assumption) rfl ?_))
  refine J_cS rfl rfl rfl rfl rfl rfl rfl rfl rfl rfl rfl (m_isCabin) ?_
  by_cases hv : 0 ≤ x ∧ x ≤ 1
  · simp only [if_pos hv]
    rw [decide_eq_true hv]
    refine J_if (y := 0) rfl (fun _ => ?_) (fun hq => absurd (show ¬ bI true = 0 by decide) hq)
    repeat (first | (refine J_step rfl rfl ?_) | (refine J_getf rfl rfl rfl (by assumption) rfl ?_))
    refine J_callV rfl rfl rfl rfl rfl (by assumption) rfl rfl rfl rfl (m_thrF (d := 0) (MdP.rf H)) (Nat.zero_le _) (Nat.zero_le _) (fun E h9 q => by cases q.1) (fun v9 h1 q => ?_)
    obtain ⟨q1, H1⟩ := q
    cases q1
    clear e0 e1
    have e0 := H1.1.1
    have e1 := H1.1.2.1
    refine J_if (y := 0) rfl (fun _ => ?_) (fun hq => absurd rfl hq)
    repeat (first | (refine J_step rfl rfl ?_) | (refine J_getf rfl rfl rfl (by assumption) rfl ?_))
    refine J_cV rfl rfl rfl rfl rfl (by assumption) rfl rfl rfl rfl rfl rfl (m_ahead H1.1 S hu) ?_
    exact J_iret rfl rfl rfl rfl ⟨rfl, H1⟩
  · simp only [if_neg hv]
    rw [decide_eq_false hv]
    refine J_if (y := 0) rfl (fun hq => absurd rfl hq) (fun _ => ?_)
    repeat (first | (refine J_step rfl rfl ?_) | (refine J_getf rfl rfl rfl (by assumption) rfl ?_))
    refine J_callV rfl rfl rfl rfl rfl (by assumption) rfl rfl rfl rfl (m_thrT (d := 0) (MdP.rf H)) (Nat.zero_le _) (Nat.zero_le _) (fun E h9 q => by cases q.1) (fun v9 h1 q => ?_)
    obtain ⟨q1, H1⟩ := q
    cases q1
    clear e0 e1
    have e0 := H1.1.1
    have e1 := H1.1.2.1
    refine J_if (y := 0) rfl (fun hq => absurd hq (show ¬ (1 : Int32) = 0 by decide)) (fun _ => ?_)
    repeat (first | (refine J_step rfl rfl ?_) | (refine J_getf rfl rfl rfl (by assumption) rfl ?_))
    exact J_iret rfl rfl rfl rfl ⟨rfl, H1⟩
set_option maxRecDepth 100000 in
set_option maxHeartbeats 2000000 in
theorem m_cabinWeight {h : AHp} {v : Nat → Int32} {A : Nat → Nat → Int32} {q : LQ} {x : Int32} (H : MdAt h v A) (S : SI (A 0) q) : JM mi_X6_cabinWeight 2 0 0 [.ref 121, .int x] h (fun r h' => r = .inl (some (.int (if 0 ≤ x ∧ x ≤ 1 then crFull q.2.2.1 x else 0))) ∧ MdP h (fset v 1 (if 0 ≤ x ∧ x ≤ 1 then 0 else 1)) A h') := by
  have e0 := H.1
  have e1 := H.2.1
  have hl := S.2.2.2.2
  refine JM_of gd_X6_cabinWeight rfl (by decide +kernel) (Nat.le_of_ble_eq_true rfl) (oj_cats rfl) (by decide) ?_
  repeat (first | (refine J_step rfl rfl ?_) | (refine J_getf rfl rfl rfl (by assumption) rfl ?_))
  refine J_cS rfl rfl rfl rfl rfl rfl rfl rfl rfl rfl rfl (m_isCabin) ?_
  by_cases hv : 0 ≤ x ∧ x ≤ 1
  · simp only [if_pos hv]
    rw [decide_eq_true hv]
    refine J_if (y := 0) rfl (fun _ => ?_) (fun hq => absurd (show ¬ bI true = 0 by decide) hq)
    repeat (first | (refine J_step rfl rfl ?_) | (refine J_getf rfl rfl rfl (by assumption) rfl ?_))
    refine J_callV rfl rfl rfl rfl rfl (by assumption) rfl rfl rfl rfl (m_thrF (d := 0) (MdP.rf H)) (Nat.zero_le _) (Nat.zero_le _) (fun E h9 q => by cases q.1) (fun v9 h1 q => ?_)
    obtain ⟨q1, H1⟩ := q
    cases q1
    clear e0 e1
    have e0 := H1.1.1
    have e1 := H1.1.2.1
    refine J_if (y := 0) rfl (fun _ => ?_) (fun hq => absurd rfl hq)
    repeat (first | (refine J_step rfl rfl ?_) | (refine J_getf rfl rfl rfl (by assumption) rfl ?_))
    refine J_cV rfl rfl rfl rfl rfl (by assumption) rfl rfl rfl rfl rfl rfl (m_heavy H1.1 S) ?_
    exact J_iret rfl rfl rfl rfl ⟨rfl, H1⟩
  · simp only [if_neg hv]
    rw [decide_eq_false hv]
    refine J_if (y := 0) rfl (fun hq => absurd rfl hq) (fun _ => ?_)
    repeat (first | (refine J_step rfl rfl ?_) | (refine J_getf rfl rfl rfl (by assumption) rfl ?_))
    refine J_callV rfl rfl rfl rfl rfl (by assumption) rfl rfl rfl rfl (m_thrT (d := 0) (MdP.rf H)) (Nat.zero_le _) (Nat.zero_le _) (fun E h9 q => by cases q.1) (fun v9 h1 q => ?_)
    obtain ⟨q1, H1⟩ := q
    cases q1
    clear e0 e1
    have e0 := H1.1.1
    have e1 := H1.1.2.1
    refine J_if (y := 0) rfl (fun hq => absurd hq (show ¬ (1 : Int32) = 0 by decide)) (fun _ => ?_)
    repeat (first | (refine J_step rfl rfl ?_) | (refine J_getf rfl rfl rfl (by assumption) rfl ?_))
    exact J_iret rfl rfl rfl rfl ⟨rfl, H1⟩
set_option maxRecDepth 100000 in
set_option maxHeartbeats 2000000 in
theorem m_riders {h : AHp} {v : Nat → Int32} {A : Nat → Nat → Int32} {q : LQ} {x : Int32} (H : MdAt h v A) (S : SI (A 0) q) : JM mi_X6_riders 2 0 0 [.ref 121, .int x] h (fun r h' => r = .inl (some (.int (if 0 ≤ x ∧ x ≤ 1 then nI (crRid q.2.2.1 x) else 0))) ∧ MdP h (fset v 1 (if 0 ≤ x ∧ x ≤ 1 then 0 else 1)) A h') := by
  have e0 := H.1
  have e1 := H.2.1
  have hl := S.2.2.2.2
  refine JM_of gd_X6_riders rfl (by decide +kernel) (Nat.le_of_ble_eq_true rfl) (oj_cats rfl) (by decide) ?_
  repeat (first | (refine J_step rfl rfl ?_) | (refine J_getf rfl rfl rfl (by assumption) rfl ?_))
  refine J_cS rfl rfl rfl rfl rfl rfl rfl rfl rfl rfl rfl (m_isCabin) ?_
  by_cases hv : 0 ≤ x ∧ x ≤ 1
  · simp only [if_pos hv]
    rw [decide_eq_true hv]
    refine J_if (y := 0) rfl (fun _ => ?_) (fun hq => absurd (show ¬ bI true = 0 by decide) hq)
    repeat (first | (refine J_step rfl rfl ?_) | (refine J_getf rfl rfl rfl (by assumption) rfl ?_))
    refine J_callV rfl rfl rfl rfl rfl (by assumption) rfl rfl rfl rfl (m_thrF (d := 0) (MdP.rf H)) (Nat.zero_le _) (Nat.zero_le _) (fun E h9 q => by cases q.1) (fun v9 h1 q => ?_)
    obtain ⟨q1, H1⟩ := q
    cases q1
    clear e0 e1
    have e0 := H1.1.1
    have e1 := H1.1.2.1
    refine J_if (y := 0) rfl (fun _ => ?_) (fun hq => absurd rfl hq)
    repeat (first | (refine J_step rfl rfl ?_) | (refine J_getf rfl rfl rfl (by assumption) rfl ?_))
    refine J_cV rfl rfl rfl rfl rfl (by assumption) rfl rfl rfl rfl rfl rfl (m_inCabin H1.1 S) ?_
    exact J_iret rfl rfl rfl rfl ⟨rfl, H1⟩
  · simp only [if_neg hv]
    rw [decide_eq_false hv]
    refine J_if (y := 0) rfl (fun hq => absurd rfl hq) (fun _ => ?_)
    repeat (first | (refine J_step rfl rfl ?_) | (refine J_getf rfl rfl rfl (by assumption) rfl ?_))
    refine J_callV rfl rfl rfl rfl rfl (by assumption) rfl rfl rfl rfl (m_thrT (d := 0) (MdP.rf H)) (Nat.zero_le _) (Nat.zero_le _) (fun E h9 q => by cases q.1) (fun v9 h1 q => ?_)
    obtain ⟨q1, H1⟩ := q
    cases q1
    clear e0 e1
    have e0 := H1.1.1
    have e1 := H1.1.2.1
    refine J_if (y := 0) rfl (fun hq => absurd hq (show ¬ (1 : Int32) = 0 by decide)) (fun _ => ?_)
    repeat (first | (refine J_step rfl rfl ?_) | (refine J_getf rfl rfl rfl (by assumption) rfl ?_))
    exact J_iret rfl rfl rfl rfl ⟨rfl, H1⟩
set_option maxRecDepth 100000 in
set_option maxHeartbeats 2000000 in
theorem m_waiting {h : AHp} {v : Nat → Int32} {A : Nat → Nat → Int32} {q : LQ} {x : Int32} (H : MdAt h v A) (S : SI (A 0) q) : JM mi_X6_waiting 3 0 0 [.ref 121, .int x] h (fun r h' => r = .inl (some (.int (if 0 ≤ x ∧ x ≤ 6 then nI (crWtg q.2.2.1 x) else 0))) ∧ MdP h (fset v 1 (if 0 ≤ x ∧ x ≤ 6 then 0 else 1)) A h') := by
  have e0 := H.1
  have e1 := H.2.1
  have hl := S.2.2.2.2
  refine JM_of gd_X6_waiting rfl (by decide +kernel) (Nat.le_of_ble_eq_true rfl) (oj_cats rfl) (by decide) ?_
  repeat (first | (refine J_step rfl rfl ?_) | (refine J_getf rfl rfl rfl (by assumption) rfl ?_))
  refine J_cS rfl rfl rfl rfl rfl rfl rfl rfl rfl rfl rfl (m_isStation) ?_
  by_cases hv : 0 ≤ x ∧ x ≤ 6
  · simp only [if_pos hv]
    rw [decide_eq_true hv]
    refine J_if (y := 0) rfl (fun _ => ?_) (fun hq => absurd (show ¬ bI true = 0 by decide) hq)
    repeat (first | (refine J_step rfl rfl ?_) | (refine J_getf rfl rfl rfl (by assumption) rfl ?_))
    refine J_callV rfl rfl rfl rfl rfl (by assumption) rfl rfl rfl rfl (m_thrF (d := 0) (MdP.rf H)) (Nat.zero_le _) (Nat.zero_le _) (fun E h9 q => by cases q.1) (fun v9 h1 q => ?_)
    obtain ⟨q1, H1⟩ := q
    cases q1
    clear e0 e1
    have e0 := H1.1.1
    have e1 := H1.1.2.1
    refine J_if (y := 0) rfl (fun _ => ?_) (fun hq => absurd rfl hq)
    repeat (first | (refine J_step rfl rfl ?_) | (refine J_getf rfl rfl rfl (by assumption) rfl ?_))
    refine J_cV rfl rfl rfl rfl rfl (by assumption) rfl rfl rfl rfl rfl rfl (m_many H1.1 S) ?_
    exact J_iret rfl rfl rfl rfl ⟨rfl, H1⟩
  · simp only [if_neg hv]
    rw [decide_eq_false hv]
    refine J_if (y := 0) rfl (fun hq => absurd rfl hq) (fun _ => ?_)
    repeat (first | (refine J_step rfl rfl ?_) | (refine J_getf rfl rfl rfl (by assumption) rfl ?_))
    refine J_callV rfl rfl rfl rfl rfl (by assumption) rfl rfl rfl rfl (m_thrT (d := 0) (MdP.rf H)) (Nat.zero_le _) (Nat.zero_le _) (fun E h9 q => by cases q.1) (fun v9 h1 q => ?_)
    obtain ⟨q1, H1⟩ := q
    cases q1
    clear e0 e1
    have e0 := H1.1.1
    have e1 := H1.1.2.1
    refine J_if (y := 0) rfl (fun hq => absurd hq (show ¬ (1 : Int32) = 0 by decide)) (fun _ => ?_)
    repeat (first | (refine J_step rfl rfl ?_) | (refine J_getf rfl rfl rfl (by assumption) rfl ?_))
    exact J_iret rfl rfl rfl rfl ⟨rfl, H1⟩
set_option maxRecDepth 100000 in
set_option maxHeartbeats 2000000 in
theorem m_slope {h : AHp} {v : Nat → Int32} {A : Nat → Nat → Int32} {q : LQ} {x : Int32} (H : MdAt h v A) (S : SI (A 0) q) : JM mi_X6_slope 2 0 0 [.ref 121, .int x] h (fun r h' => r = .inl (some (.int (if 0 ≤ x ∧ x ≤ 5 then q.1 x.toNatClampNeg else 0))) ∧ MdP h (fset v 1 (if 0 ≤ x ∧ x ≤ 5 then 0 else 1)) A h') := by
  have e0 := H.1
  have e1 := H.2.1
  have hl := S.2.2.2.2
  refine JM_of gd_X6_slope rfl (by decide +kernel) (Nat.le_of_ble_eq_true rfl) (oj_cats rfl) (by decide) ?_
  repeat (first | (refine J_step rfl rfl ?_) | (refine J_getf rfl rfl rfl (by assumption) rfl ?_))
  refine J_cS rfl rfl rfl rfl rfl rfl rfl rfl rfl rfl rfl (m_isIn (d := 0)) ?_
  by_cases hv : 0 ≤ x ∧ x ≤ 5
  · simp only [if_pos hv]
    rw [decide_eq_true hv]
    refine J_if (y := 0) rfl (fun _ => ?_) (fun hq => absurd (show ¬ bI true = 0 by decide) hq)
    repeat (first | (refine J_step rfl rfl ?_) | (refine J_getf rfl rfl rfl (by assumption) rfl ?_))
    refine J_callV rfl rfl rfl rfl rfl (by assumption) rfl rfl rfl rfl (m_thrF (d := 0) (MdP.rf H)) (Nat.zero_le _) (Nat.zero_le _) (fun E h9 q => by cases q.1) (fun v9 h1 q => ?_)
    obtain ⟨q1, H1⟩ := q
    cases q1
    clear e0 e1
    have e0 := H1.1.1
    have e1 := H1.1.2.1
    refine J_if (y := 0) rfl (fun _ => ?_) (fun hq => absurd rfl hq)
    repeat (first | (refine J_step rfl rfl ?_) | (refine J_getf rfl rfl rfl (by assumption) rfl ?_))
    have hx5 : x.toNatClampNeg < 6 := by
      have t1 := Int32.le_iff_toInt_le.mp hv.2
      have t2 : x.toInt ≤ 5 := by simpa using t1
      unfold Int32.toNatClampNeg
      omega
    refine J_rs (14 + x.toNatClampNeg) rfl e1 (by rw [← nI_add, i32_clamp hv.1]; rfl) (by omega) (by decide) (S.2.2.1 _ hx5) ?_
    exact J_iret rfl rfl rfl rfl ⟨rfl, H1⟩
  · simp only [if_neg hv]
    rw [decide_eq_false hv]
    refine J_if (y := 0) rfl (fun hq => absurd rfl hq) (fun _ => ?_)
    repeat (first | (refine J_step rfl rfl ?_) | (refine J_getf rfl rfl rfl (by assumption) rfl ?_))
    refine J_callV rfl rfl rfl rfl rfl (by assumption) rfl rfl rfl rfl (m_thrT (d := 0) (MdP.rf H)) (Nat.zero_le _) (Nat.zero_le _) (fun E h9 q => by cases q.1) (fun v9 h1 q => ?_)
    obtain ⟨q1, H1⟩ := q
    cases q1
    clear e0 e1
    have e0 := H1.1.1
    have e1 := H1.1.2.1
    refine J_if (y := 0) rfl (fun hq => absurd hq (show ¬ (1 : Int32) = 0 by decide)) (fun _ => ?_)
    repeat (first | (refine J_step rfl rfl ?_) | (refine J_getf rfl rfl rfl (by assumption) rfl ?_))
    exact J_iret rfl rfl rfl rfl ⟨rfl, H1⟩
set_option maxRecDepth 100000 in
set_option maxHeartbeats 2000000 in
theorem m_goesUp {h : AHp} {v : Nat → Int32} {A : Nat → Nat → Int32} {q : LQ} {x : Int32} (H : MdAt h v A) (S : SI (A 0) q) (hu : gU q.2.1) : JM mi_X6_goesUp 2 0 0 [.ref 121, .int x] h (fun r h' => r = .inl (some (.int (if 0 ≤ x ∧ x ≤ 1 then bI (sUp (uB q.2.1) x) else 0))) ∧ MdP h (fset v 1 (if 0 ≤ x ∧ x ≤ 1 then 0 else 1)) A h') := by
  have e0 := H.1
  have e1 := H.2.1
  have hl := S.2.2.2.2
  refine JM_of gd_X6_goesUp rfl (by decide +kernel) (Nat.le_of_ble_eq_true rfl) (oj_cats rfl) (by decide) ?_
  repeat (first | (refine J_step rfl rfl ?_) | (refine J_getf rfl rfl rfl (by assumption) rfl ?_))
  refine J_cS rfl rfl rfl rfl rfl rfl rfl rfl rfl rfl rfl (m_isCabin) ?_
  by_cases hv : 0 ≤ x ∧ x ≤ 1
  · simp only [if_pos hv]
    rw [decide_eq_true hv]
    refine J_if (y := 0) rfl (fun _ => ?_) (fun hq => absurd (show ¬ bI true = 0 by decide) hq)
    repeat (first | (refine J_step rfl rfl ?_) | (refine J_getf rfl rfl rfl (by assumption) rfl ?_))
    refine J_callV rfl rfl rfl rfl rfl (by assumption) rfl rfl rfl rfl (m_thrF (d := 0) (MdP.rf H)) (Nat.zero_le _) (Nat.zero_le _) (fun E h9 q => by cases q.1) (fun v9 h1 q => ?_)
    obtain ⟨q1, H1⟩ := q
    cases q1
    clear e0 e1
    have e0 := H1.1.1
    have e1 := H1.1.2.1
    refine J_if (y := 0) rfl (fun hq => absurd rfl hq) (fun _ => ?_)
    repeat (first | (refine J_step rfl rfl ?_) | (refine J_getf rfl rfl rfl (by assumption) rfl ?_))
    refine J_cV rfl rfl rfl rfl rfl (by assumption) rfl rfl rfl rfl rfl rfl (m_up (d := 0) H1.1 S hu) ?_
    refine J_if (y := 0) rfl (fun hq => ?_) (fun hq => ?_)
    · repeat (first | (refine J_step rfl rfl ?_) | (refine J_getf rfl rfl rfl (by assumption) rfl ?_))
      exact J_zret rfl rfl rfl rfl false rfl ⟨by rw [bI_f hq], H1⟩
    · repeat (first | (refine J_step rfl rfl ?_) | (refine J_getf rfl rfl rfl (by assumption) rfl ?_))
      exact J_zret rfl rfl rfl rfl true rfl ⟨by rw [bI_t hq], H1⟩
  · simp only [if_neg hv]
    rw [decide_eq_false hv]
    refine J_if (y := 0) rfl (fun hq => absurd rfl hq) (fun _ => ?_)
    repeat (first | (refine J_step rfl rfl ?_) | (refine J_getf rfl rfl rfl (by assumption) rfl ?_))
    refine J_callV rfl rfl rfl rfl rfl (by assumption) rfl rfl rfl rfl (m_thrT (d := 0) (MdP.rf H)) (Nat.zero_le _) (Nat.zero_le _) (fun E h9 q => by cases q.1) (fun v9 h1 q => ?_)
    obtain ⟨q1, H1⟩ := q
    cases q1
    clear e0 e1
    have e0 := H1.1.1
    have e1 := H1.1.2.1
    refine J_if (y := 0) rfl (fun _ => ?_) (fun hq => absurd (show ¬ (1 : Int32) = 0 by decide) hq)
    repeat (first | (refine J_step rfl rfl ?_) | (refine J_getf rfl rfl rfl (by assumption) rfl ?_))
    exact J_zret rfl rfl rfl rfl false rfl ⟨rfl, H1⟩
theorem fset2 {v : Nat → Int32} {a b : Int32} : fset (fset v 1 a) 1 b = fset v 1 b := by
  funext i
  unfold fset
  by_cases e : i = 1
  · rw [if_pos e, if_pos e]
  · rw [if_neg e, if_neg e, if_neg e]
set_option maxRecDepth 100000 in
set_option maxHeartbeats 2000000 in
theorem m_station {h : AHp} {v : Nat → Int32} {A : Nat → Nat → Int32} {q : LQ} {x : Int32} (H : MdAt h v A) (S : SI (A 0) q) : JM mi_X6_station 2 0 0 [.ref 121, .int x] h (fun r h' => r = .inl (some (.int (if 0 ≤ x ∧ x ≤ 1 then (if sAtS q.2.1 = true then sPl q.2.1 x / 4 else 0) else 0))) ∧ MdP h (fset v 1 (if 0 ≤ x ∧ x ≤ 1 then (if sAtS q.2.1 = true then 0 else 2) else 1)) A h') := by
  have e0 := H.1
  have e1 := H.2.1
  have hl := S.2.2.2.2
  refine JM_of gd_X6_station rfl (by decide +kernel) (Nat.le_of_ble_eq_true rfl) (oj_cats rfl) (by decide) ?_
  repeat (first | (refine J_step rfl rfl ?_) | (refine J_getf rfl rfl rfl (by assumption) rfl ?_))
  refine J_cS rfl rfl rfl rfl rfl rfl rfl rfl rfl rfl rfl (m_isCabin) ?_
  by_cases hv : 0 ≤ x ∧ x ≤ 1
  · simp only [if_pos hv]
    rw [decide_eq_true hv]
    refine J_if (y := 0) rfl (fun _ => ?_) (fun hq => absurd (show ¬ bI true = 0 by decide) hq)
    repeat (first | (refine J_step rfl rfl ?_) | (refine J_getf rfl rfl rfl (by assumption) rfl ?_))
    refine J_callV rfl rfl rfl rfl rfl (by assumption) rfl rfl rfl rfl (m_thrF (d := 0) (MdP.rf H)) (Nat.zero_le _) (Nat.zero_le _) (fun E h9 q => by cases q.1) (fun v9 h1 q => ?_)
    obtain ⟨q1, H1⟩ := q
    cases q1
    clear e0 e1
    have e0 := H1.1.1
    have e1 := H1.1.2.1
    refine J_if (y := 0) rfl (fun hq => absurd rfl hq) (fun _ => ?_)
    repeat (first | (refine J_step rfl rfl ?_) | (refine J_getf rfl rfl rfl (by assumption) rfl ?_))
    refine J_cV rfl rfl rfl rfl rfl (by assumption) rfl rfl rfl rfl rfl rfl (m_isAtStations (d := 0) H1.1 S) ?_
    refine J_if (y := 0) rfl (fun hq => ?_) (fun hq => ?_)
    · have hb := bI_t hq
      simp only [if_pos hb]
      repeat (first | (refine J_step rfl rfl ?_) | (refine J_getf rfl rfl rfl (by assumption) rfl ?_))
      refine J_callV rfl rfl rfl rfl rfl (by assumption) rfl rfl rfl rfl (m_thrF (d := 0) H1) (Nat.zero_le _) (Nat.zero_le _) (fun E h9 q => by cases q.1) (fun v9 h2 q => ?_)
      obtain ⟨q1, H2⟩ := q
      cases q1
      clear e0 e1
      have e0 := H2.1.1
      have e1 := H2.1.2.1
      rw [fset2] at H2
      refine J_if (y := 0) rfl (fun _ => ?_) (fun hq => absurd rfl hq)
      repeat (first | (refine J_step rfl rfl ?_) | (refine J_getf rfl rfl rfl (by assumption) rfl ?_))
      refine J_cV rfl rfl rfl rfl rfl (by assumption) rfl rfl rfl rfl rfl rfl (m_placeOf (d := 0) H2.1 S) ?_
      repeat (first | (refine J_step rfl rfl ?_) | (refine J_getf rfl rfl rfl (by assumption) rfl ?_))
      refine J_idiv rfl (by decide) ?_
      exact J_iret rfl rfl rfl rfl ⟨rfl, H2⟩
    · have hb : ¬ sAtS q.2.1 = true := fun z => by rw [z] at hq; exact hq (show ¬ bI true = 0 by decide)
      simp only [if_neg hb]
      repeat (first | (refine J_step rfl rfl ?_) | (refine J_getf rfl rfl rfl (by assumption) rfl ?_))
      refine J_callV rfl rfl rfl rfl rfl (by assumption) rfl rfl rfl rfl (m_thrT (d := 0) H1) (Nat.zero_le _) (Nat.zero_le _) (fun E h9 q => by cases q.1) (fun v9 h2 q => ?_)
      obtain ⟨q1, H2⟩ := q
      cases q1
      clear e0 e1
      have e0 := H2.1.1
      have e1 := H2.1.2.1
      rw [fset2] at H2
      refine J_if (y := 0) rfl (fun hq => absurd hq (show ¬ (1 : Int32) = 0 by decide)) (fun _ => ?_)
      repeat (first | (refine J_step rfl rfl ?_) | (refine J_getf rfl rfl rfl (by assumption) rfl ?_))
      exact J_iret rfl rfl rfl rfl ⟨rfl, H2⟩
  · simp only [if_neg hv]
    rw [decide_eq_false hv]
    refine J_if (y := 0) rfl (fun hq => absurd rfl hq) (fun _ => ?_)
    repeat (first | (refine J_step rfl rfl ?_) | (refine J_getf rfl rfl rfl (by assumption) rfl ?_))
    refine J_callV rfl rfl rfl rfl rfl (by assumption) rfl rfl rfl rfl (m_thrT (d := 0) (MdP.rf H)) (Nat.zero_le _) (Nat.zero_le _) (fun E h9 q => by cases q.1) (fun v9 h1 q => ?_)
    obtain ⟨q1, H1⟩ := q
    cases q1
    clear e0 e1
    have e0 := H1.1.1
    have e1 := H1.1.2.1
    refine J_if (y := 0) rfl (fun _ => ?_) (fun hq => absurd (show ¬ (1 : Int32) = 0 by decide) hq)
    repeat (first | (refine J_step rfl rfl ?_) | (refine J_getf rfl rfl rfl (by assumption) rfl ?_))
    exact J_iret rfl rfl rfl rfl ⟨rfl, H1⟩
set_option maxRecDepth 100000 in
set_option maxHeartbeats 2000000 in
theorem m_riderAt {h : AHp} {v : Nat → Int32} {A : Nat → Nat → Int32} {q : LQ} {x y : Int32} (H : MdAt h v A) (S : SI (A 0) q) : JM mi_X6_riderAt 2 0 0 [.ref 121, .int x, .int y] h (fun r h' => r = .inl (some (.int (if 0 ≤ x ∧ x ≤ 1 then (if crRrow q.2.2.1 x y = -1 then 0 else (rAt q.2.2.1 (crRrow q.2.2.1 x y).toNatClampNeg).1) else 0))) ∧ MdP h (fset v 1 (if 0 ≤ x ∧ x ≤ 1 then (if crRrow q.2.2.1 x y = -1 then 2 else 0) else 1)) A h') := by
  have e0 := H.1
  have e1 := H.2.1
  have hl := S.2.2.2.2
  refine JM_of gd_X6_riderAt rfl (by decide +kernel) (Nat.le_of_ble_eq_true rfl) (oj_cats rfl) (by decide) ?_
  repeat (first | (refine J_step rfl rfl ?_) | (refine J_getf rfl rfl rfl (by assumption) rfl ?_))
  refine J_cS rfl rfl rfl rfl rfl rfl rfl rfl rfl rfl rfl (m_isCabin) ?_
  by_cases hv : 0 ≤ x ∧ x ≤ 1
  · simp only [if_pos hv]
    rw [decide_eq_true hv]
    refine J_if (y := 0) rfl (fun _ => ?_) (fun hq => absurd (show ¬ bI true = 0 by decide) hq)
    repeat (first | (refine J_step rfl rfl ?_) | (refine J_getf rfl rfl rfl (by assumption) rfl ?_))
    refine J_callV rfl rfl rfl rfl rfl (by assumption) rfl rfl rfl rfl (m_thrF (d := 0) (MdP.rf H)) (Nat.zero_le _) (Nat.zero_le _) (fun E h9 q => by cases q.1) (fun v9 h1 q => ?_)
    obtain ⟨q1, H1⟩ := q
    cases q1
    clear e0 e1
    have e0 := H1.1.1
    have e1 := H1.1.2.1
    refine J_if (y := 0) rfl (fun _ => ?_) (fun hq => absurd rfl hq)
    repeat (first | (refine J_step rfl rfl ?_) | (refine J_getf rfl rfl rfl (by assumption) rfl ?_))
    refine J_cV rfl rfl rfl rfl rfl (by assumption) rfl rfl rfl rfl rfl rfl (m_rider H1.1 S) ?_
    rcases fstI_cases (fun j => (rAt q.2.2.1 j).2.2.2.2.2.1 == x && nI (crBef q.2.2.1 j) == y) q.2.2.1.length with ⟨hv0, -⟩ | ⟨i, hi, -, hv0, -⟩
    · have hv0 : crRrow q.2.2.1 x y = -1 := hv0
      simp only [hv0, if_true]
      repeat (first | (refine J_step rfl rfl ?_) | (refine J_getf rfl rfl rfl (by assumption) rfl ?_))
      refine J_if (y := 0) rfl (fun hq => absurd hq (show ¬ (0 : Int32) ≤ -1 by decide)) (fun _ => ?_)
      repeat (first | (refine J_step rfl rfl ?_) | (refine J_getf rfl rfl rfl (by assumption) rfl ?_))
      refine J_callV rfl rfl rfl rfl rfl (by assumption) rfl rfl rfl rfl (m_thrT (d := 0) H1) (Nat.zero_le _) (Nat.zero_le _) (fun E h9 q => by cases q.1) (fun v9 h2 q => ?_)
      obtain ⟨q1, H2⟩ := q
      cases q1
      clear e0 e1
      have e0 := H2.1.1
      have e1 := H2.1.2.1
      rw [fset2] at H2
      refine J_if (y := 0) rfl (fun hq => absurd hq (show ¬ (1 : Int32) = 0 by decide)) (fun _ => ?_)
      repeat (first | (refine J_step rfl rfl ?_) | (refine J_getf rfl rfl rfl (by assumption) rfl ?_))
      exact J_iret rfl rfl rfl rfl ⟨rfl, H2⟩
    · have hv0 : crRrow q.2.2.1 x y = nI i := hv0
      have hi20 : i ≤ 20 := by omega
      simp only [hv0, if_neg (nI_neg1 hi20), nI_clamp (show i < 2 ^ 31 by omega)]
      repeat (first | (refine J_step rfl rfl ?_) | (refine J_getf rfl rfl rfl (by assumption) rfl ?_))
      refine J_if (y := 0) rfl (fun _ => ?_) (fun hq => absurd (nI_pos' (by omega)) hq)
      repeat (first | (refine J_step rfl rfl ?_) | (refine J_getf rfl rfl rfl (by assumption) rfl ?_))
      refine J_callV rfl rfl rfl rfl rfl (by assumption) rfl rfl rfl rfl (m_thrF (d := 0) H1) (Nat.zero_le _) (Nat.zero_le _) (fun E h9 q => by cases q.1) (fun v9 h2 q => ?_)
      obtain ⟨q1, H2⟩ := q
      cases q1
      clear e0 e1
      have e0 := H2.1.1
      have e1 := H2.1.2.1
      rw [fset2] at H2
      refine J_if (y := 0) rfl (fun _ => ?_) (fun hq => absurd rfl hq)
      repeat (first | (refine J_step rfl rfl ?_) | (refine J_getf rfl rfl rfl (by assumption) rfl ?_))
      refine J_cV rfl rfl rfl rfl rfl (by assumption) rfl rfl rfl rfl rfl rfl (m_of (d := 0) (w := 0) H2.1 S hi (by decide)) ?_
      exact J_iret rfl rfl rfl rfl ⟨rfl, H2⟩
  · simp only [if_neg hv]
    rw [decide_eq_false hv]
    refine J_if (y := 0) rfl (fun hq => absurd rfl hq) (fun _ => ?_)
    repeat (first | (refine J_step rfl rfl ?_) | (refine J_getf rfl rfl rfl (by assumption) rfl ?_))
    refine J_callV rfl rfl rfl rfl rfl (by assumption) rfl rfl rfl rfl (m_thrT (d := 0) (MdP.rf H)) (Nat.zero_le _) (Nat.zero_le _) (fun E h9 q => by cases q.1) (fun v9 h1 q => ?_)
    obtain ⟨q1, H1⟩ := q
    cases q1
    clear e0 e1
    have e0 := H1.1.1
    have e1 := H1.1.2.1
    refine J_if (y := 0) rfl (fun hq => absurd hq (show ¬ (1 : Int32) = 0 by decide)) (fun _ => ?_)
    repeat (first | (refine J_step rfl rfl ?_) | (refine J_getf rfl rfl rfl (by assumption) rfl ?_))
    exact J_iret rfl rfl rfl rfl ⟨rfl, H1⟩
