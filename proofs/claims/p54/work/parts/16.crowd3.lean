/-- how many of the same cabin boarded before the row i -/
def crBef (l : List Row) (i : Nat) : Nat := l.countP fun r => r.2.2.2.2.2.1 == (rAt l i).2.2.2.2.2.1 && decide (r.2.2.2.2.2.2 < (rAt l i).2.2.2.2.2.2)
set_option maxRecDepth 100000 in
set_option maxHeartbeats 2000000 in
theorem c_countBoardedBefore {d : Nat} {h : AHp} {a i : Nat} {l : List Row} {nb : Int32} (hC : CrAt h a l nb) (hi : i < l.length) : JM mi_X0_countBoardedBefore d 0 0 [.ref a, .int (nI i)] h (oj_is (.inl (some (.int (nI (crBef l i))))) h) := by
  obtain ⟨R, ⟨h0, h1, h2, h3, h4, h5, h6, h7, hc⟩, hR⟩ := hC
  have i5 := (rw_rAt hR hi).2.2.2.2.2.1
  have i6 := (rw_rAt hR hi).2.2.2.2.2.2
  refine JM_of gd_X0_countBoardedBefore rfl (by decide +kernel) (Nat.le_of_ble_eq_true rfl) (oj_cats rfl) (by decide) ?_
  have loop : ∀ m j, m + j = l.length → J mi_X0_countBoardedBefore d 0 0 (oj_is (.inl (some (.int (nI (crBef l i))))) h) 0 0 4 [some (.ref a), some (.int (nI i)), some (.int (nI ((l.take j).countP fun r => r.2.2.2.2.2.1 == (rAt l i).2.2.2.2.2.1 && decide (r.2.2.2.2.2.2 < (rAt l i).2.2.2.2.2.2)))), some (.int (nI j))] [] h := by
    intro m
    induction m with
    | zero =>
      intro j hj
      obtain rfl : j = l.length := by omega
      repeat (first | (refine J_step rfl rfl ?_) | (refine J_getf rfl rfl rfl (by assumption) rfl ?_))
      refine J_ic rfl (fun hq => ?_) (fun hq => absurd (Int32.le_refl _) hq)
      repeat (first | (refine J_step rfl rfl ?_) | (refine J_getf rfl rfl rfl (by assumption) rfl ?_))
      exact J_iret rfl rfl rfl rfl ⟨by rw [ct_all]; rfl, rfl⟩
    | succ m ih =>
      intro j hj
      have hlt : j < l.length := by omega
      have hs := ih (j + 1) (by omega)
      have e5 := (rw_rAt hR hlt).2.2.2.2.2.1
      have e6 := (rw_rAt hR hlt).2.2.2.2.2.2
      rw [ct_succ hlt, nI_succ, ← rAt_eq hlt] at hs
      repeat (first | (refine J_step rfl rfl ?_) | (refine J_getf rfl rfl rfl (by assumption) rfl ?_))
      refine J_ic rfl (fun hq => absurd hq (nI_ge (by omega) (by omega))) (fun hq => ?_)
      repeat (first | (refine J_step rfl rfl ?_) | (refine J_getf rfl rfl rfl (by assumption) rfl ?_))
      refine J_iald rfl (by assumption) (vp_in_nI (by omega) (by omega)) ?_
      rw [nI_clamp (by omega), e5]
      repeat (first | (refine J_step rfl rfl ?_) | (refine J_getf rfl rfl rfl (by assumption) rfl ?_))
      refine J_iald rfl (by assumption) (vp_in_nI (by omega) (by omega)) ?_
      rw [nI_clamp (by omega), i5]
      repeat (first | (refine J_step rfl rfl ?_) | (refine J_getf rfl rfl rfl (by assumption) rfl ?_))
      refine J_ic rfl (fun hq => ?_) (fun hq => ?_)
      · rw [if_neg (by simp only [oj_cc] at hq; simp [hq])] at hs
        iterate 2 (first | (refine J_step rfl rfl ?_) | (refine J_getf rfl rfl rfl (by assumption) rfl ?_))
        exact hs
      · repeat (first | (refine J_step rfl rfl ?_) | (refine J_getf rfl rfl rfl (by assumption) rfl ?_))
        refine J_iald rfl (by assumption) (vp_in_nI (by omega) (by omega)) ?_
        rw [nI_clamp (by omega), e6]
        repeat (first | (refine J_step rfl rfl ?_) | (refine J_getf rfl rfl rfl (by assumption) rfl ?_))
        refine J_iald rfl (by assumption) (vp_in_nI (by omega) (by omega)) ?_
        rw [nI_clamp (by omega), i6]
        repeat (first | (refine J_step rfl rfl ?_) | (refine J_getf rfl rfl rfl (by assumption) rfl ?_))
        simp only [oj_cc, Classical.not_not] at hq
        refine J_ic rfl (fun hq2 => ?_) (fun hq2 => ?_)
        · simp only [oj_cc] at hq2
          rw [if_neg (by simp [hq, Int32.not_lt.mpr hq2])] at hs
          iterate 2 (first | (refine J_step rfl rfl ?_) | (refine J_getf rfl rfl rfl (by assumption) rfl ?_))
          exact hs
        · simp only [oj_cc, Int32.not_le] at hq2
          rw [if_pos (by simp [hq, hq2]), nI_succ] at hs
          iterate 3 (first | (refine J_step rfl rfl ?_) | (refine J_getf rfl rfl rfl (by assumption) rfl ?_))
          exact hs
  iterate 4 (first | (refine J_step rfl rfl ?_) | (refine J_getf rfl rfl rfl (by assumption) rfl ?_))
  exact loop l.length 0 (by omega)
def crRrow (l : List Row) (cab v : Int32) : Int32 := fstI (fun j => (rAt l j).2.2.2.2.2.1 == cab && nI (crBef l j) == v) l.length
set_option maxRecDepth 100000 in
set_option maxHeartbeats 2000000 in
theorem c_riderRow {h : AHp} {a : Nat} {l : List Row} {nb cab v : Int32} (hC : CrAt h a l nb) : JM mi_X0_riderRow 1 0 0 [.ref a, .int cab, .int v] h (oj_is (.inl (some (.int (crRrow l cab v)))) h) := by
  have hC' := hC
  obtain ⟨R, ⟨h0, h1, h2, h3, h4, h5, h6, h7, hc⟩, hR⟩ := hC
  refine JM_of gd_X0_riderRow rfl (by decide +kernel) (Nat.le_of_ble_eq_true rfl) (oj_cats rfl) (by decide) ?_
  have loop : ∀ m j, m + j = l.length → ∀ w, fstF (fun j => (rAt l j).2.2.2.2.2.1 == cab && nI (crBef l j) == v) m j = w → J mi_X0_riderRow 1 0 0 (oj_is (.inl (some (.int w))) h) 0 0 2 [some (.ref a), some (.int cab), some (.int v), some (.int (nI j))] [] h := by
    intro m
    induction m with
    | zero =>
      intro j hj w hw
      obtain rfl : j = l.length := by omega
      repeat (first | (refine J_step rfl rfl ?_) | (refine J_getf rfl rfl rfl (by assumption) rfl ?_))
      refine J_ic rfl (fun hq => ?_) (fun hq => absurd (Int32.le_refl _) hq)
      repeat (first | (refine J_step rfl rfl ?_) | (refine J_getf rfl rfl rfl (by assumption) rfl ?_))
      exact J_iret rfl rfl rfl rfl ⟨by rw [← hw]; rfl, rfl⟩
    | succ m ih =>
      intro j hj w hw
      have hlt : j < l.length := by omega
      have e := (rw_rAt hR hlt).2.2.2.2.2.1
      rw [fstF] at hw
      repeat (first | (refine J_step rfl rfl ?_) | (refine J_getf rfl rfl rfl (by assumption) rfl ?_))
      refine J_ic rfl (fun hq => absurd hq (nI_ge (by omega) (by omega))) (fun hq => ?_)
      repeat (first | (refine J_step rfl rfl ?_) | (refine J_getf rfl rfl rfl (by assumption) rfl ?_))
      refine J_iald rfl (by assumption) (vp_in_nI (by omega) (by omega)) ?_
      rw [nI_clamp (by omega), e]
      repeat (first | (refine J_step rfl rfl ?_) | (refine J_getf rfl rfl rfl (by assumption) rfl ?_))
      refine J_ic rfl (fun hq => ?_) (fun hq => ?_)
      · simp only [oj_cc] at hq
        rw [if_neg (by simp [hq])] at hw
        have hs := ih (j + 1) (by omega) w hw
        rw [nI_succ] at hs
        iterate 2 (first | (refine J_step rfl rfl ?_) | (refine J_getf rfl rfl rfl (by assumption) rfl ?_))
        exact hs
      · simp only [oj_cc, Classical.not_not] at hq
        repeat (first | (refine J_step rfl rfl ?_) | (refine J_getf rfl rfl rfl (by assumption) rfl ?_))
        refine J_cV rfl rfl rfl rfl rfl (by assumption) rfl rfl rfl rfl rfl rfl (c_countBoardedBefore (d := 0) hC' hlt) ?_
        repeat (first | (refine J_step rfl rfl ?_) | (refine J_getf rfl rfl rfl (by assumption) rfl ?_))
        refine J_ic rfl (fun hq2 => ?_) (fun hq2 => ?_)
        · simp only [oj_cc] at hq2
          rw [if_neg (by simp [hq2])] at hw
          have hs := ih (j + 1) (by omega) w hw
          rw [nI_succ] at hs
          iterate 2 (first | (refine J_step rfl rfl ?_) | (refine J_getf rfl rfl rfl (by assumption) rfl ?_))
          exact hs
        · simp only [oj_cc, Classical.not_not] at hq2
          rw [if_pos (by simp [hq, hq2])] at hw
          repeat (first | (refine J_step rfl rfl ?_) | (refine J_getf rfl rfl rfl (by assumption) rfl ?_))
          exact J_iret rfl rfl rfl rfl ⟨by rw [← hw], rfl⟩
  iterate 2 (first | (refine J_step rfl rfl ?_) | (refine J_getf rfl rfl rfl (by assumption) rfl ?_))
  exact loop l.length 0 (by omega) _ rfl
/-- how many stand before the row i by weight, then by number -/
def crHvp (l : List Row) (i o : Nat) : Bool := decide ((rAt l i).2.1 < (rAt l o).2.1) || ((rAt l o).2.1 == (rAt l i).2.1 && decide (o < i))
def crHv (l : List Row) (i : Nat) : Nat := cntP (crHvp l i) l.length
set_option maxRecDepth 100000 in
set_option maxHeartbeats 2000000 in
theorem c_countHeavier {d : Nat} {h : AHp} {a i : Nat} {l : List Row} {nb : Int32} (hC : CrAt h a l nb) (hi : i < l.length) : JM mi_X0_countHeavier d 0 0 [.ref a, .int (nI i)] h (oj_is (.inl (some (.int (nI (crHv l i))))) h) := by
  obtain ⟨R, ⟨h0, h1, h2, h3, h4, h5, h6, h7, hc⟩, hR⟩ := hC
  have i1 := (rw_rAt hR hi).2.1
  refine JM_of gd_X0_countHeavier rfl (by decide +kernel) (Nat.le_of_ble_eq_true rfl) (oj_cats rfl) (by decide) ?_
  have loop : ∀ m j, m + j = l.length → ∀ z, J mi_X0_countHeavier d 0 0 (oj_is (.inl (some (.int (nI (crHv l i))))) h) 0 0 4 [some (.ref a), some (.int (nI i)), some (.int (nI (cntP (crHvp l i) j))), some (.int (nI j)), z] [] h := by
    intro m
    induction m with
    | zero =>
      intro j hj z
      obtain rfl : j = l.length := by omega
      repeat (first | (refine J_step rfl rfl ?_) | (refine J_getf rfl rfl rfl (by assumption) rfl ?_))
      refine J_ic rfl (fun hq => ?_) (fun hq => absurd (Int32.le_refl _) hq)
      repeat (first | (refine J_step rfl rfl ?_) | (refine J_getf rfl rfl rfl (by assumption) rfl ?_))
      exact J_iret rfl rfl rfl rfl ⟨rfl, rfl⟩
    | succ m ih =>
      intro j hj z
      have hlt : j < l.length := by omega
      have e1 := (rw_rAt hR hlt).2.1
      have fin : ∀ z b, (crHvp l i j = b) → J mi_X0_countHeavier d 0 0 (oj_is (.inl (some (.int (nI (crHv l i))))) h) 0 0 62 [some (.ref a), some (.int (nI i)), some (.int (nI (cntP (crHvp l i) j) + bI b)), some (.int (nI j)), z] [] h := by
        intro z b hb
        have hs := ih (j + 1) (by omega) z
        rw [cntP, hb, nI_succ] at hs
        iterate 2 (first | (refine J_step rfl rfl ?_) | (refine J_getf rfl rfl rfl (by assumption) rfl ?_))
        cases b
        · simp only [Bool.false_eq_true, if_false, Nat.add_zero] at hs
          simp only [bI, Bool.false_eq_true, if_false, Int32.add_zero]
          exact hs
        · simp only [if_true, nI_succ] at hs
          exact hs
      have tail : ∀ t : Bool, (t = ((rAt l j).2.1 == (rAt l i).2.1 && decide (j < i))) → J mi_X0_countHeavier d 0 0 (oj_is (.inl (some (.int (nI (crHv l i))))) h) 0 0 39 [some (.ref a), some (.int (nI i)), some (.int (nI (cntP (crHvp l i) j))), some (.int (nI j)), some (.int (bI t))] [] h := by
        intro t ht
        repeat (first | (refine J_step rfl rfl ?_) | (refine J_getf rfl rfl rfl (by assumption) rfl ?_))
        refine J_iald rfl (by assumption) (vp_in_nI (by omega) (by omega)) ?_
        rw [nI_clamp (by omega), e1]
        repeat (first | (refine J_step rfl rfl ?_) | (refine J_getf rfl rfl rfl (by assumption) rfl ?_))
        refine J_iald rfl (by assumption) (vp_in_nI (by omega) (by omega)) ?_
        rw [nI_clamp (by omega), i1]
        repeat (first | (refine J_step rfl rfl ?_) | (refine J_getf rfl rfl rfl (by assumption) rfl ?_))
        refine J_ic rfl (fun hq => ?_) (fun hq => ?_)
        · simp only [oj_cc] at hq
          iterate 1 (first | (refine J_step rfl rfl ?_) | (refine J_getf rfl rfl rfl (by assumption) rfl ?_))
          exact fin _ true (by simp [crHvp, hq])
        · simp only [oj_cc, Int32.not_lt] at hq
          repeat (first | (refine J_step rfl rfl ?_) | (refine J_getf rfl rfl rfl (by assumption) rfl ?_))
          refine J_if (y := 0) rfl (fun hq2 => ?_) (fun hq2 => ?_)
          · have ht0 : t = false := by cases t <;> simp_all [oj_cz, bI]
            have := fin (some (.int (bI t))) false (by rw [crHvp, ← ht, ht0]; simp [Int32.not_lt.mpr hq])
            simp only [bI, Bool.false_eq_true, if_false, Int32.add_zero] at this
            exact this
          · have ht0 : t = true := by cases t <;> simp_all [oj_cz, bI]
            iterate 1 (first | (refine J_step rfl rfl ?_) | (refine J_getf rfl rfl rfl (by assumption) rfl ?_))
            exact fin _ true (by rw [crHvp, ← ht, ht0]; simp)
      repeat (first | (refine J_step rfl rfl ?_) | (refine J_getf rfl rfl rfl (by assumption) rfl ?_))
      refine J_ic rfl (fun hq => absurd hq (nI_ge (by omega) (by omega))) (fun hq => ?_)
      repeat (first | (refine J_step rfl rfl ?_) | (refine J_getf rfl rfl rfl (by assumption) rfl ?_))
      refine J_iald rfl (by assumption) (vp_in_nI (by omega) (by omega)) ?_
      rw [nI_clamp (by omega), e1]
      repeat (first | (refine J_step rfl rfl ?_) | (refine J_getf rfl rfl rfl (by assumption) rfl ?_))
      refine J_iald rfl (by assumption) (vp_in_nI (by omega) (by omega)) ?_
      rw [nI_clamp (by omega), i1]
      repeat (first | (refine J_step rfl rfl ?_) | (refine J_getf rfl rfl rfl (by assumption) rfl ?_))
      refine J_ic rfl (fun hq => ?_) (fun hq => ?_)
      · simp only [oj_cc] at hq
        iterate 2 (first | (refine J_step rfl rfl ?_) | (refine J_getf rfl rfl rfl (by assumption) rfl ?_))
        exact tail false (by simp [hq])
      · simp only [oj_cc, Classical.not_not] at hq
        repeat (first | (refine J_step rfl rfl ?_) | (refine J_getf rfl rfl rfl (by assumption) rfl ?_))
        refine J_ic rfl (fun hq2 => ?_) (fun hq2 => ?_)
        · have : ¬ j < i := fun z => nI_ge z (by omega) hq2
          iterate 2 (first | (refine J_step rfl rfl ?_) | (refine J_getf rfl rfl rfl (by assumption) rfl ?_))
          exact tail false (by simp [this])
        · have : j < i := by
            rcases Nat.lt_or_ge j i with q | q
            · exact q
            · exact absurd (nI_le q (by omega)) hq2
          iterate 3 (first | (refine J_step rfl rfl ?_) | (refine J_getf rfl rfl rfl (by assumption) rfl ?_))
          exact tail true (by simp [hq, this])
  iterate 4 (first | (refine J_step rfl rfl ?_) | (refine J_getf rfl rfl rfl (by assumption) rfl ?_))
  exact loop l.length 0 (by omega) _
def crByW (l : List Row) (v : Int32) : Int32 := fstI (fun j => nI (crHv l j) == v) l.length
set_option maxRecDepth 100000 in
set_option maxHeartbeats 2000000 in
theorem c_rowByWeight {h : AHp} {a : Nat} {l : List Row} {nb v : Int32} (hC : CrAt h a l nb) : JM mi_X0_rowByWeight 1 0 0 [.ref a, .int v] h (oj_is (.inl (some (.int (crByW l v)))) h) := by
  have hC' := hC
  obtain ⟨R, ⟨h0, h1, h2, h3, h4, h5, h6, h7, hc⟩, hR⟩ := hC
  refine JM_of gd_X0_rowByWeight rfl (by decide +kernel) (Nat.le_of_ble_eq_true rfl) (oj_cats rfl) (by decide) ?_
  have loop : ∀ m j, m + j = l.length → ∀ w, fstF (fun j => nI (crHv l j) == v) m j = w → J mi_X0_rowByWeight 1 0 0 (oj_is (.inl (some (.int w))) h) 0 0 2 [some (.ref a), some (.int v), some (.int (nI j))] [] h := by
    intro m
    induction m with
    | zero =>
      intro j hj w hw
      obtain rfl : j = l.length := by omega
      repeat (first | (refine J_step rfl rfl ?_) | (refine J_getf rfl rfl rfl (by assumption) rfl ?_))
      refine J_ic rfl (fun hq => ?_) (fun hq => absurd (Int32.le_refl _) hq)
      repeat (first | (refine J_step rfl rfl ?_) | (refine J_getf rfl rfl rfl (by assumption) rfl ?_))
      exact J_iret rfl rfl rfl rfl ⟨by rw [← hw]; rfl, rfl⟩
    | succ m ih =>
      intro j hj w hw
      have hlt : j < l.length := by omega
      rw [fstF] at hw
      repeat (first | (refine J_step rfl rfl ?_) | (refine J_getf rfl rfl rfl (by assumption) rfl ?_))
      refine J_ic rfl (fun hq => absurd hq (nI_ge (by omega) (by omega))) (fun hq => ?_)
      repeat (first | (refine J_step rfl rfl ?_) | (refine J_getf rfl rfl rfl (by assumption) rfl ?_))
      refine J_cV rfl rfl rfl rfl rfl (by assumption) rfl rfl rfl rfl rfl rfl (c_countHeavier (d := 0) hC' hlt) ?_
      repeat (first | (refine J_step rfl rfl ?_) | (refine J_getf rfl rfl rfl (by assumption) rfl ?_))
      refine J_ic rfl (fun hq => ?_) (fun hq => ?_)
      · simp only [oj_cc] at hq
        rw [if_neg (by simp [hq])] at hw
        have hs := ih (j + 1) (by omega) w hw
        rw [nI_succ] at hs
        iterate 2 (first | (refine J_step rfl rfl ?_) | (refine J_getf rfl rfl rfl (by assumption) rfl ?_))
        exact hs
      · simp only [oj_cc, Classical.not_not] at hq
        rw [if_pos (by simp [hq])] at hw
        repeat (first | (refine J_step rfl rfl ?_) | (refine J_getf rfl rfl rfl (by assumption) rfl ?_))
        exact J_iret rfl rfl rfl rfl ⟨by rw [← hw], rfl⟩
  iterate 2 (first | (refine J_step rfl rfl ?_) | (refine J_getf rfl rfl rfl (by assumption) rfl ?_))
  exact loop l.length 0 (by omega) _ rfl
