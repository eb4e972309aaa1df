def z0 : Row := (0, 0, 0, 0, 0, 0, 0)
def rAt (l : List Row) (j : Nat) : Row := l.getD j z0
theorem rAt_eq {l : List Row} {j : Nat} (hj : j < l.length) : rAt l j = l[j] := by unfold rAt; rw [List.getD_eq_getElem?_getD, List.getElem?_eq_getElem hj]; rfl
theorem rw_rAt {R : Nat → Nat → Int32} {l : List Row} (hR : RowsAt R l) {j : Nat} (hj : j < l.length) : R 0 j = rNum (rAt l j) ∧ R 1 j = rWt (rAt l j) ∧ R 2 j = rFrm (rAt l j) ∧ R 3 j = rDst (rAt l j) ∧ R 4 j = rCam (rAt l j) ∧ R 5 j = rCab (rAt l j) ∧ R 6 j = rBrd (rAt l j) := by rw [rAt_eq hj]; exact rw_at hR hj
/-- the first place of a row with p, from j on; -1 for none -/
def fstF (p : Nat → Bool) : Nat → Nat → Int32
  | 0, _ => -1
  | m + 1, j => if p j then nI j else fstF p m (j + 1)
def fstI (p : Nat → Bool) (c : Nat) : Int32 := fstF p c 0
def cntP (p : Nat → Bool) : Nat → Nat
  | 0 => 0
  | n + 1 => cntP p n + (if p n then 1 else 0)
def crW (s : Int32) (r : Row) : Bool := r.2.2.2.2.2.1 == -1 && r.2.2.1 == s
def crWtg (l : List Row) (s : Int32) : Nat := l.countP (crW s)
set_option maxRecDepth 100000 in
set_option maxHeartbeats 2000000 in
theorem c_waitsAt {d : Nat} {h : AHp} {a j : Nat} {l : List Row} {nb s : Int32} (hC : CrAt h a l nb) (hj : j < l.length) : JM mi_X0_waitsAt d 0 0 [.ref a, .int (nI j), .int s] h (oj_is (.inl (some (.int (bI (crW s (rAt l j)))))) h) := by
  obtain ⟨R, ⟨h0, h1, h2, h3, h4, h5, h6, h7, hc⟩, hR⟩ := hC
  have e5 := (rw_rAt hR hj).2.2.2.2.2.1
  have e2 := (rw_rAt hR hj).2.2.1
  refine JM_of gd_X0_waitsAt rfl (by decide +kernel) (Nat.le_of_ble_eq_true rfl) (oj_cats rfl) (by decide) ?_
  repeat (first | (refine J_step rfl rfl ?_) | (refine J_getf rfl rfl rfl (by assumption) rfl ?_))
  refine J_iald rfl (by assumption) (vp_in_nI (by omega) (by omega)) ?_
  rw [nI_clamp (by omega), e5]
  repeat (first | (refine J_step rfl rfl ?_) | (refine J_getf rfl rfl rfl (by assumption) rfl ?_))
  refine J_ic rfl (fun hq => ?_) (fun hq => ?_)
  · repeat (first | (refine J_step rfl rfl ?_) | (refine J_getf rfl rfl rfl (by assumption) rfl ?_))
    refine J_zret rfl rfl rfl rfl (crW s (rAt l j)) ?_ ⟨rfl, rfl⟩
    simp only [oj_cc] at hq
    simp [crW, hq, bI]
  · repeat (first | (refine J_step rfl rfl ?_) | (refine J_getf rfl rfl rfl (by assumption) rfl ?_))
    refine J_iald rfl (by assumption) (vp_in_nI (by omega) (by omega)) ?_
    rw [nI_clamp (by omega), e2]
    repeat (first | (refine J_step rfl rfl ?_) | (refine J_getf rfl rfl rfl (by assumption) rfl ?_))
    simp only [oj_cc, Classical.not_not] at hq
    refine J_ic rfl (fun hq2 => ?_) (fun hq2 => ?_)
    · repeat (first | (refine J_step rfl rfl ?_) | (refine J_getf rfl rfl rfl (by assumption) rfl ?_))
      refine J_zret rfl rfl rfl rfl (crW s (rAt l j)) ?_ ⟨rfl, rfl⟩
      simp only [oj_cc] at hq2
      simp [crW, hq2, bI]
    · repeat (first | (refine J_step rfl rfl ?_) | (refine J_getf rfl rfl rfl (by assumption) rfl ?_))
      refine J_zret rfl rfl rfl rfl (crW s (rAt l j)) ?_ ⟨rfl, rfl⟩
      simp only [oj_cc, Classical.not_not] at hq2
      simp [crW, hq, hq2, bI]
set_option maxRecDepth 100000 in
set_option maxHeartbeats 2000000 in
theorem c_rowOf {d : Nat} {h : AHp} {a : Nat} {l : List Row} {nb v : Int32} (hC : CrAt h a l nb) : JM mi_X0_rowOf d 0 0 [.ref a, .int v] h (oj_is (.inl (some (.int (fstI (fun j => (rAt l j).1 == v) l.length)))) h) := by
  obtain ⟨R, ⟨h0, h1, h2, h3, h4, h5, h6, h7, hc⟩, hR⟩ := hC
  refine JM_of gd_X0_rowOf rfl (by decide +kernel) (Nat.le_of_ble_eq_true rfl) (oj_cats rfl) (by decide) ?_
  have loop : ∀ m j, m + j = l.length → ∀ w, fstF (fun j => (rAt l j).1 == v) m j = w → J mi_X0_rowOf d 0 0 (oj_is (.inl (some (.int w))) h) 0 0 2 [some (.ref a), some (.int v), some (.int (nI j))] [] h := by
    intro m
    induction m with
    | zero =>
      intro j hj w hw
      obtain rfl : j = l.length := by omega
      repeat (first | (refine J_step rfl rfl ?_) | (refine J_getf rfl rfl rfl (by assumption) rfl ?_))
      refine J_ic rfl (fun hq => ?_) (fun hq => absurd (Int32.le_refl _) hq)
      repeat (first | (refine J_step rfl rfl ?_) | (refine J_getf rfl rfl rfl (by assumption) rfl ?_))
      exact J_iret rfl rfl rfl rfl ⟨by rw [← hw]; rfl, rfl⟩
    | succ m ih =>
      intro j hj w hw
      have hlt : j < l.length := by omega
      have e := (rw_rAt hR hlt).1
      rw [fstF] at hw
      repeat (first | (refine J_step rfl rfl ?_) | (refine J_getf rfl rfl rfl (by assumption) rfl ?_))
      refine J_ic rfl (fun hq => absurd hq (nI_ge (by omega) (by omega))) (fun hq => ?_)
      repeat (first | (refine J_step rfl rfl ?_) | (refine J_getf rfl rfl rfl (by assumption) rfl ?_))
      refine J_iald rfl (by assumption) (vp_in_nI (by omega) (by omega)) ?_
      rw [nI_clamp (by omega), e]
      repeat (first | (refine J_step rfl rfl ?_) | (refine J_getf rfl rfl rfl (by assumption) rfl ?_))
      refine J_ic rfl (fun hq => ?_) (fun hq => ?_)
      · rw [if_neg (by simpa [oj_cc] using hq)] at hw
        have hs := ih (j + 1) (by omega) w hw
        rw [nI_succ] at hs
        iterate 2 (first | (refine J_step rfl rfl ?_) | (refine J_getf rfl rfl rfl (by assumption) rfl ?_))
        exact hs
      · rw [if_pos (by simpa [oj_cc] using hq)] at hw
        repeat (first | (refine J_step rfl rfl ?_) | (refine J_getf rfl rfl rfl (by assumption) rfl ?_))
        exact J_iret rfl rfl rfl rfl ⟨by rw [← hw], rfl⟩
  iterate 2 (first | (refine J_step rfl rfl ?_) | (refine J_getf rfl rfl rfl (by assumption) rfl ?_))
  exact loop l.length 0 (by omega) _ rfl
set_option maxRecDepth 100000 in
set_option maxHeartbeats 2000000 in
theorem c_countWaiting {h : AHp} {a : Nat} {l : List Row} {nb s : Int32} (hC : CrAt h a l nb) : JM mi_X0_countWaiting 1 0 0 [.ref a, .int s] h (oj_is (.inl (some (.int (nI (crWtg l s))))) h) := by
  have hC' := hC
  obtain ⟨R, ⟨h0, h1, h2, h3, h4, h5, h6, h7, hc⟩, hR⟩ := hC
  refine JM_of gd_X0_countWaiting rfl (by decide +kernel) (Nat.le_of_ble_eq_true rfl) (oj_cats rfl) (by decide) ?_
  have loop : ∀ m j, m + j = l.length → J mi_X0_countWaiting 1 0 0 (oj_is (.inl (some (.int (nI (crWtg l s))))) h) 0 0 4 [some (.ref a), some (.int s), some (.int (nI ((l.take j).countP (crW s)))), some (.int (nI j))] [] h := by
    intro m
    induction m with
    | zero =>
      intro j hj
      obtain rfl : j = l.length := by omega
      repeat (first | (refine J_step rfl rfl ?_) | (refine J_getf rfl rfl rfl (by assumption) rfl ?_))
      refine J_ic rfl (fun hq => ?_) (fun hq => absurd (Int32.le_refl _) hq)
      repeat (first | (refine J_step rfl rfl ?_) | (refine J_getf rfl rfl rfl (by assumption) rfl ?_))
      exact J_iret rfl rfl rfl rfl ⟨by rw [ct_all]; rfl, rfl⟩
    | succ m ih =>
      intro j hj
      have hlt : j < l.length := by omega
      have hs := ih (j + 1) (by omega)
      rw [ct_succ hlt, nI_succ, ← rAt_eq hlt] at hs
      repeat (first | (refine J_step rfl rfl ?_) | (refine J_getf rfl rfl rfl (by assumption) rfl ?_))
      refine J_ic rfl (fun hq => absurd hq (nI_ge (by omega) (by omega))) (fun hq => ?_)
      repeat (first | (refine J_step rfl rfl ?_) | (refine J_getf rfl rfl rfl (by assumption) rfl ?_))
      refine J_cV rfl rfl rfl rfl rfl (by assumption) rfl rfl rfl rfl rfl rfl (c_waitsAt (d := 0) hC' hlt) ?_
      repeat (first | (refine J_step rfl rfl ?_) | (refine J_getf rfl rfl rfl (by assumption) rfl ?_))
      refine J_if (y := 0) rfl (fun hq => ?_) (fun hq => ?_)
      · rw [if_neg (by cases hb : crW s (rAt l j) <;> simp_all [oj_cz, bI])] at hs
        iterate 2 (first | (refine J_step rfl rfl ?_) | (refine J_getf rfl rfl rfl (by assumption) rfl ?_))
        exact hs
      · rw [if_pos (by cases hb : crW s (rAt l j) <;> simp_all [oj_cz, bI]), nI_succ] at hs
        iterate 3 (first | (refine J_step rfl rfl ?_) | (refine J_getf rfl rfl rfl (by assumption) rfl ?_))
        exact hs
  iterate 4 (first | (refine J_step rfl rfl ?_) | (refine J_getf rfl rfl rfl (by assumption) rfl ?_))
  exact loop l.length 0 (by omega)
/-- the place of the n-th who waits at a station -/
def crWrow (l : List Row) (s v : Int32) : Int32 := fstI (fun j => crW s (rAt l j) && nI ((l.take j).countP (crW s)) == v) l.length
set_option maxRecDepth 100000 in
set_option maxHeartbeats 2000000 in
theorem c_waitingRow {h : AHp} {a : Nat} {l : List Row} {nb s v : Int32} (hC : CrAt h a l nb) : JM mi_X0_waitingRow 1 0 0 [.ref a, .int s, .int v] h (oj_is (.inl (some (.int (crWrow l s v)))) h) := by
  have hC' := hC
  obtain ⟨R, ⟨h0, h1, h2, h3, h4, h5, h6, h7, hc⟩, hR⟩ := hC
  refine JM_of gd_X0_waitingRow rfl (by decide +kernel) (Nat.le_of_ble_eq_true rfl) (oj_cats rfl) (by decide) ?_
  have loop : ∀ m j, m + j = l.length → ∀ w, fstF (fun j => crW s (rAt l j) && nI ((l.take j).countP (crW s)) == v) m j = w → J mi_X0_waitingRow 1 0 0 (oj_is (.inl (some (.int w))) h) 0 0 5 [some (.ref a), some (.int s), some (.int v), some (.int (nI ((l.take j).countP (crW s)))), some (.int (nI j))] [] h := by
    intro m
    induction m with
    | zero =>
      intro j hj w hw
      obtain rfl : j = l.length := by omega
      repeat (first | (refine J_step rfl rfl ?_) | (refine J_getf rfl rfl rfl (by assumption) rfl ?_))
      refine J_ic rfl (fun hq => ?_) (fun hq => absurd (Int32.le_refl _) hq)
      repeat (first | (refine J_step rfl rfl ?_) | (refine J_getf rfl rfl rfl (by assumption) rfl ?_))
      exact J_iret rfl rfl rfl rfl ⟨by rw [← hw]; rfl, rfl⟩
    | succ m ih =>
      intro j hj w hw
      have hlt : j < l.length := by omega
      have hs := ih (j + 1) (by omega) w
      rw [ct_succ hlt, nI_succ, ← rAt_eq hlt] at hs
      rw [fstF] at hw
      repeat (first | (refine J_step rfl rfl ?_) | (refine J_getf rfl rfl rfl (by assumption) rfl ?_))
      refine J_ic rfl (fun hq => absurd hq (nI_ge (by omega) (by omega))) (fun hq => ?_)
      repeat (first | (refine J_step rfl rfl ?_) | (refine J_getf rfl rfl rfl (by assumption) rfl ?_))
      refine J_cV rfl rfl rfl rfl rfl (by assumption) rfl rfl rfl rfl rfl rfl (c_waitsAt (d := 0) hC' hlt) ?_
      repeat (first | (refine J_step rfl rfl ?_) | (refine J_getf rfl rfl rfl (by assumption) rfl ?_))
      refine J_if (y := 0) rfl (fun hq => ?_) (fun hq => ?_)
      · have hb : crW s (rAt l j) = false := by cases hb : crW s (rAt l j) <;> simp_all [oj_cz, bI]
        rw [hb] at hs hw
        have hs := hs (by simpa using hw)
        simp only [Bool.false_eq_true, if_false, Nat.add_zero] at hs
        iterate 2 (first | (refine J_step rfl rfl ?_) | (refine J_getf rfl rfl rfl (by assumption) rfl ?_))
        exact hs
      · have hb : crW s (rAt l j) = true := by cases hb : crW s (rAt l j) <;> simp_all [oj_cz, bI]
        rw [hb] at hs hw
        repeat (first | (refine J_step rfl rfl ?_) | (refine J_getf rfl rfl rfl (by assumption) rfl ?_))
        refine J_ic rfl (fun hq => ?_) (fun hq => ?_)
        · simp only [oj_cc] at hq
          have hs := hs (by simpa [hq] using hw)
          simp only [if_true, nI_succ] at hs
          iterate 3 (first | (refine J_step rfl rfl ?_) | (refine J_getf rfl rfl rfl (by assumption) rfl ?_))
          exact hs
        · simp only [oj_cc, Classical.not_not] at hq
          repeat (first | (refine J_step rfl rfl ?_) | (refine J_getf rfl rfl rfl (by assumption) rfl ?_))
          exact J_iret rfl rfl rfl rfl ⟨by rw [← hw]; simp [hq], rfl⟩
  iterate 4 (first | (refine J_step rfl rfl ?_) | (refine J_getf rfl rfl rfl (by assumption) rfl ?_))
  exact loop l.length 0 (by omega) _ rfl
