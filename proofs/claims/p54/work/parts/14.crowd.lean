theorem rw_at {R : Nat → Nat → Int32} {l : List Row} (hR : RowsAt R l) {j : Nat} (hj : j < l.length) : R 0 j = rNum l[j] ∧ R 1 j = rWt l[j] ∧ R 2 j = rFrm l[j] ∧ R 3 j = rDst l[j] ∧ R 4 j = rCam l[j] ∧ R 5 j = rCab l[j] ∧ R 6 j = rBrd l[j] := hR j l[j] (List.getElem?_eq_getElem hj)
theorem ct_succ {l : List Row} {p : Row → Bool} {j : Nat} (hj : j < l.length) : (l.take (j + 1)).countP p = (l.take j).countP p + (if p l[j] then 1 else 0) := by
  rw [tk_succ hj, List.countP_append, List.countP_singleton]
theorem ct_all {l : List Row} {p : Row → Bool} : (l.take l.length).countP p = l.countP p := by rw [List.take_length]
def crRid (l : List Row) (cab : Int32) : Nat := l.countP fun r => r.2.2.2.2.2.1 == cab
set_option maxRecDepth 100000 in
set_option maxHeartbeats 2000000 in
theorem c_countRiders {d : Nat} {h : AHp} {a : Nat} {l : List Row} {nb cab : Int32} (hC : CrAt h a l nb) : JM mi_X0_countRiders d 0 0 [.ref a, .int cab] h (oj_is (.inl (some (.int (nI (crRid l cab))))) h) := by
  obtain ⟨R, ⟨h0, h1, h2, h3, h4, h5, h6, h7, hc⟩, hR⟩ := hC
  refine JM_of gd_X0_countRiders rfl (by decide +kernel) (Nat.le_of_ble_eq_true rfl) (oj_cats rfl) (by decide) ?_
  have loop : ∀ m j, m + j = l.length → J mi_X0_countRiders d 0 0 (oj_is (.inl (some (.int (nI (crRid l cab))))) h) 0 0 4 [some (.ref a), some (.int cab), some (.int (nI ((l.take j).countP fun r => r.2.2.2.2.2.1 == cab))), some (.int (nI j))] [] h := by
    intro m
    induction m with
    | zero =>
      intro j hj
      obtain rfl : j = l.length := by omega
      repeat (first | (refine J_step rfl rfl ?_) | (refine J_getf rfl rfl rfl (by assumption) rfl ?_))
      refine J_ic rfl (fun hq => ?_) (fun hq => absurd (Int32.le_refl _) hq)
      repeat (first | (refine J_step rfl rfl ?_) | (refine J_getf rfl rfl rfl (by assumption) rfl ?_))
      exact J_iret rfl rfl rfl rfl ⟨by rw [ct_all]; rfl, rfl⟩
    | succ m ih =>
      intro j hj
      have hlt : j < l.length := by omega
      have hs := ih (j + 1) (by omega)
      rw [ct_succ hlt, nI_succ] at hs
      have e := (rw_at hR hlt).2.2.2.2.2.1
      repeat (first | (refine J_step rfl rfl ?_) | (refine J_getf rfl rfl rfl (by assumption) rfl ?_))
      refine J_ic rfl (fun hq => absurd hq (nI_ge (by omega) (by omega))) (fun hq => ?_)
      repeat (first | (refine J_step rfl rfl ?_) | (refine J_getf rfl rfl rfl (by assumption) rfl ?_))
      refine J_iald rfl (by assumption) (vp_in_nI (by omega) (by omega)) ?_
      rw [nI_clamp (by omega), e]
      repeat (first | (refine J_step rfl rfl ?_) | (refine J_getf rfl rfl rfl (by assumption) rfl ?_))
      refine J_ic rfl (fun hq => ?_) (fun hq => ?_)
      · rw [if_neg (by simpa [oj_cc] using hq)] at hs
        iterate 2 (first | (refine J_step rfl rfl ?_) | (refine J_getf rfl rfl rfl (by assumption) rfl ?_))
        exact hs
      · rw [if_pos (by simpa [oj_cc] using hq), nI_succ] at hs
        iterate 3 (first | (refine J_step rfl rfl ?_) | (refine J_getf rfl rfl rfl (by assumption) rfl ?_))
        exact hs
  iterate 4 (first | (refine J_step rfl rfl ?_) | (refine J_getf rfl rfl rfl (by assumption) rfl ?_))
  exact loop l.length 0 (by omega)
def crWt : List Row → Int32
  | [] => 0
  | r :: l => r.2.1 + crWt l
theorem crWt_app (l m : List Row) : crWt (l ++ m) = crWt l + crWt m := by
  induction l with
  | nil => simp [crWt]
  | cons r l ih => simp [crWt, ih, Int32.add_assoc]
def crFull (l : List Row) (cab : Int32) : Int32 := 200 + crWt (l.filter fun r => r.2.2.2.2.2.1 == cab)
set_option maxRecDepth 100000 in
set_option maxHeartbeats 2000000 in
theorem c_fullWeight {d : Nat} {h : AHp} {a : Nat} {l : List Row} {nb cab : Int32} (hC : CrAt h a l nb) : JM mi_X0_fullWeight d 0 0 [.ref a, .int cab] h (oj_is (.inl (some (.int (crFull l cab)))) h) := by
  obtain ⟨R, ⟨h0, h1, h2, h3, h4, h5, h6, h7, hc⟩, hR⟩ := hC
  refine JM_of gd_X0_fullWeight rfl (by decide +kernel) (Nat.le_of_ble_eq_true rfl) (oj_cats rfl) (by decide) ?_
  have loop : ∀ m j, m + j = l.length → J mi_X0_fullWeight d 0 0 (oj_is (.inl (some (.int (crFull l cab)))) h) 0 0 6 [some (.ref a), some (.int cab), some (.int (crFull (l.take j) cab)), some (.int (nI j))] [] h := by
    intro m
    induction m with
    | zero =>
      intro j hj
      obtain rfl : j = l.length := by omega
      repeat (first | (refine J_step rfl rfl ?_) | (refine J_getf rfl rfl rfl (by assumption) rfl ?_))
      refine J_ic rfl (fun hq => ?_) (fun hq => absurd (Int32.le_refl _) hq)
      repeat (first | (refine J_step rfl rfl ?_) | (refine J_getf rfl rfl rfl (by assumption) rfl ?_))
      exact J_iret rfl rfl rfl rfl ⟨by rw [List.take_length], rfl⟩
    | succ m ih =>
      intro j hj
      have hlt : j < l.length := by omega
      have hs := ih (j + 1) (by omega)
      have e := (rw_at hR hlt).2.2.2.2.2.1
      have e1 := (rw_at hR hlt).2.1
      have e2 : crFull (l.take (j + 1)) cab = crFull (l.take j) cab + (if l[j].2.2.2.2.2.1 == cab then l[j].2.1 else 0) := by
        unfold crFull
        rw [tk_succ hlt, List.filter_append, crWt_app, ← Int32.add_assoc]
        congr 1
        by_cases hq : (l[j].2.2.2.2.2.1 == cab) = true
        · rw [if_pos hq]; simp [List.filter_cons, hq, crWt]
        · rw [if_neg hq]; simp [List.filter_cons, hq, crWt]
      rw [e2, nI_succ] at hs
      repeat (first | (refine J_step rfl rfl ?_) | (refine J_getf rfl rfl rfl (by assumption) rfl ?_))
      refine J_ic rfl (fun hq => absurd hq (nI_ge (by omega) (by omega))) (fun hq => ?_)
      repeat (first | (refine J_step rfl rfl ?_) | (refine J_getf rfl rfl rfl (by assumption) rfl ?_))
      refine J_iald rfl (by assumption) (vp_in_nI (by omega) (by omega)) ?_
      rw [nI_clamp (by omega), e]
      repeat (first | (refine J_step rfl rfl ?_) | (refine J_getf rfl rfl rfl (by assumption) rfl ?_))
      refine J_ic rfl (fun hq => ?_) (fun hq => ?_)
      · rw [if_neg (by simpa [oj_cc] using hq), Int32.add_zero] at hs
        iterate 2 (first | (refine J_step rfl rfl ?_) | (refine J_getf rfl rfl rfl (by assumption) rfl ?_))
        exact hs
      · rw [if_pos (by simpa [oj_cc] using hq)] at hs
        repeat (first | (refine J_step rfl rfl ?_) | (refine J_getf rfl rfl rfl (by assumption) rfl ?_))
        refine J_iald rfl (by assumption) (vp_in_nI (by omega) (by omega)) ?_
        rw [nI_clamp (by omega), e1]
        iterate 4 (first | (refine J_step rfl rfl ?_) | (refine J_getf rfl rfl rfl (by assumption) rfl ?_))
        exact hs
  iterate 4 (first | (refine J_step rfl rfl ?_) | (refine J_getf rfl rfl rfl (by assumption) rfl ?_))
  exact loop l.length 0 (by omega)
