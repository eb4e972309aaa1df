/-- the heap h with the crowd at a made to hold l -/
def crIs (h : AHp) (a : Nat) (l : List Row) (nb : Int32) (h' : AHp) : Prop := ∃ R, h' = crPut h a R l.length nb ∧ RowsAt R l ∧ l.length ≤ 20
theorem crIs_at {h h' : AHp} {a : Nat} {l : List Row} {nb : Int32} (H : crIs h a l nb h') : CrAt h' a l nb := by
  obtain ⟨R, rfl, hR, hl⟩ := H
  exact ⟨R, crPut_raw hl, hR⟩
theorem crIs_of {h : AHp} {a : Nat} {l : List Row} {nb : Int32} (H : CrAt h a l nb) : crIs h a l nb h := by
  obtain ⟨R, hC, hR⟩ := H
  exact ⟨R, (crPut_self hC).symm, hR, hC.2.2.2.2.2.2.2.2⟩
theorem crIs_ne {h h' : AHp} {a : Nat} {l : List Row} {nb : Int32} (H : crIs h a l nb h') {x : Nat} (hx : x < a ∨ a + 7 < x) : h' x = h x := by
  obtain ⟨R, rfl, -⟩ := H
  exact crPut_ne hx
theorem crIs_trans {h h1 h2 : AHp} {a : Nat} {l l2 : List Row} {nb nb2 : Int32} (H1 : crIs h a l nb h1) (H2 : crIs h1 a l2 nb2 h2) : crIs h a l2 nb2 h2 := by
  obtain ⟨R, rfl, hR⟩ := H1
  obtain ⟨R2, rfl, hR2⟩ := H2
  exact ⟨R2, crPut_put, hR2⟩
def rowV (r : Row) (w : Nat) : Int32 := match w with
  | 0 => rNum r
  | 1 => rWt r
  | 2 => rFrm r
  | 3 => rDst r
  | 4 => rCam r
  | 5 => rCab r
  | _ => rBrd r
theorem rowsAt_iff {R : Nat → Nat → Int32} {l : List Row} : RowsAt R l ↔ ∀ j r, l[j]? = some r → ∀ w, w < 7 → R w j = rowV r w := by
  constructor
  · intro h j r hj w hw
    obtain ⟨h0, h1, h2, h3, h4, h5, h6⟩ := h j r hj
    match w, hw with
    | 0, _ => exact h0
    | 1, _ => exact h1
    | 2, _ => exact h2
    | 3, _ => exact h3
    | 4, _ => exact h4
    | 5, _ => exact h5
    | 6, _ => exact h6
  · intro h j r hj
    have := h j r hj
    exact ⟨this 0 (by omega), this 1 (by omega), this 2 (by omega), this 3 (by omega), this 4 (by omega), this 5 (by omega), this 6 (by omega)⟩
set_option maxRecDepth 100000 in
set_option maxHeartbeats 2000000 in
theorem c_append {d : Nat} {h : AHp} {a : Nat} {l : List Row} {nb v0 v1 v2 v3 v4 : Int32} (hC : CrAt h a l nb) (hl : l.length < 20) : JM mi_X0_append d 0 0 [.ref a, .int v0, .int v1, .int v2, .int v3, .int v4] h (fun r h' => r = .inl none ∧ crIs h a (l ++ [(v0, v1, v2, v3, v4, -1, 0)]) nb h') := by
  obtain ⟨R, hC, hR⟩ := hC
  refine JM_heap (crPut_self hC) ?_
  refine JM_of gd_X0_append rfl (by decide +kernel) (Nat.le_of_ble_eq_true rfl) (oj_cats rfl) (by decide) ?_
  iterate 3 (first | (refine J_step rfl rfl ?_) | (refine J_getf rfl rfl rfl crPut_0 rfl ?_))
  refine J_ic rfl (fun _ => ?_) (fun hq => absurd (nI_lt hl (by omega) : nI l.length < nI 20) hq)
  refine J_heap (rowK_0 (t := l.length) (S := fun w _ => rowV (v0, v1, v2, v3, v4, -1, 0) w) (f := 0)) ?_
  iterate 5 (first | (refine J_step rfl rfl ?_) | (refine J_getf rfl rfl rfl crPut_0 rfl ?_))
  refine J_iast rfl ((crPut_k (k := 0) (by omega)).trans (by rw [rowK_at])) (vp_in_nI (by omega) (by omega)) ?_
  rw [nI_clamp (by omega)]
  refine J_heap (rowK_succ (k := 0) (S := fun w _ => rowV (v0, v1, v2, v3, v4, -1, 0) w) (f := 0) (by omega)).symm ?_
  iterate 5 (first | (refine J_step rfl rfl ?_) | (refine J_getf rfl rfl rfl crPut_0 rfl ?_))
  refine J_iast rfl ((crPut_k (k := 1) (by omega)).trans (by rw [rowK_at])) (vp_in_nI (by omega) (by omega)) ?_
  rw [nI_clamp (by omega)]
  refine J_heap (rowK_succ (k := 1) (S := fun w _ => rowV (v0, v1, v2, v3, v4, -1, 0) w) (f := 0) (by omega)).symm ?_
  iterate 5 (first | (refine J_step rfl rfl ?_) | (refine J_getf rfl rfl rfl crPut_0 rfl ?_))
  refine J_iast rfl ((crPut_k (k := 2) (by omega)).trans (by rw [rowK_at])) (vp_in_nI (by omega) (by omega)) ?_
  rw [nI_clamp (by omega)]
  refine J_heap (rowK_succ (k := 2) (S := fun w _ => rowV (v0, v1, v2, v3, v4, -1, 0) w) (f := 0) (by omega)).symm ?_
  iterate 5 (first | (refine J_step rfl rfl ?_) | (refine J_getf rfl rfl rfl crPut_0 rfl ?_))
  refine J_iast rfl ((crPut_k (k := 3) (by omega)).trans (by rw [rowK_at])) (vp_in_nI (by omega) (by omega)) ?_
  rw [nI_clamp (by omega)]
  refine J_heap (rowK_succ (k := 3) (S := fun w _ => rowV (v0, v1, v2, v3, v4, -1, 0) w) (f := 0) (by omega)).symm ?_
  iterate 5 (first | (refine J_step rfl rfl ?_) | (refine J_getf rfl rfl rfl crPut_0 rfl ?_))
  refine J_iast rfl ((crPut_k (k := 4) (by omega)).trans (by rw [rowK_at])) (vp_in_nI (by omega) (by omega)) ?_
  rw [nI_clamp (by omega)]
  refine J_heap (rowK_succ (k := 4) (S := fun w _ => rowV (v0, v1, v2, v3, v4, -1, 0) w) (f := 0) (by omega)).symm ?_
  iterate 5 (first | (refine J_step rfl rfl ?_) | (refine J_getf rfl rfl rfl crPut_0 rfl ?_))
  refine J_iast rfl ((crPut_k (k := 5) (by omega)).trans (by rw [rowK_at])) (vp_in_nI (by omega) (by omega)) ?_
  rw [nI_clamp (by omega)]
  refine J_heap (rowK_succ (k := 5) (S := fun w _ => rowV (v0, v1, v2, v3, v4, -1, 0) w) (f := 0) (by omega)).symm ?_
  iterate 5 (first | (refine J_step rfl rfl ?_) | (refine J_getf rfl rfl rfl crPut_0 rfl ?_))
  refine J_iast rfl ((crPut_k (k := 6) (by omega)).trans (by rw [rowK_at])) (vp_in_nI (by omega) (by omega)) ?_
  rw [nI_clamp (by omega)]
  refine J_heap (rowK_succ (k := 6) (S := fun w _ => rowV (v0, v1, v2, v3, v4, -1, 0) w) (f := 0) (by omega)).symm ?_
  refine J_heap rowK_7.symm ?_
  iterate 5 (first | (refine J_step rfl rfl ?_) | (refine J_getf rfl rfl rfl crPut_0 rfl ?_))
  refine J_putf rfl rfl rfl crPut_0 rfl rfl (fun _ => rfl) rfl rfl ?_
  refine J_heap (h2 := crPut (crPut h a R l.length nb) a (rowSet R l.length (fun w _ => rowV (v0, v1, v2, v3, v4, -1, 0) w) 0) (l.length + 1) nb) ?_ ?_
  · rw [← crPut_cnt (c := l.length), crPut_put, nI_succ]; rfl
  · refine J_vret rfl rfl rfl rfl ⟨rfl, ?_⟩
    refine ⟨rowSet R l.length (fun w _ => rowV (v0, v1, v2, v3, v4, -1, 0) w) 0, by rw [crPut_self hC, List.length_append]; rfl, rowsAt_iff.mpr fun j r hj w hw => ?_, by rw [List.length_append]; simp only [List.length_cons, List.length_nil]; omega⟩
    unfold rowSet
    by_cases e : j = l.length
    · subst e
      rw [List.getElem?_append_right (Nat.le_refl _), Nat.sub_self] at hj
      cases hj
      rw [if_pos rfl]
    · have hlt : j < l.length := by
        have := (List.getElem?_eq_some_iff.mp hj).1
        rw [List.length_append] at this
        simp only [List.length_cons, List.length_nil] at this
        omega
      rw [List.getElem?_append_left hlt] at hj
      rw [if_neg e]
      exact rowsAt_iff.mp hR j r hj w hw
set_option maxRecDepth 100000 in
set_option maxHeartbeats 2000000 in
theorem c_drop {h : AHp} {a i : Nat} {l : List Row} {nb : Int32} (hC : CrAt h a l nb) (hi : i < l.length) : JM mi_X0_drop 1 0 0 [.ref a, .int (nI i)] h (fun r h' => r = .inl none ∧ crIs h a (l.eraseIdx i) nb h') := by
  obtain ⟨R, hC, hR⟩ := hC
  have hc : l.length ≤ 20 := hC.2.2.2.2.2.2.2.2
  refine JM_heap (crPut_self hC) ?_
  refine JM_of gd_X0_drop rfl (by decide +kernel) (Nat.le_of_ble_eq_true rfl) (oj_cats rfl) (by decide) ?_
  have loop : ∀ m x, m + x = l.length → i + 1 ≤ x → J mi_X0_drop 1 0 0 (fun r h' => r = .inl none ∧ crIs h a (l.eraseIdx i) nb h') 0 0 4 [some (.ref a), some (.int (nI i)), some (.int (nI x))] [] (crPut h a (fun w j => if i ≤ j ∧ j + 1 < x then R w (j + 1) else R w j) l.length nb) := by
    intro m
    induction m with
    | zero =>
      intro x hx hix
      obtain rfl : x = l.length := by omega
      iterate 3 (first | (refine J_step rfl rfl ?_) | (refine J_getf rfl rfl rfl crPut_0 rfl ?_))
      refine J_ic rfl (fun hq => ?_) (fun hq => absurd (Int32.le_refl _) hq)
      iterate 5 (first | (refine J_step rfl rfl ?_) | (refine J_getf rfl rfl rfl crPut_0 rfl ?_))
      refine J_putf rfl rfl rfl crPut_0 rfl rfl (fun _ => rfl) rfl rfl ?_
      refine J_heap (h2 := crPut h a (fun w j => if i ≤ j ∧ j + 1 < l.length then R w (j + 1) else R w j) (l.length - 1) nb) ?_ ?_
      · rw [← crPut_cnt (c := l.length), ← pk_sub (by omega : 1 ≤ l.length)]; rfl
      · refine J_vret rfl rfl rfl rfl ⟨rfl, ?_⟩
        refine ⟨_, by rw [List.length_eraseIdx_of_lt hi], rowsAt_iff.mpr fun j r hj w hw => ?_, by rw [List.length_eraseIdx_of_lt hi]; omega⟩
        have hlt := (List.getElem?_eq_some_iff.mp hj).1
        rw [List.length_eraseIdx_of_lt hi] at hlt
        rw [List.getElem?_eraseIdx] at hj
        by_cases e : j < i
        · rw [if_pos e] at hj
          show (if i ≤ j ∧ j + 1 < l.length then R w (j + 1) else R w j) = _
          rw [if_neg (by omega)]
          exact rowsAt_iff.mp hR j r hj w hw
        · rw [if_neg e] at hj
          show (if i ≤ j ∧ j + 1 < l.length then R w (j + 1) else R w j) = _
          rw [if_pos (by omega)]
          exact rowsAt_iff.mp hR (j + 1) r hj w hw
    | succ m ih =>
      intro x hx hix
      have hs := ih (x + 1) (by omega) (by omega)
      rw [nI_succ] at hs
      iterate 3 (first | (refine J_step rfl rfl ?_) | (refine J_getf rfl rfl rfl crPut_0 rfl ?_))
      refine J_ic rfl (fun hq => absurd hq (nI_ge (by omega) (by omega))) (fun hq => ?_)
      iterate 6 (refine J_step rfl rfl ?_)
      rw [show nI x - 1 = nI (x - 1) from pk_sub (by omega : 1 ≤ x)]
      refine J_cV rfl rfl rfl rfl rfl crPut_0 rfl rfl rfl rfl rfl rfl (c_copyRow (d := 0) (b := a) (by omega) (by omega) (fun _ => crPut_0) (fun w R' hw e => by rw [crPut_k hw, e])) ?_
      refine J_heap (h2 := crPut h a (fun w j => if i ≤ j ∧ j + 1 < x + 1 then R w (j + 1) else R w j) l.length nb) ?_ ?_
      · refine crPut_congr fun w hw => ?_
        funext j
        unfold rowSet
        dsimp only
        by_cases e : j = x - 1
        · subst e
          rw [if_pos rfl, if_pos ⟨by omega, by omega⟩, if_neg (by omega), show x - 1 + 1 = x by omega]
        · rw [if_neg e]
          by_cases q : i ≤ j ∧ j + 1 < x
          · rw [if_pos q, if_pos ⟨q.1, by omega⟩]
          · rw [if_neg q, if_neg (by omega)]
      · iterate 2 (first | (refine J_step rfl rfl ?_) | (refine J_getf rfl rfl rfl (by assumption) rfl ?_))
        exact hs
  iterate 4 (refine J_step rfl rfl ?_)
  have h1 := loop (l.length - (i + 1)) (i + 1) (by omega) (Nat.le_refl _)
  rw [nI_succ] at h1
  refine J_heap (h2 := crPut h a (fun w j => if i ≤ j ∧ j + 1 < i + 1 then R w (j + 1) else R w j) l.length nb) (crPut_congr fun w hw => by funext j; rw [if_neg (by omega)]) ?_
  exact h1
set_option maxRecDepth 100000 in
set_option maxHeartbeats 2000000 in
theorem c_crCopyFrom {h : AHp} {a b : Nat} {l l2 : List Row} {nb nb2 : Int32} (hC : CrAt h a l nb) (hC2 : CrAt h b l2 nb2) (hab : b + 7 < a ∨ a + 7 < b) : JM mi_X0_copyFrom 1 0 0 [.ref a, .ref b] h (fun r h' => r = .inl none ∧ crIs h a l2 nb2 h') := by
  obtain ⟨R, hC, hR⟩ := hC
  obtain ⟨S, ⟨b0, b1, b2, b3, b4, b5, b6, b7, hc2⟩, hS⟩ := hC2
  have hc : l.length ≤ 20 := hC.2.2.2.2.2.2.2.2
  have e0 : ∀ R' c' nb', crPut h a R' c' nb' b = _ := fun R' c' nb' => (crPut_ne (by omega)).trans b0
  refine JM_heap (crPut_self hC) ?_
  refine JM_of gd_X0_copyFrom rfl (by decide +kernel) (Nat.le_of_ble_eq_true rfl) (oj_cats rfl) (by decide) ?_
  iterate 3 (first | (refine J_step rfl rfl ?_) | (refine J_getf rfl rfl rfl (by first | exact crPut_0 | exact e0 _ _ _) rfl ?_))
  refine J_putf rfl rfl rfl crPut_0 rfl rfl (fun _ => rfl) rfl rfl ?_
  refine J_heap (h2 := crPut h a R l2.length nb) (by rw [← crPut_cnt (c := l.length)]; rfl) ?_
  iterate 3 (first | (refine J_step rfl rfl ?_) | (refine J_getf rfl rfl rfl (by first | exact crPut_0 | exact e0 _ _ _) rfl ?_))
  refine J_putf rfl rfl rfl crPut_0 rfl rfl (fun _ => rfl) rfl rfl ?_
  refine J_heap (h2 := crPut h a R l2.length nb2) (by rw [← crPut_cnt (c := l2.length) (nb := nb)]; rfl) ?_
  have loop : ∀ m x, m + x = l2.length → J mi_X0_copyFrom 1 0 0 (fun r h' => r = .inl none ∧ crIs h a l2 nb2 h') 0 0 18 [some (.ref a), some (.ref b), some (.int (nI x))] [] (crPut h a (fun w j => if j < x then S w j else R w j) l2.length nb2) := by
    intro m
    induction m with
    | zero =>
      intro x hx
      obtain rfl : x = l2.length := by omega
      iterate 3 (first | (refine J_step rfl rfl ?_) | (refine J_getf rfl rfl rfl crPut_0 rfl ?_))
      refine J_ic rfl (fun hq => ?_) (fun hq => absurd (Int32.le_refl _) hq)
      refine J_vret rfl rfl rfl rfl ⟨rfl, ?_⟩
      refine ⟨_, rfl, rowsAt_iff.mpr fun j r hj w hw => ?_, hc2⟩
      show (if j < l2.length then S w j else R w j) = _
      rw [if_pos (List.getElem?_eq_some_iff.mp hj).1]
      exact rowsAt_iff.mp hS j r hj w hw
    | succ m ih =>
      intro x hx
      have hs := ih (x + 1) (by omega)
      rw [nI_succ] at hs
      iterate 3 (first | (refine J_step rfl rfl ?_) | (refine J_getf rfl rfl rfl crPut_0 rfl ?_))
      refine J_ic rfl (fun hq => absurd hq (nI_ge (by omega) (by omega))) (fun hq => ?_)
      iterate 4 (refine J_step rfl rfl ?_)
      refine J_cV rfl rfl rfl rfl rfl crPut_0 rfl rfl rfl rfl rfl rfl (c_copyRow (d := 0) (b := b) (S := S) (by omega) (by omega) (fun R' => e0 R' _ _) (fun w R' hw e => ?_)) ?_
      · rw [crPut_ne (by omega)]
        match w, hw with
        | 0, _ => exact b1
        | 1, _ => exact b2
        | 2, _ => exact b3
        | 3, _ => exact b4
        | 4, _ => exact b5
        | 5, _ => exact b6
        | 6, _ => exact b7
      · refine J_heap (h2 := crPut h a (fun w j => if j < x + 1 then S w j else R w j) l2.length nb2) ?_ ?_
        · refine crPut_congr fun w hw => ?_
          funext j
          unfold rowSet
          dsimp only
          by_cases e : j = x
          · subst e
            rw [if_pos rfl, if_pos (by omega)]
          · rw [if_neg e]
            by_cases q : j < x
            · rw [if_pos q, if_pos (by omega)]
            · rw [if_neg q, if_neg (by omega)]
        · iterate 2 (first | (refine J_step rfl rfl ?_) | (refine J_getf rfl rfl rfl (by assumption) rfl ?_))
          exact hs
  iterate 2 (first | (refine J_step rfl rfl ?_) | (refine J_getf rfl rfl rfl (by assumption) rfl ?_))
  refine J_heap (h2 := crPut h a (fun w j => if j < 0 then S w j else R w j) l2.length nb2) (crPut_congr fun w hw => by funext j; rw [if_neg (by omega)]) ?_
  exact loop l2.length 0 (by omega)
