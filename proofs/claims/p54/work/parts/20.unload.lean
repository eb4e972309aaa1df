def crDn (cab s : Int32) (r : Row) : Bool := r.2.2.2.2.2.1 == cab && r.2.2.2.1 == s
/-- the minutes of those who leave -/
def crMin (cab s t : Int32) : List Row → Int32
  | [] => 0
  | r :: l => (if crDn cab s r then t - r.2.2.2.2.1 else 0) + crMin cab s t l
theorem crMin_app (cab s t : Int32) (l m : List Row) : crMin cab s t (l ++ m) = crMin cab s t l + crMin cab s t m := by
  induction l with
  | nil => simp [crMin]
  | cons r l ih => simp [crMin, ih, Int32.add_assoc]
def crUn (cab s : Int32) (l : List Row) : List Row := l.filter fun r => !crDn cab s r
set_option maxRecDepth 100000 in
set_option maxHeartbeats 4000000 in
set_option maxRecDepth 100000 in
set_option maxHeartbeats 2000000 in
theorem c_unload {h : AHp} {a : Nat} {l : List Row} {nb cab s t : Int32} (hC : CrAt h a l nb) : JM mi_X0_unload 1 0 0 [.ref a, .int cab, .int s, .int t] h (fun r h' => r = .inl (some (.int (crMin cab s t l))) ∧ crIs h a (crUn cab s l) nb h') := by
  have hlen : l.length ≤ 20 := by obtain ⟨R, hC, -⟩ := hC; exact hC.2.2.2.2.2.2.2.2
  refine JM_of gd_X0_unload rfl (by decide +kernel) (Nat.le_of_ble_eq_true rfl) (oj_cats rfl) (by decide) ?_
  have loop : ∀ (m p : List Row) (R : Nat → Nat → Int32), p ++ m = l → RowsAt R (crUn cab s p) → (∀ j r, m[j]? = some r → ∀ w, w < 7 → R w (p.length + j) = rowV r w) →
      J mi_X0_unload 1 0 0 (fun r h' => r = .inl (some (.int (crMin cab s t l))) ∧ crIs h a (crUn cab s l) nb h') 0 0 9 [some (.ref a), some (.int cab), some (.int s), some (.int t), some (.int (crMin cab s t p)), some (.int (nI (crUn cab s p).length)), some (.int (nI p.length))] [] (crPut h a R l.length nb) := by
    intro m
    induction m with
    | nil =>
      intro p R hpm hR hm
      rw [List.append_nil] at hpm
      subst hpm
      have hk : (crUn cab s p).length ≤ p.length := List.length_filter_le _ _
      iterate 3 (first | (refine J_step rfl rfl ?_) | (refine J_getf rfl rfl rfl crPut_0 rfl ?_))
      refine J_ic rfl (fun hq => ?_) (fun hq => absurd (Int32.le_refl _) hq)
      iterate 2 (refine J_step rfl rfl ?_)
      refine J_putf rfl rfl rfl crPut_0 rfl rfl (fun _ => rfl) rfl rfl ?_
      refine J_heap (h2 := crPut h a R (crUn cab s p).length nb) (by rw [← crPut_cnt (c := p.length)]; rfl) ?_
      iterate 1 (refine J_step rfl rfl ?_)
      exact J_iret rfl rfl rfl rfl ⟨rfl, R, rfl, hR, by omega⟩
    | cons r m ih =>
      intro p R hpm hR hm
      have hlt : p.length < l.length := by rw [← hpm, List.length_append, List.length_cons]; omega
      have hr : ∀ w, w < 7 → R w p.length = rowV r w := hm 0 r rfl
      have hk : (crUn cab s p).length ≤ p.length := List.length_filter_le _ _
      have hpl : nI p.length + 1 = nI (p ++ [r]).length := by rw [List.length_append, ← nI_succ]; rfl
      have hm' : ∀ j r', m[j]? = some r' → ∀ w, w < 7 → R w ((p ++ [r]).length + j) = rowV r' w := fun j r' hj w hw => by
        have := hm (j + 1) r' hj w hw
        rw [List.length_append]
        show R w (p.length + 1 + j) = _
        rw [show p.length + 1 + j = p.length + (j + 1) by omega]
        exact this
      iterate 3 (first | (refine J_step rfl rfl ?_) | (refine J_getf rfl rfl rfl crPut_0 rfl ?_))
      refine J_ic rfl (fun hq => absurd hq (nI_ge hlt (by omega))) (fun hq => ?_)
      iterate 3 (first | (refine J_step rfl rfl ?_) | (refine J_getf rfl rfl rfl crPut_0 rfl ?_))
      refine J_iald rfl (crPut_k (k := 5) (by omega)) (vp_in_nI (by omega) (by omega)) ?_
      rw [nI_clamp (by omega), hr 5 (by omega)]
      iterate 1 (refine J_step rfl rfl ?_)
      have keep : crDn cab s r = false → J mi_X0_unload 1 0 0 (fun r h' => r = .inl (some (.int (crMin cab s t l))) ∧ crIs h a (crUn cab s l) nb h') 0 0 57 [some (.ref a), some (.int cab), some (.int s), some (.int t), some (.int (crMin cab s t p)), some (.int (nI (crUn cab s p).length)), some (.int (nI p.length))] [] (crPut h a R l.length nb) := by
        intro hno
        have e1 : crUn cab s (p ++ [r]) = crUn cab s p ++ [r] := by unfold crUn; rw [List.filter_append]; simp [hno]
        have e2 : crMin cab s t (p ++ [r]) = crMin cab s t p := by rw [crMin_app]; simp [crMin, hno]
        have hs := ih (p ++ [r]) (rowSet R (crUn cab s p).length R p.length) (by rw [List.append_assoc]; exact hpm) ?_ ?_
        · rw [e1, e2, ← hpl, show nI (crUn cab s p ++ [r]).length = nI (crUn cab s p).length + 1 by rw [List.length_append, ← nI_succ]; rfl] at hs
          iterate 4 (refine J_step rfl rfl ?_)
          refine J_cV rfl rfl rfl rfl rfl crPut_0 rfl rfl rfl rfl rfl rfl (c_copyRow (d := 0) (b := a) (by omega) (by omega) (fun _ => crPut_0) (fun w R' hw e => by rw [crPut_k hw, e])) ?_
          iterate 3 (first | (refine J_step rfl rfl ?_) | (refine J_getf rfl rfl rfl (by assumption) rfl ?_))
          exact hs
        · rw [e1]
          refine rowsAt_app (rowsAt_iff.mpr fun j r' hj w hw => ?_) (fun j r' hj w hw => ?_)
          · unfold rowSet
            rw [if_neg (Nat.ne_of_lt (List.getElem?_eq_some_iff.mp hj).1)]
            exact rowsAt_iff.mp hR j r' hj w hw
          · cases j with
            | zero => cases hj; unfold rowSet; rw [Nat.add_zero, if_pos rfl]; exact hr w hw
            | succ j => cases hj
        · intro j r' hj w hw
          unfold rowSet
          rw [if_neg (by rw [List.length_append, List.length_cons]; omega)]
          exact hm' j r' hj w hw
      refine J_ic rfl (fun hq2 => ?_) (fun hq2 => ?_)
      · exact keep (by simp only [oj_cc, rowV] at hq2; simp [crDn, hq2])
      · simp only [oj_cc, Classical.not_not, rowV] at hq2
        iterate 3 (first | (refine J_step rfl rfl ?_) | (refine J_getf rfl rfl rfl crPut_0 rfl ?_))
        refine J_iald rfl (crPut_k (k := 3) (by omega)) (vp_in_nI (by omega) (by omega)) ?_
        rw [nI_clamp (by omega), hr 3 (by omega)]
        iterate 1 (refine J_step rfl rfl ?_)
        refine J_ic rfl (fun hq3 => ?_) (fun hq3 => ?_)
        · exact keep (by simp only [oj_cc, rowV] at hq3; simp [crDn, hq3])
        · simp only [oj_cc, Classical.not_not, rowV] at hq3
          have hyes : crDn cab s r = true := by simp [crDn, hq2, hq3]
          have e1 : crUn cab s (p ++ [r]) = crUn cab s p := by unfold crUn; rw [List.filter_append]; simp [hyes]
          have e2 : crMin cab s t (p ++ [r]) = crMin cab s t p + (t - r.2.2.2.2.1) := by rw [crMin_app]; simp [crMin, hyes]
          have hs := ih (p ++ [r]) R (by rw [List.append_assoc]; exact hpm) (by rw [e1]; exact hR) hm'
          rw [e1, e2, ← hpl] at hs
          iterate 5 (first | (refine J_step rfl rfl ?_) | (refine J_getf rfl rfl rfl crPut_0 rfl ?_))
          refine J_iald rfl (crPut_k (k := 4) (by omega)) (vp_in_nI (by omega) (by omega)) ?_
          rw [nI_clamp (by omega), hr 4 (by omega)]
          iterate 6 (first | (refine J_step rfl rfl ?_) | (refine J_getf rfl rfl rfl (by assumption) rfl ?_))
          exact hs
  obtain ⟨R, hC, hR⟩ := hC
  refine J_heap (crPut_self hC) ?_
  iterate 6 (first | (refine J_step rfl rfl ?_) | (refine J_getf rfl rfl rfl (by assumption) rfl ?_))
  exact loop l [] R rfl (fun j r hj => by cases hj) (fun j r hj w hw => by rw [show ([] : List Row).length + j = j from Nat.zero_add j]; exact rowsAt_iff.mp hR j r hj w hw)
