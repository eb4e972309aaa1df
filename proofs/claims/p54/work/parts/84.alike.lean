/-! two arrays of the same numbers are alike -/
set_option maxRecDepth 100000 in
set_option maxHeartbeats 2000000 in
theorem c_alike {d a b : Nat} {h : AHp} {f : Nat → Int32} (ha : h a = .inl (0, 140, .inl f)) (hb : h b = .inl (0, 140, .inl f)) : JM mi_L_areAlike d 0 0 [.ref a, .ref b] h (oj_is (.inl (some (.int 1))) h) := by
  refine JM_of gd_L_areAlike rfl (by decide +kernel) (Nat.le_of_ble_eq_true rfl) (oj_cats rfl) (by decide) ?_
  have loop : ∀ m j, m + j = 140 → J mi_L_areAlike d 0 0 (oj_is (.inl (some (.int 1))) h) 0 0 2 [some (.ref a), some (.ref b), some (.int (nI j))] [] h := by
    intro m
    induction m with
    | zero =>
      intro j hj
      obtain rfl : j = 140 := by omega
      iterate 2 (refine J_step rfl rfl ?_)
      refine J_alenI rfl ha ?_
      refine J_ic rfl (fun _ => ?_) (fun z => absurd (Int32.le_refl _) z)
      refine J_step rfl rfl ?_
      exact J_zret rfl rfl rfl rfl true rfl ⟨rfl, rfl⟩
    | succ m ih =>
      intro j hj
      iterate 2 (refine J_step rfl rfl ?_)
      refine J_alenI rfl ha ?_
      refine J_ic rfl (fun z => absurd (show nI 140 ≤ nI j from z) (nI_ge (by omega) (by omega))) (fun _ => ?_)
      iterate 2 (refine J_step rfl rfl ?_)
      refine J_iald rfl ha (vp_in_nI (by omega) (by omega)) ?_
      iterate 2 (refine J_step rfl rfl ?_)
      refine J_iald rfl hb (vp_in_nI (by omega) (by omega)) ?_
      refine J_ic rfl (fun _ => ?_) (fun z => absurd rfl z)
      refine J_step rfl rfl ?_
      rw [nI_1]
      refine J_step rfl rfl ?_
      exact ih (j + 1) (by omega)
  iterate 2 (refine J_step rfl rfl ?_)
  exact loop 140 0 rfl
