def smv (l : List Row) : Nat → Int32
  | 0 => 0
  | j + 1 => (rAt l j).1 + 1
def SoundO (l : List Row) (cm : Int32) : Prop := (∀ j, j < l.length → smv l j ≤ (rAt l j).1) ∧ (∀ j, j < l.length → ¬ (rAt l j).2.2.1 = (rAt l j).2.2.2.1) ∧ smv l l.length ≤ cm
set_option maxRecDepth 100000 in
set_option maxHeartbeats 2000000 in
theorem c_isOrdered {d : Nat} {h : AHp} {a : Nat} {l : List Row} {nb cm : Int32} (hC : CrAt h a l nb) (ho : SoundO l cm) : JM mi_X0_isOrdered d 0 0 [.ref a, .int cm] h (oj_is (.inl (some (.int (bI true)))) h) := by
  obtain ⟨R, ⟨h0, h1, h2, h3, h4, h5, h6, h7, hc⟩, hR⟩ := hC
  obtain ⟨o1, o2, o3⟩ := ho
  refine JM_of gd_X0_isOrdered rfl (by decide +kernel) (Nat.le_of_ble_eq_true rfl) (oj_cats rfl) (by decide) ?_
  have loop : ∀ m j, m + j = l.length → J mi_X0_isOrdered d 0 0 (oj_is (.inl (some (.int (bI true)))) h) 0 0 4 [some (.ref a), some (.int cm), some (.int (smv l j)), some (.int (nI j))] [] h := by
    intro m
    induction m with
    | zero =>
      intro j hj
      obtain rfl : j = l.length := by omega
      repeat (first | (refine J_step rfl rfl ?_) | (refine J_getf rfl rfl rfl (by assumption) rfl ?_))
      refine J_ic rfl (fun hq => ?_) (fun hq => absurd (Int32.le_refl _) hq)
      repeat (first | (refine J_step rfl rfl ?_) | (refine J_getf rfl rfl rfl (by assumption) rfl ?_))
      refine J_ic rfl (fun hq => absurd hq (i32_nlt o3)) (fun hq => ?_)
      repeat (first | (refine J_step rfl rfl ?_) | (refine J_getf rfl rfl rfl (by assumption) rfl ?_))
      exact J_zret rfl rfl rfl rfl true rfl ⟨rfl, rfl⟩
    | succ m ih =>
      intro j hj
      have hlt : j < l.length := by omega
      have e := rw_rAt hR hlt
      repeat (first | (refine J_step rfl rfl ?_) | (refine J_getf rfl rfl rfl (by assumption) rfl ?_))
      refine J_ic rfl (fun hq => absurd hq (nI_ge (by omega) (by omega))) (fun hq => ?_)
      repeat (first | (refine J_step rfl rfl ?_) | (refine J_getf rfl rfl rfl (by assumption) rfl ?_))
      refine J_iald rfl (by assumption) (vp_in_nI (by omega) (by omega)) ?_
      rw [nI_clamp (by omega), e.1]
      repeat (first | (refine J_step rfl rfl ?_) | (refine J_getf rfl rfl rfl (by assumption) rfl ?_))
      refine J_ic rfl (fun hq => absurd hq (i32_nlt (o1 j hlt))) (fun hq => ?_)
      repeat (first | (refine J_step rfl rfl ?_) | (refine J_getf rfl rfl rfl (by assumption) rfl ?_))
      refine J_iald rfl (by assumption) (vp_in_nI (by omega) (by omega)) ?_
      rw [nI_clamp (by omega), e.2.2.1]
      repeat (first | (refine J_step rfl rfl ?_) | (refine J_getf rfl rfl rfl (by assumption) rfl ?_))
      refine J_iald rfl (by assumption) (vp_in_nI (by omega) (by omega)) ?_
      rw [nI_clamp (by omega), e.2.2.2.1]
      refine J_ic rfl (fun hq => ?_) (fun hq => absurd (o2 j hlt) hq)
      repeat (first | (refine J_step rfl rfl ?_) | (refine J_getf rfl rfl rfl (by assumption) rfl ?_))
      refine J_iald rfl (by assumption) (vp_in_nI (by omega) (by omega)) ?_
      rw [nI_clamp (by omega), e.1]
      have hs := ih (j + 1) (by omega)
      rw [nI_succ] at hs
      iterate 5 (first | (refine J_step rfl rfl ?_) | (refine J_getf rfl rfl rfl (by assumption) rfl ?_))
      exact hs
  iterate 4 (first | (refine J_step rfl rfl ?_) | (refine J_getf rfl rfl rfl (by assumption) rfl ?_))
  exact loop l.length 0 (by omega)
