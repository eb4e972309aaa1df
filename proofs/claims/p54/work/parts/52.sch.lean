theorem cOk_i2c (x : Int32) : cOk (x.toUInt32 % 65536).toInt32 := by
  show vp_nar .char _ = _
  rw [vp_nar_char]
  rw [← UInt32.toUInt32_toUInt16]
  simp
  have e : x.toUInt32 % 65536 % 65536 = x.toUInt32 % 65536 := UInt32.toNat_inj.mp (by rw [UInt32.toNat_mod, UInt32.toNat_mod, Nat.mod_mod])
  rw [e]
theorem cOk_nar {x : Int32} (h : cOk x) : narrow .char (.int x) = .int x := by
  have h1 : vp_nar .char x = x := h
  exact (congrArg Value.int h1 : Value.int (vp_nar .char x) = .int x)
set_option maxRecDepth 100000 in
set_option maxHeartbeats 2000000 in
theorem c_isLatinH {d s : Nat} {h : AHp} {v1 v2 v3 : Value} (e : h s = .inr (7, [v1, .int 0, v2, v3])) : JM mi_J_isLatin1 d 0 0 [.ref s] h (oj_is (.inl (some (.int 1))) h) := by
  refine JM_of gd_J_isLatin1 rfl (by decide +kernel) (Nat.le_of_ble_eq_true rfl) (oj_cats rfl) (by decide) ?_
  refine J_strcs (by decide +kernel) rfl ?_
  refine J_if (y := 0) rfl (fun hz => absurd hz (show ¬ (1 : Int32) = 0 by decide)) (fun _ => ?_)
  refine J_step rfl rfl ?_
  refine J_gf (ci := 7) (k0 := 1) rfl ⟨_, _, _, rfl, by decide, by decide +kernel⟩ (e) rfl ?_
  refine J_if (y := 0) rfl (fun hz => absurd rfl hz) (fun _ => ?_)
  refine J_step rfl rfl ?_
  refine J_step rfl rfl ?_
  exact J_cret rfl rfl rfl rfl (by decide) ⟨rfl, rfl⟩
set_option maxRecDepth 100000 in
set_option maxHeartbeats 2000000 in
theorem c_slatH {b w j : Nat} {h : AHp} {f : Nat → Int32} (e2 : h b = .inl (2, w, .inl f)) (hj : j < w) (hw : w < 100) : JM mi_J_lat 2 0 0 [.ref b, .int (nI j)] h (fun r h' => (∃ x, r = .inl (some (.int x)) ∧ cOk x) ∧ h' = h) := by
  refine JM_of gd_J_lat rfl (by decide +kernel) (Nat.le_of_ble_eq_true rfl) (oj_cats rfl) (by decide) ?_
  iterate 2 (refine J_step rfl rfl ?_)
  refine J_alenB rfl e2 ?_
  refine J_callP (na := 2) (As := [.int (nI j), .int (nI w)]) rfl rfl rfl (by decide +kernel) (by decide +kernel) (by decide +kernel) (by decide +kernel) (by decide +kernel) (by decide) rfl rfl rfl rfl (c_schk hj hw) (Nat.le_refl _) (Nat.le_refl _) (fun E h' z => by cases z.1) (fun v h' z => ?_)
  obtain ⟨z1, z2⟩ := z
  obtain rfl := z2.symm
  cases z1
  iterate 2 (refine J_step rfl rfl ?_)
  refine J_bald rfl e2 (vp_in_nI hj (by omega)) ?_
  iterate 3 (refine J_step rfl rfl ?_)
  exact J_cret rfl rfl rfl rfl (cOk_nar (cOk_i2c _)) ⟨⟨_, rfl, cOk_i2c _⟩, rfl⟩
set_option maxRecDepth 100000 in
set_option maxHeartbeats 2000000 in
theorem c_scharH {s b w j : Nat} {h : AHp} {f : Nat → Int32} (e : h s = .inr (7, [.ref b, .int 0, .int 0, .int 0])) (e2 : h b = .inl (2, w, .inl f)) (hj : j < w) (hw : w < 100) : JM mi_J_charAt 3 0 0 [.ref s, .int (nI j)] h (fun r h' => (∃ x, r = .inl (some (.int x)) ∧ cOk x) ∧ h' = h) := by
  refine JM_of gd_J_charAt rfl (by decide +kernel) (Nat.le_of_ble_eq_true rfl) (oj_cats rfl) (by decide) ?_
  refine J_step rfl rfl ?_
  refine J_dV (μ' := mi_J_isLatin1) (na := 0) (As := []) rfl rfl e rfl (by decide +kernel) (by decide +kernel) (by decide) rfl rfl rfl (c_isLatinH (d := 0) e) (by decide) (by decide) (oj_halF rfl) (fun E h' z => by cases z.1) (fun v h' z => ?_)
  obtain ⟨z1, z2⟩ := z
  obtain rfl := z2.symm
  cases z1
  refine J_if (y := 0) rfl (fun hz => absurd hz (show ¬ (1 : Int32) = 0 by decide)) (fun _ => ?_)
  refine J_step rfl rfl ?_
  refine J_gf (ci := 7) (k0 := 0) rfl ⟨_, _, _, rfl, by decide, by decide +kernel⟩ (e) rfl ?_
  refine J_step rfl rfl ?_
  refine J_callP (na := 2) (As := [.ref b, .int (nI j)]) rfl rfl rfl (by decide +kernel) (by decide +kernel) (by decide +kernel) (by decide +kernel) (by decide +kernel) (by decide) rfl rfl rfl rfl (c_slatH e2 hj hw) (Nat.le_refl _) (Nat.le_refl _) (fun E h' z => by obtain ⟨⟨x, z, -⟩, -⟩ := z; cases z) (fun v h' z => ?_)
  obtain ⟨⟨x, z1, hx⟩, rfl⟩ := z
  cases z1
  exact J_cret rfl rfl rfl rfl (cOk_nar hx) ⟨⟨x, rfl, hx⟩, rfl⟩
