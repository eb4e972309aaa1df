def sgN (v : Nat) : Nat := if v < 10 then 1 else 2
theorem sgN_le (v : Nat) : 1 ≤ sgN v ∧ sgN v ≤ 2 := by unfold sgN; split <;> omega
theorem sz_tab : ∀ v, v < 100 → (-nI v ≤ -10 ↔ 10 ≤ v) ∧ (-nI v ≤ 10 * -10 ↔ False) ∧ ¬ (-nI v ≤ -100) ∧ (-9 ≤ -nI v ↔ v ≤ 9) ∧ - -nI v = nI v := by decide +kernel
set_option maxRecDepth 100000 in
set_option maxHeartbeats 2000000 in
theorem c_strSize {d v : Nat} {h : AHp} (hv : v < 100) : JM mi_J6_stringSize_0f7a4 d 0 0 [.int (nI v)] h (oj_is (.inl (some (.int (nI (sgN v))))) h) := by
  obtain ⟨t1, t2, t3, t4, t5⟩ := sz_tab v hv
  refine JM_of gd_J6_stringSize_0f7a4 rfl (by decide +kernel) (Nat.le_of_ble_eq_true rfl) (oj_cats rfl) (by decide) ?_
  iterate 3 (refine J_step rfl rfl ?_)
  refine J_if (y := 0) rfl (fun z => absurd z (nI_pos (by omega))) (fun _ => ?_)
  iterate 11 (refine J_step rfl rfl ?_)
  refine J_ic rfl (fun z => absurd z (by unfold oj_cc; decide)) (fun _ => ?_)
  iterate 2 (refine J_step rfl rfl ?_)
  refine J_ic rfl (fun z => ?_) (fun z => ?_)
  · have hv10 : 10 ≤ v := t1.mp z
    iterate 4 (refine J_step rfl rfl ?_)
    refine J_step rfl rfl ?_
    refine J_step rfl rfl ?_
    iterate 2 (refine J_step rfl rfl ?_)
    refine J_ic rfl (fun z => absurd z (by unfold oj_cc; decide)) (fun _ => ?_)
    iterate 2 (refine J_step rfl rfl ?_)
    refine J_ic rfl (fun z => absurd (t2.mp z) id) (fun _ => ?_)
    iterate 3 (refine J_step rfl rfl ?_)
    refine J_iret rfl rfl rfl rfl ⟨?_, rfl⟩
    unfold sgN
    rw [if_neg (by omega)]
    rfl
  · have hv10 : v < 10 := Nat.lt_of_not_le fun w => z (t1.mpr w)
    iterate 3 (refine J_step rfl rfl ?_)
    refine J_iret rfl rfl rfl rfl ⟨?_, rfl⟩
    unfold sgN
    rw [if_pos hv10]
    rfl
theorem bfit (x : Int32) : fits .byte (.int (vp_nar .byte x)) = true := by
  show fits .byte (.int x.toInt8.toInt32) = true
  exact pk_fb x
theorem dec1 {p : Nat} (h : 1 ≤ p) : nI p + -1 = nI (p - 1) := by
  obtain ⟨q, rfl⟩ : ∃ q, p = q + 1 := ⟨p - 1, by omega⟩
  rw [← nI_1, Int32.add_assoc]
  show nI q + (1 + -1) = nI q
  rw [show (1 : Int32) + -1 = 0 by decide, Int32.add_zero]
set_option maxRecDepth 100000 in
set_option maxHeartbeats 2000000 in
theorem c_getChars {d v p b m : Nat} {h : AHp} {f : Nat → Int32} (hv : v < 100) (hb : h b = .inl (2, m, .inl f)) (hf : sb_Fit f) (hp : sgN v ≤ p) (hpm : p ≤ m) (hm : m ≤ 200) : JM mi_J6_getChars_ba4f3 d 0 0 [.int (nI v), .int (nI p), .ref b] h (fun r h' => (∃ x, r = .inl (some (.int x))) ∧ ∃ f', sb_Fit f' ∧ h' = oj_up h b (.inl (2, m, .inl f'))) := by
  obtain ⟨t1, t2, t3, t4, t5⟩ := sz_tab v hv
  have hp1 : 1 ≤ p := by have := sgN_le v; omega
  refine JM_of gd_J6_getChars_ba4f3 rfl (by decide +kernel) (Nat.le_of_ble_eq_true rfl) (oj_cats rfl) (by decide) ?_
  iterate 3 (refine J_step rfl rfl ?_)
  refine J_if (y := 0) rfl (fun _ => ?_) (fun z => absurd (nI_pos' (by omega)) z)
  iterate 3 (refine J_step rfl rfl ?_)
  refine J_if (y := 0) rfl (fun z => absurd rfl z) (fun _ => ?_)
  iterate 5 (refine J_step rfl rfl ?_)
  refine J_ic rfl (fun _ => ?_) (fun z => absurd (Int32.not_lt.mp z) t3)
  iterate 3 (refine J_step rfl rfl ?_)
  rw [dec1 hp1]
  refine J_gsO rfl (by decide +kernel) ?_
  iterate 2 (refine J_step rfl rfl ?_)
  rw [t5]
  refine J_bldO hv rfl ?_
  refine J_bast rfl hb (vp_in_nI (by omega) (by omega)) ?_
  rw [nI_clamp (by omega)]
  iterate 2 (refine J_step rfl rfl ?_)
  have hf1 : sb_Fit (upd f (p - 1) (vp_nar .byte (nI (48 + v % 10)))) := sb_fitU hf (by exact bfit _)
  refine J_ic rfl (fun z => ?_) (fun z => ?_)
  · iterate 1 (refine J_step rfl rfl ?_)
    refine J_if (y := 0) rfl (fun _ => ?_) (fun z => absurd rfl z)
    refine J_step rfl rfl ?_
    exact J_iret rfl rfl rfl rfl ⟨⟨_, rfl⟩, _, hf1, rfl⟩
  · have hv9 : ¬ v ≤ 9 := fun w => z (t4.mpr w)
    have hp2 : 2 ≤ p := by
      unfold sgN at hp
      rw [if_neg (by omega)] at hp
      exact hp
    iterate 3 (refine J_step rfl rfl ?_)
    rw [dec1 (by omega)]
    refine J_gsT rfl (by decide +kernel) ?_
    iterate 2 (refine J_step rfl rfl ?_)
    rw [t5]
    refine J_bldT hv rfl ?_
    refine J_bast rfl up_at (vp_in_nI (by omega) (by omega)) ?_
    rw [oj_up_up]
    iterate 1 (refine J_step rfl rfl ?_)
    refine J_if (y := 0) rfl (fun _ => ?_) (fun z => absurd rfl z)
    refine J_step rfl rfl ?_
    exact J_iret rfl rfl rfl rfl ⟨⟨_, rfl⟩, _, sb_fitU hf1 (by exact bfit _), rfl⟩
set_option maxHeartbeats 1000000 in
set_option maxRecDepth 100000 in
set_option maxHeartbeats 2000000 in
theorem c_appI0 {a b m n v M : Nat} {h : AHp} {f : Nat → Int32} (H : SBs h a b m n f) (hv : v < 100) (hq : n + sgN v ≤ 60) (hbd : oj_bd M h) (hM : M < 999990) (ha : a < M) (hb : b < M) : JM mi_J5_append_c97b9 4 1 122 [.ref a, .int (nI v)] h (fun r h' => r = .inl (some (.ref a)) ∧ SBok h h' a b M (n + sgN v)) := by
  obtain ⟨e, e2, hf, hn, hm⟩ := id H
  refine JM_of gd_J5_append_c97b9 rfl (by decide +kernel) (Nat.le_of_ble_eq_true rfl) (oj_cats rfl) (by decide) ?_
  refine J_step rfl rfl ?_
  refine J_gf (ci := 6) (k0 := 3) rfl ⟨_, _, _, rfl, by decide, by decide +kernel⟩ (e) rfl ?_
  iterate 3 (refine J_step rfl rfl ?_)
  refine J_dS (μ' := mi_J6_stringSize_0f7a4) (na := 1) (As := [.int (nI v)]) rfl rfl (by decide +kernel) (by decide +kernel) (by decide) rfl rfl rfl (c_strSize (d := 0) hv) (Nat.zero_le _) (Nat.zero_le _) (oj_halF rfl) (fun E h' z => by cases z.1) (fun v' h' z => ?_)
  obtain ⟨z1, z2⟩ := z
  obtain rfl := z2.symm
  cases z1
  refine J_step rfl rfl ?_
  rw [nI_add]
  iterate 3 (refine J_step rfl rfl ?_)
  refine J_dU (μ' := mi_J5_ensureCapacityInternal_d00df) (na := 1) (As := [.int (nI (n + sgN v))]) rfl rfl e rfl (by decide +kernel) (by decide +kernel) (by decide) rfl rfl rfl (c_ensure H hq hbd hM ha hb) (by decide) (by decide) (oj_halT rfl trivial ⟨nnR e (by decide), trivial⟩) (fun E h' z => by cases z.1) (fun v' h1 z => ?_)
  obtain ⟨z1, b', m', f', M', H1, hq1, hb1, hb2, hM1, hM2, hbd1, hk⟩ := z
  cases z1
  obtain ⟨g, g2, gf, gn, gm⟩ := id H1
  have hab : a ≠ b' := fun z => by rw [z, g2] at g; cases g
  refine J_step rfl rfl ?_
  refine J_dU (μ' := mi_J5_isLatin1_aae02) (na := 0) (As := []) rfl rfl g rfl (by decide +kernel) (by decide +kernel) (by decide) rfl rfl rfl (c_sbLat (d := 0) g) (by decide) (by decide) (oj_halF rfl) (fun E h' z => by cases z.1) (fun v' h' z => ?_)
  obtain ⟨z1, z2⟩ := z
  obtain rfl := z2.symm
  cases z1
  refine J_if (y := 0) rfl (fun hz => absurd hz (show ¬ (1 : Int32) = 0 by decide)) (fun _ => ?_)
  iterate 3 (refine J_step rfl rfl ?_)
  refine J_gf (ci := 6) (k0 := 0) rfl ⟨_, _, _, rfl, by decide, by decide +kernel⟩ (g) rfl ?_
  refine J_dS (μ' := mi_J6_getChars_ba4f3) (na := 3) (As := [.int (nI v), .int (nI (n + sgN v)), .ref b']) rfl rfl (by decide +kernel) (by decide +kernel) (by decide) rfl rfl rfl (c_getChars (d := 0) hv g2 gf (by omega) hq1 gm) (by decide) (by decide) (oj_halF rfl) (fun E h' z => by cases z.1.choose_spec) (fun v' h2 z => ?_)
  obtain ⟨⟨x9, z1⟩, f2, hf2, rfl⟩ := z
  cases z1
  have g9 : oj_up h1 b' (.inl (2, m', .inl f2)) a = .inr (6, [.ref b', .int 0, .int 0, .int (nI n)]) := (up_ne hab).trans g
  iterate 4 (refine J_step rfl rfl ?_)
  refine J_pf (ci := 6) (k0 := 3) rfl ⟨_, _, _, rfl, by decide, by decide +kernel⟩ (g9) rfl rfl (fun _ => ⟨rfl, rfl⟩) ?_
  refine J_step rfl rfl ?_
  refine J_aret rfl rfl (by decide) (by decide) ⟨rfl, b', m', f2, M', ⟨up_at, (up_ne (Ne.symm hab)).trans up_at, hf2, hq1, gm⟩, hb1, hb2, hM1, hM2, ?_, fun x z1 z2 z3 => ?_⟩
  · refine (hbd1.put hb2 (by exact trivial)).put (by omega) ?_
    exact lo_ref ⟨Or.inl (by omega), trivial⟩
  · have z4 : x ≠ b' := by
      rcases hb1 with q | q
      · rw [q]; exact z2
      · rcases z3 with z3 | z3 <;> omega
    exact (up_ne z1).trans ((up_ne z4).trans (hk x z1 z3))
set_option maxRecDepth 100000 in
set_option maxHeartbeats 2000000 in
theorem c_appI {a b m n v M : Nat} {h : AHp} {f : Nat → Int32} (H : SBs h a b m n f) (hv : v < 100) (hq : n + sgN v ≤ 60) (hbd : oj_bd M h) (hM : M < 999990) (ha : a < M) (hb : b < M) : JM mi_J4_append_bf812 5 1 122 [.ref a, .int (nI v)] h (fun r h' => r = .inl (some (.ref a)) ∧ SBok h h' a b M (n + sgN v)) := by
  have e := H.1
  refine JM_of gd_J4_append_bf812 rfl (by decide +kernel) (Nat.le_of_ble_eq_true rfl) (oj_cats rfl) (by decide) ?_
  iterate 2 (refine J_step rfl rfl ?_)
  refine J_dP (μ' := mi_J5_append_c97b9) (na := 1) (As := [.int (nI v)]) rfl rfl e rfl (by decide +kernel) (by decide +kernel) (by decide) rfl rfl rfl (c_appI0 H hv hq hbd hM ha hb) (by decide) (by decide) (oj_halT rfl trivial ⟨nnR e (by decide), trivial⟩) (fun E h' z => by cases z.1) (fun v' h1 z => ?_)
  obtain ⟨z1, z2⟩ := z
  cases z1
  iterate 2 (refine J_step rfl rfl ?_)
  exact J_aret rfl rfl (by decide) (by decide) ⟨rfl, z2⟩
set_option maxRecDepth 100000 in
set_option maxHeartbeats 2000000 in
theorem c_sbNew0 {a M : Nat} {h : AHp} (e : h a = .inr (6, [.null, .int 0, .int 0, .int 0])) (hbd : oj_bd M h) (hM : M < 999990) (ha : a < M) : JM mi_J5_init_d00df 2 1 16 [.ref a, .int 16] h (fun r h' => r = .inl none ∧ h' = oj_up (oj_up h M (.inl (2, 16, .inl fun _ => 0))) a (.inr (6, [.ref M, .int 0, .int 0, .int 0]))) := by
  refine JM_of gd_J5_init_d00df rfl (by decide +kernel) (Nat.le_of_ble_eq_true rfl) (oj_cats rfl) (by decide) ?_
  refine J_step rfl rfl ?_
  refine J_objInit rfl (by decide +kernel) rfl rfl ?_
  refine J_gsC rfl (by decide +kernel) ?_
  refine J_if (y := 0) rfl (fun hz => absurd hz (show ¬ (1 : Int32) = 0 by decide)) (fun _ => ?_)
  iterate 2 (refine J_step rfl rfl ?_)
  refine J_newa (a := M) (tag := 2) (N := 16) rfl rfl (by decide) rfl (by decide +kernel) (by decide) (by decide) (by decide) hbd (by omega) (fun v hv => loLv_mem (P := fun v => v < M ∨ 999999 ≤ v) hv ⟨Or.inl ha, trivial⟩) (fun j v hj => loLs_at (P := fun v => v < M ∨ 999999 ≤ v) hj ⟨Or.inl ha, trivial⟩) (by decide) (by decide) ?_
  have e9 : oj_up h M (.inl (2, 16, oj_a0 2)) a = .inr (6, [.null, .int 0, .int 0, .int 0]) := (up_ne (by omega)).trans e
  refine J_pf (ci := 6) (k0 := 0) rfl ⟨_, _, _, rfl, by decide, by decide +kernel⟩ (e9) rfl rfl (fun _ => ⟨rfl, rfl⟩) ?_
  iterate 2 (refine J_step rfl rfl ?_)
  refine J_pf (ci := 6) (k0 := 1) rfl ⟨_, _, _, rfl, by decide, by decide +kernel⟩ (up_at) rfl rfl (fun _ => ⟨rfl, rfl⟩) ?_
  rw [oj_up_up]
  refine J_step rfl rfl ?_
  exact J_vret rfl rfl rfl rfl ⟨rfl, rfl⟩
set_option maxRecDepth 100000 in
set_option maxHeartbeats 2000000 in
theorem c_sbNew {a M : Nat} {h : AHp} (e : h a = .inr (6, [.null, .int 0, .int 0, .int 0])) (hbd : oj_bd M h) (hM : M < 999990) (ha : a < M) : JM mi_J4_init_da8c8 3 1 16 [.ref a] h (fun r h' => r = .inl none ∧ h' = oj_up (oj_up h M (.inl (2, 16, .inl fun _ => 0))) a (.inr (6, [.ref M, .int 0, .int 0, .int 0]))) := by
  refine JM_of gd_J4_init_da8c8 rfl (by decide +kernel) (Nat.le_of_ble_eq_true rfl) (oj_cats rfl) (by decide) ?_
  iterate 2 (refine J_step rfl rfl ?_)
  refine J_dI (μ' := mi_J5_init_d00df) (na := 1) (As := [.int 16]) rfl rfl (by decide +kernel) (by decide +kernel) (by decide) rfl rfl rfl rfl rfl (c_sbNew0 e hbd hM ha) (by decide) (by decide) (oj_halT rfl trivial ⟨nnR e (by decide), trivial⟩) (fun E h' z => by cases z.1) (fun v' h1 z => ?_)
  obtain ⟨z1, z2⟩ := z
  obtain rfl := z2.symm
  cases z1
  exact J_vret rfl rfl rfl rfl ⟨rfl, rfl⟩
set_option maxRecDepth 100000 in
set_option maxHeartbeats 2000000 in
theorem c_chkLen {d n : Nat} {h : AHp} (hn : n ≤ 1000) : JM mi_J7_checkLength_df160 d 0 0 [.int 0, .int (nI n)] h (oj_is (.inl none) h) := by
  refine JM_of gd_J7_checkLength_df160 rfl (by decide +kernel) (Nat.le_of_ble_eq_true rfl) (oj_cats rfl) (by decide) ?_
  iterate 2 (refine J_step rfl rfl ?_)
  refine J_ic rfl (fun _ => ?_) (fun z => absurd (show (0 : Int32) ≤ nI n from nI_pos' (by omega)) z)
  exact J_vret rfl rfl rfl rfl ⟨rfl, rfl⟩
set_option maxRecDepth 100000 in
set_option maxHeartbeats 2000000 in
theorem c_copyRB {b m n M : Nat} {h : AHp} {f : Nat → Int32} (e2 : h b = .inl (2, m, .inl f)) (hf : sb_Fit f) (hn : n ≤ m) (hm : m ≤ 200) (hbd : oj_bd M h) (hM : M < 999990) (hb : b < M) : JM mi_J7_copyOfRangeByte_39247 2 1 200 [.ref b, .int 0, .int (nI n)] h (fun r h' => r = .inl (some (.ref M)) ∧ ∃ f', sb_Fit f' ∧ h' = oj_up h M (.inl (2, n, .inl f'))) := by
  refine JM_of gd_J7_copyOfRangeByte_39247 rfl (by decide +kernel) (Nat.le_of_ble_eq_true rfl) (oj_cats rfl) (by decide) ?_
  iterate 2 (refine J_step rfl rfl ?_)
  refine J_dS (μ' := mi_J7_checkLength_df160) (na := 2) (As := [.int 0, .int (nI n)]) rfl rfl (by decide +kernel) (by decide +kernel) (by decide) rfl rfl rfl (c_chkLen (d := 0) (by omega)) (Nat.zero_le _) (Nat.zero_le _) (oj_halF rfl) (fun E h' z => by cases z.1) (fun v' h' z => ?_)
  obtain ⟨z1, z2⟩ := z
  obtain rfl := z2.symm
  cases z1
  iterate 3 (refine J_step rfl rfl ?_)
  rw [Int32.sub_zero]
  iterate 2 (refine J_step rfl rfl ?_)
  refine J_newa (a := M) (tag := 2) (N := n) rfl rfl (by decide) rfl (by decide +kernel) (nI_pos (by omega)) (nI_clamp (by omega)) (by omega) hbd (by omega) (fun v hv => loLv_mem (P := fun v => v < M ∨ 999999 ≤ v) hv trivial) (fun j v hj => loLs_at (P := fun v => v < M ∨ 999999 ≤ v) hj ⟨Or.inl hb, trivial⟩) (by omega) (by omega) ?_
  iterate 6 (refine J_step rfl rfl ?_)
  refine J_alenB rfl ((up_ne (by omega)).trans e2) ?_
  iterate 2 (refine J_step rfl rfl ?_)
  rw [Int32.sub_zero]
  refine J_step rfl rfl ?_
  refine J_min rfl (by decide +kernel) rfl rfl (by omega) (by omega) ?_
  have e1 : (if nI n < nI m then nI n else nI m) = nI n := by
    by_cases q : n < m
    · rw [if_pos (nI_lt q (by omega))]
    · rw [if_neg (nI_nlt (by omega) (by omega)), show m = n by omega]
  rw [e1]
  refine J_cpy (sp := 0) (dp := 0) (w := n) rfl ((up_ne (by omega)).trans e2) hf up_at (by omega) (by omega) (by omega) (by omega) (by decide +kernel) rfl rfl ?_
  rw [oj_up_up]
  refine J_step rfl rfl ?_
  exact J_aret rfl rfl (by omega) (by omega) ⟨rfl, _, sb_fitC hf sb_fit0, rfl⟩
set_option maxRecDepth 100000 in
set_option maxHeartbeats 2000000 in
theorem c_copyR {b m n M : Nat} {h : AHp} {f : Nat → Int32} (e2 : h b = .inl (2, m, .inl f)) (hf : sb_Fit f) (hn : n ≤ m) (hm : m ≤ 200) (hbd : oj_bd M h) (hM : M < 999990) (hb : b < M) : JM mi_J7_copyOfRange_39247 3 1 200 [.ref b, .int 0, .int (nI n)] h (fun r h' => r = .inl (some (.ref M)) ∧ ∃ f', sb_Fit f' ∧ h' = oj_up h M (.inl (2, n, .inl f'))) := by
  refine JM_of gd_J7_copyOfRange_39247 rfl (by decide +kernel) (Nat.le_of_ble_eq_true rfl) (oj_cats rfl) (by decide) ?_
  refine J_step rfl rfl ?_
  refine J_if (y := 0) rfl (fun z => absurd rfl z) (fun _ => ?_)
  iterate 2 (refine J_step rfl rfl ?_)
  refine J_alenB rfl e2 ?_
  refine J_ic rfl (fun z => ?_) (fun z => ?_)
  · have hnm : n = m := (nI_eq (by omega) (by omega)).mp z
    subst hnm
    refine J_step rfl rfl ?_
    refine J_clone (q0 := M) rfl rfl e2 hf (by omega) (by decide +kernel) rfl rfl hbd (by omega) (fun v hv => loLv_mem (P := fun v => v < M ∨ 999999 ≤ v) hv trivial) (fun j v hj => loLs_at (P := fun v => v < M ∨ 999999 ≤ v) hj ⟨Or.inl hb, trivial⟩) (by omega) (by omega) ?_
    refine J_castB rfl up_at (by decide +kernel) ?_
    exact J_aret rfl rfl (by omega) (by omega) ⟨rfl, _, hf, rfl⟩
  · iterate 3 (refine J_step rfl rfl ?_)
    refine J_dS (μ' := mi_J7_copyOfRangeByte_39247) (na := 3) (As := [.ref b, .int 0, .int (nI n)]) rfl rfl (by decide +kernel) (by decide +kernel) (by decide) rfl rfl rfl (c_copyRB e2 hf hn hm hbd hM hb) (by decide) (by decide) (oj_halT rfl trivial ⟨nnA e2, trivial⟩) (fun E h' z => by cases z.1) (fun v' h' z => ?_)
    obtain ⟨z1, z2⟩ := z
    cases z1
    exact J_aret rfl rfl (by decide) (by decide) ⟨rfl, z2⟩
set_option maxHeartbeats 1000000 in
set_option maxRecDepth 100000 in
set_option maxHeartbeats 2000000 in
theorem c_strNew0 {s a b m n M : Nat} {h : AHp} {f : Nat → Int32} (es : h s = .inr (7, [.null, .int 0, .int 0, .int 0])) (H : SBs h a b m n f) (hbd : oj_bd M h) (hM : M < 999990) (hs : s < M) (ha : a < M) (hb : b < M) : JM mi_J0_init_db425 4 1 200 [.ref s, .ref a, .null] h (fun r h' => r = .inl none ∧ ∃ f', sb_Fit f' ∧ h' = oj_up (oj_up h M (.inl (2, n, .inl f'))) s (.inr (7, [.ref M, .int 0, .int 0, .int 0]))) := by
  obtain ⟨e, e2, hf, hn, hm⟩ := id H
  refine JM_of gd_J0_init_db425 rfl (by decide +kernel) (Nat.le_of_ble_eq_true rfl) (oj_cats rfl) (by decide) ?_
  refine J_step rfl rfl ?_
  refine J_objInit rfl (by decide +kernel) rfl rfl ?_
  refine J_step rfl rfl ?_
  refine J_dU (μ' := mi_J5_getValue_6d5f1) (na := 0) (As := []) rfl rfl e rfl (by decide +kernel) (by decide +kernel) (by decide) rfl rfl rfl (c_sbVal (d := 0) e) (by decide) (by decide) (oj_halF rfl) (fun E h' z => by cases z.1) (fun v' h' z => ?_)
  obtain ⟨z1, z2⟩ := z
  obtain rfl := z2.symm
  cases z1
  iterate 2 (refine J_step rfl rfl ?_)
  refine J_dO (μ' := mi_J4_length_8abf5) (x := yJ5_length_8abf5) (b0 := cJ5_length_8abf5) (m0 := 1) (r0 := some .int) (na := 0) (As := []) rfl rfl e rfl (by decide +kernel) (by decide +kernel) (by decide) rfl (by decide +kernel) rfl rfl (c_sbLen e) (by decide) (by decide) (oj_halF rfl) (fun E h' z => by cases z.1) (fun v' h' z => ?_)
  obtain ⟨z1, z2⟩ := z
  obtain rfl := z2.symm
  cases z1
  iterate 2 (refine J_step rfl rfl ?_)
  refine J_dU (μ' := mi_J5_isLatin1_aae02) (na := 0) (As := []) rfl rfl e rfl (by decide +kernel) (by decide +kernel) (by decide) rfl rfl rfl (c_sbLat (d := 0) e) (by decide) (by decide) (oj_halF rfl) (fun E h' z => by cases z.1) (fun v' h' z => ?_)
  obtain ⟨z1, z2⟩ := z
  obtain rfl := z2.symm
  cases z1
  refine J_if (y := 0) rfl (fun hz => absurd hz (show ¬ (1 : Int32) = 0 by decide)) (fun _ => ?_)
  iterate 2 (refine J_step rfl rfl ?_)
  refine J_pF (ci := 7) (k0 := 1) rfl ⟨_, _, _, rfl, by decide, by decide +kernel⟩ es rfl rfl rfl (fun T hT => by cases hT; rfl) (fun _ => ⟨rfl, rfl⟩) ?_
  refine J_heap (oj_up_id (x := .inr (7, [.null, .int 0, .int 0, .int 0])) es).symm ?_
  iterate 4 (refine J_step rfl rfl ?_)
  refine J_dS (μ' := mi_J7_copyOfRange_39247) (na := 3) (As := [.ref b, .int 0, .int (nI n)]) rfl rfl (by decide +kernel) (by decide +kernel) (by decide) rfl rfl rfl (c_copyR e2 hf hn hm hbd hM hb) (by decide) (by decide) (oj_halT rfl ⟨nnR es (by decide), trivial⟩ ⟨nnR es (by decide), nnR e (by decide), nnA e2, trivial⟩) (fun E h' z => by cases z.1) (fun v' h' z => ?_)
  obtain ⟨z1, f', hf', rfl⟩ := z
  cases z1
  refine J_pF (ci := 7) (k0 := 0) (fs := [.null, .int 0, .int 0, .int 0]) rfl ⟨_, _, _, rfl, by decide, by decide +kernel⟩ ((up_ne (by omega)).trans es) rfl rfl rfl (fun T hT => by cases hT; rfl) (fun _ => ⟨rfl, rfl⟩) ?_
  refine J_step rfl rfl ?_
  exact J_vret rfl rfl (by decide) (by decide) ⟨rfl, f', hf', rfl⟩
set_option maxRecDepth 100000 in
set_option maxHeartbeats 2000000 in
theorem c_strNew {s a b m n M : Nat} {h : AHp} {f : Nat → Int32} (es : h s = .inr (7, [.null, .int 0, .int 0, .int 0])) (H : SBs h a b m n f) (hbd : oj_bd M h) (hM : M < 999990) (hs : s < M) (ha : a < M) (hb : b < M) : JM mi_J0_init_81219 5 1 200 [.ref s, .ref a] h (fun r h' => r = .inl none ∧ ∃ f', sb_Fit f' ∧ h' = oj_up (oj_up h M (.inl (2, n, .inl f'))) s (.inr (7, [.ref M, .int 0, .int 0, .int 0]))) := by
  refine JM_of gd_J0_init_81219 rfl (by decide +kernel) (Nat.le_of_ble_eq_true rfl) (oj_cats rfl) (by decide) ?_
  iterate 3 (refine J_step rfl rfl ?_)
  refine J_dI (μ' := mi_J0_init_db425) (na := 2) (As := [.ref a, .null]) rfl rfl (by decide +kernel) (by decide +kernel) (by decide) rfl rfl rfl rfl rfl (c_strNew0 es H hbd hM hs ha hb) (by decide) (by decide) (oj_halT rfl trivial ⟨nnR es (by decide), nnR H.1 (by decide), trivial⟩) (fun E h' z => by cases z.1) (fun v' h1 z => ?_)
  obtain ⟨z1, z2⟩ := z
  cases z1
  exact J_vret rfl rfl (by decide) (by decide) ⟨rfl, z2⟩
set_option maxRecDepth 100000 in
set_option maxHeartbeats 2000000 in
theorem c_sbStr {a b m n M : Nat} {h : AHp} {f : Nat → Int32} (H : SBs h a b m n f) (hbd : oj_bd M h) (hM : M < 999980) (ha : a < M) (hb : b < M) : JM mi_J4_toString_0e30d 6 2 204 [.ref a] h (fun r h' => r = .inl (some (.ref M)) ∧ ∃ f', sb_Fit f' ∧ h' M = .inr (7, [.ref (M + 1), .int 0, .int 0, .int 0]) ∧ h' (M + 1) = .inl (2, n, .inl f') ∧ oj_bd (M + 2) h' ∧ ∀ x, (x < M ∨ 999999 ≤ x) → h' x = h x) := by
  obtain ⟨e, e2, hf, hn, hm⟩ := id H
  refine JM_of gd_J4_toString_0e30d rfl (by decide +kernel) (Nat.le_of_ble_eq_true rfl) (oj_cats rfl) (by decide) ?_
  refine J_new (a := M) (ci := 7) (N := 4) (fs := [.null, .int 0, .int 0, .int 0]) rfl rfl (by decide +kernel) (by decide +kernel) (by decide +kernel) rfl (by decide +kernel) (fun _ => rfl) hbd (by omega) (fun v hv => loLv_mem (P := fun v => v < M ∨ 999999 ≤ v) hv trivial) (fun j v hj => loLs_at (P := fun v => v < M ∨ 999999 ≤ v) hj ⟨Or.inl ha, trivial⟩) (by decide) (by decide) ?_
  iterate 2 (refine J_step rfl rfl ?_)
  have hbd1 : oj_bd (M + 1) (oj_up h M (.inr (7, [.null, .int 0, .int 0, .int 0]))) := hbd.push (lo_ref trivial)
  have H1 : SBs (oj_up h M (.inr (7, [.null, .int 0, .int 0, .int 0]))) a b m n f := ⟨(up_ne (by omega)).trans e, (up_ne (by omega)).trans e2, hf, hn, hm⟩
  refine J_dI (μ' := mi_J0_init_81219) (na := 1) (As := [.ref a]) rfl rfl (by decide +kernel) (by decide +kernel) (by decide) rfl rfl rfl rfl rfl (c_strNew up_at H1 hbd1 (by omega) (Nat.lt_succ_self _) (by omega) (by omega)) (by decide) (by decide) (oj_halT rfl ⟨nnR up_at (by decide), trivial⟩ ⟨nnR H1.1 (by decide), trivial⟩) (fun E h' z => by cases z.1) (fun v' h1 z => ?_)
  obtain ⟨z1, f', hf', rfl⟩ := z
  cases z1
  refine J_aret rfl rfl (by decide) (by decide) ⟨rfl, f', hf', up_at, (up_ne (by omega)).trans up_at, ?_, fun x hx => ?_⟩
  · refine (hbd1.push (by exact trivial)).put (by omega) ?_
    exact lo_ref ⟨Or.inl (by omega), trivial⟩
  · exact (up_ne (by omega)).trans ((up_ne (by omega)).trans (up_ne (by omega)))
