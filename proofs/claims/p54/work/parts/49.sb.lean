/-! a StringBuilder of Latin-1 bytes: what its methods do to its two cells (what the letters are is not wanted: only how many) -/
def SBs (h : AHp) (a b m n : Nat) (f : Nat → Int32) : Prop := h a = .inr (6, [.ref b, .int 0, .int 0, .int (nI n)]) ∧ h b = .inl (2, m, .inl f) ∧ sb_Fit f ∧ n ≤ m ∧ m ≤ 200
/-- a text of w letters: a constant, or an object apart from a and below M -/
def StrA (h : AHp) (s w a M : Nat) : Prop := (∃ q, q < 32 ∧ s = oj_sa q ∧ oj_len.getD q 0 = w) ∨ (∃ sb f, h s = .inr (7, [.ref sb, .int 0, .int 0, .int 0]) ∧ h sb = .inl (2, w, .inl f) ∧ sb_Fit f ∧ s ≠ a ∧ s < M ∧ sb ≠ a ∧ sb < M)
set_option maxRecDepth 100000 in
set_option maxHeartbeats 2000000 in
theorem c_sbLat {d a : Nat} {h : AHp} {v1 v2 v3 : Value} (e : h a = .inr (6, [v1, .int 0, v2, v3])) : JM mi_J5_isLatin1_aae02 d 0 0 [.ref a] h (oj_is (.inl (some (.int 1))) h) := by
  refine JM_of gd_J5_isLatin1_aae02 rfl (by decide +kernel) (Nat.le_of_ble_eq_true rfl) (oj_cats rfl) (by decide) ?_
  refine J_gsC rfl (by decide +kernel) ?_
  refine J_if (y := 0) rfl (fun hz => absurd hz (show ¬ (1 : Int32) = 0 by decide)) (fun _ => ?_)
  refine J_step rfl rfl ?_
  refine J_gf (ci := 6) (k0 := 1) rfl ⟨_, _, _, rfl, by decide, by decide +kernel⟩ (e) rfl ?_
  refine J_if (y := 0) rfl (fun hz => absurd rfl hz) (fun _ => ?_)
  iterate 2 (refine J_step rfl rfl ?_)
  exact J_zret rfl rfl rfl rfl true rfl ⟨rfl, rfl⟩
set_option maxRecDepth 100000 in
set_option maxHeartbeats 2000000 in
theorem c_sbVal {d a b : Nat} {h : AHp} {v1 v2 v3 : Value} (e : h a = .inr (6, [.ref b, v1, v2, v3])) : JM mi_J5_getValue_6d5f1 d 0 0 [.ref a] h (oj_is (.inl (some (.ref b))) h) := by
  refine JM_of gd_J5_getValue_6d5f1 rfl (by decide +kernel) (Nat.le_of_ble_eq_true rfl) (oj_cats rfl) (by decide) ?_
  refine J_step rfl rfl ?_
  refine J_gf (ci := 6) (k0 := 0) rfl ⟨_, _, _, rfl, by decide, by decide +kernel⟩ (e) rfl ?_
  exact J_aret rfl rfl (Nat.le_refl _) (Nat.le_refl _) ⟨rfl, rfl⟩
set_option maxRecDepth 100000 in
set_option maxHeartbeats 2000000 in
theorem c_sbLen0 {d a : Nat} {h : AHp} {v1 v2 v3 : Value} {x : Int32} (e : h a = .inr (6, [v1, v2, v3, .int x])) : JM mi_J5_length_8abf5 d 0 0 [.ref a] h (oj_is (.inl (some (.int x))) h) := by
  refine JM_of gd_J5_length_8abf5 rfl (by decide +kernel) (Nat.le_of_ble_eq_true rfl) (oj_cats rfl) (by decide) ?_
  refine J_step rfl rfl ?_
  refine J_gf (ci := 6) (k0 := 3) rfl ⟨_, _, _, rfl, by decide, by decide +kernel⟩ (e) rfl ?_
  exact J_iret rfl rfl rfl rfl ⟨rfl, rfl⟩
set_option maxRecDepth 100000 in
set_option maxHeartbeats 2000000 in
theorem c_sbLen {a : Nat} {h : AHp} {v1 v2 v3 : Value} {x : Int32} (e : h a = .inr (6, [v1, v2, v3, .int x])) : JM mi_J4_length_8abf5 1 0 0 [.ref a] h (oj_is (.inl (some (.int x))) h) := by
  refine JM_of gd_J4_length_8abf5 rfl (by decide +kernel) (Nat.le_of_ble_eq_true rfl) (oj_cats rfl) (by decide) ?_
  refine J_step rfl rfl ?_
  refine J_dP (μ' := mi_J5_length_8abf5) (na := 0) (As := []) rfl rfl e rfl (by decide +kernel) (by decide +kernel) (by decide) rfl rfl rfl (c_sbLen0 (d := 0) e) (Nat.le_refl _) (Nat.le_refl _) (oj_halF rfl) (fun E h' z => by cases z.1) (fun v h' z => ?_)
  obtain ⟨z1, z2⟩ := z
  obtain rfl := z2.symm
  cases z1
  exact J_iret rfl rfl rfl rfl ⟨rfl, rfl⟩
set_option maxRecDepth 100000 in
set_option maxHeartbeats 2000000 in
theorem c_newLen {x y z : Nat} {h : AHp} (hx : x ≤ 1000) (hy : y ≤ 1000) (hz : z ≤ 1000) (hz0 : 0 < z) : JM mi_J8_newLength_cabcc 1 0 0 [.int (nI x), .int (nI y), .int (nI z)] h (oj_is (.inl (some (.int (nI (x + max y z))))) h) := by
  refine JM_of gd_J8_newLength_cabcc rfl (by decide +kernel) (Nat.le_of_ble_eq_true rfl) (oj_cats rfl) (by decide) ?_
  iterate 3 (refine J_step rfl rfl ?_)
  refine J_max rfl (by decide +kernel) rfl rfl (Nat.le_refl _) (Nat.le_refl _) ?_
  have e1 : (if nI y < nI z then nI z else nI y) = nI (max y z) := by
    by_cases q : y < z
    · rw [if_pos (nI_lt q (by omega)), Nat.max_eq_right (Nat.le_of_lt q)]
    · rw [if_neg (nI_nlt (by omega) (by omega)), Nat.max_eq_left (by omega)]
  rw [e1]
  refine J_step rfl rfl ?_
  rw [nI_add]
  have hle : max y z ≤ 1000 := Nat.max_le.mpr ⟨hy, hz⟩
  have hge : z ≤ max y z := Nat.le_max_right _ _
  generalize max y z = w at hle hge ⊢
  iterate 3 (refine J_step rfl rfl ?_)
  refine J_ic rfl (fun q => absurd (show nI (x + w) ≤ nI 0 from q) (nI_nle (by omega) (by omega))) (fun q => ?_)
  refine J_step rfl rfl ?_
  refine J_ldcI (v := 2147483639) rfl (by decide +kernel) ?_
  refine J_ic rfl (fun q => absurd (show nI 2147483639 < nI (x + w) from q) (nI_nlt (by omega) (by omega))) (fun _ => ?_)
  refine J_step rfl rfl ?_
  exact J_iret rfl rfl rfl rfl ⟨rfl, rfl⟩
/-- the room that is made when m letters' room doesn't hold q -/
def capN (m q : Nat) : Nat := m + max (q - m) (m + 2)
theorem capN_le {m q : Nat} (h : m ≤ 60) (hq : q ≤ 60) : q ≤ capN m q ∧ m < capN m q ∧ capN m q ≤ 122 := by
  unfold capN
  have h1 : q - m ≤ max (q - m) (m + 2) := Nat.le_max_left _ _
  have h2 : m + 2 ≤ max (q - m) (m + 2) := Nat.le_max_right _ _
  have h3 : max (q - m) (m + 2) ≤ 62 := Nat.max_le.mpr ⟨by omega, by omega⟩
  omega
set_option maxRecDepth 100000 in
set_option maxHeartbeats 2000000 in
theorem c_newCap {a b m q : Nat} {h : AHp} {f : Nat → Int32} {v3 : Value} (e : h a = .inr (6, [.ref b, .int 0, .int 0, v3])) (e2 : h b = .inl (2, m, .inl f)) (hm : m < q) (hq : q ≤ 60) : JM mi_J5_newCapacity_0f7a4 2 0 0 [.ref a, .int (nI q)] h (oj_is (.inl (some (.int (nI (capN m q))))) h) := by
  have hc := capN_le (m := m) (q := q) (by omega) hq
  refine JM_of gd_J5_newCapacity_0f7a4 rfl (by decide +kernel) (Nat.le_of_ble_eq_true rfl) (oj_cats rfl) (by decide) ?_
  refine J_step rfl rfl ?_
  refine J_gf (ci := 6) (k0 := 0) rfl ⟨_, _, _, rfl, by decide, by decide +kernel⟩ (e) rfl ?_
  refine J_alenB rfl e2 ?_
  iterate 3 (refine J_step rfl rfl ?_)
  refine J_gf (ci := 6) (k0 := 1) rfl ⟨_, _, _, rfl, by decide, by decide +kernel⟩ (e) rfl ?_
  refine J_step rfl rfl ?_
  rw [sb_shl0]
  iterate 4 (refine J_step rfl rfl ?_)
  rw [pk_sub (by omega)]
  iterate 6 (refine J_step rfl rfl ?_)
  refine J_gf (ci := 6) (k0 := 1) rfl ⟨_, _, _, rfl, by decide, by decide +kernel⟩ (e) rfl ?_
  refine J_step rfl rfl ?_
  rw [sb_shl0]
  refine J_step rfl rfl ?_
  rw [show nI m + 2 = nI (m + 2) from nI_add m 2]
  refine J_dS (μ' := mi_J8_newLength_cabcc) (na := 3) (As := [.int (nI m), .int (nI (q - m)), .int (nI (m + 2))]) rfl rfl (by decide +kernel) (by decide +kernel) (by decide) rfl rfl rfl (c_newLen (by omega) (by omega) (by omega) (by omega)) (Nat.le_refl _) (Nat.le_refl _) (oj_halF rfl) (fun E h' z => by cases z.1) (fun v h' z => ?_)
  obtain ⟨z1, z2⟩ := z
  obtain rfl := z2.symm
  cases z1
  have e9 : m + max (q - m) (m + 2) = capN m q := rfl
  rw [e9]
  generalize capN m q = w at hc ⊢
  iterate 2 (refine J_step rfl rfl ?_)
  refine J_ldcI (v := 2147483647) rfl (by decide +kernel) ?_
  refine J_ic rfl (fun _ => ?_) (fun z => absurd (fun z9 => absurd ((nI_eq (a := w) (b := 2147483647) (by omega) (by omega)).mp z9) (by omega)) z)
  iterate 2 (refine J_step rfl rfl ?_)
  refine J_gf (ci := 6) (k0 := 1) rfl ⟨_, _, _, rfl, by decide, by decide +kernel⟩ (e) rfl ?_
  refine J_ishr rfl ?_
  rw [sb_shr0]
  exact J_iret rfl rfl rfl rfl ⟨rfl, rfl⟩
set_option maxRecDepth 100000 in
set_option maxHeartbeats 2000000 in
theorem c_copyOf {b m q M : Nat} {h : AHp} {f : Nat → Int32} (e2 : h b = .inl (2, m, .inl f)) (hf : sb_Fit f) (hm : m < q) (hq : q ≤ 200) (hbd : oj_bd M h) (hM : M < 999990) (hb : b < M) : JM mi_J7_copyOf_9075b 2 1 q [.ref b, .int (nI q)] h (fun r h' => r = .inl (some (.ref M)) ∧ ∃ f', sb_Fit f' ∧ h' = oj_up h M (.inl (2, q, .inl f'))) := by
  refine JM_of gd_J7_copyOf_9075b rfl (by decide +kernel) (Nat.le_of_ble_eq_true rfl) (oj_cats rfl) (by decide) ?_
  iterate 2 (refine J_step rfl rfl ?_)
  refine J_alenB rfl e2 ?_
  refine J_ic rfl (fun _ => ?_) (fun z => absurd (fun z9 => absurd ((nI_eq (a := q) (b := m) (by omega) (by omega)).mp z9) (by omega)) z)
  refine J_step rfl rfl ?_
  refine J_newa (a := M) (tag := 2) (N := q) rfl rfl (by decide) rfl (by decide +kernel) (nI_pos (by omega)) (nI_clamp (by omega)) (by omega) hbd (by omega) (fun v hv => loLv_mem (P := fun v => v < M ∨ 999999 ≤ v) hv trivial) (fun j v hj => loLs_at (P := fun v => v < M ∨ 999999 ≤ v) hj ⟨Or.inl hb, trivial⟩) (by omega) (by omega) ?_
  iterate 6 (refine J_step rfl rfl ?_)
  refine J_alenB rfl ((up_ne (by omega)).trans e2) ?_
  refine J_step rfl rfl ?_
  refine J_min rfl (by decide +kernel) rfl rfl (by omega) (by omega) ?_
  rw [if_neg (nI_nlt (by omega) (by omega))]
  refine J_cpy (sp := 0) (dp := 0) (w := m) rfl ((up_ne (by omega)).trans e2) hf up_at (by omega) (by omega) (by omega) (by omega) (by decide +kernel) rfl rfl ?_
  rw [oj_up_up]
  refine J_step rfl rfl ?_
  exact J_aret rfl rfl (by omega) (by omega) ⟨rfl, _, sb_fitC hf sb_fit0, rfl⟩
/-- what making room, or an append, leaves: the builder with n letters, in its old bytes or in new ones -/
def SBok (h h' : AHp) (a b M n : Nat) : Prop := ∃ b' m' f' M', SBs h' a b' m' n f' ∧ (b' = b ∨ M ≤ b') ∧ b' < M' ∧ M ≤ M' ∧ M' ≤ M + 1 ∧ oj_bd M' h' ∧ ∀ x, x ≠ a → x ≠ b → (x < M ∨ 999999 ≤ x) → h' x = h x
set_option maxHeartbeats 1000000 in
set_option maxRecDepth 100000 in
set_option maxHeartbeats 2000000 in
theorem c_ensure {a b m n q M : Nat} {h : AHp} {f : Nat → Int32} (H : SBs h a b m n f) (hq : q ≤ 60) (hbd : oj_bd M h) (hM : M < 999990) (ha : a < M) (hb : b < M) : JM mi_J5_ensureCapacityInternal_d00df 3 1 122 [.ref a, .int (nI q)] h (fun r h' => r = .inl none ∧ ∃ b' m' f' M', SBs h' a b' m' n f' ∧ q ≤ m' ∧ (b' = b ∨ M ≤ b') ∧ b' < M' ∧ M ≤ M' ∧ M' ≤ M + 1 ∧ oj_bd M' h' ∧ ∀ x, x ≠ a → (x < M ∨ 999999 ≤ x) → h' x = h x) := by
  obtain ⟨e, e2, hf, hn, hm⟩ := id H
  have hab : a ≠ b := fun z => by rw [z, e2] at e; cases e
  refine JM_of gd_J5_ensureCapacityInternal_d00df rfl (by decide +kernel) (Nat.le_of_ble_eq_true rfl) (oj_cats rfl) (by decide) ?_
  refine J_step rfl rfl ?_
  refine J_gf (ci := 6) (k0 := 0) rfl ⟨_, _, _, rfl, by decide, by decide +kernel⟩ (e) rfl ?_
  refine J_alenB rfl e2 ?_
  refine J_step rfl rfl ?_
  refine J_gf (ci := 6) (k0 := 1) rfl ⟨_, _, _, rfl, by decide, by decide +kernel⟩ (e) rfl ?_
  refine J_ishr rfl ?_
  rw [sb_shr0]
  iterate 4 (refine J_step rfl rfl ?_)
  have hle : nI q - nI m ≤ 0 ↔ q ≤ m := by
    have e1 : (nI q - nI m).toInt = (q : Int) - m := pk_sub_toInt (by omega) (by omega)
    rw [Int32.le_iff_toInt_le, e1, Int32.toInt_zero]
    omega
  refine J_if (y := 0) rfl (fun z => ?_) (fun z => ?_)
  · have z' : q ≤ m := hle.mp z
    exact J_vret rfl rfl rfl rfl ⟨rfl, b, m, f, M, H, z', Or.inl rfl, hb, Nat.le_refl _, Nat.le_succ _, hbd, fun _ _ _ => rfl⟩
  · have z' : m < q := Nat.lt_of_not_le fun w => z (hle.mpr w)
    have hc := capN_le (m := m) (q := q) (by omega) hq
    iterate 2 (refine J_step rfl rfl ?_)
    refine J_gf (ci := 6) (k0 := 0) rfl ⟨_, _, _, rfl, by decide, by decide +kernel⟩ (e) rfl ?_
    iterate 2 (refine J_step rfl rfl ?_)
    refine J_dU (μ' := mi_J5_newCapacity_0f7a4) (na := 1) (As := [.int (nI q)]) rfl rfl e rfl (by decide +kernel) (by decide +kernel) (by decide) rfl rfl rfl (c_newCap e e2 z' hq) (by omega) (by omega) (oj_halF rfl) (fun E h' z => by cases z.1) (fun v h' z => ?_)
    obtain ⟨z1, z2⟩ := z
    obtain rfl := z2.symm
    cases z1
    refine J_step rfl rfl ?_
    refine J_gf (ci := 6) (k0 := 1) rfl ⟨_, _, _, rfl, by decide, by decide +kernel⟩ (e) rfl ?_
    refine J_step rfl rfl ?_
    rw [sb_shl0]
    generalize capN m q = w at hc ⊢
    refine J_widen (Nat.le_refl _) (show 0 + 0 ≤ 122 - w by omega) ?_
    refine J_dS (μ' := mi_J7_copyOf_9075b) (na := 2) (As := [.ref b, .int (nI w)]) rfl rfl (by decide +kernel) (by decide +kernel) (by decide) rfl rfl rfl (c_copyOf e2 hf hc.2.1 (by omega) hbd hM hb) (by omega) (by omega) (oj_halT rfl ⟨nnR e (by decide), trivial⟩ ⟨nnR e (by decide), trivial⟩) (fun E h' z => by cases z.1) (fun v h' z => ?_)
    obtain ⟨z1, f', hf', rfl⟩ := z
    cases z1
    have e9 : oj_up h M (.inl (2, w, .inl f')) a = .inr (6, [.ref b, .int 0, .int 0, .int (nI n)]) := (up_ne (by omega)).trans e
    refine J_pf (ci := 6) (k0 := 0) rfl ⟨_, _, _, rfl, by decide, by decide +kernel⟩ (e9) rfl rfl (fun _ => ⟨rfl, rfl⟩) ?_
    refine J_vret rfl rfl (by decide) (by first | rfl | (apply Nat.ble_eq_true_of_le; omega)) ⟨rfl, M, w, f', M + 1, ⟨up_at, (up_ne (by omega)).trans up_at, hf', by omega, by omega⟩, hc.1, Or.inr (Nat.le_refl _), Nat.lt_succ_self _, Nat.le_succ _, Nat.le_refl _, ?_, fun x z1 z2 => (up_ne z1).trans (up_ne (by omega))⟩
    refine (hbd.push (by exact trivial)).put (by omega) ?_
    exact lo_ref ⟨Or.inl (by omega), trivial⟩
