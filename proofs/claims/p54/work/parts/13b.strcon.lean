def sCh (q j : Nat) : Int32 := (oj_byt.getD q []).getD j 0 &&& 255
theorem sc_all : ∀ q, q < 32 → oj_len.getD q 0 < 100 ∧ ∀ j, j < oj_len.getD q 0 → (sCh q j).toUInt32 % 65536 = (sCh q j).toUInt32 ∧ narrow .char (.int (sCh q j)) = .int (sCh q j) := by decide +kernel
set_option maxRecDepth 100000 in
set_option maxRecDepth 100000 in
set_option maxHeartbeats 2000000 in
theorem c_coder {d q : Nat} {h : AHp} (hq : q < 32) : JM mi_J_coder d 0 0 [.ref (oj_sa q)] h (oj_is (.inl (some (.int 0))) h) := by
  refine JM_of gd_J_coder rfl (by decide +kernel) (Nat.le_of_ble_eq_true rfl) (oj_cats rfl) (by decide) ?_
  refine J_strcs (by decide +kernel) rfl ?_
  refine J_if (y := 0) rfl (fun hz => absurd hz (show ¬ (1 : Int32) = 0 by decide)) (fun _ => ?_)
  refine J_step rfl rfl ?_
  refine J_strc hq rfl rfl ?_
  refine J_step rfl rfl ?_
  exact J_cret rfl rfl rfl rfl (by decide) ⟨rfl, rfl⟩
set_option maxRecDepth 100000 in
set_option maxRecDepth 100000 in
set_option maxHeartbeats 2000000 in
theorem c_isLatin1 {d q : Nat} {h : AHp} (hq : q < 32) : JM mi_J_isLatin1 d 0 0 [.ref (oj_sa q)] h (oj_is (.inl (some (.int 1))) h) := by
  refine JM_of gd_J_isLatin1 rfl (by decide +kernel) (Nat.le_of_ble_eq_true rfl) (oj_cats rfl) (by decide) ?_
  refine J_strcs (by decide +kernel) rfl ?_
  refine J_if (y := 0) rfl (fun hz => absurd hz (show ¬ (1 : Int32) = 0 by decide)) (fun _ => ?_)
  refine J_step rfl rfl ?_
  refine J_strc hq rfl rfl ?_
  refine J_if (y := 0) rfl (fun hz => absurd rfl hz) (fun _ => ?_)
  refine J_step rfl rfl ?_
  refine J_step rfl rfl ?_
  exact J_cret rfl rfl rfl rfl (by decide) ⟨rfl, rfl⟩
set_option maxRecDepth 100000 in
set_option maxRecDepth 100000 in
set_option maxHeartbeats 2000000 in
theorem c_slength {q : Nat} {h : AHp} (hq : q < 32) : JM mi_J_length 1 0 0 [.ref (oj_sa q)] h (oj_is (.inl (some (.int (nI (oj_len.getD q 0))))) h) := by
  have hl := (sc_all q hq).1
  refine JM_of gd_J_length rfl (by decide +kernel) (Nat.le_of_ble_eq_true rfl) (oj_cats rfl) (by decide) ?_
  refine J_step rfl rfl ?_
  refine J_strv hq rfl rfl ?_
  refine J_stral hq rfl ?_
  refine J_step rfl rfl ?_
  refine J_callT (na := 0) (As := []) hq rfl rfl rfl (by decide +kernel) (by decide +kernel) (by decide +kernel) (by decide +kernel) (by decide +kernel) (by decide +kernel) (by decide) (by decide +kernel) rfl rfl rfl rfl (c_coder (d := 0) hq) (Nat.le_refl _) (Nat.le_refl _) (fun E h' z => by cases z.1) (fun v h' z => ?_)
  obtain ⟨z1, z2⟩ := z
  cases z1
  rw [z2]
  refine J_ishr rfl ?_
  have e : nI (oj_len.getD q 0) >>> ((0 : Int32) &&& 31) = nI (oj_len.getD q 0) := by
    generalize oj_len.getD q 0 = N at hl
    have : ∀ N, N < 100 → nI N >>> ((0 : Int32) &&& 31) = nI N := by decide +kernel
    exact this N hl
  rw [e]
  exact J_iret rfl rfl rfl rfl ⟨rfl, rfl⟩
set_option maxRecDepth 100000 in
set_option maxRecDepth 100000 in
set_option maxHeartbeats 2000000 in
theorem c_spre {d j N : Nat} {h : AHp} {v : Value} (hv : v = .null ∨ v = .ref (oj_sa 2000)) (hj : j < N) (hN : N < 100) : JM mi_J_pre d 0 0 [.int (nI j), .int (nI N), v] h (oj_is (.inl (some (.int (nI j)))) h) := by
  rcases hv with rfl | rfl
  all_goals
    refine JM_of gd_J_pre rfl (by decide +kernel) (Nat.le_of_ble_eq_true rfl) (oj_cats rfl) (by decide) ?_
    refine J_step rfl rfl ?_
    refine J_if (y := 0) rfl (fun hz => absurd hz (nI_pos (by omega))) (fun _ => ?_)
    refine J_step rfl rfl ?_
    refine J_step rfl rfl ?_
    refine J_ic rfl (fun _ => ?_) (fun hz => absurd (nI_lt hj (by omega)) hz)
    refine J_step rfl rfl ?_
    exact J_iret rfl rfl rfl rfl ⟨rfl, rfl⟩
set_option maxRecDepth 100000 in
set_option maxRecDepth 100000 in
set_option maxHeartbeats 2000000 in
theorem c_schk {j N : Nat} {h : AHp} (hj : j < N) (hN : N < 100) : JM mi_J_chk 1 0 0 [.int (nI j), .int (nI N)] h (oj_is (.inl none) h) := by
  refine JM_of gd_J_chk rfl (by decide +kernel) (Nat.le_of_ble_eq_true rfl) (oj_cats rfl) (by decide) ?_
  refine J_step rfl rfl ?_
  refine J_step rfl rfl ?_
  refine J_strf (by decide +kernel) rfl ?_ ?_
  · refine J_callP (na := 3) (As := [.int (nI j), .int (nI N), .null]) rfl rfl rfl (by decide +kernel) (by decide +kernel) (by decide +kernel) (by decide +kernel) (by decide +kernel) (by decide) rfl rfl rfl rfl (c_spre (d := 0) (Or.inl rfl) hj hN) (Nat.le_refl _) (Nat.le_refl _) (fun E h' z => by cases z.1) (fun v h' z => ?_)
    obtain ⟨z1, z2⟩ := z
    cases z1
    rw [z2]
    refine J_step rfl rfl ?_
    exact J_vret rfl rfl rfl rfl ⟨rfl, rfl⟩
  · refine J_callP (na := 3) (As := [.int (nI j), .int (nI N), .ref (oj_sa 2000)]) rfl rfl rfl (by decide +kernel) (by decide +kernel) (by decide +kernel) (by decide +kernel) (by decide +kernel) (by decide) rfl rfl rfl rfl (c_spre (d := 0) (Or.inr rfl) hj hN) (Nat.le_refl _) (Nat.le_refl _) (fun E h' z => by cases z.1) (fun v h' z => ?_)
    obtain ⟨z1, z2⟩ := z
    cases z1
    rw [z2]
    refine J_step rfl rfl ?_
    exact J_vret rfl rfl rfl rfl ⟨rfl, rfl⟩
set_option maxRecDepth 100000 in
set_option maxRecDepth 100000 in
set_option maxHeartbeats 2000000 in
theorem c_slat {q j : Nat} {h : AHp} (hq : q < 32) (hj : j < oj_len.getD q 0) : JM mi_J_lat 2 0 0 [.ref (oj_sa (1000 + q)), .int (nI j)] h (oj_is (.inl (some (.int (sCh q j)))) h) := by
  obtain ⟨hl, hc⟩ := sc_all q hq
  refine JM_of gd_J_lat rfl (by decide +kernel) (Nat.le_of_ble_eq_true rfl) (oj_cats rfl) (by decide) ?_
  refine J_step rfl rfl ?_
  refine J_step rfl rfl ?_
  refine J_stral hq rfl ?_
  refine J_callP (na := 2) (As := [.int (nI j), .int (nI (oj_len.getD q 0))]) rfl rfl rfl (by decide +kernel) (by decide +kernel) (by decide +kernel) (by decide +kernel) (by decide +kernel) (by decide) rfl rfl rfl rfl (c_schk hj hl) (Nat.le_refl _) (Nat.le_refl _) (fun E h' z => by cases z.1) (fun v h' z => ?_)
  obtain ⟨z1, z2⟩ := z
  cases z1
  rw [z2]
  refine J_step rfl rfl ?_
  refine J_step rfl rfl ?_
  refine J_strb hq hj (by omega) (by omega) rfl ?_
  refine J_step rfl rfl ?_
  refine J_step rfl rfl ?_
  refine J_step rfl rfl ?_
  have e : ((sCh q j).toUInt32 % 65536).toInt32 = sCh q j := by rw [(hc j hj).1]; rfl
  show J mi_J_lat 2 0 0 _ 0 0 14 _ [.int (((sCh q j).toUInt32 % 65536).toInt32)] h
  rw [e]
  exact J_cret rfl rfl rfl rfl (hc j hj).2 ⟨rfl, rfl⟩
set_option maxRecDepth 100000 in
set_option maxRecDepth 100000 in
set_option maxHeartbeats 2000000 in
theorem c_schar {q j : Nat} {h : AHp} (hq : q < 32) (hj : j < oj_len.getD q 0) : JM mi_J_charAt 3 0 0 [.ref (oj_sa q), .int (nI j)] h (oj_is (.inl (some (.int (sCh q j)))) h) := by
  obtain ⟨hl, hc⟩ := sc_all q hq
  refine JM_of gd_J_charAt rfl (by decide +kernel) (Nat.le_of_ble_eq_true rfl) (oj_cats rfl) (by decide) ?_
  refine J_step rfl rfl ?_
  refine J_callT (na := 0) (As := []) hq rfl rfl rfl (by decide +kernel) (by decide +kernel) (by decide +kernel) (by decide +kernel) (by decide +kernel) (by decide +kernel) (by decide) (by decide +kernel) rfl rfl rfl rfl (c_isLatin1 (d := 0) hq) (Nat.le_refl _) (Nat.le_refl _) (fun E h' z => by cases z.1) (fun v h' z => ?_)
  obtain ⟨z1, z2⟩ := z
  cases z1
  rw [z2]
  refine J_if (y := 0) rfl (fun hz => absurd hz (show ¬ (1 : Int32) = 0 by decide)) (fun _ => ?_)
  refine J_step rfl rfl ?_
  refine J_strv hq rfl rfl ?_
  refine J_step rfl rfl ?_
  refine J_callP (na := 2) (As := [.ref (oj_sa (1000 + q)), .int (nI j)]) rfl rfl rfl (by decide +kernel) (by decide +kernel) (by decide +kernel) (by decide +kernel) (by decide +kernel) (by decide) rfl rfl rfl rfl (c_slat hq hj) (Nat.le_refl _) (Nat.le_refl _) (fun E h' z => by cases z.1) (fun v h' z => ?_)
  obtain ⟨z1, z2⟩ := z
  cases z1
  rw [z2]
  exact J_cret rfl rfl rfl rfl (hc j hj).2 ⟨rfl, rfl⟩
section OJ12C
variable {μ : MI} {d mc ms : Nat} {Q : QT} {k n pc : Nat} {ls : List (Option Value)} {st : List Value} {h : AHp} {i : Instr} {len nx : Nat} {c : Int32} {t : Nat}
/-- length() of a text constant -/
theorem J_slenT {idx q : Nat} (hq : q < 32) (he : mT μ pc = some (.invokevirtual idx, len, nx, c, t)) (w0 : Cond.methodLink (oj_cls (mO μ)) idx yJ0_length_8abf5 ∈ lwG) (hd : Nat.ble 2 d = true) (hcat : Nat.ble ((st.map fun v => v.category).sum) 8 = true) (hmc : Nat.ble k mc = true) (hms : Nat.ble n ms = true) (kr : J μ d mc ms Q k n nx ls (.int (nI (oj_len.getD q 0)) :: st) h) : J μ d mc ms Q k n pc ls (.ref (oj_sa q) :: st) h :=
  J_callT (na := 0) (As := []) (μ' := mi_J_length) hq he rfl rfl w0 (by decide +kernel) (by decide +kernel) (by decide +kernel) (by decide +kernel) (by decide +kernel) (by decide) (by decide +kernel) rfl rfl hd hcat (c_slength hq) (Nat.le_of_ble_eq_true hmc) (Nat.le_of_ble_eq_true hms) (fun E h' z => by cases z.1) (fun v h' z => by obtain ⟨z1, rfl⟩ := z; cases z1; exact kr)
theorem J_schrT {idx q j : Nat} (hq : q < 32) (hj : j < oj_len.getD q 0) (he : mT μ pc = some (.invokevirtual idx, len, nx, c, t)) (w0 : Cond.methodLink (oj_cls (mO μ)) idx yJ0_charAt_5068e ∈ lwG) (hd : Nat.ble 4 d = true) (hcat : Nat.ble ((st.map fun v => v.category).sum) 8 = true) (hmc : Nat.ble k mc = true) (hms : Nat.ble n ms = true) (kr : J μ d mc ms Q k n nx ls (.int (sCh q j) :: st) h) : J μ d mc ms Q k n pc ls (.int (nI j) :: .ref (oj_sa q) :: st) h :=
  J_callT (na := 1) (As := [.int (nI j)]) (μ' := mi_J_charAt) hq he rfl rfl w0 (by decide +kernel) (by decide +kernel) (by decide +kernel) (by decide +kernel) (by decide +kernel) (by decide) (by decide +kernel) rfl rfl hd hcat (c_schar hq hj) (Nat.le_of_ble_eq_true hmc) (Nat.le_of_ble_eq_true hms) (fun E h' z => by cases z.1) (fun v h' z => by obtain ⟨z1, rfl⟩ := z; cases z1; exact kr)
end OJ12C
