theorem StrA.mv {h h' : AHp} {s w a M : Nat} (H : StrA h s w a M) (hh : ∀ x, x ≠ a → x < M → h' x = h x) : StrA h' s w a M := by
  rcases H with H | ⟨sb, f, e, e2, hf, h1, h2, h3, h4⟩
  · exact Or.inl H
  · exact Or.inr ⟨sb, f, (hh s h1 h2).trans e, (hh sb h3 h4).trans e2, hf, h1, h2, h3, h4⟩
theorem StrA.nn {h : AHp} {s w a M : Nat} (H : StrA h s w a M) : h s ≠ nilc ∨ 999999 ≤ s := by
  rcases H with ⟨q, -, rfl, -⟩ | ⟨sb, f, e, -⟩
  · exact nnK q
  · exact nnR e (by decide)
theorem StrA.lt {h : AHp} {s w a M : Nat} (H : StrA h s w a M) : s < M ∨ 999999 ≤ s := by
  rcases H with ⟨q, -, rfl, -⟩ | ⟨sb, f, -, -, -, -, h2, -⟩
  · exact Or.inr (oj_sa_ge q)
  · exact Or.inl h2
section OJ50
variable {μ : MI} {d mc ms : Nat} {Q : QT} {k n pc : Nat} {ls : List (Option Value)} {st : List Value} {h : AHp} {i : Instr} {len nx : Nat} {c : Int32} {t : Nat}
/-- a call of a text's own method -/
theorem J_callStr {μ' : MI} {idx d' s w a M na : Nat} {As rest : List Value} {Q' : QT} (H : StrA h s w a M) (he : mT μ pc = some (.invokevirtual idx, len, nx, c, t)) (hsp : oj_spV st As.length = some (As, s, rest)) (w0 : Cond.methodLink (oj_cls (mO μ)) idx (mY μ') ∈ lwG) (w1 : Cond.instanceMethod (mY μ') ∈ lwG) (w2 : Cond.selects (mY μ').cls (mY μ') (mY μ') ∈ lwG) (w3 : Cond.initialized (mY μ').cls ∈ lwG) (w4 : oj_cw μ' ∈ lwG) (g1 : (mY μ').cls ≠ "java/lang/invoke/MethodHandle" ∧ (mY μ').cls ≠ "java/lang/invoke/VarHandle" ∧ (parseMethodDescriptor (mY μ').desc).map (fun d => d.parameters.length) = some na) (g4 : mL μ' ≤ 21) (g5 : (mY μ').cls = "java/lang/String") (hH : mH μ' = []) (hal : mA μ' = false) (hd : Nat.ble (d' + 1) d = true) (hcat : Nat.ble ((rest.map fun v => v.category).sum) 8 = true)
    (hM : JM μ' d' 0 0 (.ref s :: As) h Q') (hmc : k ≤ mc) (hms : n ≤ ms)
    (kx : ∀ (E : String) (h' : AHp), ¬ Q' (.inr E) h')
    (kr : ∀ (v : Option Value) (h' : AHp), Q' (.inl v) h' → J μ d mc ms Q k n nx ls (v.toList ++ rest) h') (hna : As.length = na := by rfl) : J μ d mc ms Q k n pc ls st h := by
  subst hna
  rcases H with ⟨q, hq, rfl, -⟩ | ⟨sb, f, e, -⟩
  · exact J_callT (na := As.length) hq he rfl hsp w0 w1 w2 w3 w4 g1 g4 g5 hH hal hd hcat hM hmc hms kx kr
  · refine J_dV (ci := 7) he hsp e rfl (fun w hw => ?_) g1 g4 hH hd hcat hM hmc hms (oj_halF hal) kx kr g5
    have g6 : oj_hc 7 = (mY μ').cls := g5.symm
    rw [g6] at hw
    simp only [wsV, List.cons_append, List.nil_append, List.mem_cons, List.not_mem_nil, or_false] at hw
    rcases hw with hw | hw | hw | hw | hw <;> rw [hw] <;> assumption
end OJ50
set_option maxRecDepth 100000 in
set_option maxHeartbeats 2000000 in
theorem c_coderA {d s w a M : Nat} {h : AHp} (H : StrA h s w a M) : JM mi_J_coder d 0 0 [.ref s] h (oj_is (.inl (some (.int 0))) h) := by
  rcases H with ⟨q, hq, rfl, -⟩ | ⟨sb, f, e, -⟩
  · exact c_coder hq
  · refine JM_of gd_J_coder rfl (by decide +kernel) (Nat.le_of_ble_eq_true rfl) (oj_cats rfl) (by decide) ?_
    refine J_strcs (by decide +kernel) rfl ?_
    refine J_if (y := 0) rfl (fun hz => absurd hz (show ¬ (1 : Int32) = 0 by decide)) (fun _ => ?_)
    refine J_step rfl rfl ?_
    refine J_gf (ci := 7) (k0 := 1) rfl ⟨_, _, _, rfl, by decide, by decide +kernel⟩ (e) rfl ?_
    refine J_step rfl rfl ?_
    exact J_cret rfl rfl rfl rfl (by decide) ⟨rfl, rfl⟩
set_option maxRecDepth 100000 in
set_option maxHeartbeats 2000000 in
theorem c_slenA {s w a M : Nat} {h : AHp} (H : StrA h s w a M) : JM mi_J_length 1 0 0 [.ref s] h (oj_is (.inl (some (.int (nI w)))) h) := by
  rcases id H with ⟨q, hq, rfl, rfl⟩ | ⟨sb, f, e, e2, -⟩
  · exact c_slength hq
  · refine JM_of gd_J_length rfl (by decide +kernel) (Nat.le_of_ble_eq_true rfl) (oj_cats rfl) (by decide) ?_
    refine J_step rfl rfl ?_
    refine J_gf (ci := 7) (k0 := 0) rfl ⟨_, _, _, rfl, by decide, by decide +kernel⟩ (e) rfl ?_
    refine J_alenB rfl e2 ?_
    refine J_step rfl rfl ?_
    refine J_callStr (μ' := mi_J_coder) (na := 0) (As := []) H rfl rfl (by decide +kernel) (by decide +kernel) (by decide +kernel) (by decide +kernel) (by decide +kernel) (by decide +kernel) (by decide) (by decide +kernel) rfl rfl rfl rfl (c_coderA (d := 0) H) (Nat.le_refl _) (Nat.le_refl _) (fun E h' z => by cases z.1) (fun v h' z => ?_)
    obtain ⟨z1, z2⟩ := z
    obtain rfl := z2.symm
    cases z1
    refine J_ishr rfl ?_
    rw [sb_shr0]
    exact J_iret rfl rfl rfl rfl ⟨rfl, rfl⟩
set_option maxRecDepth 100000 in
set_option maxHeartbeats 2000000 in
theorem c_infl {s w a a0 M : Nat} {h : AHp} {v1 v2 v3 : Value} (H : StrA h s w a0 M) (e : h a = .inr (6, [v1, .int 0, v2, v3])) : JM mi_J5_inflateIfNeededFor_a7421 1 0 0 [.ref a, .ref s] h (oj_is (.inl none) h) := by
  refine JM_of gd_J5_inflateIfNeededFor_a7421 rfl (by decide +kernel) (Nat.le_of_ble_eq_true rfl) (oj_cats rfl) (by decide) ?_
  refine J_gsC rfl (by decide +kernel) ?_
  refine J_if (y := 0) rfl (fun hz => absurd hz (show ¬ (1 : Int32) = 0 by decide)) (fun _ => ?_)
  refine J_step rfl rfl ?_
  refine J_gf (ci := 6) (k0 := 1) rfl ⟨_, _, _, rfl, by decide, by decide +kernel⟩ (e) rfl ?_
  refine J_step rfl rfl ?_
  refine J_callStr (μ' := mi_J_coder) (na := 0) (As := []) H rfl rfl (by decide +kernel) (by decide +kernel) (by decide +kernel) (by decide +kernel) (by decide +kernel) (by decide +kernel) (by decide) (by decide +kernel) rfl rfl rfl rfl (c_coderA (d := 0) H) (Nat.le_refl _) (Nat.le_refl _) (fun E h' z => by cases z.1) (fun v h' z => ?_)
  obtain ⟨z1, z2⟩ := z
  obtain rfl := z2.symm
  cases z1
  refine J_ic rfl (fun _ => ?_) (fun z => absurd rfl z)
  exact J_vret rfl rfl rfl rfl ⟨rfl, rfl⟩
set_option maxRecDepth 100000 in
set_option maxHeartbeats 2000000 in
theorem c_getBytes {s w a0 M b n m : Nat} {h : AHp} {g : Nat → Int32} (H : StrA h s w a0 M) (hb : h b = .inl (2, m, .inl g)) (hg : sb_Fit g) (hn : n + w ≤ m) (hm : m ≤ 200) : JM mi_J0_getBytes_840e7 2 0 0 [.ref s, .ref b, .int (nI n), .int 0] h (fun r h' => r = .inl none ∧ ∃ g', sb_Fit g' ∧ h' = oj_up h b (.inl (2, m, .inl g'))) := by
  refine JM_of gd_J0_getBytes_840e7 rfl (by decide +kernel) (Nat.le_of_ble_eq_true rfl) (oj_cats rfl) (by decide) ?_
  refine J_step rfl rfl ?_
  refine J_callStr (μ' := mi_J_coder) (na := 0) (As := []) H rfl rfl (by decide +kernel) (by decide +kernel) (by decide +kernel) (by decide +kernel) (by decide +kernel) (by decide +kernel) (by decide) (by decide +kernel) rfl rfl rfl rfl (c_coderA (d := 0) H) (Nat.le_refl _) (Nat.le_refl _) (fun E h' z => by cases z.1) (fun v h' z => ?_)
  obtain ⟨z1, z2⟩ := z
  obtain rfl := z2.symm
  cases z1
  refine J_step rfl rfl ?_
  refine J_ic rfl (fun z => absurd rfl z) (fun _ => ?_)
  refine J_step rfl rfl ?_
  rcases id H with ⟨q, hq, rfl, hw⟩ | ⟨sb, f, e, e2, hf, -⟩
  · refine J_strv hq rfl rfl ?_
    iterate 5 (refine J_step rfl rfl ?_)
    rw [sb_shl0]
    refine J_step rfl rfl ?_
    refine J_strv hq rfl rfl ?_
    refine J_stral hq rfl ?_
    rw [hw]
    refine J_cpyK (sp := 0) (dp := n) (w := w) (n0 := w) rfl hq hw hb (by omega) (by omega) (by omega) (by omega) (by decide +kernel) rfl rfl ?_
    refine J_step rfl rfl ?_
    exact J_vret rfl rfl rfl rfl ⟨rfl, _, sb_fitC (sb_byt q hq) hg, rfl⟩
  · refine J_gf (ci := 7) (k0 := 0) rfl ⟨_, _, _, rfl, by decide, by decide +kernel⟩ (e) rfl ?_
    iterate 5 (refine J_step rfl rfl ?_)
    rw [sb_shl0]
    refine J_step rfl rfl ?_
    refine J_gf (ci := 7) (k0 := 0) rfl ⟨_, _, _, rfl, by decide, by decide +kernel⟩ (e) rfl ?_
    refine J_alenB rfl e2 ?_
    refine J_cpy (sp := 0) (dp := n) (w := w) rfl e2 hf hb (by omega) (by omega) (by omega) (by omega) (by decide +kernel) rfl rfl ?_
    refine J_step rfl rfl ?_
    exact J_vret rfl rfl rfl rfl ⟨rfl, _, sb_fitC hf hg, rfl⟩
set_option maxRecDepth 100000 in
set_option maxHeartbeats 2000000 in
theorem c_putStr {s w a a0 M b n m : Nat} {h : AHp} {g : Nat → Int32} {v1 v2 : Value} (H : StrA h s w a0 M) (e : h a = .inr (6, [.ref b, .int 0, v1, v2])) (hb : h b = .inl (2, m, .inl g)) (hg : sb_Fit g) (hn : n + w ≤ m) (hm : m ≤ 200) : JM mi_J5_putStringAt_47b60 3 0 0 [.ref a, .int (nI n), .ref s] h (fun r h' => r = .inl none ∧ ∃ g', sb_Fit g' ∧ h' = oj_up h b (.inl (2, m, .inl g'))) := by
  refine JM_of gd_J5_putStringAt_47b60 rfl (by decide +kernel) (Nat.le_of_ble_eq_true rfl) (oj_cats rfl) (by decide) ?_
  iterate 2 (refine J_step rfl rfl ?_)
  refine J_dU (μ' := mi_J5_inflateIfNeededFor_a7421) (na := 1) (As := [.ref s]) rfl rfl e rfl (by decide +kernel) (by decide +kernel) (by decide) rfl rfl rfl (c_infl H e) (Nat.le_refl _) (Nat.le_refl _) (oj_halF rfl) (fun E h' z => by cases z.1) (fun v h' z => ?_)
  obtain ⟨z1, z2⟩ := z
  obtain rfl := z2.symm
  cases z1
  iterate 2 (refine J_step rfl rfl ?_)
  refine J_gf (ci := 6) (k0 := 0) rfl ⟨_, _, _, rfl, by decide, by decide +kernel⟩ (e) rfl ?_
  iterate 2 (refine J_step rfl rfl ?_)
  refine J_gf (ci := 6) (k0 := 1) rfl ⟨_, _, _, rfl, by decide, by decide +kernel⟩ (e) rfl ?_
  refine J_callStr (μ' := mi_J0_getBytes_840e7) (na := 3) (As := [.ref b, .int (nI n), .int 0]) H rfl rfl (by decide +kernel) (by decide +kernel) (by decide +kernel) (by decide +kernel) (by decide +kernel) (by decide +kernel) (by decide) (by decide +kernel) rfl rfl rfl rfl (c_getBytes H hb hg hn hm) (Nat.le_refl _) (Nat.le_refl _) (fun E h' z => by cases z.1) (fun v h' z => ?_)
  obtain ⟨z1, z2⟩ := z
  cases z1
  exact J_vret rfl rfl rfl rfl ⟨rfl, z2⟩
set_option maxHeartbeats 1000000 in
set_option maxRecDepth 100000 in
set_option maxHeartbeats 2000000 in
theorem c_appS0 {a b m n s w M : Nat} {h : AHp} {f : Nat → Int32} (H : SBs h a b m n f) (HS : StrA h s w a M) (hq : n + w ≤ 60) (hbd : oj_bd M h) (hM : M < 999990) (ha : a < M) (hb : b < M) : JM mi_J5_append_cf1ce 4 1 122 [.ref a, .ref s] h (fun r h' => r = .inl (some (.ref a)) ∧ SBok h h' a b M (n + w)) := by
  obtain ⟨e, e2, hf, hn, hm⟩ := id H
  refine JM_of gd_J5_append_cf1ce rfl (by decide +kernel) (Nat.le_of_ble_eq_true rfl) (oj_cats rfl) (by decide) ?_
  refine J_step rfl rfl ?_
  refine J_ifnonnull rfl ?_
  refine J_step rfl rfl ?_
  refine J_callStr (μ' := mi_J_length) (na := 0) (As := []) HS rfl rfl (by decide +kernel) (by decide +kernel) (by decide +kernel) (by decide +kernel) (by decide +kernel) (by decide +kernel) (by decide) (by decide +kernel) rfl rfl rfl rfl (c_slenA HS) (Nat.zero_le _) (Nat.zero_le _) (fun E h' z => by cases z.1) (fun v h' z => ?_)
  obtain ⟨z1, z2⟩ := z
  obtain rfl := z2.symm
  cases z1
  iterate 3 (refine J_step rfl rfl ?_)
  refine J_gf (ci := 6) (k0 := 3) rfl ⟨_, _, _, rfl, by decide, by decide +kernel⟩ (e) rfl ?_
  iterate 2 (refine J_step rfl rfl ?_)
  rw [nI_add]
  refine J_dU (μ' := mi_J5_ensureCapacityInternal_d00df) (na := 1) (As := [.int (nI (n + w))]) rfl rfl e rfl (by decide +kernel) (by decide +kernel) (by decide) rfl rfl rfl (c_ensure H hq hbd hM ha hb) (by decide) (by decide) (oj_halT rfl trivial ⟨nnR e (by decide), HS.nn, trivial⟩) (fun E h' z => by cases z.1) (fun v h1 z => ?_)
  obtain ⟨z1, b', m', f', M', H1, hq1, hb1, hb2, hM1, hM2, hbd1, hk⟩ := z
  cases z1
  obtain ⟨g, g2, gf, gn, gm⟩ := id H1
  have hab : a ≠ b' := fun z => by rw [z, g2] at g; cases g
  iterate 2 (refine J_step rfl rfl ?_)
  refine J_gf (ci := 6) (k0 := 3) rfl ⟨_, _, _, rfl, by decide, by decide +kernel⟩ (g) rfl ?_
  refine J_step rfl rfl ?_
  refine J_dU (μ' := mi_J5_putStringAt_47b60) (na := 2) (As := [.int (nI n), .ref s]) rfl rfl g rfl (by decide +kernel) (by decide +kernel) (by decide) rfl rfl rfl (c_putStr (n := n) (HS.mv (fun x z1 z2 => hk x z1 (Or.inl z2))) g g2 gf hq1 gm) (by decide) (by decide) (oj_halF rfl) (fun E h' z => by cases z.1) (fun v h2 z => ?_)
  obtain ⟨z1, f2, hf2, rfl⟩ := z
  cases z1
  have g9 : oj_up h1 b' (.inl (2, m', .inl f2)) a = .inr (6, [.ref b', .int 0, .int 0, .int (nI n)]) := (up_ne hab).trans g
  iterate 2 (refine J_step rfl rfl ?_)
  refine J_gf (ci := 6) (k0 := 3) rfl ⟨_, _, _, rfl, by decide, by decide +kernel⟩ (g9) rfl ?_
  iterate 2 (refine J_step rfl rfl ?_)
  rw [nI_add]
  refine J_pf (ci := 6) (k0 := 3) rfl ⟨_, _, _, rfl, by decide, by decide +kernel⟩ (g9) rfl rfl (fun _ => ⟨rfl, rfl⟩) ?_
  refine J_step rfl rfl ?_
  refine J_aret rfl rfl (by decide) (by decide) ⟨rfl, b', m', f2, M', ⟨up_at, (up_ne (Ne.symm hab)).trans up_at, hf2, hq1, gm⟩, hb1, hb2, hM1, hM2, ?_, fun x z1 z2 z3 => ?_⟩
  · refine (hbd1.put hb2 (by exact trivial)).put (by omega) ?_
    exact lo_ref ⟨Or.inl (by omega), trivial⟩
  · have z4 : x ≠ b' := by
      rcases hb1 with q | q
      · rw [q]; exact z2
      · rcases z3 with z3 | z3 <;> omega
    exact (up_ne z1).trans ((up_ne z4).trans (hk x z1 z3))
set_option maxRecDepth 100000 in
set_option maxHeartbeats 2000000 in
theorem c_appS {a b m n s w M : Nat} {h : AHp} {f : Nat → Int32} (H : SBs h a b m n f) (HS : StrA h s w a M) (hq : n + w ≤ 60) (hbd : oj_bd M h) (hM : M < 999990) (ha : a < M) (hb : b < M) : JM mi_J4_append_15ec4 5 1 122 [.ref a, .ref s] h (fun r h' => r = .inl (some (.ref a)) ∧ SBok h h' a b M (n + w)) := by
  have e := H.1
  refine JM_of gd_J4_append_15ec4 rfl (by decide +kernel) (Nat.le_of_ble_eq_true rfl) (oj_cats rfl) (by decide) ?_
  iterate 2 (refine J_step rfl rfl ?_)
  refine J_dP (μ' := mi_J5_append_cf1ce) (na := 1) (As := [.ref s]) rfl rfl e rfl (by decide +kernel) (by decide +kernel) (by decide) rfl rfl rfl (c_appS0 H HS hq hbd hM ha hb) (by decide) (by decide) (oj_halT rfl trivial ⟨nnR e (by decide), HS.nn, trivial⟩) (fun E h' z => by cases z.1) (fun v h1 z => ?_)
  obtain ⟨z1, z2⟩ := z
  cases z1
  iterate 2 (refine J_step rfl rfl ?_)
  exact J_aret rfl rfl (by decide) (by decide) ⟨rfl, z2⟩
