set_option maxRecDepth 100000 in
set_option maxHeartbeats 2000000 in
theorem m_adds {h h1 : AHp} {v : Nat → Int32} {A : Nat → Nat → Int32} {q : LQ} {x y z : Int32} (H : MdP h v A h1) (S : SI (A 0) q) : JM mi_X6_adds 2 0 0 [.ref 121, .int x, .int y, .int z] h1 (DP h v A q 0 x y z) := by
  have e0 := H.1.1
  have e1 := H.1.2.1
  have hl := S.2.2.2.2
  have out : ∀ (c : Int32) h2, sFault q.2.1 q.2.2.1 0 x y z = c → ¬ c = 0 → MdP h (fset v 1 c) A h2 → J mi_X6_adds 2 0 0 (DP h v A q 0 x y z) 0 0 81 [some (.ref 121), some (.int x), some (.int y), some (.int z), none] [] h2 := by
    intro c h2 hc hn H2
    repeat (first | (refine J_step rfl rfl ?_) | (refine J_getf rfl rfl rfl (by assumption) rfl ?_))
    exact J_iret rfl rfl rfl rfl (DP_no S (by rw [hc]; exact hn) (by rw [hc]; rfl) H2)
  have go : ∀ h2, sFault q.2.1 q.2.2.1 0 x y z = 0 → q.2.2.1.length < 20 → MdP h (fset v 1 0) A h2 → J mi_X6_adds 2 0 0 (DP h v A q 0 x y z) 0 0 83 [some (.ref 121), some (.int x), some (.int y), some (.int z), none] [] h2 := by
    intro h2 hf h20 H2
    obtain ⟨sl, F, l, E, Jn⟩ := q
    have h20 : l.length < 20 := h20
    have e0 := H2.1.1
    have e1 := H2.1.2.1
    have W0 : (∀ i, i < 20 + 7 * l.length → A 0 i = A 0 i) ∧ ∀ w, w < 0 → A 0 (20 + 7 * l.length + w) = mRow (F 6, x, y, z, F 0, -1, 0) w := ⟨fun _ _ => rfl, fun w hw => by omega⟩
    have e13 : A 0 13 = nI l.length := S.2.1
    have e6 : A 0 6 = F 6 := S.1 6 (by decide)
    have e00 : A 0 0 = F 0 := S.1 0 (by decide)
    generalize hr : ((F 6, x, y, z, F 0, -1, 0) : Row) = r at W0
    repeat (first | (refine J_step rfl rfl ?_) | (refine J_getf rfl rfl rfl (by assumption) rfl ?_))
    refine J_rs 13 rfl e1 rfl (by decide) (by decide) e13 ?_
    repeat (first | (refine J_step rfl rfl ?_) | (refine J_getf rfl rfl rfl (by assumption) rfl ?_))
    refine J_rs 6 rfl e1 rfl (by decide) (by decide) e6 ?_
    have H2' : MdP h (fset v 1 0) (aset A 0 (A 0)) h2 := by rw [aset_self]; exact H2
    generalize hg0 : A 0 = g0 at H2' W0 e1
    have S0 := S
    rw [hg0] at S0
    clear e0 e1
    have e0 := H2'.1.1
    have e1 := H2'.1.2.1
    rw [aset_at] at e1
    refine J_callV rfl rfl rfl rfl rfl (by assumption) rfl rfl rfl rfl (m_sets (d := 0) (j := l.length) (w := 0) H2' (by omega) (by decide)) (Nat.zero_le _) (Nat.zero_le _) (fun E h9 q => by cases q.1) (fun v9 h10 q => ?_)
    obtain ⟨q1, H10⟩ := q
    cases q1
    clear e0 e1
    rw [aset_aset, aset_at] at H10
    have W1 := rw_step W0 (show F 6 = mRow r 0 by rw [← hr]; rfl)
    generalize upd g0 (20 + 7 * l.length + 0) (F 6) = g1 at H10 W1
    have e0 := H10.1.1
    have e1 := H10.1.2.1
    rw [aset_at] at e1
    repeat (first | (refine J_step rfl rfl ?_) | (refine J_getf rfl rfl rfl (by assumption) rfl ?_))
    refine J_callV rfl rfl rfl rfl rfl (by assumption) rfl rfl rfl rfl (m_sets (d := 0) (j := l.length) (w := 1) H10 (by omega) (by decide)) (Nat.zero_le _) (Nat.zero_le _) (fun E h9 q => by cases q.1) (fun v9 h11 q => ?_)
    obtain ⟨q1, H11⟩ := q
    cases q1
    clear e0 e1
    rw [aset_aset, aset_at] at H11
    have W2 := rw_step W1 (show x = mRow r 1 by rw [← hr]; rfl)
    generalize upd g1 (20 + 7 * l.length + 1) (x) = g2 at H11 W2
    have e0 := H11.1.1
    have e1 := H11.1.2.1
    rw [aset_at] at e1
    repeat (first | (refine J_step rfl rfl ?_) | (refine J_getf rfl rfl rfl (by assumption) rfl ?_))
    refine J_callV rfl rfl rfl rfl rfl (by assumption) rfl rfl rfl rfl (m_sets (d := 0) (j := l.length) (w := 2) H11 (by omega) (by decide)) (Nat.zero_le _) (Nat.zero_le _) (fun E h9 q => by cases q.1) (fun v9 h12 q => ?_)
    obtain ⟨q1, H12⟩ := q
    cases q1
    clear e0 e1
    rw [aset_aset, aset_at] at H12
    have W3 := rw_step W2 (show y = mRow r 2 by rw [← hr]; rfl)
    generalize upd g2 (20 + 7 * l.length + 2) (y) = g3 at H12 W3
    have e0 := H12.1.1
    have e1 := H12.1.2.1
    rw [aset_at] at e1
    repeat (first | (refine J_step rfl rfl ?_) | (refine J_getf rfl rfl rfl (by assumption) rfl ?_))
    refine J_callV rfl rfl rfl rfl rfl (by assumption) rfl rfl rfl rfl (m_sets (d := 0) (j := l.length) (w := 3) H12 (by omega) (by decide)) (Nat.zero_le _) (Nat.zero_le _) (fun E h9 q => by cases q.1) (fun v9 h13 q => ?_)
    obtain ⟨q1, H13⟩ := q
    cases q1
    clear e0 e1
    rw [aset_aset, aset_at] at H13
    have W4 := rw_step W3 (show z = mRow r 3 by rw [← hr]; rfl)
    generalize upd g3 (20 + 7 * l.length + 3) (z) = g4 at H13 W4
    have e0 := H13.1.1
    have e1 := H13.1.2.1
    rw [aset_at] at e1
    repeat (first | (refine J_step rfl rfl ?_) | (refine J_getf rfl rfl rfl (by assumption) rfl ?_))
    refine J_callV rfl rfl rfl rfl rfl (by assumption) rfl rfl rfl rfl (m_sets (d := 0) (j := l.length) (w := 4) H13 (by omega) (by decide)) (Nat.zero_le _) (Nat.zero_le _) (fun E h9 q => by cases q.1) (fun v9 h14 q => ?_)
    obtain ⟨q1, H14⟩ := q
    cases q1
    clear e0 e1
    rw [aset_aset, aset_at] at H14
    have W5 := rw_step W4 (show 0 = mRow r 4 by rw [← hr]; exact (show (0 : Int32) = -1 + 1 by decide))
    generalize upd g4 (20 + 7 * l.length + 4) (0) = g5 at H14 W5
    have e0 := H14.1.1
    have e1 := H14.1.2.1
    rw [aset_at] at e1
    repeat (first | (refine J_step rfl rfl ?_) | (refine J_getf rfl rfl rfl (by assumption) rfl ?_))
    refine J_callV rfl rfl rfl rfl rfl (by assumption) rfl rfl rfl rfl (m_sets (d := 0) (j := l.length) (w := 5) H14 (by omega) (by decide)) (Nat.zero_le _) (Nat.zero_le _) (fun E h9 q => by cases q.1) (fun v9 h15 q => ?_)
    obtain ⟨q1, H15⟩ := q
    cases q1
    clear e0 e1
    rw [aset_aset, aset_at] at H15
    have W6 := rw_step W5 (show 0 = mRow r 5 by rw [← hr]; rfl)
    generalize upd g5 (20 + 7 * l.length + 5) (0) = g6 at H15 W6
    have e0 := H15.1.1
    have e1 := H15.1.2.1
    rw [aset_at] at e1
    repeat (first | (refine J_step rfl rfl ?_) | (refine J_getf rfl rfl rfl (by assumption) rfl ?_))
    refine J_rs 0 rfl e1 rfl (by decide) (by decide) ((W6.1 0 (by omega)).trans (S0.1 0 (by decide))) ?_
    refine J_callV rfl rfl rfl rfl rfl (by assumption) rfl rfl rfl rfl (m_sets (d := 0) (j := l.length) (w := 6) H15 (by omega) (by decide)) (Nat.zero_le _) (Nat.zero_le _) (fun E h9 q => by cases q.1) (fun v9 h16 q => ?_)
    obtain ⟨q1, H16⟩ := q
    cases q1
    clear e0 e1
    rw [aset_aset, aset_at] at H16
    have W7 := rw_step W6 (show F 0 = mRow r 6 by rw [← hr]; rfl)
    generalize upd g6 (20 + 7 * l.length + 6) (F 0) = g7 at H16 W7
    have e0 := H16.1.1
    have e1 := H16.1.2.1
    rw [aset_at] at e1
    repeat (first | (refine J_step rfl rfl ?_) | (refine J_getf rfl rfl rfl (by assumption) rfl ?_))
    refine J_rs 13 rfl e1 rfl (by decide) (by decide) ((W7.1 13 (by omega)).trans S0.2.1) ?_
    repeat (first | (refine J_step rfl rfl ?_) | (refine J_getf rfl rfl rfl (by assumption) rfl ?_))
    refine J_ws 13 rfl e1 rfl (by decide) (by decide) ?_
    have K1 := H16.s (upd g7 13 (nI l.length + 1))
    rw [aset_aset] at K1
    refine J_heap (h2 := oj_up h16 122 (.inl (0, 160, .inl (upd g7 13 (nI l.length + 1))))) rfl ?_
    generalize oj_up h16 122 (.inl (0, 160, .inl (upd g7 13 (nI l.length + 1)))) = k1 at K1 ⊢
    clear e0 e1
    have e0 := K1.1.1
    have e1 := K1.1.2.1
    rw [aset_at] at e1
    repeat (first | (refine J_step rfl rfl ?_) | (refine J_getf rfl rfl rfl (by assumption) rfl ?_))
    refine J_rs 6 rfl e1 rfl (by decide) (by decide) ((upd_ne (by decide)).trans ((W7.1 6 (by omega)).trans (S0.1 6 (by decide)))) ?_
    repeat (first | (refine J_step rfl rfl ?_) | (refine J_getf rfl rfl rfl (by assumption) rfl ?_))
    refine J_ws 6 rfl e1 rfl (by decide) (by decide) ?_
    have K2 := K1.s (upd (upd g7 13 (nI l.length + 1)) 6 (F 6 + 1))
    rw [aset_aset] at K2
    refine J_heap (h2 := oj_up k1 122 (.inl (0, 160, .inl (upd (upd g7 13 (nI l.length + 1)) 6 (F 6 + 1))))) rfl ?_
    generalize oj_up k1 122 (.inl (0, 160, .inl (upd (upd g7 13 (nI l.length + 1)) 6 (F 6 + 1)))) = k2 at K2 ⊢
    clear e0 e1
    have e0 := K2.1.1
    have e1 := K2.1.2.1
    rw [aset_at] at e1
    repeat (first | (refine J_step rfl rfl ?_) | (refine J_getf rfl rfl rfl (by assumption) rfl ?_))
    refine J_rs 6 rfl e1 rfl (by decide) (by decide) upd_at ?_
    repeat (first | (refine J_step rfl rfl ?_) | (refine J_getf rfl rfl rfl (by assumption) rfl ?_))
    refine J_iret rfl rfl rfl rfl (DP_ok hf (show F 6 + 1 - 1 = F 6 by simp) rfl K2 ?_)
    have := SI_app (r := r) (c := F 6 + 1) S0 h20 W7
    rw [← hr] at this
    exact this
  have st3 : ∀ h2, (0 ≤ y ∧ y ≤ 6) ∧ (0 ≤ z ∧ z ≤ 6) → ¬ (x < 40 ∨ 120 < x ∨ y = z) → MdP h (fset v 1 0) A h2 → J mi_X6_adds 2 0 0 (DP h v A q 0 x y z) 0 0 56 [some (.ref 121), some (.int x), some (.int y), some (.int z), none] [] h2 := by
    intro h2 ha hb H2
    have e0 := H2.1.1
    have e1 := H2.1.2.1
    have hfl : sFault q.2.1 q.2.2.1 0 x y z = if nI q.2.2.1.length < 20 then 0 else 3 := by
      show fAdd q.2.2.1 x y z = _
      rw [fAdd, if_neg (fun t => t.elim (fun t => t (st7.mp ha.1)) (fun t => t (st7.mp ha.2))), if_neg hb]
    repeat (first | (refine J_step rfl rfl ?_) | (refine J_getf rfl rfl rfl (by assumption) rfl ?_))
    refine J_rs 13 rfl e1 rfl (by decide) (by decide) S.2.1 ?_
    repeat (first | (refine J_step rfl rfl ?_) | (refine J_getf rfl rfl rfl (by assumption) rfl ?_))
    by_cases h20 : q.2.2.1.length = 20
    · have hc : sFault q.2.1 q.2.2.1 0 x y z = 3 := by rw [hfl, h20, if_neg (by decide)]
      refine J_ic rfl (fun hq => absurd (show nI q.2.2.1.length = 20 by rw [h20]; rfl) hq) (fun _ => ?_)
      repeat (first | (refine J_step rfl rfl ?_) | (refine J_getf rfl rfl rfl (by assumption) rfl ?_))
      refine J_callV rfl rfl rfl rfl rfl (by assumption) rfl rfl rfl rfl (m_thrT (d := 0) H2) (Nat.zero_le _) (Nat.zero_le _) (fun E h9 q => by cases q.1) (fun v9 h3 q => ?_)
      obtain ⟨q1, H3⟩ := q
      cases q1
      rw [fset2] at H3
      have e0 := H3.1.1
      have e1 := H3.1.2.1
      refine J_if (y := 0) rfl (fun hq => absurd hq (show ¬ (1 : Int32) = 0 by decide)) (fun _ => ?_)
      exact out 3 _ hc (by decide) H3
    · have hc : sFault q.2.1 q.2.2.1 0 x y z = 0 := by rw [hfl]; exact if_pos (show nI q.2.2.1.length < nI 20 from nI_lt (by omega) (by decide))
      refine J_ic rfl (fun _ => ?_) (fun hq => absurd ((nI_eq (by omega) (by decide)).mp (show nI q.2.2.1.length = nI 20 from Classical.not_not.mp hq)) h20)
      repeat (first | (refine J_step rfl rfl ?_) | (refine J_getf rfl rfl rfl (by assumption) rfl ?_))
      refine J_callV rfl rfl rfl rfl rfl (by assumption) rfl rfl rfl rfl (m_thrF (d := 0) H2) (Nat.zero_le _) (Nat.zero_le _) (fun E h9 q => by cases q.1) (fun v9 h3 q => ?_)
      obtain ⟨q1, H3⟩ := q
      cases q1
      rw [fset2] at H3
      have e0 := H3.1.1
      have e1 := H3.1.2.1
      refine J_if (y := 0) rfl (fun _ => ?_) (fun hq => absurd rfl hq)
      exact go _ hc (by omega) H3
  have st2' : ∀ h2, (0 ≤ y ∧ y ≤ 6) ∧ (0 ≤ z ∧ z ≤ 6) → MdP h (fset v 1 0) A h2 → J mi_X6_adds 2 0 0 (DP h v A q 0 x y z) 0 0 27 [some (.ref 121), some (.int x), some (.int y), some (.int z), none] [] h2 := by
    intro h2 ha H2
    have e0 := H2.1.1
    have e1 := H2.1.2.1
    have na : ¬ (¬ (0 ≤ y ∧ y < 7) ∨ ¬ (0 ≤ z ∧ z < 7)) := fun t => t.elim (fun t => t (st7.mp ha.1)) (fun t => t (st7.mp ha.2))
    have bad : (x < 40 ∨ 120 < x ∨ y = z) → J mi_X6_adds 2 0 0 (DP h v A q 0 x y z) 0 0 44 [some (.ref 121), some (.int x), some (.int y), some (.int z), none] [.ref 121] h2 := by
      intro hb
      have hc : sFault q.2.1 q.2.2.1 0 x y z = 2 := by
        show fAdd q.2.2.1 x y z = _
        rw [fAdd, if_neg na, if_pos hb]
      repeat (first | (refine J_step rfl rfl ?_) | (refine J_getf rfl rfl rfl (by assumption) rfl ?_))
      refine J_callV rfl rfl rfl rfl rfl (by assumption) rfl rfl rfl rfl (m_thrT (d := 0) H2) (Nat.zero_le _) (Nat.zero_le _) (fun E h9 q => by cases q.1) (fun v9 h3 q => ?_)
      obtain ⟨q1, H3⟩ := q
      cases q1
      rw [fset2] at H3
      have e0 := H3.1.1
      have e1 := H3.1.2.1
      refine J_if (y := 0) rfl (fun _ => ?_) (fun hq => absurd (show ¬ (1 : Int32) = 0 by decide) hq)
      exact out 2 _ hc (by decide) H3
    repeat (first | (refine J_step rfl rfl ?_) | (refine J_getf rfl rfl rfl (by assumption) rfl ?_))
    refine J_cS rfl rfl rfl rfl rfl rfl rfl rfl rfl rfl rfl (m_isIn (d := 0)) ?_
    by_cases hb : 40 ≤ x ∧ x ≤ 120
    · rw [decide_eq_true hb]
      refine J_if (y := 0) rfl (fun hq => absurd hq (show ¬ bI true = 0 by decide)) (fun _ => ?_)
      repeat (first | (refine J_step rfl rfl ?_) | (refine J_getf rfl rfl rfl (by assumption) rfl ?_))
      refine J_ic rfl (fun hq => ?_) (fun hq => ?_)
      · have hyz : ¬ y = z := hq
        have nb : ¬ (x < 40 ∨ 120 < x ∨ y = z) := fun t => t.elim (fun t => (not_in (x := x) (a := 40) (b := 120)).mpr (Or.inl t) hb) (fun t => t.elim (fun t => (not_in (x := x) (a := 40) (b := 120)).mpr (Or.inr t) hb) hyz)
        repeat (first | (refine J_step rfl rfl ?_) | (refine J_getf rfl rfl rfl (by assumption) rfl ?_))
        refine J_callV rfl rfl rfl rfl rfl (by assumption) rfl rfl rfl rfl (m_thrF (d := 0) H2) (Nat.zero_le _) (Nat.zero_le _) (fun E h9 q => by cases q.1) (fun v9 h3 q => ?_)
        obtain ⟨q1, H3⟩ := q
        cases q1
        rw [fset2] at H3
        have e0 := H3.1.1
        have e1 := H3.1.2.1
        refine J_if (y := 0) rfl (fun hq => absurd rfl hq) (fun _ => ?_)
        exact st3 _ ha nb H3
      · exact bad (Or.inr (Or.inr (Classical.not_not.mp hq)))
    · rw [decide_eq_false hb]
      refine J_if (y := 0) rfl (fun _ => ?_) (fun hq => absurd rfl hq)
      exact bad ((not_in.mp hb).elim Or.inl (fun t => Or.inr (Or.inl t)))
  have bad1 : ¬ ((0 ≤ y ∧ y ≤ 6) ∧ (0 ≤ z ∧ z ≤ 6)) → J mi_X6_adds 2 0 0 (DP h v A q 0 x y z) 0 0 15 [some (.ref 121), some (.int x), some (.int y), some (.int z), none] [.ref 121] h1 := by
    intro hb
    have hc : sFault q.2.1 q.2.2.1 0 x y z = 1 := by
      show fAdd q.2.2.1 x y z = _
      rw [fAdd, if_pos (by
        by_cases t : 0 ≤ y ∧ y ≤ 6
        · exact Or.inr fun t2 => hb ⟨t, st7.mpr t2⟩
        · exact Or.inl fun t2 => t (st7.mpr t2))]
    repeat (first | (refine J_step rfl rfl ?_) | (refine J_getf rfl rfl rfl (by assumption) rfl ?_))
    refine J_callV rfl rfl rfl rfl rfl (by assumption) rfl rfl rfl rfl (m_thrT (d := 0) H) (Nat.zero_le _) (Nat.zero_le _) (fun E h9 q => by cases q.1) (fun v9 h3 q => ?_)
    obtain ⟨q1, H3⟩ := q
    cases q1
    have e0 := H3.1.1
    have e1 := H3.1.2.1
    refine J_if (y := 0) rfl (fun _ => ?_) (fun hq => absurd (show ¬ (1 : Int32) = 0 by decide) hq)
    exact out 1 _ hc (by decide) H3
  refine JM_of gd_X6_adds rfl (by decide +kernel) (Nat.le_of_ble_eq_true rfl) (oj_cats rfl) (by decide) ?_
  repeat (first | (refine J_step rfl rfl ?_) | (refine J_getf rfl rfl rfl (by assumption) rfl ?_))
  refine J_cS rfl rfl rfl rfl rfl rfl rfl rfl rfl rfl rfl (m_isStation) ?_
  by_cases hy : 0 ≤ y ∧ y ≤ 6
  · rw [decide_eq_true hy]
    refine J_if (y := 0) rfl (fun hq => absurd hq (show ¬ bI true = 0 by decide)) (fun _ => ?_)
    repeat (first | (refine J_step rfl rfl ?_) | (refine J_getf rfl rfl rfl (by assumption) rfl ?_))
    refine J_cS rfl rfl rfl rfl rfl rfl rfl rfl rfl rfl rfl (m_isStation) ?_
    by_cases hz : 0 ≤ z ∧ z ≤ 6
    · rw [decide_eq_true hz]
      refine J_if (y := 0) rfl (fun _ => ?_) (fun hq => absurd (show ¬ bI true = 0 by decide) hq)
      repeat (first | (refine J_step rfl rfl ?_) | (refine J_getf rfl rfl rfl (by assumption) rfl ?_))
      refine J_callV rfl rfl rfl rfl rfl (by assumption) rfl rfl rfl rfl (m_thrF (d := 0) H) (Nat.zero_le _) (Nat.zero_le _) (fun E h9 q => by cases q.1) (fun v9 h3 q => ?_)
      obtain ⟨q1, H3⟩ := q
      cases q1
      have e0 := H3.1.1
      have e1 := H3.1.2.1
      refine J_if (y := 0) rfl (fun hq => absurd rfl hq) (fun _ => ?_)
      exact st2' _ ⟨hy, hz⟩ H3
    · rw [decide_eq_false hz]
      refine J_if (y := 0) rfl (fun hq => absurd rfl hq) (fun _ => ?_)
      exact bad1 (fun t => hz t.2)
  · rw [decide_eq_false hy]
    refine J_if (y := 0) rfl (fun _ => ?_) (fun hq => absurd rfl hq)
    exact bad1 (fun t => hy t.1)
set_option maxRecDepth 100000 in
set_option maxHeartbeats 2000000 in
theorem m_removes {h h1 : AHp} {v : Nat → Int32} {A : Nat → Nat → Int32} {q : LQ} {x y z : Int32} (H : MdP h v A h1) (S : SI (A 0) q) (hcab : ∀ j, j < q.2.2.1.length → (rAt q.2.2.1 j).2.2.2.2.2.1 = -1 ∨ (rAt q.2.2.1 j).2.2.2.2.2.1 = 0 ∨ (rAt q.2.2.1 j).2.2.2.2.2.1 = 1) : JM mi_X6_removes 2 0 0 [.ref 121, .int x] h1 (DP h v A q 1 x y z) := by
  have e0 := H.1.1
  have e1 := H.1.2.1
  have hl := S.2.2.2.2
  refine JM_of gd_X6_removes rfl (by decide +kernel) (Nat.le_of_ble_eq_true rfl) (oj_cats rfl) (by decide) ?_
  repeat (first | (refine J_step rfl rfl ?_) | (refine J_getf rfl rfl rfl (by assumption) rfl ?_))
  refine J_cV rfl rfl rfl rfl rfl (by assumption) rfl rfl rfl rfl rfl rfl (m_at H.1 S) ?_
  rcases fstI_cases (fun j => (rAt q.2.2.1 j).1 == x) q.2.2.1.length with ⟨hv, -⟩ | ⟨i, hi, -, hv, -⟩
  · have hv : lnRow q.2.2.1 x = -1 := hv
    have hc : sFault q.2.1 q.2.2.1 1 x y z = 5 := by show fRem q.2.2.1 x = 5; rw [fRem, if_pos hv]
    rw [hv]
    repeat (first | (refine J_step rfl rfl ?_) | (refine J_getf rfl rfl rfl (by assumption) rfl ?_))
    refine J_if (y := 0) rfl (fun hq => absurd hq (show ¬ (0 : Int32) ≤ -1 by decide)) (fun _ => ?_)
    repeat (first | (refine J_step rfl rfl ?_) | (refine J_getf rfl rfl rfl (by assumption) rfl ?_))
    refine J_callV rfl rfl rfl rfl rfl (by assumption) rfl rfl rfl rfl (m_thrT (d := 0) H) (Nat.zero_le _) (Nat.zero_le _) (fun E h9 q => by cases q.1) (fun v9 h3 q => ?_)
    obtain ⟨q1, H3⟩ := q
    cases q1
    have e0 := H3.1.1
    have e1 := H3.1.2.1
    refine J_if (y := 0) rfl (fun _ => ?_) (fun hq => absurd (show ¬ (1 : Int32) = 0 by decide) hq)
    repeat (first | (refine J_step rfl rfl ?_) | (refine J_getf rfl rfl rfl (by assumption) rfl ?_))
    exact J_iret rfl rfl rfl rfl (DP_no S (by rw [hc]; decide) (by rw [hc]; rfl) H3)
  · have hv : lnRow q.2.2.1 x = nI i := hv
    have hn1 := nI_neg1 (i := i) (by omega)
    rw [hv]
    repeat (first | (refine J_step rfl rfl ?_) | (refine J_getf rfl rfl rfl (by assumption) rfl ?_))
    refine J_if (y := 0) rfl (fun _ => ?_) (fun hq => absurd (nI_pos' (by omega)) hq)
    repeat (first | (refine J_step rfl rfl ?_) | (refine J_getf rfl rfl rfl (by assumption) rfl ?_))
    refine J_callV rfl rfl rfl rfl rfl (by assumption) rfl rfl rfl rfl (m_thrF (d := 0) H) (Nat.zero_le _) (Nat.zero_le _) (fun E h9 q => by cases q.1) (fun v9 h3 q => ?_)
    obtain ⟨q1, H3⟩ := q
    cases q1
    have e0 := H3.1.1
    have e1 := H3.1.2.1
    refine J_if (y := 0) rfl (fun hq => absurd rfl hq) (fun _ => ?_)
    repeat (first | (refine J_step rfl rfl ?_) | (refine J_getf rfl rfl rfl (by assumption) rfl ?_))
    refine J_cV rfl rfl rfl rfl rfl (by assumption) rfl rfl rfl rfl rfl rfl (m_of (d := 0) (w := 4) H3.1 S hi (by decide)) ?_
    by_cases hw : (rAt q.2.2.1 i).2.2.2.2.2.1 = -1
    · have hc : sFault q.2.1 q.2.2.1 1 x y z = 0 := by show fRem q.2.2.1 x = 0; rw [fRem, if_neg (by rw [hv]; exact hn1), hv, nI_clamp (by omega), if_pos hw]
      refine J_if (y := 0) rfl (fun _ => ?_) (fun hq => absurd (show (rAt q.2.2.1 i).2.2.2.2.2.1 + 1 ≤ 0 by rw [hw]; decide) hq)
      repeat (first | (refine J_step rfl rfl ?_) | (refine J_getf rfl rfl rfl (by assumption) rfl ?_))
      refine J_callV rfl rfl rfl rfl rfl (by assumption) rfl rfl rfl rfl (m_thrF (d := 0) H3) (Nat.zero_le _) (Nat.zero_le _) (fun E h9 q => by cases q.1) (fun v9 h4 q => ?_)
      obtain ⟨q1, H4⟩ := q
      cases q1
      rw [fset2] at H4
      have e0 := H4.1.1
      have e1 := H4.1.2.1
      refine J_if (y := 0) rfl (fun _ => ?_) (fun hq => absurd rfl hq)
      repeat (first | (refine J_step rfl rfl ?_) | (refine J_getf rfl rfl rfl (by assumption) rfl ?_))
      refine J_callV rfl rfl rfl rfl rfl (by assumption) rfl rfl rfl rfl (m_goes H4 S.2.1 hi hl) (Nat.zero_le _) (Nat.zero_le _) (fun E h9 q => by cases q.1) (fun v9 h5 q => ?_)
      obtain ⟨q1, H5⟩ := q
      cases q1
      obtain ⟨sl, F, l, E, Jn⟩ := q
      have SG := SI_go S hi
      have f0 := H5.1.1
      have f1 := H5.1.2.1
      rw [aset_at] at f1
      clear e0 e1
      repeat (first | (refine J_step rfl rfl ?_) | (refine J_getf rfl rfl rfl (by assumption) rfl ?_))
      refine J_rs 8 rfl f1 rfl (by decide) (by decide) (SG.1 8 (by decide)) ?_
      repeat (first | (refine J_step rfl rfl ?_) | (refine J_getf rfl rfl rfl (by assumption) rfl ?_))
      refine J_ws 8 rfl f1 rfl (by decide) (by decide) ?_
      have K1 := H5.s (upd (goF (A 0) l.length i) 8 (F 8 + 1))
      rw [aset_aset] at K1
      refine J_heap (h2 := oj_up h5 122 (.inl (0, 160, .inl (upd (goF (A 0) l.length i) 8 (F 8 + 1))))) rfl ?_
      generalize oj_up h5 122 (.inl (0, 160, .inl (upd (goF (A 0) l.length i) 8 (F 8 + 1)))) = k1 at K1 ⊢
      clear f0 f1
      have f0 := K1.1.1
      have f1 := K1.1.2.1
      rw [aset_at] at f1
      repeat (first | (refine J_step rfl rfl ?_) | (refine J_getf rfl rfl rfl (by assumption) rfl ?_))
      refine J_rs 13 rfl f1 rfl (by decide) (by decide) ((upd_ne (by decide)).trans SG.2.1) ?_
      refine J_iret rfl rfl rfl rfl (DP_ok hc ?_ rfl K1 ?_)
      · show nI (l.eraseIdx i).length = nI (l.eraseIdx (lnRow l x).toNatClampNeg).length
        rw [hv, nI_clamp (by omega)]
      · show SI _ (sl, fset F 8 (F 8 + 1), l.eraseIdx (lnRow l x).toNatClampNeg, E, Jn)
        rw [hv, nI_clamp (by omega)]
        exact SI_fld SG (by decide)
    · have hc : sFault q.2.1 q.2.2.1 1 x y z = 3 := by show fRem q.2.2.1 x = 3; rw [fRem, if_neg (by rw [hv]; exact hn1), hv, nI_clamp (by omega), if_neg hw]
      refine J_if (y := 0) rfl (fun hq => absurd (show (rAt q.2.2.1 i).2.2.2.2.2.1 + 1 ≤ 0 from hq) (by rcases (hcab i hi).resolve_left hw with t | t <;> rw [t] <;> decide)) (fun _ => ?_)
      repeat (first | (refine J_step rfl rfl ?_) | (refine J_getf rfl rfl rfl (by assumption) rfl ?_))
      refine J_callV rfl rfl rfl rfl rfl (by assumption) rfl rfl rfl rfl (m_thrT (d := 0) H3) (Nat.zero_le _) (Nat.zero_le _) (fun E h9 q => by cases q.1) (fun v9 h4 q => ?_)
      obtain ⟨q1, H4⟩ := q
      cases q1
      rw [fset2] at H4
      have e0 := H4.1.1
      have e1 := H4.1.2.1
      refine J_if (y := 0) rfl (fun hq => absurd hq (show ¬ (1 : Int32) = 0 by decide)) (fun _ => ?_)
      repeat (first | (refine J_step rfl rfl ?_) | (refine J_getf rfl rfl rfl (by assumption) rfl ?_))
      exact J_iret rfl rfl rfl rfl (DP_no S (by rw [hc]; decide) (by rw [hc]; rfl) H4)
set_option maxRecDepth 100000 in
set_option maxHeartbeats 2000000 in
theorem m_slopes {h h1 : AHp} {v : Nat → Int32} {A : Nat → Nat → Int32} {q : LQ} {x y z : Int32} (H : MdP h v A h1) (S : SI (A 0) q) : JM mi_X6_slopes 1 0 0 [.ref 121, .int x, .int y] h1 (DP h v A q 2 x y z) := by
  have e0 := H.1.1
  have e1 := H.1.2.1
  refine JM_of gd_X6_slopes rfl (by decide +kernel) (Nat.le_of_ble_eq_true rfl) (oj_cats rfl) (by decide) ?_
  repeat (first | (refine J_step rfl rfl ?_) | (refine J_getf rfl rfl rfl (by assumption) rfl ?_))
  refine J_cS rfl rfl rfl rfl rfl rfl rfl rfl rfl rfl rfl (m_isIn (d := 0)) ?_
  by_cases hx : 0 ≤ x ∧ x ≤ 5
  · have hx6 := st6.mp hx
    rw [decide_eq_true hx]
    refine J_if (y := 0) rfl (fun _ => ?_) (fun hq => absurd (show ¬ bI true = 0 by decide) hq)
    repeat (first | (refine J_step rfl rfl ?_) | (refine J_getf rfl rfl rfl (by assumption) rfl ?_))
    refine J_callV rfl rfl rfl rfl rfl (by assumption) rfl rfl rfl rfl (m_thrF (d := 0) H) (Nat.zero_le _) (Nat.zero_le _) (fun E h9 q => by cases q.1) (fun v9 h3 q => ?_)
    obtain ⟨q1, H3⟩ := q
    cases q1
    have e0 := H3.1.1
    have e1 := H3.1.2.1
    refine J_if (y := 0) rfl (fun hq => absurd rfl hq) (fun _ => ?_)
    repeat (first | (refine J_step rfl rfl ?_) | (refine J_getf rfl rfl rfl (by assumption) rfl ?_))
    refine J_cS rfl rfl rfl rfl rfl rfl rfl rfl rfl rfl rfl (m_isIn (d := 0)) ?_
    by_cases hy : 0 ≤ y ∧ y ≤ 9
    · have hc : sFault q.2.1 q.2.2.1 2 x y z = 0 := by show fSlp x y = 0; rw [fSlp, if_neg (fun t => t hx6), if_neg (fun t => not_in.mpr t hy)]
      rw [decide_eq_true hy]
      refine J_if (y := 0) rfl (fun _ => ?_) (fun hq => absurd (show ¬ bI true = 0 by decide) hq)
      repeat (first | (refine J_step rfl rfl ?_) | (refine J_getf rfl rfl rfl (by assumption) rfl ?_))
      refine J_callV rfl rfl rfl rfl rfl (by assumption) rfl rfl rfl rfl (m_thrF (d := 0) H3) (Nat.zero_le _) (Nat.zero_le _) (fun E h9 q => by cases q.1) (fun v9 h4 q => ?_)
      obtain ⟨q1, H4⟩ := q
      cases q1
      rw [fset2] at H4
      have e0 := H4.1.1
      have e1 := H4.1.2.1
      refine J_if (y := 0) rfl (fun _ => ?_) (fun hq => absurd rfl hq)
      obtain ⟨sl, F, l, E, Jn⟩ := q
      have hk : x.toNatClampNeg < 6 := by
        have t1 := Int32.lt_iff_toInt_lt.mp hx6.2
        have t2 : x.toInt < 6 := by simpa using t1
        unfold Int32.toNatClampNeg
        omega
      have hix : 14 + x = nI (14 + x.toNatClampNeg) := by rw [← nI_add, i32_clamp hx.1]; rfl
      repeat (first | (refine J_step rfl rfl ?_) | (refine J_getf rfl rfl rfl (by assumption) rfl ?_))
      refine J_rs (14 + x.toNatClampNeg) rfl e1 hix (by omega) (by decide) (S.2.2.1 _ hk) ?_
      repeat (first | (refine J_step rfl rfl ?_) | (refine J_getf rfl rfl rfl (by assumption) rfl ?_))
      refine J_ws (14 + x.toNatClampNeg) rfl e1 hix (by omega) (by decide) ?_
      have K1 := H4.s (upd (A 0) (14 + x.toNatClampNeg) y)
      repeat (first | (refine J_step rfl rfl ?_) | (refine J_getf rfl rfl rfl (by assumption) rfl ?_))
      refine J_iret rfl rfl rfl rfl (DP_ok hc ?_ rfl K1 ?_)
      · show sl x.toNatClampNeg = sSl sl x
        rw [sSl, if_pos hx6]
      · show SI _ (upd sl x.toNatClampNeg y, F, l, E, Jn)
        exact SI_slp S hk
    · have hc : sFault q.2.1 q.2.2.1 2 x y z = 2 := by show fSlp x y = 2; rw [fSlp, if_neg (fun t => t hx6), if_pos (not_in.mp hy)]
      rw [decide_eq_false hy]
      refine J_if (y := 0) rfl (fun hq => absurd rfl hq) (fun _ => ?_)
      repeat (first | (refine J_step rfl rfl ?_) | (refine J_getf rfl rfl rfl (by assumption) rfl ?_))
      refine J_callV rfl rfl rfl rfl rfl (by assumption) rfl rfl rfl rfl (m_thrT (d := 0) H3) (Nat.zero_le _) (Nat.zero_le _) (fun E h9 q => by cases q.1) (fun v9 h4 q => ?_)
      obtain ⟨q1, H4⟩ := q
      cases q1
      rw [fset2] at H4
      have e0 := H4.1.1
      have e1 := H4.1.2.1
      refine J_if (y := 0) rfl (fun hq => absurd hq (show ¬ (1 : Int32) = 0 by decide)) (fun _ => ?_)
      repeat (first | (refine J_step rfl rfl ?_) | (refine J_getf rfl rfl rfl (by assumption) rfl ?_))
      exact J_iret rfl rfl rfl rfl (DP_no S (by rw [hc]; decide) (by rw [hc]; rfl) H4)
  · have hc : sFault q.2.1 q.2.2.1 2 x y z = 1 := by show fSlp x y = 1; rw [fSlp, if_pos (fun t => hx (st6.mpr t))]
    rw [decide_eq_false hx]
    refine J_if (y := 0) rfl (fun hq => absurd rfl hq) (fun _ => ?_)
    repeat (first | (refine J_step rfl rfl ?_) | (refine J_getf rfl rfl rfl (by assumption) rfl ?_))
    refine J_callV rfl rfl rfl rfl rfl (by assumption) rfl rfl rfl rfl (m_thrT (d := 0) H) (Nat.zero_le _) (Nat.zero_le _) (fun E h9 q => by cases q.1) (fun v9 h3 q => ?_)
    obtain ⟨q1, H3⟩ := q
    cases q1
    have e0 := H3.1.1
    have e1 := H3.1.2.1
    refine J_if (y := 0) rfl (fun _ => ?_) (fun hq => absurd (show ¬ (1 : Int32) = 0 by decide) hq)
    repeat (first | (refine J_step rfl rfl ?_) | (refine J_getf rfl rfl rfl (by assumption) rfl ?_))
    exact J_iret rfl rfl rfl rfl (DP_no S (by rw [hc]; decide) (by rw [hc]; rfl) H3)
set_option maxRecDepth 100000 in
set_option maxHeartbeats 2000000 in
theorem m_turns {h h1 : AHp} {v : Nat → Int32} {A : Nat → Nat → Int32} {q : LQ} {x y z : Int32} (H : MdP h v A h1) (S : SI (A 0) q) (hu : gU q.2.1) : JM mi_X6_turns 1 0 0 [.ref 121] h1 (DP h v A q 3 x y z) := by
  have e0 := H.1.1
  have e1 := H.1.2.1
  refine JM_of gd_X6_turns rfl (by decide +kernel) (Nat.le_of_ble_eq_true rfl) (oj_cats rfl) (by decide) ?_
  repeat (first | (refine J_step rfl rfl ?_) | (refine J_getf rfl rfl rfl (by assumption) rfl ?_))
  refine J_cV rfl rfl rfl rfl rfl (by assumption) rfl rfl rfl rfl rfl rfl (m_isAtStations (d := 0) H.1 S) ?_
  by_cases hx : sAtS q.2.1 = true
  · rw [hx]
    refine J_if (y := 0) rfl (fun _ => ?_) (fun hq => absurd (show ¬ bI true = 0 by decide) hq)
    repeat (first | (refine J_step rfl rfl ?_) | (refine J_getf rfl rfl rfl (by assumption) rfl ?_))
    refine J_callV rfl rfl rfl rfl rfl (by assumption) rfl rfl rfl rfl (m_thrF (d := 0) H) (Nat.zero_le _) (Nat.zero_le _) (fun E h9 q => by cases q.1) (fun v9 h3 q => ?_)
    obtain ⟨q1, H3⟩ := q
    cases q1
    have e0 := H3.1.1
    have e1 := H3.1.2.1
    refine J_if (y := 0) rfl (fun hq => absurd rfl hq) (fun _ => ?_)
    repeat (first | (refine J_step rfl rfl ?_) | (refine J_getf rfl rfl rfl (by assumption) rfl ?_))
    refine J_cV rfl rfl rfl rfl rfl (by assumption) rfl rfl rfl rfl rfl rfl (m_isAtEnds (d := 0) H3.1 S) ?_
    by_cases hy : sAtE q.2.1 = true
    · have hc : sFault q.2.1 q.2.2.1 3 x y z = 4 := by show fTrn q.2.1 = 4; rw [fTrn, if_neg (by rw [hx]; decide), if_pos hy]
      rw [hy]
      repeat (first | (refine J_step rfl rfl ?_) | (refine J_getf rfl rfl rfl (by assumption) rfl ?_))
      refine J_callV rfl rfl rfl rfl rfl (by assumption) rfl rfl rfl rfl (m_isThrown (d := 0) (b := true) H3) (Nat.zero_le _) (Nat.zero_le _) (fun E h9 q => by cases q.1) (fun v9 h4 q => ?_)
      obtain ⟨q1, H4⟩ := q
      cases q1
      rw [fset2] at H4
      refine J_if (y := 0) rfl (fun hq => absurd hq (show ¬ bI true = 0 by decide)) (fun _ => ?_)
      repeat (first | (refine J_step rfl rfl ?_) | (refine J_getf rfl rfl rfl (by assumption) rfl ?_))
      exact J_iret rfl rfl rfl rfl (DP_no S (by rw [hc]; decide) (by rw [hc]; rfl) H4)
    · have hc : sFault q.2.1 q.2.2.1 3 x y z = 0 := by show fTrn q.2.1 = 0; rw [fTrn, if_neg (by rw [hx]; decide), if_neg hy]
      have hy : sAtE q.2.1 = false := by simpa using hy
      rw [hy]
      repeat (first | (refine J_step rfl rfl ?_) | (refine J_getf rfl rfl rfl (by assumption) rfl ?_))
      refine J_callV rfl rfl rfl rfl rfl (by assumption) rfl rfl rfl rfl (m_isThrown (d := 0) (b := false) H3) (Nat.zero_le _) (Nat.zero_le _) (fun E h9 q => by cases q.1) (fun v9 h4 q => ?_)
      obtain ⟨q1, H4⟩ := q
      cases q1
      rw [fset2] at H4
      refine J_if (y := 0) rfl (fun _ => ?_) (fun hq => absurd rfl hq)
      obtain ⟨sl, F, l, E, Jn⟩ := q
      have g0 := H4.1.1
      have g1 := H4.1.2.1
      have hF5 : A 0 5 = bI (uB F) := (S.1 5 (by decide)).trans hu
      have hnot : 1 - bI (uB F) = bI (!uB F) := by cases uB F <;> rfl
      clear e0 e1
      repeat (first | (refine J_step rfl rfl ?_) | (refine J_getf rfl rfl rfl (by assumption) rfl ?_))
      refine J_rs 5 rfl g1 rfl (by decide) (by decide) hF5 ?_
      repeat (first | (refine J_step rfl rfl ?_) | (refine J_getf rfl rfl rfl (by assumption) rfl ?_))
      rw [hnot]
      refine J_ws 5 rfl g1 rfl (by decide) (by decide) ?_
      have K1 := H4.s (upd (A 0) 5 (bI (!uB F)))
      refine J_heap (h2 := oj_up h4 122 (.inl (0, 160, .inl (upd (A 0) 5 (bI (!uB F)))))) rfl ?_
      generalize oj_up h4 122 (.inl (0, 160, .inl (upd (A 0) 5 (bI (!uB F))))) = k1 at K1 ⊢
      clear g0 g1
      have g0 := K1.1.1
      have g1 := K1.1.2.1
      rw [aset_at] at g1
      repeat (first | (refine J_step rfl rfl ?_) | (refine J_getf rfl rfl rfl (by assumption) rfl ?_))
      refine J_rs 5 rfl g1 rfl (by decide) (by decide) upd_at ?_
      exact J_iret rfl rfl rfl rfl (DP_ok hc rfl rfl K1 (SI_fld S (by decide)))
  · have hc : sFault q.2.1 q.2.2.1 3 x y z = 3 := by show fTrn q.2.1 = 3; rw [fTrn, if_pos (by simpa using hx)]
    have hx : sAtS q.2.1 = false := by simpa using hx
    rw [hx]
    refine J_if (y := 0) rfl (fun hq => absurd rfl hq) (fun _ => ?_)
    repeat (first | (refine J_step rfl rfl ?_) | (refine J_getf rfl rfl rfl (by assumption) rfl ?_))
    refine J_callV rfl rfl rfl rfl rfl (by assumption) rfl rfl rfl rfl (m_thrT (d := 0) H) (Nat.zero_le _) (Nat.zero_le _) (fun E h9 q => by cases q.1) (fun v9 h3 q => ?_)
    obtain ⟨q1, H3⟩ := q
    cases q1
    have e0 := H3.1.1
    have e1 := H3.1.2.1
    refine J_if (y := 0) rfl (fun _ => ?_) (fun hq => absurd (show ¬ (1 : Int32) = 0 by decide) hq)
    repeat (first | (refine J_step rfl rfl ?_) | (refine J_getf rfl rfl rfl (by assumption) rfl ?_))
    exact J_iret rfl rfl rfl rfl (DP_no S (by rw [hc]; decide) (by rw [hc]; rfl) H3)
set_option maxRecDepth 100000 in
set_option maxHeartbeats 2000000 in
theorem m_holds {h h1 : AHp} {v : Nat → Int32} {A : Nat → Nat → Int32} {q : LQ} {x y z : Int32} (H : MdP h v A h1) (S : SI (A 0) q) : JM mi_X6_holds 2 0 0 [.ref 121, .int x] h1 (DP h v A q 4 x y z) := by
  have e0 := H.1.1
  have e1 := H.1.2.1
  refine JM_of gd_X6_holds rfl (by decide +kernel) (Nat.le_of_ble_eq_true rfl) (oj_cats rfl) (by decide) ?_
  repeat (first | (refine J_step rfl rfl ?_) | (refine J_getf rfl rfl rfl (by assumption) rfl ?_))
  refine J_cS rfl rfl rfl rfl rfl rfl rfl rfl rfl rfl rfl (m_isIn (d := 0)) ?_
  by_cases hx : 1 ≤ x ∧ x ≤ 6
  · rw [decide_eq_true hx]
    refine J_if (y := 0) rfl (fun _ => ?_) (fun hq => absurd (show ¬ bI true = 0 by decide) hq)
    repeat (first | (refine J_step rfl rfl ?_) | (refine J_getf rfl rfl rfl (by assumption) rfl ?_))
    refine J_callV rfl rfl rfl rfl rfl (by assumption) rfl rfl rfl rfl (m_thrF (d := 0) H) (Nat.zero_le _) (Nat.zero_le _) (fun E h9 q => by cases q.1) (fun v9 h3 q => ?_)
    obtain ⟨q1, H3⟩ := q
    cases q1
    have e0 := H3.1.1
    have e1 := H3.1.2.1
    refine J_if (y := 0) rfl (fun hq => absurd rfl hq) (fun _ => ?_)
    have bad : (x < nI (crRid q.2.2.1 0) ∨ x < nI (crRid q.2.2.1 1)) → J mi_X6_holds 2 0 0 (DP h v A q 4 x y z) 0 0 42 [some (.ref 121), some (.int x), none] [.ref 121] h3 := by
      intro hb
      have hc : sFault q.2.1 q.2.2.1 4 x y z = 3 := by show fCap q.2.2.1 x = 3; rw [fCap, if_neg (fun t => not_in.mpr t hx), if_pos hb]
      repeat (first | (refine J_step rfl rfl ?_) | (refine J_getf rfl rfl rfl (by assumption) rfl ?_))
      refine J_callV rfl rfl rfl rfl rfl (by assumption) rfl rfl rfl rfl (m_thrT (d := 0) H3) (Nat.zero_le _) (Nat.zero_le _) (fun E h9 q => by cases q.1) (fun v9 h4 q => ?_)
      obtain ⟨q1, H4⟩ := q
      cases q1
      rw [fset2] at H4
      have e0 := H4.1.1
      have e1 := H4.1.2.1
      refine J_if (y := 0) rfl (fun hq => absurd hq (show ¬ (1 : Int32) = 0 by decide)) (fun _ => ?_)
      repeat (first | (refine J_step rfl rfl ?_) | (refine J_getf rfl rfl rfl (by assumption) rfl ?_))
      exact J_iret rfl rfl rfl rfl (DP_no S (by rw [hc]; decide) (by rw [hc]; rfl) H4)
    repeat (first | (refine J_step rfl rfl ?_) | (refine J_getf rfl rfl rfl (by assumption) rfl ?_))
    refine J_cV rfl rfl rfl rfl rfl (by assumption) rfl rfl rfl rfl rfl rfl (m_inCabin H3.1 S) ?_
    repeat (first | (refine J_step rfl rfl ?_) | (refine J_getf rfl rfl rfl (by assumption) rfl ?_))
    refine J_ic rfl (fun hq => bad (Or.inl hq)) (fun hq0 => ?_)
    repeat (first | (refine J_step rfl rfl ?_) | (refine J_getf rfl rfl rfl (by assumption) rfl ?_))
    refine J_cV rfl rfl rfl rfl rfl (by assumption) rfl rfl rfl rfl rfl rfl (m_inCabin H3.1 S) ?_
    repeat (first | (refine J_step rfl rfl ?_) | (refine J_getf rfl rfl rfl (by assumption) rfl ?_))
    refine J_ic rfl (fun hq => ?_) (fun hq => bad (Or.inr (Int32.not_le.mp hq)))
    have hc : sFault q.2.1 q.2.2.1 4 x y z = 0 := by show fCap q.2.2.1 x = 0; rw [fCap, if_neg (fun t => not_in.mpr t hx), if_neg (fun t => t.elim hq0 (Int32.not_lt.mpr hq))]
    repeat (first | (refine J_step rfl rfl ?_) | (refine J_getf rfl rfl rfl (by assumption) rfl ?_))
    refine J_callV rfl rfl rfl rfl rfl (by assumption) rfl rfl rfl rfl (m_thrF (d := 0) H3) (Nat.zero_le _) (Nat.zero_le _) (fun E h9 q => by cases q.1) (fun v9 h4 q => ?_)
    obtain ⟨q1, H4⟩ := q
    cases q1
    rw [fset2] at H4
    have e0 := H4.1.1
    have e1 := H4.1.2.1
    refine J_if (y := 0) rfl (fun _ => ?_) (fun hq => absurd rfl hq)
    obtain ⟨sl, F, l, E, Jn⟩ := q
    repeat (first | (refine J_step rfl rfl ?_) | (refine J_getf rfl rfl rfl (by assumption) rfl ?_))
    refine J_rs 1 rfl e1 rfl (by decide) (by decide) (S.1 1 (by decide)) ?_
    repeat (first | (refine J_step rfl rfl ?_) | (refine J_getf rfl rfl rfl (by assumption) rfl ?_))
    refine J_ws 1 rfl e1 rfl (by decide) (by decide) ?_
    have K1 := H4.s (upd (A 0) 1 x)
    repeat (first | (refine J_step rfl rfl ?_) | (refine J_getf rfl rfl rfl (by assumption) rfl ?_))
    exact J_iret rfl rfl rfl rfl (DP_ok hc rfl rfl K1 (SI_fld S (by decide)))
  · have hc : sFault q.2.1 q.2.2.1 4 x y z = 2 := by show fCap q.2.2.1 x = 2; rw [fCap, if_pos (not_in.mp hx)]
    rw [decide_eq_false hx]
    refine J_if (y := 0) rfl (fun hq => absurd rfl hq) (fun _ => ?_)
    repeat (first | (refine J_step rfl rfl ?_) | (refine J_getf rfl rfl rfl (by assumption) rfl ?_))
    refine J_callV rfl rfl rfl rfl rfl (by assumption) rfl rfl rfl rfl (m_thrT (d := 0) H) (Nat.zero_le _) (Nat.zero_le _) (fun E h9 q => by cases q.1) (fun v9 h3 q => ?_)
    obtain ⟨q1, H3⟩ := q
    cases q1
    have e0 := H3.1.1
    have e1 := H3.1.2.1
    refine J_if (y := 0) rfl (fun _ => ?_) (fun hq => absurd (show ¬ (1 : Int32) = 0 by decide) hq)
    repeat (first | (refine J_step rfl rfl ?_) | (refine J_getf rfl rfl rfl (by assumption) rfl ?_))
    exact J_iret rfl rfl rfl rfl (DP_no S (by rw [hc]; decide) (by rw [hc]; rfl) H3)
