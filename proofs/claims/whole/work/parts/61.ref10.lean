theorem LI_ah {q : LQ} {T κ : Nat} (H : LI q T κ) : ∀ x, x = 0 ∨ x = 1 → ∃ g, g < 6 ∧ sAhead q.2.1 (uB q.2.1) x = nI g := by
  obtain ⟨t, c, ht, p, cm, ar, gn, mt, nb, en, jo, b, u, ⟨⟨v0, v1, v2, v3, v4, v5⟩, -⟩, ⟨-, -, -, ⟨hp, hp0, hp24⟩, -⟩, -⟩ := H
  intro x hx
  rw [uB_of v5]
  exact ah_nI v4 hp hp0 hp24 hx
set_option maxRecDepth 100000 in
set_option maxHeartbeats 2000000 in
theorem m_minute {h h1 : AHp} {v : Nat → Int32} {A : Nat → Nat → Int32} {sl : Nat → Int32} {s : MS} {T κ : Nat} (H : MdP h v A h1) (S : SI (A 0) (sl, s)) (hI : LI (sl, s) T κ) : JM mi_X6_minutePasses 4 0 0 [.ref 121] h1 (fun r h' => r = .inl none ∧ ∃ f' : Nat → Int32, MdP h v (aset A 0 f') h' ∧ SI f' (sl, sp_min sl s)) := by
  have hah := LI_ah hI
  have hgu := LI.gU hI
  obtain ⟨t, c, ht, p, cm, ar, gn, mt, nb, en, jo, b, u, ⟨⟨v0, v1, v2, v3, v4, v5⟩, -⟩, ⟨-, -, ⟨hb1, hb2⟩, ⟨hp, -, -⟩, -⟩, -⟩ := hI
  obtain ⟨F, l, E, Jn⟩ := s
  have hh : ht ≤ 150 := by
    cases b with
    | true => exact (hb1 rfl).2
    | false => exact Nat.le_of_lt (Nat.lt_of_lt_of_le (hb2 rfl) (by decide))
  have e0 := H.1.1
  have e1 := H.1.2.1
  refine JM_of gd_X6_minutePasses rfl (by decide +kernel) (Nat.le_of_ble_eq_true rfl) (oj_cats rfl) (by decide) ?_
  repeat (first | (refine J_step rfl rfl ?_) | (refine J_getf rfl rfl rfl (by assumption) rfl ?_))
  refine J_rs 0 rfl e1 rfl (by decide) (by decide) (S.1 0 (by decide)) ?_
  repeat (first | (refine J_step rfl rfl ?_) | (refine J_getf rfl rfl rfl (by assumption) rfl ?_))
  refine J_ws 0 rfl e1 rfl (by decide) (by decide) ?_
  have K1 := H.s (upd (A 0) 0 (F 0 + 1))
  have S1 := SI_fld (k := 0) (x := F 0 + 1) S (by decide)
  refine J_heap (h2 := oj_up h1 122 (.inl (0, 160, .inl (upd (A 0) 0 (F 0 + 1))))) rfl ?_
  generalize oj_up h1 122 (.inl (0, 160, .inl (upd (A 0) 0 (F 0 + 1)))) = k1 at K1 ⊢
  generalize upd (A 0) 0 (F 0 + 1) = f1 at K1 S1
  clear e0 e1
  have e0 := K1.1.1
  have e1 := K1.1.2.1
  rw [aset_at] at e1
  have g2 : fset F 0 (F 0 + 1) 2 = nI ht := v2
  have g3 : fset F 0 (F 0 + 1) 3 = bI b := v3
  have hgu1 : gU (fset F 0 (F 0 + 1)) := hgu
  have hah1 : ∀ x, x = 0 ∨ x = 1 → ∃ g, g < 6 ∧ sAhead (fset F 0 (F 0 + 1)) (uB (fset F 0 (F 0 + 1))) x = nI g := hah
  have hspec : sp_min sl (F, l, E, Jn) = if bI b = 0 then (if sAtS (sp_mv sl (fset F 0 (F 0 + 1)) l) then sp_stop (sp_mv sl (fset F 0 (F 0 + 1)) l, l, mvE E (sp_x sl (fset F 0 (F 0 + 1)) l), Jn) else (sp_mv sl (fset F 0 (F 0 + 1)) l, l, mvE E (sp_x sl (fset F 0 (F 0 + 1)) l), Jn)) else (coolF (fset F 0 (F 0 + 1)), l, E, Jn) := by
    unfold sp_min
    rw [show (F, l, E, Jn).1 3 = bI b from v3]
  rw [hspec]
  clear hspec hah hgu v0 v1 v2 v3 v4 v5
  have g4 : fset F 0 (F 0 + 1) 4 = F 4 := rfl
  generalize fset F 0 (F 0 + 1) = G at *
  repeat (first | (refine J_step rfl rfl ?_) | (refine J_getf rfl rfl rfl (by assumption) rfl ?_))
  refine J_rs (w := bI b) 3 rfl e1 rfl (by decide) (by decide) ((S1.1 3 (by decide)).trans g3) ?_
  repeat (first | (refine J_step rfl rfl ?_) | (refine J_getf rfl rfl rfl (by assumption) rfl ?_))
  refine J_ic rfl (fun hq => ?_) (fun hq => ?_)
  · have hb : b = false := by
      cases b with
      | false => rfl
      | true => exact absurd rfl hq
    subst hb
    rw [if_pos (show bI false = 0 from rfl)]
    repeat (first | (refine J_step rfl rfl ?_) | (refine J_getf rfl rfl rfl (by assumption) rfl ?_))
    refine J_cV rfl rfl rfl rfl rfl (by assumption) rfl rfl rfl rfl rfl rfl (m_pull K1.1 (by rw [aset_at]; exact S1) hgu1 hah1) ?_
    rw [show sImb G (uB G) sl l = sp_x sl G l from rfl]
    have hmv : sp_mv sl G l = mvB (mvM (mvP G (uB G))) (sp_x sl G l) := rfl
    generalize sp_x sl G l = x at hmv ⊢
    -- the step
    have stp : ∀ y, y = (if uB G then 1 else -1 : Int32) → J mi_X6_minutePasses 4 0 0 (fun r h' => r = .inl none ∧ ∃ f' : Nat → Int32, MdP h v (aset A 0 f') h' ∧ SI f' (sl, if sAtS (sp_mv sl G l) then sp_stop (sp_mv sl G l, l, mvE E x, Jn) else (sp_mv sl G l, l, mvE E x, Jn))) 0 0 52 [some (.ref 121), some (.int x)] [.int y, .int (G 4), .int 4, .ref 122] k1 := by
      intro y hy
      repeat (first | (refine J_step rfl rfl ?_) | (refine J_getf rfl rfl rfl (by assumption) rfl ?_))
      refine J_ws 4 rfl e1 rfl (by decide) (by decide) ?_
      have K2 := K1.s (upd f1 4 (G 4 + y))
      rw [aset_aset] at K2
      have S2 : SI (upd f1 4 (G 4 + y)) (sl, mvP G (uB G), l, E, Jn) := by rw [hy]; exact SI_fld S1 (by decide)
      refine J_heap (h2 := oj_up k1 122 (.inl (0, 160, .inl (upd f1 4 (G 4 + y))))) rfl ?_
      generalize oj_up k1 122 (.inl (0, 160, .inl (upd f1 4 (G 4 + y)))) = k2 at K2 ⊢
      generalize upd f1 4 (G 4 + y) = f2 at K2 S2
      clear e0 e1
      have e0 := K2.1.1
      have e1 := K2.1.2.1
      rw [aset_at] at e1
      have p2 : mvP G (uB G) 2 = nI ht := g2
      have p3 : mvP G (uB G) 3 = bI false := g3
      have pu : gU (mvP G (uB G)) := hgu1
      generalize mvP G (uB G) = P at *
      have tail : ∀ (f3 : Nat → Int32) k3, MdP h v (aset A 0 f3) k3 → SI f3 (sl, mvM P, l, E, Jn) → J mi_X6_minutePasses 4 0 0 (fun r h' => r = .inl none ∧ ∃ f' : Nat → Int32, MdP h v (aset A 0 f') h' ∧ SI f' (sl, if sAtS (sp_mv sl G l) then sp_stop (sp_mv sl G l, l, mvE E x, Jn) else (sp_mv sl G l, l, mvE E x, Jn))) 0 0 80 [some (.ref 121), some (.int x)] [] k3 := by
        intro f3 k3 K3 S3
        have q2 : mvM P 2 = nI ht := by rw [mvM_ne (by decide)]; exact p2
        have q3 : mvM P 3 = 0 := by rw [mvM_ne (by decide)]; exact p3
        have qu : gU (mvM P) := by rw [gU_iff] at pu ⊢; obtain ⟨z, hz⟩ := pu; exact ⟨z, by rw [mvM_ne (by decide)]; exact hz⟩
        have e0 := K3.1.1
        rw [hmv]
        generalize mvM P = M at *
        repeat (first | (refine J_step rfl rfl ?_) | (refine J_getf rfl rfl rfl (by assumption) rfl ?_))
        refine J_callV rfl rfl rfl rfl rfl e0 rfl rfl rfl rfl (m_spends (d := 0) (x := x) K3 (by rw [aset_at]; exact S3) q2 hh q3) (Nat.zero_le _) (Nat.zero_le _) (fun E h9 q => by cases q.1) (fun v9 k4 q => ?_)
        obtain ⟨q1, f4, K4, S4⟩ := q
        cases q1
        rw [aset_aset] at K4
        have ru : gU (mvB M x) := by rw [gU_iff] at qu ⊢; obtain ⟨z, hz⟩ := qu; exact ⟨z, by rw [mvB_ne (by decide) (by decide) (by decide)]; exact hz⟩
        generalize mvB M x = N at *
        clear e0
        have e0 := K4.1.1
        repeat (first | (refine J_step rfl rfl ?_) | (refine J_getf rfl rfl rfl (by assumption) rfl ?_))
        refine J_cV rfl rfl rfl rfl rfl (by assumption) rfl rfl rfl rfl rfl rfl (m_isAtStations (d := 0) K4.1 (by rw [aset_at]; exact S4)) ?_
        show J mi_X6_minutePasses 4 0 0 _ 0 0 89 _ [.int (bI (sAtS N))] k4
        refine J_if (y := 0) rfl (fun hq => ?_) (fun hq => ?_)
        · have hs : sAtS N = false := bI_f hq
          rw [hs]
          exact J_vret rfl rfl rfl rfl ⟨rfl, f4, K4, S4⟩
        · have hs : sAtS N = true := bI_t hq
          rw [hs]
          repeat (first | (refine J_step rfl rfl ?_) | (refine J_getf rfl rfl rfl (by assumption) rfl ?_))
          refine J_callV rfl rfl rfl rfl rfl e0 rfl rfl rfl rfl (m_stops (F := N) (E := mvE E x) (Jn := Jn) K4 (by rw [aset_at]; exact S4) ru) (Nat.zero_le _) (Nat.zero_le _) (fun E h9 q => by cases q.1) (fun v9 k5 q => ?_)
          obtain ⟨q1, f5, K5, S5⟩ := q
          cases q1
          rw [aset_aset] at K5
          exact J_vret rfl rfl rfl rfl ⟨rfl, f5, K5, S5⟩
      repeat (first | (refine J_step rfl rfl ?_) | (refine J_getf rfl rfl rfl (by assumption) rfl ?_))
      refine J_rs 9 rfl e1 rfl (by decide) (by decide) (S2.1 9 (by decide)) ?_
      repeat (first | (refine J_step rfl rfl ?_) | (refine J_getf rfl rfl rfl (by assumption) rfl ?_))
      refine J_rs 4 rfl e1 rfl (by decide) (by decide) (S2.1 4 (by decide)) ?_
      repeat (first | (refine J_step rfl rfl ?_) | (refine J_getf rfl rfl rfl (by assumption) rfl ?_))
      have wr : ∀ y, (y = 1 ∧ P 4 = 12 ∨ y = 0 ∧ ¬ P 4 = 12) → J mi_X6_minutePasses 4 0 0 (fun r h' => r = .inl none ∧ ∃ f' : Nat → Int32, MdP h v (aset A 0 f') h' ∧ SI f' (sl, if sAtS (sp_mv sl G l) then sp_stop (sp_mv sl G l, l, mvE E x, Jn) else (sp_mv sl G l, l, mvE E x, Jn))) 0 0 78 [some (.ref 121), some (.int x)] [.int y, .int (P 9), .int 9, .ref 122] k2 := by
        intro y hy
        repeat (first | (refine J_step rfl rfl ?_) | (refine J_getf rfl rfl rfl (by assumption) rfl ?_))
        refine J_ws 9 rfl e1 rfl (by decide) (by decide) ?_
        have K3 := K2.s (upd f2 9 (P 9 + y))
        rw [aset_aset] at K3
        refine tail _ _ K3 (SI_F (SI_fld (k := 9) (x := P 9 + y) S2 (by decide)) (fun i hi => ?_))
        unfold mvM
        rcases hy with ⟨y1, z⟩ | ⟨y0, z⟩
        · rw [if_pos z, y1]
        · rw [if_neg z, y0, Int32.add_zero, fset_self]
      refine J_ic rfl (fun hq => ?_) (fun hq => ?_)
      · iterate 1 (first | (refine J_step rfl rfl ?_) | (refine J_getf rfl rfl rfl (by assumption) rfl ?_))
        exact wr 0 (Or.inr ⟨rfl, hq⟩)
      · iterate 2 (first | (refine J_step rfl rfl ?_) | (refine J_getf rfl rfl rfl (by assumption) rfl ?_))
        exact wr 1 (Or.inl ⟨rfl, Classical.not_not.mp hq⟩)
    repeat (first | (refine J_step rfl rfl ?_) | (refine J_getf rfl rfl rfl (by assumption) rfl ?_))
    refine J_rs 4 rfl e1 rfl (by decide) (by decide) (S1.1 4 (by decide)) ?_
    repeat (first | (refine J_step rfl rfl ?_) | (refine J_getf rfl rfl rfl (by assumption) rfl ?_))
    refine J_rs (w := bI (uB G)) 5 rfl e1 rfl (by decide) (by decide) ((S1.1 5 (by decide)).trans hgu1) ?_
    repeat (first | (refine J_step rfl rfl ?_) | (refine J_getf rfl rfl rfl (by assumption) rfl ?_))
    refine J_ic rfl (fun hq => ?_) (fun hq => ?_)
    · have hz : uB G = false := by
        cases hz : uB G with
        | false => rfl
        | true => rw [hz] at hq; exact absurd rfl hq
      iterate 1 (first | (refine J_step rfl rfl ?_) | (refine J_getf rfl rfl rfl (by assumption) rfl ?_))
      exact stp (-1) (by rw [hz]; rfl)
    · have hz : uB G = true := by
        cases hz : uB G with
        | true => rfl
        | false => rw [hz] at hq; exact absurd (show ¬ bI false = 1 by decide) hq
      iterate 2 (first | (refine J_step rfl rfl ?_) | (refine J_getf rfl rfl rfl (by assumption) rfl ?_))
      exact stp 1 (by rw [hz]; rfl)
  · have hb : b = true := by
      cases b with
      | true => rfl
      | false => exact absurd (show ¬ bI false = 1 by decide) hq
    subst hb
    rw [if_neg (show ¬ bI true = 0 by decide)]
    repeat (first | (refine J_step rfl rfl ?_) | (refine J_getf rfl rfl rfl (by assumption) rfl ?_))
    refine J_callV rfl rfl rfl rfl rfl e0 rfl rfl rfl rfl (m_cools (d := 0) K1 (by rw [aset_at]; exact S1) g2 hh g3) (Nat.zero_le _) (Nat.zero_le _) (fun E h9 q => by cases q.1) (fun v9 k2 q => ?_)
    obtain ⟨q1, f2, K2, S2⟩ := q
    cases q1
    rw [aset_aset] at K2
    exact J_vret rfl rfl rfl rfl ⟨rfl, f2, K2, S2⟩
