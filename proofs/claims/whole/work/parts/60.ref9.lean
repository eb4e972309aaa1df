theorem fset_i {F G : Nat → Int32} {k i : Nat} {x y : Int32} (h : i ≠ k → F i = G i) (hx : x = y) : fset F k x i = fset G k y i := by
  unfold fset
  by_cases z : i = k
  · rw [if_pos z, if_pos z, hx]
  · rw [if_neg z, if_neg z]
    exact h z
theorem spF_uB {F : Nat → Int32} (hu : gU F) : uB (spF F (uB F)) = spU F (uB F) ∧ gU (spF F (uB F)) := by
  refine ⟨?_, spF_gU hu⟩
  unfold spF spU
  split
  · exact uB_of (u := !uB F) rfl
  · rfl
set_option maxRecDepth 100000 in
set_option maxHeartbeats 2000000 in
theorem m_stops {h h1 : AHp} {v : Nat → Int32} {A : Nat → Nat → Int32} {sl F : Nat → Int32} {l : List Row} {E Jn : Int64} (H : MdP h v A h1) (S : SI (A 0) (sl, F, l, E, Jn)) (hu : gU F) : JM mi_X6_stops 3 0 0 [.ref 121] h1 (fun r h' => r = .inl none ∧ ∃ f' : Nat → Int32, MdP h v (aset A 0 f') h' ∧ SI f' (sl, sp_stop (F, l, E, Jn))) := by
  have e0 := H.1.1
  have e1 := H.1.2.1
  obtain ⟨hub, hgu⟩ := spF_uB hu
  have part2 : ∀ (f : Nat → Int32) h2, SI f (sl, spF F (uB F), l, E, Jn) → MdP h v (aset A 0 f) h2 → J mi_X6_stops 3 0 0 (fun r h' => r = .inl none ∧ ∃ f' : Nat → Int32, MdP h v (aset A 0 f') h' ∧ SI f' (sl, sp_stop (F, l, E, Jn))) 0 0 21 [some (.ref 121)] [] h2 := by
    intro f h2 S H
    unfold sp_stop
    show J mi_X6_stops 3 0 0 (fun r h' => r = .inl none ∧ ∃ f' : Nat → Int32, MdP h v (aset A 0 f') h' ∧ SI f' (sl, fset (fset (spA (spF F (uB F)) l) 11 (F 11 + sp_j (spF F (uB F)) l)) 12 (sp_p1 (spF F (uB F)) (spU F (uB F)) l (F 12)).2, (sp_p1 (spF F (uB F)) (spU F (uB F)) l (F 12)).1, E, spJ (spF F (uB F)) l Jn)) 0 0 21 [some (.ref 121)] [] h2
    have h11 : F 11 = spF F (uB F) 11 := by unfold spF; split <;> rfl
    have h12 : F 12 = spF F (uB F) 12 := by unfold spF; split <;> rfl
    rw [← hub, h11, h12]
    generalize spF F (uB F) = G at S hgu
    clear hub h11 h12
    have e0 := H.1.1
    repeat (first | (refine J_step rfl rfl ?_) | (refine J_getf rfl rfl rfl (by assumption) rfl ?_))
    refine J_callV rfl rfl rfl rfl rfl e0 rfl rfl rfl rfl (m_arrives (x := 0) H (by rw [aset_at]; exact S)) (Nat.zero_le _) (Nat.zero_le _) (fun E h9 q => by cases q.1) (fun v9 h3 q => ?_)
    obtain ⟨q1, f3, H3, S3⟩ := q
    cases q1
    rw [aset_aset] at H3
    clear e0
    have e0 := H3.1.1
    repeat (first | (refine J_step rfl rfl ?_) | (refine J_getf rfl rfl rfl (by assumption) rfl ?_))
    refine J_callV rfl rfl rfl rfl rfl e0 rfl rfl rfl rfl (m_arrives (x := 1) H3 (by rw [aset_at]; exact S3)) (Nat.zero_le _) (Nat.zero_le _) (fun E h9 q => by cases q.1) (fun v9 h4 q => ?_)
    obtain ⟨q1, f4, H4, S4⟩ := q
    cases q1
    rw [aset_aset] at H4
    have hl0 := un_len (x := 0) (s := sPl G 0 / 4) l
    have hl1 := un_len (x := 1) (s := sPl G 1 / 4) (crUn 0 (sPl G 0 / 4) l)
    have hl20 : l.length ≤ 20 := S.2.2.2.2
    -- the line behind both arrivals
    have S4' : SI f4 (sl, fset (spA G l) 11 (G 11 + sp_j G l), spL G l, E, Jn) := by
      refine SI_F S4 (fun i hi => ?_)
      show fset (fset G 7 (G 7 + (nI l.length - nI (spL G l).length))) 11 (G 11 + (crMin 0 (sPl G 0 / 4) (G 0) l + crMin 1 (sPl G 1 / 4) (G 0) (crUn 0 (sPl G 0 / 4) l))) i = fset (fset (fset (fset G 11 (G 11 + crMin 0 (sPl G 0 / 4) (G 0) l)) 7 (G 7 + nI (l.length - (crUn 0 (sPl G 0 / 4) l).length))) 11 (G 11 + crMin 0 (sPl G 0 / 4) (G 0) l + crMin 1 (sPl G 1 / 4) (G 0) (crUn 0 (sPl G 0 / 4) l))) 7 (G 7 + nI (l.length - (crUn 0 (sPl G 0 / 4) l).length) + nI ((crUn 0 (sPl G 0 / 4) l).length - (crUn 1 (sPl G 1 / 4) (crUn 0 (sPl G 0 / 4) l)).length)) i
      have hs : (spL G l).length = (crUn 1 (sPl G 1 / 4) (crUn 0 (sPl G 0 / 4) l)).length := rfl
      rw [hs, nI_sub (by omega), Int32.add_assoc (G 7), nI_add, ← Int32.add_assoc (G 11), show l.length - (crUn 0 (sPl G 0 / 4) l).length + ((crUn 0 (sPl G 0 / 4) l).length - (crUn 1 (sPl G 1 / 4) (crUn 0 (sPl G 0 / 4) l)).length) = l.length - (crUn 1 (sPl G 1 / 4) (crUn 0 (sPl G 0 / 4) l)).length by omega]
      unfold fset
      by_cases z : i = 7
      · rw [if_pos z, if_pos z, if_neg (by omega)]
      · rw [if_neg z, if_neg z, if_neg z]
        by_cases z2 : i = 11
        · rw [if_pos z2, if_pos z2]
        · rw [if_neg z2, if_neg z2, if_neg z2]
    have hgu4 : gU (fset (spA G l) 11 (G 11 + sp_j G l)) := hgu
    clear e0
    have e0 := H4.1.1
    repeat (first | (refine J_step rfl rfl ?_) | (refine J_getf rfl rfl rfl (by assumption) rfl ?_))
    refine J_callV rfl rfl rfl rfl rfl e0 rfl rfl rfl rfl (m_boards (x := 0) H4 (by rw [aset_at]; exact S4') hgu4 (Or.inl rfl)) (Nat.zero_le _) (Nat.zero_le _) (fun E h9 q => by cases q.1) (fun v9 h5 q => ?_)
    obtain ⟨q1, f5, H5, S5⟩ := q
    cases q1
    rw [aset_aset] at H5
    have S5' : SI f5 (sl, fset (fset (spA G l) 11 (G 11 + sp_j G l)) 12 (sp_p0 G (uB G) l (G 12)).2, (sp_p0 G (uB G) l (G 12)).1, E, Jn) := S5
    clear e0
    have e0 := H5.1.1
    repeat (first | (refine J_step rfl rfl ?_) | (refine J_getf rfl rfl rfl (by assumption) rfl ?_))
    refine J_callV rfl rfl rfl rfl rfl e0 rfl rfl rfl rfl (m_boards (x := 1) (F := fset (fset (spA G l) 11 (G 11 + sp_j G l)) 12 (sp_p0 G (uB G) l (G 12)).2) H5 (by rw [aset_at]; exact S5') hgu4 (Or.inr rfl)) (Nat.zero_le _) (Nat.zero_le _) (fun E h9 q => by cases q.1) (fun v9 h6 q => ?_)
    obtain ⟨q1, f6, H6, S6⟩ := q
    cases q1
    rw [aset_aset] at H6
    have S6' : SI f6 (sl, fset (fset (fset (spA G l) 11 (G 11 + sp_j G l)) 12 (sp_p0 G (uB G) l (G 12)).2) 12 (sp_p1 G (uB G) l (G 12)).2, (sp_p1 G (uB G) l (G 12)).1, E, Jn) := S6
    refine J_vret rfl rfl rfl rfl ⟨rfl, f6, H6, SI_F S6' (fun i hi => ?_)⟩
    unfold fset
    by_cases z : i = 12
    · rw [if_pos z, if_pos z]
    · rw [if_neg z, if_neg z, if_neg z]
  refine JM_of gd_X6_stops rfl (by decide +kernel) (Nat.le_of_ble_eq_true rfl) (oj_cats rfl) (by decide) ?_
  repeat (first | (refine J_step rfl rfl ?_) | (refine J_getf rfl rfl rfl (by assumption) rfl ?_))
  refine J_cV rfl rfl rfl rfl rfl (by assumption) rfl rfl rfl rfl rfl rfl (m_isAtEnds (d := 0) H.1 S) ?_
  refine J_if (y := 0) rfl (fun hq => ?_) (fun hq => ?_)
  · have hb : sAtE F = false := bI_f hq
    refine part2 (A 0) h1 ?_ (by rw [aset_self]; exact H)
    unfold spF
    rw [hb]
    exact S
  · have hb : sAtE F = true := bI_t hq
    repeat (first | (refine J_step rfl rfl ?_) | (refine J_getf rfl rfl rfl (by assumption) rfl ?_))
    refine J_rs 5 rfl e1 rfl (by decide) (by decide) ((S.1 5 (by decide)).trans hu) ?_
    repeat (first | (refine J_step rfl rfl ?_) | (refine J_getf rfl rfl rfl (by assumption) rfl ?_))
    have hnot : 1 - bI (uB F) = bI (!uB F) := by cases uB F <;> rfl
    rw [hnot]
    refine J_ws 5 rfl e1 rfl (by decide) (by decide) ?_
    refine part2 (upd (A 0) 5 (bI (!uB F))) _ ?_ (H.s _)
    unfold spF
    rw [hb]
    exact SI_fld S (by decide)
set_option maxRecDepth 100000 in
set_option maxHeartbeats 2000000 in
theorem m_cools {d : Nat} {h h1 : AHp} {v : Nat → Int32} {A : Nat → Nat → Int32} {sl F : Nat → Int32} {l : List Row} {E Jn : Int64} {ht : Nat} (H : MdP h v A h1) (S : SI (A 0) (sl, F, l, E, Jn)) (h2 : F 2 = nI ht) (hh : ht ≤ 150) (h3 : F 3 = 1) : JM mi_X6_cools d 0 0 [.ref 121] h1 (fun r h' => r = .inl none ∧ ∃ f' : Nat → Int32, MdP h v (aset A 0 f') h' ∧ SI f' (sl, coolF F, l, E, Jn)) := by
  have e0 := H.1.1
  have e1 := H.1.2.1
  obtain ⟨x1, x2⟩ := ht_5 ht hh
  refine JM_of gd_X6_cools rfl (by decide +kernel) (Nat.le_of_ble_eq_true rfl) (oj_cats rfl) (by decide) ?_
  have part2 : ∀ (k1 : AHp), MdP h v (aset A 0 (upd (A 0) 2 (nI (ht - 5)))) k1 → J mi_X6_cools d 0 0 (fun r h' => r = .inl none ∧ ∃ f' : Nat → Int32, MdP h v (aset A 0 f') h' ∧ SI f' (sl, coolF F, l, E, Jn)) 0 0 28 [some (.ref 121)] [] k1 := by
    intro k1 K1
    have S1 : SI (upd (A 0) 2 (nI (ht - 5))) (sl, fset F 2 (nI (ht - 5)), l, E, Jn) := SI_fld S (by decide)
    generalize upd (A 0) 2 (nI (ht - 5)) = f1 at K1 S1
    have e0 := K1.1.1
    have e1 := K1.1.2.1
    rw [aset_at] at e1
    repeat (first | (refine J_step rfl rfl ?_) | (refine J_getf rfl rfl rfl (by assumption) rfl ?_))
    refine J_rs (w := nI (ht - 5)) 2 rfl e1 rfl (by decide) (by decide) (S1.1 2 (by decide)) ?_
    repeat (first | (refine J_step rfl rfl ?_) | (refine J_getf rfl rfl rfl (by assumption) rfl ?_))
    refine J_ic rfl (fun hq => ?_) (fun hq => ?_)
    · have hn : ¬ nI (ht - 5) ≤ 50 := Int32.not_le.mpr hq
      repeat (first | (refine J_step rfl rfl ?_) | (refine J_getf rfl rfl rfl (by assumption) rfl ?_))
      refine J_ws 3 rfl e1 rfl (by decide) (by decide) ?_
      have K2 := K1.s (upd f1 3 1)
      rw [aset_aset] at K2
      refine J_vret rfl rfl rfl rfl ⟨rfl, _, K2, SI_F (SI_fld (k := 3) (x := 1) S1 (by decide)) (fun i hi => ?_)⟩
      unfold coolF
      rw [h2, x1, if_neg hn]
      unfold fset
      by_cases z : i = 3
      · rw [if_pos z, if_neg (by omega), z, h3]
      · rw [if_neg z]
    · have hn : nI (ht - 5) ≤ 50 := Int32.not_lt.mp hq
      repeat (first | (refine J_step rfl rfl ?_) | (refine J_getf rfl rfl rfl (by assumption) rfl ?_))
      refine J_ws 3 rfl e1 rfl (by decide) (by decide) ?_
      have K2 := K1.s (upd f1 3 0)
      rw [aset_aset] at K2
      refine J_vret rfl rfl rfl rfl ⟨rfl, _, K2, SI_F (SI_fld (k := 3) (x := 0) S1 (by decide)) (fun i hi => ?_)⟩
      unfold coolF
      rw [h2, x1, if_pos hn]
  repeat (first | (refine J_step rfl rfl ?_) | (refine J_getf rfl rfl rfl (by assumption) rfl ?_))
  refine J_rs (w := nI ht) 2 rfl e1 rfl (by decide) (by decide) ((S.1 2 (by decide)).trans h2) ?_
  repeat (first | (refine J_step rfl rfl ?_) | (refine J_getf rfl rfl rfl (by assumption) rfl ?_))
  refine J_ic rfl (fun hq => ?_) (fun hq => ?_)
  · have h5 : 5 ≤ ht := (nI_leI (a := 5) (by omega) (by omega)).mp hq
    repeat (first | (refine J_step rfl rfl ?_) | (refine J_getf rfl rfl rfl (by assumption) rfl ?_))
    refine J_rs (w := nI ht) 2 rfl e1 rfl (by decide) (by decide) ((S.1 2 (by decide)).trans h2) ?_
    repeat (first | (refine J_step rfl rfl ?_) | (refine J_getf rfl rfl rfl (by assumption) rfl ?_))
    rw [show nI ht - 5 = nI (ht - 5) from nI_sub (b := 5) h5]
    refine J_ws 2 rfl e1 rfl (by decide) (by decide) ?_
    exact part2 _ (H.s _)
  · have h5 : ht < 5 := by
      rcases Nat.lt_or_ge ht 5 with z | z
      · exact z
      · exact absurd (show (5 : Int32) ≤ nI ht from nI_le (a := 5) z (by omega)) hq
    repeat (first | (refine J_step rfl rfl ?_) | (refine J_getf rfl rfl rfl (by assumption) rfl ?_))
    have e5 : (0 : Int32) = nI (ht - 5) := by rw [show ht - 5 = 0 by omega]; rfl
    rw [e5]
    refine J_ws 2 rfl e1 rfl (by decide) (by decide) ?_
    exact part2 _ (H.s _)
set_option maxRecDepth 100000 in
set_option maxHeartbeats 2000000 in
theorem m_spends {d : Nat} {h h1 : AHp} {v : Nat → Int32} {A : Nat → Nat → Int32} {sl F : Nat → Int32} {l : List Row} {E Jn : Int64} {x : Int32} {ht : Nat} (H : MdP h v A h1) (S : SI (A 0) (sl, F, l, E, Jn)) (h2 : F 2 = nI ht) (hh : ht ≤ 150) (h3 : F 3 = 0) : JM mi_X6_spends d 0 0 [.ref 121, .int x] h1 (fun r h' => r = .inl none ∧ ∃ f' : Nat → Int32, MdP h v (aset A 0 f') h' ∧ SI f' (sl, mvB F x, l, E, Jn)) := by
  have e0 := H.1.1
  have e1 := H.1.2.1
  refine JM_of gd_X6_spends rfl (by decide +kernel) (Nat.le_of_ble_eq_true rfl) (oj_cats rfl) (by decide) ?_
  repeat (first | (refine J_step rfl rfl ?_) | (refine J_getf rfl rfl rfl (by assumption) rfl ?_))
  refine J_if (y := 0) rfl (fun hq => ?_) (fun hq => ?_)
  · have hq : ¬ 0 ≤ x := Int32.not_le.mpr hq
    repeat (first | (refine J_step rfl rfl ?_) | (refine J_getf rfl rfl rfl (by assumption) rfl ?_))
    refine J_rs 2 rfl e1 rfl (by decide) (by decide) (S.1 2 (by decide)) ?_
    repeat (first | (refine J_step rfl rfl ?_) | (refine J_getf rfl rfl rfl (by assumption) rfl ?_))
    refine J_idiv rfl (by decide) ?_
    repeat (first | (refine J_step rfl rfl ?_) | (refine J_getf rfl rfl rfl (by assumption) rfl ?_))
    refine J_ws 2 rfl e1 rfl (by decide) (by decide) ?_
    have K1 := H.s (upd (A 0) 2 (F 2 + -x / 200))
    have S1 := SI_fld (k := 2) (x := F 2 + -x / 200) S (by decide)
    refine J_heap (h2 := oj_up h1 122 (.inl (0, 160, .inl (upd (A 0) 2 (F 2 + -x / 200))))) rfl ?_
    generalize oj_up h1 122 (.inl (0, 160, .inl (upd (A 0) 2 (F 2 + -x / 200)))) = k1 at K1 ⊢
    generalize upd (A 0) 2 (F 2 + -x / 200) = f1 at K1 S1
    clear e0 e1
    have e0 := K1.1.1
    have e1 := K1.1.2.1
    rw [aset_at] at e1
    repeat (first | (refine J_step rfl rfl ?_) | (refine J_getf rfl rfl rfl (by assumption) rfl ?_))
    refine J_rs (w := F 2 + -x / 200) 2 rfl e1 rfl (by decide) (by decide) (S1.1 2 (by decide)) ?_
    repeat (first | (refine J_step rfl rfl ?_) | (refine J_getf rfl rfl rfl (by assumption) rfl ?_))
    refine J_ic rfl (fun hq2 => ?_) (fun hq2 => ?_)
    · have hq2 : ¬ 100 ≤ F 2 + -x / 200 := Int32.not_le.mpr hq2
      repeat (first | (refine J_step rfl rfl ?_) | (refine J_getf rfl rfl rfl (by assumption) rfl ?_))
      refine J_ws 3 rfl e1 rfl (by decide) (by decide) ?_
      have K2 := K1.s (upd f1 3 0)
      rw [aset_aset] at K2
      refine J_vret rfl rfl rfl rfl ⟨rfl, _, K2, SI_F (SI_fld (k := 3) (x := 0) S1 (by decide)) (fun i hi => ?_)⟩
      unfold mvB
      rw [if_neg hq, if_neg hq2]
      unfold fset
      by_cases z : i = 3
      · rw [if_pos z, if_neg (by omega), z, h3]
      · rw [if_neg z]
    · have hq2 : 100 ≤ F 2 + -x / 200 := Int32.not_lt.mp hq2
      repeat (first | (refine J_step rfl rfl ?_) | (refine J_getf rfl rfl rfl (by assumption) rfl ?_))
      refine J_ws 3 rfl e1 rfl (by decide) (by decide) ?_
      have K2 := K1.s (upd f1 3 1)
      rw [aset_aset] at K2
      refine J_vret rfl rfl rfl rfl ⟨rfl, _, K2, SI_F (SI_fld (k := 3) (x := 1) S1 (by decide)) (fun i hi => ?_)⟩
      unfold mvB
      rw [if_neg hq, if_pos hq2]
  · have hq : 0 ≤ x := Int32.not_lt.mp hq
    repeat (first | (refine J_step rfl rfl ?_) | (refine J_getf rfl rfl rfl (by assumption) rfl ?_))
    refine J_rs 10 rfl e1 rfl (by decide) (by decide) (S.1 10 (by decide)) ?_
    repeat (first | (refine J_step rfl rfl ?_) | (refine J_getf rfl rfl rfl (by assumption) rfl ?_))
    refine J_idiv rfl (by decide) ?_
    repeat (first | (refine J_step rfl rfl ?_) | (refine J_getf rfl rfl rfl (by assumption) rfl ?_))
    refine J_ws 10 rfl e1 rfl (by decide) (by decide) ?_
    have K1 := H.s (upd (A 0) 10 (F 10 + x / 100))
    have S1 := SI_fld (k := 10) (x := F 10 + x / 100) S (by decide)
    refine J_heap (h2 := oj_up h1 122 (.inl (0, 160, .inl (upd (A 0) 10 (F 10 + x / 100))))) rfl ?_
    generalize oj_up h1 122 (.inl (0, 160, .inl (upd (A 0) 10 (F 10 + x / 100)))) = k1 at K1 ⊢
    generalize upd (A 0) 10 (F 10 + x / 100) = f1 at K1 S1
    clear e0 e1
    have e0 := K1.1.1
    have e1 := K1.1.2.1
    rw [aset_at] at e1
    have f2 : f1 2 = nI ht := (S1.1 2 (by decide)).trans h2
    have fin : ∀ y, y = nI (ht - 1) → J mi_X6_spends d 0 0 (fun r h' => r = .inl none ∧ ∃ f' : Nat → Int32, MdP h v (aset A 0 f') h' ∧ SI f' (sl, mvB F x, l, E, Jn)) 0 0 40 [some (.ref 121), some (.int x)] [.int y, .int 2, .ref 122] k1 := by
      intro y hy
      refine J_ws 2 rfl e1 rfl (by decide) (by decide) ?_
      have K2 := K1.s (upd f1 2 y)
      rw [aset_aset] at K2
      repeat (first | (refine J_step rfl rfl ?_) | (refine J_getf rfl rfl rfl (by assumption) rfl ?_))
      refine J_vret rfl rfl rfl rfl ⟨rfl, _, K2, SI_F (SI_fld (k := 2) (x := y) S1 (by decide)) (fun i hi => ?_)⟩
      unfold mvB
      rw [if_pos hq, h2, ht_1 ht hh, hy]
      unfold fset
      by_cases z : i = 2
      · rw [if_pos z, if_neg (by omega), if_pos z]
      · rw [if_neg z, if_neg z]
    repeat (first | (refine J_step rfl rfl ?_) | (refine J_getf rfl rfl rfl (by assumption) rfl ?_))
    refine J_rs (w := nI ht) 2 rfl e1 rfl (by decide) (by decide) f2 ?_
    repeat (first | (refine J_step rfl rfl ?_) | (refine J_getf rfl rfl rfl (by assumption) rfl ?_))
    refine J_rs (w := nI ht) 2 rfl e1 rfl (by decide) (by decide) f2 ?_
    refine J_if (y := 0) rfl (fun hq => ?_) (fun hq => ?_)
    · have h0 : ht = 0 := by
        rcases Nat.eq_zero_or_pos ht with z | z
        · exact z
        · exact absurd (show nI ht ≤ 0 from hq) (nI_nle z (by omega))
      repeat (first | (refine J_step rfl rfl ?_) | (refine J_getf rfl rfl rfl (by assumption) rfl ?_))
      exact fin _ (by rw [h0]; decide)
    · have h0 : 0 < ht := Nat.pos_of_ne_zero fun z => hq (by rw [z]; exact (show nI 0 ≤ 0 by decide))
      iterate 2 (refine J_step rfl rfl ?_)
      iterate 1 (refine J_step rfl rfl ?_)
      exact fin _ (nI_sub (b := 1) h0)
