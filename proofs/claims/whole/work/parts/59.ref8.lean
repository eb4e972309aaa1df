set_option maxRecDepth 100000 in
set_option maxHeartbeats 2000000 in
theorem m_boards {h h1 : AHp} {v : Nat → Int32} {A : Nat → Nat → Int32} {sl F : Nat → Int32} {l : List Row} {E Jn : Int64} {x : Int32} (H : MdP h v A h1) (S : SI (A 0) (sl, F, l, E, Jn)) (hu : gU F) (hx : x = 0 ∨ x = 1) : JM mi_X6_boards 2 0 0 [.ref 121, .int x] h1 (fun r h' => r = .inl none ∧ ∃ f' : Nat → Int32, MdP h v (aset A 0 f') h' ∧ SI f' (sl, fset F 12 (crLd x (sPl F x / 4) (F 1) (sUp (uB F) x) (crRid l x) (F 12) l).2, (crLd x (sPl F x / 4) (F 1) (sUp (uB F) x) (crRid l x) (F 12) l).1, E, Jn)) := by
  have e0 := H.1.1
  have hxn := i32_01 hx
  refine JM_of gd_X6_boards rfl (by decide +kernel) (Nat.le_of_ble_eq_true rfl) (oj_cats rfl) (by decide) ?_
  repeat (first | (refine J_step rfl rfl ?_) | (refine J_getf rfl rfl rfl (by assumption) rfl ?_))
  refine J_cV rfl rfl rfl rfl rfl (by assumption) rfl rfl rfl rfl rfl rfl (m_placeOf (d := 0) H.1 S) ?_
  repeat (first | (refine J_step rfl rfl ?_) | (refine J_getf rfl rfl rfl (by assumption) rfl ?_))
  refine J_idiv rfl (by decide) ?_
  show J mi_X6_boards 2 0 0 _ 0 0 7 _ [.int (sPl F x / 4)] h1
  generalize sPl F x / 4 = s
  have loop : ∀ (Q : QT) (suf pre : List Row) (nb : Int32) (f : Nat → Int32) (h2 : AHp) (z4 z5 : Option Value), SI f (sl, fset F 12 nb, pre ++ suf, E, Jn) → MdP h v (aset A 0 f) h2 → (∀ f' h', MdP h v (aset A 0 f') h' → SI f' (sl, fset F 12 (crLd x s (F 1) (sUp (uB F) x) (crRid (pre ++ suf) x) nb suf).2, pre ++ (crLd x s (F 1) (sUp (uB F) x) (crRid (pre ++ suf) x) nb suf).1, E, Jn) → Q (.inl none) h') → J mi_X6_boards 2 0 0 Q 0 0 10 [some (.ref 121), some (.int x), some (.int s), some (.int (nI pre.length)), z4, z5] [] h2 := by
    intro Q suf
    induction suf with
    | nil =>
      intro pre nb f h2 z4 z5 S H kk
      have e0 := H.1.1
      have e1 := H.1.2.1
      rw [aset_at] at e1
      have hl : (pre ++ []).length ≤ 20 := S.2.2.2.2
      rw [List.append_nil] at hl
      have e13 : f 13 = nI pre.length := by have := S.2.1; rw [show (sl, fset F 12 nb, pre ++ [], E, Jn).2.2.1 = pre from List.append_nil _] at this; exact this
      repeat (first | (refine J_step rfl rfl ?_) | (refine J_getf rfl rfl rfl (by assumption) rfl ?_))
      refine J_rs 13 rfl e1 rfl (by decide) (by decide) e13 ?_
      refine J_ic rfl (fun _ => ?_) (fun hq => absurd (Int32.le_refl _) hq)
      exact J_vret rfl rfl rfl rfl (kk f h2 H S)
    | cons r suf ih =>
      intro pre nb f h2 z4 z5 S H kk
      have e0 := H.1.1
      have e1 := H.1.2.1
      rw [aset_at] at e1
      have hl : (pre ++ r :: suf).length ≤ 20 := S.2.2.2.2
      have hlt : pre.length < (pre ++ r :: suf).length := by rw [len_mid]; omega
      rw [len_mid] at hl
      have S' : SI (aset A 0 f 0) (sl, fset F 12 nb, pre ++ r :: suf, E, Jn) := by rw [aset_at]; exact S
      have hu' : gU (fset F 12 nb) := hu
      have hl2 : (sl, fset F 12 nb, pre ++ r :: suf, E, Jn).2.2.1 = pre ++ r :: suf := rfl
      repeat (first | (refine J_step rfl rfl ?_) | (refine J_getf rfl rfl rfl (by assumption) rfl ?_))
      refine J_rs 13 rfl e1 rfl (by decide) (by decide) S.2.1 ?_
      refine J_ic rfl (fun hq => absurd hq (nI_ge hlt (by show (pre ++ r :: suf).length < _; rw [len_mid]; omega))) (fun _ => ?_)
      repeat (first | (refine J_step rfl rfl ?_) | (refine J_getf rfl rfl rfl (by assumption) rfl ?_))
      refine J_cV rfl rfl rfl rfl rfl (by assumption) rfl rfl rfl rfl rfl rfl (m_of (d := 0) (w := 4) H.1 S' hlt (by decide)) ?_
      rw [hl2, rAt_mid]
      -- the end of a turn of the loop
      have keep : (decide (nI (crRid (pre ++ r :: suf) x) < F 1) && (crW s r && crAh (sUp (uB F) x) s r)) = false → ∀ z4 z5, J mi_X6_boards 2 0 0 Q 0 0 147 [some (.ref 121), some (.int x), some (.int s), some (.int (nI pre.length)), z4, z5] [] h2 := by
        intro hn z4 z5
        have hs := fun z4 z5 => ih (pre ++ [r]) nb f h2 z4 z5 (by rw [← app_mid]; exact S) H (fun f' h' H' S' => kk f' h' H' (by
          rw [crLd, if_neg (by rw [hn]; decide)]
          simp only [List.append_assoc, List.cons_append, List.nil_append] at S'
          exact S'))
        rw [List.length_append, show [r].length = 1 from rfl, nI_succ] at hs
        iterate 2 (first | (refine J_step rfl rfl ?_) | (refine J_getf rfl rfl rfl (by assumption) rfl ?_))
        exact hs _ _
      have part3 : ∀ bw bo : Bool, bw = crW s r → bo = crAh (sUp (uB F) x) s r → J mi_X6_boards 2 0 0 Q 0 0 90 [some (.ref 121), some (.int x), some (.int s), some (.int (nI pre.length)), some (.int (bI bw)), some (.int (bI bo))] [] h2 := by
        intro bw bo hbw hbo
        repeat (first | (refine J_step rfl rfl ?_) | (refine J_getf rfl rfl rfl (by assumption) rfl ?_))
        refine J_if (y := 0) rfl (fun hq => ?_) (fun hq => ?_)
        · exact keep (by rw [← hbw, bI_f hq]; simp) _ _
        have hw := bI_t hq
        repeat (first | (refine J_step rfl rfl ?_) | (refine J_getf rfl rfl rfl (by assumption) rfl ?_))
        refine J_if (y := 0) rfl (fun hq2 => ?_) (fun hq2 => ?_)
        · exact keep (by rw [← hbo, bI_f hq2]; simp) _ _
        have ho := bI_t hq2
        repeat (first | (refine J_step rfl rfl ?_) | (refine J_getf rfl rfl rfl (by assumption) rfl ?_))
        refine J_cV rfl rfl rfl rfl rfl (by assumption) rfl rfl rfl rfl rfl rfl (m_inCabin H.1 S') ?_
        rw [hl2]
        repeat (first | (refine J_step rfl rfl ?_) | (refine J_getf rfl rfl rfl (by assumption) rfl ?_))
        refine J_rs (w := F 1) 1 rfl e1 rfl (by decide) (by decide) (S.1 1 (by decide)) ?_
        refine J_ic rfl (fun hq3 => ?_) (fun hq3 => ?_)
        · have hq3 : ¬ nI (crRid (pre ++ r :: suf) x) < F 1 := Int32.not_lt.mpr hq3
          exact keep (by simp [hq3]) _ _
        have hq3 : nI (crRid (pre ++ r :: suf) x) < F 1 := Int32.not_le.mp hq3
        have hcond : (decide (nI (crRid (pre ++ r :: suf) x) < F 1) && (crW s r && crAh (sUp (uB F) x) s r)) = true := by rw [← hbw, ← hbo, hw, ho]; simp [hq3]
        have hwait : r.2.2.2.2.2.1 = -1 := by
          have hw2 := hbw.symm.trans hw
          unfold crW at hw2
          simp only [Bool.and_eq_true, beq_iff_eq] at hw2
          exact hw2.1
        clear keep
        repeat (first | (refine J_step rfl rfl ?_) | (refine J_getf rfl rfl rfl (by assumption) rfl ?_))
        refine J_callV rfl rfl rfl rfl rfl e0 rfl rfl rfl rfl (m_sets (d := 0) (j := pre.length) (w := 4) (x := x + 1) H (by omega) (by decide)) (Nat.zero_le _) (Nat.zero_le _) (fun E h9 q => by cases q.1) (fun v9 k1 q => ?_)
        obtain ⟨q1, K1⟩ := q
        cases q1
        rw [aset_aset, aset_at] at K1
        clear e0 e1
        have e0 := K1.1.1
        have e1 := K1.1.2.1
        rw [aset_at] at e1
        repeat (first | (refine J_step rfl rfl ?_) | (refine J_getf rfl rfl rfl (by assumption) rfl ?_))
        refine J_rs (w := nb) 12 rfl e1 rfl (by decide) (by decide) ((upd_ne (by omega)).trans (S.1 12 (by decide))) ?_
        refine J_callV rfl rfl rfl rfl rfl e0 rfl rfl rfl rfl (m_sets (d := 0) (j := pre.length) (w := 5) (x := nb) K1 (by omega) (by decide)) (Nat.zero_le _) (Nat.zero_le _) (fun E h9 q => by cases q.1) (fun v9 k2 q => ?_)
        obtain ⟨q1, K2⟩ := q
        cases q1
        rw [aset_aset, aset_at] at K2
        have S2 : SI (upd (upd f (20 + 7 * pre.length + 4) (x + 1)) (20 + 7 * pre.length + 5) nb) (sl, fset F 12 nb, pre ++ (r.1, r.2.1, r.2.2.1, r.2.2.2.1, r.2.2.2.2.1, x, nb) :: suf, E, Jn) := by
          refine SI_row S (fun i hi => ?_) (fun w hw => ?_)
          · rw [upd_ne (by omega), upd_ne (by omega)]
          · have h0 := S.2.2.2.1 pre.length hlt w hw
            rw [hl2, rAt_mid] at h0
            match w, hw with
            | 0, _ => rw [upd_ne (by omega), upd_ne (by omega)]; exact h0
            | 1, _ => rw [upd_ne (by omega), upd_ne (by omega)]; exact h0
            | 2, _ => rw [upd_ne (by omega), upd_ne (by omega)]; exact h0
            | 3, _ => rw [upd_ne (by omega), upd_ne (by omega)]; exact h0
            | 4, _ => rw [upd_ne (by omega), upd_at]; rfl
            | 5, _ => rw [upd_at]; rfl
            | 6, _ => rw [upd_ne (by omega), upd_ne (by omega)]; exact h0
        generalize upd (upd f (20 + 7 * pre.length + 4) (x + 1)) (20 + 7 * pre.length + 5) nb = f2 at K2 S2
        clear e0 e1
        have e0 := K2.1.1
        have e1 := K2.1.2.1
        rw [aset_at] at e1
        repeat (first | (refine J_step rfl rfl ?_) | (refine J_getf rfl rfl rfl (by assumption) rfl ?_))
        refine J_rs (w := nb) 12 rfl e1 rfl (by decide) (by decide) (S2.1 12 (by decide)) ?_
        repeat (first | (refine J_step rfl rfl ?_) | (refine J_getf rfl rfl rfl (by assumption) rfl ?_))
        refine J_ws 12 rfl e1 rfl (by decide) (by decide) ?_
        have K3 := K2.s (upd f2 12 (nb + 1))
        rw [aset_aset] at K3
        have S3 := SI_fld (k := 12) (x := nb + 1) S2 (by decide)
        have hcnt : crRid (pre ++ [(r.1, r.2.1, r.2.2.1, r.2.2.2.1, r.2.2.2.2.1, x, nb)] ++ suf) x = crRid (pre ++ r :: suf) x + 1 := by
          unfold crRid
          rw [← app_mid, List.countP_append, List.countP_append, List.countP_cons, List.countP_cons, if_pos (by simp), if_neg (by simp [hwait]; exact fun z => hxn z.symm)]
          omega
        have hs := fun z4 z5 => ih (pre ++ [(r.1, r.2.1, r.2.2.1, r.2.2.2.1, r.2.2.2.2.1, x, nb)]) (nb + 1) (upd f2 12 (nb + 1)) _ z4 z5 (by
          rw [← app_mid]
          exact SI_F S3 (fun i _ => by
            unfold fset
            by_cases z : i = 12
            · rw [if_pos z, if_pos z]
            · rw [if_neg z, if_neg z, if_neg z])) K3 (fun f' h' H' S' => kk f' h' H' (by
          rw [hcnt] at S'
          rw [crLd, if_pos hcond]
          simp only [List.append_assoc, List.cons_append, List.nil_append] at S'
          exact S'))
        rw [List.length_append, show [(r.1, r.2.1, r.2.2.1, r.2.2.2.1, r.2.2.2.2.1, x, nb)].length = 1 from rfl, nI_succ] at hs
        iterate 2 (first | (refine J_step rfl rfl ?_) | (refine J_getf rfl rfl rfl (by assumption) rfl ?_))
        exact hs _ _
      have part2 : ∀ bw : Bool, bw = crW s r → ∀ z5, J mi_X6_boards 2 0 0 Q 0 0 47 [some (.ref 121), some (.int x), some (.int s), some (.int (nI pre.length)), some (.int (bI bw)), z5] [] h2 := by
        intro bw hbw z5
        repeat (first | (refine J_step rfl rfl ?_) | (refine J_getf rfl rfl rfl (by assumption) rfl ?_))
        refine J_cV rfl rfl rfl rfl rfl (by assumption) rfl rfl rfl rfl rfl rfl (m_up (d := 0) H.1 S' hu') ?_
        have hub : uB (fset F 12 nb) = uB F := rfl
        refine J_if (y := 0) rfl (fun hq => ?_) (fun hq => ?_)
        · have hup : sUp (uB F) x = false := bI_f hq
          repeat (first | (refine J_step rfl rfl ?_) | (refine J_getf rfl rfl rfl (by assumption) rfl ?_))
          refine J_cV rfl rfl rfl rfl rfl (by assumption) rfl rfl rfl rfl rfl rfl (m_of (d := 0) (w := 3) H.1 S' hlt (by decide)) ?_
          rw [hl2, rAt_mid]
          repeat (first | (refine J_step rfl rfl ?_) | (refine J_getf rfl rfl rfl (by assumption) rfl ?_))
          refine J_ic rfl (fun hq2 => ?_) (fun hq2 => ?_)
          · have hq2 : ¬ r.2.2.2.1 < s := Int32.not_lt.mpr hq2
            iterate 2 (first | (refine J_step rfl rfl ?_) | (refine J_getf rfl rfl rfl (by assumption) rfl ?_))
            exact part3 bw false hbw (by rw [hup]; simp [crAh, hq2])
          · have hq2 : r.2.2.2.1 < s := Int32.not_le.mp hq2
            iterate 3 (first | (refine J_step rfl rfl ?_) | (refine J_getf rfl rfl rfl (by assumption) rfl ?_))
            exact part3 bw true hbw (by rw [hup]; simp [crAh, hq2])
        · have hup : sUp (uB F) x = true := bI_t hq
          repeat (first | (refine J_step rfl rfl ?_) | (refine J_getf rfl rfl rfl (by assumption) rfl ?_))
          refine J_cV rfl rfl rfl rfl rfl (by assumption) rfl rfl rfl rfl rfl rfl (m_of (d := 0) (w := 3) H.1 S' hlt (by decide)) ?_
          rw [hl2, rAt_mid]
          repeat (first | (refine J_step rfl rfl ?_) | (refine J_getf rfl rfl rfl (by assumption) rfl ?_))
          refine J_ic rfl (fun hq2 => ?_) (fun hq2 => ?_)
          · have hq2 : ¬ s < r.2.2.2.1 := Int32.not_lt.mpr hq2
            iterate 3 (first | (refine J_step rfl rfl ?_) | (refine J_getf rfl rfl rfl (by assumption) rfl ?_))
            exact part3 bw false hbw (by rw [hup]; simp [crAh, hq2])
          · have hq2 : s < r.2.2.2.1 := Int32.not_le.mp hq2
            iterate 3 (first | (refine J_step rfl rfl ?_) | (refine J_getf rfl rfl rfl (by assumption) rfl ?_))
            exact part3 bw true hbw (by rw [hup]; simp [crAh, hq2])
      refine J_if (y := 0) rfl (fun hq => ?_) (fun hq => ?_)
      · have hq : ¬ r.2.2.2.2.2.1 = -1 := fun z => hq (by show r.2.2.2.2.2.1 + 1 = 0; rw [z]; rfl)
        iterate 2 (first | (refine J_step rfl rfl ?_) | (refine J_getf rfl rfl rfl (by assumption) rfl ?_))
        exact part2 false (by simp [crW, hq]) _
      · have hq : r.2.2.2.2.2.1 = -1 := add1_inj.mp ((show r.2.2.2.2.2.1 + 1 = 0 from Classical.not_not.mp hq).trans (by decide))
        repeat (first | (refine J_step rfl rfl ?_) | (refine J_getf rfl rfl rfl (by assumption) rfl ?_))
        refine J_cV rfl rfl rfl rfl rfl (by assumption) rfl rfl rfl rfl rfl rfl (m_of (d := 0) (w := 2) H.1 S' hlt (by decide)) ?_
        rw [hl2, rAt_mid]
        repeat (first | (refine J_step rfl rfl ?_) | (refine J_getf rfl rfl rfl (by assumption) rfl ?_))
        refine J_ic rfl (fun hq2 => ?_) (fun hq2 => ?_)
        · have hq2 : ¬ r.2.2.1 = s := hq2
          iterate 2 (first | (refine J_step rfl rfl ?_) | (refine J_getf rfl rfl rfl (by assumption) rfl ?_))
          exact part2 false (by simp [crW, hq2]) _
        · have hq2 : r.2.2.1 = s := Classical.not_not.mp hq2
          iterate 3 (first | (refine J_step rfl rfl ?_) | (refine J_getf rfl rfl rfl (by assumption) rfl ?_))
          exact part2 true (by simp [crW, hq, hq2]) _
  iterate 3 (first | (refine J_step rfl rfl ?_) | (refine J_getf rfl rfl rfl (by assumption) rfl ?_))
  refine loop _ l [] (F 12) (A 0) h1 _ _ ?_ (by rw [aset_self]; exact H) (fun f' h' H' S' => ⟨rfl, f', H', S'⟩)
  rw [fset_self]
  exact S
