theorem SI_F {f : Nat → Int32} {sl F F' : Nat → Int32} {l : List Row} {E Jn E' Jn' : Int64} (S : SI f (sl, F, l, E, Jn)) (h : ∀ i, i < 13 → F' i = F i) : SI f (sl, F', l, E', Jn') := ⟨fun i hi => (S.1 i hi).trans (h i hi).symm, S.2⟩
theorem rAt_mid {pre suf : List Row} {r : Row} : rAt (pre ++ r :: suf) pre.length = r := by
  unfold rAt
  rw [List.getD_eq_getElem?_getD, List.getElem?_append_right (Nat.le_refl _), Nat.sub_self]
  rfl
theorem erase_mid {pre suf : List Row} {r : Row} : (pre ++ r :: suf).eraseIdx pre.length = pre ++ suf := by
  rw [List.eraseIdx_append_of_length_le (Nat.le_refl _), Nat.sub_self]
  rfl
theorem app_mid {pre suf : List Row} {r : Row} : pre ++ r :: suf = (pre ++ [r]) ++ suf := by simp
theorem len_mid {pre suf : List Row} {r : Row} : (pre ++ r :: suf).length = pre.length + (suf.length + 1) := by rw [List.length_append]; rfl
set_option maxRecDepth 100000 in
set_option maxHeartbeats 2000000 in
theorem m_arrives {h h1 : AHp} {v : Nat → Int32} {A : Nat → Nat → Int32} {sl F : Nat → Int32} {l : List Row} {E Jn : Int64} {x : Int32} (H : MdP h v A h1) (S : SI (A 0) (sl, F, l, E, Jn)) : JM mi_X6_arrives 2 0 0 [.ref 121, .int x] h1 (fun r h' => r = .inl none ∧ ∃ f' : Nat → Int32, MdP h v (aset A 0 f') h' ∧ SI f' (sl, fset (fset F 11 (F 11 + crMin x (sPl F x / 4) (F 0) l)) 7 (F 7 + nI (l.length - (crUn x (sPl F x / 4) l).length)), crUn x (sPl F x / 4) l, E, Jn)) := by
  have e0 := H.1.1
  refine JM_of gd_X6_arrives rfl (by decide +kernel) (Nat.le_of_ble_eq_true rfl) (oj_cats rfl) (by decide) ?_
  repeat (first | (refine J_step rfl rfl ?_) | (refine J_getf rfl rfl rfl (by assumption) rfl ?_))
  refine J_cV rfl rfl rfl rfl rfl (by assumption) rfl rfl rfl rfl rfl rfl (m_placeOf (d := 0) H.1 S) ?_
  repeat (first | (refine J_step rfl rfl ?_) | (refine J_getf rfl rfl rfl (by assumption) rfl ?_))
  refine J_idiv rfl (by decide) ?_
  generalize sPl F x / 4 = s
  have loop : ∀ (Q : QT) (suf pre : List Row) (a b : Int32) (f : Nat → Int32) (h2 : AHp), SI f (sl, fset (fset F 11 a) 7 b, pre ++ suf, E, Jn) → MdP h v (aset A 0 f) h2 → (∀ f' h', MdP h v (aset A 0 f') h' → SI f' (sl, fset (fset F 11 (a + crMin x s (F 0) suf)) 7 (b + nI (suf.length - (crUn x s suf).length)), pre ++ crUn x s suf, E, Jn) → Q (.inl none) h') → J mi_X6_arrives 2 0 0 Q 0 0 10 [some (.ref 121), some (.int x), some (.int s), some (.int (nI pre.length))] [] h2 := by
    intro Q suf
    induction suf with
    | nil =>
      intro pre a b f h2 S H kk
      have e0 := H.1.1
      have e1 := H.1.2.1
      rw [aset_at] at e1
      have hl : (pre ++ []).length ≤ 20 := S.2.2.2.2
      rw [List.append_nil] at hl
      have e13 : f 13 = nI pre.length := by have := S.2.1; rw [show (sl, fset (fset F 11 a) 7 b, pre ++ [], E, Jn).2.2.1 = pre from List.append_nil _] at this; exact this
      repeat (first | (refine J_step rfl rfl ?_) | (refine J_getf rfl rfl rfl (by assumption) rfl ?_))
      refine J_rs 13 rfl e1 rfl (by decide) (by decide) e13 ?_
      refine J_ic rfl (fun _ => ?_) (fun hq => absurd (Int32.le_refl _) hq)
      refine J_vret rfl rfl rfl rfl (kk f h2 H ?_)
      show SI f (sl, fset (fset F 11 (a + 0)) 7 (b + 0), pre ++ [], E, Jn)
      rw [Int32.add_zero, Int32.add_zero]
      exact S
    | cons r suf ih =>
      intro pre a b f h2 S H kk
      have e0 := H.1.1
      have e1 := H.1.2.1
      rw [aset_at] at e1
      have hl : (pre ++ r :: suf).length ≤ 20 := S.2.2.2.2
      have hlt : pre.length < (pre ++ r :: suf).length := by rw [len_mid]; omega
      rw [len_mid] at hl
      have S' : SI (aset A 0 f 0) (sl, fset (fset F 11 a) 7 b, pre ++ r :: suf, E, Jn) := by rw [aset_at]; exact S
      repeat (first | (refine J_step rfl rfl ?_) | (refine J_getf rfl rfl rfl (by assumption) rfl ?_))
      refine J_rs 13 rfl e1 rfl (by decide) (by decide) S.2.1 ?_
      refine J_ic rfl (fun hq => absurd hq (nI_ge hlt (by show (pre ++ r :: suf).length < _; rw [len_mid]; omega))) (fun _ => ?_)
      repeat (first | (refine J_step rfl rfl ?_) | (refine J_getf rfl rfl rfl (by assumption) rfl ?_))
      refine J_cV rfl rfl rfl rfl rfl (by assumption) rfl rfl rfl rfl rfl rfl (m_of (d := 0) (w := 4) H.1 S' hlt (by decide)) ?_
      rw [show (sl, fset (fset F 11 a) 7 b, pre ++ r :: suf, E, Jn).2.2.1 = pre ++ r :: suf from rfl, rAt_mid]
      have skip : crDn x s r = false → J mi_X6_arrives 2 0 0 Q 0 0 86 [some (.ref 121), some (.int x), some (.int s), some (.int (nI pre.length))] [] h2 := by
        intro hd
        have hs := ih (pre ++ [r]) a b f h2 (by rw [← app_mid]; exact S) H (fun f' h' H' S' => kk f' h' H' (by
          have hun : crUn x s (r :: suf) = r :: crUn x s suf := by unfold crUn; rw [List.filter_cons_of_pos (by simp [hd])]
          have hle := un_len (x := x) (s := s) suf
          rw [hun, crMin, if_neg (by rw [hd]; decide), Int32.zero_add, app_mid, List.length_cons, List.length_cons, show suf.length + 1 - ((crUn x s suf).length + 1) = suf.length - (crUn x s suf).length by omega]
          exact S'))
        rw [List.length_append, show [r].length = 1 from rfl, nI_succ] at hs
        iterate 2 (first | (refine J_step rfl rfl ?_) | (refine J_getf rfl rfl rfl (by assumption) rfl ?_))
        exact hs
      repeat (first | (refine J_step rfl rfl ?_) | (refine J_getf rfl rfl rfl (by assumption) rfl ?_))
      refine J_ic rfl (fun hq => ?_) (fun hq => ?_)
      · have hq : ¬ r.2.2.2.2.2.1 = x := fun z => hq (add1_inj.mpr z)
        exact skip (by simp [crDn, hq])
      have hq : r.2.2.2.2.2.1 = x := add1_inj.mp (Classical.not_not.mp hq)
      repeat (first | (refine J_step rfl rfl ?_) | (refine J_getf rfl rfl rfl (by assumption) rfl ?_))
      refine J_cV rfl rfl rfl rfl rfl (by assumption) rfl rfl rfl rfl rfl rfl (m_of (d := 0) (w := 3) H.1 S' hlt (by decide)) ?_
      rw [show (sl, fset (fset F 11 a) 7 b, pre ++ r :: suf, E, Jn).2.2.1 = pre ++ r :: suf from rfl, rAt_mid]
      repeat (first | (refine J_step rfl rfl ?_) | (refine J_getf rfl rfl rfl (by assumption) rfl ?_))
      refine J_ic rfl (fun hq2 => ?_) (fun hq2 => ?_)
      · have hq2 : ¬ r.2.2.2.1 = s := hq2
        exact skip (by simp [crDn, hq2])
      have hq2 : r.2.2.2.1 = s := Classical.not_not.mp hq2
      have hd : crDn x s r = true := by simp [crDn, hq, hq2]
      repeat (first | (refine J_step rfl rfl ?_) | (refine J_getf rfl rfl rfl (by assumption) rfl ?_))
      refine J_rs (w := a) 11 rfl e1 rfl (by decide) (by decide) (S.1 11 (by decide)) ?_
      repeat (first | (refine J_step rfl rfl ?_) | (refine J_getf rfl rfl rfl (by assumption) rfl ?_))
      refine J_rs (w := F 0) 0 rfl e1 rfl (by decide) (by decide) (S.1 0 (by decide)) ?_
      repeat (first | (refine J_step rfl rfl ?_) | (refine J_getf rfl rfl rfl (by assumption) rfl ?_))
      refine J_cV rfl rfl rfl rfl rfl (by assumption) rfl rfl rfl rfl rfl rfl (m_of (d := 0) (w := 6) H.1 S' hlt (by decide)) ?_
      rw [show (sl, fset (fset F 11 a) 7 b, pre ++ r :: suf, E, Jn).2.2.1 = pre ++ r :: suf from rfl, rAt_mid]
      repeat (first | (refine J_step rfl rfl ?_) | (refine J_getf rfl rfl rfl (by assumption) rfl ?_))
      refine J_ws 11 rfl e1 rfl (by decide) (by decide) ?_
      have K1 := H.s (upd f 11 (a + (F 0 - mRow r 6)))
      rw [aset_aset] at K1
      have S1 := SI_fld (k := 11) (x := a + (F 0 - mRow r 6)) S (by decide)
      refine J_heap (h2 := oj_up h2 122 (.inl (0, 160, .inl (upd f 11 (a + (F 0 - mRow r 6)))))) rfl ?_
      generalize oj_up h2 122 (.inl (0, 160, .inl (upd f 11 (a + (F 0 - mRow r 6))))) = k1 at K1 ⊢
      generalize upd f 11 (a + (F 0 - mRow r 6)) = f1 at K1 S1
      clear e0 e1
      have e0 := K1.1.1
      have e1 := K1.1.2.1
      rw [aset_at] at e1
      repeat (first | (refine J_step rfl rfl ?_) | (refine J_getf rfl rfl rfl (by assumption) rfl ?_))
      refine J_rs (w := b) 7 rfl e1 rfl (by decide) (by decide) (S1.1 7 (by decide)) ?_
      repeat (first | (refine J_step rfl rfl ?_) | (refine J_getf rfl rfl rfl (by assumption) rfl ?_))
      refine J_ws 7 rfl e1 rfl (by decide) (by decide) ?_
      have K2 := K1.s (upd f1 7 (b + 1))
      rw [aset_aset] at K2
      have S2 := SI_fld (k := 7) (x := b + 1) S1 (by decide)
      refine J_heap (h2 := oj_up k1 122 (.inl (0, 160, .inl (upd f1 7 (b + 1))))) rfl ?_
      generalize oj_up k1 122 (.inl (0, 160, .inl (upd f1 7 (b + 1)))) = k2 at K2 ⊢
      generalize upd f1 7 (b + 1) = f2 at K2 S2
      clear e0 e1
      have e0 := K2.1.1
      repeat (first | (refine J_step rfl rfl ?_) | (refine J_getf rfl rfl rfl (by assumption) rfl ?_))
      refine J_callV rfl rfl rfl rfl rfl e0 rfl rfl rfl rfl (m_goes (n := (pre ++ r :: suf).length) K2 (by rw [aset_at]; exact S2.2.1) hlt (by rw [len_mid]; omega)) (Nat.zero_le _) (Nat.zero_le _) (fun E h9 q => by cases q.1) (fun v9 h5 q => ?_)
      obtain ⟨q1, K3⟩ := q
      cases q1
      rw [aset_aset, aset_at] at K3
      have S3 := SI_go S2 hlt
      rw [erase_mid] at S3
      have hs := ih pre (a + (F 0 - mRow r 6)) (b + 1) _ h5 (SI_F S3 (fun i _ => by
        unfold fset
        by_cases z : i = 7
        · rw [if_pos z, if_pos z]
        · rw [if_neg z, if_neg z]
          by_cases z2 : i = 11
          · rw [if_pos z2, if_pos z2]
          · rw [if_neg z2, if_neg z2, if_neg z, if_neg z2])) K3 (fun f' h' H' S' => kk f' h' H' (by
          have hun : crUn x s (r :: suf) = crUn x s suf := by unfold crUn; rw [List.filter_cons_of_neg (by simp [hd])]
          have hle := un_len (x := x) (s := s) suf
          rw [hun, crMin, if_pos hd, List.length_cons, show suf.length + 1 - (crUn x s suf).length = 1 + (suf.length - (crUn x s suf).length) by omega, ← nI_add, ← Int32.add_assoc, ← Int32.add_assoc]
          exact S'))
      iterate 1 (first | (refine J_step rfl rfl ?_) | (refine J_getf rfl rfl rfl (by assumption) rfl ?_))
      exact hs
  iterate 3 (first | (refine J_step rfl rfl ?_) | (refine J_getf rfl rfl rfl (by assumption) rfl ?_))
  refine loop _ l [] (F 11) (F 7) (A 0) h1 ?_ (by rw [aset_self]; exact H) (fun f' h' H' S' => ⟨rfl, f', H', S'⟩)
  refine SI_F S (fun i _ => ?_)
  unfold fset
  by_cases z : i = 7
  · rw [if_pos z, z]
  · rw [if_neg z]
    by_cases z2 : i = 11
    · rw [if_pos z2, z2]
    · rw [if_neg z2]
theorem SI_row {f g : Nat → Int32} {sl F : Nat → Int32} {pre suf : List Row} {r r' : Row} {E Jn : Int64} (S : SI f (sl, F, pre ++ r :: suf, E, Jn)) (h1 : ∀ i, (i < 20 + 7 * pre.length ∨ 20 + 7 * pre.length + 7 ≤ i) → g i = f i) (h2 : ∀ w, w < 7 → g (20 + 7 * pre.length + w) = mRow r' w) : SI g (sl, F, pre ++ r' :: suf, E, Jn) := by
  obtain ⟨s1, s2, s3, s4, s5⟩ := S
  have hlen : (pre ++ r' :: suf).length = (pre ++ r :: suf).length := by rw [len_mid, len_mid]
  refine ⟨fun i hi => (h1 i (by omega)).trans (s1 i hi), ?_, fun k hk => (h1 _ (by omega)).trans (s3 k hk), fun j hj w hw => ?_, ?_⟩
  · show g 13 = nI (pre ++ r' :: suf).length
    rw [hlen]
    exact (h1 13 (by omega)).trans s2
  · have hj : j < (pre ++ r' :: suf).length := hj
    show g (20 + 7 * j + w) = mRow (rAt (pre ++ r' :: suf) j) w
    by_cases e : j = pre.length
    · subst e
      rw [rAt_mid]
      exact h2 w hw
    · rw [h1 _ (by omega)]
      have := s4 j (by show j < (pre ++ r :: suf).length; omega) w hw
      have he : rAt (pre ++ r' :: suf) j = rAt (pre ++ r :: suf) j := by
        unfold rAt
        rw [List.getD_eq_getElem?_getD, List.getD_eq_getElem?_getD]
        rcases Nat.lt_or_ge j pre.length with z | z
        · rw [List.getElem?_append_left z, List.getElem?_append_left z]
        · rw [List.getElem?_append_right z, List.getElem?_append_right z]
          obtain ⟨m, hm⟩ : ∃ m, j - pre.length = m + 1 := ⟨j - pre.length - 1, by omega⟩
          rw [hm, List.getElem?_cons_succ, List.getElem?_cons_succ]
      rw [he]
      exact this
  · show (pre ++ r' :: suf).length ≤ 20
    rw [hlen]
    exact s5
